def nu_Fr (h0 q1 : Nat) : Nat → Nat := fun j => if j = 0 then h0 else q1
set_option maxHeartbeats 4000000 in
set_option maxRecDepth 100000 in
theorem nc_Fr (l : Launch) (D : va_G) (cI cJ cF cZ : ClassId) (h0 : Nat) (sz : Nat) : Met l y_Fr_init (qa_ws y_Fr_init b_Fr_init 1 none) { frames := 1, cells := 1, slots := 10, locals := 12 } (va_Pc [.ref h0] (qn_Pre D (qa_ty cI cJ cF cZ) [(h0, .inr (5, [.null, .int 0, .int 0]))] sz)) (va_Qv (fun u => u 0 = h0) (fun u t => va_P D qa_cl (qn_fr cI u) t.heap ∧ va_D (va_A [(h0, .inr (5, [.null, .int 0, .int 0]))] sz) (qn_fr cI u)) (va_A [(h0, .inr (5, [.null, .int 0, .int 0]))] sz)) 1 10 (va_A [(h0, .inr (5, [.null, .int 0, .int 0]))] sz) := by
  refine qn_met (post := fun u => u 0 = h0) (wf := fun u => qn_fr cI u) (by decide) rfl (Nat.le_of_ble_eq_true rfl) ?_ sz
  intro p e s m args below meth c Q A S hnm hK hE hA ret ls hl hP hD hS
  have hx := S.1
  have hb := S.2.1
  have hl : lv_has ls 1 [(0, .ref h0)] := hl
  obtain ⟨H, hH⟩ : ∃ H : Heap, H = s.heap := ⟨_, rfl⟩
  have hS : va_S A s.heap H [] := by rw [hH]; exact hS
  have hP : va_P D qa_cl [(h0, .inr (5, [.null, .int 0, .int 0]))] H := by rw [hH]; exact hP
  rw [← hH]
  rw [← hH] at hA ret hS
  obtain ⟨X0, hX0⟩ : ∃ X : va_W, X = [] := ⟨_, rfl⟩
  have hP : va_P D qa_cl ((h0, .inr (5, [.null, .int 0, .int 0])) :: X0) H := by rw [hX0]; exact hP
  have hD : va_D A ((h0, .inr (5, [.null, .int 0, .int 0])) :: X0) := by rw [hX0]; exact hD
  refine lv_aload_n hx hb d_Fr_init_0 rfl (lv_at hl 0 rfl) ?_
  refine qn_obj S lm_Fr_3 lw_obi lw_obc hl.1 d_Fr_init_1 (by decide) (by decide) ?_
  refine lv_aload_n hx hb d_Fr_init_4 rfl (lv_at hl 0 rfl) ?_
  refine lv_bipush (v := 10) hx hb d_Fr_init_5 (by decide) ?_
  refine qn_newi (N' := 10) S lw_arI hK hP hD hS hA (by decide) (by decide) (by decide) (by decide) (by decide) d_Fr_init_7 (fun q1 H hP hD hS => ?_)
  obtain ⟨X1, hX1⟩ : ∃ X : va_W, X = X0 ++ [(q1, .inl (cI, 10, .inl (fun _ => 0)))] := ⟨_, rfl⟩
  have hP : va_P D qa_cl ((h0, .inr (5, [.null, .int 0, .int 0])) :: X1) H := by rw [hX1]; exact hP
  have hD : va_D A ((h0, .inr (5, [.null, .int 0, .int 0])) :: X1) := by rw [hX1]; exact hD
  refine W.widen (k := 1) (n := 10) (by decide) (by decide) ?_
  refine qn_putF S hnm hK hP hD hS hi_Fr t_Fr t_Fr_ok n_Fr rfl rfl 0 (by decide) lf_Fr_9 rfl rfl rfl (ty := (.array .int)) (by decide +kernel) rfl rfl (Nat.le_of_ble_eq_true rfl) d_Fr_init_9 (fun H locs hP hD hS => ?_)
  have hP : va_P D qa_cl ((h0, .inr (5, [.ref q1, .int 0, .int 0])) :: X1) H := hP
  have hD : va_D A ((h0, .inr (5, [.ref q1, .int 0, .int 0])) :: X1) := hD
  subst hX0 hX1
  exact ret (u := nu_Fr h0 q1) rfl hP hD hS d_Fr_init_12
