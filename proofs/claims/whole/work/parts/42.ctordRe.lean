def nu_Re (h0 pa ca : Nat) : Nat → Nat := fun j => ([0, pa, 0, 0, 0, 0, 0, 0, 0, 0, 0, 0, 0, 0, 0, 0, 0, 0, 0, 0, 0, 0, 0, 0, 0, 0, 0, 0, 0, 0, 0, 0, 0, 0, 0, 0, 0, 0, 0, 0, 0, 0, 0, 0, 0, 0, 0, 0, 0, 0, 0, 0, 0, 0, 0, 0, 0, 0, 0, 0, 0, 0, 0, 0, 0, 0, 0, 0, 0, 0, 0, 0, ca, 0, 0, 0, 0, h0] : List Nat).getD j 0
set_option maxHeartbeats 4000000 in
set_option maxRecDepth 100000 in
theorem nc_Re (l : Launch) (D : va_G) (cI cJ cF cZ : ClassId) (h0 : Nat) (pa : Nat) (ca : Nat) (sz : Nat) : Met l y_Re_init (qa_ws y_Re_init b_Re_init 3 none) { frames := 1, cells := 0, slots := 0, locals := 12 } (va_Pc [.ref h0, .ref pa, .ref ca] (qn_Pre D (qa_ty cI cJ cF cZ) [(h0, .inr (3, [.null, .null, .int 0, .int 0]))] sz)) (va_Qv (fun u => u 77 = h0 ∧ u 1 = pa ∧ u 72 = ca) (fun u t => va_P D qa_cl (qn_w 77 1 u (xe_en cI cJ cF u)) t.heap ∧ va_D (va_A [(h0, .inr (3, [.null, .null, .int 0, .int 0]))] sz) (qn_w 77 1 u (xe_en cI cJ cF u))) (va_A [(h0, .inr (3, [.null, .null, .int 0, .int 0]))] sz)) 0 0 (va_A [(h0, .inr (3, [.null, .null, .int 0, .int 0]))] sz) := by
  refine qn_met (post := fun u => u 77 = h0 ∧ u 1 = pa ∧ u 72 = ca) (wf := fun u => qn_w 77 1 u (xe_en cI cJ cF u)) (by decide) rfl (Nat.le_of_ble_eq_true rfl) ?_ sz
  intro p e s m args below meth c Q A S hnm hK hE hA ret ls hl hP hD hS
  have hx := S.1
  have hb := S.2.1
  have hl : lv_has ls 3 [(0, .ref h0), (1, .ref pa), (2, .ref ca)] := hl
  obtain ⟨H, hH⟩ : ∃ H : Heap, H = s.heap := ⟨_, rfl⟩
  have hS : va_S A s.heap H [] := by rw [hH]; exact hS
  have hP : va_P D qa_cl [(h0, .inr (3, [.null, .null, .int 0, .int 0]))] H := by rw [hH]; exact hP
  rw [← hH]
  rw [← hH] at hA ret hS
  obtain ⟨X0, hX0⟩ : ∃ X : va_W, X = [] := ⟨_, rfl⟩
  have hP : va_P D qa_cl ((h0, .inr (3, [.null, .null, .int 0, .int 0])) :: X0) H := by rw [hX0]; exact hP
  have hD : va_D A ((h0, .inr (3, [.null, .null, .int 0, .int 0])) :: X0) := by rw [hX0]; exact hD
  refine lv_aload_n hx hb d_Re_init_0 rfl (lv_at hl 0 rfl) ?_
  refine qn_obj S lm_Re_3 lw_obi lw_obc hl.1 d_Re_init_1 (by decide) (by decide) ?_
  refine lv_aload_n hx hb d_Re_init_4 rfl (lv_at hl 0 rfl) ?_
  refine lv_aload_n hx hb d_Re_init_5 rfl (lv_at hl 1 rfl) ?_
  refine qn_putF S hnm hK hP hD hS hi_Re t_Re t_Re_ok n_Re rfl rfl 0 (by decide) lf_Re_9 rfl rfl rfl (ty := (.object "ClosedWorld$Program")) (by decide +kernel) rfl rfl (Nat.le_of_ble_eq_true rfl) d_Re_init_6 (fun H locs hP hD hS => ?_)
  have hP : va_P D qa_cl ((h0, .inr (3, [.ref pa, .null, .int 0, .int 0])) :: X0) H := hP
  have hD : va_D A ((h0, .inr (3, [.ref pa, .null, .int 0, .int 0])) :: X0) := hD
  refine lv_aload_n hx hb d_Re_init_9 rfl (lv_at hl 0 rfl) ?_
  refine lv_aload_n hx hb d_Re_init_10 rfl (lv_at hl 2 rfl) ?_
  refine qn_putF S hnm hK hP hD hS hi_Re t_Re t_Re_ok n_Re rfl rfl 1 (by decide) lf_Re_15 rfl rfl rfl (ty := (.object "ClosedWorld$Checker")) (by decide +kernel) rfl rfl (Nat.le_of_ble_eq_true rfl) d_Re_init_11 (fun H locs hP hD hS => ?_)
  have hP : va_P D qa_cl ((h0, .inr (3, [.ref pa, .ref ca, .int 0, .int 0])) :: X0) H := hP
  have hD : va_D A ((h0, .inr (3, [.ref pa, .ref ca, .int 0, .int 0])) :: X0) := hD
  have l0 := hP
  rw [hX0] at l0
  have hP9 : va_P D qa_cl (qn_w 77 1 (nu_Re h0 pa ca ) (xe_en cI cJ cF (nu_Re h0 pa ca ))) H := by
    intro k x hx
    have hk : k < 1 := qn_w_lt hx
    rw [qn_w_get hk] at hx
    obtain rfl := Option.some.inj hx
    match k, hk with
    | 0, _ => exact (show va_at D qa_cl (h0, .inr (3, [.ref pa, .ref ca, .int 0, .int 0])) H from l0 0 _ rfl)
    | z + 1, h => exact absurd h (by omega)
  have hD9 : va_D A (qn_w 77 1 (nu_Re h0 pa ca ) (xe_en cI cJ cF (nu_Re h0 pa ca ))) := by
    subst hX0
    exact qn_D hD rfl
  exact ret (u := (nu_Re h0 pa ca )) ⟨rfl, rfl, rfl⟩ hP9 hD9 hS d_Re_init_14
