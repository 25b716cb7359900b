def nu_Ch (h0 pa : Nat) (q1 : Nat) (q2 : Nat) (q3 : Nat) (u1 : Nat → Nat) : Nat → Nat := fun j => ([0, pa, 0, 0, 0, 0, 0, 0, 0, 0, 0, 0, 0, 0, 0, 0, 0, 0, 0, 0, 0, 0, 0, 0, 0, 0, 0, 0, 0, 0, 0, 0, 0, 0, 0, 0, 0, 0, 0, 0, 0, 0, 0, 0, 0, 0, 0, 0, 0, 0, 0, 0, 0, 0, 0, 0, 0, 0, 0, 0, 0, 0, 0, 0, 0, 0, 0, 0, 0, 0, 0, 0, h0, q1, q2, u1 0, u1 1] : List Nat).getD j 0
set_option maxHeartbeats 4000000 in
set_option maxRecDepth 100000 in
theorem nc_Ch (l : Launch) (D : va_G) (cI cJ cF cZ : ClassId) (h0 : Nat) (pa : Nat) (sz : Nat) : Met l y_Ch_init (qa_ws y_Ch_init b_Ch_init 2 none) { frames := 2, cells := 4, slots := 2213, locals := 32 } (va_Pc [.ref h0, .ref pa] (qn_Pre D (qa_ty cI cJ cF cZ) [(h0, .inr (2, [.null, .null, .null, .null, .int 0, .int 0, .int 0]))] sz)) (va_Qv (fun u => u 72 = h0 ∧ u 1 = pa) (fun u t => va_P D qa_cl (qn_w 72 5 u (xe_en cI cJ cF u)) t.heap ∧ va_D (va_A [(h0, .inr (2, [.null, .null, .null, .null, .int 0, .int 0, .int 0]))] sz) (qn_w 72 5 u (xe_en cI cJ cF u))) (va_A [(h0, .inr (2, [.null, .null, .null, .null, .int 0, .int 0, .int 0]))] sz)) 4 2213 (va_A [(h0, .inr (2, [.null, .null, .null, .null, .int 0, .int 0, .int 0]))] sz) := by
  refine qn_met (post := fun u => u 72 = h0 ∧ u 1 = pa) (wf := fun u => qn_w 72 5 u (xe_en cI cJ cF u)) (by decide) rfl (Nat.le_of_ble_eq_true rfl) ?_ sz
  intro p e s m args below meth c Q A S hnm hK hE hA ret ls hl hP hD hS
  have hx := S.1
  have hb := S.2.1
  have hl : lv_has ls 2 [(0, .ref h0), (1, .ref pa)] := hl
  obtain ⟨H, hH⟩ : ∃ H : Heap, H = s.heap := ⟨_, rfl⟩
  have hS : va_S A s.heap H [] := by rw [hH]; exact hS
  have hP : va_P D qa_cl [(h0, .inr (2, [.null, .null, .null, .null, .int 0, .int 0, .int 0]))] H := by rw [hH]; exact hP
  rw [← hH]
  rw [← hH] at hA ret hS
  obtain ⟨X0, hX0⟩ : ∃ X : va_W, X = [] := ⟨_, rfl⟩
  have hP : va_P D qa_cl ((h0, .inr (2, [.null, .null, .null, .null, .int 0, .int 0, .int 0])) :: X0) H := by rw [hX0]; exact hP
  have hD : va_D A ((h0, .inr (2, [.null, .null, .null, .null, .int 0, .int 0, .int 0])) :: X0) := by rw [hX0]; exact hD
  refine lv_aload_n hx hb d_Ch_init_0 rfl (lv_at hl 0 rfl) ?_
  refine qn_obj S lm_Ch_3 lw_obi lw_obc hl.1 d_Ch_init_1 (by decide) (by decide) ?_
  refine lv_aload_n hx hb d_Ch_init_4 rfl (lv_at hl 0 rfl) ?_
  refine lv_sipush (v := 2000) hx hb d_Ch_init_5 (by decide) ?_
  refine qn_newi (N' := 2000) S lw_arI hK hP hD hS hA (by decide) (by decide) (by decide) (by decide) (by decide) d_Ch_init_8 (fun q1 H hP hD hS => ?_)
  obtain ⟨X1, hX1⟩ : ∃ X : va_W, X = X0 ++ [(q1, .inl (cI, 2000, .inl (fun _ => 0)))] := ⟨_, rfl⟩
  have hP : va_P D qa_cl ((h0, .inr (2, [.null, .null, .null, .null, .int 0, .int 0, .int 0])) :: X1) H := by rw [hX1]; exact hP
  have hD : va_D A ((h0, .inr (2, [.null, .null, .null, .null, .int 0, .int 0, .int 0])) :: X1) := by rw [hX1]; exact hD
  refine W.widen (k := 1) (n := 2000) (by decide) (by decide) ?_
  refine qn_putF S hnm hK hP hD hS hi_Ch t_Ch t_Ch_ok n_Ch rfl rfl 1 (by decide) lf_Ch_9 rfl rfl rfl (ty := (.array .int)) (by decide +kernel) rfl rfl (Nat.le_of_ble_eq_true rfl) d_Ch_init_10 (fun H locs hP hD hS => ?_)
  have hP : va_P D qa_cl ((h0, .inr (2, [.null, .ref q1, .null, .null, .int 0, .int 0, .int 0])) :: X1) H := hP
  have hD : va_D A ((h0, .inr (2, [.null, .ref q1, .null, .null, .int 0, .int 0, .int 0])) :: X1) := hD
  refine lv_aload_n hx hb d_Ch_init_13 rfl (lv_at hl 0 rfl) ?_
  refine lv_sipush (v := 200) hx hb d_Ch_init_14 (by decide) ?_
  refine qn_newi (N' := 200) S lw_arI hK hP hD hS hA (by decide) (by decide) (by decide) (by decide) (by decide) d_Ch_init_17 (fun q2 H hP hD hS => ?_)
  obtain ⟨X2, hX2⟩ : ∃ X : va_W, X = X1 ++ [(q2, .inl (cI, 200, .inl (fun _ => 0)))] := ⟨_, rfl⟩
  have hP : va_P D qa_cl ((h0, .inr (2, [.null, .ref q1, .null, .null, .int 0, .int 0, .int 0])) :: X2) H := by rw [hX2]; exact hP
  have hD : va_D A ((h0, .inr (2, [.null, .ref q1, .null, .null, .int 0, .int 0, .int 0])) :: X2) := by rw [hX2]; exact hD
  refine W.widen (k := 2) (n := 2200) (by decide) (by decide) ?_
  refine qn_putF S hnm hK hP hD hS hi_Ch t_Ch t_Ch_ok n_Ch rfl rfl 2 (by decide) lf_Ch_15 rfl rfl rfl (ty := (.array .int)) (by decide +kernel) rfl rfl (Nat.le_of_ble_eq_true rfl) d_Ch_init_19 (fun H locs hP hD hS => ?_)
  have hP : va_P D qa_cl ((h0, .inr (2, [.null, .ref q1, .ref q2, .null, .int 0, .int 0, .int 0])) :: X2) H := hP
  have hD : va_D A ((h0, .inr (2, [.null, .ref q1, .ref q2, .null, .int 0, .int 0, .int 0])) :: X2) := hD
  refine lv_aload_n hx hb d_Ch_init_22 rfl (lv_at hl 0 rfl) ?_
  refine qn_new S (fun w h => List.mem_cons_of_mem _ h) hK hP hD hS hA hi_Fr t_Fr t_Fr_ok lk_Ch_18 li_Fr lj_Fr (ci := 5) rfl (fs := [.null, .int 0, .int 0]) nd_Fr (by decide) (by decide) d_Ch_init_23 (fun q3 H hP hD hS => ?_)
  have hP : va_P D qa_cl (((h0, .inr (2, [.null, .ref q1, .ref q2, .null, .int 0, .int 0, .int 0])) :: X2) ++ [(q3, .inr (5, [.null, .int 0, .int 0]))]) H := hP
  have hD : va_D A (((h0, .inr (2, [.null, .ref q1, .ref q2, .null, .int 0, .int 0, .int 0])) :: X2) ++ [(q3, .inr (5, [.null, .int 0, .int 0]))]) := hD
  refine W.widen (k := 3) (n := 2203) (by decide) (by decide) ?_
  refine lv_dup hx hb d_Ch_init_26 rfl ?_
  refine qn_callv hP hD hS hA (va_runIN (host := "ClosedWorld") (As := []) (rest := [.ref q3, .ref h0]) S (nc_Fr l D cI cJ cF cZ q3 H.size) ⟨va_cnB 0 S.2.2.2.2 (qa_good lwc_Fr_init) rfl rfl rfl (hE.1 _ ln_Ch_20) (S.2.2.2.2 _ (List.mem_cons_of_mem _ lj_Fr)) (by decide +kernel) ⟨by decide, by decide⟩, rfl, (S.2.2.2.2 _ (List.mem_cons_of_mem _ lwi_Fr_init))⟩ ⟨qn_blind, fun U hU hW => ⟨rfl, qn_pre hK hE hP hU hW⟩⟩ rfl rfl hl.1 rfl (lv_room (Nat.le_of_ble_eq_true rfl)) d_Ch_init_27 ⟨by decide, by decide⟩) (fun u1 H locs hu1 hP hD hS => ?_)
  have hP : va_P D qa_cl (((h0, .inr (2, [.null, .ref q1, .ref q2, .null, .int 0, .int 0, .int 0])) :: X2) ++ (qn_fr cI u1)) H := hP
  have hD : va_D A (((h0, .inr (2, [.null, .ref q1, .ref q2, .null, .int 0, .int 0, .int 0])) :: X2) ++ (qn_fr cI u1)) := hD
  refine W.widen (k := 4) (n := 2213) (by decide) (by decide) ?_
  obtain ⟨X3, hX3⟩ : ∃ X : va_W, X = X2 ++ qn_fr cI u1 := ⟨_, rfl⟩
  have hP : va_P D qa_cl ((h0, .inr (2, [.null, .ref q1, .ref q2, .null, .int 0, .int 0, .int 0])) :: X3) H := by rw [hX3]; exact hP
  have hD : va_D A ((h0, .inr (2, [.null, .ref q1, .ref q2, .null, .int 0, .int 0, .int 0])) :: X3) := by rw [hX3]; exact hD
  refine qn_putF S hnm hK hP hD hS hi_Ch t_Ch t_Ch_ok n_Ch rfl rfl 3 (by decide) lf_Ch_21 rfl rfl rfl (ty := (.object "ClosedWorld$Frame")) (by decide +kernel) rfl rfl (Nat.le_of_ble_eq_true rfl) d_Ch_init_30 (fun H locs hP hD hS => ?_)
  have hP : va_P D qa_cl ((h0, .inr (2, [.null, .ref q1, .ref q2, .ref q3, .int 0, .int 0, .int 0])) :: X3) H := hP
  have hD : va_D A ((h0, .inr (2, [.null, .ref q1, .ref q2, .ref q3, .int 0, .int 0, .int 0])) :: X3) := hD
  refine lv_aload_n hx hb d_Ch_init_33 rfl (lv_at hl 0 rfl) ?_
  refine lv_aload_n hx hb d_Ch_init_34 rfl (lv_at hl 1 rfl) ?_
  refine qn_putF S hnm hK hP hD hS hi_Ch t_Ch t_Ch_ok n_Ch rfl rfl 0 (by decide) lf_Ch_25 rfl rfl rfl (ty := (.object "ClosedWorld$Program")) (by decide +kernel) rfl rfl (Nat.le_of_ble_eq_true rfl) d_Ch_init_35 (fun H locs hP hD hS => ?_)
  have hP : va_P D qa_cl ((h0, .inr (2, [.ref pa, .ref q1, .ref q2, .ref q3, .int 0, .int 0, .int 0])) :: X3) H := hP
  have hD : va_D A ((h0, .inr (2, [.ref pa, .ref q1, .ref q2, .ref q3, .int 0, .int 0, .int 0])) :: X3) := hD
  rw [← hu1] at hP hD
  have l3 := hP
  have m3 : va_P D qa_cl (((h0, .inr (2, [.ref pa, .ref q1, .ref q2, .ref (u1 0), .int 0, .int 0, .int 0])) :: X2) ++ qn_fr cI u1) H := by rw [hX3] at l3; exact l3
  have p3 := qn_right m3
  have l2 := qn_left m3
  have m2 : va_P D qa_cl (((h0, .inr (2, [.ref pa, .ref q1, .ref q2, .ref (u1 0), .int 0, .int 0, .int 0])) :: X1) ++ [(q2, .inl (cI, 200, .inl (fun _ => 0)))]) H := by rw [hX2] at l2; exact l2
  have p2 := qn_right m2
  have l1 := qn_left m2
  have m1 : va_P D qa_cl (((h0, .inr (2, [.ref pa, .ref q1, .ref q2, .ref (u1 0), .int 0, .int 0, .int 0])) :: X0) ++ [(q1, .inl (cI, 2000, .inl (fun _ => 0)))]) H := by rw [hX1] at l1; exact l1
  have p1 := qn_right m1
  have l0 := qn_left m1
  rw [hX0] at l0
  have hP9 : va_P D qa_cl (qn_w 72 5 (nu_Ch h0 pa q1 q2 q3 u1) (xe_en cI cJ cF (nu_Ch h0 pa q1 q2 q3 u1))) H := by
    intro k x hx
    have hk : k < 5 := qn_w_lt hx
    rw [qn_w_get hk] at hx
    obtain rfl := Option.some.inj hx
    match k, hk with
    | 0, _ => exact (show va_at D qa_cl (h0, .inr (2, [.ref pa, .ref q1, .ref q2, .ref (u1 0), .int 0, .int 0, .int 0])) H from l0 0 _ rfl)
    | 1, _ => exact (show va_at D qa_cl (q1, .inl (cI, 2000, .inl (fun _ => 0))) H from p1 0 _ rfl)
    | 2, _ => exact (show va_at D qa_cl (q2, .inl (cI, 200, .inl (fun _ => 0))) H from p2 0 _ rfl)
    | 3, _ => exact (show va_at D qa_cl (u1 0, .inr (5, [.ref (u1 1), .int 0, .int 0])) H from p3 0 _ rfl)
    | 4, _ => exact (show va_at D qa_cl (u1 1, .inl (cI, 10, .inl (fun _ => 0))) H from p3 1 _ rfl)
    | z + 5, h => exact absurd h (by omega)
  have hD9 : va_D A (qn_w 72 5 (nu_Ch h0 pa q1 q2 q3 u1) (xe_en cI cJ cF (nu_Ch h0 pa q1 q2 q3 u1))) := by
    subst hX0 hX1 hX2 hX3
    exact qn_D hD rfl
  exact ret (u := (nu_Ch h0 pa q1 q2 q3 u1)) ⟨rfl, rfl⟩ hP9 hD9 hS d_Ch_init_38
