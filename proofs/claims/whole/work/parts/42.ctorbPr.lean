def nu_Pr (h0 : Nat) (q1 : Nat) (q2 : Nat) (q3 : Nat) (q4 : Nat) (r4 : Nat → Nat) (q5 : Nat) (q6 : Nat) (q7 : Nat) (q8 : Nat) (q9 : Nat) (r9 : Nat → Nat) (q10 : Nat) (r10 : Nat → Nat) (q11 : Nat) (q12 : Nat) (r12 : Nat → Nat) (q13 : Nat) (r13 : Nat → Nat) (q14 : Nat) (r14 : Nat → Nat) : Nat → Nat := fun j => ([0, h0, q1, q2, q3, q4, r4 0, r4 1, r4 2, r4 3, r4 4, r4 5, q5, q6, q7, q8, q9, r9 0, r9 1, r9 2, r9 3, r9 4, r9 5, r9 6, r9 7, r9 8, r9 9, q10, r10 0, r10 1, r10 2, r10 3, r10 4, r10 5, r10 6, r10 7, r10 8, r10 9, q11, q12, r12 0, r12 1, r12 2, r12 3, r12 4, r12 5, r12 6, r12 7, r12 8, r12 9, q13, r13 0, r13 1, r13 2, r13 3, r13 4, r13 5, r13 6, r13 7, r13 8, r13 9, q14, r14 0, r14 1, r14 2, r14 3, r14 4, r14 5, r14 6, r14 7, r14 8, r14 9] : List Nat).getD j 0
set_option maxHeartbeats 4000000 in
set_option maxRecDepth 100000 in
theorem nc_Pr (l : Launch) (D : va_G) (cI cJ cF cZ : ClassId) (h0 : Nat) (sz : Nat) : Met l y_Pr_init (qa_ws y_Pr_init b_Pr_init 1 none) { frames := 1, cells := 70, slots := 638, locals := 12 } (va_Pc [.ref h0] (qn_Pre D (qa_ty cI cJ cF cZ) [(h0, .inr (1, [.int 0, .int 0, .null, .null, .null, .null, .null, .null, .null, .null, .null, .null, .null, .null, .null, .null]))] sz)) (va_Qv (fun u => u 1 = h0) (fun u t => va_P D qa_cl (qn_w 1 71 u (xe_en cI cJ cF u)) t.heap ∧ va_D (va_A [(h0, .inr (1, [.int 0, .int 0, .null, .null, .null, .null, .null, .null, .null, .null, .null, .null, .null, .null, .null, .null]))] sz) (qn_w 1 71 u (xe_en cI cJ cF u))) (va_A [(h0, .inr (1, [.int 0, .int 0, .null, .null, .null, .null, .null, .null, .null, .null, .null, .null, .null, .null, .null, .null]))] sz)) 70 638 (va_A [(h0, .inr (1, [.int 0, .int 0, .null, .null, .null, .null, .null, .null, .null, .null, .null, .null, .null, .null, .null, .null]))] sz) := by
  refine qn_met (post := fun u => u 1 = h0) (wf := fun u => qn_w 1 71 u (xe_en cI cJ cF u)) (by decide) rfl (Nat.le_of_ble_eq_true rfl) ?_ sz
  intro p e s m args below meth c Q A S hnm hK hE hA ret ls hl hP hD hS
  have hx := S.1
  have hb := S.2.1
  have hl : lv_has ls 1 [(0, .ref h0)] := hl
  obtain ⟨H, hH⟩ : ∃ H : Heap, H = s.heap := ⟨_, rfl⟩
  have hS : va_S A s.heap H [] := by rw [hH]; exact hS
  have hP : va_P D qa_cl [(h0, .inr (1, [.int 0, .int 0, .null, .null, .null, .null, .null, .null, .null, .null, .null, .null, .null, .null, .null, .null]))] H := by rw [hH]; exact hP
  rw [← hH]
  rw [← hH] at hA ret hS
  obtain ⟨X0, hX0⟩ : ∃ X : va_W, X = [] := ⟨_, rfl⟩
  have hP : va_P D qa_cl ((h0, .inr (1, [.int 0, .int 0, .null, .null, .null, .null, .null, .null, .null, .null, .null, .null, .null, .null, .null, .null])) :: X0) H := by rw [hX0]; exact hP
  have hD : va_D A ((h0, .inr (1, [.int 0, .int 0, .null, .null, .null, .null, .null, .null, .null, .null, .null, .null, .null, .null, .null, .null])) :: X0) := by rw [hX0]; exact hD
  refine lv_aload_n hx hb d_Pr_init_0 rfl (lv_at hl 0 rfl) ?_
  refine qn_obj S lm_Pr_3 lw_obi lw_obc hl.1 d_Pr_init_1 (by decide) (by decide) ?_
  refine lv_aload_n hx hb d_Pr_init_4 rfl (lv_at hl 0 rfl) ?_
  refine lv_bipush (v := 6) hx hb d_Pr_init_5 (by decide) ?_
  refine qn_newi (N' := 6) S lw_arI hK hP hD hS hA (by decide) (by decide) (by decide) (by decide) (by decide) d_Pr_init_7 (fun q1 H hP hD hS => ?_)
  obtain ⟨X1, hX1⟩ : ∃ X : va_W, X = X0 ++ [(q1, .inl (cI, 6, .inl (fun _ => 0)))] := ⟨_, rfl⟩
  have hP : va_P D qa_cl ((h0, .inr (1, [.int 0, .int 0, .null, .null, .null, .null, .null, .null, .null, .null, .null, .null, .null, .null, .null, .null])) :: X1) H := by rw [hX1]; exact hP
  have hD : va_D A ((h0, .inr (1, [.int 0, .int 0, .null, .null, .null, .null, .null, .null, .null, .null, .null, .null, .null, .null, .null, .null])) :: X1) := by rw [hX1]; exact hD
  refine W.widen (k := 1) (n := 6) (by decide) (by decide) ?_
  refine qn_putF S hnm hK hP hD hS hi_Pr t_Pr t_Pr_ok n_Pr rfl rfl 2 (by decide) lf_Pr_9 rfl rfl rfl (ty := (.array .int)) (by decide +kernel) rfl rfl (Nat.le_of_ble_eq_true rfl) d_Pr_init_9 (fun H locs hP hD hS => ?_)
  have hP : va_P D qa_cl ((h0, .inr (1, [.int 0, .int 0, .ref q1, .null, .null, .null, .null, .null, .null, .null, .null, .null, .null, .null, .null, .null])) :: X1) H := hP
  have hD : va_D A ((h0, .inr (1, [.int 0, .int 0, .ref q1, .null, .null, .null, .null, .null, .null, .null, .null, .null, .null, .null, .null, .null])) :: X1) := hD
  refine lv_aload_n hx hb d_Pr_init_12 rfl (lv_at hl 0 rfl) ?_
  refine lv_bipush (v := 6) hx hb d_Pr_init_13 (by decide) ?_
  refine qn_newi (N' := 6) S lw_arI hK hP hD hS hA (by decide) (by decide) (by decide) (by decide) (by decide) d_Pr_init_15 (fun q2 H hP hD hS => ?_)
  obtain ⟨X2, hX2⟩ : ∃ X : va_W, X = X1 ++ [(q2, .inl (cI, 6, .inl (fun _ => 0)))] := ⟨_, rfl⟩
  have hP : va_P D qa_cl ((h0, .inr (1, [.int 0, .int 0, .ref q1, .null, .null, .null, .null, .null, .null, .null, .null, .null, .null, .null, .null, .null])) :: X2) H := by rw [hX2]; exact hP
  have hD : va_D A ((h0, .inr (1, [.int 0, .int 0, .ref q1, .null, .null, .null, .null, .null, .null, .null, .null, .null, .null, .null, .null, .null])) :: X2) := by rw [hX2]; exact hD
  refine W.widen (k := 2) (n := 12) (by decide) (by decide) ?_
  refine qn_putF S hnm hK hP hD hS hi_Pr t_Pr t_Pr_ok n_Pr rfl rfl 3 (by decide) lf_Pr_15 rfl rfl rfl (ty := (.array .int)) (by decide +kernel) rfl rfl (Nat.le_of_ble_eq_true rfl) d_Pr_init_17 (fun H locs hP hD hS => ?_)
  have hP : va_P D qa_cl ((h0, .inr (1, [.int 0, .int 0, .ref q1, .ref q2, .null, .null, .null, .null, .null, .null, .null, .null, .null, .null, .null, .null])) :: X2) H := hP
  have hD : va_D A ((h0, .inr (1, [.int 0, .int 0, .ref q1, .ref q2, .null, .null, .null, .null, .null, .null, .null, .null, .null, .null, .null, .null])) :: X2) := hD
  refine lv_aload_n hx hb d_Pr_init_20 rfl (lv_at hl 0 rfl) ?_
  refine lv_bipush (v := 6) hx hb d_Pr_init_21 (by decide) ?_
  refine qn_newi (N' := 6) S lw_arI hK hP hD hS hA (by decide) (by decide) (by decide) (by decide) (by decide) d_Pr_init_23 (fun q3 H hP hD hS => ?_)
  obtain ⟨X3, hX3⟩ : ∃ X : va_W, X = X2 ++ [(q3, .inl (cI, 6, .inl (fun _ => 0)))] := ⟨_, rfl⟩
  have hP : va_P D qa_cl ((h0, .inr (1, [.int 0, .int 0, .ref q1, .ref q2, .null, .null, .null, .null, .null, .null, .null, .null, .null, .null, .null, .null])) :: X3) H := by rw [hX3]; exact hP
  have hD : va_D A ((h0, .inr (1, [.int 0, .int 0, .ref q1, .ref q2, .null, .null, .null, .null, .null, .null, .null, .null, .null, .null, .null, .null])) :: X3) := by rw [hX3]; exact hD
  refine W.widen (k := 3) (n := 18) (by decide) (by decide) ?_
  refine qn_putF S hnm hK hP hD hS hi_Pr t_Pr t_Pr_ok n_Pr rfl rfl 4 (by decide) lf_Pr_18 rfl rfl rfl (ty := (.array .int)) (by decide +kernel) rfl rfl (Nat.le_of_ble_eq_true rfl) d_Pr_init_25 (fun H locs hP hD hS => ?_)
  have hP : va_P D qa_cl ((h0, .inr (1, [.int 0, .int 0, .ref q1, .ref q2, .ref q3, .null, .null, .null, .null, .null, .null, .null, .null, .null, .null, .null])) :: X3) H := hP
  have hD : va_D A ((h0, .inr (1, [.int 0, .int 0, .ref q1, .ref q2, .ref q3, .null, .null, .null, .null, .null, .null, .null, .null, .null, .null, .null])) :: X3) := hD
  refine lv_aload_n hx hb d_Pr_init_28 rfl (lv_at hl 0 rfl) ?_
  refine lv_bipush (v := 6) hx hb d_Pr_init_29 (by decide) ?_
  refine lv_iconst (v := 4) hx hb d_Pr_init_31 (by decide) ?_
  refine qn_mna (N' := 6) (K' := 4) S lk_Pr_21 lw_arI hE hK hP hD hS hA (by decide) (by decide) (by decide) (by decide) (by decide) (by decide) (by decide) (by decide) d_Pr_init_32 (fun q4 r4 H hP hD hS => ?_)
  obtain ⟨X4, hX4⟩ : ∃ X : va_W, X = X3 ++ qn_mn cI cJ q4 r4 6 4 := ⟨_, rfl⟩
  have hP : va_P D qa_cl ((h0, .inr (1, [.int 0, .int 0, .ref q1, .ref q2, .ref q3, .null, .null, .null, .null, .null, .null, .null, .null, .null, .null, .null])) :: X4) H := by rw [hX4]; exact hP
  have hD : va_D A ((h0, .inr (1, [.int 0, .int 0, .ref q1, .ref q2, .ref q3, .null, .null, .null, .null, .null, .null, .null, .null, .null, .null, .null])) :: X4) := by rw [hX4]; exact hD
  refine W.widen (k := 10) (n := 48) (by decide) (by decide) ?_
  refine qn_putF S hnm hK hP hD hS hi_Pr t_Pr t_Pr_ok n_Pr rfl rfl 5 (by decide) lf_Pr_23 rfl rfl rfl (ty := (.array (.array .int))) (by decide +kernel) rfl rfl (Nat.le_of_ble_eq_true rfl) d_Pr_init_36 (fun H locs hP hD hS => ?_)
  have hP : va_P D qa_cl ((h0, .inr (1, [.int 0, .int 0, .ref q1, .ref q2, .ref q3, .ref q4, .null, .null, .null, .null, .null, .null, .null, .null, .null, .null])) :: X4) H := hP
  have hD : va_D A ((h0, .inr (1, [.int 0, .int 0, .ref q1, .ref q2, .ref q3, .ref q4, .null, .null, .null, .null, .null, .null, .null, .null, .null, .null])) :: X4) := hD
  refine lv_aload_n hx hb d_Pr_init_39 rfl (lv_at hl 0 rfl) ?_
  refine lv_bipush (v := 10) hx hb d_Pr_init_40 (by decide) ?_
  refine qn_newi (N' := 10) S lw_arI hK hP hD hS hA (by decide) (by decide) (by decide) (by decide) (by decide) d_Pr_init_42 (fun q5 H hP hD hS => ?_)
  obtain ⟨X5, hX5⟩ : ∃ X : va_W, X = X4 ++ [(q5, .inl (cI, 10, .inl (fun _ => 0)))] := ⟨_, rfl⟩
  have hP : va_P D qa_cl ((h0, .inr (1, [.int 0, .int 0, .ref q1, .ref q2, .ref q3, .ref q4, .null, .null, .null, .null, .null, .null, .null, .null, .null, .null])) :: X5) H := by rw [hX5]; exact hP
  have hD : va_D A ((h0, .inr (1, [.int 0, .int 0, .ref q1, .ref q2, .ref q3, .ref q4, .null, .null, .null, .null, .null, .null, .null, .null, .null, .null])) :: X5) := by rw [hX5]; exact hD
  refine W.widen (k := 11) (n := 58) (by decide) (by decide) ?_
  refine qn_putF S hnm hK hP hD hS hi_Pr t_Pr t_Pr_ok n_Pr rfl rfl 6 (by decide) lf_Pr_26 rfl rfl rfl (ty := (.array .int)) (by decide +kernel) rfl rfl (Nat.le_of_ble_eq_true rfl) d_Pr_init_44 (fun H locs hP hD hS => ?_)
  have hP : va_P D qa_cl ((h0, .inr (1, [.int 0, .int 0, .ref q1, .ref q2, .ref q3, .ref q4, .ref q5, .null, .null, .null, .null, .null, .null, .null, .null, .null])) :: X5) H := hP
  have hD : va_D A ((h0, .inr (1, [.int 0, .int 0, .ref q1, .ref q2, .ref q3, .ref q4, .ref q5, .null, .null, .null, .null, .null, .null, .null, .null, .null])) :: X5) := hD
  refine lv_aload_n hx hb d_Pr_init_47 rfl (lv_at hl 0 rfl) ?_
  refine lv_bipush (v := 10) hx hb d_Pr_init_48 (by decide) ?_
  refine qn_newi (N' := 10) S lw_arI hK hP hD hS hA (by decide) (by decide) (by decide) (by decide) (by decide) d_Pr_init_50 (fun q6 H hP hD hS => ?_)
  obtain ⟨X6, hX6⟩ : ∃ X : va_W, X = X5 ++ [(q6, .inl (cI, 10, .inl (fun _ => 0)))] := ⟨_, rfl⟩
  have hP : va_P D qa_cl ((h0, .inr (1, [.int 0, .int 0, .ref q1, .ref q2, .ref q3, .ref q4, .ref q5, .null, .null, .null, .null, .null, .null, .null, .null, .null])) :: X6) H := by rw [hX6]; exact hP
  have hD : va_D A ((h0, .inr (1, [.int 0, .int 0, .ref q1, .ref q2, .ref q3, .ref q4, .ref q5, .null, .null, .null, .null, .null, .null, .null, .null, .null])) :: X6) := by rw [hX6]; exact hD
  refine W.widen (k := 12) (n := 68) (by decide) (by decide) ?_
  refine qn_putF S hnm hK hP hD hS hi_Pr t_Pr t_Pr_ok n_Pr rfl rfl 7 (by decide) lf_Pr_29 rfl rfl rfl (ty := (.array .int)) (by decide +kernel) rfl rfl (Nat.le_of_ble_eq_true rfl) d_Pr_init_52 (fun H locs hP hD hS => ?_)
  have hP : va_P D qa_cl ((h0, .inr (1, [.int 0, .int 0, .ref q1, .ref q2, .ref q3, .ref q4, .ref q5, .ref q6, .null, .null, .null, .null, .null, .null, .null, .null])) :: X6) H := hP
  have hD : va_D A ((h0, .inr (1, [.int 0, .int 0, .ref q1, .ref q2, .ref q3, .ref q4, .ref q5, .ref q6, .null, .null, .null, .null, .null, .null, .null, .null])) :: X6) := hD
  refine lv_aload_n hx hb d_Pr_init_55 rfl (lv_at hl 0 rfl) ?_
  refine lv_bipush (v := 10) hx hb d_Pr_init_56 (by decide) ?_
  refine qn_newi (N' := 10) S lw_arI hK hP hD hS hA (by decide) (by decide) (by decide) (by decide) (by decide) d_Pr_init_58 (fun q7 H hP hD hS => ?_)
  obtain ⟨X7, hX7⟩ : ∃ X : va_W, X = X6 ++ [(q7, .inl (cI, 10, .inl (fun _ => 0)))] := ⟨_, rfl⟩
  have hP : va_P D qa_cl ((h0, .inr (1, [.int 0, .int 0, .ref q1, .ref q2, .ref q3, .ref q4, .ref q5, .ref q6, .null, .null, .null, .null, .null, .null, .null, .null])) :: X7) H := by rw [hX7]; exact hP
  have hD : va_D A ((h0, .inr (1, [.int 0, .int 0, .ref q1, .ref q2, .ref q3, .ref q4, .ref q5, .ref q6, .null, .null, .null, .null, .null, .null, .null, .null])) :: X7) := by rw [hX7]; exact hD
  refine W.widen (k := 13) (n := 78) (by decide) (by decide) ?_
  refine qn_putF S hnm hK hP hD hS hi_Pr t_Pr t_Pr_ok n_Pr rfl rfl 8 (by decide) lf_Pr_32 rfl rfl rfl (ty := (.array .int)) (by decide +kernel) rfl rfl (Nat.le_of_ble_eq_true rfl) d_Pr_init_60 (fun H locs hP hD hS => ?_)
  have hP : va_P D qa_cl ((h0, .inr (1, [.int 0, .int 0, .ref q1, .ref q2, .ref q3, .ref q4, .ref q5, .ref q6, .ref q7, .null, .null, .null, .null, .null, .null, .null])) :: X7) H := hP
  have hD : va_D A ((h0, .inr (1, [.int 0, .int 0, .ref q1, .ref q2, .ref q3, .ref q4, .ref q5, .ref q6, .ref q7, .null, .null, .null, .null, .null, .null, .null])) :: X7) := hD
  refine lv_aload_n hx hb d_Pr_init_63 rfl (lv_at hl 0 rfl) ?_
  refine lv_bipush (v := 10) hx hb d_Pr_init_64 (by decide) ?_
  refine qn_newi (N' := 10) S lw_arI hK hP hD hS hA (by decide) (by decide) (by decide) (by decide) (by decide) d_Pr_init_66 (fun q8 H hP hD hS => ?_)
  obtain ⟨X8, hX8⟩ : ∃ X : va_W, X = X7 ++ [(q8, .inl (cI, 10, .inl (fun _ => 0)))] := ⟨_, rfl⟩
  have hP : va_P D qa_cl ((h0, .inr (1, [.int 0, .int 0, .ref q1, .ref q2, .ref q3, .ref q4, .ref q5, .ref q6, .ref q7, .null, .null, .null, .null, .null, .null, .null])) :: X8) H := by rw [hX8]; exact hP
  have hD : va_D A ((h0, .inr (1, [.int 0, .int 0, .ref q1, .ref q2, .ref q3, .ref q4, .ref q5, .ref q6, .ref q7, .null, .null, .null, .null, .null, .null, .null])) :: X8) := by rw [hX8]; exact hD
  refine W.widen (k := 14) (n := 88) (by decide) (by decide) ?_
  refine qn_putF S hnm hK hP hD hS hi_Pr t_Pr t_Pr_ok n_Pr rfl rfl 9 (by decide) lf_Pr_35 rfl rfl rfl (ty := (.array .int)) (by decide +kernel) rfl rfl (Nat.le_of_ble_eq_true rfl) d_Pr_init_68 (fun H locs hP hD hS => ?_)
  have hP : va_P D qa_cl ((h0, .inr (1, [.int 0, .int 0, .ref q1, .ref q2, .ref q3, .ref q4, .ref q5, .ref q6, .ref q7, .ref q8, .null, .null, .null, .null, .null, .null])) :: X8) H := hP
  have hD : va_D A ((h0, .inr (1, [.int 0, .int 0, .ref q1, .ref q2, .ref q3, .ref q4, .ref q5, .ref q6, .ref q7, .ref q8, .null, .null, .null, .null, .null, .null])) :: X8) := hD
  refine lv_aload_n hx hb d_Pr_init_71 rfl (lv_at hl 0 rfl) ?_
  refine lv_bipush (v := 10) hx hb d_Pr_init_72 (by decide) ?_
  refine lv_bipush (v := 20) hx hb d_Pr_init_74 (by decide) ?_
  refine qn_mna (N' := 10) (K' := 20) S lk_Pr_21 lw_arI hE hK hP hD hS hA (by decide) (by decide) (by decide) (by decide) (by decide) (by decide) (by decide) (by decide) d_Pr_init_76 (fun q9 r9 H hP hD hS => ?_)
  obtain ⟨X9, hX9⟩ : ∃ X : va_W, X = X8 ++ qn_mn cI cJ q9 r9 10 20 := ⟨_, rfl⟩
  have hP : va_P D qa_cl ((h0, .inr (1, [.int 0, .int 0, .ref q1, .ref q2, .ref q3, .ref q4, .ref q5, .ref q6, .ref q7, .ref q8, .null, .null, .null, .null, .null, .null])) :: X9) H := by rw [hX9]; exact hP
  have hD : va_D A ((h0, .inr (1, [.int 0, .int 0, .ref q1, .ref q2, .ref q3, .ref q4, .ref q5, .ref q6, .ref q7, .ref q8, .null, .null, .null, .null, .null, .null])) :: X9) := by rw [hX9]; exact hD
  refine W.widen (k := 25) (n := 298) (by decide) (by decide) ?_
  refine qn_putF S hnm hK hP hD hS hi_Pr t_Pr t_Pr_ok n_Pr rfl rfl 10 (by decide) lf_Pr_38 rfl rfl rfl (ty := (.array (.array .int))) (by decide +kernel) rfl rfl (Nat.le_of_ble_eq_true rfl) d_Pr_init_80 (fun H locs hP hD hS => ?_)
  have hP : va_P D qa_cl ((h0, .inr (1, [.int 0, .int 0, .ref q1, .ref q2, .ref q3, .ref q4, .ref q5, .ref q6, .ref q7, .ref q8, .ref q9, .null, .null, .null, .null, .null])) :: X9) H := hP
  have hD : va_D A ((h0, .inr (1, [.int 0, .int 0, .ref q1, .ref q2, .ref q3, .ref q4, .ref q5, .ref q6, .ref q7, .ref q8, .ref q9, .null, .null, .null, .null, .null])) :: X9) := hD
  refine lv_aload_n hx hb d_Pr_init_83 rfl (lv_at hl 0 rfl) ?_
  refine lv_bipush (v := 10) hx hb d_Pr_init_84 (by decide) ?_
  refine lv_bipush (v := 20) hx hb d_Pr_init_86 (by decide) ?_
  refine qn_mna (N' := 10) (K' := 20) S lk_Pr_21 lw_arI hE hK hP hD hS hA (by decide) (by decide) (by decide) (by decide) (by decide) (by decide) (by decide) (by decide) d_Pr_init_88 (fun q10 r10 H hP hD hS => ?_)
  obtain ⟨X10, hX10⟩ : ∃ X : va_W, X = X9 ++ qn_mn cI cJ q10 r10 10 20 := ⟨_, rfl⟩
  have hP : va_P D qa_cl ((h0, .inr (1, [.int 0, .int 0, .ref q1, .ref q2, .ref q3, .ref q4, .ref q5, .ref q6, .ref q7, .ref q8, .ref q9, .null, .null, .null, .null, .null])) :: X10) H := by rw [hX10]; exact hP
  have hD : va_D A ((h0, .inr (1, [.int 0, .int 0, .ref q1, .ref q2, .ref q3, .ref q4, .ref q5, .ref q6, .ref q7, .ref q8, .ref q9, .null, .null, .null, .null, .null])) :: X10) := by rw [hX10]; exact hD
  refine W.widen (k := 36) (n := 508) (by decide) (by decide) ?_
  refine qn_putF S hnm hK hP hD hS hi_Pr t_Pr t_Pr_ok n_Pr rfl rfl 11 (by decide) lf_Pr_41 rfl rfl rfl (ty := (.array (.array .int))) (by decide +kernel) rfl rfl (Nat.le_of_ble_eq_true rfl) d_Pr_init_92 (fun H locs hP hD hS => ?_)
  have hP : va_P D qa_cl ((h0, .inr (1, [.int 0, .int 0, .ref q1, .ref q2, .ref q3, .ref q4, .ref q5, .ref q6, .ref q7, .ref q8, .ref q9, .ref q10, .null, .null, .null, .null])) :: X10) H := hP
  have hD : va_D A ((h0, .inr (1, [.int 0, .int 0, .ref q1, .ref q2, .ref q3, .ref q4, .ref q5, .ref q6, .ref q7, .ref q8, .ref q9, .ref q10, .null, .null, .null, .null])) :: X10) := hD
  refine lv_aload_n hx hb d_Pr_init_95 rfl (lv_at hl 0 rfl) ?_
  refine lv_bipush (v := 10) hx hb d_Pr_init_96 (by decide) ?_
  refine qn_newi (N' := 10) S lw_arI hK hP hD hS hA (by decide) (by decide) (by decide) (by decide) (by decide) d_Pr_init_98 (fun q11 H hP hD hS => ?_)
  obtain ⟨X11, hX11⟩ : ∃ X : va_W, X = X10 ++ [(q11, .inl (cI, 10, .inl (fun _ => 0)))] := ⟨_, rfl⟩
  have hP : va_P D qa_cl ((h0, .inr (1, [.int 0, .int 0, .ref q1, .ref q2, .ref q3, .ref q4, .ref q5, .ref q6, .ref q7, .ref q8, .ref q9, .ref q10, .null, .null, .null, .null])) :: X11) H := by rw [hX11]; exact hP
  have hD : va_D A ((h0, .inr (1, [.int 0, .int 0, .ref q1, .ref q2, .ref q3, .ref q4, .ref q5, .ref q6, .ref q7, .ref q8, .ref q9, .ref q10, .null, .null, .null, .null])) :: X11) := by rw [hX11]; exact hD
  refine W.widen (k := 37) (n := 518) (by decide) (by decide) ?_
  refine qn_putF S hnm hK hP hD hS hi_Pr t_Pr t_Pr_ok n_Pr rfl rfl 12 (by decide) lf_Pr_44 rfl rfl rfl (ty := (.array .int)) (by decide +kernel) rfl rfl (Nat.le_of_ble_eq_true rfl) d_Pr_init_100 (fun H locs hP hD hS => ?_)
  have hP : va_P D qa_cl ((h0, .inr (1, [.int 0, .int 0, .ref q1, .ref q2, .ref q3, .ref q4, .ref q5, .ref q6, .ref q7, .ref q8, .ref q9, .ref q10, .ref q11, .null, .null, .null])) :: X11) H := hP
  have hD : va_D A ((h0, .inr (1, [.int 0, .int 0, .ref q1, .ref q2, .ref q3, .ref q4, .ref q5, .ref q6, .ref q7, .ref q8, .ref q9, .ref q10, .ref q11, .null, .null, .null])) :: X11) := hD
  refine lv_aload_n hx hb d_Pr_init_103 rfl (lv_at hl 0 rfl) ?_
  refine lv_bipush (v := 10) hx hb d_Pr_init_104 (by decide) ?_
  refine lv_iconst (v := 3) hx hb d_Pr_init_106 (by decide) ?_
  refine qn_mna (N' := 10) (K' := 3) S lk_Pr_21 lw_arI hE hK hP hD hS hA (by decide) (by decide) (by decide) (by decide) (by decide) (by decide) (by decide) (by decide) d_Pr_init_107 (fun q12 r12 H hP hD hS => ?_)
  obtain ⟨X12, hX12⟩ : ∃ X : va_W, X = X11 ++ qn_mn cI cJ q12 r12 10 3 := ⟨_, rfl⟩
  have hP : va_P D qa_cl ((h0, .inr (1, [.int 0, .int 0, .ref q1, .ref q2, .ref q3, .ref q4, .ref q5, .ref q6, .ref q7, .ref q8, .ref q9, .ref q10, .ref q11, .null, .null, .null])) :: X12) H := by rw [hX12]; exact hP
  have hD : va_D A ((h0, .inr (1, [.int 0, .int 0, .ref q1, .ref q2, .ref q3, .ref q4, .ref q5, .ref q6, .ref q7, .ref q8, .ref q9, .ref q10, .ref q11, .null, .null, .null])) :: X12) := by rw [hX12]; exact hD
  refine W.widen (k := 48) (n := 558) (by decide) (by decide) ?_
  refine qn_putF S hnm hK hP hD hS hi_Pr t_Pr t_Pr_ok n_Pr rfl rfl 13 (by decide) lf_Pr_47 rfl rfl rfl (ty := (.array (.array .int))) (by decide +kernel) rfl rfl (Nat.le_of_ble_eq_true rfl) d_Pr_init_111 (fun H locs hP hD hS => ?_)
  have hP : va_P D qa_cl ((h0, .inr (1, [.int 0, .int 0, .ref q1, .ref q2, .ref q3, .ref q4, .ref q5, .ref q6, .ref q7, .ref q8, .ref q9, .ref q10, .ref q11, .ref q12, .null, .null])) :: X12) H := hP
  have hD : va_D A ((h0, .inr (1, [.int 0, .int 0, .ref q1, .ref q2, .ref q3, .ref q4, .ref q5, .ref q6, .ref q7, .ref q8, .ref q9, .ref q10, .ref q11, .ref q12, .null, .null])) :: X12) := hD
  refine lv_aload_n hx hb d_Pr_init_114 rfl (lv_at hl 0 rfl) ?_
  refine lv_bipush (v := 10) hx hb d_Pr_init_115 (by decide) ?_
  refine lv_iconst (v := 3) hx hb d_Pr_init_117 (by decide) ?_
  refine qn_mna (N' := 10) (K' := 3) S lk_Pr_21 lw_arI hE hK hP hD hS hA (by decide) (by decide) (by decide) (by decide) (by decide) (by decide) (by decide) (by decide) d_Pr_init_118 (fun q13 r13 H hP hD hS => ?_)
  obtain ⟨X13, hX13⟩ : ∃ X : va_W, X = X12 ++ qn_mn cI cJ q13 r13 10 3 := ⟨_, rfl⟩
  have hP : va_P D qa_cl ((h0, .inr (1, [.int 0, .int 0, .ref q1, .ref q2, .ref q3, .ref q4, .ref q5, .ref q6, .ref q7, .ref q8, .ref q9, .ref q10, .ref q11, .ref q12, .null, .null])) :: X13) H := by rw [hX13]; exact hP
  have hD : va_D A ((h0, .inr (1, [.int 0, .int 0, .ref q1, .ref q2, .ref q3, .ref q4, .ref q5, .ref q6, .ref q7, .ref q8, .ref q9, .ref q10, .ref q11, .ref q12, .null, .null])) :: X13) := by rw [hX13]; exact hD
  refine W.widen (k := 59) (n := 598) (by decide) (by decide) ?_
  refine qn_putF S hnm hK hP hD hS hi_Pr t_Pr t_Pr_ok n_Pr rfl rfl 14 (by decide) lf_Pr_50 rfl rfl rfl (ty := (.array (.array .int))) (by decide +kernel) rfl rfl (Nat.le_of_ble_eq_true rfl) d_Pr_init_122 (fun H locs hP hD hS => ?_)
  have hP : va_P D qa_cl ((h0, .inr (1, [.int 0, .int 0, .ref q1, .ref q2, .ref q3, .ref q4, .ref q5, .ref q6, .ref q7, .ref q8, .ref q9, .ref q10, .ref q11, .ref q12, .ref q13, .null])) :: X13) H := hP
  have hD : va_D A ((h0, .inr (1, [.int 0, .int 0, .ref q1, .ref q2, .ref q3, .ref q4, .ref q5, .ref q6, .ref q7, .ref q8, .ref q9, .ref q10, .ref q11, .ref q12, .ref q13, .null])) :: X13) := hD
  refine lv_aload_n hx hb d_Pr_init_125 rfl (lv_at hl 0 rfl) ?_
  refine lv_bipush (v := 10) hx hb d_Pr_init_126 (by decide) ?_
  refine lv_iconst (v := 3) hx hb d_Pr_init_128 (by decide) ?_
  refine qn_mna (N' := 10) (K' := 3) S lk_Pr_21 lw_arI hE hK hP hD hS hA (by decide) (by decide) (by decide) (by decide) (by decide) (by decide) (by decide) (by decide) d_Pr_init_129 (fun q14 r14 H hP hD hS => ?_)
  obtain ⟨X14, hX14⟩ : ∃ X : va_W, X = X13 ++ qn_mn cI cJ q14 r14 10 3 := ⟨_, rfl⟩
  have hP : va_P D qa_cl ((h0, .inr (1, [.int 0, .int 0, .ref q1, .ref q2, .ref q3, .ref q4, .ref q5, .ref q6, .ref q7, .ref q8, .ref q9, .ref q10, .ref q11, .ref q12, .ref q13, .null])) :: X14) H := by rw [hX14]; exact hP
  have hD : va_D A ((h0, .inr (1, [.int 0, .int 0, .ref q1, .ref q2, .ref q3, .ref q4, .ref q5, .ref q6, .ref q7, .ref q8, .ref q9, .ref q10, .ref q11, .ref q12, .ref q13, .null])) :: X14) := by rw [hX14]; exact hD
  refine W.widen (k := 70) (n := 638) (by decide) (by decide) ?_
  refine qn_putF S hnm hK hP hD hS hi_Pr t_Pr t_Pr_ok n_Pr rfl rfl 15 (by decide) lf_Pr_53 rfl rfl rfl (ty := (.array (.array .int))) (by decide +kernel) rfl rfl (Nat.le_of_ble_eq_true rfl) d_Pr_init_133 (fun H locs hP hD hS => ?_)
  have hP : va_P D qa_cl ((h0, .inr (1, [.int 0, .int 0, .ref q1, .ref q2, .ref q3, .ref q4, .ref q5, .ref q6, .ref q7, .ref q8, .ref q9, .ref q10, .ref q11, .ref q12, .ref q13, .ref q14])) :: X14) H := hP
  have hD : va_D A ((h0, .inr (1, [.int 0, .int 0, .ref q1, .ref q2, .ref q3, .ref q4, .ref q5, .ref q6, .ref q7, .ref q8, .ref q9, .ref q10, .ref q11, .ref q12, .ref q13, .ref q14])) :: X14) := hD
  have l14 := hP
  have m14 : va_P D qa_cl (((h0, .inr (1, [.int 0, .int 0, .ref q1, .ref q2, .ref q3, .ref q4, .ref q5, .ref q6, .ref q7, .ref q8, .ref q9, .ref q10, .ref q11, .ref q12, .ref q13, .ref q14])) :: X13) ++ qn_mn cI cJ q14 r14 10 3) H := by rw [hX14] at l14; exact l14
  have p14 := qn_right m14
  have l13 := qn_left m14
  have m13 : va_P D qa_cl (((h0, .inr (1, [.int 0, .int 0, .ref q1, .ref q2, .ref q3, .ref q4, .ref q5, .ref q6, .ref q7, .ref q8, .ref q9, .ref q10, .ref q11, .ref q12, .ref q13, .ref q14])) :: X12) ++ qn_mn cI cJ q13 r13 10 3) H := by rw [hX13] at l13; exact l13
  have p13 := qn_right m13
  have l12 := qn_left m13
  have m12 : va_P D qa_cl (((h0, .inr (1, [.int 0, .int 0, .ref q1, .ref q2, .ref q3, .ref q4, .ref q5, .ref q6, .ref q7, .ref q8, .ref q9, .ref q10, .ref q11, .ref q12, .ref q13, .ref q14])) :: X11) ++ qn_mn cI cJ q12 r12 10 3) H := by rw [hX12] at l12; exact l12
  have p12 := qn_right m12
  have l11 := qn_left m12
  have m11 : va_P D qa_cl (((h0, .inr (1, [.int 0, .int 0, .ref q1, .ref q2, .ref q3, .ref q4, .ref q5, .ref q6, .ref q7, .ref q8, .ref q9, .ref q10, .ref q11, .ref q12, .ref q13, .ref q14])) :: X10) ++ [(q11, .inl (cI, 10, .inl (fun _ => 0)))]) H := by rw [hX11] at l11; exact l11
  have p11 := qn_right m11
  have l10 := qn_left m11
  have m10 : va_P D qa_cl (((h0, .inr (1, [.int 0, .int 0, .ref q1, .ref q2, .ref q3, .ref q4, .ref q5, .ref q6, .ref q7, .ref q8, .ref q9, .ref q10, .ref q11, .ref q12, .ref q13, .ref q14])) :: X9) ++ qn_mn cI cJ q10 r10 10 20) H := by rw [hX10] at l10; exact l10
  have p10 := qn_right m10
  have l9 := qn_left m10
  have m9 : va_P D qa_cl (((h0, .inr (1, [.int 0, .int 0, .ref q1, .ref q2, .ref q3, .ref q4, .ref q5, .ref q6, .ref q7, .ref q8, .ref q9, .ref q10, .ref q11, .ref q12, .ref q13, .ref q14])) :: X8) ++ qn_mn cI cJ q9 r9 10 20) H := by rw [hX9] at l9; exact l9
  have p9 := qn_right m9
  have l8 := qn_left m9
  have m8 : va_P D qa_cl (((h0, .inr (1, [.int 0, .int 0, .ref q1, .ref q2, .ref q3, .ref q4, .ref q5, .ref q6, .ref q7, .ref q8, .ref q9, .ref q10, .ref q11, .ref q12, .ref q13, .ref q14])) :: X7) ++ [(q8, .inl (cI, 10, .inl (fun _ => 0)))]) H := by rw [hX8] at l8; exact l8
  have p8 := qn_right m8
  have l7 := qn_left m8
  have m7 : va_P D qa_cl (((h0, .inr (1, [.int 0, .int 0, .ref q1, .ref q2, .ref q3, .ref q4, .ref q5, .ref q6, .ref q7, .ref q8, .ref q9, .ref q10, .ref q11, .ref q12, .ref q13, .ref q14])) :: X6) ++ [(q7, .inl (cI, 10, .inl (fun _ => 0)))]) H := by rw [hX7] at l7; exact l7
  have p7 := qn_right m7
  have l6 := qn_left m7
  have m6 : va_P D qa_cl (((h0, .inr (1, [.int 0, .int 0, .ref q1, .ref q2, .ref q3, .ref q4, .ref q5, .ref q6, .ref q7, .ref q8, .ref q9, .ref q10, .ref q11, .ref q12, .ref q13, .ref q14])) :: X5) ++ [(q6, .inl (cI, 10, .inl (fun _ => 0)))]) H := by rw [hX6] at l6; exact l6
  have p6 := qn_right m6
  have l5 := qn_left m6
  have m5 : va_P D qa_cl (((h0, .inr (1, [.int 0, .int 0, .ref q1, .ref q2, .ref q3, .ref q4, .ref q5, .ref q6, .ref q7, .ref q8, .ref q9, .ref q10, .ref q11, .ref q12, .ref q13, .ref q14])) :: X4) ++ [(q5, .inl (cI, 10, .inl (fun _ => 0)))]) H := by rw [hX5] at l5; exact l5
  have p5 := qn_right m5
  have l4 := qn_left m5
  have m4 : va_P D qa_cl (((h0, .inr (1, [.int 0, .int 0, .ref q1, .ref q2, .ref q3, .ref q4, .ref q5, .ref q6, .ref q7, .ref q8, .ref q9, .ref q10, .ref q11, .ref q12, .ref q13, .ref q14])) :: X3) ++ qn_mn cI cJ q4 r4 6 4) H := by rw [hX4] at l4; exact l4
  have p4 := qn_right m4
  have l3 := qn_left m4
  have m3 : va_P D qa_cl (((h0, .inr (1, [.int 0, .int 0, .ref q1, .ref q2, .ref q3, .ref q4, .ref q5, .ref q6, .ref q7, .ref q8, .ref q9, .ref q10, .ref q11, .ref q12, .ref q13, .ref q14])) :: X2) ++ [(q3, .inl (cI, 6, .inl (fun _ => 0)))]) H := by rw [hX3] at l3; exact l3
  have p3 := qn_right m3
  have l2 := qn_left m3
  have m2 : va_P D qa_cl (((h0, .inr (1, [.int 0, .int 0, .ref q1, .ref q2, .ref q3, .ref q4, .ref q5, .ref q6, .ref q7, .ref q8, .ref q9, .ref q10, .ref q11, .ref q12, .ref q13, .ref q14])) :: X1) ++ [(q2, .inl (cI, 6, .inl (fun _ => 0)))]) H := by rw [hX2] at l2; exact l2
  have p2 := qn_right m2
  have l1 := qn_left m2
  have m1 : va_P D qa_cl (((h0, .inr (1, [.int 0, .int 0, .ref q1, .ref q2, .ref q3, .ref q4, .ref q5, .ref q6, .ref q7, .ref q8, .ref q9, .ref q10, .ref q11, .ref q12, .ref q13, .ref q14])) :: X0) ++ [(q1, .inl (cI, 6, .inl (fun _ => 0)))]) H := by rw [hX1] at l1; exact l1
  have p1 := qn_right m1
  have l0 := qn_left m1
  rw [hX0] at l0
  have hP9 : va_P D qa_cl (qn_w 1 71 (nu_Pr h0 q1 q2 q3 q4 r4 q5 q6 q7 q8 q9 r9 q10 r10 q11 q12 r12 q13 r13 q14 r14) (xe_en cI cJ cF (nu_Pr h0 q1 q2 q3 q4 r4 q5 q6 q7 q8 q9 r9 q10 r10 q11 q12 r12 q13 r13 q14 r14))) H := by
    intro k x hx
    have hk : k < 71 := qn_w_lt hx
    rw [qn_w_get hk] at hx
    obtain rfl := Option.some.inj hx
    match k, hk with
    | 0, _ => exact (show va_at D qa_cl (h0, .inr (1, [.int 0, .int 0, .ref q1, .ref q2, .ref q3, .ref q4, .ref q5, .ref q6, .ref q7, .ref q8, .ref q9, .ref q10, .ref q11, .ref q12, .ref q13, .ref q14])) H from l0 0 _ rfl)
    | 1, _ => exact (show va_at D qa_cl (q1, .inl (cI, 6, .inl (fun _ => 0))) H from p1 0 _ rfl)
    | 2, _ => exact (show va_at D qa_cl (q2, .inl (cI, 6, .inl (fun _ => 0))) H from p2 0 _ rfl)
    | 3, _ => exact (show va_at D qa_cl (q3, .inl (cI, 6, .inl (fun _ => 0))) H from p3 0 _ rfl)
    | 4, _ => exact (qn_ext (f := fun i => some (r4 i)) (p4 0 _ rfl) (fun i hi => by rcases (show i = 0 ∨ i = 1 ∨ i = 2 ∨ i = 3 ∨ i = 4 ∨ i = 5 by omega) with rfl | rfl | rfl | rfl | rfl | rfl <;> rfl))
    | 5, _ => exact (show va_at D qa_cl (r4 0, .inl (cI, 4, .inl (fun _ => 0))) H from p4 1 _ rfl)
    | 6, _ => exact (show va_at D qa_cl (r4 1, .inl (cI, 4, .inl (fun _ => 0))) H from p4 2 _ rfl)
    | 7, _ => exact (show va_at D qa_cl (r4 2, .inl (cI, 4, .inl (fun _ => 0))) H from p4 3 _ rfl)
    | 8, _ => exact (show va_at D qa_cl (r4 3, .inl (cI, 4, .inl (fun _ => 0))) H from p4 4 _ rfl)
    | 9, _ => exact (show va_at D qa_cl (r4 4, .inl (cI, 4, .inl (fun _ => 0))) H from p4 5 _ rfl)
    | 10, _ => exact (show va_at D qa_cl (r4 5, .inl (cI, 4, .inl (fun _ => 0))) H from p4 6 _ rfl)
    | 11, _ => exact (show va_at D qa_cl (q5, .inl (cI, 10, .inl (fun _ => 0))) H from p5 0 _ rfl)
    | 12, _ => exact (show va_at D qa_cl (q6, .inl (cI, 10, .inl (fun _ => 0))) H from p6 0 _ rfl)
    | 13, _ => exact (show va_at D qa_cl (q7, .inl (cI, 10, .inl (fun _ => 0))) H from p7 0 _ rfl)
    | 14, _ => exact (show va_at D qa_cl (q8, .inl (cI, 10, .inl (fun _ => 0))) H from p8 0 _ rfl)
    | 15, _ => exact (qn_ext (f := fun i => some (r9 i)) (p9 0 _ rfl) (fun i hi => by rcases (show i = 0 ∨ i = 1 ∨ i = 2 ∨ i = 3 ∨ i = 4 ∨ i = 5 ∨ i = 6 ∨ i = 7 ∨ i = 8 ∨ i = 9 by omega) with rfl | rfl | rfl | rfl | rfl | rfl | rfl | rfl | rfl | rfl <;> rfl))
    | 16, _ => exact (show va_at D qa_cl (r9 0, .inl (cI, 20, .inl (fun _ => 0))) H from p9 1 _ rfl)
    | 17, _ => exact (show va_at D qa_cl (r9 1, .inl (cI, 20, .inl (fun _ => 0))) H from p9 2 _ rfl)
    | 18, _ => exact (show va_at D qa_cl (r9 2, .inl (cI, 20, .inl (fun _ => 0))) H from p9 3 _ rfl)
    | 19, _ => exact (show va_at D qa_cl (r9 3, .inl (cI, 20, .inl (fun _ => 0))) H from p9 4 _ rfl)
    | 20, _ => exact (show va_at D qa_cl (r9 4, .inl (cI, 20, .inl (fun _ => 0))) H from p9 5 _ rfl)
    | 21, _ => exact (show va_at D qa_cl (r9 5, .inl (cI, 20, .inl (fun _ => 0))) H from p9 6 _ rfl)
    | 22, _ => exact (show va_at D qa_cl (r9 6, .inl (cI, 20, .inl (fun _ => 0))) H from p9 7 _ rfl)
    | 23, _ => exact (show va_at D qa_cl (r9 7, .inl (cI, 20, .inl (fun _ => 0))) H from p9 8 _ rfl)
    | 24, _ => exact (show va_at D qa_cl (r9 8, .inl (cI, 20, .inl (fun _ => 0))) H from p9 9 _ rfl)
    | 25, _ => exact (show va_at D qa_cl (r9 9, .inl (cI, 20, .inl (fun _ => 0))) H from p9 10 _ rfl)
    | 26, _ => exact (qn_ext (f := fun i => some (r10 i)) (p10 0 _ rfl) (fun i hi => by rcases (show i = 0 ∨ i = 1 ∨ i = 2 ∨ i = 3 ∨ i = 4 ∨ i = 5 ∨ i = 6 ∨ i = 7 ∨ i = 8 ∨ i = 9 by omega) with rfl | rfl | rfl | rfl | rfl | rfl | rfl | rfl | rfl | rfl <;> rfl))
    | 27, _ => exact (show va_at D qa_cl (r10 0, .inl (cI, 20, .inl (fun _ => 0))) H from p10 1 _ rfl)
    | 28, _ => exact (show va_at D qa_cl (r10 1, .inl (cI, 20, .inl (fun _ => 0))) H from p10 2 _ rfl)
    | 29, _ => exact (show va_at D qa_cl (r10 2, .inl (cI, 20, .inl (fun _ => 0))) H from p10 3 _ rfl)
    | 30, _ => exact (show va_at D qa_cl (r10 3, .inl (cI, 20, .inl (fun _ => 0))) H from p10 4 _ rfl)
    | 31, _ => exact (show va_at D qa_cl (r10 4, .inl (cI, 20, .inl (fun _ => 0))) H from p10 5 _ rfl)
    | 32, _ => exact (show va_at D qa_cl (r10 5, .inl (cI, 20, .inl (fun _ => 0))) H from p10 6 _ rfl)
    | 33, _ => exact (show va_at D qa_cl (r10 6, .inl (cI, 20, .inl (fun _ => 0))) H from p10 7 _ rfl)
    | 34, _ => exact (show va_at D qa_cl (r10 7, .inl (cI, 20, .inl (fun _ => 0))) H from p10 8 _ rfl)
    | 35, _ => exact (show va_at D qa_cl (r10 8, .inl (cI, 20, .inl (fun _ => 0))) H from p10 9 _ rfl)
    | 36, _ => exact (show va_at D qa_cl (r10 9, .inl (cI, 20, .inl (fun _ => 0))) H from p10 10 _ rfl)
    | 37, _ => exact (show va_at D qa_cl (q11, .inl (cI, 10, .inl (fun _ => 0))) H from p11 0 _ rfl)
    | 38, _ => exact (qn_ext (f := fun i => some (r12 i)) (p12 0 _ rfl) (fun i hi => by rcases (show i = 0 ∨ i = 1 ∨ i = 2 ∨ i = 3 ∨ i = 4 ∨ i = 5 ∨ i = 6 ∨ i = 7 ∨ i = 8 ∨ i = 9 by omega) with rfl | rfl | rfl | rfl | rfl | rfl | rfl | rfl | rfl | rfl <;> rfl))
    | 39, _ => exact (show va_at D qa_cl (r12 0, .inl (cI, 3, .inl (fun _ => 0))) H from p12 1 _ rfl)
    | 40, _ => exact (show va_at D qa_cl (r12 1, .inl (cI, 3, .inl (fun _ => 0))) H from p12 2 _ rfl)
    | 41, _ => exact (show va_at D qa_cl (r12 2, .inl (cI, 3, .inl (fun _ => 0))) H from p12 3 _ rfl)
    | 42, _ => exact (show va_at D qa_cl (r12 3, .inl (cI, 3, .inl (fun _ => 0))) H from p12 4 _ rfl)
    | 43, _ => exact (show va_at D qa_cl (r12 4, .inl (cI, 3, .inl (fun _ => 0))) H from p12 5 _ rfl)
    | 44, _ => exact (show va_at D qa_cl (r12 5, .inl (cI, 3, .inl (fun _ => 0))) H from p12 6 _ rfl)
    | 45, _ => exact (show va_at D qa_cl (r12 6, .inl (cI, 3, .inl (fun _ => 0))) H from p12 7 _ rfl)
    | 46, _ => exact (show va_at D qa_cl (r12 7, .inl (cI, 3, .inl (fun _ => 0))) H from p12 8 _ rfl)
    | 47, _ => exact (show va_at D qa_cl (r12 8, .inl (cI, 3, .inl (fun _ => 0))) H from p12 9 _ rfl)
    | 48, _ => exact (show va_at D qa_cl (r12 9, .inl (cI, 3, .inl (fun _ => 0))) H from p12 10 _ rfl)
    | 49, _ => exact (qn_ext (f := fun i => some (r13 i)) (p13 0 _ rfl) (fun i hi => by rcases (show i = 0 ∨ i = 1 ∨ i = 2 ∨ i = 3 ∨ i = 4 ∨ i = 5 ∨ i = 6 ∨ i = 7 ∨ i = 8 ∨ i = 9 by omega) with rfl | rfl | rfl | rfl | rfl | rfl | rfl | rfl | rfl | rfl <;> rfl))
    | 50, _ => exact (show va_at D qa_cl (r13 0, .inl (cI, 3, .inl (fun _ => 0))) H from p13 1 _ rfl)
    | 51, _ => exact (show va_at D qa_cl (r13 1, .inl (cI, 3, .inl (fun _ => 0))) H from p13 2 _ rfl)
    | 52, _ => exact (show va_at D qa_cl (r13 2, .inl (cI, 3, .inl (fun _ => 0))) H from p13 3 _ rfl)
    | 53, _ => exact (show va_at D qa_cl (r13 3, .inl (cI, 3, .inl (fun _ => 0))) H from p13 4 _ rfl)
    | 54, _ => exact (show va_at D qa_cl (r13 4, .inl (cI, 3, .inl (fun _ => 0))) H from p13 5 _ rfl)
    | 55, _ => exact (show va_at D qa_cl (r13 5, .inl (cI, 3, .inl (fun _ => 0))) H from p13 6 _ rfl)
    | 56, _ => exact (show va_at D qa_cl (r13 6, .inl (cI, 3, .inl (fun _ => 0))) H from p13 7 _ rfl)
    | 57, _ => exact (show va_at D qa_cl (r13 7, .inl (cI, 3, .inl (fun _ => 0))) H from p13 8 _ rfl)
    | 58, _ => exact (show va_at D qa_cl (r13 8, .inl (cI, 3, .inl (fun _ => 0))) H from p13 9 _ rfl)
    | 59, _ => exact (show va_at D qa_cl (r13 9, .inl (cI, 3, .inl (fun _ => 0))) H from p13 10 _ rfl)
    | 60, _ => exact (qn_ext (f := fun i => some (r14 i)) (p14 0 _ rfl) (fun i hi => by rcases (show i = 0 ∨ i = 1 ∨ i = 2 ∨ i = 3 ∨ i = 4 ∨ i = 5 ∨ i = 6 ∨ i = 7 ∨ i = 8 ∨ i = 9 by omega) with rfl | rfl | rfl | rfl | rfl | rfl | rfl | rfl | rfl | rfl <;> rfl))
    | 61, _ => exact (show va_at D qa_cl (r14 0, .inl (cI, 3, .inl (fun _ => 0))) H from p14 1 _ rfl)
    | 62, _ => exact (show va_at D qa_cl (r14 1, .inl (cI, 3, .inl (fun _ => 0))) H from p14 2 _ rfl)
    | 63, _ => exact (show va_at D qa_cl (r14 2, .inl (cI, 3, .inl (fun _ => 0))) H from p14 3 _ rfl)
    | 64, _ => exact (show va_at D qa_cl (r14 3, .inl (cI, 3, .inl (fun _ => 0))) H from p14 4 _ rfl)
    | 65, _ => exact (show va_at D qa_cl (r14 4, .inl (cI, 3, .inl (fun _ => 0))) H from p14 5 _ rfl)
    | 66, _ => exact (show va_at D qa_cl (r14 5, .inl (cI, 3, .inl (fun _ => 0))) H from p14 6 _ rfl)
    | 67, _ => exact (show va_at D qa_cl (r14 6, .inl (cI, 3, .inl (fun _ => 0))) H from p14 7 _ rfl)
    | 68, _ => exact (show va_at D qa_cl (r14 7, .inl (cI, 3, .inl (fun _ => 0))) H from p14 8 _ rfl)
    | 69, _ => exact (show va_at D qa_cl (r14 8, .inl (cI, 3, .inl (fun _ => 0))) H from p14 9 _ rfl)
    | 70, _ => exact (show va_at D qa_cl (r14 9, .inl (cI, 3, .inl (fun _ => 0))) H from p14 10 _ rfl)
    | z + 71, h => exact absurd h (by omega)
  have hD9 : va_D A (qn_w 1 71 (nu_Pr h0 q1 q2 q3 q4 r4 q5 q6 q7 q8 q9 r9 q10 r10 q11 q12 r12 q13 r13 q14 r14) (xe_en cI cJ cF (nu_Pr h0 q1 q2 q3 q4 r4 q5 q6 q7 q8 q9 r9 q10 r10 q11 q12 r12 q13 r13 q14 r14))) := by
    subst hX0 hX1 hX2 hX3 hX4 hX5 hX6 hX7 hX8 hX9 hX10 hX11 hX12 hX13 hX14
    exact qn_D hD rfl
  exact ret (u := (nu_Pr h0 q1 q2 q3 q4 r4 q5 q6 q7 q8 q9 r9 q10 r10 q11 q12 r12 q13 r13 q14 r14)) rfl hP9 hD9 hS d_Pr_init_136
