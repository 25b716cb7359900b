def nu_Mo (h0 q1 q2 q3 q4 q5 q6 q7 q8 q9 q10 q11 q12 q13 q14 q15 q16 q17 q18 q19 q20 q21 q22 q23 q24 q25 q26 q27 q28 q29 q30 q31 q32 : Nat) : Nat → Nat := fun j => ([h0, q1, q2, q3, q4, q5, q6, q7, q8, q9, q10, q11, q12, q13, q14, q15, q16, q17, q18, q19, q20, q21, q22, q23, q24, q25, q26, q27, q28, q29, q30, q31, q32] : List Nat).getD j 0
set_option maxHeartbeats 4000000 in
set_option maxRecDepth 100000 in
theorem nc_Mo (l : Launch) (D : va_G) (cI cJ cF cZ : ClassId) (h0 : Nat) (sz : Nat) : Met l y_Mo_init (qa_ws y_Mo_init b_Mo_init 1 none) { frames := 1, cells := 32, slots := 3280, locals := 12 } (va_Pc [.ref h0] (qn_Pre D (qa_ty cI cJ cF cZ) [(h0, .inr (6, [.int 0, .null, .null, .null, .int 0, .null, .null, .null, .null, .null, .null, .null, .null, .null, .null, .int 0, .null, .null, .null, .null, .int 0, .int 0, .int 0, .null, .null, .null, .int 0, .int 0, .int 0, .int 0, .int 0, .int 0, .int 0, .null, .null, .null, .null, .null, .null, .null, .int 0, .null, .null, .null, .null, .int 0, .int 0, .null]))] sz)) (va_Qv (fun u => u 0 = h0) (fun u t => va_P D qa_cl (qn_w 0 33 u (me_en cI cZ u)) t.heap ∧ va_D (va_A [(h0, .inr (6, [.int 0, .null, .null, .null, .int 0, .null, .null, .null, .null, .null, .null, .null, .null, .null, .null, .int 0, .null, .null, .null, .null, .int 0, .int 0, .int 0, .null, .null, .null, .int 0, .int 0, .int 0, .int 0, .int 0, .int 0, .int 0, .null, .null, .null, .null, .null, .null, .null, .int 0, .null, .null, .null, .null, .int 0, .int 0, .null]))] sz) (qn_w 0 33 u (me_en cI cZ u))) (va_A [(h0, .inr (6, [.int 0, .null, .null, .null, .int 0, .null, .null, .null, .null, .null, .null, .null, .null, .null, .null, .int 0, .null, .null, .null, .null, .int 0, .int 0, .int 0, .null, .null, .null, .int 0, .int 0, .int 0, .int 0, .int 0, .int 0, .int 0, .null, .null, .null, .null, .null, .null, .null, .int 0, .null, .null, .null, .null, .int 0, .int 0, .null]))] sz)) 32 3280 (va_A [(h0, .inr (6, [.int 0, .null, .null, .null, .int 0, .null, .null, .null, .null, .null, .null, .null, .null, .null, .null, .int 0, .null, .null, .null, .null, .int 0, .int 0, .int 0, .null, .null, .null, .int 0, .int 0, .int 0, .int 0, .int 0, .int 0, .int 0, .null, .null, .null, .null, .null, .null, .null, .int 0, .null, .null, .null, .null, .int 0, .int 0, .null]))] sz) := by
  refine qn_met (post := fun u => u 0 = h0) (wf := fun u => qn_w 0 33 u (me_en cI cZ u)) (by decide) rfl (Nat.le_of_ble_eq_true rfl) ?_ sz
  intro p e s m args below meth c Q A S hnm hK hE hA ret ls hl hP hD hS
  have hx := S.1
  have hb := S.2.1
  have hl : lv_has ls 1 [(0, .ref h0)] := hl
  obtain ⟨H, hH⟩ : ∃ H : Heap, H = s.heap := ⟨_, rfl⟩
  rw [← hH]
  rw [← hH] at hA ret hS hP
  refine lv_aload_n hx hb d_Mo_init_0 rfl (lv_at hl 0 rfl) ?_
  refine qn_obj S lm_Mo_1 lw_obi lw_obc hl.1 d_Mo_init_1 (by decide) (by decide) ?_
  refine lv_aload_n hx hb d_Mo_init_4 rfl (lv_at hl 0 rfl) ?_
  refine lv_bipush (v := 6) hx hb d_Mo_init_5 (by decide) ?_
  refine qn_arrF (N' := 6) S hnm lw_arI hK hP hD hS hA (by decide) (by decide) (by decide) (by decide) (by decide) hi_Mo t_Mo t_Mo_ok n_Mo rfl 1 (by decide) lf_Mo_7 rfl rfl rfl (by decide +kernel) (fun q1 => [.int 0, .ref q1, .null, .null, .int 0, .null, .null, .null, .null, .null, .null, .null, .null, .null, .null, .int 0, .null, .null, .null, .null, .int 0, .int 0, .int 0, .null, .null, .null, .int 0, .int 0, .int 0, .int 0, .int 0, .int 0, .int 0, .null, .null, .null, .null, .null, .null, .null, .int 0, .null, .null, .null, .null, .int 0, .int 0, .null]) (fun _ => rfl) (Nat.le_of_ble_eq_true rfl) d_Mo_init_7 d_Mo_init_9 (fun q1 H locs hP hD hS => ?_)
  dsimp only at hP hD
  refine W.widen (k := 1) (n := 6) (by decide) (by decide) ?_
  refine lv_aload_n hx hb d_Mo_init_12 rfl (lv_at hl 0 rfl) ?_
  refine lv_bipush (v := 6) hx hb d_Mo_init_13 (by decide) ?_
  refine qn_arrF (N' := 6) S hnm lw_arI hK hP hD hS hA (by decide) (by decide) (by decide) (by decide) (by decide) hi_Mo t_Mo t_Mo_ok n_Mo rfl 2 (by decide) lf_Mo_13 rfl rfl rfl (by decide +kernel) (fun q2 => [.int 0, .ref q1, .ref q2, .null, .int 0, .null, .null, .null, .null, .null, .null, .null, .null, .null, .null, .int 0, .null, .null, .null, .null, .int 0, .int 0, .int 0, .null, .null, .null, .int 0, .int 0, .int 0, .int 0, .int 0, .int 0, .int 0, .null, .null, .null, .null, .null, .null, .null, .int 0, .null, .null, .null, .null, .int 0, .int 0, .null]) (fun _ => rfl) (Nat.le_of_ble_eq_true rfl) d_Mo_init_15 d_Mo_init_17 (fun q2 H locs hP hD hS => ?_)
  dsimp only at hP hD
  refine W.widen (k := 2) (n := 12) (by decide) (by decide) ?_
  refine lv_aload_n hx hb d_Mo_init_20 rfl (lv_at hl 0 rfl) ?_
  refine lv_bipush (v := 6) hx hb d_Mo_init_21 (by decide) ?_
  refine qn_arrF (N' := 6) S hnm lw_arI hK hP hD hS hA (by decide) (by decide) (by decide) (by decide) (by decide) hi_Mo t_Mo t_Mo_ok n_Mo rfl 3 (by decide) lf_Mo_16 rfl rfl rfl (by decide +kernel) (fun q3 => [.int 0, .ref q1, .ref q2, .ref q3, .int 0, .null, .null, .null, .null, .null, .null, .null, .null, .null, .null, .int 0, .null, .null, .null, .null, .int 0, .int 0, .int 0, .null, .null, .null, .int 0, .int 0, .int 0, .int 0, .int 0, .int 0, .int 0, .null, .null, .null, .null, .null, .null, .null, .int 0, .null, .null, .null, .null, .int 0, .int 0, .null]) (fun _ => rfl) (Nat.le_of_ble_eq_true rfl) d_Mo_init_23 d_Mo_init_25 (fun q3 H locs hP hD hS => ?_)
  dsimp only at hP hD
  refine W.widen (k := 3) (n := 18) (by decide) (by decide) ?_
  refine lv_aload_n hx hb d_Mo_init_28 rfl (lv_at hl 0 rfl) ?_
  refine lv_bipush (v := 10) hx hb d_Mo_init_29 (by decide) ?_
  refine qn_arrF (N' := 10) S hnm lw_arI hK hP hD hS hA (by decide) (by decide) (by decide) (by decide) (by decide) hi_Mo t_Mo t_Mo_ok n_Mo rfl 5 (by decide) lf_Mo_19 rfl rfl rfl (by decide +kernel) (fun q4 => [.int 0, .ref q1, .ref q2, .ref q3, .int 0, .ref q4, .null, .null, .null, .null, .null, .null, .null, .null, .null, .int 0, .null, .null, .null, .null, .int 0, .int 0, .int 0, .null, .null, .null, .int 0, .int 0, .int 0, .int 0, .int 0, .int 0, .int 0, .null, .null, .null, .null, .null, .null, .null, .int 0, .null, .null, .null, .null, .int 0, .int 0, .null]) (fun _ => rfl) (Nat.le_of_ble_eq_true rfl) d_Mo_init_31 d_Mo_init_33 (fun q4 H locs hP hD hS => ?_)
  dsimp only at hP hD
  refine W.widen (k := 4) (n := 28) (by decide) (by decide) ?_
  refine lv_aload_n hx hb d_Mo_init_36 rfl (lv_at hl 0 rfl) ?_
  refine lv_bipush (v := 10) hx hb d_Mo_init_37 (by decide) ?_
  refine qn_arrF (N' := 10) S hnm lw_arI hK hP hD hS hA (by decide) (by decide) (by decide) (by decide) (by decide) hi_Mo t_Mo t_Mo_ok n_Mo rfl 6 (by decide) lf_Mo_22 rfl rfl rfl (by decide +kernel) (fun q5 => [.int 0, .ref q1, .ref q2, .ref q3, .int 0, .ref q4, .ref q5, .null, .null, .null, .null, .null, .null, .null, .null, .int 0, .null, .null, .null, .null, .int 0, .int 0, .int 0, .null, .null, .null, .int 0, .int 0, .int 0, .int 0, .int 0, .int 0, .int 0, .null, .null, .null, .null, .null, .null, .null, .int 0, .null, .null, .null, .null, .int 0, .int 0, .null]) (fun _ => rfl) (Nat.le_of_ble_eq_true rfl) d_Mo_init_39 d_Mo_init_41 (fun q5 H locs hP hD hS => ?_)
  dsimp only at hP hD
  refine W.widen (k := 5) (n := 38) (by decide) (by decide) ?_
  refine lv_aload_n hx hb d_Mo_init_44 rfl (lv_at hl 0 rfl) ?_
  refine lv_bipush (v := 10) hx hb d_Mo_init_45 (by decide) ?_
  refine qn_arrF (N' := 10) S hnm lw_arI hK hP hD hS hA (by decide) (by decide) (by decide) (by decide) (by decide) hi_Mo t_Mo t_Mo_ok n_Mo rfl 7 (by decide) lf_Mo_25 rfl rfl rfl (by decide +kernel) (fun q6 => [.int 0, .ref q1, .ref q2, .ref q3, .int 0, .ref q4, .ref q5, .ref q6, .null, .null, .null, .null, .null, .null, .null, .int 0, .null, .null, .null, .null, .int 0, .int 0, .int 0, .null, .null, .null, .int 0, .int 0, .int 0, .int 0, .int 0, .int 0, .int 0, .null, .null, .null, .null, .null, .null, .null, .int 0, .null, .null, .null, .null, .int 0, .int 0, .null]) (fun _ => rfl) (Nat.le_of_ble_eq_true rfl) d_Mo_init_47 d_Mo_init_49 (fun q6 H locs hP hD hS => ?_)
  dsimp only at hP hD
  refine W.widen (k := 6) (n := 48) (by decide) (by decide) ?_
  refine lv_aload_n hx hb d_Mo_init_52 rfl (lv_at hl 0 rfl) ?_
  refine lv_bipush (v := 10) hx hb d_Mo_init_53 (by decide) ?_
  refine qn_arrF (N' := 10) S hnm lw_arI hK hP hD hS hA (by decide) (by decide) (by decide) (by decide) (by decide) hi_Mo t_Mo t_Mo_ok n_Mo rfl 8 (by decide) lf_Mo_28 rfl rfl rfl (by decide +kernel) (fun q7 => [.int 0, .ref q1, .ref q2, .ref q3, .int 0, .ref q4, .ref q5, .ref q6, .ref q7, .null, .null, .null, .null, .null, .null, .int 0, .null, .null, .null, .null, .int 0, .int 0, .int 0, .null, .null, .null, .int 0, .int 0, .int 0, .int 0, .int 0, .int 0, .int 0, .null, .null, .null, .null, .null, .null, .null, .int 0, .null, .null, .null, .null, .int 0, .int 0, .null]) (fun _ => rfl) (Nat.le_of_ble_eq_true rfl) d_Mo_init_55 d_Mo_init_57 (fun q7 H locs hP hD hS => ?_)
  dsimp only at hP hD
  refine W.widen (k := 7) (n := 58) (by decide) (by decide) ?_
  refine lv_aload_n hx hb d_Mo_init_60 rfl (lv_at hl 0 rfl) ?_
  refine lv_sipush (v := 200) hx hb d_Mo_init_61 (by decide) ?_
  refine qn_arrF (N' := 200) S hnm lw_arI hK hP hD hS hA (by decide) (by decide) (by decide) (by decide) (by decide) hi_Mo t_Mo t_Mo_ok n_Mo rfl 9 (by decide) lf_Mo_31 rfl rfl rfl (by decide +kernel) (fun q8 => [.int 0, .ref q1, .ref q2, .ref q3, .int 0, .ref q4, .ref q5, .ref q6, .ref q7, .ref q8, .null, .null, .null, .null, .null, .int 0, .null, .null, .null, .null, .int 0, .int 0, .int 0, .null, .null, .null, .int 0, .int 0, .int 0, .int 0, .int 0, .int 0, .int 0, .null, .null, .null, .null, .null, .null, .null, .int 0, .null, .null, .null, .null, .int 0, .int 0, .null]) (fun _ => rfl) (Nat.le_of_ble_eq_true rfl) d_Mo_init_64 d_Mo_init_66 (fun q8 H locs hP hD hS => ?_)
  dsimp only at hP hD
  refine W.widen (k := 8) (n := 258) (by decide) (by decide) ?_
  refine lv_aload_n hx hb d_Mo_init_69 rfl (lv_at hl 0 rfl) ?_
  refine lv_sipush (v := 200) hx hb d_Mo_init_70 (by decide) ?_
  refine qn_arrF (N' := 200) S hnm lw_arI hK hP hD hS hA (by decide) (by decide) (by decide) (by decide) (by decide) hi_Mo t_Mo t_Mo_ok n_Mo rfl 10 (by decide) lf_Mo_34 rfl rfl rfl (by decide +kernel) (fun q9 => [.int 0, .ref q1, .ref q2, .ref q3, .int 0, .ref q4, .ref q5, .ref q6, .ref q7, .ref q8, .ref q9, .null, .null, .null, .null, .int 0, .null, .null, .null, .null, .int 0, .int 0, .int 0, .null, .null, .null, .int 0, .int 0, .int 0, .int 0, .int 0, .int 0, .int 0, .null, .null, .null, .null, .null, .null, .null, .int 0, .null, .null, .null, .null, .int 0, .int 0, .null]) (fun _ => rfl) (Nat.le_of_ble_eq_true rfl) d_Mo_init_73 d_Mo_init_75 (fun q9 H locs hP hD hS => ?_)
  dsimp only at hP hD
  refine W.widen (k := 9) (n := 458) (by decide) (by decide) ?_
  refine lv_aload_n hx hb d_Mo_init_78 rfl (lv_at hl 0 rfl) ?_
  refine lv_bipush (v := 10) hx hb d_Mo_init_79 (by decide) ?_
  refine qn_arrF (N' := 10) S hnm lw_arI hK hP hD hS hA (by decide) (by decide) (by decide) (by decide) (by decide) hi_Mo t_Mo t_Mo_ok n_Mo rfl 11 (by decide) lf_Mo_37 rfl rfl rfl (by decide +kernel) (fun q10 => [.int 0, .ref q1, .ref q2, .ref q3, .int 0, .ref q4, .ref q5, .ref q6, .ref q7, .ref q8, .ref q9, .ref q10, .null, .null, .null, .int 0, .null, .null, .null, .null, .int 0, .int 0, .int 0, .null, .null, .null, .int 0, .int 0, .int 0, .int 0, .int 0, .int 0, .int 0, .null, .null, .null, .null, .null, .null, .null, .int 0, .null, .null, .null, .null, .int 0, .int 0, .null]) (fun _ => rfl) (Nat.le_of_ble_eq_true rfl) d_Mo_init_81 d_Mo_init_83 (fun q10 H locs hP hD hS => ?_)
  dsimp only at hP hD
  refine W.widen (k := 10) (n := 468) (by decide) (by decide) ?_
  refine lv_aload_n hx hb d_Mo_init_86 rfl (lv_at hl 0 rfl) ?_
  refine lv_bipush (v := 30) hx hb d_Mo_init_87 (by decide) ?_
  refine qn_arrF (N' := 30) S hnm lw_arI hK hP hD hS hA (by decide) (by decide) (by decide) (by decide) (by decide) hi_Mo t_Mo t_Mo_ok n_Mo rfl 12 (by decide) lf_Mo_40 rfl rfl rfl (by decide +kernel) (fun q11 => [.int 0, .ref q1, .ref q2, .ref q3, .int 0, .ref q4, .ref q5, .ref q6, .ref q7, .ref q8, .ref q9, .ref q10, .ref q11, .null, .null, .int 0, .null, .null, .null, .null, .int 0, .int 0, .int 0, .null, .null, .null, .int 0, .int 0, .int 0, .int 0, .int 0, .int 0, .int 0, .null, .null, .null, .null, .null, .null, .null, .int 0, .null, .null, .null, .null, .int 0, .int 0, .null]) (fun _ => rfl) (Nat.le_of_ble_eq_true rfl) d_Mo_init_89 d_Mo_init_91 (fun q11 H locs hP hD hS => ?_)
  dsimp only at hP hD
  refine W.widen (k := 11) (n := 498) (by decide) (by decide) ?_
  refine lv_aload_n hx hb d_Mo_init_94 rfl (lv_at hl 0 rfl) ?_
  refine lv_bipush (v := 30) hx hb d_Mo_init_95 (by decide) ?_
  refine qn_arrF (N' := 30) S hnm lw_arI hK hP hD hS hA (by decide) (by decide) (by decide) (by decide) (by decide) hi_Mo t_Mo t_Mo_ok n_Mo rfl 13 (by decide) lf_Mo_43 rfl rfl rfl (by decide +kernel) (fun q12 => [.int 0, .ref q1, .ref q2, .ref q3, .int 0, .ref q4, .ref q5, .ref q6, .ref q7, .ref q8, .ref q9, .ref q10, .ref q11, .ref q12, .null, .int 0, .null, .null, .null, .null, .int 0, .int 0, .int 0, .null, .null, .null, .int 0, .int 0, .int 0, .int 0, .int 0, .int 0, .int 0, .null, .null, .null, .null, .null, .null, .null, .int 0, .null, .null, .null, .null, .int 0, .int 0, .null]) (fun _ => rfl) (Nat.le_of_ble_eq_true rfl) d_Mo_init_97 d_Mo_init_99 (fun q12 H locs hP hD hS => ?_)
  dsimp only at hP hD
  refine W.widen (k := 12) (n := 528) (by decide) (by decide) ?_
  refine lv_aload_n hx hb d_Mo_init_102 rfl (lv_at hl 0 rfl) ?_
  refine lv_bipush (v := 30) hx hb d_Mo_init_103 (by decide) ?_
  refine qn_arrF (N' := 30) S hnm lw_arI hK hP hD hS hA (by decide) (by decide) (by decide) (by decide) (by decide) hi_Mo t_Mo t_Mo_ok n_Mo rfl 14 (by decide) lf_Mo_46 rfl rfl rfl (by decide +kernel) (fun q13 => [.int 0, .ref q1, .ref q2, .ref q3, .int 0, .ref q4, .ref q5, .ref q6, .ref q7, .ref q8, .ref q9, .ref q10, .ref q11, .ref q12, .ref q13, .int 0, .null, .null, .null, .null, .int 0, .int 0, .int 0, .null, .null, .null, .int 0, .int 0, .int 0, .int 0, .int 0, .int 0, .int 0, .null, .null, .null, .null, .null, .null, .null, .int 0, .null, .null, .null, .null, .int 0, .int 0, .null]) (fun _ => rfl) (Nat.le_of_ble_eq_true rfl) d_Mo_init_105 d_Mo_init_107 (fun q13 H locs hP hD hS => ?_)
  dsimp only at hP hD
  refine W.widen (k := 13) (n := 558) (by decide) (by decide) ?_
  refine lv_aload_n hx hb d_Mo_init_110 rfl (lv_at hl 0 rfl) ?_
  refine lv_sipush (v := 200) hx hb d_Mo_init_111 (by decide) ?_
  refine qn_arrZ (N' := 200) S hnm lw_arZ hK hP hD hS hA (by decide) (by decide) (by decide) (by decide) (by decide) hi_Mo t_Mo t_Mo_ok n_Mo rfl 16 (by decide) lf_Mo_49 rfl rfl rfl (by decide +kernel) (fun q14 => [.int 0, .ref q1, .ref q2, .ref q3, .int 0, .ref q4, .ref q5, .ref q6, .ref q7, .ref q8, .ref q9, .ref q10, .ref q11, .ref q12, .ref q13, .int 0, .ref q14, .null, .null, .null, .int 0, .int 0, .int 0, .null, .null, .null, .int 0, .int 0, .int 0, .int 0, .int 0, .int 0, .int 0, .null, .null, .null, .null, .null, .null, .null, .int 0, .null, .null, .null, .null, .int 0, .int 0, .null]) (fun _ => rfl) (Nat.le_of_ble_eq_true rfl) d_Mo_init_114 d_Mo_init_116 (fun q14 H locs hP hD hS => ?_)
  dsimp only at hP hD
  refine W.widen (k := 14) (n := 758) (by decide) (by decide) ?_
  refine lv_aload_n hx hb d_Mo_init_119 rfl (lv_at hl 0 rfl) ?_
  refine lv_sipush (v := 200) hx hb d_Mo_init_120 (by decide) ?_
  refine qn_arrF (N' := 200) S hnm lw_arI hK hP hD hS hA (by decide) (by decide) (by decide) (by decide) (by decide) hi_Mo t_Mo t_Mo_ok n_Mo rfl 17 (by decide) lf_Mo_53 rfl rfl rfl (by decide +kernel) (fun q15 => [.int 0, .ref q1, .ref q2, .ref q3, .int 0, .ref q4, .ref q5, .ref q6, .ref q7, .ref q8, .ref q9, .ref q10, .ref q11, .ref q12, .ref q13, .int 0, .ref q14, .ref q15, .null, .null, .int 0, .int 0, .int 0, .null, .null, .null, .int 0, .int 0, .int 0, .int 0, .int 0, .int 0, .int 0, .null, .null, .null, .null, .null, .null, .null, .int 0, .null, .null, .null, .null, .int 0, .int 0, .null]) (fun _ => rfl) (Nat.le_of_ble_eq_true rfl) d_Mo_init_123 d_Mo_init_125 (fun q15 H locs hP hD hS => ?_)
  dsimp only at hP hD
  refine W.widen (k := 15) (n := 958) (by decide) (by decide) ?_
  refine lv_aload_n hx hb d_Mo_init_128 rfl (lv_at hl 0 rfl) ?_
  refine lv_sipush (v := 2000) hx hb d_Mo_init_129 (by decide) ?_
  refine qn_arrF (N' := 2000) S hnm lw_arI hK hP hD hS hA (by decide) (by decide) (by decide) (by decide) (by decide) hi_Mo t_Mo t_Mo_ok n_Mo rfl 18 (by decide) lf_Mo_56 rfl rfl rfl (by decide +kernel) (fun q16 => [.int 0, .ref q1, .ref q2, .ref q3, .int 0, .ref q4, .ref q5, .ref q6, .ref q7, .ref q8, .ref q9, .ref q10, .ref q11, .ref q12, .ref q13, .int 0, .ref q14, .ref q15, .ref q16, .null, .int 0, .int 0, .int 0, .null, .null, .null, .int 0, .int 0, .int 0, .int 0, .int 0, .int 0, .int 0, .null, .null, .null, .null, .null, .null, .null, .int 0, .null, .null, .null, .null, .int 0, .int 0, .null]) (fun _ => rfl) (Nat.le_of_ble_eq_true rfl) d_Mo_init_132 d_Mo_init_134 (fun q16 H locs hP hD hS => ?_)
  dsimp only at hP hD
  refine W.widen (k := 16) (n := 2958) (by decide) (by decide) ?_
  refine lv_aload_n hx hb d_Mo_init_137 rfl (lv_at hl 0 rfl) ?_
  refine lv_bipush (v := 10) hx hb d_Mo_init_138 (by decide) ?_
  refine qn_arrF (N' := 10) S hnm lw_arI hK hP hD hS hA (by decide) (by decide) (by decide) (by decide) (by decide) hi_Mo t_Mo t_Mo_ok n_Mo rfl 19 (by decide) lf_Mo_59 rfl rfl rfl (by decide +kernel) (fun q17 => [.int 0, .ref q1, .ref q2, .ref q3, .int 0, .ref q4, .ref q5, .ref q6, .ref q7, .ref q8, .ref q9, .ref q10, .ref q11, .ref q12, .ref q13, .int 0, .ref q14, .ref q15, .ref q16, .ref q17, .int 0, .int 0, .int 0, .null, .null, .null, .int 0, .int 0, .int 0, .int 0, .int 0, .int 0, .int 0, .null, .null, .null, .null, .null, .null, .null, .int 0, .null, .null, .null, .null, .int 0, .int 0, .null]) (fun _ => rfl) (Nat.le_of_ble_eq_true rfl) d_Mo_init_140 d_Mo_init_142 (fun q17 H locs hP hD hS => ?_)
  dsimp only at hP hD
  refine W.widen (k := 17) (n := 2968) (by decide) (by decide) ?_
  refine lv_aload_n hx hb d_Mo_init_145 rfl (lv_at hl 0 rfl) ?_
  refine lv_bipush (v := 10) hx hb d_Mo_init_146 (by decide) ?_
  refine qn_arrZ (N' := 10) S hnm lw_arZ hK hP hD hS hA (by decide) (by decide) (by decide) (by decide) (by decide) hi_Mo t_Mo t_Mo_ok n_Mo rfl 23 (by decide) lf_Mo_62 rfl rfl rfl (by decide +kernel) (fun q18 => [.int 0, .ref q1, .ref q2, .ref q3, .int 0, .ref q4, .ref q5, .ref q6, .ref q7, .ref q8, .ref q9, .ref q10, .ref q11, .ref q12, .ref q13, .int 0, .ref q14, .ref q15, .ref q16, .ref q17, .int 0, .int 0, .int 0, .ref q18, .null, .null, .int 0, .int 0, .int 0, .int 0, .int 0, .int 0, .int 0, .null, .null, .null, .null, .null, .null, .null, .int 0, .null, .null, .null, .null, .int 0, .int 0, .null]) (fun _ => rfl) (Nat.le_of_ble_eq_true rfl) d_Mo_init_148 d_Mo_init_150 (fun q18 H locs hP hD hS => ?_)
  dsimp only at hP hD
  refine W.widen (k := 18) (n := 2978) (by decide) (by decide) ?_
  refine lv_aload_n hx hb d_Mo_init_153 rfl (lv_at hl 0 rfl) ?_
  refine lv_bipush (v := 6) hx hb d_Mo_init_154 (by decide) ?_
  refine qn_arrZ (N' := 6) S hnm lw_arZ hK hP hD hS hA (by decide) (by decide) (by decide) (by decide) (by decide) hi_Mo t_Mo t_Mo_ok n_Mo rfl 24 (by decide) lf_Mo_65 rfl rfl rfl (by decide +kernel) (fun q19 => [.int 0, .ref q1, .ref q2, .ref q3, .int 0, .ref q4, .ref q5, .ref q6, .ref q7, .ref q8, .ref q9, .ref q10, .ref q11, .ref q12, .ref q13, .int 0, .ref q14, .ref q15, .ref q16, .ref q17, .int 0, .int 0, .int 0, .ref q18, .ref q19, .null, .int 0, .int 0, .int 0, .int 0, .int 0, .int 0, .int 0, .null, .null, .null, .null, .null, .null, .null, .int 0, .null, .null, .null, .null, .int 0, .int 0, .null]) (fun _ => rfl) (Nat.le_of_ble_eq_true rfl) d_Mo_init_156 d_Mo_init_158 (fun q19 H locs hP hD hS => ?_)
  dsimp only at hP hD
  refine W.widen (k := 19) (n := 2984) (by decide) (by decide) ?_
  refine lv_aload_n hx hb d_Mo_init_161 rfl (lv_at hl 0 rfl) ?_
  refine lv_bipush (v := 6) hx hb d_Mo_init_162 (by decide) ?_
  refine qn_arrZ (N' := 6) S hnm lw_arZ hK hP hD hS hA (by decide) (by decide) (by decide) (by decide) (by decide) hi_Mo t_Mo t_Mo_ok n_Mo rfl 25 (by decide) lf_Mo_68 rfl rfl rfl (by decide +kernel) (fun q20 => [.int 0, .ref q1, .ref q2, .ref q3, .int 0, .ref q4, .ref q5, .ref q6, .ref q7, .ref q8, .ref q9, .ref q10, .ref q11, .ref q12, .ref q13, .int 0, .ref q14, .ref q15, .ref q16, .ref q17, .int 0, .int 0, .int 0, .ref q18, .ref q19, .ref q20, .int 0, .int 0, .int 0, .int 0, .int 0, .int 0, .int 0, .null, .null, .null, .null, .null, .null, .null, .int 0, .null, .null, .null, .null, .int 0, .int 0, .null]) (fun _ => rfl) (Nat.le_of_ble_eq_true rfl) d_Mo_init_164 d_Mo_init_166 (fun q20 H locs hP hD hS => ?_)
  dsimp only at hP hD
  refine W.widen (k := 20) (n := 2990) (by decide) (by decide) ?_
  refine lv_aload_n hx hb d_Mo_init_169 rfl (lv_at hl 0 rfl) ?_
  refine lv_bipush (v := 10) hx hb d_Mo_init_170 (by decide) ?_
  refine qn_arrF (N' := 10) S hnm lw_arI hK hP hD hS hA (by decide) (by decide) (by decide) (by decide) (by decide) hi_Mo t_Mo t_Mo_ok n_Mo rfl 33 (by decide) lf_Mo_71 rfl rfl rfl (by decide +kernel) (fun q21 => [.int 0, .ref q1, .ref q2, .ref q3, .int 0, .ref q4, .ref q5, .ref q6, .ref q7, .ref q8, .ref q9, .ref q10, .ref q11, .ref q12, .ref q13, .int 0, .ref q14, .ref q15, .ref q16, .ref q17, .int 0, .int 0, .int 0, .ref q18, .ref q19, .ref q20, .int 0, .int 0, .int 0, .int 0, .int 0, .int 0, .int 0, .ref q21, .null, .null, .null, .null, .null, .null, .int 0, .null, .null, .null, .null, .int 0, .int 0, .null]) (fun _ => rfl) (Nat.le_of_ble_eq_true rfl) d_Mo_init_172 d_Mo_init_174 (fun q21 H locs hP hD hS => ?_)
  dsimp only at hP hD
  refine W.widen (k := 21) (n := 3000) (by decide) (by decide) ?_
  refine lv_aload_n hx hb d_Mo_init_177 rfl (lv_at hl 0 rfl) ?_
  refine lv_bipush (v := 10) hx hb d_Mo_init_178 (by decide) ?_
  refine qn_arrF (N' := 10) S hnm lw_arI hK hP hD hS hA (by decide) (by decide) (by decide) (by decide) (by decide) hi_Mo t_Mo t_Mo_ok n_Mo rfl 34 (by decide) lf_Mo_74 rfl rfl rfl (by decide +kernel) (fun q22 => [.int 0, .ref q1, .ref q2, .ref q3, .int 0, .ref q4, .ref q5, .ref q6, .ref q7, .ref q8, .ref q9, .ref q10, .ref q11, .ref q12, .ref q13, .int 0, .ref q14, .ref q15, .ref q16, .ref q17, .int 0, .int 0, .int 0, .ref q18, .ref q19, .ref q20, .int 0, .int 0, .int 0, .int 0, .int 0, .int 0, .int 0, .ref q21, .ref q22, .null, .null, .null, .null, .null, .int 0, .null, .null, .null, .null, .int 0, .int 0, .null]) (fun _ => rfl) (Nat.le_of_ble_eq_true rfl) d_Mo_init_180 d_Mo_init_182 (fun q22 H locs hP hD hS => ?_)
  dsimp only at hP hD
  refine W.widen (k := 22) (n := 3010) (by decide) (by decide) ?_
  refine lv_aload_n hx hb d_Mo_init_185 rfl (lv_at hl 0 rfl) ?_
  refine lv_bipush (v := 10) hx hb d_Mo_init_186 (by decide) ?_
  refine qn_arrF (N' := 10) S hnm lw_arI hK hP hD hS hA (by decide) (by decide) (by decide) (by decide) (by decide) hi_Mo t_Mo t_Mo_ok n_Mo rfl 35 (by decide) lf_Mo_77 rfl rfl rfl (by decide +kernel) (fun q23 => [.int 0, .ref q1, .ref q2, .ref q3, .int 0, .ref q4, .ref q5, .ref q6, .ref q7, .ref q8, .ref q9, .ref q10, .ref q11, .ref q12, .ref q13, .int 0, .ref q14, .ref q15, .ref q16, .ref q17, .int 0, .int 0, .int 0, .ref q18, .ref q19, .ref q20, .int 0, .int 0, .int 0, .int 0, .int 0, .int 0, .int 0, .ref q21, .ref q22, .ref q23, .null, .null, .null, .null, .int 0, .null, .null, .null, .null, .int 0, .int 0, .null]) (fun _ => rfl) (Nat.le_of_ble_eq_true rfl) d_Mo_init_188 d_Mo_init_190 (fun q23 H locs hP hD hS => ?_)
  dsimp only at hP hD
  refine W.widen (k := 23) (n := 3020) (by decide) (by decide) ?_
  refine lv_aload_n hx hb d_Mo_init_193 rfl (lv_at hl 0 rfl) ?_
  refine lv_bipush (v := 10) hx hb d_Mo_init_194 (by decide) ?_
  refine qn_arrZ (N' := 10) S hnm lw_arZ hK hP hD hS hA (by decide) (by decide) (by decide) (by decide) (by decide) hi_Mo t_Mo t_Mo_ok n_Mo rfl 36 (by decide) lf_Mo_80 rfl rfl rfl (by decide +kernel) (fun q24 => [.int 0, .ref q1, .ref q2, .ref q3, .int 0, .ref q4, .ref q5, .ref q6, .ref q7, .ref q8, .ref q9, .ref q10, .ref q11, .ref q12, .ref q13, .int 0, .ref q14, .ref q15, .ref q16, .ref q17, .int 0, .int 0, .int 0, .ref q18, .ref q19, .ref q20, .int 0, .int 0, .int 0, .int 0, .int 0, .int 0, .int 0, .ref q21, .ref q22, .ref q23, .ref q24, .null, .null, .null, .int 0, .null, .null, .null, .null, .int 0, .int 0, .null]) (fun _ => rfl) (Nat.le_of_ble_eq_true rfl) d_Mo_init_196 d_Mo_init_198 (fun q24 H locs hP hD hS => ?_)
  dsimp only at hP hD
  refine W.widen (k := 24) (n := 3030) (by decide) (by decide) ?_
  refine lv_aload_n hx hb d_Mo_init_201 rfl (lv_at hl 0 rfl) ?_
  refine lv_bipush (v := 10) hx hb d_Mo_init_202 (by decide) ?_
  refine qn_arrZ (N' := 10) S hnm lw_arZ hK hP hD hS hA (by decide) (by decide) (by decide) (by decide) (by decide) hi_Mo t_Mo t_Mo_ok n_Mo rfl 37 (by decide) lf_Mo_83 rfl rfl rfl (by decide +kernel) (fun q25 => [.int 0, .ref q1, .ref q2, .ref q3, .int 0, .ref q4, .ref q5, .ref q6, .ref q7, .ref q8, .ref q9, .ref q10, .ref q11, .ref q12, .ref q13, .int 0, .ref q14, .ref q15, .ref q16, .ref q17, .int 0, .int 0, .int 0, .ref q18, .ref q19, .ref q20, .int 0, .int 0, .int 0, .int 0, .int 0, .int 0, .int 0, .ref q21, .ref q22, .ref q23, .ref q24, .ref q25, .null, .null, .int 0, .null, .null, .null, .null, .int 0, .int 0, .null]) (fun _ => rfl) (Nat.le_of_ble_eq_true rfl) d_Mo_init_204 d_Mo_init_206 (fun q25 H locs hP hD hS => ?_)
  dsimp only at hP hD
  refine W.widen (k := 25) (n := 3040) (by decide) (by decide) ?_
  refine lv_aload_n hx hb d_Mo_init_209 rfl (lv_at hl 0 rfl) ?_
  refine lv_bipush (v := 40) hx hb d_Mo_init_210 (by decide) ?_
  refine qn_arrF (N' := 40) S hnm lw_arI hK hP hD hS hA (by decide) (by decide) (by decide) (by decide) (by decide) hi_Mo t_Mo t_Mo_ok n_Mo rfl 38 (by decide) lf_Mo_86 rfl rfl rfl (by decide +kernel) (fun q26 => [.int 0, .ref q1, .ref q2, .ref q3, .int 0, .ref q4, .ref q5, .ref q6, .ref q7, .ref q8, .ref q9, .ref q10, .ref q11, .ref q12, .ref q13, .int 0, .ref q14, .ref q15, .ref q16, .ref q17, .int 0, .int 0, .int 0, .ref q18, .ref q19, .ref q20, .int 0, .int 0, .int 0, .int 0, .int 0, .int 0, .int 0, .ref q21, .ref q22, .ref q23, .ref q24, .ref q25, .ref q26, .null, .int 0, .null, .null, .null, .null, .int 0, .int 0, .null]) (fun _ => rfl) (Nat.le_of_ble_eq_true rfl) d_Mo_init_212 d_Mo_init_214 (fun q26 H locs hP hD hS => ?_)
  dsimp only at hP hD
  refine W.widen (k := 26) (n := 3080) (by decide) (by decide) ?_
  refine lv_aload_n hx hb d_Mo_init_217 rfl (lv_at hl 0 rfl) ?_
  refine lv_bipush (v := 60) hx hb d_Mo_init_218 (by decide) ?_
  refine qn_arrF (N' := 60) S hnm lw_arI hK hP hD hS hA (by decide) (by decide) (by decide) (by decide) (by decide) hi_Mo t_Mo t_Mo_ok n_Mo rfl 39 (by decide) lf_Mo_89 rfl rfl rfl (by decide +kernel) (fun q27 => [.int 0, .ref q1, .ref q2, .ref q3, .int 0, .ref q4, .ref q5, .ref q6, .ref q7, .ref q8, .ref q9, .ref q10, .ref q11, .ref q12, .ref q13, .int 0, .ref q14, .ref q15, .ref q16, .ref q17, .int 0, .int 0, .int 0, .ref q18, .ref q19, .ref q20, .int 0, .int 0, .int 0, .int 0, .int 0, .int 0, .int 0, .ref q21, .ref q22, .ref q23, .ref q24, .ref q25, .ref q26, .ref q27, .int 0, .null, .null, .null, .null, .int 0, .int 0, .null]) (fun _ => rfl) (Nat.le_of_ble_eq_true rfl) d_Mo_init_220 d_Mo_init_222 (fun q27 H locs hP hD hS => ?_)
  dsimp only at hP hD
  refine W.widen (k := 27) (n := 3140) (by decide) (by decide) ?_
  refine lv_aload_n hx hb d_Mo_init_225 rfl (lv_at hl 0 rfl) ?_
  refine lv_bipush (v := 16) hx hb d_Mo_init_226 (by decide) ?_
  refine qn_arrF (N' := 16) S hnm lw_arI hK hP hD hS hA (by decide) (by decide) (by decide) (by decide) (by decide) hi_Mo t_Mo t_Mo_ok n_Mo rfl 41 (by decide) lf_Mo_92 rfl rfl rfl (by decide +kernel) (fun q28 => [.int 0, .ref q1, .ref q2, .ref q3, .int 0, .ref q4, .ref q5, .ref q6, .ref q7, .ref q8, .ref q9, .ref q10, .ref q11, .ref q12, .ref q13, .int 0, .ref q14, .ref q15, .ref q16, .ref q17, .int 0, .int 0, .int 0, .ref q18, .ref q19, .ref q20, .int 0, .int 0, .int 0, .int 0, .int 0, .int 0, .int 0, .ref q21, .ref q22, .ref q23, .ref q24, .ref q25, .ref q26, .ref q27, .int 0, .ref q28, .null, .null, .null, .int 0, .int 0, .null]) (fun _ => rfl) (Nat.le_of_ble_eq_true rfl) d_Mo_init_228 d_Mo_init_230 (fun q28 H locs hP hD hS => ?_)
  dsimp only at hP hD
  refine W.widen (k := 28) (n := 3156) (by decide) (by decide) ?_
  refine lv_aload_n hx hb d_Mo_init_233 rfl (lv_at hl 0 rfl) ?_
  refine lv_bipush (v := 96) hx hb d_Mo_init_234 (by decide) ?_
  refine qn_arrF (N' := 96) S hnm lw_arI hK hP hD hS hA (by decide) (by decide) (by decide) (by decide) (by decide) hi_Mo t_Mo t_Mo_ok n_Mo rfl 42 (by decide) lf_Mo_95 rfl rfl rfl (by decide +kernel) (fun q29 => [.int 0, .ref q1, .ref q2, .ref q3, .int 0, .ref q4, .ref q5, .ref q6, .ref q7, .ref q8, .ref q9, .ref q10, .ref q11, .ref q12, .ref q13, .int 0, .ref q14, .ref q15, .ref q16, .ref q17, .int 0, .int 0, .int 0, .ref q18, .ref q19, .ref q20, .int 0, .int 0, .int 0, .int 0, .int 0, .int 0, .int 0, .ref q21, .ref q22, .ref q23, .ref q24, .ref q25, .ref q26, .ref q27, .int 0, .ref q28, .ref q29, .null, .null, .int 0, .int 0, .null]) (fun _ => rfl) (Nat.le_of_ble_eq_true rfl) d_Mo_init_236 d_Mo_init_238 (fun q29 H locs hP hD hS => ?_)
  dsimp only at hP hD
  refine W.widen (k := 29) (n := 3252) (by decide) (by decide) ?_
  refine lv_aload_n hx hb d_Mo_init_241 rfl (lv_at hl 0 rfl) ?_
  refine lv_bipush (v := 6) hx hb d_Mo_init_242 (by decide) ?_
  refine qn_arrF (N' := 6) S hnm lw_arI hK hP hD hS hA (by decide) (by decide) (by decide) (by decide) (by decide) hi_Mo t_Mo t_Mo_ok n_Mo rfl 43 (by decide) lf_Mo_98 rfl rfl rfl (by decide +kernel) (fun q30 => [.int 0, .ref q1, .ref q2, .ref q3, .int 0, .ref q4, .ref q5, .ref q6, .ref q7, .ref q8, .ref q9, .ref q10, .ref q11, .ref q12, .ref q13, .int 0, .ref q14, .ref q15, .ref q16, .ref q17, .int 0, .int 0, .int 0, .ref q18, .ref q19, .ref q20, .int 0, .int 0, .int 0, .int 0, .int 0, .int 0, .int 0, .ref q21, .ref q22, .ref q23, .ref q24, .ref q25, .ref q26, .ref q27, .int 0, .ref q28, .ref q29, .ref q30, .null, .int 0, .int 0, .null]) (fun _ => rfl) (Nat.le_of_ble_eq_true rfl) d_Mo_init_244 d_Mo_init_246 (fun q30 H locs hP hD hS => ?_)
  dsimp only at hP hD
  refine W.widen (k := 30) (n := 3258) (by decide) (by decide) ?_
  refine lv_aload_n hx hb d_Mo_init_249 rfl (lv_at hl 0 rfl) ?_
  refine lv_bipush (v := 6) hx hb d_Mo_init_250 (by decide) ?_
  refine qn_arrF (N' := 6) S hnm lw_arI hK hP hD hS hA (by decide) (by decide) (by decide) (by decide) (by decide) hi_Mo t_Mo t_Mo_ok n_Mo rfl 44 (by decide) lf_Mo_101 rfl rfl rfl (by decide +kernel) (fun q31 => [.int 0, .ref q1, .ref q2, .ref q3, .int 0, .ref q4, .ref q5, .ref q6, .ref q7, .ref q8, .ref q9, .ref q10, .ref q11, .ref q12, .ref q13, .int 0, .ref q14, .ref q15, .ref q16, .ref q17, .int 0, .int 0, .int 0, .ref q18, .ref q19, .ref q20, .int 0, .int 0, .int 0, .int 0, .int 0, .int 0, .int 0, .ref q21, .ref q22, .ref q23, .ref q24, .ref q25, .ref q26, .ref q27, .int 0, .ref q28, .ref q29, .ref q30, .ref q31, .int 0, .int 0, .null]) (fun _ => rfl) (Nat.le_of_ble_eq_true rfl) d_Mo_init_252 d_Mo_init_254 (fun q31 H locs hP hD hS => ?_)
  dsimp only at hP hD
  refine W.widen (k := 31) (n := 3264) (by decide) (by decide) ?_
  refine lv_aload_n hx hb d_Mo_init_257 rfl (lv_at hl 0 rfl) ?_
  refine lv_bipush (v := 16) hx hb d_Mo_init_258 (by decide) ?_
  refine qn_arrF (N' := 16) S hnm lw_arI hK hP hD hS hA (by decide) (by decide) (by decide) (by decide) (by decide) hi_Mo t_Mo t_Mo_ok n_Mo rfl 47 (by decide) lf_Mo_104 rfl rfl rfl (by decide +kernel) (fun q32 => [.int 0, .ref q1, .ref q2, .ref q3, .int 0, .ref q4, .ref q5, .ref q6, .ref q7, .ref q8, .ref q9, .ref q10, .ref q11, .ref q12, .ref q13, .int 0, .ref q14, .ref q15, .ref q16, .ref q17, .int 0, .int 0, .int 0, .ref q18, .ref q19, .ref q20, .int 0, .int 0, .int 0, .int 0, .int 0, .int 0, .int 0, .ref q21, .ref q22, .ref q23, .ref q24, .ref q25, .ref q26, .ref q27, .int 0, .ref q28, .ref q29, .ref q30, .ref q31, .int 0, .int 0, .ref q32]) (fun _ => rfl) (Nat.le_of_ble_eq_true rfl) d_Mo_init_260 d_Mo_init_262 (fun q32 H locs hP hD hS => ?_)
  dsimp only at hP hD
  refine W.widen (k := 32) (n := 3280) (by decide) (by decide) ?_
  simp only [List.nil_append, List.cons_append, List.append_assoc] at hP hD
  have hP9 : va_P D qa_cl (qn_w 0 33 (nu_Mo h0 q1 q2 q3 q4 q5 q6 q7 q8 q9 q10 q11 q12 q13 q14 q15 q16 q17 q18 q19 q20 q21 q22 q23 q24 q25 q26 q27 q28 q29 q30 q31 q32) (me_en cI cZ (nu_Mo h0 q1 q2 q3 q4 q5 q6 q7 q8 q9 q10 q11 q12 q13 q14 q15 q16 q17 q18 q19 q20 q21 q22 q23 q24 q25 q26 q27 q28 q29 q30 q31 q32))) H := by
    intro k x hx
    have hk : k < 33 := qn_w_lt hx
    rw [qn_w_get hk] at hx
    obtain rfl := Option.some.inj hx
    match k, hk with
    | 0, _ => exact (show va_at D qa_cl (h0, .inr (6, [.int 0, .ref q1, .ref q2, .ref q3, .int 0, .ref q4, .ref q5, .ref q6, .ref q7, .ref q8, .ref q9, .ref q10, .ref q11, .ref q12, .ref q13, .int 0, .ref q14, .ref q15, .ref q16, .ref q17, .int 0, .int 0, .int 0, .ref q18, .ref q19, .ref q20, .int 0, .int 0, .int 0, .int 0, .int 0, .int 0, .int 0, .ref q21, .ref q22, .ref q23, .ref q24, .ref q25, .ref q26, .ref q27, .int 0, .ref q28, .ref q29, .ref q30, .ref q31, .int 0, .int 0, .ref q32])) H from hP 0 _ rfl)
    | 1, _ => exact (show va_at D qa_cl (q1, .inl (cI, 6, .inl (fun _ => 0))) H from hP 1 _ rfl)
    | 2, _ => exact (show va_at D qa_cl (q2, .inl (cI, 6, .inl (fun _ => 0))) H from hP 2 _ rfl)
    | 3, _ => exact (show va_at D qa_cl (q3, .inl (cI, 6, .inl (fun _ => 0))) H from hP 3 _ rfl)
    | 4, _ => exact (show va_at D qa_cl (q4, .inl (cI, 10, .inl (fun _ => 0))) H from hP 4 _ rfl)
    | 5, _ => exact (show va_at D qa_cl (q5, .inl (cI, 10, .inl (fun _ => 0))) H from hP 5 _ rfl)
    | 6, _ => exact (show va_at D qa_cl (q6, .inl (cI, 10, .inl (fun _ => 0))) H from hP 6 _ rfl)
    | 7, _ => exact (show va_at D qa_cl (q7, .inl (cI, 10, .inl (fun _ => 0))) H from hP 7 _ rfl)
    | 8, _ => exact (show va_at D qa_cl (q8, .inl (cI, 200, .inl (fun _ => 0))) H from hP 8 _ rfl)
    | 9, _ => exact (show va_at D qa_cl (q9, .inl (cI, 200, .inl (fun _ => 0))) H from hP 9 _ rfl)
    | 10, _ => exact (show va_at D qa_cl (q10, .inl (cI, 10, .inl (fun _ => 0))) H from hP 10 _ rfl)
    | 11, _ => exact (show va_at D qa_cl (q11, .inl (cI, 30, .inl (fun _ => 0))) H from hP 11 _ rfl)
    | 12, _ => exact (show va_at D qa_cl (q12, .inl (cI, 30, .inl (fun _ => 0))) H from hP 12 _ rfl)
    | 13, _ => exact (show va_at D qa_cl (q13, .inl (cI, 30, .inl (fun _ => 0))) H from hP 13 _ rfl)
    | 14, _ => exact (show va_at D qa_cl (q14, .inl (cZ, 200, .inl (fun _ => 0))) H from hP 14 _ rfl)
    | 15, _ => exact (show va_at D qa_cl (q15, .inl (cI, 200, .inl (fun _ => 0))) H from hP 15 _ rfl)
    | 16, _ => exact (show va_at D qa_cl (q16, .inl (cI, 2000, .inl (fun _ => 0))) H from hP 16 _ rfl)
    | 17, _ => exact (show va_at D qa_cl (q17, .inl (cI, 10, .inl (fun _ => 0))) H from hP 17 _ rfl)
    | 18, _ => exact (show va_at D qa_cl (q18, .inl (cZ, 10, .inl (fun _ => 0))) H from hP 18 _ rfl)
    | 19, _ => exact (show va_at D qa_cl (q19, .inl (cZ, 6, .inl (fun _ => 0))) H from hP 19 _ rfl)
    | 20, _ => exact (show va_at D qa_cl (q20, .inl (cZ, 6, .inl (fun _ => 0))) H from hP 20 _ rfl)
    | 21, _ => exact (show va_at D qa_cl (q21, .inl (cI, 10, .inl (fun _ => 0))) H from hP 21 _ rfl)
    | 22, _ => exact (show va_at D qa_cl (q22, .inl (cI, 10, .inl (fun _ => 0))) H from hP 22 _ rfl)
    | 23, _ => exact (show va_at D qa_cl (q23, .inl (cI, 10, .inl (fun _ => 0))) H from hP 23 _ rfl)
    | 24, _ => exact (show va_at D qa_cl (q24, .inl (cZ, 10, .inl (fun _ => 0))) H from hP 24 _ rfl)
    | 25, _ => exact (show va_at D qa_cl (q25, .inl (cZ, 10, .inl (fun _ => 0))) H from hP 25 _ rfl)
    | 26, _ => exact (show va_at D qa_cl (q26, .inl (cI, 40, .inl (fun _ => 0))) H from hP 26 _ rfl)
    | 27, _ => exact (show va_at D qa_cl (q27, .inl (cI, 60, .inl (fun _ => 0))) H from hP 27 _ rfl)
    | 28, _ => exact (show va_at D qa_cl (q28, .inl (cI, 16, .inl (fun _ => 0))) H from hP 28 _ rfl)
    | 29, _ => exact (show va_at D qa_cl (q29, .inl (cI, 96, .inl (fun _ => 0))) H from hP 29 _ rfl)
    | 30, _ => exact (show va_at D qa_cl (q30, .inl (cI, 6, .inl (fun _ => 0))) H from hP 30 _ rfl)
    | 31, _ => exact (show va_at D qa_cl (q31, .inl (cI, 6, .inl (fun _ => 0))) H from hP 31 _ rfl)
    | 32, _ => exact (show va_at D qa_cl (q32, .inl (cI, 16, .inl (fun _ => 0))) H from hP 32 _ rfl)
    | z + 33, h => exact absurd h (by omega)
  have hD9 : va_D A (qn_w 0 33 (nu_Mo h0 q1 q2 q3 q4 q5 q6 q7 q8 q9 q10 q11 q12 q13 q14 q15 q16 q17 q18 q19 q20 q21 q22 q23 q24 q25 q26 q27 q28 q29 q30 q31 q32) (me_en cI cZ (nu_Mo h0 q1 q2 q3 q4 q5 q6 q7 q8 q9 q10 q11 q12 q13 q14 q15 q16 q17 q18 q19 q20 q21 q22 q23 q24 q25 q26 q27 q28 q29 q30 q31 q32))) := qn_D hD rfl
  exact ret (u := (nu_Mo h0 q1 q2 q3 q4 q5 q6 q7 q8 q9 q10 q11 q12 q13 q14 q15 q16 q17 q18 q19 q20 q21 q22 q23 q24 q25 q26 q27 q28 q29 q30 q31 q32)) rfl hP9 hD9 hS d_Mo_init_265
