def xf_Fr_setSize (g : qa_St) (r0 : Nat) (x1 : Int32) : qa_Re := (some (0, (qa_up g r0 1 x1)))
set_option maxHeartbeats 4000000 in
set_option maxRecDepth 100000 in
theorem xc_Fr_setSize (l : Launch) (D : va_G) (cI cJ cF cZ : ClassId) (ad : Nat → Nat) (g : qa_St) (r0 : Nat) (x1 : Int32) (hf0 : xe_F r0) : qa_Mv l y_Fr_setSize (qa_ws y_Fr_setSize b_Fr_setSize 2 none) (qa_rm 0 0) D (qa_ty cI cJ cF cZ) 107 ad (xe_en cI cJ cF ad) [.ref (ad r0), .int x1] g (xf_Fr_setSize g r0 x1) := by
  refine qa_metv (by decide) (Nat.le_of_ble_eq_true rfl) ?_
  intro p e s m args below meth c Q A T S hK hN hA hT ret ls hl hO
  have hx := S.1
  have hb := S.2.1
  have hl : lv_has ls 2 [(0, .ref (ad r0)), (1, .int x1)] := hl
  unfold xf_Fr_setSize at hT
  refine lv_aload_n hx hb d_Fr_setSize_0 rfl (lv_at hl 0 rfl) ?_
  refine lv_iload_n hx hb d_Fr_setSize_1 rfl (lv_at hl 1 rfl) ?_
  refine qa_put S hK hO hi_Fr t_Fr t_Fr_ok n_Fr r0 (xe_Flt hf0) (xe_fr hf0 _) rfl 1 (by decide) lf_Fr_21 rfl rfl (ty := .int) (by decide +kernel) rfl rfl (Nat.le_of_ble_eq_true rfl) (by rw [xe_fr hf0]; rfl) d_Fr_setSize_2 (fun H locs hO => ?_)
  exact ret hT hO d_Fr_setSize_5
def xf_Ch_recall_24 : Nat → qa_St → Int32 → Int32 → qa_Re
  | 0, _, _, _ => none
  | n + 1, g, x2, x3 => (if x2 < 0 ∨ 200 ≤ x2.toNatClampNeg then none else (if ((4 : Int32) + (g 74 x2.toNatClampNeg)) ≤ x3 then (some (0, g)) else (if ((x2 * (10 : Int32)) + x3) < 0 ∨ 2000 ≤ ((x2 * (10 : Int32)) + x3).toNatClampNeg then none else ((xf_Fr_setPlace g 75 x3 (g 73 ((x2 * (10 : Int32)) + x3).toNatClampNeg)).bind fun t52 => ((xf_Ch_recall_24 n) t52.2 x2 (x3 + 1))))))
def xf_Ch_recall (g : qa_St) (x1 : Int32) : qa_Re := ((xf_Ch_rowOf g (g 72 4) x1).bind fun t5 => (if t5.1 < 0 ∨ 200 ≤ t5.1.toNatClampNeg then none else ((xf_Fr_setSize t5.2 75 (t5.2 74 t5.1.toNatClampNeg)).bind fun t19 => (xf_Ch_recall_24 4096 t19.2 t5.1 (0 : Int32)))))
set_option maxHeartbeats 4000000 in
set_option maxRecDepth 100000 in
theorem xc_Ch_recall (l : Launch) (D : va_G) (cI cJ cF cZ : ClassId) (ad : Nat → Nat) (g : qa_St) (x1 : Int32) : qa_Mv l y_Ch_recall (qa_ws y_Ch_recall b_Ch_recall 4 none) (qa_rm 2 43) D (qa_ty cI cJ cF cZ) 107 ad (xe_en cI cJ cF ad) [.ref (ad 72), .int x1] g (xf_Ch_recall g x1) := by
  refine qa_metv (by decide) (Nat.le_of_ble_eq_true rfl) ?_
  intro p e s m args below meth c Q A T S hK hN hA hT ret ls hl hO
  have hx := S.1
  have hb := S.2.1
  have hl : lv_has ls 4 [(0, .ref (ad 72)), (1, .int x1)] := hl
  have b24 : ∀ (n : Nat), ∀ (g : qa_St) (x2 : Int32) (x3 : Int32) (ls : Array Slot) (H : Heap) (locs : List Loc), lv_has ls 4 [(0, .ref (ad 72)), (2, .int x2), (3, .int x3)] → qa_O D 107 ad (xe_en cI cJ cF ad) A s.heap g H locs → xf_Ch_recall_24 n g x2 x3 = some T → W p l e (qa_rm 2 43) s m args below meth c H locs 0 0 Q (F0 m 24 ls []) := by
    intro n
    induction n with
    | zero => intro g x2 x3 ls H locs hl hO hT; rw [xf_Ch_recall_24] at hT; cases hT
    | succ n ih =>
      intro g x2 x3 ls H locs hl hO hT
      rw [xf_Ch_recall_24] at hT
      refine lv_iload_n hx hb d_Ch_recall_24 rfl (lv_at hl 2 rfl) ?_
      refine lv_iconst (v := 4) hx hb d_Ch_recall_25 (by decide) ?_
      refine lv_aload_n hx hb d_Ch_recall_26 rfl (lv_at hl 0 rfl) ?_
      refine qa_get S hK hO hi_Ch 72 (by decide) rfl rfl 2 (by decide) lf_Ch_15 rfl rfl d_Ch_recall_27 ?_
      refine lv_iload_n hx hb d_Ch_recall_30 rfl (lv_at hl 1 rfl) ?_
      obtain ⟨hi31, hT⟩ := qa_c hT
      refine qa_iald (n := 200) S hK hO 74 (by decide) 0 (xe_arr rfl) rfl hi31 d_Ch_recall_31 ?_
      refine lv_iadd hx hb d_Ch_recall_32 ?_
      refine lv_icmp_ge (tgt := 61) hx hb d_Ch_recall_33 (by decide) (fun h => ?_) (fun h => ?_)
      · have hT := qa_t hT h
        exact ret hT hO d_Ch_recall_61
      · have hT := qa_f hT h
        refine lv_aload_n hx hb d_Ch_recall_36 rfl (lv_at hl 0 rfl) ?_
        refine qa_get S hK hO hi_Ch 72 (by decide) rfl rfl 3 (by decide) lf_Ch_21 rfl rfl d_Ch_recall_37 ?_
        refine lv_iload_n hx hb d_Ch_recall_40 rfl (lv_at hl 2 rfl) ?_
        refine lv_aload_n hx hb d_Ch_recall_41 rfl (lv_at hl 0 rfl) ?_
        refine qa_get S hK hO hi_Ch 72 (by decide) rfl rfl 1 (by decide) lf_Ch_9 rfl rfl d_Ch_recall_42 ?_
        refine lv_iload_n hx hb d_Ch_recall_45 rfl (lv_at hl 1 rfl) ?_
        refine lv_bipush (v := 10) hx hb d_Ch_recall_46 (by decide) ?_
        refine lv_imul hx hb d_Ch_recall_48 ?_
        refine lv_iload_n hx hb d_Ch_recall_49 rfl (lv_at hl 2 rfl) ?_
        refine lv_iadd hx hb d_Ch_recall_50 ?_
        obtain ⟨hi51, hT⟩ := qa_c hT
        refine qa_iald (n := 2000) S hK hO 73 (by decide) 0 (xe_arr rfl) rfl hi51 d_Ch_recall_51 ?_
        obtain ⟨t52, ht52, hT⟩ := qa_b hT
        refine qa_Vv (As := [.int x3, .int (g 73 ((x2 * (10 : Int32)) + x3).toNatClampNeg)]) (rest := []) (r := 75) S hK hN hA hO (xc_Fr_setPlace l D cI cJ cF cZ ad g 75 x3 (g 73 ((x2 * (10 : Int32)) + x3).toNatClampNeg) xe_F75) ht52 qy_Fr_setPlace lm_Ch_81 ⟨by decide, by decide⟩ (xe_Flt xe_F75) (xe_fr xe_F75 _) rfl rfl rfl hl.1 rfl (Nat.le_of_ble_eq_true rfl) d_Ch_recall_52 (fun H locs hO => ?_)
        refine lv_iinc (lv' := [(3, .int (x3 + 1)), (0, .ref (ad 72)), (2, .int x2)]) hx hb d_Ch_recall_55 hl (k := 2) rfl (qa_o1 _) (by decide) rfl (fun ls hl => ?_)
        refine lv_goto (tgt := 24) hx hb d_Ch_recall_58 (by decide) ?_
        exact ih t52.2 x2 (x3 + 1) _ _ _ (lv_sub hl [1, 2, 0] rfl) hO hT
  unfold xf_Ch_recall at hT
  refine lv_aload_n hx hb d_Ch_recall_0 rfl (lv_at hl 0 rfl) ?_
  refine qa_get S hK hO hi_Ch 72 (by decide) rfl rfl 4 (by decide) lf_Ch_29 rfl rfl d_Ch_recall_1 ?_
  refine lv_iload_n hx hb d_Ch_recall_4 rfl (lv_at hl 1 rfl) ?_
  obtain ⟨t5, ht5, hT⟩ := qa_b hT
  refine qa_Si (As := [.int (g 72 4), .int x1]) (rest := []) S hK hN hA hO (xc_Ch_rowOf l D cI cJ cF cZ ad g (g 72 4) x1) ht5 qy_Ch_rowOf lm_Ch_40 ⟨by decide, by decide⟩ rfl hl.1 rfl (Nat.le_of_ble_eq_true rfl) d_Ch_recall_5 (fun H locs hO => ?_)
  refine lv_istore_n (lv' := [(2, .int t5.1), (0, .ref (ad 72)), (1, .int x1)]) hx hb d_Ch_recall_8 rfl hl (by decide) rfl (fun ls hl => ?_)
  refine lv_aload_n hx hb d_Ch_recall_9 rfl (lv_at hl 1 rfl) ?_
  refine qa_get S hK hO hi_Ch 72 (by decide) rfl rfl 3 (by decide) lf_Ch_21 rfl rfl d_Ch_recall_10 ?_
  refine lv_aload_n hx hb d_Ch_recall_13 rfl (lv_at hl 1 rfl) ?_
  refine qa_get S hK hO hi_Ch 72 (by decide) rfl rfl 2 (by decide) lf_Ch_15 rfl rfl d_Ch_recall_14 ?_
  refine lv_iload_n hx hb d_Ch_recall_17 rfl (lv_at hl 0 rfl) ?_
  obtain ⟨hi18, hT⟩ := qa_c hT
  refine qa_iald (n := 200) S hK hO 74 (by decide) 0 (xe_arr rfl) rfl hi18 d_Ch_recall_18 ?_
  obtain ⟨t19, ht19, hT⟩ := qa_b hT
  refine qa_Vv (As := [.int (t5.2 74 t5.1.toNatClampNeg)]) (rest := []) (r := 75) S hK hN hA hO (xc_Fr_setSize l D cI cJ cF cZ ad t5.2 75 (t5.2 74 t5.1.toNatClampNeg) xe_F75) ht19 qy_Fr_setSize lm_Ch_117 ⟨by decide, by decide⟩ (xe_Flt xe_F75) (xe_fr xe_F75 _) rfl rfl rfl hl.1 rfl (Nat.le_of_ble_eq_true rfl) d_Ch_recall_19 (fun H locs hO => ?_)
  refine lv_iconst (v := 0) hx hb d_Ch_recall_22 (by decide) ?_
  refine lv_istore_n (lv' := [(3, .int (0 : Int32)), (2, .int t5.1), (0, .ref (ad 72)), (1, .int x1)]) hx hb d_Ch_recall_23 rfl hl (by decide) rfl (fun ls hl => ?_)
  exact b24 4096 t19.2 t5.1 (0 : Int32) _ _ _ (lv_sub hl [2, 1, 0] rfl) hO hT
def xf_Fr_push_28 (r0 : Nat) (g : qa_St) (s0 : Int32) : qa_Re := (some (0, (qa_up g r0 1 s0)))
def xf_Fr_push (g : qa_St) (r0 : Nat) (x1 : Int32) : qa_Re := (if (6 : Int32) ≤ (g r0 1) then (some (0, g)) else (if ((4 : Int32) + (g r0 1)) < 0 ∨ 10 ≤ ((4 : Int32) + (g r0 1)).toNatClampNeg then none else (xf_Fr_push_28 r0 (qa_up g (r0 + 1) ((4 : Int32) + (g r0 1)).toNatClampNeg x1) (((qa_up g (r0 + 1) ((4 : Int32) + (g r0 1)).toNatClampNeg x1) r0 1) + (1 : Int32)))))
set_option maxHeartbeats 4000000 in
set_option maxRecDepth 100000 in
theorem xc_Fr_push (l : Launch) (D : va_G) (cI cJ cF cZ : ClassId) (ad : Nat → Nat) (g : qa_St) (r0 : Nat) (x1 : Int32) (hf0 : xe_F r0) : qa_Mv l y_Fr_push (qa_ws y_Fr_push b_Fr_push 2 none) (qa_rm 0 0) D (qa_ty cI cJ cF cZ) 107 ad (xe_en cI cJ cF ad) [.ref (ad r0), .int x1] g (xf_Fr_push g r0 x1) := by
  refine qa_metv (by decide) (Nat.le_of_ble_eq_true rfl) ?_
  intro p e s m args below meth c Q A T S hK hN hA hT ret ls hl hO
  have hx := S.1
  have hb := S.2.1
  have hl : lv_has ls 2 [(0, .ref (ad r0)), (1, .int x1)] := hl
  have b28 : ∀ (g : qa_St) (s0 : Int32) (ls : Array Slot) (H : Heap) (locs : List Loc), lv_has ls 2 [] → qa_O D 107 ad (xe_en cI cJ cF ad) A s.heap g H locs → xf_Fr_push_28 r0 g s0 = some T → W p l e (qa_rm 0 0) s m args below meth c H locs 0 0 Q (F0 m 28 ls [.int s0, .ref (ad r0)]) := by
    intro g s0 ls H locs hl hO hT
    unfold xf_Fr_push_28 at hT
    refine qa_put S hK hO hi_Fr t_Fr t_Fr_ok n_Fr r0 (xe_Flt hf0) (xe_fr hf0 _) rfl 1 (by decide) lf_Fr_21 rfl rfl (ty := .int) (by decide +kernel) rfl rfl (Nat.le_of_ble_eq_true rfl) (by rw [xe_fr hf0]; rfl) d_Fr_push_28 (fun H locs hO => ?_)
    exact ret hT hO d_Fr_push_31
  unfold xf_Fr_push at hT
  refine lv_aload_n hx hb d_Fr_push_0 rfl (lv_at hl 0 rfl) ?_
  refine qa_get S hK hO hi_Fr r0 (xe_Flt hf0) (xe_fr hf0 _) rfl 1 (by decide) lf_Fr_21 rfl rfl d_Fr_push_1 ?_
  refine lv_bipush (v := 6) hx hb d_Fr_push_4 (by decide) ?_
  refine lv_icmp_ge (tgt := 31) hx hb d_Fr_push_6 (by decide) (fun h => ?_) (fun h => ?_)
  · have hT := qa_t hT h
    exact ret hT hO d_Fr_push_31
  · have hT := qa_f hT h
    refine lv_aload_n hx hb d_Fr_push_9 rfl (lv_at hl 0 rfl) ?_
    refine qa_get S hK hO hi_Fr r0 (xe_Flt hf0) (xe_fr hf0 _) rfl 0 (by decide) lf_Fr_9 rfl rfl d_Fr_push_10 ?_
    refine lv_iconst (v := 4) hx hb d_Fr_push_13 (by decide) ?_
    refine lv_aload_n hx hb d_Fr_push_14 rfl (lv_at hl 0 rfl) ?_
    refine qa_get S hK hO hi_Fr r0 (xe_Flt hf0) (xe_fr hf0 _) rfl 1 (by decide) lf_Fr_21 rfl rfl d_Fr_push_15 ?_
    refine lv_iadd hx hb d_Fr_push_18 ?_
    refine lv_iload_n hx hb d_Fr_push_19 rfl (lv_at hl 1 rfl) ?_
    obtain ⟨hi20, hT⟩ := qa_c hT
    refine qa_iast (n := 10) S hK hO (r0 + 1) (xe_Plt hf0) 0 (xe_pl hf0) rfl hi20 d_Fr_push_20 (fun H locs hO => ?_)
    refine lv_aload_n hx hb d_Fr_push_21 rfl (lv_at hl 0 rfl) ?_
    refine lv_dup hx hb d_Fr_push_22 rfl ?_
    refine qa_get S hK hO hi_Fr r0 (xe_Flt hf0) (xe_fr hf0 _) rfl 1 (by decide) lf_Fr_21 rfl rfl d_Fr_push_23 ?_
    refine lv_iconst (v := 1) hx hb d_Fr_push_26 (by decide) ?_
    refine lv_iadd hx hb d_Fr_push_27 ?_
    exact b28 (qa_up g (r0 + 1) ((4 : Int32) + (g r0 1)).toNatClampNeg x1) (((qa_up g (r0 + 1) ((4 : Int32) + (g r0 1)).toNatClampNeg x1) r0 1) + (1 : Int32)) _ _ _ (lv_sub hl [] rfl) hO hT
def xf_Fr_goOnWith (g : qa_St) (r0 : Nat) (x1 : Int32) (x2 : Int32) : qa_Re := ((xf_Fr_push (qa_up g r0 1 (0 : Int32)) r0 x2).bind fun t7 => (some (0, (qa_up t7.2 r0 2 x1))))
set_option maxHeartbeats 4000000 in
set_option maxRecDepth 100000 in
theorem xc_Fr_goOnWith (l : Launch) (D : va_G) (cI cJ cF cZ : ClassId) (ad : Nat → Nat) (g : qa_St) (r0 : Nat) (x1 : Int32) (x2 : Int32) (hf0 : xe_F r0) : qa_Mv l y_Fr_goOnWith (qa_ws y_Fr_goOnWith b_Fr_goOnWith 3 none) (qa_rm 1 21) D (qa_ty cI cJ cF cZ) 107 ad (xe_en cI cJ cF ad) [.ref (ad r0), .int x1, .int x2] g (xf_Fr_goOnWith g r0 x1 x2) := by
  refine qa_metv (by decide) (Nat.le_of_ble_eq_true rfl) ?_
  intro p e s m args below meth c Q A T S hK hN hA hT ret ls hl hO
  have hx := S.1
  have hb := S.2.1
  have hl : lv_has ls 3 [(0, .ref (ad r0)), (1, .int x1), (2, .int x2)] := hl
  unfold xf_Fr_goOnWith at hT
  refine lv_aload_n hx hb d_Fr_goOnWith_0 rfl (lv_at hl 0 rfl) ?_
  refine lv_iconst (v := 0) hx hb d_Fr_goOnWith_1 (by decide) ?_
  refine qa_put S hK hO hi_Fr t_Fr t_Fr_ok n_Fr r0 (xe_Flt hf0) (xe_fr hf0 _) rfl 1 (by decide) lf_Fr_21 rfl rfl (ty := .int) (by decide +kernel) rfl rfl (Nat.le_of_ble_eq_true rfl) (by rw [xe_fr hf0]; rfl) d_Fr_goOnWith_2 (fun H locs hO => ?_)
  refine lv_aload_n hx hb d_Fr_goOnWith_5 rfl (lv_at hl 0 rfl) ?_
  refine lv_iload_n hx hb d_Fr_goOnWith_6 rfl (lv_at hl 2 rfl) ?_
  obtain ⟨t7, ht7, hT⟩ := qa_b hT
  refine qa_Vv (As := [.int x2]) (rest := []) (r := r0) S hK hN hA hO (xc_Fr_push l D cI cJ cF cZ ad (qa_up g r0 1 (0 : Int32)) r0 x2 hf0) ht7 qy_Fr_push lm_Fr_39 ⟨by decide, by decide⟩ (xe_Flt hf0) (xe_fr hf0 _) rfl rfl rfl hl.1 rfl (Nat.le_of_ble_eq_true rfl) d_Fr_goOnWith_7 (fun H locs hO => ?_)
  refine lv_aload_n hx hb d_Fr_goOnWith_10 rfl (lv_at hl 0 rfl) ?_
  refine lv_iload_n hx hb d_Fr_goOnWith_11 rfl (lv_at hl 1 rfl) ?_
  refine qa_put S hK hO hi_Fr t_Fr t_Fr_ok n_Fr r0 (xe_Flt hf0) (xe_fr hf0 _) rfl 2 (by decide) lf_Fr_25 rfl rfl (ty := .int) (by decide +kernel) rfl rfl (Nat.le_of_ble_eq_true rfl) (by rw [xe_fr hf0]; rfl) d_Fr_goOnWith_12 (fun H locs hO => ?_)
  exact ret hT hO d_Fr_goOnWith_15
def xf_Pr_opOf (g : qa_St) (x1 : Int32) (x2 : Int32) : qa_Re := ((xf_Pr_lengthOf g x1).bind fun t3 => ((xf_Cw_within t3.2 x2 t3.1).bind fun t6 => (if t6.1 = 0 then (some ((-1 : Int32), t6.2)) else (if x1 < 0 ∨ 10 ≤ x1.toNatClampNeg then none else (if x2 < 0 ∨ 20 ≤ x2.toNatClampNeg then none else (some ((t6.2 (17 + x1.toNatClampNeg) x2.toNatClampNeg), t6.2)))))))
set_option maxHeartbeats 4000000 in
set_option maxRecDepth 100000 in
theorem xc_Pr_opOf (l : Launch) (D : va_G) (cI cJ cF cZ : ClassId) (ad : Nat → Nat) (g : qa_St) (x1 : Int32) (x2 : Int32) : qa_Mi l y_Pr_opOf (qa_ws y_Pr_opOf b_Pr_opOf 3 (some .int)) (qa_rm 2 42) D (qa_ty cI cJ cF cZ) 107 ad (xe_en cI cJ cF ad) [.ref (ad 1), .int x1, .int x2] g (xf_Pr_opOf g x1 x2) := by
  refine qa_meti (by decide) (Nat.le_of_ble_eq_true rfl) ?_
  intro p e s m args below meth c Q A T S hK hN hA hT ret ls hl hO
  have hx := S.1
  have hb := S.2.1
  have hl : lv_has ls 3 [(0, .ref (ad 1)), (1, .int x1), (2, .int x2)] := hl
  unfold xf_Pr_opOf at hT
  refine lv_iload_n hx hb d_Pr_opOf_0 rfl (lv_at hl 2 rfl) ?_
  refine lv_aload_n hx hb d_Pr_opOf_1 rfl (lv_at hl 0 rfl) ?_
  refine lv_iload_n hx hb d_Pr_opOf_2 rfl (lv_at hl 1 rfl) ?_
  obtain ⟨t3, ht3, hT⟩ := qa_b hT
  refine qa_Vi (As := [.int x1]) (rest := [.int x2]) (r := 1) S hK hN hA hO (xc_Pr_lengthOf l D cI cJ cF cZ ad g x1) ht3 qy_Pr_lengthOf lm_Pr_98 ⟨by decide, by decide⟩ (by decide) rfl rfl rfl rfl hl.1 rfl (Nat.le_of_ble_eq_true rfl) d_Pr_opOf_3 (fun H locs hO => ?_)
  obtain ⟨t6, ht6, hT⟩ := qa_b hT
  refine qa_SNi (As := [.int x2, .int t3.1]) (rest := []) S hK hN hA hO (xc_Cw_within l D cI cJ cF cZ ad t3.2 x2 t3.1) ht6 qy_Cw_within ln_Pr_80 ⟨by decide, by decide⟩ rfl hl.1 rfl (Nat.le_of_ble_eq_true rfl) d_Pr_opOf_6 (fun H locs hO => ?_)
  refine lv_if_eq (tgt := 23) hx hb d_Pr_opOf_9 (by decide) (fun h => ?_) (fun h => ?_)
  · have hT := qa_t hT h
    refine lv_iconst (v := -1) hx hb d_Pr_opOf_23 (by decide) ?_
    exact ret hT hO d_Pr_opOf_24
  · have hT := qa_f hT h
    refine lv_aload_n hx hb d_Pr_opOf_12 rfl (lv_at hl 0 rfl) ?_
    refine qa_get S hK hO hi_Pr 1 (by decide) rfl rfl 10 (by decide) lf_Pr_38 rfl rfl d_Pr_opOf_13 ?_
    refine lv_iload_n hx hb d_Pr_opOf_16 rfl (lv_at hl 1 rfl) ?_
    obtain ⟨hi17, hT⟩ := qa_c hT
    refine qa_aald (n := 10) S hK hO 16 (by decide) 1 rfl rfl rfl hi17 rfl d_Pr_opOf_17 ?_
    refine lv_iload_n hx hb d_Pr_opOf_18 rfl (lv_at hl 2 rfl) ?_
    obtain ⟨hi19, hT⟩ := qa_c hT
    refine qa_iald (n := 20) S hK hO (17 + x1.toNatClampNeg) (qa_rowlt hi17 (by decide)) 0 (xe_arr (xr_16 _ (qa_lt hi17))) rfl hi19 d_Pr_opOf_19 ?_
    refine lv_goto (tgt := 24) hx hb d_Pr_opOf_20 (by decide) ?_
    exact ret hT hO d_Pr_opOf_24
def xf_Pr_operandOf (g : qa_St) (x1 : Int32) (x2 : Int32) : qa_Re := ((xf_Pr_lengthOf g x1).bind fun t3 => ((xf_Cw_within t3.2 x2 t3.1).bind fun t6 => (if t6.1 = 0 then (some ((-1 : Int32), t6.2)) else (if x1 < 0 ∨ 10 ≤ x1.toNatClampNeg then none else (if x2 < 0 ∨ 20 ≤ x2.toNatClampNeg then none else (some ((t6.2 (28 + x1.toNatClampNeg) x2.toNatClampNeg), t6.2)))))))
set_option maxHeartbeats 4000000 in
set_option maxRecDepth 100000 in
theorem xc_Pr_operandOf (l : Launch) (D : va_G) (cI cJ cF cZ : ClassId) (ad : Nat → Nat) (g : qa_St) (x1 : Int32) (x2 : Int32) : qa_Mi l y_Pr_operandOf (qa_ws y_Pr_operandOf b_Pr_operandOf 3 (some .int)) (qa_rm 2 42) D (qa_ty cI cJ cF cZ) 107 ad (xe_en cI cJ cF ad) [.ref (ad 1), .int x1, .int x2] g (xf_Pr_operandOf g x1 x2) := by
  refine qa_meti (by decide) (Nat.le_of_ble_eq_true rfl) ?_
  intro p e s m args below meth c Q A T S hK hN hA hT ret ls hl hO
  have hx := S.1
  have hb := S.2.1
  have hl : lv_has ls 3 [(0, .ref (ad 1)), (1, .int x1), (2, .int x2)] := hl
  unfold xf_Pr_operandOf at hT
  refine lv_iload_n hx hb d_Pr_operandOf_0 rfl (lv_at hl 2 rfl) ?_
  refine lv_aload_n hx hb d_Pr_operandOf_1 rfl (lv_at hl 0 rfl) ?_
  refine lv_iload_n hx hb d_Pr_operandOf_2 rfl (lv_at hl 1 rfl) ?_
  obtain ⟨t3, ht3, hT⟩ := qa_b hT
  refine qa_Vi (As := [.int x1]) (rest := [.int x2]) (r := 1) S hK hN hA hO (xc_Pr_lengthOf l D cI cJ cF cZ ad g x1) ht3 qy_Pr_lengthOf lm_Pr_98 ⟨by decide, by decide⟩ (by decide) rfl rfl rfl rfl hl.1 rfl (Nat.le_of_ble_eq_true rfl) d_Pr_operandOf_3 (fun H locs hO => ?_)
  obtain ⟨t6, ht6, hT⟩ := qa_b hT
  refine qa_SNi (As := [.int x2, .int t3.1]) (rest := []) S hK hN hA hO (xc_Cw_within l D cI cJ cF cZ ad t3.2 x2 t3.1) ht6 qy_Cw_within ln_Pr_80 ⟨by decide, by decide⟩ rfl hl.1 rfl (Nat.le_of_ble_eq_true rfl) d_Pr_operandOf_6 (fun H locs hO => ?_)
  refine lv_if_eq (tgt := 23) hx hb d_Pr_operandOf_9 (by decide) (fun h => ?_) (fun h => ?_)
  · have hT := qa_t hT h
    refine lv_iconst (v := -1) hx hb d_Pr_operandOf_23 (by decide) ?_
    exact ret hT hO d_Pr_operandOf_24
  · have hT := qa_f hT h
    refine lv_aload_n hx hb d_Pr_operandOf_12 rfl (lv_at hl 0 rfl) ?_
    refine qa_get S hK hO hi_Pr 1 (by decide) rfl rfl 11 (by decide) lf_Pr_41 rfl rfl d_Pr_operandOf_13 ?_
    refine lv_iload_n hx hb d_Pr_operandOf_16 rfl (lv_at hl 1 rfl) ?_
    obtain ⟨hi17, hT⟩ := qa_c hT
    refine qa_aald (n := 10) S hK hO 27 (by decide) 1 rfl rfl rfl hi17 rfl d_Pr_operandOf_17 ?_
    refine lv_iload_n hx hb d_Pr_operandOf_18 rfl (lv_at hl 2 rfl) ?_
    obtain ⟨hi19, hT⟩ := qa_c hT
    refine qa_iald (n := 20) S hK hO (28 + x1.toNatClampNeg) (qa_rowlt hi17 (by decide)) 0 (xe_arr (xr_27 _ (qa_lt hi17))) rfl hi19 d_Pr_operandOf_19 ?_
    refine lv_goto (tgt := 24) hx hb d_Pr_operandOf_20 (by decide) ?_
    exact ret hT hO d_Pr_operandOf_24
def xf_Ch_put_18 (g : qa_St) (x1 : Int32) (s0 : Int32) : qa_Re := ((xf_Ch_need g s0).bind fun t18 => ((xf_Fr_push t18.2 75 x1).bind fun t26 => (some (0, t26.2))))
def xf_Ch_put (g : qa_St) (x1 : Int32) : qa_Re := ((xf_Fr_size g 75).bind fun t5 => (if (6 : Int32) ≤ t5.1 then (xf_Ch_put_18 t5.2 x1 (0 : Int32)) else (xf_Ch_put_18 t5.2 x1 (1 : Int32))))
set_option maxHeartbeats 4000000 in
set_option maxRecDepth 100000 in
theorem xc_Ch_put (l : Launch) (D : va_G) (cI cJ cF cZ : ClassId) (ad : Nat → Nat) (g : qa_St) (x1 : Int32) : qa_Mv l y_Ch_put (qa_ws y_Ch_put b_Ch_put 2 none) (qa_rm 1 21) D (qa_ty cI cJ cF cZ) 107 ad (xe_en cI cJ cF ad) [.ref (ad 72), .int x1] g (xf_Ch_put g x1) := by
  refine qa_metv (by decide) (Nat.le_of_ble_eq_true rfl) ?_
  intro p e s m args below meth c Q A T S hK hN hA hT ret ls hl hO
  have hx := S.1
  have hb := S.2.1
  have hl : lv_has ls 2 [(0, .ref (ad 72)), (1, .int x1)] := hl
  have b18 : ∀ (g : qa_St) (x1 : Int32) (s0 : Int32) (ls : Array Slot) (H : Heap) (locs : List Loc), lv_has ls 2 [(0, .ref (ad 72)), (1, .int x1)] → qa_O D 107 ad (xe_en cI cJ cF ad) A s.heap g H locs → xf_Ch_put_18 g x1 s0 = some T → W p l e (qa_rm 1 21) s m args below meth c H locs 0 0 Q (F0 m 18 ls [.int s0, .ref (ad 72)]) := by
    intro g x1 s0 ls H locs hl hO hT
    unfold xf_Ch_put_18 at hT
    obtain ⟨t18, ht18, hT⟩ := qa_b hT
    refine qa_Vv (As := [.int s0]) (rest := []) (r := 72) S hK hN hA hO (xc_Ch_need l D cI cJ cF cZ ad g s0) ht18 qy_Ch_need lm_Ch_126 ⟨by decide, by decide⟩ (by decide) rfl rfl rfl rfl hl.1 rfl (Nat.le_of_ble_eq_true rfl) d_Ch_put_18 (fun H locs hO => ?_)
    refine lv_aload_n hx hb d_Ch_put_21 rfl (lv_at hl 0 rfl) ?_
    refine qa_get S hK hO hi_Ch 72 (by decide) rfl rfl 3 (by decide) lf_Ch_21 rfl rfl d_Ch_put_22 ?_
    refine lv_iload_n hx hb d_Ch_put_25 rfl (lv_at hl 1 rfl) ?_
    obtain ⟨t26, ht26, hT⟩ := qa_b hT
    refine qa_Vv (As := [.int x1]) (rest := []) (r := 75) S hK hN hA hO (xc_Fr_push l D cI cJ cF cZ ad t18.2 75 x1 xe_F75) ht26 qy_Fr_push lm_Ch_160 ⟨by decide, by decide⟩ (xe_Flt xe_F75) (xe_fr xe_F75 _) rfl rfl rfl hl.1 rfl (Nat.le_of_ble_eq_true rfl) d_Ch_put_26 (fun H locs hO => ?_)
    exact ret hT hO d_Ch_put_29
  unfold xf_Ch_put at hT
  refine lv_aload_n hx hb d_Ch_put_0 rfl (lv_at hl 0 rfl) ?_
  refine lv_aload_n hx hb d_Ch_put_1 rfl (lv_at hl 0 rfl) ?_
  refine qa_get S hK hO hi_Ch 72 (by decide) rfl rfl 3 (by decide) lf_Ch_21 rfl rfl d_Ch_put_2 ?_
  obtain ⟨t5, ht5, hT⟩ := qa_b hT
  refine qa_Vi (As := []) (rest := [.ref (ad 72)]) (r := 75) S hK hN hA hO (xc_Fr_size l D cI cJ cF cZ ad g 75 xe_F75) ht5 qy_Fr_size lm_Ch_123 ⟨by decide, by decide⟩ (xe_Flt xe_F75) (xe_fr xe_F75 _) rfl rfl rfl hl.1 rfl (Nat.le_of_ble_eq_true rfl) d_Ch_put_5 (fun H locs hO => ?_)
  refine lv_bipush (v := 6) hx hb d_Ch_put_8 (by decide) ?_
  refine lv_icmp_ge (tgt := 17) hx hb d_Ch_put_10 (by decide) (fun h => ?_) (fun h => ?_)
  · have hT := qa_t hT h
    refine lv_iconst (v := 0) hx hb d_Ch_put_17 (by decide) ?_
    exact b18 t5.2 x1 (0 : Int32) _ _ _ (lv_sub hl [0, 1] rfl) hO hT
  · have hT := qa_f hT h
    refine lv_iconst (v := 1) hx hb d_Ch_put_13 (by decide) ?_
    refine lv_goto (tgt := 18) hx hb d_Ch_put_14 (by decide) ?_
    exact b18 t5.2 x1 (1 : Int32) _ _ _ (lv_sub hl [0, 1] rfl) hO hT
def xf_Fr_pop (g : qa_St) (r0 : Nat) : qa_Re := (if (g r0 1) = 0 then (some ((8 : Int32), g)) else (if ((4 : Int32) + ((qa_up g r0 1 ((g r0 1) - (1 : Int32))) r0 1)) < 0 ∨ 10 ≤ ((4 : Int32) + ((qa_up g r0 1 ((g r0 1) - (1 : Int32))) r0 1)).toNatClampNeg then none else (some (((qa_up g r0 1 ((g r0 1) - (1 : Int32))) (r0 + 1) ((4 : Int32) + ((qa_up g r0 1 ((g r0 1) - (1 : Int32))) r0 1)).toNatClampNeg), (qa_up g r0 1 ((g r0 1) - (1 : Int32)))))))
set_option maxHeartbeats 4000000 in
set_option maxRecDepth 100000 in
theorem xc_Fr_pop (l : Launch) (D : va_G) (cI cJ cF cZ : ClassId) (ad : Nat → Nat) (g : qa_St) (r0 : Nat) (hf0 : xe_F r0) : qa_Mi l y_Fr_pop (qa_ws y_Fr_pop b_Fr_pop 1 (some .int)) (qa_rm 0 0) D (qa_ty cI cJ cF cZ) 107 ad (xe_en cI cJ cF ad) [.ref (ad r0)] g (xf_Fr_pop g r0) := by
  refine qa_meti (by decide) (Nat.le_of_ble_eq_true rfl) ?_
  intro p e s m args below meth c Q A T S hK hN hA hT ret ls hl hO
  have hx := S.1
  have hb := S.2.1
  have hl : lv_has ls 1 [(0, .ref (ad r0))] := hl
  unfold xf_Fr_pop at hT
  refine lv_aload_n hx hb d_Fr_pop_0 rfl (lv_at hl 0 rfl) ?_
  refine qa_get S hK hO hi_Fr r0 (xe_Flt hf0) (xe_fr hf0 _) rfl 1 (by decide) lf_Fr_21 rfl rfl d_Fr_pop_1 ?_
  refine lv_if_ne (tgt := 10) hx hb d_Fr_pop_4 (by decide) (fun h => ?_) (fun h => ?_)
  · have hT := qa_f hT h
    refine lv_aload_n hx hb d_Fr_pop_10 rfl (lv_at hl 0 rfl) ?_
    refine lv_dup hx hb d_Fr_pop_11 rfl ?_
    refine qa_get S hK hO hi_Fr r0 (xe_Flt hf0) (xe_fr hf0 _) rfl 1 (by decide) lf_Fr_21 rfl rfl d_Fr_pop_12 ?_
    refine lv_iconst (v := 1) hx hb d_Fr_pop_15 (by decide) ?_
    refine lv_isub hx hb d_Fr_pop_16 ?_
    refine qa_put S hK hO hi_Fr t_Fr t_Fr_ok n_Fr r0 (xe_Flt hf0) (xe_fr hf0 _) rfl 1 (by decide) lf_Fr_21 rfl rfl (ty := .int) (by decide +kernel) rfl rfl (Nat.le_of_ble_eq_true rfl) (by rw [xe_fr hf0]; rfl) d_Fr_pop_17 (fun H locs hO => ?_)
    refine lv_aload_n hx hb d_Fr_pop_20 rfl (lv_at hl 0 rfl) ?_
    refine qa_get S hK hO hi_Fr r0 (xe_Flt hf0) (xe_fr hf0 _) rfl 0 (by decide) lf_Fr_9 rfl rfl d_Fr_pop_21 ?_
    refine lv_iconst (v := 4) hx hb d_Fr_pop_24 (by decide) ?_
    refine lv_aload_n hx hb d_Fr_pop_25 rfl (lv_at hl 0 rfl) ?_
    refine qa_get S hK hO hi_Fr r0 (xe_Flt hf0) (xe_fr hf0 _) rfl 1 (by decide) lf_Fr_21 rfl rfl d_Fr_pop_26 ?_
    refine lv_iadd hx hb d_Fr_pop_29 ?_
    obtain ⟨hi30, hT⟩ := qa_c hT
    refine qa_iald (n := 10) S hK hO (r0 + 1) (xe_Plt hf0) 0 (xe_pl hf0) rfl hi30 d_Fr_pop_30 ?_
    exact ret hT hO d_Fr_pop_31
  · have hT := qa_t hT h
    refine lv_bipush (v := 8) hx hb d_Fr_pop_7 (by decide) ?_
    exact ret hT hO d_Fr_pop_9
def xf_Ch_takeAny_16 (g : qa_St) (s0 : Int32) : qa_Re := ((xf_Ch_need g s0).bind fun t16 => ((xf_Fr_pop t16.2 75).bind fun t23 => (some (t23.1, t23.2))))
def xf_Ch_takeAny (g : qa_St) : qa_Re := ((xf_Fr_size g 75).bind fun t5 => (if t5.1 ≤ 0 then (xf_Ch_takeAny_16 t5.2 (0 : Int32)) else (xf_Ch_takeAny_16 t5.2 (1 : Int32))))
set_option maxHeartbeats 4000000 in
set_option maxRecDepth 100000 in
theorem xc_Ch_takeAny (l : Launch) (D : va_G) (cI cJ cF cZ : ClassId) (ad : Nat → Nat) (g : qa_St) : qa_Mi l y_Ch_takeAny (qa_ws y_Ch_takeAny b_Ch_takeAny 1 (some .int)) (qa_rm 1 21) D (qa_ty cI cJ cF cZ) 107 ad (xe_en cI cJ cF ad) [.ref (ad 72)] g (xf_Ch_takeAny g) := by
  refine qa_meti (by decide) (Nat.le_of_ble_eq_true rfl) ?_
  intro p e s m args below meth c Q A T S hK hN hA hT ret ls hl hO
  have hx := S.1
  have hb := S.2.1
  have hl : lv_has ls 1 [(0, .ref (ad 72))] := hl
  have b16 : ∀ (g : qa_St) (s0 : Int32) (ls : Array Slot) (H : Heap) (locs : List Loc), lv_has ls 1 [(0, .ref (ad 72))] → qa_O D 107 ad (xe_en cI cJ cF ad) A s.heap g H locs → xf_Ch_takeAny_16 g s0 = some T → W p l e (qa_rm 1 21) s m args below meth c H locs 0 0 Q (F0 m 16 ls [.int s0, .ref (ad 72)]) := by
    intro g s0 ls H locs hl hO hT
    unfold xf_Ch_takeAny_16 at hT
    obtain ⟨t16, ht16, hT⟩ := qa_b hT
    refine qa_Vv (As := [.int s0]) (rest := []) (r := 72) S hK hN hA hO (xc_Ch_need l D cI cJ cF cZ ad g s0) ht16 qy_Ch_need lm_Ch_126 ⟨by decide, by decide⟩ (by decide) rfl rfl rfl rfl hl.1 rfl (Nat.le_of_ble_eq_true rfl) d_Ch_takeAny_16 (fun H locs hO => ?_)
    refine lv_aload_n hx hb d_Ch_takeAny_19 rfl (lv_at hl 0 rfl) ?_
    refine qa_get S hK hO hi_Ch 72 (by decide) rfl rfl 3 (by decide) lf_Ch_21 rfl rfl d_Ch_takeAny_20 ?_
    obtain ⟨t23, ht23, hT⟩ := qa_b hT
    refine qa_Vi (As := []) (rest := []) (r := 75) S hK hN hA hO (xc_Fr_pop l D cI cJ cF cZ ad t16.2 75 xe_F75) ht23 qy_Fr_pop lm_Ch_163 ⟨by decide, by decide⟩ (xe_Flt xe_F75) (xe_fr xe_F75 _) rfl rfl rfl hl.1 rfl (Nat.le_of_ble_eq_true rfl) d_Ch_takeAny_23 (fun H locs hO => ?_)
    exact ret hT hO d_Ch_takeAny_26
  unfold xf_Ch_takeAny at hT
  refine lv_aload_n hx hb d_Ch_takeAny_0 rfl (lv_at hl 0 rfl) ?_
  refine lv_aload_n hx hb d_Ch_takeAny_1 rfl (lv_at hl 0 rfl) ?_
  refine qa_get S hK hO hi_Ch 72 (by decide) rfl rfl 3 (by decide) lf_Ch_21 rfl rfl d_Ch_takeAny_2 ?_
  obtain ⟨t5, ht5, hT⟩ := qa_b hT
  refine qa_Vi (As := []) (rest := [.ref (ad 72)]) (r := 75) S hK hN hA hO (xc_Fr_size l D cI cJ cF cZ ad g 75 xe_F75) ht5 qy_Fr_size lm_Ch_123 ⟨by decide, by decide⟩ (xe_Flt xe_F75) (xe_fr xe_F75 _) rfl rfl rfl hl.1 rfl (Nat.le_of_ble_eq_true rfl) d_Ch_takeAny_5 (fun H locs hO => ?_)
  refine lv_if_le (tgt := 15) hx hb d_Ch_takeAny_8 (by decide) (fun h => ?_) (fun h => ?_)
  · have hT := qa_t hT h
    refine lv_iconst (v := 0) hx hb d_Ch_takeAny_15 (by decide) ?_
    exact b16 t5.2 (0 : Int32) _ _ _ (lv_sub hl [0] rfl) hO hT
  · have hT := qa_f hT h
    refine lv_iconst (v := 1) hx hb d_Ch_takeAny_11 (by decide) ?_
    refine lv_goto (tgt := 16) hx hb d_Ch_takeAny_12 (by decide) ?_
    exact b16 t5.2 (1 : Int32) _ _ _ (lv_sub hl [0] rfl) hO hT
def xf_Ch_takeNumbers_22 (k2 : qa_St → Int32 → Int32 → qa_Re) (g : qa_St) (x1 : Int32) (x2 : Int32) (s0 : Int32) : qa_Re := ((xf_Ch_need g s0).bind fun t22 => (k2 t22.2 x1 (x2 + 1)))
def xf_Ch_takeNumbers_2 : Nat → qa_St → Int32 → Int32 → qa_Re
  | 0, _, _, _ => none
  | n + 1, g, x1, x2 => (if x1 ≤ x2 then (some (0, g)) else ((xf_Ch_takeAny g).bind fun t9 => (if t9.1 = (9 : Int32) then (xf_Ch_takeNumbers_22 (xf_Ch_takeNumbers_2 n) t9.2 x1 x2 (1 : Int32)) else (xf_Ch_takeNumbers_22 (xf_Ch_takeNumbers_2 n) t9.2 x1 x2 (0 : Int32)))))
def xf_Ch_takeNumbers (g : qa_St) (x1 : Int32) : qa_Re := (xf_Ch_takeNumbers_2 4096 g x1 (0 : Int32))
set_option maxHeartbeats 4000000 in
set_option maxRecDepth 100000 in
theorem xc_Ch_takeNumbers (l : Launch) (D : va_G) (cI cJ cF cZ : ClassId) (ad : Nat → Nat) (g : qa_St) (x1 : Int32) : qa_Mv l y_Ch_takeNumbers (qa_ws y_Ch_takeNumbers b_Ch_takeNumbers 3 none) (qa_rm 2 41) D (qa_ty cI cJ cF cZ) 107 ad (xe_en cI cJ cF ad) [.ref (ad 72), .int x1] g (xf_Ch_takeNumbers g x1) := by
  refine qa_metv (by decide) (Nat.le_of_ble_eq_true rfl) ?_
  intro p e s m args below meth c Q A T S hK hN hA hT ret ls hl hO
  have hx := S.1
  have hb := S.2.1
  have hl : lv_has ls 3 [(0, .ref (ad 72)), (1, .int x1)] := hl
  have b22 : ∀ (k2 : qa_St → Int32 → Int32 → qa_Re) (hk2 : ∀ (g : qa_St) (x1 : Int32) (x2 : Int32) (ls : Array Slot) (H : Heap) (locs : List Loc), lv_has ls 3 [(0, .ref (ad 72)), (1, .int x1), (2, .int x2)] → qa_O D 107 ad (xe_en cI cJ cF ad) A s.heap g H locs → k2 g x1 x2 = some T → W p l e (qa_rm 2 41) s m args below meth c H locs 0 0 Q (F0 m 2 ls [])), ∀ (g : qa_St) (x1 : Int32) (x2 : Int32) (s0 : Int32) (ls : Array Slot) (H : Heap) (locs : List Loc), lv_has ls 3 [(0, .ref (ad 72)), (1, .int x1), (2, .int x2)] → qa_O D 107 ad (xe_en cI cJ cF ad) A s.heap g H locs → xf_Ch_takeNumbers_22 k2 g x1 x2 s0 = some T → W p l e (qa_rm 2 41) s m args below meth c H locs 0 0 Q (F0 m 22 ls [.int s0, .ref (ad 72)]) := by
    intro k2 hk2
    intro g x1 x2 s0 ls H locs hl hO hT
    unfold xf_Ch_takeNumbers_22 at hT
    obtain ⟨t22, ht22, hT⟩ := qa_b hT
    refine qa_Vv (As := [.int s0]) (rest := []) (r := 72) S hK hN hA hO (xc_Ch_need l D cI cJ cF cZ ad g s0) ht22 qy_Ch_need lm_Ch_126 ⟨by decide, by decide⟩ (by decide) rfl rfl rfl rfl hl.1 rfl (Nat.le_of_ble_eq_true rfl) d_Ch_takeNumbers_22 (fun H locs hO => ?_)
    refine lv_iinc (lv' := [(2, .int (x2 + 1)), (0, .ref (ad 72)), (1, .int x1)]) hx hb d_Ch_takeNumbers_25 hl (k := 2) rfl (qa_o1 _) (by decide) rfl (fun ls hl => ?_)
    refine lv_goto (tgt := 2) hx hb d_Ch_takeNumbers_28 (by decide) ?_
    exact hk2 t22.2 x1 (x2 + 1) _ _ _ (lv_sub hl [1, 2, 0] rfl) hO hT
  have b2 : ∀ (n : Nat), ∀ (g : qa_St) (x1 : Int32) (x2 : Int32) (ls : Array Slot) (H : Heap) (locs : List Loc), lv_has ls 3 [(0, .ref (ad 72)), (1, .int x1), (2, .int x2)] → qa_O D 107 ad (xe_en cI cJ cF ad) A s.heap g H locs → xf_Ch_takeNumbers_2 n g x1 x2 = some T → W p l e (qa_rm 2 41) s m args below meth c H locs 0 0 Q (F0 m 2 ls []) := by
    intro n
    induction n with
    | zero => intro g x1 x2 ls H locs hl hO hT; rw [xf_Ch_takeNumbers_2] at hT; cases hT
    | succ n ih =>
      intro g x1 x2 ls H locs hl hO hT
      rw [xf_Ch_takeNumbers_2] at hT
      refine lv_iload_n hx hb d_Ch_takeNumbers_2 rfl (lv_at hl 2 rfl) ?_
      refine lv_iload_n hx hb d_Ch_takeNumbers_3 rfl (lv_at hl 1 rfl) ?_
      refine lv_icmp_ge (tgt := 31) hx hb d_Ch_takeNumbers_4 (by decide) (fun h => ?_) (fun h => ?_)
      · have hT := qa_t hT h
        exact ret hT hO d_Ch_takeNumbers_31
      · have hT := qa_f hT h
        refine lv_aload_n hx hb d_Ch_takeNumbers_7 rfl (lv_at hl 0 rfl) ?_
        refine lv_aload_n hx hb d_Ch_takeNumbers_8 rfl (lv_at hl 0 rfl) ?_
        obtain ⟨t9, ht9, hT⟩ := qa_b hT
        refine qa_Vi (As := []) (rest := [.ref (ad 72)]) (r := 72) S hK hN hA hO (xc_Ch_takeAny l D cI cJ cF cZ ad g) ht9 qy_Ch_takeAny lm_Ch_142 ⟨by decide, by decide⟩ (by decide) rfl rfl rfl rfl hl.1 rfl (Nat.le_of_ble_eq_true rfl) d_Ch_takeNumbers_9 (fun H locs hO => ?_)
        refine lv_bipush (v := 9) hx hb d_Ch_takeNumbers_12 (by decide) ?_
        refine lv_icmp_ne (tgt := 21) hx hb d_Ch_takeNumbers_14 (by decide) (fun h => ?_) (fun h => ?_)
        · have hT := qa_f hT h
          refine lv_iconst (v := 0) hx hb d_Ch_takeNumbers_21 (by decide) ?_
          exact b22 (xf_Ch_takeNumbers_2 n) ih t9.2 x1 x2 (0 : Int32) _ _ _ (lv_sub hl [0, 1, 2] rfl) hO hT
        · have hT := qa_t hT h
          refine lv_iconst (v := 1) hx hb d_Ch_takeNumbers_17 (by decide) ?_
          refine lv_goto (tgt := 22) hx hb d_Ch_takeNumbers_18 (by decide) ?_
          exact b22 (xf_Ch_takeNumbers_2 n) ih t9.2 x1 x2 (1 : Int32) _ _ _ (lv_sub hl [0, 1, 2] rfl) hO hT
  unfold xf_Ch_takeNumbers at hT
  refine lv_iconst (v := 0) hx hb d_Ch_takeNumbers_0 (by decide) ?_
  refine lv_istore_n (lv' := [(2, .int (0 : Int32)), (0, .ref (ad 72)), (1, .int x1)]) hx hb d_Ch_takeNumbers_1 rfl hl (by decide) rfl (fun ls hl => ?_)
  exact b2 4096 g x1 (0 : Int32) _ _ _ (lv_sub hl [1, 2, 0] rfl) hO hT
def xf_Ch_takeObject (g : qa_St) : qa_Re := ((xf_Ch_takeAny g).bind fun t1 => ((xf_Pr_isType t1.2 t1.1).bind fun t11 => ((xf_Ch_need t11.2 t11.1).bind fun t14 => (some (t1.1, t14.2)))))
set_option maxHeartbeats 4000000 in
set_option maxRecDepth 100000 in
theorem xc_Ch_takeObject (l : Launch) (D : va_G) (cI cJ cF cZ : ClassId) (ad : Nat → Nat) (g : qa_St) : qa_Mi l y_Ch_takeObject (qa_ws y_Ch_takeObject b_Ch_takeObject 2 (some .int)) (qa_rm 2 41) D (qa_ty cI cJ cF cZ) 107 ad (xe_en cI cJ cF ad) [.ref (ad 72)] g (xf_Ch_takeObject g) := by
  refine qa_meti (by decide) (Nat.le_of_ble_eq_true rfl) ?_
  intro p e s m args below meth c Q A T S hK hN hA hT ret ls hl hO
  have hx := S.1
  have hb := S.2.1
  have hl : lv_has ls 2 [(0, .ref (ad 72))] := hl
  unfold xf_Ch_takeObject at hT
  refine lv_aload_n hx hb d_Ch_takeObject_0 rfl (lv_at hl 0 rfl) ?_
  obtain ⟨t1, ht1, hT⟩ := qa_b hT
  refine qa_Vi (As := []) (rest := []) (r := 72) S hK hN hA hO (xc_Ch_takeAny l D cI cJ cF cZ ad g) ht1 qy_Ch_takeAny lm_Ch_142 ⟨by decide, by decide⟩ (by decide) rfl rfl rfl rfl hl.1 rfl (Nat.le_of_ble_eq_true rfl) d_Ch_takeObject_1 (fun H locs hO => ?_)
  refine lv_istore_n (lv' := [(1, .int t1.1), (0, .ref (ad 72))]) hx hb d_Ch_takeObject_4 rfl hl (by decide) rfl (fun ls hl => ?_)
  refine lv_aload_n hx hb d_Ch_takeObject_5 rfl (lv_at hl 1 rfl) ?_
  refine lv_aload_n hx hb d_Ch_takeObject_6 rfl (lv_at hl 1 rfl) ?_
  refine qa_get S hK hO hi_Ch 72 (by decide) rfl rfl 0 (by decide) lf_Ch_25 rfl rfl d_Ch_takeObject_7 ?_
  refine lv_iload_n hx hb d_Ch_takeObject_10 rfl (lv_at hl 0 rfl) ?_
  obtain ⟨t11, ht11, hT⟩ := qa_b hT
  refine qa_Vi (As := [.int t1.1]) (rest := [.ref (ad 72)]) (r := 1) S hK hN hA hO (xc_Pr_isType l D cI cJ cF cZ ad t1.2 t1.1) ht11 qy_Pr_isType lm_Ch_166 ⟨by decide, by decide⟩ (by decide) rfl rfl rfl rfl hl.1 rfl (Nat.le_of_ble_eq_true rfl) d_Ch_takeObject_11 (fun H locs hO => ?_)
  obtain ⟨t14, ht14, hT⟩ := qa_b hT
  refine qa_Vv (As := [.int t11.1]) (rest := []) (r := 72) S hK hN hA hO (xc_Ch_need l D cI cJ cF cZ ad t11.2 t11.1) ht14 qy_Ch_need lm_Ch_126 ⟨by decide, by decide⟩ (by decide) rfl rfl rfl rfl hl.1 rfl (Nat.le_of_ble_eq_true rfl) d_Ch_takeObject_14 (fun H locs hO => ?_)
  refine lv_iload_n hx hb d_Ch_takeObject_17 rfl (lv_at hl 0 rfl) ?_
  exact ret hT hO d_Ch_takeObject_18
def xf_Pr_answering_58 (k20 : qa_St → Int32 → Int32 → Int32 → qa_Re) (g : qa_St) (x1 : Int32) (x2 : Int32) (x3 : Int32) : qa_Re := (k20 g x1 x2 (x3 + -1))
def xf_Pr_answering_20 : Nat → qa_St → Int32 → Int32 → Int32 → qa_Re
  | 0, _, _, _, _ => none
  | n + 1, g, x1, x2, x3 => (if x3 < 0 then (some ((-1 : Int32), g)) else (if x1 < 0 ∨ 6 ≤ x1.toNatClampNeg then none else ((xf_Cw_has g (g 2 x1.toNatClampNeg) x3).bind fun t31 => (if t31.1 = 0 then (xf_Pr_answering_58 (xf_Pr_answering_20 n) t31.2 x1 x2 x3) else (if x3 < 0 ∨ 6 ≤ x3.toNatClampNeg then none else (if x2 < 0 ∨ 4 ≤ x2.toNatClampNeg then none else (if (t31.2 (6 + x3.toNatClampNeg) x2.toNatClampNeg) = (-1 : Int32) then (xf_Pr_answering_58 (xf_Pr_answering_20 n) t31.2 x1 x2 x3) else (if x3 < 0 ∨ 6 ≤ x3.toNatClampNeg then none else (if x2 < 0 ∨ 4 ≤ x2.toNatClampNeg then none else (some ((t31.2 (6 + x3.toNatClampNeg) x2.toNatClampNeg), t31.2)))))))))))
def xf_Pr_answering (g : qa_St) (x1 : Int32) (x2 : Int32) : qa_Re := ((xf_Pr_isType g x1).bind fun t2 => (if t2.1 = 0 then (some ((-1 : Int32), t2.2)) else ((xf_Cw_within t2.2 x2 (4 : Int32)).bind fun t10 => (if t10.1 = 0 then (some ((-1 : Int32), t10.2)) else (xf_Pr_answering_20 4096 t10.2 x1 x2 x1)))))
set_option maxHeartbeats 4000000 in
set_option maxRecDepth 100000 in
theorem xc_Pr_answering (l : Launch) (D : va_G) (cI cJ cF cZ : ClassId) (ad : Nat → Nat) (g : qa_St) (x1 : Int32) (x2 : Int32) : qa_Mi l y_Pr_answering (qa_ws y_Pr_answering b_Pr_answering 4 (some .int)) (qa_rm 1 21) D (qa_ty cI cJ cF cZ) 107 ad (xe_en cI cJ cF ad) [.ref (ad 1), .int x1, .int x2] g (xf_Pr_answering g x1 x2) := by
  refine qa_meti (by decide) (Nat.le_of_ble_eq_true rfl) ?_
  intro p e s m args below meth c Q A T S hK hN hA hT ret ls hl hO
  have hx := S.1
  have hb := S.2.1
  have hl : lv_has ls 4 [(0, .ref (ad 1)), (1, .int x1), (2, .int x2)] := hl
  have b58 : ∀ (k20 : qa_St → Int32 → Int32 → Int32 → qa_Re) (hk20 : ∀ (g : qa_St) (x1 : Int32) (x2 : Int32) (x3 : Int32) (ls : Array Slot) (H : Heap) (locs : List Loc), lv_has ls 4 [(0, .ref (ad 1)), (1, .int x1), (2, .int x2), (3, .int x3)] → qa_O D 107 ad (xe_en cI cJ cF ad) A s.heap g H locs → k20 g x1 x2 x3 = some T → W p l e (qa_rm 1 21) s m args below meth c H locs 0 0 Q (F0 m 20 ls [])), ∀ (g : qa_St) (x1 : Int32) (x2 : Int32) (x3 : Int32) (ls : Array Slot) (H : Heap) (locs : List Loc), lv_has ls 4 [(0, .ref (ad 1)), (1, .int x1), (2, .int x2), (3, .int x3)] → qa_O D 107 ad (xe_en cI cJ cF ad) A s.heap g H locs → xf_Pr_answering_58 k20 g x1 x2 x3 = some T → W p l e (qa_rm 1 21) s m args below meth c H locs 0 0 Q (F0 m 58 ls []) := by
    intro k20 hk20
    intro g x1 x2 x3 ls H locs hl hO hT
    unfold xf_Pr_answering_58 at hT
    refine lv_iinc (lv' := [(3, .int (x3 + -1)), (0, .ref (ad 1)), (1, .int x1), (2, .int x2)]) hx hb d_Pr_answering_58 hl (k := 3) rfl (qa_om _) (by decide) rfl (fun ls hl => ?_)
    refine lv_goto (tgt := 20) hx hb d_Pr_answering_61 (by decide) ?_
    exact hk20 g x1 x2 (x3 + -1) _ _ _ (lv_sub hl [1, 2, 3, 0] rfl) hO hT
  have b20 : ∀ (n : Nat), ∀ (g : qa_St) (x1 : Int32) (x2 : Int32) (x3 : Int32) (ls : Array Slot) (H : Heap) (locs : List Loc), lv_has ls 4 [(0, .ref (ad 1)), (1, .int x1), (2, .int x2), (3, .int x3)] → qa_O D 107 ad (xe_en cI cJ cF ad) A s.heap g H locs → xf_Pr_answering_20 n g x1 x2 x3 = some T → W p l e (qa_rm 1 21) s m args below meth c H locs 0 0 Q (F0 m 20 ls []) := by
    intro n
    induction n with
    | zero => intro g x1 x2 x3 ls H locs hl hO hT; rw [xf_Pr_answering_20] at hT; cases hT
    | succ n ih =>
      intro g x1 x2 x3 ls H locs hl hO hT
      rw [xf_Pr_answering_20] at hT
      refine lv_iload_n hx hb d_Pr_answering_20 rfl (lv_at hl 3 rfl) ?_
      refine lv_if_lt (tgt := 64) hx hb d_Pr_answering_21 (by decide) (fun h => ?_) (fun h => ?_)
      · have hT := qa_t hT h
        refine lv_iconst (v := -1) hx hb d_Pr_answering_64 (by decide) ?_
        exact ret hT hO d_Pr_answering_65
      · have hT := qa_f hT h
        refine lv_aload_n hx hb d_Pr_answering_24 rfl (lv_at hl 0 rfl) ?_
        refine qa_get S hK hO hi_Pr 1 (by decide) rfl rfl 2 (by decide) lf_Pr_9 rfl rfl d_Pr_answering_25 ?_
        refine lv_iload_n hx hb d_Pr_answering_28 rfl (lv_at hl 1 rfl) ?_
        obtain ⟨hi29, hT⟩ := qa_c hT
        refine qa_iald (n := 6) S hK hO 2 (by decide) 0 (xe_arr rfl) rfl hi29 d_Pr_answering_29 ?_
        refine lv_iload_n hx hb d_Pr_answering_30 rfl (lv_at hl 3 rfl) ?_
        obtain ⟨t31, ht31, hT⟩ := qa_b hT
        refine qa_SNi (As := [.int (g 2 x1.toNatClampNeg), .int x3]) (rest := []) S hK hN hA hO (xc_Cw_has l D cI cJ cF cZ ad g (g 2 x1.toNatClampNeg) x3) ht31 qy_Cw_has ln_Pr_95 ⟨by decide, by decide⟩ rfl hl.1 rfl (Nat.le_of_ble_eq_true rfl) d_Pr_answering_31 (fun H locs hO => ?_)
        refine lv_if_eq (tgt := 58) hx hb d_Pr_answering_34 (by decide) (fun h => ?_) (fun h => ?_)
        · have hT := qa_t hT h
          exact b58 (xf_Pr_answering_20 n) ih t31.2 x1 x2 x3 _ _ _ (lv_sub hl [0, 1, 2, 3] rfl) hO hT
        · have hT := qa_f hT h
          refine lv_aload_n hx hb d_Pr_answering_37 rfl (lv_at hl 0 rfl) ?_
          refine qa_get S hK hO hi_Pr 1 (by decide) rfl rfl 5 (by decide) lf_Pr_23 rfl rfl d_Pr_answering_38 ?_
          refine lv_iload_n hx hb d_Pr_answering_41 rfl (lv_at hl 3 rfl) ?_
          obtain ⟨hi42, hT⟩ := qa_c hT
          refine qa_aald (n := 6) S hK hO 5 (by decide) 1 rfl rfl rfl hi42 rfl d_Pr_answering_42 ?_
          refine lv_iload_n hx hb d_Pr_answering_43 rfl (lv_at hl 2 rfl) ?_
          obtain ⟨hi44, hT⟩ := qa_c hT
          refine qa_iald (n := 4) S hK hO (6 + x3.toNatClampNeg) (qa_rowlt hi42 (by decide)) 0 (xe_arr (xr_5 _ (qa_lt hi42))) rfl hi44 d_Pr_answering_44 ?_
          refine lv_iconst (v := -1) hx hb d_Pr_answering_45 (by decide) ?_
          refine lv_icmp_eq (tgt := 58) hx hb d_Pr_answering_46 (by decide) (fun h => ?_) (fun h => ?_)
          · have hT := qa_t hT h
            exact b58 (xf_Pr_answering_20 n) ih t31.2 x1 x2 x3 _ _ _ (lv_sub hl [0, 1, 2, 3] rfl) hO hT
          · have hT := qa_f hT h
            refine lv_aload_n hx hb d_Pr_answering_49 rfl (lv_at hl 0 rfl) ?_
            refine qa_get S hK hO hi_Pr 1 (by decide) rfl rfl 5 (by decide) lf_Pr_23 rfl rfl d_Pr_answering_50 ?_
            refine lv_iload_n hx hb d_Pr_answering_53 rfl (lv_at hl 3 rfl) ?_
            obtain ⟨hi54, hT⟩ := qa_c hT
            refine qa_aald (n := 6) S hK hO 5 (by decide) 1 rfl rfl rfl hi54 rfl d_Pr_answering_54 ?_
            refine lv_iload_n hx hb d_Pr_answering_55 rfl (lv_at hl 2 rfl) ?_
            obtain ⟨hi56, hT⟩ := qa_c hT
            refine qa_iald (n := 4) S hK hO (6 + x3.toNatClampNeg) (qa_rowlt hi54 (by decide)) 0 (xe_arr (xr_5 _ (qa_lt hi54))) rfl hi56 d_Pr_answering_56 ?_
            exact ret hT hO d_Pr_answering_57
  unfold xf_Pr_answering at hT
  refine lv_aload_n hx hb d_Pr_answering_0 rfl (lv_at hl 0 rfl) ?_
  refine lv_iload_n hx hb d_Pr_answering_1 rfl (lv_at hl 1 rfl) ?_
  obtain ⟨t2, ht2, hT⟩ := qa_b hT
  refine qa_Vi (As := [.int x1]) (rest := []) (r := 1) S hK hN hA hO (xc_Pr_isType l D cI cJ cF cZ ad g x1) ht2 qy_Pr_isType lm_Pr_56 ⟨by decide, by decide⟩ (by decide) rfl rfl rfl rfl hl.1 rfl (Nat.le_of_ble_eq_true rfl) d_Pr_answering_2 (fun H locs hO => ?_)
  refine lv_if_eq (tgt := 16) hx hb d_Pr_answering_5 (by decide) (fun h => ?_) (fun h => ?_)
  · have hT := qa_t hT h
    refine lv_iconst (v := -1) hx hb d_Pr_answering_16 (by decide) ?_
    exact ret hT hO d_Pr_answering_17
  · have hT := qa_f hT h
    refine lv_iload_n hx hb d_Pr_answering_8 rfl (lv_at hl 2 rfl) ?_
    refine lv_iconst (v := 4) hx hb d_Pr_answering_9 (by decide) ?_
    obtain ⟨t10, ht10, hT⟩ := qa_b hT
    refine qa_SNi (As := [.int x2, .int (4 : Int32)]) (rest := []) S hK hN hA hO (xc_Cw_within l D cI cJ cF cZ ad t2.2 x2 (4 : Int32)) ht10 qy_Cw_within ln_Pr_80 ⟨by decide, by decide⟩ rfl hl.1 rfl (Nat.le_of_ble_eq_true rfl) d_Pr_answering_10 (fun H locs hO => ?_)
    refine lv_if_ne (tgt := 18) hx hb d_Pr_answering_13 (by decide) (fun h => ?_) (fun h => ?_)
    · have hT := qa_f hT h
      refine lv_iload_n hx hb d_Pr_answering_18 rfl (lv_at hl 1 rfl) ?_
      refine lv_istore_n (lv' := [(3, .int x1), (0, .ref (ad 1)), (1, .int x1), (2, .int x2)]) hx hb d_Pr_answering_19 rfl hl (by decide) rfl (fun ls hl => ?_)
      exact b20 4096 t10.2 x1 x2 x1 _ _ _ (lv_sub hl [1, 2, 3, 0] rfl) hO hT
    · have hT := qa_t hT h
      refine lv_iconst (v := -1) hx hb d_Pr_answering_16 (by decide) ?_
      exact ret hT hO d_Pr_answering_17
def xf_Ch_applyToObject_140 (g : qa_St) (s0 : Int32) : qa_Re := ((xf_Ch_need g s0).bind fun t140 => ((xf_Ch_put t140.2 (9 : Int32)).bind fun t146 => (some (0, t146.2))))
def xf_Ch_applyToObject_107 (g : qa_St) (s0 : Int32) : qa_Re := ((xf_Ch_need g s0).bind fun t107 => (some (0, t107.2)))
def xf_Ch_applyToObject_69 (g : qa_St) (s0 : Int32) : qa_Re := ((xf_Ch_need g s0).bind fun t69 => ((xf_Ch_put t69.2 (9 : Int32)).bind fun t75 => (some (0, t75.2))))
def xf_Ch_applyToObject (g : qa_St) (x1 : Int32) (x2 : Int32) : qa_Re := (if x1 = 12 then ((xf_Ch_takeObject g).bind fun t55 => ((xf_Pr_fieldsOf t55.2 t55.1).bind fun t58 => (if t58.1 ≤ x2 then (xf_Ch_applyToObject_69 t58.2 (0 : Int32)) else (xf_Ch_applyToObject_69 t58.2 (1 : Int32))))) else (if x1 = 13 then ((xf_Ch_takeNumbers g (1 : Int32)).bind fun t83 => ((xf_Ch_takeObject t83.2).bind fun t93 => ((xf_Pr_fieldsOf t93.2 t93.1).bind fun t96 => (if t96.1 ≤ x2 then (xf_Ch_applyToObject_107 t96.2 (0 : Int32)) else (xf_Ch_applyToObject_107 t96.2 (1 : Int32)))))) else (if x1 = 14 then (some (0, g)) else (if x1 = 15 then (some (0, g)) else (if x1 = 16 then (some (0, g)) else (if x1 = 17 then ((xf_Ch_takeNumbers g (1 : Int32)).bind fun t115 => ((xf_Ch_takeObject t115.2).bind fun t124 => ((xf_Pr_answering t124.2 t124.1 x2).bind fun t128 => (if t128.1 = (-1 : Int32) then (xf_Ch_applyToObject_140 t128.2 (0 : Int32)) else (xf_Ch_applyToObject_140 t128.2 (1 : Int32)))))) else (if x1 = 18 then ((xf_Ch_takeObject g).bind fun t153 => ((xf_Ch_put t153.2 x2).bind fun t159 => (some (0, t159.2)))) else (if x1 = 19 then ((xf_Ch_takeObject g).bind fun t166 => ((xf_Ch_put t166.2 (9 : Int32)).bind fun t173 => (some (0, t173.2)))) else (some (0, g))))))))))
set_option maxHeartbeats 4000000 in
set_option maxRecDepth 100000 in
theorem xc_Ch_applyToObject (l : Launch) (D : va_G) (cI cJ cF cZ : ClassId) (ad : Nat → Nat) (g : qa_St) (x1 : Int32) (x2 : Int32) : qa_Mv l y_Ch_applyToObject (qa_ws y_Ch_applyToObject b_Ch_applyToObject 3 none) (qa_rm 3 63) D (qa_ty cI cJ cF cZ) 107 ad (xe_en cI cJ cF ad) [.ref (ad 72), .int x1, .int x2] g (xf_Ch_applyToObject g x1 x2) := by
  refine qa_metv (by decide) (Nat.le_of_ble_eq_true rfl) ?_
  intro p e s m args below meth c Q A T S hK hN hA hT ret ls hl hO
  have hx := S.1
  have hb := S.2.1
  have hl : lv_has ls 3 [(0, .ref (ad 72)), (1, .int x1), (2, .int x2)] := hl
  have b140 : ∀ (g : qa_St) (s0 : Int32) (ls : Array Slot) (H : Heap) (locs : List Loc), lv_has ls 3 [(0, .ref (ad 72))] → qa_O D 107 ad (xe_en cI cJ cF ad) A s.heap g H locs → xf_Ch_applyToObject_140 g s0 = some T → W p l e (qa_rm 3 63) s m args below meth c H locs 0 0 Q (F0 m 140 ls [.int s0, .ref (ad 72)]) := by
    intro g s0 ls H locs hl hO hT
    unfold xf_Ch_applyToObject_140 at hT
    obtain ⟨t140, ht140, hT⟩ := qa_b hT
    refine qa_Vv (As := [.int s0]) (rest := []) (r := 72) S hK hN hA hO (xc_Ch_need l D cI cJ cF cZ ad g s0) ht140 qy_Ch_need lm_Ch_126 ⟨by decide, by decide⟩ (by decide) rfl rfl rfl rfl hl.1 rfl (Nat.le_of_ble_eq_true rfl) d_Ch_applyToObject_140 (fun H locs hO => ?_)
    refine lv_aload_n hx hb d_Ch_applyToObject_143 rfl (lv_at hl 0 rfl) ?_
    refine lv_bipush (v := 9) hx hb d_Ch_applyToObject_144 (by decide) ?_
    obtain ⟨t146, ht146, hT⟩ := qa_b hT
    refine qa_Vv (As := [.int (9 : Int32)]) (rest := []) (r := 72) S hK hN hA hO (xc_Ch_put l D cI cJ cF cZ ad t140.2 (9 : Int32)) ht146 qy_Ch_put lm_Ch_139 ⟨by decide, by decide⟩ (by decide) rfl rfl rfl rfl hl.1 rfl (Nat.le_of_ble_eq_true rfl) d_Ch_applyToObject_146 (fun H locs hO => ?_)
    refine lv_goto (tgt := 179) hx hb d_Ch_applyToObject_149 (by decide) ?_
    exact ret hT hO d_Ch_applyToObject_179
  have b107 : ∀ (g : qa_St) (s0 : Int32) (ls : Array Slot) (H : Heap) (locs : List Loc), lv_has ls 3 [] → qa_O D 107 ad (xe_en cI cJ cF ad) A s.heap g H locs → xf_Ch_applyToObject_107 g s0 = some T → W p l e (qa_rm 3 63) s m args below meth c H locs 0 0 Q (F0 m 107 ls [.int s0, .ref (ad 72)]) := by
    intro g s0 ls H locs hl hO hT
    unfold xf_Ch_applyToObject_107 at hT
    obtain ⟨t107, ht107, hT⟩ := qa_b hT
    refine qa_Vv (As := [.int s0]) (rest := []) (r := 72) S hK hN hA hO (xc_Ch_need l D cI cJ cF cZ ad g s0) ht107 qy_Ch_need lm_Ch_126 ⟨by decide, by decide⟩ (by decide) rfl rfl rfl rfl hl.1 rfl (Nat.le_of_ble_eq_true rfl) d_Ch_applyToObject_107 (fun H locs hO => ?_)
    refine lv_goto (tgt := 179) hx hb d_Ch_applyToObject_110 (by decide) ?_
    exact ret hT hO d_Ch_applyToObject_179
  have b69 : ∀ (g : qa_St) (s0 : Int32) (ls : Array Slot) (H : Heap) (locs : List Loc), lv_has ls 3 [(0, .ref (ad 72))] → qa_O D 107 ad (xe_en cI cJ cF ad) A s.heap g H locs → xf_Ch_applyToObject_69 g s0 = some T → W p l e (qa_rm 3 63) s m args below meth c H locs 0 0 Q (F0 m 69 ls [.int s0, .ref (ad 72)]) := by
    intro g s0 ls H locs hl hO hT
    unfold xf_Ch_applyToObject_69 at hT
    obtain ⟨t69, ht69, hT⟩ := qa_b hT
    refine qa_Vv (As := [.int s0]) (rest := []) (r := 72) S hK hN hA hO (xc_Ch_need l D cI cJ cF cZ ad g s0) ht69 qy_Ch_need lm_Ch_126 ⟨by decide, by decide⟩ (by decide) rfl rfl rfl rfl hl.1 rfl (Nat.le_of_ble_eq_true rfl) d_Ch_applyToObject_69 (fun H locs hO => ?_)
    refine lv_aload_n hx hb d_Ch_applyToObject_72 rfl (lv_at hl 0 rfl) ?_
    refine lv_bipush (v := 9) hx hb d_Ch_applyToObject_73 (by decide) ?_
    obtain ⟨t75, ht75, hT⟩ := qa_b hT
    refine qa_Vv (As := [.int (9 : Int32)]) (rest := []) (r := 72) S hK hN hA hO (xc_Ch_put l D cI cJ cF cZ ad t69.2 (9 : Int32)) ht75 qy_Ch_put lm_Ch_139 ⟨by decide, by decide⟩ (by decide) rfl rfl rfl rfl hl.1 rfl (Nat.le_of_ble_eq_true rfl) d_Ch_applyToObject_75 (fun H locs hO => ?_)
    refine lv_goto (tgt := 179) hx hb d_Ch_applyToObject_78 (by decide) ?_
    exact ret hT hO d_Ch_applyToObject_179
  unfold xf_Ch_applyToObject at hT
  refine lv_iload_n hx hb d_Ch_applyToObject_0 rfl (lv_at hl 1 rfl) ?_
  by_cases h1_12 : x1 = 12
  · have hT := qa_t hT h1_12
    refine lv_tableIn (off := 47) (tgt := 48) hx hb d_Ch_applyToObject_1 (by rw [h1_12]; decide) (by rw [h1_12]; decide) (by rw [h1_12]; rfl) (by decide) ?_
    refine lv_aload_n hx hb d_Ch_applyToObject_48 rfl (lv_at hl 0 rfl) ?_
    refine lv_iload_n hx hb d_Ch_applyToObject_49 rfl (lv_at hl 2 rfl) ?_
    refine lv_aload_n hx hb d_Ch_applyToObject_50 rfl (lv_at hl 0 rfl) ?_
    refine qa_get S hK hO hi_Ch 72 (by decide) rfl rfl 0 (by decide) lf_Ch_25 rfl rfl d_Ch_applyToObject_51 ?_
    refine lv_aload_n hx hb d_Ch_applyToObject_54 rfl (lv_at hl 0 rfl) ?_
    obtain ⟨t55, ht55, hT⟩ := qa_b hT
    refine qa_Vi (As := []) (rest := [.ref (ad 1), .int x2, .ref (ad 72)]) (r := 72) S hK hN hA hO (xc_Ch_takeObject l D cI cJ cF cZ ad g) ht55 qy_Ch_takeObject lm_Ch_151 ⟨by decide, by decide⟩ (by decide) rfl rfl rfl rfl hl.1 rfl (Nat.le_of_ble_eq_true rfl) d_Ch_applyToObject_55 (fun H locs hO => ?_)
    obtain ⟨t58, ht58, hT⟩ := qa_b hT
    refine qa_Vi (As := [.int t55.1]) (rest := [.int x2, .ref (ad 72)]) (r := 1) S hK hN hA hO (xc_Pr_fieldsOf l D cI cJ cF cZ ad t55.2 t55.1) ht58 qy_Pr_fieldsOf lm_Ch_154 ⟨by decide, by decide⟩ (by decide) rfl rfl rfl rfl hl.1 rfl (Nat.le_of_ble_eq_true rfl) d_Ch_applyToObject_58 (fun H locs hO => ?_)
    refine lv_icmp_ge (tgt := 68) hx hb d_Ch_applyToObject_61 (by decide) (fun h => ?_) (fun h => ?_)
    · have hT := qa_t hT h
      refine lv_iconst (v := 0) hx hb d_Ch_applyToObject_68 (by decide) ?_
      exact b69 t58.2 (0 : Int32) _ _ _ (lv_sub hl [0] rfl) hO hT
    · have hT := qa_f hT h
      refine lv_iconst (v := 1) hx hb d_Ch_applyToObject_64 (by decide) ?_
      refine lv_goto (tgt := 69) hx hb d_Ch_applyToObject_65 (by decide) ?_
      exact b69 t58.2 (1 : Int32) _ _ _ (lv_sub hl [0] rfl) hO hT
  have hT := qa_f hT h1_12
  by_cases h1_13 : x1 = 13
  · have hT := qa_t hT h1_13
    refine lv_tableIn (off := 80) (tgt := 81) hx hb d_Ch_applyToObject_1 (by rw [h1_13]; decide) (by rw [h1_13]; decide) (by rw [h1_13]; rfl) (by decide) ?_
    refine lv_aload_n hx hb d_Ch_applyToObject_81 rfl (lv_at hl 0 rfl) ?_
    refine lv_iconst (v := 1) hx hb d_Ch_applyToObject_82 (by decide) ?_
    obtain ⟨t83, ht83, hT⟩ := qa_b hT
    refine qa_Vv (As := [.int (1 : Int32)]) (rest := []) (r := 72) S hK hN hA hO (xc_Ch_takeNumbers l D cI cJ cF cZ ad g (1 : Int32)) ht83 qy_Ch_takeNumbers lm_Ch_145 ⟨by decide, by decide⟩ (by decide) rfl rfl rfl rfl hl.1 rfl (Nat.le_of_ble_eq_true rfl) d_Ch_applyToObject_83 (fun H locs hO => ?_)
    refine lv_aload_n hx hb d_Ch_applyToObject_86 rfl (lv_at hl 0 rfl) ?_
    refine lv_iload_n hx hb d_Ch_applyToObject_87 rfl (lv_at hl 2 rfl) ?_
    refine lv_aload_n hx hb d_Ch_applyToObject_88 rfl (lv_at hl 0 rfl) ?_
    refine qa_get S hK hO hi_Ch 72 (by decide) rfl rfl 0 (by decide) lf_Ch_25 rfl rfl d_Ch_applyToObject_89 ?_
    refine lv_aload_n hx hb d_Ch_applyToObject_92 rfl (lv_at hl 0 rfl) ?_
    obtain ⟨t93, ht93, hT⟩ := qa_b hT
    refine qa_Vi (As := []) (rest := [.ref (ad 1), .int x2, .ref (ad 72)]) (r := 72) S hK hN hA hO (xc_Ch_takeObject l D cI cJ cF cZ ad t83.2) ht93 qy_Ch_takeObject lm_Ch_151 ⟨by decide, by decide⟩ (by decide) rfl rfl rfl rfl hl.1 rfl (Nat.le_of_ble_eq_true rfl) d_Ch_applyToObject_93 (fun H locs hO => ?_)
    obtain ⟨t96, ht96, hT⟩ := qa_b hT
    refine qa_Vi (As := [.int t93.1]) (rest := [.int x2, .ref (ad 72)]) (r := 1) S hK hN hA hO (xc_Pr_fieldsOf l D cI cJ cF cZ ad t93.2 t93.1) ht96 qy_Pr_fieldsOf lm_Ch_154 ⟨by decide, by decide⟩ (by decide) rfl rfl rfl rfl hl.1 rfl (Nat.le_of_ble_eq_true rfl) d_Ch_applyToObject_96 (fun H locs hO => ?_)
    refine lv_icmp_ge (tgt := 106) hx hb d_Ch_applyToObject_99 (by decide) (fun h => ?_) (fun h => ?_)
    · have hT := qa_t hT h
      refine lv_iconst (v := 0) hx hb d_Ch_applyToObject_106 (by decide) ?_
      exact b107 t96.2 (0 : Int32) _ _ _ (lv_sub hl [] rfl) hO hT
    · have hT := qa_f hT h
      refine lv_iconst (v := 1) hx hb d_Ch_applyToObject_102 (by decide) ?_
      refine lv_goto (tgt := 107) hx hb d_Ch_applyToObject_103 (by decide) ?_
      exact b107 t96.2 (1 : Int32) _ _ _ (lv_sub hl [] rfl) hO hT
  have hT := qa_f hT h1_13
  by_cases h1_14 : x1 = 14
  · have hT := qa_t hT h1_14
    refine lv_tableIn (off := 178) (tgt := 179) hx hb d_Ch_applyToObject_1 (by rw [h1_14]; decide) (by rw [h1_14]; decide) (by rw [h1_14]; rfl) (by decide) ?_
    exact ret hT hO d_Ch_applyToObject_179
  have hT := qa_f hT h1_14
  by_cases h1_15 : x1 = 15
  · have hT := qa_t hT h1_15
    refine lv_tableIn (off := 178) (tgt := 179) hx hb d_Ch_applyToObject_1 (by rw [h1_15]; decide) (by rw [h1_15]; decide) (by rw [h1_15]; rfl) (by decide) ?_
    exact ret hT hO d_Ch_applyToObject_179
  have hT := qa_f hT h1_15
  by_cases h1_16 : x1 = 16
  · have hT := qa_t hT h1_16
    refine lv_tableIn (off := 178) (tgt := 179) hx hb d_Ch_applyToObject_1 (by rw [h1_16]; decide) (by rw [h1_16]; decide) (by rw [h1_16]; rfl) (by decide) ?_
    exact ret hT hO d_Ch_applyToObject_179
  have hT := qa_f hT h1_16
  by_cases h1_17 : x1 = 17
  · have hT := qa_t hT h1_17
    refine lv_tableIn (off := 112) (tgt := 113) hx hb d_Ch_applyToObject_1 (by rw [h1_17]; decide) (by rw [h1_17]; decide) (by rw [h1_17]; rfl) (by decide) ?_
    refine lv_aload_n hx hb d_Ch_applyToObject_113 rfl (lv_at hl 0 rfl) ?_
    refine lv_iconst (v := 1) hx hb d_Ch_applyToObject_114 (by decide) ?_
    obtain ⟨t115, ht115, hT⟩ := qa_b hT
    refine qa_Vv (As := [.int (1 : Int32)]) (rest := []) (r := 72) S hK hN hA hO (xc_Ch_takeNumbers l D cI cJ cF cZ ad g (1 : Int32)) ht115 qy_Ch_takeNumbers lm_Ch_145 ⟨by decide, by decide⟩ (by decide) rfl rfl rfl rfl hl.1 rfl (Nat.le_of_ble_eq_true rfl) d_Ch_applyToObject_115 (fun H locs hO => ?_)
    refine lv_aload_n hx hb d_Ch_applyToObject_118 rfl (lv_at hl 0 rfl) ?_
    refine lv_aload_n hx hb d_Ch_applyToObject_119 rfl (lv_at hl 0 rfl) ?_
    refine qa_get S hK hO hi_Ch 72 (by decide) rfl rfl 0 (by decide) lf_Ch_25 rfl rfl d_Ch_applyToObject_120 ?_
    refine lv_aload_n hx hb d_Ch_applyToObject_123 rfl (lv_at hl 0 rfl) ?_
    obtain ⟨t124, ht124, hT⟩ := qa_b hT
    refine qa_Vi (As := []) (rest := [.ref (ad 1), .ref (ad 72)]) (r := 72) S hK hN hA hO (xc_Ch_takeObject l D cI cJ cF cZ ad t115.2) ht124 qy_Ch_takeObject lm_Ch_151 ⟨by decide, by decide⟩ (by decide) rfl rfl rfl rfl hl.1 rfl (Nat.le_of_ble_eq_true rfl) d_Ch_applyToObject_124 (fun H locs hO => ?_)
    refine lv_iload_n hx hb d_Ch_applyToObject_127 rfl (lv_at hl 2 rfl) ?_
    obtain ⟨t128, ht128, hT⟩ := qa_b hT
    refine qa_Vi (As := [.int t124.1, .int x2]) (rest := [.ref (ad 72)]) (r := 1) S hK hN hA hO (xc_Pr_answering l D cI cJ cF cZ ad t124.2 t124.1 x2) ht128 qy_Pr_answering lm_Ch_157 ⟨by decide, by decide⟩ (by decide) rfl rfl rfl rfl hl.1 rfl (Nat.le_of_ble_eq_true rfl) d_Ch_applyToObject_128 (fun H locs hO => ?_)
    refine lv_iconst (v := -1) hx hb d_Ch_applyToObject_131 (by decide) ?_
    refine lv_icmp_eq (tgt := 139) hx hb d_Ch_applyToObject_132 (by decide) (fun h => ?_) (fun h => ?_)
    · have hT := qa_t hT h
      refine lv_iconst (v := 0) hx hb d_Ch_applyToObject_139 (by decide) ?_
      exact b140 t128.2 (0 : Int32) _ _ _ (lv_sub hl [0] rfl) hO hT
    · have hT := qa_f hT h
      refine lv_iconst (v := 1) hx hb d_Ch_applyToObject_135 (by decide) ?_
      refine lv_goto (tgt := 140) hx hb d_Ch_applyToObject_136 (by decide) ?_
      exact b140 t128.2 (1 : Int32) _ _ _ (lv_sub hl [0] rfl) hO hT
  have hT := qa_f hT h1_17
  by_cases h1_18 : x1 = 18
  · have hT := qa_t hT h1_18
    refine lv_tableIn (off := 151) (tgt := 152) hx hb d_Ch_applyToObject_1 (by rw [h1_18]; decide) (by rw [h1_18]; decide) (by rw [h1_18]; rfl) (by decide) ?_
    refine lv_aload_n hx hb d_Ch_applyToObject_152 rfl (lv_at hl 0 rfl) ?_
    obtain ⟨t153, ht153, hT⟩ := qa_b hT
    refine qa_Vi (As := []) (rest := []) (r := 72) S hK hN hA hO (xc_Ch_takeObject l D cI cJ cF cZ ad g) ht153 qy_Ch_takeObject lm_Ch_151 ⟨by decide, by decide⟩ (by decide) rfl rfl rfl rfl hl.1 rfl (Nat.le_of_ble_eq_true rfl) d_Ch_applyToObject_153 (fun H locs hO => ?_)
    refine lv_pop hx hb d_Ch_applyToObject_156 rfl ?_
    refine lv_aload_n hx hb d_Ch_applyToObject_157 rfl (lv_at hl 0 rfl) ?_
    refine lv_iload_n hx hb d_Ch_applyToObject_158 rfl (lv_at hl 2 rfl) ?_
    obtain ⟨t159, ht159, hT⟩ := qa_b hT
    refine qa_Vv (As := [.int x2]) (rest := []) (r := 72) S hK hN hA hO (xc_Ch_put l D cI cJ cF cZ ad t153.2 x2) ht159 qy_Ch_put lm_Ch_139 ⟨by decide, by decide⟩ (by decide) rfl rfl rfl rfl hl.1 rfl (Nat.le_of_ble_eq_true rfl) d_Ch_applyToObject_159 (fun H locs hO => ?_)
    refine lv_goto (tgt := 179) hx hb d_Ch_applyToObject_162 (by decide) ?_
    exact ret hT hO d_Ch_applyToObject_179
  have hT := qa_f hT h1_18
  by_cases h1_19 : x1 = 19
  · have hT := qa_t hT h1_19
    refine lv_tableIn (off := 164) (tgt := 165) hx hb d_Ch_applyToObject_1 (by rw [h1_19]; decide) (by rw [h1_19]; decide) (by rw [h1_19]; rfl) (by decide) ?_
    refine lv_aload_n hx hb d_Ch_applyToObject_165 rfl (lv_at hl 0 rfl) ?_
    obtain ⟨t166, ht166, hT⟩ := qa_b hT
    refine qa_Vi (As := []) (rest := []) (r := 72) S hK hN hA hO (xc_Ch_takeObject l D cI cJ cF cZ ad g) ht166 qy_Ch_takeObject lm_Ch_151 ⟨by decide, by decide⟩ (by decide) rfl rfl rfl rfl hl.1 rfl (Nat.le_of_ble_eq_true rfl) d_Ch_applyToObject_166 (fun H locs hO => ?_)
    refine lv_pop hx hb d_Ch_applyToObject_169 rfl ?_
    refine lv_aload_n hx hb d_Ch_applyToObject_170 rfl (lv_at hl 0 rfl) ?_
    refine lv_bipush (v := 9) hx hb d_Ch_applyToObject_171 (by decide) ?_
    obtain ⟨t173, ht173, hT⟩ := qa_b hT
    refine qa_Vv (As := [.int (9 : Int32)]) (rest := []) (r := 72) S hK hN hA hO (xc_Ch_put l D cI cJ cF cZ ad t166.2 (9 : Int32)) ht173 qy_Ch_put lm_Ch_139 ⟨by decide, by decide⟩ (by decide) rfl rfl rfl rfl hl.1 rfl (Nat.le_of_ble_eq_true rfl) d_Ch_applyToObject_173 (fun H locs hO => ?_)
    refine lv_goto (tgt := 179) hx hb d_Ch_applyToObject_176 (by decide) ?_
    exact ret hT hO d_Ch_applyToObject_179
  have hT := qa_f hT h1_19
  have z12 : x1.toInt ≠ 12 := qa_ne h1_12 (by decide)
  have z13 : x1.toInt ≠ 13 := qa_ne h1_13 (by decide)
  have z14 : x1.toInt ≠ 14 := qa_ne h1_14 (by decide)
  have z15 : x1.toInt ≠ 15 := qa_ne h1_15 (by decide)
  have z16 : x1.toInt ≠ 16 := qa_ne h1_16 (by decide)
  have z17 : x1.toInt ≠ 17 := qa_ne h1_17 (by decide)
  have z18 : x1.toInt ≠ 18 := qa_ne h1_18 (by decide)
  have z19 : x1.toInt ≠ 19 := qa_ne h1_19 (by decide)
  refine lv_tableOut (tgt := 179) hx hb d_Ch_applyToObject_1 (by omega) (by decide) ?_
  exact ret hT hO d_Ch_applyToObject_179
