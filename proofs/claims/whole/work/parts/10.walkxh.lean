def xf_Ma_calculate (g : qa_St) (x1 : Int32) (r2 : Nat) : qa_Re := ((xf_Fr_pop g r2).bind fun t1 => ((xf_Fr_pop t1.2 r2).bind fun t6 => (if x1 = 5 then ((xf_Fr_push t6.2 r2 (t6.1 + t1.1)).bind fun t45 => (some ((0 : Int32), t45.2))) else (if x1 = 6 then ((xf_Fr_push t6.2 r2 (t6.1 - t1.1)).bind fun t55 => (some ((0 : Int32), t55.2))) else (if x1 = 7 then ((xf_Fr_push t6.2 r2 (t6.1 * t1.1)).bind fun t65 => (some ((0 : Int32), t65.2))) else (if t1.1 = 0 then ((xf_Ma_toss t6.2 (-2 : Int32)).bind fun t77 => (some (t77.1, t77.2))) else (if t1.1 = 0 then none else ((xf_Fr_push t6.2 r2 (t6.1 / t1.1)).bind fun t86 => (some ((0 : Int32), t86.2))))))))))
set_option maxHeartbeats 4000000 in
set_option maxRecDepth 100000 in
theorem xc_Ma_calculate (l : Launch) (D : va_G) (cI cJ cF cZ : ClassId) (ad : Nat → Nat) (g : qa_St) (x1 : Int32) (r2 : Nat) (hf2 : xe_F r2) : qa_Mi l y_Ma_calculate (qa_ws y_Ma_calculate b_Ma_calculate 5 (some .int)) (qa_rm 1 21) D (qa_ty cI cJ cF cZ) 107 ad (xe_en cI cJ cF ad) [.ref (ad 78), .int x1, .ref (ad r2)] g (xf_Ma_calculate g x1 r2) := by
  refine qa_meti (by decide) (Nat.le_of_ble_eq_true rfl) ?_
  intro p e s m args below meth c Q A T S hK hN hA hT ret ls hl hO
  have hx := S.1
  have hb := S.2.1
  have hl : lv_has ls 5 [(0, .ref (ad 78)), (1, .int x1), (2, .ref (ad r2))] := hl
  unfold xf_Ma_calculate at hT
  refine lv_aload_n hx hb d_Ma_calculate_0 rfl (lv_at hl 2 rfl) ?_
  obtain ⟨t1, ht1, hT⟩ := qa_b hT
  refine qa_Vi (As := []) (rest := []) (r := r2) S hK hN hA hO (xc_Fr_pop l D cI cJ cF cZ ad g r2 hf2) ht1 qy_Fr_pop lm_Ma_126 ⟨by decide, by decide⟩ (xe_Flt hf2) (xe_fr hf2 _) rfl rfl rfl hl.1 rfl (Nat.le_of_ble_eq_true rfl) d_Ma_calculate_1 (fun H locs hO => ?_)
  refine lv_istore_n (lv' := [(3, .int t1.1), (0, .ref (ad 78)), (1, .int x1), (2, .ref (ad r2))]) hx hb d_Ma_calculate_4 rfl hl (by decide) rfl (fun ls hl => ?_)
  refine lv_aload_n hx hb d_Ma_calculate_5 rfl (lv_at hl 3 rfl) ?_
  obtain ⟨t6, ht6, hT⟩ := qa_b hT
  refine qa_Vi (As := []) (rest := []) (r := r2) S hK hN hA hO (xc_Fr_pop l D cI cJ cF cZ ad t1.2 r2 hf2) ht6 qy_Fr_pop lm_Ma_126 ⟨by decide, by decide⟩ (xe_Flt hf2) (xe_fr hf2 _) rfl rfl rfl hl.1 rfl (Nat.le_of_ble_eq_true rfl) d_Ma_calculate_6 (fun H locs hO => ?_)
  refine lv_istore (lv' := [(4, .int t6.1), (3, .int t1.1), (0, .ref (ad 78)), (1, .int x1), (2, .ref (ad r2))]) hx hb d_Ma_calculate_9 hl (by decide) rfl (fun ls hl => ?_)
  refine lv_iload_n hx hb d_Ma_calculate_11 rfl (lv_at hl 3 rfl) ?_
  by_cases h12_5 : x1 = 5
  · have hT := qa_t hT h12_5
    refine lv_tableIn (off := 28) (tgt := 40) hx hb d_Ma_calculate_12 (by rw [h12_5]; decide) (by rw [h12_5]; decide) (by rw [h12_5]; rfl) (by decide) ?_
    refine lv_aload_n hx hb d_Ma_calculate_40 rfl (lv_at hl 4 rfl) ?_
    refine lv_iload hx hb d_Ma_calculate_41 (lv_at hl 0 rfl) ?_
    refine lv_iload_n hx hb d_Ma_calculate_43 rfl (lv_at hl 1 rfl) ?_
    refine lv_iadd hx hb d_Ma_calculate_44 ?_
    obtain ⟨t45, ht45, hT⟩ := qa_b hT
    refine qa_Vv (As := [.int (t6.1 + t1.1)]) (rest := []) (r := r2) S hK hN hA hO (xc_Fr_push l D cI cJ cF cZ ad t6.2 r2 (t6.1 + t1.1) hf2) ht45 qy_Fr_push lm_Ma_63 ⟨by decide, by decide⟩ (xe_Flt hf2) (xe_fr hf2 _) rfl rfl rfl hl.1 rfl (Nat.le_of_ble_eq_true rfl) d_Ma_calculate_45 (fun H locs hO => ?_)
    refine lv_iconst (v := 0) hx hb d_Ma_calculate_48 (by decide) ?_
    exact ret hT hO d_Ma_calculate_49
  have hT := qa_f hT h12_5
  by_cases h12_6 : x1 = 6
  · have hT := qa_t hT h12_6
    refine lv_tableIn (off := 38) (tgt := 50) hx hb d_Ma_calculate_12 (by rw [h12_6]; decide) (by rw [h12_6]; decide) (by rw [h12_6]; rfl) (by decide) ?_
    refine lv_aload_n hx hb d_Ma_calculate_50 rfl (lv_at hl 4 rfl) ?_
    refine lv_iload hx hb d_Ma_calculate_51 (lv_at hl 0 rfl) ?_
    refine lv_iload_n hx hb d_Ma_calculate_53 rfl (lv_at hl 1 rfl) ?_
    refine lv_isub hx hb d_Ma_calculate_54 ?_
    obtain ⟨t55, ht55, hT⟩ := qa_b hT
    refine qa_Vv (As := [.int (t6.1 - t1.1)]) (rest := []) (r := r2) S hK hN hA hO (xc_Fr_push l D cI cJ cF cZ ad t6.2 r2 (t6.1 - t1.1) hf2) ht55 qy_Fr_push lm_Ma_63 ⟨by decide, by decide⟩ (xe_Flt hf2) (xe_fr hf2 _) rfl rfl rfl hl.1 rfl (Nat.le_of_ble_eq_true rfl) d_Ma_calculate_55 (fun H locs hO => ?_)
    refine lv_iconst (v := 0) hx hb d_Ma_calculate_58 (by decide) ?_
    exact ret hT hO d_Ma_calculate_59
  have hT := qa_f hT h12_6
  by_cases h12_7 : x1 = 7
  · have hT := qa_t hT h12_7
    refine lv_tableIn (off := 48) (tgt := 60) hx hb d_Ma_calculate_12 (by rw [h12_7]; decide) (by rw [h12_7]; decide) (by rw [h12_7]; rfl) (by decide) ?_
    refine lv_aload_n hx hb d_Ma_calculate_60 rfl (lv_at hl 4 rfl) ?_
    refine lv_iload hx hb d_Ma_calculate_61 (lv_at hl 0 rfl) ?_
    refine lv_iload_n hx hb d_Ma_calculate_63 rfl (lv_at hl 1 rfl) ?_
    refine lv_imul hx hb d_Ma_calculate_64 ?_
    obtain ⟨t65, ht65, hT⟩ := qa_b hT
    refine qa_Vv (As := [.int (t6.1 * t1.1)]) (rest := []) (r := r2) S hK hN hA hO (xc_Fr_push l D cI cJ cF cZ ad t6.2 r2 (t6.1 * t1.1) hf2) ht65 qy_Fr_push lm_Ma_63 ⟨by decide, by decide⟩ (xe_Flt hf2) (xe_fr hf2 _) rfl rfl rfl hl.1 rfl (Nat.le_of_ble_eq_true rfl) d_Ma_calculate_65 (fun H locs hO => ?_)
    refine lv_iconst (v := 0) hx hb d_Ma_calculate_68 (by decide) ?_
    exact ret hT hO d_Ma_calculate_69
  have hT := qa_f hT h12_7
  have z5 : x1.toInt ≠ 5 := qa_ne h12_5 (by decide)
  have z6 : x1.toInt ≠ 6 := qa_ne h12_6 (by decide)
  have z7 : x1.toInt ≠ 7 := qa_ne h12_7 (by decide)
  refine lv_tableOut (tgt := 70) hx hb d_Ma_calculate_12 (by omega) (by decide) ?_
  refine lv_iload_n hx hb d_Ma_calculate_70 rfl (lv_at hl 1 rfl) ?_
  refine lv_if_ne (tgt := 81) hx hb d_Ma_calculate_71 (by decide) (fun h => ?_) (fun h => ?_)
  · have hT := qa_f hT h
    refine lv_aload_n hx hb d_Ma_calculate_81 rfl (lv_at hl 4 rfl) ?_
    refine lv_iload hx hb d_Ma_calculate_82 (lv_at hl 0 rfl) ?_
    refine lv_iload_n hx hb d_Ma_calculate_84 rfl (lv_at hl 1 rfl) ?_
    obtain ⟨hi85, hT⟩ := qa_c hT
    refine lv_idiv hx hb d_Ma_calculate_85 hi85 ?_
    obtain ⟨t86, ht86, hT⟩ := qa_b hT
    refine qa_Vv (As := [.int (t6.1 / t1.1)]) (rest := []) (r := r2) S hK hN hA hO (xc_Fr_push l D cI cJ cF cZ ad t6.2 r2 (t6.1 / t1.1) hf2) ht86 qy_Fr_push lm_Ma_63 ⟨by decide, by decide⟩ (xe_Flt hf2) (xe_fr hf2 _) rfl rfl rfl hl.1 rfl (Nat.le_of_ble_eq_true rfl) d_Ma_calculate_86 (fun H locs hO => ?_)
    refine lv_iconst (v := 0) hx hb d_Ma_calculate_89 (by decide) ?_
    exact ret hT hO d_Ma_calculate_90
  · have hT := qa_t hT h
    refine lv_aload_n hx hb d_Ma_calculate_74 rfl (lv_at hl 2 rfl) ?_
    refine lv_bipush (v := -2) hx hb d_Ma_calculate_75 (by decide) ?_
    obtain ⟨t77, ht77, hT⟩ := qa_b hT
    refine qa_Vi (As := [.int (-2 : Int32)]) (rest := []) (r := 78) S hK hN hA hO (xc_Ma_toss l D cI cJ cF cZ ad t6.2 (-2 : Int32)) ht77 qy_Ma_toss lm_Ma_87 ⟨by decide, by decide⟩ (by decide) rfl rfl rfl rfl hl.1 rfl (Nat.le_of_ble_eq_true rfl) d_Ma_calculate_77 (fun H locs hO => ?_)
    exact ret hT hO d_Ma_calculate_80
def xf_Ma_print_19 (g : qa_St) : qa_Re := (some (0, (qa_up g 78 9 ((g 78 9) + (1 : Int32)))))
def xf_Ma_print (g : qa_St) (x1 : Int32) : qa_Re := (if (16 : Int32) ≤ (g 78 9) then (xf_Ma_print_19 g) else (if (g 78 9) < 0 ∨ 16 ≤ (g 78 9).toNatClampNeg then none else (xf_Ma_print_19 (qa_up g 84 (g 78 9).toNatClampNeg x1))))
set_option maxHeartbeats 4000000 in
set_option maxRecDepth 100000 in
theorem xc_Ma_print (l : Launch) (D : va_G) (cI cJ cF cZ : ClassId) (ad : Nat → Nat) (g : qa_St) (x1 : Int32) : qa_Mv l y_Ma_print (qa_ws y_Ma_print b_Ma_print 2 none) (qa_rm 0 0) D (qa_ty cI cJ cF cZ) 107 ad (xe_en cI cJ cF ad) [.ref (ad 78), .int x1] g (xf_Ma_print g x1) := by
  refine qa_metv (by decide) (Nat.le_of_ble_eq_true rfl) ?_
  intro p e s m args below meth c Q A T S hK hN hA hT ret ls hl hO
  have hx := S.1
  have hb := S.2.1
  have hl : lv_has ls 2 [(0, .ref (ad 78)), (1, .int x1)] := hl
  have b19 : ∀ (g : qa_St) (ls : Array Slot) (H : Heap) (locs : List Loc), lv_has ls 2 [(0, .ref (ad 78))] → qa_O D 107 ad (xe_en cI cJ cF ad) A s.heap g H locs → xf_Ma_print_19 g = some T → W p l e (qa_rm 0 0) s m args below meth c H locs 0 0 Q (F0 m 19 ls []) := by
    intro g ls H locs hl hO hT
    unfold xf_Ma_print_19 at hT
    refine lv_aload_n hx hb d_Ma_print_19 rfl (lv_at hl 0 rfl) ?_
    refine lv_dup hx hb d_Ma_print_20 rfl ?_
    refine qa_get S hK hO hi_Ma 78 (by decide) rfl rfl 9 (by decide) lf_Ma_51 rfl rfl d_Ma_print_21 ?_
    refine lv_iconst (v := 1) hx hb d_Ma_print_24 (by decide) ?_
    refine lv_iadd hx hb d_Ma_print_25 ?_
    refine qa_put S hK hO hi_Ma t_Ma t_Ma_ok n_Ma 78 (by decide) rfl rfl 9 (by decide) lf_Ma_51 rfl rfl (ty := .int) (by decide +kernel) rfl rfl (Nat.le_of_ble_eq_true rfl) rfl d_Ma_print_26 (fun H locs hO => ?_)
    exact ret hT hO d_Ma_print_29
  unfold xf_Ma_print at hT
  refine lv_aload_n hx hb d_Ma_print_0 rfl (lv_at hl 0 rfl) ?_
  refine qa_get S hK hO hi_Ma 78 (by decide) rfl rfl 9 (by decide) lf_Ma_51 rfl rfl d_Ma_print_1 ?_
  refine lv_bipush (v := 16) hx hb d_Ma_print_4 (by decide) ?_
  refine lv_icmp_ge (tgt := 19) hx hb d_Ma_print_6 (by decide) (fun h => ?_) (fun h => ?_)
  · have hT := qa_t hT h
    exact b19 g _ _ _ (lv_sub hl [0] rfl) hO hT
  · have hT := qa_f hT h
    refine lv_aload_n hx hb d_Ma_print_9 rfl (lv_at hl 0 rfl) ?_
    refine qa_get S hK hO hi_Ma 78 (by decide) rfl rfl 6 (by decide) lf_Ma_30 rfl rfl d_Ma_print_10 ?_
    refine lv_aload_n hx hb d_Ma_print_13 rfl (lv_at hl 0 rfl) ?_
    refine qa_get S hK hO hi_Ma 78 (by decide) rfl rfl 9 (by decide) lf_Ma_51 rfl rfl d_Ma_print_14 ?_
    refine lv_iload_n hx hb d_Ma_print_17 rfl (lv_at hl 1 rfl) ?_
    obtain ⟨hi18, hT⟩ := qa_c hT
    refine qa_iast (n := 16) S hK hO 84 (by decide) 0 (xe_arr rfl) rfl hi18 d_Ma_print_18 (fun H locs hO => ?_)
    exact b19 (qa_up g 84 (g 78 9).toNatClampNeg x1) _ _ _ (lv_sub hl [0] rfl) hO hT
def xf_Ma_isNull (g : qa_St) (x1 : Int32) : qa_Re := ((xf_Cw_within g x1 (g 78 8)).bind fun t5 => (if t5.1 = 0 then (some ((1 : Int32), t5.2)) else (some ((0 : Int32), t5.2))))
set_option maxHeartbeats 4000000 in
set_option maxRecDepth 100000 in
theorem xc_Ma_isNull (l : Launch) (D : va_G) (cI cJ cF cZ : ClassId) (ad : Nat → Nat) (g : qa_St) (x1 : Int32) : qa_Mi l y_Ma_isNull (qa_ws y_Ma_isNull b_Ma_isNull 2 (some .boolean)) (qa_rm 1 21) D (qa_ty cI cJ cF cZ) 107 ad (xe_en cI cJ cF ad) [.ref (ad 78), .int x1] g (xf_Ma_isNull g x1) := by
  refine qa_metz (by decide) (Nat.le_of_ble_eq_true rfl) ?_
  intro p e s m args below meth c Q A T S hK hN hA hT ret ls hl hO
  have hx := S.1
  have hb := S.2.1
  have hl : lv_has ls 2 [(0, .ref (ad 78)), (1, .int x1)] := hl
  unfold xf_Ma_isNull at hT
  refine lv_iload_n hx hb d_Ma_isNull_0 rfl (lv_at hl 1 rfl) ?_
  refine lv_aload_n hx hb d_Ma_isNull_1 rfl (lv_at hl 0 rfl) ?_
  refine qa_get S hK hO hi_Ma 78 (by decide) rfl rfl 8 (by decide) lf_Ma_48 rfl rfl d_Ma_isNull_2 ?_
  obtain ⟨t5, ht5, hT⟩ := qa_b hT
  refine qa_SNi (As := [.int x1, .int (g 78 8)]) (rest := []) S hK hN hA hO (xc_Cw_within l D cI cJ cF cZ ad g x1 (g 78 8)) ht5 qy_Cw_within ln_Ma_83 ⟨by decide, by decide⟩ rfl hl.1 rfl (Nat.le_of_ble_eq_true rfl) d_Ma_isNull_5 (fun H locs hO => ?_)
  refine lv_if_ne (tgt := 15) hx hb d_Ma_isNull_8 (by decide) (fun h => ?_) (fun h => ?_)
  · have hT := qa_f hT h
    refine lv_iconst (v := 0) hx hb d_Ma_isNull_15 (by decide) ?_
    exact ret (by decide) hT hO d_Ma_isNull_16
  · have hT := qa_t hT h
    refine lv_iconst (v := 1) hx hb d_Ma_isNull_11 (by decide) ?_
    refine lv_goto (tgt := 16) hx hb d_Ma_isNull_12 (by decide) ?_
    exact ret (by decide) hT hO d_Ma_isNull_16
def xf_Ma_accessField_14 (r3 : Nat) (g : qa_St) (x1 : Int32) (x2 : Int32) (s0 : Int32) : qa_Re := ((xf_Fr_pop g r3).bind fun t17 => ((xf_Ma_isNull t17.2 t17.1).bind fun t25 => (if t25.1 = 0 then (if x1 = (13 : Int32) then (if ((t17.1 * (6 : Int32)) + x2) < 0 ∨ 96 ≤ ((t17.1 * (6 : Int32)) + x2).toNatClampNeg then none else (some ((0 : Int32), (qa_up t25.2 83 ((t17.1 * (6 : Int32)) + x2).toNatClampNeg s0)))) else (if ((t17.1 * (6 : Int32)) + x2) < 0 ∨ 96 ≤ ((t17.1 * (6 : Int32)) + x2).toNatClampNeg then none else ((xf_Fr_push t25.2 r3 (t25.2 83 ((t17.1 * (6 : Int32)) + x2).toNatClampNeg)).bind fun t72 => (some ((0 : Int32), t72.2))))) else ((xf_Ma_toss t25.2 (-1 : Int32)).bind fun t33 => (some (t33.1, t33.2))))))
def xf_Ma_accessField (g : qa_St) (x1 : Int32) (x2 : Int32) (r3 : Nat) : qa_Re := (if x1 = (13 : Int32) then ((xf_Fr_pop g r3).bind fun t7 => (xf_Ma_accessField_14 r3 t7.2 x1 x2 t7.1)) else (xf_Ma_accessField_14 r3 g x1 x2 (0 : Int32)))
set_option maxHeartbeats 4000000 in
set_option maxRecDepth 100000 in
theorem xc_Ma_accessField (l : Launch) (D : va_G) (cI cJ cF cZ : ClassId) (ad : Nat → Nat) (g : qa_St) (x1 : Int32) (x2 : Int32) (r3 : Nat) (hf3 : xe_F r3) : qa_Mi l y_Ma_accessField (qa_ws y_Ma_accessField b_Ma_accessField 7 (some .int)) (qa_rm 2 42) D (qa_ty cI cJ cF cZ) 107 ad (xe_en cI cJ cF ad) [.ref (ad 78), .int x1, .int x2, .ref (ad r3)] g (xf_Ma_accessField g x1 x2 r3) := by
  refine qa_meti (by decide) (Nat.le_of_ble_eq_true rfl) ?_
  intro p e s m args below meth c Q A T S hK hN hA hT ret ls hl hO
  have hx := S.1
  have hb := S.2.1
  have hl : lv_has ls 7 [(0, .ref (ad 78)), (1, .int x1), (2, .int x2), (3, .ref (ad r3))] := hl
  have b14 : ∀ (g : qa_St) (x1 : Int32) (x2 : Int32) (s0 : Int32) (ls : Array Slot) (H : Heap) (locs : List Loc), lv_has ls 7 [(0, .ref (ad 78)), (1, .int x1), (2, .int x2), (3, .ref (ad r3))] → qa_O D 107 ad (xe_en cI cJ cF ad) A s.heap g H locs → xf_Ma_accessField_14 r3 g x1 x2 s0 = some T → W p l e (qa_rm 2 42) s m args below meth c H locs 0 0 Q (F0 m 14 ls [.int s0]) := by
    intro g x1 x2 s0 ls H locs hl hO hT
    unfold xf_Ma_accessField_14 at hT
    refine lv_istore (lv' := [(4, .int s0), (0, .ref (ad 78)), (1, .int x1), (2, .int x2), (3, .ref (ad r3))]) hx hb d_Ma_accessField_14 hl (by decide) rfl (fun ls hl => ?_)
    refine lv_aload_n hx hb d_Ma_accessField_16 rfl (lv_at hl 4 rfl) ?_
    obtain ⟨t17, ht17, hT⟩ := qa_b hT
    refine qa_Vi (As := []) (rest := []) (r := r3) S hK hN hA hO (xc_Fr_pop l D cI cJ cF cZ ad g r3 hf3) ht17 qy_Fr_pop lm_Ma_126 ⟨by decide, by decide⟩ (xe_Flt hf3) (xe_fr hf3 _) rfl rfl rfl hl.1 rfl (Nat.le_of_ble_eq_true rfl) d_Ma_accessField_17 (fun H locs hO => ?_)
    refine lv_istore (lv' := [(5, .int t17.1), (4, .int s0), (0, .ref (ad 78)), (1, .int x1), (2, .int x2), (3, .ref (ad r3))]) hx hb d_Ma_accessField_20 hl (by decide) rfl (fun ls hl => ?_)
    refine lv_aload_n hx hb d_Ma_accessField_22 rfl (lv_at hl 2 rfl) ?_
    refine lv_iload hx hb d_Ma_accessField_23 (lv_at hl 0 rfl) ?_
    obtain ⟨t25, ht25, hT⟩ := qa_b hT
    refine qa_Vi (As := [.int t17.1]) (rest := []) (r := 78) S hK hN hA hO (xc_Ma_isNull l D cI cJ cF cZ ad t17.2 t17.1) ht25 qy_Ma_isNull lm_Ma_161 ⟨by decide, by decide⟩ (by decide) rfl rfl rfl rfl hl.1 rfl (Nat.le_of_ble_eq_true rfl) d_Ma_accessField_25 (fun H locs hO => ?_)
    refine lv_if_eq (tgt := 37) hx hb d_Ma_accessField_28 (by decide) (fun h => ?_) (fun h => ?_)
    · have hT := qa_t hT h
      refine lv_iload hx hb d_Ma_accessField_37 (lv_at hl 0 rfl) ?_
      refine lv_bipush (v := 6) hx hb d_Ma_accessField_39 (by decide) ?_
      refine lv_imul hx hb d_Ma_accessField_41 ?_
      refine lv_iload_n hx hb d_Ma_accessField_42 rfl (lv_at hl 4 rfl) ?_
      refine lv_iadd hx hb d_Ma_accessField_43 ?_
      refine lv_istore (lv' := [(6, .int ((t17.1 * (6 : Int32)) + x2)), (5, .int t17.1), (4, .int s0), (0, .ref (ad 78)), (1, .int x1), (2, .int x2), (3, .ref (ad r3))]) hx hb d_Ma_accessField_44 hl (by decide) rfl (fun ls hl => ?_)
      refine lv_iload_n hx hb d_Ma_accessField_46 rfl (lv_at hl 4 rfl) ?_
      refine lv_bipush (v := 13) hx hb d_Ma_accessField_47 (by decide) ?_
      refine lv_icmp_ne (tgt := 64) hx hb d_Ma_accessField_49 (by decide) (fun h => ?_) (fun h => ?_)
      · have hT := qa_f hT h
        refine lv_aload_n hx hb d_Ma_accessField_64 rfl (lv_at hl 6 rfl) ?_
        refine lv_aload_n hx hb d_Ma_accessField_65 rfl (lv_at hl 3 rfl) ?_
        refine qa_get S hK hO hi_Ma 78 (by decide) rfl rfl 5 (by decide) lf_Ma_27 rfl rfl d_Ma_accessField_66 ?_
        refine lv_iload hx hb d_Ma_accessField_69 (lv_at hl 0 rfl) ?_
        obtain ⟨hi71, hT⟩ := qa_c hT
        refine qa_iald (n := 96) S hK hO 83 (by decide) 0 (xe_arr rfl) rfl hi71 d_Ma_accessField_71 ?_
        obtain ⟨t72, ht72, hT⟩ := qa_b hT
        refine qa_Vv (As := [.int (t25.2 83 ((t17.1 * (6 : Int32)) + x2).toNatClampNeg)]) (rest := []) (r := r3) S hK hN hA hO (xc_Fr_push l D cI cJ cF cZ ad t25.2 r3 (t25.2 83 ((t17.1 * (6 : Int32)) + x2).toNatClampNeg) hf3) ht72 qy_Fr_push lm_Ma_63 ⟨by decide, by decide⟩ (xe_Flt hf3) (xe_fr hf3 _) rfl rfl rfl hl.1 rfl (Nat.le_of_ble_eq_true rfl) d_Ma_accessField_72 (fun H locs hO => ?_)
        refine lv_iconst (v := 0) hx hb d_Ma_accessField_75 (by decide) ?_
        exact ret hT hO d_Ma_accessField_76
      · have hT := qa_t hT h
        refine lv_aload_n hx hb d_Ma_accessField_52 rfl (lv_at hl 3 rfl) ?_
        refine qa_get S hK hO hi_Ma 78 (by decide) rfl rfl 5 (by decide) lf_Ma_27 rfl rfl d_Ma_accessField_53 ?_
        refine lv_iload hx hb d_Ma_accessField_56 (lv_at hl 0 rfl) ?_
        refine lv_iload hx hb d_Ma_accessField_58 (lv_at hl 2 rfl) ?_
        obtain ⟨hi60, hT⟩ := qa_c hT
        refine qa_iast (n := 96) S hK hO 83 (by decide) 0 (xe_arr rfl) rfl hi60 d_Ma_accessField_60 (fun H locs hO => ?_)
        refine lv_goto (tgt := 75) hx hb d_Ma_accessField_61 (by decide) ?_
        refine lv_iconst (v := 0) hx hb d_Ma_accessField_75 (by decide) ?_
        exact ret hT hO d_Ma_accessField_76
    · have hT := qa_f hT h
      refine lv_aload_n hx hb d_Ma_accessField_31 rfl (lv_at hl 2 rfl) ?_
      refine lv_iconst (v := -1) hx hb d_Ma_accessField_32 (by decide) ?_
      obtain ⟨t33, ht33, hT⟩ := qa_b hT
      refine qa_Vi (As := [.int (-1 : Int32)]) (rest := []) (r := 78) S hK hN hA hO (xc_Ma_toss l D cI cJ cF cZ ad t25.2 (-1 : Int32)) ht33 qy_Ma_toss lm_Ma_87 ⟨by decide, by decide⟩ (by decide) rfl rfl rfl rfl hl.1 rfl (Nat.le_of_ble_eq_true rfl) d_Ma_accessField_33 (fun H locs hO => ?_)
      exact ret hT hO d_Ma_accessField_36
  unfold xf_Ma_accessField at hT
  refine lv_iload_n hx hb d_Ma_accessField_0 rfl (lv_at hl 1 rfl) ?_
  refine lv_bipush (v := 13) hx hb d_Ma_accessField_1 (by decide) ?_
  refine lv_icmp_ne (tgt := 13) hx hb d_Ma_accessField_3 (by decide) (fun h => ?_) (fun h => ?_)
  · have hT := qa_f hT h
    refine lv_iconst (v := 0) hx hb d_Ma_accessField_13 (by decide) ?_
    exact b14 g x1 x2 (0 : Int32) _ _ _ (lv_sub hl [0, 1, 2, 3] rfl) hO hT
  · have hT := qa_t hT h
    refine lv_aload_n hx hb d_Ma_accessField_6 rfl (lv_at hl 3 rfl) ?_
    obtain ⟨t7, ht7, hT⟩ := qa_b hT
    refine qa_Vi (As := []) (rest := []) (r := r3) S hK hN hA hO (xc_Fr_pop l D cI cJ cF cZ ad g r3 hf3) ht7 qy_Fr_pop lm_Ma_126 ⟨by decide, by decide⟩ (xe_Flt hf3) (xe_fr hf3 _) rfl rfl rfl hl.1 rfl (Nat.le_of_ble_eq_true rfl) d_Ma_accessField_7 (fun H locs hO => ?_)
    refine lv_goto (tgt := 14) hx hb d_Ma_accessField_10 (by decide) ?_
    exact b14 t7.2 x1 x2 t7.1 _ _ _ (lv_sub hl [0, 1, 2, 3] rfl) hO hT
def xf_Ma_testType_83 (r3 : Nat) (g : qa_St) (x4 : Int32) : qa_Re := ((xf_Fr_push g r3 x4).bind fun t86 => (some ((0 : Int32), t86.2)))
def xf_Ma_testType_57 (r3 : Nat) (g : qa_St) (s0 : Int32) : qa_Re := ((xf_Fr_push g r3 s0).bind fun t57 => (some ((0 : Int32), t57.2)))
def xf_Ma_testType_38 (r3 : Nat) (g : qa_St) (x1 : Int32) (x4 : Int32) (s0 : Int32) : qa_Re := (if x1 = (19 : Int32) then (if s0 = 0 then (xf_Ma_testType_57 r3 g (0 : Int32)) else (xf_Ma_testType_57 r3 g (1 : Int32))) else ((xf_Ma_isNull g x4).bind fun t65 => (if t65.1 = 0 then (if s0 = 0 then ((xf_Ma_toss t65.2 (-3 : Int32)).bind fun t79 => (some (t79.1, t79.2))) else (xf_Ma_testType_83 r3 t65.2 x4)) else (xf_Ma_testType_83 r3 t65.2 x4))))
def xf_Ma_testType_37 (r3 : Nat) (g : qa_St) (x1 : Int32) (x4 : Int32) : qa_Re := (xf_Ma_testType_38 r3 g x1 x4 (0 : Int32))
def xf_Ma_testType (g : qa_St) (x1 : Int32) (x2 : Int32) (r3 : Nat) : qa_Re := ((xf_Fr_pop g r3).bind fun t1 => ((xf_Ma_isNull t1.2 t1.1).bind fun t9 => (if t9.1 = 0 then (if t1.1 < 0 ∨ 16 ≤ t1.1.toNatClampNeg then none else ((xf_Pr_isOf t9.2 (t9.2 82 t1.1.toNatClampNeg) x2).bind fun t27 => (if t27.1 = 0 then (xf_Ma_testType_37 r3 t27.2 x1 t1.1) else (xf_Ma_testType_38 r3 t27.2 x1 t1.1 (1 : Int32))))) else (xf_Ma_testType_37 r3 t9.2 x1 t1.1))))
set_option maxHeartbeats 4000000 in
set_option maxRecDepth 100000 in
theorem xc_Ma_testType (l : Launch) (D : va_G) (cI cJ cF cZ : ClassId) (ad : Nat → Nat) (g : qa_St) (x1 : Int32) (x2 : Int32) (r3 : Nat) (hf3 : xe_F r3) : qa_Mi l y_Ma_testType (qa_ws y_Ma_testType b_Ma_testType 6 (some .int)) (qa_rm 2 43) D (qa_ty cI cJ cF cZ) 107 ad (xe_en cI cJ cF ad) [.ref (ad 78), .int x1, .int x2, .ref (ad r3)] g (xf_Ma_testType g x1 x2 r3) := by
  refine qa_meti (by decide) (Nat.le_of_ble_eq_true rfl) ?_
  intro p e s m args below meth c Q A T S hK hN hA hT ret ls hl hO
  have hx := S.1
  have hb := S.2.1
  have hl : lv_has ls 6 [(0, .ref (ad 78)), (1, .int x1), (2, .int x2), (3, .ref (ad r3))] := hl
  have b83 : ∀ (g : qa_St) (x4 : Int32) (ls : Array Slot) (H : Heap) (locs : List Loc), lv_has ls 6 [(3, .ref (ad r3)), (4, .int x4)] → qa_O D 107 ad (xe_en cI cJ cF ad) A s.heap g H locs → xf_Ma_testType_83 r3 g x4 = some T → W p l e (qa_rm 2 43) s m args below meth c H locs 0 0 Q (F0 m 83 ls []) := by
    intro g x4 ls H locs hl hO hT
    unfold xf_Ma_testType_83 at hT
    refine lv_aload_n hx hb d_Ma_testType_83 rfl (lv_at hl 0 rfl) ?_
    refine lv_iload hx hb d_Ma_testType_84 (lv_at hl 1 rfl) ?_
    obtain ⟨t86, ht86, hT⟩ := qa_b hT
    refine qa_Vv (As := [.int x4]) (rest := []) (r := r3) S hK hN hA hO (xc_Fr_push l D cI cJ cF cZ ad g r3 x4 hf3) ht86 qy_Fr_push lm_Ma_63 ⟨by decide, by decide⟩ (xe_Flt hf3) (xe_fr hf3 _) rfl rfl rfl hl.1 rfl (Nat.le_of_ble_eq_true rfl) d_Ma_testType_86 (fun H locs hO => ?_)
    refine lv_iconst (v := 0) hx hb d_Ma_testType_89 (by decide) ?_
    exact ret hT hO d_Ma_testType_90
  have b57 : ∀ (g : qa_St) (s0 : Int32) (ls : Array Slot) (H : Heap) (locs : List Loc), lv_has ls 6 [] → qa_O D 107 ad (xe_en cI cJ cF ad) A s.heap g H locs → xf_Ma_testType_57 r3 g s0 = some T → W p l e (qa_rm 2 43) s m args below meth c H locs 0 0 Q (F0 m 57 ls [.int s0, .ref (ad r3)]) := by
    intro g s0 ls H locs hl hO hT
    unfold xf_Ma_testType_57 at hT
    obtain ⟨t57, ht57, hT⟩ := qa_b hT
    refine qa_Vv (As := [.int s0]) (rest := []) (r := r3) S hK hN hA hO (xc_Fr_push l D cI cJ cF cZ ad g r3 s0 hf3) ht57 qy_Fr_push lm_Ma_63 ⟨by decide, by decide⟩ (xe_Flt hf3) (xe_fr hf3 _) rfl rfl rfl hl.1 rfl (Nat.le_of_ble_eq_true rfl) d_Ma_testType_57 (fun H locs hO => ?_)
    refine lv_iconst (v := 0) hx hb d_Ma_testType_60 (by decide) ?_
    exact ret hT hO d_Ma_testType_61
  have b38 : ∀ (g : qa_St) (x1 : Int32) (x4 : Int32) (s0 : Int32) (ls : Array Slot) (H : Heap) (locs : List Loc), lv_has ls 6 [(0, .ref (ad 78)), (1, .int x1), (3, .ref (ad r3)), (4, .int x4)] → qa_O D 107 ad (xe_en cI cJ cF ad) A s.heap g H locs → xf_Ma_testType_38 r3 g x1 x4 s0 = some T → W p l e (qa_rm 2 43) s m args below meth c H locs 0 0 Q (F0 m 38 ls [.int s0]) := by
    intro g x1 x4 s0 ls H locs hl hO hT
    unfold xf_Ma_testType_38 at hT
    refine lv_istore (lv' := [(5, .int s0), (0, .ref (ad 78)), (1, .int x1), (3, .ref (ad r3)), (4, .int x4)]) hx hb d_Ma_testType_38 hl (by decide) rfl (fun ls hl => ?_)
    refine lv_iload_n hx hb d_Ma_testType_40 rfl (lv_at hl 2 rfl) ?_
    refine lv_bipush (v := 19) hx hb d_Ma_testType_41 (by decide) ?_
    refine lv_icmp_ne (tgt := 62) hx hb d_Ma_testType_43 (by decide) (fun h => ?_) (fun h => ?_)
    · have hT := qa_f hT h
      refine lv_aload_n hx hb d_Ma_testType_62 rfl (lv_at hl 1 rfl) ?_
      refine lv_iload hx hb d_Ma_testType_63 (lv_at hl 4 rfl) ?_
      obtain ⟨t65, ht65, hT⟩ := qa_b hT
      refine qa_Vi (As := [.int x4]) (rest := []) (r := 78) S hK hN hA hO (xc_Ma_isNull l D cI cJ cF cZ ad g x4) ht65 qy_Ma_isNull lm_Ma_161 ⟨by decide, by decide⟩ (by decide) rfl rfl rfl rfl hl.1 rfl (Nat.le_of_ble_eq_true rfl) d_Ma_testType_65 (fun H locs hO => ?_)
      refine lv_if_ne (tgt := 83) hx hb d_Ma_testType_68 (by decide) (fun h => ?_) (fun h => ?_)
      · have hT := qa_f hT h
        exact b83 t65.2 x4 _ _ _ (lv_sub hl [3, 4] rfl) hO hT
      · have hT := qa_t hT h
        refine lv_iload hx hb d_Ma_testType_71 (lv_at hl 0 rfl) ?_
        refine lv_if_ne (tgt := 83) hx hb d_Ma_testType_73 (by decide) (fun h => ?_) (fun h => ?_)
        · have hT := qa_f hT h
          exact b83 t65.2 x4 _ _ _ (lv_sub hl [3, 4] rfl) hO hT
        · have hT := qa_t hT h
          refine lv_aload_n hx hb d_Ma_testType_76 rfl (lv_at hl 1 rfl) ?_
          refine lv_bipush (v := -3) hx hb d_Ma_testType_77 (by decide) ?_
          obtain ⟨t79, ht79, hT⟩ := qa_b hT
          refine qa_Vi (As := [.int (-3 : Int32)]) (rest := []) (r := 78) S hK hN hA hO (xc_Ma_toss l D cI cJ cF cZ ad t65.2 (-3 : Int32)) ht79 qy_Ma_toss lm_Ma_87 ⟨by decide, by decide⟩ (by decide) rfl rfl rfl rfl hl.1 rfl (Nat.le_of_ble_eq_true rfl) d_Ma_testType_79 (fun H locs hO => ?_)
          exact ret hT hO d_Ma_testType_82
    · have hT := qa_t hT h
      refine lv_aload_n hx hb d_Ma_testType_46 rfl (lv_at hl 3 rfl) ?_
      refine lv_iload hx hb d_Ma_testType_47 (lv_at hl 0 rfl) ?_
      refine lv_if_eq (tgt := 56) hx hb d_Ma_testType_49 (by decide) (fun h => ?_) (fun h => ?_)
      · have hT := qa_t hT h
        refine lv_iconst (v := 0) hx hb d_Ma_testType_56 (by decide) ?_
        exact b57 g (0 : Int32) _ _ _ (lv_sub hl [] rfl) hO hT
      · have hT := qa_f hT h
        refine lv_iconst (v := 1) hx hb d_Ma_testType_52 (by decide) ?_
        refine lv_goto (tgt := 57) hx hb d_Ma_testType_53 (by decide) ?_
        exact b57 g (1 : Int32) _ _ _ (lv_sub hl [] rfl) hO hT
  have b37 : ∀ (g : qa_St) (x1 : Int32) (x4 : Int32) (ls : Array Slot) (H : Heap) (locs : List Loc), lv_has ls 6 [(0, .ref (ad 78)), (1, .int x1), (3, .ref (ad r3)), (4, .int x4)] → qa_O D 107 ad (xe_en cI cJ cF ad) A s.heap g H locs → xf_Ma_testType_37 r3 g x1 x4 = some T → W p l e (qa_rm 2 43) s m args below meth c H locs 0 0 Q (F0 m 37 ls []) := by
    intro g x1 x4 ls H locs hl hO hT
    unfold xf_Ma_testType_37 at hT
    refine lv_iconst (v := 0) hx hb d_Ma_testType_37 (by decide) ?_
    exact b38 g x1 x4 (0 : Int32) _ _ _ (lv_sub hl [0, 1, 2, 3] rfl) hO hT
  unfold xf_Ma_testType at hT
  refine lv_aload_n hx hb d_Ma_testType_0 rfl (lv_at hl 3 rfl) ?_
  obtain ⟨t1, ht1, hT⟩ := qa_b hT
  refine qa_Vi (As := []) (rest := []) (r := r3) S hK hN hA hO (xc_Fr_pop l D cI cJ cF cZ ad g r3 hf3) ht1 qy_Fr_pop lm_Ma_126 ⟨by decide, by decide⟩ (xe_Flt hf3) (xe_fr hf3 _) rfl rfl rfl hl.1 rfl (Nat.le_of_ble_eq_true rfl) d_Ma_testType_1 (fun H locs hO => ?_)
  refine lv_istore (lv' := [(4, .int t1.1), (0, .ref (ad 78)), (1, .int x1), (2, .int x2), (3, .ref (ad r3))]) hx hb d_Ma_testType_4 hl (by decide) rfl (fun ls hl => ?_)
  refine lv_aload_n hx hb d_Ma_testType_6 rfl (lv_at hl 1 rfl) ?_
  refine lv_iload hx hb d_Ma_testType_7 (lv_at hl 0 rfl) ?_
  obtain ⟨t9, ht9, hT⟩ := qa_b hT
  refine qa_Vi (As := [.int t1.1]) (rest := []) (r := 78) S hK hN hA hO (xc_Ma_isNull l D cI cJ cF cZ ad t1.2 t1.1) ht9 qy_Ma_isNull lm_Ma_161 ⟨by decide, by decide⟩ (by decide) rfl rfl rfl rfl hl.1 rfl (Nat.le_of_ble_eq_true rfl) d_Ma_testType_9 (fun H locs hO => ?_)
  refine lv_if_ne (tgt := 37) hx hb d_Ma_testType_12 (by decide) (fun h => ?_) (fun h => ?_)
  · have hT := qa_f hT h
    exact b37 t9.2 x1 t1.1 _ _ _ (lv_sub hl [1, 2, 4, 0] rfl) hO hT
  · have hT := qa_t hT h
    refine lv_aload_n hx hb d_Ma_testType_15 rfl (lv_at hl 1 rfl) ?_
    refine qa_get S hK hO hi_Ma 78 (by decide) rfl rfl 0 (by decide) lf_Ma_33 rfl rfl d_Ma_testType_16 ?_
    refine lv_aload_n hx hb d_Ma_testType_19 rfl (lv_at hl 1 rfl) ?_
    refine qa_get S hK hO hi_Ma 78 (by decide) rfl rfl 4 (by decide) lf_Ma_24 rfl rfl d_Ma_testType_20 ?_
    refine lv_iload hx hb d_Ma_testType_23 (lv_at hl 0 rfl) ?_
    obtain ⟨hi25, hT⟩ := qa_c hT
    refine qa_iald (n := 16) S hK hO 82 (by decide) 0 (xe_arr rfl) rfl hi25 d_Ma_testType_25 ?_
    refine lv_iload_n hx hb d_Ma_testType_26 rfl (lv_at hl 3 rfl) ?_
    obtain ⟨t27, ht27, hT⟩ := qa_b hT
    refine qa_Vi (As := [.int (t9.2 82 t1.1.toNatClampNeg), .int x2]) (rest := []) (r := 1) S hK hN hA hO (xc_Pr_isOf l D cI cJ cF cZ ad t9.2 (t9.2 82 t1.1.toNatClampNeg) x2) ht27 qy_Pr_isOf lm_Ma_168 ⟨by decide, by decide⟩ (by decide) rfl rfl rfl rfl hl.1 rfl (Nat.le_of_ble_eq_true rfl) d_Ma_testType_27 (fun H locs hO => ?_)
    refine lv_if_eq (tgt := 37) hx hb d_Ma_testType_30 (by decide) (fun h => ?_) (fun h => ?_)
    · have hT := qa_t hT h
      exact b37 t27.2 x1 t1.1 _ _ _ (lv_sub hl [1, 2, 4, 0] rfl) hO hT
    · have hT := qa_f hT h
      refine lv_iconst (v := 1) hx hb d_Ma_testType_33 (by decide) ?_
      refine lv_goto (tgt := 38) hx hb d_Ma_testType_34 (by decide) ?_
      exact b38 t27.2 x1 t1.1 (1 : Int32) _ _ _ (lv_sub hl [1, 2, 4, 0] rfl) hO hT
def xf_Fr_second (g : qa_St) (r0 : Nat) : qa_Re := (if (g r0 1) < (2 : Int32) then (some ((8 : Int32), g)) else (if (((4 : Int32) + (g r0 1)) - (2 : Int32)) < 0 ∨ 10 ≤ (((4 : Int32) + (g r0 1)) - (2 : Int32)).toNatClampNeg then none else (some ((g (r0 + 1) (((4 : Int32) + (g r0 1)) - (2 : Int32)).toNatClampNeg), g))))
set_option maxHeartbeats 4000000 in
set_option maxRecDepth 100000 in
theorem xc_Fr_second (l : Launch) (D : va_G) (cI cJ cF cZ : ClassId) (ad : Nat → Nat) (g : qa_St) (r0 : Nat) (hf0 : xe_F r0) : qa_Mi l y_Fr_second (qa_ws y_Fr_second b_Fr_second 1 (some .int)) (qa_rm 0 0) D (qa_ty cI cJ cF cZ) 107 ad (xe_en cI cJ cF ad) [.ref (ad r0)] g (xf_Fr_second g r0) := by
  refine qa_meti (by decide) (Nat.le_of_ble_eq_true rfl) ?_
  intro p e s m args below meth c Q A T S hK hN hA hT ret ls hl hO
  have hx := S.1
  have hb := S.2.1
  have hl : lv_has ls 1 [(0, .ref (ad r0))] := hl
  unfold xf_Fr_second at hT
  refine lv_aload_n hx hb d_Fr_second_0 rfl (lv_at hl 0 rfl) ?_
  refine qa_get S hK hO hi_Fr r0 (xe_Flt hf0) (xe_fr hf0 _) rfl 1 (by decide) lf_Fr_21 rfl rfl d_Fr_second_1 ?_
  refine lv_iconst (v := 2) hx hb d_Fr_second_4 (by decide) ?_
  refine lv_icmp_lt (tgt := 24) hx hb d_Fr_second_5 (by decide) (fun h => ?_) (fun h => ?_)
  · have hT := qa_t hT h
    refine lv_bipush (v := 8) hx hb d_Fr_second_24 (by decide) ?_
    exact ret hT hO d_Fr_second_26
  · have hT := qa_f hT h
    refine lv_aload_n hx hb d_Fr_second_8 rfl (lv_at hl 0 rfl) ?_
    refine qa_get S hK hO hi_Fr r0 (xe_Flt hf0) (xe_fr hf0 _) rfl 0 (by decide) lf_Fr_9 rfl rfl d_Fr_second_9 ?_
    refine lv_iconst (v := 4) hx hb d_Fr_second_12 (by decide) ?_
    refine lv_aload_n hx hb d_Fr_second_13 rfl (lv_at hl 0 rfl) ?_
    refine qa_get S hK hO hi_Fr r0 (xe_Flt hf0) (xe_fr hf0 _) rfl 1 (by decide) lf_Fr_21 rfl rfl d_Fr_second_14 ?_
    refine lv_iadd hx hb d_Fr_second_17 ?_
    refine lv_iconst (v := 2) hx hb d_Fr_second_18 (by decide) ?_
    refine lv_isub hx hb d_Fr_second_19 ?_
    obtain ⟨hi20, hT⟩ := qa_c hT
    refine qa_iald (n := 10) S hK hO (r0 + 1) (xe_Plt hf0) 0 (xe_pl hf0) rfl hi20 d_Fr_second_20 ?_
    refine lv_goto (tgt := 26) hx hb d_Fr_second_21 (by decide) ?_
    exact ret hT hO d_Fr_second_26
def xf_Ma_receive (g : qa_St) (x1 : Int32) (r2 : Nat) : qa_Re := (if x1 = 0 then ((xf_Fr_push g r2 (g 78 12)).bind fun t9 => (some (x1, t9.2))) else (some (x1, g)))
set_option maxHeartbeats 4000000 in
set_option maxRecDepth 100000 in
theorem xc_Ma_receive (l : Launch) (D : va_G) (cI cJ cF cZ : ClassId) (ad : Nat → Nat) (g : qa_St) (x1 : Int32) (r2 : Nat) (hf2 : xe_F r2) : qa_Mi l y_Ma_receive (qa_ws y_Ma_receive b_Ma_receive 3 (some .int)) (qa_rm 1 21) D (qa_ty cI cJ cF cZ) 107 ad (xe_en cI cJ cF ad) [.ref (ad 78), .int x1, .ref (ad r2)] g (xf_Ma_receive g x1 r2) := by
  refine qa_meti (by decide) (Nat.le_of_ble_eq_true rfl) ?_
  intro p e s m args below meth c Q A T S hK hN hA hT ret ls hl hO
  have hx := S.1
  have hb := S.2.1
  have hl : lv_has ls 3 [(0, .ref (ad 78)), (1, .int x1), (2, .ref (ad r2))] := hl
  unfold xf_Ma_receive at hT
  refine lv_iload_n hx hb d_Ma_receive_0 rfl (lv_at hl 1 rfl) ?_
  refine lv_if_ne (tgt := 12) hx hb d_Ma_receive_1 (by decide) (fun h => ?_) (fun h => ?_)
  · have hT := qa_f hT h
    refine lv_iload_n hx hb d_Ma_receive_12 rfl (lv_at hl 1 rfl) ?_
    exact ret hT hO d_Ma_receive_13
  · have hT := qa_t hT h
    refine lv_aload_n hx hb d_Ma_receive_4 rfl (lv_at hl 2 rfl) ?_
    refine lv_aload_n hx hb d_Ma_receive_5 rfl (lv_at hl 0 rfl) ?_
    refine qa_get S hK hO hi_Ma 78 (by decide) rfl rfl 12 (by decide) lf_Ma_80 rfl rfl d_Ma_receive_6 ?_
    obtain ⟨t9, ht9, hT⟩ := qa_b hT
    refine qa_Vv (As := [.int (g 78 12)]) (rest := []) (r := r2) S hK hN hA hO (xc_Fr_push l D cI cJ cF cZ ad g r2 (g 78 12) hf2) ht9 qy_Fr_push lm_Ma_63 ⟨by decide, by decide⟩ (xe_Flt hf2) (xe_fr hf2 _) rfl rfl rfl hl.1 rfl (Nat.le_of_ble_eq_true rfl) d_Ma_receive_9 (fun H locs hO => ?_)
    refine lv_iload_n hx hb d_Ma_receive_12 rfl (lv_at hl 1 rfl) ?_
    exact ret hT hO d_Ma_receive_13
def xf_Ma_makeObject (g : qa_St) (x1 : Int32) (r2 : Nat) : qa_Re := (if (g 78 8) < (16 : Int32) then ((xf_Ar_fill4 g 83 96 ((g 78 8) * (6 : Int32)) (((g 78 8) * (6 : Int32)) + (6 : Int32)) (0 : Int32)).bind fun t34 => (if (t34.2 78 8) < 0 ∨ 16 ≤ (t34.2 78 8).toNatClampNeg then none else ((xf_Fr_push (qa_up t34.2 82 (t34.2 78 8).toNatClampNeg x1) r2 ((qa_up t34.2 82 (t34.2 78 8).toNatClampNeg x1) 78 8)).bind fun t52 => (some ((0 : Int32), (qa_up t52.2 78 8 ((t52.2 78 8) + (1 : Int32)))))))) else ((xf_Ma_toss g (-4 : Int32)).bind fun t12 => (some (t12.1, t12.2))))
set_option maxHeartbeats 4000000 in
set_option maxRecDepth 100000 in
theorem xc_Ma_makeObject (l : Launch) (D : va_G) (cI cJ cF cZ : ClassId) (ad : Nat → Nat) (g : qa_St) (x1 : Int32) (r2 : Nat) (hf2 : xe_F r2) : qa_Mi l y_Ma_makeObject (qa_ws y_Ma_makeObject b_Ma_makeObject 4 (some .int)) (qa_rm 2 46) D (qa_ty cI cJ cF cZ) 107 ad (xe_en cI cJ cF ad) [.ref (ad 78), .int x1, .ref (ad r2)] g (xf_Ma_makeObject g x1 r2) := by
  refine qa_meti (by decide) (Nat.le_of_ble_eq_true rfl) ?_
  intro p e s m args below meth c Q A T S hK hN hA hT ret ls hl hO
  have hx := S.1
  have hb := S.2.1
  have hl : lv_has ls 4 [(0, .ref (ad 78)), (1, .int x1), (2, .ref (ad r2))] := hl
  unfold xf_Ma_makeObject at hT
  refine lv_aload_n hx hb d_Ma_makeObject_0 rfl (lv_at hl 0 rfl) ?_
  refine qa_get S hK hO hi_Ma 78 (by decide) rfl rfl 8 (by decide) lf_Ma_48 rfl rfl d_Ma_makeObject_1 ?_
  refine lv_bipush (v := 16) hx hb d_Ma_makeObject_4 (by decide) ?_
  refine lv_icmp_lt (tgt := 16) hx hb d_Ma_makeObject_6 (by decide) (fun h => ?_) (fun h => ?_)
  · have hT := qa_t hT h
    refine lv_aload_n hx hb d_Ma_makeObject_16 rfl (lv_at hl 0 rfl) ?_
    refine qa_get S hK hO hi_Ma 78 (by decide) rfl rfl 8 (by decide) lf_Ma_48 rfl rfl d_Ma_makeObject_17 ?_
    refine lv_bipush (v := 6) hx hb d_Ma_makeObject_20 (by decide) ?_
    refine lv_imul hx hb d_Ma_makeObject_22 ?_
    refine lv_istore_n (lv' := [(3, .int ((g 78 8) * (6 : Int32))), (0, .ref (ad 78)), (1, .int x1), (2, .ref (ad r2))]) hx hb d_Ma_makeObject_23 rfl hl (by decide) rfl (fun ls hl => ?_)
    refine lv_aload_n hx hb d_Ma_makeObject_24 rfl (lv_at hl 1 rfl) ?_
    refine qa_get S hK hO hi_Ma 78 (by decide) rfl rfl 5 (by decide) lf_Ma_27 rfl rfl d_Ma_makeObject_25 ?_
    refine lv_iload_n hx hb d_Ma_makeObject_28 rfl (lv_at hl 0 rfl) ?_
    refine lv_iload_n hx hb d_Ma_makeObject_29 rfl (lv_at hl 0 rfl) ?_
    refine lv_bipush (v := 6) hx hb d_Ma_makeObject_30 (by decide) ?_
    refine lv_iadd hx hb d_Ma_makeObject_32 ?_
    refine lv_iconst (v := 0) hx hb d_Ma_makeObject_33 (by decide) ?_
    obtain ⟨t34, ht34, hT⟩ := qa_b hT
    refine qa_Sv (As := [.ref (ad 83), .int ((g 78 8) * (6 : Int32)), .int (((g 78 8) * (6 : Int32)) + (6 : Int32)), .int (0 : Int32)]) (rest := []) S hK hN hA hO (xc_Ar_fill4 l D cI cJ cF cZ ad g 83 96 ((g 78 8) * (6 : Int32)) (((g 78 8) * (6 : Int32)) + (6 : Int32)) (0 : Int32) (by decide) (xe_arr rfl)) ht34 qy_Ar_fill4 lm_Ma_174 ⟨by decide, by decide⟩ rfl hl.1 rfl (Nat.le_of_ble_eq_true rfl) d_Ma_makeObject_34 (fun H locs hO => ?_)
    refine lv_aload_n hx hb d_Ma_makeObject_37 rfl (lv_at hl 1 rfl) ?_
    refine qa_get S hK hO hi_Ma 78 (by decide) rfl rfl 4 (by decide) lf_Ma_24 rfl rfl d_Ma_makeObject_38 ?_
    refine lv_aload_n hx hb d_Ma_makeObject_41 rfl (lv_at hl 1 rfl) ?_
    refine qa_get S hK hO hi_Ma 78 (by decide) rfl rfl 8 (by decide) lf_Ma_48 rfl rfl d_Ma_makeObject_42 ?_
    refine lv_iload_n hx hb d_Ma_makeObject_45 rfl (lv_at hl 2 rfl) ?_
    obtain ⟨hi46, hT⟩ := qa_c hT
    refine qa_iast (n := 16) S hK hO 82 (by decide) 0 (xe_arr rfl) rfl hi46 d_Ma_makeObject_46 (fun H locs hO => ?_)
    refine lv_aload_n hx hb d_Ma_makeObject_47 rfl (lv_at hl 3 rfl) ?_
    refine lv_aload_n hx hb d_Ma_makeObject_48 rfl (lv_at hl 1 rfl) ?_
    refine qa_get S hK hO hi_Ma 78 (by decide) rfl rfl 8 (by decide) lf_Ma_48 rfl rfl d_Ma_makeObject_49 ?_
    obtain ⟨t52, ht52, hT⟩ := qa_b hT
    refine qa_Vv (As := [.int ((qa_up t34.2 82 (t34.2 78 8).toNatClampNeg x1) 78 8)]) (rest := []) (r := r2) S hK hN hA hO (xc_Fr_push l D cI cJ cF cZ ad (qa_up t34.2 82 (t34.2 78 8).toNatClampNeg x1) r2 ((qa_up t34.2 82 (t34.2 78 8).toNatClampNeg x1) 78 8) hf2) ht52 qy_Fr_push lm_Ma_63 ⟨by decide, by decide⟩ (xe_Flt hf2) (xe_fr hf2 _) rfl rfl rfl hl.1 rfl (Nat.le_of_ble_eq_true rfl) d_Ma_makeObject_52 (fun H locs hO => ?_)
    refine lv_aload_n hx hb d_Ma_makeObject_55 rfl (lv_at hl 1 rfl) ?_
    refine lv_dup hx hb d_Ma_makeObject_56 rfl ?_
    refine qa_get S hK hO hi_Ma 78 (by decide) rfl rfl 8 (by decide) lf_Ma_48 rfl rfl d_Ma_makeObject_57 ?_
    refine lv_iconst (v := 1) hx hb d_Ma_makeObject_60 (by decide) ?_
    refine lv_iadd hx hb d_Ma_makeObject_61 ?_
    refine qa_put S hK hO hi_Ma t_Ma t_Ma_ok n_Ma 78 (by decide) rfl rfl 8 (by decide) lf_Ma_48 rfl rfl (ty := .int) (by decide +kernel) rfl rfl (Nat.le_of_ble_eq_true rfl) rfl d_Ma_makeObject_62 (fun H locs hO => ?_)
    refine lv_iconst (v := 0) hx hb d_Ma_makeObject_65 (by decide) ?_
    exact ret hT hO d_Ma_makeObject_66
  · have hT := qa_f hT h
    refine lv_aload_n hx hb d_Ma_makeObject_9 rfl (lv_at hl 0 rfl) ?_
    refine lv_bipush (v := -4) hx hb d_Ma_makeObject_10 (by decide) ?_
    obtain ⟨t12, ht12, hT⟩ := qa_b hT
    refine qa_Vi (As := [.int (-4 : Int32)]) (rest := []) (r := 78) S hK hN hA hO (xc_Ma_toss l D cI cJ cF cZ ad g (-4 : Int32)) ht12 qy_Ma_toss lm_Ma_87 ⟨by decide, by decide⟩ (by decide) rfl rfl rfl rfl hl.1 rfl (Nat.le_of_ble_eq_true rfl) d_Ma_makeObject_12 (fun H locs hO => ?_)
    exact ret hT hO d_Ma_makeObject_15
def xf_Ma_finalValue (g : qa_St) : qa_Re := (some ((g 78 12), g))
set_option maxHeartbeats 4000000 in
set_option maxRecDepth 100000 in
theorem xc_Ma_finalValue (l : Launch) (D : va_G) (cI cJ cF cZ : ClassId) (ad : Nat → Nat) (g : qa_St) : qa_Mi l y_Ma_finalValue (qa_ws y_Ma_finalValue b_Ma_finalValue 1 (some .int)) (qa_rm 0 0) D (qa_ty cI cJ cF cZ) 107 ad (xe_en cI cJ cF ad) [.ref (ad 78)] g (xf_Ma_finalValue g) := by
  refine qa_meti (by decide) (Nat.le_of_ble_eq_true rfl) ?_
  intro p e s m args below meth c Q A T S hK hN hA hT ret ls hl hO
  have hx := S.1
  have hb := S.2.1
  have hl : lv_has ls 1 [(0, .ref (ad 78))] := hl
  unfold xf_Ma_finalValue at hT
  refine lv_aload_n hx hb d_Ma_finalValue_0 rfl (lv_at hl 0 rfl) ?_
  refine qa_get S hK hO hi_Ma 78 (by decide) rfl rfl 12 (by decide) lf_Ma_80 rfl rfl d_Ma_finalValue_1 ?_
  exact ret hT hO d_Ma_finalValue_4
def xf_Cw_result (g : qa_St) : qa_Re := (if (g 0 5) = 0 then (some ((0 : Int32), g)) else ((xf_Ma_finalValue g).bind fun t11 => (some (t11.1, t11.2))))
set_option maxHeartbeats 4000000 in
set_option maxRecDepth 100000 in
theorem xc_Cw_result (l : Launch) (D : va_G) (cI cJ cF cZ : ClassId) (ad : Nat → Nat) (g : qa_St) : qa_Mi l y_Cw_result (qa_ws y_Cw_result b_Cw_result 1 (some .int)) (qa_rm 1 20) D (qa_ty cI cJ cF cZ) 107 ad (xe_en cI cJ cF ad) [.ref (ad 0)] g (xf_Cw_result g) := by
  refine qa_meti (by decide) (Nat.le_of_ble_eq_true rfl) ?_
  intro p e s m args below meth c Q A T S hK hN hA hT ret ls hl hO
  have hx := S.1
  have hb := S.2.1
  have hl : lv_has ls 1 [(0, .ref (ad 0))] := hl
  unfold xf_Cw_result at hT
  refine lv_aload_n hx hb d_Cw_result_0 rfl (lv_at hl 0 rfl) ?_
  refine qa_get S hK hO hi_Cw 0 (by decide) rfl rfl 5 (by decide) lf_Cw_45 rfl rfl d_Cw_result_1 ?_
  refine lv_if_eq (tgt := 17) hx hb d_Cw_result_4 (by decide) (fun h => ?_) (fun h => ?_)
  · have hT := qa_t hT h
    refine lv_iconst (v := 0) hx hb d_Cw_result_17 (by decide) ?_
    exact ret hT hO d_Cw_result_18
  · have hT := qa_f hT h
    refine lv_aload_n hx hb d_Cw_result_7 rfl (lv_at hl 0 rfl) ?_
    refine qa_get S hK hO hi_Cw 0 (by decide) rfl rfl 3 (by decide) lf_Cw_37 rfl rfl d_Cw_result_8 ?_
    obtain ⟨t11, ht11, hT⟩ := qa_b hT
    refine qa_Vi (As := []) (rest := []) (r := 78) S hK hN hA hO (xc_Ma_finalValue l D cI cJ cF cZ ad g) ht11 qy_Ma_finalValue lm_Cw_127 ⟨by decide, by decide⟩ (by decide) rfl rfl rfl rfl hl.1 rfl (Nat.le_of_ble_eq_true rfl) d_Cw_result_11 (fun H locs hO => ?_)
    refine lv_goto (tgt := 18) hx hb d_Cw_result_14 (by decide) ?_
    exact ret hT hO d_Cw_result_18
def xf_Ma_stepCount (g : qa_St) : qa_Re := (some ((g 78 10), g))
set_option maxHeartbeats 4000000 in
set_option maxRecDepth 100000 in
theorem xc_Ma_stepCount (l : Launch) (D : va_G) (cI cJ cF cZ : ClassId) (ad : Nat → Nat) (g : qa_St) : qa_Mi l y_Ma_stepCount (qa_ws y_Ma_stepCount b_Ma_stepCount 1 (some .int)) (qa_rm 0 0) D (qa_ty cI cJ cF cZ) 107 ad (xe_en cI cJ cF ad) [.ref (ad 78)] g (xf_Ma_stepCount g) := by
  refine qa_meti (by decide) (Nat.le_of_ble_eq_true rfl) ?_
  intro p e s m args below meth c Q A T S hK hN hA hT ret ls hl hO
  have hx := S.1
  have hb := S.2.1
  have hl : lv_has ls 1 [(0, .ref (ad 78))] := hl
  unfold xf_Ma_stepCount at hT
  refine lv_aload_n hx hb d_Ma_stepCount_0 rfl (lv_at hl 0 rfl) ?_
  refine qa_get S hK hO hi_Ma 78 (by decide) rfl rfl 10 (by decide) lf_Ma_54 rfl rfl d_Ma_stepCount_1 ?_
  exact ret hT hO d_Ma_stepCount_4
def xf_Cw_steps (g : qa_St) : qa_Re := (if (g 0 5) = 0 then (some ((-1 : Int32), g)) else ((xf_Ma_stepCount g).bind fun t11 => (some (t11.1, t11.2))))
set_option maxHeartbeats 4000000 in
set_option maxRecDepth 100000 in
theorem xc_Cw_steps (l : Launch) (D : va_G) (cI cJ cF cZ : ClassId) (ad : Nat → Nat) (g : qa_St) : qa_Mi l y_Cw_steps (qa_ws y_Cw_steps b_Cw_steps 1 (some .int)) (qa_rm 1 20) D (qa_ty cI cJ cF cZ) 107 ad (xe_en cI cJ cF ad) [.ref (ad 0)] g (xf_Cw_steps g) := by
  refine qa_meti (by decide) (Nat.le_of_ble_eq_true rfl) ?_
  intro p e s m args below meth c Q A T S hK hN hA hT ret ls hl hO
  have hx := S.1
  have hb := S.2.1
  have hl : lv_has ls 1 [(0, .ref (ad 0))] := hl
  unfold xf_Cw_steps at hT
  refine lv_aload_n hx hb d_Cw_steps_0 rfl (lv_at hl 0 rfl) ?_
  refine qa_get S hK hO hi_Cw 0 (by decide) rfl rfl 5 (by decide) lf_Cw_45 rfl rfl d_Cw_steps_1 ?_
  refine lv_if_eq (tgt := 17) hx hb d_Cw_steps_4 (by decide) (fun h => ?_) (fun h => ?_)
  · have hT := qa_t hT h
    refine lv_iconst (v := -1) hx hb d_Cw_steps_17 (by decide) ?_
    exact ret hT hO d_Cw_steps_18
  · have hT := qa_f hT h
    refine lv_aload_n hx hb d_Cw_steps_7 rfl (lv_at hl 0 rfl) ?_
    refine qa_get S hK hO hi_Cw 0 (by decide) rfl rfl 3 (by decide) lf_Cw_37 rfl rfl d_Cw_steps_8 ?_
    obtain ⟨t11, ht11, hT⟩ := qa_b hT
    refine qa_Vi (As := []) (rest := []) (r := 78) S hK hN hA hO (xc_Ma_stepCount l D cI cJ cF cZ ad g) ht11 qy_Ma_stepCount lm_Cw_130 ⟨by decide, by decide⟩ (by decide) rfl rfl rfl rfl hl.1 rfl (Nat.le_of_ble_eq_true rfl) d_Cw_steps_11 (fun H locs hO => ?_)
    refine lv_goto (tgt := 18) hx hb d_Cw_steps_14 (by decide) ?_
    exact ret hT hO d_Cw_steps_18
def xf_Ma_printCount (g : qa_St) : qa_Re := (some ((g 78 9), g))
set_option maxHeartbeats 4000000 in
set_option maxRecDepth 100000 in
theorem xc_Ma_printCount (l : Launch) (D : va_G) (cI cJ cF cZ : ClassId) (ad : Nat → Nat) (g : qa_St) : qa_Mi l y_Ma_printCount (qa_ws y_Ma_printCount b_Ma_printCount 1 (some .int)) (qa_rm 0 0) D (qa_ty cI cJ cF cZ) 107 ad (xe_en cI cJ cF ad) [.ref (ad 78)] g (xf_Ma_printCount g) := by
  refine qa_meti (by decide) (Nat.le_of_ble_eq_true rfl) ?_
  intro p e s m args below meth c Q A T S hK hN hA hT ret ls hl hO
  have hx := S.1
  have hb := S.2.1
  have hl : lv_has ls 1 [(0, .ref (ad 78))] := hl
  unfold xf_Ma_printCount at hT
  refine lv_aload_n hx hb d_Ma_printCount_0 rfl (lv_at hl 0 rfl) ?_
  refine qa_get S hK hO hi_Ma 78 (by decide) rfl rfl 9 (by decide) lf_Ma_51 rfl rfl d_Ma_printCount_1 ?_
  exact ret hT hO d_Ma_printCount_4
def xf_Cw_prints (g : qa_St) : qa_Re := (if (g 0 5) = 0 then (some ((-1 : Int32), g)) else ((xf_Ma_printCount g).bind fun t11 => (some (t11.1, t11.2))))
set_option maxHeartbeats 4000000 in
set_option maxRecDepth 100000 in
theorem xc_Cw_prints (l : Launch) (D : va_G) (cI cJ cF cZ : ClassId) (ad : Nat → Nat) (g : qa_St) : qa_Mi l y_Cw_prints (qa_ws y_Cw_prints b_Cw_prints 1 (some .int)) (qa_rm 1 20) D (qa_ty cI cJ cF cZ) 107 ad (xe_en cI cJ cF ad) [.ref (ad 0)] g (xf_Cw_prints g) := by
  refine qa_meti (by decide) (Nat.le_of_ble_eq_true rfl) ?_
  intro p e s m args below meth c Q A T S hK hN hA hT ret ls hl hO
  have hx := S.1
  have hb := S.2.1
  have hl : lv_has ls 1 [(0, .ref (ad 0))] := hl
  unfold xf_Cw_prints at hT
  refine lv_aload_n hx hb d_Cw_prints_0 rfl (lv_at hl 0 rfl) ?_
  refine qa_get S hK hO hi_Cw 0 (by decide) rfl rfl 5 (by decide) lf_Cw_45 rfl rfl d_Cw_prints_1 ?_
  refine lv_if_eq (tgt := 17) hx hb d_Cw_prints_4 (by decide) (fun h => ?_) (fun h => ?_)
  · have hT := qa_t hT h
    refine lv_iconst (v := -1) hx hb d_Cw_prints_17 (by decide) ?_
    exact ret hT hO d_Cw_prints_18
  · have hT := qa_f hT h
    refine lv_aload_n hx hb d_Cw_prints_7 rfl (lv_at hl 0 rfl) ?_
    refine qa_get S hK hO hi_Cw 0 (by decide) rfl rfl 3 (by decide) lf_Cw_37 rfl rfl d_Cw_prints_8 ?_
    obtain ⟨t11, ht11, hT⟩ := qa_b hT
    refine qa_Vi (As := []) (rest := []) (r := 78) S hK hN hA hO (xc_Ma_printCount l D cI cJ cF cZ ad g) ht11 qy_Ma_printCount lm_Cw_133 ⟨by decide, by decide⟩ (by decide) rfl rfl rfl rfl hl.1 rfl (Nat.le_of_ble_eq_true rfl) d_Cw_prints_11 (fun H locs hO => ?_)
    refine lv_goto (tgt := 18) hx hb d_Cw_prints_14 (by decide) ?_
    exact ret hT hO d_Cw_prints_18
def xf_Ma_printOf (g : qa_St) (x1 : Int32) : qa_Re := ((xf_Cw_within g x1 (16 : Int32)).bind fun t3 => (if t3.1 = 0 then (some ((0 : Int32), t3.2)) else (if x1 < 0 ∨ 16 ≤ x1.toNatClampNeg then none else (some ((t3.2 84 x1.toNatClampNeg), t3.2)))))
set_option maxHeartbeats 4000000 in
set_option maxRecDepth 100000 in
theorem xc_Ma_printOf (l : Launch) (D : va_G) (cI cJ cF cZ : ClassId) (ad : Nat → Nat) (g : qa_St) (x1 : Int32) : qa_Mi l y_Ma_printOf (qa_ws y_Ma_printOf b_Ma_printOf 2 (some .int)) (qa_rm 1 21) D (qa_ty cI cJ cF cZ) 107 ad (xe_en cI cJ cF ad) [.ref (ad 78), .int x1] g (xf_Ma_printOf g x1) := by
  refine qa_meti (by decide) (Nat.le_of_ble_eq_true rfl) ?_
  intro p e s m args below meth c Q A T S hK hN hA hT ret ls hl hO
  have hx := S.1
  have hb := S.2.1
  have hl : lv_has ls 2 [(0, .ref (ad 78)), (1, .int x1)] := hl
  unfold xf_Ma_printOf at hT
  refine lv_iload_n hx hb d_Ma_printOf_0 rfl (lv_at hl 1 rfl) ?_
  refine lv_bipush (v := 16) hx hb d_Ma_printOf_1 (by decide) ?_
  obtain ⟨t3, ht3, hT⟩ := qa_b hT
  refine qa_SNi (As := [.int x1, .int (16 : Int32)]) (rest := []) S hK hN hA hO (xc_Cw_within l D cI cJ cF cZ ad g x1 (16 : Int32)) ht3 qy_Cw_within ln_Ma_83 ⟨by decide, by decide⟩ rfl hl.1 rfl (Nat.le_of_ble_eq_true rfl) d_Ma_printOf_3 (fun H locs hO => ?_)
  refine lv_if_eq (tgt := 18) hx hb d_Ma_printOf_6 (by decide) (fun h => ?_) (fun h => ?_)
  · have hT := qa_t hT h
    refine lv_iconst (v := 0) hx hb d_Ma_printOf_18 (by decide) ?_
    exact ret hT hO d_Ma_printOf_19
  · have hT := qa_f hT h
    refine lv_aload_n hx hb d_Ma_printOf_9 rfl (lv_at hl 0 rfl) ?_
    refine qa_get S hK hO hi_Ma 78 (by decide) rfl rfl 6 (by decide) lf_Ma_30 rfl rfl d_Ma_printOf_10 ?_
    refine lv_iload_n hx hb d_Ma_printOf_13 rfl (lv_at hl 1 rfl) ?_
    obtain ⟨hi14, hT⟩ := qa_c hT
    refine qa_iald (n := 16) S hK hO 84 (by decide) 0 (xe_arr rfl) rfl hi14 d_Ma_printOf_14 ?_
    refine lv_goto (tgt := 19) hx hb d_Ma_printOf_15 (by decide) ?_
    exact ret hT hO d_Ma_printOf_19
def xf_Cw_printed (g : qa_St) (x1 : Int32) : qa_Re := (if (g 0 5) = 0 then (some ((0 : Int32), g)) else ((xf_Ma_printOf g x1).bind fun t12 => (some (t12.1, t12.2))))
set_option maxHeartbeats 4000000 in
set_option maxRecDepth 100000 in
theorem xc_Cw_printed (l : Launch) (D : va_G) (cI cJ cF cZ : ClassId) (ad : Nat → Nat) (g : qa_St) (x1 : Int32) : qa_Mi l y_Cw_printed (qa_ws y_Cw_printed b_Cw_printed 2 (some .int)) (qa_rm 2 42) D (qa_ty cI cJ cF cZ) 107 ad (xe_en cI cJ cF ad) [.ref (ad 0), .int x1] g (xf_Cw_printed g x1) := by
  refine qa_meti (by decide) (Nat.le_of_ble_eq_true rfl) ?_
  intro p e s m args below meth c Q A T S hK hN hA hT ret ls hl hO
  have hx := S.1
  have hb := S.2.1
  have hl : lv_has ls 2 [(0, .ref (ad 0)), (1, .int x1)] := hl
  unfold xf_Cw_printed at hT
  refine lv_aload_n hx hb d_Cw_printed_0 rfl (lv_at hl 0 rfl) ?_
  refine qa_get S hK hO hi_Cw 0 (by decide) rfl rfl 5 (by decide) lf_Cw_45 rfl rfl d_Cw_printed_1 ?_
  refine lv_if_eq (tgt := 18) hx hb d_Cw_printed_4 (by decide) (fun h => ?_) (fun h => ?_)
  · have hT := qa_t hT h
    refine lv_iconst (v := 0) hx hb d_Cw_printed_18 (by decide) ?_
    exact ret hT hO d_Cw_printed_19
  · have hT := qa_f hT h
    refine lv_aload_n hx hb d_Cw_printed_7 rfl (lv_at hl 0 rfl) ?_
    refine qa_get S hK hO hi_Cw 0 (by decide) rfl rfl 3 (by decide) lf_Cw_37 rfl rfl d_Cw_printed_8 ?_
    refine lv_iload_n hx hb d_Cw_printed_11 rfl (lv_at hl 1 rfl) ?_
    obtain ⟨t12, ht12, hT⟩ := qa_b hT
    refine qa_Vi (As := [.int x1]) (rest := []) (r := 78) S hK hN hA hO (xc_Ma_printOf l D cI cJ cF cZ ad g x1) ht12 qy_Ma_printOf lm_Cw_136 ⟨by decide, by decide⟩ (by decide) rfl rfl rfl rfl hl.1 rfl (Nat.le_of_ble_eq_true rfl) d_Cw_printed_12 (fun H locs hO => ?_)
    refine lv_goto (tgt := 19) hx hb d_Cw_printed_15 (by decide) ?_
    exact ret hT hO d_Cw_printed_19
def xf_Ma_orderOf (g : qa_St) (x1 : Int32) : qa_Re := ((xf_Cw_within g x1 (6 : Int32)).bind fun t3 => (if t3.1 = 0 then (some ((-1 : Int32), t3.2)) else (if x1 < 0 ∨ 6 ≤ x1.toNatClampNeg then none else (some ((t3.2 81 x1.toNatClampNeg), t3.2)))))
set_option maxHeartbeats 4000000 in
set_option maxRecDepth 100000 in
theorem xc_Ma_orderOf (l : Launch) (D : va_G) (cI cJ cF cZ : ClassId) (ad : Nat → Nat) (g : qa_St) (x1 : Int32) : qa_Mi l y_Ma_orderOf (qa_ws y_Ma_orderOf b_Ma_orderOf 2 (some .int)) (qa_rm 1 21) D (qa_ty cI cJ cF cZ) 107 ad (xe_en cI cJ cF ad) [.ref (ad 78), .int x1] g (xf_Ma_orderOf g x1) := by
  refine qa_meti (by decide) (Nat.le_of_ble_eq_true rfl) ?_
  intro p e s m args below meth c Q A T S hK hN hA hT ret ls hl hO
  have hx := S.1
  have hb := S.2.1
  have hl : lv_has ls 2 [(0, .ref (ad 78)), (1, .int x1)] := hl
  unfold xf_Ma_orderOf at hT
  refine lv_iload_n hx hb d_Ma_orderOf_0 rfl (lv_at hl 1 rfl) ?_
  refine lv_bipush (v := 6) hx hb d_Ma_orderOf_1 (by decide) ?_
  obtain ⟨t3, ht3, hT⟩ := qa_b hT
  refine qa_SNi (As := [.int x1, .int (6 : Int32)]) (rest := []) S hK hN hA hO (xc_Cw_within l D cI cJ cF cZ ad g x1 (6 : Int32)) ht3 qy_Cw_within ln_Ma_83 ⟨by decide, by decide⟩ rfl hl.1 rfl (Nat.le_of_ble_eq_true rfl) d_Ma_orderOf_3 (fun H locs hO => ?_)
  refine lv_if_eq (tgt := 18) hx hb d_Ma_orderOf_6 (by decide) (fun h => ?_) (fun h => ?_)
  · have hT := qa_t hT h
    refine lv_iconst (v := -1) hx hb d_Ma_orderOf_18 (by decide) ?_
    exact ret hT hO d_Ma_orderOf_19
  · have hT := qa_f hT h
    refine lv_aload_n hx hb d_Ma_orderOf_9 rfl (lv_at hl 0 rfl) ?_
    refine qa_get S hK hO hi_Ma 78 (by decide) rfl rfl 3 (by decide) lf_Ma_21 rfl rfl d_Ma_orderOf_10 ?_
    refine lv_iload_n hx hb d_Ma_orderOf_13 rfl (lv_at hl 1 rfl) ?_
    obtain ⟨hi14, hT⟩ := qa_c hT
    refine qa_iald (n := 6) S hK hO 81 (by decide) 0 (xe_arr rfl) rfl hi14 d_Ma_orderOf_14 ?_
    refine lv_goto (tgt := 19) hx hb d_Ma_orderOf_15 (by decide) ?_
    exact ret hT hO d_Ma_orderOf_19
def xf_Cw_begun (g : qa_St) (x1 : Int32) : qa_Re := (if (g 0 5) = 0 then (some ((-1 : Int32), g)) else ((xf_Pr_isType g x1).bind fun t12 => (if t12.1 = 0 then (some ((-1 : Int32), t12.2)) else ((xf_Ma_orderOf t12.2 x1).bind fun t23 => (some (t23.1, t23.2))))))
set_option maxHeartbeats 4000000 in
set_option maxRecDepth 100000 in
theorem xc_Cw_begun (l : Launch) (D : va_G) (cI cJ cF cZ : ClassId) (ad : Nat → Nat) (g : qa_St) (x1 : Int32) : qa_Mi l y_Cw_begun (qa_ws y_Cw_begun b_Cw_begun 2 (some .int)) (qa_rm 2 42) D (qa_ty cI cJ cF cZ) 107 ad (xe_en cI cJ cF ad) [.ref (ad 0), .int x1] g (xf_Cw_begun g x1) := by
  refine qa_meti (by decide) (Nat.le_of_ble_eq_true rfl) ?_
  intro p e s m args below meth c Q A T S hK hN hA hT ret ls hl hO
  have hx := S.1
  have hb := S.2.1
  have hl : lv_has ls 2 [(0, .ref (ad 0)), (1, .int x1)] := hl
  unfold xf_Cw_begun at hT
  refine lv_aload_n hx hb d_Cw_begun_0 rfl (lv_at hl 0 rfl) ?_
  refine qa_get S hK hO hi_Cw 0 (by decide) rfl rfl 5 (by decide) lf_Cw_45 rfl rfl d_Cw_begun_1 ?_
  refine lv_if_eq (tgt := 29) hx hb d_Cw_begun_4 (by decide) (fun h => ?_) (fun h => ?_)
  · have hT := qa_t hT h
    refine lv_iconst (v := -1) hx hb d_Cw_begun_29 (by decide) ?_
    exact ret hT hO d_Cw_begun_30
  · have hT := qa_f hT h
    refine lv_aload_n hx hb d_Cw_begun_7 rfl (lv_at hl 0 rfl) ?_
    refine qa_get S hK hO hi_Cw 0 (by decide) rfl rfl 0 (by decide) lf_Cw_17 rfl rfl d_Cw_begun_8 ?_
    refine lv_iload_n hx hb d_Cw_begun_11 rfl (lv_at hl 1 rfl) ?_
    obtain ⟨t12, ht12, hT⟩ := qa_b hT
    refine qa_Vi (As := [.int x1]) (rest := []) (r := 1) S hK hN hA hO (xc_Pr_isType l D cI cJ cF cZ ad g x1) ht12 qy_Pr_isType lm_Cw_139 ⟨by decide, by decide⟩ (by decide) rfl rfl rfl rfl hl.1 rfl (Nat.le_of_ble_eq_true rfl) d_Cw_begun_12 (fun H locs hO => ?_)
    refine lv_if_eq (tgt := 29) hx hb d_Cw_begun_15 (by decide) (fun h => ?_) (fun h => ?_)
    · have hT := qa_t hT h
      refine lv_iconst (v := -1) hx hb d_Cw_begun_29 (by decide) ?_
      exact ret hT hO d_Cw_begun_30
    · have hT := qa_f hT h
      refine lv_aload_n hx hb d_Cw_begun_18 rfl (lv_at hl 0 rfl) ?_
      refine qa_get S hK hO hi_Cw 0 (by decide) rfl rfl 3 (by decide) lf_Cw_37 rfl rfl d_Cw_begun_19 ?_
      refine lv_iload_n hx hb d_Cw_begun_22 rfl (lv_at hl 1 rfl) ?_
      obtain ⟨t23, ht23, hT⟩ := qa_b hT
      refine qa_Vi (As := [.int x1]) (rest := []) (r := 78) S hK hN hA hO (xc_Ma_orderOf l D cI cJ cF cZ ad t12.2 x1) ht23 qy_Ma_orderOf lm_Cw_142 ⟨by decide, by decide⟩ (by decide) rfl rfl rfl rfl hl.1 rfl (Nat.le_of_ble_eq_true rfl) d_Cw_begun_23 (fun H locs hO => ?_)
      refine lv_goto (tgt := 30) hx hb d_Cw_begun_26 (by decide) ?_
      exact ret hT hO d_Cw_begun_30
def xf_Ma_objectCount (g : qa_St) : qa_Re := (some ((g 78 8), g))
set_option maxHeartbeats 4000000 in
set_option maxRecDepth 100000 in
theorem xc_Ma_objectCount (l : Launch) (D : va_G) (cI cJ cF cZ : ClassId) (ad : Nat → Nat) (g : qa_St) : qa_Mi l y_Ma_objectCount (qa_ws y_Ma_objectCount b_Ma_objectCount 1 (some .int)) (qa_rm 0 0) D (qa_ty cI cJ cF cZ) 107 ad (xe_en cI cJ cF ad) [.ref (ad 78)] g (xf_Ma_objectCount g) := by
  refine qa_meti (by decide) (Nat.le_of_ble_eq_true rfl) ?_
  intro p e s m args below meth c Q A T S hK hN hA hT ret ls hl hO
  have hx := S.1
  have hb := S.2.1
  have hl : lv_has ls 1 [(0, .ref (ad 78))] := hl
  unfold xf_Ma_objectCount at hT
  refine lv_aload_n hx hb d_Ma_objectCount_0 rfl (lv_at hl 0 rfl) ?_
  refine qa_get S hK hO hi_Ma 78 (by decide) rfl rfl 8 (by decide) lf_Ma_48 rfl rfl d_Ma_objectCount_1 ?_
  exact ret hT hO d_Ma_objectCount_4
def xf_Cw_objects (g : qa_St) : qa_Re := (if (g 0 5) = 0 then (some ((-1 : Int32), g)) else ((xf_Ma_objectCount g).bind fun t11 => (some (t11.1, t11.2))))
set_option maxHeartbeats 4000000 in
set_option maxRecDepth 100000 in
theorem xc_Cw_objects (l : Launch) (D : va_G) (cI cJ cF cZ : ClassId) (ad : Nat → Nat) (g : qa_St) : qa_Mi l y_Cw_objects (qa_ws y_Cw_objects b_Cw_objects 1 (some .int)) (qa_rm 1 20) D (qa_ty cI cJ cF cZ) 107 ad (xe_en cI cJ cF ad) [.ref (ad 0)] g (xf_Cw_objects g) := by
  refine qa_meti (by decide) (Nat.le_of_ble_eq_true rfl) ?_
  intro p e s m args below meth c Q A T S hK hN hA hT ret ls hl hO
  have hx := S.1
  have hb := S.2.1
  have hl : lv_has ls 1 [(0, .ref (ad 0))] := hl
  unfold xf_Cw_objects at hT
  refine lv_aload_n hx hb d_Cw_objects_0 rfl (lv_at hl 0 rfl) ?_
  refine qa_get S hK hO hi_Cw 0 (by decide) rfl rfl 5 (by decide) lf_Cw_45 rfl rfl d_Cw_objects_1 ?_
  refine lv_if_eq (tgt := 17) hx hb d_Cw_objects_4 (by decide) (fun h => ?_) (fun h => ?_)
  · have hT := qa_t hT h
    refine lv_iconst (v := -1) hx hb d_Cw_objects_17 (by decide) ?_
    exact ret hT hO d_Cw_objects_18
  · have hT := qa_f hT h
    refine lv_aload_n hx hb d_Cw_objects_7 rfl (lv_at hl 0 rfl) ?_
    refine qa_get S hK hO hi_Cw 0 (by decide) rfl rfl 3 (by decide) lf_Cw_37 rfl rfl d_Cw_objects_8 ?_
    obtain ⟨t11, ht11, hT⟩ := qa_b hT
    refine qa_Vi (As := []) (rest := []) (r := 78) S hK hN hA hO (xc_Ma_objectCount l D cI cJ cF cZ ad g) ht11 qy_Ma_objectCount lm_Cw_145 ⟨by decide, by decide⟩ (by decide) rfl rfl rfl rfl hl.1 rfl (Nat.le_of_ble_eq_true rfl) d_Cw_objects_11 (fun H locs hO => ?_)
    refine lv_goto (tgt := 18) hx hb d_Cw_objects_14 (by decide) ?_
    exact ret hT hO d_Cw_objects_18
def xf_Ma_staticOf (g : qa_St) (x1 : Int32) : qa_Re := ((xf_Cw_within g x1 (6 : Int32)).bind fun t3 => (if t3.1 = 0 then (some ((0 : Int32), t3.2)) else (if x1 < 0 ∨ 6 ≤ x1.toNatClampNeg then none else (some ((t3.2 80 x1.toNatClampNeg), t3.2)))))
set_option maxHeartbeats 4000000 in
set_option maxRecDepth 100000 in
theorem xc_Ma_staticOf (l : Launch) (D : va_G) (cI cJ cF cZ : ClassId) (ad : Nat → Nat) (g : qa_St) (x1 : Int32) : qa_Mi l y_Ma_staticOf (qa_ws y_Ma_staticOf b_Ma_staticOf 2 (some .int)) (qa_rm 1 21) D (qa_ty cI cJ cF cZ) 107 ad (xe_en cI cJ cF ad) [.ref (ad 78), .int x1] g (xf_Ma_staticOf g x1) := by
  refine qa_meti (by decide) (Nat.le_of_ble_eq_true rfl) ?_
  intro p e s m args below meth c Q A T S hK hN hA hT ret ls hl hO
  have hx := S.1
  have hb := S.2.1
  have hl : lv_has ls 2 [(0, .ref (ad 78)), (1, .int x1)] := hl
  unfold xf_Ma_staticOf at hT
  refine lv_iload_n hx hb d_Ma_staticOf_0 rfl (lv_at hl 1 rfl) ?_
  refine lv_bipush (v := 6) hx hb d_Ma_staticOf_1 (by decide) ?_
  obtain ⟨t3, ht3, hT⟩ := qa_b hT
  refine qa_SNi (As := [.int x1, .int (6 : Int32)]) (rest := []) S hK hN hA hO (xc_Cw_within l D cI cJ cF cZ ad g x1 (6 : Int32)) ht3 qy_Cw_within ln_Ma_83 ⟨by decide, by decide⟩ rfl hl.1 rfl (Nat.le_of_ble_eq_true rfl) d_Ma_staticOf_3 (fun H locs hO => ?_)
  refine lv_if_eq (tgt := 18) hx hb d_Ma_staticOf_6 (by decide) (fun h => ?_) (fun h => ?_)
  · have hT := qa_t hT h
    refine lv_iconst (v := 0) hx hb d_Ma_staticOf_18 (by decide) ?_
    exact ret hT hO d_Ma_staticOf_19
  · have hT := qa_f hT h
    refine lv_aload_n hx hb d_Ma_staticOf_9 rfl (lv_at hl 0 rfl) ?_
    refine qa_get S hK hO hi_Ma 78 (by decide) rfl rfl 2 (by decide) lf_Ma_17 rfl rfl d_Ma_staticOf_10 ?_
    refine lv_iload_n hx hb d_Ma_staticOf_13 rfl (lv_at hl 1 rfl) ?_
    obtain ⟨hi14, hT⟩ := qa_c hT
    refine qa_iald (n := 6) S hK hO 80 (by decide) 0 (xe_arr rfl) rfl hi14 d_Ma_staticOf_14 ?_
    refine lv_goto (tgt := 19) hx hb d_Ma_staticOf_15 (by decide) ?_
    exact ret hT hO d_Ma_staticOf_19
