def xf_Cw_close_24 : Nat → qa_St → Int32 → qa_Re
  | 0, _, _ => none
  | n + 1, g, x1 => ((xf_Pr_methodCount g).bind fun t29 => (if t29.1 ≤ x1 then ((xf_Re_find t29.2).bind fun t58 => (some ((-1 : Int32), (qa_up t58.2 0 4 (1 : Int32))))) else ((xf_Ch_isSound t29.2 x1).bind fun t40 => (if t40.1 = 0 then (some (x1, t40.2)) else ((xf_Cw_close_24 n) t40.2 (x1 + 1))))))
def xf_Cw_close (g : qa_St) : qa_Re := (if (g 0 4) = 0 then ((xf_Pr_hasStart g).bind fun t13 => (if t13.1 = 0 then (some ((10 : Int32), t13.2)) else (xf_Cw_close_24 4096 t13.2 (0 : Int32)))) else (some ((-1 : Int32), g)))
set_option maxHeartbeats 4000000 in
set_option maxRecDepth 100000 in
theorem xc_Cw_close (l : Launch) (D : va_G) (cI cJ cF cZ : ClassId) (ad : Nat → Nat) (g : qa_St) : qa_Mi l y_Cw_close (qa_ws y_Cw_close b_Cw_close 2 (some .int)) (qa_rm 7 162) D (qa_ty cI cJ cF cZ) 107 ad (xe_en cI cJ cF ad) [.ref (ad 0)] g (xf_Cw_close g) := by
  refine qa_meti (by decide) (Nat.le_of_ble_eq_true rfl) ?_
  intro p e s m args below meth c Q A T S hK hN hA hT ret ls hl hO
  have hx := S.1
  have hb := S.2.1
  have hl : lv_has ls 2 [(0, .ref (ad 0))] := hl
  have b24 : ∀ (n : Nat), ∀ (g : qa_St) (x1 : Int32) (ls : Array Slot) (H : Heap) (locs : List Loc), lv_has ls 2 [(0, .ref (ad 0)), (1, .int x1)] → qa_O D 107 ad (xe_en cI cJ cF ad) A s.heap g H locs → xf_Cw_close_24 n g x1 = some T → W p l e (qa_rm 7 162) s m args below meth c H locs 0 0 Q (F0 m 24 ls []) := by
    intro n
    induction n with
    | zero => intro g x1 ls H locs hl hO hT; rw [xf_Cw_close_24] at hT; cases hT
    | succ n ih =>
      intro g x1 ls H locs hl hO hT
      rw [xf_Cw_close_24] at hT
      refine lv_iload_n hx hb d_Cw_close_24 rfl (lv_at hl 1 rfl) ?_
      refine lv_aload_n hx hb d_Cw_close_25 rfl (lv_at hl 0 rfl) ?_
      refine qa_get S hK hO hi_Cw 0 (by decide) rfl rfl 0 (by decide) lf_Cw_17 rfl rfl d_Cw_close_26 ?_
      obtain ⟨t29, ht29, hT⟩ := qa_b hT
      refine qa_Vi (As := []) (rest := [.int x1]) (r := 1) S hK hN hA hO (xc_Pr_methodCount l D cI cJ cF cZ ad g) ht29 qy_Pr_methodCount lm_Cw_79 ⟨by decide, by decide⟩ (by decide) rfl rfl rfl rfl hl.1 rfl (Nat.le_of_ble_eq_true rfl) d_Cw_close_29 (fun H locs hO => ?_)
      refine lv_icmp_ge (tgt := 54) hx hb d_Cw_close_32 (by decide) (fun h => ?_) (fun h => ?_)
      · have hT := qa_t hT h
        refine lv_aload_n hx hb d_Cw_close_54 rfl (lv_at hl 0 rfl) ?_
        refine qa_get S hK hO hi_Cw 0 (by decide) rfl rfl 2 (by decide) lf_Cw_30 rfl rfl d_Cw_close_55 ?_
        obtain ⟨t58, ht58, hT⟩ := qa_b hT
        refine qa_Vv (As := []) (rest := []) (r := 77) S hK hN hA hO (xc_Re_find l D cI cJ cF cZ ad t29.2) ht58 qy_Re_find lm_Cw_87 ⟨by decide, by decide⟩ (by decide) rfl rfl rfl rfl hl.1 rfl (Nat.le_of_ble_eq_true rfl) d_Cw_close_58 (fun H locs hO => ?_)
        refine lv_aload_n hx hb d_Cw_close_61 rfl (lv_at hl 0 rfl) ?_
        refine lv_iconst (v := 1) hx hb d_Cw_close_62 (by decide) ?_
        refine qa_put S hK hO hi_Cw t_Cw t_Cw_ok n_Cw 0 (by decide) rfl rfl 4 (by decide) lf_Cw_41 rfl rfl (ty := .boolean) (by decide +kernel) rfl rfl (Nat.le_of_ble_eq_true rfl) rfl d_Cw_close_63 (fun H locs hO => ?_)
        refine lv_iconst (v := -1) hx hb d_Cw_close_66 (by decide) ?_
        exact ret hT hO d_Cw_close_67
      · have hT := qa_f hT h
        refine lv_aload_n hx hb d_Cw_close_35 rfl (lv_at hl 0 rfl) ?_
        refine qa_get S hK hO hi_Cw 0 (by decide) rfl rfl 1 (by decide) lf_Cw_21 rfl rfl d_Cw_close_36 ?_
        refine lv_iload_n hx hb d_Cw_close_39 rfl (lv_at hl 1 rfl) ?_
        obtain ⟨t40, ht40, hT⟩ := qa_b hT
        refine qa_Vi (As := [.int x1]) (rest := []) (r := 72) S hK hN hA hO (xc_Ch_isSound l D cI cJ cF cZ ad t29.2 x1) ht40 qy_Ch_isSound lm_Cw_83 ⟨by decide, by decide⟩ (by decide) rfl rfl rfl rfl hl.1 rfl (Nat.le_of_ble_eq_true rfl) d_Cw_close_40 (fun H locs hO => ?_)
        refine lv_if_ne (tgt := 48) hx hb d_Cw_close_43 (by decide) (fun h => ?_) (fun h => ?_)
        · have hT := qa_f hT h
          refine lv_iinc (lv' := [(1, .int (x1 + 1)), (0, .ref (ad 0))]) hx hb d_Cw_close_48 hl (k := 1) rfl (qa_o1 _) (by decide) rfl (fun ls hl => ?_)
          refine lv_goto (tgt := 24) hx hb d_Cw_close_51 (by decide) ?_
          exact ih t40.2 (x1 + 1) _ _ _ (lv_sub hl [1, 0] rfl) hO hT
        · have hT := qa_t hT h
          refine lv_iload_n hx hb d_Cw_close_46 rfl (lv_at hl 1 rfl) ?_
          exact ret hT hO d_Cw_close_47
  unfold xf_Cw_close at hT
  refine lv_aload_n hx hb d_Cw_close_0 rfl (lv_at hl 0 rfl) ?_
  refine qa_get S hK hO hi_Cw 0 (by decide) rfl rfl 4 (by decide) lf_Cw_41 rfl rfl d_Cw_close_1 ?_
  refine lv_if_eq (tgt := 9) hx hb d_Cw_close_4 (by decide) (fun h => ?_) (fun h => ?_)
  · have hT := qa_t hT h
    refine lv_aload_n hx hb d_Cw_close_9 rfl (lv_at hl 0 rfl) ?_
    refine qa_get S hK hO hi_Cw 0 (by decide) rfl rfl 0 (by decide) lf_Cw_17 rfl rfl d_Cw_close_10 ?_
    obtain ⟨t13, ht13, hT⟩ := qa_b hT
    refine qa_Vi (As := []) (rest := []) (r := 1) S hK hN hA hO (xc_Pr_hasStart l D cI cJ cF cZ ad g) ht13 qy_Pr_hasStart lm_Cw_75 ⟨by decide, by decide⟩ (by decide) rfl rfl rfl rfl hl.1 rfl (Nat.le_of_ble_eq_true rfl) d_Cw_close_13 (fun H locs hO => ?_)
    refine lv_if_ne (tgt := 22) hx hb d_Cw_close_16 (by decide) (fun h => ?_) (fun h => ?_)
    · have hT := qa_f hT h
      refine lv_iconst (v := 0) hx hb d_Cw_close_22 (by decide) ?_
      refine lv_istore_n (lv' := [(1, .int (0 : Int32)), (0, .ref (ad 0))]) hx hb d_Cw_close_23 rfl hl (by decide) rfl (fun ls hl => ?_)
      exact b24 4096 t13.2 (0 : Int32) _ _ _ (lv_sub hl [1, 0] rfl) hO hT
    · have hT := qa_t hT h
      refine lv_bipush (v := 10) hx hb d_Cw_close_19 (by decide) ?_
      exact ret hT hO d_Cw_close_21
  · have hT := qa_f hT h
    refine lv_iconst (v := -1) hx hb d_Cw_close_7 (by decide) ?_
    exact ret hT hO d_Cw_close_8
def xf_Ch_typeOf (g : qa_St) (x1 : Int32) (x2 : Int32) (x3 : Int32) : qa_Re := ((xf_Ch_isReached g x1 x2).bind fun t3 => (if t3.1 = 0 then (some ((-1 : Int32), t3.2)) else ((xf_Ch_rowOf t3.2 x1 x2).bind fun t13 => (if t13.1 < 0 ∨ 200 ≤ t13.1.toNatClampNeg then none else ((xf_Cw_within t13.2 x3 ((4 : Int32) + (t13.2 74 t13.1.toNatClampNeg))).bind fun t28 => (if t28.1 = 0 then (some ((-1 : Int32), t28.2)) else (if ((t13.1 * (10 : Int32)) + x3) < 0 ∨ 2000 ≤ ((t13.1 * (10 : Int32)) + x3).toNatClampNeg then none else (some ((t28.2 73 ((t13.1 * (10 : Int32)) + x3).toNatClampNeg), t28.2)))))))))
set_option maxHeartbeats 4000000 in
set_option maxRecDepth 100000 in
theorem xc_Ch_typeOf (l : Launch) (D : va_G) (cI cJ cF cZ : ClassId) (ad : Nat → Nat) (g : qa_St) (x1 : Int32) (x2 : Int32) (x3 : Int32) : qa_Mi l y_Ch_typeOf (qa_ws y_Ch_typeOf b_Ch_typeOf 5 (some .int)) (qa_rm 2 43) D (qa_ty cI cJ cF cZ) 107 ad (xe_en cI cJ cF ad) [.ref (ad 72), .int x1, .int x2, .int x3] g (xf_Ch_typeOf g x1 x2 x3) := by
  refine qa_meti (by decide) (Nat.le_of_ble_eq_true rfl) ?_
  intro p e s m args below meth c Q A T S hK hN hA hT ret ls hl hO
  have hx := S.1
  have hb := S.2.1
  have hl : lv_has ls 5 [(0, .ref (ad 72)), (1, .int x1), (2, .int x2), (3, .int x3)] := hl
  unfold xf_Ch_typeOf at hT
  refine lv_aload_n hx hb d_Ch_typeOf_0 rfl (lv_at hl 0 rfl) ?_
  refine lv_iload_n hx hb d_Ch_typeOf_1 rfl (lv_at hl 1 rfl) ?_
  refine lv_iload_n hx hb d_Ch_typeOf_2 rfl (lv_at hl 2 rfl) ?_
  obtain ⟨t3, ht3, hT⟩ := qa_b hT
  refine qa_Vi (As := [.int x1, .int x2]) (rest := []) (r := 72) S hK hN hA hO (xc_Ch_isReached l D cI cJ cF cZ ad g x1 x2) ht3 qy_Ch_isReached lm_Ch_71 ⟨by decide, by decide⟩ (by decide) rfl rfl rfl rfl hl.1 rfl (Nat.le_of_ble_eq_true rfl) d_Ch_typeOf_3 (fun H locs hO => ?_)
  refine lv_if_ne (tgt := 11) hx hb d_Ch_typeOf_6 (by decide) (fun h => ?_) (fun h => ?_)
  · have hT := qa_f hT h
    refine lv_iload_n hx hb d_Ch_typeOf_11 rfl (lv_at hl 1 rfl) ?_
    refine lv_iload_n hx hb d_Ch_typeOf_12 rfl (lv_at hl 2 rfl) ?_
    obtain ⟨t13, ht13, hT⟩ := qa_b hT
    refine qa_Si (As := [.int x1, .int x2]) (rest := []) S hK hN hA hO (xc_Ch_rowOf l D cI cJ cF cZ ad t3.2 x1 x2) ht13 qy_Ch_rowOf lm_Ch_40 ⟨by decide, by decide⟩ rfl hl.1 rfl (Nat.le_of_ble_eq_true rfl) d_Ch_typeOf_13 (fun H locs hO => ?_)
    refine lv_istore (lv' := [(4, .int t13.1), (0, .ref (ad 72)), (1, .int x1), (2, .int x2), (3, .int x3)]) hx hb d_Ch_typeOf_16 hl (by decide) rfl (fun ls hl => ?_)
    refine lv_iload_n hx hb d_Ch_typeOf_18 rfl (lv_at hl 4 rfl) ?_
    refine lv_iconst (v := 4) hx hb d_Ch_typeOf_19 (by decide) ?_
    refine lv_aload_n hx hb d_Ch_typeOf_20 rfl (lv_at hl 1 rfl) ?_
    refine qa_get S hK hO hi_Ch 72 (by decide) rfl rfl 2 (by decide) lf_Ch_15 rfl rfl d_Ch_typeOf_21 ?_
    refine lv_iload hx hb d_Ch_typeOf_24 (lv_at hl 0 rfl) ?_
    obtain ⟨hi26, hT⟩ := qa_c hT
    refine qa_iald (n := 200) S hK hO 74 (by decide) 0 (xe_arr rfl) rfl hi26 d_Ch_typeOf_26 ?_
    refine lv_iadd hx hb d_Ch_typeOf_27 ?_
    obtain ⟨t28, ht28, hT⟩ := qa_b hT
    refine qa_SNi (As := [.int x3, .int ((4 : Int32) + (t13.2 74 t13.1.toNatClampNeg))]) (rest := []) S hK hN hA hO (xc_Cw_within l D cI cJ cF cZ ad t13.2 x3 ((4 : Int32) + (t13.2 74 t13.1.toNatClampNeg))) ht28 qy_Cw_within ln_Ch_67 ⟨by decide, by decide⟩ rfl hl.1 rfl (Nat.le_of_ble_eq_true rfl) d_Ch_typeOf_28 (fun H locs hO => ?_)
    refine lv_if_eq (tgt := 49) hx hb d_Ch_typeOf_31 (by decide) (fun h => ?_) (fun h => ?_)
    · have hT := qa_t hT h
      refine lv_iconst (v := -1) hx hb d_Ch_typeOf_49 (by decide) ?_
      exact ret hT hO d_Ch_typeOf_50
    · have hT := qa_f hT h
      refine lv_aload_n hx hb d_Ch_typeOf_34 rfl (lv_at hl 1 rfl) ?_
      refine qa_get S hK hO hi_Ch 72 (by decide) rfl rfl 1 (by decide) lf_Ch_9 rfl rfl d_Ch_typeOf_35 ?_
      refine lv_iload hx hb d_Ch_typeOf_38 (lv_at hl 0 rfl) ?_
      refine lv_bipush (v := 10) hx hb d_Ch_typeOf_40 (by decide) ?_
      refine lv_imul hx hb d_Ch_typeOf_42 ?_
      refine lv_iload_n hx hb d_Ch_typeOf_43 rfl (lv_at hl 4 rfl) ?_
      refine lv_iadd hx hb d_Ch_typeOf_44 ?_
      obtain ⟨hi45, hT⟩ := qa_c hT
      refine qa_iald (n := 2000) S hK hO 73 (by decide) 0 (xe_arr rfl) rfl hi45 d_Ch_typeOf_45 ?_
      refine lv_goto (tgt := 50) hx hb d_Ch_typeOf_46 (by decide) ?_
      exact ret hT hO d_Ch_typeOf_50
  · have hT := qa_t hT h
    refine lv_iconst (v := -1) hx hb d_Ch_typeOf_9 (by decide) ?_
    exact ret hT hO d_Ch_typeOf_10
def xf_Cw_typeAt (g : qa_St) (x1 : Int32) (x2 : Int32) (x3 : Int32) : qa_Re := (if (g 0 4) = 0 then (some ((-1 : Int32), g)) else ((xf_Ch_typeOf g x1 x2 x3).bind fun t14 => (some (t14.1, t14.2))))
set_option maxHeartbeats 4000000 in
set_option maxRecDepth 100000 in
theorem xc_Cw_typeAt (l : Launch) (D : va_G) (cI cJ cF cZ : ClassId) (ad : Nat → Nat) (g : qa_St) (x1 : Int32) (x2 : Int32) (x3 : Int32) : qa_Mi l y_Cw_typeAt (qa_ws y_Cw_typeAt b_Cw_typeAt 4 (some .int)) (qa_rm 3 67) D (qa_ty cI cJ cF cZ) 107 ad (xe_en cI cJ cF ad) [.ref (ad 0), .int x1, .int x2, .int x3] g (xf_Cw_typeAt g x1 x2 x3) := by
  refine qa_meti (by decide) (Nat.le_of_ble_eq_true rfl) ?_
  intro p e s m args below meth c Q A T S hK hN hA hT ret ls hl hO
  have hx := S.1
  have hb := S.2.1
  have hl : lv_has ls 4 [(0, .ref (ad 0)), (1, .int x1), (2, .int x2), (3, .int x3)] := hl
  unfold xf_Cw_typeAt at hT
  refine lv_aload_n hx hb d_Cw_typeAt_0 rfl (lv_at hl 0 rfl) ?_
  refine qa_get S hK hO hi_Cw 0 (by decide) rfl rfl 4 (by decide) lf_Cw_41 rfl rfl d_Cw_typeAt_1 ?_
  refine lv_if_eq (tgt := 20) hx hb d_Cw_typeAt_4 (by decide) (fun h => ?_) (fun h => ?_)
  · have hT := qa_t hT h
    refine lv_iconst (v := -1) hx hb d_Cw_typeAt_20 (by decide) ?_
    exact ret hT hO d_Cw_typeAt_21
  · have hT := qa_f hT h
    refine lv_aload_n hx hb d_Cw_typeAt_7 rfl (lv_at hl 0 rfl) ?_
    refine qa_get S hK hO hi_Cw 0 (by decide) rfl rfl 1 (by decide) lf_Cw_21 rfl rfl d_Cw_typeAt_8 ?_
    refine lv_iload_n hx hb d_Cw_typeAt_11 rfl (lv_at hl 1 rfl) ?_
    refine lv_iload_n hx hb d_Cw_typeAt_12 rfl (lv_at hl 2 rfl) ?_
    refine lv_iload_n hx hb d_Cw_typeAt_13 rfl (lv_at hl 3 rfl) ?_
    obtain ⟨t14, ht14, hT⟩ := qa_b hT
    refine qa_Vi (As := [.int x1, .int x2, .int x3]) (rest := []) (r := 72) S hK hN hA hO (xc_Ch_typeOf l D cI cJ cF cZ ad g x1 x2 x3) ht14 qy_Ch_typeOf lm_Cw_90 ⟨by decide, by decide⟩ (by decide) rfl rfl rfl rfl hl.1 rfl (Nat.le_of_ble_eq_true rfl) d_Cw_typeAt_14 (fun H locs hO => ?_)
    refine lv_goto (tgt := 21) hx hb d_Cw_typeAt_17 (by decide) ?_
    exact ret hT hO d_Cw_typeAt_21
def xf_Cw_answer (g : qa_St) (x1 : Int32) (x2 : Int32) : qa_Re := ((xf_Pr_answering g x1 x2).bind fun t6 => (some (t6.1, t6.2)))
set_option maxHeartbeats 4000000 in
set_option maxRecDepth 100000 in
theorem xc_Cw_answer (l : Launch) (D : va_G) (cI cJ cF cZ : ClassId) (ad : Nat → Nat) (g : qa_St) (x1 : Int32) (x2 : Int32) : qa_Mi l y_Cw_answer (qa_ws y_Cw_answer b_Cw_answer 3 (some .int)) (qa_rm 2 44) D (qa_ty cI cJ cF cZ) 107 ad (xe_en cI cJ cF ad) [.ref (ad 0), .int x1, .int x2] g (xf_Cw_answer g x1 x2) := by
  refine qa_meti (by decide) (Nat.le_of_ble_eq_true rfl) ?_
  intro p e s m args below meth c Q A T S hK hN hA hT ret ls hl hO
  have hx := S.1
  have hb := S.2.1
  have hl : lv_has ls 3 [(0, .ref (ad 0)), (1, .int x1), (2, .int x2)] := hl
  unfold xf_Cw_answer at hT
  refine lv_aload_n hx hb d_Cw_answer_0 rfl (lv_at hl 0 rfl) ?_
  refine qa_get S hK hO hi_Cw 0 (by decide) rfl rfl 0 (by decide) lf_Cw_17 rfl rfl d_Cw_answer_1 ?_
  refine lv_iload_n hx hb d_Cw_answer_4 rfl (lv_at hl 1 rfl) ?_
  refine lv_iload_n hx hb d_Cw_answer_5 rfl (lv_at hl 2 rfl) ?_
  obtain ⟨t6, ht6, hT⟩ := qa_b hT
  refine qa_Vi (As := [.int x1, .int x2]) (rest := []) (r := 1) S hK hN hA hO (xc_Pr_answering l D cI cJ cF cZ ad g x1 x2) ht6 qy_Pr_answering lm_Cw_93 ⟨by decide, by decide⟩ (by decide) rfl rfl rfl rfl hl.1 rfl (Nat.le_of_ble_eq_true rfl) d_Cw_answer_6 (fun H locs hO => ?_)
  exact ret hT hO d_Cw_answer_9
def xf_In_bitCount_40 (g : qa_St) (s0 : Int32) : qa_Re := (some (((s0 + (qa_ushr s0 (16 : Int32))) &&& (63 : Int32)), g))
def xf_In_bitCount_28 (g : qa_St) (s0 : Int32) (s1 : Int32) : qa_Re := (xf_In_bitCount_40 g (((s1 + s0) &&& (252645135 : Int32)) + (qa_ushr ((s1 + s0) &&& (252645135 : Int32)) (8 : Int32))))
def xf_In_bitCount_15 (g : qa_St) (x0 : Int32) (s0 : Int32) : qa_Re := (xf_In_bitCount_28 g (qa_ushr (s0 + ((qa_ushr x0 (2 : Int32)) &&& (858993459 : Int32))) (4 : Int32)) (s0 + ((qa_ushr x0 (2 : Int32)) &&& (858993459 : Int32))))
def xf_In_bitCount (g : qa_St) (x0 : Int32) : qa_Re := (xf_In_bitCount_15 g (x0 - ((qa_ushr x0 (1 : Int32)) &&& (1431655765 : Int32))) ((x0 - ((qa_ushr x0 (1 : Int32)) &&& (1431655765 : Int32))) &&& (858993459 : Int32)))
set_option maxHeartbeats 4000000 in
set_option maxRecDepth 100000 in
theorem xc_In_bitCount (l : Launch) (D : va_G) (cI cJ cF cZ : ClassId) (ad : Nat → Nat) (g : qa_St) (x0 : Int32) : qa_Mi l y_In_bitCount (qa_ws y_In_bitCount b_In_bitCount 1 (some .int)) (qa_rm 0 0) D (qa_ty cI cJ cF cZ) 107 ad (xe_en cI cJ cF ad) [.int x0] g (xf_In_bitCount g x0) := by
  refine qa_meti (by decide) (Nat.le_of_ble_eq_true rfl) ?_
  intro p e s m args below meth c Q A T S hK hN hA hT ret ls hl hO
  have hx := S.1
  have hb := S.2.1
  have hl : lv_has ls 1 [(0, .int x0)] := hl
  have b40 : ∀ (g : qa_St) (s0 : Int32) (ls : Array Slot) (H : Heap) (locs : List Loc), lv_has ls 1 [] → qa_O D 107 ad (xe_en cI cJ cF ad) A s.heap g H locs → xf_In_bitCount_40 g s0 = some T → W p l e (qa_rm 0 0) s m args below meth c H locs 0 0 Q (F0 m 40 ls [.int s0]) := by
    intro g s0 ls H locs hl hO hT
    unfold xf_In_bitCount_40 at hT
    refine lv_istore_n (lv' := [(0, .int s0)]) hx hb d_In_bitCount_40 rfl hl (by decide) rfl (fun ls hl => ?_)
    refine lv_iload_n hx hb d_In_bitCount_41 rfl (lv_at hl 0 rfl) ?_
    refine lv_iload_n hx hb d_In_bitCount_42 rfl (lv_at hl 0 rfl) ?_
    refine lv_bipush (v := 16) hx hb d_In_bitCount_43 (by decide) ?_
    refine lv_iushr hx hb d_In_bitCount_45 rfl ?_
    refine lv_iadd hx hb d_In_bitCount_46 ?_
    refine lv_istore_n (lv' := [(0, .int (s0 + (qa_ushr s0 (16 : Int32))))]) hx hb d_In_bitCount_47 rfl hl (by decide) rfl (fun ls hl => ?_)
    refine lv_iload_n hx hb d_In_bitCount_48 rfl (lv_at hl 0 rfl) ?_
    refine lv_bipush (v := 63) hx hb d_In_bitCount_49 (by decide) ?_
    refine lv_iand hx hb d_In_bitCount_51 ?_
    exact ret hT hO d_In_bitCount_52
  have b28 : ∀ (g : qa_St) (s0 : Int32) (s1 : Int32) (ls : Array Slot) (H : Heap) (locs : List Loc), lv_has ls 1 [] → qa_O D 107 ad (xe_en cI cJ cF ad) A s.heap g H locs → xf_In_bitCount_28 g s0 s1 = some T → W p l e (qa_rm 0 0) s m args below meth c H locs 0 0 Q (F0 m 28 ls [.int s0, .int s1]) := by
    intro g s0 s1 ls H locs hl hO hT
    unfold xf_In_bitCount_28 at hT
    refine lv_iadd hx hb d_In_bitCount_28 ?_
    refine lv_ldcw (v := 252645135) hx hb S.2.2.2.1 (S.2.2.2.2 _ (List.mem_cons_of_mem _ lc_In_267)) d_In_bitCount_29 ?_
    refine lv_iand hx hb d_In_bitCount_32 ?_
    refine lv_istore_n (lv' := [(0, .int ((s1 + s0) &&& (252645135 : Int32)))]) hx hb d_In_bitCount_33 rfl hl (by decide) rfl (fun ls hl => ?_)
    refine lv_iload_n hx hb d_In_bitCount_34 rfl (lv_at hl 0 rfl) ?_
    refine lv_iload_n hx hb d_In_bitCount_35 rfl (lv_at hl 0 rfl) ?_
    refine lv_bipush (v := 8) hx hb d_In_bitCount_36 (by decide) ?_
    refine lv_iushr hx hb d_In_bitCount_38 rfl ?_
    refine lv_iadd hx hb d_In_bitCount_39 ?_
    exact b40 g (((s1 + s0) &&& (252645135 : Int32)) + (qa_ushr ((s1 + s0) &&& (252645135 : Int32)) (8 : Int32))) _ _ _ (lv_sub hl [] rfl) hO hT
  have b15 : ∀ (g : qa_St) (x0 : Int32) (s0 : Int32) (ls : Array Slot) (H : Heap) (locs : List Loc), lv_has ls 1 [(0, .int x0)] → qa_O D 107 ad (xe_en cI cJ cF ad) A s.heap g H locs → xf_In_bitCount_15 g x0 s0 = some T → W p l e (qa_rm 0 0) s m args below meth c H locs 0 0 Q (F0 m 15 ls [.int s0]) := by
    intro g x0 s0 ls H locs hl hO hT
    unfold xf_In_bitCount_15 at hT
    refine lv_iload_n hx hb d_In_bitCount_15 rfl (lv_at hl 0 rfl) ?_
    refine lv_iconst (v := 2) hx hb d_In_bitCount_16 (by decide) ?_
    refine lv_iushr hx hb d_In_bitCount_17 rfl ?_
    refine lv_ldcw (v := 858993459) hx hb S.2.2.2.1 (S.2.2.2.2 _ (List.mem_cons_of_mem _ lc_In_266)) d_In_bitCount_18 ?_
    refine lv_iand hx hb d_In_bitCount_21 ?_
    refine lv_iadd hx hb d_In_bitCount_22 ?_
    refine lv_istore_n (lv' := [(0, .int (s0 + ((qa_ushr x0 (2 : Int32)) &&& (858993459 : Int32))))]) hx hb d_In_bitCount_23 rfl hl (by decide) rfl (fun ls hl => ?_)
    refine lv_iload_n hx hb d_In_bitCount_24 rfl (lv_at hl 0 rfl) ?_
    refine lv_iload_n hx hb d_In_bitCount_25 rfl (lv_at hl 0 rfl) ?_
    refine lv_iconst (v := 4) hx hb d_In_bitCount_26 (by decide) ?_
    refine lv_iushr hx hb d_In_bitCount_27 rfl ?_
    exact b28 g (qa_ushr (s0 + ((qa_ushr x0 (2 : Int32)) &&& (858993459 : Int32))) (4 : Int32)) (s0 + ((qa_ushr x0 (2 : Int32)) &&& (858993459 : Int32))) _ _ _ (lv_sub hl [] rfl) hO hT
  unfold xf_In_bitCount at hT
  refine lv_iload_n hx hb d_In_bitCount_0 rfl (lv_at hl 0 rfl) ?_
  refine lv_iload_n hx hb d_In_bitCount_1 rfl (lv_at hl 0 rfl) ?_
  refine lv_iconst (v := 1) hx hb d_In_bitCount_2 (by decide) ?_
  refine lv_iushr hx hb d_In_bitCount_3 rfl ?_
  refine lv_ldcw (v := 1431655765) hx hb S.2.2.2.1 (S.2.2.2.2 _ (List.mem_cons_of_mem _ lc_In_265)) d_In_bitCount_4 ?_
  refine lv_iand hx hb d_In_bitCount_7 ?_
  refine lv_isub hx hb d_In_bitCount_8 ?_
  refine lv_istore_n (lv' := [(0, .int (x0 - ((qa_ushr x0 (1 : Int32)) &&& (1431655765 : Int32))))]) hx hb d_In_bitCount_9 rfl hl (by decide) rfl (fun ls hl => ?_)
  refine lv_iload_n hx hb d_In_bitCount_10 rfl (lv_at hl 0 rfl) ?_
  refine lv_ldcw (v := 858993459) hx hb S.2.2.2.1 (S.2.2.2.2 _ (List.mem_cons_of_mem _ lc_In_266)) d_In_bitCount_11 ?_
  refine lv_iand hx hb d_In_bitCount_14 ?_
  exact b15 g (x0 - ((qa_ushr x0 (1 : Int32)) &&& (1431655765 : Int32))) ((x0 - ((qa_ushr x0 (1 : Int32)) &&& (1431655765 : Int32))) &&& (858993459 : Int32)) _ _ _ (lv_sub hl [0] rfl) hO hT
def xf_Pr_slotOf_115 (k15 : qa_St → Int32 → Int32 → Int32 → Int32 → qa_Re) (k24 : qa_St → Int32 → Int32 → Int32 → Int32 → Int32 → qa_Re) (g : qa_St) (x1 : Int32) (x2 : Int32) (x3 : Int32) (x4 : Int32) (x5 : Int32) : qa_Re := (k24 g x1 x2 x3 x4 (x5 + 1))
def xf_Pr_slotOf_98 (k15 : qa_St → Int32 → Int32 → Int32 → Int32 → qa_Re) (k24 : qa_St → Int32 → Int32 → Int32 → Int32 → Int32 → qa_Re) (g : qa_St) (x1 : Int32) (x2 : Int32) (x3 : Int32) (x4 : Int32) (x5 : Int32) (x6 : Int32) : qa_Re := (if x6 = 0 then (xf_Pr_slotOf_115 k15 k24 g x1 x2 x3 x4 x5) else (if x5 < 0 ∨ 10 ≤ x5.toNatClampNeg then none else (xf_Pr_slotOf_115 k15 k24 g x1 x2 (x3 ||| ((1 : Int32) <<< ((g 13 x5.toNatClampNeg) &&& 31))) x4 x5)))
def xf_Pr_slotOf_75 (k15 : qa_St → Int32 → Int32 → Int32 → Int32 → qa_Re) (k24 : qa_St → Int32 → Int32 → Int32 → Int32 → Int32 → qa_Re) (g : qa_St) (x1 : Int32) (x2 : Int32) (x3 : Int32) (x4 : Int32) (x5 : Int32) (s0 : Int32) : qa_Re := (if s0 = 0 then (xf_Pr_slotOf_98 k15 k24 g x1 x2 x3 x4 x5 s0) else (if x5 < 0 ∨ 10 ≤ x5.toNatClampNeg then none else (if (g 13 x5.toNatClampNeg) = x2 then ((xf_In_bitCount g x3).bind fun t94 => (some (t94.1, t94.2))) else (xf_Pr_slotOf_98 k15 k24 g x1 x2 x3 x4 x5 s0))))
def xf_Pr_slotOf_74 (k15 : qa_St → Int32 → Int32 → Int32 → Int32 → qa_Re) (k24 : qa_St → Int32 → Int32 → Int32 → Int32 → Int32 → qa_Re) (g : qa_St) (x1 : Int32) (x2 : Int32) (x3 : Int32) (x4 : Int32) (x5 : Int32) : qa_Re := (xf_Pr_slotOf_75 k15 k24 g x1 x2 x3 x4 x5 (0 : Int32))
def xf_Pr_slotOf_24 (k15 : qa_St → Int32 → Int32 → Int32 → Int32 → qa_Re) : Nat → qa_St → Int32 → Int32 → Int32 → Int32 → Int32 → qa_Re
  | 0, _, _, _, _, _, _ => none
  | n + 1, g, x1, x2, x3, x4, x5 => (if (g 1 1) ≤ x5 then (k15 g x1 x2 x3 (x4 + 1)) else (if x5 < 0 ∨ 10 ≤ x5.toNatClampNeg then none else (if (g 13 x5.toNatClampNeg) = (-1 : Int32) then (xf_Pr_slotOf_74 k15 (xf_Pr_slotOf_24 k15 n) g x1 x2 x3 x4 x5) else (if x5 < 0 ∨ 10 ≤ x5.toNatClampNeg then none else (if (g 12 x5.toNatClampNeg) = x4 then (if x1 < 0 ∨ 6 ≤ x1.toNatClampNeg then none else ((xf_Cw_has g (g 2 x1.toNatClampNeg) x4).bind fun t64 => (if t64.1 = 0 then (xf_Pr_slotOf_74 k15 (xf_Pr_slotOf_24 k15 n) t64.2 x1 x2 x3 x4 x5) else (xf_Pr_slotOf_75 k15 (xf_Pr_slotOf_24 k15 n) t64.2 x1 x2 x3 x4 x5 (1 : Int32))))) else (xf_Pr_slotOf_74 k15 (xf_Pr_slotOf_24 k15 n) g x1 x2 x3 x4 x5))))))
def xf_Pr_slotOf_15 : Nat → qa_St → Int32 → Int32 → Int32 → Int32 → qa_Re
  | 0, _, _, _, _, _ => none
  | n + 1, g, x1, x2, x3, x4 => (if x1 < x4 then (some ((-1 : Int32), g)) else (xf_Pr_slotOf_24 (xf_Pr_slotOf_15 n) 4096 g x1 x2 x3 x4 (0 : Int32)))
def xf_Pr_slotOf (g : qa_St) (x1 : Int32) (x2 : Int32) : qa_Re := ((xf_Pr_isType g x1).bind fun t2 => (if t2.1 = 0 then (some ((-1 : Int32), t2.2)) else (xf_Pr_slotOf_15 4096 t2.2 x1 x2 (0 : Int32) (0 : Int32))))
set_option maxHeartbeats 4000000 in
set_option maxRecDepth 100000 in
theorem xc_Pr_slotOf (l : Launch) (D : va_G) (cI cJ cF cZ : ClassId) (ad : Nat → Nat) (g : qa_St) (x1 : Int32) (x2 : Int32) : qa_Mi l y_Pr_slotOf (qa_ws y_Pr_slotOf b_Pr_slotOf 7 (some .int)) (qa_rm 1 21) D (qa_ty cI cJ cF cZ) 107 ad (xe_en cI cJ cF ad) [.ref (ad 1), .int x1, .int x2] g (xf_Pr_slotOf g x1 x2) := by
  refine qa_meti (by decide) (Nat.le_of_ble_eq_true rfl) ?_
  intro p e s m args below meth c Q A T S hK hN hA hT ret ls hl hO
  have hx := S.1
  have hb := S.2.1
  have hl : lv_has ls 7 [(0, .ref (ad 1)), (1, .int x1), (2, .int x2)] := hl
  have b115 : ∀ (k15 : qa_St → Int32 → Int32 → Int32 → Int32 → qa_Re) (hk15 : ∀ (g : qa_St) (x1 : Int32) (x2 : Int32) (x3 : Int32) (x4 : Int32) (ls : Array Slot) (H : Heap) (locs : List Loc), lv_has ls 7 [(0, .ref (ad 1)), (1, .int x1), (2, .int x2), (3, .int x3), (4, .int x4)] → qa_O D 107 ad (xe_en cI cJ cF ad) A s.heap g H locs → k15 g x1 x2 x3 x4 = some T → W p l e (qa_rm 1 21) s m args below meth c H locs 0 0 Q (F0 m 15 ls [])) (k24 : qa_St → Int32 → Int32 → Int32 → Int32 → Int32 → qa_Re) (hk24 : ∀ (g : qa_St) (x1 : Int32) (x2 : Int32) (x3 : Int32) (x4 : Int32) (x5 : Int32) (ls : Array Slot) (H : Heap) (locs : List Loc), lv_has ls 7 [(0, .ref (ad 1)), (1, .int x1), (2, .int x2), (3, .int x3), (4, .int x4), (5, .int x5)] → qa_O D 107 ad (xe_en cI cJ cF ad) A s.heap g H locs → k24 g x1 x2 x3 x4 x5 = some T → W p l e (qa_rm 1 21) s m args below meth c H locs 0 0 Q (F0 m 24 ls [])), ∀ (g : qa_St) (x1 : Int32) (x2 : Int32) (x3 : Int32) (x4 : Int32) (x5 : Int32) (ls : Array Slot) (H : Heap) (locs : List Loc), lv_has ls 7 [(0, .ref (ad 1)), (1, .int x1), (2, .int x2), (3, .int x3), (4, .int x4), (5, .int x5)] → qa_O D 107 ad (xe_en cI cJ cF ad) A s.heap g H locs → xf_Pr_slotOf_115 k15 k24 g x1 x2 x3 x4 x5 = some T → W p l e (qa_rm 1 21) s m args below meth c H locs 0 0 Q (F0 m 115 ls []) := by
    intro k15 hk15 k24 hk24
    intro g x1 x2 x3 x4 x5 ls H locs hl hO hT
    unfold xf_Pr_slotOf_115 at hT
    refine lv_iinc (lv' := [(5, .int (x5 + 1)), (0, .ref (ad 1)), (1, .int x1), (2, .int x2), (3, .int x3), (4, .int x4)]) hx hb d_Pr_slotOf_115 hl (k := 5) rfl (qa_o1 _) (by decide) rfl (fun ls hl => ?_)
    refine lv_goto (tgt := 24) hx hb d_Pr_slotOf_118 (by decide) ?_
    exact hk24 g x1 x2 x3 x4 (x5 + 1) _ _ _ (lv_sub hl [1, 2, 3, 4, 5, 0] rfl) hO hT
  have b98 : ∀ (k15 : qa_St → Int32 → Int32 → Int32 → Int32 → qa_Re) (hk15 : ∀ (g : qa_St) (x1 : Int32) (x2 : Int32) (x3 : Int32) (x4 : Int32) (ls : Array Slot) (H : Heap) (locs : List Loc), lv_has ls 7 [(0, .ref (ad 1)), (1, .int x1), (2, .int x2), (3, .int x3), (4, .int x4)] → qa_O D 107 ad (xe_en cI cJ cF ad) A s.heap g H locs → k15 g x1 x2 x3 x4 = some T → W p l e (qa_rm 1 21) s m args below meth c H locs 0 0 Q (F0 m 15 ls [])) (k24 : qa_St → Int32 → Int32 → Int32 → Int32 → Int32 → qa_Re) (hk24 : ∀ (g : qa_St) (x1 : Int32) (x2 : Int32) (x3 : Int32) (x4 : Int32) (x5 : Int32) (ls : Array Slot) (H : Heap) (locs : List Loc), lv_has ls 7 [(0, .ref (ad 1)), (1, .int x1), (2, .int x2), (3, .int x3), (4, .int x4), (5, .int x5)] → qa_O D 107 ad (xe_en cI cJ cF ad) A s.heap g H locs → k24 g x1 x2 x3 x4 x5 = some T → W p l e (qa_rm 1 21) s m args below meth c H locs 0 0 Q (F0 m 24 ls [])), ∀ (g : qa_St) (x1 : Int32) (x2 : Int32) (x3 : Int32) (x4 : Int32) (x5 : Int32) (x6 : Int32) (ls : Array Slot) (H : Heap) (locs : List Loc), lv_has ls 7 [(0, .ref (ad 1)), (1, .int x1), (2, .int x2), (3, .int x3), (4, .int x4), (5, .int x5), (6, .int x6)] → qa_O D 107 ad (xe_en cI cJ cF ad) A s.heap g H locs → xf_Pr_slotOf_98 k15 k24 g x1 x2 x3 x4 x5 x6 = some T → W p l e (qa_rm 1 21) s m args below meth c H locs 0 0 Q (F0 m 98 ls []) := by
    intro k15 hk15 k24 hk24
    intro g x1 x2 x3 x4 x5 x6 ls H locs hl hO hT
    unfold xf_Pr_slotOf_98 at hT
    refine lv_iload hx hb d_Pr_slotOf_98 (lv_at hl 6 rfl) ?_
    refine lv_if_eq (tgt := 115) hx hb d_Pr_slotOf_100 (by decide) (fun h => ?_) (fun h => ?_)
    · have hT := qa_t hT h
      exact b115 k15 hk15 k24 hk24 g x1 x2 x3 x4 x5 _ _ _ (lv_sub hl [0, 1, 2, 3, 4, 5] rfl) hO hT
    · have hT := qa_f hT h
      refine lv_iload_n hx hb d_Pr_slotOf_103 rfl (lv_at hl 3 rfl) ?_
      refine lv_iconst (v := 1) hx hb d_Pr_slotOf_104 (by decide) ?_
      refine lv_aload_n hx hb d_Pr_slotOf_105 rfl (lv_at hl 0 rfl) ?_
      refine qa_get S hK hO hi_Pr 1 (by decide) rfl rfl 7 (by decide) lf_Pr_29 rfl rfl d_Pr_slotOf_106 ?_
      refine lv_iload hx hb d_Pr_slotOf_109 (lv_at hl 5 rfl) ?_
      obtain ⟨hi111, hT⟩ := qa_c hT
      refine qa_iald (n := 10) S hK hO 13 (by decide) 0 (xe_arr rfl) rfl hi111 d_Pr_slotOf_111 ?_
      refine lv_ishl hx hb d_Pr_slotOf_112 ?_
      refine lv_ior hx hb d_Pr_slotOf_113 ?_
      refine lv_istore_n (lv' := [(3, .int (x3 ||| ((1 : Int32) <<< ((g 13 x5.toNatClampNeg) &&& 31)))), (0, .ref (ad 1)), (1, .int x1), (2, .int x2), (4, .int x4), (5, .int x5), (6, .int x6)]) hx hb d_Pr_slotOf_114 rfl hl (by decide) rfl (fun ls hl => ?_)
      exact b115 k15 hk15 k24 hk24 g x1 x2 (x3 ||| ((1 : Int32) <<< ((g 13 x5.toNatClampNeg) &&& 31))) x4 x5 _ _ _ (lv_sub hl [1, 2, 3, 0, 4, 5] rfl) hO hT
  have b75 : ∀ (k15 : qa_St → Int32 → Int32 → Int32 → Int32 → qa_Re) (hk15 : ∀ (g : qa_St) (x1 : Int32) (x2 : Int32) (x3 : Int32) (x4 : Int32) (ls : Array Slot) (H : Heap) (locs : List Loc), lv_has ls 7 [(0, .ref (ad 1)), (1, .int x1), (2, .int x2), (3, .int x3), (4, .int x4)] → qa_O D 107 ad (xe_en cI cJ cF ad) A s.heap g H locs → k15 g x1 x2 x3 x4 = some T → W p l e (qa_rm 1 21) s m args below meth c H locs 0 0 Q (F0 m 15 ls [])) (k24 : qa_St → Int32 → Int32 → Int32 → Int32 → Int32 → qa_Re) (hk24 : ∀ (g : qa_St) (x1 : Int32) (x2 : Int32) (x3 : Int32) (x4 : Int32) (x5 : Int32) (ls : Array Slot) (H : Heap) (locs : List Loc), lv_has ls 7 [(0, .ref (ad 1)), (1, .int x1), (2, .int x2), (3, .int x3), (4, .int x4), (5, .int x5)] → qa_O D 107 ad (xe_en cI cJ cF ad) A s.heap g H locs → k24 g x1 x2 x3 x4 x5 = some T → W p l e (qa_rm 1 21) s m args below meth c H locs 0 0 Q (F0 m 24 ls [])), ∀ (g : qa_St) (x1 : Int32) (x2 : Int32) (x3 : Int32) (x4 : Int32) (x5 : Int32) (s0 : Int32) (ls : Array Slot) (H : Heap) (locs : List Loc), lv_has ls 7 [(0, .ref (ad 1)), (1, .int x1), (2, .int x2), (3, .int x3), (4, .int x4), (5, .int x5)] → qa_O D 107 ad (xe_en cI cJ cF ad) A s.heap g H locs → xf_Pr_slotOf_75 k15 k24 g x1 x2 x3 x4 x5 s0 = some T → W p l e (qa_rm 1 21) s m args below meth c H locs 0 0 Q (F0 m 75 ls [.int s0]) := by
    intro k15 hk15 k24 hk24
    intro g x1 x2 x3 x4 x5 s0 ls H locs hl hO hT
    unfold xf_Pr_slotOf_75 at hT
    refine lv_istore (lv' := [(6, .int s0), (0, .ref (ad 1)), (1, .int x1), (2, .int x2), (3, .int x3), (4, .int x4), (5, .int x5)]) hx hb d_Pr_slotOf_75 hl (by decide) rfl (fun ls hl => ?_)
    refine lv_iload hx hb d_Pr_slotOf_77 (lv_at hl 0 rfl) ?_
    refine lv_if_eq (tgt := 98) hx hb d_Pr_slotOf_79 (by decide) (fun h => ?_) (fun h => ?_)
    · have hT := qa_t hT h
      exact b98 k15 hk15 k24 hk24 g x1 x2 x3 x4 x5 s0 _ _ _ (lv_sub hl [1, 2, 3, 4, 5, 6, 0] rfl) hO hT
    · have hT := qa_f hT h
      refine lv_aload_n hx hb d_Pr_slotOf_82 rfl (lv_at hl 1 rfl) ?_
      refine qa_get S hK hO hi_Pr 1 (by decide) rfl rfl 7 (by decide) lf_Pr_29 rfl rfl d_Pr_slotOf_83 ?_
      refine lv_iload hx hb d_Pr_slotOf_86 (lv_at hl 6 rfl) ?_
      obtain ⟨hi88, hT⟩ := qa_c hT
      refine qa_iald (n := 10) S hK hO 13 (by decide) 0 (xe_arr rfl) rfl hi88 d_Pr_slotOf_88 ?_
      refine lv_iload_n hx hb d_Pr_slotOf_89 rfl (lv_at hl 3 rfl) ?_
      refine lv_icmp_ne (tgt := 98) hx hb d_Pr_slotOf_90 (by decide) (fun h => ?_) (fun h => ?_)
      · have hT := qa_f hT h
        exact b98 k15 hk15 k24 hk24 g x1 x2 x3 x4 x5 s0 _ _ _ (lv_sub hl [1, 2, 3, 4, 5, 6, 0] rfl) hO hT
      · have hT := qa_t hT h
        refine lv_iload_n hx hb d_Pr_slotOf_93 rfl (lv_at hl 4 rfl) ?_
        obtain ⟨t94, ht94, hT⟩ := qa_b hT
        refine qa_Si (As := [.int x3]) (rest := []) S hK hN hA hO (xc_In_bitCount l D cI cJ cF cZ ad g x3) ht94 qy_In_bitCount lm_Pr_101 ⟨by decide, by decide⟩ rfl hl.1 rfl (Nat.le_of_ble_eq_true rfl) d_Pr_slotOf_94 (fun H locs hO => ?_)
        exact ret hT hO d_Pr_slotOf_97
  have b74 : ∀ (k15 : qa_St → Int32 → Int32 → Int32 → Int32 → qa_Re) (hk15 : ∀ (g : qa_St) (x1 : Int32) (x2 : Int32) (x3 : Int32) (x4 : Int32) (ls : Array Slot) (H : Heap) (locs : List Loc), lv_has ls 7 [(0, .ref (ad 1)), (1, .int x1), (2, .int x2), (3, .int x3), (4, .int x4)] → qa_O D 107 ad (xe_en cI cJ cF ad) A s.heap g H locs → k15 g x1 x2 x3 x4 = some T → W p l e (qa_rm 1 21) s m args below meth c H locs 0 0 Q (F0 m 15 ls [])) (k24 : qa_St → Int32 → Int32 → Int32 → Int32 → Int32 → qa_Re) (hk24 : ∀ (g : qa_St) (x1 : Int32) (x2 : Int32) (x3 : Int32) (x4 : Int32) (x5 : Int32) (ls : Array Slot) (H : Heap) (locs : List Loc), lv_has ls 7 [(0, .ref (ad 1)), (1, .int x1), (2, .int x2), (3, .int x3), (4, .int x4), (5, .int x5)] → qa_O D 107 ad (xe_en cI cJ cF ad) A s.heap g H locs → k24 g x1 x2 x3 x4 x5 = some T → W p l e (qa_rm 1 21) s m args below meth c H locs 0 0 Q (F0 m 24 ls [])), ∀ (g : qa_St) (x1 : Int32) (x2 : Int32) (x3 : Int32) (x4 : Int32) (x5 : Int32) (ls : Array Slot) (H : Heap) (locs : List Loc), lv_has ls 7 [(0, .ref (ad 1)), (1, .int x1), (2, .int x2), (3, .int x3), (4, .int x4), (5, .int x5)] → qa_O D 107 ad (xe_en cI cJ cF ad) A s.heap g H locs → xf_Pr_slotOf_74 k15 k24 g x1 x2 x3 x4 x5 = some T → W p l e (qa_rm 1 21) s m args below meth c H locs 0 0 Q (F0 m 74 ls []) := by
    intro k15 hk15 k24 hk24
    intro g x1 x2 x3 x4 x5 ls H locs hl hO hT
    unfold xf_Pr_slotOf_74 at hT
    refine lv_iconst (v := 0) hx hb d_Pr_slotOf_74 (by decide) ?_
    exact b75 k15 hk15 k24 hk24 g x1 x2 x3 x4 x5 (0 : Int32) _ _ _ (lv_sub hl [0, 1, 2, 3, 4, 5] rfl) hO hT
  have b24 : ∀ (k15 : qa_St → Int32 → Int32 → Int32 → Int32 → qa_Re) (hk15 : ∀ (g : qa_St) (x1 : Int32) (x2 : Int32) (x3 : Int32) (x4 : Int32) (ls : Array Slot) (H : Heap) (locs : List Loc), lv_has ls 7 [(0, .ref (ad 1)), (1, .int x1), (2, .int x2), (3, .int x3), (4, .int x4)] → qa_O D 107 ad (xe_en cI cJ cF ad) A s.heap g H locs → k15 g x1 x2 x3 x4 = some T → W p l e (qa_rm 1 21) s m args below meth c H locs 0 0 Q (F0 m 15 ls [])), ∀ (n : Nat), ∀ (g : qa_St) (x1 : Int32) (x2 : Int32) (x3 : Int32) (x4 : Int32) (x5 : Int32) (ls : Array Slot) (H : Heap) (locs : List Loc), lv_has ls 7 [(0, .ref (ad 1)), (1, .int x1), (2, .int x2), (3, .int x3), (4, .int x4), (5, .int x5)] → qa_O D 107 ad (xe_en cI cJ cF ad) A s.heap g H locs → xf_Pr_slotOf_24 k15 n g x1 x2 x3 x4 x5 = some T → W p l e (qa_rm 1 21) s m args below meth c H locs 0 0 Q (F0 m 24 ls []) := by
    intro k15 hk15
    intro n
    induction n with
    | zero => intro g x1 x2 x3 x4 x5 ls H locs hl hO hT; rw [xf_Pr_slotOf_24] at hT; cases hT
    | succ n ih =>
      intro g x1 x2 x3 x4 x5 ls H locs hl hO hT
      rw [xf_Pr_slotOf_24] at hT
      refine lv_iload hx hb d_Pr_slotOf_24 (lv_at hl 5 rfl) ?_
      refine lv_aload_n hx hb d_Pr_slotOf_26 rfl (lv_at hl 0 rfl) ?_
      refine qa_get S hK hO hi_Pr 1 (by decide) rfl rfl 1 (by decide) lf_Pr_77 rfl rfl d_Pr_slotOf_27 ?_
      refine lv_icmp_ge (tgt := 121) hx hb d_Pr_slotOf_30 (by decide) (fun h => ?_) (fun h => ?_)
      · have hT := qa_t hT h
        refine lv_iinc (lv' := [(4, .int (x4 + 1)), (0, .ref (ad 1)), (1, .int x1), (2, .int x2), (3, .int x3), (5, .int x5)]) hx hb d_Pr_slotOf_121 hl (k := 4) rfl (qa_o1 _) (by decide) rfl (fun ls hl => ?_)
        refine lv_goto (tgt := 15) hx hb d_Pr_slotOf_124 (by decide) ?_
        exact hk15 g x1 x2 x3 (x4 + 1) _ _ _ (lv_sub hl [1, 2, 3, 4, 0] rfl) hO hT
      · have hT := qa_f hT h
        refine lv_aload_n hx hb d_Pr_slotOf_33 rfl (lv_at hl 0 rfl) ?_
        refine qa_get S hK hO hi_Pr 1 (by decide) rfl rfl 7 (by decide) lf_Pr_29 rfl rfl d_Pr_slotOf_34 ?_
        refine lv_iload hx hb d_Pr_slotOf_37 (lv_at hl 5 rfl) ?_
        obtain ⟨hi39, hT⟩ := qa_c hT
        refine qa_iald (n := 10) S hK hO 13 (by decide) 0 (xe_arr rfl) rfl hi39 d_Pr_slotOf_39 ?_
        refine lv_iconst (v := -1) hx hb d_Pr_slotOf_40 (by decide) ?_
        refine lv_icmp_eq (tgt := 74) hx hb d_Pr_slotOf_41 (by decide) (fun h => ?_) (fun h => ?_)
        · have hT := qa_t hT h
          exact b74 k15 hk15 (xf_Pr_slotOf_24 k15 n) ih g x1 x2 x3 x4 x5 _ _ _ (lv_sub hl [0, 1, 2, 3, 4, 5] rfl) hO hT
        · have hT := qa_f hT h
          refine lv_aload_n hx hb d_Pr_slotOf_44 rfl (lv_at hl 0 rfl) ?_
          refine qa_get S hK hO hi_Pr 1 (by decide) rfl rfl 6 (by decide) lf_Pr_26 rfl rfl d_Pr_slotOf_45 ?_
          refine lv_iload hx hb d_Pr_slotOf_48 (lv_at hl 5 rfl) ?_
          obtain ⟨hi50, hT⟩ := qa_c hT
          refine qa_iald (n := 10) S hK hO 12 (by decide) 0 (xe_arr rfl) rfl hi50 d_Pr_slotOf_50 ?_
          refine lv_iload hx hb d_Pr_slotOf_51 (lv_at hl 4 rfl) ?_
          refine lv_icmp_ne (tgt := 74) hx hb d_Pr_slotOf_53 (by decide) (fun h => ?_) (fun h => ?_)
          · have hT := qa_f hT h
            exact b74 k15 hk15 (xf_Pr_slotOf_24 k15 n) ih g x1 x2 x3 x4 x5 _ _ _ (lv_sub hl [0, 1, 2, 3, 4, 5] rfl) hO hT
          · have hT := qa_t hT h
            refine lv_aload_n hx hb d_Pr_slotOf_56 rfl (lv_at hl 0 rfl) ?_
            refine qa_get S hK hO hi_Pr 1 (by decide) rfl rfl 2 (by decide) lf_Pr_9 rfl rfl d_Pr_slotOf_57 ?_
            refine lv_iload_n hx hb d_Pr_slotOf_60 rfl (lv_at hl 1 rfl) ?_
            obtain ⟨hi61, hT⟩ := qa_c hT
            refine qa_iald (n := 6) S hK hO 2 (by decide) 0 (xe_arr rfl) rfl hi61 d_Pr_slotOf_61 ?_
            refine lv_iload hx hb d_Pr_slotOf_62 (lv_at hl 4 rfl) ?_
            obtain ⟨t64, ht64, hT⟩ := qa_b hT
            refine qa_SNi (As := [.int (g 2 x1.toNatClampNeg), .int x4]) (rest := []) S hK hN hA hO (xc_Cw_has l D cI cJ cF cZ ad g (g 2 x1.toNatClampNeg) x4) ht64 qy_Cw_has ln_Pr_95 ⟨by decide, by decide⟩ rfl hl.1 rfl (Nat.le_of_ble_eq_true rfl) d_Pr_slotOf_64 (fun H locs hO => ?_)
            refine lv_if_eq (tgt := 74) hx hb d_Pr_slotOf_67 (by decide) (fun h => ?_) (fun h => ?_)
            · have hT := qa_t hT h
              exact b74 k15 hk15 (xf_Pr_slotOf_24 k15 n) ih t64.2 x1 x2 x3 x4 x5 _ _ _ (lv_sub hl [0, 1, 2, 3, 4, 5] rfl) hO hT
            · have hT := qa_f hT h
              refine lv_iconst (v := 1) hx hb d_Pr_slotOf_70 (by decide) ?_
              refine lv_goto (tgt := 75) hx hb d_Pr_slotOf_71 (by decide) ?_
              exact b75 k15 hk15 (xf_Pr_slotOf_24 k15 n) ih t64.2 x1 x2 x3 x4 x5 (1 : Int32) _ _ _ (lv_sub hl [0, 1, 2, 3, 4, 5] rfl) hO hT
  have b15 : ∀ (n : Nat), ∀ (g : qa_St) (x1 : Int32) (x2 : Int32) (x3 : Int32) (x4 : Int32) (ls : Array Slot) (H : Heap) (locs : List Loc), lv_has ls 7 [(0, .ref (ad 1)), (1, .int x1), (2, .int x2), (3, .int x3), (4, .int x4)] → qa_O D 107 ad (xe_en cI cJ cF ad) A s.heap g H locs → xf_Pr_slotOf_15 n g x1 x2 x3 x4 = some T → W p l e (qa_rm 1 21) s m args below meth c H locs 0 0 Q (F0 m 15 ls []) := by
    intro n
    induction n with
    | zero => intro g x1 x2 x3 x4 ls H locs hl hO hT; rw [xf_Pr_slotOf_15] at hT; cases hT
    | succ n ih =>
      intro g x1 x2 x3 x4 ls H locs hl hO hT
      rw [xf_Pr_slotOf_15] at hT
      refine lv_iload hx hb d_Pr_slotOf_15 (lv_at hl 4 rfl) ?_
      refine lv_iload_n hx hb d_Pr_slotOf_17 rfl (lv_at hl 1 rfl) ?_
      refine lv_icmp_gt (tgt := 127) hx hb d_Pr_slotOf_18 (by decide) (fun h => ?_) (fun h => ?_)
      · have hT := qa_t hT h
        refine lv_iconst (v := -1) hx hb d_Pr_slotOf_127 (by decide) ?_
        exact ret hT hO d_Pr_slotOf_128
      · have hT := qa_f hT h
        refine lv_iconst (v := 0) hx hb d_Pr_slotOf_21 (by decide) ?_
        refine lv_istore (lv' := [(5, .int (0 : Int32)), (0, .ref (ad 1)), (1, .int x1), (2, .int x2), (3, .int x3), (4, .int x4)]) hx hb d_Pr_slotOf_22 hl (by decide) rfl (fun ls hl => ?_)
        exact b24 (xf_Pr_slotOf_15 n) ih 4096 g x1 x2 x3 x4 (0 : Int32) _ _ _ (lv_sub hl [1, 2, 3, 4, 5, 0] rfl) hO hT
  unfold xf_Pr_slotOf at hT
  refine lv_aload_n hx hb d_Pr_slotOf_0 rfl (lv_at hl 0 rfl) ?_
  refine lv_iload_n hx hb d_Pr_slotOf_1 rfl (lv_at hl 1 rfl) ?_
  obtain ⟨t2, ht2, hT⟩ := qa_b hT
  refine qa_Vi (As := [.int x1]) (rest := []) (r := 1) S hK hN hA hO (xc_Pr_isType l D cI cJ cF cZ ad g x1) ht2 qy_Pr_isType lm_Pr_56 ⟨by decide, by decide⟩ (by decide) rfl rfl rfl rfl hl.1 rfl (Nat.le_of_ble_eq_true rfl) d_Pr_slotOf_2 (fun H locs hO => ?_)
  refine lv_if_ne (tgt := 10) hx hb d_Pr_slotOf_5 (by decide) (fun h => ?_) (fun h => ?_)
  · have hT := qa_f hT h
    refine lv_iconst (v := 0) hx hb d_Pr_slotOf_10 (by decide) ?_
    refine lv_istore_n (lv' := [(3, .int (0 : Int32)), (0, .ref (ad 1)), (1, .int x1), (2, .int x2)]) hx hb d_Pr_slotOf_11 rfl hl (by decide) rfl (fun ls hl => ?_)
    refine lv_iconst (v := 0) hx hb d_Pr_slotOf_12 (by decide) ?_
    refine lv_istore (lv' := [(4, .int (0 : Int32)), (3, .int (0 : Int32)), (0, .ref (ad 1)), (1, .int x1), (2, .int x2)]) hx hb d_Pr_slotOf_13 hl (by decide) rfl (fun ls hl => ?_)
    exact b15 4096 t2.2 x1 x2 (0 : Int32) (0 : Int32) _ _ _ (lv_sub hl [2, 3, 4, 1, 0] rfl) hO hT
  · have hT := qa_t hT h
    refine lv_iconst (v := -1) hx hb d_Pr_slotOf_8 (by decide) ?_
    exact ret hT hO d_Pr_slotOf_9
def xf_Cw_slot (g : qa_St) (x1 : Int32) (x2 : Int32) : qa_Re := ((xf_Pr_slotOf g x1 x2).bind fun t6 => (some (t6.1, t6.2)))
set_option maxHeartbeats 4000000 in
set_option maxRecDepth 100000 in
theorem xc_Cw_slot (l : Launch) (D : va_G) (cI cJ cF cZ : ClassId) (ad : Nat → Nat) (g : qa_St) (x1 : Int32) (x2 : Int32) : qa_Mi l y_Cw_slot (qa_ws y_Cw_slot b_Cw_slot 3 (some .int)) (qa_rm 2 47) D (qa_ty cI cJ cF cZ) 107 ad (xe_en cI cJ cF ad) [.ref (ad 0), .int x1, .int x2] g (xf_Cw_slot g x1 x2) := by
  refine qa_meti (by decide) (Nat.le_of_ble_eq_true rfl) ?_
  intro p e s m args below meth c Q A T S hK hN hA hT ret ls hl hO
  have hx := S.1
  have hb := S.2.1
  have hl : lv_has ls 3 [(0, .ref (ad 0)), (1, .int x1), (2, .int x2)] := hl
  unfold xf_Cw_slot at hT
  refine lv_aload_n hx hb d_Cw_slot_0 rfl (lv_at hl 0 rfl) ?_
  refine qa_get S hK hO hi_Cw 0 (by decide) rfl rfl 0 (by decide) lf_Cw_17 rfl rfl d_Cw_slot_1 ?_
  refine lv_iload_n hx hb d_Cw_slot_4 rfl (lv_at hl 1 rfl) ?_
  refine lv_iload_n hx hb d_Cw_slot_5 rfl (lv_at hl 2 rfl) ?_
  obtain ⟨t6, ht6, hT⟩ := qa_b hT
  refine qa_Vi (As := [.int x1, .int x2]) (rest := []) (r := 1) S hK hN hA hO (xc_Pr_slotOf l D cI cJ cF cZ ad g x1 x2) ht6 qy_Pr_slotOf lm_Cw_96 ⟨by decide, by decide⟩ (by decide) rfl rfl rfl rfl hl.1 rfl (Nat.le_of_ble_eq_true rfl) d_Cw_slot_6 (fun H locs hO => ?_)
  exact ret hT hO d_Cw_slot_9
def xf_Cw_live (g : qa_St) (x1 : Int32) : qa_Re := (if (g 0 4) = 0 then (some ((0 : Int32), g)) else ((xf_Pr_isMethod g x1).bind fun t12 => (if t12.1 = 0 then (some ((0 : Int32), t12.2)) else ((xf_Re_isLive t12.2 x1).bind fun t23 => (if t23.1 = 0 then (some ((0 : Int32), t23.2)) else (some ((1 : Int32), t23.2)))))))
set_option maxHeartbeats 4000000 in
set_option maxRecDepth 100000 in
theorem xc_Cw_live (l : Launch) (D : va_G) (cI cJ cF cZ : ClassId) (ad : Nat → Nat) (g : qa_St) (x1 : Int32) : qa_Mi l y_Cw_live (qa_ws y_Cw_live b_Cw_live 2 (some .boolean)) (qa_rm 2 42) D (qa_ty cI cJ cF cZ) 107 ad (xe_en cI cJ cF ad) [.ref (ad 0), .int x1] g (xf_Cw_live g x1) := by
  refine qa_metz (by decide) (Nat.le_of_ble_eq_true rfl) ?_
  intro p e s m args below meth c Q A T S hK hN hA hT ret ls hl hO
  have hx := S.1
  have hb := S.2.1
  have hl : lv_has ls 2 [(0, .ref (ad 0)), (1, .int x1)] := hl
  unfold xf_Cw_live at hT
  refine lv_aload_n hx hb d_Cw_live_0 rfl (lv_at hl 0 rfl) ?_
  refine qa_get S hK hO hi_Cw 0 (by decide) rfl rfl 4 (by decide) lf_Cw_41 rfl rfl d_Cw_live_1 ?_
  refine lv_if_eq (tgt := 33) hx hb d_Cw_live_4 (by decide) (fun h => ?_) (fun h => ?_)
  · have hT := qa_t hT h
    refine lv_iconst (v := 0) hx hb d_Cw_live_33 (by decide) ?_
    exact ret (by decide) hT hO d_Cw_live_34
  · have hT := qa_f hT h
    refine lv_aload_n hx hb d_Cw_live_7 rfl (lv_at hl 0 rfl) ?_
    refine qa_get S hK hO hi_Cw 0 (by decide) rfl rfl 0 (by decide) lf_Cw_17 rfl rfl d_Cw_live_8 ?_
    refine lv_iload_n hx hb d_Cw_live_11 rfl (lv_at hl 1 rfl) ?_
    obtain ⟨t12, ht12, hT⟩ := qa_b hT
    refine qa_Vi (As := [.int x1]) (rest := []) (r := 1) S hK hN hA hO (xc_Pr_isMethod l D cI cJ cF cZ ad g x1) ht12 qy_Pr_isMethod lm_Cw_99 ⟨by decide, by decide⟩ (by decide) rfl rfl rfl rfl hl.1 rfl (Nat.le_of_ble_eq_true rfl) d_Cw_live_12 (fun H locs hO => ?_)
    refine lv_if_eq (tgt := 33) hx hb d_Cw_live_15 (by decide) (fun h => ?_) (fun h => ?_)
    · have hT := qa_t hT h
      refine lv_iconst (v := 0) hx hb d_Cw_live_33 (by decide) ?_
      exact ret (by decide) hT hO d_Cw_live_34
    · have hT := qa_f hT h
      refine lv_aload_n hx hb d_Cw_live_18 rfl (lv_at hl 0 rfl) ?_
      refine qa_get S hK hO hi_Cw 0 (by decide) rfl rfl 2 (by decide) lf_Cw_30 rfl rfl d_Cw_live_19 ?_
      refine lv_iload_n hx hb d_Cw_live_22 rfl (lv_at hl 1 rfl) ?_
      obtain ⟨t23, ht23, hT⟩ := qa_b hT
      refine qa_Vi (As := [.int x1]) (rest := []) (r := 77) S hK hN hA hO (xc_Re_isLive l D cI cJ cF cZ ad t12.2 x1) ht23 qy_Re_isLive lm_Cw_102 ⟨by decide, by decide⟩ (by decide) rfl rfl rfl rfl hl.1 rfl (Nat.le_of_ble_eq_true rfl) d_Cw_live_23 (fun H locs hO => ?_)
      refine lv_if_eq (tgt := 33) hx hb d_Cw_live_26 (by decide) (fun h => ?_) (fun h => ?_)
      · have hT := qa_t hT h
        refine lv_iconst (v := 0) hx hb d_Cw_live_33 (by decide) ?_
        exact ret (by decide) hT hO d_Cw_live_34
      · have hT := qa_f hT h
        refine lv_iconst (v := 1) hx hb d_Cw_live_29 (by decide) ?_
        refine lv_goto (tgt := 34) hx hb d_Cw_live_30 (by decide) ?_
        exact ret (by decide) hT hO d_Cw_live_34
def xf_Cw_targets (g : qa_St) (x1 : Int32) (x2 : Int32) : qa_Re := ((xf_Cw_live g x1).bind fun t2 => (if t2.1 = 0 then (some ((-1 : Int32), t2.2)) else ((xf_Ch_isReached t2.2 x1 x2).bind fun t14 => (if t14.1 = 0 then (some ((-1 : Int32), t14.2)) else ((xf_Pr_opOf t14.2 x1 x2).bind fun t26 => (if t26.1 = (17 : Int32) then ((xf_Re_targetSet t26.2 x1 x2).bind fun t42 => ((xf_In_bitCount t42.2 t42.1).bind fun t45 => (some (t45.1, t45.2)))) else (some ((-1 : Int32), t26.2))))))))
set_option maxHeartbeats 4000000 in
set_option maxRecDepth 100000 in
theorem xc_Cw_targets (l : Launch) (D : va_G) (cI cJ cF cZ : ClassId) (ad : Nat → Nat) (g : qa_St) (x1 : Int32) (x2 : Int32) : qa_Mi l y_Cw_targets (qa_ws y_Cw_targets b_Cw_targets 3 (some .int)) (qa_rm 4 93) D (qa_ty cI cJ cF cZ) 107 ad (xe_en cI cJ cF ad) [.ref (ad 0), .int x1, .int x2] g (xf_Cw_targets g x1 x2) := by
  refine qa_meti (by decide) (Nat.le_of_ble_eq_true rfl) ?_
  intro p e s m args below meth c Q A T S hK hN hA hT ret ls hl hO
  have hx := S.1
  have hb := S.2.1
  have hl : lv_has ls 3 [(0, .ref (ad 0)), (1, .int x1), (2, .int x2)] := hl
  unfold xf_Cw_targets at hT
  refine lv_aload_n hx hb d_Cw_targets_0 rfl (lv_at hl 0 rfl) ?_
  refine lv_iload_n hx hb d_Cw_targets_1 rfl (lv_at hl 1 rfl) ?_
  obtain ⟨t2, ht2, hT⟩ := qa_b hT
  refine qa_Vi (As := [.int x1]) (rest := []) (r := 0) S hK hN hA hO (xc_Cw_live l D cI cJ cF cZ ad g x1) ht2 qy_Cw_live lm_Cw_105 ⟨by decide, by decide⟩ (by decide) rfl rfl rfl rfl hl.1 rfl (Nat.le_of_ble_eq_true rfl) d_Cw_targets_2 (fun H locs hO => ?_)
  refine lv_if_eq (tgt := 34) hx hb d_Cw_targets_5 (by decide) (fun h => ?_) (fun h => ?_)
  · have hT := qa_t hT h
    refine lv_iconst (v := -1) hx hb d_Cw_targets_34 (by decide) ?_
    exact ret hT hO d_Cw_targets_35
  · have hT := qa_f hT h
    refine lv_aload_n hx hb d_Cw_targets_8 rfl (lv_at hl 0 rfl) ?_
    refine qa_get S hK hO hi_Cw 0 (by decide) rfl rfl 1 (by decide) lf_Cw_21 rfl rfl d_Cw_targets_9 ?_
    refine lv_iload_n hx hb d_Cw_targets_12 rfl (lv_at hl 1 rfl) ?_
    refine lv_iload_n hx hb d_Cw_targets_13 rfl (lv_at hl 2 rfl) ?_
    obtain ⟨t14, ht14, hT⟩ := qa_b hT
    refine qa_Vi (As := [.int x1, .int x2]) (rest := []) (r := 72) S hK hN hA hO (xc_Ch_isReached l D cI cJ cF cZ ad t2.2 x1 x2) ht14 qy_Ch_isReached lm_Cw_108 ⟨by decide, by decide⟩ (by decide) rfl rfl rfl rfl hl.1 rfl (Nat.le_of_ble_eq_true rfl) d_Cw_targets_14 (fun H locs hO => ?_)
    refine lv_if_eq (tgt := 34) hx hb d_Cw_targets_17 (by decide) (fun h => ?_) (fun h => ?_)
    · have hT := qa_t hT h
      refine lv_iconst (v := -1) hx hb d_Cw_targets_34 (by decide) ?_
      exact ret hT hO d_Cw_targets_35
    · have hT := qa_f hT h
      refine lv_aload_n hx hb d_Cw_targets_20 rfl (lv_at hl 0 rfl) ?_
      refine qa_get S hK hO hi_Cw 0 (by decide) rfl rfl 0 (by decide) lf_Cw_17 rfl rfl d_Cw_targets_21 ?_
      refine lv_iload_n hx hb d_Cw_targets_24 rfl (lv_at hl 1 rfl) ?_
      refine lv_iload_n hx hb d_Cw_targets_25 rfl (lv_at hl 2 rfl) ?_
      obtain ⟨t26, ht26, hT⟩ := qa_b hT
      refine qa_Vi (As := [.int x1, .int x2]) (rest := []) (r := 1) S hK hN hA hO (xc_Pr_opOf l D cI cJ cF cZ ad t14.2 x1 x2) ht26 qy_Pr_opOf lm_Cw_111 ⟨by decide, by decide⟩ (by decide) rfl rfl rfl rfl hl.1 rfl (Nat.le_of_ble_eq_true rfl) d_Cw_targets_26 (fun H locs hO => ?_)
      refine lv_bipush (v := 17) hx hb d_Cw_targets_29 (by decide) ?_
      refine lv_icmp_eq (tgt := 36) hx hb d_Cw_targets_31 (by decide) (fun h => ?_) (fun h => ?_)
      · have hT := qa_t hT h
        refine lv_aload_n hx hb d_Cw_targets_36 rfl (lv_at hl 0 rfl) ?_
        refine qa_get S hK hO hi_Cw 0 (by decide) rfl rfl 2 (by decide) lf_Cw_30 rfl rfl d_Cw_targets_37 ?_
        refine lv_iload_n hx hb d_Cw_targets_40 rfl (lv_at hl 1 rfl) ?_
        refine lv_iload_n hx hb d_Cw_targets_41 rfl (lv_at hl 2 rfl) ?_
        obtain ⟨t42, ht42, hT⟩ := qa_b hT
        refine qa_Vi (As := [.int x1, .int x2]) (rest := []) (r := 77) S hK hN hA hO (xc_Re_targetSet l D cI cJ cF cZ ad t26.2 x1 x2) ht42 qy_Re_targetSet lm_Cw_116 ⟨by decide, by decide⟩ (by decide) rfl rfl rfl rfl hl.1 rfl (Nat.le_of_ble_eq_true rfl) d_Cw_targets_42 (fun H locs hO => ?_)
        obtain ⟨t45, ht45, hT⟩ := qa_b hT
        refine qa_Si (As := [.int t42.1]) (rest := []) S hK hN hA hO (xc_In_bitCount l D cI cJ cF cZ ad t42.2 t42.1) ht45 qy_In_bitCount lm_Cw_119 ⟨by decide, by decide⟩ rfl hl.1 rfl (Nat.le_of_ble_eq_true rfl) d_Cw_targets_45 (fun H locs hO => ?_)
        exact ret hT hO d_Cw_targets_48
      · have hT := qa_f hT h
        refine lv_iconst (v := -1) hx hb d_Cw_targets_34 (by decide) ?_
        exact ret hT hO d_Cw_targets_35
def xf_Ma_toss (g : qa_St) (x1 : Int32) : qa_Re := (some ((1 : Int32), (qa_up g 78 12 x1)))
set_option maxHeartbeats 4000000 in
set_option maxRecDepth 100000 in
theorem xc_Ma_toss (l : Launch) (D : va_G) (cI cJ cF cZ : ClassId) (ad : Nat → Nat) (g : qa_St) (x1 : Int32) : qa_Mi l y_Ma_toss (qa_ws y_Ma_toss b_Ma_toss 2 (some .int)) (qa_rm 0 0) D (qa_ty cI cJ cF cZ) 107 ad (xe_en cI cJ cF ad) [.ref (ad 78), .int x1] g (xf_Ma_toss g x1) := by
  refine qa_meti (by decide) (Nat.le_of_ble_eq_true rfl) ?_
  intro p e s m args below meth c Q A T S hK hN hA hT ret ls hl hO
  have hx := S.1
  have hb := S.2.1
  have hl : lv_has ls 2 [(0, .ref (ad 78)), (1, .int x1)] := hl
  unfold xf_Ma_toss at hT
  refine lv_aload_n hx hb d_Ma_toss_0 rfl (lv_at hl 0 rfl) ?_
  refine lv_iload_n hx hb d_Ma_toss_1 rfl (lv_at hl 1 rfl) ?_
  refine qa_put S hK hO hi_Ma t_Ma t_Ma_ok n_Ma 78 (by decide) rfl rfl 12 (by decide) lf_Ma_80 rfl rfl (ty := .int) (by decide +kernel) rfl rfl (Nat.le_of_ble_eq_true rfl) rfl d_Ma_toss_2 (fun H locs hO => ?_)
  refine lv_iconst (v := 1) hx hb d_Ma_toss_5 (by decide) ?_
  exact ret hT hO d_Ma_toss_6
def xf_Fr_beginFrom_8 (r0 : Nat) (r1 : Nat) : Nat → qa_St → Int32 → qa_Re
  | 0, _, _ => none
  | n + 1, g, x3 => (if x3 < 0 then (some (0, g)) else ((xf_Fr_pop g r1).bind fun t15 => ((xf_Fr_setPlace t15.2 r0 x3 t15.1).bind fun t18 => ((xf_Fr_beginFrom_8 r0 r1 n) t18.2 (x3 + -1)))))
def xf_Fr_beginFrom (g : qa_St) (r0 : Nat) (r1 : Nat) (x2 : Int32) : qa_Re := ((xf_Fr_clear g r0).bind fun t1 => (xf_Fr_beginFrom_8 r0 r1 4096 t1.2 (x2 - (1 : Int32))))
set_option maxHeartbeats 4000000 in
set_option maxRecDepth 100000 in
theorem xc_Fr_beginFrom (l : Launch) (D : va_G) (cI cJ cF cZ : ClassId) (ad : Nat → Nat) (g : qa_St) (r0 : Nat) (r1 : Nat) (x2 : Int32) (hf0 : xe_F r0) (hf1 : xe_F r1) : qa_Mv l y_Fr_beginFrom (qa_ws y_Fr_beginFrom b_Fr_beginFrom 4 none) (qa_rm 2 43) D (qa_ty cI cJ cF cZ) 107 ad (xe_en cI cJ cF ad) [.ref (ad r0), .ref (ad r1), .int x2] g (xf_Fr_beginFrom g r0 r1 x2) := by
  refine qa_metv (by decide) (Nat.le_of_ble_eq_true rfl) ?_
  intro p e s m args below meth c Q A T S hK hN hA hT ret ls hl hO
  have hx := S.1
  have hb := S.2.1
  have hl : lv_has ls 4 [(0, .ref (ad r0)), (1, .ref (ad r1)), (2, .int x2)] := hl
  have b8 : ∀ (n : Nat), ∀ (g : qa_St) (x3 : Int32) (ls : Array Slot) (H : Heap) (locs : List Loc), lv_has ls 4 [(0, .ref (ad r0)), (1, .ref (ad r1)), (3, .int x3)] → qa_O D 107 ad (xe_en cI cJ cF ad) A s.heap g H locs → xf_Fr_beginFrom_8 r0 r1 n g x3 = some T → W p l e (qa_rm 2 43) s m args below meth c H locs 0 0 Q (F0 m 8 ls []) := by
    intro n
    induction n with
    | zero => intro g x3 ls H locs hl hO hT; rw [xf_Fr_beginFrom_8] at hT; cases hT
    | succ n ih =>
      intro g x3 ls H locs hl hO hT
      rw [xf_Fr_beginFrom_8] at hT
      refine lv_iload_n hx hb d_Fr_beginFrom_8 rfl (lv_at hl 2 rfl) ?_
      refine lv_if_lt (tgt := 27) hx hb d_Fr_beginFrom_9 (by decide) (fun h => ?_) (fun h => ?_)
      · have hT := qa_t hT h
        exact ret hT hO d_Fr_beginFrom_27
      · have hT := qa_f hT h
        refine lv_aload_n hx hb d_Fr_beginFrom_12 rfl (lv_at hl 0 rfl) ?_
        refine lv_iload_n hx hb d_Fr_beginFrom_13 rfl (lv_at hl 2 rfl) ?_
        refine lv_aload_n hx hb d_Fr_beginFrom_14 rfl (lv_at hl 1 rfl) ?_
        obtain ⟨t15, ht15, hT⟩ := qa_b hT
        refine qa_Vi (As := []) (rest := [.int x3, .ref (ad r0)]) (r := r1) S hK hN hA hO (xc_Fr_pop l D cI cJ cF cZ ad g r1 hf1) ht15 qy_Fr_pop lm_Fr_31 ⟨by decide, by decide⟩ (xe_Flt hf1) (xe_fr hf1 _) rfl rfl rfl hl.1 rfl (Nat.le_of_ble_eq_true rfl) d_Fr_beginFrom_15 (fun H locs hO => ?_)
        obtain ⟨t18, ht18, hT⟩ := qa_b hT
        refine qa_Vv (As := [.int x3, .int t15.1]) (rest := []) (r := r0) S hK hN hA hO (xc_Fr_setPlace l D cI cJ cF cZ ad t15.2 r0 x3 t15.1 hf0) ht18 qy_Fr_setPlace lm_Fr_35 ⟨by decide, by decide⟩ (xe_Flt hf0) (xe_fr hf0 _) rfl rfl rfl hl.1 rfl (Nat.le_of_ble_eq_true rfl) d_Fr_beginFrom_18 (fun H locs hO => ?_)
        refine lv_iinc (lv' := [(3, .int (x3 + -1)), (0, .ref (ad r0)), (1, .ref (ad r1))]) hx hb d_Fr_beginFrom_21 hl (k := 2) rfl (qa_om _) (by decide) rfl (fun ls hl => ?_)
        refine lv_goto (tgt := 8) hx hb d_Fr_beginFrom_24 (by decide) ?_
        exact ih t18.2 (x3 + -1) _ _ _ (lv_sub hl [1, 2, 0] rfl) hO hT
  unfold xf_Fr_beginFrom at hT
  refine lv_aload_n hx hb d_Fr_beginFrom_0 rfl (lv_at hl 0 rfl) ?_
  obtain ⟨t1, ht1, hT⟩ := qa_b hT
  refine qa_Vv (As := []) (rest := []) (r := r0) S hK hN hA hO (xc_Fr_clear l D cI cJ cF cZ ad g r0 hf0) ht1 qy_Fr_clear lm_Fr_28 ⟨by decide, by decide⟩ (xe_Flt hf0) (xe_fr hf0 _) rfl rfl rfl hl.1 rfl (Nat.le_of_ble_eq_true rfl) d_Fr_beginFrom_1 (fun H locs hO => ?_)
  refine lv_iload_n hx hb d_Fr_beginFrom_4 rfl (lv_at hl 2 rfl) ?_
  refine lv_iconst (v := 1) hx hb d_Fr_beginFrom_5 (by decide) ?_
  refine lv_isub hx hb d_Fr_beginFrom_6 ?_
  refine lv_istore_n (lv' := [(3, .int (x2 - (1 : Int32))), (0, .ref (ad r0)), (1, .ref (ad r1)), (2, .int x2)]) hx hb d_Fr_beginFrom_7 rfl hl (by decide) rfl (fun ls hl => ?_)
  exact b8 4096 t1.2 (x2 - (1 : Int32)) _ _ _ (lv_sub hl [1, 2, 0] rfl) hO hT
def xf_Fr_next (g : qa_St) (r0 : Nat) : qa_Re := (some ((g r0 2), g))
set_option maxHeartbeats 4000000 in
set_option maxRecDepth 100000 in
theorem xc_Fr_next (l : Launch) (D : va_G) (cI cJ cF cZ : ClassId) (ad : Nat → Nat) (g : qa_St) (r0 : Nat) (hf0 : xe_F r0) : qa_Mi l y_Fr_next (qa_ws y_Fr_next b_Fr_next 1 (some .int)) (qa_rm 0 0) D (qa_ty cI cJ cF cZ) 107 ad (xe_en cI cJ cF ad) [.ref (ad r0)] g (xf_Fr_next g r0) := by
  refine qa_meti (by decide) (Nat.le_of_ble_eq_true rfl) ?_
  intro p e s m args below meth c Q A T S hK hN hA hT ret ls hl hO
  have hx := S.1
  have hb := S.2.1
  have hl : lv_has ls 1 [(0, .ref (ad r0))] := hl
  unfold xf_Fr_next at hT
  refine lv_aload_n hx hb d_Fr_next_0 rfl (lv_at hl 0 rfl) ?_
  refine qa_get S hK hO hi_Fr r0 (xe_Flt hf0) (xe_fr hf0 _) rfl 2 (by decide) lf_Fr_25 rfl rfl d_Fr_next_1 ?_
  exact ret hT hO d_Fr_next_4
def xf_Fr_setNext (g : qa_St) (r0 : Nat) (x1 : Int32) : qa_Re := (some (0, (qa_up g r0 2 x1)))
set_option maxHeartbeats 4000000 in
set_option maxRecDepth 100000 in
theorem xc_Fr_setNext (l : Launch) (D : va_G) (cI cJ cF cZ : ClassId) (ad : Nat → Nat) (g : qa_St) (r0 : Nat) (x1 : Int32) (hf0 : xe_F r0) : qa_Mv l y_Fr_setNext (qa_ws y_Fr_setNext b_Fr_setNext 2 none) (qa_rm 0 0) D (qa_ty cI cJ cF cZ) 107 ad (xe_en cI cJ cF ad) [.ref (ad r0), .int x1] g (xf_Fr_setNext g r0 x1) := by
  refine qa_metv (by decide) (Nat.le_of_ble_eq_true rfl) ?_
  intro p e s m args below meth c Q A T S hK hN hA hT ret ls hl hO
  have hx := S.1
  have hb := S.2.1
  have hl : lv_has ls 2 [(0, .ref (ad r0)), (1, .int x1)] := hl
  unfold xf_Fr_setNext at hT
  refine lv_aload_n hx hb d_Fr_setNext_0 rfl (lv_at hl 0 rfl) ?_
  refine lv_iload_n hx hb d_Fr_setNext_1 rfl (lv_at hl 1 rfl) ?_
  refine qa_put S hK hO hi_Fr t_Fr t_Fr_ok n_Fr r0 (xe_Flt hf0) (xe_fr hf0 _) rfl 2 (by decide) lf_Fr_25 rfl rfl (ty := .int) (by decide +kernel) rfl rfl (Nat.le_of_ble_eq_true rfl) (by rw [xe_fr hf0]; rfl) d_Fr_setNext_2 (fun H locs hO => ?_)
  exact ret hT hO d_Fr_setNext_5
