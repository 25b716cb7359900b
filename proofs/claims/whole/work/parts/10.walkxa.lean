def xf_Pr_isType (g : qa_St) (x1 : Int32) : qa_Re := (if x1 < 0 then (some ((0 : Int32), g)) else (if (g 1 0) ≤ x1 then (some ((0 : Int32), g)) else (some ((1 : Int32), g))))
set_option maxHeartbeats 4000000 in
set_option maxRecDepth 100000 in
theorem xc_Pr_isType (l : Launch) (D : va_G) (cI cJ cF cZ : ClassId) (ad : Nat → Nat) (g : qa_St) (x1 : Int32) : qa_Mi l y_Pr_isType (qa_ws y_Pr_isType b_Pr_isType 2 (some .boolean)) (qa_rm 0 0) D (qa_ty cI cJ cF cZ) 107 ad (xe_en cI cJ cF ad) [.ref (ad 1), .int x1] g (xf_Pr_isType g x1) := by
  refine qa_metz (by decide) (Nat.le_of_ble_eq_true rfl) ?_
  intro p e s m args below meth c Q A T S hK hN hA hT ret ls hl hO
  have hx := S.1
  have hb := S.2.1
  have hl : lv_has ls 2 [(0, .ref (ad 1)), (1, .int x1)] := hl
  unfold xf_Pr_isType at hT
  refine lv_iload_n hx hb d_Pr_isType_0 rfl (lv_at hl 1 rfl) ?_
  refine lv_if_lt (tgt := 16) hx hb d_Pr_isType_1 (by decide) (fun h => ?_) (fun h => ?_)
  · have hT := qa_t hT h
    refine lv_iconst (v := 0) hx hb d_Pr_isType_16 (by decide) ?_
    exact ret (by decide) hT hO d_Pr_isType_17
  · have hT := qa_f hT h
    refine lv_iload_n hx hb d_Pr_isType_4 rfl (lv_at hl 1 rfl) ?_
    refine lv_aload_n hx hb d_Pr_isType_5 rfl (lv_at hl 0 rfl) ?_
    refine qa_get S hK hO hi_Pr 1 (by decide) rfl rfl 0 (by decide) lf_Pr_60 rfl rfl d_Pr_isType_6 ?_
    refine lv_icmp_ge (tgt := 16) hx hb d_Pr_isType_9 (by decide) (fun h => ?_) (fun h => ?_)
    · have hT := qa_t hT h
      refine lv_iconst (v := 0) hx hb d_Pr_isType_16 (by decide) ?_
      exact ret (by decide) hT hO d_Pr_isType_17
    · have hT := qa_f hT h
      refine lv_iconst (v := 1) hx hb d_Pr_isType_12 (by decide) ?_
      refine lv_goto (tgt := 17) hx hb d_Pr_isType_13 (by decide) ?_
      exact ret (by decide) hT hO d_Pr_isType_17
def xf_Pr_fieldsOf (g : qa_St) (x1 : Int32) : qa_Re := ((xf_Pr_isType g x1).bind fun t2 => (if t2.1 = 0 then (some ((0 : Int32), t2.2)) else (if x1 < 0 ∨ 6 ≤ x1.toNatClampNeg then none else (some ((t2.2 3 x1.toNatClampNeg), t2.2)))))
set_option maxHeartbeats 4000000 in
set_option maxRecDepth 100000 in
theorem xc_Pr_fieldsOf (l : Launch) (D : va_G) (cI cJ cF cZ : ClassId) (ad : Nat → Nat) (g : qa_St) (x1 : Int32) : qa_Mi l y_Pr_fieldsOf (qa_ws y_Pr_fieldsOf b_Pr_fieldsOf 2 (some .int)) (qa_rm 1 21) D (qa_ty cI cJ cF cZ) 107 ad (xe_en cI cJ cF ad) [.ref (ad 1), .int x1] g (xf_Pr_fieldsOf g x1) := by
  refine qa_meti (by decide) (Nat.le_of_ble_eq_true rfl) ?_
  intro p e s m args below meth c Q A T S hK hN hA hT ret ls hl hO
  have hx := S.1
  have hb := S.2.1
  have hl : lv_has ls 2 [(0, .ref (ad 1)), (1, .int x1)] := hl
  unfold xf_Pr_fieldsOf at hT
  refine lv_aload_n hx hb d_Pr_fieldsOf_0 rfl (lv_at hl 0 rfl) ?_
  refine lv_iload_n hx hb d_Pr_fieldsOf_1 rfl (lv_at hl 1 rfl) ?_
  obtain ⟨t2, ht2, hT⟩ := qa_b hT
  refine qa_Vi (As := [.int x1]) (rest := []) (r := 1) S hK hN hA hO (xc_Pr_isType l D cI cJ cF cZ ad g x1) ht2 qy_Pr_isType lm_Pr_56 ⟨by decide, by decide⟩ (by decide) rfl rfl rfl rfl hl.1 rfl (Nat.le_of_ble_eq_true rfl) d_Pr_fieldsOf_2 (fun H locs hO => ?_)
  refine lv_if_eq (tgt := 17) hx hb d_Pr_fieldsOf_5 (by decide) (fun h => ?_) (fun h => ?_)
  · have hT := qa_t hT h
    refine lv_iconst (v := 0) hx hb d_Pr_fieldsOf_17 (by decide) ?_
    exact ret hT hO d_Pr_fieldsOf_18
  · have hT := qa_f hT h
    refine lv_aload_n hx hb d_Pr_fieldsOf_8 rfl (lv_at hl 0 rfl) ?_
    refine qa_get S hK hO hi_Pr 1 (by decide) rfl rfl 3 (by decide) lf_Pr_15 rfl rfl d_Pr_fieldsOf_9 ?_
    refine lv_iload_n hx hb d_Pr_fieldsOf_12 rfl (lv_at hl 1 rfl) ?_
    obtain ⟨hi13, hT⟩ := qa_c hT
    refine qa_iald (n := 6) S hK hO 3 (by decide) 0 (xe_arr rfl) rfl hi13 d_Pr_fieldsOf_13 ?_
    refine lv_goto (tgt := 18) hx hb d_Pr_fieldsOf_14 (by decide) ?_
    exact ret hT hO d_Pr_fieldsOf_18
def xf_Pr_kinOf (g : qa_St) (x1 : Int32) : qa_Re := ((xf_Pr_isType g x1).bind fun t2 => (if t2.1 = 0 then (some ((0 : Int32), t2.2)) else (if x1 < 0 ∨ 6 ≤ x1.toNatClampNeg then none else (some ((t2.2 2 x1.toNatClampNeg), t2.2)))))
set_option maxHeartbeats 4000000 in
set_option maxRecDepth 100000 in
theorem xc_Pr_kinOf (l : Launch) (D : va_G) (cI cJ cF cZ : ClassId) (ad : Nat → Nat) (g : qa_St) (x1 : Int32) : qa_Mi l y_Pr_kinOf (qa_ws y_Pr_kinOf b_Pr_kinOf 2 (some .int)) (qa_rm 1 21) D (qa_ty cI cJ cF cZ) 107 ad (xe_en cI cJ cF ad) [.ref (ad 1), .int x1] g (xf_Pr_kinOf g x1) := by
  refine qa_meti (by decide) (Nat.le_of_ble_eq_true rfl) ?_
  intro p e s m args below meth c Q A T S hK hN hA hT ret ls hl hO
  have hx := S.1
  have hb := S.2.1
  have hl : lv_has ls 2 [(0, .ref (ad 1)), (1, .int x1)] := hl
  unfold xf_Pr_kinOf at hT
  refine lv_aload_n hx hb d_Pr_kinOf_0 rfl (lv_at hl 0 rfl) ?_
  refine lv_iload_n hx hb d_Pr_kinOf_1 rfl (lv_at hl 1 rfl) ?_
  obtain ⟨t2, ht2, hT⟩ := qa_b hT
  refine qa_Vi (As := [.int x1]) (rest := []) (r := 1) S hK hN hA hO (xc_Pr_isType l D cI cJ cF cZ ad g x1) ht2 qy_Pr_isType lm_Pr_56 ⟨by decide, by decide⟩ (by decide) rfl rfl rfl rfl hl.1 rfl (Nat.le_of_ble_eq_true rfl) d_Pr_kinOf_2 (fun H locs hO => ?_)
  refine lv_if_eq (tgt := 17) hx hb d_Pr_kinOf_5 (by decide) (fun h => ?_) (fun h => ?_)
  · have hT := qa_t hT h
    refine lv_iconst (v := 0) hx hb d_Pr_kinOf_17 (by decide) ?_
    exact ret hT hO d_Pr_kinOf_18
  · have hT := qa_f hT h
    refine lv_aload_n hx hb d_Pr_kinOf_8 rfl (lv_at hl 0 rfl) ?_
    refine qa_get S hK hO hi_Pr 1 (by decide) rfl rfl 2 (by decide) lf_Pr_9 rfl rfl d_Pr_kinOf_9 ?_
    refine lv_iload_n hx hb d_Pr_kinOf_12 rfl (lv_at hl 1 rfl) ?_
    obtain ⟨hi13, hT⟩ := qa_c hT
    refine qa_iald (n := 6) S hK hO 2 (by decide) 0 (xe_arr rfl) rfl hi13 d_Pr_kinOf_13 ?_
    refine lv_goto (tgt := 18) hx hb d_Pr_kinOf_14 (by decide) ?_
    exact ret hT hO d_Pr_kinOf_18
def xf_Ar_fill_5 (r0 : Nat) (n0 : Nat) : Nat → qa_St → Int32 → Int32 → Int32 → qa_Re
  | 0, _, _, _, _ => none
  | n + 1, g, x1, x2, x3 => (if x3 ≤ x2 then (some (0, g)) else (if x2 < 0 ∨ n0 ≤ x2.toNatClampNeg then none else ((xf_Ar_fill_5 r0 n0 n) (qa_up g r0 x2.toNatClampNeg x1) x1 (x2 + 1) x3)))
def xf_Ar_fill (g : qa_St) (r0 : Nat) (n0 : Nat) (x1 : Int32) : qa_Re := (xf_Ar_fill_5 r0 n0 4096 g x1 (0 : Int32) (Int32.ofNat n0))
set_option maxHeartbeats 4000000 in
set_option maxRecDepth 100000 in
theorem xc_Ar_fill (l : Launch) (D : va_G) (cI cJ cF cZ : ClassId) (ad : Nat → Nat) (g : qa_St) (r0 : Nat) (n0 : Nat) (x1 : Int32) (hr0 : r0 < 107) (he0 : ∀ w, (xe_en cI cJ cF ad) r0 w = .inl (cI, n0, .inl w)) : qa_Mv l y_Ar_fill (qa_ws y_Ar_fill b_Ar_fill 4 none) (qa_rm 0 0) D (qa_ty cI cJ cF cZ) 107 ad (xe_en cI cJ cF ad) [.ref (ad r0), .int x1] g (xf_Ar_fill g r0 n0 x1) := by
  refine qa_metv (by decide) (Nat.le_of_ble_eq_true rfl) ?_
  intro p e s m args below meth c Q A T S hK hN hA hT ret ls hl hO
  have hx := S.1
  have hb := S.2.1
  have hl : lv_has ls 4 [(0, .ref (ad r0)), (1, .int x1)] := hl
  have b5 : ∀ (n : Nat), ∀ (g : qa_St) (x1 : Int32) (x2 : Int32) (x3 : Int32) (ls : Array Slot) (H : Heap) (locs : List Loc), lv_has ls 4 [(0, .ref (ad r0)), (1, .int x1), (2, .int x2), (3, .int x3)] → qa_O D 107 ad (xe_en cI cJ cF ad) A s.heap g H locs → xf_Ar_fill_5 r0 n0 n g x1 x2 x3 = some T → W p l e (qa_rm 0 0) s m args below meth c H locs 0 0 Q (F0 m 5 ls []) := by
    intro n
    induction n with
    | zero => intro g x1 x2 x3 ls H locs hl hO hT; rw [xf_Ar_fill_5] at hT; cases hT
    | succ n ih =>
      intro g x1 x2 x3 ls H locs hl hO hT
      rw [xf_Ar_fill_5] at hT
      refine lv_iload_n hx hb d_Ar_fill_5 rfl (lv_at hl 2 rfl) ?_
      refine lv_iload_n hx hb d_Ar_fill_6 rfl (lv_at hl 3 rfl) ?_
      refine lv_icmp_ge (tgt := 20) hx hb d_Ar_fill_7 (by decide) (fun h => ?_) (fun h => ?_)
      · have hT := qa_t hT h
        exact ret hT hO d_Ar_fill_20
      · have hT := qa_f hT h
        refine lv_aload_n hx hb d_Ar_fill_10 rfl (lv_at hl 0 rfl) ?_
        refine lv_iload_n hx hb d_Ar_fill_11 rfl (lv_at hl 2 rfl) ?_
        refine lv_iload_n hx hb d_Ar_fill_12 rfl (lv_at hl 1 rfl) ?_
        obtain ⟨hi13, hT⟩ := qa_c hT
        refine qa_iast (n := n0) S hK hO r0 hr0 0 he0 rfl hi13 d_Ar_fill_13 (fun H locs hO => ?_)
        refine lv_iinc (lv' := [(2, .int (x2 + 1)), (0, .ref (ad r0)), (1, .int x1), (3, .int x3)]) hx hb d_Ar_fill_14 hl (k := 2) rfl (qa_o1 _) (by decide) rfl (fun ls hl => ?_)
        refine lv_goto (tgt := 5) hx hb d_Ar_fill_17 (by decide) ?_
        exact ih (qa_up g r0 x2.toNatClampNeg x1) x1 (x2 + 1) x3 _ _ _ (lv_sub hl [1, 2, 0, 3] rfl) hO hT
  unfold xf_Ar_fill at hT
  refine lv_iconst (v := 0) hx hb d_Ar_fill_0 (by decide) ?_
  refine lv_istore_n (lv' := [(2, .int (0 : Int32)), (0, .ref (ad r0)), (1, .int x1)]) hx hb d_Ar_fill_1 rfl hl (by decide) rfl (fun ls hl => ?_)
  refine lv_aload_n hx hb d_Ar_fill_2 rfl (lv_at hl 1 rfl) ?_
  refine qa_alen S hK hO r0 hr0 0 he0 rfl rfl d_Ar_fill_3 ?_
  refine lv_istore_n (lv' := [(3, .int (Int32.ofNat n0)), (2, .int (0 : Int32)), (0, .ref (ad r0)), (1, .int x1)]) hx hb d_Ar_fill_4 rfl hl (by decide) rfl (fun ls hl => ?_)
  exact b5 4096 g x1 (0 : Int32) (Int32.ofNat n0) _ _ _ (lv_sub hl [2, 3, 1, 0] rfl) hO hT
def xf_Pr_addType_83 (g : qa_St) (x1 : Int32) (x2 : Int32) (x4 : Int32) : qa_Re := ((xf_Pr_fieldsOf g x1).bind fun t91 => (if x4 < 0 ∨ 6 ≤ x4.toNatClampNeg then none else (if x4 < 0 ∨ 6 ≤ x4.toNatClampNeg then none else (if x4 < 0 ∨ 6 ≤ x4.toNatClampNeg then none else ((xf_Ar_fill (qa_up (qa_up t91.2 3 x4.toNatClampNeg (t91.1 + x2)) 4 x4.toNatClampNeg (-1 : Int32)) (6 + x4.toNatClampNeg) 4 (-1 : Int32)).bind fun t113 => (some (x4, t113.2)))))))
def xf_Pr_addType_18 (g : qa_St) (x1 : Int32) (x2 : Int32) (s0 : Int32) : qa_Re := (if (6 : Int32) ≤ (g 1 0) then (some ((-1 : Int32), g)) else (if s0 = 0 then (some ((-1 : Int32), g)) else (if x2 < 0 then (some ((-1 : Int32), g)) else ((xf_Pr_fieldsOf g x1).bind fun t41 => (if x2 ≤ ((6 : Int32) - t41.1) then ((xf_Pr_kinOf (qa_up t41.2 1 0 ((t41.2 1 0) + (1 : Int32))) x1).bind fun t78 => (if (t41.2 1 0) < 0 ∨ 6 ≤ (t41.2 1 0).toNatClampNeg then none else (xf_Pr_addType_83 (qa_up t78.2 2 (t41.2 1 0).toNatClampNeg (((1 : Int32) <<< ((t41.2 1 0) &&& 31)) ||| t78.1)) x1 x2 (t41.2 1 0)))) else (some ((-1 : Int32), t41.2)))))))
def xf_Pr_addType_13 (g : qa_St) (x1 : Int32) (x2 : Int32) : qa_Re := (xf_Pr_addType_18 g x1 x2 (1 : Int32))
def xf_Pr_addType (g : qa_St) (x1 : Int32) (x2 : Int32) : qa_Re := (if x1 = (-1 : Int32) then (xf_Pr_addType_13 g x1 x2) else ((xf_Pr_isType g x1).bind fun t7 => (if t7.1 = 0 then (xf_Pr_addType_18 t7.2 x1 x2 (0 : Int32)) else (xf_Pr_addType_13 t7.2 x1 x2))))
set_option maxHeartbeats 4000000 in
set_option maxRecDepth 100000 in
theorem xc_Pr_addType (l : Launch) (D : va_G) (cI cJ cF cZ : ClassId) (ad : Nat → Nat) (g : qa_St) (x1 : Int32) (x2 : Int32) : qa_Mi l y_Pr_addType (qa_ws y_Pr_addType b_Pr_addType 5 (some .int)) (qa_rm 2 42) D (qa_ty cI cJ cF cZ) 107 ad (xe_en cI cJ cF ad) [.ref (ad 1), .int x1, .int x2] g (xf_Pr_addType g x1 x2) := by
  refine qa_meti (by decide) (Nat.le_of_ble_eq_true rfl) ?_
  intro p e s m args below meth c Q A T S hK hN hA hT ret ls hl hO
  have hx := S.1
  have hb := S.2.1
  have hl : lv_has ls 5 [(0, .ref (ad 1)), (1, .int x1), (2, .int x2)] := hl
  have b83 : ∀ (g : qa_St) (x1 : Int32) (x2 : Int32) (x4 : Int32) (ls : Array Slot) (H : Heap) (locs : List Loc), lv_has ls 5 [(0, .ref (ad 1)), (1, .int x1), (2, .int x2), (4, .int x4)] → qa_O D 107 ad (xe_en cI cJ cF ad) A s.heap g H locs → xf_Pr_addType_83 g x1 x2 x4 = some T → W p l e (qa_rm 2 42) s m args below meth c H locs 0 0 Q (F0 m 83 ls []) := by
    intro g x1 x2 x4 ls H locs hl hO hT
    unfold xf_Pr_addType_83 at hT
    refine lv_aload_n hx hb d_Pr_addType_83 rfl (lv_at hl 0 rfl) ?_
    refine qa_get S hK hO hi_Pr 1 (by decide) rfl rfl 3 (by decide) lf_Pr_15 rfl rfl d_Pr_addType_84 ?_
    refine lv_iload hx hb d_Pr_addType_87 (lv_at hl 3 rfl) ?_
    refine lv_aload_n hx hb d_Pr_addType_89 rfl (lv_at hl 0 rfl) ?_
    refine lv_iload_n hx hb d_Pr_addType_90 rfl (lv_at hl 1 rfl) ?_
    obtain ⟨t91, ht91, hT⟩ := qa_b hT
    refine qa_Vi (As := [.int x1]) (rest := [.int x4, .ref (ad 3)]) (r := 1) S hK hN hA hO (xc_Pr_fieldsOf l D cI cJ cF cZ ad g x1) ht91 qy_Pr_fieldsOf lm_Pr_64 ⟨by decide, by decide⟩ (by decide) rfl rfl rfl rfl hl.1 rfl (Nat.le_of_ble_eq_true rfl) d_Pr_addType_91 (fun H locs hO => ?_)
    refine lv_iload_n hx hb d_Pr_addType_94 rfl (lv_at hl 2 rfl) ?_
    refine lv_iadd hx hb d_Pr_addType_95 ?_
    obtain ⟨hi96, hT⟩ := qa_c hT
    refine qa_iast (n := 6) S hK hO 3 (by decide) 0 (xe_arr rfl) rfl hi96 d_Pr_addType_96 (fun H locs hO => ?_)
    refine lv_aload_n hx hb d_Pr_addType_97 rfl (lv_at hl 0 rfl) ?_
    refine qa_get S hK hO hi_Pr 1 (by decide) rfl rfl 4 (by decide) lf_Pr_18 rfl rfl d_Pr_addType_98 ?_
    refine lv_iload hx hb d_Pr_addType_101 (lv_at hl 3 rfl) ?_
    refine lv_iconst (v := -1) hx hb d_Pr_addType_103 (by decide) ?_
    obtain ⟨hi104, hT⟩ := qa_c hT
    refine qa_iast (n := 6) S hK hO 4 (by decide) 0 (xe_arr rfl) rfl hi104 d_Pr_addType_104 (fun H locs hO => ?_)
    refine lv_aload_n hx hb d_Pr_addType_105 rfl (lv_at hl 0 rfl) ?_
    refine qa_get S hK hO hi_Pr 1 (by decide) rfl rfl 5 (by decide) lf_Pr_23 rfl rfl d_Pr_addType_106 ?_
    refine lv_iload hx hb d_Pr_addType_109 (lv_at hl 3 rfl) ?_
    obtain ⟨hi111, hT⟩ := qa_c hT
    refine qa_aald (n := 6) S hK hO 5 (by decide) 1 rfl rfl rfl hi111 rfl d_Pr_addType_111 ?_
    refine lv_iconst (v := -1) hx hb d_Pr_addType_112 (by decide) ?_
    obtain ⟨t113, ht113, hT⟩ := qa_b hT
    refine qa_Sv (As := [.ref (ad (6 + x4.toNatClampNeg)), .int (-1 : Int32)]) (rest := []) S hK hN hA hO (xc_Ar_fill l D cI cJ cF cZ ad (qa_up (qa_up t91.2 3 x4.toNatClampNeg (t91.1 + x2)) 4 x4.toNatClampNeg (-1 : Int32)) (6 + x4.toNatClampNeg) 4 (-1 : Int32) (qa_rowlt hi111 (by decide)) (xe_arr (xr_5 _ (qa_lt hi111)))) ht113 qy_Ar_fill lm_Pr_71 ⟨by decide, by decide⟩ rfl hl.1 rfl (Nat.le_of_ble_eq_true rfl) d_Pr_addType_113 (fun H locs hO => ?_)
    refine lv_iload hx hb d_Pr_addType_116 (lv_at hl 3 rfl) ?_
    exact ret hT hO d_Pr_addType_118
  have b18 : ∀ (g : qa_St) (x1 : Int32) (x2 : Int32) (s0 : Int32) (ls : Array Slot) (H : Heap) (locs : List Loc), lv_has ls 5 [(0, .ref (ad 1)), (1, .int x1), (2, .int x2)] → qa_O D 107 ad (xe_en cI cJ cF ad) A s.heap g H locs → xf_Pr_addType_18 g x1 x2 s0 = some T → W p l e (qa_rm 2 42) s m args below meth c H locs 0 0 Q (F0 m 18 ls [.int s0]) := by
    intro g x1 x2 s0 ls H locs hl hO hT
    unfold xf_Pr_addType_18 at hT
    refine lv_istore_n (lv' := [(3, .int s0), (0, .ref (ad 1)), (1, .int x1), (2, .int x2)]) hx hb d_Pr_addType_18 rfl hl (by decide) rfl (fun ls hl => ?_)
    refine lv_aload_n hx hb d_Pr_addType_19 rfl (lv_at hl 1 rfl) ?_
    refine qa_get S hK hO hi_Pr 1 (by decide) rfl rfl 0 (by decide) lf_Pr_60 rfl rfl d_Pr_addType_20 ?_
    refine lv_bipush (v := 6) hx hb d_Pr_addType_23 (by decide) ?_
    refine lv_icmp_ge (tgt := 48) hx hb d_Pr_addType_25 (by decide) (fun h => ?_) (fun h => ?_)
    · have hT := qa_t hT h
      refine lv_iconst (v := -1) hx hb d_Pr_addType_48 (by decide) ?_
      exact ret hT hO d_Pr_addType_49
    · have hT := qa_f hT h
      refine lv_iload_n hx hb d_Pr_addType_28 rfl (lv_at hl 0 rfl) ?_
      refine lv_if_eq (tgt := 48) hx hb d_Pr_addType_29 (by decide) (fun h => ?_) (fun h => ?_)
      · have hT := qa_t hT h
        refine lv_iconst (v := -1) hx hb d_Pr_addType_48 (by decide) ?_
        exact ret hT hO d_Pr_addType_49
      · have hT := qa_f hT h
        refine lv_iload_n hx hb d_Pr_addType_32 rfl (lv_at hl 3 rfl) ?_
        refine lv_if_lt (tgt := 48) hx hb d_Pr_addType_33 (by decide) (fun h => ?_) (fun h => ?_)
        · have hT := qa_t hT h
          refine lv_iconst (v := -1) hx hb d_Pr_addType_48 (by decide) ?_
          exact ret hT hO d_Pr_addType_49
        · have hT := qa_f hT h
          refine lv_iload_n hx hb d_Pr_addType_36 rfl (lv_at hl 3 rfl) ?_
          refine lv_bipush (v := 6) hx hb d_Pr_addType_37 (by decide) ?_
          refine lv_aload_n hx hb d_Pr_addType_39 rfl (lv_at hl 1 rfl) ?_
          refine lv_iload_n hx hb d_Pr_addType_40 rfl (lv_at hl 2 rfl) ?_
          obtain ⟨t41, ht41, hT⟩ := qa_b hT
          refine qa_Vi (As := [.int x1]) (rest := [.int (6 : Int32), .int x2]) (r := 1) S hK hN hA hO (xc_Pr_fieldsOf l D cI cJ cF cZ ad g x1) ht41 qy_Pr_fieldsOf lm_Pr_64 ⟨by decide, by decide⟩ (by decide) rfl rfl rfl rfl hl.1 rfl (Nat.le_of_ble_eq_true rfl) d_Pr_addType_41 (fun H locs hO => ?_)
          refine lv_isub hx hb d_Pr_addType_44 ?_
          refine lv_icmp_le (tgt := 50) hx hb d_Pr_addType_45 (by decide) (fun h => ?_) (fun h => ?_)
          · have hT := qa_t hT h
            refine lv_aload_n hx hb d_Pr_addType_50 rfl (lv_at hl 1 rfl) ?_
            refine qa_get S hK hO hi_Pr 1 (by decide) rfl rfl 0 (by decide) lf_Pr_60 rfl rfl d_Pr_addType_51 ?_
            refine lv_istore (lv' := [(4, .int (t41.2 1 0)), (3, .int s0), (0, .ref (ad 1)), (1, .int x1), (2, .int x2)]) hx hb d_Pr_addType_54 hl (by decide) rfl (fun ls hl => ?_)
            refine lv_aload_n hx hb d_Pr_addType_56 rfl (lv_at hl 2 rfl) ?_
            refine lv_dup hx hb d_Pr_addType_57 rfl ?_
            refine qa_get S hK hO hi_Pr 1 (by decide) rfl rfl 0 (by decide) lf_Pr_60 rfl rfl d_Pr_addType_58 ?_
            refine lv_iconst (v := 1) hx hb d_Pr_addType_61 (by decide) ?_
            refine lv_iadd hx hb d_Pr_addType_62 ?_
            refine qa_put S hK hO hi_Pr t_Pr t_Pr_ok n_Pr 1 (by decide) rfl rfl 0 (by decide) lf_Pr_60 rfl rfl (ty := .int) (by decide +kernel) rfl rfl (Nat.le_of_ble_eq_true rfl) rfl d_Pr_addType_63 (fun H locs hO => ?_)
            refine lv_aload_n hx hb d_Pr_addType_66 rfl (lv_at hl 2 rfl) ?_
            refine qa_get S hK hO hi_Pr 1 (by decide) rfl rfl 2 (by decide) lf_Pr_9 rfl rfl d_Pr_addType_67 ?_
            refine lv_iload hx hb d_Pr_addType_70 (lv_at hl 0 rfl) ?_
            refine lv_iconst (v := 1) hx hb d_Pr_addType_72 (by decide) ?_
            refine lv_iload hx hb d_Pr_addType_73 (lv_at hl 0 rfl) ?_
            refine lv_ishl hx hb d_Pr_addType_75 ?_
            refine lv_aload_n hx hb d_Pr_addType_76 rfl (lv_at hl 2 rfl) ?_
            refine lv_iload_n hx hb d_Pr_addType_77 rfl (lv_at hl 3 rfl) ?_
            obtain ⟨t78, ht78, hT⟩ := qa_b hT
            refine qa_Vi (As := [.int x1]) (rest := [.int ((1 : Int32) <<< ((t41.2 1 0) &&& 31)), .int (t41.2 1 0), .ref (ad 2)]) (r := 1) S hK hN hA hO (xc_Pr_kinOf l D cI cJ cF cZ ad (qa_up t41.2 1 0 ((t41.2 1 0) + (1 : Int32))) x1) ht78 qy_Pr_kinOf lm_Pr_68 ⟨by decide, by decide⟩ (by decide) rfl rfl rfl rfl hl.1 rfl (Nat.le_of_ble_eq_true rfl) d_Pr_addType_78 (fun H locs hO => ?_)
            refine lv_ior hx hb d_Pr_addType_81 ?_
            obtain ⟨hi82, hT⟩ := qa_c hT
            refine qa_iast (n := 6) S hK hO 2 (by decide) 0 (xe_arr rfl) rfl hi82 d_Pr_addType_82 (fun H locs hO => ?_)
            exact b83 (qa_up t78.2 2 (t41.2 1 0).toNatClampNeg (((1 : Int32) <<< ((t41.2 1 0) &&& 31)) ||| t78.1)) x1 x2 (t41.2 1 0) _ _ _ (lv_sub hl [2, 3, 4, 0] rfl) hO hT
          · have hT := qa_f hT h
            refine lv_iconst (v := -1) hx hb d_Pr_addType_48 (by decide) ?_
            exact ret hT hO d_Pr_addType_49
  have b13 : ∀ (g : qa_St) (x1 : Int32) (x2 : Int32) (ls : Array Slot) (H : Heap) (locs : List Loc), lv_has ls 5 [(0, .ref (ad 1)), (1, .int x1), (2, .int x2)] → qa_O D 107 ad (xe_en cI cJ cF ad) A s.heap g H locs → xf_Pr_addType_13 g x1 x2 = some T → W p l e (qa_rm 2 42) s m args below meth c H locs 0 0 Q (F0 m 13 ls []) := by
    intro g x1 x2 ls H locs hl hO hT
    unfold xf_Pr_addType_13 at hT
    refine lv_iconst (v := 1) hx hb d_Pr_addType_13 (by decide) ?_
    refine lv_goto (tgt := 18) hx hb d_Pr_addType_14 (by decide) ?_
    exact b18 g x1 x2 (1 : Int32) _ _ _ (lv_sub hl [0, 1, 2] rfl) hO hT
  unfold xf_Pr_addType at hT
  refine lv_iload_n hx hb d_Pr_addType_0 rfl (lv_at hl 1 rfl) ?_
  refine lv_iconst (v := -1) hx hb d_Pr_addType_1 (by decide) ?_
  refine lv_icmp_eq (tgt := 13) hx hb d_Pr_addType_2 (by decide) (fun h => ?_) (fun h => ?_)
  · have hT := qa_t hT h
    exact b13 g x1 x2 _ _ _ (lv_sub hl [0, 1, 2] rfl) hO hT
  · have hT := qa_f hT h
    refine lv_aload_n hx hb d_Pr_addType_5 rfl (lv_at hl 0 rfl) ?_
    refine lv_iload_n hx hb d_Pr_addType_6 rfl (lv_at hl 1 rfl) ?_
    obtain ⟨t7, ht7, hT⟩ := qa_b hT
    refine qa_Vi (As := [.int x1]) (rest := []) (r := 1) S hK hN hA hO (xc_Pr_isType l D cI cJ cF cZ ad g x1) ht7 qy_Pr_isType lm_Pr_56 ⟨by decide, by decide⟩ (by decide) rfl rfl rfl rfl hl.1 rfl (Nat.le_of_ble_eq_true rfl) d_Pr_addType_7 (fun H locs hO => ?_)
    refine lv_if_eq (tgt := 17) hx hb d_Pr_addType_10 (by decide) (fun h => ?_) (fun h => ?_)
    · have hT := qa_t hT h
      refine lv_iconst (v := 0) hx hb d_Pr_addType_17 (by decide) ?_
      exact b18 t7.2 x1 x2 (0 : Int32) _ _ _ (lv_sub hl [0, 1, 2] rfl) hO hT
    · have hT := qa_f hT h
      exact b13 t7.2 x1 x2 _ _ _ (lv_sub hl [0, 1, 2] rfl) hO hT
def xf_Cw_reopenIf (g : qa_St) (x1 : Int32) : qa_Re := (if x1 = 0 then (if x1 = 0 ∨ x1 = 1 then some (x1, g) else none) else (if x1 = 0 ∨ x1 = 1 then some (x1, (qa_up (qa_up g 0 4 (0 : Int32)) 0 5 (0 : Int32))) else none))
set_option maxHeartbeats 4000000 in
set_option maxRecDepth 100000 in
theorem xc_Cw_reopenIf (l : Launch) (D : va_G) (cI cJ cF cZ : ClassId) (ad : Nat → Nat) (g : qa_St) (x1 : Int32) : qa_Mi l y_Cw_reopenIf (qa_ws y_Cw_reopenIf b_Cw_reopenIf 2 (some .boolean)) (qa_rm 0 0) D (qa_ty cI cJ cF cZ) 107 ad (xe_en cI cJ cF ad) [.ref (ad 0), .int x1] g (xf_Cw_reopenIf g x1) := by
  refine qa_metz (by decide) (Nat.le_of_ble_eq_true rfl) ?_
  intro p e s m args below meth c Q A T S hK hN hA hT ret ls hl hO
  have hx := S.1
  have hb := S.2.1
  have hl : lv_has ls 2 [(0, .ref (ad 0)), (1, .int x1)] := hl
  unfold xf_Cw_reopenIf at hT
  refine lv_iload_n hx hb d_Cw_reopenIf_0 rfl (lv_at hl 1 rfl) ?_
  refine lv_if_eq (tgt := 14) hx hb d_Cw_reopenIf_1 (by decide) (fun h => ?_) (fun h => ?_)
  · have hT := qa_t hT h
    refine lv_iload_n hx hb d_Cw_reopenIf_14 rfl (lv_at hl 1 rfl) ?_
    obtain ⟨hz, hT⟩ := qa_k hT
    exact ret hz hT hO d_Cw_reopenIf_15
  · have hT := qa_f hT h
    refine lv_aload_n hx hb d_Cw_reopenIf_4 rfl (lv_at hl 0 rfl) ?_
    refine lv_iconst (v := 0) hx hb d_Cw_reopenIf_5 (by decide) ?_
    refine qa_put S hK hO hi_Cw t_Cw t_Cw_ok n_Cw 0 (by decide) rfl rfl 4 (by decide) lf_Cw_41 rfl rfl (ty := .boolean) (by decide +kernel) rfl rfl (Nat.le_of_ble_eq_true rfl) rfl d_Cw_reopenIf_6 (fun H locs hO => ?_)
    refine lv_aload_n hx hb d_Cw_reopenIf_9 rfl (lv_at hl 0 rfl) ?_
    refine lv_iconst (v := 0) hx hb d_Cw_reopenIf_10 (by decide) ?_
    refine qa_put S hK hO hi_Cw t_Cw t_Cw_ok n_Cw 0 (by decide) rfl rfl 5 (by decide) lf_Cw_45 rfl rfl (ty := .boolean) (by decide +kernel) rfl rfl (Nat.le_of_ble_eq_true rfl) rfl d_Cw_reopenIf_11 (fun H locs hO => ?_)
    refine lv_iload_n hx hb d_Cw_reopenIf_14 rfl (lv_at hl 1 rfl) ?_
    obtain ⟨hz, hT⟩ := qa_k hT
    exact ret hz hT hO d_Cw_reopenIf_15
def xf_Cw_reopenUnlessNone_11 (g : qa_St) (x1 : Int32) (s0 : Int32) : qa_Re := ((xf_Cw_reopenIf g s0).bind fun t11 => (some (x1, t11.2)))
def xf_Cw_reopenUnlessNone (g : qa_St) (x1 : Int32) : qa_Re := (if x1 = (-1 : Int32) then (xf_Cw_reopenUnlessNone_11 g x1 (0 : Int32)) else (xf_Cw_reopenUnlessNone_11 g x1 (1 : Int32)))
set_option maxHeartbeats 4000000 in
set_option maxRecDepth 100000 in
theorem xc_Cw_reopenUnlessNone (l : Launch) (D : va_G) (cI cJ cF cZ : ClassId) (ad : Nat → Nat) (g : qa_St) (x1 : Int32) : qa_Mi l y_Cw_reopenUnlessNone (qa_ws y_Cw_reopenUnlessNone b_Cw_reopenUnlessNone 2 (some .int)) (qa_rm 1 21) D (qa_ty cI cJ cF cZ) 107 ad (xe_en cI cJ cF ad) [.ref (ad 0), .int x1] g (xf_Cw_reopenUnlessNone g x1) := by
  refine qa_meti (by decide) (Nat.le_of_ble_eq_true rfl) ?_
  intro p e s m args below meth c Q A T S hK hN hA hT ret ls hl hO
  have hx := S.1
  have hb := S.2.1
  have hl : lv_has ls 2 [(0, .ref (ad 0)), (1, .int x1)] := hl
  have b11 : ∀ (g : qa_St) (x1 : Int32) (s0 : Int32) (ls : Array Slot) (H : Heap) (locs : List Loc), lv_has ls 2 [(1, .int x1)] → qa_O D 107 ad (xe_en cI cJ cF ad) A s.heap g H locs → xf_Cw_reopenUnlessNone_11 g x1 s0 = some T → W p l e (qa_rm 1 21) s m args below meth c H locs 0 0 Q (F0 m 11 ls [.int s0, .ref (ad 0)]) := by
    intro g x1 s0 ls H locs hl hO hT
    unfold xf_Cw_reopenUnlessNone_11 at hT
    obtain ⟨t11, ht11, hT⟩ := qa_b hT
    refine qa_Vi (As := [.int s0]) (rest := []) (r := 0) S hK hN hA hO (xc_Cw_reopenIf l D cI cJ cF cZ ad g s0) ht11 qy_Cw_reopenIf lm_Cw_64 ⟨by decide, by decide⟩ (by decide) rfl rfl rfl rfl hl.1 rfl (Nat.le_of_ble_eq_true rfl) d_Cw_reopenUnlessNone_11 (fun H locs hO => ?_)
    refine lv_pop hx hb d_Cw_reopenUnlessNone_14 rfl ?_
    refine lv_iload_n hx hb d_Cw_reopenUnlessNone_15 rfl (lv_at hl 0 rfl) ?_
    exact ret hT hO d_Cw_reopenUnlessNone_16
  unfold xf_Cw_reopenUnlessNone at hT
  refine lv_aload_n hx hb d_Cw_reopenUnlessNone_0 rfl (lv_at hl 0 rfl) ?_
  refine lv_iload_n hx hb d_Cw_reopenUnlessNone_1 rfl (lv_at hl 1 rfl) ?_
  refine lv_iconst (v := -1) hx hb d_Cw_reopenUnlessNone_2 (by decide) ?_
  refine lv_icmp_eq (tgt := 10) hx hb d_Cw_reopenUnlessNone_3 (by decide) (fun h => ?_) (fun h => ?_)
  · have hT := qa_t hT h
    refine lv_iconst (v := 0) hx hb d_Cw_reopenUnlessNone_10 (by decide) ?_
    exact b11 g x1 (0 : Int32) _ _ _ (lv_sub hl [1] rfl) hO hT
  · have hT := qa_f hT h
    refine lv_iconst (v := 1) hx hb d_Cw_reopenUnlessNone_6 (by decide) ?_
    refine lv_goto (tgt := 11) hx hb d_Cw_reopenUnlessNone_7 (by decide) ?_
    exact b11 g x1 (1 : Int32) _ _ _ (lv_sub hl [1] rfl) hO hT
def xf_Cw_type (g : qa_St) (x1 : Int32) (x2 : Int32) : qa_Re := ((xf_Pr_addType g x1 x2).bind fun t7 => ((xf_Cw_reopenUnlessNone t7.2 t7.1).bind fun t10 => (some (t10.1, t10.2))))
set_option maxHeartbeats 4000000 in
set_option maxRecDepth 100000 in
theorem xc_Cw_type (l : Launch) (D : va_G) (cI cJ cF cZ : ClassId) (ad : Nat → Nat) (g : qa_St) (x1 : Int32) (x2 : Int32) : qa_Mi l y_Cw_type (qa_ws y_Cw_type b_Cw_type 3 (some .int)) (qa_rm 3 66) D (qa_ty cI cJ cF cZ) 107 ad (xe_en cI cJ cF ad) [.ref (ad 0), .int x1, .int x2] g (xf_Cw_type g x1 x2) := by
  refine qa_meti (by decide) (Nat.le_of_ble_eq_true rfl) ?_
  intro p e s m args below meth c Q A T S hK hN hA hT ret ls hl hO
  have hx := S.1
  have hb := S.2.1
  have hl : lv_has ls 3 [(0, .ref (ad 0)), (1, .int x1), (2, .int x2)] := hl
  unfold xf_Cw_type at hT
  refine lv_aload_n hx hb d_Cw_type_0 rfl (lv_at hl 0 rfl) ?_
  refine lv_aload_n hx hb d_Cw_type_1 rfl (lv_at hl 0 rfl) ?_
  refine qa_get S hK hO hi_Cw 0 (by decide) rfl rfl 0 (by decide) lf_Cw_17 rfl rfl d_Cw_type_2 ?_
  refine lv_iload_n hx hb d_Cw_type_5 rfl (lv_at hl 1 rfl) ?_
  refine lv_iload_n hx hb d_Cw_type_6 rfl (lv_at hl 2 rfl) ?_
  obtain ⟨t7, ht7, hT⟩ := qa_b hT
  refine qa_Vi (As := [.int x1, .int x2]) (rest := [.ref (ad 0)]) (r := 1) S hK hN hA hO (xc_Pr_addType l D cI cJ cF cZ ad g x1 x2) ht7 qy_Pr_addType lm_Cw_48 ⟨by decide, by decide⟩ (by decide) rfl rfl rfl rfl hl.1 rfl (Nat.le_of_ble_eq_true rfl) d_Cw_type_7 (fun H locs hO => ?_)
  obtain ⟨t10, ht10, hT⟩ := qa_b hT
  refine qa_Vi (As := [.int t7.1]) (rest := []) (r := 0) S hK hN hA hO (xc_Cw_reopenUnlessNone l D cI cJ cF cZ ad t7.2 t7.1) ht10 qy_Cw_reopenUnlessNone lm_Cw_52 ⟨by decide, by decide⟩ (by decide) rfl rfl rfl rfl hl.1 rfl (Nat.le_of_ble_eq_true rfl) d_Cw_type_10 (fun H locs hO => ?_)
  exact ret hT hO d_Cw_type_13
def xf_Cw_within (g : qa_St) (x0 : Int32) (x1 : Int32) : qa_Re := (if x0 < 0 then (some ((0 : Int32), g)) else (if x1 ≤ x0 then (some ((0 : Int32), g)) else (some ((1 : Int32), g))))
set_option maxHeartbeats 4000000 in
set_option maxRecDepth 100000 in
theorem xc_Cw_within (l : Launch) (D : va_G) (cI cJ cF cZ : ClassId) (ad : Nat → Nat) (g : qa_St) (x0 : Int32) (x1 : Int32) : qa_Mi l y_Cw_within (qa_ws y_Cw_within b_Cw_within 2 (some .boolean)) (qa_rm 0 0) D (qa_ty cI cJ cF cZ) 107 ad (xe_en cI cJ cF ad) [.int x0, .int x1] g (xf_Cw_within g x0 x1) := by
  refine qa_metz (by decide) (Nat.le_of_ble_eq_true rfl) ?_
  intro p e s m args below meth c Q A T S hK hN hA hT ret ls hl hO
  have hx := S.1
  have hb := S.2.1
  have hl : lv_has ls 2 [(0, .int x0), (1, .int x1)] := hl
  unfold xf_Cw_within at hT
  refine lv_iload_n hx hb d_Cw_within_0 rfl (lv_at hl 0 rfl) ?_
  refine lv_if_lt (tgt := 13) hx hb d_Cw_within_1 (by decide) (fun h => ?_) (fun h => ?_)
  · have hT := qa_t hT h
    refine lv_iconst (v := 0) hx hb d_Cw_within_13 (by decide) ?_
    exact ret (by decide) hT hO d_Cw_within_14
  · have hT := qa_f hT h
    refine lv_iload_n hx hb d_Cw_within_4 rfl (lv_at hl 0 rfl) ?_
    refine lv_iload_n hx hb d_Cw_within_5 rfl (lv_at hl 1 rfl) ?_
    refine lv_icmp_ge (tgt := 13) hx hb d_Cw_within_6 (by decide) (fun h => ?_) (fun h => ?_)
    · have hT := qa_t hT h
      refine lv_iconst (v := 0) hx hb d_Cw_within_13 (by decide) ?_
      exact ret (by decide) hT hO d_Cw_within_14
    · have hT := qa_f hT h
      refine lv_iconst (v := 1) hx hb d_Cw_within_9 (by decide) ?_
      refine lv_goto (tgt := 14) hx hb d_Cw_within_10 (by decide) ?_
      exact ret (by decide) hT hO d_Cw_within_14
def xf_Pr_addMethod_126 (g : qa_St) (x1 : Int32) (x2 : Int32) (x4 : Int32) (x6 : Int32) (s0 : Int32) (s1 : Int32) : qa_Re := (if s1 < 0 ∨ 10 ≤ s1.toNatClampNeg then none else (if x4 = 0 then (if x1 < 0 ∨ 6 ≤ x1.toNatClampNeg then none else (if x2 < 0 ∨ 4 ≤ x2.toNatClampNeg then none else (some (x6, (qa_up (qa_up g 14 s1.toNatClampNeg s0) (6 + x1.toNatClampNeg) x2.toNatClampNeg x6))))) else (some (x6, (qa_up g 14 s1.toNatClampNeg s0)))))
def xf_Pr_addMethod_110 (g : qa_St) (x1 : Int32) (x2 : Int32) (x3 : Int32) (x4 : Int32) (x6 : Int32) : qa_Re := (if x4 = 0 then (xf_Pr_addMethod_126 g x1 x2 x4 x6 (2 : Int32) x6) else (xf_Pr_addMethod_126 g x1 x2 x4 x6 x3 x6))
def xf_Pr_addMethod_69 (g : qa_St) (x1 : Int32) (x2 : Int32) (x3 : Int32) (x4 : Int32) (s0 : Int32) : qa_Re := (if s0 = 0 then (some ((-1 : Int32), g)) else (if (g 1 1) < 0 ∨ 10 ≤ (g 1 1).toNatClampNeg then none else (if (g 1 1) < 0 ∨ 10 ≤ (g 1 1).toNatClampNeg then none else (xf_Pr_addMethod_110 (qa_up (qa_up (qa_up g 1 1 ((g 1 1) + (1 : Int32))) 12 (g 1 1).toNatClampNeg x1) 13 (g 1 1).toNatClampNeg x2) x1 x2 x3 x4 (g 1 1)))))
def xf_Pr_addMethod_68 (g : qa_St) (x1 : Int32) (x2 : Int32) (x3 : Int32) (x4 : Int32) : qa_Re := (xf_Pr_addMethod_69 g x1 x2 x3 x4 (0 : Int32))
def xf_Pr_addMethod_29 (g : qa_St) (x1 : Int32) (x2 : Int32) (x3 : Int32) (s0 : Int32) : qa_Re := (if s0 = 0 then ((xf_Cw_within g x2 (4 : Int32)).bind fun t46 => (if t46.1 = 0 then (xf_Pr_addMethod_68 t46.2 x1 x2 x3 s0) else (if x1 < 0 ∨ 6 ≤ x1.toNatClampNeg then none else (if x2 < 0 ∨ 4 ≤ x2.toNatClampNeg then none else (if (t46.2 (6 + x1.toNatClampNeg) x2.toNatClampNeg) = (-1 : Int32) then (xf_Pr_addMethod_69 t46.2 x1 x2 x3 s0 (1 : Int32)) else (xf_Pr_addMethod_68 t46.2 x1 x2 x3 s0)))))) else ((xf_Cw_within g x3 (3 : Int32)).bind fun t38 => (xf_Pr_addMethod_69 t38.2 x1 x2 x3 s0 t38.1)))
def xf_Pr_addMethod (g : qa_St) (x1 : Int32) (x2 : Int32) (x3 : Int32) : qa_Re := (if (10 : Int32) ≤ (g 1 1) then (some ((-1 : Int32), g)) else ((xf_Pr_isType g x1).bind fun t11 => (if t11.1 = 0 then (some ((-1 : Int32), t11.2)) else (if x2 = (-1 : Int32) then (xf_Pr_addMethod_29 t11.2 x1 x2 x3 (1 : Int32)) else (xf_Pr_addMethod_29 t11.2 x1 x2 x3 (0 : Int32))))))
set_option maxHeartbeats 4000000 in
set_option maxRecDepth 100000 in
theorem xc_Pr_addMethod (l : Launch) (D : va_G) (cI cJ cF cZ : ClassId) (ad : Nat → Nat) (g : qa_St) (x1 : Int32) (x2 : Int32) (x3 : Int32) : qa_Mi l y_Pr_addMethod (qa_ws y_Pr_addMethod b_Pr_addMethod 7 (some .int)) (qa_rm 1 21) D (qa_ty cI cJ cF cZ) 107 ad (xe_en cI cJ cF ad) [.ref (ad 1), .int x1, .int x2, .int x3] g (xf_Pr_addMethod g x1 x2 x3) := by
  refine qa_meti (by decide) (Nat.le_of_ble_eq_true rfl) ?_
  intro p e s m args below meth c Q A T S hK hN hA hT ret ls hl hO
  have hx := S.1
  have hb := S.2.1
  have hl : lv_has ls 7 [(0, .ref (ad 1)), (1, .int x1), (2, .int x2), (3, .int x3)] := hl
  have b126 : ∀ (g : qa_St) (x1 : Int32) (x2 : Int32) (x4 : Int32) (x6 : Int32) (s0 : Int32) (s1 : Int32) (ls : Array Slot) (H : Heap) (locs : List Loc), lv_has ls 7 [(0, .ref (ad 1)), (1, .int x1), (2, .int x2), (4, .int x4), (6, .int x6)] → qa_O D 107 ad (xe_en cI cJ cF ad) A s.heap g H locs → xf_Pr_addMethod_126 g x1 x2 x4 x6 s0 s1 = some T → W p l e (qa_rm 1 21) s m args below meth c H locs 0 0 Q (F0 m 126 ls [.int s0, .int s1, .ref (ad 14)]) := by
    intro g x1 x2 x4 x6 s0 s1 ls H locs hl hO hT
    unfold xf_Pr_addMethod_126 at hT
    obtain ⟨hi126, hT⟩ := qa_c hT
    refine qa_iast (n := 10) S hK hO 14 (by decide) 0 (xe_arr rfl) rfl hi126 d_Pr_addMethod_126 (fun H locs hO => ?_)
    refine lv_iload hx hb d_Pr_addMethod_127 (lv_at hl 3 rfl) ?_
    refine lv_if_ne (tgt := 142) hx hb d_Pr_addMethod_129 (by decide) (fun h => ?_) (fun h => ?_)
    · have hT := qa_f hT h
      refine lv_iload hx hb d_Pr_addMethod_142 (lv_at hl 4 rfl) ?_
      exact ret hT hO d_Pr_addMethod_144
    · have hT := qa_t hT h
      refine lv_aload_n hx hb d_Pr_addMethod_132 rfl (lv_at hl 0 rfl) ?_
      refine qa_get S hK hO hi_Pr 1 (by decide) rfl rfl 5 (by decide) lf_Pr_23 rfl rfl d_Pr_addMethod_133 ?_
      refine lv_iload_n hx hb d_Pr_addMethod_136 rfl (lv_at hl 1 rfl) ?_
      obtain ⟨hi137, hT⟩ := qa_c hT
      refine qa_aald (n := 6) S hK hO 5 (by decide) 1 rfl rfl rfl hi137 rfl d_Pr_addMethod_137 ?_
      refine lv_iload_n hx hb d_Pr_addMethod_138 rfl (lv_at hl 2 rfl) ?_
      refine lv_iload hx hb d_Pr_addMethod_139 (lv_at hl 4 rfl) ?_
      obtain ⟨hi141, hT⟩ := qa_c hT
      refine qa_iast (n := 4) S hK hO (6 + x1.toNatClampNeg) (qa_rowlt hi137 (by decide)) 0 (xe_arr (xr_5 _ (qa_lt hi137))) rfl hi141 d_Pr_addMethod_141 (fun H locs hO => ?_)
      refine lv_iload hx hb d_Pr_addMethod_142 (lv_at hl 4 rfl) ?_
      exact ret hT hO d_Pr_addMethod_144
  have b110 : ∀ (g : qa_St) (x1 : Int32) (x2 : Int32) (x3 : Int32) (x4 : Int32) (x6 : Int32) (ls : Array Slot) (H : Heap) (locs : List Loc), lv_has ls 7 [(0, .ref (ad 1)), (1, .int x1), (2, .int x2), (3, .int x3), (4, .int x4), (6, .int x6)] → qa_O D 107 ad (xe_en cI cJ cF ad) A s.heap g H locs → xf_Pr_addMethod_110 g x1 x2 x3 x4 x6 = some T → W p l e (qa_rm 1 21) s m args below meth c H locs 0 0 Q (F0 m 110 ls []) := by
    intro g x1 x2 x3 x4 x6 ls H locs hl hO hT
    unfold xf_Pr_addMethod_110 at hT
    refine lv_aload_n hx hb d_Pr_addMethod_110 rfl (lv_at hl 0 rfl) ?_
    refine qa_get S hK hO hi_Pr 1 (by decide) rfl rfl 8 (by decide) lf_Pr_32 rfl rfl d_Pr_addMethod_111 ?_
    refine lv_iload hx hb d_Pr_addMethod_114 (lv_at hl 5 rfl) ?_
    refine lv_iload hx hb d_Pr_addMethod_116 (lv_at hl 4 rfl) ?_
    refine lv_if_eq (tgt := 125) hx hb d_Pr_addMethod_118 (by decide) (fun h => ?_) (fun h => ?_)
    · have hT := qa_t hT h
      refine lv_iconst (v := 2) hx hb d_Pr_addMethod_125 (by decide) ?_
      exact b126 g x1 x2 x4 x6 (2 : Int32) x6 _ _ _ (lv_sub hl [0, 1, 2, 4, 5] rfl) hO hT
    · have hT := qa_f hT h
      refine lv_iload_n hx hb d_Pr_addMethod_121 rfl (lv_at hl 3 rfl) ?_
      refine lv_goto (tgt := 126) hx hb d_Pr_addMethod_122 (by decide) ?_
      exact b126 g x1 x2 x4 x6 x3 x6 _ _ _ (lv_sub hl [0, 1, 2, 4, 5] rfl) hO hT
  have b69 : ∀ (g : qa_St) (x1 : Int32) (x2 : Int32) (x3 : Int32) (x4 : Int32) (s0 : Int32) (ls : Array Slot) (H : Heap) (locs : List Loc), lv_has ls 7 [(0, .ref (ad 1)), (1, .int x1), (2, .int x2), (3, .int x3), (4, .int x4)] → qa_O D 107 ad (xe_en cI cJ cF ad) A s.heap g H locs → xf_Pr_addMethod_69 g x1 x2 x3 x4 s0 = some T → W p l e (qa_rm 1 21) s m args below meth c H locs 0 0 Q (F0 m 69 ls [.int s0]) := by
    intro g x1 x2 x3 x4 s0 ls H locs hl hO hT
    unfold xf_Pr_addMethod_69 at hT
    refine lv_istore (lv' := [(5, .int s0), (0, .ref (ad 1)), (1, .int x1), (2, .int x2), (3, .int x3), (4, .int x4)]) hx hb d_Pr_addMethod_69 hl (by decide) rfl (fun ls hl => ?_)
    refine lv_iload hx hb d_Pr_addMethod_71 (lv_at hl 0 rfl) ?_
    refine lv_if_ne (tgt := 78) hx hb d_Pr_addMethod_73 (by decide) (fun h => ?_) (fun h => ?_)
    · have hT := qa_f hT h
      refine lv_aload_n hx hb d_Pr_addMethod_78 rfl (lv_at hl 1 rfl) ?_
      refine qa_get S hK hO hi_Pr 1 (by decide) rfl rfl 1 (by decide) lf_Pr_77 rfl rfl d_Pr_addMethod_79 ?_
      refine lv_istore (lv' := [(6, .int (g 1 1)), (5, .int s0), (0, .ref (ad 1)), (1, .int x1), (2, .int x2), (3, .int x3), (4, .int x4)]) hx hb d_Pr_addMethod_82 hl (by decide) rfl (fun ls hl => ?_)
      refine lv_aload_n hx hb d_Pr_addMethod_84 rfl (lv_at hl 2 rfl) ?_
      refine lv_dup hx hb d_Pr_addMethod_85 rfl ?_
      refine qa_get S hK hO hi_Pr 1 (by decide) rfl rfl 1 (by decide) lf_Pr_77 rfl rfl d_Pr_addMethod_86 ?_
      refine lv_iconst (v := 1) hx hb d_Pr_addMethod_89 (by decide) ?_
      refine lv_iadd hx hb d_Pr_addMethod_90 ?_
      refine qa_put S hK hO hi_Pr t_Pr t_Pr_ok n_Pr 1 (by decide) rfl rfl 1 (by decide) lf_Pr_77 rfl rfl (ty := .int) (by decide +kernel) rfl rfl (Nat.le_of_ble_eq_true rfl) rfl d_Pr_addMethod_91 (fun H locs hO => ?_)
      refine lv_aload_n hx hb d_Pr_addMethod_94 rfl (lv_at hl 2 rfl) ?_
      refine qa_get S hK hO hi_Pr 1 (by decide) rfl rfl 6 (by decide) lf_Pr_26 rfl rfl d_Pr_addMethod_95 ?_
      refine lv_iload hx hb d_Pr_addMethod_98 (lv_at hl 0 rfl) ?_
      refine lv_iload_n hx hb d_Pr_addMethod_100 rfl (lv_at hl 3 rfl) ?_
      obtain ⟨hi101, hT⟩ := qa_c hT
      refine qa_iast (n := 10) S hK hO 12 (by decide) 0 (xe_arr rfl) rfl hi101 d_Pr_addMethod_101 (fun H locs hO => ?_)
      refine lv_aload_n hx hb d_Pr_addMethod_102 rfl (lv_at hl 2 rfl) ?_
      refine qa_get S hK hO hi_Pr 1 (by decide) rfl rfl 7 (by decide) lf_Pr_29 rfl rfl d_Pr_addMethod_103 ?_
      refine lv_iload hx hb d_Pr_addMethod_106 (lv_at hl 0 rfl) ?_
      refine lv_iload_n hx hb d_Pr_addMethod_108 rfl (lv_at hl 4 rfl) ?_
      obtain ⟨hi109, hT⟩ := qa_c hT
      refine qa_iast (n := 10) S hK hO 13 (by decide) 0 (xe_arr rfl) rfl hi109 d_Pr_addMethod_109 (fun H locs hO => ?_)
      exact b110 (qa_up (qa_up (qa_up g 1 1 ((g 1 1) + (1 : Int32))) 12 (g 1 1).toNatClampNeg x1) 13 (g 1 1).toNatClampNeg x2) x1 x2 x3 x4 (g 1 1) _ _ _ (lv_sub hl [2, 3, 4, 5, 6, 0] rfl) hO hT
    · have hT := qa_t hT h
      refine lv_iconst (v := -1) hx hb d_Pr_addMethod_76 (by decide) ?_
      exact ret hT hO d_Pr_addMethod_77
  have b68 : ∀ (g : qa_St) (x1 : Int32) (x2 : Int32) (x3 : Int32) (x4 : Int32) (ls : Array Slot) (H : Heap) (locs : List Loc), lv_has ls 7 [(0, .ref (ad 1)), (1, .int x1), (2, .int x2), (3, .int x3), (4, .int x4)] → qa_O D 107 ad (xe_en cI cJ cF ad) A s.heap g H locs → xf_Pr_addMethod_68 g x1 x2 x3 x4 = some T → W p l e (qa_rm 1 21) s m args below meth c H locs 0 0 Q (F0 m 68 ls []) := by
    intro g x1 x2 x3 x4 ls H locs hl hO hT
    unfold xf_Pr_addMethod_68 at hT
    refine lv_iconst (v := 0) hx hb d_Pr_addMethod_68 (by decide) ?_
    exact b69 g x1 x2 x3 x4 (0 : Int32) _ _ _ (lv_sub hl [0, 1, 2, 3, 4] rfl) hO hT
  have b29 : ∀ (g : qa_St) (x1 : Int32) (x2 : Int32) (x3 : Int32) (s0 : Int32) (ls : Array Slot) (H : Heap) (locs : List Loc), lv_has ls 7 [(0, .ref (ad 1)), (1, .int x1), (2, .int x2), (3, .int x3)] → qa_O D 107 ad (xe_en cI cJ cF ad) A s.heap g H locs → xf_Pr_addMethod_29 g x1 x2 x3 s0 = some T → W p l e (qa_rm 1 21) s m args below meth c H locs 0 0 Q (F0 m 29 ls [.int s0]) := by
    intro g x1 x2 x3 s0 ls H locs hl hO hT
    unfold xf_Pr_addMethod_29 at hT
    refine lv_istore (lv' := [(4, .int s0), (0, .ref (ad 1)), (1, .int x1), (2, .int x2), (3, .int x3)]) hx hb d_Pr_addMethod_29 hl (by decide) rfl (fun ls hl => ?_)
    refine lv_iload hx hb d_Pr_addMethod_31 (lv_at hl 0 rfl) ?_
    refine lv_if_eq (tgt := 44) hx hb d_Pr_addMethod_33 (by decide) (fun h => ?_) (fun h => ?_)
    · have hT := qa_t hT h
      refine lv_iload_n hx hb d_Pr_addMethod_44 rfl (lv_at hl 3 rfl) ?_
      refine lv_iconst (v := 4) hx hb d_Pr_addMethod_45 (by decide) ?_
      obtain ⟨t46, ht46, hT⟩ := qa_b hT
      refine qa_SNi (As := [.int x2, .int (4 : Int32)]) (rest := []) S hK hN hA hO (xc_Cw_within l D cI cJ cF cZ ad g x2 (4 : Int32)) ht46 qy_Cw_within ln_Pr_80 ⟨by decide, by decide⟩ rfl hl.1 rfl (Nat.le_of_ble_eq_true rfl) d_Pr_addMethod_46 (fun H locs hO => ?_)
      refine lv_if_eq (tgt := 68) hx hb d_Pr_addMethod_49 (by decide) (fun h => ?_) (fun h => ?_)
      · have hT := qa_t hT h
        exact b68 t46.2 x1 x2 x3 s0 _ _ _ (lv_sub hl [1, 2, 3, 4, 0] rfl) hO hT
      · have hT := qa_f hT h
        refine lv_aload_n hx hb d_Pr_addMethod_52 rfl (lv_at hl 1 rfl) ?_
        refine qa_get S hK hO hi_Pr 1 (by decide) rfl rfl 5 (by decide) lf_Pr_23 rfl rfl d_Pr_addMethod_53 ?_
        refine lv_iload_n hx hb d_Pr_addMethod_56 rfl (lv_at hl 2 rfl) ?_
        obtain ⟨hi57, hT⟩ := qa_c hT
        refine qa_aald (n := 6) S hK hO 5 (by decide) 1 rfl rfl rfl hi57 rfl d_Pr_addMethod_57 ?_
        refine lv_iload_n hx hb d_Pr_addMethod_58 rfl (lv_at hl 3 rfl) ?_
        obtain ⟨hi59, hT⟩ := qa_c hT
        refine qa_iald (n := 4) S hK hO (6 + x1.toNatClampNeg) (qa_rowlt hi57 (by decide)) 0 (xe_arr (xr_5 _ (qa_lt hi57))) rfl hi59 d_Pr_addMethod_59 ?_
        refine lv_iconst (v := -1) hx hb d_Pr_addMethod_60 (by decide) ?_
        refine lv_icmp_ne (tgt := 68) hx hb d_Pr_addMethod_61 (by decide) (fun h => ?_) (fun h => ?_)
        · have hT := qa_f hT h
          exact b68 t46.2 x1 x2 x3 s0 _ _ _ (lv_sub hl [1, 2, 3, 4, 0] rfl) hO hT
        · have hT := qa_t hT h
          refine lv_iconst (v := 1) hx hb d_Pr_addMethod_64 (by decide) ?_
          refine lv_goto (tgt := 69) hx hb d_Pr_addMethod_65 (by decide) ?_
          exact b69 t46.2 x1 x2 x3 s0 (1 : Int32) _ _ _ (lv_sub hl [1, 2, 3, 4, 0] rfl) hO hT
    · have hT := qa_f hT h
      refine lv_iload_n hx hb d_Pr_addMethod_36 rfl (lv_at hl 4 rfl) ?_
      refine lv_iconst (v := 3) hx hb d_Pr_addMethod_37 (by decide) ?_
      obtain ⟨t38, ht38, hT⟩ := qa_b hT
      refine qa_SNi (As := [.int x3, .int (3 : Int32)]) (rest := []) S hK hN hA hO (xc_Cw_within l D cI cJ cF cZ ad g x3 (3 : Int32)) ht38 qy_Cw_within ln_Pr_80 ⟨by decide, by decide⟩ rfl hl.1 rfl (Nat.le_of_ble_eq_true rfl) d_Pr_addMethod_38 (fun H locs hO => ?_)
      refine lv_goto (tgt := 69) hx hb d_Pr_addMethod_41 (by decide) ?_
      exact b69 t38.2 x1 x2 x3 s0 t38.1 _ _ _ (lv_sub hl [1, 2, 3, 4, 0] rfl) hO hT
  unfold xf_Pr_addMethod at hT
  refine lv_aload_n hx hb d_Pr_addMethod_0 rfl (lv_at hl 0 rfl) ?_
  refine qa_get S hK hO hi_Pr 1 (by decide) rfl rfl 1 (by decide) lf_Pr_77 rfl rfl d_Pr_addMethod_1 ?_
  refine lv_bipush (v := 10) hx hb d_Pr_addMethod_4 (by decide) ?_
  refine lv_icmp_ge (tgt := 17) hx hb d_Pr_addMethod_6 (by decide) (fun h => ?_) (fun h => ?_)
  · have hT := qa_t hT h
    refine lv_iconst (v := -1) hx hb d_Pr_addMethod_17 (by decide) ?_
    exact ret hT hO d_Pr_addMethod_18
  · have hT := qa_f hT h
    refine lv_aload_n hx hb d_Pr_addMethod_9 rfl (lv_at hl 0 rfl) ?_
    refine lv_iload_n hx hb d_Pr_addMethod_10 rfl (lv_at hl 1 rfl) ?_
    obtain ⟨t11, ht11, hT⟩ := qa_b hT
    refine qa_Vi (As := [.int x1]) (rest := []) (r := 1) S hK hN hA hO (xc_Pr_isType l D cI cJ cF cZ ad g x1) ht11 qy_Pr_isType lm_Pr_56 ⟨by decide, by decide⟩ (by decide) rfl rfl rfl rfl hl.1 rfl (Nat.le_of_ble_eq_true rfl) d_Pr_addMethod_11 (fun H locs hO => ?_)
    refine lv_if_ne (tgt := 19) hx hb d_Pr_addMethod_14 (by decide) (fun h => ?_) (fun h => ?_)
    · have hT := qa_f hT h
      refine lv_iload_n hx hb d_Pr_addMethod_19 rfl (lv_at hl 2 rfl) ?_
      refine lv_iconst (v := -1) hx hb d_Pr_addMethod_20 (by decide) ?_
      refine lv_icmp_ne (tgt := 28) hx hb d_Pr_addMethod_21 (by decide) (fun h => ?_) (fun h => ?_)
      · have hT := qa_f hT h
        refine lv_iconst (v := 0) hx hb d_Pr_addMethod_28 (by decide) ?_
        exact b29 t11.2 x1 x2 x3 (0 : Int32) _ _ _ (lv_sub hl [0, 1, 2, 3] rfl) hO hT
      · have hT := qa_t hT h
        refine lv_iconst (v := 1) hx hb d_Pr_addMethod_24 (by decide) ?_
        refine lv_goto (tgt := 29) hx hb d_Pr_addMethod_25 (by decide) ?_
        exact b29 t11.2 x1 x2 x3 (1 : Int32) _ _ _ (lv_sub hl [0, 1, 2, 3] rfl) hO hT
    · have hT := qa_t hT h
      refine lv_iconst (v := -1) hx hb d_Pr_addMethod_17 (by decide) ?_
      exact ret hT hO d_Pr_addMethod_18
def xf_Cw_method (g : qa_St) (x1 : Int32) (x2 : Int32) (x3 : Int32) : qa_Re := ((xf_Pr_addMethod g x1 x2 x3).bind fun t8 => ((xf_Cw_reopenUnlessNone t8.2 t8.1).bind fun t11 => (some (t11.1, t11.2))))
set_option maxHeartbeats 4000000 in
set_option maxRecDepth 100000 in
theorem xc_Cw_method (l : Launch) (D : va_G) (cI cJ cF cZ : ClassId) (ad : Nat → Nat) (g : qa_St) (x1 : Int32) (x2 : Int32) (x3 : Int32) : qa_Mi l y_Cw_method (qa_ws y_Cw_method b_Cw_method 4 (some .int)) (qa_rm 2 47) D (qa_ty cI cJ cF cZ) 107 ad (xe_en cI cJ cF ad) [.ref (ad 0), .int x1, .int x2, .int x3] g (xf_Cw_method g x1 x2 x3) := by
  refine qa_meti (by decide) (Nat.le_of_ble_eq_true rfl) ?_
  intro p e s m args below meth c Q A T S hK hN hA hT ret ls hl hO
  have hx := S.1
  have hb := S.2.1
  have hl : lv_has ls 4 [(0, .ref (ad 0)), (1, .int x1), (2, .int x2), (3, .int x3)] := hl
  unfold xf_Cw_method at hT
  refine lv_aload_n hx hb d_Cw_method_0 rfl (lv_at hl 0 rfl) ?_
  refine lv_aload_n hx hb d_Cw_method_1 rfl (lv_at hl 0 rfl) ?_
  refine qa_get S hK hO hi_Cw 0 (by decide) rfl rfl 0 (by decide) lf_Cw_17 rfl rfl d_Cw_method_2 ?_
  refine lv_iload_n hx hb d_Cw_method_5 rfl (lv_at hl 1 rfl) ?_
  refine lv_iload_n hx hb d_Cw_method_6 rfl (lv_at hl 2 rfl) ?_
  refine lv_iload_n hx hb d_Cw_method_7 rfl (lv_at hl 3 rfl) ?_
  obtain ⟨t8, ht8, hT⟩ := qa_b hT
  refine qa_Vi (As := [.int x1, .int x2, .int x3]) (rest := [.ref (ad 0)]) (r := 1) S hK hN hA hO (xc_Pr_addMethod l D cI cJ cF cZ ad g x1 x2 x3) ht8 qy_Pr_addMethod lm_Cw_56 ⟨by decide, by decide⟩ (by decide) rfl rfl rfl rfl hl.1 rfl (Nat.le_of_ble_eq_true rfl) d_Cw_method_8 (fun H locs hO => ?_)
  obtain ⟨t11, ht11, hT⟩ := qa_b hT
  refine qa_Vi (As := [.int t8.1]) (rest := []) (r := 0) S hK hN hA hO (xc_Cw_reopenUnlessNone l D cI cJ cF cZ ad t8.2 t8.1) ht11 qy_Cw_reopenUnlessNone lm_Cw_52 ⟨by decide, by decide⟩ (by decide) rfl rfl rfl rfl hl.1 rfl (Nat.le_of_ble_eq_true rfl) d_Cw_method_11 (fun H locs hO => ?_)
  exact ret hT hO d_Cw_method_14
def xf_Pr_isMethod (g : qa_St) (x1 : Int32) : qa_Re := (if x1 < 0 then (some ((0 : Int32), g)) else (if (g 1 1) ≤ x1 then (some ((0 : Int32), g)) else (some ((1 : Int32), g))))
set_option maxHeartbeats 4000000 in
set_option maxRecDepth 100000 in
theorem xc_Pr_isMethod (l : Launch) (D : va_G) (cI cJ cF cZ : ClassId) (ad : Nat → Nat) (g : qa_St) (x1 : Int32) : qa_Mi l y_Pr_isMethod (qa_ws y_Pr_isMethod b_Pr_isMethod 2 (some .boolean)) (qa_rm 0 0) D (qa_ty cI cJ cF cZ) 107 ad (xe_en cI cJ cF ad) [.ref (ad 1), .int x1] g (xf_Pr_isMethod g x1) := by
  refine qa_metz (by decide) (Nat.le_of_ble_eq_true rfl) ?_
  intro p e s m args below meth c Q A T S hK hN hA hT ret ls hl hO
  have hx := S.1
  have hb := S.2.1
  have hl : lv_has ls 2 [(0, .ref (ad 1)), (1, .int x1)] := hl
  unfold xf_Pr_isMethod at hT
  refine lv_iload_n hx hb d_Pr_isMethod_0 rfl (lv_at hl 1 rfl) ?_
  refine lv_if_lt (tgt := 16) hx hb d_Pr_isMethod_1 (by decide) (fun h => ?_) (fun h => ?_)
  · have hT := qa_t hT h
    refine lv_iconst (v := 0) hx hb d_Pr_isMethod_16 (by decide) ?_
    exact ret (by decide) hT hO d_Pr_isMethod_17
  · have hT := qa_f hT h
    refine lv_iload_n hx hb d_Pr_isMethod_4 rfl (lv_at hl 1 rfl) ?_
    refine lv_aload_n hx hb d_Pr_isMethod_5 rfl (lv_at hl 0 rfl) ?_
    refine qa_get S hK hO hi_Pr 1 (by decide) rfl rfl 1 (by decide) lf_Pr_77 rfl rfl d_Pr_isMethod_6 ?_
    refine lv_icmp_ge (tgt := 16) hx hb d_Pr_isMethod_9 (by decide) (fun h => ?_) (fun h => ?_)
    · have hT := qa_t hT h
      refine lv_iconst (v := 0) hx hb d_Pr_isMethod_16 (by decide) ?_
      exact ret (by decide) hT hO d_Pr_isMethod_17
    · have hT := qa_f hT h
      refine lv_iconst (v := 1) hx hb d_Pr_isMethod_12 (by decide) ?_
      refine lv_goto (tgt := 17) hx hb d_Pr_isMethod_13 (by decide) ?_
      exact ret (by decide) hT hO d_Pr_isMethod_17
def xf_Pr_isPlain (g : qa_St) (x1 : Int32) : qa_Re := ((xf_Pr_isMethod g x1).bind fun t2 => (if t2.1 = 0 then (some ((0 : Int32), t2.2)) else (if x1 < 0 ∨ 10 ≤ x1.toNatClampNeg then none else (if (t2.2 13 x1.toNatClampNeg) = (-1 : Int32) then (some ((1 : Int32), t2.2)) else (some ((0 : Int32), t2.2))))))
set_option maxHeartbeats 4000000 in
set_option maxRecDepth 100000 in
theorem xc_Pr_isPlain (l : Launch) (D : va_G) (cI cJ cF cZ : ClassId) (ad : Nat → Nat) (g : qa_St) (x1 : Int32) : qa_Mi l y_Pr_isPlain (qa_ws y_Pr_isPlain b_Pr_isPlain 2 (some .boolean)) (qa_rm 1 21) D (qa_ty cI cJ cF cZ) 107 ad (xe_en cI cJ cF ad) [.ref (ad 1), .int x1] g (xf_Pr_isPlain g x1) := by
  refine qa_metz (by decide) (Nat.le_of_ble_eq_true rfl) ?_
  intro p e s m args below meth c Q A T S hK hN hA hT ret ls hl hO
  have hx := S.1
  have hb := S.2.1
  have hl : lv_has ls 2 [(0, .ref (ad 1)), (1, .int x1)] := hl
  unfold xf_Pr_isPlain at hT
  refine lv_aload_n hx hb d_Pr_isPlain_0 rfl (lv_at hl 0 rfl) ?_
  refine lv_iload_n hx hb d_Pr_isPlain_1 rfl (lv_at hl 1 rfl) ?_
  obtain ⟨t2, ht2, hT⟩ := qa_b hT
  refine qa_Vi (As := [.int x1]) (rest := []) (r := 1) S hK hN hA hO (xc_Pr_isMethod l D cI cJ cF cZ ad g x1) ht2 qy_Pr_isMethod lm_Pr_87 ⟨by decide, by decide⟩ (by decide) rfl rfl rfl rfl hl.1 rfl (Nat.le_of_ble_eq_true rfl) d_Pr_isPlain_2 (fun H locs hO => ?_)
  refine lv_if_eq (tgt := 22) hx hb d_Pr_isPlain_5 (by decide) (fun h => ?_) (fun h => ?_)
  · have hT := qa_t hT h
    refine lv_iconst (v := 0) hx hb d_Pr_isPlain_22 (by decide) ?_
    exact ret (by decide) hT hO d_Pr_isPlain_23
  · have hT := qa_f hT h
    refine lv_aload_n hx hb d_Pr_isPlain_8 rfl (lv_at hl 0 rfl) ?_
    refine qa_get S hK hO hi_Pr 1 (by decide) rfl rfl 7 (by decide) lf_Pr_29 rfl rfl d_Pr_isPlain_9 ?_
    refine lv_iload_n hx hb d_Pr_isPlain_12 rfl (lv_at hl 1 rfl) ?_
    obtain ⟨hi13, hT⟩ := qa_c hT
    refine qa_iald (n := 10) S hK hO 13 (by decide) 0 (xe_arr rfl) rfl hi13 d_Pr_isPlain_13 ?_
    refine lv_iconst (v := -1) hx hb d_Pr_isPlain_14 (by decide) ?_
    refine lv_icmp_ne (tgt := 22) hx hb d_Pr_isPlain_15 (by decide) (fun h => ?_) (fun h => ?_)
    · have hT := qa_f hT h
      refine lv_iconst (v := 0) hx hb d_Pr_isPlain_22 (by decide) ?_
      exact ret (by decide) hT hO d_Pr_isPlain_23
    · have hT := qa_t hT h
      refine lv_iconst (v := 1) hx hb d_Pr_isPlain_18 (by decide) ?_
      refine lv_goto (tgt := 23) hx hb d_Pr_isPlain_19 (by decide) ?_
      exact ret (by decide) hT hO d_Pr_isPlain_23
def xf_Pr_setInitialiser (g : qa_St) (x1 : Int32) (x2 : Int32) : qa_Re := ((xf_Pr_isType g x1).bind fun t2 => (if t2.1 = 0 then (some ((0 : Int32), t2.2)) else ((xf_Pr_isPlain t2.2 x2).bind fun t10 => (if t10.1 = 0 then (some ((0 : Int32), t10.2)) else (if x2 < 0 ∨ 10 ≤ x2.toNatClampNeg then none else (if (t10.2 14 x2.toNatClampNeg) = 0 then (if x1 < 0 ∨ 6 ≤ x1.toNatClampNeg then none else (some ((1 : Int32), (qa_up t10.2 4 x1.toNatClampNeg x2)))) else (some ((0 : Int32), t10.2))))))))
set_option maxHeartbeats 4000000 in
set_option maxRecDepth 100000 in
theorem xc_Pr_setInitialiser (l : Launch) (D : va_G) (cI cJ cF cZ : ClassId) (ad : Nat → Nat) (g : qa_St) (x1 : Int32) (x2 : Int32) : qa_Mi l y_Pr_setInitialiser (qa_ws y_Pr_setInitialiser b_Pr_setInitialiser 3 (some .boolean)) (qa_rm 2 42) D (qa_ty cI cJ cF cZ) 107 ad (xe_en cI cJ cF ad) [.ref (ad 1), .int x1, .int x2] g (xf_Pr_setInitialiser g x1 x2) := by
  refine qa_metz (by decide) (Nat.le_of_ble_eq_true rfl) ?_
  intro p e s m args below meth c Q A T S hK hN hA hT ret ls hl hO
  have hx := S.1
  have hb := S.2.1
  have hl : lv_has ls 3 [(0, .ref (ad 1)), (1, .int x1), (2, .int x2)] := hl
  unfold xf_Pr_setInitialiser at hT
  refine lv_aload_n hx hb d_Pr_setInitialiser_0 rfl (lv_at hl 0 rfl) ?_
  refine lv_iload_n hx hb d_Pr_setInitialiser_1 rfl (lv_at hl 1 rfl) ?_
  obtain ⟨t2, ht2, hT⟩ := qa_b hT
  refine qa_Vi (As := [.int x1]) (rest := []) (r := 1) S hK hN hA hO (xc_Pr_isType l D cI cJ cF cZ ad g x1) ht2 qy_Pr_isType lm_Pr_56 ⟨by decide, by decide⟩ (by decide) rfl rfl rfl rfl hl.1 rfl (Nat.le_of_ble_eq_true rfl) d_Pr_setInitialiser_2 (fun H locs hO => ?_)
  refine lv_if_eq (tgt := 25) hx hb d_Pr_setInitialiser_5 (by decide) (fun h => ?_) (fun h => ?_)
  · have hT := qa_t hT h
    refine lv_iconst (v := 0) hx hb d_Pr_setInitialiser_25 (by decide) ?_
    exact ret (by decide) hT hO d_Pr_setInitialiser_26
  · have hT := qa_f hT h
    refine lv_aload_n hx hb d_Pr_setInitialiser_8 rfl (lv_at hl 0 rfl) ?_
    refine lv_iload_n hx hb d_Pr_setInitialiser_9 rfl (lv_at hl 2 rfl) ?_
    obtain ⟨t10, ht10, hT⟩ := qa_b hT
    refine qa_Vi (As := [.int x2]) (rest := []) (r := 1) S hK hN hA hO (xc_Pr_isPlain l D cI cJ cF cZ ad t2.2 x2) ht10 qy_Pr_isPlain lm_Pr_84 ⟨by decide, by decide⟩ (by decide) rfl rfl rfl rfl hl.1 rfl (Nat.le_of_ble_eq_true rfl) d_Pr_setInitialiser_10 (fun H locs hO => ?_)
    refine lv_if_eq (tgt := 25) hx hb d_Pr_setInitialiser_13 (by decide) (fun h => ?_) (fun h => ?_)
    · have hT := qa_t hT h
      refine lv_iconst (v := 0) hx hb d_Pr_setInitialiser_25 (by decide) ?_
      exact ret (by decide) hT hO d_Pr_setInitialiser_26
    · have hT := qa_f hT h
      refine lv_aload_n hx hb d_Pr_setInitialiser_16 rfl (lv_at hl 0 rfl) ?_
      refine qa_get S hK hO hi_Pr 1 (by decide) rfl rfl 8 (by decide) lf_Pr_32 rfl rfl d_Pr_setInitialiser_17 ?_
      refine lv_iload_n hx hb d_Pr_setInitialiser_20 rfl (lv_at hl 2 rfl) ?_
      obtain ⟨hi21, hT⟩ := qa_c hT
      refine qa_iald (n := 10) S hK hO 14 (by decide) 0 (xe_arr rfl) rfl hi21 d_Pr_setInitialiser_21 ?_
      refine lv_if_eq (tgt := 27) hx hb d_Pr_setInitialiser_22 (by decide) (fun h => ?_) (fun h => ?_)
      · have hT := qa_t hT h
        refine lv_aload_n hx hb d_Pr_setInitialiser_27 rfl (lv_at hl 0 rfl) ?_
        refine qa_get S hK hO hi_Pr 1 (by decide) rfl rfl 4 (by decide) lf_Pr_18 rfl rfl d_Pr_setInitialiser_28 ?_
        refine lv_iload_n hx hb d_Pr_setInitialiser_31 rfl (lv_at hl 1 rfl) ?_
        refine lv_iload_n hx hb d_Pr_setInitialiser_32 rfl (lv_at hl 2 rfl) ?_
        obtain ⟨hi33, hT⟩ := qa_c hT
        refine qa_iast (n := 6) S hK hO 4 (by decide) 0 (xe_arr rfl) rfl hi33 d_Pr_setInitialiser_33 (fun H locs hO => ?_)
        refine lv_iconst (v := 1) hx hb d_Pr_setInitialiser_34 (by decide) ?_
        exact ret (by decide) hT hO d_Pr_setInitialiser_35
      · have hT := qa_f hT h
        refine lv_iconst (v := 0) hx hb d_Pr_setInitialiser_25 (by decide) ?_
        exact ret (by decide) hT hO d_Pr_setInitialiser_26
def xf_Cw_initialiser (g : qa_St) (x1 : Int32) (x2 : Int32) : qa_Re := ((xf_Pr_setInitialiser g x1 x2).bind fun t7 => ((xf_Cw_reopenIf t7.2 t7.1).bind fun t10 => (if t10.1 = 0 ∨ t10.1 = 1 then some (t10.1, t10.2) else none)))
set_option maxHeartbeats 4000000 in
set_option maxRecDepth 100000 in
theorem xc_Cw_initialiser (l : Launch) (D : va_G) (cI cJ cF cZ : ClassId) (ad : Nat → Nat) (g : qa_St) (x1 : Int32) (x2 : Int32) : qa_Mi l y_Cw_initialiser (qa_ws y_Cw_initialiser b_Cw_initialiser 3 (some .boolean)) (qa_rm 3 64) D (qa_ty cI cJ cF cZ) 107 ad (xe_en cI cJ cF ad) [.ref (ad 0), .int x1, .int x2] g (xf_Cw_initialiser g x1 x2) := by
  refine qa_metz (by decide) (Nat.le_of_ble_eq_true rfl) ?_
  intro p e s m args below meth c Q A T S hK hN hA hT ret ls hl hO
  have hx := S.1
  have hb := S.2.1
  have hl : lv_has ls 3 [(0, .ref (ad 0)), (1, .int x1), (2, .int x2)] := hl
  unfold xf_Cw_initialiser at hT
  refine lv_aload_n hx hb d_Cw_initialiser_0 rfl (lv_at hl 0 rfl) ?_
  refine lv_aload_n hx hb d_Cw_initialiser_1 rfl (lv_at hl 0 rfl) ?_
  refine qa_get S hK hO hi_Cw 0 (by decide) rfl rfl 0 (by decide) lf_Cw_17 rfl rfl d_Cw_initialiser_2 ?_
  refine lv_iload_n hx hb d_Cw_initialiser_5 rfl (lv_at hl 1 rfl) ?_
  refine lv_iload_n hx hb d_Cw_initialiser_6 rfl (lv_at hl 2 rfl) ?_
  obtain ⟨t7, ht7, hT⟩ := qa_b hT
  refine qa_Vi (As := [.int x1, .int x2]) (rest := [.ref (ad 0)]) (r := 1) S hK hN hA hO (xc_Pr_setInitialiser l D cI cJ cF cZ ad g x1 x2) ht7 qy_Pr_setInitialiser lm_Cw_60 ⟨by decide, by decide⟩ (by decide) rfl rfl rfl rfl hl.1 rfl (Nat.le_of_ble_eq_true rfl) d_Cw_initialiser_7 (fun H locs hO => ?_)
  obtain ⟨t10, ht10, hT⟩ := qa_b hT
  refine qa_Vi (As := [.int t7.1]) (rest := []) (r := 0) S hK hN hA hO (xc_Cw_reopenIf l D cI cJ cF cZ ad t7.2 t7.1) ht10 qy_Cw_reopenIf lm_Cw_64 ⟨by decide, by decide⟩ (by decide) rfl rfl rfl rfl hl.1 rfl (Nat.le_of_ble_eq_true rfl) d_Cw_initialiser_10 (fun H locs hO => ?_)
  obtain ⟨hz, hT⟩ := qa_k hT
  exact ret hz hT hO d_Cw_initialiser_13
