def xf_Pr_lengthOf (g : qa_St) (x1 : Int32) : qa_Re := ((xf_Pr_isMethod g x1).bind fun t2 => (if t2.1 = 0 then (some ((0 : Int32), t2.2)) else (if x1 < 0 ∨ 10 ≤ x1.toNatClampNeg then none else (some ((t2.2 15 x1.toNatClampNeg), t2.2)))))
set_option maxHeartbeats 4000000 in
set_option maxRecDepth 100000 in
theorem xc_Pr_lengthOf (l : Launch) (D : va_G) (cI cJ cF cZ : ClassId) (ad : Nat → Nat) (g : qa_St) (x1 : Int32) : qa_Mi l y_Pr_lengthOf (qa_ws y_Pr_lengthOf b_Pr_lengthOf 2 (some .int)) (qa_rm 1 21) D (qa_ty cI cJ cF cZ) 107 ad (xe_en cI cJ cF ad) [.ref (ad 1), .int x1] g (xf_Pr_lengthOf g x1) := by
  refine qa_meti (by decide) (Nat.le_of_ble_eq_true rfl) ?_
  intro p e s m args below meth c Q A T S hK hN hA hT ret ls hl hO
  have hx := S.1
  have hb := S.2.1
  have hl : lv_has ls 2 [(0, .ref (ad 1)), (1, .int x1)] := hl
  unfold xf_Pr_lengthOf at hT
  refine lv_aload_n hx hb d_Pr_lengthOf_0 rfl (lv_at hl 0 rfl) ?_
  refine lv_iload_n hx hb d_Pr_lengthOf_1 rfl (lv_at hl 1 rfl) ?_
  obtain ⟨t2, ht2, hT⟩ := qa_b hT
  refine qa_Vi (As := [.int x1]) (rest := []) (r := 1) S hK hN hA hO (xc_Pr_isMethod l D cI cJ cF cZ ad g x1) ht2 qy_Pr_isMethod lm_Pr_87 ⟨by decide, by decide⟩ (by decide) rfl rfl rfl rfl hl.1 rfl (Nat.le_of_ble_eq_true rfl) d_Pr_lengthOf_2 (fun H locs hO => ?_)
  refine lv_if_eq (tgt := 17) hx hb d_Pr_lengthOf_5 (by decide) (fun h => ?_) (fun h => ?_)
  · have hT := qa_t hT h
    refine lv_iconst (v := 0) hx hb d_Pr_lengthOf_17 (by decide) ?_
    exact ret hT hO d_Pr_lengthOf_18
  · have hT := qa_f hT h
    refine lv_aload_n hx hb d_Pr_lengthOf_8 rfl (lv_at hl 0 rfl) ?_
    refine qa_get S hK hO hi_Pr 1 (by decide) rfl rfl 9 (by decide) lf_Pr_35 rfl rfl d_Pr_lengthOf_9 ?_
    refine lv_iload_n hx hb d_Pr_lengthOf_12 rfl (lv_at hl 1 rfl) ?_
    obtain ⟨hi13, hT⟩ := qa_c hT
    refine qa_iald (n := 10) S hK hO 15 (by decide) 0 (xe_arr rfl) rfl hi13 d_Pr_lengthOf_13 ?_
    refine lv_goto (tgt := 18) hx hb d_Pr_lengthOf_14 (by decide) ?_
    exact ret hT hO d_Pr_lengthOf_18
def xf_Fr_size (g : qa_St) (r0 : Nat) : qa_Re := (some ((g r0 1), g))
set_option maxHeartbeats 4000000 in
set_option maxRecDepth 100000 in
theorem xc_Fr_size (l : Launch) (D : va_G) (cI cJ cF cZ : ClassId) (ad : Nat → Nat) (g : qa_St) (r0 : Nat) (hf0 : xe_F r0) : qa_Mi l y_Fr_size (qa_ws y_Fr_size b_Fr_size 1 (some .int)) (qa_rm 0 0) D (qa_ty cI cJ cF cZ) 107 ad (xe_en cI cJ cF ad) [.ref (ad r0)] g (xf_Fr_size g r0) := by
  refine qa_meti (by decide) (Nat.le_of_ble_eq_true rfl) ?_
  intro p e s m args below meth c Q A T S hK hN hA hT ret ls hl hO
  have hx := S.1
  have hb := S.2.1
  have hl : lv_has ls 1 [(0, .ref (ad r0))] := hl
  unfold xf_Fr_size at hT
  refine lv_aload_n hx hb d_Fr_size_0 rfl (lv_at hl 0 rfl) ?_
  refine qa_get S hK hO hi_Fr r0 (xe_Flt hf0) (xe_fr hf0 _) rfl 1 (by decide) lf_Fr_21 rfl rfl d_Fr_size_1 ?_
  exact ret hT hO d_Fr_size_4
def xf_Ch_need (g : qa_St) (x1 : Int32) : qa_Re := (if (g 72 6) = 0 then (some (0, (qa_up g 72 6 (0 : Int32)))) else (if x1 = 0 then (some (0, (qa_up g 72 6 (0 : Int32)))) else (some (0, (qa_up g 72 6 (1 : Int32))))))
set_option maxHeartbeats 4000000 in
set_option maxRecDepth 100000 in
theorem xc_Ch_need (l : Launch) (D : va_G) (cI cJ cF cZ : ClassId) (ad : Nat → Nat) (g : qa_St) (x1 : Int32) : qa_Mv l y_Ch_need (qa_ws y_Ch_need b_Ch_need 2 none) (qa_rm 0 0) D (qa_ty cI cJ cF cZ) 107 ad (xe_en cI cJ cF ad) [.ref (ad 72), .int x1] g (xf_Ch_need g x1) := by
  refine qa_metv (by decide) (Nat.le_of_ble_eq_true rfl) ?_
  intro p e s m args below meth c Q A T S hK hN hA hT ret ls hl hO
  have hx := S.1
  have hb := S.2.1
  have hl : lv_has ls 2 [(0, .ref (ad 72)), (1, .int x1)] := hl
  unfold xf_Ch_need at hT
  refine lv_aload_n hx hb d_Ch_need_0 rfl (lv_at hl 0 rfl) ?_
  refine lv_aload_n hx hb d_Ch_need_1 rfl (lv_at hl 0 rfl) ?_
  refine qa_get S hK hO hi_Ch 72 (by decide) rfl rfl 6 (by decide) lf_Ch_36 rfl rfl d_Ch_need_2 ?_
  refine lv_if_eq (tgt := 16) hx hb d_Ch_need_5 (by decide) (fun h => ?_) (fun h => ?_)
  · have hT := qa_t hT h
    refine lv_iconst (v := 0) hx hb d_Ch_need_16 (by decide) ?_
    refine qa_put S hK hO hi_Ch t_Ch t_Ch_ok n_Ch 72 (by decide) rfl rfl 6 (by decide) lf_Ch_36 rfl rfl (ty := .boolean) (by decide +kernel) rfl rfl (Nat.le_of_ble_eq_true rfl) rfl d_Ch_need_17 (fun H locs hO => ?_)
    exact ret hT hO d_Ch_need_20
  · have hT := qa_f hT h
    refine lv_iload_n hx hb d_Ch_need_8 rfl (lv_at hl 1 rfl) ?_
    refine lv_if_eq (tgt := 16) hx hb d_Ch_need_9 (by decide) (fun h => ?_) (fun h => ?_)
    · have hT := qa_t hT h
      refine lv_iconst (v := 0) hx hb d_Ch_need_16 (by decide) ?_
      refine qa_put S hK hO hi_Ch t_Ch t_Ch_ok n_Ch 72 (by decide) rfl rfl 6 (by decide) lf_Ch_36 rfl rfl (ty := .boolean) (by decide +kernel) rfl rfl (Nat.le_of_ble_eq_true rfl) rfl d_Ch_need_17 (fun H locs hO => ?_)
      exact ret hT hO d_Ch_need_20
    · have hT := qa_f hT h
      refine lv_iconst (v := 1) hx hb d_Ch_need_12 (by decide) ?_
      refine lv_goto (tgt := 17) hx hb d_Ch_need_13 (by decide) ?_
      refine qa_put S hK hO hi_Ch t_Ch t_Ch_ok n_Ch 72 (by decide) rfl rfl 6 (by decide) lf_Ch_36 rfl rfl (ty := .boolean) (by decide +kernel) rfl rfl (Nat.le_of_ble_eq_true rfl) rfl d_Ch_need_17 (fun H locs hO => ?_)
      exact ret hT hO d_Ch_need_20
def xf_Fr_place (g : qa_St) (r0 : Nat) (x1 : Int32) : qa_Re := ((xf_Cw_within g x1 (10 : Int32)).bind fun t3 => (if t3.1 = 0 then (some ((8 : Int32), t3.2)) else (if x1 < 0 ∨ 10 ≤ x1.toNatClampNeg then none else (some ((t3.2 (r0 + 1) x1.toNatClampNeg), t3.2)))))
set_option maxHeartbeats 4000000 in
set_option maxRecDepth 100000 in
theorem xc_Fr_place (l : Launch) (D : va_G) (cI cJ cF cZ : ClassId) (ad : Nat → Nat) (g : qa_St) (r0 : Nat) (x1 : Int32) (hf0 : xe_F r0) : qa_Mi l y_Fr_place (qa_ws y_Fr_place b_Fr_place 2 (some .int)) (qa_rm 1 21) D (qa_ty cI cJ cF cZ) 107 ad (xe_en cI cJ cF ad) [.ref (ad r0), .int x1] g (xf_Fr_place g r0 x1) := by
  refine qa_meti (by decide) (Nat.le_of_ble_eq_true rfl) ?_
  intro p e s m args below meth c Q A T S hK hN hA hT ret ls hl hO
  have hx := S.1
  have hb := S.2.1
  have hl : lv_has ls 2 [(0, .ref (ad r0)), (1, .int x1)] := hl
  unfold xf_Fr_place at hT
  refine lv_iload_n hx hb d_Fr_place_0 rfl (lv_at hl 1 rfl) ?_
  refine lv_bipush (v := 10) hx hb d_Fr_place_1 (by decide) ?_
  obtain ⟨t3, ht3, hT⟩ := qa_b hT
  refine qa_SNi (As := [.int x1, .int (10 : Int32)]) (rest := []) S hK hN hA hO (xc_Cw_within l D cI cJ cF cZ ad g x1 (10 : Int32)) ht3 qy_Cw_within ln_Fr_43 ⟨by decide, by decide⟩ rfl hl.1 rfl (Nat.le_of_ble_eq_true rfl) d_Fr_place_3 (fun H locs hO => ?_)
  refine lv_if_eq (tgt := 18) hx hb d_Fr_place_6 (by decide) (fun h => ?_) (fun h => ?_)
  · have hT := qa_t hT h
    refine lv_bipush (v := 8) hx hb d_Fr_place_18 (by decide) ?_
    exact ret hT hO d_Fr_place_20
  · have hT := qa_f hT h
    refine lv_aload_n hx hb d_Fr_place_9 rfl (lv_at hl 0 rfl) ?_
    refine qa_get S hK hO hi_Fr r0 (xe_Flt hf0) (xe_fr hf0 _) rfl 0 (by decide) lf_Fr_9 rfl rfl d_Fr_place_10 ?_
    refine lv_iload_n hx hb d_Fr_place_13 rfl (lv_at hl 1 rfl) ?_
    obtain ⟨hi14, hT⟩ := qa_c hT
    refine qa_iald (n := 10) S hK hO (r0 + 1) (xe_Plt hf0) 0 (xe_pl hf0) rfl hi14 d_Fr_place_14 ?_
    refine lv_goto (tgt := 20) hx hb d_Fr_place_15 (by decide) ?_
    exact ret hT hO d_Fr_place_20
def xf_Cw_has (g : qa_St) (x0 : Int32) (x1 : Int32) : qa_Re := (if ((x0 >>> (x1 &&& 31)) &&& (1 : Int32)) = 0 then (some ((0 : Int32), g)) else (some ((1 : Int32), g)))
set_option maxHeartbeats 4000000 in
set_option maxRecDepth 100000 in
theorem xc_Cw_has (l : Launch) (D : va_G) (cI cJ cF cZ : ClassId) (ad : Nat → Nat) (g : qa_St) (x0 : Int32) (x1 : Int32) : qa_Mi l y_Cw_has (qa_ws y_Cw_has b_Cw_has 2 (some .boolean)) (qa_rm 0 0) D (qa_ty cI cJ cF cZ) 107 ad (xe_en cI cJ cF ad) [.int x0, .int x1] g (xf_Cw_has g x0 x1) := by
  refine qa_metz (by decide) (Nat.le_of_ble_eq_true rfl) ?_
  intro p e s m args below meth c Q A T S hK hN hA hT ret ls hl hO
  have hx := S.1
  have hb := S.2.1
  have hl : lv_has ls 2 [(0, .int x0), (1, .int x1)] := hl
  unfold xf_Cw_has at hT
  refine lv_iload_n hx hb d_Cw_has_0 rfl (lv_at hl 0 rfl) ?_
  refine lv_iload_n hx hb d_Cw_has_1 rfl (lv_at hl 1 rfl) ?_
  refine lv_ishr hx hb d_Cw_has_2 ?_
  refine lv_iconst (v := 1) hx hb d_Cw_has_3 (by decide) ?_
  refine lv_iand hx hb d_Cw_has_4 ?_
  refine lv_if_eq (tgt := 12) hx hb d_Cw_has_5 (by decide) (fun h => ?_) (fun h => ?_)
  · have hT := qa_t hT h
    refine lv_iconst (v := 0) hx hb d_Cw_has_12 (by decide) ?_
    exact ret (by decide) hT hO d_Cw_has_13
  · have hT := qa_f hT h
    refine lv_iconst (v := 1) hx hb d_Cw_has_8 (by decide) ?_
    refine lv_goto (tgt := 13) hx hb d_Cw_has_9 (by decide) ?_
    exact ret (by decide) hT hO d_Cw_has_13
def xf_Pr_nearestCommon_15 : Nat → qa_St → Int32 → Int32 → qa_Re
  | 0, _, _, _ => none
  | n + 1, g, x3, x4 => (if x4 < 0 then (some ((-1 : Int32), g)) else ((xf_Cw_has g x3 x4).bind fun t23 => (if t23.1 = 0 then ((xf_Pr_nearestCommon_15 n) t23.2 x3 (x4 + -1)) else (some (x4, t23.2)))))
def xf_Pr_nearestCommon (g : qa_St) (x1 : Int32) (x2 : Int32) : qa_Re := ((xf_Pr_kinOf g x1).bind fun t2 => ((xf_Pr_kinOf t2.2 x2).bind fun t7 => (xf_Pr_nearestCommon_15 4096 t7.2 (t2.1 &&& t7.1) (5 : Int32))))
set_option maxHeartbeats 4000000 in
set_option maxRecDepth 100000 in
theorem xc_Pr_nearestCommon (l : Launch) (D : va_G) (cI cJ cF cZ : ClassId) (ad : Nat → Nat) (g : qa_St) (x1 : Int32) (x2 : Int32) : qa_Mi l y_Pr_nearestCommon (qa_ws y_Pr_nearestCommon b_Pr_nearestCommon 5 (some .int)) (qa_rm 2 42) D (qa_ty cI cJ cF cZ) 107 ad (xe_en cI cJ cF ad) [.ref (ad 1), .int x1, .int x2] g (xf_Pr_nearestCommon g x1 x2) := by
  refine qa_meti (by decide) (Nat.le_of_ble_eq_true rfl) ?_
  intro p e s m args below meth c Q A T S hK hN hA hT ret ls hl hO
  have hx := S.1
  have hb := S.2.1
  have hl : lv_has ls 5 [(0, .ref (ad 1)), (1, .int x1), (2, .int x2)] := hl
  have b15 : ∀ (n : Nat), ∀ (g : qa_St) (x3 : Int32) (x4 : Int32) (ls : Array Slot) (H : Heap) (locs : List Loc), lv_has ls 5 [(3, .int x3), (4, .int x4)] → qa_O D 107 ad (xe_en cI cJ cF ad) A s.heap g H locs → xf_Pr_nearestCommon_15 n g x3 x4 = some T → W p l e (qa_rm 2 42) s m args below meth c H locs 0 0 Q (F0 m 15 ls []) := by
    intro n
    induction n with
    | zero => intro g x3 x4 ls H locs hl hO hT; rw [xf_Pr_nearestCommon_15] at hT; cases hT
    | succ n ih =>
      intro g x3 x4 ls H locs hl hO hT
      rw [xf_Pr_nearestCommon_15] at hT
      refine lv_iload hx hb d_Pr_nearestCommon_15 (lv_at hl 1 rfl) ?_
      refine lv_if_lt (tgt := 38) hx hb d_Pr_nearestCommon_17 (by decide) (fun h => ?_) (fun h => ?_)
      · have hT := qa_t hT h
        refine lv_iconst (v := -1) hx hb d_Pr_nearestCommon_38 (by decide) ?_
        exact ret hT hO d_Pr_nearestCommon_39
      · have hT := qa_f hT h
        refine lv_iload_n hx hb d_Pr_nearestCommon_20 rfl (lv_at hl 0 rfl) ?_
        refine lv_iload hx hb d_Pr_nearestCommon_21 (lv_at hl 1 rfl) ?_
        obtain ⟨t23, ht23, hT⟩ := qa_b hT
        refine qa_SNi (As := [.int x3, .int x4]) (rest := []) S hK hN hA hO (xc_Cw_has l D cI cJ cF cZ ad g x3 x4) ht23 qy_Cw_has ln_Pr_95 ⟨by decide, by decide⟩ rfl hl.1 rfl (Nat.le_of_ble_eq_true rfl) d_Pr_nearestCommon_23 (fun H locs hO => ?_)
        refine lv_if_eq (tgt := 32) hx hb d_Pr_nearestCommon_26 (by decide) (fun h => ?_) (fun h => ?_)
        · have hT := qa_t hT h
          refine lv_iinc (lv' := [(4, .int (x4 + -1)), (3, .int x3)]) hx hb d_Pr_nearestCommon_32 hl (k := 1) rfl (qa_om _) (by decide) rfl (fun ls hl => ?_)
          refine lv_goto (tgt := 15) hx hb d_Pr_nearestCommon_35 (by decide) ?_
          exact ih t23.2 x3 (x4 + -1) _ _ _ (lv_sub hl [1, 0] rfl) hO hT
        · have hT := qa_f hT h
          refine lv_iload hx hb d_Pr_nearestCommon_29 (lv_at hl 1 rfl) ?_
          exact ret hT hO d_Pr_nearestCommon_31
  unfold xf_Pr_nearestCommon at hT
  refine lv_aload_n hx hb d_Pr_nearestCommon_0 rfl (lv_at hl 0 rfl) ?_
  refine lv_iload_n hx hb d_Pr_nearestCommon_1 rfl (lv_at hl 1 rfl) ?_
  obtain ⟨t2, ht2, hT⟩ := qa_b hT
  refine qa_Vi (As := [.int x1]) (rest := []) (r := 1) S hK hN hA hO (xc_Pr_kinOf l D cI cJ cF cZ ad g x1) ht2 qy_Pr_kinOf lm_Pr_68 ⟨by decide, by decide⟩ (by decide) rfl rfl rfl rfl hl.1 rfl (Nat.le_of_ble_eq_true rfl) d_Pr_nearestCommon_2 (fun H locs hO => ?_)
  refine lv_aload_n hx hb d_Pr_nearestCommon_5 rfl (lv_at hl 0 rfl) ?_
  refine lv_iload_n hx hb d_Pr_nearestCommon_6 rfl (lv_at hl 2 rfl) ?_
  obtain ⟨t7, ht7, hT⟩ := qa_b hT
  refine qa_Vi (As := [.int x2]) (rest := [.int t2.1]) (r := 1) S hK hN hA hO (xc_Pr_kinOf l D cI cJ cF cZ ad t2.2 x2) ht7 qy_Pr_kinOf lm_Pr_68 ⟨by decide, by decide⟩ (by decide) rfl rfl rfl rfl hl.1 rfl (Nat.le_of_ble_eq_true rfl) d_Pr_nearestCommon_7 (fun H locs hO => ?_)
  refine lv_iand hx hb d_Pr_nearestCommon_10 ?_
  refine lv_istore_n (lv' := [(3, .int (t2.1 &&& t7.1)), (0, .ref (ad 1)), (1, .int x1), (2, .int x2)]) hx hb d_Pr_nearestCommon_11 rfl hl (by decide) rfl (fun ls hl => ?_)
  refine lv_iconst (v := 5) hx hb d_Pr_nearestCommon_12 (by decide) ?_
  refine lv_istore (lv' := [(4, .int (5 : Int32)), (3, .int (t2.1 &&& t7.1)), (0, .ref (ad 1)), (1, .int x1), (2, .int x2)]) hx hb d_Pr_nearestCommon_13 hl (by decide) rfl (fun ls hl => ?_)
  exact b15 4096 t7.2 (t2.1 &&& t7.1) (5 : Int32) _ _ _ (lv_sub hl [1, 0] rfl) hO hT
def xf_Ch_join (g : qa_St) (x1 : Int32) (x2 : Int32) : qa_Re := (if x1 = x2 then (some (x1, g)) else ((xf_Pr_nearestCommon g x1 x2).bind fun t13 => (if t13.1 = (-1 : Int32) then (some ((8 : Int32), t13.2)) else (some (t13.1, t13.2)))))
set_option maxHeartbeats 4000000 in
set_option maxRecDepth 100000 in
theorem xc_Ch_join (l : Launch) (D : va_G) (cI cJ cF cZ : ClassId) (ad : Nat → Nat) (g : qa_St) (x1 : Int32) (x2 : Int32) : qa_Mi l y_Ch_join (qa_ws y_Ch_join b_Ch_join 4 (some .int)) (qa_rm 3 66) D (qa_ty cI cJ cF cZ) 107 ad (xe_en cI cJ cF ad) [.ref (ad 72), .int x1, .int x2] g (xf_Ch_join g x1 x2) := by
  refine qa_meti (by decide) (Nat.le_of_ble_eq_true rfl) ?_
  intro p e s m args below meth c Q A T S hK hN hA hT ret ls hl hO
  have hx := S.1
  have hb := S.2.1
  have hl : lv_has ls 4 [(0, .ref (ad 72)), (1, .int x1), (2, .int x2)] := hl
  unfold xf_Ch_join at hT
  refine lv_iload_n hx hb d_Ch_join_0 rfl (lv_at hl 1 rfl) ?_
  refine lv_iload_n hx hb d_Ch_join_1 rfl (lv_at hl 2 rfl) ?_
  refine lv_icmp_ne (tgt := 7) hx hb d_Ch_join_2 (by decide) (fun h => ?_) (fun h => ?_)
  · have hT := qa_f hT h
    refine lv_aload_n hx hb d_Ch_join_7 rfl (lv_at hl 0 rfl) ?_
    refine qa_get S hK hO hi_Ch 72 (by decide) rfl rfl 0 (by decide) lf_Ch_25 rfl rfl d_Ch_join_8 ?_
    refine lv_iload_n hx hb d_Ch_join_11 rfl (lv_at hl 1 rfl) ?_
    refine lv_iload_n hx hb d_Ch_join_12 rfl (lv_at hl 2 rfl) ?_
    obtain ⟨t13, ht13, hT⟩ := qa_b hT
    refine qa_Vi (As := [.int x1, .int x2]) (rest := []) (r := 1) S hK hN hA hO (xc_Pr_nearestCommon l D cI cJ cF cZ ad g x1 x2) ht13 qy_Pr_nearestCommon lm_Ch_136 ⟨by decide, by decide⟩ (by decide) rfl rfl rfl rfl hl.1 rfl (Nat.le_of_ble_eq_true rfl) d_Ch_join_13 (fun H locs hO => ?_)
    refine lv_istore_n (lv' := [(3, .int t13.1), (0, .ref (ad 72)), (1, .int x1), (2, .int x2)]) hx hb d_Ch_join_16 rfl hl (by decide) rfl (fun ls hl => ?_)
    refine lv_iload_n hx hb d_Ch_join_17 rfl (lv_at hl 0 rfl) ?_
    refine lv_iconst (v := -1) hx hb d_Ch_join_18 (by decide) ?_
    refine lv_icmp_ne (tgt := 27) hx hb d_Ch_join_19 (by decide) (fun h => ?_) (fun h => ?_)
    · have hT := qa_f hT h
      refine lv_iload_n hx hb d_Ch_join_27 rfl (lv_at hl 0 rfl) ?_
      exact ret hT hO d_Ch_join_28
    · have hT := qa_t hT h
      refine lv_bipush (v := 8) hx hb d_Ch_join_22 (by decide) ?_
      refine lv_goto (tgt := 28) hx hb d_Ch_join_24 (by decide) ?_
      exact ret hT hO d_Ch_join_28
  · have hT := qa_t hT h
    refine lv_iload_n hx hb d_Ch_join_5 rfl (lv_at hl 1 rfl) ?_
    exact ret hT hO d_Ch_join_6
def xf_Ch_arriveAt_199 (k106 : qa_St → Int32 → Int32 → Int32 → Int32 → qa_Re) (g : qa_St) (x1 : Int32) (x2 : Int32) (x3 : Int32) (x4 : Int32) : qa_Re := (k106 g x1 x2 x3 (x4 + 1))
def xf_Ch_arriveAt_196 (k106 : qa_St → Int32 → Int32 → Int32 → Int32 → qa_Re) (g : qa_St) (x1 : Int32) (x2 : Int32) (x3 : Int32) (x4 : Int32) (s0 : Int32) : qa_Re := (xf_Ch_arriveAt_199 k106 (qa_up g 72 5 s0) x1 x2 x3 x4)
def xf_Ch_arriveAt_164 (k106 : qa_St → Int32 → Int32 → Int32 → Int32 → qa_Re) (g : qa_St) (x1 : Int32) (x2 : Int32) (x3 : Int32) (x4 : Int32) (x5 : Int32) (s0 : Int32) : qa_Re := (if s0 = x5 then (xf_Ch_arriveAt_199 k106 g x1 x2 x3 x4) else (if ((x2 * (10 : Int32)) + x4) < 0 ∨ 2000 ≤ ((x2 * (10 : Int32)) + x4).toNatClampNeg then none else (xf_Ch_arriveAt_196 k106 (qa_up g 73 ((x2 * (10 : Int32)) + x4).toNatClampNeg s0) x1 x2 x3 x4 (((qa_up g 73 ((x2 * (10 : Int32)) + x4).toNatClampNeg s0) 72 5) ||| ((1 : Int32) <<< (x1 &&& 31))))))
def xf_Ch_arriveAt_106 : Nat → qa_St → Int32 → Int32 → Int32 → Int32 → qa_Re
  | 0, _, _, _, _, _ => none
  | n + 1, g, x1, x2, x3, x4 => (if x2 < 0 ∨ 200 ≤ x2.toNatClampNeg then none else (if ((4 : Int32) + (g 74 x2.toNatClampNeg)) ≤ x4 then (some (0, g)) else (if ((x2 * (10 : Int32)) + x4) < 0 ∨ 2000 ≤ ((x2 * (10 : Int32)) + x4).toNatClampNeg then none else (if x3 = 0 then ((xf_Fr_place g 75 x4).bind fun t158 => ((xf_Ch_join t158.2 (g 73 ((x2 * (10 : Int32)) + x4).toNatClampNeg) t158.1).bind fun t161 => (xf_Ch_arriveAt_164 (xf_Ch_arriveAt_106 n) t161.2 x1 x2 x3 x4 (g 73 ((x2 * (10 : Int32)) + x4).toNatClampNeg) t161.1))) else ((xf_Fr_place g 75 x4).bind fun t143 => (xf_Ch_arriveAt_164 (xf_Ch_arriveAt_106 n) t143.2 x1 x2 x3 x4 (g 73 ((x2 * (10 : Int32)) + x4).toNatClampNeg) t143.1))))))
def xf_Ch_arriveAt_100 (g : qa_St) (x1 : Int32) (x2 : Int32) (x3 : Int32) (s0 : Int32) : qa_Re := ((xf_Ch_need g s0).bind fun t100 => (xf_Ch_arriveAt_106 4096 t100.2 x1 x2 x3 (0 : Int32)))
def xf_Ch_arriveAt_78 (g : qa_St) (x1 : Int32) (x2 : Int32) (x3 : Int32) : qa_Re := (if x2 < 0 ∨ 200 ≤ x2.toNatClampNeg then none else ((xf_Fr_size g 75).bind fun t89 => (if (g 74 x2.toNatClampNeg) = t89.1 then (xf_Ch_arriveAt_100 t89.2 x1 x2 x3 (1 : Int32)) else (xf_Ch_arriveAt_100 t89.2 x1 x2 x3 (0 : Int32)))))
def xf_Ch_arriveAt_75 (g : qa_St) (x1 : Int32) (x2 : Int32) (x3 : Int32) (s0 : Int32) : qa_Re := (xf_Ch_arriveAt_78 (qa_up g 72 5 s0) x1 x2 x3)
def xf_Ch_arriveAt_48 (g : qa_St) (x1 : Int32) (x2 : Int32) (s0 : Int32) : qa_Re := (if s0 = 0 then (xf_Ch_arriveAt_78 g x1 x2 s0) else ((xf_Fr_size g 75).bind fun t62 => (if x2 < 0 ∨ 200 ≤ x2.toNatClampNeg then none else (xf_Ch_arriveAt_75 (qa_up t62.2 74 x2.toNatClampNeg t62.1) x1 x2 s0 (((qa_up t62.2 74 x2.toNatClampNeg t62.1) 72 5) ||| ((1 : Int32) <<< (x1 &&& 31)))))))
def xf_Ch_arriveAt (g : qa_St) (x1 : Int32) : qa_Re := ((xf_Pr_lengthOf g (g 72 4)).bind fun t9 => ((xf_Cw_within t9.2 x1 t9.1).bind fun t12 => (if t12.1 = 0 then (some (0, (qa_up t12.2 72 6 (0 : Int32)))) else ((xf_Ch_rowOf t12.2 (t12.2 72 4) x1).bind fun t29 => (if t29.1 < 0 ∨ 200 ≤ t29.1.toNatClampNeg then none else (if (t29.2 74 t29.1.toNatClampNeg) = (-1 : Int32) then (xf_Ch_arriveAt_48 t29.2 x1 t29.1 (1 : Int32)) else (xf_Ch_arriveAt_48 t29.2 x1 t29.1 (0 : Int32))))))))
set_option maxHeartbeats 4000000 in
set_option maxRecDepth 100000 in
theorem xc_Ch_arriveAt (l : Launch) (D : va_G) (cI cJ cF cZ : ClassId) (ad : Nat → Nat) (g : qa_St) (x1 : Int32) : qa_Mv l y_Ch_arriveAt (qa_ws y_Ch_arriveAt b_Ch_arriveAt 7 none) (qa_rm 4 89) D (qa_ty cI cJ cF cZ) 107 ad (xe_en cI cJ cF ad) [.ref (ad 72), .int x1] g (xf_Ch_arriveAt g x1) := by
  refine qa_metv (by decide) (Nat.le_of_ble_eq_true rfl) ?_
  intro p e s m args below meth c Q A T S hK hN hA hT ret ls hl hO
  have hx := S.1
  have hb := S.2.1
  have hl : lv_has ls 7 [(0, .ref (ad 72)), (1, .int x1)] := hl
  have b199 : ∀ (k106 : qa_St → Int32 → Int32 → Int32 → Int32 → qa_Re) (hk106 : ∀ (g : qa_St) (x1 : Int32) (x2 : Int32) (x3 : Int32) (x4 : Int32) (ls : Array Slot) (H : Heap) (locs : List Loc), lv_has ls 7 [(0, .ref (ad 72)), (1, .int x1), (2, .int x2), (3, .int x3), (4, .int x4)] → qa_O D 107 ad (xe_en cI cJ cF ad) A s.heap g H locs → k106 g x1 x2 x3 x4 = some T → W p l e (qa_rm 4 89) s m args below meth c H locs 0 0 Q (F0 m 106 ls [])), ∀ (g : qa_St) (x1 : Int32) (x2 : Int32) (x3 : Int32) (x4 : Int32) (ls : Array Slot) (H : Heap) (locs : List Loc), lv_has ls 7 [(0, .ref (ad 72)), (1, .int x1), (2, .int x2), (3, .int x3), (4, .int x4)] → qa_O D 107 ad (xe_en cI cJ cF ad) A s.heap g H locs → xf_Ch_arriveAt_199 k106 g x1 x2 x3 x4 = some T → W p l e (qa_rm 4 89) s m args below meth c H locs 0 0 Q (F0 m 199 ls []) := by
    intro k106 hk106
    intro g x1 x2 x3 x4 ls H locs hl hO hT
    unfold xf_Ch_arriveAt_199 at hT
    refine lv_iinc (lv' := [(4, .int (x4 + 1)), (0, .ref (ad 72)), (1, .int x1), (2, .int x2), (3, .int x3)]) hx hb d_Ch_arriveAt_199 hl (k := 4) rfl (qa_o1 _) (by decide) rfl (fun ls hl => ?_)
    refine lv_goto (tgt := 106) hx hb d_Ch_arriveAt_202 (by decide) ?_
    exact hk106 g x1 x2 x3 (x4 + 1) _ _ _ (lv_sub hl [1, 2, 3, 4, 0] rfl) hO hT
  have b196 : ∀ (k106 : qa_St → Int32 → Int32 → Int32 → Int32 → qa_Re) (hk106 : ∀ (g : qa_St) (x1 : Int32) (x2 : Int32) (x3 : Int32) (x4 : Int32) (ls : Array Slot) (H : Heap) (locs : List Loc), lv_has ls 7 [(0, .ref (ad 72)), (1, .int x1), (2, .int x2), (3, .int x3), (4, .int x4)] → qa_O D 107 ad (xe_en cI cJ cF ad) A s.heap g H locs → k106 g x1 x2 x3 x4 = some T → W p l e (qa_rm 4 89) s m args below meth c H locs 0 0 Q (F0 m 106 ls [])), ∀ (g : qa_St) (x1 : Int32) (x2 : Int32) (x3 : Int32) (x4 : Int32) (s0 : Int32) (ls : Array Slot) (H : Heap) (locs : List Loc), lv_has ls 7 [(0, .ref (ad 72)), (1, .int x1), (2, .int x2), (3, .int x3), (4, .int x4)] → qa_O D 107 ad (xe_en cI cJ cF ad) A s.heap g H locs → xf_Ch_arriveAt_196 k106 g x1 x2 x3 x4 s0 = some T → W p l e (qa_rm 4 89) s m args below meth c H locs 0 0 Q (F0 m 196 ls [.int s0, .ref (ad 72)]) := by
    intro k106 hk106
    intro g x1 x2 x3 x4 s0 ls H locs hl hO hT
    unfold xf_Ch_arriveAt_196 at hT
    refine qa_put S hK hO hi_Ch t_Ch t_Ch_ok n_Ch 72 (by decide) rfl rfl 5 (by decide) lf_Ch_33 rfl rfl (ty := .int) (by decide +kernel) rfl rfl (Nat.le_of_ble_eq_true rfl) rfl d_Ch_arriveAt_196 (fun H locs hO => ?_)
    exact b199 k106 hk106 (qa_up g 72 5 s0) x1 x2 x3 x4 _ _ _ (lv_sub hl [0, 1, 2, 3, 4] rfl) hO hT
  have b164 : ∀ (k106 : qa_St → Int32 → Int32 → Int32 → Int32 → qa_Re) (hk106 : ∀ (g : qa_St) (x1 : Int32) (x2 : Int32) (x3 : Int32) (x4 : Int32) (ls : Array Slot) (H : Heap) (locs : List Loc), lv_has ls 7 [(0, .ref (ad 72)), (1, .int x1), (2, .int x2), (3, .int x3), (4, .int x4)] → qa_O D 107 ad (xe_en cI cJ cF ad) A s.heap g H locs → k106 g x1 x2 x3 x4 = some T → W p l e (qa_rm 4 89) s m args below meth c H locs 0 0 Q (F0 m 106 ls [])), ∀ (g : qa_St) (x1 : Int32) (x2 : Int32) (x3 : Int32) (x4 : Int32) (x5 : Int32) (s0 : Int32) (ls : Array Slot) (H : Heap) (locs : List Loc), lv_has ls 7 [(0, .ref (ad 72)), (1, .int x1), (2, .int x2), (3, .int x3), (4, .int x4), (5, .int x5)] → qa_O D 107 ad (xe_en cI cJ cF ad) A s.heap g H locs → xf_Ch_arriveAt_164 k106 g x1 x2 x3 x4 x5 s0 = some T → W p l e (qa_rm 4 89) s m args below meth c H locs 0 0 Q (F0 m 164 ls [.int s0]) := by
    intro k106 hk106
    intro g x1 x2 x3 x4 x5 s0 ls H locs hl hO hT
    unfold xf_Ch_arriveAt_164 at hT
    refine lv_istore (lv' := [(6, .int s0), (0, .ref (ad 72)), (1, .int x1), (2, .int x2), (3, .int x3), (4, .int x4), (5, .int x5)]) hx hb d_Ch_arriveAt_164 hl (by decide) rfl (fun ls hl => ?_)
    refine lv_iload hx hb d_Ch_arriveAt_166 (lv_at hl 0 rfl) ?_
    refine lv_iload hx hb d_Ch_arriveAt_168 (lv_at hl 6 rfl) ?_
    refine lv_icmp_eq (tgt := 199) hx hb d_Ch_arriveAt_170 (by decide) (fun h => ?_) (fun h => ?_)
    · have hT := qa_t hT h
      exact b199 k106 hk106 g x1 x2 x3 x4 _ _ _ (lv_sub hl [1, 2, 3, 4, 5] rfl) hO hT
    · have hT := qa_f hT h
      refine lv_aload_n hx hb d_Ch_arriveAt_173 rfl (lv_at hl 1 rfl) ?_
      refine qa_get S hK hO hi_Ch 72 (by decide) rfl rfl 1 (by decide) lf_Ch_9 rfl rfl d_Ch_arriveAt_174 ?_
      refine lv_iload_n hx hb d_Ch_arriveAt_177 rfl (lv_at hl 3 rfl) ?_
      refine lv_bipush (v := 10) hx hb d_Ch_arriveAt_178 (by decide) ?_
      refine lv_imul hx hb d_Ch_arriveAt_180 ?_
      refine lv_iload hx hb d_Ch_arriveAt_181 (lv_at hl 5 rfl) ?_
      refine lv_iadd hx hb d_Ch_arriveAt_183 ?_
      refine lv_iload hx hb d_Ch_arriveAt_184 (lv_at hl 0 rfl) ?_
      obtain ⟨hi186, hT⟩ := qa_c hT
      refine qa_iast (n := 2000) S hK hO 73 (by decide) 0 (xe_arr rfl) rfl hi186 d_Ch_arriveAt_186 (fun H locs hO => ?_)
      refine lv_aload_n hx hb d_Ch_arriveAt_187 rfl (lv_at hl 1 rfl) ?_
      refine lv_dup hx hb d_Ch_arriveAt_188 rfl ?_
      refine qa_get S hK hO hi_Ch 72 (by decide) rfl rfl 5 (by decide) lf_Ch_33 rfl rfl d_Ch_arriveAt_189 ?_
      refine lv_iconst (v := 1) hx hb d_Ch_arriveAt_192 (by decide) ?_
      refine lv_iload_n hx hb d_Ch_arriveAt_193 rfl (lv_at hl 2 rfl) ?_
      refine lv_ishl hx hb d_Ch_arriveAt_194 ?_
      refine lv_ior hx hb d_Ch_arriveAt_195 ?_
      exact b196 k106 hk106 (qa_up g 73 ((x2 * (10 : Int32)) + x4).toNatClampNeg s0) x1 x2 x3 x4 (((qa_up g 73 ((x2 * (10 : Int32)) + x4).toNatClampNeg s0) 72 5) ||| ((1 : Int32) <<< (x1 &&& 31))) _ _ _ (lv_sub hl [1, 2, 3, 4, 5] rfl) hO hT
  have b106 : ∀ (n : Nat), ∀ (g : qa_St) (x1 : Int32) (x2 : Int32) (x3 : Int32) (x4 : Int32) (ls : Array Slot) (H : Heap) (locs : List Loc), lv_has ls 7 [(0, .ref (ad 72)), (1, .int x1), (2, .int x2), (3, .int x3), (4, .int x4)] → qa_O D 107 ad (xe_en cI cJ cF ad) A s.heap g H locs → xf_Ch_arriveAt_106 n g x1 x2 x3 x4 = some T → W p l e (qa_rm 4 89) s m args below meth c H locs 0 0 Q (F0 m 106 ls []) := by
    intro n
    induction n with
    | zero => intro g x1 x2 x3 x4 ls H locs hl hO hT; rw [xf_Ch_arriveAt_106] at hT; cases hT
    | succ n ih =>
      intro g x1 x2 x3 x4 ls H locs hl hO hT
      rw [xf_Ch_arriveAt_106] at hT
      refine lv_iload hx hb d_Ch_arriveAt_106 (lv_at hl 4 rfl) ?_
      refine lv_iconst (v := 4) hx hb d_Ch_arriveAt_108 (by decide) ?_
      refine lv_aload_n hx hb d_Ch_arriveAt_109 rfl (lv_at hl 0 rfl) ?_
      refine qa_get S hK hO hi_Ch 72 (by decide) rfl rfl 2 (by decide) lf_Ch_15 rfl rfl d_Ch_arriveAt_110 ?_
      refine lv_iload_n hx hb d_Ch_arriveAt_113 rfl (lv_at hl 2 rfl) ?_
      obtain ⟨hi114, hT⟩ := qa_c hT
      refine qa_iald (n := 200) S hK hO 74 (by decide) 0 (xe_arr rfl) rfl hi114 d_Ch_arriveAt_114 ?_
      refine lv_iadd hx hb d_Ch_arriveAt_115 ?_
      refine lv_icmp_ge (tgt := 205) hx hb d_Ch_arriveAt_116 (by decide) (fun h => ?_) (fun h => ?_)
      · have hT := qa_t hT h
        exact ret hT hO d_Ch_arriveAt_205
      · have hT := qa_f hT h
        refine lv_aload_n hx hb d_Ch_arriveAt_119 rfl (lv_at hl 0 rfl) ?_
        refine qa_get S hK hO hi_Ch 72 (by decide) rfl rfl 1 (by decide) lf_Ch_9 rfl rfl d_Ch_arriveAt_120 ?_
        refine lv_iload_n hx hb d_Ch_arriveAt_123 rfl (lv_at hl 2 rfl) ?_
        refine lv_bipush (v := 10) hx hb d_Ch_arriveAt_124 (by decide) ?_
        refine lv_imul hx hb d_Ch_arriveAt_126 ?_
        refine lv_iload hx hb d_Ch_arriveAt_127 (lv_at hl 4 rfl) ?_
        refine lv_iadd hx hb d_Ch_arriveAt_129 ?_
        obtain ⟨hi130, hT⟩ := qa_c hT
        refine qa_iald (n := 2000) S hK hO 73 (by decide) 0 (xe_arr rfl) rfl hi130 d_Ch_arriveAt_130 ?_
        refine lv_istore (lv' := [(5, .int (g 73 ((x2 * (10 : Int32)) + x4).toNatClampNeg)), (0, .ref (ad 72)), (1, .int x1), (2, .int x2), (3, .int x3), (4, .int x4)]) hx hb d_Ch_arriveAt_131 hl (by decide) rfl (fun ls hl => ?_)
        refine lv_iload_n hx hb d_Ch_arriveAt_133 rfl (lv_at hl 4 rfl) ?_
        refine lv_if_eq (tgt := 149) hx hb d_Ch_arriveAt_134 (by decide) (fun h => ?_) (fun h => ?_)
        · have hT := qa_t hT h
          refine lv_aload_n hx hb d_Ch_arriveAt_149 rfl (lv_at hl 1 rfl) ?_
          refine lv_iload hx hb d_Ch_arriveAt_150 (lv_at hl 0 rfl) ?_
          refine lv_aload_n hx hb d_Ch_arriveAt_152 rfl (lv_at hl 1 rfl) ?_
          refine qa_get S hK hO hi_Ch 72 (by decide) rfl rfl 3 (by decide) lf_Ch_21 rfl rfl d_Ch_arriveAt_153 ?_
          refine lv_iload hx hb d_Ch_arriveAt_156 (lv_at hl 5 rfl) ?_
          obtain ⟨t158, ht158, hT⟩ := qa_b hT
          refine qa_Vi (As := [.int x4]) (rest := [.int (g 73 ((x2 * (10 : Int32)) + x4).toNatClampNeg), .ref (ad 72)]) (r := 75) S hK hN hA hO (xc_Fr_place l D cI cJ cF cZ ad g 75 x4 xe_F75) ht158 qy_Fr_place lm_Ch_130 ⟨by decide, by decide⟩ (xe_Flt xe_F75) (xe_fr xe_F75 _) rfl rfl rfl hl.1 rfl (Nat.le_of_ble_eq_true rfl) d_Ch_arriveAt_158 (fun H locs hO => ?_)
          obtain ⟨t161, ht161, hT⟩ := qa_b hT
          refine qa_Vi (As := [.int (g 73 ((x2 * (10 : Int32)) + x4).toNatClampNeg), .int t158.1]) (rest := []) (r := 72) S hK hN hA hO (xc_Ch_join l D cI cJ cF cZ ad t158.2 (g 73 ((x2 * (10 : Int32)) + x4).toNatClampNeg) t158.1) ht161 qy_Ch_join lm_Ch_133 ⟨by decide, by decide⟩ (by decide) rfl rfl rfl rfl hl.1 rfl (Nat.le_of_ble_eq_true rfl) d_Ch_arriveAt_161 (fun H locs hO => ?_)
          exact b164 (xf_Ch_arriveAt_106 n) ih t161.2 x1 x2 x3 x4 (g 73 ((x2 * (10 : Int32)) + x4).toNatClampNeg) t161.1 _ _ _ (lv_sub hl [1, 2, 3, 4, 5, 0] rfl) hO hT
        · have hT := qa_f hT h
          refine lv_aload_n hx hb d_Ch_arriveAt_137 rfl (lv_at hl 1 rfl) ?_
          refine qa_get S hK hO hi_Ch 72 (by decide) rfl rfl 3 (by decide) lf_Ch_21 rfl rfl d_Ch_arriveAt_138 ?_
          refine lv_iload hx hb d_Ch_arriveAt_141 (lv_at hl 5 rfl) ?_
          obtain ⟨t143, ht143, hT⟩ := qa_b hT
          refine qa_Vi (As := [.int x4]) (rest := []) (r := 75) S hK hN hA hO (xc_Fr_place l D cI cJ cF cZ ad g 75 x4 xe_F75) ht143 qy_Fr_place lm_Ch_130 ⟨by decide, by decide⟩ (xe_Flt xe_F75) (xe_fr xe_F75 _) rfl rfl rfl hl.1 rfl (Nat.le_of_ble_eq_true rfl) d_Ch_arriveAt_143 (fun H locs hO => ?_)
          refine lv_goto (tgt := 164) hx hb d_Ch_arriveAt_146 (by decide) ?_
          exact b164 (xf_Ch_arriveAt_106 n) ih t143.2 x1 x2 x3 x4 (g 73 ((x2 * (10 : Int32)) + x4).toNatClampNeg) t143.1 _ _ _ (lv_sub hl [1, 2, 3, 4, 5, 0] rfl) hO hT
  have b100 : ∀ (g : qa_St) (x1 : Int32) (x2 : Int32) (x3 : Int32) (s0 : Int32) (ls : Array Slot) (H : Heap) (locs : List Loc), lv_has ls 7 [(0, .ref (ad 72)), (1, .int x1), (2, .int x2), (3, .int x3)] → qa_O D 107 ad (xe_en cI cJ cF ad) A s.heap g H locs → xf_Ch_arriveAt_100 g x1 x2 x3 s0 = some T → W p l e (qa_rm 4 89) s m args below meth c H locs 0 0 Q (F0 m 100 ls [.int s0, .ref (ad 72)]) := by
    intro g x1 x2 x3 s0 ls H locs hl hO hT
    unfold xf_Ch_arriveAt_100 at hT
    obtain ⟨t100, ht100, hT⟩ := qa_b hT
    refine qa_Vv (As := [.int s0]) (rest := []) (r := 72) S hK hN hA hO (xc_Ch_need l D cI cJ cF cZ ad g s0) ht100 qy_Ch_need lm_Ch_126 ⟨by decide, by decide⟩ (by decide) rfl rfl rfl rfl hl.1 rfl (Nat.le_of_ble_eq_true rfl) d_Ch_arriveAt_100 (fun H locs hO => ?_)
    refine lv_iconst (v := 0) hx hb d_Ch_arriveAt_103 (by decide) ?_
    refine lv_istore (lv' := [(4, .int (0 : Int32)), (0, .ref (ad 72)), (1, .int x1), (2, .int x2), (3, .int x3)]) hx hb d_Ch_arriveAt_104 hl (by decide) rfl (fun ls hl => ?_)
    exact b106 4096 t100.2 x1 x2 x3 (0 : Int32) _ _ _ (lv_sub hl [1, 2, 3, 4, 0] rfl) hO hT
  have b78 : ∀ (g : qa_St) (x1 : Int32) (x2 : Int32) (x3 : Int32) (ls : Array Slot) (H : Heap) (locs : List Loc), lv_has ls 7 [(0, .ref (ad 72)), (1, .int x1), (2, .int x2), (3, .int x3)] → qa_O D 107 ad (xe_en cI cJ cF ad) A s.heap g H locs → xf_Ch_arriveAt_78 g x1 x2 x3 = some T → W p l e (qa_rm 4 89) s m args below meth c H locs 0 0 Q (F0 m 78 ls []) := by
    intro g x1 x2 x3 ls H locs hl hO hT
    unfold xf_Ch_arriveAt_78 at hT
    refine lv_aload_n hx hb d_Ch_arriveAt_78 rfl (lv_at hl 0 rfl) ?_
    refine lv_aload_n hx hb d_Ch_arriveAt_79 rfl (lv_at hl 0 rfl) ?_
    refine qa_get S hK hO hi_Ch 72 (by decide) rfl rfl 2 (by decide) lf_Ch_15 rfl rfl d_Ch_arriveAt_80 ?_
    refine lv_iload_n hx hb d_Ch_arriveAt_83 rfl (lv_at hl 2 rfl) ?_
    obtain ⟨hi84, hT⟩ := qa_c hT
    refine qa_iald (n := 200) S hK hO 74 (by decide) 0 (xe_arr rfl) rfl hi84 d_Ch_arriveAt_84 ?_
    refine lv_aload_n hx hb d_Ch_arriveAt_85 rfl (lv_at hl 0 rfl) ?_
    refine qa_get S hK hO hi_Ch 72 (by decide) rfl rfl 3 (by decide) lf_Ch_21 rfl rfl d_Ch_arriveAt_86 ?_
    obtain ⟨t89, ht89, hT⟩ := qa_b hT
    refine qa_Vi (As := []) (rest := [.int (g 74 x2.toNatClampNeg), .ref (ad 72)]) (r := 75) S hK hN hA hO (xc_Fr_size l D cI cJ cF cZ ad g 75 xe_F75) ht89 qy_Fr_size lm_Ch_123 ⟨by decide, by decide⟩ (xe_Flt xe_F75) (xe_fr xe_F75 _) rfl rfl rfl hl.1 rfl (Nat.le_of_ble_eq_true rfl) d_Ch_arriveAt_89 (fun H locs hO => ?_)
    refine lv_icmp_ne (tgt := 99) hx hb d_Ch_arriveAt_92 (by decide) (fun h => ?_) (fun h => ?_)
    · have hT := qa_f hT h
      refine lv_iconst (v := 0) hx hb d_Ch_arriveAt_99 (by decide) ?_
      exact b100 t89.2 x1 x2 x3 (0 : Int32) _ _ _ (lv_sub hl [0, 1, 2, 3] rfl) hO hT
    · have hT := qa_t hT h
      refine lv_iconst (v := 1) hx hb d_Ch_arriveAt_95 (by decide) ?_
      refine lv_goto (tgt := 100) hx hb d_Ch_arriveAt_96 (by decide) ?_
      exact b100 t89.2 x1 x2 x3 (1 : Int32) _ _ _ (lv_sub hl [0, 1, 2, 3] rfl) hO hT
  have b75 : ∀ (g : qa_St) (x1 : Int32) (x2 : Int32) (x3 : Int32) (s0 : Int32) (ls : Array Slot) (H : Heap) (locs : List Loc), lv_has ls 7 [(0, .ref (ad 72)), (1, .int x1), (2, .int x2), (3, .int x3)] → qa_O D 107 ad (xe_en cI cJ cF ad) A s.heap g H locs → xf_Ch_arriveAt_75 g x1 x2 x3 s0 = some T → W p l e (qa_rm 4 89) s m args below meth c H locs 0 0 Q (F0 m 75 ls [.int s0, .ref (ad 72)]) := by
    intro g x1 x2 x3 s0 ls H locs hl hO hT
    unfold xf_Ch_arriveAt_75 at hT
    refine qa_put S hK hO hi_Ch t_Ch t_Ch_ok n_Ch 72 (by decide) rfl rfl 5 (by decide) lf_Ch_33 rfl rfl (ty := .int) (by decide +kernel) rfl rfl (Nat.le_of_ble_eq_true rfl) rfl d_Ch_arriveAt_75 (fun H locs hO => ?_)
    exact b78 (qa_up g 72 5 s0) x1 x2 x3 _ _ _ (lv_sub hl [0, 1, 2, 3] rfl) hO hT
  have b48 : ∀ (g : qa_St) (x1 : Int32) (x2 : Int32) (s0 : Int32) (ls : Array Slot) (H : Heap) (locs : List Loc), lv_has ls 7 [(0, .ref (ad 72)), (1, .int x1), (2, .int x2)] → qa_O D 107 ad (xe_en cI cJ cF ad) A s.heap g H locs → xf_Ch_arriveAt_48 g x1 x2 s0 = some T → W p l e (qa_rm 4 89) s m args below meth c H locs 0 0 Q (F0 m 48 ls [.int s0]) := by
    intro g x1 x2 s0 ls H locs hl hO hT
    unfold xf_Ch_arriveAt_48 at hT
    refine lv_istore_n (lv' := [(3, .int s0), (0, .ref (ad 72)), (1, .int x1), (2, .int x2)]) hx hb d_Ch_arriveAt_48 rfl hl (by decide) rfl (fun ls hl => ?_)
    refine lv_iload_n hx hb d_Ch_arriveAt_49 rfl (lv_at hl 0 rfl) ?_
    refine lv_if_eq (tgt := 78) hx hb d_Ch_arriveAt_50 (by decide) (fun h => ?_) (fun h => ?_)
    · have hT := qa_t hT h
      exact b78 g x1 x2 s0 _ _ _ (lv_sub hl [1, 2, 3, 0] rfl) hO hT
    · have hT := qa_f hT h
      refine lv_aload_n hx hb d_Ch_arriveAt_53 rfl (lv_at hl 1 rfl) ?_
      refine qa_get S hK hO hi_Ch 72 (by decide) rfl rfl 2 (by decide) lf_Ch_15 rfl rfl d_Ch_arriveAt_54 ?_
      refine lv_iload_n hx hb d_Ch_arriveAt_57 rfl (lv_at hl 3 rfl) ?_
      refine lv_aload_n hx hb d_Ch_arriveAt_58 rfl (lv_at hl 1 rfl) ?_
      refine qa_get S hK hO hi_Ch 72 (by decide) rfl rfl 3 (by decide) lf_Ch_21 rfl rfl d_Ch_arriveAt_59 ?_
      obtain ⟨t62, ht62, hT⟩ := qa_b hT
      refine qa_Vi (As := []) (rest := [.int x2, .ref (ad 74)]) (r := 75) S hK hN hA hO (xc_Fr_size l D cI cJ cF cZ ad g 75 xe_F75) ht62 qy_Fr_size lm_Ch_123 ⟨by decide, by decide⟩ (xe_Flt xe_F75) (xe_fr xe_F75 _) rfl rfl rfl hl.1 rfl (Nat.le_of_ble_eq_true rfl) d_Ch_arriveAt_62 (fun H locs hO => ?_)
      obtain ⟨hi65, hT⟩ := qa_c hT
      refine qa_iast (n := 200) S hK hO 74 (by decide) 0 (xe_arr rfl) rfl hi65 d_Ch_arriveAt_65 (fun H locs hO => ?_)
      refine lv_aload_n hx hb d_Ch_arriveAt_66 rfl (lv_at hl 1 rfl) ?_
      refine lv_dup hx hb d_Ch_arriveAt_67 rfl ?_
      refine qa_get S hK hO hi_Ch 72 (by decide) rfl rfl 5 (by decide) lf_Ch_33 rfl rfl d_Ch_arriveAt_68 ?_
      refine lv_iconst (v := 1) hx hb d_Ch_arriveAt_71 (by decide) ?_
      refine lv_iload_n hx hb d_Ch_arriveAt_72 rfl (lv_at hl 2 rfl) ?_
      refine lv_ishl hx hb d_Ch_arriveAt_73 ?_
      refine lv_ior hx hb d_Ch_arriveAt_74 ?_
      exact b75 (qa_up t62.2 74 x2.toNatClampNeg t62.1) x1 x2 s0 (((qa_up t62.2 74 x2.toNatClampNeg t62.1) 72 5) ||| ((1 : Int32) <<< (x1 &&& 31))) _ _ _ (lv_sub hl [1, 2, 3, 0] rfl) hO hT
  unfold xf_Ch_arriveAt at hT
  refine lv_iload_n hx hb d_Ch_arriveAt_0 rfl (lv_at hl 1 rfl) ?_
  refine lv_aload_n hx hb d_Ch_arriveAt_1 rfl (lv_at hl 0 rfl) ?_
  refine qa_get S hK hO hi_Ch 72 (by decide) rfl rfl 0 (by decide) lf_Ch_25 rfl rfl d_Ch_arriveAt_2 ?_
  refine lv_aload_n hx hb d_Ch_arriveAt_5 rfl (lv_at hl 0 rfl) ?_
  refine qa_get S hK hO hi_Ch 72 (by decide) rfl rfl 4 (by decide) lf_Ch_29 rfl rfl d_Ch_arriveAt_6 ?_
  obtain ⟨t9, ht9, hT⟩ := qa_b hT
  refine qa_Vi (As := [.int (g 72 4)]) (rest := [.int x1]) (r := 1) S hK hN hA hO (xc_Pr_lengthOf l D cI cJ cF cZ ad g (g 72 4)) ht9 qy_Pr_lengthOf lm_Ch_120 ⟨by decide, by decide⟩ (by decide) rfl rfl rfl rfl hl.1 rfl (Nat.le_of_ble_eq_true rfl) d_Ch_arriveAt_9 (fun H locs hO => ?_)
  obtain ⟨t12, ht12, hT⟩ := qa_b hT
  refine qa_SNi (As := [.int x1, .int t9.1]) (rest := []) S hK hN hA hO (xc_Cw_within l D cI cJ cF cZ ad t9.2 x1 t9.1) ht12 qy_Cw_within ln_Ch_67 ⟨by decide, by decide⟩ rfl hl.1 rfl (Nat.le_of_ble_eq_true rfl) d_Ch_arriveAt_12 (fun H locs hO => ?_)
  refine lv_if_ne (tgt := 24) hx hb d_Ch_arriveAt_15 (by decide) (fun h => ?_) (fun h => ?_)
  · have hT := qa_f hT h
    refine lv_aload_n hx hb d_Ch_arriveAt_24 rfl (lv_at hl 0 rfl) ?_
    refine qa_get S hK hO hi_Ch 72 (by decide) rfl rfl 4 (by decide) lf_Ch_29 rfl rfl d_Ch_arriveAt_25 ?_
    refine lv_iload_n hx hb d_Ch_arriveAt_28 rfl (lv_at hl 1 rfl) ?_
    obtain ⟨t29, ht29, hT⟩ := qa_b hT
    refine qa_Si (As := [.int (t12.2 72 4), .int x1]) (rest := []) S hK hN hA hO (xc_Ch_rowOf l D cI cJ cF cZ ad t12.2 (t12.2 72 4) x1) ht29 qy_Ch_rowOf lm_Ch_40 ⟨by decide, by decide⟩ rfl hl.1 rfl (Nat.le_of_ble_eq_true rfl) d_Ch_arriveAt_29 (fun H locs hO => ?_)
    refine lv_istore_n (lv' := [(2, .int t29.1), (0, .ref (ad 72)), (1, .int x1)]) hx hb d_Ch_arriveAt_32 rfl hl (by decide) rfl (fun ls hl => ?_)
    refine lv_aload_n hx hb d_Ch_arriveAt_33 rfl (lv_at hl 1 rfl) ?_
    refine qa_get S hK hO hi_Ch 72 (by decide) rfl rfl 2 (by decide) lf_Ch_15 rfl rfl d_Ch_arriveAt_34 ?_
    refine lv_iload_n hx hb d_Ch_arriveAt_37 rfl (lv_at hl 0 rfl) ?_
    obtain ⟨hi38, hT⟩ := qa_c hT
    refine qa_iald (n := 200) S hK hO 74 (by decide) 0 (xe_arr rfl) rfl hi38 d_Ch_arriveAt_38 ?_
    refine lv_iconst (v := -1) hx hb d_Ch_arriveAt_39 (by decide) ?_
    refine lv_icmp_ne (tgt := 47) hx hb d_Ch_arriveAt_40 (by decide) (fun h => ?_) (fun h => ?_)
    · have hT := qa_f hT h
      refine lv_iconst (v := 0) hx hb d_Ch_arriveAt_47 (by decide) ?_
      exact b48 t29.2 x1 t29.1 (0 : Int32) _ _ _ (lv_sub hl [1, 2, 0] rfl) hO hT
    · have hT := qa_t hT h
      refine lv_iconst (v := 1) hx hb d_Ch_arriveAt_43 (by decide) ?_
      refine lv_goto (tgt := 48) hx hb d_Ch_arriveAt_44 (by decide) ?_
      exact b48 t29.2 x1 t29.1 (1 : Int32) _ _ _ (lv_sub hl [1, 2, 0] rfl) hO hT
  · have hT := qa_t hT h
    refine lv_aload_n hx hb d_Ch_arriveAt_18 rfl (lv_at hl 0 rfl) ?_
    refine lv_iconst (v := 0) hx hb d_Ch_arriveAt_19 (by decide) ?_
    refine qa_put S hK hO hi_Ch t_Ch t_Ch_ok n_Ch 72 (by decide) rfl rfl 6 (by decide) lf_Ch_36 rfl rfl (ty := .boolean) (by decide +kernel) rfl rfl (Nat.le_of_ble_eq_true rfl) rfl d_Ch_arriveAt_20 (fun H locs hO => ?_)
    exact ret hT hO d_Ch_arriveAt_23
def xf_Ch_enterStart_73 (g : qa_St) : qa_Re := ((xf_Ch_arriveAt g (0 : Int32)).bind fun t75 => (some (0, t75.2)))
def xf_Ch_enterStart_9 : Nat → qa_St → Int32 → qa_Re
  | 0, _, _ => none
  | n + 1, g, x1 => ((xf_Pr_inputsOf g (g 72 4)).bind fun t18 => (if t18.1 ≤ x1 then ((xf_Pr_isPlain t18.2 (t18.2 72 4)).bind fun t48 => (if t48.1 = 0 then ((xf_Pr_ownerOf t48.2 (t48.2 72 4)).bind fun t67 => ((xf_Fr_setPlace t67.2 75 (0 : Int32) t67.1).bind fun t70 => (xf_Ch_enterStart_73 t70.2))) else (xf_Ch_enterStart_73 t48.2))) else ((xf_Fr_setPlace t18.2 75 x1 (9 : Int32)).bind fun t31 => ((xf_Ch_enterStart_9 n) t31.2 (x1 + 1)))))
def xf_Ch_enterStart (g : qa_St) : qa_Re := ((xf_Fr_clear g 75).bind fun t4 => (xf_Ch_enterStart_9 4096 t4.2 (0 : Int32)))
set_option maxHeartbeats 4000000 in
set_option maxRecDepth 100000 in
theorem xc_Ch_enterStart (l : Launch) (D : va_G) (cI cJ cF cZ : ClassId) (ad : Nat → Nat) (g : qa_St) : qa_Mv l y_Ch_enterStart (qa_ws y_Ch_enterStart b_Ch_enterStart 2 none) (qa_rm 5 115) D (qa_ty cI cJ cF cZ) 107 ad (xe_en cI cJ cF ad) [.ref (ad 72)] g (xf_Ch_enterStart g) := by
  refine qa_metv (by decide) (Nat.le_of_ble_eq_true rfl) ?_
  intro p e s m args below meth c Q A T S hK hN hA hT ret ls hl hO
  have hx := S.1
  have hb := S.2.1
  have hl : lv_has ls 2 [(0, .ref (ad 72))] := hl
  have b73 : ∀ (g : qa_St) (ls : Array Slot) (H : Heap) (locs : List Loc), lv_has ls 2 [(0, .ref (ad 72))] → qa_O D 107 ad (xe_en cI cJ cF ad) A s.heap g H locs → xf_Ch_enterStart_73 g = some T → W p l e (qa_rm 5 115) s m args below meth c H locs 0 0 Q (F0 m 73 ls []) := by
    intro g ls H locs hl hO hT
    unfold xf_Ch_enterStart_73 at hT
    refine lv_aload_n hx hb d_Ch_enterStart_73 rfl (lv_at hl 0 rfl) ?_
    refine lv_iconst (v := 0) hx hb d_Ch_enterStart_74 (by decide) ?_
    obtain ⟨t75, ht75, hT⟩ := qa_b hT
    refine qa_Vv (As := [.int (0 : Int32)]) (rest := []) (r := 72) S hK hN hA hO (xc_Ch_arriveAt l D cI cJ cF cZ ad g (0 : Int32)) ht75 qy_Ch_arriveAt lm_Ch_91 ⟨by decide, by decide⟩ (by decide) rfl rfl rfl rfl hl.1 rfl (Nat.le_of_ble_eq_true rfl) d_Ch_enterStart_75 (fun H locs hO => ?_)
    exact ret hT hO d_Ch_enterStart_78
  have b9 : ∀ (n : Nat), ∀ (g : qa_St) (x1 : Int32) (ls : Array Slot) (H : Heap) (locs : List Loc), lv_has ls 2 [(0, .ref (ad 72)), (1, .int x1)] → qa_O D 107 ad (xe_en cI cJ cF ad) A s.heap g H locs → xf_Ch_enterStart_9 n g x1 = some T → W p l e (qa_rm 5 115) s m args below meth c H locs 0 0 Q (F0 m 9 ls []) := by
    intro n
    induction n with
    | zero => intro g x1 ls H locs hl hO hT; rw [xf_Ch_enterStart_9] at hT; cases hT
    | succ n ih =>
      intro g x1 ls H locs hl hO hT
      rw [xf_Ch_enterStart_9] at hT
      refine lv_iload_n hx hb d_Ch_enterStart_9 rfl (lv_at hl 1 rfl) ?_
      refine lv_aload_n hx hb d_Ch_enterStart_10 rfl (lv_at hl 0 rfl) ?_
      refine qa_get S hK hO hi_Ch 72 (by decide) rfl rfl 0 (by decide) lf_Ch_25 rfl rfl d_Ch_enterStart_11 ?_
      refine lv_aload_n hx hb d_Ch_enterStart_14 rfl (lv_at hl 0 rfl) ?_
      refine qa_get S hK hO hi_Ch 72 (by decide) rfl rfl 4 (by decide) lf_Ch_29 rfl rfl d_Ch_enterStart_15 ?_
      obtain ⟨t18, ht18, hT⟩ := qa_b hT
      refine qa_Vi (As := [.int (g 72 4)]) (rest := [.int x1]) (r := 1) S hK hN hA hO (xc_Pr_inputsOf l D cI cJ cF cZ ad g (g 72 4)) ht18 qy_Pr_inputsOf lm_Ch_77 ⟨by decide, by decide⟩ (by decide) rfl rfl rfl rfl hl.1 rfl (Nat.le_of_ble_eq_true rfl) d_Ch_enterStart_18 (fun H locs hO => ?_)
      refine lv_icmp_ge (tgt := 40) hx hb d_Ch_enterStart_21 (by decide) (fun h => ?_) (fun h => ?_)
      · have hT := qa_t hT h
        refine lv_aload_n hx hb d_Ch_enterStart_40 rfl (lv_at hl 0 rfl) ?_
        refine qa_get S hK hO hi_Ch 72 (by decide) rfl rfl 0 (by decide) lf_Ch_25 rfl rfl d_Ch_enterStart_41 ?_
        refine lv_aload_n hx hb d_Ch_enterStart_44 rfl (lv_at hl 0 rfl) ?_
        refine qa_get S hK hO hi_Ch 72 (by decide) rfl rfl 4 (by decide) lf_Ch_29 rfl rfl d_Ch_enterStart_45 ?_
        obtain ⟨t48, ht48, hT⟩ := qa_b hT
        refine qa_Vi (As := [.int (t18.2 72 4)]) (rest := []) (r := 1) S hK hN hA hO (xc_Pr_isPlain l D cI cJ cF cZ ad t18.2 (t18.2 72 4)) ht48 qy_Pr_isPlain lm_Ch_85 ⟨by decide, by decide⟩ (by decide) rfl rfl rfl rfl hl.1 rfl (Nat.le_of_ble_eq_true rfl) d_Ch_enterStart_48 (fun H locs hO => ?_)
        refine lv_if_ne (tgt := 73) hx hb d_Ch_enterStart_51 (by decide) (fun h => ?_) (fun h => ?_)
        · have hT := qa_f hT h
          exact b73 t48.2 _ _ _ (lv_sub hl [0] rfl) hO hT
        · have hT := qa_t hT h
          refine lv_aload_n hx hb d_Ch_enterStart_54 rfl (lv_at hl 0 rfl) ?_
          refine qa_get S hK hO hi_Ch 72 (by decide) rfl rfl 3 (by decide) lf_Ch_21 rfl rfl d_Ch_enterStart_55 ?_
          refine lv_iconst (v := 0) hx hb d_Ch_enterStart_58 (by decide) ?_
          refine lv_aload_n hx hb d_Ch_enterStart_59 rfl (lv_at hl 0 rfl) ?_
          refine qa_get S hK hO hi_Ch 72 (by decide) rfl rfl 0 (by decide) lf_Ch_25 rfl rfl d_Ch_enterStart_60 ?_
          refine lv_aload_n hx hb d_Ch_enterStart_63 rfl (lv_at hl 0 rfl) ?_
          refine qa_get S hK hO hi_Ch 72 (by decide) rfl rfl 4 (by decide) lf_Ch_29 rfl rfl d_Ch_enterStart_64 ?_
          obtain ⟨t67, ht67, hT⟩ := qa_b hT
          refine qa_Vi (As := [.int (t48.2 72 4)]) (rest := [.int (0 : Int32), .ref (ad 75)]) (r := 1) S hK hN hA hO (xc_Pr_ownerOf l D cI cJ cF cZ ad t48.2 (t48.2 72 4)) ht67 qy_Pr_ownerOf lm_Ch_88 ⟨by decide, by decide⟩ (by decide) rfl rfl rfl rfl hl.1 rfl (Nat.le_of_ble_eq_true rfl) d_Ch_enterStart_67 (fun H locs hO => ?_)
          obtain ⟨t70, ht70, hT⟩ := qa_b hT
          refine qa_Vv (As := [.int (0 : Int32), .int t67.1]) (rest := []) (r := 75) S hK hN hA hO (xc_Fr_setPlace l D cI cJ cF cZ ad t67.2 75 (0 : Int32) t67.1 xe_F75) ht70 qy_Fr_setPlace lm_Ch_81 ⟨by decide, by decide⟩ (xe_Flt xe_F75) (xe_fr xe_F75 _) rfl rfl rfl hl.1 rfl (Nat.le_of_ble_eq_true rfl) d_Ch_enterStart_70 (fun H locs hO => ?_)
          exact b73 t70.2 _ _ _ (lv_sub hl [0] rfl) hO hT
      · have hT := qa_f hT h
        refine lv_aload_n hx hb d_Ch_enterStart_24 rfl (lv_at hl 0 rfl) ?_
        refine qa_get S hK hO hi_Ch 72 (by decide) rfl rfl 3 (by decide) lf_Ch_21 rfl rfl d_Ch_enterStart_25 ?_
        refine lv_iload_n hx hb d_Ch_enterStart_28 rfl (lv_at hl 1 rfl) ?_
        refine lv_bipush (v := 9) hx hb d_Ch_enterStart_29 (by decide) ?_
        obtain ⟨t31, ht31, hT⟩ := qa_b hT
        refine qa_Vv (As := [.int x1, .int (9 : Int32)]) (rest := []) (r := 75) S hK hN hA hO (xc_Fr_setPlace l D cI cJ cF cZ ad t18.2 75 x1 (9 : Int32) xe_F75) ht31 qy_Fr_setPlace lm_Ch_81 ⟨by decide, by decide⟩ (xe_Flt xe_F75) (xe_fr xe_F75 _) rfl rfl rfl hl.1 rfl (Nat.le_of_ble_eq_true rfl) d_Ch_enterStart_31 (fun H locs hO => ?_)
        refine lv_iinc (lv' := [(1, .int (x1 + 1)), (0, .ref (ad 72))]) hx hb d_Ch_enterStart_34 hl (k := 1) rfl (qa_o1 _) (by decide) rfl (fun ls hl => ?_)
        refine lv_goto (tgt := 9) hx hb d_Ch_enterStart_37 (by decide) ?_
        exact ih t31.2 (x1 + 1) _ _ _ (lv_sub hl [1, 0] rfl) hO hT
  unfold xf_Ch_enterStart at hT
  refine lv_aload_n hx hb d_Ch_enterStart_0 rfl (lv_at hl 0 rfl) ?_
  refine qa_get S hK hO hi_Ch 72 (by decide) rfl rfl 3 (by decide) lf_Ch_21 rfl rfl d_Ch_enterStart_1 ?_
  obtain ⟨t4, ht4, hT⟩ := qa_b hT
  refine qa_Vv (As := []) (rest := []) (r := 75) S hK hN hA hO (xc_Fr_clear l D cI cJ cF cZ ad g 75 xe_F75) ht4 qy_Fr_clear lm_Ch_74 ⟨by decide, by decide⟩ (xe_Flt xe_F75) (xe_fr xe_F75 _) rfl rfl rfl hl.1 rfl (Nat.le_of_ble_eq_true rfl) d_Ch_enterStart_4 (fun H locs hO => ?_)
  refine lv_iconst (v := 0) hx hb d_Ch_enterStart_7 (by decide) ?_
  refine lv_istore_n (lv' := [(1, .int (0 : Int32)), (0, .ref (ad 72))]) hx hb d_Ch_enterStart_8 rfl hl (by decide) rfl (fun ls hl => ?_)
  exact b9 4096 t4.2 (0 : Int32) _ _ _ (lv_sub hl [1, 0] rfl) hO hT
def xf_Ch_firstWaiting_2 : Nat → qa_St → Int32 → qa_Re
  | 0, _, _ => none
  | n + 1, g, x1 => (if (19 : Int32) ≤ x1 then (some (x1, g)) else ((xf_Cw_has g (g 72 5) x1).bind fun t13 => (if t13.1 = 0 then ((xf_Ch_firstWaiting_2 n) t13.2 (x1 + 1)) else (some (x1, t13.2)))))
def xf_Ch_firstWaiting (g : qa_St) : qa_Re := (xf_Ch_firstWaiting_2 4096 g (0 : Int32))
set_option maxHeartbeats 4000000 in
set_option maxRecDepth 100000 in
theorem xc_Ch_firstWaiting (l : Launch) (D : va_G) (cI cJ cF cZ : ClassId) (ad : Nat → Nat) (g : qa_St) : qa_Mi l y_Ch_firstWaiting (qa_ws y_Ch_firstWaiting b_Ch_firstWaiting 2 (some .int)) (qa_rm 1 21) D (qa_ty cI cJ cF cZ) 107 ad (xe_en cI cJ cF ad) [.ref (ad 72)] g (xf_Ch_firstWaiting g) := by
  refine qa_meti (by decide) (Nat.le_of_ble_eq_true rfl) ?_
  intro p e s m args below meth c Q A T S hK hN hA hT ret ls hl hO
  have hx := S.1
  have hb := S.2.1
  have hl : lv_has ls 2 [(0, .ref (ad 72))] := hl
  have b2 : ∀ (n : Nat), ∀ (g : qa_St) (x1 : Int32) (ls : Array Slot) (H : Heap) (locs : List Loc), lv_has ls 2 [(0, .ref (ad 72)), (1, .int x1)] → qa_O D 107 ad (xe_en cI cJ cF ad) A s.heap g H locs → xf_Ch_firstWaiting_2 n g x1 = some T → W p l e (qa_rm 1 21) s m args below meth c H locs 0 0 Q (F0 m 2 ls []) := by
    intro n
    induction n with
    | zero => intro g x1 ls H locs hl hO hT; rw [xf_Ch_firstWaiting_2] at hT; cases hT
    | succ n ih =>
      intro g x1 ls H locs hl hO hT
      rw [xf_Ch_firstWaiting_2] at hT
      refine lv_iload_n hx hb d_Ch_firstWaiting_2 rfl (lv_at hl 1 rfl) ?_
      refine lv_bipush (v := 19) hx hb d_Ch_firstWaiting_3 (by decide) ?_
      refine lv_icmp_ge (tgt := 25) hx hb d_Ch_firstWaiting_5 (by decide) (fun h => ?_) (fun h => ?_)
      · have hT := qa_t hT h
        refine lv_iload_n hx hb d_Ch_firstWaiting_25 rfl (lv_at hl 1 rfl) ?_
        exact ret hT hO d_Ch_firstWaiting_26
      · have hT := qa_f hT h
        refine lv_aload_n hx hb d_Ch_firstWaiting_8 rfl (lv_at hl 0 rfl) ?_
        refine qa_get S hK hO hi_Ch 72 (by decide) rfl rfl 5 (by decide) lf_Ch_33 rfl rfl d_Ch_firstWaiting_9 ?_
        refine lv_iload_n hx hb d_Ch_firstWaiting_12 rfl (lv_at hl 1 rfl) ?_
        obtain ⟨t13, ht13, hT⟩ := qa_b hT
        refine qa_SNi (As := [.int (g 72 5), .int x1]) (rest := []) S hK hN hA hO (xc_Cw_has l D cI cJ cF cZ ad g (g 72 5) x1) ht13 qy_Cw_has ln_Ch_94 ⟨by decide, by decide⟩ rfl hl.1 rfl (Nat.le_of_ble_eq_true rfl) d_Ch_firstWaiting_13 (fun H locs hO => ?_)
        refine lv_if_ne (tgt := 25) hx hb d_Ch_firstWaiting_16 (by decide) (fun h => ?_) (fun h => ?_)
        · have hT := qa_f hT h
          refine lv_iload_n hx hb d_Ch_firstWaiting_25 rfl (lv_at hl 1 rfl) ?_
          exact ret hT hO d_Ch_firstWaiting_26
        · have hT := qa_t hT h
          refine lv_iinc (lv' := [(1, .int (x1 + 1)), (0, .ref (ad 72))]) hx hb d_Ch_firstWaiting_19 hl (k := 1) rfl (qa_o1 _) (by decide) rfl (fun ls hl => ?_)
          refine lv_goto (tgt := 2) hx hb d_Ch_firstWaiting_22 (by decide) ?_
          exact ih t13.2 (x1 + 1) _ _ _ (lv_sub hl [1, 0] rfl) hO hT
  unfold xf_Ch_firstWaiting at hT
  refine lv_iconst (v := 0) hx hb d_Ch_firstWaiting_0 (by decide) ?_
  refine lv_istore_n (lv' := [(1, .int (0 : Int32)), (0, .ref (ad 72))]) hx hb d_Ch_firstWaiting_1 rfl hl (by decide) rfl (fun ls hl => ?_)
  exact b2 4096 g (0 : Int32) _ _ _ (lv_sub hl [1, 0] rfl) hO hT
def xf_Pr_handlerOf_55 (k12 : qa_St → Int32 → Int32 → Int32 → qa_Re) (g : qa_St) (x1 : Int32) (x2 : Int32) (x3 : Int32) : qa_Re := (k12 g x1 x2 (x3 + 1))
def xf_Pr_handlerOf_12 : Nat → qa_St → Int32 → Int32 → Int32 → qa_Re
  | 0, _, _, _, _ => none
  | n + 1, g, x1, x2, x3 => (if x1 < 0 ∨ 10 ≤ x1.toNatClampNeg then none else (if (g 38 x1.toNatClampNeg) ≤ x3 then (some ((-1 : Int32), g)) else (if x1 < 0 ∨ 10 ≤ x1.toNatClampNeg then none else (if x3 < 0 ∨ 3 ≤ x3.toNatClampNeg then none else (if x2 < (g (40 + x1.toNatClampNeg) x3.toNatClampNeg) then (xf_Pr_handlerOf_55 (xf_Pr_handlerOf_12 n) g x1 x2 x3) else (if x1 < 0 ∨ 10 ≤ x1.toNatClampNeg then none else (if x3 < 0 ∨ 3 ≤ x3.toNatClampNeg then none else (if (g (51 + x1.toNatClampNeg) x3.toNatClampNeg) ≤ x2 then (xf_Pr_handlerOf_55 (xf_Pr_handlerOf_12 n) g x1 x2 x3) else (if x1 < 0 ∨ 10 ≤ x1.toNatClampNeg then none else (if x3 < 0 ∨ 3 ≤ x3.toNatClampNeg then none else (some ((g (62 + x1.toNatClampNeg) x3.toNatClampNeg), g))))))))))))
def xf_Pr_handlerOf (g : qa_St) (x1 : Int32) (x2 : Int32) : qa_Re := ((xf_Pr_isMethod g x1).bind fun t2 => (if t2.1 = 0 then (some ((-1 : Int32), t2.2)) else (xf_Pr_handlerOf_12 4096 t2.2 x1 x2 (0 : Int32))))
set_option maxHeartbeats 4000000 in
set_option maxRecDepth 100000 in
theorem xc_Pr_handlerOf (l : Launch) (D : va_G) (cI cJ cF cZ : ClassId) (ad : Nat → Nat) (g : qa_St) (x1 : Int32) (x2 : Int32) : qa_Mi l y_Pr_handlerOf (qa_ws y_Pr_handlerOf b_Pr_handlerOf 4 (some .int)) (qa_rm 1 21) D (qa_ty cI cJ cF cZ) 107 ad (xe_en cI cJ cF ad) [.ref (ad 1), .int x1, .int x2] g (xf_Pr_handlerOf g x1 x2) := by
  refine qa_meti (by decide) (Nat.le_of_ble_eq_true rfl) ?_
  intro p e s m args below meth c Q A T S hK hN hA hT ret ls hl hO
  have hx := S.1
  have hb := S.2.1
  have hl : lv_has ls 4 [(0, .ref (ad 1)), (1, .int x1), (2, .int x2)] := hl
  have b55 : ∀ (k12 : qa_St → Int32 → Int32 → Int32 → qa_Re) (hk12 : ∀ (g : qa_St) (x1 : Int32) (x2 : Int32) (x3 : Int32) (ls : Array Slot) (H : Heap) (locs : List Loc), lv_has ls 4 [(0, .ref (ad 1)), (1, .int x1), (2, .int x2), (3, .int x3)] → qa_O D 107 ad (xe_en cI cJ cF ad) A s.heap g H locs → k12 g x1 x2 x3 = some T → W p l e (qa_rm 1 21) s m args below meth c H locs 0 0 Q (F0 m 12 ls [])), ∀ (g : qa_St) (x1 : Int32) (x2 : Int32) (x3 : Int32) (ls : Array Slot) (H : Heap) (locs : List Loc), lv_has ls 4 [(0, .ref (ad 1)), (1, .int x1), (2, .int x2), (3, .int x3)] → qa_O D 107 ad (xe_en cI cJ cF ad) A s.heap g H locs → xf_Pr_handlerOf_55 k12 g x1 x2 x3 = some T → W p l e (qa_rm 1 21) s m args below meth c H locs 0 0 Q (F0 m 55 ls []) := by
    intro k12 hk12
    intro g x1 x2 x3 ls H locs hl hO hT
    unfold xf_Pr_handlerOf_55 at hT
    refine lv_iinc (lv' := [(3, .int (x3 + 1)), (0, .ref (ad 1)), (1, .int x1), (2, .int x2)]) hx hb d_Pr_handlerOf_55 hl (k := 3) rfl (qa_o1 _) (by decide) rfl (fun ls hl => ?_)
    refine lv_goto (tgt := 12) hx hb d_Pr_handlerOf_58 (by decide) ?_
    exact hk12 g x1 x2 (x3 + 1) _ _ _ (lv_sub hl [1, 2, 3, 0] rfl) hO hT
  have b12 : ∀ (n : Nat), ∀ (g : qa_St) (x1 : Int32) (x2 : Int32) (x3 : Int32) (ls : Array Slot) (H : Heap) (locs : List Loc), lv_has ls 4 [(0, .ref (ad 1)), (1, .int x1), (2, .int x2), (3, .int x3)] → qa_O D 107 ad (xe_en cI cJ cF ad) A s.heap g H locs → xf_Pr_handlerOf_12 n g x1 x2 x3 = some T → W p l e (qa_rm 1 21) s m args below meth c H locs 0 0 Q (F0 m 12 ls []) := by
    intro n
    induction n with
    | zero => intro g x1 x2 x3 ls H locs hl hO hT; rw [xf_Pr_handlerOf_12] at hT; cases hT
    | succ n ih =>
      intro g x1 x2 x3 ls H locs hl hO hT
      rw [xf_Pr_handlerOf_12] at hT
      refine lv_iload_n hx hb d_Pr_handlerOf_12 rfl (lv_at hl 3 rfl) ?_
      refine lv_aload_n hx hb d_Pr_handlerOf_13 rfl (lv_at hl 0 rfl) ?_
      refine qa_get S hK hO hi_Pr 1 (by decide) rfl rfl 12 (by decide) lf_Pr_44 rfl rfl d_Pr_handlerOf_14 ?_
      refine lv_iload_n hx hb d_Pr_handlerOf_17 rfl (lv_at hl 1 rfl) ?_
      obtain ⟨hi18, hT⟩ := qa_c hT
      refine qa_iald (n := 10) S hK hO 38 (by decide) 0 (xe_arr rfl) rfl hi18 d_Pr_handlerOf_18 ?_
      refine lv_icmp_ge (tgt := 61) hx hb d_Pr_handlerOf_19 (by decide) (fun h => ?_) (fun h => ?_)
      · have hT := qa_t hT h
        refine lv_iconst (v := -1) hx hb d_Pr_handlerOf_61 (by decide) ?_
        exact ret hT hO d_Pr_handlerOf_62
      · have hT := qa_f hT h
        refine lv_aload_n hx hb d_Pr_handlerOf_22 rfl (lv_at hl 0 rfl) ?_
        refine qa_get S hK hO hi_Pr 1 (by decide) rfl rfl 13 (by decide) lf_Pr_47 rfl rfl d_Pr_handlerOf_23 ?_
        refine lv_iload_n hx hb d_Pr_handlerOf_26 rfl (lv_at hl 1 rfl) ?_
        obtain ⟨hi27, hT⟩ := qa_c hT
        refine qa_aald (n := 10) S hK hO 39 (by decide) 1 rfl rfl rfl hi27 rfl d_Pr_handlerOf_27 ?_
        refine lv_iload_n hx hb d_Pr_handlerOf_28 rfl (lv_at hl 3 rfl) ?_
        obtain ⟨hi29, hT⟩ := qa_c hT
        refine qa_iald (n := 3) S hK hO (40 + x1.toNatClampNeg) (qa_rowlt hi27 (by decide)) 0 (xe_arr (xr_39 _ (qa_lt hi27))) rfl hi29 d_Pr_handlerOf_29 ?_
        refine lv_iload_n hx hb d_Pr_handlerOf_30 rfl (lv_at hl 2 rfl) ?_
        refine lv_icmp_gt (tgt := 55) hx hb d_Pr_handlerOf_31 (by decide) (fun h => ?_) (fun h => ?_)
        · have hT := qa_t hT h
          exact b55 (xf_Pr_handlerOf_12 n) ih g x1 x2 x3 _ _ _ (lv_sub hl [0, 1, 2, 3] rfl) hO hT
        · have hT := qa_f hT h
          refine lv_iload_n hx hb d_Pr_handlerOf_34 rfl (lv_at hl 2 rfl) ?_
          refine lv_aload_n hx hb d_Pr_handlerOf_35 rfl (lv_at hl 0 rfl) ?_
          refine qa_get S hK hO hi_Pr 1 (by decide) rfl rfl 14 (by decide) lf_Pr_50 rfl rfl d_Pr_handlerOf_36 ?_
          refine lv_iload_n hx hb d_Pr_handlerOf_39 rfl (lv_at hl 1 rfl) ?_
          obtain ⟨hi40, hT⟩ := qa_c hT
          refine qa_aald (n := 10) S hK hO 50 (by decide) 1 rfl rfl rfl hi40 rfl d_Pr_handlerOf_40 ?_
          refine lv_iload_n hx hb d_Pr_handlerOf_41 rfl (lv_at hl 3 rfl) ?_
          obtain ⟨hi42, hT⟩ := qa_c hT
          refine qa_iald (n := 3) S hK hO (51 + x1.toNatClampNeg) (qa_rowlt hi40 (by decide)) 0 (xe_arr (xr_50 _ (qa_lt hi40))) rfl hi42 d_Pr_handlerOf_42 ?_
          refine lv_icmp_ge (tgt := 55) hx hb d_Pr_handlerOf_43 (by decide) (fun h => ?_) (fun h => ?_)
          · have hT := qa_t hT h
            exact b55 (xf_Pr_handlerOf_12 n) ih g x1 x2 x3 _ _ _ (lv_sub hl [0, 1, 2, 3] rfl) hO hT
          · have hT := qa_f hT h
            refine lv_aload_n hx hb d_Pr_handlerOf_46 rfl (lv_at hl 0 rfl) ?_
            refine qa_get S hK hO hi_Pr 1 (by decide) rfl rfl 15 (by decide) lf_Pr_53 rfl rfl d_Pr_handlerOf_47 ?_
            refine lv_iload_n hx hb d_Pr_handlerOf_50 rfl (lv_at hl 1 rfl) ?_
            obtain ⟨hi51, hT⟩ := qa_c hT
            refine qa_aald (n := 10) S hK hO 61 (by decide) 1 rfl rfl rfl hi51 rfl d_Pr_handlerOf_51 ?_
            refine lv_iload_n hx hb d_Pr_handlerOf_52 rfl (lv_at hl 3 rfl) ?_
            obtain ⟨hi53, hT⟩ := qa_c hT
            refine qa_iald (n := 3) S hK hO (62 + x1.toNatClampNeg) (qa_rowlt hi51 (by decide)) 0 (xe_arr (xr_61 _ (qa_lt hi51))) rfl hi53 d_Pr_handlerOf_53 ?_
            exact ret hT hO d_Pr_handlerOf_54
  unfold xf_Pr_handlerOf at hT
  refine lv_aload_n hx hb d_Pr_handlerOf_0 rfl (lv_at hl 0 rfl) ?_
  refine lv_iload_n hx hb d_Pr_handlerOf_1 rfl (lv_at hl 1 rfl) ?_
  obtain ⟨t2, ht2, hT⟩ := qa_b hT
  refine qa_Vi (As := [.int x1]) (rest := []) (r := 1) S hK hN hA hO (xc_Pr_isMethod l D cI cJ cF cZ ad g x1) ht2 qy_Pr_isMethod lm_Pr_87 ⟨by decide, by decide⟩ (by decide) rfl rfl rfl rfl hl.1 rfl (Nat.le_of_ble_eq_true rfl) d_Pr_handlerOf_2 (fun H locs hO => ?_)
  refine lv_if_ne (tgt := 10) hx hb d_Pr_handlerOf_5 (by decide) (fun h => ?_) (fun h => ?_)
  · have hT := qa_f hT h
    refine lv_iconst (v := 0) hx hb d_Pr_handlerOf_10 (by decide) ?_
    refine lv_istore_n (lv' := [(3, .int (0 : Int32)), (0, .ref (ad 1)), (1, .int x1), (2, .int x2)]) hx hb d_Pr_handlerOf_11 rfl hl (by decide) rfl (fun ls hl => ?_)
    exact b12 4096 t2.2 x1 x2 (0 : Int32) _ _ _ (lv_sub hl [1, 2, 3, 0] rfl) hO hT
  · have hT := qa_t hT h
    refine lv_iconst (v := -1) hx hb d_Pr_handlerOf_8 (by decide) ?_
    exact ret hT hO d_Pr_handlerOf_9
