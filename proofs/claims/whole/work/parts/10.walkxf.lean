def xf_Re_touch_45 (k2 : qa_St → Int32 → Int32 → qa_Re) (g : qa_St) (x1 : Int32) (x2 : Int32) : qa_Re := (k2 g x1 (x2 + 1))
def xf_Re_touch_2 : Nat → qa_St → Int32 → Int32 → qa_Re
  | 0, _, _, _ => none
  | n + 1, g, x1, x2 => (if x1 < x2 then (some (0, g)) else ((xf_Pr_initialiserOf g x2).bind fun t12 => ((xf_Pr_isOf t12.2 x1 x2).bind fun t22 => (if t22.1 = 0 then (xf_Re_touch_45 (xf_Re_touch_2 n) t22.2 x1 x2) else (if t12.1 = (-1 : Int32) then (xf_Re_touch_45 (xf_Re_touch_2 n) t22.2 x1 x2) else (xf_Re_touch_45 (xf_Re_touch_2 n) (qa_up t22.2 77 2 ((t22.2 77 2) ||| ((1 : Int32) <<< (t12.1 &&& 31)))) x1 x2))))))
def xf_Re_touch (g : qa_St) (x1 : Int32) : qa_Re := (xf_Re_touch_2 4096 g x1 (0 : Int32))
set_option maxHeartbeats 4000000 in
set_option maxRecDepth 100000 in
theorem xc_Re_touch (l : Launch) (D : va_G) (cI cJ cF cZ : ClassId) (ad : Nat → Nat) (g : qa_St) (x1 : Int32) : qa_Mv l y_Re_touch (qa_ws y_Re_touch b_Re_touch 4 none) (qa_rm 2 43) D (qa_ty cI cJ cF cZ) 107 ad (xe_en cI cJ cF ad) [.ref (ad 77), .int x1] g (xf_Re_touch g x1) := by
  refine qa_metv (by decide) (Nat.le_of_ble_eq_true rfl) ?_
  intro p e s m args below meth c Q A T S hK hN hA hT ret ls hl hO
  have hx := S.1
  have hb := S.2.1
  have hl : lv_has ls 4 [(0, .ref (ad 77)), (1, .int x1)] := hl
  have b45 : ∀ (k2 : qa_St → Int32 → Int32 → qa_Re) (hk2 : ∀ (g : qa_St) (x1 : Int32) (x2 : Int32) (ls : Array Slot) (H : Heap) (locs : List Loc), lv_has ls 4 [(0, .ref (ad 77)), (1, .int x1), (2, .int x2)] → qa_O D 107 ad (xe_en cI cJ cF ad) A s.heap g H locs → k2 g x1 x2 = some T → W p l e (qa_rm 2 43) s m args below meth c H locs 0 0 Q (F0 m 2 ls [])), ∀ (g : qa_St) (x1 : Int32) (x2 : Int32) (ls : Array Slot) (H : Heap) (locs : List Loc), lv_has ls 4 [(0, .ref (ad 77)), (1, .int x1), (2, .int x2)] → qa_O D 107 ad (xe_en cI cJ cF ad) A s.heap g H locs → xf_Re_touch_45 k2 g x1 x2 = some T → W p l e (qa_rm 2 43) s m args below meth c H locs 0 0 Q (F0 m 45 ls []) := by
    intro k2 hk2
    intro g x1 x2 ls H locs hl hO hT
    unfold xf_Re_touch_45 at hT
    refine lv_iinc (lv' := [(2, .int (x2 + 1)), (0, .ref (ad 77)), (1, .int x1)]) hx hb d_Re_touch_45 hl (k := 2) rfl (qa_o1 _) (by decide) rfl (fun ls hl => ?_)
    refine lv_goto (tgt := 2) hx hb d_Re_touch_48 (by decide) ?_
    exact hk2 g x1 (x2 + 1) _ _ _ (lv_sub hl [1, 2, 0] rfl) hO hT
  have b2 : ∀ (n : Nat), ∀ (g : qa_St) (x1 : Int32) (x2 : Int32) (ls : Array Slot) (H : Heap) (locs : List Loc), lv_has ls 4 [(0, .ref (ad 77)), (1, .int x1), (2, .int x2)] → qa_O D 107 ad (xe_en cI cJ cF ad) A s.heap g H locs → xf_Re_touch_2 n g x1 x2 = some T → W p l e (qa_rm 2 43) s m args below meth c H locs 0 0 Q (F0 m 2 ls []) := by
    intro n
    induction n with
    | zero => intro g x1 x2 ls H locs hl hO hT; rw [xf_Re_touch_2] at hT; cases hT
    | succ n ih =>
      intro g x1 x2 ls H locs hl hO hT
      rw [xf_Re_touch_2] at hT
      refine lv_iload_n hx hb d_Re_touch_2 rfl (lv_at hl 2 rfl) ?_
      refine lv_iload_n hx hb d_Re_touch_3 rfl (lv_at hl 1 rfl) ?_
      refine lv_icmp_gt (tgt := 51) hx hb d_Re_touch_4 (by decide) (fun h => ?_) (fun h => ?_)
      · have hT := qa_t hT h
        exact ret hT hO d_Re_touch_51
      · have hT := qa_f hT h
        refine lv_aload_n hx hb d_Re_touch_7 rfl (lv_at hl 0 rfl) ?_
        refine qa_get S hK hO hi_Re 77 (by decide) rfl rfl 0 (by decide) lf_Re_9 rfl rfl d_Re_touch_8 ?_
        refine lv_iload_n hx hb d_Re_touch_11 rfl (lv_at hl 2 rfl) ?_
        obtain ⟨t12, ht12, hT⟩ := qa_b hT
        refine qa_Vi (As := [.int x2]) (rest := []) (r := 1) S hK hN hA hO (xc_Pr_initialiserOf l D cI cJ cF cZ ad g x2) ht12 qy_Pr_initialiserOf lm_Re_91 ⟨by decide, by decide⟩ (by decide) rfl rfl rfl rfl hl.1 rfl (Nat.le_of_ble_eq_true rfl) d_Re_touch_12 (fun H locs hO => ?_)
        refine lv_istore_n (lv' := [(3, .int t12.1), (0, .ref (ad 77)), (1, .int x1), (2, .int x2)]) hx hb d_Re_touch_15 rfl hl (by decide) rfl (fun ls hl => ?_)
        refine lv_aload_n hx hb d_Re_touch_16 rfl (lv_at hl 1 rfl) ?_
        refine qa_get S hK hO hi_Re 77 (by decide) rfl rfl 0 (by decide) lf_Re_9 rfl rfl d_Re_touch_17 ?_
        refine lv_iload_n hx hb d_Re_touch_20 rfl (lv_at hl 2 rfl) ?_
        refine lv_iload_n hx hb d_Re_touch_21 rfl (lv_at hl 3 rfl) ?_
        obtain ⟨t22, ht22, hT⟩ := qa_b hT
        refine qa_Vi (As := [.int x1, .int x2]) (rest := []) (r := 1) S hK hN hA hO (xc_Pr_isOf l D cI cJ cF cZ ad t12.2 x1 x2) ht22 qy_Pr_isOf lm_Re_59 ⟨by decide, by decide⟩ (by decide) rfl rfl rfl rfl hl.1 rfl (Nat.le_of_ble_eq_true rfl) d_Re_touch_22 (fun H locs hO => ?_)
        refine lv_if_eq (tgt := 45) hx hb d_Re_touch_25 (by decide) (fun h => ?_) (fun h => ?_)
        · have hT := qa_t hT h
          exact b45 (xf_Re_touch_2 n) ih t22.2 x1 x2 _ _ _ (lv_sub hl [1, 2, 3] rfl) hO hT
        · have hT := qa_f hT h
          refine lv_iload_n hx hb d_Re_touch_28 rfl (lv_at hl 0 rfl) ?_
          refine lv_iconst (v := -1) hx hb d_Re_touch_29 (by decide) ?_
          refine lv_icmp_eq (tgt := 45) hx hb d_Re_touch_30 (by decide) (fun h => ?_) (fun h => ?_)
          · have hT := qa_t hT h
            exact b45 (xf_Re_touch_2 n) ih t22.2 x1 x2 _ _ _ (lv_sub hl [1, 2, 3] rfl) hO hT
          · have hT := qa_f hT h
            refine lv_aload_n hx hb d_Re_touch_33 rfl (lv_at hl 1 rfl) ?_
            refine lv_dup hx hb d_Re_touch_34 rfl ?_
            refine qa_get S hK hO hi_Re 77 (by decide) rfl rfl 2 (by decide) lf_Re_19 rfl rfl d_Re_touch_35 ?_
            refine lv_iconst (v := 1) hx hb d_Re_touch_38 (by decide) ?_
            refine lv_iload_n hx hb d_Re_touch_39 rfl (lv_at hl 0 rfl) ?_
            refine lv_ishl hx hb d_Re_touch_40 ?_
            refine lv_ior hx hb d_Re_touch_41 ?_
            refine qa_put S hK hO hi_Re t_Re t_Re_ok n_Re 77 (by decide) rfl rfl 2 (by decide) lf_Re_19 rfl rfl (ty := .int) (by decide +kernel) rfl rfl (Nat.le_of_ble_eq_true rfl) rfl d_Re_touch_42 (fun H locs hO => ?_)
            exact b45 (xf_Re_touch_2 n) ih (qa_up t22.2 77 2 ((t22.2 77 2) ||| ((1 : Int32) <<< (t12.1 &&& 31)))) x1 x2 _ _ _ (lv_sub hl [1, 2, 3] rfl) hO hT
  unfold xf_Re_touch at hT
  refine lv_iconst (v := 0) hx hb d_Re_touch_0 (by decide) ?_
  refine lv_istore_n (lv' := [(2, .int (0 : Int32)), (0, .ref (ad 77)), (1, .int x1)]) hx hb d_Re_touch_1 rfl hl (by decide) rfl (fun ls hl => ?_)
  exact b2 4096 g x1 (0 : Int32) _ _ _ (lv_sub hl [1, 2, 0] rfl) hO hT
def xf_Re_reachCall (g : qa_St) (x1 : Int32) : qa_Re := ((xf_Pr_ownerOf (qa_up g 77 2 ((g 77 2) ||| ((1 : Int32) <<< (x1 &&& 31)))) x1).bind fun t18 => ((xf_Re_touch t18.2 t18.1).bind fun t21 => (some (0, t21.2))))
set_option maxHeartbeats 4000000 in
set_option maxRecDepth 100000 in
theorem xc_Re_reachCall (l : Launch) (D : va_G) (cI cJ cF cZ : ClassId) (ad : Nat → Nat) (g : qa_St) (x1 : Int32) : qa_Mv l y_Re_reachCall (qa_ws y_Re_reachCall b_Re_reachCall 2 none) (qa_rm 3 66) D (qa_ty cI cJ cF cZ) 107 ad (xe_en cI cJ cF ad) [.ref (ad 77), .int x1] g (xf_Re_reachCall g x1) := by
  refine qa_metv (by decide) (Nat.le_of_ble_eq_true rfl) ?_
  intro p e s m args below meth c Q A T S hK hN hA hT ret ls hl hO
  have hx := S.1
  have hb := S.2.1
  have hl : lv_has ls 2 [(0, .ref (ad 77)), (1, .int x1)] := hl
  unfold xf_Re_reachCall at hT
  refine lv_aload_n hx hb d_Re_reachCall_0 rfl (lv_at hl 0 rfl) ?_
  refine lv_dup hx hb d_Re_reachCall_1 rfl ?_
  refine qa_get S hK hO hi_Re 77 (by decide) rfl rfl 2 (by decide) lf_Re_19 rfl rfl d_Re_reachCall_2 ?_
  refine lv_iconst (v := 1) hx hb d_Re_reachCall_5 (by decide) ?_
  refine lv_iload_n hx hb d_Re_reachCall_6 rfl (lv_at hl 1 rfl) ?_
  refine lv_ishl hx hb d_Re_reachCall_7 ?_
  refine lv_ior hx hb d_Re_reachCall_8 ?_
  refine qa_put S hK hO hi_Re t_Re t_Re_ok n_Re 77 (by decide) rfl rfl 2 (by decide) lf_Re_19 rfl rfl (ty := .int) (by decide +kernel) rfl rfl (Nat.le_of_ble_eq_true rfl) rfl d_Re_reachCall_9 (fun H locs hO => ?_)
  refine lv_aload_n hx hb d_Re_reachCall_12 rfl (lv_at hl 0 rfl) ?_
  refine lv_aload_n hx hb d_Re_reachCall_13 rfl (lv_at hl 0 rfl) ?_
  refine qa_get S hK hO hi_Re 77 (by decide) rfl rfl 0 (by decide) lf_Re_9 rfl rfl d_Re_reachCall_14 ?_
  refine lv_iload_n hx hb d_Re_reachCall_17 rfl (lv_at hl 1 rfl) ?_
  obtain ⟨t18, ht18, hT⟩ := qa_b hT
  refine qa_Vi (As := [.int x1]) (rest := [.ref (ad 77)]) (r := 1) S hK hN hA hO (xc_Pr_ownerOf l D cI cJ cF cZ ad (qa_up g 77 2 ((g 77 2) ||| ((1 : Int32) <<< (x1 &&& 31)))) x1) ht18 qy_Pr_ownerOf lm_Re_88 ⟨by decide, by decide⟩ (by decide) rfl rfl rfl rfl hl.1 rfl (Nat.le_of_ble_eq_true rfl) d_Re_reachCall_18 (fun H locs hO => ?_)
  obtain ⟨t21, ht21, hT⟩ := qa_b hT
  refine qa_Vv (As := [.int t18.1]) (rest := []) (r := 77) S hK hN hA hO (xc_Re_touch l D cI cJ cF cZ ad t18.2 t18.1) ht21 qy_Re_touch lm_Re_82 ⟨by decide, by decide⟩ (by decide) rfl rfl rfl rfl hl.1 rfl (Nat.le_of_ble_eq_true rfl) d_Re_reachCall_21 (fun H locs hO => ?_)
  exact ret hT hO d_Re_reachCall_24
def xf_Re_isLive (g : qa_St) (x1 : Int32) : qa_Re := ((xf_Pr_isMethod g x1).bind fun t5 => (if t5.1 = 0 then (some ((0 : Int32), t5.2)) else ((xf_Cw_has t5.2 (t5.2 77 2) x1).bind fun t16 => (if t16.1 = 0 then (some ((0 : Int32), t16.2)) else (some ((1 : Int32), t16.2))))))
set_option maxHeartbeats 4000000 in
set_option maxRecDepth 100000 in
theorem xc_Re_isLive (l : Launch) (D : va_G) (cI cJ cF cZ : ClassId) (ad : Nat → Nat) (g : qa_St) (x1 : Int32) : qa_Mi l y_Re_isLive (qa_ws y_Re_isLive b_Re_isLive 2 (some .boolean)) (qa_rm 1 21) D (qa_ty cI cJ cF cZ) 107 ad (xe_en cI cJ cF ad) [.ref (ad 77), .int x1] g (xf_Re_isLive g x1) := by
  refine qa_metz (by decide) (Nat.le_of_ble_eq_true rfl) ?_
  intro p e s m args below meth c Q A T S hK hN hA hT ret ls hl hO
  have hx := S.1
  have hb := S.2.1
  have hl : lv_has ls 2 [(0, .ref (ad 77)), (1, .int x1)] := hl
  unfold xf_Re_isLive at hT
  refine lv_aload_n hx hb d_Re_isLive_0 rfl (lv_at hl 0 rfl) ?_
  refine qa_get S hK hO hi_Re 77 (by decide) rfl rfl 0 (by decide) lf_Re_9 rfl rfl d_Re_isLive_1 ?_
  refine lv_iload_n hx hb d_Re_isLive_4 rfl (lv_at hl 1 rfl) ?_
  obtain ⟨t5, ht5, hT⟩ := qa_b hT
  refine qa_Vi (As := [.int x1]) (rest := []) (r := 1) S hK hN hA hO (xc_Pr_isMethod l D cI cJ cF cZ ad g x1) ht5 qy_Pr_isMethod lm_Re_33 ⟨by decide, by decide⟩ (by decide) rfl rfl rfl rfl hl.1 rfl (Nat.le_of_ble_eq_true rfl) d_Re_isLive_5 (fun H locs hO => ?_)
  refine lv_if_eq (tgt := 26) hx hb d_Re_isLive_8 (by decide) (fun h => ?_) (fun h => ?_)
  · have hT := qa_t hT h
    refine lv_iconst (v := 0) hx hb d_Re_isLive_26 (by decide) ?_
    exact ret (by decide) hT hO d_Re_isLive_27
  · have hT := qa_f hT h
    refine lv_aload_n hx hb d_Re_isLive_11 rfl (lv_at hl 0 rfl) ?_
    refine qa_get S hK hO hi_Re 77 (by decide) rfl rfl 2 (by decide) lf_Re_19 rfl rfl d_Re_isLive_12 ?_
    refine lv_iload_n hx hb d_Re_isLive_15 rfl (lv_at hl 1 rfl) ?_
    obtain ⟨t16, ht16, hT⟩ := qa_b hT
    refine qa_SNi (As := [.int (t5.2 77 2), .int x1]) (rest := []) S hK hN hA hO (xc_Cw_has l D cI cJ cF cZ ad t5.2 (t5.2 77 2) x1) ht16 qy_Cw_has ln_Re_39 ⟨by decide, by decide⟩ rfl hl.1 rfl (Nat.le_of_ble_eq_true rfl) d_Re_isLive_16 (fun H locs hO => ?_)
    refine lv_if_eq (tgt := 26) hx hb d_Re_isLive_19 (by decide) (fun h => ?_) (fun h => ?_)
    · have hT := qa_t hT h
      refine lv_iconst (v := 0) hx hb d_Re_isLive_26 (by decide) ?_
      exact ret (by decide) hT hO d_Re_isLive_27
    · have hT := qa_f hT h
      refine lv_iconst (v := 1) hx hb d_Re_isLive_22 (by decide) ?_
      refine lv_goto (tgt := 27) hx hb d_Re_isLive_23 (by decide) ?_
      exact ret (by decide) hT hO d_Re_isLive_27
def xf_Ch_isReached (g : qa_St) (x1 : Int32) (x2 : Int32) : qa_Re := ((xf_Pr_isMethod g x1).bind fun t5 => (if t5.1 = 0 then (some ((0 : Int32), t5.2)) else ((xf_Cw_within t5.2 x2 (20 : Int32)).bind fun t14 => (if t14.1 = 0 then (some ((0 : Int32), t14.2)) else ((xf_Ch_rowOf t14.2 x1 x2).bind fun t26 => (if t26.1 < 0 ∨ 200 ≤ t26.1.toNatClampNeg then none else (if (t26.2 74 t26.1.toNatClampNeg) = (-1 : Int32) then (some ((0 : Int32), t26.2)) else (some ((1 : Int32), t26.2)))))))))
set_option maxHeartbeats 4000000 in
set_option maxRecDepth 100000 in
theorem xc_Ch_isReached (l : Launch) (D : va_G) (cI cJ cF cZ : ClassId) (ad : Nat → Nat) (g : qa_St) (x1 : Int32) (x2 : Int32) : qa_Mi l y_Ch_isReached (qa_ws y_Ch_isReached b_Ch_isReached 3 (some .boolean)) (qa_rm 1 21) D (qa_ty cI cJ cF cZ) 107 ad (xe_en cI cJ cF ad) [.ref (ad 72), .int x1, .int x2] g (xf_Ch_isReached g x1 x2) := by
  refine qa_metz (by decide) (Nat.le_of_ble_eq_true rfl) ?_
  intro p e s m args below meth c Q A T S hK hN hA hT ret ls hl hO
  have hx := S.1
  have hb := S.2.1
  have hl : lv_has ls 3 [(0, .ref (ad 72)), (1, .int x1), (2, .int x2)] := hl
  unfold xf_Ch_isReached at hT
  refine lv_aload_n hx hb d_Ch_isReached_0 rfl (lv_at hl 0 rfl) ?_
  refine qa_get S hK hO hi_Ch 72 (by decide) rfl rfl 0 (by decide) lf_Ch_25 rfl rfl d_Ch_isReached_1 ?_
  refine lv_iload_n hx hb d_Ch_isReached_4 rfl (lv_at hl 1 rfl) ?_
  obtain ⟨t5, ht5, hT⟩ := qa_b hT
  refine qa_Vi (As := [.int x1]) (rest := []) (r := 1) S hK hN hA hO (xc_Pr_isMethod l D cI cJ cF cZ ad g x1) ht5 qy_Pr_isMethod lm_Ch_61 ⟨by decide, by decide⟩ (by decide) rfl rfl rfl rfl hl.1 rfl (Nat.le_of_ble_eq_true rfl) d_Ch_isReached_5 (fun H locs hO => ?_)
  refine lv_if_eq (tgt := 38) hx hb d_Ch_isReached_8 (by decide) (fun h => ?_) (fun h => ?_)
  · have hT := qa_t hT h
    refine lv_iconst (v := 0) hx hb d_Ch_isReached_38 (by decide) ?_
    exact ret (by decide) hT hO d_Ch_isReached_39
  · have hT := qa_f hT h
    refine lv_iload_n hx hb d_Ch_isReached_11 rfl (lv_at hl 2 rfl) ?_
    refine lv_bipush (v := 20) hx hb d_Ch_isReached_12 (by decide) ?_
    obtain ⟨t14, ht14, hT⟩ := qa_b hT
    refine qa_SNi (As := [.int x2, .int (20 : Int32)]) (rest := []) S hK hN hA hO (xc_Cw_within l D cI cJ cF cZ ad t5.2 x2 (20 : Int32)) ht14 qy_Cw_within ln_Ch_67 ⟨by decide, by decide⟩ rfl hl.1 rfl (Nat.le_of_ble_eq_true rfl) d_Ch_isReached_14 (fun H locs hO => ?_)
    refine lv_if_eq (tgt := 38) hx hb d_Ch_isReached_17 (by decide) (fun h => ?_) (fun h => ?_)
    · have hT := qa_t hT h
      refine lv_iconst (v := 0) hx hb d_Ch_isReached_38 (by decide) ?_
      exact ret (by decide) hT hO d_Ch_isReached_39
    · have hT := qa_f hT h
      refine lv_aload_n hx hb d_Ch_isReached_20 rfl (lv_at hl 0 rfl) ?_
      refine qa_get S hK hO hi_Ch 72 (by decide) rfl rfl 2 (by decide) lf_Ch_15 rfl rfl d_Ch_isReached_21 ?_
      refine lv_iload_n hx hb d_Ch_isReached_24 rfl (lv_at hl 1 rfl) ?_
      refine lv_iload_n hx hb d_Ch_isReached_25 rfl (lv_at hl 2 rfl) ?_
      obtain ⟨t26, ht26, hT⟩ := qa_b hT
      refine qa_Si (As := [.int x1, .int x2]) (rest := [.ref (ad 74)]) S hK hN hA hO (xc_Ch_rowOf l D cI cJ cF cZ ad t14.2 x1 x2) ht26 qy_Ch_rowOf lm_Ch_40 ⟨by decide, by decide⟩ rfl hl.1 rfl (Nat.le_of_ble_eq_true rfl) d_Ch_isReached_26 (fun H locs hO => ?_)
      obtain ⟨hi29, hT⟩ := qa_c hT
      refine qa_iald (n := 200) S hK hO 74 (by decide) 0 (xe_arr rfl) rfl hi29 d_Ch_isReached_29 ?_
      refine lv_iconst (v := -1) hx hb d_Ch_isReached_30 (by decide) ?_
      refine lv_icmp_eq (tgt := 38) hx hb d_Ch_isReached_31 (by decide) (fun h => ?_) (fun h => ?_)
      · have hT := qa_t hT h
        refine lv_iconst (v := 0) hx hb d_Ch_isReached_38 (by decide) ?_
        exact ret (by decide) hT hO d_Ch_isReached_39
      · have hT := qa_f hT h
        refine lv_iconst (v := 1) hx hb d_Ch_isReached_34 (by decide) ?_
        refine lv_goto (tgt := 39) hx hb d_Ch_isReached_35 (by decide) ?_
        exact ret (by decide) hT hO d_Ch_isReached_39
def xf_Ch_receiverAt_44 (g : qa_St) (s0 : Int32) : qa_Re := (if (s0 - (2 : Int32)) < 0 ∨ 2000 ≤ (s0 - (2 : Int32)).toNatClampNeg then none else (some ((g 73 (s0 - (2 : Int32)).toNatClampNeg), g)))
def xf_Ch_receiverAt (g : qa_St) (x1 : Int32) (x2 : Int32) : qa_Re := ((xf_Ch_isReached g x1 x2).bind fun t3 => (if t3.1 = 0 then (some ((-1 : Int32), t3.2)) else ((xf_Ch_rowOf t3.2 x1 x2).bind fun t13 => (if t13.1 < 0 ∨ 200 ≤ t13.1.toNatClampNeg then none else (if (t13.2 74 t13.1.toNatClampNeg) < (2 : Int32) then (some ((-1 : Int32), t13.2)) else (if t13.1 < 0 ∨ 200 ≤ t13.1.toNatClampNeg then none else (xf_Ch_receiverAt_44 t13.2 (((t13.1 * (10 : Int32)) + (4 : Int32)) + (t13.2 74 t13.1.toNatClampNeg)))))))))
set_option maxHeartbeats 4000000 in
set_option maxRecDepth 100000 in
theorem xc_Ch_receiverAt (l : Launch) (D : va_G) (cI cJ cF cZ : ClassId) (ad : Nat → Nat) (g : qa_St) (x1 : Int32) (x2 : Int32) : qa_Mi l y_Ch_receiverAt (qa_ws y_Ch_receiverAt b_Ch_receiverAt 4 (some .int)) (qa_rm 2 43) D (qa_ty cI cJ cF cZ) 107 ad (xe_en cI cJ cF ad) [.ref (ad 72), .int x1, .int x2] g (xf_Ch_receiverAt g x1 x2) := by
  refine qa_meti (by decide) (Nat.le_of_ble_eq_true rfl) ?_
  intro p e s m args below meth c Q A T S hK hN hA hT ret ls hl hO
  have hx := S.1
  have hb := S.2.1
  have hl : lv_has ls 4 [(0, .ref (ad 72)), (1, .int x1), (2, .int x2)] := hl
  have b44 : ∀ (g : qa_St) (s0 : Int32) (ls : Array Slot) (H : Heap) (locs : List Loc), lv_has ls 4 [] → qa_O D 107 ad (xe_en cI cJ cF ad) A s.heap g H locs → xf_Ch_receiverAt_44 g s0 = some T → W p l e (qa_rm 2 43) s m args below meth c H locs 0 0 Q (F0 m 44 ls [.int s0, .ref (ad 73)]) := by
    intro g s0 ls H locs hl hO hT
    unfold xf_Ch_receiverAt_44 at hT
    refine lv_iconst (v := 2) hx hb d_Ch_receiverAt_44 (by decide) ?_
    refine lv_isub hx hb d_Ch_receiverAt_45 ?_
    obtain ⟨hi46, hT⟩ := qa_c hT
    refine qa_iald (n := 2000) S hK hO 73 (by decide) 0 (xe_arr rfl) rfl hi46 d_Ch_receiverAt_46 ?_
    refine lv_goto (tgt := 51) hx hb d_Ch_receiverAt_47 (by decide) ?_
    exact ret hT hO d_Ch_receiverAt_51
  unfold xf_Ch_receiverAt at hT
  refine lv_aload_n hx hb d_Ch_receiverAt_0 rfl (lv_at hl 0 rfl) ?_
  refine lv_iload_n hx hb d_Ch_receiverAt_1 rfl (lv_at hl 1 rfl) ?_
  refine lv_iload_n hx hb d_Ch_receiverAt_2 rfl (lv_at hl 2 rfl) ?_
  obtain ⟨t3, ht3, hT⟩ := qa_b hT
  refine qa_Vi (As := [.int x1, .int x2]) (rest := []) (r := 72) S hK hN hA hO (xc_Ch_isReached l D cI cJ cF cZ ad g x1 x2) ht3 qy_Ch_isReached lm_Ch_71 ⟨by decide, by decide⟩ (by decide) rfl rfl rfl rfl hl.1 rfl (Nat.le_of_ble_eq_true rfl) d_Ch_receiverAt_3 (fun H locs hO => ?_)
  refine lv_if_ne (tgt := 11) hx hb d_Ch_receiverAt_6 (by decide) (fun h => ?_) (fun h => ?_)
  · have hT := qa_f hT h
    refine lv_iload_n hx hb d_Ch_receiverAt_11 rfl (lv_at hl 1 rfl) ?_
    refine lv_iload_n hx hb d_Ch_receiverAt_12 rfl (lv_at hl 2 rfl) ?_
    obtain ⟨t13, ht13, hT⟩ := qa_b hT
    refine qa_Si (As := [.int x1, .int x2]) (rest := []) S hK hN hA hO (xc_Ch_rowOf l D cI cJ cF cZ ad t3.2 x1 x2) ht13 qy_Ch_rowOf lm_Ch_40 ⟨by decide, by decide⟩ rfl hl.1 rfl (Nat.le_of_ble_eq_true rfl) d_Ch_receiverAt_13 (fun H locs hO => ?_)
    refine lv_istore_n (lv' := [(3, .int t13.1), (0, .ref (ad 72)), (1, .int x1), (2, .int x2)]) hx hb d_Ch_receiverAt_16 rfl hl (by decide) rfl (fun ls hl => ?_)
    refine lv_aload_n hx hb d_Ch_receiverAt_17 rfl (lv_at hl 1 rfl) ?_
    refine qa_get S hK hO hi_Ch 72 (by decide) rfl rfl 2 (by decide) lf_Ch_15 rfl rfl d_Ch_receiverAt_18 ?_
    refine lv_iload_n hx hb d_Ch_receiverAt_21 rfl (lv_at hl 0 rfl) ?_
    obtain ⟨hi22, hT⟩ := qa_c hT
    refine qa_iald (n := 200) S hK hO 74 (by decide) 0 (xe_arr rfl) rfl hi22 d_Ch_receiverAt_22 ?_
    refine lv_iconst (v := 2) hx hb d_Ch_receiverAt_23 (by decide) ?_
    refine lv_icmp_lt (tgt := 50) hx hb d_Ch_receiverAt_24 (by decide) (fun h => ?_) (fun h => ?_)
    · have hT := qa_t hT h
      refine lv_iconst (v := -1) hx hb d_Ch_receiverAt_50 (by decide) ?_
      exact ret hT hO d_Ch_receiverAt_51
    · have hT := qa_f hT h
      refine lv_aload_n hx hb d_Ch_receiverAt_27 rfl (lv_at hl 1 rfl) ?_
      refine qa_get S hK hO hi_Ch 72 (by decide) rfl rfl 1 (by decide) lf_Ch_9 rfl rfl d_Ch_receiverAt_28 ?_
      refine lv_iload_n hx hb d_Ch_receiverAt_31 rfl (lv_at hl 0 rfl) ?_
      refine lv_bipush (v := 10) hx hb d_Ch_receiverAt_32 (by decide) ?_
      refine lv_imul hx hb d_Ch_receiverAt_34 ?_
      refine lv_iconst (v := 4) hx hb d_Ch_receiverAt_35 (by decide) ?_
      refine lv_iadd hx hb d_Ch_receiverAt_36 ?_
      refine lv_aload_n hx hb d_Ch_receiverAt_37 rfl (lv_at hl 1 rfl) ?_
      refine qa_get S hK hO hi_Ch 72 (by decide) rfl rfl 2 (by decide) lf_Ch_15 rfl rfl d_Ch_receiverAt_38 ?_
      refine lv_iload_n hx hb d_Ch_receiverAt_41 rfl (lv_at hl 0 rfl) ?_
      obtain ⟨hi42, hT⟩ := qa_c hT
      refine qa_iald (n := 200) S hK hO 74 (by decide) 0 (xe_arr rfl) rfl hi42 d_Ch_receiverAt_42 ?_
      refine lv_iadd hx hb d_Ch_receiverAt_43 ?_
      exact b44 t13.2 (((t13.1 * (10 : Int32)) + (4 : Int32)) + (t13.2 74 t13.1.toNatClampNeg)) _ _ _ (lv_sub hl [] rfl) hO hT
  · have hT := qa_t hT h
    refine lv_iconst (v := -1) hx hb d_Ch_receiverAt_9 (by decide) ?_
    exact ret hT hO d_Ch_receiverAt_10
def xf_Pr_typeCount (g : qa_St) : qa_Re := (some ((g 1 0), g))
set_option maxHeartbeats 4000000 in
set_option maxRecDepth 100000 in
theorem xc_Pr_typeCount (l : Launch) (D : va_G) (cI cJ cF cZ : ClassId) (ad : Nat → Nat) (g : qa_St) : qa_Mi l y_Pr_typeCount (qa_ws y_Pr_typeCount b_Pr_typeCount 1 (some .int)) (qa_rm 0 0) D (qa_ty cI cJ cF cZ) 107 ad (xe_en cI cJ cF ad) [.ref (ad 1)] g (xf_Pr_typeCount g) := by
  refine qa_meti (by decide) (Nat.le_of_ble_eq_true rfl) ?_
  intro p e s m args below meth c Q A T S hK hN hA hT ret ls hl hO
  have hx := S.1
  have hb := S.2.1
  have hl : lv_has ls 1 [(0, .ref (ad 1))] := hl
  unfold xf_Pr_typeCount at hT
  refine lv_aload_n hx hb d_Pr_typeCount_0 rfl (lv_at hl 0 rfl) ?_
  refine qa_get S hK hO hi_Pr 1 (by decide) rfl rfl 0 (by decide) lf_Pr_60 rfl rfl d_Pr_typeCount_1 ?_
  exact ret hT hO d_Pr_typeCount_4
def xf_Re_targetSet_92 (k27 : qa_St → Int32 → Int32 → Int32 → Int32 → qa_Re) (g : qa_St) (x3 : Int32) (x4 : Int32) (x5 : Int32) (x6 : Int32) : qa_Re := (k27 g x3 x4 x5 (x6 + 1))
def xf_Re_targetSet_27 : Nat → qa_St → Int32 → Int32 → Int32 → Int32 → qa_Re
  | 0, _, _, _, _, _ => none
  | n + 1, g, x3, x4, x5, x6 => ((xf_Pr_typeCount g).bind fun t33 => (if t33.1 ≤ x6 then (some (x5, t33.2)) else ((xf_Pr_answering t33.2 x6 x4).bind fun t47 => ((xf_Cw_has t47.2 (t47.2 77 3) x6).bind fun t58 => (if t58.1 = 0 then (xf_Re_targetSet_92 (xf_Re_targetSet_27 n) t58.2 x3 x4 x5 x6) else ((xf_Pr_isOf t58.2 x6 x3).bind fun t71 => (if t71.1 = 0 then (xf_Re_targetSet_92 (xf_Re_targetSet_27 n) t71.2 x3 x4 x5 x6) else (if t47.1 = (-1 : Int32) then (xf_Re_targetSet_92 (xf_Re_targetSet_27 n) t71.2 x3 x4 x5 x6) else (xf_Re_targetSet_92 (xf_Re_targetSet_27 n) t71.2 x3 x4 (x5 ||| ((1 : Int32) <<< (t47.1 &&& 31))) x6)))))))))
def xf_Re_targetSet (g : qa_St) (x1 : Int32) (x2 : Int32) : qa_Re := ((xf_Ch_receiverAt g x1 x2).bind fun t6 => ((xf_Pr_operandOf t6.2 x1 x2).bind fun t16 => (xf_Re_targetSet_27 4096 t16.2 t6.1 t16.1 (0 : Int32) (0 : Int32))))
set_option maxHeartbeats 4000000 in
set_option maxRecDepth 100000 in
theorem xc_Re_targetSet (l : Launch) (D : va_G) (cI cJ cF cZ : ClassId) (ad : Nat → Nat) (g : qa_St) (x1 : Int32) (x2 : Int32) : qa_Mi l y_Re_targetSet (qa_ws y_Re_targetSet b_Re_targetSet 8 (some .int)) (qa_rm 3 66) D (qa_ty cI cJ cF cZ) 107 ad (xe_en cI cJ cF ad) [.ref (ad 77), .int x1, .int x2] g (xf_Re_targetSet g x1 x2) := by
  refine qa_meti (by decide) (Nat.le_of_ble_eq_true rfl) ?_
  intro p e s m args below meth c Q A T S hK hN hA hT ret ls hl hO
  have hx := S.1
  have hb := S.2.1
  have hl : lv_has ls 8 [(0, .ref (ad 77)), (1, .int x1), (2, .int x2)] := hl
  have b92 : ∀ (k27 : qa_St → Int32 → Int32 → Int32 → Int32 → qa_Re) (hk27 : ∀ (g : qa_St) (x3 : Int32) (x4 : Int32) (x5 : Int32) (x6 : Int32) (ls : Array Slot) (H : Heap) (locs : List Loc), lv_has ls 8 [(0, .ref (ad 77)), (3, .int x3), (4, .int x4), (5, .int x5), (6, .int x6)] → qa_O D 107 ad (xe_en cI cJ cF ad) A s.heap g H locs → k27 g x3 x4 x5 x6 = some T → W p l e (qa_rm 3 66) s m args below meth c H locs 0 0 Q (F0 m 27 ls [])), ∀ (g : qa_St) (x3 : Int32) (x4 : Int32) (x5 : Int32) (x6 : Int32) (ls : Array Slot) (H : Heap) (locs : List Loc), lv_has ls 8 [(0, .ref (ad 77)), (3, .int x3), (4, .int x4), (5, .int x5), (6, .int x6)] → qa_O D 107 ad (xe_en cI cJ cF ad) A s.heap g H locs → xf_Re_targetSet_92 k27 g x3 x4 x5 x6 = some T → W p l e (qa_rm 3 66) s m args below meth c H locs 0 0 Q (F0 m 92 ls []) := by
    intro k27 hk27
    intro g x3 x4 x5 x6 ls H locs hl hO hT
    unfold xf_Re_targetSet_92 at hT
    refine lv_iinc (lv' := [(6, .int (x6 + 1)), (0, .ref (ad 77)), (3, .int x3), (4, .int x4), (5, .int x5)]) hx hb d_Re_targetSet_92 hl (k := 4) rfl (qa_o1 _) (by decide) rfl (fun ls hl => ?_)
    refine lv_goto (tgt := 27) hx hb d_Re_targetSet_95 (by decide) ?_
    exact hk27 g x3 x4 x5 (x6 + 1) _ _ _ (lv_sub hl [1, 2, 3, 4, 0] rfl) hO hT
  have b27 : ∀ (n : Nat), ∀ (g : qa_St) (x3 : Int32) (x4 : Int32) (x5 : Int32) (x6 : Int32) (ls : Array Slot) (H : Heap) (locs : List Loc), lv_has ls 8 [(0, .ref (ad 77)), (3, .int x3), (4, .int x4), (5, .int x5), (6, .int x6)] → qa_O D 107 ad (xe_en cI cJ cF ad) A s.heap g H locs → xf_Re_targetSet_27 n g x3 x4 x5 x6 = some T → W p l e (qa_rm 3 66) s m args below meth c H locs 0 0 Q (F0 m 27 ls []) := by
    intro n
    induction n with
    | zero => intro g x3 x4 x5 x6 ls H locs hl hO hT; rw [xf_Re_targetSet_27] at hT; cases hT
    | succ n ih =>
      intro g x3 x4 x5 x6 ls H locs hl hO hT
      rw [xf_Re_targetSet_27] at hT
      refine lv_iload hx hb d_Re_targetSet_27 (lv_at hl 4 rfl) ?_
      refine lv_aload_n hx hb d_Re_targetSet_29 rfl (lv_at hl 0 rfl) ?_
      refine qa_get S hK hO hi_Re 77 (by decide) rfl rfl 0 (by decide) lf_Re_9 rfl rfl d_Re_targetSet_30 ?_
      obtain ⟨t33, ht33, hT⟩ := qa_b hT
      refine qa_Vi (As := []) (rest := [.int x6]) (r := 1) S hK hN hA hO (xc_Pr_typeCount l D cI cJ cF cZ ad g) ht33 qy_Pr_typeCount lm_Re_52 ⟨by decide, by decide⟩ (by decide) rfl rfl rfl rfl hl.1 rfl (Nat.le_of_ble_eq_true rfl) d_Re_targetSet_33 (fun H locs hO => ?_)
      refine lv_icmp_ge (tgt := 98) hx hb d_Re_targetSet_36 (by decide) (fun h => ?_) (fun h => ?_)
      · have hT := qa_t hT h
        refine lv_iload hx hb d_Re_targetSet_98 (lv_at hl 3 rfl) ?_
        exact ret hT hO d_Re_targetSet_100
      · have hT := qa_f hT h
        refine lv_aload_n hx hb d_Re_targetSet_39 rfl (lv_at hl 0 rfl) ?_
        refine qa_get S hK hO hi_Re 77 (by decide) rfl rfl 0 (by decide) lf_Re_9 rfl rfl d_Re_targetSet_40 ?_
        refine lv_iload hx hb d_Re_targetSet_43 (lv_at hl 4 rfl) ?_
        refine lv_iload hx hb d_Re_targetSet_45 (lv_at hl 2 rfl) ?_
        obtain ⟨t47, ht47, hT⟩ := qa_b hT
        refine qa_Vi (As := [.int x6, .int x4]) (rest := []) (r := 1) S hK hN hA hO (xc_Pr_answering l D cI cJ cF cZ ad t33.2 x6 x4) ht47 qy_Pr_answering lm_Re_56 ⟨by decide, by decide⟩ (by decide) rfl rfl rfl rfl hl.1 rfl (Nat.le_of_ble_eq_true rfl) d_Re_targetSet_47 (fun H locs hO => ?_)
        refine lv_istore (lv' := [(7, .int t47.1), (0, .ref (ad 77)), (3, .int x3), (4, .int x4), (5, .int x5), (6, .int x6)]) hx hb d_Re_targetSet_50 hl (by decide) rfl (fun ls hl => ?_)
        refine lv_aload_n hx hb d_Re_targetSet_52 rfl (lv_at hl 1 rfl) ?_
        refine qa_get S hK hO hi_Re 77 (by decide) rfl rfl 3 (by decide) lf_Re_23 rfl rfl d_Re_targetSet_53 ?_
        refine lv_iload hx hb d_Re_targetSet_56 (lv_at hl 5 rfl) ?_
        obtain ⟨t58, ht58, hT⟩ := qa_b hT
        refine qa_SNi (As := [.int (t47.2 77 3), .int x6]) (rest := []) S hK hN hA hO (xc_Cw_has l D cI cJ cF cZ ad t47.2 (t47.2 77 3) x6) ht58 qy_Cw_has ln_Re_39 ⟨by decide, by decide⟩ rfl hl.1 rfl (Nat.le_of_ble_eq_true rfl) d_Re_targetSet_58 (fun H locs hO => ?_)
        refine lv_if_eq (tgt := 92) hx hb d_Re_targetSet_61 (by decide) (fun h => ?_) (fun h => ?_)
        · have hT := qa_t hT h
          exact b92 (xf_Re_targetSet_27 n) ih t58.2 x3 x4 x5 x6 _ _ _ (lv_sub hl [1, 2, 3, 4, 5] rfl) hO hT
        · have hT := qa_f hT h
          refine lv_aload_n hx hb d_Re_targetSet_64 rfl (lv_at hl 1 rfl) ?_
          refine qa_get S hK hO hi_Re 77 (by decide) rfl rfl 0 (by decide) lf_Re_9 rfl rfl d_Re_targetSet_65 ?_
          refine lv_iload hx hb d_Re_targetSet_68 (lv_at hl 5 rfl) ?_
          refine lv_iload_n hx hb d_Re_targetSet_70 rfl (lv_at hl 2 rfl) ?_
          obtain ⟨t71, ht71, hT⟩ := qa_b hT
          refine qa_Vi (As := [.int x6, .int x3]) (rest := []) (r := 1) S hK hN hA hO (xc_Pr_isOf l D cI cJ cF cZ ad t58.2 x6 x3) ht71 qy_Pr_isOf lm_Re_59 ⟨by decide, by decide⟩ (by decide) rfl rfl rfl rfl hl.1 rfl (Nat.le_of_ble_eq_true rfl) d_Re_targetSet_71 (fun H locs hO => ?_)
          refine lv_if_eq (tgt := 92) hx hb d_Re_targetSet_74 (by decide) (fun h => ?_) (fun h => ?_)
          · have hT := qa_t hT h
            exact b92 (xf_Re_targetSet_27 n) ih t71.2 x3 x4 x5 x6 _ _ _ (lv_sub hl [1, 2, 3, 4, 5] rfl) hO hT
          · have hT := qa_f hT h
            refine lv_iload hx hb d_Re_targetSet_77 (lv_at hl 0 rfl) ?_
            refine lv_iconst (v := -1) hx hb d_Re_targetSet_79 (by decide) ?_
            refine lv_icmp_eq (tgt := 92) hx hb d_Re_targetSet_80 (by decide) (fun h => ?_) (fun h => ?_)
            · have hT := qa_t hT h
              exact b92 (xf_Re_targetSet_27 n) ih t71.2 x3 x4 x5 x6 _ _ _ (lv_sub hl [1, 2, 3, 4, 5] rfl) hO hT
            · have hT := qa_f hT h
              refine lv_iload hx hb d_Re_targetSet_83 (lv_at hl 4 rfl) ?_
              refine lv_iconst (v := 1) hx hb d_Re_targetSet_85 (by decide) ?_
              refine lv_iload hx hb d_Re_targetSet_86 (lv_at hl 0 rfl) ?_
              refine lv_ishl hx hb d_Re_targetSet_88 ?_
              refine lv_ior hx hb d_Re_targetSet_89 ?_
              refine lv_istore (lv' := [(5, .int (x5 ||| ((1 : Int32) <<< (t47.1 &&& 31)))), (7, .int t47.1), (0, .ref (ad 77)), (3, .int x3), (4, .int x4), (6, .int x6)]) hx hb d_Re_targetSet_90 hl (by decide) rfl (fun ls hl => ?_)
              exact b92 (xf_Re_targetSet_27 n) ih t71.2 x3 x4 (x5 ||| ((1 : Int32) <<< (t47.1 &&& 31))) x6 _ _ _ (lv_sub hl [2, 3, 4, 0, 5] rfl) hO hT
  unfold xf_Re_targetSet at hT
  refine lv_aload_n hx hb d_Re_targetSet_0 rfl (lv_at hl 0 rfl) ?_
  refine qa_get S hK hO hi_Re 77 (by decide) rfl rfl 1 (by decide) lf_Re_15 rfl rfl d_Re_targetSet_1 ?_
  refine lv_iload_n hx hb d_Re_targetSet_4 rfl (lv_at hl 1 rfl) ?_
  refine lv_iload_n hx hb d_Re_targetSet_5 rfl (lv_at hl 2 rfl) ?_
  obtain ⟨t6, ht6, hT⟩ := qa_b hT
  refine qa_Vi (As := [.int x1, .int x2]) (rest := []) (r := 72) S hK hN hA hO (xc_Ch_receiverAt l D cI cJ cF cZ ad g x1 x2) ht6 qy_Ch_receiverAt lm_Re_43 ⟨by decide, by decide⟩ (by decide) rfl rfl rfl rfl hl.1 rfl (Nat.le_of_ble_eq_true rfl) d_Re_targetSet_6 (fun H locs hO => ?_)
  refine lv_istore_n (lv' := [(3, .int t6.1), (0, .ref (ad 77)), (1, .int x1), (2, .int x2)]) hx hb d_Re_targetSet_9 rfl hl (by decide) rfl (fun ls hl => ?_)
  refine lv_aload_n hx hb d_Re_targetSet_10 rfl (lv_at hl 1 rfl) ?_
  refine qa_get S hK hO hi_Re 77 (by decide) rfl rfl 0 (by decide) lf_Re_9 rfl rfl d_Re_targetSet_11 ?_
  refine lv_iload_n hx hb d_Re_targetSet_14 rfl (lv_at hl 2 rfl) ?_
  refine lv_iload_n hx hb d_Re_targetSet_15 rfl (lv_at hl 3 rfl) ?_
  obtain ⟨t16, ht16, hT⟩ := qa_b hT
  refine qa_Vi (As := [.int x1, .int x2]) (rest := []) (r := 1) S hK hN hA hO (xc_Pr_operandOf l D cI cJ cF cZ ad t6.2 x1 x2) ht16 qy_Pr_operandOf lm_Re_49 ⟨by decide, by decide⟩ (by decide) rfl rfl rfl rfl hl.1 rfl (Nat.le_of_ble_eq_true rfl) d_Re_targetSet_16 (fun H locs hO => ?_)
  refine lv_istore (lv' := [(4, .int t16.1), (3, .int t6.1), (0, .ref (ad 77)), (1, .int x1), (2, .int x2)]) hx hb d_Re_targetSet_19 hl (by decide) rfl (fun ls hl => ?_)
  refine lv_iconst (v := 0) hx hb d_Re_targetSet_21 (by decide) ?_
  refine lv_istore (lv' := [(5, .int (0 : Int32)), (4, .int t16.1), (3, .int t6.1), (0, .ref (ad 77)), (1, .int x1), (2, .int x2)]) hx hb d_Re_targetSet_22 hl (by decide) rfl (fun ls hl => ?_)
  refine lv_iconst (v := 0) hx hb d_Re_targetSet_24 (by decide) ?_
  refine lv_istore (lv' := [(6, .int (0 : Int32)), (5, .int (0 : Int32)), (4, .int t16.1), (3, .int t6.1), (0, .ref (ad 77)), (1, .int x1), (2, .int x2)]) hx hb d_Re_targetSet_25 hl (by decide) rfl (fun ls hl => ?_)
  exact b27 4096 t16.2 t6.1 t16.1 (0 : Int32) (0 : Int32) _ _ _ (lv_sub hl [4, 3, 2, 1, 0] rfl) hO hT
def xf_Re_follow (g : qa_St) (x1 : Int32) (x2 : Int32) : qa_Re := ((xf_Pr_operandOf g x1 x2).bind fun t6 => ((xf_Pr_opOf t6.2 x1 x2).bind fun t16 => (if t16.1 = 11 then ((xf_Re_touch (qa_up t16.2 77 3 ((t16.2 77 3) ||| ((1 : Int32) <<< (t6.1 &&& 31)))) t6.1).bind fun t74 => (some (0, t74.2))) else (if t16.1 = 12 then (some (0, t16.2)) else (if t16.1 = 13 then (some (0, t16.2)) else (if t16.1 = 14 then ((xf_Re_touch t16.2 t6.1).bind fun t82 => (some (0, t82.2))) else (if t16.1 = 15 then ((xf_Re_touch t16.2 t6.1).bind fun t82 => (some (0, t82.2))) else (if t16.1 = 16 then ((xf_Re_reachCall t16.2 t6.1).bind fun t90 => (some (0, t90.2))) else (if t16.1 = 17 then ((xf_Re_targetSet t16.2 x1 x2).bind fun t104 => (some (0, (qa_up t104.2 77 2 ((t16.2 77 2) ||| t104.1))))) else (some (0, t16.2)))))))))))
set_option maxHeartbeats 4000000 in
set_option maxRecDepth 100000 in
theorem xc_Re_follow (l : Launch) (D : va_G) (cI cJ cF cZ : ClassId) (ad : Nat → Nat) (g : qa_St) (x1 : Int32) (x2 : Int32) : qa_Mv l y_Re_follow (qa_ws y_Re_follow b_Re_follow 4 none) (qa_rm 4 93) D (qa_ty cI cJ cF cZ) 107 ad (xe_en cI cJ cF ad) [.ref (ad 77), .int x1, .int x2] g (xf_Re_follow g x1 x2) := by
  refine qa_metv (by decide) (Nat.le_of_ble_eq_true rfl) ?_
  intro p e s m args below meth c Q A T S hK hN hA hT ret ls hl hO
  have hx := S.1
  have hb := S.2.1
  have hl : lv_has ls 4 [(0, .ref (ad 77)), (1, .int x1), (2, .int x2)] := hl
  unfold xf_Re_follow at hT
  refine lv_aload_n hx hb d_Re_follow_0 rfl (lv_at hl 0 rfl) ?_
  refine qa_get S hK hO hi_Re 77 (by decide) rfl rfl 0 (by decide) lf_Re_9 rfl rfl d_Re_follow_1 ?_
  refine lv_iload_n hx hb d_Re_follow_4 rfl (lv_at hl 1 rfl) ?_
  refine lv_iload_n hx hb d_Re_follow_5 rfl (lv_at hl 2 rfl) ?_
  obtain ⟨t6, ht6, hT⟩ := qa_b hT
  refine qa_Vi (As := [.int x1, .int x2]) (rest := []) (r := 1) S hK hN hA hO (xc_Pr_operandOf l D cI cJ cF cZ ad g x1 x2) ht6 qy_Pr_operandOf lm_Re_49 ⟨by decide, by decide⟩ (by decide) rfl rfl rfl rfl hl.1 rfl (Nat.le_of_ble_eq_true rfl) d_Re_follow_6 (fun H locs hO => ?_)
  refine lv_istore_n (lv' := [(3, .int t6.1), (0, .ref (ad 77)), (1, .int x1), (2, .int x2)]) hx hb d_Re_follow_9 rfl hl (by decide) rfl (fun ls hl => ?_)
  refine lv_aload_n hx hb d_Re_follow_10 rfl (lv_at hl 1 rfl) ?_
  refine qa_get S hK hO hi_Re 77 (by decide) rfl rfl 0 (by decide) lf_Re_9 rfl rfl d_Re_follow_11 ?_
  refine lv_iload_n hx hb d_Re_follow_14 rfl (lv_at hl 2 rfl) ?_
  refine lv_iload_n hx hb d_Re_follow_15 rfl (lv_at hl 3 rfl) ?_
  obtain ⟨t16, ht16, hT⟩ := qa_b hT
  refine qa_Vi (As := [.int x1, .int x2]) (rest := []) (r := 1) S hK hN hA hO (xc_Pr_opOf l D cI cJ cF cZ ad t6.2 x1 x2) ht16 qy_Pr_opOf lm_Re_79 ⟨by decide, by decide⟩ (by decide) rfl rfl rfl rfl hl.1 rfl (Nat.le_of_ble_eq_true rfl) d_Re_follow_16 (fun H locs hO => ?_)
  by_cases h19_11 : t16.1 = 11
  · have hT := qa_t hT h19_11
    refine lv_tableIn (off := 41) (tgt := 60) hx hb d_Re_follow_19 (by rw [h19_11]; decide) (by rw [h19_11]; decide) (by rw [h19_11]; rfl) (by decide) ?_
    refine lv_aload_n hx hb d_Re_follow_60 rfl (lv_at hl 1 rfl) ?_
    refine lv_dup hx hb d_Re_follow_61 rfl ?_
    refine qa_get S hK hO hi_Re 77 (by decide) rfl rfl 3 (by decide) lf_Re_23 rfl rfl d_Re_follow_62 ?_
    refine lv_iconst (v := 1) hx hb d_Re_follow_65 (by decide) ?_
    refine lv_iload_n hx hb d_Re_follow_66 rfl (lv_at hl 0 rfl) ?_
    refine lv_ishl hx hb d_Re_follow_67 ?_
    refine lv_ior hx hb d_Re_follow_68 ?_
    refine qa_put S hK hO hi_Re t_Re t_Re_ok n_Re 77 (by decide) rfl rfl 3 (by decide) lf_Re_23 rfl rfl (ty := .int) (by decide +kernel) rfl rfl (Nat.le_of_ble_eq_true rfl) rfl d_Re_follow_69 (fun H locs hO => ?_)
    refine lv_aload_n hx hb d_Re_follow_72 rfl (lv_at hl 1 rfl) ?_
    refine lv_iload_n hx hb d_Re_follow_73 rfl (lv_at hl 0 rfl) ?_
    obtain ⟨t74, ht74, hT⟩ := qa_b hT
    refine qa_Vv (As := [.int t6.1]) (rest := []) (r := 77) S hK hN hA hO (xc_Re_touch l D cI cJ cF cZ ad (qa_up t16.2 77 3 ((t16.2 77 3) ||| ((1 : Int32) <<< (t6.1 &&& 31)))) t6.1) ht74 qy_Re_touch lm_Re_82 ⟨by decide, by decide⟩ (by decide) rfl rfl rfl rfl hl.1 rfl (Nat.le_of_ble_eq_true rfl) d_Re_follow_74 (fun H locs hO => ?_)
    refine lv_goto (tgt := 114) hx hb d_Re_follow_77 (by decide) ?_
    exact ret hT hO d_Re_follow_114
  have hT := qa_f hT h19_11
  by_cases h19_12 : t16.1 = 12
  · have hT := qa_t hT h19_12
    refine lv_tableIn (off := 95) (tgt := 114) hx hb d_Re_follow_19 (by rw [h19_12]; decide) (by rw [h19_12]; decide) (by rw [h19_12]; rfl) (by decide) ?_
    exact ret hT hO d_Re_follow_114
  have hT := qa_f hT h19_12
  by_cases h19_13 : t16.1 = 13
  · have hT := qa_t hT h19_13
    refine lv_tableIn (off := 95) (tgt := 114) hx hb d_Re_follow_19 (by rw [h19_13]; decide) (by rw [h19_13]; decide) (by rw [h19_13]; rfl) (by decide) ?_
    exact ret hT hO d_Re_follow_114
  have hT := qa_f hT h19_13
  by_cases h19_14 : t16.1 = 14
  · have hT := qa_t hT h19_14
    refine lv_tableIn (off := 61) (tgt := 80) hx hb d_Re_follow_19 (by rw [h19_14]; decide) (by rw [h19_14]; decide) (by rw [h19_14]; rfl) (by decide) ?_
    refine lv_aload_n hx hb d_Re_follow_80 rfl (lv_at hl 1 rfl) ?_
    refine lv_iload_n hx hb d_Re_follow_81 rfl (lv_at hl 0 rfl) ?_
    obtain ⟨t82, ht82, hT⟩ := qa_b hT
    refine qa_Vv (As := [.int t6.1]) (rest := []) (r := 77) S hK hN hA hO (xc_Re_touch l D cI cJ cF cZ ad t16.2 t6.1) ht82 qy_Re_touch lm_Re_82 ⟨by decide, by decide⟩ (by decide) rfl rfl rfl rfl hl.1 rfl (Nat.le_of_ble_eq_true rfl) d_Re_follow_82 (fun H locs hO => ?_)
    refine lv_goto (tgt := 114) hx hb d_Re_follow_85 (by decide) ?_
    exact ret hT hO d_Re_follow_114
  have hT := qa_f hT h19_14
  by_cases h19_15 : t16.1 = 15
  · have hT := qa_t hT h19_15
    refine lv_tableIn (off := 61) (tgt := 80) hx hb d_Re_follow_19 (by rw [h19_15]; decide) (by rw [h19_15]; decide) (by rw [h19_15]; rfl) (by decide) ?_
    refine lv_aload_n hx hb d_Re_follow_80 rfl (lv_at hl 1 rfl) ?_
    refine lv_iload_n hx hb d_Re_follow_81 rfl (lv_at hl 0 rfl) ?_
    obtain ⟨t82, ht82, hT⟩ := qa_b hT
    refine qa_Vv (As := [.int t6.1]) (rest := []) (r := 77) S hK hN hA hO (xc_Re_touch l D cI cJ cF cZ ad t16.2 t6.1) ht82 qy_Re_touch lm_Re_82 ⟨by decide, by decide⟩ (by decide) rfl rfl rfl rfl hl.1 rfl (Nat.le_of_ble_eq_true rfl) d_Re_follow_82 (fun H locs hO => ?_)
    refine lv_goto (tgt := 114) hx hb d_Re_follow_85 (by decide) ?_
    exact ret hT hO d_Re_follow_114
  have hT := qa_f hT h19_15
  by_cases h19_16 : t16.1 = 16
  · have hT := qa_t hT h19_16
    refine lv_tableIn (off := 69) (tgt := 88) hx hb d_Re_follow_19 (by rw [h19_16]; decide) (by rw [h19_16]; decide) (by rw [h19_16]; rfl) (by decide) ?_
    refine lv_aload_n hx hb d_Re_follow_88 rfl (lv_at hl 1 rfl) ?_
    refine lv_iload_n hx hb d_Re_follow_89 rfl (lv_at hl 0 rfl) ?_
    obtain ⟨t90, ht90, hT⟩ := qa_b hT
    refine qa_Vv (As := [.int t6.1]) (rest := []) (r := 77) S hK hN hA hO (xc_Re_reachCall l D cI cJ cF cZ ad t16.2 t6.1) ht90 qy_Re_reachCall lm_Re_26 ⟨by decide, by decide⟩ (by decide) rfl rfl rfl rfl hl.1 rfl (Nat.le_of_ble_eq_true rfl) d_Re_follow_90 (fun H locs hO => ?_)
    refine lv_goto (tgt := 114) hx hb d_Re_follow_93 (by decide) ?_
    exact ret hT hO d_Re_follow_114
  have hT := qa_f hT h19_16
  by_cases h19_17 : t16.1 = 17
  · have hT := qa_t hT h19_17
    refine lv_tableIn (off := 77) (tgt := 96) hx hb d_Re_follow_19 (by rw [h19_17]; decide) (by rw [h19_17]; decide) (by rw [h19_17]; rfl) (by decide) ?_
    refine lv_aload_n hx hb d_Re_follow_96 rfl (lv_at hl 1 rfl) ?_
    refine lv_dup hx hb d_Re_follow_97 rfl ?_
    refine qa_get S hK hO hi_Re 77 (by decide) rfl rfl 2 (by decide) lf_Re_19 rfl rfl d_Re_follow_98 ?_
    refine lv_aload_n hx hb d_Re_follow_101 rfl (lv_at hl 1 rfl) ?_
    refine lv_iload_n hx hb d_Re_follow_102 rfl (lv_at hl 2 rfl) ?_
    refine lv_iload_n hx hb d_Re_follow_103 rfl (lv_at hl 3 rfl) ?_
    obtain ⟨t104, ht104, hT⟩ := qa_b hT
    refine qa_Vi (As := [.int x1, .int x2]) (rest := [.int (t16.2 77 2), .ref (ad 77)]) (r := 77) S hK hN hA hO (xc_Re_targetSet l D cI cJ cF cZ ad t16.2 x1 x2) ht104 qy_Re_targetSet lm_Re_85 ⟨by decide, by decide⟩ (by decide) rfl rfl rfl rfl hl.1 rfl (Nat.le_of_ble_eq_true rfl) d_Re_follow_104 (fun H locs hO => ?_)
    refine lv_ior hx hb d_Re_follow_107 ?_
    refine qa_put S hK hO hi_Re t_Re t_Re_ok n_Re 77 (by decide) rfl rfl 2 (by decide) lf_Re_19 rfl rfl (ty := .int) (by decide +kernel) rfl rfl (Nat.le_of_ble_eq_true rfl) rfl d_Re_follow_108 (fun H locs hO => ?_)
    refine lv_goto (tgt := 114) hx hb d_Re_follow_111 (by decide) ?_
    exact ret hT hO d_Re_follow_114
  have hT := qa_f hT h19_17
  have z11 : t16.1.toInt ≠ 11 := qa_ne h19_11 (by decide)
  have z12 : t16.1.toInt ≠ 12 := qa_ne h19_12 (by decide)
  have z13 : t16.1.toInt ≠ 13 := qa_ne h19_13 (by decide)
  have z14 : t16.1.toInt ≠ 14 := qa_ne h19_14 (by decide)
  have z15 : t16.1.toInt ≠ 15 := qa_ne h19_15 (by decide)
  have z16 : t16.1.toInt ≠ 16 := qa_ne h19_16 (by decide)
  have z17 : t16.1.toInt ≠ 17 := qa_ne h19_17 (by decide)
  refine lv_tableOut (tgt := 114) hx hb d_Re_follow_19 (by omega) (by decide) ?_
  exact ret hT hO d_Re_follow_114
def xf_Re_followLive_53 (k2 : qa_St → Int32 → qa_Re) (k15 : qa_St → Int32 → Int32 → qa_Re) (g : qa_St) (x1 : Int32) (x2 : Int32) : qa_Re := (k15 g x1 (x2 + 1))
def xf_Re_followLive_15 (k2 : qa_St → Int32 → qa_Re) : Nat → qa_St → Int32 → Int32 → qa_Re
  | 0, _, _, _ => none
  | n + 1, g, x1, x2 => ((xf_Pr_lengthOf g x1).bind fun t21 => (if t21.1 ≤ x2 then (k2 t21.2 (x1 + 1)) else ((xf_Re_isLive t21.2 x1).bind fun t29 => (if t29.1 = 0 then (xf_Re_followLive_53 k2 (xf_Re_followLive_15 k2 n) t29.2 x1 x2) else ((xf_Ch_isReached t29.2 x1 x2).bind fun t41 => (if t41.1 = 0 then (xf_Re_followLive_53 k2 (xf_Re_followLive_15 k2 n) t41.2 x1 x2) else ((xf_Re_follow t41.2 x1 x2).bind fun t50 => (xf_Re_followLive_53 k2 (xf_Re_followLive_15 k2 n) t50.2 x1 x2))))))))
def xf_Re_followLive_2 : Nat → qa_St → Int32 → qa_Re
  | 0, _, _ => none
  | n + 1, g, x1 => ((xf_Pr_methodCount g).bind fun t7 => (if t7.1 ≤ x1 then (some (0, t7.2)) else (xf_Re_followLive_15 (xf_Re_followLive_2 n) 4096 t7.2 x1 (0 : Int32))))
def xf_Re_followLive (g : qa_St) : qa_Re := (xf_Re_followLive_2 4096 g (0 : Int32))
set_option maxHeartbeats 4000000 in
set_option maxRecDepth 100000 in
theorem xc_Re_followLive (l : Launch) (D : va_G) (cI cJ cF cZ : ClassId) (ad : Nat → Nat) (g : qa_St) : qa_Mv l y_Re_followLive (qa_ws y_Re_followLive b_Re_followLive 3 none) (qa_rm 5 116) D (qa_ty cI cJ cF cZ) 107 ad (xe_en cI cJ cF ad) [.ref (ad 77)] g (xf_Re_followLive g) := by
  refine qa_metv (by decide) (Nat.le_of_ble_eq_true rfl) ?_
  intro p e s m args below meth c Q A T S hK hN hA hT ret ls hl hO
  have hx := S.1
  have hb := S.2.1
  have hl : lv_has ls 3 [(0, .ref (ad 77))] := hl
  have b53 : ∀ (k2 : qa_St → Int32 → qa_Re) (hk2 : ∀ (g : qa_St) (x1 : Int32) (ls : Array Slot) (H : Heap) (locs : List Loc), lv_has ls 3 [(0, .ref (ad 77)), (1, .int x1)] → qa_O D 107 ad (xe_en cI cJ cF ad) A s.heap g H locs → k2 g x1 = some T → W p l e (qa_rm 5 116) s m args below meth c H locs 0 0 Q (F0 m 2 ls [])) (k15 : qa_St → Int32 → Int32 → qa_Re) (hk15 : ∀ (g : qa_St) (x1 : Int32) (x2 : Int32) (ls : Array Slot) (H : Heap) (locs : List Loc), lv_has ls 3 [(0, .ref (ad 77)), (1, .int x1), (2, .int x2)] → qa_O D 107 ad (xe_en cI cJ cF ad) A s.heap g H locs → k15 g x1 x2 = some T → W p l e (qa_rm 5 116) s m args below meth c H locs 0 0 Q (F0 m 15 ls [])), ∀ (g : qa_St) (x1 : Int32) (x2 : Int32) (ls : Array Slot) (H : Heap) (locs : List Loc), lv_has ls 3 [(0, .ref (ad 77)), (1, .int x1), (2, .int x2)] → qa_O D 107 ad (xe_en cI cJ cF ad) A s.heap g H locs → xf_Re_followLive_53 k2 k15 g x1 x2 = some T → W p l e (qa_rm 5 116) s m args below meth c H locs 0 0 Q (F0 m 53 ls []) := by
    intro k2 hk2 k15 hk15
    intro g x1 x2 ls H locs hl hO hT
    unfold xf_Re_followLive_53 at hT
    refine lv_iinc (lv' := [(2, .int (x2 + 1)), (0, .ref (ad 77)), (1, .int x1)]) hx hb d_Re_followLive_53 hl (k := 2) rfl (qa_o1 _) (by decide) rfl (fun ls hl => ?_)
    refine lv_goto (tgt := 15) hx hb d_Re_followLive_56 (by decide) ?_
    exact hk15 g x1 (x2 + 1) _ _ _ (lv_sub hl [1, 2, 0] rfl) hO hT
  have b15 : ∀ (k2 : qa_St → Int32 → qa_Re) (hk2 : ∀ (g : qa_St) (x1 : Int32) (ls : Array Slot) (H : Heap) (locs : List Loc), lv_has ls 3 [(0, .ref (ad 77)), (1, .int x1)] → qa_O D 107 ad (xe_en cI cJ cF ad) A s.heap g H locs → k2 g x1 = some T → W p l e (qa_rm 5 116) s m args below meth c H locs 0 0 Q (F0 m 2 ls [])), ∀ (n : Nat), ∀ (g : qa_St) (x1 : Int32) (x2 : Int32) (ls : Array Slot) (H : Heap) (locs : List Loc), lv_has ls 3 [(0, .ref (ad 77)), (1, .int x1), (2, .int x2)] → qa_O D 107 ad (xe_en cI cJ cF ad) A s.heap g H locs → xf_Re_followLive_15 k2 n g x1 x2 = some T → W p l e (qa_rm 5 116) s m args below meth c H locs 0 0 Q (F0 m 15 ls []) := by
    intro k2 hk2
    intro n
    induction n with
    | zero => intro g x1 x2 ls H locs hl hO hT; rw [xf_Re_followLive_15] at hT; cases hT
    | succ n ih =>
      intro g x1 x2 ls H locs hl hO hT
      rw [xf_Re_followLive_15] at hT
      refine lv_iload_n hx hb d_Re_followLive_15 rfl (lv_at hl 2 rfl) ?_
      refine lv_aload_n hx hb d_Re_followLive_16 rfl (lv_at hl 0 rfl) ?_
      refine qa_get S hK hO hi_Re 77 (by decide) rfl rfl 0 (by decide) lf_Re_9 rfl rfl d_Re_followLive_17 ?_
      refine lv_iload_n hx hb d_Re_followLive_20 rfl (lv_at hl 1 rfl) ?_
      obtain ⟨t21, ht21, hT⟩ := qa_b hT
      refine qa_Vi (As := [.int x1]) (rest := [.int x2]) (r := 1) S hK hN hA hO (xc_Pr_lengthOf l D cI cJ cF cZ ad g x1) ht21 qy_Pr_lengthOf lm_Re_65 ⟨by decide, by decide⟩ (by decide) rfl rfl rfl rfl hl.1 rfl (Nat.le_of_ble_eq_true rfl) d_Re_followLive_21 (fun H locs hO => ?_)
      refine lv_icmp_ge (tgt := 59) hx hb d_Re_followLive_24 (by decide) (fun h => ?_) (fun h => ?_)
      · have hT := qa_t hT h
        refine lv_iinc (lv' := [(1, .int (x1 + 1)), (0, .ref (ad 77)), (2, .int x2)]) hx hb d_Re_followLive_59 hl (k := 1) rfl (qa_o1 _) (by decide) rfl (fun ls hl => ?_)
        refine lv_goto (tgt := 2) hx hb d_Re_followLive_62 (by decide) ?_
        exact hk2 t21.2 (x1 + 1) _ _ _ (lv_sub hl [1, 0] rfl) hO hT
      · have hT := qa_f hT h
        refine lv_aload_n hx hb d_Re_followLive_27 rfl (lv_at hl 0 rfl) ?_
        refine lv_iload_n hx hb d_Re_followLive_28 rfl (lv_at hl 1 rfl) ?_
        obtain ⟨t29, ht29, hT⟩ := qa_b hT
        refine qa_Vi (As := [.int x1]) (rest := []) (r := 77) S hK hN hA hO (xc_Re_isLive l D cI cJ cF cZ ad t21.2 x1) ht29 qy_Re_isLive lm_Re_69 ⟨by decide, by decide⟩ (by decide) rfl rfl rfl rfl hl.1 rfl (Nat.le_of_ble_eq_true rfl) d_Re_followLive_29 (fun H locs hO => ?_)
        refine lv_if_eq (tgt := 53) hx hb d_Re_followLive_32 (by decide) (fun h => ?_) (fun h => ?_)
        · have hT := qa_t hT h
          exact b53 k2 hk2 (xf_Re_followLive_15 k2 n) ih t29.2 x1 x2 _ _ _ (lv_sub hl [0, 1, 2] rfl) hO hT
        · have hT := qa_f hT h
          refine lv_aload_n hx hb d_Re_followLive_35 rfl (lv_at hl 0 rfl) ?_
          refine qa_get S hK hO hi_Re 77 (by decide) rfl rfl 1 (by decide) lf_Re_15 rfl rfl d_Re_followLive_36 ?_
          refine lv_iload_n hx hb d_Re_followLive_39 rfl (lv_at hl 1 rfl) ?_
          refine lv_iload_n hx hb d_Re_followLive_40 rfl (lv_at hl 2 rfl) ?_
          obtain ⟨t41, ht41, hT⟩ := qa_b hT
          refine qa_Vi (As := [.int x1, .int x2]) (rest := []) (r := 72) S hK hN hA hO (xc_Ch_isReached l D cI cJ cF cZ ad t29.2 x1 x2) ht41 qy_Ch_isReached lm_Re_72 ⟨by decide, by decide⟩ (by decide) rfl rfl rfl rfl hl.1 rfl (Nat.le_of_ble_eq_true rfl) d_Re_followLive_41 (fun H locs hO => ?_)
          refine lv_if_eq (tgt := 53) hx hb d_Re_followLive_44 (by decide) (fun h => ?_) (fun h => ?_)
          · have hT := qa_t hT h
            exact b53 k2 hk2 (xf_Re_followLive_15 k2 n) ih t41.2 x1 x2 _ _ _ (lv_sub hl [0, 1, 2] rfl) hO hT
          · have hT := qa_f hT h
            refine lv_aload_n hx hb d_Re_followLive_47 rfl (lv_at hl 0 rfl) ?_
            refine lv_iload_n hx hb d_Re_followLive_48 rfl (lv_at hl 1 rfl) ?_
            refine lv_iload_n hx hb d_Re_followLive_49 rfl (lv_at hl 2 rfl) ?_
            obtain ⟨t50, ht50, hT⟩ := qa_b hT
            refine qa_Vv (As := [.int x1, .int x2]) (rest := []) (r := 77) S hK hN hA hO (xc_Re_follow l D cI cJ cF cZ ad t41.2 x1 x2) ht50 qy_Re_follow lm_Re_75 ⟨by decide, by decide⟩ (by decide) rfl rfl rfl rfl hl.1 rfl (Nat.le_of_ble_eq_true rfl) d_Re_followLive_50 (fun H locs hO => ?_)
            exact b53 k2 hk2 (xf_Re_followLive_15 k2 n) ih t50.2 x1 x2 _ _ _ (lv_sub hl [0, 1, 2] rfl) hO hT
  have b2 : ∀ (n : Nat), ∀ (g : qa_St) (x1 : Int32) (ls : Array Slot) (H : Heap) (locs : List Loc), lv_has ls 3 [(0, .ref (ad 77)), (1, .int x1)] → qa_O D 107 ad (xe_en cI cJ cF ad) A s.heap g H locs → xf_Re_followLive_2 n g x1 = some T → W p l e (qa_rm 5 116) s m args below meth c H locs 0 0 Q (F0 m 2 ls []) := by
    intro n
    induction n with
    | zero => intro g x1 ls H locs hl hO hT; rw [xf_Re_followLive_2] at hT; cases hT
    | succ n ih =>
      intro g x1 ls H locs hl hO hT
      rw [xf_Re_followLive_2] at hT
      refine lv_iload_n hx hb d_Re_followLive_2 rfl (lv_at hl 1 rfl) ?_
      refine lv_aload_n hx hb d_Re_followLive_3 rfl (lv_at hl 0 rfl) ?_
      refine qa_get S hK hO hi_Re 77 (by decide) rfl rfl 0 (by decide) lf_Re_9 rfl rfl d_Re_followLive_4 ?_
      obtain ⟨t7, ht7, hT⟩ := qa_b hT
      refine qa_Vi (As := []) (rest := [.int x1]) (r := 1) S hK hN hA hO (xc_Pr_methodCount l D cI cJ cF cZ ad g) ht7 qy_Pr_methodCount lm_Re_62 ⟨by decide, by decide⟩ (by decide) rfl rfl rfl rfl hl.1 rfl (Nat.le_of_ble_eq_true rfl) d_Re_followLive_7 (fun H locs hO => ?_)
      refine lv_icmp_ge (tgt := 65) hx hb d_Re_followLive_10 (by decide) (fun h => ?_) (fun h => ?_)
      · have hT := qa_t hT h
        exact ret hT hO d_Re_followLive_65
      · have hT := qa_f hT h
        refine lv_iconst (v := 0) hx hb d_Re_followLive_13 (by decide) ?_
        refine lv_istore_n (lv' := [(2, .int (0 : Int32)), (0, .ref (ad 77)), (1, .int x1)]) hx hb d_Re_followLive_14 rfl hl (by decide) rfl (fun ls hl => ?_)
        exact b15 (xf_Re_followLive_2 n) ih 4096 t7.2 x1 (0 : Int32) _ _ _ (lv_sub hl [1, 2, 0] rfl) hO hT
  unfold xf_Re_followLive at hT
  refine lv_iconst (v := 0) hx hb d_Re_followLive_0 (by decide) ?_
  refine lv_istore_n (lv' := [(1, .int (0 : Int32)), (0, .ref (ad 77))]) hx hb d_Re_followLive_1 rfl hl (by decide) rfl (fun ls hl => ?_)
  exact b2 4096 g (0 : Int32) _ _ _ (lv_sub hl [1, 0] rfl) hO hT
def xf_Re_find_66 (k19 : qa_St → Int32 → Int32 → qa_Re) (g : qa_St) (x2 : Int32) (s0 : Int32) : qa_Re := (k19 g s0 (x2 + 1))
def xf_Re_find_61 (k19 : qa_St → Int32 → Int32 → qa_Re) (g : qa_St) (x2 : Int32) : qa_Re := (xf_Re_find_66 k19 g x2 (1 : Int32))
def xf_Re_find_19 : Nat → qa_St → Int32 → Int32 → qa_Re
  | 0, _, _, _ => none
  | n + 1, g, x1, x2 => (if (16 : Int32) < x2 then (some (0, g)) else (if x1 = 0 then (some (0, g)) else ((xf_Re_followLive g).bind fun t41 => (if (t41.2 77 2) = (g 77 2) then (if (t41.2 77 3) = (g 77 3) then (xf_Re_find_66 (xf_Re_find_19 n) t41.2 x2 (0 : Int32)) else (xf_Re_find_61 (xf_Re_find_19 n) t41.2 x2)) else (xf_Re_find_61 (xf_Re_find_19 n) t41.2 x2)))))
def xf_Re_find (g : qa_St) : qa_Re := ((xf_Re_reachCall (qa_up (qa_up g 77 2 (0 : Int32)) 77 3 (0 : Int32)) (0 : Int32)).bind fun t12 => (xf_Re_find_19 4096 t12.2 (1 : Int32) (0 : Int32)))
set_option maxHeartbeats 4000000 in
set_option maxRecDepth 100000 in
theorem xc_Re_find (l : Launch) (D : va_G) (cI cJ cF cZ : ClassId) (ad : Nat → Nat) (g : qa_St) : qa_Mv l y_Re_find (qa_ws y_Re_find b_Re_find 5 none) (qa_rm 6 138) D (qa_ty cI cJ cF cZ) 107 ad (xe_en cI cJ cF ad) [.ref (ad 77)] g (xf_Re_find g) := by
  refine qa_metv (by decide) (Nat.le_of_ble_eq_true rfl) ?_
  intro p e s m args below meth c Q A T S hK hN hA hT ret ls hl hO
  have hx := S.1
  have hb := S.2.1
  have hl : lv_has ls 5 [(0, .ref (ad 77))] := hl
  have b66 : ∀ (k19 : qa_St → Int32 → Int32 → qa_Re) (hk19 : ∀ (g : qa_St) (x1 : Int32) (x2 : Int32) (ls : Array Slot) (H : Heap) (locs : List Loc), lv_has ls 5 [(0, .ref (ad 77)), (1, .int x1), (2, .int x2)] → qa_O D 107 ad (xe_en cI cJ cF ad) A s.heap g H locs → k19 g x1 x2 = some T → W p l e (qa_rm 6 138) s m args below meth c H locs 0 0 Q (F0 m 19 ls [])), ∀ (g : qa_St) (x2 : Int32) (s0 : Int32) (ls : Array Slot) (H : Heap) (locs : List Loc), lv_has ls 5 [(0, .ref (ad 77)), (2, .int x2)] → qa_O D 107 ad (xe_en cI cJ cF ad) A s.heap g H locs → xf_Re_find_66 k19 g x2 s0 = some T → W p l e (qa_rm 6 138) s m args below meth c H locs 0 0 Q (F0 m 66 ls [.int s0]) := by
    intro k19 hk19
    intro g x2 s0 ls H locs hl hO hT
    unfold xf_Re_find_66 at hT
    refine lv_istore_n (lv' := [(1, .int s0), (0, .ref (ad 77)), (2, .int x2)]) hx hb d_Re_find_66 rfl hl (by decide) rfl (fun ls hl => ?_)
    refine lv_iinc (lv' := [(2, .int (x2 + 1)), (1, .int s0), (0, .ref (ad 77))]) hx hb d_Re_find_67 hl (k := 2) rfl (qa_o1 _) (by decide) rfl (fun ls hl => ?_)
    refine lv_goto (tgt := 19) hx hb d_Re_find_70 (by decide) ?_
    exact hk19 g s0 (x2 + 1) _ _ _ (lv_sub hl [2, 1, 0] rfl) hO hT
  have b61 : ∀ (k19 : qa_St → Int32 → Int32 → qa_Re) (hk19 : ∀ (g : qa_St) (x1 : Int32) (x2 : Int32) (ls : Array Slot) (H : Heap) (locs : List Loc), lv_has ls 5 [(0, .ref (ad 77)), (1, .int x1), (2, .int x2)] → qa_O D 107 ad (xe_en cI cJ cF ad) A s.heap g H locs → k19 g x1 x2 = some T → W p l e (qa_rm 6 138) s m args below meth c H locs 0 0 Q (F0 m 19 ls [])), ∀ (g : qa_St) (x2 : Int32) (ls : Array Slot) (H : Heap) (locs : List Loc), lv_has ls 5 [(0, .ref (ad 77)), (2, .int x2)] → qa_O D 107 ad (xe_en cI cJ cF ad) A s.heap g H locs → xf_Re_find_61 k19 g x2 = some T → W p l e (qa_rm 6 138) s m args below meth c H locs 0 0 Q (F0 m 61 ls []) := by
    intro k19 hk19
    intro g x2 ls H locs hl hO hT
    unfold xf_Re_find_61 at hT
    refine lv_iconst (v := 1) hx hb d_Re_find_61 (by decide) ?_
    refine lv_goto (tgt := 66) hx hb d_Re_find_62 (by decide) ?_
    exact b66 k19 hk19 g x2 (1 : Int32) _ _ _ (lv_sub hl [0, 1] rfl) hO hT
  have b19 : ∀ (n : Nat), ∀ (g : qa_St) (x1 : Int32) (x2 : Int32) (ls : Array Slot) (H : Heap) (locs : List Loc), lv_has ls 5 [(0, .ref (ad 77)), (1, .int x1), (2, .int x2)] → qa_O D 107 ad (xe_en cI cJ cF ad) A s.heap g H locs → xf_Re_find_19 n g x1 x2 = some T → W p l e (qa_rm 6 138) s m args below meth c H locs 0 0 Q (F0 m 19 ls []) := by
    intro n
    induction n with
    | zero => intro g x1 x2 ls H locs hl hO hT; rw [xf_Re_find_19] at hT; cases hT
    | succ n ih =>
      intro g x1 x2 ls H locs hl hO hT
      rw [xf_Re_find_19] at hT
      refine lv_iload_n hx hb d_Re_find_19 rfl (lv_at hl 2 rfl) ?_
      refine lv_bipush (v := 16) hx hb d_Re_find_20 (by decide) ?_
      refine lv_icmp_gt (tgt := 73) hx hb d_Re_find_22 (by decide) (fun h => ?_) (fun h => ?_)
      · have hT := qa_t hT h
        exact ret hT hO d_Re_find_73
      · have hT := qa_f hT h
        refine lv_iload_n hx hb d_Re_find_25 rfl (lv_at hl 1 rfl) ?_
        refine lv_if_eq (tgt := 73) hx hb d_Re_find_26 (by decide) (fun h => ?_) (fun h => ?_)
        · have hT := qa_t hT h
          exact ret hT hO d_Re_find_73
        · have hT := qa_f hT h
          refine lv_aload_n hx hb d_Re_find_29 rfl (lv_at hl 0 rfl) ?_
          refine qa_get S hK hO hi_Re 77 (by decide) rfl rfl 2 (by decide) lf_Re_19 rfl rfl d_Re_find_30 ?_
          refine lv_istore_n (lv' := [(3, .int (g 77 2)), (0, .ref (ad 77)), (1, .int x1), (2, .int x2)]) hx hb d_Re_find_33 rfl hl (by decide) rfl (fun ls hl => ?_)
          refine lv_aload_n hx hb d_Re_find_34 rfl (lv_at hl 1 rfl) ?_
          refine qa_get S hK hO hi_Re 77 (by decide) rfl rfl 3 (by decide) lf_Re_23 rfl rfl d_Re_find_35 ?_
          refine lv_istore (lv' := [(4, .int (g 77 3)), (3, .int (g 77 2)), (0, .ref (ad 77)), (1, .int x1), (2, .int x2)]) hx hb d_Re_find_38 hl (by decide) rfl (fun ls hl => ?_)
          refine lv_aload_n hx hb d_Re_find_40 rfl (lv_at hl 2 rfl) ?_
          obtain ⟨t41, ht41, hT⟩ := qa_b hT
          refine qa_Vv (As := []) (rest := []) (r := 77) S hK hN hA hO (xc_Re_followLive l D cI cJ cF cZ ad g) ht41 qy_Re_followLive lm_Re_30 ⟨by decide, by decide⟩ (by decide) rfl rfl rfl rfl hl.1 rfl (Nat.le_of_ble_eq_true rfl) d_Re_find_41 (fun H locs hO => ?_)
          refine lv_aload_n hx hb d_Re_find_44 rfl (lv_at hl 2 rfl) ?_
          refine qa_get S hK hO hi_Re 77 (by decide) rfl rfl 2 (by decide) lf_Re_19 rfl rfl d_Re_find_45 ?_
          refine lv_iload_n hx hb d_Re_find_48 rfl (lv_at hl 1 rfl) ?_
          refine lv_icmp_ne (tgt := 61) hx hb d_Re_find_49 (by decide) (fun h => ?_) (fun h => ?_)
          · have hT := qa_f hT h
            exact b61 (xf_Re_find_19 n) ih t41.2 x2 _ _ _ (lv_sub hl [2, 4] rfl) hO hT
          · have hT := qa_t hT h
            refine lv_aload_n hx hb d_Re_find_52 rfl (lv_at hl 2 rfl) ?_
            refine qa_get S hK hO hi_Re 77 (by decide) rfl rfl 3 (by decide) lf_Re_23 rfl rfl d_Re_find_53 ?_
            refine lv_iload hx hb d_Re_find_56 (lv_at hl 0 rfl) ?_
            refine lv_icmp_eq (tgt := 65) hx hb d_Re_find_58 (by decide) (fun h => ?_) (fun h => ?_)
            · have hT := qa_t hT h
              refine lv_iconst (v := 0) hx hb d_Re_find_65 (by decide) ?_
              exact b66 (xf_Re_find_19 n) ih t41.2 x2 (0 : Int32) _ _ _ (lv_sub hl [2, 4] rfl) hO hT
            · have hT := qa_f hT h
              exact b61 (xf_Re_find_19 n) ih t41.2 x2 _ _ _ (lv_sub hl [2, 4] rfl) hO hT
  unfold xf_Re_find at hT
  refine lv_aload_n hx hb d_Re_find_0 rfl (lv_at hl 0 rfl) ?_
  refine lv_iconst (v := 0) hx hb d_Re_find_1 (by decide) ?_
  refine qa_put S hK hO hi_Re t_Re t_Re_ok n_Re 77 (by decide) rfl rfl 2 (by decide) lf_Re_19 rfl rfl (ty := .int) (by decide +kernel) rfl rfl (Nat.le_of_ble_eq_true rfl) rfl d_Re_find_2 (fun H locs hO => ?_)
  refine lv_aload_n hx hb d_Re_find_5 rfl (lv_at hl 0 rfl) ?_
  refine lv_iconst (v := 0) hx hb d_Re_find_6 (by decide) ?_
  refine qa_put S hK hO hi_Re t_Re t_Re_ok n_Re 77 (by decide) rfl rfl 3 (by decide) lf_Re_23 rfl rfl (ty := .int) (by decide +kernel) rfl rfl (Nat.le_of_ble_eq_true rfl) rfl d_Re_find_7 (fun H locs hO => ?_)
  refine lv_aload_n hx hb d_Re_find_10 rfl (lv_at hl 0 rfl) ?_
  refine lv_iconst (v := 0) hx hb d_Re_find_11 (by decide) ?_
  obtain ⟨t12, ht12, hT⟩ := qa_b hT
  refine qa_Vv (As := [.int (0 : Int32)]) (rest := []) (r := 77) S hK hN hA hO (xc_Re_reachCall l D cI cJ cF cZ ad (qa_up (qa_up g 77 2 (0 : Int32)) 77 3 (0 : Int32)) (0 : Int32)) ht12 qy_Re_reachCall lm_Re_26 ⟨by decide, by decide⟩ (by decide) rfl rfl rfl rfl hl.1 rfl (Nat.le_of_ble_eq_true rfl) d_Re_find_12 (fun H locs hO => ?_)
  refine lv_iconst (v := 1) hx hb d_Re_find_15 (by decide) ?_
  refine lv_istore_n (lv' := [(1, .int (1 : Int32)), (0, .ref (ad 77))]) hx hb d_Re_find_16 rfl hl (by decide) rfl (fun ls hl => ?_)
  refine lv_iconst (v := 0) hx hb d_Re_find_17 (by decide) ?_
  refine lv_istore_n (lv' := [(2, .int (0 : Int32)), (1, .int (1 : Int32)), (0, .ref (ad 77))]) hx hb d_Re_find_18 rfl hl (by decide) rfl (fun ls hl => ?_)
  exact b19 4096 t12.2 (1 : Int32) (0 : Int32) _ _ _ (lv_sub hl [2, 1, 0] rfl) hO hT
