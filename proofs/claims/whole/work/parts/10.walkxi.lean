def xf_Cw_kept (g : qa_St) (x1 : Int32) : qa_Re := (if (g 0 5) = 0 then (some ((0 : Int32), g)) else ((xf_Pr_isType g x1).bind fun t12 => (if t12.1 = 0 then (some ((0 : Int32), t12.2)) else ((xf_Ma_staticOf t12.2 x1).bind fun t23 => (some (t23.1, t23.2))))))
set_option maxHeartbeats 4000000 in
set_option maxRecDepth 100000 in
theorem xc_Cw_kept (l : Launch) (D : va_G) (cI cJ cF cZ : ClassId) (ad : Nat → Nat) (g : qa_St) (x1 : Int32) : qa_Mi l y_Cw_kept (qa_ws y_Cw_kept b_Cw_kept 2 (some .int)) (qa_rm 2 42) D (qa_ty cI cJ cF cZ) 107 ad (xe_en cI cJ cF ad) [.ref (ad 0), .int x1] g (xf_Cw_kept g x1) := by
  refine qa_meti (by decide) (Nat.le_of_ble_eq_true rfl) ?_
  intro p e s m args below meth c Q A T S hK hN hA hT ret ls hl hO
  have hx := S.1
  have hb := S.2.1
  have hl : lv_has ls 2 [(0, .ref (ad 0)), (1, .int x1)] := hl
  unfold xf_Cw_kept at hT
  refine lv_aload_n hx hb d_Cw_kept_0 rfl (lv_at hl 0 rfl) ?_
  refine qa_get S hK hO hi_Cw 0 (by decide) rfl rfl 5 (by decide) lf_Cw_45 rfl rfl d_Cw_kept_1 ?_
  refine lv_if_eq (tgt := 29) hx hb d_Cw_kept_4 (by decide) (fun h => ?_) (fun h => ?_)
  · have hT := qa_t hT h
    refine lv_iconst (v := 0) hx hb d_Cw_kept_29 (by decide) ?_
    exact ret hT hO d_Cw_kept_30
  · have hT := qa_f hT h
    refine lv_aload_n hx hb d_Cw_kept_7 rfl (lv_at hl 0 rfl) ?_
    refine qa_get S hK hO hi_Cw 0 (by decide) rfl rfl 0 (by decide) lf_Cw_17 rfl rfl d_Cw_kept_8 ?_
    refine lv_iload_n hx hb d_Cw_kept_11 rfl (lv_at hl 1 rfl) ?_
    obtain ⟨t12, ht12, hT⟩ := qa_b hT
    refine qa_Vi (As := [.int x1]) (rest := []) (r := 1) S hK hN hA hO (xc_Pr_isType l D cI cJ cF cZ ad g x1) ht12 qy_Pr_isType lm_Cw_139 ⟨by decide, by decide⟩ (by decide) rfl rfl rfl rfl hl.1 rfl (Nat.le_of_ble_eq_true rfl) d_Cw_kept_12 (fun H locs hO => ?_)
    refine lv_if_eq (tgt := 29) hx hb d_Cw_kept_15 (by decide) (fun h => ?_) (fun h => ?_)
    · have hT := qa_t hT h
      refine lv_iconst (v := 0) hx hb d_Cw_kept_29 (by decide) ?_
      exact ret hT hO d_Cw_kept_30
    · have hT := qa_f hT h
      refine lv_aload_n hx hb d_Cw_kept_18 rfl (lv_at hl 0 rfl) ?_
      refine qa_get S hK hO hi_Cw 0 (by decide) rfl rfl 3 (by decide) lf_Cw_37 rfl rfl d_Cw_kept_19 ?_
      refine lv_iload_n hx hb d_Cw_kept_22 rfl (lv_at hl 1 rfl) ?_
      obtain ⟨t23, ht23, hT⟩ := qa_b hT
      refine qa_Vi (As := [.int x1]) (rest := []) (r := 78) S hK hN hA hO (xc_Ma_staticOf l D cI cJ cF cZ ad t12.2 x1) ht23 qy_Ma_staticOf lm_Cw_148 ⟨by decide, by decide⟩ (by decide) rfl rfl rfl rfl hl.1 rfl (Nat.le_of_ble_eq_true rfl) d_Cw_kept_23 (fun H locs hO => ?_)
      refine lv_goto (tgt := 30) hx hb d_Cw_kept_26 (by decide) ?_
      exact ret hT hO d_Cw_kept_30
def xf_Ma_trigger_88 (P : qa_St → Int32 → Int32 → qa_Re) (k2 : qa_St → Int32 → Int32 → Int32 → qa_Re) (g : qa_St) (x1 : Int32) (x2 : Int32) (x3 : Int32) : qa_Re := (k2 g x1 x2 (x3 + 1))
def xf_Ma_trigger_78 (P : qa_St → Int32 → Int32 → qa_Re) (k2 : qa_St → Int32 → Int32 → Int32 → qa_Re) (g : qa_St) (x1 : Int32) (x2 : Int32) (x3 : Int32) (s0 : Int32) : qa_Re := (if s0 = 0 then (xf_Ma_trigger_88 P k2 g x1 x2 x3) else (some (s0, g)))
def xf_Ma_trigger_49 (P : qa_St → Int32 → Int32 → qa_Re) (k2 : qa_St → Int32 → Int32 → Int32 → qa_Re) (g : qa_St) (x1 : Int32) (x2 : Int32) (x3 : Int32) : qa_Re := ((xf_Pr_initialiserOf g x3).bind fun t54 => (if t54.1 = (-1 : Int32) then (xf_Ma_trigger_78 P k2 t54.2 x1 x2 x3 (0 : Int32)) else ((P t54.2 t54.1 (x2 + (1 : Int32))).bind fun t75 => (xf_Ma_trigger_78 P k2 t75.2 x1 x2 x3 t75.1))))
def xf_Ma_trigger_2 (P : qa_St → Int32 → Int32 → qa_Re) : Nat → qa_St → Int32 → Int32 → Int32 → qa_Re
  | 0, _, _, _, _ => none
  | n + 1, g, x1, x2, x3 => (if x1 < x3 then (some ((0 : Int32), g)) else ((xf_Pr_isOf g x1 x3).bind fun t13 => (if t13.1 = 0 then (xf_Ma_trigger_88 P (xf_Ma_trigger_2 P n) t13.2 x1 x2 x3) else (if x3 < 0 ∨ 6 ≤ x3.toNatClampNeg then none else (if (t13.2 81 x3.toNatClampNeg) = (-1 : Int32) then (if x3 < 0 ∨ 6 ≤ x3.toNatClampNeg then none else (xf_Ma_trigger_49 P (xf_Ma_trigger_2 P n) (qa_up (qa_up t13.2 81 x3.toNatClampNeg (t13.2 78 7)) 78 7 (((qa_up t13.2 81 x3.toNatClampNeg (t13.2 78 7)) 78 7) + (1 : Int32))) x1 x2 x3)) else (xf_Ma_trigger_88 P (xf_Ma_trigger_2 P n) t13.2 x1 x2 x3))))))
def xf_Ma_trigger (P : qa_St → Int32 → Int32 → qa_Re) (g : qa_St) (x1 : Int32) (x2 : Int32) : qa_Re := (xf_Ma_trigger_2 P 4096 g x1 x2 (0 : Int32))
set_option maxHeartbeats 4000000 in
set_option maxRecDepth 100000 in
theorem xc_Ma_trigger (l : Launch) (D : va_G) (cI cJ cF cZ : ClassId) (ad : Nat → Nat) (P : qa_St → Int32 → Int32 → qa_Re) (FP LP : Nat) (hP : ∀ (g : qa_St) (x1 x2 : Int32), qa_Mi l y_Ma_perform (qa_ws y_Ma_perform b_Ma_perform 9 (some .int)) (qa_rm FP LP) D (qa_ty cI cJ cF cZ) 107 ad (xe_en cI cJ cF ad) [.ref (ad 78), .int x1, .int x2] g (P g x1 x2)) (g : qa_St) (x1 : Int32) (x2 : Int32) : qa_Mi l y_Ma_trigger (qa_ws y_Ma_trigger b_Ma_trigger 6 (some .int)) (qa_rm (FP + 2) (LP + 43)) D (qa_ty cI cJ cF cZ) 107 ad (xe_en cI cJ cF ad) [.ref (ad 78), .int x1, .int x2] g (xf_Ma_trigger P g x1 x2) := by
  refine qa_meti (by decide) (Nat.le_of_ble_eq_true rfl) ?_
  intro p e s m args below meth c Q A T S hK hN hA hT ret ls hl hO
  have hx := S.1
  have hb := S.2.1
  have hl : lv_has ls 6 [(0, .ref (ad 78)), (1, .int x1), (2, .int x2)] := hl
  have b88 : ∀ (k2 : qa_St → Int32 → Int32 → Int32 → qa_Re) (hk2 : ∀ (g : qa_St) (x1 : Int32) (x2 : Int32) (x3 : Int32) (ls : Array Slot) (H : Heap) (locs : List Loc), lv_has ls 6 [(0, .ref (ad 78)), (1, .int x1), (2, .int x2), (3, .int x3)] → qa_O D 107 ad (xe_en cI cJ cF ad) A s.heap g H locs → k2 g x1 x2 x3 = some T → W p l e (qa_rm (FP + 2) (LP + 43)) s m args below meth c H locs 0 0 Q (F0 m 2 ls [])), ∀ (g : qa_St) (x1 : Int32) (x2 : Int32) (x3 : Int32) (ls : Array Slot) (H : Heap) (locs : List Loc), lv_has ls 6 [(0, .ref (ad 78)), (1, .int x1), (2, .int x2), (3, .int x3)] → qa_O D 107 ad (xe_en cI cJ cF ad) A s.heap g H locs → xf_Ma_trigger_88 P k2 g x1 x2 x3 = some T → W p l e (qa_rm (FP + 2) (LP + 43)) s m args below meth c H locs 0 0 Q (F0 m 88 ls []) := by
    intro k2 hk2
    intro g x1 x2 x3 ls H locs hl hO hT
    unfold xf_Ma_trigger_88 at hT
    refine lv_iinc (lv' := [(3, .int (x3 + 1)), (0, .ref (ad 78)), (1, .int x1), (2, .int x2)]) hx hb d_Ma_trigger_88 hl (k := 3) rfl (qa_o1 _) (by decide) rfl (fun ls hl => ?_)
    refine lv_goto (tgt := 2) hx hb d_Ma_trigger_91 (by decide) ?_
    exact hk2 g x1 x2 (x3 + 1) _ _ _ (lv_sub hl [1, 2, 3, 0] rfl) hO hT
  have b78 : ∀ (k2 : qa_St → Int32 → Int32 → Int32 → qa_Re) (hk2 : ∀ (g : qa_St) (x1 : Int32) (x2 : Int32) (x3 : Int32) (ls : Array Slot) (H : Heap) (locs : List Loc), lv_has ls 6 [(0, .ref (ad 78)), (1, .int x1), (2, .int x2), (3, .int x3)] → qa_O D 107 ad (xe_en cI cJ cF ad) A s.heap g H locs → k2 g x1 x2 x3 = some T → W p l e (qa_rm (FP + 2) (LP + 43)) s m args below meth c H locs 0 0 Q (F0 m 2 ls [])), ∀ (g : qa_St) (x1 : Int32) (x2 : Int32) (x3 : Int32) (s0 : Int32) (ls : Array Slot) (H : Heap) (locs : List Loc), lv_has ls 6 [(0, .ref (ad 78)), (1, .int x1), (2, .int x2), (3, .int x3)] → qa_O D 107 ad (xe_en cI cJ cF ad) A s.heap g H locs → xf_Ma_trigger_78 P k2 g x1 x2 x3 s0 = some T → W p l e (qa_rm (FP + 2) (LP + 43)) s m args below meth c H locs 0 0 Q (F0 m 78 ls [.int s0]) := by
    intro k2 hk2
    intro g x1 x2 x3 s0 ls H locs hl hO hT
    unfold xf_Ma_trigger_78 at hT
    refine lv_istore (lv' := [(5, .int s0), (0, .ref (ad 78)), (1, .int x1), (2, .int x2), (3, .int x3)]) hx hb d_Ma_trigger_78 hl (by decide) rfl (fun ls hl => ?_)
    refine lv_iload hx hb d_Ma_trigger_80 (lv_at hl 0 rfl) ?_
    refine lv_if_eq (tgt := 88) hx hb d_Ma_trigger_82 (by decide) (fun h => ?_) (fun h => ?_)
    · have hT := qa_t hT h
      exact b88 k2 hk2 g x1 x2 x3 _ _ _ (lv_sub hl [1, 2, 3, 4] rfl) hO hT
    · have hT := qa_f hT h
      refine lv_iload hx hb d_Ma_trigger_85 (lv_at hl 0 rfl) ?_
      exact ret hT hO d_Ma_trigger_87
  have b49 : ∀ (k2 : qa_St → Int32 → Int32 → Int32 → qa_Re) (hk2 : ∀ (g : qa_St) (x1 : Int32) (x2 : Int32) (x3 : Int32) (ls : Array Slot) (H : Heap) (locs : List Loc), lv_has ls 6 [(0, .ref (ad 78)), (1, .int x1), (2, .int x2), (3, .int x3)] → qa_O D 107 ad (xe_en cI cJ cF ad) A s.heap g H locs → k2 g x1 x2 x3 = some T → W p l e (qa_rm (FP + 2) (LP + 43)) s m args below meth c H locs 0 0 Q (F0 m 2 ls [])), ∀ (g : qa_St) (x1 : Int32) (x2 : Int32) (x3 : Int32) (ls : Array Slot) (H : Heap) (locs : List Loc), lv_has ls 6 [(0, .ref (ad 78)), (1, .int x1), (2, .int x2), (3, .int x3)] → qa_O D 107 ad (xe_en cI cJ cF ad) A s.heap g H locs → xf_Ma_trigger_49 P k2 g x1 x2 x3 = some T → W p l e (qa_rm (FP + 2) (LP + 43)) s m args below meth c H locs 0 0 Q (F0 m 49 ls []) := by
    intro k2 hk2
    intro g x1 x2 x3 ls H locs hl hO hT
    unfold xf_Ma_trigger_49 at hT
    refine lv_aload_n hx hb d_Ma_trigger_49 rfl (lv_at hl 0 rfl) ?_
    refine qa_get S hK hO hi_Ma 78 (by decide) rfl rfl 0 (by decide) lf_Ma_33 rfl rfl d_Ma_trigger_50 ?_
    refine lv_iload_n hx hb d_Ma_trigger_53 rfl (lv_at hl 3 rfl) ?_
    obtain ⟨t54, ht54, hT⟩ := qa_b hT
    refine qa_Vi (As := [.int x3]) (rest := []) (r := 1) S hK hN hA hO (xc_Pr_initialiserOf l D cI cJ cF cZ ad g x3) ht54 qy_Pr_initialiserOf lm_Ma_171 ⟨by omega, by omega⟩ (by decide) rfl rfl rfl rfl hl.1 rfl (Nat.le_of_ble_eq_true rfl) d_Ma_trigger_54 (fun H locs hO => ?_)
    refine lv_istore (lv' := [(4, .int t54.1), (0, .ref (ad 78)), (1, .int x1), (2, .int x2), (3, .int x3)]) hx hb d_Ma_trigger_57 hl (by decide) rfl (fun ls hl => ?_)
    refine lv_iload hx hb d_Ma_trigger_59 (lv_at hl 0 rfl) ?_
    refine lv_iconst (v := -1) hx hb d_Ma_trigger_61 (by decide) ?_
    refine lv_icmp_ne (tgt := 69) hx hb d_Ma_trigger_62 (by decide) (fun h => ?_) (fun h => ?_)
    · have hT := qa_f hT h
      refine lv_aload_n hx hb d_Ma_trigger_69 rfl (lv_at hl 1 rfl) ?_
      refine lv_iload hx hb d_Ma_trigger_70 (lv_at hl 0 rfl) ?_
      refine lv_iload_n hx hb d_Ma_trigger_72 rfl (lv_at hl 3 rfl) ?_
      refine lv_iconst (v := 1) hx hb d_Ma_trigger_73 (by decide) ?_
      refine lv_iadd hx hb d_Ma_trigger_74 ?_
      obtain ⟨t75, ht75, hT⟩ := qa_b hT
      refine qa_Vi (As := [.int t54.1, .int (x2 + (1 : Int32))]) (rest := []) (r := 78) S hK hN hA hO (hP t54.2 t54.1 (x2 + (1 : Int32))) ht75 qy_Ma_perform lm_Ma_77 ⟨by omega, by omega⟩ (by decide) rfl rfl rfl rfl hl.1 rfl (Nat.le_of_ble_eq_true rfl) d_Ma_trigger_75 (fun H locs hO => ?_)
      exact b78 k2 hk2 t75.2 x1 x2 x3 t75.1 _ _ _ (lv_sub hl [1, 2, 3, 4] rfl) hO hT
    · have hT := qa_t hT h
      refine lv_iconst (v := 0) hx hb d_Ma_trigger_65 (by decide) ?_
      refine lv_goto (tgt := 78) hx hb d_Ma_trigger_66 (by decide) ?_
      exact b78 k2 hk2 t54.2 x1 x2 x3 (0 : Int32) _ _ _ (lv_sub hl [1, 2, 3, 4] rfl) hO hT
  have b2 : ∀ (n : Nat), ∀ (g : qa_St) (x1 : Int32) (x2 : Int32) (x3 : Int32) (ls : Array Slot) (H : Heap) (locs : List Loc), lv_has ls 6 [(0, .ref (ad 78)), (1, .int x1), (2, .int x2), (3, .int x3)] → qa_O D 107 ad (xe_en cI cJ cF ad) A s.heap g H locs → xf_Ma_trigger_2 P n g x1 x2 x3 = some T → W p l e (qa_rm (FP + 2) (LP + 43)) s m args below meth c H locs 0 0 Q (F0 m 2 ls []) := by
    intro n
    induction n with
    | zero => intro g x1 x2 x3 ls H locs hl hO hT; rw [xf_Ma_trigger_2] at hT; cases hT
    | succ n ih =>
      intro g x1 x2 x3 ls H locs hl hO hT
      rw [xf_Ma_trigger_2] at hT
      refine lv_iload_n hx hb d_Ma_trigger_2 rfl (lv_at hl 3 rfl) ?_
      refine lv_iload_n hx hb d_Ma_trigger_3 rfl (lv_at hl 1 rfl) ?_
      refine lv_icmp_gt (tgt := 94) hx hb d_Ma_trigger_4 (by decide) (fun h => ?_) (fun h => ?_)
      · have hT := qa_t hT h
        refine lv_iconst (v := 0) hx hb d_Ma_trigger_94 (by decide) ?_
        exact ret hT hO d_Ma_trigger_95
      · have hT := qa_f hT h
        refine lv_aload_n hx hb d_Ma_trigger_7 rfl (lv_at hl 0 rfl) ?_
        refine qa_get S hK hO hi_Ma 78 (by decide) rfl rfl 0 (by decide) lf_Ma_33 rfl rfl d_Ma_trigger_8 ?_
        refine lv_iload_n hx hb d_Ma_trigger_11 rfl (lv_at hl 1 rfl) ?_
        refine lv_iload_n hx hb d_Ma_trigger_12 rfl (lv_at hl 3 rfl) ?_
        obtain ⟨t13, ht13, hT⟩ := qa_b hT
        refine qa_Vi (As := [.int x1, .int x3]) (rest := []) (r := 1) S hK hN hA hO (xc_Pr_isOf l D cI cJ cF cZ ad g x1 x3) ht13 qy_Pr_isOf lm_Ma_168 ⟨by omega, by omega⟩ (by decide) rfl rfl rfl rfl hl.1 rfl (Nat.le_of_ble_eq_true rfl) d_Ma_trigger_13 (fun H locs hO => ?_)
        refine lv_if_eq (tgt := 88) hx hb d_Ma_trigger_16 (by decide) (fun h => ?_) (fun h => ?_)
        · have hT := qa_t hT h
          exact b88 (xf_Ma_trigger_2 P n) ih t13.2 x1 x2 x3 _ _ _ (lv_sub hl [0, 1, 2, 3] rfl) hO hT
        · have hT := qa_f hT h
          refine lv_aload_n hx hb d_Ma_trigger_19 rfl (lv_at hl 0 rfl) ?_
          refine qa_get S hK hO hi_Ma 78 (by decide) rfl rfl 3 (by decide) lf_Ma_21 rfl rfl d_Ma_trigger_20 ?_
          refine lv_iload_n hx hb d_Ma_trigger_23 rfl (lv_at hl 3 rfl) ?_
          obtain ⟨hi24, hT⟩ := qa_c hT
          refine qa_iald (n := 6) S hK hO 81 (by decide) 0 (xe_arr rfl) rfl hi24 d_Ma_trigger_24 ?_
          refine lv_iconst (v := -1) hx hb d_Ma_trigger_25 (by decide) ?_
          refine lv_icmp_ne (tgt := 88) hx hb d_Ma_trigger_26 (by decide) (fun h => ?_) (fun h => ?_)
          · have hT := qa_f hT h
            exact b88 (xf_Ma_trigger_2 P n) ih t13.2 x1 x2 x3 _ _ _ (lv_sub hl [0, 1, 2, 3] rfl) hO hT
          · have hT := qa_t hT h
            refine lv_aload_n hx hb d_Ma_trigger_29 rfl (lv_at hl 0 rfl) ?_
            refine qa_get S hK hO hi_Ma 78 (by decide) rfl rfl 3 (by decide) lf_Ma_21 rfl rfl d_Ma_trigger_30 ?_
            refine lv_iload_n hx hb d_Ma_trigger_33 rfl (lv_at hl 3 rfl) ?_
            refine lv_aload_n hx hb d_Ma_trigger_34 rfl (lv_at hl 0 rfl) ?_
            refine qa_get S hK hO hi_Ma 78 (by decide) rfl rfl 7 (by decide) lf_Ma_44 rfl rfl d_Ma_trigger_35 ?_
            obtain ⟨hi38, hT⟩ := qa_c hT
            refine qa_iast (n := 6) S hK hO 81 (by decide) 0 (xe_arr rfl) rfl hi38 d_Ma_trigger_38 (fun H locs hO => ?_)
            refine lv_aload_n hx hb d_Ma_trigger_39 rfl (lv_at hl 0 rfl) ?_
            refine lv_dup hx hb d_Ma_trigger_40 rfl ?_
            refine qa_get S hK hO hi_Ma 78 (by decide) rfl rfl 7 (by decide) lf_Ma_44 rfl rfl d_Ma_trigger_41 ?_
            refine lv_iconst (v := 1) hx hb d_Ma_trigger_44 (by decide) ?_
            refine lv_iadd hx hb d_Ma_trigger_45 ?_
            refine qa_put S hK hO hi_Ma t_Ma t_Ma_ok n_Ma 78 (by decide) rfl rfl 7 (by decide) lf_Ma_44 rfl rfl (ty := .int) (by decide +kernel) rfl rfl (Nat.le_of_ble_eq_true rfl) rfl d_Ma_trigger_46 (fun H locs hO => ?_)
            exact b49 (xf_Ma_trigger_2 P n) ih (qa_up (qa_up t13.2 81 x3.toNatClampNeg (t13.2 78 7)) 78 7 (((qa_up t13.2 81 x3.toNatClampNeg (t13.2 78 7)) 78 7) + (1 : Int32))) x1 x2 x3 _ _ _ (lv_sub hl [0, 1, 2, 3] rfl) hO hT
  unfold xf_Ma_trigger at hT
  refine lv_iconst (v := 0) hx hb d_Ma_trigger_0 (by decide) ?_
  refine lv_istore_n (lv' := [(3, .int (0 : Int32)), (0, .ref (ad 78)), (1, .int x1), (2, .int x2)]) hx hb d_Ma_trigger_1 rfl hl (by decide) rfl (fun ls hl => ?_)
  exact b2 4096 g x1 x2 (0 : Int32) _ _ _ (lv_sub hl [1, 2, 3, 0] rfl) hO hT
def xf_Ma_send (P : qa_St → Int32 → Int32 → qa_Re) (g : qa_St) (x1 : Int32) (x2 : Int32) : qa_Re := (if x2 < 0 ∨ 11 ≤ x2.toNatClampNeg then none else ((xf_Fr_second g (85 + 2 * x2.toNatClampNeg)).bind fun t6 => ((xf_Ma_isNull t6.2 t6.1).bind fun t12 => (if t12.1 = 0 then (if t6.1 < 0 ∨ 16 ≤ t6.1.toNatClampNeg then none else ((xf_Pr_answering t12.2 (t12.2 82 t6.1.toNatClampNeg) x1).bind fun t35 => ((P t35.2 t35.1 (x2 + (1 : Int32))).bind fun t47 => (if x2 < 0 ∨ 11 ≤ x2.toNatClampNeg then none else ((xf_Ma_receive t47.2 t47.1 (85 + 2 * x2.toNatClampNeg)).bind fun t56 => (some (t56.1, t56.2))))))) else ((xf_Ma_toss t12.2 (-1 : Int32)).bind fun t20 => (some (t20.1, t20.2)))))))
set_option maxHeartbeats 4000000 in
set_option maxRecDepth 100000 in
theorem xc_Ma_send (l : Launch) (D : va_G) (cI cJ cF cZ : ClassId) (ad : Nat → Nat) (P : qa_St → Int32 → Int32 → qa_Re) (FP LP : Nat) (hP : ∀ (g : qa_St) (x1 x2 : Int32), qa_Mi l y_Ma_perform (qa_ws y_Ma_perform b_Ma_perform 9 (some .int)) (qa_rm FP LP) D (qa_ty cI cJ cF cZ) 107 ad (xe_en cI cJ cF ad) [.ref (ad 78), .int x1, .int x2] g (P g x1 x2)) (g : qa_St) (x1 : Int32) (x2 : Int32) : qa_Mi l y_Ma_send (qa_ws y_Ma_send b_Ma_send 5 (some .int)) (qa_rm (FP + 2) (LP + 44)) D (qa_ty cI cJ cF cZ) 107 ad (xe_en cI cJ cF ad) [.ref (ad 78), .int x1, .int x2] g (xf_Ma_send P g x1 x2) := by
  refine qa_meti (by decide) (Nat.le_of_ble_eq_true rfl) ?_
  intro p e s m args below meth c Q A T S hK hN hA hT ret ls hl hO
  have hx := S.1
  have hb := S.2.1
  have hl : lv_has ls 5 [(0, .ref (ad 78)), (1, .int x1), (2, .int x2)] := hl
  unfold xf_Ma_send at hT
  refine lv_aload_n hx hb d_Ma_send_0 rfl (lv_at hl 0 rfl) ?_
  refine qa_get S hK hO hi_Ma 78 (by decide) rfl rfl 1 (by decide) lf_Ma_11 rfl rfl d_Ma_send_1 ?_
  refine lv_iload_n hx hb d_Ma_send_4 rfl (lv_at hl 2 rfl) ?_
  obtain ⟨hi5, hT⟩ := qa_c hT
  refine qa_aald (n := 11) S hK hO 79 (by decide) 2 rfl rfl rfl hi5 rfl d_Ma_send_5 ?_
  obtain ⟨t6, ht6, hT⟩ := qa_b hT
  refine qa_Vi (As := []) (rest := []) (r := (85 + 2 * x2.toNatClampNeg)) S hK hN hA hO (xc_Fr_second l D cI cJ cF cZ ad g (85 + 2 * x2.toNatClampNeg) (xe_Fof hi5)) ht6 qy_Fr_second lm_Ma_158 ⟨by omega, by omega⟩ (xe_Flt (xe_Fof hi5)) (xe_fr (xe_Fof hi5) _) rfl rfl rfl hl.1 rfl (Nat.le_of_ble_eq_true rfl) d_Ma_send_6 (fun H locs hO => ?_)
  refine lv_istore_n (lv' := [(3, .int t6.1), (0, .ref (ad 78)), (1, .int x1), (2, .int x2)]) hx hb d_Ma_send_9 rfl hl (by decide) rfl (fun ls hl => ?_)
  refine lv_aload_n hx hb d_Ma_send_10 rfl (lv_at hl 1 rfl) ?_
  refine lv_iload_n hx hb d_Ma_send_11 rfl (lv_at hl 0 rfl) ?_
  obtain ⟨t12, ht12, hT⟩ := qa_b hT
  refine qa_Vi (As := [.int t6.1]) (rest := []) (r := 78) S hK hN hA hO (xc_Ma_isNull l D cI cJ cF cZ ad t6.2 t6.1) ht12 qy_Ma_isNull lm_Ma_161 ⟨by omega, by omega⟩ (by decide) rfl rfl rfl rfl hl.1 rfl (Nat.le_of_ble_eq_true rfl) d_Ma_send_12 (fun H locs hO => ?_)
  refine lv_if_eq (tgt := 24) hx hb d_Ma_send_15 (by decide) (fun h => ?_) (fun h => ?_)
  · have hT := qa_t hT h
    refine lv_aload_n hx hb d_Ma_send_24 rfl (lv_at hl 1 rfl) ?_
    refine qa_get S hK hO hi_Ma 78 (by decide) rfl rfl 0 (by decide) lf_Ma_33 rfl rfl d_Ma_send_25 ?_
    refine lv_aload_n hx hb d_Ma_send_28 rfl (lv_at hl 1 rfl) ?_
    refine qa_get S hK hO hi_Ma 78 (by decide) rfl rfl 4 (by decide) lf_Ma_24 rfl rfl d_Ma_send_29 ?_
    refine lv_iload_n hx hb d_Ma_send_32 rfl (lv_at hl 0 rfl) ?_
    obtain ⟨hi33, hT⟩ := qa_c hT
    refine qa_iald (n := 16) S hK hO 82 (by decide) 0 (xe_arr rfl) rfl hi33 d_Ma_send_33 ?_
    refine lv_iload_n hx hb d_Ma_send_34 rfl (lv_at hl 2 rfl) ?_
    obtain ⟨t35, ht35, hT⟩ := qa_b hT
    refine qa_Vi (As := [.int (t12.2 82 t6.1.toNatClampNeg), .int x1]) (rest := []) (r := 1) S hK hN hA hO (xc_Pr_answering l D cI cJ cF cZ ad t12.2 (t12.2 82 t6.1.toNatClampNeg) x1) ht35 qy_Pr_answering lm_Ma_165 ⟨by omega, by omega⟩ (by decide) rfl rfl rfl rfl hl.1 rfl (Nat.le_of_ble_eq_true rfl) d_Ma_send_35 (fun H locs hO => ?_)
    refine lv_istore (lv' := [(4, .int t35.1), (3, .int t6.1), (0, .ref (ad 78)), (1, .int x1), (2, .int x2)]) hx hb d_Ma_send_38 hl (by decide) rfl (fun ls hl => ?_)
    refine lv_aload_n hx hb d_Ma_send_40 rfl (lv_at hl 2 rfl) ?_
    refine lv_aload_n hx hb d_Ma_send_41 rfl (lv_at hl 2 rfl) ?_
    refine lv_iload hx hb d_Ma_send_42 (lv_at hl 0 rfl) ?_
    refine lv_iload_n hx hb d_Ma_send_44 rfl (lv_at hl 4 rfl) ?_
    refine lv_iconst (v := 1) hx hb d_Ma_send_45 (by decide) ?_
    refine lv_iadd hx hb d_Ma_send_46 ?_
    obtain ⟨t47, ht47, hT⟩ := qa_b hT
    refine qa_Vi (As := [.int t35.1, .int (x2 + (1 : Int32))]) (rest := [.ref (ad 78)]) (r := 78) S hK hN hA hO (hP t35.2 t35.1 (x2 + (1 : Int32))) ht47 qy_Ma_perform lm_Ma_77 ⟨by omega, by omega⟩ (by decide) rfl rfl rfl rfl hl.1 rfl (Nat.le_of_ble_eq_true rfl) d_Ma_send_47 (fun H locs hO => ?_)
    refine lv_aload_n hx hb d_Ma_send_50 rfl (lv_at hl 2 rfl) ?_
    refine qa_get S hK hO hi_Ma 78 (by decide) rfl rfl 1 (by decide) lf_Ma_11 rfl rfl d_Ma_send_51 ?_
    refine lv_iload_n hx hb d_Ma_send_54 rfl (lv_at hl 4 rfl) ?_
    obtain ⟨hi55, hT⟩ := qa_c hT
    refine qa_aald (n := 11) S hK hO 79 (by decide) 2 rfl rfl rfl hi55 rfl d_Ma_send_55 ?_
    obtain ⟨t56, ht56, hT⟩ := qa_b hT
    refine qa_Vi (As := [.int t47.1, .ref (ad (85 + 2 * x2.toNatClampNeg))]) (rest := []) (r := 78) S hK hN hA hO (xc_Ma_receive l D cI cJ cF cZ ad t47.2 t47.1 (85 + 2 * x2.toNatClampNeg) (xe_Fof hi55)) ht56 qy_Ma_receive lm_Ma_155 ⟨by omega, by omega⟩ (by decide) rfl rfl rfl rfl hl.1 rfl (Nat.le_of_ble_eq_true rfl) d_Ma_send_56 (fun H locs hO => ?_)
    exact ret hT hO d_Ma_send_59
  · have hT := qa_f hT h
    refine lv_aload_n hx hb d_Ma_send_18 rfl (lv_at hl 1 rfl) ?_
    refine lv_iconst (v := -1) hx hb d_Ma_send_19 (by decide) ?_
    obtain ⟨t20, ht20, hT⟩ := qa_b hT
    refine qa_Vi (As := [.int (-1 : Int32)]) (rest := []) (r := 78) S hK hN hA hO (xc_Ma_toss l D cI cJ cF cZ ad t12.2 (-1 : Int32)) ht20 qy_Ma_toss lm_Ma_87 ⟨by omega, by omega⟩ (by decide) rfl rfl rfl rfl hl.1 rfl (Nat.le_of_ble_eq_true rfl) d_Ma_send_20 (fun H locs hO => ?_)
    exact ret hT hO d_Ma_send_23
def xf_Ma_executeTriggering_19 (P : qa_St → Int32 → Int32 → qa_Re) (g : qa_St) (x1 : Int32) (x2 : Int32) (x3 : Int32) (s0 : Int32) : qa_Re := ((xf_Ma_trigger P g s0 x3).bind fun t20 => (if t20.1 = 0 then (if x3 < 0 ∨ 11 ≤ x3.toNatClampNeg then none else (if x1 = 11 then ((xf_Ma_makeObject t20.2 x2 (85 + 2 * x3.toNatClampNeg)).bind fun t84 => (some (t84.1, t84.2))) else (if x1 = 12 then (some ((0 : Int32), t20.2)) else (if x1 = 13 then (some ((0 : Int32), t20.2)) else (if x1 = 14 then (if x2 < 0 ∨ 6 ≤ x2.toNatClampNeg then none else ((xf_Fr_push t20.2 (85 + 2 * x3.toNatClampNeg) (t20.2 80 x2.toNatClampNeg)).bind fun t96 => (some ((0 : Int32), t96.2)))) else (if x1 = 15 then ((xf_Fr_pop t20.2 (85 + 2 * x3.toNatClampNeg)).bind fun t108 => (if x2 < 0 ∨ 6 ≤ x2.toNatClampNeg then none else (some ((0 : Int32), (qa_up t108.2 80 x2.toNatClampNeg t108.1))))) else (if x1 = 16 then ((P t20.2 x2 (x3 + (1 : Int32))).bind fun t120 => ((xf_Ma_receive t120.2 t120.1 (85 + 2 * x3.toNatClampNeg)).bind fun t125 => (some (t125.1, t125.2)))) else (some ((0 : Int32), t20.2))))))))) else (some (t20.1, t20.2))))
def xf_Ma_executeTriggering (P : qa_St → Int32 → Int32 → qa_Re) (g : qa_St) (x1 : Int32) (x2 : Int32) (x3 : Int32) : qa_Re := (if x1 = (16 : Int32) then ((xf_Pr_ownerOf g x2).bind fun t12 => (xf_Ma_executeTriggering_19 P t12.2 x1 x2 x3 t12.1)) else (xf_Ma_executeTriggering_19 P g x1 x2 x3 x2))
set_option maxHeartbeats 4000000 in
set_option maxRecDepth 100000 in
theorem xc_Ma_executeTriggering (l : Launch) (D : va_G) (cI cJ cF cZ : ClassId) (ad : Nat → Nat) (P : qa_St → Int32 → Int32 → qa_Re) (FP LP : Nat) (hP : ∀ (g : qa_St) (x1 x2 : Int32), qa_Mi l y_Ma_perform (qa_ws y_Ma_perform b_Ma_perform 9 (some .int)) (qa_rm FP LP) D (qa_ty cI cJ cF cZ) 107 ad (xe_en cI cJ cF ad) [.ref (ad 78), .int x1, .int x2] g (P g x1 x2)) (g : qa_St) (x1 : Int32) (x2 : Int32) (x3 : Int32) : qa_Mi l y_Ma_executeTriggering (qa_ws y_Ma_executeTriggering b_Ma_executeTriggering 6 (some .int)) (qa_rm (FP + 3) (LP + 69)) D (qa_ty cI cJ cF cZ) 107 ad (xe_en cI cJ cF ad) [.ref (ad 78), .int x1, .int x2, .int x3] g (xf_Ma_executeTriggering P g x1 x2 x3) := by
  refine qa_meti (by decide) (Nat.le_of_ble_eq_true rfl) ?_
  intro p e s m args below meth c Q A T S hK hN hA hT ret ls hl hO
  have hx := S.1
  have hb := S.2.1
  have hl : lv_has ls 6 [(0, .ref (ad 78)), (1, .int x1), (2, .int x2), (3, .int x3)] := hl
  have b19 : ∀ (g : qa_St) (x1 : Int32) (x2 : Int32) (x3 : Int32) (s0 : Int32) (ls : Array Slot) (H : Heap) (locs : List Loc), lv_has ls 6 [(0, .ref (ad 78)), (1, .int x1), (2, .int x2), (3, .int x3)] → qa_O D 107 ad (xe_en cI cJ cF ad) A s.heap g H locs → xf_Ma_executeTriggering_19 P g x1 x2 x3 s0 = some T → W p l e (qa_rm (FP + 3) (LP + 69)) s m args below meth c H locs 0 0 Q (F0 m 19 ls [.int s0, .ref (ad 78)]) := by
    intro g x1 x2 x3 s0 ls H locs hl hO hT
    unfold xf_Ma_executeTriggering_19 at hT
    refine lv_iload_n hx hb d_Ma_executeTriggering_19 rfl (lv_at hl 3 rfl) ?_
    obtain ⟨t20, ht20, hT⟩ := qa_b hT
    refine qa_Vi (As := [.int s0, .int x3]) (rest := []) (r := 78) S hK hN hA hO (xc_Ma_trigger l D cI cJ cF cZ ad P FP LP hP g s0 x3) ht20 qy_Ma_trigger lm_Ma_73 ⟨by omega, by omega⟩ (by decide) rfl rfl rfl rfl hl.1 rfl (Nat.le_of_ble_eq_true rfl) d_Ma_executeTriggering_20 (fun H locs hO => ?_)
    refine lv_istore (lv' := [(4, .int t20.1), (0, .ref (ad 78)), (1, .int x1), (2, .int x2), (3, .int x3)]) hx hb d_Ma_executeTriggering_23 hl (by decide) rfl (fun ls hl => ?_)
    refine lv_iload hx hb d_Ma_executeTriggering_25 (lv_at hl 0 rfl) ?_
    refine lv_if_eq (tgt := 33) hx hb d_Ma_executeTriggering_27 (by decide) (fun h => ?_) (fun h => ?_)
    · have hT := qa_t hT h
      refine lv_aload_n hx hb d_Ma_executeTriggering_33 rfl (lv_at hl 1 rfl) ?_
      refine qa_get S hK hO hi_Ma 78 (by decide) rfl rfl 1 (by decide) lf_Ma_11 rfl rfl d_Ma_executeTriggering_34 ?_
      refine lv_iload_n hx hb d_Ma_executeTriggering_37 rfl (lv_at hl 4 rfl) ?_
      obtain ⟨hi38, hT⟩ := qa_c hT
      refine qa_aald (n := 11) S hK hO 79 (by decide) 2 rfl rfl rfl hi38 rfl d_Ma_executeTriggering_38 ?_
      refine lv_astore (lv' := [(5, .ref (ad (85 + 2 * x3.toNatClampNeg))), (4, .int t20.1), (0, .ref (ad 78)), (1, .int x1), (2, .int x2), (3, .int x3)]) hx hb d_Ma_executeTriggering_39 hl (by decide) rfl (fun ls hl => ?_)
      refine lv_iload_n hx hb d_Ma_executeTriggering_41 rfl (lv_at hl 3 rfl) ?_
      by_cases h42_11 : x1 = 11
      · have hT := qa_t hT h42_11
        refine lv_tableIn (off := 38) (tgt := 80) hx hb d_Ma_executeTriggering_42 (by rw [h42_11]; decide) (by rw [h42_11]; decide) (by rw [h42_11]; rfl) (by decide) ?_
        refine lv_aload_n hx hb d_Ma_executeTriggering_80 rfl (lv_at hl 2 rfl) ?_
        refine lv_iload_n hx hb d_Ma_executeTriggering_81 rfl (lv_at hl 4 rfl) ?_
        refine lv_aload hx hb d_Ma_executeTriggering_82 (lv_at hl 0 rfl) ?_
        obtain ⟨t84, ht84, hT⟩ := qa_b hT
        refine qa_Vi (As := [.int x2, .ref (ad (85 + 2 * x3.toNatClampNeg))]) (rest := []) (r := 78) S hK hN hA hO (xc_Ma_makeObject l D cI cJ cF cZ ad t20.2 x2 (85 + 2 * x3.toNatClampNeg) (xe_Fof hi38)) ht84 qy_Ma_makeObject lm_Ma_152 ⟨by omega, by omega⟩ (by decide) rfl rfl rfl rfl hl.1 rfl (Nat.le_of_ble_eq_true rfl) d_Ma_executeTriggering_84 (fun H locs hO => ?_)
        exact ret hT hO d_Ma_executeTriggering_87
      have hT := qa_f hT h42_11
      by_cases h42_12 : x1 = 12
      · have hT := qa_t hT h42_12
        refine lv_tableIn (off := 87) (tgt := 129) hx hb d_Ma_executeTriggering_42 (by rw [h42_12]; decide) (by rw [h42_12]; decide) (by rw [h42_12]; rfl) (by decide) ?_
        refine lv_iconst (v := 0) hx hb d_Ma_executeTriggering_129 (by decide) ?_
        exact ret hT hO d_Ma_executeTriggering_130
      have hT := qa_f hT h42_12
      by_cases h42_13 : x1 = 13
      · have hT := qa_t hT h42_13
        refine lv_tableIn (off := 87) (tgt := 129) hx hb d_Ma_executeTriggering_42 (by rw [h42_13]; decide) (by rw [h42_13]; decide) (by rw [h42_13]; rfl) (by decide) ?_
        refine lv_iconst (v := 0) hx hb d_Ma_executeTriggering_129 (by decide) ?_
        exact ret hT hO d_Ma_executeTriggering_130
      have hT := qa_f hT h42_13
      by_cases h42_14 : x1 = 14
      · have hT := qa_t hT h42_14
        refine lv_tableIn (off := 46) (tgt := 88) hx hb d_Ma_executeTriggering_42 (by rw [h42_14]; decide) (by rw [h42_14]; decide) (by rw [h42_14]; rfl) (by decide) ?_
        refine lv_aload hx hb d_Ma_executeTriggering_88 (lv_at hl 0 rfl) ?_
        refine lv_aload_n hx hb d_Ma_executeTriggering_90 rfl (lv_at hl 2 rfl) ?_
        refine qa_get S hK hO hi_Ma 78 (by decide) rfl rfl 2 (by decide) lf_Ma_17 rfl rfl d_Ma_executeTriggering_91 ?_
        refine lv_iload_n hx hb d_Ma_executeTriggering_94 rfl (lv_at hl 4 rfl) ?_
        obtain ⟨hi95, hT⟩ := qa_c hT
        refine qa_iald (n := 6) S hK hO 80 (by decide) 0 (xe_arr rfl) rfl hi95 d_Ma_executeTriggering_95 ?_
        obtain ⟨t96, ht96, hT⟩ := qa_b hT
        refine qa_Vv (As := [.int (t20.2 80 x2.toNatClampNeg)]) (rest := []) (r := (85 + 2 * x3.toNatClampNeg)) S hK hN hA hO (xc_Fr_push l D cI cJ cF cZ ad t20.2 (85 + 2 * x3.toNatClampNeg) (t20.2 80 x2.toNatClampNeg) (xe_Fof hi38)) ht96 qy_Fr_push lm_Ma_63 ⟨by omega, by omega⟩ (xe_Flt (xe_Fof hi38)) (xe_fr (xe_Fof hi38) _) rfl rfl rfl hl.1 rfl (Nat.le_of_ble_eq_true rfl) d_Ma_executeTriggering_96 (fun H locs hO => ?_)
        refine lv_iconst (v := 0) hx hb d_Ma_executeTriggering_99 (by decide) ?_
        exact ret hT hO d_Ma_executeTriggering_100
      have hT := qa_f hT h42_14
      by_cases h42_15 : x1 = 15
      · have hT := qa_t hT h42_15
        refine lv_tableIn (off := 59) (tgt := 101) hx hb d_Ma_executeTriggering_42 (by rw [h42_15]; decide) (by rw [h42_15]; decide) (by rw [h42_15]; rfl) (by decide) ?_
        refine lv_aload_n hx hb d_Ma_executeTriggering_101 rfl (lv_at hl 2 rfl) ?_
        refine qa_get S hK hO hi_Ma 78 (by decide) rfl rfl 2 (by decide) lf_Ma_17 rfl rfl d_Ma_executeTriggering_102 ?_
        refine lv_iload_n hx hb d_Ma_executeTriggering_105 rfl (lv_at hl 4 rfl) ?_
        refine lv_aload hx hb d_Ma_executeTriggering_106 (lv_at hl 0 rfl) ?_
        obtain ⟨t108, ht108, hT⟩ := qa_b hT
        refine qa_Vi (As := []) (rest := [.int x2, .ref (ad 80)]) (r := (85 + 2 * x3.toNatClampNeg)) S hK hN hA hO (xc_Fr_pop l D cI cJ cF cZ ad t20.2 (85 + 2 * x3.toNatClampNeg) (xe_Fof hi38)) ht108 qy_Fr_pop lm_Ma_126 ⟨by omega, by omega⟩ (xe_Flt (xe_Fof hi38)) (xe_fr (xe_Fof hi38) _) rfl rfl rfl hl.1 rfl (Nat.le_of_ble_eq_true rfl) d_Ma_executeTriggering_108 (fun H locs hO => ?_)
        obtain ⟨hi111, hT⟩ := qa_c hT
        refine qa_iast (n := 6) S hK hO 80 (by decide) 0 (xe_arr rfl) rfl hi111 d_Ma_executeTriggering_111 (fun H locs hO => ?_)
        refine lv_iconst (v := 0) hx hb d_Ma_executeTriggering_112 (by decide) ?_
        exact ret hT hO d_Ma_executeTriggering_113
      have hT := qa_f hT h42_15
      by_cases h42_16 : x1 = 16
      · have hT := qa_t hT h42_16
        refine lv_tableIn (off := 72) (tgt := 114) hx hb d_Ma_executeTriggering_42 (by rw [h42_16]; decide) (by rw [h42_16]; decide) (by rw [h42_16]; rfl) (by decide) ?_
        refine lv_aload_n hx hb d_Ma_executeTriggering_114 rfl (lv_at hl 2 rfl) ?_
        refine lv_aload_n hx hb d_Ma_executeTriggering_115 rfl (lv_at hl 2 rfl) ?_
        refine lv_iload_n hx hb d_Ma_executeTriggering_116 rfl (lv_at hl 4 rfl) ?_
        refine lv_iload_n hx hb d_Ma_executeTriggering_117 rfl (lv_at hl 5 rfl) ?_
        refine lv_iconst (v := 1) hx hb d_Ma_executeTriggering_118 (by decide) ?_
        refine lv_iadd hx hb d_Ma_executeTriggering_119 ?_
        obtain ⟨t120, ht120, hT⟩ := qa_b hT
        refine qa_Vi (As := [.int x2, .int (x3 + (1 : Int32))]) (rest := [.ref (ad 78)]) (r := 78) S hK hN hA hO (hP t20.2 x2 (x3 + (1 : Int32))) ht120 qy_Ma_perform lm_Ma_77 ⟨by omega, by omega⟩ (by decide) rfl rfl rfl rfl hl.1 rfl (Nat.le_of_ble_eq_true rfl) d_Ma_executeTriggering_120 (fun H locs hO => ?_)
        refine lv_aload hx hb d_Ma_executeTriggering_123 (lv_at hl 0 rfl) ?_
        obtain ⟨t125, ht125, hT⟩ := qa_b hT
        refine qa_Vi (As := [.int t120.1, .ref (ad (85 + 2 * x3.toNatClampNeg))]) (rest := []) (r := 78) S hK hN hA hO (xc_Ma_receive l D cI cJ cF cZ ad t120.2 t120.1 (85 + 2 * x3.toNatClampNeg) (xe_Fof hi38)) ht125 qy_Ma_receive lm_Ma_155 ⟨by omega, by omega⟩ (by decide) rfl rfl rfl rfl hl.1 rfl (Nat.le_of_ble_eq_true rfl) d_Ma_executeTriggering_125 (fun H locs hO => ?_)
        exact ret hT hO d_Ma_executeTriggering_128
      have hT := qa_f hT h42_16
      have z11 : x1.toInt ≠ 11 := qa_ne h42_11 (by decide)
      have z12 : x1.toInt ≠ 12 := qa_ne h42_12 (by decide)
      have z13 : x1.toInt ≠ 13 := qa_ne h42_13 (by decide)
      have z14 : x1.toInt ≠ 14 := qa_ne h42_14 (by decide)
      have z15 : x1.toInt ≠ 15 := qa_ne h42_15 (by decide)
      have z16 : x1.toInt ≠ 16 := qa_ne h42_16 (by decide)
      refine lv_tableOut (tgt := 129) hx hb d_Ma_executeTriggering_42 (by omega) (by decide) ?_
      refine lv_iconst (v := 0) hx hb d_Ma_executeTriggering_129 (by decide) ?_
      exact ret hT hO d_Ma_executeTriggering_130
    · have hT := qa_f hT h
      refine lv_iload hx hb d_Ma_executeTriggering_30 (lv_at hl 0 rfl) ?_
      exact ret hT hO d_Ma_executeTriggering_32
  unfold xf_Ma_executeTriggering at hT
  refine lv_aload_n hx hb d_Ma_executeTriggering_0 rfl (lv_at hl 0 rfl) ?_
  refine lv_iload_n hx hb d_Ma_executeTriggering_1 rfl (lv_at hl 1 rfl) ?_
  refine lv_bipush (v := 16) hx hb d_Ma_executeTriggering_2 (by decide) ?_
  refine lv_icmp_ne (tgt := 18) hx hb d_Ma_executeTriggering_4 (by decide) (fun h => ?_) (fun h => ?_)
  · have hT := qa_f hT h
    refine lv_iload_n hx hb d_Ma_executeTriggering_18 rfl (lv_at hl 2 rfl) ?_
    exact b19 g x1 x2 x3 x2 _ _ _ (lv_sub hl [0, 1, 2, 3] rfl) hO hT
  · have hT := qa_t hT h
    refine lv_aload_n hx hb d_Ma_executeTriggering_7 rfl (lv_at hl 0 rfl) ?_
    refine qa_get S hK hO hi_Ma 78 (by decide) rfl rfl 0 (by decide) lf_Ma_33 rfl rfl d_Ma_executeTriggering_8 ?_
    refine lv_iload_n hx hb d_Ma_executeTriggering_11 rfl (lv_at hl 2 rfl) ?_
    obtain ⟨t12, ht12, hT⟩ := qa_b hT
    refine qa_Vi (As := [.int x2]) (rest := [.ref (ad 78)]) (r := 1) S hK hN hA hO (xc_Pr_ownerOf l D cI cJ cF cZ ad g x2) ht12 qy_Pr_ownerOf lm_Ma_67 ⟨by omega, by omega⟩ (by decide) rfl rfl rfl rfl hl.1 rfl (Nat.le_of_ble_eq_true rfl) d_Ma_executeTriggering_12 (fun H locs hO => ?_)
    refine lv_goto (tgt := 19) hx hb d_Ma_executeTriggering_15 (by decide) ?_
    exact b19 t12.2 x1 x2 x3 t12.1 _ _ _ (lv_sub hl [0, 1, 2, 3] rfl) hO hT
