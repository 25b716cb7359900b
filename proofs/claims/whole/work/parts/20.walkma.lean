def mf_Mo_within (g : qa_St) (x0 : Int32) (x1 : Int32) : qa_Re := (if x0 < 0 then (some ((0 : Int32), g)) else (if x1 < x0 then (some ((0 : Int32), g)) else (some ((1 : Int32), g))))
set_option maxHeartbeats 4000000 in
set_option maxRecDepth 100000 in
theorem mc_Mo_within (l : Launch) (D : va_G) (cI cJ cF cZ : ClassId) (ad : Nat → Nat) (g : qa_St) (x0 : Int32) (x1 : Int32) : qa_Mi l y_Mo_within (qa_ws y_Mo_within b_Mo_within 2 (some .boolean)) (qa_rm 0 0) D (qa_ty cI cJ cF cZ) 33 ad (me_en cI cZ ad) [.int x0, .int x1] g (mf_Mo_within g x0 x1) := by
  refine qa_metz (by decide) (Nat.le_of_ble_eq_true rfl) ?_
  intro p e s m args below meth c Q A T S hK hN hA hT ret ls hl hO
  have hx := S.1
  have hb := S.2.1
  have hl : lv_has ls 2 [(0, .int x0), (1, .int x1)] := hl
  unfold mf_Mo_within at hT
  refine lv_iload_n hx hb d_Mo_within_0 rfl (lv_at hl 0 rfl) ?_
  refine lv_if_lt (tgt := 13) hx hb d_Mo_within_1 (by decide) (fun h => ?_) (fun h => ?_)
  · have hT := qa_t hT h
    refine lv_iconst (v := 0) hx hb d_Mo_within_13 (by decide) ?_
    exact ret (by decide) hT hO d_Mo_within_14
  · have hT := qa_f hT h
    refine lv_iload_n hx hb d_Mo_within_4 rfl (lv_at hl 0 rfl) ?_
    refine lv_iload_n hx hb d_Mo_within_5 rfl (lv_at hl 1 rfl) ?_
    refine lv_icmp_gt (tgt := 13) hx hb d_Mo_within_6 (by decide) (fun h => ?_) (fun h => ?_)
    · have hT := qa_t hT h
      refine lv_iconst (v := 0) hx hb d_Mo_within_13 (by decide) ?_
      exact ret (by decide) hT hO d_Mo_within_14
    · have hT := qa_f hT h
      refine lv_iconst (v := 1) hx hb d_Mo_within_9 (by decide) ?_
      refine lv_goto (tgt := 14) hx hb d_Mo_within_10 (by decide) ?_
      exact ret (by decide) hT hO d_Mo_within_14
def mf_Mo_width_4 : Nat → qa_St → Int32 → Int32 → qa_Re
  | 0, _, _, _ => none
  | n + 1, g, x2, x3 => (if x3 < 0 then (some (x2, g)) else (if x3 < 0 ∨ 6 ≤ x3.toNatClampNeg then none else (if x3 < 0 ∨ 6 ≤ x3.toNatClampNeg then none else ((mf_Mo_width_4 n) g (x2 + (g 2 x3.toNatClampNeg)) (g 1 x3.toNatClampNeg)))))
def mf_Mo_width (g : qa_St) (x1 : Int32) : qa_Re := (mf_Mo_width_4 4096 g (0 : Int32) x1)
set_option maxHeartbeats 4000000 in
set_option maxRecDepth 100000 in
theorem mc_Mo_width (l : Launch) (D : va_G) (cI cJ cF cZ : ClassId) (ad : Nat → Nat) (g : qa_St) (x1 : Int32) : qa_Mi l y_Mo_width (qa_ws y_Mo_width b_Mo_width 4 (some .int)) (qa_rm 0 0) D (qa_ty cI cJ cF cZ) 33 ad (me_en cI cZ ad) [.ref (ad 0), .int x1] g (mf_Mo_width g x1) := by
  refine qa_meti (by decide) (Nat.le_of_ble_eq_true rfl) ?_
  intro p e s m args below meth c Q A T S hK hN hA hT ret ls hl hO
  have hx := S.1
  have hb := S.2.1
  have hl : lv_has ls 4 [(0, .ref (ad 0)), (1, .int x1)] := hl
  have b4 : ∀ (n : Nat), ∀ (g : qa_St) (x2 : Int32) (x3 : Int32) (ls : Array Slot) (H : Heap) (locs : List Loc), lv_has ls 4 [(0, .ref (ad 0)), (2, .int x2), (3, .int x3)] → qa_O D 33 ad (me_en cI cZ ad) A s.heap g H locs → mf_Mo_width_4 n g x2 x3 = some T → W p l e (qa_rm 0 0) s m args below meth c H locs 0 0 Q (F0 m 4 ls []) := by
    intro n
    induction n with
    | zero => intro g x2 x3 ls H locs hl hO hT; rw [mf_Mo_width_4] at hT; cases hT
    | succ n ih =>
      intro g x2 x3 ls H locs hl hO hT
      rw [mf_Mo_width_4] at hT
      refine lv_iload_n hx hb d_Mo_width_4 rfl (lv_at hl 2 rfl) ?_
      refine lv_if_lt (tgt := 27) hx hb d_Mo_width_5 (by decide) (fun h => ?_) (fun h => ?_)
      · have hT := qa_t hT h
        refine lv_iload_n hx hb d_Mo_width_27 rfl (lv_at hl 1 rfl) ?_
        exact ret hT hO d_Mo_width_28
      · have hT := qa_f hT h
        refine lv_iload_n hx hb d_Mo_width_8 rfl (lv_at hl 1 rfl) ?_
        refine lv_aload_n hx hb d_Mo_width_9 rfl (lv_at hl 0 rfl) ?_
        refine qa_get S hK hO hi_Mo 0 (by decide) rfl rfl 2 (by decide) lf_Mo_13 rfl rfl d_Mo_width_10 ?_
        refine lv_iload_n hx hb d_Mo_width_13 rfl (lv_at hl 2 rfl) ?_
        obtain ⟨hi14, hT⟩ := qa_c hT
        refine qa_iald (n := 6) S hK hO 2 (by decide) 0 (me_arr rfl) rfl hi14 d_Mo_width_14 ?_
        refine lv_iadd hx hb d_Mo_width_15 ?_
        refine lv_istore_n (lv' := [(2, .int (x2 + (g 2 x3.toNatClampNeg))), (0, .ref (ad 0)), (3, .int x3)]) hx hb d_Mo_width_16 rfl hl (by decide) rfl (fun ls hl => ?_)
        refine lv_aload_n hx hb d_Mo_width_17 rfl (lv_at hl 1 rfl) ?_
        refine qa_get S hK hO hi_Mo 0 (by decide) rfl rfl 1 (by decide) lf_Mo_7 rfl rfl d_Mo_width_18 ?_
        refine lv_iload_n hx hb d_Mo_width_21 rfl (lv_at hl 2 rfl) ?_
        obtain ⟨hi22, hT⟩ := qa_c hT
        refine qa_iald (n := 6) S hK hO 1 (by decide) 0 (me_arr rfl) rfl hi22 d_Mo_width_22 ?_
        refine lv_istore_n (lv' := [(3, .int (g 1 x3.toNatClampNeg)), (2, .int (x2 + (g 2 x3.toNatClampNeg))), (0, .ref (ad 0))]) hx hb d_Mo_width_23 rfl hl (by decide) rfl (fun ls hl => ?_)
        refine lv_goto (tgt := 4) hx hb d_Mo_width_24 (by decide) ?_
        exact ih g (x2 + (g 2 x3.toNatClampNeg)) (g 1 x3.toNatClampNeg) _ _ _ (lv_sub hl [2, 1, 0] rfl) hO hT
  unfold mf_Mo_width at hT
  refine lv_iconst (v := 0) hx hb d_Mo_width_0 (by decide) ?_
  refine lv_istore_n (lv' := [(2, .int (0 : Int32)), (0, .ref (ad 0)), (1, .int x1)]) hx hb d_Mo_width_1 rfl hl (by decide) rfl (fun ls hl => ?_)
  refine lv_iload_n hx hb d_Mo_width_2 rfl (lv_at hl 2 rfl) ?_
  refine lv_istore_n (lv' := [(3, .int x1), (2, .int (0 : Int32)), (0, .ref (ad 0)), (1, .int x1)]) hx hb d_Mo_width_3 rfl hl (by decide) rfl (fun ls hl => ?_)
  exact b4 4096 g (0 : Int32) x1 _ _ _ (lv_sub hl [2, 1, 0] rfl) hO hT
def mf_Mo_changed (g : qa_St) : qa_Re := (some (0, (qa_up (qa_up g 0 15 (0 : Int32)) 0 26 (0 : Int32))))
set_option maxHeartbeats 4000000 in
set_option maxRecDepth 100000 in
theorem mc_Mo_changed (l : Launch) (D : va_G) (cI cJ cF cZ : ClassId) (ad : Nat → Nat) (g : qa_St) : qa_Mv l y_Mo_changed (qa_ws y_Mo_changed b_Mo_changed 1 none) (qa_rm 0 0) D (qa_ty cI cJ cF cZ) 33 ad (me_en cI cZ ad) [.ref (ad 0)] g (mf_Mo_changed g) := by
  refine qa_metv (by decide) (Nat.le_of_ble_eq_true rfl) ?_
  intro p e s m args below meth c Q A T S hK hN hA hT ret ls hl hO
  have hx := S.1
  have hb := S.2.1
  have hl : lv_has ls 1 [(0, .ref (ad 0))] := hl
  unfold mf_Mo_changed at hT
  refine lv_aload_n hx hb d_Mo_changed_0 rfl (lv_at hl 0 rfl) ?_
  refine lv_iconst (v := 0) hx hb d_Mo_changed_1 (by decide) ?_
  refine qa_put S hK hO hi_Mo t_Mo t_Mo_ok n_Mo 0 (by decide) rfl rfl 15 (by decide) lf_Mo_107 rfl rfl (ty := .boolean) (by decide +kernel) rfl rfl (Nat.le_of_ble_eq_true rfl) rfl d_Mo_changed_2 (fun H locs hO => ?_)
  refine lv_aload_n hx hb d_Mo_changed_5 rfl (lv_at hl 0 rfl) ?_
  refine lv_iconst (v := 0) hx hb d_Mo_changed_6 (by decide) ?_
  refine qa_put S hK hO hi_Mo t_Mo t_Mo_ok n_Mo 0 (by decide) rfl rfl 26 (by decide) lf_Mo_111 rfl rfl (ty := .boolean) (by decide +kernel) rfl rfl (Nat.le_of_ble_eq_true rfl) rfl d_Mo_changed_7 (fun H locs hO => ?_)
  exact ret hT hO d_Mo_changed_10
def mf_Mo_type_97 (g : qa_St) : qa_Re := ((mf_Mo_changed g).bind fun t98 => (some (((t98.2 0 0) - (1 : Int32)), t98.2)))
def mf_Mo_type_77 (g : qa_St) : qa_Re := (if (g 0 0) < 0 ∨ 6 ≤ (g 0 0).toNatClampNeg then none else (mf_Mo_type_97 (qa_up (qa_up g 3 (g 0 0).toNatClampNeg (-1 : Int32)) 0 0 (((qa_up g 3 (g 0 0).toNatClampNeg (-1 : Int32)) 0 0) + (1 : Int32)))))
def mf_Mo_type_46 (g : qa_St) (x1 : Int32) (x2 : Int32) (s0 : Int32) : qa_Re := (if (s0 + x2) ≤ (6 : Int32) then (if (g 0 0) < 0 ∨ 6 ≤ (g 0 0).toNatClampNeg then none else (if ((qa_up g 1 (g 0 0).toNatClampNeg x1) 0 0) < 0 ∨ 6 ≤ ((qa_up g 1 (g 0 0).toNatClampNeg x1) 0 0).toNatClampNeg then none else (mf_Mo_type_77 (qa_up (qa_up g 1 (g 0 0).toNatClampNeg x1) 2 ((qa_up g 1 (g 0 0).toNatClampNeg x1) 0 0).toNatClampNeg x2)))) else (some ((-1 : Int32), g)))
def mf_Mo_type (g : qa_St) (x1 : Int32) (x2 : Int32) : qa_Re := (if (g 0 0) = (6 : Int32) then (some ((-1 : Int32), g)) else (if x1 < (-1 : Int32) then (some ((-1 : Int32), g)) else (if (g 0 0) ≤ x1 then (some ((-1 : Int32), g)) else ((mf_Mo_within g x2 (6 : Int32)).bind fun t25 => (if t25.1 = 0 then (some ((-1 : Int32), t25.2)) else (if 0 ≤ x1 then ((mf_Mo_width t25.2 x1).bind fun t43 => (mf_Mo_type_46 t43.2 x1 x2 t43.1)) else (mf_Mo_type_46 t25.2 x1 x2 (0 : Int32))))))))
set_option maxHeartbeats 4000000 in
set_option maxRecDepth 100000 in
theorem mc_Mo_type (l : Launch) (D : va_G) (cI cJ cF cZ : ClassId) (ad : Nat → Nat) (g : qa_St) (x1 : Int32) (x2 : Int32) : qa_Mi l y_Mo_type (qa_ws y_Mo_type b_Mo_type 4 (some .int)) (qa_rm 1 23) D (qa_ty cI cJ cF cZ) 33 ad (me_en cI cZ ad) [.ref (ad 0), .int x1, .int x2] g (mf_Mo_type g x1 x2) := by
  refine qa_meti (by decide) (Nat.le_of_ble_eq_true rfl) ?_
  intro p e s m args below meth c Q A T S hK hN hA hT ret ls hl hO
  have hx := S.1
  have hb := S.2.1
  have hl : lv_has ls 4 [(0, .ref (ad 0)), (1, .int x1), (2, .int x2)] := hl
  have b97 : ∀ (g : qa_St) (ls : Array Slot) (H : Heap) (locs : List Loc), lv_has ls 4 [(0, .ref (ad 0))] → qa_O D 33 ad (me_en cI cZ ad) A s.heap g H locs → mf_Mo_type_97 g = some T → W p l e (qa_rm 1 23) s m args below meth c H locs 0 0 Q (F0 m 97 ls []) := by
    intro g ls H locs hl hO hT
    unfold mf_Mo_type_97 at hT
    refine lv_aload_n hx hb d_Mo_type_97 rfl (lv_at hl 0 rfl) ?_
    obtain ⟨t98, ht98, hT⟩ := qa_b hT
    refine qa_Vv (As := []) (rest := []) (r := 0) S hK hN hA hO (mc_Mo_changed l D cI cJ cF cZ ad g) ht98 qy_Mo_changed lm_Mo_126 ⟨by decide, by decide⟩ (by decide) rfl rfl rfl rfl hl.1 rfl (Nat.le_of_ble_eq_true rfl) d_Mo_type_98 (fun H locs hO => ?_)
    refine lv_aload_n hx hb d_Mo_type_101 rfl (lv_at hl 0 rfl) ?_
    refine qa_get S hK hO hi_Mo 0 (by decide) rfl rfl 0 (by decide) lf_Mo_114 rfl rfl d_Mo_type_102 ?_
    refine lv_iconst (v := 1) hx hb d_Mo_type_105 (by decide) ?_
    refine lv_isub hx hb d_Mo_type_106 ?_
    exact ret hT hO d_Mo_type_107
  have b77 : ∀ (g : qa_St) (ls : Array Slot) (H : Heap) (locs : List Loc), lv_has ls 4 [(0, .ref (ad 0))] → qa_O D 33 ad (me_en cI cZ ad) A s.heap g H locs → mf_Mo_type_77 g = some T → W p l e (qa_rm 1 23) s m args below meth c H locs 0 0 Q (F0 m 77 ls []) := by
    intro g ls H locs hl hO hT
    unfold mf_Mo_type_77 at hT
    refine lv_aload_n hx hb d_Mo_type_77 rfl (lv_at hl 0 rfl) ?_
    refine qa_get S hK hO hi_Mo 0 (by decide) rfl rfl 3 (by decide) lf_Mo_16 rfl rfl d_Mo_type_78 ?_
    refine lv_aload_n hx hb d_Mo_type_81 rfl (lv_at hl 0 rfl) ?_
    refine qa_get S hK hO hi_Mo 0 (by decide) rfl rfl 0 (by decide) lf_Mo_114 rfl rfl d_Mo_type_82 ?_
    refine lv_iconst (v := -1) hx hb d_Mo_type_85 (by decide) ?_
    obtain ⟨hi86, hT⟩ := qa_c hT
    refine qa_iast (n := 6) S hK hO 3 (by decide) 0 (me_arr rfl) rfl hi86 d_Mo_type_86 (fun H locs hO => ?_)
    refine lv_aload_n hx hb d_Mo_type_87 rfl (lv_at hl 0 rfl) ?_
    refine lv_dup hx hb d_Mo_type_88 rfl ?_
    refine qa_get S hK hO hi_Mo 0 (by decide) rfl rfl 0 (by decide) lf_Mo_114 rfl rfl d_Mo_type_89 ?_
    refine lv_iconst (v := 1) hx hb d_Mo_type_92 (by decide) ?_
    refine lv_iadd hx hb d_Mo_type_93 ?_
    refine qa_put S hK hO hi_Mo t_Mo t_Mo_ok n_Mo 0 (by decide) rfl rfl 0 (by decide) lf_Mo_114 rfl rfl (ty := .int) (by decide +kernel) rfl rfl (Nat.le_of_ble_eq_true rfl) rfl d_Mo_type_94 (fun H locs hO => ?_)
    exact b97 (qa_up (qa_up g 3 (g 0 0).toNatClampNeg (-1 : Int32)) 0 0 (((qa_up g 3 (g 0 0).toNatClampNeg (-1 : Int32)) 0 0) + (1 : Int32))) _ _ _ (lv_sub hl [0] rfl) hO hT
  have b46 : ∀ (g : qa_St) (x1 : Int32) (x2 : Int32) (s0 : Int32) (ls : Array Slot) (H : Heap) (locs : List Loc), lv_has ls 4 [(0, .ref (ad 0)), (1, .int x1), (2, .int x2)] → qa_O D 33 ad (me_en cI cZ ad) A s.heap g H locs → mf_Mo_type_46 g x1 x2 s0 = some T → W p l e (qa_rm 1 23) s m args below meth c H locs 0 0 Q (F0 m 46 ls [.int s0]) := by
    intro g x1 x2 s0 ls H locs hl hO hT
    unfold mf_Mo_type_46 at hT
    refine lv_istore_n (lv' := [(3, .int s0), (0, .ref (ad 0)), (1, .int x1), (2, .int x2)]) hx hb d_Mo_type_46 rfl hl (by decide) rfl (fun ls hl => ?_)
    refine lv_iload_n hx hb d_Mo_type_47 rfl (lv_at hl 0 rfl) ?_
    refine lv_iload_n hx hb d_Mo_type_48 rfl (lv_at hl 3 rfl) ?_
    refine lv_iadd hx hb d_Mo_type_49 ?_
    refine lv_bipush (v := 6) hx hb d_Mo_type_50 (by decide) ?_
    refine lv_icmp_le (tgt := 57) hx hb d_Mo_type_52 (by decide) (fun h => ?_) (fun h => ?_)
    · have hT := qa_t hT h
      refine lv_aload_n hx hb d_Mo_type_57 rfl (lv_at hl 1 rfl) ?_
      refine qa_get S hK hO hi_Mo 0 (by decide) rfl rfl 1 (by decide) lf_Mo_7 rfl rfl d_Mo_type_58 ?_
      refine lv_aload_n hx hb d_Mo_type_61 rfl (lv_at hl 1 rfl) ?_
      refine qa_get S hK hO hi_Mo 0 (by decide) rfl rfl 0 (by decide) lf_Mo_114 rfl rfl d_Mo_type_62 ?_
      refine lv_iload_n hx hb d_Mo_type_65 rfl (lv_at hl 2 rfl) ?_
      obtain ⟨hi66, hT⟩ := qa_c hT
      refine qa_iast (n := 6) S hK hO 1 (by decide) 0 (me_arr rfl) rfl hi66 d_Mo_type_66 (fun H locs hO => ?_)
      refine lv_aload_n hx hb d_Mo_type_67 rfl (lv_at hl 1 rfl) ?_
      refine qa_get S hK hO hi_Mo 0 (by decide) rfl rfl 2 (by decide) lf_Mo_13 rfl rfl d_Mo_type_68 ?_
      refine lv_aload_n hx hb d_Mo_type_71 rfl (lv_at hl 1 rfl) ?_
      refine qa_get S hK hO hi_Mo 0 (by decide) rfl rfl 0 (by decide) lf_Mo_114 rfl rfl d_Mo_type_72 ?_
      refine lv_iload_n hx hb d_Mo_type_75 rfl (lv_at hl 3 rfl) ?_
      obtain ⟨hi76, hT⟩ := qa_c hT
      refine qa_iast (n := 6) S hK hO 2 (by decide) 0 (me_arr rfl) rfl hi76 d_Mo_type_76 (fun H locs hO => ?_)
      exact b77 (qa_up (qa_up g 1 (g 0 0).toNatClampNeg x1) 2 ((qa_up g 1 (g 0 0).toNatClampNeg x1) 0 0).toNatClampNeg x2) _ _ _ (lv_sub hl [1] rfl) hO hT
    · have hT := qa_f hT h
      refine lv_iconst (v := -1) hx hb d_Mo_type_55 (by decide) ?_
      exact ret hT hO d_Mo_type_56
  unfold mf_Mo_type at hT
  refine lv_aload_n hx hb d_Mo_type_0 rfl (lv_at hl 0 rfl) ?_
  refine qa_get S hK hO hi_Mo 0 (by decide) rfl rfl 0 (by decide) lf_Mo_114 rfl rfl d_Mo_type_1 ?_
  refine lv_bipush (v := 6) hx hb d_Mo_type_4 (by decide) ?_
  refine lv_icmp_eq (tgt := 31) hx hb d_Mo_type_6 (by decide) (fun h => ?_) (fun h => ?_)
  · have hT := qa_t hT h
    refine lv_iconst (v := -1) hx hb d_Mo_type_31 (by decide) ?_
    exact ret hT hO d_Mo_type_32
  · have hT := qa_f hT h
    refine lv_iload_n hx hb d_Mo_type_9 rfl (lv_at hl 1 rfl) ?_
    refine lv_iconst (v := -1) hx hb d_Mo_type_10 (by decide) ?_
    refine lv_icmp_lt (tgt := 31) hx hb d_Mo_type_11 (by decide) (fun h => ?_) (fun h => ?_)
    · have hT := qa_t hT h
      refine lv_iconst (v := -1) hx hb d_Mo_type_31 (by decide) ?_
      exact ret hT hO d_Mo_type_32
    · have hT := qa_f hT h
      refine lv_iload_n hx hb d_Mo_type_14 rfl (lv_at hl 1 rfl) ?_
      refine lv_aload_n hx hb d_Mo_type_15 rfl (lv_at hl 0 rfl) ?_
      refine qa_get S hK hO hi_Mo 0 (by decide) rfl rfl 0 (by decide) lf_Mo_114 rfl rfl d_Mo_type_16 ?_
      refine lv_icmp_ge (tgt := 31) hx hb d_Mo_type_19 (by decide) (fun h => ?_) (fun h => ?_)
      · have hT := qa_t hT h
        refine lv_iconst (v := -1) hx hb d_Mo_type_31 (by decide) ?_
        exact ret hT hO d_Mo_type_32
      · have hT := qa_f hT h
        refine lv_iload_n hx hb d_Mo_type_22 rfl (lv_at hl 2 rfl) ?_
        refine lv_bipush (v := 6) hx hb d_Mo_type_23 (by decide) ?_
        obtain ⟨t25, ht25, hT⟩ := qa_b hT
        refine qa_Si (As := [.int x2, .int (6 : Int32)]) (rest := []) S hK hN hA hO (mc_Mo_within l D cI cJ cF cZ ad g x2 (6 : Int32)) ht25 qy_Mo_within lm_Mo_118 ⟨by decide, by decide⟩ rfl hl.1 rfl (Nat.le_of_ble_eq_true rfl) d_Mo_type_25 (fun H locs hO => ?_)
        refine lv_if_ne (tgt := 33) hx hb d_Mo_type_28 (by decide) (fun h => ?_) (fun h => ?_)
        · have hT := qa_f hT h
          refine lv_iload_n hx hb d_Mo_type_33 rfl (lv_at hl 1 rfl) ?_
          refine lv_if_ge (tgt := 41) hx hb d_Mo_type_34 (by decide) (fun h => ?_) (fun h => ?_)
          · have hT := qa_t hT h
            refine lv_aload_n hx hb d_Mo_type_41 rfl (lv_at hl 0 rfl) ?_
            refine lv_iload_n hx hb d_Mo_type_42 rfl (lv_at hl 1 rfl) ?_
            obtain ⟨t43, ht43, hT⟩ := qa_b hT
            refine qa_Vi (As := [.int x1]) (rest := []) (r := 0) S hK hN hA hO (mc_Mo_width l D cI cJ cF cZ ad t25.2 x1) ht43 qy_Mo_width lm_Mo_122 ⟨by decide, by decide⟩ (by decide) rfl rfl rfl rfl hl.1 rfl (Nat.le_of_ble_eq_true rfl) d_Mo_type_43 (fun H locs hO => ?_)
            exact b46 t43.2 x1 x2 t43.1 _ _ _ (lv_sub hl [0, 1, 2] rfl) hO hT
          · have hT := qa_f hT h
            refine lv_iconst (v := 0) hx hb d_Mo_type_37 (by decide) ?_
            refine lv_goto (tgt := 46) hx hb d_Mo_type_38 (by decide) ?_
            exact b46 t25.2 x1 x2 (0 : Int32) _ _ _ (lv_sub hl [0, 1, 2] rfl) hO hT
        · have hT := qa_t hT h
          refine lv_iconst (v := -1) hx hb d_Mo_type_31 (by decide) ?_
          exact ret hT hO d_Mo_type_32
def mf_Mo_ownMethod_32 (k2 : qa_St → Int32 → Int32 → Int32 → qa_Re) (g : qa_St) (x1 : Int32) (x2 : Int32) (x3 : Int32) : qa_Re := (k2 g x1 x2 (x3 + 1))
def mf_Mo_ownMethod_2 : Nat → qa_St → Int32 → Int32 → Int32 → qa_Re
  | 0, _, _, _, _ => none
  | n + 1, g, x1, x2, x3 => (if (g 0 4) ≤ x3 then (some ((-1 : Int32), g)) else (if x3 < 0 ∨ 10 ≤ x3.toNatClampNeg then none else (if (g 4 x3.toNatClampNeg) = x1 then (if x3 < 0 ∨ 10 ≤ x3.toNatClampNeg then none else (if (g 5 x3.toNatClampNeg) = x2 then (some (x3, g)) else (mf_Mo_ownMethod_32 (mf_Mo_ownMethod_2 n) g x1 x2 x3))) else (mf_Mo_ownMethod_32 (mf_Mo_ownMethod_2 n) g x1 x2 x3))))
def mf_Mo_ownMethod (g : qa_St) (x1 : Int32) (x2 : Int32) : qa_Re := (mf_Mo_ownMethod_2 4096 g x1 x2 (0 : Int32))
set_option maxHeartbeats 4000000 in
set_option maxRecDepth 100000 in
theorem mc_Mo_ownMethod (l : Launch) (D : va_G) (cI cJ cF cZ : ClassId) (ad : Nat → Nat) (g : qa_St) (x1 : Int32) (x2 : Int32) : qa_Mi l y_Mo_ownMethod (qa_ws y_Mo_ownMethod b_Mo_ownMethod 4 (some .int)) (qa_rm 0 0) D (qa_ty cI cJ cF cZ) 33 ad (me_en cI cZ ad) [.ref (ad 0), .int x1, .int x2] g (mf_Mo_ownMethod g x1 x2) := by
  refine qa_meti (by decide) (Nat.le_of_ble_eq_true rfl) ?_
  intro p e s m args below meth c Q A T S hK hN hA hT ret ls hl hO
  have hx := S.1
  have hb := S.2.1
  have hl : lv_has ls 4 [(0, .ref (ad 0)), (1, .int x1), (2, .int x2)] := hl
  have b32 : ∀ (k2 : qa_St → Int32 → Int32 → Int32 → qa_Re) (hk2 : ∀ (g : qa_St) (x1 : Int32) (x2 : Int32) (x3 : Int32) (ls : Array Slot) (H : Heap) (locs : List Loc), lv_has ls 4 [(0, .ref (ad 0)), (1, .int x1), (2, .int x2), (3, .int x3)] → qa_O D 33 ad (me_en cI cZ ad) A s.heap g H locs → k2 g x1 x2 x3 = some T → W p l e (qa_rm 0 0) s m args below meth c H locs 0 0 Q (F0 m 2 ls [])), ∀ (g : qa_St) (x1 : Int32) (x2 : Int32) (x3 : Int32) (ls : Array Slot) (H : Heap) (locs : List Loc), lv_has ls 4 [(0, .ref (ad 0)), (1, .int x1), (2, .int x2), (3, .int x3)] → qa_O D 33 ad (me_en cI cZ ad) A s.heap g H locs → mf_Mo_ownMethod_32 k2 g x1 x2 x3 = some T → W p l e (qa_rm 0 0) s m args below meth c H locs 0 0 Q (F0 m 32 ls []) := by
    intro k2 hk2
    intro g x1 x2 x3 ls H locs hl hO hT
    unfold mf_Mo_ownMethod_32 at hT
    refine lv_iinc (lv' := [(3, .int (x3 + 1)), (0, .ref (ad 0)), (1, .int x1), (2, .int x2)]) hx hb d_Mo_ownMethod_32 hl (k := 3) rfl (qa_o1 _) (by decide) rfl (fun ls hl => ?_)
    refine lv_goto (tgt := 2) hx hb d_Mo_ownMethod_35 (by decide) ?_
    exact hk2 g x1 x2 (x3 + 1) _ _ _ (lv_sub hl [1, 2, 3, 0] rfl) hO hT
  have b2 : ∀ (n : Nat), ∀ (g : qa_St) (x1 : Int32) (x2 : Int32) (x3 : Int32) (ls : Array Slot) (H : Heap) (locs : List Loc), lv_has ls 4 [(0, .ref (ad 0)), (1, .int x1), (2, .int x2), (3, .int x3)] → qa_O D 33 ad (me_en cI cZ ad) A s.heap g H locs → mf_Mo_ownMethod_2 n g x1 x2 x3 = some T → W p l e (qa_rm 0 0) s m args below meth c H locs 0 0 Q (F0 m 2 ls []) := by
    intro n
    induction n with
    | zero => intro g x1 x2 x3 ls H locs hl hO hT; rw [mf_Mo_ownMethod_2] at hT; cases hT
    | succ n ih =>
      intro g x1 x2 x3 ls H locs hl hO hT
      rw [mf_Mo_ownMethod_2] at hT
      refine lv_iload_n hx hb d_Mo_ownMethod_2 rfl (lv_at hl 3 rfl) ?_
      refine lv_aload_n hx hb d_Mo_ownMethod_3 rfl (lv_at hl 0 rfl) ?_
      refine qa_get S hK hO hi_Mo 0 (by decide) rfl rfl 4 (by decide) lf_Mo_129 rfl rfl d_Mo_ownMethod_4 ?_
      refine lv_icmp_ge (tgt := 38) hx hb d_Mo_ownMethod_7 (by decide) (fun h => ?_) (fun h => ?_)
      · have hT := qa_t hT h
        refine lv_iconst (v := -1) hx hb d_Mo_ownMethod_38 (by decide) ?_
        exact ret hT hO d_Mo_ownMethod_39
      · have hT := qa_f hT h
        refine lv_aload_n hx hb d_Mo_ownMethod_10 rfl (lv_at hl 0 rfl) ?_
        refine qa_get S hK hO hi_Mo 0 (by decide) rfl rfl 5 (by decide) lf_Mo_19 rfl rfl d_Mo_ownMethod_11 ?_
        refine lv_iload_n hx hb d_Mo_ownMethod_14 rfl (lv_at hl 3 rfl) ?_
        obtain ⟨hi15, hT⟩ := qa_c hT
        refine qa_iald (n := 10) S hK hO 4 (by decide) 0 (me_arr rfl) rfl hi15 d_Mo_ownMethod_15 ?_
        refine lv_iload_n hx hb d_Mo_ownMethod_16 rfl (lv_at hl 1 rfl) ?_
        refine lv_icmp_ne (tgt := 32) hx hb d_Mo_ownMethod_17 (by decide) (fun h => ?_) (fun h => ?_)
        · have hT := qa_f hT h
          exact b32 (mf_Mo_ownMethod_2 n) ih g x1 x2 x3 _ _ _ (lv_sub hl [0, 1, 2, 3] rfl) hO hT
        · have hT := qa_t hT h
          refine lv_aload_n hx hb d_Mo_ownMethod_20 rfl (lv_at hl 0 rfl) ?_
          refine qa_get S hK hO hi_Mo 0 (by decide) rfl rfl 6 (by decide) lf_Mo_22 rfl rfl d_Mo_ownMethod_21 ?_
          refine lv_iload_n hx hb d_Mo_ownMethod_24 rfl (lv_at hl 3 rfl) ?_
          obtain ⟨hi25, hT⟩ := qa_c hT
          refine qa_iald (n := 10) S hK hO 5 (by decide) 0 (me_arr rfl) rfl hi25 d_Mo_ownMethod_25 ?_
          refine lv_iload_n hx hb d_Mo_ownMethod_26 rfl (lv_at hl 2 rfl) ?_
          refine lv_icmp_ne (tgt := 32) hx hb d_Mo_ownMethod_27 (by decide) (fun h => ?_) (fun h => ?_)
          · have hT := qa_f hT h
            exact b32 (mf_Mo_ownMethod_2 n) ih g x1 x2 x3 _ _ _ (lv_sub hl [0, 1, 2, 3] rfl) hO hT
          · have hT := qa_t hT h
            refine lv_iload_n hx hb d_Mo_ownMethod_30 rfl (lv_at hl 3 rfl) ?_
            exact ret hT hO d_Mo_ownMethod_31
  unfold mf_Mo_ownMethod at hT
  refine lv_iconst (v := 0) hx hb d_Mo_ownMethod_0 (by decide) ?_
  refine lv_istore_n (lv' := [(3, .int (0 : Int32)), (0, .ref (ad 0)), (1, .int x1), (2, .int x2)]) hx hb d_Mo_ownMethod_1 rfl hl (by decide) rfl (fun ls hl => ?_)
  exact b2 4096 g x1 x2 (0 : Int32) _ _ _ (lv_sub hl [1, 2, 3, 0] rfl) hO hT
def mf_Mo_method_130 (g : qa_St) : qa_Re := ((mf_Mo_changed g).bind fun t131 => (some (((t131.2 0 4) - (1 : Int32)), t131.2)))
def mf_Mo_method_110 (g : qa_St) : qa_Re := (if (g 0 4) < 0 ∨ 10 ≤ (g 0 4).toNatClampNeg then none else (mf_Mo_method_130 (qa_up (qa_up g 10 (g 0 4).toNatClampNeg (0 : Int32)) 0 4 (((qa_up g 10 (g 0 4).toNatClampNeg (0 : Int32)) 0 4) + (1 : Int32)))))
def mf_Mo_method_99 (g : qa_St) (s0 : Int32) (s1 : Int32) : qa_Re := (if s1 < 0 ∨ 10 ≤ s1.toNatClampNeg then none else (if ((qa_up g 6 s1.toNatClampNeg s0) 0 4) < 0 ∨ 10 ≤ ((qa_up g 6 s1.toNatClampNeg s0) 0 4).toNatClampNeg then none else (mf_Mo_method_110 (qa_up (qa_up g 6 s1.toNatClampNeg s0) 7 ((qa_up g 6 s1.toNatClampNeg s0) 0 4).toNatClampNeg (0 : Int32)))))
def mf_Mo_method_81 (g : qa_St) (x2 : Int32) (x3 : Int32) : qa_Re := (if x2 = (-1 : Int32) then (mf_Mo_method_99 g x3 (g 0 4)) else (mf_Mo_method_99 g (2 : Int32) (g 0 4)))
def mf_Mo_method_61 (g : qa_St) (x1 : Int32) (x2 : Int32) (x3 : Int32) : qa_Re := (if (g 0 4) < 0 ∨ 10 ≤ (g 0 4).toNatClampNeg then none else (if ((qa_up g 4 (g 0 4).toNatClampNeg x1) 0 4) < 0 ∨ 10 ≤ ((qa_up g 4 (g 0 4).toNatClampNeg x1) 0 4).toNatClampNeg then none else (mf_Mo_method_81 (qa_up (qa_up g 4 (g 0 4).toNatClampNeg x1) 5 ((qa_up g 4 (g 0 4).toNatClampNeg x1) 0 4).toNatClampNeg x2) x2 x3)))
def mf_Mo_method (g : qa_St) (x1 : Int32) (x2 : Int32) (x3 : Int32) : qa_Re := (if (g 0 4) = (10 : Int32) then (some ((-1 : Int32), g)) else ((mf_Mo_within g x1 ((g 0 0) - (1 : Int32))).bind fun t16 => (if t16.1 = 0 then (some ((-1 : Int32), t16.2)) else (if x2 < (-1 : Int32) then (some ((-1 : Int32), t16.2)) else (if x2 ≤ (3 : Int32) then (if x2 = (-1 : Int32) then ((mf_Mo_within t16.2 x3 (2 : Int32)).bind fun t41 => (if t41.1 = 0 then (some ((-1 : Int32), t41.2)) else (mf_Mo_method_61 t41.2 x1 x2 x3))) else ((mf_Mo_ownMethod t16.2 x1 x2).bind fun t53 => (if t53.1 < 0 then (mf_Mo_method_61 t53.2 x1 x2 x3) else (some ((-1 : Int32), t53.2))))) else (some ((-1 : Int32), t16.2)))))))
set_option maxHeartbeats 4000000 in
set_option maxRecDepth 100000 in
theorem mc_Mo_method (l : Launch) (D : va_G) (cI cJ cF cZ : ClassId) (ad : Nat → Nat) (g : qa_St) (x1 : Int32) (x2 : Int32) (x3 : Int32) : qa_Mi l y_Mo_method (qa_ws y_Mo_method b_Mo_method 4 (some .int)) (qa_rm 1 23) D (qa_ty cI cJ cF cZ) 33 ad (me_en cI cZ ad) [.ref (ad 0), .int x1, .int x2, .int x3] g (mf_Mo_method g x1 x2 x3) := by
  refine qa_meti (by decide) (Nat.le_of_ble_eq_true rfl) ?_
  intro p e s m args below meth c Q A T S hK hN hA hT ret ls hl hO
  have hx := S.1
  have hb := S.2.1
  have hl : lv_has ls 4 [(0, .ref (ad 0)), (1, .int x1), (2, .int x2), (3, .int x3)] := hl
  have b130 : ∀ (g : qa_St) (ls : Array Slot) (H : Heap) (locs : List Loc), lv_has ls 4 [(0, .ref (ad 0))] → qa_O D 33 ad (me_en cI cZ ad) A s.heap g H locs → mf_Mo_method_130 g = some T → W p l e (qa_rm 1 23) s m args below meth c H locs 0 0 Q (F0 m 130 ls []) := by
    intro g ls H locs hl hO hT
    unfold mf_Mo_method_130 at hT
    refine lv_aload_n hx hb d_Mo_method_130 rfl (lv_at hl 0 rfl) ?_
    obtain ⟨t131, ht131, hT⟩ := qa_b hT
    refine qa_Vv (As := []) (rest := []) (r := 0) S hK hN hA hO (mc_Mo_changed l D cI cJ cF cZ ad g) ht131 qy_Mo_changed lm_Mo_126 ⟨by decide, by decide⟩ (by decide) rfl rfl rfl rfl hl.1 rfl (Nat.le_of_ble_eq_true rfl) d_Mo_method_131 (fun H locs hO => ?_)
    refine lv_aload_n hx hb d_Mo_method_134 rfl (lv_at hl 0 rfl) ?_
    refine qa_get S hK hO hi_Mo 0 (by decide) rfl rfl 4 (by decide) lf_Mo_129 rfl rfl d_Mo_method_135 ?_
    refine lv_iconst (v := 1) hx hb d_Mo_method_138 (by decide) ?_
    refine lv_isub hx hb d_Mo_method_139 ?_
    exact ret hT hO d_Mo_method_140
  have b110 : ∀ (g : qa_St) (ls : Array Slot) (H : Heap) (locs : List Loc), lv_has ls 4 [(0, .ref (ad 0))] → qa_O D 33 ad (me_en cI cZ ad) A s.heap g H locs → mf_Mo_method_110 g = some T → W p l e (qa_rm 1 23) s m args below meth c H locs 0 0 Q (F0 m 110 ls []) := by
    intro g ls H locs hl hO hT
    unfold mf_Mo_method_110 at hT
    refine lv_aload_n hx hb d_Mo_method_110 rfl (lv_at hl 0 rfl) ?_
    refine qa_get S hK hO hi_Mo 0 (by decide) rfl rfl 11 (by decide) lf_Mo_37 rfl rfl d_Mo_method_111 ?_
    refine lv_aload_n hx hb d_Mo_method_114 rfl (lv_at hl 0 rfl) ?_
    refine qa_get S hK hO hi_Mo 0 (by decide) rfl rfl 4 (by decide) lf_Mo_129 rfl rfl d_Mo_method_115 ?_
    refine lv_iconst (v := 0) hx hb d_Mo_method_118 (by decide) ?_
    obtain ⟨hi119, hT⟩ := qa_c hT
    refine qa_iast (n := 10) S hK hO 10 (by decide) 0 (me_arr rfl) rfl hi119 d_Mo_method_119 (fun H locs hO => ?_)
    refine lv_aload_n hx hb d_Mo_method_120 rfl (lv_at hl 0 rfl) ?_
    refine lv_dup hx hb d_Mo_method_121 rfl ?_
    refine qa_get S hK hO hi_Mo 0 (by decide) rfl rfl 4 (by decide) lf_Mo_129 rfl rfl d_Mo_method_122 ?_
    refine lv_iconst (v := 1) hx hb d_Mo_method_125 (by decide) ?_
    refine lv_iadd hx hb d_Mo_method_126 ?_
    refine qa_put S hK hO hi_Mo t_Mo t_Mo_ok n_Mo 0 (by decide) rfl rfl 4 (by decide) lf_Mo_129 rfl rfl (ty := .int) (by decide +kernel) rfl rfl (Nat.le_of_ble_eq_true rfl) rfl d_Mo_method_127 (fun H locs hO => ?_)
    exact b130 (qa_up (qa_up g 10 (g 0 4).toNatClampNeg (0 : Int32)) 0 4 (((qa_up g 10 (g 0 4).toNatClampNeg (0 : Int32)) 0 4) + (1 : Int32))) _ _ _ (lv_sub hl [0] rfl) hO hT
  have b99 : ∀ (g : qa_St) (s0 : Int32) (s1 : Int32) (ls : Array Slot) (H : Heap) (locs : List Loc), lv_has ls 4 [(0, .ref (ad 0))] → qa_O D 33 ad (me_en cI cZ ad) A s.heap g H locs → mf_Mo_method_99 g s0 s1 = some T → W p l e (qa_rm 1 23) s m args below meth c H locs 0 0 Q (F0 m 99 ls [.int s0, .int s1, .ref (ad 6)]) := by
    intro g s0 s1 ls H locs hl hO hT
    unfold mf_Mo_method_99 at hT
    obtain ⟨hi99, hT⟩ := qa_c hT
    refine qa_iast (n := 10) S hK hO 6 (by decide) 0 (me_arr rfl) rfl hi99 d_Mo_method_99 (fun H locs hO => ?_)
    refine lv_aload_n hx hb d_Mo_method_100 rfl (lv_at hl 0 rfl) ?_
    refine qa_get S hK hO hi_Mo 0 (by decide) rfl rfl 8 (by decide) lf_Mo_28 rfl rfl d_Mo_method_101 ?_
    refine lv_aload_n hx hb d_Mo_method_104 rfl (lv_at hl 0 rfl) ?_
    refine qa_get S hK hO hi_Mo 0 (by decide) rfl rfl 4 (by decide) lf_Mo_129 rfl rfl d_Mo_method_105 ?_
    refine lv_iconst (v := 0) hx hb d_Mo_method_108 (by decide) ?_
    obtain ⟨hi109, hT⟩ := qa_c hT
    refine qa_iast (n := 10) S hK hO 7 (by decide) 0 (me_arr rfl) rfl hi109 d_Mo_method_109 (fun H locs hO => ?_)
    exact b110 (qa_up (qa_up g 6 s1.toNatClampNeg s0) 7 ((qa_up g 6 s1.toNatClampNeg s0) 0 4).toNatClampNeg (0 : Int32)) _ _ _ (lv_sub hl [0] rfl) hO hT
  have b81 : ∀ (g : qa_St) (x2 : Int32) (x3 : Int32) (ls : Array Slot) (H : Heap) (locs : List Loc), lv_has ls 4 [(0, .ref (ad 0)), (2, .int x2), (3, .int x3)] → qa_O D 33 ad (me_en cI cZ ad) A s.heap g H locs → mf_Mo_method_81 g x2 x3 = some T → W p l e (qa_rm 1 23) s m args below meth c H locs 0 0 Q (F0 m 81 ls []) := by
    intro g x2 x3 ls H locs hl hO hT
    unfold mf_Mo_method_81 at hT
    refine lv_aload_n hx hb d_Mo_method_81 rfl (lv_at hl 0 rfl) ?_
    refine qa_get S hK hO hi_Mo 0 (by decide) rfl rfl 7 (by decide) lf_Mo_25 rfl rfl d_Mo_method_82 ?_
    refine lv_aload_n hx hb d_Mo_method_85 rfl (lv_at hl 0 rfl) ?_
    refine qa_get S hK hO hi_Mo 0 (by decide) rfl rfl 4 (by decide) lf_Mo_129 rfl rfl d_Mo_method_86 ?_
    refine lv_iload_n hx hb d_Mo_method_89 rfl (lv_at hl 1 rfl) ?_
    refine lv_iconst (v := -1) hx hb d_Mo_method_90 (by decide) ?_
    refine lv_icmp_ne (tgt := 98) hx hb d_Mo_method_91 (by decide) (fun h => ?_) (fun h => ?_)
    · have hT := qa_f hT h
      refine lv_iconst (v := 2) hx hb d_Mo_method_98 (by decide) ?_
      exact b99 g (2 : Int32) (g 0 4) _ _ _ (lv_sub hl [0] rfl) hO hT
    · have hT := qa_t hT h
      refine lv_iload_n hx hb d_Mo_method_94 rfl (lv_at hl 2 rfl) ?_
      refine lv_goto (tgt := 99) hx hb d_Mo_method_95 (by decide) ?_
      exact b99 g x3 (g 0 4) _ _ _ (lv_sub hl [0] rfl) hO hT
  have b61 : ∀ (g : qa_St) (x1 : Int32) (x2 : Int32) (x3 : Int32) (ls : Array Slot) (H : Heap) (locs : List Loc), lv_has ls 4 [(0, .ref (ad 0)), (1, .int x1), (2, .int x2), (3, .int x3)] → qa_O D 33 ad (me_en cI cZ ad) A s.heap g H locs → mf_Mo_method_61 g x1 x2 x3 = some T → W p l e (qa_rm 1 23) s m args below meth c H locs 0 0 Q (F0 m 61 ls []) := by
    intro g x1 x2 x3 ls H locs hl hO hT
    unfold mf_Mo_method_61 at hT
    refine lv_aload_n hx hb d_Mo_method_61 rfl (lv_at hl 0 rfl) ?_
    refine qa_get S hK hO hi_Mo 0 (by decide) rfl rfl 5 (by decide) lf_Mo_19 rfl rfl d_Mo_method_62 ?_
    refine lv_aload_n hx hb d_Mo_method_65 rfl (lv_at hl 0 rfl) ?_
    refine qa_get S hK hO hi_Mo 0 (by decide) rfl rfl 4 (by decide) lf_Mo_129 rfl rfl d_Mo_method_66 ?_
    refine lv_iload_n hx hb d_Mo_method_69 rfl (lv_at hl 1 rfl) ?_
    obtain ⟨hi70, hT⟩ := qa_c hT
    refine qa_iast (n := 10) S hK hO 4 (by decide) 0 (me_arr rfl) rfl hi70 d_Mo_method_70 (fun H locs hO => ?_)
    refine lv_aload_n hx hb d_Mo_method_71 rfl (lv_at hl 0 rfl) ?_
    refine qa_get S hK hO hi_Mo 0 (by decide) rfl rfl 6 (by decide) lf_Mo_22 rfl rfl d_Mo_method_72 ?_
    refine lv_aload_n hx hb d_Mo_method_75 rfl (lv_at hl 0 rfl) ?_
    refine qa_get S hK hO hi_Mo 0 (by decide) rfl rfl 4 (by decide) lf_Mo_129 rfl rfl d_Mo_method_76 ?_
    refine lv_iload_n hx hb d_Mo_method_79 rfl (lv_at hl 2 rfl) ?_
    obtain ⟨hi80, hT⟩ := qa_c hT
    refine qa_iast (n := 10) S hK hO 5 (by decide) 0 (me_arr rfl) rfl hi80 d_Mo_method_80 (fun H locs hO => ?_)
    exact b81 (qa_up (qa_up g 4 (g 0 4).toNatClampNeg x1) 5 ((qa_up g 4 (g 0 4).toNatClampNeg x1) 0 4).toNatClampNeg x2) x2 x3 _ _ _ (lv_sub hl [0, 2, 3] rfl) hO hT
  unfold mf_Mo_method at hT
  refine lv_aload_n hx hb d_Mo_method_0 rfl (lv_at hl 0 rfl) ?_
  refine qa_get S hK hO hi_Mo 0 (by decide) rfl rfl 4 (by decide) lf_Mo_129 rfl rfl d_Mo_method_1 ?_
  refine lv_bipush (v := 10) hx hb d_Mo_method_4 (by decide) ?_
  refine lv_icmp_eq (tgt := 32) hx hb d_Mo_method_6 (by decide) (fun h => ?_) (fun h => ?_)
  · have hT := qa_t hT h
    refine lv_iconst (v := -1) hx hb d_Mo_method_32 (by decide) ?_
    exact ret hT hO d_Mo_method_33
  · have hT := qa_f hT h
    refine lv_iload_n hx hb d_Mo_method_9 rfl (lv_at hl 1 rfl) ?_
    refine lv_aload_n hx hb d_Mo_method_10 rfl (lv_at hl 0 rfl) ?_
    refine qa_get S hK hO hi_Mo 0 (by decide) rfl rfl 0 (by decide) lf_Mo_114 rfl rfl d_Mo_method_11 ?_
    refine lv_iconst (v := 1) hx hb d_Mo_method_14 (by decide) ?_
    refine lv_isub hx hb d_Mo_method_15 ?_
    obtain ⟨t16, ht16, hT⟩ := qa_b hT
    refine qa_Si (As := [.int x1, .int ((g 0 0) - (1 : Int32))]) (rest := []) S hK hN hA hO (mc_Mo_within l D cI cJ cF cZ ad g x1 ((g 0 0) - (1 : Int32))) ht16 qy_Mo_within lm_Mo_118 ⟨by decide, by decide⟩ rfl hl.1 rfl (Nat.le_of_ble_eq_true rfl) d_Mo_method_16 (fun H locs hO => ?_)
    refine lv_if_eq (tgt := 32) hx hb d_Mo_method_19 (by decide) (fun h => ?_) (fun h => ?_)
    · have hT := qa_t hT h
      refine lv_iconst (v := -1) hx hb d_Mo_method_32 (by decide) ?_
      exact ret hT hO d_Mo_method_33
    · have hT := qa_f hT h
      refine lv_iload_n hx hb d_Mo_method_22 rfl (lv_at hl 2 rfl) ?_
      refine lv_iconst (v := -1) hx hb d_Mo_method_23 (by decide) ?_
      refine lv_icmp_lt (tgt := 32) hx hb d_Mo_method_24 (by decide) (fun h => ?_) (fun h => ?_)
      · have hT := qa_t hT h
        refine lv_iconst (v := -1) hx hb d_Mo_method_32 (by decide) ?_
        exact ret hT hO d_Mo_method_33
      · have hT := qa_f hT h
        refine lv_iload_n hx hb d_Mo_method_27 rfl (lv_at hl 2 rfl) ?_
        refine lv_iconst (v := 3) hx hb d_Mo_method_28 (by decide) ?_
        refine lv_icmp_le (tgt := 34) hx hb d_Mo_method_29 (by decide) (fun h => ?_) (fun h => ?_)
        · have hT := qa_t hT h
          refine lv_iload_n hx hb d_Mo_method_34 rfl (lv_at hl 2 rfl) ?_
          refine lv_iconst (v := -1) hx hb d_Mo_method_35 (by decide) ?_
          refine lv_icmp_ne (tgt := 50) hx hb d_Mo_method_36 (by decide) (fun h => ?_) (fun h => ?_)
          · have hT := qa_f hT h
            refine lv_aload_n hx hb d_Mo_method_50 rfl (lv_at hl 0 rfl) ?_
            refine lv_iload_n hx hb d_Mo_method_51 rfl (lv_at hl 1 rfl) ?_
            refine lv_iload_n hx hb d_Mo_method_52 rfl (lv_at hl 2 rfl) ?_
            obtain ⟨t53, ht53, hT⟩ := qa_b hT
            refine qa_Vi (As := [.int x1, .int x2]) (rest := []) (r := 0) S hK hN hA hO (mc_Mo_ownMethod l D cI cJ cF cZ ad t16.2 x1 x2) ht53 qy_Mo_ownMethod lm_Mo_132 ⟨by decide, by decide⟩ (by decide) rfl rfl rfl rfl hl.1 rfl (Nat.le_of_ble_eq_true rfl) d_Mo_method_53 (fun H locs hO => ?_)
            refine lv_if_lt (tgt := 61) hx hb d_Mo_method_56 (by decide) (fun h => ?_) (fun h => ?_)
            · have hT := qa_t hT h
              exact b61 t53.2 x1 x2 x3 _ _ _ (lv_sub hl [0, 1, 2, 3] rfl) hO hT
            · have hT := qa_f hT h
              refine lv_iconst (v := -1) hx hb d_Mo_method_59 (by decide) ?_
              exact ret hT hO d_Mo_method_60
          · have hT := qa_t hT h
            refine lv_iload_n hx hb d_Mo_method_39 rfl (lv_at hl 3 rfl) ?_
            refine lv_iconst (v := 2) hx hb d_Mo_method_40 (by decide) ?_
            obtain ⟨t41, ht41, hT⟩ := qa_b hT
            refine qa_Si (As := [.int x3, .int (2 : Int32)]) (rest := []) S hK hN hA hO (mc_Mo_within l D cI cJ cF cZ ad t16.2 x3 (2 : Int32)) ht41 qy_Mo_within lm_Mo_118 ⟨by decide, by decide⟩ rfl hl.1 rfl (Nat.le_of_ble_eq_true rfl) d_Mo_method_41 (fun H locs hO => ?_)
            refine lv_if_ne (tgt := 61) hx hb d_Mo_method_44 (by decide) (fun h => ?_) (fun h => ?_)
            · have hT := qa_f hT h
              exact b61 t41.2 x1 x2 x3 _ _ _ (lv_sub hl [0, 1, 2, 3] rfl) hO hT
            · have hT := qa_t hT h
              refine lv_goto (tgt := 59) hx hb d_Mo_method_47 (by decide) ?_
              refine lv_iconst (v := -1) hx hb d_Mo_method_59 (by decide) ?_
              exact ret hT hO d_Mo_method_60
        · have hT := qa_f hT h
          refine lv_iconst (v := -1) hx hb d_Mo_method_32 (by decide) ?_
          exact ret hT hO d_Mo_method_33
def mf_Mo_initialiser (g : qa_St) (x1 : Int32) (x2 : Int32) : qa_Re := ((mf_Mo_within g x1 ((g 0 0) - (1 : Int32))).bind fun t7 => (if t7.1 = 0 then (some ((0 : Int32), t7.2)) else ((mf_Mo_within t7.2 x2 ((t7.2 0 4) - (1 : Int32))).bind fun t20 => (if t20.1 = 0 then (some ((0 : Int32), t20.2)) else (if x2 < 0 ∨ 10 ≤ x2.toNatClampNeg then none else (if 0 ≤ (t20.2 5 x2.toNatClampNeg) then (some ((0 : Int32), t20.2)) else (if x2 < 0 ∨ 10 ≤ x2.toNatClampNeg then none else (if (t20.2 6 x2.toNatClampNeg) ≤ 0 then (if x1 < 0 ∨ 6 ≤ x1.toNatClampNeg then none else ((mf_Mo_changed (qa_up t20.2 3 x1.toNatClampNeg x2)).bind fun t54 => (some ((1 : Int32), t54.2)))) else (some ((0 : Int32), t20.2))))))))))
set_option maxHeartbeats 4000000 in
set_option maxRecDepth 100000 in
theorem mc_Mo_initialiser (l : Launch) (D : va_G) (cI cJ cF cZ : ClassId) (ad : Nat → Nat) (g : qa_St) (x1 : Int32) (x2 : Int32) : qa_Mi l y_Mo_initialiser (qa_ws y_Mo_initialiser b_Mo_initialiser 3 (some .boolean)) (qa_rm 1 21) D (qa_ty cI cJ cF cZ) 33 ad (me_en cI cZ ad) [.ref (ad 0), .int x1, .int x2] g (mf_Mo_initialiser g x1 x2) := by
  refine qa_metz (by decide) (Nat.le_of_ble_eq_true rfl) ?_
  intro p e s m args below meth c Q A T S hK hN hA hT ret ls hl hO
  have hx := S.1
  have hb := S.2.1
  have hl : lv_has ls 3 [(0, .ref (ad 0)), (1, .int x1), (2, .int x2)] := hl
  unfold mf_Mo_initialiser at hT
  refine lv_iload_n hx hb d_Mo_initialiser_0 rfl (lv_at hl 1 rfl) ?_
  refine lv_aload_n hx hb d_Mo_initialiser_1 rfl (lv_at hl 0 rfl) ?_
  refine qa_get S hK hO hi_Mo 0 (by decide) rfl rfl 0 (by decide) lf_Mo_114 rfl rfl d_Mo_initialiser_2 ?_
  refine lv_iconst (v := 1) hx hb d_Mo_initialiser_5 (by decide) ?_
  refine lv_isub hx hb d_Mo_initialiser_6 ?_
  obtain ⟨t7, ht7, hT⟩ := qa_b hT
  refine qa_Si (As := [.int x1, .int ((g 0 0) - (1 : Int32))]) (rest := []) S hK hN hA hO (mc_Mo_within l D cI cJ cF cZ ad g x1 ((g 0 0) - (1 : Int32))) ht7 qy_Mo_within lm_Mo_118 ⟨by decide, by decide⟩ rfl hl.1 rfl (Nat.le_of_ble_eq_true rfl) d_Mo_initialiser_7 (fun H locs hO => ?_)
  refine lv_if_eq (tgt := 44) hx hb d_Mo_initialiser_10 (by decide) (fun h => ?_) (fun h => ?_)
  · have hT := qa_t hT h
    refine lv_iconst (v := 0) hx hb d_Mo_initialiser_44 (by decide) ?_
    exact ret (by decide) hT hO d_Mo_initialiser_45
  · have hT := qa_f hT h
    refine lv_iload_n hx hb d_Mo_initialiser_13 rfl (lv_at hl 2 rfl) ?_
    refine lv_aload_n hx hb d_Mo_initialiser_14 rfl (lv_at hl 0 rfl) ?_
    refine qa_get S hK hO hi_Mo 0 (by decide) rfl rfl 4 (by decide) lf_Mo_129 rfl rfl d_Mo_initialiser_15 ?_
    refine lv_iconst (v := 1) hx hb d_Mo_initialiser_18 (by decide) ?_
    refine lv_isub hx hb d_Mo_initialiser_19 ?_
    obtain ⟨t20, ht20, hT⟩ := qa_b hT
    refine qa_Si (As := [.int x2, .int ((t7.2 0 4) - (1 : Int32))]) (rest := []) S hK hN hA hO (mc_Mo_within l D cI cJ cF cZ ad t7.2 x2 ((t7.2 0 4) - (1 : Int32))) ht20 qy_Mo_within lm_Mo_118 ⟨by decide, by decide⟩ rfl hl.1 rfl (Nat.le_of_ble_eq_true rfl) d_Mo_initialiser_20 (fun H locs hO => ?_)
    refine lv_if_eq (tgt := 44) hx hb d_Mo_initialiser_23 (by decide) (fun h => ?_) (fun h => ?_)
    · have hT := qa_t hT h
      refine lv_iconst (v := 0) hx hb d_Mo_initialiser_44 (by decide) ?_
      exact ret (by decide) hT hO d_Mo_initialiser_45
    · have hT := qa_f hT h
      refine lv_aload_n hx hb d_Mo_initialiser_26 rfl (lv_at hl 0 rfl) ?_
      refine qa_get S hK hO hi_Mo 0 (by decide) rfl rfl 6 (by decide) lf_Mo_22 rfl rfl d_Mo_initialiser_27 ?_
      refine lv_iload_n hx hb d_Mo_initialiser_30 rfl (lv_at hl 2 rfl) ?_
      obtain ⟨hi31, hT⟩ := qa_c hT
      refine qa_iald (n := 10) S hK hO 5 (by decide) 0 (me_arr rfl) rfl hi31 d_Mo_initialiser_31 ?_
      refine lv_if_ge (tgt := 44) hx hb d_Mo_initialiser_32 (by decide) (fun h => ?_) (fun h => ?_)
      · have hT := qa_t hT h
        refine lv_iconst (v := 0) hx hb d_Mo_initialiser_44 (by decide) ?_
        exact ret (by decide) hT hO d_Mo_initialiser_45
      · have hT := qa_f hT h
        refine lv_aload_n hx hb d_Mo_initialiser_35 rfl (lv_at hl 0 rfl) ?_
        refine qa_get S hK hO hi_Mo 0 (by decide) rfl rfl 7 (by decide) lf_Mo_25 rfl rfl d_Mo_initialiser_36 ?_
        refine lv_iload_n hx hb d_Mo_initialiser_39 rfl (lv_at hl 2 rfl) ?_
        obtain ⟨hi40, hT⟩ := qa_c hT
        refine qa_iald (n := 10) S hK hO 6 (by decide) 0 (me_arr rfl) rfl hi40 d_Mo_initialiser_40 ?_
        refine lv_if_le (tgt := 46) hx hb d_Mo_initialiser_41 (by decide) (fun h => ?_) (fun h => ?_)
        · have hT := qa_t hT h
          refine lv_aload_n hx hb d_Mo_initialiser_46 rfl (lv_at hl 0 rfl) ?_
          refine qa_get S hK hO hi_Mo 0 (by decide) rfl rfl 3 (by decide) lf_Mo_16 rfl rfl d_Mo_initialiser_47 ?_
          refine lv_iload_n hx hb d_Mo_initialiser_50 rfl (lv_at hl 1 rfl) ?_
          refine lv_iload_n hx hb d_Mo_initialiser_51 rfl (lv_at hl 2 rfl) ?_
          obtain ⟨hi52, hT⟩ := qa_c hT
          refine qa_iast (n := 6) S hK hO 3 (by decide) 0 (me_arr rfl) rfl hi52 d_Mo_initialiser_52 (fun H locs hO => ?_)
          refine lv_aload_n hx hb d_Mo_initialiser_53 rfl (lv_at hl 0 rfl) ?_
          obtain ⟨t54, ht54, hT⟩ := qa_b hT
          refine qa_Vv (As := []) (rest := []) (r := 0) S hK hN hA hO (mc_Mo_changed l D cI cJ cF cZ ad (qa_up t20.2 3 x1.toNatClampNeg x2)) ht54 qy_Mo_changed lm_Mo_126 ⟨by decide, by decide⟩ (by decide) rfl rfl rfl rfl hl.1 rfl (Nat.le_of_ble_eq_true rfl) d_Mo_initialiser_54 (fun H locs hO => ?_)
          refine lv_iconst (v := 1) hx hb d_Mo_initialiser_57 (by decide) ?_
          exact ret (by decide) hT hO d_Mo_initialiser_58
        · have hT := qa_f hT h
          refine lv_iconst (v := 0) hx hb d_Mo_initialiser_44 (by decide) ?_
          exact ret (by decide) hT hO d_Mo_initialiser_45
def mf_Mo_fits_133 (g : qa_St) : qa_Re := (some ((1 : Int32), g))
def mf_Mo_fits_99 (g : qa_St) (x2 : Int32) : qa_Re := ((mf_Mo_within g x2 (5 : Int32)).bind fun t101 => (if t101.1 = 0 ∨ t101.1 = 1 then some (t101.1, t101.2) else none))
def mf_Mo_fits_80 (g : qa_St) (x2 : Int32) : qa_Re := ((mf_Mo_within g x2 (19 : Int32)).bind fun t83 => (if t83.1 = 0 ∨ t83.1 = 1 then some (t83.1, t83.2) else none))
def mf_Mo_fits_62 (g : qa_St) (x2 : Int32) : qa_Re := ((mf_Mo_within g x2 (3 : Int32)).bind fun t64 => (if t64.1 = 0 ∨ t64.1 = 1 then some (t64.1, t64.2) else none))
def mf_Mo_fits_35 (g : qa_St) (x2 : Int32) : qa_Re := ((mf_Mo_within g x2 ((g 0 0) - (1 : Int32))).bind fun t42 => (if t42.1 = 0 ∨ t42.1 = 1 then some (t42.1, t42.2) else none))
def mf_Mo_fits (g : qa_St) (x1 : Int32) (x2 : Int32) : qa_Re := (if x1 = (1 : Int32) then (mf_Mo_fits_35 g x2) else (if x1 = (11 : Int32) then (mf_Mo_fits_35 g x2) else (if x1 = (14 : Int32) then (mf_Mo_fits_35 g x2) else (if x1 = (15 : Int32) then (mf_Mo_fits_35 g x2) else (if x1 = (18 : Int32) then (mf_Mo_fits_35 g x2) else (if x1 = (19 : Int32) then (mf_Mo_fits_35 g x2) else (if x1 = (2 : Int32) then (mf_Mo_fits_62 g x2) else (if x1 = (3 : Int32) then (mf_Mo_fits_62 g x2) else (if x1 = (17 : Int32) then (mf_Mo_fits_62 g x2) else (if x1 = (9 : Int32) then (mf_Mo_fits_80 g x2) else (if x1 = (10 : Int32) then (mf_Mo_fits_80 g x2) else (if x1 = (12 : Int32) then (mf_Mo_fits_99 g x2) else (if x1 = (13 : Int32) then (mf_Mo_fits_99 g x2) else (if x1 = (16 : Int32) then ((mf_Mo_within g x2 ((g 0 4) - (1 : Int32))).bind fun t118 => (if t118.1 = 0 then (some ((0 : Int32), t118.2)) else (if x2 < 0 ∨ 10 ≤ x2.toNatClampNeg then none else (if 0 ≤ (t118.2 5 x2.toNatClampNeg) then (some ((0 : Int32), t118.2)) else (mf_Mo_fits_133 t118.2))))) else (mf_Mo_fits_133 g)))))))))))))))
set_option maxHeartbeats 4000000 in
set_option maxRecDepth 100000 in
theorem mc_Mo_fits (l : Launch) (D : va_G) (cI cJ cF cZ : ClassId) (ad : Nat → Nat) (g : qa_St) (x1 : Int32) (x2 : Int32) : qa_Mi l y_Mo_fits (qa_ws y_Mo_fits b_Mo_fits 3 (some .boolean)) (qa_rm 1 21) D (qa_ty cI cJ cF cZ) 33 ad (me_en cI cZ ad) [.ref (ad 0), .int x1, .int x2] g (mf_Mo_fits g x1 x2) := by
  refine qa_metz (by decide) (Nat.le_of_ble_eq_true rfl) ?_
  intro p e s m args below meth c Q A T S hK hN hA hT ret ls hl hO
  have hx := S.1
  have hb := S.2.1
  have hl : lv_has ls 3 [(0, .ref (ad 0)), (1, .int x1), (2, .int x2)] := hl
  have b133 : ∀ (g : qa_St) (ls : Array Slot) (H : Heap) (locs : List Loc), lv_has ls 3 [] → qa_O D 33 ad (me_en cI cZ ad) A s.heap g H locs → mf_Mo_fits_133 g = some T → W p l e (qa_rm 1 21) s m args below meth c H locs 0 0 Q (F0 m 133 ls []) := by
    intro g ls H locs hl hO hT
    unfold mf_Mo_fits_133 at hT
    refine lv_iconst (v := 1) hx hb d_Mo_fits_133 (by decide) ?_
    refine lv_goto (tgt := 138) hx hb d_Mo_fits_134 (by decide) ?_
    exact ret (by decide) hT hO d_Mo_fits_138
  have b99 : ∀ (g : qa_St) (x2 : Int32) (ls : Array Slot) (H : Heap) (locs : List Loc), lv_has ls 3 [(2, .int x2)] → qa_O D 33 ad (me_en cI cZ ad) A s.heap g H locs → mf_Mo_fits_99 g x2 = some T → W p l e (qa_rm 1 21) s m args below meth c H locs 0 0 Q (F0 m 99 ls []) := by
    intro g x2 ls H locs hl hO hT
    unfold mf_Mo_fits_99 at hT
    refine lv_iload_n hx hb d_Mo_fits_99 rfl (lv_at hl 0 rfl) ?_
    refine lv_iconst (v := 5) hx hb d_Mo_fits_100 (by decide) ?_
    obtain ⟨t101, ht101, hT⟩ := qa_b hT
    refine qa_Si (As := [.int x2, .int (5 : Int32)]) (rest := []) S hK hN hA hO (mc_Mo_within l D cI cJ cF cZ ad g x2 (5 : Int32)) ht101 qy_Mo_within lm_Mo_118 ⟨by decide, by decide⟩ rfl hl.1 rfl (Nat.le_of_ble_eq_true rfl) d_Mo_fits_101 (fun H locs hO => ?_)
    obtain ⟨hz, hT⟩ := qa_k hT
    exact ret hz hT hO d_Mo_fits_104
  have b80 : ∀ (g : qa_St) (x2 : Int32) (ls : Array Slot) (H : Heap) (locs : List Loc), lv_has ls 3 [(2, .int x2)] → qa_O D 33 ad (me_en cI cZ ad) A s.heap g H locs → mf_Mo_fits_80 g x2 = some T → W p l e (qa_rm 1 21) s m args below meth c H locs 0 0 Q (F0 m 80 ls []) := by
    intro g x2 ls H locs hl hO hT
    unfold mf_Mo_fits_80 at hT
    refine lv_iload_n hx hb d_Mo_fits_80 rfl (lv_at hl 0 rfl) ?_
    refine lv_bipush (v := 19) hx hb d_Mo_fits_81 (by decide) ?_
    obtain ⟨t83, ht83, hT⟩ := qa_b hT
    refine qa_Si (As := [.int x2, .int (19 : Int32)]) (rest := []) S hK hN hA hO (mc_Mo_within l D cI cJ cF cZ ad g x2 (19 : Int32)) ht83 qy_Mo_within lm_Mo_118 ⟨by decide, by decide⟩ rfl hl.1 rfl (Nat.le_of_ble_eq_true rfl) d_Mo_fits_83 (fun H locs hO => ?_)
    obtain ⟨hz, hT⟩ := qa_k hT
    exact ret hz hT hO d_Mo_fits_86
  have b62 : ∀ (g : qa_St) (x2 : Int32) (ls : Array Slot) (H : Heap) (locs : List Loc), lv_has ls 3 [(2, .int x2)] → qa_O D 33 ad (me_en cI cZ ad) A s.heap g H locs → mf_Mo_fits_62 g x2 = some T → W p l e (qa_rm 1 21) s m args below meth c H locs 0 0 Q (F0 m 62 ls []) := by
    intro g x2 ls H locs hl hO hT
    unfold mf_Mo_fits_62 at hT
    refine lv_iload_n hx hb d_Mo_fits_62 rfl (lv_at hl 0 rfl) ?_
    refine lv_iconst (v := 3) hx hb d_Mo_fits_63 (by decide) ?_
    obtain ⟨t64, ht64, hT⟩ := qa_b hT
    refine qa_Si (As := [.int x2, .int (3 : Int32)]) (rest := []) S hK hN hA hO (mc_Mo_within l D cI cJ cF cZ ad g x2 (3 : Int32)) ht64 qy_Mo_within lm_Mo_118 ⟨by decide, by decide⟩ rfl hl.1 rfl (Nat.le_of_ble_eq_true rfl) d_Mo_fits_64 (fun H locs hO => ?_)
    obtain ⟨hz, hT⟩ := qa_k hT
    exact ret hz hT hO d_Mo_fits_67
  have b35 : ∀ (g : qa_St) (x2 : Int32) (ls : Array Slot) (H : Heap) (locs : List Loc), lv_has ls 3 [(0, .ref (ad 0)), (2, .int x2)] → qa_O D 33 ad (me_en cI cZ ad) A s.heap g H locs → mf_Mo_fits_35 g x2 = some T → W p l e (qa_rm 1 21) s m args below meth c H locs 0 0 Q (F0 m 35 ls []) := by
    intro g x2 ls H locs hl hO hT
    unfold mf_Mo_fits_35 at hT
    refine lv_iload_n hx hb d_Mo_fits_35 rfl (lv_at hl 1 rfl) ?_
    refine lv_aload_n hx hb d_Mo_fits_36 rfl (lv_at hl 0 rfl) ?_
    refine qa_get S hK hO hi_Mo 0 (by decide) rfl rfl 0 (by decide) lf_Mo_114 rfl rfl d_Mo_fits_37 ?_
    refine lv_iconst (v := 1) hx hb d_Mo_fits_40 (by decide) ?_
    refine lv_isub hx hb d_Mo_fits_41 ?_
    obtain ⟨t42, ht42, hT⟩ := qa_b hT
    refine qa_Si (As := [.int x2, .int ((g 0 0) - (1 : Int32))]) (rest := []) S hK hN hA hO (mc_Mo_within l D cI cJ cF cZ ad g x2 ((g 0 0) - (1 : Int32))) ht42 qy_Mo_within lm_Mo_118 ⟨by decide, by decide⟩ rfl hl.1 rfl (Nat.le_of_ble_eq_true rfl) d_Mo_fits_42 (fun H locs hO => ?_)
    obtain ⟨hz, hT⟩ := qa_k hT
    exact ret hz hT hO d_Mo_fits_45
  unfold mf_Mo_fits at hT
  refine lv_iload_n hx hb d_Mo_fits_0 rfl (lv_at hl 1 rfl) ?_
  refine lv_iconst (v := 1) hx hb d_Mo_fits_1 (by decide) ?_
  refine lv_icmp_eq (tgt := 35) hx hb d_Mo_fits_2 (by decide) (fun h => ?_) (fun h => ?_)
  · have hT := qa_t hT h
    exact b35 g x2 _ _ _ (lv_sub hl [0, 2] rfl) hO hT
  · have hT := qa_f hT h
    refine lv_iload_n hx hb d_Mo_fits_5 rfl (lv_at hl 1 rfl) ?_
    refine lv_bipush (v := 11) hx hb d_Mo_fits_6 (by decide) ?_
    refine lv_icmp_eq (tgt := 35) hx hb d_Mo_fits_8 (by decide) (fun h => ?_) (fun h => ?_)
    · have hT := qa_t hT h
      exact b35 g x2 _ _ _ (lv_sub hl [0, 2] rfl) hO hT
    · have hT := qa_f hT h
      refine lv_iload_n hx hb d_Mo_fits_11 rfl (lv_at hl 1 rfl) ?_
      refine lv_bipush (v := 14) hx hb d_Mo_fits_12 (by decide) ?_
      refine lv_icmp_eq (tgt := 35) hx hb d_Mo_fits_14 (by decide) (fun h => ?_) (fun h => ?_)
      · have hT := qa_t hT h
        exact b35 g x2 _ _ _ (lv_sub hl [0, 2] rfl) hO hT
      · have hT := qa_f hT h
        refine lv_iload_n hx hb d_Mo_fits_17 rfl (lv_at hl 1 rfl) ?_
        refine lv_bipush (v := 15) hx hb d_Mo_fits_18 (by decide) ?_
        refine lv_icmp_eq (tgt := 35) hx hb d_Mo_fits_20 (by decide) (fun h => ?_) (fun h => ?_)
        · have hT := qa_t hT h
          exact b35 g x2 _ _ _ (lv_sub hl [0, 2] rfl) hO hT
        · have hT := qa_f hT h
          refine lv_iload_n hx hb d_Mo_fits_23 rfl (lv_at hl 1 rfl) ?_
          refine lv_bipush (v := 18) hx hb d_Mo_fits_24 (by decide) ?_
          refine lv_icmp_eq (tgt := 35) hx hb d_Mo_fits_26 (by decide) (fun h => ?_) (fun h => ?_)
          · have hT := qa_t hT h
            exact b35 g x2 _ _ _ (lv_sub hl [0, 2] rfl) hO hT
          · have hT := qa_f hT h
            refine lv_iload_n hx hb d_Mo_fits_29 rfl (lv_at hl 1 rfl) ?_
            refine lv_bipush (v := 19) hx hb d_Mo_fits_30 (by decide) ?_
            refine lv_icmp_ne (tgt := 46) hx hb d_Mo_fits_32 (by decide) (fun h => ?_) (fun h => ?_)
            · have hT := qa_f hT h
              refine lv_iload_n hx hb d_Mo_fits_46 rfl (lv_at hl 1 rfl) ?_
              refine lv_iconst (v := 2) hx hb d_Mo_fits_47 (by decide) ?_
              refine lv_icmp_eq (tgt := 62) hx hb d_Mo_fits_48 (by decide) (fun h => ?_) (fun h => ?_)
              · have hT := qa_t hT h
                exact b62 g x2 _ _ _ (lv_sub hl [2] rfl) hO hT
              · have hT := qa_f hT h
                refine lv_iload_n hx hb d_Mo_fits_51 rfl (lv_at hl 1 rfl) ?_
                refine lv_iconst (v := 3) hx hb d_Mo_fits_52 (by decide) ?_
                refine lv_icmp_eq (tgt := 62) hx hb d_Mo_fits_53 (by decide) (fun h => ?_) (fun h => ?_)
                · have hT := qa_t hT h
                  exact b62 g x2 _ _ _ (lv_sub hl [2] rfl) hO hT
                · have hT := qa_f hT h
                  refine lv_iload_n hx hb d_Mo_fits_56 rfl (lv_at hl 1 rfl) ?_
                  refine lv_bipush (v := 17) hx hb d_Mo_fits_57 (by decide) ?_
                  refine lv_icmp_ne (tgt := 68) hx hb d_Mo_fits_59 (by decide) (fun h => ?_) (fun h => ?_)
                  · have hT := qa_f hT h
                    refine lv_iload_n hx hb d_Mo_fits_68 rfl (lv_at hl 1 rfl) ?_
                    refine lv_bipush (v := 9) hx hb d_Mo_fits_69 (by decide) ?_
                    refine lv_icmp_eq (tgt := 80) hx hb d_Mo_fits_71 (by decide) (fun h => ?_) (fun h => ?_)
                    · have hT := qa_t hT h
                      exact b80 g x2 _ _ _ (lv_sub hl [2] rfl) hO hT
                    · have hT := qa_f hT h
                      refine lv_iload_n hx hb d_Mo_fits_74 rfl (lv_at hl 1 rfl) ?_
                      refine lv_bipush (v := 10) hx hb d_Mo_fits_75 (by decide) ?_
                      refine lv_icmp_ne (tgt := 87) hx hb d_Mo_fits_77 (by decide) (fun h => ?_) (fun h => ?_)
                      · have hT := qa_f hT h
                        refine lv_iload_n hx hb d_Mo_fits_87 rfl (lv_at hl 1 rfl) ?_
                        refine lv_bipush (v := 12) hx hb d_Mo_fits_88 (by decide) ?_
                        refine lv_icmp_eq (tgt := 99) hx hb d_Mo_fits_90 (by decide) (fun h => ?_) (fun h => ?_)
                        · have hT := qa_t hT h
                          exact b99 g x2 _ _ _ (lv_sub hl [2] rfl) hO hT
                        · have hT := qa_f hT h
                          refine lv_iload_n hx hb d_Mo_fits_93 rfl (lv_at hl 1 rfl) ?_
                          refine lv_bipush (v := 13) hx hb d_Mo_fits_94 (by decide) ?_
                          refine lv_icmp_ne (tgt := 105) hx hb d_Mo_fits_96 (by decide) (fun h => ?_) (fun h => ?_)
                          · have hT := qa_f hT h
                            refine lv_iload_n hx hb d_Mo_fits_105 rfl (lv_at hl 1 rfl) ?_
                            refine lv_bipush (v := 16) hx hb d_Mo_fits_106 (by decide) ?_
                            refine lv_icmp_ne (tgt := 133) hx hb d_Mo_fits_108 (by decide) (fun h => ?_) (fun h => ?_)
                            · have hT := qa_f hT h
                              exact b133 g _ _ _ (lv_sub hl [] rfl) hO hT
                            · have hT := qa_t hT h
                              refine lv_iload_n hx hb d_Mo_fits_111 rfl (lv_at hl 2 rfl) ?_
                              refine lv_aload_n hx hb d_Mo_fits_112 rfl (lv_at hl 0 rfl) ?_
                              refine qa_get S hK hO hi_Mo 0 (by decide) rfl rfl 4 (by decide) lf_Mo_129 rfl rfl d_Mo_fits_113 ?_
                              refine lv_iconst (v := 1) hx hb d_Mo_fits_116 (by decide) ?_
                              refine lv_isub hx hb d_Mo_fits_117 ?_
                              obtain ⟨t118, ht118, hT⟩ := qa_b hT
                              refine qa_Si (As := [.int x2, .int ((g 0 4) - (1 : Int32))]) (rest := []) S hK hN hA hO (mc_Mo_within l D cI cJ cF cZ ad g x2 ((g 0 4) - (1 : Int32))) ht118 qy_Mo_within lm_Mo_118 ⟨by decide, by decide⟩ rfl hl.1 rfl (Nat.le_of_ble_eq_true rfl) d_Mo_fits_118 (fun H locs hO => ?_)
                              refine lv_if_eq (tgt := 137) hx hb d_Mo_fits_121 (by decide) (fun h => ?_) (fun h => ?_)
                              · have hT := qa_t hT h
                                refine lv_iconst (v := 0) hx hb d_Mo_fits_137 (by decide) ?_
                                exact ret (by decide) hT hO d_Mo_fits_138
                              · have hT := qa_f hT h
                                refine lv_aload_n hx hb d_Mo_fits_124 rfl (lv_at hl 0 rfl) ?_
                                refine qa_get S hK hO hi_Mo 0 (by decide) rfl rfl 6 (by decide) lf_Mo_22 rfl rfl d_Mo_fits_125 ?_
                                refine lv_iload_n hx hb d_Mo_fits_128 rfl (lv_at hl 2 rfl) ?_
                                obtain ⟨hi129, hT⟩ := qa_c hT
                                refine qa_iald (n := 10) S hK hO 5 (by decide) 0 (me_arr rfl) rfl hi129 d_Mo_fits_129 ?_
                                refine lv_if_ge (tgt := 137) hx hb d_Mo_fits_130 (by decide) (fun h => ?_) (fun h => ?_)
                                · have hT := qa_t hT h
                                  refine lv_iconst (v := 0) hx hb d_Mo_fits_137 (by decide) ?_
                                  exact ret (by decide) hT hO d_Mo_fits_138
                                · have hT := qa_f hT h
                                  exact b133 t118.2 _ _ _ (lv_sub hl [] rfl) hO hT
                          · have hT := qa_t hT h
                            exact b99 g x2 _ _ _ (lv_sub hl [2] rfl) hO hT
                      · have hT := qa_t hT h
                        exact b80 g x2 _ _ _ (lv_sub hl [2] rfl) hO hT
                  · have hT := qa_t hT h
                    exact b62 g x2 _ _ _ (lv_sub hl [2] rfl) hO hT
            · have hT := qa_t hT h
              exact b35 g x2 _ _ _ (lv_sub hl [0, 2] rfl) hO hT
