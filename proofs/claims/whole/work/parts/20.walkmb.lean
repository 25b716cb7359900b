def mf_Mo_code_87 (g : qa_St) (x1 : Int32) (s0 : Int32) (s1 : Int32) : qa_Re := (if s1 < 0 ∨ 10 ≤ s1.toNatClampNeg then none else ((mf_Mo_changed (qa_up g 7 s1.toNatClampNeg s0)).bind fun t89 => (if x1 < 0 ∨ 10 ≤ x1.toNatClampNeg then none else (some (((t89.2 7 x1.toNatClampNeg) - (1 : Int32)), t89.2)))))
def mf_Mo_code_75 (g : qa_St) (x1 : Int32) (x3 : Int32) (s0 : Int32) (s1 : Int32) : qa_Re := (if (s1 + s0) < 0 ∨ 200 ≤ (s1 + s0).toNatClampNeg then none else (if x1 < 0 ∨ 10 ≤ x1.toNatClampNeg then none else (mf_Mo_code_87 (qa_up g 9 (s1 + s0).toNatClampNeg x3) x1 (((qa_up g 9 (s1 + s0).toNatClampNeg x3) 7 x1.toNatClampNeg) + (1 : Int32)) x1)))
def mf_Mo_code (g : qa_St) (x1 : Int32) (x2 : Int32) (x3 : Int32) : qa_Re := ((mf_Mo_within g x1 ((g 0 4) - (1 : Int32))).bind fun t7 => (if t7.1 = 0 then (some ((-1 : Int32), t7.2)) else (if x1 < 0 ∨ 10 ≤ x1.toNatClampNeg then none else (if (t7.2 7 x1.toNatClampNeg) = (20 : Int32) then (some ((-1 : Int32), t7.2)) else ((mf_Mo_within t7.2 x2 (22 : Int32)).bind fun t27 => (if t27.1 = 0 then (some ((-1 : Int32), t27.2)) else ((mf_Mo_fits t27.2 x2 x3).bind fun t36 => (if t36.1 = 0 then (some ((-1 : Int32), t36.2)) else (if x1 < 0 ∨ 10 ≤ x1.toNatClampNeg then none else (if (((20 : Int32) * x1) + (t36.2 7 x1.toNatClampNeg)) < 0 ∨ 200 ≤ (((20 : Int32) * x1) + (t36.2 7 x1.toNatClampNeg)).toNatClampNeg then none else (if x1 < 0 ∨ 10 ≤ x1.toNatClampNeg then none else (mf_Mo_code_75 (qa_up t36.2 8 (((20 : Int32) * x1) + (t36.2 7 x1.toNatClampNeg)).toNatClampNeg x2) x1 x3 ((qa_up t36.2 8 (((20 : Int32) * x1) + (t36.2 7 x1.toNatClampNeg)).toNatClampNeg x2) 7 x1.toNatClampNeg) ((20 : Int32) * x1)))))))))))))
set_option maxHeartbeats 4000000 in
set_option maxRecDepth 100000 in
theorem mc_Mo_code (l : Launch) (D : va_G) (cI cJ cF cZ : ClassId) (ad : Nat → Nat) (g : qa_St) (x1 : Int32) (x2 : Int32) (x3 : Int32) : qa_Mi l y_Mo_code (qa_ws y_Mo_code b_Mo_code 4 (some .int)) (qa_rm 2 43) D (qa_ty cI cJ cF cZ) 33 ad (me_en cI cZ ad) [.ref (ad 0), .int x1, .int x2, .int x3] g (mf_Mo_code g x1 x2 x3) := by
  refine qa_meti (by decide) (Nat.le_of_ble_eq_true rfl) ?_
  intro p e s m args below meth c Q A T S hK hN hA hT ret ls hl hO
  have hx := S.1
  have hb := S.2.1
  have hl : lv_has ls 4 [(0, .ref (ad 0)), (1, .int x1), (2, .int x2), (3, .int x3)] := hl
  have b87 : ∀ (g : qa_St) (x1 : Int32) (s0 : Int32) (s1 : Int32) (ls : Array Slot) (H : Heap) (locs : List Loc), lv_has ls 4 [(0, .ref (ad 0)), (1, .int x1)] → qa_O D 33 ad (me_en cI cZ ad) A s.heap g H locs → mf_Mo_code_87 g x1 s0 s1 = some T → W p l e (qa_rm 2 43) s m args below meth c H locs 0 0 Q (F0 m 87 ls [.int s0, .int s1, .ref (ad 7)]) := by
    intro g x1 s0 s1 ls H locs hl hO hT
    unfold mf_Mo_code_87 at hT
    obtain ⟨hi87, hT⟩ := qa_c hT
    refine qa_iast (n := 10) S hK hO 7 (by decide) 0 (me_arr rfl) rfl hi87 d_Mo_code_87 (fun H locs hO => ?_)
    refine lv_aload_n hx hb d_Mo_code_88 rfl (lv_at hl 0 rfl) ?_
    obtain ⟨t89, ht89, hT⟩ := qa_b hT
    refine qa_Vv (As := []) (rest := []) (r := 0) S hK hN hA hO (mc_Mo_changed l D cI cJ cF cZ ad (qa_up g 7 s1.toNatClampNeg s0)) ht89 qy_Mo_changed lm_Mo_126 ⟨by decide, by decide⟩ (by decide) rfl rfl rfl rfl hl.1 rfl (Nat.le_of_ble_eq_true rfl) d_Mo_code_89 (fun H locs hO => ?_)
    refine lv_aload_n hx hb d_Mo_code_92 rfl (lv_at hl 0 rfl) ?_
    refine qa_get S hK hO hi_Mo 0 (by decide) rfl rfl 8 (by decide) lf_Mo_28 rfl rfl d_Mo_code_93 ?_
    refine lv_iload_n hx hb d_Mo_code_96 rfl (lv_at hl 1 rfl) ?_
    obtain ⟨hi97, hT⟩ := qa_c hT
    refine qa_iald (n := 10) S hK hO 7 (by decide) 0 (me_arr rfl) rfl hi97 d_Mo_code_97 ?_
    refine lv_iconst (v := 1) hx hb d_Mo_code_98 (by decide) ?_
    refine lv_isub hx hb d_Mo_code_99 ?_
    exact ret hT hO d_Mo_code_100
  have b75 : ∀ (g : qa_St) (x1 : Int32) (x3 : Int32) (s0 : Int32) (s1 : Int32) (ls : Array Slot) (H : Heap) (locs : List Loc), lv_has ls 4 [(0, .ref (ad 0)), (1, .int x1), (3, .int x3)] → qa_O D 33 ad (me_en cI cZ ad) A s.heap g H locs → mf_Mo_code_75 g x1 x3 s0 s1 = some T → W p l e (qa_rm 2 43) s m args below meth c H locs 0 0 Q (F0 m 75 ls [.int s0, .int s1, .ref (ad 9)]) := by
    intro g x1 x3 s0 s1 ls H locs hl hO hT
    unfold mf_Mo_code_75 at hT
    refine lv_iadd hx hb d_Mo_code_75 ?_
    refine lv_iload_n hx hb d_Mo_code_76 rfl (lv_at hl 2 rfl) ?_
    obtain ⟨hi77, hT⟩ := qa_c hT
    refine qa_iast (n := 200) S hK hO 9 (by decide) 0 (me_arr rfl) rfl hi77 d_Mo_code_77 (fun H locs hO => ?_)
    refine lv_aload_n hx hb d_Mo_code_78 rfl (lv_at hl 0 rfl) ?_
    refine qa_get S hK hO hi_Mo 0 (by decide) rfl rfl 8 (by decide) lf_Mo_28 rfl rfl d_Mo_code_79 ?_
    refine lv_iload_n hx hb d_Mo_code_82 rfl (lv_at hl 1 rfl) ?_
    refine lv_dup2_11 hx hb d_Mo_code_83 rfl rfl ?_
    obtain ⟨hi84, hT⟩ := qa_c hT
    refine qa_iald (n := 10) S hK hO 7 (by decide) 0 (me_arr rfl) rfl hi84 d_Mo_code_84 ?_
    refine lv_iconst (v := 1) hx hb d_Mo_code_85 (by decide) ?_
    refine lv_iadd hx hb d_Mo_code_86 ?_
    exact b87 (qa_up g 9 (s1 + s0).toNatClampNeg x3) x1 (((qa_up g 9 (s1 + s0).toNatClampNeg x3) 7 x1.toNatClampNeg) + (1 : Int32)) x1 _ _ _ (lv_sub hl [0, 1] rfl) hO hT
  unfold mf_Mo_code at hT
  refine lv_iload_n hx hb d_Mo_code_0 rfl (lv_at hl 1 rfl) ?_
  refine lv_aload_n hx hb d_Mo_code_1 rfl (lv_at hl 0 rfl) ?_
  refine qa_get S hK hO hi_Mo 0 (by decide) rfl rfl 4 (by decide) lf_Mo_129 rfl rfl d_Mo_code_2 ?_
  refine lv_iconst (v := 1) hx hb d_Mo_code_5 (by decide) ?_
  refine lv_isub hx hb d_Mo_code_6 ?_
  obtain ⟨t7, ht7, hT⟩ := qa_b hT
  refine qa_Si (As := [.int x1, .int ((g 0 4) - (1 : Int32))]) (rest := []) S hK hN hA hO (mc_Mo_within l D cI cJ cF cZ ad g x1 ((g 0 4) - (1 : Int32))) ht7 qy_Mo_within lm_Mo_118 ⟨by decide, by decide⟩ rfl hl.1 rfl (Nat.le_of_ble_eq_true rfl) d_Mo_code_7 (fun H locs hO => ?_)
  refine lv_if_eq (tgt := 42) hx hb d_Mo_code_10 (by decide) (fun h => ?_) (fun h => ?_)
  · have hT := qa_t hT h
    refine lv_iconst (v := -1) hx hb d_Mo_code_42 (by decide) ?_
    exact ret hT hO d_Mo_code_43
  · have hT := qa_f hT h
    refine lv_aload_n hx hb d_Mo_code_13 rfl (lv_at hl 0 rfl) ?_
    refine qa_get S hK hO hi_Mo 0 (by decide) rfl rfl 8 (by decide) lf_Mo_28 rfl rfl d_Mo_code_14 ?_
    refine lv_iload_n hx hb d_Mo_code_17 rfl (lv_at hl 1 rfl) ?_
    obtain ⟨hi18, hT⟩ := qa_c hT
    refine qa_iald (n := 10) S hK hO 7 (by decide) 0 (me_arr rfl) rfl hi18 d_Mo_code_18 ?_
    refine lv_bipush (v := 20) hx hb d_Mo_code_19 (by decide) ?_
    refine lv_icmp_eq (tgt := 42) hx hb d_Mo_code_21 (by decide) (fun h => ?_) (fun h => ?_)
    · have hT := qa_t hT h
      refine lv_iconst (v := -1) hx hb d_Mo_code_42 (by decide) ?_
      exact ret hT hO d_Mo_code_43
    · have hT := qa_f hT h
      refine lv_iload_n hx hb d_Mo_code_24 rfl (lv_at hl 2 rfl) ?_
      refine lv_bipush (v := 22) hx hb d_Mo_code_25 (by decide) ?_
      obtain ⟨t27, ht27, hT⟩ := qa_b hT
      refine qa_Si (As := [.int x2, .int (22 : Int32)]) (rest := []) S hK hN hA hO (mc_Mo_within l D cI cJ cF cZ ad t7.2 x2 (22 : Int32)) ht27 qy_Mo_within lm_Mo_118 ⟨by decide, by decide⟩ rfl hl.1 rfl (Nat.le_of_ble_eq_true rfl) d_Mo_code_27 (fun H locs hO => ?_)
      refine lv_if_eq (tgt := 42) hx hb d_Mo_code_30 (by decide) (fun h => ?_) (fun h => ?_)
      · have hT := qa_t hT h
        refine lv_iconst (v := -1) hx hb d_Mo_code_42 (by decide) ?_
        exact ret hT hO d_Mo_code_43
      · have hT := qa_f hT h
        refine lv_aload_n hx hb d_Mo_code_33 rfl (lv_at hl 0 rfl) ?_
        refine lv_iload_n hx hb d_Mo_code_34 rfl (lv_at hl 2 rfl) ?_
        refine lv_iload_n hx hb d_Mo_code_35 rfl (lv_at hl 3 rfl) ?_
        obtain ⟨t36, ht36, hT⟩ := qa_b hT
        refine qa_Vi (As := [.int x2, .int x3]) (rest := []) (r := 0) S hK hN hA hO (mc_Mo_fits l D cI cJ cF cZ ad t27.2 x2 x3) ht36 qy_Mo_fits lm_Mo_136 ⟨by decide, by decide⟩ (by decide) rfl rfl rfl rfl hl.1 rfl (Nat.le_of_ble_eq_true rfl) d_Mo_code_36 (fun H locs hO => ?_)
        refine lv_if_ne (tgt := 44) hx hb d_Mo_code_39 (by decide) (fun h => ?_) (fun h => ?_)
        · have hT := qa_f hT h
          refine lv_aload_n hx hb d_Mo_code_44 rfl (lv_at hl 0 rfl) ?_
          refine qa_get S hK hO hi_Mo 0 (by decide) rfl rfl 9 (by decide) lf_Mo_31 rfl rfl d_Mo_code_45 ?_
          refine lv_bipush (v := 20) hx hb d_Mo_code_48 (by decide) ?_
          refine lv_iload_n hx hb d_Mo_code_50 rfl (lv_at hl 1 rfl) ?_
          refine lv_imul hx hb d_Mo_code_51 ?_
          refine lv_aload_n hx hb d_Mo_code_52 rfl (lv_at hl 0 rfl) ?_
          refine qa_get S hK hO hi_Mo 0 (by decide) rfl rfl 8 (by decide) lf_Mo_28 rfl rfl d_Mo_code_53 ?_
          refine lv_iload_n hx hb d_Mo_code_56 rfl (lv_at hl 1 rfl) ?_
          obtain ⟨hi57, hT⟩ := qa_c hT
          refine qa_iald (n := 10) S hK hO 7 (by decide) 0 (me_arr rfl) rfl hi57 d_Mo_code_57 ?_
          refine lv_iadd hx hb d_Mo_code_58 ?_
          refine lv_iload_n hx hb d_Mo_code_59 rfl (lv_at hl 2 rfl) ?_
          obtain ⟨hi60, hT⟩ := qa_c hT
          refine qa_iast (n := 200) S hK hO 8 (by decide) 0 (me_arr rfl) rfl hi60 d_Mo_code_60 (fun H locs hO => ?_)
          refine lv_aload_n hx hb d_Mo_code_61 rfl (lv_at hl 0 rfl) ?_
          refine qa_get S hK hO hi_Mo 0 (by decide) rfl rfl 10 (by decide) lf_Mo_34 rfl rfl d_Mo_code_62 ?_
          refine lv_bipush (v := 20) hx hb d_Mo_code_65 (by decide) ?_
          refine lv_iload_n hx hb d_Mo_code_67 rfl (lv_at hl 1 rfl) ?_
          refine lv_imul hx hb d_Mo_code_68 ?_
          refine lv_aload_n hx hb d_Mo_code_69 rfl (lv_at hl 0 rfl) ?_
          refine qa_get S hK hO hi_Mo 0 (by decide) rfl rfl 8 (by decide) lf_Mo_28 rfl rfl d_Mo_code_70 ?_
          refine lv_iload_n hx hb d_Mo_code_73 rfl (lv_at hl 1 rfl) ?_
          obtain ⟨hi74, hT⟩ := qa_c hT
          refine qa_iald (n := 10) S hK hO 7 (by decide) 0 (me_arr rfl) rfl hi74 d_Mo_code_74 ?_
          exact b75 (qa_up t36.2 8 (((20 : Int32) * x1) + (t36.2 7 x1.toNatClampNeg)).toNatClampNeg x2) x1 x3 ((qa_up t36.2 8 (((20 : Int32) * x1) + (t36.2 7 x1.toNatClampNeg)).toNatClampNeg x2) 7 x1.toNatClampNeg) ((20 : Int32) * x1) _ _ _ (lv_sub hl [0, 1, 3] rfl) hO hT
        · have hT := qa_t hT h
          refine lv_iconst (v := -1) hx hb d_Mo_code_42 (by decide) ?_
          exact ret hT hO d_Mo_code_43
def mf_Mo_guard_97 (g : qa_St) : qa_Re := ((mf_Mo_changed g).bind fun t98 => (some ((1 : Int32), t98.2)))
def mf_Mo_guard_78 (g : qa_St) (x1 : Int32) (x4 : Int32) (x5 : Int32) : qa_Re := (if x5 < 0 ∨ 30 ≤ x5.toNatClampNeg then none else (if x1 < 0 ∨ 10 ≤ x1.toNatClampNeg then none else (if x1 < 0 ∨ 10 ≤ x1.toNatClampNeg then none else (mf_Mo_guard_97 (qa_up (qa_up g 13 x5.toNatClampNeg x4) 10 x1.toNatClampNeg (((qa_up g 13 x5.toNatClampNeg x4) 10 x1.toNatClampNeg) + (1 : Int32)))))))
def mf_Mo_guard (g : qa_St) (x1 : Int32) (x2 : Int32) (x3 : Int32) (x4 : Int32) : qa_Re := ((mf_Mo_within g x1 ((g 0 4) - (1 : Int32))).bind fun t7 => (if t7.1 = 0 then (some ((0 : Int32), t7.2)) else (if x1 < 0 ∨ 10 ≤ x1.toNatClampNeg then none else (if (t7.2 10 x1.toNatClampNeg) = (3 : Int32) then (some ((0 : Int32), t7.2)) else (if x2 < 0 then (some ((0 : Int32), t7.2)) else (if x3 ≤ x2 then (some ((0 : Int32), t7.2)) else (if (20 : Int32) < x3 then (some ((0 : Int32), t7.2)) else ((mf_Mo_within t7.2 x4 (19 : Int32)).bind fun t42 => (if t42.1 = 0 then (some ((0 : Int32), t42.2)) else (if x1 < 0 ∨ 10 ≤ x1.toNatClampNeg then none else (if (((3 : Int32) * x1) + (t42.2 10 x1.toNatClampNeg)) < 0 ∨ 30 ≤ (((3 : Int32) * x1) + (t42.2 10 x1.toNatClampNeg)).toNatClampNeg then none else (if (((3 : Int32) * x1) + (t42.2 10 x1.toNatClampNeg)) < 0 ∨ 30 ≤ (((3 : Int32) * x1) + (t42.2 10 x1.toNatClampNeg)).toNatClampNeg then none else (mf_Mo_guard_78 (qa_up (qa_up t42.2 11 (((3 : Int32) * x1) + (t42.2 10 x1.toNatClampNeg)).toNatClampNeg x2) 12 (((3 : Int32) * x1) + (t42.2 10 x1.toNatClampNeg)).toNatClampNeg x3) x1 x4 (((3 : Int32) * x1) + (t42.2 10 x1.toNatClampNeg)))))))))))))))
set_option maxHeartbeats 4000000 in
set_option maxRecDepth 100000 in
theorem mc_Mo_guard (l : Launch) (D : va_G) (cI cJ cF cZ : ClassId) (ad : Nat → Nat) (g : qa_St) (x1 : Int32) (x2 : Int32) (x3 : Int32) (x4 : Int32) : qa_Mi l y_Mo_guard (qa_ws y_Mo_guard b_Mo_guard 6 (some .boolean)) (qa_rm 1 21) D (qa_ty cI cJ cF cZ) 33 ad (me_en cI cZ ad) [.ref (ad 0), .int x1, .int x2, .int x3, .int x4] g (mf_Mo_guard g x1 x2 x3 x4) := by
  refine qa_metz (by decide) (Nat.le_of_ble_eq_true rfl) ?_
  intro p e s m args below meth c Q A T S hK hN hA hT ret ls hl hO
  have hx := S.1
  have hb := S.2.1
  have hl : lv_has ls 6 [(0, .ref (ad 0)), (1, .int x1), (2, .int x2), (3, .int x3), (4, .int x4)] := hl
  have b97 : ∀ (g : qa_St) (ls : Array Slot) (H : Heap) (locs : List Loc), lv_has ls 6 [(0, .ref (ad 0))] → qa_O D 33 ad (me_en cI cZ ad) A s.heap g H locs → mf_Mo_guard_97 g = some T → W p l e (qa_rm 1 21) s m args below meth c H locs 0 0 Q (F0 m 97 ls []) := by
    intro g ls H locs hl hO hT
    unfold mf_Mo_guard_97 at hT
    refine lv_aload_n hx hb d_Mo_guard_97 rfl (lv_at hl 0 rfl) ?_
    obtain ⟨t98, ht98, hT⟩ := qa_b hT
    refine qa_Vv (As := []) (rest := []) (r := 0) S hK hN hA hO (mc_Mo_changed l D cI cJ cF cZ ad g) ht98 qy_Mo_changed lm_Mo_126 ⟨by decide, by decide⟩ (by decide) rfl rfl rfl rfl hl.1 rfl (Nat.le_of_ble_eq_true rfl) d_Mo_guard_98 (fun H locs hO => ?_)
    refine lv_iconst (v := 1) hx hb d_Mo_guard_101 (by decide) ?_
    exact ret (by decide) hT hO d_Mo_guard_102
  have b78 : ∀ (g : qa_St) (x1 : Int32) (x4 : Int32) (x5 : Int32) (ls : Array Slot) (H : Heap) (locs : List Loc), lv_has ls 6 [(0, .ref (ad 0)), (1, .int x1), (4, .int x4), (5, .int x5)] → qa_O D 33 ad (me_en cI cZ ad) A s.heap g H locs → mf_Mo_guard_78 g x1 x4 x5 = some T → W p l e (qa_rm 1 21) s m args below meth c H locs 0 0 Q (F0 m 78 ls []) := by
    intro g x1 x4 x5 ls H locs hl hO hT
    unfold mf_Mo_guard_78 at hT
    refine lv_aload_n hx hb d_Mo_guard_78 rfl (lv_at hl 0 rfl) ?_
    refine qa_get S hK hO hi_Mo 0 (by decide) rfl rfl 14 (by decide) lf_Mo_46 rfl rfl d_Mo_guard_79 ?_
    refine lv_iload hx hb d_Mo_guard_82 (lv_at hl 3 rfl) ?_
    refine lv_iload hx hb d_Mo_guard_84 (lv_at hl 2 rfl) ?_
    obtain ⟨hi86, hT⟩ := qa_c hT
    refine qa_iast (n := 30) S hK hO 13 (by decide) 0 (me_arr rfl) rfl hi86 d_Mo_guard_86 (fun H locs hO => ?_)
    refine lv_aload_n hx hb d_Mo_guard_87 rfl (lv_at hl 0 rfl) ?_
    refine qa_get S hK hO hi_Mo 0 (by decide) rfl rfl 11 (by decide) lf_Mo_37 rfl rfl d_Mo_guard_88 ?_
    refine lv_iload_n hx hb d_Mo_guard_91 rfl (lv_at hl 1 rfl) ?_
    refine lv_dup2_11 hx hb d_Mo_guard_92 rfl rfl ?_
    obtain ⟨hi93, hT⟩ := qa_c hT
    refine qa_iald (n := 10) S hK hO 10 (by decide) 0 (me_arr rfl) rfl hi93 d_Mo_guard_93 ?_
    refine lv_iconst (v := 1) hx hb d_Mo_guard_94 (by decide) ?_
    refine lv_iadd hx hb d_Mo_guard_95 ?_
    obtain ⟨hi96, hT⟩ := qa_c hT
    refine qa_iast (n := 10) S hK hO 10 (by decide) 0 (me_arr rfl) rfl hi96 d_Mo_guard_96 (fun H locs hO => ?_)
    exact b97 (qa_up (qa_up g 13 x5.toNatClampNeg x4) 10 x1.toNatClampNeg (((qa_up g 13 x5.toNatClampNeg x4) 10 x1.toNatClampNeg) + (1 : Int32))) _ _ _ (lv_sub hl [0] rfl) hO hT
  unfold mf_Mo_guard at hT
  refine lv_iload_n hx hb d_Mo_guard_0 rfl (lv_at hl 1 rfl) ?_
  refine lv_aload_n hx hb d_Mo_guard_1 rfl (lv_at hl 0 rfl) ?_
  refine qa_get S hK hO hi_Mo 0 (by decide) rfl rfl 4 (by decide) lf_Mo_129 rfl rfl d_Mo_guard_2 ?_
  refine lv_iconst (v := 1) hx hb d_Mo_guard_5 (by decide) ?_
  refine lv_isub hx hb d_Mo_guard_6 ?_
  obtain ⟨t7, ht7, hT⟩ := qa_b hT
  refine qa_Si (As := [.int x1, .int ((g 0 4) - (1 : Int32))]) (rest := []) S hK hN hA hO (mc_Mo_within l D cI cJ cF cZ ad g x1 ((g 0 4) - (1 : Int32))) ht7 qy_Mo_within lm_Mo_118 ⟨by decide, by decide⟩ rfl hl.1 rfl (Nat.le_of_ble_eq_true rfl) d_Mo_guard_7 (fun H locs hO => ?_)
  refine lv_if_eq (tgt := 48) hx hb d_Mo_guard_10 (by decide) (fun h => ?_) (fun h => ?_)
  · have hT := qa_t hT h
    refine lv_iconst (v := 0) hx hb d_Mo_guard_48 (by decide) ?_
    exact ret (by decide) hT hO d_Mo_guard_49
  · have hT := qa_f hT h
    refine lv_aload_n hx hb d_Mo_guard_13 rfl (lv_at hl 0 rfl) ?_
    refine qa_get S hK hO hi_Mo 0 (by decide) rfl rfl 11 (by decide) lf_Mo_37 rfl rfl d_Mo_guard_14 ?_
    refine lv_iload_n hx hb d_Mo_guard_17 rfl (lv_at hl 1 rfl) ?_
    obtain ⟨hi18, hT⟩ := qa_c hT
    refine qa_iald (n := 10) S hK hO 10 (by decide) 0 (me_arr rfl) rfl hi18 d_Mo_guard_18 ?_
    refine lv_iconst (v := 3) hx hb d_Mo_guard_19 (by decide) ?_
    refine lv_icmp_eq (tgt := 48) hx hb d_Mo_guard_20 (by decide) (fun h => ?_) (fun h => ?_)
    · have hT := qa_t hT h
      refine lv_iconst (v := 0) hx hb d_Mo_guard_48 (by decide) ?_
      exact ret (by decide) hT hO d_Mo_guard_49
    · have hT := qa_f hT h
      refine lv_iload_n hx hb d_Mo_guard_23 rfl (lv_at hl 2 rfl) ?_
      refine lv_if_lt (tgt := 48) hx hb d_Mo_guard_24 (by decide) (fun h => ?_) (fun h => ?_)
      · have hT := qa_t hT h
        refine lv_iconst (v := 0) hx hb d_Mo_guard_48 (by decide) ?_
        exact ret (by decide) hT hO d_Mo_guard_49
      · have hT := qa_f hT h
        refine lv_iload_n hx hb d_Mo_guard_27 rfl (lv_at hl 2 rfl) ?_
        refine lv_iload_n hx hb d_Mo_guard_28 rfl (lv_at hl 3 rfl) ?_
        refine lv_icmp_ge (tgt := 48) hx hb d_Mo_guard_29 (by decide) (fun h => ?_) (fun h => ?_)
        · have hT := qa_t hT h
          refine lv_iconst (v := 0) hx hb d_Mo_guard_48 (by decide) ?_
          exact ret (by decide) hT hO d_Mo_guard_49
        · have hT := qa_f hT h
          refine lv_iload_n hx hb d_Mo_guard_32 rfl (lv_at hl 3 rfl) ?_
          refine lv_bipush (v := 20) hx hb d_Mo_guard_33 (by decide) ?_
          refine lv_icmp_gt (tgt := 48) hx hb d_Mo_guard_35 (by decide) (fun h => ?_) (fun h => ?_)
          · have hT := qa_t hT h
            refine lv_iconst (v := 0) hx hb d_Mo_guard_48 (by decide) ?_
            exact ret (by decide) hT hO d_Mo_guard_49
          · have hT := qa_f hT h
            refine lv_iload hx hb d_Mo_guard_38 (lv_at hl 4 rfl) ?_
            refine lv_bipush (v := 19) hx hb d_Mo_guard_40 (by decide) ?_
            obtain ⟨t42, ht42, hT⟩ := qa_b hT
            refine qa_Si (As := [.int x4, .int (19 : Int32)]) (rest := []) S hK hN hA hO (mc_Mo_within l D cI cJ cF cZ ad t7.2 x4 (19 : Int32)) ht42 qy_Mo_within lm_Mo_118 ⟨by decide, by decide⟩ rfl hl.1 rfl (Nat.le_of_ble_eq_true rfl) d_Mo_guard_42 (fun H locs hO => ?_)
            refine lv_if_ne (tgt := 50) hx hb d_Mo_guard_45 (by decide) (fun h => ?_) (fun h => ?_)
            · have hT := qa_f hT h
              refine lv_iconst (v := 3) hx hb d_Mo_guard_50 (by decide) ?_
              refine lv_iload_n hx hb d_Mo_guard_51 rfl (lv_at hl 1 rfl) ?_
              refine lv_imul hx hb d_Mo_guard_52 ?_
              refine lv_aload_n hx hb d_Mo_guard_53 rfl (lv_at hl 0 rfl) ?_
              refine qa_get S hK hO hi_Mo 0 (by decide) rfl rfl 11 (by decide) lf_Mo_37 rfl rfl d_Mo_guard_54 ?_
              refine lv_iload_n hx hb d_Mo_guard_57 rfl (lv_at hl 1 rfl) ?_
              obtain ⟨hi58, hT⟩ := qa_c hT
              refine qa_iald (n := 10) S hK hO 10 (by decide) 0 (me_arr rfl) rfl hi58 d_Mo_guard_58 ?_
              refine lv_iadd hx hb d_Mo_guard_59 ?_
              refine lv_istore (lv' := [(5, .int (((3 : Int32) * x1) + (t42.2 10 x1.toNatClampNeg))), (0, .ref (ad 0)), (1, .int x1), (2, .int x2), (3, .int x3), (4, .int x4)]) hx hb d_Mo_guard_60 hl (by decide) rfl (fun ls hl => ?_)
              refine lv_aload_n hx hb d_Mo_guard_62 rfl (lv_at hl 1 rfl) ?_
              refine qa_get S hK hO hi_Mo 0 (by decide) rfl rfl 12 (by decide) lf_Mo_40 rfl rfl d_Mo_guard_63 ?_
              refine lv_iload hx hb d_Mo_guard_66 (lv_at hl 0 rfl) ?_
              refine lv_iload_n hx hb d_Mo_guard_68 rfl (lv_at hl 3 rfl) ?_
              obtain ⟨hi69, hT⟩ := qa_c hT
              refine qa_iast (n := 30) S hK hO 11 (by decide) 0 (me_arr rfl) rfl hi69 d_Mo_guard_69 (fun H locs hO => ?_)
              refine lv_aload_n hx hb d_Mo_guard_70 rfl (lv_at hl 1 rfl) ?_
              refine qa_get S hK hO hi_Mo 0 (by decide) rfl rfl 13 (by decide) lf_Mo_43 rfl rfl d_Mo_guard_71 ?_
              refine lv_iload hx hb d_Mo_guard_74 (lv_at hl 0 rfl) ?_
              refine lv_iload_n hx hb d_Mo_guard_76 rfl (lv_at hl 4 rfl) ?_
              obtain ⟨hi77, hT⟩ := qa_c hT
              refine qa_iast (n := 30) S hK hO 12 (by decide) 0 (me_arr rfl) rfl hi77 d_Mo_guard_77 (fun H locs hO => ?_)
              exact b78 (qa_up (qa_up t42.2 11 (((3 : Int32) * x1) + (t42.2 10 x1.toNatClampNeg)).toNatClampNeg x2) 12 (((3 : Int32) * x1) + (t42.2 10 x1.toNatClampNeg)).toNatClampNeg x3) x1 x4 (((3 : Int32) * x1) + (t42.2 10 x1.toNatClampNeg)) _ _ _ (lv_sub hl [1, 2, 5, 0] rfl) hO hT
            · have hT := qa_t hT h
              refine lv_iconst (v := 0) hx hb d_Mo_guard_48 (by decide) ?_
              exact ret (by decide) hT hO d_Mo_guard_49
def mf_Mo_answer_28 : Nat → qa_St → Int32 → Int32 → Int32 → qa_Re
  | 0, _, _, _, _ => none
  | n + 1, g, x2, x3, x4 => (if x4 < 0 then (some (x3, g)) else (if 0 ≤ x3 then (some (x3, g)) else ((mf_Mo_ownMethod g x4 x2).bind fun t41 => (if x4 < 0 ∨ 6 ≤ x4.toNatClampNeg then none else ((mf_Mo_answer_28 n) t41.2 x2 t41.1 (t41.2 1 x4.toNatClampNeg))))))
def mf_Mo_answer (g : qa_St) (x1 : Int32) (x2 : Int32) : qa_Re := ((mf_Mo_within g x1 ((g 0 0) - (1 : Int32))).bind fun t7 => (if t7.1 = 0 then (some ((-1 : Int32), t7.2)) else ((mf_Mo_within t7.2 x2 (3 : Int32)).bind fun t15 => (if t15.1 = 0 then (some ((-1 : Int32), t15.2)) else (mf_Mo_answer_28 4096 t15.2 x2 (-1 : Int32) x1)))))
set_option maxHeartbeats 4000000 in
set_option maxRecDepth 100000 in
theorem mc_Mo_answer (l : Launch) (D : va_G) (cI cJ cF cZ : ClassId) (ad : Nat → Nat) (g : qa_St) (x1 : Int32) (x2 : Int32) : qa_Mi l y_Mo_answer (qa_ws y_Mo_answer b_Mo_answer 5 (some .int)) (qa_rm 1 23) D (qa_ty cI cJ cF cZ) 33 ad (me_en cI cZ ad) [.ref (ad 0), .int x1, .int x2] g (mf_Mo_answer g x1 x2) := by
  refine qa_meti (by decide) (Nat.le_of_ble_eq_true rfl) ?_
  intro p e s m args below meth c Q A T S hK hN hA hT ret ls hl hO
  have hx := S.1
  have hb := S.2.1
  have hl : lv_has ls 5 [(0, .ref (ad 0)), (1, .int x1), (2, .int x2)] := hl
  have b28 : ∀ (n : Nat), ∀ (g : qa_St) (x2 : Int32) (x3 : Int32) (x4 : Int32) (ls : Array Slot) (H : Heap) (locs : List Loc), lv_has ls 5 [(0, .ref (ad 0)), (2, .int x2), (3, .int x3), (4, .int x4)] → qa_O D 33 ad (me_en cI cZ ad) A s.heap g H locs → mf_Mo_answer_28 n g x2 x3 x4 = some T → W p l e (qa_rm 1 23) s m args below meth c H locs 0 0 Q (F0 m 28 ls []) := by
    intro n
    induction n with
    | zero => intro g x2 x3 x4 ls H locs hl hO hT; rw [mf_Mo_answer_28] at hT; cases hT
    | succ n ih =>
      intro g x2 x3 x4 ls H locs hl hO hT
      rw [mf_Mo_answer_28] at hT
      refine lv_iload hx hb d_Mo_answer_28 (lv_at hl 3 rfl) ?_
      refine lv_if_lt (tgt := 57) hx hb d_Mo_answer_30 (by decide) (fun h => ?_) (fun h => ?_)
      · have hT := qa_t hT h
        refine lv_iload_n hx hb d_Mo_answer_57 rfl (lv_at hl 2 rfl) ?_
        exact ret hT hO d_Mo_answer_58
      · have hT := qa_f hT h
        refine lv_iload_n hx hb d_Mo_answer_33 rfl (lv_at hl 2 rfl) ?_
        refine lv_if_ge (tgt := 57) hx hb d_Mo_answer_34 (by decide) (fun h => ?_) (fun h => ?_)
        · have hT := qa_t hT h
          refine lv_iload_n hx hb d_Mo_answer_57 rfl (lv_at hl 2 rfl) ?_
          exact ret hT hO d_Mo_answer_58
        · have hT := qa_f hT h
          refine lv_aload_n hx hb d_Mo_answer_37 rfl (lv_at hl 0 rfl) ?_
          refine lv_iload hx hb d_Mo_answer_38 (lv_at hl 3 rfl) ?_
          refine lv_iload_n hx hb d_Mo_answer_40 rfl (lv_at hl 1 rfl) ?_
          obtain ⟨t41, ht41, hT⟩ := qa_b hT
          refine qa_Vi (As := [.int x4, .int x2]) (rest := []) (r := 0) S hK hN hA hO (mc_Mo_ownMethod l D cI cJ cF cZ ad g x4 x2) ht41 qy_Mo_ownMethod lm_Mo_132 ⟨by decide, by decide⟩ (by decide) rfl rfl rfl rfl hl.1 rfl (Nat.le_of_ble_eq_true rfl) d_Mo_answer_41 (fun H locs hO => ?_)
          refine lv_istore_n (lv' := [(3, .int t41.1), (0, .ref (ad 0)), (2, .int x2), (4, .int x4)]) hx hb d_Mo_answer_44 rfl hl (by decide) rfl (fun ls hl => ?_)
          refine lv_aload_n hx hb d_Mo_answer_45 rfl (lv_at hl 1 rfl) ?_
          refine qa_get S hK hO hi_Mo 0 (by decide) rfl rfl 1 (by decide) lf_Mo_7 rfl rfl d_Mo_answer_46 ?_
          refine lv_iload hx hb d_Mo_answer_49 (lv_at hl 3 rfl) ?_
          obtain ⟨hi51, hT⟩ := qa_c hT
          refine qa_iald (n := 6) S hK hO 1 (by decide) 0 (me_arr rfl) rfl hi51 d_Mo_answer_51 ?_
          refine lv_istore (lv' := [(4, .int (t41.2 1 x4.toNatClampNeg)), (3, .int t41.1), (0, .ref (ad 0)), (2, .int x2)]) hx hb d_Mo_answer_52 hl (by decide) rfl (fun ls hl => ?_)
          refine lv_goto (tgt := 28) hx hb d_Mo_answer_54 (by decide) ?_
          exact ih t41.2 x2 t41.1 (t41.2 1 x4.toNatClampNeg) _ _ _ (lv_sub hl [2, 3, 1, 0] rfl) hO hT
  unfold mf_Mo_answer at hT
  refine lv_iload_n hx hb d_Mo_answer_0 rfl (lv_at hl 1 rfl) ?_
  refine lv_aload_n hx hb d_Mo_answer_1 rfl (lv_at hl 0 rfl) ?_
  refine qa_get S hK hO hi_Mo 0 (by decide) rfl rfl 0 (by decide) lf_Mo_114 rfl rfl d_Mo_answer_2 ?_
  refine lv_iconst (v := 1) hx hb d_Mo_answer_5 (by decide) ?_
  refine lv_isub hx hb d_Mo_answer_6 ?_
  obtain ⟨t7, ht7, hT⟩ := qa_b hT
  refine qa_Si (As := [.int x1, .int ((g 0 0) - (1 : Int32))]) (rest := []) S hK hN hA hO (mc_Mo_within l D cI cJ cF cZ ad g x1 ((g 0 0) - (1 : Int32))) ht7 qy_Mo_within lm_Mo_118 ⟨by decide, by decide⟩ rfl hl.1 rfl (Nat.le_of_ble_eq_true rfl) d_Mo_answer_7 (fun H locs hO => ?_)
  refine lv_if_eq (tgt := 21) hx hb d_Mo_answer_10 (by decide) (fun h => ?_) (fun h => ?_)
  · have hT := qa_t hT h
    refine lv_iconst (v := -1) hx hb d_Mo_answer_21 (by decide) ?_
    exact ret hT hO d_Mo_answer_22
  · have hT := qa_f hT h
    refine lv_iload_n hx hb d_Mo_answer_13 rfl (lv_at hl 2 rfl) ?_
    refine lv_iconst (v := 3) hx hb d_Mo_answer_14 (by decide) ?_
    obtain ⟨t15, ht15, hT⟩ := qa_b hT
    refine qa_Si (As := [.int x2, .int (3 : Int32)]) (rest := []) S hK hN hA hO (mc_Mo_within l D cI cJ cF cZ ad t7.2 x2 (3 : Int32)) ht15 qy_Mo_within lm_Mo_118 ⟨by decide, by decide⟩ rfl hl.1 rfl (Nat.le_of_ble_eq_true rfl) d_Mo_answer_15 (fun H locs hO => ?_)
    refine lv_if_ne (tgt := 23) hx hb d_Mo_answer_18 (by decide) (fun h => ?_) (fun h => ?_)
    · have hT := qa_f hT h
      refine lv_iconst (v := -1) hx hb d_Mo_answer_23 (by decide) ?_
      refine lv_istore_n (lv' := [(3, .int (-1 : Int32)), (0, .ref (ad 0)), (1, .int x1), (2, .int x2)]) hx hb d_Mo_answer_24 rfl hl (by decide) rfl (fun ls hl => ?_)
      refine lv_iload_n hx hb d_Mo_answer_25 rfl (lv_at hl 2 rfl) ?_
      refine lv_istore (lv' := [(4, .int x1), (3, .int (-1 : Int32)), (0, .ref (ad 0)), (1, .int x1), (2, .int x2)]) hx hb d_Mo_answer_26 hl (by decide) rfl (fun ls hl => ?_)
      exact b28 4096 t15.2 x2 (-1 : Int32) x1 _ _ _ (lv_sub hl [2, 4, 1, 0] rfl) hO hT
    · have hT := qa_t hT h
      refine lv_iconst (v := -1) hx hb d_Mo_answer_21 (by decide) ?_
      exact ret hT hO d_Mo_answer_22
def mf_Mo_maker_30 (k5 : qa_St → Int32 → Int32 → Int32 → qa_Re) (g : qa_St) (x2 : Int32) (x4 : Int32) (s0 : Int32) : qa_Re := (if x4 < 0 ∨ 6 ≤ x4.toNatClampNeg then none else (k5 g x2 s0 (g 1 x4.toNatClampNeg)))
def mf_Mo_maker_5 : Nat → qa_St → Int32 → Int32 → Int32 → qa_Re
  | 0, _, _, _, _ => none
  | n + 1, g, x2, x3, x4 => (if x4 < 0 then (some (x3, g)) else ((mf_Mo_ownMethod g x4 x2).bind fun t14 => (if t14.1 < 0 then (mf_Mo_maker_30 (mf_Mo_maker_5 n) t14.2 x2 x4 x3) else (mf_Mo_maker_30 (mf_Mo_maker_5 n) t14.2 x2 x4 t14.1))))
def mf_Mo_maker (g : qa_St) (x1 : Int32) (x2 : Int32) : qa_Re := (mf_Mo_maker_5 4096 g x2 (-1 : Int32) x1)
set_option maxHeartbeats 4000000 in
set_option maxRecDepth 100000 in
theorem mc_Mo_maker (l : Launch) (D : va_G) (cI cJ cF cZ : ClassId) (ad : Nat → Nat) (g : qa_St) (x1 : Int32) (x2 : Int32) : qa_Mi l y_Mo_maker (qa_ws y_Mo_maker b_Mo_maker 6 (some .int)) (qa_rm 1 23) D (qa_ty cI cJ cF cZ) 33 ad (me_en cI cZ ad) [.ref (ad 0), .int x1, .int x2] g (mf_Mo_maker g x1 x2) := by
  refine qa_meti (by decide) (Nat.le_of_ble_eq_true rfl) ?_
  intro p e s m args below meth c Q A T S hK hN hA hT ret ls hl hO
  have hx := S.1
  have hb := S.2.1
  have hl : lv_has ls 6 [(0, .ref (ad 0)), (1, .int x1), (2, .int x2)] := hl
  have b30 : ∀ (k5 : qa_St → Int32 → Int32 → Int32 → qa_Re) (hk5 : ∀ (g : qa_St) (x2 : Int32) (x3 : Int32) (x4 : Int32) (ls : Array Slot) (H : Heap) (locs : List Loc), lv_has ls 6 [(0, .ref (ad 0)), (2, .int x2), (3, .int x3), (4, .int x4)] → qa_O D 33 ad (me_en cI cZ ad) A s.heap g H locs → k5 g x2 x3 x4 = some T → W p l e (qa_rm 1 23) s m args below meth c H locs 0 0 Q (F0 m 5 ls [])), ∀ (g : qa_St) (x2 : Int32) (x4 : Int32) (s0 : Int32) (ls : Array Slot) (H : Heap) (locs : List Loc), lv_has ls 6 [(0, .ref (ad 0)), (2, .int x2), (4, .int x4)] → qa_O D 33 ad (me_en cI cZ ad) A s.heap g H locs → mf_Mo_maker_30 k5 g x2 x4 s0 = some T → W p l e (qa_rm 1 23) s m args below meth c H locs 0 0 Q (F0 m 30 ls [.int s0]) := by
    intro k5 hk5
    intro g x2 x4 s0 ls H locs hl hO hT
    unfold mf_Mo_maker_30 at hT
    refine lv_istore_n (lv' := [(3, .int s0), (0, .ref (ad 0)), (2, .int x2), (4, .int x4)]) hx hb d_Mo_maker_30 rfl hl (by decide) rfl (fun ls hl => ?_)
    refine lv_aload_n hx hb d_Mo_maker_31 rfl (lv_at hl 1 rfl) ?_
    refine qa_get S hK hO hi_Mo 0 (by decide) rfl rfl 1 (by decide) lf_Mo_7 rfl rfl d_Mo_maker_32 ?_
    refine lv_iload hx hb d_Mo_maker_35 (lv_at hl 3 rfl) ?_
    obtain ⟨hi37, hT⟩ := qa_c hT
    refine qa_iald (n := 6) S hK hO 1 (by decide) 0 (me_arr rfl) rfl hi37 d_Mo_maker_37 ?_
    refine lv_istore (lv' := [(4, .int (g 1 x4.toNatClampNeg)), (3, .int s0), (0, .ref (ad 0)), (2, .int x2)]) hx hb d_Mo_maker_38 hl (by decide) rfl (fun ls hl => ?_)
    refine lv_goto (tgt := 5) hx hb d_Mo_maker_40 (by decide) ?_
    exact hk5 g x2 s0 (g 1 x4.toNatClampNeg) _ _ _ (lv_sub hl [2, 3, 1, 0] rfl) hO hT
  have b5 : ∀ (n : Nat), ∀ (g : qa_St) (x2 : Int32) (x3 : Int32) (x4 : Int32) (ls : Array Slot) (H : Heap) (locs : List Loc), lv_has ls 6 [(0, .ref (ad 0)), (2, .int x2), (3, .int x3), (4, .int x4)] → qa_O D 33 ad (me_en cI cZ ad) A s.heap g H locs → mf_Mo_maker_5 n g x2 x3 x4 = some T → W p l e (qa_rm 1 23) s m args below meth c H locs 0 0 Q (F0 m 5 ls []) := by
    intro n
    induction n with
    | zero => intro g x2 x3 x4 ls H locs hl hO hT; rw [mf_Mo_maker_5] at hT; cases hT
    | succ n ih =>
      intro g x2 x3 x4 ls H locs hl hO hT
      rw [mf_Mo_maker_5] at hT
      refine lv_iload hx hb d_Mo_maker_5 (lv_at hl 3 rfl) ?_
      refine lv_if_lt (tgt := 43) hx hb d_Mo_maker_7 (by decide) (fun h => ?_) (fun h => ?_)
      · have hT := qa_t hT h
        refine lv_iload_n hx hb d_Mo_maker_43 rfl (lv_at hl 2 rfl) ?_
        exact ret hT hO d_Mo_maker_44
      · have hT := qa_f hT h
        refine lv_aload_n hx hb d_Mo_maker_10 rfl (lv_at hl 0 rfl) ?_
        refine lv_iload hx hb d_Mo_maker_11 (lv_at hl 3 rfl) ?_
        refine lv_iload_n hx hb d_Mo_maker_13 rfl (lv_at hl 1 rfl) ?_
        obtain ⟨t14, ht14, hT⟩ := qa_b hT
        refine qa_Vi (As := [.int x4, .int x2]) (rest := []) (r := 0) S hK hN hA hO (mc_Mo_ownMethod l D cI cJ cF cZ ad g x4 x2) ht14 qy_Mo_ownMethod lm_Mo_132 ⟨by decide, by decide⟩ (by decide) rfl rfl rfl rfl hl.1 rfl (Nat.le_of_ble_eq_true rfl) d_Mo_maker_14 (fun H locs hO => ?_)
        refine lv_istore (lv' := [(5, .int t14.1), (0, .ref (ad 0)), (2, .int x2), (3, .int x3), (4, .int x4)]) hx hb d_Mo_maker_17 hl (by decide) rfl (fun ls hl => ?_)
        refine lv_iload hx hb d_Mo_maker_19 (lv_at hl 0 rfl) ?_
        refine lv_if_lt (tgt := 29) hx hb d_Mo_maker_21 (by decide) (fun h => ?_) (fun h => ?_)
        · have hT := qa_t hT h
          refine lv_iload_n hx hb d_Mo_maker_29 rfl (lv_at hl 3 rfl) ?_
          exact b30 (mf_Mo_maker_5 n) ih t14.2 x2 x4 x3 _ _ _ (lv_sub hl [1, 2, 4] rfl) hO hT
        · have hT := qa_f hT h
          refine lv_iload hx hb d_Mo_maker_24 (lv_at hl 0 rfl) ?_
          refine lv_goto (tgt := 30) hx hb d_Mo_maker_26 (by decide) ?_
          exact b30 (mf_Mo_maker_5 n) ih t14.2 x2 x4 t14.1 _ _ _ (lv_sub hl [1, 2, 4] rfl) hO hT
  unfold mf_Mo_maker at hT
  refine lv_iconst (v := -1) hx hb d_Mo_maker_0 (by decide) ?_
  refine lv_istore_n (lv' := [(3, .int (-1 : Int32)), (0, .ref (ad 0)), (1, .int x1), (2, .int x2)]) hx hb d_Mo_maker_1 rfl hl (by decide) rfl (fun ls hl => ?_)
  refine lv_iload_n hx hb d_Mo_maker_2 rfl (lv_at hl 2 rfl) ?_
  refine lv_istore (lv' := [(4, .int x1), (3, .int (-1 : Int32)), (0, .ref (ad 0)), (1, .int x1), (2, .int x2)]) hx hb d_Mo_maker_3 hl (by decide) rfl (fun ls hl => ?_)
  exact b5 4096 g x2 (-1 : Int32) x1 _ _ _ (lv_sub hl [2, 4, 1, 0] rfl) hO hT
def mf_Mo_isOf_34 (g : qa_St) (x2 : Int32) (x3 : Int32) : qa_Re := (if x3 = x2 then (some ((1 : Int32), g)) else (some ((0 : Int32), g)))
def mf_Mo_isOf_5 : Nat → qa_St → Int32 → Int32 → Int32 → qa_Re
  | 0, _, _, _, _ => none
  | n + 1, g, x2, x3, x4 => (if (6 : Int32) ≤ x4 then (mf_Mo_isOf_34 g x2 x3) else (if x3 < 0 then (mf_Mo_isOf_34 g x2 x3) else (if x3 = x2 then (mf_Mo_isOf_34 g x2 x3) else (if x3 < 0 ∨ 6 ≤ x3.toNatClampNeg then none else ((mf_Mo_isOf_5 n) g x2 (g 1 x3.toNatClampNeg) (x4 + 1))))))
def mf_Mo_isOf (g : qa_St) (x1 : Int32) (x2 : Int32) : qa_Re := (mf_Mo_isOf_5 4096 g x2 x1 (0 : Int32))
set_option maxHeartbeats 4000000 in
set_option maxRecDepth 100000 in
theorem mc_Mo_isOf (l : Launch) (D : va_G) (cI cJ cF cZ : ClassId) (ad : Nat → Nat) (g : qa_St) (x1 : Int32) (x2 : Int32) : qa_Mi l y_Mo_isOf (qa_ws y_Mo_isOf b_Mo_isOf 5 (some .boolean)) (qa_rm 0 0) D (qa_ty cI cJ cF cZ) 33 ad (me_en cI cZ ad) [.ref (ad 0), .int x1, .int x2] g (mf_Mo_isOf g x1 x2) := by
  refine qa_metz (by decide) (Nat.le_of_ble_eq_true rfl) ?_
  intro p e s m args below meth c Q A T S hK hN hA hT ret ls hl hO
  have hx := S.1
  have hb := S.2.1
  have hl : lv_has ls 5 [(0, .ref (ad 0)), (1, .int x1), (2, .int x2)] := hl
  have b34 : ∀ (g : qa_St) (x2 : Int32) (x3 : Int32) (ls : Array Slot) (H : Heap) (locs : List Loc), lv_has ls 5 [(2, .int x2), (3, .int x3)] → qa_O D 33 ad (me_en cI cZ ad) A s.heap g H locs → mf_Mo_isOf_34 g x2 x3 = some T → W p l e (qa_rm 0 0) s m args below meth c H locs 0 0 Q (F0 m 34 ls []) := by
    intro g x2 x3 ls H locs hl hO hT
    unfold mf_Mo_isOf_34 at hT
    refine lv_iload_n hx hb d_Mo_isOf_34 rfl (lv_at hl 1 rfl) ?_
    refine lv_iload_n hx hb d_Mo_isOf_35 rfl (lv_at hl 0 rfl) ?_
    refine lv_icmp_ne (tgt := 43) hx hb d_Mo_isOf_36 (by decide) (fun h => ?_) (fun h => ?_)
    · have hT := qa_f hT h
      refine lv_iconst (v := 0) hx hb d_Mo_isOf_43 (by decide) ?_
      exact ret (by decide) hT hO d_Mo_isOf_44
    · have hT := qa_t hT h
      refine lv_iconst (v := 1) hx hb d_Mo_isOf_39 (by decide) ?_
      refine lv_goto (tgt := 44) hx hb d_Mo_isOf_40 (by decide) ?_
      exact ret (by decide) hT hO d_Mo_isOf_44
  have b5 : ∀ (n : Nat), ∀ (g : qa_St) (x2 : Int32) (x3 : Int32) (x4 : Int32) (ls : Array Slot) (H : Heap) (locs : List Loc), lv_has ls 5 [(0, .ref (ad 0)), (2, .int x2), (3, .int x3), (4, .int x4)] → qa_O D 33 ad (me_en cI cZ ad) A s.heap g H locs → mf_Mo_isOf_5 n g x2 x3 x4 = some T → W p l e (qa_rm 0 0) s m args below meth c H locs 0 0 Q (F0 m 5 ls []) := by
    intro n
    induction n with
    | zero => intro g x2 x3 x4 ls H locs hl hO hT; rw [mf_Mo_isOf_5] at hT; cases hT
    | succ n ih =>
      intro g x2 x3 x4 ls H locs hl hO hT
      rw [mf_Mo_isOf_5] at hT
      refine lv_iload hx hb d_Mo_isOf_5 (lv_at hl 3 rfl) ?_
      refine lv_bipush (v := 6) hx hb d_Mo_isOf_7 (by decide) ?_
      refine lv_icmp_ge (tgt := 34) hx hb d_Mo_isOf_9 (by decide) (fun h => ?_) (fun h => ?_)
      · have hT := qa_t hT h
        exact b34 g x2 x3 _ _ _ (lv_sub hl [1, 2] rfl) hO hT
      · have hT := qa_f hT h
        refine lv_iload_n hx hb d_Mo_isOf_12 rfl (lv_at hl 2 rfl) ?_
        refine lv_if_lt (tgt := 34) hx hb d_Mo_isOf_13 (by decide) (fun h => ?_) (fun h => ?_)
        · have hT := qa_t hT h
          exact b34 g x2 x3 _ _ _ (lv_sub hl [1, 2] rfl) hO hT
        · have hT := qa_f hT h
          refine lv_iload_n hx hb d_Mo_isOf_16 rfl (lv_at hl 2 rfl) ?_
          refine lv_iload_n hx hb d_Mo_isOf_17 rfl (lv_at hl 1 rfl) ?_
          refine lv_icmp_eq (tgt := 34) hx hb d_Mo_isOf_18 (by decide) (fun h => ?_) (fun h => ?_)
          · have hT := qa_t hT h
            exact b34 g x2 x3 _ _ _ (lv_sub hl [1, 2] rfl) hO hT
          · have hT := qa_f hT h
            refine lv_aload_n hx hb d_Mo_isOf_21 rfl (lv_at hl 0 rfl) ?_
            refine qa_get S hK hO hi_Mo 0 (by decide) rfl rfl 1 (by decide) lf_Mo_7 rfl rfl d_Mo_isOf_22 ?_
            refine lv_iload_n hx hb d_Mo_isOf_25 rfl (lv_at hl 2 rfl) ?_
            obtain ⟨hi26, hT⟩ := qa_c hT
            refine qa_iald (n := 6) S hK hO 1 (by decide) 0 (me_arr rfl) rfl hi26 d_Mo_isOf_26 ?_
            refine lv_istore_n (lv' := [(3, .int (g 1 x3.toNatClampNeg)), (0, .ref (ad 0)), (2, .int x2), (4, .int x4)]) hx hb d_Mo_isOf_27 rfl hl (by decide) rfl (fun ls hl => ?_)
            refine lv_iinc (lv' := [(4, .int (x4 + 1)), (3, .int (g 1 x3.toNatClampNeg)), (0, .ref (ad 0)), (2, .int x2)]) hx hb d_Mo_isOf_28 hl (k := 3) rfl (qa_o1 _) (by decide) rfl (fun ls hl => ?_)
            refine lv_goto (tgt := 5) hx hb d_Mo_isOf_31 (by decide) ?_
            exact ih g x2 (g 1 x3.toNatClampNeg) (x4 + 1) _ _ _ (lv_sub hl [2, 3, 1, 0] rfl) hO hT
  unfold mf_Mo_isOf at hT
  refine lv_iload_n hx hb d_Mo_isOf_0 rfl (lv_at hl 1 rfl) ?_
  refine lv_istore_n (lv' := [(3, .int x1), (0, .ref (ad 0)), (1, .int x1), (2, .int x2)]) hx hb d_Mo_isOf_1 rfl hl (by decide) rfl (fun ls hl => ?_)
  refine lv_iconst (v := 0) hx hb d_Mo_isOf_2 (by decide) ?_
  refine lv_istore (lv' := [(4, .int (0 : Int32)), (3, .int x1), (0, .ref (ad 0)), (1, .int x1), (2, .int x2)]) hx hb d_Mo_isOf_3 hl (by decide) rfl (fun ls hl => ?_)
  exact b5 4096 g x2 x1 (0 : Int32) _ _ _ (lv_sub hl [2, 4, 1, 0] rfl) hO hT
def mf_Mo_before_106 (k5 : qa_St → Int32 → Int32 → Int32 → Int32 → qa_Re) (g : qa_St) (x1 : Int32) (x2 : Int32) (x4 : Int32) (s0 : Int32) (s1 : Int32) : qa_Re := (k5 g x1 x2 (s1 + s0) (x4 + 1))
def mf_Mo_before_105 (k5 : qa_St → Int32 → Int32 → Int32 → Int32 → qa_Re) (g : qa_St) (x1 : Int32) (x2 : Int32) (x4 : Int32) (s0 : Int32) : qa_Re := (mf_Mo_before_106 k5 g x1 x2 x4 (0 : Int32) s0)
def mf_Mo_before_101 (k5 : qa_St → Int32 → Int32 → Int32 → Int32 → qa_Re) (g : qa_St) (x1 : Int32) (x2 : Int32) (x4 : Int32) (s0 : Int32) : qa_Re := (mf_Mo_before_106 k5 g x1 x2 x4 (1 : Int32) s0)
def mf_Mo_before_66 (k5 : qa_St → Int32 → Int32 → Int32 → Int32 → qa_Re) (g : qa_St) (x1 : Int32) (x2 : Int32) (x3 : Int32) (x4 : Int32) (x5 : Int32) (s0 : Int32) : qa_Re := (if s0 = 0 then (if x5 < 0 then (mf_Mo_before_105 k5 g x1 x2 x4 x3) else (if x5 < 0 ∨ 10 ≤ x5.toNatClampNeg then none else (if x2 < 0 ∨ 10 ≤ x2.toNatClampNeg then none else (if (g 4 x5.toNatClampNeg) = (g 4 x2.toNatClampNeg) then (if x2 ≤ x5 then (mf_Mo_before_105 k5 g x1 x2 x4 x3) else (mf_Mo_before_101 k5 g x1 x2 x4 x3)) else (mf_Mo_before_105 k5 g x1 x2 x4 x3))))) else (mf_Mo_before_101 k5 g x1 x2 x4 x3))
def mf_Mo_before_65 (k5 : qa_St → Int32 → Int32 → Int32 → Int32 → qa_Re) (g : qa_St) (x1 : Int32) (x2 : Int32) (x3 : Int32) (x4 : Int32) (x5 : Int32) : qa_Re := (mf_Mo_before_66 k5 g x1 x2 x3 x4 x5 (0 : Int32))
def mf_Mo_before_5 : Nat → qa_St → Int32 → Int32 → Int32 → Int32 → qa_Re
  | 0, _, _, _, _, _ => none
  | n + 1, g, x1, x2, x3, x4 => (if (4 : Int32) ≤ x4 then (some (x3, g)) else ((mf_Mo_maker g x1 x4).bind fun t15 => (if t15.1 < 0 then (mf_Mo_before_65 (mf_Mo_before_5 n) t15.2 x1 x2 x3 x4 t15.1) else (if t15.1 < 0 ∨ 10 ≤ t15.1.toNatClampNeg then none else (if x2 < 0 ∨ 10 ≤ x2.toNatClampNeg then none else (if (t15.2 4 t15.1.toNatClampNeg) = (t15.2 4 x2.toNatClampNeg) then (mf_Mo_before_65 (mf_Mo_before_5 n) t15.2 x1 x2 x3 x4 t15.1) else (if x2 < 0 ∨ 10 ≤ x2.toNatClampNeg then none else (if t15.1 < 0 ∨ 10 ≤ t15.1.toNatClampNeg then none else ((mf_Mo_isOf t15.2 (t15.2 4 x2.toNatClampNeg) (t15.2 4 t15.1.toNatClampNeg)).bind fun t55 => (if t55.1 = 0 then (mf_Mo_before_65 (mf_Mo_before_5 n) t55.2 x1 x2 x3 x4 t15.1) else (mf_Mo_before_66 (mf_Mo_before_5 n) t55.2 x1 x2 x3 x4 t15.1 (1 : Int32))))))))))))
def mf_Mo_before (g : qa_St) (x1 : Int32) (x2 : Int32) : qa_Re := (mf_Mo_before_5 4096 g x1 x2 (0 : Int32) (0 : Int32))
set_option maxHeartbeats 4000000 in
set_option maxRecDepth 100000 in
theorem mc_Mo_before (l : Launch) (D : va_G) (cI cJ cF cZ : ClassId) (ad : Nat → Nat) (g : qa_St) (x1 : Int32) (x2 : Int32) : qa_Mi l y_Mo_before (qa_ws y_Mo_before b_Mo_before 7 (some .int)) (qa_rm 2 48) D (qa_ty cI cJ cF cZ) 33 ad (me_en cI cZ ad) [.ref (ad 0), .int x1, .int x2] g (mf_Mo_before g x1 x2) := by
  refine qa_meti (by decide) (Nat.le_of_ble_eq_true rfl) ?_
  intro p e s m args below meth c Q A T S hK hN hA hT ret ls hl hO
  have hx := S.1
  have hb := S.2.1
  have hl : lv_has ls 7 [(0, .ref (ad 0)), (1, .int x1), (2, .int x2)] := hl
  have b106 : ∀ (k5 : qa_St → Int32 → Int32 → Int32 → Int32 → qa_Re) (hk5 : ∀ (g : qa_St) (x1 : Int32) (x2 : Int32) (x3 : Int32) (x4 : Int32) (ls : Array Slot) (H : Heap) (locs : List Loc), lv_has ls 7 [(0, .ref (ad 0)), (1, .int x1), (2, .int x2), (3, .int x3), (4, .int x4)] → qa_O D 33 ad (me_en cI cZ ad) A s.heap g H locs → k5 g x1 x2 x3 x4 = some T → W p l e (qa_rm 2 48) s m args below meth c H locs 0 0 Q (F0 m 5 ls [])), ∀ (g : qa_St) (x1 : Int32) (x2 : Int32) (x4 : Int32) (s0 : Int32) (s1 : Int32) (ls : Array Slot) (H : Heap) (locs : List Loc), lv_has ls 7 [(0, .ref (ad 0)), (1, .int x1), (2, .int x2), (4, .int x4)] → qa_O D 33 ad (me_en cI cZ ad) A s.heap g H locs → mf_Mo_before_106 k5 g x1 x2 x4 s0 s1 = some T → W p l e (qa_rm 2 48) s m args below meth c H locs 0 0 Q (F0 m 106 ls [.int s0, .int s1]) := by
    intro k5 hk5
    intro g x1 x2 x4 s0 s1 ls H locs hl hO hT
    unfold mf_Mo_before_106 at hT
    refine lv_iadd hx hb d_Mo_before_106 ?_
    refine lv_istore_n (lv' := [(3, .int (s1 + s0)), (0, .ref (ad 0)), (1, .int x1), (2, .int x2), (4, .int x4)]) hx hb d_Mo_before_107 rfl hl (by decide) rfl (fun ls hl => ?_)
    refine lv_iinc (lv' := [(4, .int (x4 + 1)), (3, .int (s1 + s0)), (0, .ref (ad 0)), (1, .int x1), (2, .int x2)]) hx hb d_Mo_before_108 hl (k := 4) rfl (qa_o1 _) (by decide) rfl (fun ls hl => ?_)
    refine lv_goto (tgt := 5) hx hb d_Mo_before_111 (by decide) ?_
    exact hk5 g x1 x2 (s1 + s0) (x4 + 1) _ _ _ (lv_sub hl [2, 3, 4, 1, 0] rfl) hO hT
  have b105 : ∀ (k5 : qa_St → Int32 → Int32 → Int32 → Int32 → qa_Re) (hk5 : ∀ (g : qa_St) (x1 : Int32) (x2 : Int32) (x3 : Int32) (x4 : Int32) (ls : Array Slot) (H : Heap) (locs : List Loc), lv_has ls 7 [(0, .ref (ad 0)), (1, .int x1), (2, .int x2), (3, .int x3), (4, .int x4)] → qa_O D 33 ad (me_en cI cZ ad) A s.heap g H locs → k5 g x1 x2 x3 x4 = some T → W p l e (qa_rm 2 48) s m args below meth c H locs 0 0 Q (F0 m 5 ls [])), ∀ (g : qa_St) (x1 : Int32) (x2 : Int32) (x4 : Int32) (s0 : Int32) (ls : Array Slot) (H : Heap) (locs : List Loc), lv_has ls 7 [(0, .ref (ad 0)), (1, .int x1), (2, .int x2), (4, .int x4)] → qa_O D 33 ad (me_en cI cZ ad) A s.heap g H locs → mf_Mo_before_105 k5 g x1 x2 x4 s0 = some T → W p l e (qa_rm 2 48) s m args below meth c H locs 0 0 Q (F0 m 105 ls [.int s0]) := by
    intro k5 hk5
    intro g x1 x2 x4 s0 ls H locs hl hO hT
    unfold mf_Mo_before_105 at hT
    refine lv_iconst (v := 0) hx hb d_Mo_before_105 (by decide) ?_
    exact b106 k5 hk5 g x1 x2 x4 (0 : Int32) s0 _ _ _ (lv_sub hl [0, 1, 2, 3] rfl) hO hT
  have b101 : ∀ (k5 : qa_St → Int32 → Int32 → Int32 → Int32 → qa_Re) (hk5 : ∀ (g : qa_St) (x1 : Int32) (x2 : Int32) (x3 : Int32) (x4 : Int32) (ls : Array Slot) (H : Heap) (locs : List Loc), lv_has ls 7 [(0, .ref (ad 0)), (1, .int x1), (2, .int x2), (3, .int x3), (4, .int x4)] → qa_O D 33 ad (me_en cI cZ ad) A s.heap g H locs → k5 g x1 x2 x3 x4 = some T → W p l e (qa_rm 2 48) s m args below meth c H locs 0 0 Q (F0 m 5 ls [])), ∀ (g : qa_St) (x1 : Int32) (x2 : Int32) (x4 : Int32) (s0 : Int32) (ls : Array Slot) (H : Heap) (locs : List Loc), lv_has ls 7 [(0, .ref (ad 0)), (1, .int x1), (2, .int x2), (4, .int x4)] → qa_O D 33 ad (me_en cI cZ ad) A s.heap g H locs → mf_Mo_before_101 k5 g x1 x2 x4 s0 = some T → W p l e (qa_rm 2 48) s m args below meth c H locs 0 0 Q (F0 m 101 ls [.int s0]) := by
    intro k5 hk5
    intro g x1 x2 x4 s0 ls H locs hl hO hT
    unfold mf_Mo_before_101 at hT
    refine lv_iconst (v := 1) hx hb d_Mo_before_101 (by decide) ?_
    refine lv_goto (tgt := 106) hx hb d_Mo_before_102 (by decide) ?_
    exact b106 k5 hk5 g x1 x2 x4 (1 : Int32) s0 _ _ _ (lv_sub hl [0, 1, 2, 3] rfl) hO hT
  have b66 : ∀ (k5 : qa_St → Int32 → Int32 → Int32 → Int32 → qa_Re) (hk5 : ∀ (g : qa_St) (x1 : Int32) (x2 : Int32) (x3 : Int32) (x4 : Int32) (ls : Array Slot) (H : Heap) (locs : List Loc), lv_has ls 7 [(0, .ref (ad 0)), (1, .int x1), (2, .int x2), (3, .int x3), (4, .int x4)] → qa_O D 33 ad (me_en cI cZ ad) A s.heap g H locs → k5 g x1 x2 x3 x4 = some T → W p l e (qa_rm 2 48) s m args below meth c H locs 0 0 Q (F0 m 5 ls [])), ∀ (g : qa_St) (x1 : Int32) (x2 : Int32) (x3 : Int32) (x4 : Int32) (x5 : Int32) (s0 : Int32) (ls : Array Slot) (H : Heap) (locs : List Loc), lv_has ls 7 [(0, .ref (ad 0)), (1, .int x1), (2, .int x2), (3, .int x3), (4, .int x4), (5, .int x5)] → qa_O D 33 ad (me_en cI cZ ad) A s.heap g H locs → mf_Mo_before_66 k5 g x1 x2 x3 x4 x5 s0 = some T → W p l e (qa_rm 2 48) s m args below meth c H locs 0 0 Q (F0 m 66 ls [.int s0]) := by
    intro k5 hk5
    intro g x1 x2 x3 x4 x5 s0 ls H locs hl hO hT
    unfold mf_Mo_before_66 at hT
    refine lv_istore (lv' := [(6, .int s0), (0, .ref (ad 0)), (1, .int x1), (2, .int x2), (3, .int x3), (4, .int x4), (5, .int x5)]) hx hb d_Mo_before_66 hl (by decide) rfl (fun ls hl => ?_)
    refine lv_iload_n hx hb d_Mo_before_68 rfl (lv_at hl 4 rfl) ?_
    refine lv_iload hx hb d_Mo_before_69 (lv_at hl 0 rfl) ?_
    refine lv_if_ne (tgt := 101) hx hb d_Mo_before_71 (by decide) (fun h => ?_) (fun h => ?_)
    · have hT := qa_f hT h
      exact b101 k5 hk5 g x1 x2 x4 x3 _ _ _ (lv_sub hl [1, 2, 3, 5] rfl) hO hT
    · have hT := qa_t hT h
      refine lv_iload hx hb d_Mo_before_74 (lv_at hl 6 rfl) ?_
      refine lv_if_lt (tgt := 105) hx hb d_Mo_before_76 (by decide) (fun h => ?_) (fun h => ?_)
      · have hT := qa_t hT h
        exact b105 k5 hk5 g x1 x2 x4 x3 _ _ _ (lv_sub hl [1, 2, 3, 5] rfl) hO hT
      · have hT := qa_f hT h
        refine lv_aload_n hx hb d_Mo_before_79 rfl (lv_at hl 1 rfl) ?_
        refine qa_get S hK hO hi_Mo 0 (by decide) rfl rfl 5 (by decide) lf_Mo_19 rfl rfl d_Mo_before_80 ?_
        refine lv_iload hx hb d_Mo_before_83 (lv_at hl 6 rfl) ?_
        obtain ⟨hi85, hT⟩ := qa_c hT
        refine qa_iald (n := 10) S hK hO 4 (by decide) 0 (me_arr rfl) rfl hi85 d_Mo_before_85 ?_
        refine lv_aload_n hx hb d_Mo_before_86 rfl (lv_at hl 1 rfl) ?_
        refine qa_get S hK hO hi_Mo 0 (by decide) rfl rfl 5 (by decide) lf_Mo_19 rfl rfl d_Mo_before_87 ?_
        refine lv_iload_n hx hb d_Mo_before_90 rfl (lv_at hl 3 rfl) ?_
        obtain ⟨hi91, hT⟩ := qa_c hT
        refine qa_iald (n := 10) S hK hO 4 (by decide) 0 (me_arr rfl) rfl hi91 d_Mo_before_91 ?_
        refine lv_icmp_ne (tgt := 105) hx hb d_Mo_before_92 (by decide) (fun h => ?_) (fun h => ?_)
        · have hT := qa_f hT h
          exact b105 k5 hk5 g x1 x2 x4 x3 _ _ _ (lv_sub hl [1, 2, 3, 5] rfl) hO hT
        · have hT := qa_t hT h
          refine lv_iload hx hb d_Mo_before_95 (lv_at hl 6 rfl) ?_
          refine lv_iload_n hx hb d_Mo_before_97 rfl (lv_at hl 3 rfl) ?_
          refine lv_icmp_ge (tgt := 105) hx hb d_Mo_before_98 (by decide) (fun h => ?_) (fun h => ?_)
          · have hT := qa_t hT h
            exact b105 k5 hk5 g x1 x2 x4 x3 _ _ _ (lv_sub hl [1, 2, 3, 5] rfl) hO hT
          · have hT := qa_f hT h
            exact b101 k5 hk5 g x1 x2 x4 x3 _ _ _ (lv_sub hl [1, 2, 3, 5] rfl) hO hT
  have b65 : ∀ (k5 : qa_St → Int32 → Int32 → Int32 → Int32 → qa_Re) (hk5 : ∀ (g : qa_St) (x1 : Int32) (x2 : Int32) (x3 : Int32) (x4 : Int32) (ls : Array Slot) (H : Heap) (locs : List Loc), lv_has ls 7 [(0, .ref (ad 0)), (1, .int x1), (2, .int x2), (3, .int x3), (4, .int x4)] → qa_O D 33 ad (me_en cI cZ ad) A s.heap g H locs → k5 g x1 x2 x3 x4 = some T → W p l e (qa_rm 2 48) s m args below meth c H locs 0 0 Q (F0 m 5 ls [])), ∀ (g : qa_St) (x1 : Int32) (x2 : Int32) (x3 : Int32) (x4 : Int32) (x5 : Int32) (ls : Array Slot) (H : Heap) (locs : List Loc), lv_has ls 7 [(0, .ref (ad 0)), (1, .int x1), (2, .int x2), (3, .int x3), (4, .int x4), (5, .int x5)] → qa_O D 33 ad (me_en cI cZ ad) A s.heap g H locs → mf_Mo_before_65 k5 g x1 x2 x3 x4 x5 = some T → W p l e (qa_rm 2 48) s m args below meth c H locs 0 0 Q (F0 m 65 ls []) := by
    intro k5 hk5
    intro g x1 x2 x3 x4 x5 ls H locs hl hO hT
    unfold mf_Mo_before_65 at hT
    refine lv_iconst (v := 0) hx hb d_Mo_before_65 (by decide) ?_
    exact b66 k5 hk5 g x1 x2 x3 x4 x5 (0 : Int32) _ _ _ (lv_sub hl [0, 1, 2, 3, 4, 5] rfl) hO hT
  have b5 : ∀ (n : Nat), ∀ (g : qa_St) (x1 : Int32) (x2 : Int32) (x3 : Int32) (x4 : Int32) (ls : Array Slot) (H : Heap) (locs : List Loc), lv_has ls 7 [(0, .ref (ad 0)), (1, .int x1), (2, .int x2), (3, .int x3), (4, .int x4)] → qa_O D 33 ad (me_en cI cZ ad) A s.heap g H locs → mf_Mo_before_5 n g x1 x2 x3 x4 = some T → W p l e (qa_rm 2 48) s m args below meth c H locs 0 0 Q (F0 m 5 ls []) := by
    intro n
    induction n with
    | zero => intro g x1 x2 x3 x4 ls H locs hl hO hT; rw [mf_Mo_before_5] at hT; cases hT
    | succ n ih =>
      intro g x1 x2 x3 x4 ls H locs hl hO hT
      rw [mf_Mo_before_5] at hT
      refine lv_iload hx hb d_Mo_before_5 (lv_at hl 4 rfl) ?_
      refine lv_iconst (v := 4) hx hb d_Mo_before_7 (by decide) ?_
      refine lv_icmp_ge (tgt := 114) hx hb d_Mo_before_8 (by decide) (fun h => ?_) (fun h => ?_)
      · have hT := qa_t hT h
        refine lv_iload_n hx hb d_Mo_before_114 rfl (lv_at hl 3 rfl) ?_
        exact ret hT hO d_Mo_before_115
      · have hT := qa_f hT h
        refine lv_aload_n hx hb d_Mo_before_11 rfl (lv_at hl 0 rfl) ?_
        refine lv_iload_n hx hb d_Mo_before_12 rfl (lv_at hl 1 rfl) ?_
        refine lv_iload hx hb d_Mo_before_13 (lv_at hl 4 rfl) ?_
        obtain ⟨t15, ht15, hT⟩ := qa_b hT
        refine qa_Vi (As := [.int x1, .int x4]) (rest := []) (r := 0) S hK hN hA hO (mc_Mo_maker l D cI cJ cF cZ ad g x1 x4) ht15 qy_Mo_maker lm_Mo_139 ⟨by decide, by decide⟩ (by decide) rfl rfl rfl rfl hl.1 rfl (Nat.le_of_ble_eq_true rfl) d_Mo_before_15 (fun H locs hO => ?_)
        refine lv_istore (lv' := [(5, .int t15.1), (0, .ref (ad 0)), (1, .int x1), (2, .int x2), (3, .int x3), (4, .int x4)]) hx hb d_Mo_before_18 hl (by decide) rfl (fun ls hl => ?_)
        refine lv_iload hx hb d_Mo_before_20 (lv_at hl 0 rfl) ?_
        refine lv_if_lt (tgt := 65) hx hb d_Mo_before_22 (by decide) (fun h => ?_) (fun h => ?_)
        · have hT := qa_t hT h
          exact b65 (mf_Mo_before_5 n) ih t15.2 x1 x2 x3 x4 t15.1 _ _ _ (lv_sub hl [1, 2, 3, 4, 5, 0] rfl) hO hT
        · have hT := qa_f hT h
          refine lv_aload_n hx hb d_Mo_before_25 rfl (lv_at hl 1 rfl) ?_
          refine qa_get S hK hO hi_Mo 0 (by decide) rfl rfl 5 (by decide) lf_Mo_19 rfl rfl d_Mo_before_26 ?_
          refine lv_iload hx hb d_Mo_before_29 (lv_at hl 0 rfl) ?_
          obtain ⟨hi31, hT⟩ := qa_c hT
          refine qa_iald (n := 10) S hK hO 4 (by decide) 0 (me_arr rfl) rfl hi31 d_Mo_before_31 ?_
          refine lv_aload_n hx hb d_Mo_before_32 rfl (lv_at hl 1 rfl) ?_
          refine qa_get S hK hO hi_Mo 0 (by decide) rfl rfl 5 (by decide) lf_Mo_19 rfl rfl d_Mo_before_33 ?_
          refine lv_iload_n hx hb d_Mo_before_36 rfl (lv_at hl 3 rfl) ?_
          obtain ⟨hi37, hT⟩ := qa_c hT
          refine qa_iald (n := 10) S hK hO 4 (by decide) 0 (me_arr rfl) rfl hi37 d_Mo_before_37 ?_
          refine lv_icmp_eq (tgt := 65) hx hb d_Mo_before_38 (by decide) (fun h => ?_) (fun h => ?_)
          · have hT := qa_t hT h
            exact b65 (mf_Mo_before_5 n) ih t15.2 x1 x2 x3 x4 t15.1 _ _ _ (lv_sub hl [1, 2, 3, 4, 5, 0] rfl) hO hT
          · have hT := qa_f hT h
            refine lv_aload_n hx hb d_Mo_before_41 rfl (lv_at hl 1 rfl) ?_
            refine lv_aload_n hx hb d_Mo_before_42 rfl (lv_at hl 1 rfl) ?_
            refine qa_get S hK hO hi_Mo 0 (by decide) rfl rfl 5 (by decide) lf_Mo_19 rfl rfl d_Mo_before_43 ?_
            refine lv_iload_n hx hb d_Mo_before_46 rfl (lv_at hl 3 rfl) ?_
            obtain ⟨hi47, hT⟩ := qa_c hT
            refine qa_iald (n := 10) S hK hO 4 (by decide) 0 (me_arr rfl) rfl hi47 d_Mo_before_47 ?_
            refine lv_aload_n hx hb d_Mo_before_48 rfl (lv_at hl 1 rfl) ?_
            refine qa_get S hK hO hi_Mo 0 (by decide) rfl rfl 5 (by decide) lf_Mo_19 rfl rfl d_Mo_before_49 ?_
            refine lv_iload hx hb d_Mo_before_52 (lv_at hl 0 rfl) ?_
            obtain ⟨hi54, hT⟩ := qa_c hT
            refine qa_iald (n := 10) S hK hO 4 (by decide) 0 (me_arr rfl) rfl hi54 d_Mo_before_54 ?_
            obtain ⟨t55, ht55, hT⟩ := qa_b hT
            refine qa_Vi (As := [.int (t15.2 4 x2.toNatClampNeg), .int (t15.2 4 t15.1.toNatClampNeg)]) (rest := []) (r := 0) S hK hN hA hO (mc_Mo_isOf l D cI cJ cF cZ ad t15.2 (t15.2 4 x2.toNatClampNeg) (t15.2 4 t15.1.toNatClampNeg)) ht55 qy_Mo_isOf lm_Mo_142 ⟨by decide, by decide⟩ (by decide) rfl rfl rfl rfl hl.1 rfl (Nat.le_of_ble_eq_true rfl) d_Mo_before_55 (fun H locs hO => ?_)
            refine lv_if_eq (tgt := 65) hx hb d_Mo_before_58 (by decide) (fun h => ?_) (fun h => ?_)
            · have hT := qa_t hT h
              exact b65 (mf_Mo_before_5 n) ih t55.2 x1 x2 x3 x4 t15.1 _ _ _ (lv_sub hl [1, 2, 3, 4, 5, 0] rfl) hO hT
            · have hT := qa_f hT h
              refine lv_iconst (v := 1) hx hb d_Mo_before_61 (by decide) ?_
              refine lv_goto (tgt := 66) hx hb d_Mo_before_62 (by decide) ?_
              exact b66 (mf_Mo_before_5 n) ih t55.2 x1 x2 x3 x4 t15.1 (1 : Int32) _ _ _ (lv_sub hl [1, 2, 3, 4, 5, 0] rfl) hO hT
  unfold mf_Mo_before at hT
  refine lv_iconst (v := 0) hx hb d_Mo_before_0 (by decide) ?_
  refine lv_istore_n (lv' := [(3, .int (0 : Int32)), (0, .ref (ad 0)), (1, .int x1), (2, .int x2)]) hx hb d_Mo_before_1 rfl hl (by decide) rfl (fun ls hl => ?_)
  refine lv_iconst (v := 0) hx hb d_Mo_before_2 (by decide) ?_
  refine lv_istore (lv' := [(4, .int (0 : Int32)), (3, .int (0 : Int32)), (0, .ref (ad 0)), (1, .int x1), (2, .int x2)]) hx hb d_Mo_before_3 hl (by decide) rfl (fun ls hl => ?_)
  exact b5 4096 g x1 x2 (0 : Int32) (0 : Int32) _ _ _ (lv_sub hl [2, 3, 4, 1, 0] rfl) hO hT
def mf_Mo_slot (g : qa_St) (x1 : Int32) (x2 : Int32) : qa_Re := ((mf_Mo_within g x1 ((g 0 0) - (1 : Int32))).bind fun t7 => (if t7.1 = 0 then (some ((-1 : Int32), t7.2)) else ((mf_Mo_within t7.2 x2 (3 : Int32)).bind fun t15 => (if t15.1 = 0 then (some ((-1 : Int32), t15.2)) else ((mf_Mo_maker t15.2 x1 x2).bind fun t26 => (if 0 ≤ t26.1 then ((mf_Mo_before t26.2 x1 t26.1).bind fun t41 => (some (t41.1, t41.2))) else (some ((-1 : Int32), t26.2))))))))
set_option maxHeartbeats 4000000 in
set_option maxRecDepth 100000 in
theorem mc_Mo_slot (l : Launch) (D : va_G) (cI cJ cF cZ : ClassId) (ad : Nat → Nat) (g : qa_St) (x1 : Int32) (x2 : Int32) : qa_Mi l y_Mo_slot (qa_ws y_Mo_slot b_Mo_slot 4 (some .int)) (qa_rm 3 74) D (qa_ty cI cJ cF cZ) 33 ad (me_en cI cZ ad) [.ref (ad 0), .int x1, .int x2] g (mf_Mo_slot g x1 x2) := by
  refine qa_meti (by decide) (Nat.le_of_ble_eq_true rfl) ?_
  intro p e s m args below meth c Q A T S hK hN hA hT ret ls hl hO
  have hx := S.1
  have hb := S.2.1
  have hl : lv_has ls 4 [(0, .ref (ad 0)), (1, .int x1), (2, .int x2)] := hl
  unfold mf_Mo_slot at hT
  refine lv_iload_n hx hb d_Mo_slot_0 rfl (lv_at hl 1 rfl) ?_
  refine lv_aload_n hx hb d_Mo_slot_1 rfl (lv_at hl 0 rfl) ?_
  refine qa_get S hK hO hi_Mo 0 (by decide) rfl rfl 0 (by decide) lf_Mo_114 rfl rfl d_Mo_slot_2 ?_
  refine lv_iconst (v := 1) hx hb d_Mo_slot_5 (by decide) ?_
  refine lv_isub hx hb d_Mo_slot_6 ?_
  obtain ⟨t7, ht7, hT⟩ := qa_b hT
  refine qa_Si (As := [.int x1, .int ((g 0 0) - (1 : Int32))]) (rest := []) S hK hN hA hO (mc_Mo_within l D cI cJ cF cZ ad g x1 ((g 0 0) - (1 : Int32))) ht7 qy_Mo_within lm_Mo_118 ⟨by decide, by decide⟩ rfl hl.1 rfl (Nat.le_of_ble_eq_true rfl) d_Mo_slot_7 (fun H locs hO => ?_)
  refine lv_if_eq (tgt := 21) hx hb d_Mo_slot_10 (by decide) (fun h => ?_) (fun h => ?_)
  · have hT := qa_t hT h
    refine lv_iconst (v := -1) hx hb d_Mo_slot_21 (by decide) ?_
    exact ret hT hO d_Mo_slot_22
  · have hT := qa_f hT h
    refine lv_iload_n hx hb d_Mo_slot_13 rfl (lv_at hl 2 rfl) ?_
    refine lv_iconst (v := 3) hx hb d_Mo_slot_14 (by decide) ?_
    obtain ⟨t15, ht15, hT⟩ := qa_b hT
    refine qa_Si (As := [.int x2, .int (3 : Int32)]) (rest := []) S hK hN hA hO (mc_Mo_within l D cI cJ cF cZ ad t7.2 x2 (3 : Int32)) ht15 qy_Mo_within lm_Mo_118 ⟨by decide, by decide⟩ rfl hl.1 rfl (Nat.le_of_ble_eq_true rfl) d_Mo_slot_15 (fun H locs hO => ?_)
    refine lv_if_ne (tgt := 23) hx hb d_Mo_slot_18 (by decide) (fun h => ?_) (fun h => ?_)
    · have hT := qa_f hT h
      refine lv_aload_n hx hb d_Mo_slot_23 rfl (lv_at hl 0 rfl) ?_
      refine lv_iload_n hx hb d_Mo_slot_24 rfl (lv_at hl 1 rfl) ?_
      refine lv_iload_n hx hb d_Mo_slot_25 rfl (lv_at hl 2 rfl) ?_
      obtain ⟨t26, ht26, hT⟩ := qa_b hT
      refine qa_Vi (As := [.int x1, .int x2]) (rest := []) (r := 0) S hK hN hA hO (mc_Mo_maker l D cI cJ cF cZ ad t15.2 x1 x2) ht26 qy_Mo_maker lm_Mo_139 ⟨by decide, by decide⟩ (by decide) rfl rfl rfl rfl hl.1 rfl (Nat.le_of_ble_eq_true rfl) d_Mo_slot_26 (fun H locs hO => ?_)
      refine lv_istore_n (lv' := [(3, .int t26.1), (0, .ref (ad 0)), (1, .int x1), (2, .int x2)]) hx hb d_Mo_slot_29 rfl hl (by decide) rfl (fun ls hl => ?_)
      refine lv_iload_n hx hb d_Mo_slot_30 rfl (lv_at hl 0 rfl) ?_
      refine lv_if_ge (tgt := 38) hx hb d_Mo_slot_31 (by decide) (fun h => ?_) (fun h => ?_)
      · have hT := qa_t hT h
        refine lv_aload_n hx hb d_Mo_slot_38 rfl (lv_at hl 1 rfl) ?_
        refine lv_iload_n hx hb d_Mo_slot_39 rfl (lv_at hl 2 rfl) ?_
        refine lv_iload_n hx hb d_Mo_slot_40 rfl (lv_at hl 0 rfl) ?_
        obtain ⟨t41, ht41, hT⟩ := qa_b hT
        refine qa_Vi (As := [.int x1, .int t26.1]) (rest := []) (r := 0) S hK hN hA hO (mc_Mo_before l D cI cJ cF cZ ad t26.2 x1 t26.1) ht41 qy_Mo_before lm_Mo_145 ⟨by decide, by decide⟩ (by decide) rfl rfl rfl rfl hl.1 rfl (Nat.le_of_ble_eq_true rfl) d_Mo_slot_41 (fun H locs hO => ?_)
        exact ret hT hO d_Mo_slot_44
      · have hT := qa_f hT h
        refine lv_iconst (v := -1) hx hb d_Mo_slot_34 (by decide) ?_
        refine lv_goto (tgt := 44) hx hb d_Mo_slot_35 (by decide) ?_
        exact ret hT hO d_Mo_slot_44
    · have hT := qa_t hT h
      refine lv_iconst (v := -1) hx hb d_Mo_slot_21 (by decide) ?_
      exact ret hT hO d_Mo_slot_22
