def mf_Mo_reach_130 (k99 : qa_St → Int32 → Int32 → Int32 → qa_Re) (g : qa_St) (x1 : Int32) (x2 : Int32) (x4 : Int32) : qa_Re := (k99 g x1 x2 (x4 + 1))
def mf_Mo_reach_99 : Nat → qa_St → Int32 → Int32 → Int32 → qa_Re
  | 0, _, _, _, _ => none
  | n + 1, g, x1, x2, x4 => (if x2 = (17 : Int32) then (if (g 0 4) ≤ x4 then (some (0, g)) else ((mf_Mo_target g x1 x4).bind fun t118 => (if t118.1 = 0 then (mf_Mo_reach_130 (mf_Mo_reach_99 n) t118.2 x1 x2 x4) else ((mf_Mo_enliven t118.2 x4).bind fun t127 => (mf_Mo_reach_130 (mf_Mo_reach_99 n) t127.2 x1 x2 x4))))) else (some (0, g)))
def mf_Mo_reach_96 (g : qa_St) (x1 : Int32) (x2 : Int32) : qa_Re := (mf_Mo_reach_99 4096 g x1 x2 (0 : Int32))
def mf_Mo_reach_75 (g : qa_St) (x1 : Int32) (x2 : Int32) (x3 : Int32) : qa_Re := (if x2 = (16 : Int32) then ((mf_Mo_enliven g x3).bind fun t83 => (if x3 < 0 ∨ 10 ≤ x3.toNatClampNeg then none else ((mf_Mo_touch t83.2 (t83.2 4 x3.toNatClampNeg)).bind fun t93 => (mf_Mo_reach_96 t93.2 x1 x2)))) else (mf_Mo_reach_96 g x1 x2))
def mf_Mo_reach_70 (g : qa_St) (x1 : Int32) (x2 : Int32) (x3 : Int32) : qa_Re := ((mf_Mo_touch g x3).bind fun t72 => (mf_Mo_reach_75 t72.2 x1 x2 x3))
def mf_Mo_reach_52 (g : qa_St) (x1 : Int32) (x2 : Int32) (x3 : Int32) : qa_Re := (if x2 = (11 : Int32) then (mf_Mo_reach_70 g x1 x2 x3) else (if x2 = (14 : Int32) then (mf_Mo_reach_70 g x1 x2 x3) else (if x2 = (15 : Int32) then (mf_Mo_reach_70 g x1 x2 x3) else (mf_Mo_reach_75 g x1 x2 x3))))
def mf_Mo_reach_42 (g : qa_St) (x1 : Int32) (x2 : Int32) (x3 : Int32) (s0 : Int32) : qa_Re := (if s0 = 0 ∨ s0 = 1 then (if x3 < 0 ∨ 6 ≤ x3.toNatClampNeg then none else (mf_Mo_reach_52 (qa_up (qa_up g 0 22 s0) 20 x3.toNatClampNeg (1 : Int32)) x1 x2 x3)) else none)
def mf_Mo_reach_37 (g : qa_St) (x1 : Int32) (x2 : Int32) (x3 : Int32) : qa_Re := (mf_Mo_reach_42 g x1 x2 x3 (1 : Int32))
def mf_Mo_reach (g : qa_St) (x1 : Int32) : qa_Re := (if x1 < 0 ∨ 200 ≤ x1.toNatClampNeg then none else (if x1 < 0 ∨ 200 ≤ x1.toNatClampNeg then none else (if (g 8 x1.toNatClampNeg) = (11 : Int32) then (if (g 0 22) = 0 then (if (g 9 x1.toNatClampNeg) < 0 ∨ 6 ≤ (g 9 x1.toNatClampNeg).toNatClampNeg then none else (if (g 20 (g 9 x1.toNatClampNeg).toNatClampNeg) = 0 then (mf_Mo_reach_37 g x1 (g 8 x1.toNatClampNeg) (g 9 x1.toNatClampNeg)) else (mf_Mo_reach_42 g x1 (g 8 x1.toNatClampNeg) (g 9 x1.toNatClampNeg) (0 : Int32)))) else (mf_Mo_reach_37 g x1 (g 8 x1.toNatClampNeg) (g 9 x1.toNatClampNeg))) else (mf_Mo_reach_52 g x1 (g 8 x1.toNatClampNeg) (g 9 x1.toNatClampNeg)))))
set_option maxHeartbeats 4000000 in
set_option maxRecDepth 100000 in
theorem mc_Mo_reach (l : Launch) (D : va_G) (cI cJ cF cZ : ClassId) (ad : Nat → Nat) (g : qa_St) (x1 : Int32) : qa_Mv l y_Mo_reach (qa_ws y_Mo_reach b_Mo_reach 5 none) (qa_rm 3 72) D (qa_ty cI cJ cF cZ) 33 ad (me_en cI cZ ad) [.ref (ad 0), .int x1] g (mf_Mo_reach g x1) := by
  refine qa_metv (by decide) (Nat.le_of_ble_eq_true rfl) ?_
  intro p e s m args below meth c Q A T S hK hN hA hT ret ls hl hO
  have hx := S.1
  have hb := S.2.1
  have hl : lv_has ls 5 [(0, .ref (ad 0)), (1, .int x1)] := hl
  have b130 : ∀ (k99 : qa_St → Int32 → Int32 → Int32 → qa_Re) (hk99 : ∀ (g : qa_St) (x1 : Int32) (x2 : Int32) (x4 : Int32) (ls : Array Slot) (H : Heap) (locs : List Loc), lv_has ls 5 [(0, .ref (ad 0)), (1, .int x1), (2, .int x2), (4, .int x4)] → qa_O D 33 ad (me_en cI cZ ad) A s.heap g H locs → k99 g x1 x2 x4 = some T → W p l e (qa_rm 3 72) s m args below meth c H locs 0 0 Q (F0 m 99 ls [])), ∀ (g : qa_St) (x1 : Int32) (x2 : Int32) (x4 : Int32) (ls : Array Slot) (H : Heap) (locs : List Loc), lv_has ls 5 [(0, .ref (ad 0)), (1, .int x1), (2, .int x2), (4, .int x4)] → qa_O D 33 ad (me_en cI cZ ad) A s.heap g H locs → mf_Mo_reach_130 k99 g x1 x2 x4 = some T → W p l e (qa_rm 3 72) s m args below meth c H locs 0 0 Q (F0 m 130 ls []) := by
    intro k99 hk99
    intro g x1 x2 x4 ls H locs hl hO hT
    unfold mf_Mo_reach_130 at hT
    refine lv_iinc (lv' := [(4, .int (x4 + 1)), (0, .ref (ad 0)), (1, .int x1), (2, .int x2)]) hx hb d_Mo_reach_130 hl (k := 3) rfl (qa_o1 _) (by decide) rfl (fun ls hl => ?_)
    refine lv_goto (tgt := 99) hx hb d_Mo_reach_133 (by decide) ?_
    exact hk99 g x1 x2 (x4 + 1) _ _ _ (lv_sub hl [1, 2, 3, 0] rfl) hO hT
  have b99 : ∀ (n : Nat), ∀ (g : qa_St) (x1 : Int32) (x2 : Int32) (x4 : Int32) (ls : Array Slot) (H : Heap) (locs : List Loc), lv_has ls 5 [(0, .ref (ad 0)), (1, .int x1), (2, .int x2), (4, .int x4)] → qa_O D 33 ad (me_en cI cZ ad) A s.heap g H locs → mf_Mo_reach_99 n g x1 x2 x4 = some T → W p l e (qa_rm 3 72) s m args below meth c H locs 0 0 Q (F0 m 99 ls []) := by
    intro n
    induction n with
    | zero => intro g x1 x2 x4 ls H locs hl hO hT; rw [mf_Mo_reach_99] at hT; cases hT
    | succ n ih =>
      intro g x1 x2 x4 ls H locs hl hO hT
      rw [mf_Mo_reach_99] at hT
      refine lv_iload_n hx hb d_Mo_reach_99 rfl (lv_at hl 2 rfl) ?_
      refine lv_bipush (v := 17) hx hb d_Mo_reach_100 (by decide) ?_
      refine lv_icmp_ne (tgt := 136) hx hb d_Mo_reach_102 (by decide) (fun h => ?_) (fun h => ?_)
      · have hT := qa_f hT h
        exact ret hT hO d_Mo_reach_136
      · have hT := qa_t hT h
        refine lv_iload hx hb d_Mo_reach_105 (lv_at hl 3 rfl) ?_
        refine lv_aload_n hx hb d_Mo_reach_107 rfl (lv_at hl 0 rfl) ?_
        refine qa_get S hK hO hi_Mo 0 (by decide) rfl rfl 4 (by decide) lf_Mo_129 rfl rfl d_Mo_reach_108 ?_
        refine lv_icmp_ge (tgt := 136) hx hb d_Mo_reach_111 (by decide) (fun h => ?_) (fun h => ?_)
        · have hT := qa_t hT h
          exact ret hT hO d_Mo_reach_136
        · have hT := qa_f hT h
          refine lv_aload_n hx hb d_Mo_reach_114 rfl (lv_at hl 0 rfl) ?_
          refine lv_iload_n hx hb d_Mo_reach_115 rfl (lv_at hl 1 rfl) ?_
          refine lv_iload hx hb d_Mo_reach_116 (lv_at hl 3 rfl) ?_
          obtain ⟨t118, ht118, hT⟩ := qa_b hT
          refine qa_Vi (As := [.int x1, .int x4]) (rest := []) (r := 0) S hK hN hA hO (mc_Mo_target l D cI cJ cF cZ ad g x1 x4) ht118 qy_Mo_target lm_Mo_208 ⟨by decide, by decide⟩ (by decide) rfl rfl rfl rfl hl.1 rfl (Nat.le_of_ble_eq_true rfl) d_Mo_reach_118 (fun H locs hO => ?_)
          refine lv_if_eq (tgt := 130) hx hb d_Mo_reach_121 (by decide) (fun h => ?_) (fun h => ?_)
          · have hT := qa_t hT h
            exact b130 (mf_Mo_reach_99 n) ih t118.2 x1 x2 x4 _ _ _ (lv_sub hl [0, 1, 2, 3] rfl) hO hT
          · have hT := qa_f hT h
            refine lv_aload_n hx hb d_Mo_reach_124 rfl (lv_at hl 0 rfl) ?_
            refine lv_iload hx hb d_Mo_reach_125 (lv_at hl 3 rfl) ?_
            obtain ⟨t127, ht127, hT⟩ := qa_b hT
            refine qa_Vv (As := [.int x4]) (rest := []) (r := 0) S hK hN hA hO (mc_Mo_enliven l D cI cJ cF cZ ad t118.2 x4) ht127 qy_Mo_enliven lm_Mo_196 ⟨by decide, by decide⟩ (by decide) rfl rfl rfl rfl hl.1 rfl (Nat.le_of_ble_eq_true rfl) d_Mo_reach_127 (fun H locs hO => ?_)
            exact b130 (mf_Mo_reach_99 n) ih t127.2 x1 x2 x4 _ _ _ (lv_sub hl [0, 1, 2, 3] rfl) hO hT
  have b96 : ∀ (g : qa_St) (x1 : Int32) (x2 : Int32) (ls : Array Slot) (H : Heap) (locs : List Loc), lv_has ls 5 [(0, .ref (ad 0)), (1, .int x1), (2, .int x2)] → qa_O D 33 ad (me_en cI cZ ad) A s.heap g H locs → mf_Mo_reach_96 g x1 x2 = some T → W p l e (qa_rm 3 72) s m args below meth c H locs 0 0 Q (F0 m 96 ls []) := by
    intro g x1 x2 ls H locs hl hO hT
    unfold mf_Mo_reach_96 at hT
    refine lv_iconst (v := 0) hx hb d_Mo_reach_96 (by decide) ?_
    refine lv_istore (lv' := [(4, .int (0 : Int32)), (0, .ref (ad 0)), (1, .int x1), (2, .int x2)]) hx hb d_Mo_reach_97 hl (by decide) rfl (fun ls hl => ?_)
    exact b99 4096 g x1 x2 (0 : Int32) _ _ _ (lv_sub hl [1, 2, 3, 0] rfl) hO hT
  have b75 : ∀ (g : qa_St) (x1 : Int32) (x2 : Int32) (x3 : Int32) (ls : Array Slot) (H : Heap) (locs : List Loc), lv_has ls 5 [(0, .ref (ad 0)), (1, .int x1), (2, .int x2), (3, .int x3)] → qa_O D 33 ad (me_en cI cZ ad) A s.heap g H locs → mf_Mo_reach_75 g x1 x2 x3 = some T → W p l e (qa_rm 3 72) s m args below meth c H locs 0 0 Q (F0 m 75 ls []) := by
    intro g x1 x2 x3 ls H locs hl hO hT
    unfold mf_Mo_reach_75 at hT
    refine lv_iload_n hx hb d_Mo_reach_75 rfl (lv_at hl 2 rfl) ?_
    refine lv_bipush (v := 16) hx hb d_Mo_reach_76 (by decide) ?_
    refine lv_icmp_ne (tgt := 96) hx hb d_Mo_reach_78 (by decide) (fun h => ?_) (fun h => ?_)
    · have hT := qa_f hT h
      exact b96 g x1 x2 _ _ _ (lv_sub hl [0, 1, 2] rfl) hO hT
    · have hT := qa_t hT h
      refine lv_aload_n hx hb d_Mo_reach_81 rfl (lv_at hl 0 rfl) ?_
      refine lv_iload_n hx hb d_Mo_reach_82 rfl (lv_at hl 3 rfl) ?_
      obtain ⟨t83, ht83, hT⟩ := qa_b hT
      refine qa_Vv (As := [.int x3]) (rest := []) (r := 0) S hK hN hA hO (mc_Mo_enliven l D cI cJ cF cZ ad g x3) ht83 qy_Mo_enliven lm_Mo_196 ⟨by decide, by decide⟩ (by decide) rfl rfl rfl rfl hl.1 rfl (Nat.le_of_ble_eq_true rfl) d_Mo_reach_83 (fun H locs hO => ?_)
      refine lv_aload_n hx hb d_Mo_reach_86 rfl (lv_at hl 0 rfl) ?_
      refine lv_aload_n hx hb d_Mo_reach_87 rfl (lv_at hl 0 rfl) ?_
      refine qa_get S hK hO hi_Mo 0 (by decide) rfl rfl 5 (by decide) lf_Mo_19 rfl rfl d_Mo_reach_88 ?_
      refine lv_iload_n hx hb d_Mo_reach_91 rfl (lv_at hl 3 rfl) ?_
      obtain ⟨hi92, hT⟩ := qa_c hT
      refine qa_iald (n := 10) S hK hO 4 (by decide) 0 (me_arr rfl) rfl hi92 d_Mo_reach_92 ?_
      obtain ⟨t93, ht93, hT⟩ := qa_b hT
      refine qa_Vv (As := [.int (t83.2 4 x3.toNatClampNeg)]) (rest := []) (r := 0) S hK hN hA hO (mc_Mo_touch l D cI cJ cF cZ ad t83.2 (t83.2 4 x3.toNatClampNeg)) ht93 qy_Mo_touch lm_Mo_202 ⟨by decide, by decide⟩ (by decide) rfl rfl rfl rfl hl.1 rfl (Nat.le_of_ble_eq_true rfl) d_Mo_reach_93 (fun H locs hO => ?_)
      exact b96 t93.2 x1 x2 _ _ _ (lv_sub hl [0, 1, 2] rfl) hO hT
  have b70 : ∀ (g : qa_St) (x1 : Int32) (x2 : Int32) (x3 : Int32) (ls : Array Slot) (H : Heap) (locs : List Loc), lv_has ls 5 [(0, .ref (ad 0)), (1, .int x1), (2, .int x2), (3, .int x3)] → qa_O D 33 ad (me_en cI cZ ad) A s.heap g H locs → mf_Mo_reach_70 g x1 x2 x3 = some T → W p l e (qa_rm 3 72) s m args below meth c H locs 0 0 Q (F0 m 70 ls []) := by
    intro g x1 x2 x3 ls H locs hl hO hT
    unfold mf_Mo_reach_70 at hT
    refine lv_aload_n hx hb d_Mo_reach_70 rfl (lv_at hl 0 rfl) ?_
    refine lv_iload_n hx hb d_Mo_reach_71 rfl (lv_at hl 3 rfl) ?_
    obtain ⟨t72, ht72, hT⟩ := qa_b hT
    refine qa_Vv (As := [.int x3]) (rest := []) (r := 0) S hK hN hA hO (mc_Mo_touch l D cI cJ cF cZ ad g x3) ht72 qy_Mo_touch lm_Mo_202 ⟨by decide, by decide⟩ (by decide) rfl rfl rfl rfl hl.1 rfl (Nat.le_of_ble_eq_true rfl) d_Mo_reach_72 (fun H locs hO => ?_)
    exact b75 t72.2 x1 x2 x3 _ _ _ (lv_sub hl [0, 1, 2, 3] rfl) hO hT
  have b52 : ∀ (g : qa_St) (x1 : Int32) (x2 : Int32) (x3 : Int32) (ls : Array Slot) (H : Heap) (locs : List Loc), lv_has ls 5 [(0, .ref (ad 0)), (1, .int x1), (2, .int x2), (3, .int x3)] → qa_O D 33 ad (me_en cI cZ ad) A s.heap g H locs → mf_Mo_reach_52 g x1 x2 x3 = some T → W p l e (qa_rm 3 72) s m args below meth c H locs 0 0 Q (F0 m 52 ls []) := by
    intro g x1 x2 x3 ls H locs hl hO hT
    unfold mf_Mo_reach_52 at hT
    refine lv_iload_n hx hb d_Mo_reach_52 rfl (lv_at hl 2 rfl) ?_
    refine lv_bipush (v := 11) hx hb d_Mo_reach_53 (by decide) ?_
    refine lv_icmp_eq (tgt := 70) hx hb d_Mo_reach_55 (by decide) (fun h => ?_) (fun h => ?_)
    · have hT := qa_t hT h
      exact b70 g x1 x2 x3 _ _ _ (lv_sub hl [0, 1, 2, 3] rfl) hO hT
    · have hT := qa_f hT h
      refine lv_iload_n hx hb d_Mo_reach_58 rfl (lv_at hl 2 rfl) ?_
      refine lv_bipush (v := 14) hx hb d_Mo_reach_59 (by decide) ?_
      refine lv_icmp_eq (tgt := 70) hx hb d_Mo_reach_61 (by decide) (fun h => ?_) (fun h => ?_)
      · have hT := qa_t hT h
        exact b70 g x1 x2 x3 _ _ _ (lv_sub hl [0, 1, 2, 3] rfl) hO hT
      · have hT := qa_f hT h
        refine lv_iload_n hx hb d_Mo_reach_64 rfl (lv_at hl 2 rfl) ?_
        refine lv_bipush (v := 15) hx hb d_Mo_reach_65 (by decide) ?_
        refine lv_icmp_ne (tgt := 75) hx hb d_Mo_reach_67 (by decide) (fun h => ?_) (fun h => ?_)
        · have hT := qa_f hT h
          exact b75 g x1 x2 x3 _ _ _ (lv_sub hl [0, 1, 2, 3] rfl) hO hT
        · have hT := qa_t hT h
          exact b70 g x1 x2 x3 _ _ _ (lv_sub hl [0, 1, 2, 3] rfl) hO hT
  have b42 : ∀ (g : qa_St) (x1 : Int32) (x2 : Int32) (x3 : Int32) (s0 : Int32) (ls : Array Slot) (H : Heap) (locs : List Loc), lv_has ls 5 [(0, .ref (ad 0)), (1, .int x1), (2, .int x2), (3, .int x3)] → qa_O D 33 ad (me_en cI cZ ad) A s.heap g H locs → mf_Mo_reach_42 g x1 x2 x3 s0 = some T → W p l e (qa_rm 3 72) s m args below meth c H locs 0 0 Q (F0 m 42 ls [.int s0, .ref (ad 0)]) := by
    intro g x1 x2 x3 s0 ls H locs hl hO hT
    unfold mf_Mo_reach_42 at hT
    obtain ⟨hz42, hT⟩ := qa_k hT
    refine qa_put S hK hO hi_Mo t_Mo t_Mo_ok n_Mo 0 (by decide) rfl rfl 22 (by decide) lf_Mo_157 rfl rfl (ty := .boolean) (by decide +kernel) (qa_nz hz42) (qa_fz hz42) (Nat.le_of_ble_eq_true rfl) rfl d_Mo_reach_42 (fun H locs hO => ?_)
    refine lv_aload_n hx hb d_Mo_reach_45 rfl (lv_at hl 0 rfl) ?_
    refine qa_get S hK hO hi_Mo 0 (by decide) rfl rfl 25 (by decide) lf_Mo_68 rfl rfl d_Mo_reach_46 ?_
    refine lv_iload_n hx hb d_Mo_reach_49 rfl (lv_at hl 3 rfl) ?_
    refine lv_iconst (v := 1) hx hb d_Mo_reach_50 (by decide) ?_
    obtain ⟨hi51, hT⟩ := qa_c hT
    refine qa_zast (n := 6) S hK hO 20 (by decide) 3 (me_zar rfl) rfl hi51 rfl d_Mo_reach_51 (fun H locs hO => ?_)
    exact b52 (qa_up (qa_up g 0 22 s0) 20 x3.toNatClampNeg (1 : Int32)) x1 x2 x3 _ _ _ (lv_sub hl [0, 1, 2, 3] rfl) hO hT
  have b37 : ∀ (g : qa_St) (x1 : Int32) (x2 : Int32) (x3 : Int32) (ls : Array Slot) (H : Heap) (locs : List Loc), lv_has ls 5 [(0, .ref (ad 0)), (1, .int x1), (2, .int x2), (3, .int x3)] → qa_O D 33 ad (me_en cI cZ ad) A s.heap g H locs → mf_Mo_reach_37 g x1 x2 x3 = some T → W p l e (qa_rm 3 72) s m args below meth c H locs 0 0 Q (F0 m 37 ls [.ref (ad 0)]) := by
    intro g x1 x2 x3 ls H locs hl hO hT
    unfold mf_Mo_reach_37 at hT
    refine lv_iconst (v := 1) hx hb d_Mo_reach_37 (by decide) ?_
    refine lv_goto (tgt := 42) hx hb d_Mo_reach_38 (by decide) ?_
    exact b42 g x1 x2 x3 (1 : Int32) _ _ _ (lv_sub hl [0, 1, 2, 3] rfl) hO hT
  unfold mf_Mo_reach at hT
  refine lv_aload_n hx hb d_Mo_reach_0 rfl (lv_at hl 0 rfl) ?_
  refine qa_get S hK hO hi_Mo 0 (by decide) rfl rfl 9 (by decide) lf_Mo_31 rfl rfl d_Mo_reach_1 ?_
  refine lv_iload_n hx hb d_Mo_reach_4 rfl (lv_at hl 1 rfl) ?_
  obtain ⟨hi5, hT⟩ := qa_c hT
  refine qa_iald (n := 200) S hK hO 8 (by decide) 0 (me_arr rfl) rfl hi5 d_Mo_reach_5 ?_
  refine lv_istore_n (lv' := [(2, .int (g 8 x1.toNatClampNeg)), (0, .ref (ad 0)), (1, .int x1)]) hx hb d_Mo_reach_6 rfl hl (by decide) rfl (fun ls hl => ?_)
  refine lv_aload_n hx hb d_Mo_reach_7 rfl (lv_at hl 1 rfl) ?_
  refine qa_get S hK hO hi_Mo 0 (by decide) rfl rfl 10 (by decide) lf_Mo_34 rfl rfl d_Mo_reach_8 ?_
  refine lv_iload_n hx hb d_Mo_reach_11 rfl (lv_at hl 2 rfl) ?_
  obtain ⟨hi12, hT⟩ := qa_c hT
  refine qa_iald (n := 200) S hK hO 9 (by decide) 0 (me_arr rfl) rfl hi12 d_Mo_reach_12 ?_
  refine lv_istore_n (lv' := [(3, .int (g 9 x1.toNatClampNeg)), (2, .int (g 8 x1.toNatClampNeg)), (0, .ref (ad 0)), (1, .int x1)]) hx hb d_Mo_reach_13 rfl hl (by decide) rfl (fun ls hl => ?_)
  refine lv_iload_n hx hb d_Mo_reach_14 rfl (lv_at hl 1 rfl) ?_
  refine lv_bipush (v := 11) hx hb d_Mo_reach_15 (by decide) ?_
  refine lv_icmp_ne (tgt := 52) hx hb d_Mo_reach_17 (by decide) (fun h => ?_) (fun h => ?_)
  · have hT := qa_f hT h
    exact b52 g x1 (g 8 x1.toNatClampNeg) (g 9 x1.toNatClampNeg) _ _ _ (lv_sub hl [2, 3, 1, 0] rfl) hO hT
  · have hT := qa_t hT h
    refine lv_aload_n hx hb d_Mo_reach_20 rfl (lv_at hl 2 rfl) ?_
    refine lv_aload_n hx hb d_Mo_reach_21 rfl (lv_at hl 2 rfl) ?_
    refine qa_get S hK hO hi_Mo 0 (by decide) rfl rfl 22 (by decide) lf_Mo_157 rfl rfl d_Mo_reach_22 ?_
    refine lv_if_ne (tgt := 37) hx hb d_Mo_reach_25 (by decide) (fun h => ?_) (fun h => ?_)
    · have hT := qa_f hT h
      exact b37 g x1 (g 8 x1.toNatClampNeg) (g 9 x1.toNatClampNeg) _ _ _ (lv_sub hl [2, 3, 1, 0] rfl) hO hT
    · have hT := qa_t hT h
      refine lv_aload_n hx hb d_Mo_reach_28 rfl (lv_at hl 2 rfl) ?_
      refine qa_get S hK hO hi_Mo 0 (by decide) rfl rfl 25 (by decide) lf_Mo_68 rfl rfl d_Mo_reach_29 ?_
      refine lv_iload_n hx hb d_Mo_reach_32 rfl (lv_at hl 0 rfl) ?_
      obtain ⟨hi33, hT⟩ := qa_c hT
      refine qa_zald (n := 6) S hK hO 20 (by decide) 3 (me_zar rfl) rfl hi33 d_Mo_reach_33 ?_
      refine lv_if_ne (tgt := 41) hx hb d_Mo_reach_34 (by decide) (fun h => ?_) (fun h => ?_)
      · have hT := qa_f hT h
        refine lv_iconst (v := 0) hx hb d_Mo_reach_41 (by decide) ?_
        exact b42 g x1 (g 8 x1.toNatClampNeg) (g 9 x1.toNatClampNeg) (0 : Int32) _ _ _ (lv_sub hl [2, 3, 1, 0] rfl) hO hT
      · have hT := qa_t hT h
        exact b37 g x1 (g 8 x1.toNatClampNeg) (g 9 x1.toNatClampNeg) _ _ _ (lv_sub hl [2, 3, 1, 0] rfl) hO hT
def mf_Mo_spread_146 (k73 : qa_St → Int32 → qa_Re) (k93 : qa_St → Int32 → Int32 → qa_Re) (g : qa_St) (x1 : Int32) (x2 : Int32) : qa_Re := (k93 g x1 (x2 + 1))
def mf_Mo_spread_93 (k73 : qa_St → Int32 → qa_Re) : Nat → qa_St → Int32 → Int32 → qa_Re
  | 0, _, _, _ => none
  | n + 1, g, x1, x2 => (if ((20 : Int32) * (g 0 4)) ≤ x2 then (k73 g (x1 + 1)) else (if (20 : Int32) = 0 then none else (if (x2 / (20 : Int32)) < 0 ∨ 10 ≤ (x2 / (20 : Int32)).toNatClampNeg then none else (if (g 18 (x2 / (20 : Int32)).toNatClampNeg) = 0 then (mf_Mo_spread_146 k73 (mf_Mo_spread_93 k73 n) g x1 x2) else (if (20 : Int32) = 0 then none else (if (20 : Int32) = 0 then none else (if (x2 / (20 : Int32)) < 0 ∨ 10 ≤ (x2 / (20 : Int32)).toNatClampNeg then none else (if (g 7 (x2 / (20 : Int32)).toNatClampNeg) ≤ (x2 - x2 / (20 : Int32) * (20 : Int32)) then (mf_Mo_spread_146 k73 (mf_Mo_spread_93 k73 n) g x1 x2) else (if x2 < 0 ∨ 200 ≤ x2.toNatClampNeg then none else (if (g 14 x2.toNatClampNeg) = 0 then (mf_Mo_spread_146 k73 (mf_Mo_spread_93 k73 n) g x1 x2) else ((mf_Mo_reach g x2).bind fun t143 => (mf_Mo_spread_146 k73 (mf_Mo_spread_93 k73 n) t143.2 x1 x2))))))))))))
def mf_Mo_spread_73 : Nat → qa_St → Int32 → qa_Re
  | 0, _, _ => none
  | n + 1, g, x1 => (if (30 : Int32) ≤ x1 then (some (0, g)) else (if (g 0 22) = 0 then (some (0, g)) else (mf_Mo_spread_93 (mf_Mo_spread_73 n) 4096 (qa_up g 0 22 (0 : Int32)) x1 (0 : Int32))))
def mf_Mo_spread_63 (g : qa_St) (s0 : Int32) : qa_Re := ((mf_Mo_touch g s0).bind fun t63 => (mf_Mo_spread_73 4096 (qa_up t63.2 0 22 (1 : Int32)) (0 : Int32)))
def mf_Mo_spread_23 : Nat → qa_St → Int32 → qa_Re
  | 0, _, _ => none
  | n + 1, g, x1 => (if (6 : Int32) ≤ x1 then (if (0 : Int32) < 0 ∨ 10 ≤ (0 : Int32).toNatClampNeg then none else (if (0 : Int32) < 0 ∨ 10 ≤ (0 : Int32).toNatClampNeg then none else (mf_Mo_spread_63 (qa_up g 18 (0 : Int32).toNatClampNeg (1 : Int32)) ((qa_up g 18 (0 : Int32).toNatClampNeg (1 : Int32)) 4 (0 : Int32).toNatClampNeg)))) else (if x1 < 0 ∨ 6 ≤ x1.toNatClampNeg then none else (if x1 < 0 ∨ 6 ≤ x1.toNatClampNeg then none else ((mf_Mo_spread_23 n) (qa_up (qa_up g 19 x1.toNatClampNeg (0 : Int32)) 20 x1.toNatClampNeg (0 : Int32)) (x1 + 1)))))
def mf_Mo_spread_2 : Nat → qa_St → Int32 → qa_Re
  | 0, _, _ => none
  | n + 1, g, x1 => (if (10 : Int32) ≤ x1 then (mf_Mo_spread_23 4096 g (0 : Int32)) else (if x1 < 0 ∨ 10 ≤ x1.toNatClampNeg then none else ((mf_Mo_spread_2 n) (qa_up g 18 x1.toNatClampNeg (0 : Int32)) (x1 + 1))))
def mf_Mo_spread (g : qa_St) : qa_Re := (mf_Mo_spread_2 4096 g (0 : Int32))
set_option maxHeartbeats 4000000 in
set_option maxRecDepth 100000 in
theorem mc_Mo_spread (l : Launch) (D : va_G) (cI cJ cF cZ : ClassId) (ad : Nat → Nat) (g : qa_St) : qa_Mv l y_Mo_spread (qa_ws y_Mo_spread b_Mo_spread 3 none) (qa_rm 4 96) D (qa_ty cI cJ cF cZ) 33 ad (me_en cI cZ ad) [.ref (ad 0)] g (mf_Mo_spread g) := by
  refine qa_metv (by decide) (Nat.le_of_ble_eq_true rfl) ?_
  intro p e s m args below meth c Q A T S hK hN hA hT ret ls hl hO
  have hx := S.1
  have hb := S.2.1
  have hl : lv_has ls 3 [(0, .ref (ad 0))] := hl
  have b146 : ∀ (k73 : qa_St → Int32 → qa_Re) (hk73 : ∀ (g : qa_St) (x1 : Int32) (ls : Array Slot) (H : Heap) (locs : List Loc), lv_has ls 3 [(0, .ref (ad 0)), (1, .int x1)] → qa_O D 33 ad (me_en cI cZ ad) A s.heap g H locs → k73 g x1 = some T → W p l e (qa_rm 4 96) s m args below meth c H locs 0 0 Q (F0 m 73 ls [])) (k93 : qa_St → Int32 → Int32 → qa_Re) (hk93 : ∀ (g : qa_St) (x1 : Int32) (x2 : Int32) (ls : Array Slot) (H : Heap) (locs : List Loc), lv_has ls 3 [(0, .ref (ad 0)), (1, .int x1), (2, .int x2)] → qa_O D 33 ad (me_en cI cZ ad) A s.heap g H locs → k93 g x1 x2 = some T → W p l e (qa_rm 4 96) s m args below meth c H locs 0 0 Q (F0 m 93 ls [])), ∀ (g : qa_St) (x1 : Int32) (x2 : Int32) (ls : Array Slot) (H : Heap) (locs : List Loc), lv_has ls 3 [(0, .ref (ad 0)), (1, .int x1), (2, .int x2)] → qa_O D 33 ad (me_en cI cZ ad) A s.heap g H locs → mf_Mo_spread_146 k73 k93 g x1 x2 = some T → W p l e (qa_rm 4 96) s m args below meth c H locs 0 0 Q (F0 m 146 ls []) := by
    intro k73 hk73 k93 hk93
    intro g x1 x2 ls H locs hl hO hT
    unfold mf_Mo_spread_146 at hT
    refine lv_iinc (lv' := [(2, .int (x2 + 1)), (0, .ref (ad 0)), (1, .int x1)]) hx hb d_Mo_spread_146 hl (k := 2) rfl (qa_o1 _) (by decide) rfl (fun ls hl => ?_)
    refine lv_goto (tgt := 93) hx hb d_Mo_spread_149 (by decide) ?_
    exact hk93 g x1 (x2 + 1) _ _ _ (lv_sub hl [1, 2, 0] rfl) hO hT
  have b93 : ∀ (k73 : qa_St → Int32 → qa_Re) (hk73 : ∀ (g : qa_St) (x1 : Int32) (ls : Array Slot) (H : Heap) (locs : List Loc), lv_has ls 3 [(0, .ref (ad 0)), (1, .int x1)] → qa_O D 33 ad (me_en cI cZ ad) A s.heap g H locs → k73 g x1 = some T → W p l e (qa_rm 4 96) s m args below meth c H locs 0 0 Q (F0 m 73 ls [])), ∀ (n : Nat), ∀ (g : qa_St) (x1 : Int32) (x2 : Int32) (ls : Array Slot) (H : Heap) (locs : List Loc), lv_has ls 3 [(0, .ref (ad 0)), (1, .int x1), (2, .int x2)] → qa_O D 33 ad (me_en cI cZ ad) A s.heap g H locs → mf_Mo_spread_93 k73 n g x1 x2 = some T → W p l e (qa_rm 4 96) s m args below meth c H locs 0 0 Q (F0 m 93 ls []) := by
    intro k73 hk73
    intro n
    induction n with
    | zero => intro g x1 x2 ls H locs hl hO hT; rw [mf_Mo_spread_93] at hT; cases hT
    | succ n ih =>
      intro g x1 x2 ls H locs hl hO hT
      rw [mf_Mo_spread_93] at hT
      refine lv_iload_n hx hb d_Mo_spread_93 rfl (lv_at hl 2 rfl) ?_
      refine lv_bipush (v := 20) hx hb d_Mo_spread_94 (by decide) ?_
      refine lv_aload_n hx hb d_Mo_spread_96 rfl (lv_at hl 0 rfl) ?_
      refine qa_get S hK hO hi_Mo 0 (by decide) rfl rfl 4 (by decide) lf_Mo_129 rfl rfl d_Mo_spread_97 ?_
      refine lv_imul hx hb d_Mo_spread_100 ?_
      refine lv_icmp_ge (tgt := 152) hx hb d_Mo_spread_101 (by decide) (fun h => ?_) (fun h => ?_)
      · have hT := qa_t hT h
        refine lv_iinc (lv' := [(1, .int (x1 + 1)), (0, .ref (ad 0)), (2, .int x2)]) hx hb d_Mo_spread_152 hl (k := 1) rfl (qa_o1 _) (by decide) rfl (fun ls hl => ?_)
        refine lv_goto (tgt := 73) hx hb d_Mo_spread_155 (by decide) ?_
        exact hk73 g (x1 + 1) _ _ _ (lv_sub hl [1, 0] rfl) hO hT
      · have hT := qa_f hT h
        refine lv_aload_n hx hb d_Mo_spread_104 rfl (lv_at hl 0 rfl) ?_
        refine qa_get S hK hO hi_Mo 0 (by decide) rfl rfl 23 (by decide) lf_Mo_62 rfl rfl d_Mo_spread_105 ?_
        refine lv_iload_n hx hb d_Mo_spread_108 rfl (lv_at hl 2 rfl) ?_
        refine lv_bipush (v := 20) hx hb d_Mo_spread_109 (by decide) ?_
        obtain ⟨hi111, hT⟩ := qa_c hT
        refine lv_idiv hx hb d_Mo_spread_111 hi111 ?_
        obtain ⟨hi112, hT⟩ := qa_c hT
        refine qa_zald (n := 10) S hK hO 18 (by decide) 3 (me_zar rfl) rfl hi112 d_Mo_spread_112 ?_
        refine lv_if_eq (tgt := 146) hx hb d_Mo_spread_113 (by decide) (fun h => ?_) (fun h => ?_)
        · have hT := qa_t hT h
          exact b146 k73 hk73 (mf_Mo_spread_93 k73 n) ih g x1 x2 _ _ _ (lv_sub hl [0, 1, 2] rfl) hO hT
        · have hT := qa_f hT h
          refine lv_iload_n hx hb d_Mo_spread_116 rfl (lv_at hl 2 rfl) ?_
          refine lv_bipush (v := 20) hx hb d_Mo_spread_117 (by decide) ?_
          obtain ⟨hi119, hT⟩ := qa_c hT
          refine lv_irem hx hb d_Mo_spread_119 hi119 ?_
          refine lv_aload_n hx hb d_Mo_spread_120 rfl (lv_at hl 0 rfl) ?_
          refine qa_get S hK hO hi_Mo 0 (by decide) rfl rfl 8 (by decide) lf_Mo_28 rfl rfl d_Mo_spread_121 ?_
          refine lv_iload_n hx hb d_Mo_spread_124 rfl (lv_at hl 2 rfl) ?_
          refine lv_bipush (v := 20) hx hb d_Mo_spread_125 (by decide) ?_
          obtain ⟨hi127, hT⟩ := qa_c hT
          refine lv_idiv hx hb d_Mo_spread_127 hi127 ?_
          obtain ⟨hi128, hT⟩ := qa_c hT
          refine qa_iald (n := 10) S hK hO 7 (by decide) 0 (me_arr rfl) rfl hi128 d_Mo_spread_128 ?_
          refine lv_icmp_ge (tgt := 146) hx hb d_Mo_spread_129 (by decide) (fun h => ?_) (fun h => ?_)
          · have hT := qa_t hT h
            exact b146 k73 hk73 (mf_Mo_spread_93 k73 n) ih g x1 x2 _ _ _ (lv_sub hl [0, 1, 2] rfl) hO hT
          · have hT := qa_f hT h
            refine lv_aload_n hx hb d_Mo_spread_132 rfl (lv_at hl 0 rfl) ?_
            refine qa_get S hK hO hi_Mo 0 (by decide) rfl rfl 16 (by decide) lf_Mo_49 rfl rfl d_Mo_spread_133 ?_
            refine lv_iload_n hx hb d_Mo_spread_136 rfl (lv_at hl 2 rfl) ?_
            obtain ⟨hi137, hT⟩ := qa_c hT
            refine qa_zald (n := 200) S hK hO 14 (by decide) 3 (me_zar rfl) rfl hi137 d_Mo_spread_137 ?_
            refine lv_if_eq (tgt := 146) hx hb d_Mo_spread_138 (by decide) (fun h => ?_) (fun h => ?_)
            · have hT := qa_t hT h
              exact b146 k73 hk73 (mf_Mo_spread_93 k73 n) ih g x1 x2 _ _ _ (lv_sub hl [0, 1, 2] rfl) hO hT
            · have hT := qa_f hT h
              refine lv_aload_n hx hb d_Mo_spread_141 rfl (lv_at hl 0 rfl) ?_
              refine lv_iload_n hx hb d_Mo_spread_142 rfl (lv_at hl 2 rfl) ?_
              obtain ⟨t143, ht143, hT⟩ := qa_b hT
              refine qa_Vv (As := [.int x2]) (rest := []) (r := 0) S hK hN hA hO (mc_Mo_reach l D cI cJ cF cZ ad g x2) ht143 qy_Mo_reach lm_Mo_205 ⟨by decide, by decide⟩ (by decide) rfl rfl rfl rfl hl.1 rfl (Nat.le_of_ble_eq_true rfl) d_Mo_spread_143 (fun H locs hO => ?_)
              exact b146 k73 hk73 (mf_Mo_spread_93 k73 n) ih t143.2 x1 x2 _ _ _ (lv_sub hl [0, 1, 2] rfl) hO hT
  have b73 : ∀ (n : Nat), ∀ (g : qa_St) (x1 : Int32) (ls : Array Slot) (H : Heap) (locs : List Loc), lv_has ls 3 [(0, .ref (ad 0)), (1, .int x1)] → qa_O D 33 ad (me_en cI cZ ad) A s.heap g H locs → mf_Mo_spread_73 n g x1 = some T → W p l e (qa_rm 4 96) s m args below meth c H locs 0 0 Q (F0 m 73 ls []) := by
    intro n
    induction n with
    | zero => intro g x1 ls H locs hl hO hT; rw [mf_Mo_spread_73] at hT; cases hT
    | succ n ih =>
      intro g x1 ls H locs hl hO hT
      rw [mf_Mo_spread_73] at hT
      refine lv_iload_n hx hb d_Mo_spread_73 rfl (lv_at hl 1 rfl) ?_
      refine lv_bipush (v := 30) hx hb d_Mo_spread_74 (by decide) ?_
      refine lv_icmp_ge (tgt := 158) hx hb d_Mo_spread_76 (by decide) (fun h => ?_) (fun h => ?_)
      · have hT := qa_t hT h
        exact ret hT hO d_Mo_spread_158
      · have hT := qa_f hT h
        refine lv_aload_n hx hb d_Mo_spread_79 rfl (lv_at hl 0 rfl) ?_
        refine qa_get S hK hO hi_Mo 0 (by decide) rfl rfl 22 (by decide) lf_Mo_157 rfl rfl d_Mo_spread_80 ?_
        refine lv_if_eq (tgt := 158) hx hb d_Mo_spread_83 (by decide) (fun h => ?_) (fun h => ?_)
        · have hT := qa_t hT h
          exact ret hT hO d_Mo_spread_158
        · have hT := qa_f hT h
          refine lv_aload_n hx hb d_Mo_spread_86 rfl (lv_at hl 0 rfl) ?_
          refine lv_iconst (v := 0) hx hb d_Mo_spread_87 (by decide) ?_
          refine qa_put S hK hO hi_Mo t_Mo t_Mo_ok n_Mo 0 (by decide) rfl rfl 22 (by decide) lf_Mo_157 rfl rfl (ty := .boolean) (by decide +kernel) rfl rfl (Nat.le_of_ble_eq_true rfl) rfl d_Mo_spread_88 (fun H locs hO => ?_)
          refine lv_iconst (v := 0) hx hb d_Mo_spread_91 (by decide) ?_
          refine lv_istore_n (lv' := [(2, .int (0 : Int32)), (0, .ref (ad 0)), (1, .int x1)]) hx hb d_Mo_spread_92 rfl hl (by decide) rfl (fun ls hl => ?_)
          exact b93 (mf_Mo_spread_73 n) ih 4096 (qa_up g 0 22 (0 : Int32)) x1 (0 : Int32) _ _ _ (lv_sub hl [1, 2, 0] rfl) hO hT
  have b63 : ∀ (g : qa_St) (s0 : Int32) (ls : Array Slot) (H : Heap) (locs : List Loc), lv_has ls 3 [(0, .ref (ad 0))] → qa_O D 33 ad (me_en cI cZ ad) A s.heap g H locs → mf_Mo_spread_63 g s0 = some T → W p l e (qa_rm 4 96) s m args below meth c H locs 0 0 Q (F0 m 63 ls [.int s0, .ref (ad 0)]) := by
    intro g s0 ls H locs hl hO hT
    unfold mf_Mo_spread_63 at hT
    obtain ⟨t63, ht63, hT⟩ := qa_b hT
    refine qa_Vv (As := [.int s0]) (rest := []) (r := 0) S hK hN hA hO (mc_Mo_touch l D cI cJ cF cZ ad g s0) ht63 qy_Mo_touch lm_Mo_202 ⟨by decide, by decide⟩ (by decide) rfl rfl rfl rfl hl.1 rfl (Nat.le_of_ble_eq_true rfl) d_Mo_spread_63 (fun H locs hO => ?_)
    refine lv_aload_n hx hb d_Mo_spread_66 rfl (lv_at hl 0 rfl) ?_
    refine lv_iconst (v := 1) hx hb d_Mo_spread_67 (by decide) ?_
    refine qa_put S hK hO hi_Mo t_Mo t_Mo_ok n_Mo 0 (by decide) rfl rfl 22 (by decide) lf_Mo_157 rfl rfl (ty := .boolean) (by decide +kernel) rfl rfl (Nat.le_of_ble_eq_true rfl) rfl d_Mo_spread_68 (fun H locs hO => ?_)
    refine lv_iconst (v := 0) hx hb d_Mo_spread_71 (by decide) ?_
    refine lv_istore_n (lv' := [(1, .int (0 : Int32)), (0, .ref (ad 0))]) hx hb d_Mo_spread_72 rfl hl (by decide) rfl (fun ls hl => ?_)
    exact b73 4096 (qa_up t63.2 0 22 (1 : Int32)) (0 : Int32) _ _ _ (lv_sub hl [1, 0] rfl) hO hT
  have b23 : ∀ (n : Nat), ∀ (g : qa_St) (x1 : Int32) (ls : Array Slot) (H : Heap) (locs : List Loc), lv_has ls 3 [(0, .ref (ad 0)), (1, .int x1)] → qa_O D 33 ad (me_en cI cZ ad) A s.heap g H locs → mf_Mo_spread_23 n g x1 = some T → W p l e (qa_rm 4 96) s m args below meth c H locs 0 0 Q (F0 m 23 ls []) := by
    intro n
    induction n with
    | zero => intro g x1 ls H locs hl hO hT; rw [mf_Mo_spread_23] at hT; cases hT
    | succ n ih =>
      intro g x1 ls H locs hl hO hT
      rw [mf_Mo_spread_23] at hT
      refine lv_iload_n hx hb d_Mo_spread_23 rfl (lv_at hl 1 rfl) ?_
      refine lv_bipush (v := 6) hx hb d_Mo_spread_24 (by decide) ?_
      refine lv_icmp_ge (tgt := 49) hx hb d_Mo_spread_26 (by decide) (fun h => ?_) (fun h => ?_)
      · have hT := qa_t hT h
        refine lv_aload_n hx hb d_Mo_spread_49 rfl (lv_at hl 0 rfl) ?_
        refine qa_get S hK hO hi_Mo 0 (by decide) rfl rfl 23 (by decide) lf_Mo_62 rfl rfl d_Mo_spread_50 ?_
        refine lv_iconst (v := 0) hx hb d_Mo_spread_53 (by decide) ?_
        refine lv_iconst (v := 1) hx hb d_Mo_spread_54 (by decide) ?_
        obtain ⟨hi55, hT⟩ := qa_c hT
        refine qa_zast (n := 10) S hK hO 18 (by decide) 3 (me_zar rfl) rfl hi55 rfl d_Mo_spread_55 (fun H locs hO => ?_)
        refine lv_aload_n hx hb d_Mo_spread_56 rfl (lv_at hl 0 rfl) ?_
        refine lv_aload_n hx hb d_Mo_spread_57 rfl (lv_at hl 0 rfl) ?_
        refine qa_get S hK hO hi_Mo 0 (by decide) rfl rfl 5 (by decide) lf_Mo_19 rfl rfl d_Mo_spread_58 ?_
        refine lv_iconst (v := 0) hx hb d_Mo_spread_61 (by decide) ?_
        obtain ⟨hi62, hT⟩ := qa_c hT
        refine qa_iald (n := 10) S hK hO 4 (by decide) 0 (me_arr rfl) rfl hi62 d_Mo_spread_62 ?_
        exact b63 (qa_up g 18 (0 : Int32).toNatClampNeg (1 : Int32)) ((qa_up g 18 (0 : Int32).toNatClampNeg (1 : Int32)) 4 (0 : Int32).toNatClampNeg) _ _ _ (lv_sub hl [0] rfl) hO hT
      · have hT := qa_f hT h
        refine lv_aload_n hx hb d_Mo_spread_29 rfl (lv_at hl 0 rfl) ?_
        refine qa_get S hK hO hi_Mo 0 (by decide) rfl rfl 24 (by decide) lf_Mo_65 rfl rfl d_Mo_spread_30 ?_
        refine lv_iload_n hx hb d_Mo_spread_33 rfl (lv_at hl 1 rfl) ?_
        refine lv_iconst (v := 0) hx hb d_Mo_spread_34 (by decide) ?_
        obtain ⟨hi35, hT⟩ := qa_c hT
        refine qa_zast (n := 6) S hK hO 19 (by decide) 3 (me_zar rfl) rfl hi35 rfl d_Mo_spread_35 (fun H locs hO => ?_)
        refine lv_aload_n hx hb d_Mo_spread_36 rfl (lv_at hl 0 rfl) ?_
        refine qa_get S hK hO hi_Mo 0 (by decide) rfl rfl 25 (by decide) lf_Mo_68 rfl rfl d_Mo_spread_37 ?_
        refine lv_iload_n hx hb d_Mo_spread_40 rfl (lv_at hl 1 rfl) ?_
        refine lv_iconst (v := 0) hx hb d_Mo_spread_41 (by decide) ?_
        obtain ⟨hi42, hT⟩ := qa_c hT
        refine qa_zast (n := 6) S hK hO 20 (by decide) 3 (me_zar rfl) rfl hi42 rfl d_Mo_spread_42 (fun H locs hO => ?_)
        refine lv_iinc (lv' := [(1, .int (x1 + 1)), (0, .ref (ad 0))]) hx hb d_Mo_spread_43 hl (k := 1) rfl (qa_o1 _) (by decide) rfl (fun ls hl => ?_)
        refine lv_goto (tgt := 23) hx hb d_Mo_spread_46 (by decide) ?_
        exact ih (qa_up (qa_up g 19 x1.toNatClampNeg (0 : Int32)) 20 x1.toNatClampNeg (0 : Int32)) (x1 + 1) _ _ _ (lv_sub hl [1, 0] rfl) hO hT
  have b2 : ∀ (n : Nat), ∀ (g : qa_St) (x1 : Int32) (ls : Array Slot) (H : Heap) (locs : List Loc), lv_has ls 3 [(0, .ref (ad 0)), (1, .int x1)] → qa_O D 33 ad (me_en cI cZ ad) A s.heap g H locs → mf_Mo_spread_2 n g x1 = some T → W p l e (qa_rm 4 96) s m args below meth c H locs 0 0 Q (F0 m 2 ls []) := by
    intro n
    induction n with
    | zero => intro g x1 ls H locs hl hO hT; rw [mf_Mo_spread_2] at hT; cases hT
    | succ n ih =>
      intro g x1 ls H locs hl hO hT
      rw [mf_Mo_spread_2] at hT
      refine lv_iload_n hx hb d_Mo_spread_2 rfl (lv_at hl 1 rfl) ?_
      refine lv_bipush (v := 10) hx hb d_Mo_spread_3 (by decide) ?_
      refine lv_icmp_ge (tgt := 21) hx hb d_Mo_spread_5 (by decide) (fun h => ?_) (fun h => ?_)
      · have hT := qa_t hT h
        refine lv_iconst (v := 0) hx hb d_Mo_spread_21 (by decide) ?_
        refine lv_istore_n (lv' := [(1, .int (0 : Int32)), (0, .ref (ad 0))]) hx hb d_Mo_spread_22 rfl hl (by decide) rfl (fun ls hl => ?_)
        exact b23 4096 g (0 : Int32) _ _ _ (lv_sub hl [1, 0] rfl) hO hT
      · have hT := qa_f hT h
        refine lv_aload_n hx hb d_Mo_spread_8 rfl (lv_at hl 0 rfl) ?_
        refine qa_get S hK hO hi_Mo 0 (by decide) rfl rfl 23 (by decide) lf_Mo_62 rfl rfl d_Mo_spread_9 ?_
        refine lv_iload_n hx hb d_Mo_spread_12 rfl (lv_at hl 1 rfl) ?_
        refine lv_iconst (v := 0) hx hb d_Mo_spread_13 (by decide) ?_
        obtain ⟨hi14, hT⟩ := qa_c hT
        refine qa_zast (n := 10) S hK hO 18 (by decide) 3 (me_zar rfl) rfl hi14 rfl d_Mo_spread_14 (fun H locs hO => ?_)
        refine lv_iinc (lv' := [(1, .int (x1 + 1)), (0, .ref (ad 0))]) hx hb d_Mo_spread_15 hl (k := 1) rfl (qa_o1 _) (by decide) rfl (fun ls hl => ?_)
        refine lv_goto (tgt := 2) hx hb d_Mo_spread_18 (by decide) ?_
        exact ih (qa_up g 18 x1.toNatClampNeg (0 : Int32)) (x1 + 1) _ _ _ (lv_sub hl [1, 0] rfl) hO hT
  unfold mf_Mo_spread at hT
  refine lv_iconst (v := 0) hx hb d_Mo_spread_0 (by decide) ?_
  refine lv_istore_n (lv' := [(1, .int (0 : Int32)), (0, .ref (ad 0))]) hx hb d_Mo_spread_1 rfl hl (by decide) rfl (fun ls hl => ?_)
  exact b2 4096 g (0 : Int32) _ _ _ (lv_sub hl [1, 0] rfl) hO hT
def mf_Mo_close_40 : Nat → qa_St → Int32 → qa_Re
  | 0, _, _ => none
  | n + 1, g, x1 => (if (g 0 4) ≤ x1 then ((mf_Mo_spread (qa_up g 0 15 (1 : Int32))).bind fun t70 => (some ((-1 : Int32), t70.2))) else ((mf_Mo_sound g x1).bind fun t50 => (if t50.1 = 0 then (some (x1, t50.2)) else ((mf_Mo_close_40 n) t50.2 (x1 + 1)))))
def mf_Mo_close (g : qa_St) : qa_Re := (if (g 0 15) = 0 then (if (g 0 4) = 0 then (some ((10 : Int32), g)) else (if (0 : Int32) < 0 ∨ 10 ≤ (0 : Int32).toNatClampNeg then none else (if 0 ≤ (g 5 (0 : Int32).toNatClampNeg) then (some ((10 : Int32), g)) else (if (0 : Int32) < 0 ∨ 10 ≤ (0 : Int32).toNatClampNeg then none else (if (g 6 (0 : Int32).toNatClampNeg) = (1 : Int32) then (mf_Mo_close_40 4096 g (0 : Int32)) else (some ((10 : Int32), g))))))) else (some ((-1 : Int32), g)))
set_option maxHeartbeats 4000000 in
set_option maxRecDepth 100000 in
theorem mc_Mo_close (l : Launch) (D : va_G) (cI cJ cF cZ : ClassId) (ad : Nat → Nat) (g : qa_St) : qa_Mi l y_Mo_close (qa_ws y_Mo_close b_Mo_close 2 (some .int)) (qa_rm 5 122) D (qa_ty cI cJ cF cZ) 33 ad (me_en cI cZ ad) [.ref (ad 0)] g (mf_Mo_close g) := by
  refine qa_meti (by decide) (Nat.le_of_ble_eq_true rfl) ?_
  intro p e s m args below meth c Q A T S hK hN hA hT ret ls hl hO
  have hx := S.1
  have hb := S.2.1
  have hl : lv_has ls 2 [(0, .ref (ad 0))] := hl
  have b40 : ∀ (n : Nat), ∀ (g : qa_St) (x1 : Int32) (ls : Array Slot) (H : Heap) (locs : List Loc), lv_has ls 2 [(0, .ref (ad 0)), (1, .int x1)] → qa_O D 33 ad (me_en cI cZ ad) A s.heap g H locs → mf_Mo_close_40 n g x1 = some T → W p l e (qa_rm 5 122) s m args below meth c H locs 0 0 Q (F0 m 40 ls []) := by
    intro n
    induction n with
    | zero => intro g x1 ls H locs hl hO hT; rw [mf_Mo_close_40] at hT; cases hT
    | succ n ih =>
      intro g x1 ls H locs hl hO hT
      rw [mf_Mo_close_40] at hT
      refine lv_iload_n hx hb d_Mo_close_40 rfl (lv_at hl 1 rfl) ?_
      refine lv_aload_n hx hb d_Mo_close_41 rfl (lv_at hl 0 rfl) ?_
      refine qa_get S hK hO hi_Mo 0 (by decide) rfl rfl 4 (by decide) lf_Mo_129 rfl rfl d_Mo_close_42 ?_
      refine lv_icmp_ge (tgt := 64) hx hb d_Mo_close_45 (by decide) (fun h => ?_) (fun h => ?_)
      · have hT := qa_t hT h
        refine lv_aload_n hx hb d_Mo_close_64 rfl (lv_at hl 0 rfl) ?_
        refine lv_iconst (v := 1) hx hb d_Mo_close_65 (by decide) ?_
        refine qa_put S hK hO hi_Mo t_Mo t_Mo_ok n_Mo 0 (by decide) rfl rfl 15 (by decide) lf_Mo_107 rfl rfl (ty := .boolean) (by decide +kernel) rfl rfl (Nat.le_of_ble_eq_true rfl) rfl d_Mo_close_66 (fun H locs hO => ?_)
        refine lv_aload_n hx hb d_Mo_close_69 rfl (lv_at hl 0 rfl) ?_
        obtain ⟨t70, ht70, hT⟩ := qa_b hT
        refine qa_Vv (As := []) (rest := []) (r := 0) S hK hN hA hO (mc_Mo_spread l D cI cJ cF cZ ad (qa_up g 0 15 (1 : Int32))) ht70 qy_Mo_spread lm_Mo_190 ⟨by decide, by decide⟩ (by decide) rfl rfl rfl rfl hl.1 rfl (Nat.le_of_ble_eq_true rfl) d_Mo_close_70 (fun H locs hO => ?_)
        refine lv_iconst (v := -1) hx hb d_Mo_close_73 (by decide) ?_
        exact ret hT hO d_Mo_close_74
      · have hT := qa_f hT h
        refine lv_aload_n hx hb d_Mo_close_48 rfl (lv_at hl 0 rfl) ?_
        refine lv_iload_n hx hb d_Mo_close_49 rfl (lv_at hl 1 rfl) ?_
        obtain ⟨t50, ht50, hT⟩ := qa_b hT
        refine qa_Vi (As := [.int x1]) (rest := []) (r := 0) S hK hN hA hO (mc_Mo_sound l D cI cJ cF cZ ad g x1) ht50 qy_Mo_sound lm_Mo_186 ⟨by decide, by decide⟩ (by decide) rfl rfl rfl rfl hl.1 rfl (Nat.le_of_ble_eq_true rfl) d_Mo_close_50 (fun H locs hO => ?_)
        refine lv_if_ne (tgt := 58) hx hb d_Mo_close_53 (by decide) (fun h => ?_) (fun h => ?_)
        · have hT := qa_f hT h
          refine lv_iinc (lv' := [(1, .int (x1 + 1)), (0, .ref (ad 0))]) hx hb d_Mo_close_58 hl (k := 1) rfl (qa_o1 _) (by decide) rfl (fun ls hl => ?_)
          refine lv_goto (tgt := 40) hx hb d_Mo_close_61 (by decide) ?_
          exact ih t50.2 (x1 + 1) _ _ _ (lv_sub hl [1, 0] rfl) hO hT
        · have hT := qa_t hT h
          refine lv_iload_n hx hb d_Mo_close_56 rfl (lv_at hl 1 rfl) ?_
          exact ret hT hO d_Mo_close_57
  unfold mf_Mo_close at hT
  refine lv_aload_n hx hb d_Mo_close_0 rfl (lv_at hl 0 rfl) ?_
  refine qa_get S hK hO hi_Mo 0 (by decide) rfl rfl 15 (by decide) lf_Mo_107 rfl rfl d_Mo_close_1 ?_
  refine lv_if_eq (tgt := 9) hx hb d_Mo_close_4 (by decide) (fun h => ?_) (fun h => ?_)
  · have hT := qa_t hT h
    refine lv_aload_n hx hb d_Mo_close_9 rfl (lv_at hl 0 rfl) ?_
    refine qa_get S hK hO hi_Mo 0 (by decide) rfl rfl 4 (by decide) lf_Mo_129 rfl rfl d_Mo_close_10 ?_
    refine lv_if_eq (tgt := 35) hx hb d_Mo_close_13 (by decide) (fun h => ?_) (fun h => ?_)
    · have hT := qa_t hT h
      refine lv_bipush (v := 10) hx hb d_Mo_close_35 (by decide) ?_
      exact ret hT hO d_Mo_close_37
    · have hT := qa_f hT h
      refine lv_aload_n hx hb d_Mo_close_16 rfl (lv_at hl 0 rfl) ?_
      refine qa_get S hK hO hi_Mo 0 (by decide) rfl rfl 6 (by decide) lf_Mo_22 rfl rfl d_Mo_close_17 ?_
      refine lv_iconst (v := 0) hx hb d_Mo_close_20 (by decide) ?_
      obtain ⟨hi21, hT⟩ := qa_c hT
      refine qa_iald (n := 10) S hK hO 5 (by decide) 0 (me_arr rfl) rfl hi21 d_Mo_close_21 ?_
      refine lv_if_ge (tgt := 35) hx hb d_Mo_close_22 (by decide) (fun h => ?_) (fun h => ?_)
      · have hT := qa_t hT h
        refine lv_bipush (v := 10) hx hb d_Mo_close_35 (by decide) ?_
        exact ret hT hO d_Mo_close_37
      · have hT := qa_f hT h
        refine lv_aload_n hx hb d_Mo_close_25 rfl (lv_at hl 0 rfl) ?_
        refine qa_get S hK hO hi_Mo 0 (by decide) rfl rfl 7 (by decide) lf_Mo_25 rfl rfl d_Mo_close_26 ?_
        refine lv_iconst (v := 0) hx hb d_Mo_close_29 (by decide) ?_
        obtain ⟨hi30, hT⟩ := qa_c hT
        refine qa_iald (n := 10) S hK hO 6 (by decide) 0 (me_arr rfl) rfl hi30 d_Mo_close_30 ?_
        refine lv_iconst (v := 1) hx hb d_Mo_close_31 (by decide) ?_
        refine lv_icmp_eq (tgt := 38) hx hb d_Mo_close_32 (by decide) (fun h => ?_) (fun h => ?_)
        · have hT := qa_t hT h
          refine lv_iconst (v := 0) hx hb d_Mo_close_38 (by decide) ?_
          refine lv_istore_n (lv' := [(1, .int (0 : Int32)), (0, .ref (ad 0))]) hx hb d_Mo_close_39 rfl hl (by decide) rfl (fun ls hl => ?_)
          exact b40 4096 g (0 : Int32) _ _ _ (lv_sub hl [1, 0] rfl) hO hT
        · have hT := qa_f hT h
          refine lv_bipush (v := 10) hx hb d_Mo_close_35 (by decide) ?_
          exact ret hT hO d_Mo_close_37
  · have hT := qa_f hT h
    refine lv_iconst (v := -1) hx hb d_Mo_close_7 (by decide) ?_
    exact ret hT hO d_Mo_close_8
def mf_Mo_reachedAt (g : qa_St) (x1 : Int32) (x2 : Int32) : qa_Re := (if (g 0 15) = 0 then (some ((0 : Int32), g)) else ((mf_Mo_within g x1 ((g 0 4) - (1 : Int32))).bind fun t14 => (if t14.1 = 0 then (some ((0 : Int32), t14.2)) else ((mf_Mo_within t14.2 x2 (19 : Int32)).bind fun t23 => (if t23.1 = 0 then (some ((0 : Int32), t23.2)) else (if (((20 : Int32) * x1) + x2) < 0 ∨ 200 ≤ (((20 : Int32) * x1) + x2).toNatClampNeg then none else (if (t23.2 14 (((20 : Int32) * x1) + x2).toNatClampNeg) = 0 then (some ((0 : Int32), t23.2)) else (some ((1 : Int32), t23.2)))))))))
set_option maxHeartbeats 4000000 in
set_option maxRecDepth 100000 in
theorem mc_Mo_reachedAt (l : Launch) (D : va_G) (cI cJ cF cZ : ClassId) (ad : Nat → Nat) (g : qa_St) (x1 : Int32) (x2 : Int32) : qa_Mi l y_Mo_reachedAt (qa_ws y_Mo_reachedAt b_Mo_reachedAt 3 (some .boolean)) (qa_rm 1 21) D (qa_ty cI cJ cF cZ) 33 ad (me_en cI cZ ad) [.ref (ad 0), .int x1, .int x2] g (mf_Mo_reachedAt g x1 x2) := by
  refine qa_metz (by decide) (Nat.le_of_ble_eq_true rfl) ?_
  intro p e s m args below meth c Q A T S hK hN hA hT ret ls hl hO
  have hx := S.1
  have hb := S.2.1
  have hl : lv_has ls 3 [(0, .ref (ad 0)), (1, .int x1), (2, .int x2)] := hl
  unfold mf_Mo_reachedAt at hT
  refine lv_aload_n hx hb d_Mo_reachedAt_0 rfl (lv_at hl 0 rfl) ?_
  refine qa_get S hK hO hi_Mo 0 (by decide) rfl rfl 15 (by decide) lf_Mo_107 rfl rfl d_Mo_reachedAt_1 ?_
  refine lv_if_eq (tgt := 47) hx hb d_Mo_reachedAt_4 (by decide) (fun h => ?_) (fun h => ?_)
  · have hT := qa_t hT h
    refine lv_iconst (v := 0) hx hb d_Mo_reachedAt_47 (by decide) ?_
    exact ret (by decide) hT hO d_Mo_reachedAt_48
  · have hT := qa_f hT h
    refine lv_iload_n hx hb d_Mo_reachedAt_7 rfl (lv_at hl 1 rfl) ?_
    refine lv_aload_n hx hb d_Mo_reachedAt_8 rfl (lv_at hl 0 rfl) ?_
    refine qa_get S hK hO hi_Mo 0 (by decide) rfl rfl 4 (by decide) lf_Mo_129 rfl rfl d_Mo_reachedAt_9 ?_
    refine lv_iconst (v := 1) hx hb d_Mo_reachedAt_12 (by decide) ?_
    refine lv_isub hx hb d_Mo_reachedAt_13 ?_
    obtain ⟨t14, ht14, hT⟩ := qa_b hT
    refine qa_Si (As := [.int x1, .int ((g 0 4) - (1 : Int32))]) (rest := []) S hK hN hA hO (mc_Mo_within l D cI cJ cF cZ ad g x1 ((g 0 4) - (1 : Int32))) ht14 qy_Mo_within lm_Mo_118 ⟨by decide, by decide⟩ rfl hl.1 rfl (Nat.le_of_ble_eq_true rfl) d_Mo_reachedAt_14 (fun H locs hO => ?_)
    refine lv_if_eq (tgt := 47) hx hb d_Mo_reachedAt_17 (by decide) (fun h => ?_) (fun h => ?_)
    · have hT := qa_t hT h
      refine lv_iconst (v := 0) hx hb d_Mo_reachedAt_47 (by decide) ?_
      exact ret (by decide) hT hO d_Mo_reachedAt_48
    · have hT := qa_f hT h
      refine lv_iload_n hx hb d_Mo_reachedAt_20 rfl (lv_at hl 2 rfl) ?_
      refine lv_bipush (v := 19) hx hb d_Mo_reachedAt_21 (by decide) ?_
      obtain ⟨t23, ht23, hT⟩ := qa_b hT
      refine qa_Si (As := [.int x2, .int (19 : Int32)]) (rest := []) S hK hN hA hO (mc_Mo_within l D cI cJ cF cZ ad t14.2 x2 (19 : Int32)) ht23 qy_Mo_within lm_Mo_118 ⟨by decide, by decide⟩ rfl hl.1 rfl (Nat.le_of_ble_eq_true rfl) d_Mo_reachedAt_23 (fun H locs hO => ?_)
      refine lv_if_eq (tgt := 47) hx hb d_Mo_reachedAt_26 (by decide) (fun h => ?_) (fun h => ?_)
      · have hT := qa_t hT h
        refine lv_iconst (v := 0) hx hb d_Mo_reachedAt_47 (by decide) ?_
        exact ret (by decide) hT hO d_Mo_reachedAt_48
      · have hT := qa_f hT h
        refine lv_aload_n hx hb d_Mo_reachedAt_29 rfl (lv_at hl 0 rfl) ?_
        refine qa_get S hK hO hi_Mo 0 (by decide) rfl rfl 16 (by decide) lf_Mo_49 rfl rfl d_Mo_reachedAt_30 ?_
        refine lv_bipush (v := 20) hx hb d_Mo_reachedAt_33 (by decide) ?_
        refine lv_iload_n hx hb d_Mo_reachedAt_35 rfl (lv_at hl 1 rfl) ?_
        refine lv_imul hx hb d_Mo_reachedAt_36 ?_
        refine lv_iload_n hx hb d_Mo_reachedAt_37 rfl (lv_at hl 2 rfl) ?_
        refine lv_iadd hx hb d_Mo_reachedAt_38 ?_
        obtain ⟨hi39, hT⟩ := qa_c hT
        refine qa_zald (n := 200) S hK hO 14 (by decide) 3 (me_zar rfl) rfl hi39 d_Mo_reachedAt_39 ?_
        refine lv_if_eq (tgt := 47) hx hb d_Mo_reachedAt_40 (by decide) (fun h => ?_) (fun h => ?_)
        · have hT := qa_t hT h
          refine lv_iconst (v := 0) hx hb d_Mo_reachedAt_47 (by decide) ?_
          exact ret (by decide) hT hO d_Mo_reachedAt_48
        · have hT := qa_f hT h
          refine lv_iconst (v := 1) hx hb d_Mo_reachedAt_43 (by decide) ?_
          refine lv_goto (tgt := 48) hx hb d_Mo_reachedAt_44 (by decide) ?_
          exact ret (by decide) hT hO d_Mo_reachedAt_48
def mf_Mo_typeAt (g : qa_St) (x1 : Int32) (x2 : Int32) (x3 : Int32) : qa_Re := ((mf_Mo_reachedAt g x1 x2).bind fun t3 => (if t3.1 = 0 then (some ((-1 : Int32), t3.2)) else (if (((20 : Int32) * x1) + x2) < 0 ∨ 200 ≤ (((20 : Int32) * x1) + x2).toNatClampNeg then none else ((mf_Mo_within t3.2 x3 ((3 : Int32) + (t3.2 15 (((20 : Int32) * x1) + x2).toNatClampNeg))).bind fun t23 => (if t23.1 = 0 then (some ((-1 : Int32), t23.2)) else (if (((10 : Int32) * (((20 : Int32) * x1) + x2)) + x3) < 0 ∨ 2000 ≤ (((10 : Int32) * (((20 : Int32) * x1) + x2)) + x3).toNatClampNeg then none else (some ((t23.2 16 (((10 : Int32) * (((20 : Int32) * x1) + x2)) + x3).toNatClampNeg), t23.2))))))))
set_option maxHeartbeats 4000000 in
set_option maxRecDepth 100000 in
theorem mc_Mo_typeAt (l : Launch) (D : va_G) (cI cJ cF cZ : ClassId) (ad : Nat → Nat) (g : qa_St) (x1 : Int32) (x2 : Int32) (x3 : Int32) : qa_Mi l y_Mo_typeAt (qa_ws y_Mo_typeAt b_Mo_typeAt 4 (some .int)) (qa_rm 2 43) D (qa_ty cI cJ cF cZ) 33 ad (me_en cI cZ ad) [.ref (ad 0), .int x1, .int x2, .int x3] g (mf_Mo_typeAt g x1 x2 x3) := by
  refine qa_meti (by decide) (Nat.le_of_ble_eq_true rfl) ?_
  intro p e s m args below meth c Q A T S hK hN hA hT ret ls hl hO
  have hx := S.1
  have hb := S.2.1
  have hl : lv_has ls 4 [(0, .ref (ad 0)), (1, .int x1), (2, .int x2), (3, .int x3)] := hl
  unfold mf_Mo_typeAt at hT
  refine lv_aload_n hx hb d_Mo_typeAt_0 rfl (lv_at hl 0 rfl) ?_
  refine lv_iload_n hx hb d_Mo_typeAt_1 rfl (lv_at hl 1 rfl) ?_
  refine lv_iload_n hx hb d_Mo_typeAt_2 rfl (lv_at hl 2 rfl) ?_
  obtain ⟨t3, ht3, hT⟩ := qa_b hT
  refine qa_Vi (As := [.int x1, .int x2]) (rest := []) (r := 0) S hK hN hA hO (mc_Mo_reachedAt l D cI cJ cF cZ ad g x1 x2) ht3 qy_Mo_reachedAt lm_Mo_193 ⟨by decide, by decide⟩ (by decide) rfl rfl rfl rfl hl.1 rfl (Nat.le_of_ble_eq_true rfl) d_Mo_typeAt_3 (fun H locs hO => ?_)
  refine lv_if_eq (tgt := 29) hx hb d_Mo_typeAt_6 (by decide) (fun h => ?_) (fun h => ?_)
  · have hT := qa_t hT h
    refine lv_iconst (v := -1) hx hb d_Mo_typeAt_29 (by decide) ?_
    exact ret hT hO d_Mo_typeAt_30
  · have hT := qa_f hT h
    refine lv_iload_n hx hb d_Mo_typeAt_9 rfl (lv_at hl 3 rfl) ?_
    refine lv_iconst (v := 3) hx hb d_Mo_typeAt_10 (by decide) ?_
    refine lv_aload_n hx hb d_Mo_typeAt_11 rfl (lv_at hl 0 rfl) ?_
    refine qa_get S hK hO hi_Mo 0 (by decide) rfl rfl 17 (by decide) lf_Mo_53 rfl rfl d_Mo_typeAt_12 ?_
    refine lv_bipush (v := 20) hx hb d_Mo_typeAt_15 (by decide) ?_
    refine lv_iload_n hx hb d_Mo_typeAt_17 rfl (lv_at hl 1 rfl) ?_
    refine lv_imul hx hb d_Mo_typeAt_18 ?_
    refine lv_iload_n hx hb d_Mo_typeAt_19 rfl (lv_at hl 2 rfl) ?_
    refine lv_iadd hx hb d_Mo_typeAt_20 ?_
    obtain ⟨hi21, hT⟩ := qa_c hT
    refine qa_iald (n := 200) S hK hO 15 (by decide) 0 (me_arr rfl) rfl hi21 d_Mo_typeAt_21 ?_
    refine lv_iadd hx hb d_Mo_typeAt_22 ?_
    obtain ⟨t23, ht23, hT⟩ := qa_b hT
    refine qa_Si (As := [.int x3, .int ((3 : Int32) + (t3.2 15 (((20 : Int32) * x1) + x2).toNatClampNeg))]) (rest := []) S hK hN hA hO (mc_Mo_within l D cI cJ cF cZ ad t3.2 x3 ((3 : Int32) + (t3.2 15 (((20 : Int32) * x1) + x2).toNatClampNeg))) ht23 qy_Mo_within lm_Mo_118 ⟨by decide, by decide⟩ rfl hl.1 rfl (Nat.le_of_ble_eq_true rfl) d_Mo_typeAt_23 (fun H locs hO => ?_)
    refine lv_if_ne (tgt := 31) hx hb d_Mo_typeAt_26 (by decide) (fun h => ?_) (fun h => ?_)
    · have hT := qa_f hT h
      refine lv_aload_n hx hb d_Mo_typeAt_31 rfl (lv_at hl 0 rfl) ?_
      refine qa_get S hK hO hi_Mo 0 (by decide) rfl rfl 18 (by decide) lf_Mo_56 rfl rfl d_Mo_typeAt_32 ?_
      refine lv_bipush (v := 10) hx hb d_Mo_typeAt_35 (by decide) ?_
      refine lv_bipush (v := 20) hx hb d_Mo_typeAt_37 (by decide) ?_
      refine lv_iload_n hx hb d_Mo_typeAt_39 rfl (lv_at hl 1 rfl) ?_
      refine lv_imul hx hb d_Mo_typeAt_40 ?_
      refine lv_iload_n hx hb d_Mo_typeAt_41 rfl (lv_at hl 2 rfl) ?_
      refine lv_iadd hx hb d_Mo_typeAt_42 ?_
      refine lv_imul hx hb d_Mo_typeAt_43 ?_
      refine lv_iload_n hx hb d_Mo_typeAt_44 rfl (lv_at hl 3 rfl) ?_
      refine lv_iadd hx hb d_Mo_typeAt_45 ?_
      obtain ⟨hi46, hT⟩ := qa_c hT
      refine qa_iald (n := 2000) S hK hO 16 (by decide) 0 (me_arr rfl) rfl hi46 d_Mo_typeAt_46 ?_
      exact ret hT hO d_Mo_typeAt_47
    · have hT := qa_t hT h
      refine lv_iconst (v := -1) hx hb d_Mo_typeAt_29 (by decide) ?_
      exact ret hT hO d_Mo_typeAt_30
def mf_Mo_live (g : qa_St) (x1 : Int32) : qa_Re := (if (g 0 15) = 0 then (some ((0 : Int32), g)) else ((mf_Mo_within g x1 ((g 0 4) - (1 : Int32))).bind fun t14 => (if t14.1 = 0 then (some ((0 : Int32), t14.2)) else (if x1 < 0 ∨ 10 ≤ x1.toNatClampNeg then none else (if (t14.2 18 x1.toNatClampNeg) = 0 then (some ((0 : Int32), t14.2)) else (some ((1 : Int32), t14.2)))))))
set_option maxHeartbeats 4000000 in
set_option maxRecDepth 100000 in
theorem mc_Mo_live (l : Launch) (D : va_G) (cI cJ cF cZ : ClassId) (ad : Nat → Nat) (g : qa_St) (x1 : Int32) : qa_Mi l y_Mo_live (qa_ws y_Mo_live b_Mo_live 2 (some .boolean)) (qa_rm 1 21) D (qa_ty cI cJ cF cZ) 33 ad (me_en cI cZ ad) [.ref (ad 0), .int x1] g (mf_Mo_live g x1) := by
  refine qa_metz (by decide) (Nat.le_of_ble_eq_true rfl) ?_
  intro p e s m args below meth c Q A T S hK hN hA hT ret ls hl hO
  have hx := S.1
  have hb := S.2.1
  have hl : lv_has ls 2 [(0, .ref (ad 0)), (1, .int x1)] := hl
  unfold mf_Mo_live at hT
  refine lv_aload_n hx hb d_Mo_live_0 rfl (lv_at hl 0 rfl) ?_
  refine qa_get S hK hO hi_Mo 0 (by decide) rfl rfl 15 (by decide) lf_Mo_107 rfl rfl d_Mo_live_1 ?_
  refine lv_if_eq (tgt := 33) hx hb d_Mo_live_4 (by decide) (fun h => ?_) (fun h => ?_)
  · have hT := qa_t hT h
    refine lv_iconst (v := 0) hx hb d_Mo_live_33 (by decide) ?_
    exact ret (by decide) hT hO d_Mo_live_34
  · have hT := qa_f hT h
    refine lv_iload_n hx hb d_Mo_live_7 rfl (lv_at hl 1 rfl) ?_
    refine lv_aload_n hx hb d_Mo_live_8 rfl (lv_at hl 0 rfl) ?_
    refine qa_get S hK hO hi_Mo 0 (by decide) rfl rfl 4 (by decide) lf_Mo_129 rfl rfl d_Mo_live_9 ?_
    refine lv_iconst (v := 1) hx hb d_Mo_live_12 (by decide) ?_
    refine lv_isub hx hb d_Mo_live_13 ?_
    obtain ⟨t14, ht14, hT⟩ := qa_b hT
    refine qa_Si (As := [.int x1, .int ((g 0 4) - (1 : Int32))]) (rest := []) S hK hN hA hO (mc_Mo_within l D cI cJ cF cZ ad g x1 ((g 0 4) - (1 : Int32))) ht14 qy_Mo_within lm_Mo_118 ⟨by decide, by decide⟩ rfl hl.1 rfl (Nat.le_of_ble_eq_true rfl) d_Mo_live_14 (fun H locs hO => ?_)
    refine lv_if_eq (tgt := 33) hx hb d_Mo_live_17 (by decide) (fun h => ?_) (fun h => ?_)
    · have hT := qa_t hT h
      refine lv_iconst (v := 0) hx hb d_Mo_live_33 (by decide) ?_
      exact ret (by decide) hT hO d_Mo_live_34
    · have hT := qa_f hT h
      refine lv_aload_n hx hb d_Mo_live_20 rfl (lv_at hl 0 rfl) ?_
      refine qa_get S hK hO hi_Mo 0 (by decide) rfl rfl 23 (by decide) lf_Mo_62 rfl rfl d_Mo_live_21 ?_
      refine lv_iload_n hx hb d_Mo_live_24 rfl (lv_at hl 1 rfl) ?_
      obtain ⟨hi25, hT⟩ := qa_c hT
      refine qa_zald (n := 10) S hK hO 18 (by decide) 3 (me_zar rfl) rfl hi25 d_Mo_live_25 ?_
      refine lv_if_eq (tgt := 33) hx hb d_Mo_live_26 (by decide) (fun h => ?_) (fun h => ?_)
      · have hT := qa_t hT h
        refine lv_iconst (v := 0) hx hb d_Mo_live_33 (by decide) ?_
        exact ret (by decide) hT hO d_Mo_live_34
      · have hT := qa_f hT h
        refine lv_iconst (v := 1) hx hb d_Mo_live_29 (by decide) ?_
        refine lv_goto (tgt := 34) hx hb d_Mo_live_30 (by decide) ?_
        exact ret (by decide) hT hO d_Mo_live_34
