def mf_Mo_call_156 (k126 : qa_St → Int32 → Int32 → Int32 → Int32 → qa_Re) (g : qa_St) (x1 : Int32) (x4 : Int32) (x5 : Int32) (x8 : Int32) : qa_Re := (k126 g x1 x4 x5 (x8 + 1))
def mf_Mo_call_126 : Nat → qa_St → Int32 → Int32 → Int32 → Int32 → qa_Re
  | 0, _, _, _, _, _ => none
  | n + 1, g, x1, x4, x5, x8 => (if x4 ≤ x8 then (some (0, g)) else (if (x5 + x8) < 0 ∨ 60 ≤ (x5 + x8).toNatClampNeg then none else (if ((((4 : Int32) * x1) + (4 : Int32)) + x8) < 0 ∨ 40 ≤ ((((4 : Int32) * x1) + (4 : Int32)) + x8).toNatClampNeg then none else (mf_Mo_call_156 (mf_Mo_call_126 n) (qa_up g 26 ((((4 : Int32) * x1) + (4 : Int32)) + x8).toNatClampNeg (g 27 (x5 + x8).toNatClampNeg)) x1 x4 x5 x8))))
def mf_Mo_call_114 (g : qa_St) (x1 : Int32) (x4 : Int32) (x5 : Int32) (s0 : Int32) : qa_Re := ((mf_Mo_enter g s0 (0 : Int32)).bind fun t120 => (mf_Mo_call_126 4096 t120.2 x1 x4 x5 (0 : Int32)))
def mf_Mo_call_83 (g : qa_St) (s0 : Int32) : qa_Re := ((mf_Mo_raise g s0).bind fun t83 => (some (0, t83.2)))
def mf_Mo_call_71 (g : qa_St) (x6 : Int32) : qa_Re := (if x6 = 0 then (mf_Mo_call_83 g (-5 : Int32)) else (mf_Mo_call_83 g (-1 : Int32)))
def mf_Mo_call_55 (g : qa_St) (x1 : Int32) (x2 : Int32) (x3 : Int32) (x4 : Int32) (x5 : Int32) (s0 : Int32) : qa_Re := (if s0 = 0 then (if (g 0 32) = (10 : Int32) then (mf_Mo_call_71 g s0) else (if x2 = (16 : Int32) then (mf_Mo_call_114 g x1 x4 x5 x3) else (if x5 < 0 ∨ 60 ≤ x5.toNatClampNeg then none else (if (g 27 x5.toNatClampNeg) < 0 ∨ 16 ≤ (g 27 x5.toNatClampNeg).toNatClampNeg then none else ((mf_Mo_answer g (g 28 (g 27 x5.toNatClampNeg).toNatClampNeg) x3).bind fun t111 => (mf_Mo_call_114 t111.2 x1 x4 x5 t111.1)))))) else (mf_Mo_call_71 g s0))
def mf_Mo_call_54 (g : qa_St) (x1 : Int32) (x2 : Int32) (x3 : Int32) (x4 : Int32) (x5 : Int32) : qa_Re := (mf_Mo_call_55 g x1 x2 x3 x4 x5 (0 : Int32))
def mf_Mo_call_47 (g : qa_St) (x1 : Int32) (x2 : Int32) (x3 : Int32) (x4 : Int32) (x5 : Int32) (s0 : Int32) : qa_Re := (if 0 ≤ s0 then (mf_Mo_call_54 g x1 x2 x3 x4 x5) else (mf_Mo_call_55 g x1 x2 x3 x4 x5 (1 : Int32)))
def mf_Mo_call_16 (g : qa_St) (x1 : Int32) (x2 : Int32) (x3 : Int32) (s0 : Int32) : qa_Re := (if x1 < 0 ∨ 10 ≤ x1.toNatClampNeg then none else (if x2 = (17 : Int32) then (if ((((6 : Int32) * x1) + (g 23 x1.toNatClampNeg)) - s0) < 0 ∨ 60 ≤ ((((6 : Int32) * x1) + (g 23 x1.toNatClampNeg)) - s0).toNatClampNeg then none else (mf_Mo_call_47 g x1 x2 x3 s0 ((((6 : Int32) * x1) + (g 23 x1.toNatClampNeg)) - s0) (g 27 ((((6 : Int32) * x1) + (g 23 x1.toNatClampNeg)) - s0).toNatClampNeg))) else (mf_Mo_call_54 g x1 x2 x3 s0 ((((6 : Int32) * x1) + (g 23 x1.toNatClampNeg)) - s0))))
def mf_Mo_call (g : qa_St) (x1 : Int32) (x2 : Int32) (x3 : Int32) : qa_Re := (if x2 = (16 : Int32) then (if x3 < 0 ∨ 10 ≤ x3.toNatClampNeg then none else (mf_Mo_call_16 g x1 x2 x3 (g 6 x3.toNatClampNeg))) else (mf_Mo_call_16 g x1 x2 x3 (2 : Int32)))
set_option maxHeartbeats 4000000 in
set_option maxRecDepth 100000 in
theorem mc_Mo_call (l : Launch) (D : va_G) (cI cJ cF cZ : ClassId) (ad : Nat → Nat) (g : qa_St) (x1 : Int32) (x2 : Int32) (x3 : Int32) : qa_Mv l y_Mo_call (qa_ws y_Mo_call b_Mo_call 9 none) (qa_rm 2 47) D (qa_ty cI cJ cF cZ) 33 ad (me_en cI cZ ad) [.ref (ad 0), .int x1, .int x2, .int x3] g (mf_Mo_call g x1 x2 x3) := by
  refine qa_metv (by decide) (Nat.le_of_ble_eq_true rfl) ?_
  intro p e s m args below meth c Q A T S hK hN hA hT ret ls hl hO
  have hx := S.1
  have hb := S.2.1
  have hl : lv_has ls 9 [(0, .ref (ad 0)), (1, .int x1), (2, .int x2), (3, .int x3)] := hl
  have b156 : ∀ (k126 : qa_St → Int32 → Int32 → Int32 → Int32 → qa_Re) (hk126 : ∀ (g : qa_St) (x1 : Int32) (x4 : Int32) (x5 : Int32) (x8 : Int32) (ls : Array Slot) (H : Heap) (locs : List Loc), lv_has ls 9 [(0, .ref (ad 0)), (1, .int x1), (4, .int x4), (5, .int x5), (8, .int x8)] → qa_O D 33 ad (me_en cI cZ ad) A s.heap g H locs → k126 g x1 x4 x5 x8 = some T → W p l e (qa_rm 2 47) s m args below meth c H locs 0 0 Q (F0 m 126 ls [])), ∀ (g : qa_St) (x1 : Int32) (x4 : Int32) (x5 : Int32) (x8 : Int32) (ls : Array Slot) (H : Heap) (locs : List Loc), lv_has ls 9 [(0, .ref (ad 0)), (1, .int x1), (4, .int x4), (5, .int x5), (8, .int x8)] → qa_O D 33 ad (me_en cI cZ ad) A s.heap g H locs → mf_Mo_call_156 k126 g x1 x4 x5 x8 = some T → W p l e (qa_rm 2 47) s m args below meth c H locs 0 0 Q (F0 m 156 ls []) := by
    intro k126 hk126
    intro g x1 x4 x5 x8 ls H locs hl hO hT
    unfold mf_Mo_call_156 at hT
    refine lv_iinc (lv' := [(8, .int (x8 + 1)), (0, .ref (ad 0)), (1, .int x1), (4, .int x4), (5, .int x5)]) hx hb d_Mo_call_156 hl (k := 4) rfl (qa_o1 _) (by decide) rfl (fun ls hl => ?_)
    refine lv_goto (tgt := 126) hx hb d_Mo_call_159 (by decide) ?_
    exact hk126 g x1 x4 x5 (x8 + 1) _ _ _ (lv_sub hl [1, 2, 3, 4, 0] rfl) hO hT
  have b126 : ∀ (n : Nat), ∀ (g : qa_St) (x1 : Int32) (x4 : Int32) (x5 : Int32) (x8 : Int32) (ls : Array Slot) (H : Heap) (locs : List Loc), lv_has ls 9 [(0, .ref (ad 0)), (1, .int x1), (4, .int x4), (5, .int x5), (8, .int x8)] → qa_O D 33 ad (me_en cI cZ ad) A s.heap g H locs → mf_Mo_call_126 n g x1 x4 x5 x8 = some T → W p l e (qa_rm 2 47) s m args below meth c H locs 0 0 Q (F0 m 126 ls []) := by
    intro n
    induction n with
    | zero => intro g x1 x4 x5 x8 ls H locs hl hO hT; rw [mf_Mo_call_126] at hT; cases hT
    | succ n ih =>
      intro g x1 x4 x5 x8 ls H locs hl hO hT
      rw [mf_Mo_call_126] at hT
      refine lv_iload hx hb d_Mo_call_126 (lv_at hl 4 rfl) ?_
      refine lv_iload hx hb d_Mo_call_128 (lv_at hl 2 rfl) ?_
      refine lv_icmp_ge (tgt := 162) hx hb d_Mo_call_130 (by decide) (fun h => ?_) (fun h => ?_)
      · have hT := qa_t hT h
        exact ret hT hO d_Mo_call_162
      · have hT := qa_f hT h
        refine lv_aload_n hx hb d_Mo_call_133 rfl (lv_at hl 0 rfl) ?_
        refine qa_get S hK hO hi_Mo 0 (by decide) rfl rfl 38 (by decide) lf_Mo_86 rfl rfl d_Mo_call_134 ?_
        refine lv_iconst (v := 4) hx hb d_Mo_call_137 (by decide) ?_
        refine lv_iload_n hx hb d_Mo_call_138 rfl (lv_at hl 1 rfl) ?_
        refine lv_imul hx hb d_Mo_call_139 ?_
        refine lv_iconst (v := 4) hx hb d_Mo_call_140 (by decide) ?_
        refine lv_iadd hx hb d_Mo_call_141 ?_
        refine lv_iload hx hb d_Mo_call_142 (lv_at hl 4 rfl) ?_
        refine lv_iadd hx hb d_Mo_call_144 ?_
        refine lv_aload_n hx hb d_Mo_call_145 rfl (lv_at hl 0 rfl) ?_
        refine qa_get S hK hO hi_Mo 0 (by decide) rfl rfl 39 (by decide) lf_Mo_89 rfl rfl d_Mo_call_146 ?_
        refine lv_iload hx hb d_Mo_call_149 (lv_at hl 3 rfl) ?_
        refine lv_iload hx hb d_Mo_call_151 (lv_at hl 4 rfl) ?_
        refine lv_iadd hx hb d_Mo_call_153 ?_
        obtain ⟨hi154, hT⟩ := qa_c hT
        refine qa_iald (n := 60) S hK hO 27 (by decide) 0 (me_arr rfl) rfl hi154 d_Mo_call_154 ?_
        obtain ⟨hi155, hT⟩ := qa_c hT
        refine qa_iast (n := 40) S hK hO 26 (by decide) 0 (me_arr rfl) rfl hi155 d_Mo_call_155 (fun H locs hO => ?_)
        exact b156 (mf_Mo_call_126 n) ih (qa_up g 26 ((((4 : Int32) * x1) + (4 : Int32)) + x8).toNatClampNeg (g 27 (x5 + x8).toNatClampNeg)) x1 x4 x5 x8 _ _ _ (lv_sub hl [0, 1, 2, 3, 4] rfl) hO hT
  have b114 : ∀ (g : qa_St) (x1 : Int32) (x4 : Int32) (x5 : Int32) (s0 : Int32) (ls : Array Slot) (H : Heap) (locs : List Loc), lv_has ls 9 [(0, .ref (ad 0)), (1, .int x1), (4, .int x4), (5, .int x5)] → qa_O D 33 ad (me_en cI cZ ad) A s.heap g H locs → mf_Mo_call_114 g x1 x4 x5 s0 = some T → W p l e (qa_rm 2 47) s m args below meth c H locs 0 0 Q (F0 m 114 ls [.int s0]) := by
    intro g x1 x4 x5 s0 ls H locs hl hO hT
    unfold mf_Mo_call_114 at hT
    refine lv_istore (lv' := [(7, .int s0), (0, .ref (ad 0)), (1, .int x1), (4, .int x4), (5, .int x5)]) hx hb d_Mo_call_114 hl (by decide) rfl (fun ls hl => ?_)
    refine lv_aload_n hx hb d_Mo_call_116 rfl (lv_at hl 1 rfl) ?_
    refine lv_iload hx hb d_Mo_call_117 (lv_at hl 0 rfl) ?_
    refine lv_iconst (v := 0) hx hb d_Mo_call_119 (by decide) ?_
    obtain ⟨t120, ht120, hT⟩ := qa_b hT
    refine qa_Vv (As := [.int s0, .int (0 : Int32)]) (rest := []) (r := 0) S hK hN hA hO (mc_Mo_enter l D cI cJ cF cZ ad g s0 (0 : Int32)) ht120 qy_Mo_enter lm_Mo_247 ⟨by decide, by decide⟩ (by decide) rfl rfl rfl rfl hl.1 rfl (Nat.le_of_ble_eq_true rfl) d_Mo_call_120 (fun H locs hO => ?_)
    refine lv_iconst (v := 0) hx hb d_Mo_call_123 (by decide) ?_
    refine lv_istore (lv' := [(8, .int (0 : Int32)), (7, .int s0), (0, .ref (ad 0)), (1, .int x1), (4, .int x4), (5, .int x5)]) hx hb d_Mo_call_124 hl (by decide) rfl (fun ls hl => ?_)
    exact b126 4096 t120.2 x1 x4 x5 (0 : Int32) _ _ _ (lv_sub hl [2, 3, 4, 5, 0] rfl) hO hT
  have b83 : ∀ (g : qa_St) (s0 : Int32) (ls : Array Slot) (H : Heap) (locs : List Loc), lv_has ls 9 [] → qa_O D 33 ad (me_en cI cZ ad) A s.heap g H locs → mf_Mo_call_83 g s0 = some T → W p l e (qa_rm 2 47) s m args below meth c H locs 0 0 Q (F0 m 83 ls [.int s0, .ref (ad 0)]) := by
    intro g s0 ls H locs hl hO hT
    unfold mf_Mo_call_83 at hT
    obtain ⟨t83, ht83, hT⟩ := qa_b hT
    refine qa_Vv (As := [.int s0]) (rest := []) (r := 0) S hK hN hA hO (mc_Mo_raise l D cI cJ cF cZ ad g s0) ht83 qy_Mo_raise lm_Mo_251 ⟨by decide, by decide⟩ (by decide) rfl rfl rfl rfl hl.1 rfl (Nat.le_of_ble_eq_true rfl) d_Mo_call_83 (fun H locs hO => ?_)
    exact ret hT hO d_Mo_call_86
  have b71 : ∀ (g : qa_St) (x6 : Int32) (ls : Array Slot) (H : Heap) (locs : List Loc), lv_has ls 9 [(0, .ref (ad 0)), (6, .int x6)] → qa_O D 33 ad (me_en cI cZ ad) A s.heap g H locs → mf_Mo_call_71 g x6 = some T → W p l e (qa_rm 2 47) s m args below meth c H locs 0 0 Q (F0 m 71 ls []) := by
    intro g x6 ls H locs hl hO hT
    unfold mf_Mo_call_71 at hT
    refine lv_aload_n hx hb d_Mo_call_71 rfl (lv_at hl 0 rfl) ?_
    refine lv_iload hx hb d_Mo_call_72 (lv_at hl 1 rfl) ?_
    refine lv_if_eq (tgt := 81) hx hb d_Mo_call_74 (by decide) (fun h => ?_) (fun h => ?_)
    · have hT := qa_t hT h
      refine lv_bipush (v := -5) hx hb d_Mo_call_81 (by decide) ?_
      exact b83 g (-5 : Int32) _ _ _ (lv_sub hl [] rfl) hO hT
    · have hT := qa_f hT h
      refine lv_iconst (v := -1) hx hb d_Mo_call_77 (by decide) ?_
      refine lv_goto (tgt := 83) hx hb d_Mo_call_78 (by decide) ?_
      exact b83 g (-1 : Int32) _ _ _ (lv_sub hl [] rfl) hO hT
  have b55 : ∀ (g : qa_St) (x1 : Int32) (x2 : Int32) (x3 : Int32) (x4 : Int32) (x5 : Int32) (s0 : Int32) (ls : Array Slot) (H : Heap) (locs : List Loc), lv_has ls 9 [(0, .ref (ad 0)), (1, .int x1), (2, .int x2), (3, .int x3), (4, .int x4), (5, .int x5)] → qa_O D 33 ad (me_en cI cZ ad) A s.heap g H locs → mf_Mo_call_55 g x1 x2 x3 x4 x5 s0 = some T → W p l e (qa_rm 2 47) s m args below meth c H locs 0 0 Q (F0 m 55 ls [.int s0]) := by
    intro g x1 x2 x3 x4 x5 s0 ls H locs hl hO hT
    unfold mf_Mo_call_55 at hT
    refine lv_istore (lv' := [(6, .int s0), (0, .ref (ad 0)), (1, .int x1), (2, .int x2), (3, .int x3), (4, .int x4), (5, .int x5)]) hx hb d_Mo_call_55 hl (by decide) rfl (fun ls hl => ?_)
    refine lv_iload hx hb d_Mo_call_57 (lv_at hl 0 rfl) ?_
    refine lv_if_ne (tgt := 71) hx hb d_Mo_call_59 (by decide) (fun h => ?_) (fun h => ?_)
    · have hT := qa_f hT h
      exact b71 g s0 _ _ _ (lv_sub hl [1, 0] rfl) hO hT
    · have hT := qa_t hT h
      refine lv_aload_n hx hb d_Mo_call_62 rfl (lv_at hl 1 rfl) ?_
      refine qa_get S hK hO hi_Mo 0 (by decide) rfl rfl 32 (by decide) lf_Mo_226 rfl rfl d_Mo_call_63 ?_
      refine lv_bipush (v := 10) hx hb d_Mo_call_66 (by decide) ?_
      refine lv_icmp_ne (tgt := 87) hx hb d_Mo_call_68 (by decide) (fun h => ?_) (fun h => ?_)
      · have hT := qa_f hT h
        refine lv_iload_n hx hb d_Mo_call_87 rfl (lv_at hl 3 rfl) ?_
        refine lv_bipush (v := 16) hx hb d_Mo_call_88 (by decide) ?_
        refine lv_icmp_ne (tgt := 97) hx hb d_Mo_call_90 (by decide) (fun h => ?_) (fun h => ?_)
        · have hT := qa_f hT h
          refine lv_aload_n hx hb d_Mo_call_97 rfl (lv_at hl 1 rfl) ?_
          refine lv_aload_n hx hb d_Mo_call_98 rfl (lv_at hl 1 rfl) ?_
          refine qa_get S hK hO hi_Mo 0 (by decide) rfl rfl 41 (by decide) lf_Mo_92 rfl rfl d_Mo_call_99 ?_
          refine lv_aload_n hx hb d_Mo_call_102 rfl (lv_at hl 1 rfl) ?_
          refine qa_get S hK hO hi_Mo 0 (by decide) rfl rfl 39 (by decide) lf_Mo_89 rfl rfl d_Mo_call_103 ?_
          refine lv_iload hx hb d_Mo_call_106 (lv_at hl 6 rfl) ?_
          obtain ⟨hi108, hT⟩ := qa_c hT
          refine qa_iald (n := 60) S hK hO 27 (by decide) 0 (me_arr rfl) rfl hi108 d_Mo_call_108 ?_
          obtain ⟨hi109, hT⟩ := qa_c hT
          refine qa_iald (n := 16) S hK hO 28 (by decide) 0 (me_arr rfl) rfl hi109 d_Mo_call_109 ?_
          refine lv_iload_n hx hb d_Mo_call_110 rfl (lv_at hl 4 rfl) ?_
          obtain ⟨t111, ht111, hT⟩ := qa_b hT
          refine qa_Vi (As := [.int (g 28 (g 27 x5.toNatClampNeg).toNatClampNeg), .int x3]) (rest := []) (r := 0) S hK hN hA hO (mc_Mo_answer l D cI cJ cF cZ ad g (g 28 (g 27 x5.toNatClampNeg).toNatClampNeg) x3) ht111 qy_Mo_answer lm_Mo_177 ⟨by decide, by decide⟩ (by decide) rfl rfl rfl rfl hl.1 rfl (Nat.le_of_ble_eq_true rfl) d_Mo_call_111 (fun H locs hO => ?_)
          exact b114 t111.2 x1 x4 x5 t111.1 _ _ _ (lv_sub hl [1, 2, 5, 6] rfl) hO hT
        · have hT := qa_t hT h
          refine lv_iload_n hx hb d_Mo_call_93 rfl (lv_at hl 4 rfl) ?_
          refine lv_goto (tgt := 114) hx hb d_Mo_call_94 (by decide) ?_
          exact b114 g x1 x4 x5 x3 _ _ _ (lv_sub hl [1, 2, 5, 6] rfl) hO hT
      · have hT := qa_t hT h
        exact b71 g s0 _ _ _ (lv_sub hl [1, 0] rfl) hO hT
  have b54 : ∀ (g : qa_St) (x1 : Int32) (x2 : Int32) (x3 : Int32) (x4 : Int32) (x5 : Int32) (ls : Array Slot) (H : Heap) (locs : List Loc), lv_has ls 9 [(0, .ref (ad 0)), (1, .int x1), (2, .int x2), (3, .int x3), (4, .int x4), (5, .int x5)] → qa_O D 33 ad (me_en cI cZ ad) A s.heap g H locs → mf_Mo_call_54 g x1 x2 x3 x4 x5 = some T → W p l e (qa_rm 2 47) s m args below meth c H locs 0 0 Q (F0 m 54 ls []) := by
    intro g x1 x2 x3 x4 x5 ls H locs hl hO hT
    unfold mf_Mo_call_54 at hT
    refine lv_iconst (v := 0) hx hb d_Mo_call_54 (by decide) ?_
    exact b55 g x1 x2 x3 x4 x5 (0 : Int32) _ _ _ (lv_sub hl [0, 1, 2, 3, 4, 5] rfl) hO hT
  have b47 : ∀ (g : qa_St) (x1 : Int32) (x2 : Int32) (x3 : Int32) (x4 : Int32) (x5 : Int32) (s0 : Int32) (ls : Array Slot) (H : Heap) (locs : List Loc), lv_has ls 9 [(0, .ref (ad 0)), (1, .int x1), (2, .int x2), (3, .int x3), (4, .int x4), (5, .int x5)] → qa_O D 33 ad (me_en cI cZ ad) A s.heap g H locs → mf_Mo_call_47 g x1 x2 x3 x4 x5 s0 = some T → W p l e (qa_rm 2 47) s m args below meth c H locs 0 0 Q (F0 m 47 ls [.int s0]) := by
    intro g x1 x2 x3 x4 x5 s0 ls H locs hl hO hT
    unfold mf_Mo_call_47 at hT
    refine lv_if_ge (tgt := 54) hx hb d_Mo_call_47 (by decide) (fun h => ?_) (fun h => ?_)
    · have hT := qa_t hT h
      exact b54 g x1 x2 x3 x4 x5 _ _ _ (lv_sub hl [0, 1, 2, 3, 4, 5] rfl) hO hT
    · have hT := qa_f hT h
      refine lv_iconst (v := 1) hx hb d_Mo_call_50 (by decide) ?_
      refine lv_goto (tgt := 55) hx hb d_Mo_call_51 (by decide) ?_
      exact b55 g x1 x2 x3 x4 x5 (1 : Int32) _ _ _ (lv_sub hl [0, 1, 2, 3, 4, 5] rfl) hO hT
  have b16 : ∀ (g : qa_St) (x1 : Int32) (x2 : Int32) (x3 : Int32) (s0 : Int32) (ls : Array Slot) (H : Heap) (locs : List Loc), lv_has ls 9 [(0, .ref (ad 0)), (1, .int x1), (2, .int x2), (3, .int x3)] → qa_O D 33 ad (me_en cI cZ ad) A s.heap g H locs → mf_Mo_call_16 g x1 x2 x3 s0 = some T → W p l e (qa_rm 2 47) s m args below meth c H locs 0 0 Q (F0 m 16 ls [.int s0]) := by
    intro g x1 x2 x3 s0 ls H locs hl hO hT
    unfold mf_Mo_call_16 at hT
    refine lv_istore (lv' := [(4, .int s0), (0, .ref (ad 0)), (1, .int x1), (2, .int x2), (3, .int x3)]) hx hb d_Mo_call_16 hl (by decide) rfl (fun ls hl => ?_)
    refine lv_bipush (v := 6) hx hb d_Mo_call_18 (by decide) ?_
    refine lv_iload_n hx hb d_Mo_call_20 rfl (lv_at hl 2 rfl) ?_
    refine lv_imul hx hb d_Mo_call_21 ?_
    refine lv_aload_n hx hb d_Mo_call_22 rfl (lv_at hl 1 rfl) ?_
    refine qa_get S hK hO hi_Mo 0 (by decide) rfl rfl 35 (by decide) lf_Mo_77 rfl rfl d_Mo_call_23 ?_
    refine lv_iload_n hx hb d_Mo_call_26 rfl (lv_at hl 2 rfl) ?_
    obtain ⟨hi27, hT⟩ := qa_c hT
    refine qa_iald (n := 10) S hK hO 23 (by decide) 0 (me_arr rfl) rfl hi27 d_Mo_call_27 ?_
    refine lv_iadd hx hb d_Mo_call_28 ?_
    refine lv_iload hx hb d_Mo_call_29 (lv_at hl 0 rfl) ?_
    refine lv_isub hx hb d_Mo_call_31 ?_
    refine lv_istore (lv' := [(5, .int ((((6 : Int32) * x1) + (g 23 x1.toNatClampNeg)) - s0)), (4, .int s0), (0, .ref (ad 0)), (1, .int x1), (2, .int x2), (3, .int x3)]) hx hb d_Mo_call_32 hl (by decide) rfl (fun ls hl => ?_)
    refine lv_iload_n hx hb d_Mo_call_34 rfl (lv_at hl 4 rfl) ?_
    refine lv_bipush (v := 17) hx hb d_Mo_call_35 (by decide) ?_
    refine lv_icmp_ne (tgt := 54) hx hb d_Mo_call_37 (by decide) (fun h => ?_) (fun h => ?_)
    · have hT := qa_f hT h
      exact b54 g x1 x2 x3 s0 ((((6 : Int32) * x1) + (g 23 x1.toNatClampNeg)) - s0) _ _ _ (lv_sub hl [2, 3, 4, 5, 1, 0] rfl) hO hT
    · have hT := qa_t hT h
      refine lv_aload_n hx hb d_Mo_call_40 rfl (lv_at hl 2 rfl) ?_
      refine qa_get S hK hO hi_Mo 0 (by decide) rfl rfl 39 (by decide) lf_Mo_89 rfl rfl d_Mo_call_41 ?_
      refine lv_iload hx hb d_Mo_call_44 (lv_at hl 0 rfl) ?_
      obtain ⟨hi46, hT⟩ := qa_c hT
      refine qa_iald (n := 60) S hK hO 27 (by decide) 0 (me_arr rfl) rfl hi46 d_Mo_call_46 ?_
      exact b47 g x1 x2 x3 s0 ((((6 : Int32) * x1) + (g 23 x1.toNatClampNeg)) - s0) (g 27 ((((6 : Int32) * x1) + (g 23 x1.toNatClampNeg)) - s0).toNatClampNeg) _ _ _ (lv_sub hl [2, 3, 4, 5, 1, 0] rfl) hO hT
  unfold mf_Mo_call at hT
  refine lv_iload_n hx hb d_Mo_call_0 rfl (lv_at hl 2 rfl) ?_
  refine lv_bipush (v := 16) hx hb d_Mo_call_1 (by decide) ?_
  refine lv_icmp_ne (tgt := 15) hx hb d_Mo_call_3 (by decide) (fun h => ?_) (fun h => ?_)
  · have hT := qa_f hT h
    refine lv_iconst (v := 2) hx hb d_Mo_call_15 (by decide) ?_
    exact b16 g x1 x2 x3 (2 : Int32) _ _ _ (lv_sub hl [0, 1, 2, 3] rfl) hO hT
  · have hT := qa_t hT h
    refine lv_aload_n hx hb d_Mo_call_6 rfl (lv_at hl 0 rfl) ?_
    refine qa_get S hK hO hi_Mo 0 (by decide) rfl rfl 7 (by decide) lf_Mo_25 rfl rfl d_Mo_call_7 ?_
    refine lv_iload_n hx hb d_Mo_call_10 rfl (lv_at hl 3 rfl) ?_
    obtain ⟨hi11, hT⟩ := qa_c hT
    refine qa_iald (n := 10) S hK hO 6 (by decide) 0 (me_arr rfl) rfl hi11 d_Mo_call_11 ?_
    refine lv_goto (tgt := 16) hx hb d_Mo_call_12 (by decide) ?_
    exact b16 g x1 x2 x3 (g 6 x3.toNatClampNeg) _ _ _ (lv_sub hl [0, 1, 2, 3] rfl) hO hT
def mf_Mo_pop_17 (g : qa_St) (x1 : Int32) : qa_Re := (if x1 < 0 ∨ 10 ≤ x1.toNatClampNeg then none else (if (((6 : Int32) * x1) + (g 23 x1.toNatClampNeg)) < 0 ∨ 60 ≤ (((6 : Int32) * x1) + (g 23 x1.toNatClampNeg)).toNatClampNeg then none else (some ((g 27 (((6 : Int32) * x1) + (g 23 x1.toNatClampNeg)).toNatClampNeg), g))))
def mf_Mo_pop (g : qa_St) : qa_Re := (if ((g 0 32) - (1 : Int32)) < 0 ∨ 10 ≤ ((g 0 32) - (1 : Int32)).toNatClampNeg then none else (if ((g 0 32) - (1 : Int32)) < 0 ∨ 10 ≤ ((g 0 32) - (1 : Int32)).toNatClampNeg then none else (mf_Mo_pop_17 (qa_up g 23 ((g 0 32) - (1 : Int32)).toNatClampNeg ((g 23 ((g 0 32) - (1 : Int32)).toNatClampNeg) - (1 : Int32))) ((g 0 32) - (1 : Int32)))))
set_option maxHeartbeats 4000000 in
set_option maxRecDepth 100000 in
theorem mc_Mo_pop (l : Launch) (D : va_G) (cI cJ cF cZ : ClassId) (ad : Nat → Nat) (g : qa_St) : qa_Mi l y_Mo_pop (qa_ws y_Mo_pop b_Mo_pop 2 (some .int)) (qa_rm 0 0) D (qa_ty cI cJ cF cZ) 33 ad (me_en cI cZ ad) [.ref (ad 0)] g (mf_Mo_pop g) := by
  refine qa_meti (by decide) (Nat.le_of_ble_eq_true rfl) ?_
  intro p e s m args below meth c Q A T S hK hN hA hT ret ls hl hO
  have hx := S.1
  have hb := S.2.1
  have hl : lv_has ls 2 [(0, .ref (ad 0))] := hl
  have b17 : ∀ (g : qa_St) (x1 : Int32) (ls : Array Slot) (H : Heap) (locs : List Loc), lv_has ls 2 [(0, .ref (ad 0)), (1, .int x1)] → qa_O D 33 ad (me_en cI cZ ad) A s.heap g H locs → mf_Mo_pop_17 g x1 = some T → W p l e (qa_rm 0 0) s m args below meth c H locs 0 0 Q (F0 m 17 ls []) := by
    intro g x1 ls H locs hl hO hT
    unfold mf_Mo_pop_17 at hT
    refine lv_aload_n hx hb d_Mo_pop_17 rfl (lv_at hl 0 rfl) ?_
    refine qa_get S hK hO hi_Mo 0 (by decide) rfl rfl 39 (by decide) lf_Mo_89 rfl rfl d_Mo_pop_18 ?_
    refine lv_bipush (v := 6) hx hb d_Mo_pop_21 (by decide) ?_
    refine lv_iload_n hx hb d_Mo_pop_23 rfl (lv_at hl 1 rfl) ?_
    refine lv_imul hx hb d_Mo_pop_24 ?_
    refine lv_aload_n hx hb d_Mo_pop_25 rfl (lv_at hl 0 rfl) ?_
    refine qa_get S hK hO hi_Mo 0 (by decide) rfl rfl 35 (by decide) lf_Mo_77 rfl rfl d_Mo_pop_26 ?_
    refine lv_iload_n hx hb d_Mo_pop_29 rfl (lv_at hl 1 rfl) ?_
    obtain ⟨hi30, hT⟩ := qa_c hT
    refine qa_iald (n := 10) S hK hO 23 (by decide) 0 (me_arr rfl) rfl hi30 d_Mo_pop_30 ?_
    refine lv_iadd hx hb d_Mo_pop_31 ?_
    obtain ⟨hi32, hT⟩ := qa_c hT
    refine qa_iald (n := 60) S hK hO 27 (by decide) 0 (me_arr rfl) rfl hi32 d_Mo_pop_32 ?_
    exact ret hT hO d_Mo_pop_33
  unfold mf_Mo_pop at hT
  refine lv_aload_n hx hb d_Mo_pop_0 rfl (lv_at hl 0 rfl) ?_
  refine qa_get S hK hO hi_Mo 0 (by decide) rfl rfl 32 (by decide) lf_Mo_226 rfl rfl d_Mo_pop_1 ?_
  refine lv_iconst (v := 1) hx hb d_Mo_pop_4 (by decide) ?_
  refine lv_isub hx hb d_Mo_pop_5 ?_
  refine lv_istore_n (lv' := [(1, .int ((g 0 32) - (1 : Int32))), (0, .ref (ad 0))]) hx hb d_Mo_pop_6 rfl hl (by decide) rfl (fun ls hl => ?_)
  refine lv_aload_n hx hb d_Mo_pop_7 rfl (lv_at hl 1 rfl) ?_
  refine qa_get S hK hO hi_Mo 0 (by decide) rfl rfl 35 (by decide) lf_Mo_77 rfl rfl d_Mo_pop_8 ?_
  refine lv_iload_n hx hb d_Mo_pop_11 rfl (lv_at hl 0 rfl) ?_
  refine lv_dup2_11 hx hb d_Mo_pop_12 rfl rfl ?_
  obtain ⟨hi13, hT⟩ := qa_c hT
  refine qa_iald (n := 10) S hK hO 23 (by decide) 0 (me_arr rfl) rfl hi13 d_Mo_pop_13 ?_
  refine lv_iconst (v := 1) hx hb d_Mo_pop_14 (by decide) ?_
  refine lv_isub hx hb d_Mo_pop_15 ?_
  obtain ⟨hi16, hT⟩ := qa_c hT
  refine qa_iast (n := 10) S hK hO 23 (by decide) 0 (me_arr rfl) rfl hi16 d_Mo_pop_16 (fun H locs hO => ?_)
  exact b17 (qa_up g 23 ((g 0 32) - (1 : Int32)).toNatClampNeg ((g 23 ((g 0 32) - (1 : Int32)).toNatClampNeg) - (1 : Int32))) ((g 0 32) - (1 : Int32)) _ _ _ (lv_sub hl [1, 0] rfl) hO hT
def mf_Mo_push_22 (g : qa_St) (x1 : Int32) (x2 : Int32) (s0 : Int32) : qa_Re := (if s0 < 0 ∨ 60 ≤ s0.toNatClampNeg then none else (if x2 < 0 ∨ 10 ≤ x2.toNatClampNeg then none else (if x2 < 0 ∨ 10 ≤ x2.toNatClampNeg then none else (some (0, (qa_up (qa_up g 27 s0.toNatClampNeg x1) 23 x2.toNatClampNeg (((qa_up g 27 s0.toNatClampNeg x1) 23 x2.toNatClampNeg) + (1 : Int32))))))))
def mf_Mo_push (g : qa_St) (x1 : Int32) : qa_Re := (if ((g 0 32) - (1 : Int32)) < 0 ∨ 10 ≤ ((g 0 32) - (1 : Int32)).toNatClampNeg then none else (mf_Mo_push_22 g x1 ((g 0 32) - (1 : Int32)) (((6 : Int32) * ((g 0 32) - (1 : Int32))) + (g 23 ((g 0 32) - (1 : Int32)).toNatClampNeg))))
set_option maxHeartbeats 4000000 in
set_option maxRecDepth 100000 in
theorem mc_Mo_push (l : Launch) (D : va_G) (cI cJ cF cZ : ClassId) (ad : Nat → Nat) (g : qa_St) (x1 : Int32) : qa_Mv l y_Mo_push (qa_ws y_Mo_push b_Mo_push 3 none) (qa_rm 0 0) D (qa_ty cI cJ cF cZ) 33 ad (me_en cI cZ ad) [.ref (ad 0), .int x1] g (mf_Mo_push g x1) := by
  refine qa_metv (by decide) (Nat.le_of_ble_eq_true rfl) ?_
  intro p e s m args below meth c Q A T S hK hN hA hT ret ls hl hO
  have hx := S.1
  have hb := S.2.1
  have hl : lv_has ls 3 [(0, .ref (ad 0)), (1, .int x1)] := hl
  have b22 : ∀ (g : qa_St) (x1 : Int32) (x2 : Int32) (s0 : Int32) (ls : Array Slot) (H : Heap) (locs : List Loc), lv_has ls 3 [(0, .ref (ad 0)), (1, .int x1), (2, .int x2)] → qa_O D 33 ad (me_en cI cZ ad) A s.heap g H locs → mf_Mo_push_22 g x1 x2 s0 = some T → W p l e (qa_rm 0 0) s m args below meth c H locs 0 0 Q (F0 m 22 ls [.int s0, .ref (ad 27)]) := by
    intro g x1 x2 s0 ls H locs hl hO hT
    unfold mf_Mo_push_22 at hT
    refine lv_iload_n hx hb d_Mo_push_22 rfl (lv_at hl 1 rfl) ?_
    obtain ⟨hi23, hT⟩ := qa_c hT
    refine qa_iast (n := 60) S hK hO 27 (by decide) 0 (me_arr rfl) rfl hi23 d_Mo_push_23 (fun H locs hO => ?_)
    refine lv_aload_n hx hb d_Mo_push_24 rfl (lv_at hl 0 rfl) ?_
    refine qa_get S hK hO hi_Mo 0 (by decide) rfl rfl 35 (by decide) lf_Mo_77 rfl rfl d_Mo_push_25 ?_
    refine lv_iload_n hx hb d_Mo_push_28 rfl (lv_at hl 2 rfl) ?_
    refine lv_dup2_11 hx hb d_Mo_push_29 rfl rfl ?_
    obtain ⟨hi30, hT⟩ := qa_c hT
    refine qa_iald (n := 10) S hK hO 23 (by decide) 0 (me_arr rfl) rfl hi30 d_Mo_push_30 ?_
    refine lv_iconst (v := 1) hx hb d_Mo_push_31 (by decide) ?_
    refine lv_iadd hx hb d_Mo_push_32 ?_
    obtain ⟨hi33, hT⟩ := qa_c hT
    refine qa_iast (n := 10) S hK hO 23 (by decide) 0 (me_arr rfl) rfl hi33 d_Mo_push_33 (fun H locs hO => ?_)
    exact ret hT hO d_Mo_push_34
  unfold mf_Mo_push at hT
  refine lv_aload_n hx hb d_Mo_push_0 rfl (lv_at hl 0 rfl) ?_
  refine qa_get S hK hO hi_Mo 0 (by decide) rfl rfl 32 (by decide) lf_Mo_226 rfl rfl d_Mo_push_1 ?_
  refine lv_iconst (v := 1) hx hb d_Mo_push_4 (by decide) ?_
  refine lv_isub hx hb d_Mo_push_5 ?_
  refine lv_istore_n (lv' := [(2, .int ((g 0 32) - (1 : Int32))), (0, .ref (ad 0)), (1, .int x1)]) hx hb d_Mo_push_6 rfl hl (by decide) rfl (fun ls hl => ?_)
  refine lv_aload_n hx hb d_Mo_push_7 rfl (lv_at hl 1 rfl) ?_
  refine qa_get S hK hO hi_Mo 0 (by decide) rfl rfl 39 (by decide) lf_Mo_89 rfl rfl d_Mo_push_8 ?_
  refine lv_bipush (v := 6) hx hb d_Mo_push_11 (by decide) ?_
  refine lv_iload_n hx hb d_Mo_push_13 rfl (lv_at hl 0 rfl) ?_
  refine lv_imul hx hb d_Mo_push_14 ?_
  refine lv_aload_n hx hb d_Mo_push_15 rfl (lv_at hl 1 rfl) ?_
  refine qa_get S hK hO hi_Mo 0 (by decide) rfl rfl 35 (by decide) lf_Mo_77 rfl rfl d_Mo_push_16 ?_
  refine lv_iload_n hx hb d_Mo_push_19 rfl (lv_at hl 0 rfl) ?_
  obtain ⟨hi20, hT⟩ := qa_c hT
  refine qa_iald (n := 10) S hK hO 23 (by decide) 0 (me_arr rfl) rfl hi20 d_Mo_push_20 ?_
  refine lv_iadd hx hb d_Mo_push_21 ?_
  exact b22 g x1 ((g 0 32) - (1 : Int32)) (((6 : Int32) * ((g 0 32) - (1 : Int32))) + (g 23 ((g 0 32) - (1 : Int32)).toNatClampNeg)) _ _ _ (lv_sub hl [1, 2, 0] rfl) hO hT
def mf_Mo_leave_120 (g : qa_St) (x1 : Int32) (x2 : Int32) (s0 : Int32) (s1 : Int32) (s2 : Int32) : qa_Re := (if s2 < 0 ∨ 10 ≤ s2.toNatClampNeg then none else ((mf_Mo_push (qa_up g 23 s2.toNatClampNeg (s1 - s0)) x1).bind fun t124 => (if x2 < 0 ∨ 10 ≤ x2.toNatClampNeg then none else (if x2 < 0 ∨ 10 ≤ x2.toNatClampNeg then none else (some (0, (qa_up t124.2 22 x2.toNatClampNeg ((t124.2 22 x2.toNatClampNeg) + (1 : Int32)))))))))
def mf_Mo_leave_100 (g : qa_St) (x1 : Int32) (x2 : Int32) (x3 : Int32) (s0 : Int32) (s1 : Int32) (s2 : Int32) : qa_Re := (if s0 = (16 : Int32) then (if x3 < 0 ∨ 200 ≤ x3.toNatClampNeg then none else (if (g 9 x3.toNatClampNeg) < 0 ∨ 10 ≤ (g 9 x3.toNatClampNeg).toNatClampNeg then none else (mf_Mo_leave_120 g x1 x2 (g 6 (g 9 x3.toNatClampNeg).toNatClampNeg) s1 s2))) else (mf_Mo_leave_120 g x1 x2 (2 : Int32) s1 s2))
def mf_Mo_leave_66 (g : qa_St) (x1 : Int32) (x2 : Int32) (s0 : Int32) : qa_Re := (if s0 = 0 then (if x2 < 0 ∨ 10 ≤ x2.toNatClampNeg then none else (if x2 < 0 ∨ 10 ≤ x2.toNatClampNeg then none else (if x2 < 0 ∨ 10 ≤ x2.toNatClampNeg then none else (if (((20 : Int32) * (g 21 x2.toNatClampNeg)) + (g 22 x2.toNatClampNeg)) < 0 ∨ 200 ≤ (((20 : Int32) * (g 21 x2.toNatClampNeg)) + (g 22 x2.toNatClampNeg)).toNatClampNeg then none else (mf_Mo_leave_100 g x1 x2 (((20 : Int32) * (g 21 x2.toNatClampNeg)) + (g 22 x2.toNatClampNeg)) (g 8 (((20 : Int32) * (g 21 x2.toNatClampNeg)) + (g 22 x2.toNatClampNeg)).toNatClampNeg) (g 23 x2.toNatClampNeg) x2))))) else (some (0, g)))
def mf_Mo_leave_30 (g : qa_St) (x1 : Int32) (s0 : Int32) : qa_Re := (if ((qa_up g 0 28 s0) 0 27) = 0 then (some (0, (qa_up (qa_up g 0 28 s0) 0 29 (0 : Int32)))) else (some (0, (qa_up (qa_up g 0 28 s0) 0 29 x1))))
def mf_Mo_leave (g : qa_St) (x1 : Int32) : qa_Re := (if ((qa_up g 0 32 ((g 0 32) - (1 : Int32))) 0 32) = 0 then (if ((qa_up g 0 32 ((g 0 32) - (1 : Int32))) 0 27) = 0 then (mf_Mo_leave_30 (qa_up g 0 32 ((g 0 32) - (1 : Int32))) x1 (-1 : Int32)) else (mf_Mo_leave_30 (qa_up g 0 32 ((g 0 32) - (1 : Int32))) x1 (0 : Int32))) else (if ((qa_up g 0 32 ((g 0 32) - (1 : Int32))) 0 32) < 0 ∨ 10 ≤ ((qa_up g 0 32 ((g 0 32) - (1 : Int32))) 0 32).toNatClampNeg then none else (mf_Mo_leave_66 (qa_up g 0 32 ((g 0 32) - (1 : Int32))) x1 (((qa_up g 0 32 ((g 0 32) - (1 : Int32))) 0 32) - (1 : Int32)) ((qa_up g 0 32 ((g 0 32) - (1 : Int32))) 24 ((qa_up g 0 32 ((g 0 32) - (1 : Int32))) 0 32).toNatClampNeg))))
set_option maxHeartbeats 4000000 in
set_option maxRecDepth 100000 in
theorem mc_Mo_leave (l : Launch) (D : va_G) (cI cJ cF cZ : ClassId) (ad : Nat → Nat) (g : qa_St) (x1 : Int32) : qa_Mv l y_Mo_leave (qa_ws y_Mo_leave b_Mo_leave 4 none) (qa_rm 1 22) D (qa_ty cI cJ cF cZ) 33 ad (me_en cI cZ ad) [.ref (ad 0), .int x1] g (mf_Mo_leave g x1) := by
  refine qa_metv (by decide) (Nat.le_of_ble_eq_true rfl) ?_
  intro p e s m args below meth c Q A T S hK hN hA hT ret ls hl hO
  have hx := S.1
  have hb := S.2.1
  have hl : lv_has ls 4 [(0, .ref (ad 0)), (1, .int x1)] := hl
  have b120 : ∀ (g : qa_St) (x1 : Int32) (x2 : Int32) (s0 : Int32) (s1 : Int32) (s2 : Int32) (ls : Array Slot) (H : Heap) (locs : List Loc), lv_has ls 4 [(0, .ref (ad 0)), (1, .int x1), (2, .int x2)] → qa_O D 33 ad (me_en cI cZ ad) A s.heap g H locs → mf_Mo_leave_120 g x1 x2 s0 s1 s2 = some T → W p l e (qa_rm 1 22) s m args below meth c H locs 0 0 Q (F0 m 120 ls [.int s0, .int s1, .int s2, .ref (ad 23)]) := by
    intro g x1 x2 s0 s1 s2 ls H locs hl hO hT
    unfold mf_Mo_leave_120 at hT
    refine lv_isub hx hb d_Mo_leave_120 ?_
    obtain ⟨hi121, hT⟩ := qa_c hT
    refine qa_iast (n := 10) S hK hO 23 (by decide) 0 (me_arr rfl) rfl hi121 d_Mo_leave_121 (fun H locs hO => ?_)
    refine lv_aload_n hx hb d_Mo_leave_122 rfl (lv_at hl 0 rfl) ?_
    refine lv_iload_n hx hb d_Mo_leave_123 rfl (lv_at hl 1 rfl) ?_
    obtain ⟨t124, ht124, hT⟩ := qa_b hT
    refine qa_Vv (As := [.int x1]) (rest := []) (r := 0) S hK hN hA hO (mc_Mo_push l D cI cJ cF cZ ad (qa_up g 23 s2.toNatClampNeg (s1 - s0)) x1) ht124 qy_Mo_push lm_Mo_269 ⟨by decide, by decide⟩ (by decide) rfl rfl rfl rfl hl.1 rfl (Nat.le_of_ble_eq_true rfl) d_Mo_leave_124 (fun H locs hO => ?_)
    refine lv_aload_n hx hb d_Mo_leave_127 rfl (lv_at hl 0 rfl) ?_
    refine qa_get S hK hO hi_Mo 0 (by decide) rfl rfl 34 (by decide) lf_Mo_74 rfl rfl d_Mo_leave_128 ?_
    refine lv_iload_n hx hb d_Mo_leave_131 rfl (lv_at hl 2 rfl) ?_
    refine lv_dup2_11 hx hb d_Mo_leave_132 rfl rfl ?_
    obtain ⟨hi133, hT⟩ := qa_c hT
    refine qa_iald (n := 10) S hK hO 22 (by decide) 0 (me_arr rfl) rfl hi133 d_Mo_leave_133 ?_
    refine lv_iconst (v := 1) hx hb d_Mo_leave_134 (by decide) ?_
    refine lv_iadd hx hb d_Mo_leave_135 ?_
    obtain ⟨hi136, hT⟩ := qa_c hT
    refine qa_iast (n := 10) S hK hO 22 (by decide) 0 (me_arr rfl) rfl hi136 d_Mo_leave_136 (fun H locs hO => ?_)
    exact ret hT hO d_Mo_leave_137
  have b100 : ∀ (g : qa_St) (x1 : Int32) (x2 : Int32) (x3 : Int32) (s0 : Int32) (s1 : Int32) (s2 : Int32) (ls : Array Slot) (H : Heap) (locs : List Loc), lv_has ls 4 [(0, .ref (ad 0)), (1, .int x1), (2, .int x2), (3, .int x3)] → qa_O D 33 ad (me_en cI cZ ad) A s.heap g H locs → mf_Mo_leave_100 g x1 x2 x3 s0 s1 s2 = some T → W p l e (qa_rm 1 22) s m args below meth c H locs 0 0 Q (F0 m 100 ls [.int s0, .int s1, .int s2, .ref (ad 23)]) := by
    intro g x1 x2 x3 s0 s1 s2 ls H locs hl hO hT
    unfold mf_Mo_leave_100 at hT
    refine lv_bipush (v := 16) hx hb d_Mo_leave_100 (by decide) ?_
    refine lv_icmp_ne (tgt := 119) hx hb d_Mo_leave_102 (by decide) (fun h => ?_) (fun h => ?_)
    · have hT := qa_f hT h
      refine lv_iconst (v := 2) hx hb d_Mo_leave_119 (by decide) ?_
      exact b120 g x1 x2 (2 : Int32) s1 s2 _ _ _ (lv_sub hl [0, 1, 2] rfl) hO hT
    · have hT := qa_t hT h
      refine lv_aload_n hx hb d_Mo_leave_105 rfl (lv_at hl 0 rfl) ?_
      refine qa_get S hK hO hi_Mo 0 (by decide) rfl rfl 7 (by decide) lf_Mo_25 rfl rfl d_Mo_leave_106 ?_
      refine lv_aload_n hx hb d_Mo_leave_109 rfl (lv_at hl 0 rfl) ?_
      refine qa_get S hK hO hi_Mo 0 (by decide) rfl rfl 10 (by decide) lf_Mo_34 rfl rfl d_Mo_leave_110 ?_
      refine lv_iload_n hx hb d_Mo_leave_113 rfl (lv_at hl 3 rfl) ?_
      obtain ⟨hi114, hT⟩ := qa_c hT
      refine qa_iald (n := 200) S hK hO 9 (by decide) 0 (me_arr rfl) rfl hi114 d_Mo_leave_114 ?_
      obtain ⟨hi115, hT⟩ := qa_c hT
      refine qa_iald (n := 10) S hK hO 6 (by decide) 0 (me_arr rfl) rfl hi115 d_Mo_leave_115 ?_
      refine lv_goto (tgt := 120) hx hb d_Mo_leave_116 (by decide) ?_
      exact b120 g x1 x2 (g 6 (g 9 x3.toNatClampNeg).toNatClampNeg) s1 s2 _ _ _ (lv_sub hl [0, 1, 2] rfl) hO hT
  have b66 : ∀ (g : qa_St) (x1 : Int32) (x2 : Int32) (s0 : Int32) (ls : Array Slot) (H : Heap) (locs : List Loc), lv_has ls 4 [(0, .ref (ad 0)), (1, .int x1), (2, .int x2)] → qa_O D 33 ad (me_en cI cZ ad) A s.heap g H locs → mf_Mo_leave_66 g x1 x2 s0 = some T → W p l e (qa_rm 1 22) s m args below meth c H locs 0 0 Q (F0 m 66 ls [.int s0]) := by
    intro g x1 x2 s0 ls H locs hl hO hT
    unfold mf_Mo_leave_66 at hT
    refine lv_if_eq (tgt := 70) hx hb d_Mo_leave_66 (by decide) (fun h => ?_) (fun h => ?_)
    · have hT := qa_t hT h
      refine lv_bipush (v := 20) hx hb d_Mo_leave_70 (by decide) ?_
      refine lv_aload_n hx hb d_Mo_leave_72 rfl (lv_at hl 0 rfl) ?_
      refine qa_get S hK hO hi_Mo 0 (by decide) rfl rfl 33 (by decide) lf_Mo_71 rfl rfl d_Mo_leave_73 ?_
      refine lv_iload_n hx hb d_Mo_leave_76 rfl (lv_at hl 2 rfl) ?_
      obtain ⟨hi77, hT⟩ := qa_c hT
      refine qa_iald (n := 10) S hK hO 21 (by decide) 0 (me_arr rfl) rfl hi77 d_Mo_leave_77 ?_
      refine lv_imul hx hb d_Mo_leave_78 ?_
      refine lv_aload_n hx hb d_Mo_leave_79 rfl (lv_at hl 0 rfl) ?_
      refine qa_get S hK hO hi_Mo 0 (by decide) rfl rfl 34 (by decide) lf_Mo_74 rfl rfl d_Mo_leave_80 ?_
      refine lv_iload_n hx hb d_Mo_leave_83 rfl (lv_at hl 2 rfl) ?_
      obtain ⟨hi84, hT⟩ := qa_c hT
      refine qa_iald (n := 10) S hK hO 22 (by decide) 0 (me_arr rfl) rfl hi84 d_Mo_leave_84 ?_
      refine lv_iadd hx hb d_Mo_leave_85 ?_
      refine lv_istore_n (lv' := [(3, .int (((20 : Int32) * (g 21 x2.toNatClampNeg)) + (g 22 x2.toNatClampNeg))), (0, .ref (ad 0)), (1, .int x1), (2, .int x2)]) hx hb d_Mo_leave_86 rfl hl (by decide) rfl (fun ls hl => ?_)
      refine lv_aload_n hx hb d_Mo_leave_87 rfl (lv_at hl 1 rfl) ?_
      refine qa_get S hK hO hi_Mo 0 (by decide) rfl rfl 35 (by decide) lf_Mo_77 rfl rfl d_Mo_leave_88 ?_
      refine lv_iload_n hx hb d_Mo_leave_91 rfl (lv_at hl 3 rfl) ?_
      refine lv_dup2_11 hx hb d_Mo_leave_92 rfl rfl ?_
      obtain ⟨hi93, hT⟩ := qa_c hT
      refine qa_iald (n := 10) S hK hO 23 (by decide) 0 (me_arr rfl) rfl hi93 d_Mo_leave_93 ?_
      refine lv_aload_n hx hb d_Mo_leave_94 rfl (lv_at hl 1 rfl) ?_
      refine qa_get S hK hO hi_Mo 0 (by decide) rfl rfl 9 (by decide) lf_Mo_31 rfl rfl d_Mo_leave_95 ?_
      refine lv_iload_n hx hb d_Mo_leave_98 rfl (lv_at hl 0 rfl) ?_
      obtain ⟨hi99, hT⟩ := qa_c hT
      refine qa_iald (n := 200) S hK hO 8 (by decide) 0 (me_arr rfl) rfl hi99 d_Mo_leave_99 ?_
      exact b100 g x1 x2 (((20 : Int32) * (g 21 x2.toNatClampNeg)) + (g 22 x2.toNatClampNeg)) (g 8 (((20 : Int32) * (g 21 x2.toNatClampNeg)) + (g 22 x2.toNatClampNeg)).toNatClampNeg) (g 23 x2.toNatClampNeg) x2 _ _ _ (lv_sub hl [1, 2, 3, 0] rfl) hO hT
    · have hT := qa_f hT h
      exact ret hT hO d_Mo_leave_69
  have b30 : ∀ (g : qa_St) (x1 : Int32) (s0 : Int32) (ls : Array Slot) (H : Heap) (locs : List Loc), lv_has ls 4 [(0, .ref (ad 0)), (1, .int x1)] → qa_O D 33 ad (me_en cI cZ ad) A s.heap g H locs → mf_Mo_leave_30 g x1 s0 = some T → W p l e (qa_rm 1 22) s m args below meth c H locs 0 0 Q (F0 m 30 ls [.int s0, .ref (ad 0)]) := by
    intro g x1 s0 ls H locs hl hO hT
    unfold mf_Mo_leave_30 at hT
    refine qa_put S hK hO hi_Mo t_Mo t_Mo_ok n_Mo 0 (by decide) rfl rfl 28 (by decide) lf_Mo_214 rfl rfl (ty := .int) (by decide +kernel) rfl rfl (Nat.le_of_ble_eq_true rfl) rfl d_Mo_leave_30 (fun H locs hO => ?_)
    refine lv_aload_n hx hb d_Mo_leave_33 rfl (lv_at hl 0 rfl) ?_
    refine lv_aload_n hx hb d_Mo_leave_34 rfl (lv_at hl 0 rfl) ?_
    refine qa_get S hK hO hi_Mo 0 (by decide) rfl rfl 27 (by decide) lf_Mo_211 rfl rfl d_Mo_leave_35 ?_
    refine lv_if_eq (tgt := 45) hx hb d_Mo_leave_38 (by decide) (fun h => ?_) (fun h => ?_)
    · have hT := qa_t hT h
      refine lv_iconst (v := 0) hx hb d_Mo_leave_45 (by decide) ?_
      refine qa_put S hK hO hi_Mo t_Mo t_Mo_ok n_Mo 0 (by decide) rfl rfl 29 (by decide) lf_Mo_217 rfl rfl (ty := .int) (by decide +kernel) rfl rfl (Nat.le_of_ble_eq_true rfl) rfl d_Mo_leave_46 (fun H locs hO => ?_)
      exact ret hT hO d_Mo_leave_49
    · have hT := qa_f hT h
      refine lv_iload_n hx hb d_Mo_leave_41 rfl (lv_at hl 1 rfl) ?_
      refine lv_goto (tgt := 46) hx hb d_Mo_leave_42 (by decide) ?_
      refine qa_put S hK hO hi_Mo t_Mo t_Mo_ok n_Mo 0 (by decide) rfl rfl 29 (by decide) lf_Mo_217 rfl rfl (ty := .int) (by decide +kernel) rfl rfl (Nat.le_of_ble_eq_true rfl) rfl d_Mo_leave_46 (fun H locs hO => ?_)
      exact ret hT hO d_Mo_leave_49
  unfold mf_Mo_leave at hT
  refine lv_aload_n hx hb d_Mo_leave_0 rfl (lv_at hl 0 rfl) ?_
  refine lv_dup hx hb d_Mo_leave_1 rfl ?_
  refine qa_get S hK hO hi_Mo 0 (by decide) rfl rfl 32 (by decide) lf_Mo_226 rfl rfl d_Mo_leave_2 ?_
  refine lv_iconst (v := 1) hx hb d_Mo_leave_5 (by decide) ?_
  refine lv_isub hx hb d_Mo_leave_6 ?_
  refine qa_put S hK hO hi_Mo t_Mo t_Mo_ok n_Mo 0 (by decide) rfl rfl 32 (by decide) lf_Mo_226 rfl rfl (ty := .int) (by decide +kernel) rfl rfl (Nat.le_of_ble_eq_true rfl) rfl d_Mo_leave_7 (fun H locs hO => ?_)
  refine lv_aload_n hx hb d_Mo_leave_10 rfl (lv_at hl 0 rfl) ?_
  refine qa_get S hK hO hi_Mo 0 (by decide) rfl rfl 32 (by decide) lf_Mo_226 rfl rfl d_Mo_leave_11 ?_
  refine lv_if_ne (tgt := 50) hx hb d_Mo_leave_14 (by decide) (fun h => ?_) (fun h => ?_)
  · have hT := qa_f hT h
    refine lv_aload_n hx hb d_Mo_leave_50 rfl (lv_at hl 0 rfl) ?_
    refine qa_get S hK hO hi_Mo 0 (by decide) rfl rfl 32 (by decide) lf_Mo_226 rfl rfl d_Mo_leave_51 ?_
    refine lv_iconst (v := 1) hx hb d_Mo_leave_54 (by decide) ?_
    refine lv_isub hx hb d_Mo_leave_55 ?_
    refine lv_istore_n (lv' := [(2, .int (((qa_up g 0 32 ((g 0 32) - (1 : Int32))) 0 32) - (1 : Int32))), (0, .ref (ad 0)), (1, .int x1)]) hx hb d_Mo_leave_56 rfl hl (by decide) rfl (fun ls hl => ?_)
    refine lv_aload_n hx hb d_Mo_leave_57 rfl (lv_at hl 1 rfl) ?_
    refine qa_get S hK hO hi_Mo 0 (by decide) rfl rfl 36 (by decide) lf_Mo_80 rfl rfl d_Mo_leave_58 ?_
    refine lv_aload_n hx hb d_Mo_leave_61 rfl (lv_at hl 1 rfl) ?_
    refine qa_get S hK hO hi_Mo 0 (by decide) rfl rfl 32 (by decide) lf_Mo_226 rfl rfl d_Mo_leave_62 ?_
    obtain ⟨hi65, hT⟩ := qa_c hT
    refine qa_zald (n := 10) S hK hO 24 (by decide) 3 (me_zar rfl) rfl hi65 d_Mo_leave_65 ?_
    exact b66 (qa_up g 0 32 ((g 0 32) - (1 : Int32))) x1 (((qa_up g 0 32 ((g 0 32) - (1 : Int32))) 0 32) - (1 : Int32)) ((qa_up g 0 32 ((g 0 32) - (1 : Int32))) 24 ((qa_up g 0 32 ((g 0 32) - (1 : Int32))) 0 32).toNatClampNeg) _ _ _ (lv_sub hl [1, 2, 0] rfl) hO hT
  · have hT := qa_t hT h
    refine lv_aload_n hx hb d_Mo_leave_17 rfl (lv_at hl 0 rfl) ?_
    refine lv_aload_n hx hb d_Mo_leave_18 rfl (lv_at hl 0 rfl) ?_
    refine qa_get S hK hO hi_Mo 0 (by decide) rfl rfl 27 (by decide) lf_Mo_211 rfl rfl d_Mo_leave_19 ?_
    refine lv_if_eq (tgt := 29) hx hb d_Mo_leave_22 (by decide) (fun h => ?_) (fun h => ?_)
    · have hT := qa_t hT h
      refine lv_iconst (v := -1) hx hb d_Mo_leave_29 (by decide) ?_
      exact b30 (qa_up g 0 32 ((g 0 32) - (1 : Int32))) x1 (-1 : Int32) _ _ _ (lv_sub hl [0, 1] rfl) hO hT
    · have hT := qa_f hT h
      refine lv_iconst (v := 0) hx hb d_Mo_leave_25 (by decide) ?_
      refine lv_goto (tgt := 30) hx hb d_Mo_leave_26 (by decide) ?_
      exact b30 (qa_up g 0 32 ((g 0 32) - (1 : Int32))) x1 (0 : Int32) _ _ _ (lv_sub hl [0, 1] rfl) hO hT
def mf_Mo_create_12 : Nat → qa_St → Int32 → qa_Re
  | 0, _, _ => none
  | n + 1, g, x2 => (if (6 : Int32) ≤ x2 then ((mf_Mo_push g (g 0 40)).bind fun t44 => (some (0, (qa_up t44.2 0 40 ((t44.2 0 40) + (1 : Int32)))))) else (if (((6 : Int32) * (g 0 40)) + x2) < 0 ∨ 96 ≤ (((6 : Int32) * (g 0 40)) + x2).toNatClampNeg then none else ((mf_Mo_create_12 n) (qa_up g 29 (((6 : Int32) * (g 0 40)) + x2).toNatClampNeg (0 : Int32)) (x2 + 1))))
def mf_Mo_create (g : qa_St) (x1 : Int32) : qa_Re := (if (g 0 40) < 0 ∨ 16 ≤ (g 0 40).toNatClampNeg then none else (mf_Mo_create_12 4096 (qa_up g 28 (g 0 40).toNatClampNeg x1) (0 : Int32)))
set_option maxHeartbeats 4000000 in
set_option maxRecDepth 100000 in
theorem mc_Mo_create (l : Launch) (D : va_G) (cI cJ cF cZ : ClassId) (ad : Nat → Nat) (g : qa_St) (x1 : Int32) : qa_Mv l y_Mo_create (qa_ws y_Mo_create b_Mo_create 3 none) (qa_rm 1 22) D (qa_ty cI cJ cF cZ) 33 ad (me_en cI cZ ad) [.ref (ad 0), .int x1] g (mf_Mo_create g x1) := by
  refine qa_metv (by decide) (Nat.le_of_ble_eq_true rfl) ?_
  intro p e s m args below meth c Q A T S hK hN hA hT ret ls hl hO
  have hx := S.1
  have hb := S.2.1
  have hl : lv_has ls 3 [(0, .ref (ad 0)), (1, .int x1)] := hl
  have b12 : ∀ (n : Nat), ∀ (g : qa_St) (x2 : Int32) (ls : Array Slot) (H : Heap) (locs : List Loc), lv_has ls 3 [(0, .ref (ad 0)), (2, .int x2)] → qa_O D 33 ad (me_en cI cZ ad) A s.heap g H locs → mf_Mo_create_12 n g x2 = some T → W p l e (qa_rm 1 22) s m args below meth c H locs 0 0 Q (F0 m 12 ls []) := by
    intro n
    induction n with
    | zero => intro g x2 ls H locs hl hO hT; rw [mf_Mo_create_12] at hT; cases hT
    | succ n ih =>
      intro g x2 ls H locs hl hO hT
      rw [mf_Mo_create_12] at hT
      refine lv_iload_n hx hb d_Mo_create_12 rfl (lv_at hl 1 rfl) ?_
      refine lv_bipush (v := 6) hx hb d_Mo_create_13 (by decide) ?_
      refine lv_icmp_ge (tgt := 39) hx hb d_Mo_create_15 (by decide) (fun h => ?_) (fun h => ?_)
      · have hT := qa_t hT h
        refine lv_aload_n hx hb d_Mo_create_39 rfl (lv_at hl 0 rfl) ?_
        refine lv_aload_n hx hb d_Mo_create_40 rfl (lv_at hl 0 rfl) ?_
        refine qa_get S hK hO hi_Mo 0 (by decide) rfl rfl 40 (by decide) lf_Mo_229 rfl rfl d_Mo_create_41 ?_
        obtain ⟨t44, ht44, hT⟩ := qa_b hT
        refine qa_Vv (As := [.int (g 0 40)]) (rest := []) (r := 0) S hK hN hA hO (mc_Mo_push l D cI cJ cF cZ ad g (g 0 40)) ht44 qy_Mo_push lm_Mo_269 ⟨by decide, by decide⟩ (by decide) rfl rfl rfl rfl hl.1 rfl (Nat.le_of_ble_eq_true rfl) d_Mo_create_44 (fun H locs hO => ?_)
        refine lv_aload_n hx hb d_Mo_create_47 rfl (lv_at hl 0 rfl) ?_
        refine lv_dup hx hb d_Mo_create_48 rfl ?_
        refine qa_get S hK hO hi_Mo 0 (by decide) rfl rfl 40 (by decide) lf_Mo_229 rfl rfl d_Mo_create_49 ?_
        refine lv_iconst (v := 1) hx hb d_Mo_create_52 (by decide) ?_
        refine lv_iadd hx hb d_Mo_create_53 ?_
        refine qa_put S hK hO hi_Mo t_Mo t_Mo_ok n_Mo 0 (by decide) rfl rfl 40 (by decide) lf_Mo_229 rfl rfl (ty := .int) (by decide +kernel) rfl rfl (Nat.le_of_ble_eq_true rfl) rfl d_Mo_create_54 (fun H locs hO => ?_)
        exact ret hT hO d_Mo_create_57
      · have hT := qa_f hT h
        refine lv_aload_n hx hb d_Mo_create_18 rfl (lv_at hl 0 rfl) ?_
        refine qa_get S hK hO hi_Mo 0 (by decide) rfl rfl 42 (by decide) lf_Mo_95 rfl rfl d_Mo_create_19 ?_
        refine lv_bipush (v := 6) hx hb d_Mo_create_22 (by decide) ?_
        refine lv_aload_n hx hb d_Mo_create_24 rfl (lv_at hl 0 rfl) ?_
        refine qa_get S hK hO hi_Mo 0 (by decide) rfl rfl 40 (by decide) lf_Mo_229 rfl rfl d_Mo_create_25 ?_
        refine lv_imul hx hb d_Mo_create_28 ?_
        refine lv_iload_n hx hb d_Mo_create_29 rfl (lv_at hl 1 rfl) ?_
        refine lv_iadd hx hb d_Mo_create_30 ?_
        refine lv_iconst (v := 0) hx hb d_Mo_create_31 (by decide) ?_
        obtain ⟨hi32, hT⟩ := qa_c hT
        refine qa_iast (n := 96) S hK hO 29 (by decide) 0 (me_arr rfl) rfl hi32 d_Mo_create_32 (fun H locs hO => ?_)
        refine lv_iinc (lv' := [(2, .int (x2 + 1)), (0, .ref (ad 0))]) hx hb d_Mo_create_33 hl (k := 1) rfl (qa_o1 _) (by decide) rfl (fun ls hl => ?_)
        refine lv_goto (tgt := 12) hx hb d_Mo_create_36 (by decide) ?_
        exact ih (qa_up g 29 (((6 : Int32) * (g 0 40)) + x2).toNatClampNeg (0 : Int32)) (x2 + 1) _ _ _ (lv_sub hl [1, 0] rfl) hO hT
  unfold mf_Mo_create at hT
  refine lv_aload_n hx hb d_Mo_create_0 rfl (lv_at hl 0 rfl) ?_
  refine qa_get S hK hO hi_Mo 0 (by decide) rfl rfl 41 (by decide) lf_Mo_92 rfl rfl d_Mo_create_1 ?_
  refine lv_aload_n hx hb d_Mo_create_4 rfl (lv_at hl 0 rfl) ?_
  refine qa_get S hK hO hi_Mo 0 (by decide) rfl rfl 40 (by decide) lf_Mo_229 rfl rfl d_Mo_create_5 ?_
  refine lv_iload_n hx hb d_Mo_create_8 rfl (lv_at hl 1 rfl) ?_
  obtain ⟨hi9, hT⟩ := qa_c hT
  refine qa_iast (n := 16) S hK hO 28 (by decide) 0 (me_arr rfl) rfl hi9 d_Mo_create_9 (fun H locs hO => ?_)
  refine lv_iconst (v := 0) hx hb d_Mo_create_10 (by decide) ?_
  refine lv_istore_n (lv' := [(2, .int (0 : Int32)), (0, .ref (ad 0)), (1, .int x1)]) hx hb d_Mo_create_11 rfl hl (by decide) rfl (fun ls hl => ?_)
  exact b12 4096 (qa_up g 28 (g 0 40).toNatClampNeg x1) (0 : Int32) _ _ _ (lv_sub hl [1, 0] rfl) hO hT
def mf_Mo_print_19 (g : qa_St) : qa_Re := (some (0, (qa_up g 0 46 ((g 0 46) + (1 : Int32)))))
def mf_Mo_print (g : qa_St) (x1 : Int32) : qa_Re := (if (16 : Int32) ≤ (g 0 46) then (mf_Mo_print_19 g) else (if (g 0 46) < 0 ∨ 16 ≤ (g 0 46).toNatClampNeg then none else (mf_Mo_print_19 (qa_up g 32 (g 0 46).toNatClampNeg x1))))
set_option maxHeartbeats 4000000 in
set_option maxRecDepth 100000 in
theorem mc_Mo_print (l : Launch) (D : va_G) (cI cJ cF cZ : ClassId) (ad : Nat → Nat) (g : qa_St) (x1 : Int32) : qa_Mv l y_Mo_print (qa_ws y_Mo_print b_Mo_print 2 none) (qa_rm 0 0) D (qa_ty cI cJ cF cZ) 33 ad (me_en cI cZ ad) [.ref (ad 0), .int x1] g (mf_Mo_print g x1) := by
  refine qa_metv (by decide) (Nat.le_of_ble_eq_true rfl) ?_
  intro p e s m args below meth c Q A T S hK hN hA hT ret ls hl hO
  have hx := S.1
  have hb := S.2.1
  have hl : lv_has ls 2 [(0, .ref (ad 0)), (1, .int x1)] := hl
  have b19 : ∀ (g : qa_St) (ls : Array Slot) (H : Heap) (locs : List Loc), lv_has ls 2 [(0, .ref (ad 0))] → qa_O D 33 ad (me_en cI cZ ad) A s.heap g H locs → mf_Mo_print_19 g = some T → W p l e (qa_rm 0 0) s m args below meth c H locs 0 0 Q (F0 m 19 ls []) := by
    intro g ls H locs hl hO hT
    unfold mf_Mo_print_19 at hT
    refine lv_aload_n hx hb d_Mo_print_19 rfl (lv_at hl 0 rfl) ?_
    refine lv_dup hx hb d_Mo_print_20 rfl ?_
    refine qa_get S hK hO hi_Mo 0 (by decide) rfl rfl 46 (by decide) lf_Mo_235 rfl rfl d_Mo_print_21 ?_
    refine lv_iconst (v := 1) hx hb d_Mo_print_24 (by decide) ?_
    refine lv_iadd hx hb d_Mo_print_25 ?_
    refine qa_put S hK hO hi_Mo t_Mo t_Mo_ok n_Mo 0 (by decide) rfl rfl 46 (by decide) lf_Mo_235 rfl rfl (ty := .int) (by decide +kernel) rfl rfl (Nat.le_of_ble_eq_true rfl) rfl d_Mo_print_26 (fun H locs hO => ?_)
    exact ret hT hO d_Mo_print_29
  unfold mf_Mo_print at hT
  refine lv_aload_n hx hb d_Mo_print_0 rfl (lv_at hl 0 rfl) ?_
  refine qa_get S hK hO hi_Mo 0 (by decide) rfl rfl 46 (by decide) lf_Mo_235 rfl rfl d_Mo_print_1 ?_
  refine lv_bipush (v := 16) hx hb d_Mo_print_4 (by decide) ?_
  refine lv_icmp_ge (tgt := 19) hx hb d_Mo_print_6 (by decide) (fun h => ?_) (fun h => ?_)
  · have hT := qa_t hT h
    exact b19 g _ _ _ (lv_sub hl [0] rfl) hO hT
  · have hT := qa_f hT h
    refine lv_aload_n hx hb d_Mo_print_9 rfl (lv_at hl 0 rfl) ?_
    refine qa_get S hK hO hi_Mo 0 (by decide) rfl rfl 47 (by decide) lf_Mo_104 rfl rfl d_Mo_print_10 ?_
    refine lv_aload_n hx hb d_Mo_print_13 rfl (lv_at hl 0 rfl) ?_
    refine qa_get S hK hO hi_Mo 0 (by decide) rfl rfl 46 (by decide) lf_Mo_235 rfl rfl d_Mo_print_14 ?_
    refine lv_iload_n hx hb d_Mo_print_17 rfl (lv_at hl 1 rfl) ?_
    obtain ⟨hi18, hT⟩ := qa_c hT
    refine qa_iast (n := 16) S hK hO 32 (by decide) 0 (me_arr rfl) rfl hi18 d_Mo_print_18 (fun H locs hO => ?_)
    exact b19 (qa_up g 32 (g 0 46).toNatClampNeg x1) _ _ _ (lv_sub hl [0] rfl) hO hT
