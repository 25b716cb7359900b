def mf_Mo_sound_183 (g : qa_St) : qa_Re := (if (g 0 21) = 0 then (some ((1 : Int32), g)) else (some ((0 : Int32), g)))
def mf_Mo_sound_177 (k106 : qa_St → Int32 → Int32 → qa_Re) (g : qa_St) (x1 : Int32) (x2 : Int32) : qa_Re := (k106 g x1 (x2 + 1))
def mf_Mo_sound_171 (k106 : qa_St → Int32 → Int32 → qa_Re) (k134 : qa_St → Int32 → Int32 → Int32 → qa_Re) (g : qa_St) (x1 : Int32) (x2 : Int32) (x3 : Int32) : qa_Re := (k134 g x1 x2 (x3 + 1))
def mf_Mo_sound_134 (k106 : qa_St → Int32 → Int32 → qa_Re) : Nat → qa_St → Int32 → Int32 → Int32 → qa_Re
  | 0, _, _, _, _ => none
  | n + 1, g, x1, x2, x3 => (if x1 < 0 ∨ 10 ≤ x1.toNatClampNeg then none else (if (g 7 x1.toNatClampNeg) ≤ x3 then (mf_Mo_sound_177 k106 g x1 x2) else (if (g 0 21) = 0 then (if (((20 : Int32) * x1) + x3) < 0 ∨ 200 ≤ (((20 : Int32) * x1) + x3).toNatClampNeg then none else (if (g 14 (((20 : Int32) * x1) + x3).toNatClampNeg) = 0 then (mf_Mo_sound_171 k106 (mf_Mo_sound_134 k106 n) g x1 x2 x3) else ((mf_Mo_flow g x1 x3).bind fun t168 => (mf_Mo_sound_171 k106 (mf_Mo_sound_134 k106 n) t168.2 x1 x2 x3)))) else (mf_Mo_sound_177 k106 g x1 x2))))
def mf_Mo_sound_106 : Nat → qa_St → Int32 → Int32 → qa_Re
  | 0, _, _, _ => none
  | n + 1, g, x1, x2 => (if (2000 : Int32) ≤ x2 then (mf_Mo_sound_183 g) else (if (g 0 22) = 0 then (mf_Mo_sound_183 g) else (if (g 0 21) = 0 then (mf_Mo_sound_134 (mf_Mo_sound_106 n) 4096 (qa_up g 0 22 (0 : Int32)) x1 x2 (0 : Int32)) else (mf_Mo_sound_183 g))))
def mf_Mo_sound_93 (g : qa_St) (x1 : Int32) : qa_Re := ((mf_Mo_arrive (qa_up g 0 22 (1 : Int32)) x1 (0 : Int32)).bind fun t101 => (mf_Mo_sound_106 4096 t101.2 x1 (0 : Int32)))
def mf_Mo_sound_65 (k38 : qa_St → Int32 → Int32 → qa_Re) (g : qa_St) (x1 : Int32) (x2 : Int32) (s0 : Int32) (s1 : Int32) : qa_Re := (if s1 < 0 ∨ 10 ≤ s1.toNatClampNeg then none else (k38 (qa_up g 17 s1.toNatClampNeg s0) x1 (x2 + 1)))
def mf_Mo_sound_38 : Nat → qa_St → Int32 → Int32 → qa_Re
  | 0, _, _, _ => none
  | n + 1, g, x1, x2 => (if (4 : Int32) ≤ x2 then (if x1 < 0 ∨ 10 ≤ x1.toNatClampNeg then none else (if (g 5 x1.toNatClampNeg) < 0 then (mf_Mo_sound_93 g x1) else (if x1 < 0 ∨ 10 ≤ x1.toNatClampNeg then none else (if (0 : Int32) < 0 ∨ 10 ≤ (0 : Int32).toNatClampNeg then none else (mf_Mo_sound_93 (qa_up g 17 (0 : Int32).toNatClampNeg (g 4 x1.toNatClampNeg)) x1))))) else (if x1 < 0 ∨ 10 ≤ x1.toNatClampNeg then none else (if (g 6 x1.toNatClampNeg) ≤ x2 then (mf_Mo_sound_65 (mf_Mo_sound_38 n) g x1 x2 (8 : Int32) x2) else (mf_Mo_sound_65 (mf_Mo_sound_38 n) g x1 x2 (9 : Int32) x2))))
def mf_Mo_sound_2 : Nat → qa_St → Int32 → Int32 → qa_Re
  | 0, _, _, _ => none
  | n + 1, g, x1, x2 => (if (20 : Int32) ≤ x2 then (mf_Mo_sound_38 4096 (qa_up (qa_up g 0 21 (0 : Int32)) 0 20 (0 : Int32)) x1 (0 : Int32)) else (if (((20 : Int32) * x1) + x2) < 0 ∨ 200 ≤ (((20 : Int32) * x1) + x2).toNatClampNeg then none else ((mf_Mo_sound_2 n) (qa_up g 14 (((20 : Int32) * x1) + x2).toNatClampNeg (0 : Int32)) x1 (x2 + 1))))
def mf_Mo_sound (g : qa_St) (x1 : Int32) : qa_Re := (mf_Mo_sound_2 4096 g x1 (0 : Int32))
set_option maxHeartbeats 4000000 in
set_option maxRecDepth 100000 in
theorem mc_Mo_sound (l : Launch) (D : va_G) (cI cJ cF cZ : ClassId) (ad : Nat → Nat) (g : qa_St) (x1 : Int32) : qa_Mi l y_Mo_sound (qa_ws y_Mo_sound b_Mo_sound 4 (some .boolean)) (qa_rm 4 99) D (qa_ty cI cJ cF cZ) 33 ad (me_en cI cZ ad) [.ref (ad 0), .int x1] g (mf_Mo_sound g x1) := by
  refine qa_metz (by decide) (Nat.le_of_ble_eq_true rfl) ?_
  intro p e s m args below meth c Q A T S hK hN hA hT ret ls hl hO
  have hx := S.1
  have hb := S.2.1
  have hl : lv_has ls 4 [(0, .ref (ad 0)), (1, .int x1)] := hl
  have b183 : ∀ (g : qa_St) (ls : Array Slot) (H : Heap) (locs : List Loc), lv_has ls 4 [(0, .ref (ad 0))] → qa_O D 33 ad (me_en cI cZ ad) A s.heap g H locs → mf_Mo_sound_183 g = some T → W p l e (qa_rm 4 99) s m args below meth c H locs 0 0 Q (F0 m 183 ls []) := by
    intro g ls H locs hl hO hT
    unfold mf_Mo_sound_183 at hT
    refine lv_aload_n hx hb d_Mo_sound_183 rfl (lv_at hl 0 rfl) ?_
    refine qa_get S hK hO hi_Mo 0 (by decide) rfl rfl 21 (by decide) lf_Mo_148 rfl rfl d_Mo_sound_184 ?_
    refine lv_if_ne (tgt := 194) hx hb d_Mo_sound_187 (by decide) (fun h => ?_) (fun h => ?_)
    · have hT := qa_f hT h
      refine lv_iconst (v := 0) hx hb d_Mo_sound_194 (by decide) ?_
      exact ret (by decide) hT hO d_Mo_sound_195
    · have hT := qa_t hT h
      refine lv_iconst (v := 1) hx hb d_Mo_sound_190 (by decide) ?_
      refine lv_goto (tgt := 195) hx hb d_Mo_sound_191 (by decide) ?_
      exact ret (by decide) hT hO d_Mo_sound_195
  have b177 : ∀ (k106 : qa_St → Int32 → Int32 → qa_Re) (hk106 : ∀ (g : qa_St) (x1 : Int32) (x2 : Int32) (ls : Array Slot) (H : Heap) (locs : List Loc), lv_has ls 4 [(0, .ref (ad 0)), (1, .int x1), (2, .int x2)] → qa_O D 33 ad (me_en cI cZ ad) A s.heap g H locs → k106 g x1 x2 = some T → W p l e (qa_rm 4 99) s m args below meth c H locs 0 0 Q (F0 m 106 ls [])), ∀ (g : qa_St) (x1 : Int32) (x2 : Int32) (ls : Array Slot) (H : Heap) (locs : List Loc), lv_has ls 4 [(0, .ref (ad 0)), (1, .int x1), (2, .int x2)] → qa_O D 33 ad (me_en cI cZ ad) A s.heap g H locs → mf_Mo_sound_177 k106 g x1 x2 = some T → W p l e (qa_rm 4 99) s m args below meth c H locs 0 0 Q (F0 m 177 ls []) := by
    intro k106 hk106
    intro g x1 x2 ls H locs hl hO hT
    unfold mf_Mo_sound_177 at hT
    refine lv_iinc (lv' := [(2, .int (x2 + 1)), (0, .ref (ad 0)), (1, .int x1)]) hx hb d_Mo_sound_177 hl (k := 2) rfl (qa_o1 _) (by decide) rfl (fun ls hl => ?_)
    refine lv_goto (tgt := 106) hx hb d_Mo_sound_180 (by decide) ?_
    exact hk106 g x1 (x2 + 1) _ _ _ (lv_sub hl [1, 2, 0] rfl) hO hT
  have b171 : ∀ (k106 : qa_St → Int32 → Int32 → qa_Re) (hk106 : ∀ (g : qa_St) (x1 : Int32) (x2 : Int32) (ls : Array Slot) (H : Heap) (locs : List Loc), lv_has ls 4 [(0, .ref (ad 0)), (1, .int x1), (2, .int x2)] → qa_O D 33 ad (me_en cI cZ ad) A s.heap g H locs → k106 g x1 x2 = some T → W p l e (qa_rm 4 99) s m args below meth c H locs 0 0 Q (F0 m 106 ls [])) (k134 : qa_St → Int32 → Int32 → Int32 → qa_Re) (hk134 : ∀ (g : qa_St) (x1 : Int32) (x2 : Int32) (x3 : Int32) (ls : Array Slot) (H : Heap) (locs : List Loc), lv_has ls 4 [(0, .ref (ad 0)), (1, .int x1), (2, .int x2), (3, .int x3)] → qa_O D 33 ad (me_en cI cZ ad) A s.heap g H locs → k134 g x1 x2 x3 = some T → W p l e (qa_rm 4 99) s m args below meth c H locs 0 0 Q (F0 m 134 ls [])), ∀ (g : qa_St) (x1 : Int32) (x2 : Int32) (x3 : Int32) (ls : Array Slot) (H : Heap) (locs : List Loc), lv_has ls 4 [(0, .ref (ad 0)), (1, .int x1), (2, .int x2), (3, .int x3)] → qa_O D 33 ad (me_en cI cZ ad) A s.heap g H locs → mf_Mo_sound_171 k106 k134 g x1 x2 x3 = some T → W p l e (qa_rm 4 99) s m args below meth c H locs 0 0 Q (F0 m 171 ls []) := by
    intro k106 hk106 k134 hk134
    intro g x1 x2 x3 ls H locs hl hO hT
    unfold mf_Mo_sound_171 at hT
    refine lv_iinc (lv' := [(3, .int (x3 + 1)), (0, .ref (ad 0)), (1, .int x1), (2, .int x2)]) hx hb d_Mo_sound_171 hl (k := 3) rfl (qa_o1 _) (by decide) rfl (fun ls hl => ?_)
    refine lv_goto (tgt := 134) hx hb d_Mo_sound_174 (by decide) ?_
    exact hk134 g x1 x2 (x3 + 1) _ _ _ (lv_sub hl [1, 2, 3, 0] rfl) hO hT
  have b134 : ∀ (k106 : qa_St → Int32 → Int32 → qa_Re) (hk106 : ∀ (g : qa_St) (x1 : Int32) (x2 : Int32) (ls : Array Slot) (H : Heap) (locs : List Loc), lv_has ls 4 [(0, .ref (ad 0)), (1, .int x1), (2, .int x2)] → qa_O D 33 ad (me_en cI cZ ad) A s.heap g H locs → k106 g x1 x2 = some T → W p l e (qa_rm 4 99) s m args below meth c H locs 0 0 Q (F0 m 106 ls [])), ∀ (n : Nat), ∀ (g : qa_St) (x1 : Int32) (x2 : Int32) (x3 : Int32) (ls : Array Slot) (H : Heap) (locs : List Loc), lv_has ls 4 [(0, .ref (ad 0)), (1, .int x1), (2, .int x2), (3, .int x3)] → qa_O D 33 ad (me_en cI cZ ad) A s.heap g H locs → mf_Mo_sound_134 k106 n g x1 x2 x3 = some T → W p l e (qa_rm 4 99) s m args below meth c H locs 0 0 Q (F0 m 134 ls []) := by
    intro k106 hk106
    intro n
    induction n with
    | zero => intro g x1 x2 x3 ls H locs hl hO hT; rw [mf_Mo_sound_134] at hT; cases hT
    | succ n ih =>
      intro g x1 x2 x3 ls H locs hl hO hT
      rw [mf_Mo_sound_134] at hT
      refine lv_iload_n hx hb d_Mo_sound_134 rfl (lv_at hl 3 rfl) ?_
      refine lv_aload_n hx hb d_Mo_sound_135 rfl (lv_at hl 0 rfl) ?_
      refine qa_get S hK hO hi_Mo 0 (by decide) rfl rfl 8 (by decide) lf_Mo_28 rfl rfl d_Mo_sound_136 ?_
      refine lv_iload_n hx hb d_Mo_sound_139 rfl (lv_at hl 1 rfl) ?_
      obtain ⟨hi140, hT⟩ := qa_c hT
      refine qa_iald (n := 10) S hK hO 7 (by decide) 0 (me_arr rfl) rfl hi140 d_Mo_sound_140 ?_
      refine lv_icmp_ge (tgt := 177) hx hb d_Mo_sound_141 (by decide) (fun h => ?_) (fun h => ?_)
      · have hT := qa_t hT h
        exact b177 k106 hk106 g x1 x2 _ _ _ (lv_sub hl [0, 1, 2] rfl) hO hT
      · have hT := qa_f hT h
        refine lv_aload_n hx hb d_Mo_sound_144 rfl (lv_at hl 0 rfl) ?_
        refine qa_get S hK hO hi_Mo 0 (by decide) rfl rfl 21 (by decide) lf_Mo_148 rfl rfl d_Mo_sound_145 ?_
        refine lv_if_ne (tgt := 177) hx hb d_Mo_sound_148 (by decide) (fun h => ?_) (fun h => ?_)
        · have hT := qa_f hT h
          exact b177 k106 hk106 g x1 x2 _ _ _ (lv_sub hl [0, 1, 2] rfl) hO hT
        · have hT := qa_t hT h
          refine lv_aload_n hx hb d_Mo_sound_151 rfl (lv_at hl 0 rfl) ?_
          refine qa_get S hK hO hi_Mo 0 (by decide) rfl rfl 16 (by decide) lf_Mo_49 rfl rfl d_Mo_sound_152 ?_
          refine lv_bipush (v := 20) hx hb d_Mo_sound_155 (by decide) ?_
          refine lv_iload_n hx hb d_Mo_sound_157 rfl (lv_at hl 1 rfl) ?_
          refine lv_imul hx hb d_Mo_sound_158 ?_
          refine lv_iload_n hx hb d_Mo_sound_159 rfl (lv_at hl 3 rfl) ?_
          refine lv_iadd hx hb d_Mo_sound_160 ?_
          obtain ⟨hi161, hT⟩ := qa_c hT
          refine qa_zald (n := 200) S hK hO 14 (by decide) 3 (me_zar rfl) rfl hi161 d_Mo_sound_161 ?_
          refine lv_if_eq (tgt := 171) hx hb d_Mo_sound_162 (by decide) (fun h => ?_) (fun h => ?_)
          · have hT := qa_t hT h
            exact b171 k106 hk106 (mf_Mo_sound_134 k106 n) ih g x1 x2 x3 _ _ _ (lv_sub hl [0, 1, 2, 3] rfl) hO hT
          · have hT := qa_f hT h
            refine lv_aload_n hx hb d_Mo_sound_165 rfl (lv_at hl 0 rfl) ?_
            refine lv_iload_n hx hb d_Mo_sound_166 rfl (lv_at hl 1 rfl) ?_
            refine lv_iload_n hx hb d_Mo_sound_167 rfl (lv_at hl 3 rfl) ?_
            obtain ⟨t168, ht168, hT⟩ := qa_b hT
            refine qa_Vv (As := [.int x1, .int x3]) (rest := []) (r := 0) S hK hN hA hO (mc_Mo_flow l D cI cJ cF cZ ad g x1 x3) ht168 qy_Mo_flow lm_Mo_183 ⟨by decide, by decide⟩ (by decide) rfl rfl rfl rfl hl.1 rfl (Nat.le_of_ble_eq_true rfl) d_Mo_sound_168 (fun H locs hO => ?_)
            exact b171 k106 hk106 (mf_Mo_sound_134 k106 n) ih t168.2 x1 x2 x3 _ _ _ (lv_sub hl [0, 1, 2, 3] rfl) hO hT
  have b106 : ∀ (n : Nat), ∀ (g : qa_St) (x1 : Int32) (x2 : Int32) (ls : Array Slot) (H : Heap) (locs : List Loc), lv_has ls 4 [(0, .ref (ad 0)), (1, .int x1), (2, .int x2)] → qa_O D 33 ad (me_en cI cZ ad) A s.heap g H locs → mf_Mo_sound_106 n g x1 x2 = some T → W p l e (qa_rm 4 99) s m args below meth c H locs 0 0 Q (F0 m 106 ls []) := by
    intro n
    induction n with
    | zero => intro g x1 x2 ls H locs hl hO hT; rw [mf_Mo_sound_106] at hT; cases hT
    | succ n ih =>
      intro g x1 x2 ls H locs hl hO hT
      rw [mf_Mo_sound_106] at hT
      refine lv_iload_n hx hb d_Mo_sound_106 rfl (lv_at hl 2 rfl) ?_
      refine lv_sipush (v := 2000) hx hb d_Mo_sound_107 (by decide) ?_
      refine lv_icmp_ge (tgt := 183) hx hb d_Mo_sound_110 (by decide) (fun h => ?_) (fun h => ?_)
      · have hT := qa_t hT h
        exact b183 g _ _ _ (lv_sub hl [0] rfl) hO hT
      · have hT := qa_f hT h
        refine lv_aload_n hx hb d_Mo_sound_113 rfl (lv_at hl 0 rfl) ?_
        refine qa_get S hK hO hi_Mo 0 (by decide) rfl rfl 22 (by decide) lf_Mo_157 rfl rfl d_Mo_sound_114 ?_
        refine lv_if_eq (tgt := 183) hx hb d_Mo_sound_117 (by decide) (fun h => ?_) (fun h => ?_)
        · have hT := qa_t hT h
          exact b183 g _ _ _ (lv_sub hl [0] rfl) hO hT
        · have hT := qa_f hT h
          refine lv_aload_n hx hb d_Mo_sound_120 rfl (lv_at hl 0 rfl) ?_
          refine qa_get S hK hO hi_Mo 0 (by decide) rfl rfl 21 (by decide) lf_Mo_148 rfl rfl d_Mo_sound_121 ?_
          refine lv_if_ne (tgt := 183) hx hb d_Mo_sound_124 (by decide) (fun h => ?_) (fun h => ?_)
          · have hT := qa_f hT h
            exact b183 g _ _ _ (lv_sub hl [0] rfl) hO hT
          · have hT := qa_t hT h
            refine lv_aload_n hx hb d_Mo_sound_127 rfl (lv_at hl 0 rfl) ?_
            refine lv_iconst (v := 0) hx hb d_Mo_sound_128 (by decide) ?_
            refine qa_put S hK hO hi_Mo t_Mo t_Mo_ok n_Mo 0 (by decide) rfl rfl 22 (by decide) lf_Mo_157 rfl rfl (ty := .boolean) (by decide +kernel) rfl rfl (Nat.le_of_ble_eq_true rfl) rfl d_Mo_sound_129 (fun H locs hO => ?_)
            refine lv_iconst (v := 0) hx hb d_Mo_sound_132 (by decide) ?_
            refine lv_istore_n (lv' := [(3, .int (0 : Int32)), (0, .ref (ad 0)), (1, .int x1), (2, .int x2)]) hx hb d_Mo_sound_133 rfl hl (by decide) rfl (fun ls hl => ?_)
            exact b134 (mf_Mo_sound_106 n) ih 4096 (qa_up g 0 22 (0 : Int32)) x1 x2 (0 : Int32) _ _ _ (lv_sub hl [1, 2, 3, 0] rfl) hO hT
  have b93 : ∀ (g : qa_St) (x1 : Int32) (ls : Array Slot) (H : Heap) (locs : List Loc), lv_has ls 4 [(0, .ref (ad 0)), (1, .int x1)] → qa_O D 33 ad (me_en cI cZ ad) A s.heap g H locs → mf_Mo_sound_93 g x1 = some T → W p l e (qa_rm 4 99) s m args below meth c H locs 0 0 Q (F0 m 93 ls []) := by
    intro g x1 ls H locs hl hO hT
    unfold mf_Mo_sound_93 at hT
    refine lv_aload_n hx hb d_Mo_sound_93 rfl (lv_at hl 0 rfl) ?_
    refine lv_iconst (v := 1) hx hb d_Mo_sound_94 (by decide) ?_
    refine qa_put S hK hO hi_Mo t_Mo t_Mo_ok n_Mo 0 (by decide) rfl rfl 22 (by decide) lf_Mo_157 rfl rfl (ty := .boolean) (by decide +kernel) rfl rfl (Nat.le_of_ble_eq_true rfl) rfl d_Mo_sound_95 (fun H locs hO => ?_)
    refine lv_aload_n hx hb d_Mo_sound_98 rfl (lv_at hl 0 rfl) ?_
    refine lv_iload_n hx hb d_Mo_sound_99 rfl (lv_at hl 1 rfl) ?_
    refine lv_iconst (v := 0) hx hb d_Mo_sound_100 (by decide) ?_
    obtain ⟨t101, ht101, hT⟩ := qa_b hT
    refine qa_Vv (As := [.int x1, .int (0 : Int32)]) (rest := []) (r := 0) S hK hN hA hO (mc_Mo_arrive l D cI cJ cF cZ ad (qa_up g 0 22 (1 : Int32)) x1 (0 : Int32)) ht101 qy_Mo_arrive lm_Mo_168 ⟨by decide, by decide⟩ (by decide) rfl rfl rfl rfl hl.1 rfl (Nat.le_of_ble_eq_true rfl) d_Mo_sound_101 (fun H locs hO => ?_)
    refine lv_iconst (v := 0) hx hb d_Mo_sound_104 (by decide) ?_
    refine lv_istore_n (lv' := [(2, .int (0 : Int32)), (0, .ref (ad 0)), (1, .int x1)]) hx hb d_Mo_sound_105 rfl hl (by decide) rfl (fun ls hl => ?_)
    exact b106 4096 t101.2 x1 (0 : Int32) _ _ _ (lv_sub hl [1, 2, 0] rfl) hO hT
  have b65 : ∀ (k38 : qa_St → Int32 → Int32 → qa_Re) (hk38 : ∀ (g : qa_St) (x1 : Int32) (x2 : Int32) (ls : Array Slot) (H : Heap) (locs : List Loc), lv_has ls 4 [(0, .ref (ad 0)), (1, .int x1), (2, .int x2)] → qa_O D 33 ad (me_en cI cZ ad) A s.heap g H locs → k38 g x1 x2 = some T → W p l e (qa_rm 4 99) s m args below meth c H locs 0 0 Q (F0 m 38 ls [])), ∀ (g : qa_St) (x1 : Int32) (x2 : Int32) (s0 : Int32) (s1 : Int32) (ls : Array Slot) (H : Heap) (locs : List Loc), lv_has ls 4 [(0, .ref (ad 0)), (1, .int x1), (2, .int x2)] → qa_O D 33 ad (me_en cI cZ ad) A s.heap g H locs → mf_Mo_sound_65 k38 g x1 x2 s0 s1 = some T → W p l e (qa_rm 4 99) s m args below meth c H locs 0 0 Q (F0 m 65 ls [.int s0, .int s1, .ref (ad 17)]) := by
    intro k38 hk38
    intro g x1 x2 s0 s1 ls H locs hl hO hT
    unfold mf_Mo_sound_65 at hT
    obtain ⟨hi65, hT⟩ := qa_c hT
    refine qa_iast (n := 10) S hK hO 17 (by decide) 0 (me_arr rfl) rfl hi65 d_Mo_sound_65 (fun H locs hO => ?_)
    refine lv_iinc (lv' := [(2, .int (x2 + 1)), (0, .ref (ad 0)), (1, .int x1)]) hx hb d_Mo_sound_66 hl (k := 2) rfl (qa_o1 _) (by decide) rfl (fun ls hl => ?_)
    refine lv_goto (tgt := 38) hx hb d_Mo_sound_69 (by decide) ?_
    exact hk38 (qa_up g 17 s1.toNatClampNeg s0) x1 (x2 + 1) _ _ _ (lv_sub hl [1, 2, 0] rfl) hO hT
  have b38 : ∀ (n : Nat), ∀ (g : qa_St) (x1 : Int32) (x2 : Int32) (ls : Array Slot) (H : Heap) (locs : List Loc), lv_has ls 4 [(0, .ref (ad 0)), (1, .int x1), (2, .int x2)] → qa_O D 33 ad (me_en cI cZ ad) A s.heap g H locs → mf_Mo_sound_38 n g x1 x2 = some T → W p l e (qa_rm 4 99) s m args below meth c H locs 0 0 Q (F0 m 38 ls []) := by
    intro n
    induction n with
    | zero => intro g x1 x2 ls H locs hl hO hT; rw [mf_Mo_sound_38] at hT; cases hT
    | succ n ih =>
      intro g x1 x2 ls H locs hl hO hT
      rw [mf_Mo_sound_38] at hT
      refine lv_iload_n hx hb d_Mo_sound_38 rfl (lv_at hl 2 rfl) ?_
      refine lv_iconst (v := 4) hx hb d_Mo_sound_39 (by decide) ?_
      refine lv_icmp_ge (tgt := 72) hx hb d_Mo_sound_40 (by decide) (fun h => ?_) (fun h => ?_)
      · have hT := qa_t hT h
        refine lv_aload_n hx hb d_Mo_sound_72 rfl (lv_at hl 0 rfl) ?_
        refine qa_get S hK hO hi_Mo 0 (by decide) rfl rfl 6 (by decide) lf_Mo_22 rfl rfl d_Mo_sound_73 ?_
        refine lv_iload_n hx hb d_Mo_sound_76 rfl (lv_at hl 1 rfl) ?_
        obtain ⟨hi77, hT⟩ := qa_c hT
        refine qa_iald (n := 10) S hK hO 5 (by decide) 0 (me_arr rfl) rfl hi77 d_Mo_sound_77 ?_
        refine lv_if_lt (tgt := 93) hx hb d_Mo_sound_78 (by decide) (fun h => ?_) (fun h => ?_)
        · have hT := qa_t hT h
          exact b93 g x1 _ _ _ (lv_sub hl [0, 1] rfl) hO hT
        · have hT := qa_f hT h
          refine lv_aload_n hx hb d_Mo_sound_81 rfl (lv_at hl 0 rfl) ?_
          refine qa_get S hK hO hi_Mo 0 (by decide) rfl rfl 19 (by decide) lf_Mo_59 rfl rfl d_Mo_sound_82 ?_
          refine lv_iconst (v := 0) hx hb d_Mo_sound_85 (by decide) ?_
          refine lv_aload_n hx hb d_Mo_sound_86 rfl (lv_at hl 0 rfl) ?_
          refine qa_get S hK hO hi_Mo 0 (by decide) rfl rfl 5 (by decide) lf_Mo_19 rfl rfl d_Mo_sound_87 ?_
          refine lv_iload_n hx hb d_Mo_sound_90 rfl (lv_at hl 1 rfl) ?_
          obtain ⟨hi91, hT⟩ := qa_c hT
          refine qa_iald (n := 10) S hK hO 4 (by decide) 0 (me_arr rfl) rfl hi91 d_Mo_sound_91 ?_
          obtain ⟨hi92, hT⟩ := qa_c hT
          refine qa_iast (n := 10) S hK hO 17 (by decide) 0 (me_arr rfl) rfl hi92 d_Mo_sound_92 (fun H locs hO => ?_)
          exact b93 (qa_up g 17 (0 : Int32).toNatClampNeg (g 4 x1.toNatClampNeg)) x1 _ _ _ (lv_sub hl [0, 1] rfl) hO hT
      · have hT := qa_f hT h
        refine lv_aload_n hx hb d_Mo_sound_43 rfl (lv_at hl 0 rfl) ?_
        refine qa_get S hK hO hi_Mo 0 (by decide) rfl rfl 19 (by decide) lf_Mo_59 rfl rfl d_Mo_sound_44 ?_
        refine lv_iload_n hx hb d_Mo_sound_47 rfl (lv_at hl 2 rfl) ?_
        refine lv_iload_n hx hb d_Mo_sound_48 rfl (lv_at hl 2 rfl) ?_
        refine lv_aload_n hx hb d_Mo_sound_49 rfl (lv_at hl 0 rfl) ?_
        refine qa_get S hK hO hi_Mo 0 (by decide) rfl rfl 7 (by decide) lf_Mo_25 rfl rfl d_Mo_sound_50 ?_
        refine lv_iload_n hx hb d_Mo_sound_53 rfl (lv_at hl 1 rfl) ?_
        obtain ⟨hi54, hT⟩ := qa_c hT
        refine qa_iald (n := 10) S hK hO 6 (by decide) 0 (me_arr rfl) rfl hi54 d_Mo_sound_54 ?_
        refine lv_icmp_ge (tgt := 63) hx hb d_Mo_sound_55 (by decide) (fun h => ?_) (fun h => ?_)
        · have hT := qa_t hT h
          refine lv_bipush (v := 8) hx hb d_Mo_sound_63 (by decide) ?_
          exact b65 (mf_Mo_sound_38 n) ih g x1 x2 (8 : Int32) x2 _ _ _ (lv_sub hl [0, 1, 2] rfl) hO hT
        · have hT := qa_f hT h
          refine lv_bipush (v := 9) hx hb d_Mo_sound_58 (by decide) ?_
          refine lv_goto (tgt := 65) hx hb d_Mo_sound_60 (by decide) ?_
          exact b65 (mf_Mo_sound_38 n) ih g x1 x2 (9 : Int32) x2 _ _ _ (lv_sub hl [0, 1, 2] rfl) hO hT
  have b2 : ∀ (n : Nat), ∀ (g : qa_St) (x1 : Int32) (x2 : Int32) (ls : Array Slot) (H : Heap) (locs : List Loc), lv_has ls 4 [(0, .ref (ad 0)), (1, .int x1), (2, .int x2)] → qa_O D 33 ad (me_en cI cZ ad) A s.heap g H locs → mf_Mo_sound_2 n g x1 x2 = some T → W p l e (qa_rm 4 99) s m args below meth c H locs 0 0 Q (F0 m 2 ls []) := by
    intro n
    induction n with
    | zero => intro g x1 x2 ls H locs hl hO hT; rw [mf_Mo_sound_2] at hT; cases hT
    | succ n ih =>
      intro g x1 x2 ls H locs hl hO hT
      rw [mf_Mo_sound_2] at hT
      refine lv_iload_n hx hb d_Mo_sound_2 rfl (lv_at hl 2 rfl) ?_
      refine lv_bipush (v := 20) hx hb d_Mo_sound_3 (by decide) ?_
      refine lv_icmp_ge (tgt := 26) hx hb d_Mo_sound_5 (by decide) (fun h => ?_) (fun h => ?_)
      · have hT := qa_t hT h
        refine lv_aload_n hx hb d_Mo_sound_26 rfl (lv_at hl 0 rfl) ?_
        refine lv_iconst (v := 0) hx hb d_Mo_sound_27 (by decide) ?_
        refine qa_put S hK hO hi_Mo t_Mo t_Mo_ok n_Mo 0 (by decide) rfl rfl 21 (by decide) lf_Mo_148 rfl rfl (ty := .boolean) (by decide +kernel) rfl rfl (Nat.le_of_ble_eq_true rfl) rfl d_Mo_sound_28 (fun H locs hO => ?_)
        refine lv_aload_n hx hb d_Mo_sound_31 rfl (lv_at hl 0 rfl) ?_
        refine lv_iconst (v := 0) hx hb d_Mo_sound_32 (by decide) ?_
        refine qa_put S hK hO hi_Mo t_Mo t_Mo_ok n_Mo 0 (by decide) rfl rfl 20 (by decide) lf_Mo_151 rfl rfl (ty := .int) (by decide +kernel) rfl rfl (Nat.le_of_ble_eq_true rfl) rfl d_Mo_sound_33 (fun H locs hO => ?_)
        refine lv_iconst (v := 0) hx hb d_Mo_sound_36 (by decide) ?_
        refine lv_istore_n (lv' := [(2, .int (0 : Int32)), (0, .ref (ad 0)), (1, .int x1)]) hx hb d_Mo_sound_37 rfl hl (by decide) rfl (fun ls hl => ?_)
        exact b38 4096 (qa_up (qa_up g 0 21 (0 : Int32)) 0 20 (0 : Int32)) x1 (0 : Int32) _ _ _ (lv_sub hl [1, 2, 0] rfl) hO hT
      · have hT := qa_f hT h
        refine lv_aload_n hx hb d_Mo_sound_8 rfl (lv_at hl 0 rfl) ?_
        refine qa_get S hK hO hi_Mo 0 (by decide) rfl rfl 16 (by decide) lf_Mo_49 rfl rfl d_Mo_sound_9 ?_
        refine lv_bipush (v := 20) hx hb d_Mo_sound_12 (by decide) ?_
        refine lv_iload_n hx hb d_Mo_sound_14 rfl (lv_at hl 1 rfl) ?_
        refine lv_imul hx hb d_Mo_sound_15 ?_
        refine lv_iload_n hx hb d_Mo_sound_16 rfl (lv_at hl 2 rfl) ?_
        refine lv_iadd hx hb d_Mo_sound_17 ?_
        refine lv_iconst (v := 0) hx hb d_Mo_sound_18 (by decide) ?_
        obtain ⟨hi19, hT⟩ := qa_c hT
        refine qa_zast (n := 200) S hK hO 14 (by decide) 3 (me_zar rfl) rfl hi19 rfl d_Mo_sound_19 (fun H locs hO => ?_)
        refine lv_iinc (lv' := [(2, .int (x2 + 1)), (0, .ref (ad 0)), (1, .int x1)]) hx hb d_Mo_sound_20 hl (k := 2) rfl (qa_o1 _) (by decide) rfl (fun ls hl => ?_)
        refine lv_goto (tgt := 2) hx hb d_Mo_sound_23 (by decide) ?_
        exact ih (qa_up g 14 (((20 : Int32) * x1) + x2).toNatClampNeg (0 : Int32)) x1 (x2 + 1) _ _ _ (lv_sub hl [1, 2, 0] rfl) hO hT
  unfold mf_Mo_sound at hT
  refine lv_iconst (v := 0) hx hb d_Mo_sound_0 (by decide) ?_
  refine lv_istore_n (lv' := [(2, .int (0 : Int32)), (0, .ref (ad 0)), (1, .int x1)]) hx hb d_Mo_sound_1 rfl hl (by decide) rfl (fun ls hl => ?_)
  exact b2 4096 g x1 (0 : Int32) _ _ _ (lv_sub hl [1, 2, 0] rfl) hO hT
def mf_Mo_enliven_22 (g : qa_St) (x1 : Int32) (s0 : Int32) : qa_Re := (if s0 = 0 ∨ s0 = 1 then (if x1 < 0 ∨ 10 ≤ x1.toNatClampNeg then none else (some (0, (qa_up (qa_up g 0 22 s0) 18 x1.toNatClampNeg (1 : Int32))))) else none)
def mf_Mo_enliven_17 (g : qa_St) (x1 : Int32) : qa_Re := (mf_Mo_enliven_22 g x1 (1 : Int32))
def mf_Mo_enliven (g : qa_St) (x1 : Int32) : qa_Re := (if (g 0 22) = 0 then (if x1 < 0 ∨ 10 ≤ x1.toNatClampNeg then none else (if (g 18 x1.toNatClampNeg) = 0 then (mf_Mo_enliven_17 g x1) else (mf_Mo_enliven_22 g x1 (0 : Int32)))) else (mf_Mo_enliven_17 g x1))
set_option maxHeartbeats 4000000 in
set_option maxRecDepth 100000 in
theorem mc_Mo_enliven (l : Launch) (D : va_G) (cI cJ cF cZ : ClassId) (ad : Nat → Nat) (g : qa_St) (x1 : Int32) : qa_Mv l y_Mo_enliven (qa_ws y_Mo_enliven b_Mo_enliven 2 none) (qa_rm 0 0) D (qa_ty cI cJ cF cZ) 33 ad (me_en cI cZ ad) [.ref (ad 0), .int x1] g (mf_Mo_enliven g x1) := by
  refine qa_metv (by decide) (Nat.le_of_ble_eq_true rfl) ?_
  intro p e s m args below meth c Q A T S hK hN hA hT ret ls hl hO
  have hx := S.1
  have hb := S.2.1
  have hl : lv_has ls 2 [(0, .ref (ad 0)), (1, .int x1)] := hl
  have b22 : ∀ (g : qa_St) (x1 : Int32) (s0 : Int32) (ls : Array Slot) (H : Heap) (locs : List Loc), lv_has ls 2 [(0, .ref (ad 0)), (1, .int x1)] → qa_O D 33 ad (me_en cI cZ ad) A s.heap g H locs → mf_Mo_enliven_22 g x1 s0 = some T → W p l e (qa_rm 0 0) s m args below meth c H locs 0 0 Q (F0 m 22 ls [.int s0, .ref (ad 0)]) := by
    intro g x1 s0 ls H locs hl hO hT
    unfold mf_Mo_enliven_22 at hT
    obtain ⟨hz22, hT⟩ := qa_k hT
    refine qa_put S hK hO hi_Mo t_Mo t_Mo_ok n_Mo 0 (by decide) rfl rfl 22 (by decide) lf_Mo_157 rfl rfl (ty := .boolean) (by decide +kernel) (qa_nz hz22) (qa_fz hz22) (Nat.le_of_ble_eq_true rfl) rfl d_Mo_enliven_22 (fun H locs hO => ?_)
    refine lv_aload_n hx hb d_Mo_enliven_25 rfl (lv_at hl 0 rfl) ?_
    refine qa_get S hK hO hi_Mo 0 (by decide) rfl rfl 23 (by decide) lf_Mo_62 rfl rfl d_Mo_enliven_26 ?_
    refine lv_iload_n hx hb d_Mo_enliven_29 rfl (lv_at hl 1 rfl) ?_
    refine lv_iconst (v := 1) hx hb d_Mo_enliven_30 (by decide) ?_
    obtain ⟨hi31, hT⟩ := qa_c hT
    refine qa_zast (n := 10) S hK hO 18 (by decide) 3 (me_zar rfl) rfl hi31 rfl d_Mo_enliven_31 (fun H locs hO => ?_)
    exact ret hT hO d_Mo_enliven_32
  have b17 : ∀ (g : qa_St) (x1 : Int32) (ls : Array Slot) (H : Heap) (locs : List Loc), lv_has ls 2 [(0, .ref (ad 0)), (1, .int x1)] → qa_O D 33 ad (me_en cI cZ ad) A s.heap g H locs → mf_Mo_enliven_17 g x1 = some T → W p l e (qa_rm 0 0) s m args below meth c H locs 0 0 Q (F0 m 17 ls [.ref (ad 0)]) := by
    intro g x1 ls H locs hl hO hT
    unfold mf_Mo_enliven_17 at hT
    refine lv_iconst (v := 1) hx hb d_Mo_enliven_17 (by decide) ?_
    refine lv_goto (tgt := 22) hx hb d_Mo_enliven_18 (by decide) ?_
    exact b22 g x1 (1 : Int32) _ _ _ (lv_sub hl [0, 1] rfl) hO hT
  unfold mf_Mo_enliven at hT
  refine lv_aload_n hx hb d_Mo_enliven_0 rfl (lv_at hl 0 rfl) ?_
  refine lv_aload_n hx hb d_Mo_enliven_1 rfl (lv_at hl 0 rfl) ?_
  refine qa_get S hK hO hi_Mo 0 (by decide) rfl rfl 22 (by decide) lf_Mo_157 rfl rfl d_Mo_enliven_2 ?_
  refine lv_if_ne (tgt := 17) hx hb d_Mo_enliven_5 (by decide) (fun h => ?_) (fun h => ?_)
  · have hT := qa_f hT h
    exact b17 g x1 _ _ _ (lv_sub hl [0, 1] rfl) hO hT
  · have hT := qa_t hT h
    refine lv_aload_n hx hb d_Mo_enliven_8 rfl (lv_at hl 0 rfl) ?_
    refine qa_get S hK hO hi_Mo 0 (by decide) rfl rfl 23 (by decide) lf_Mo_62 rfl rfl d_Mo_enliven_9 ?_
    refine lv_iload_n hx hb d_Mo_enliven_12 rfl (lv_at hl 1 rfl) ?_
    obtain ⟨hi13, hT⟩ := qa_c hT
    refine qa_zald (n := 10) S hK hO 18 (by decide) 3 (me_zar rfl) rfl hi13 d_Mo_enliven_13 ?_
    refine lv_if_ne (tgt := 21) hx hb d_Mo_enliven_14 (by decide) (fun h => ?_) (fun h => ?_)
    · have hT := qa_f hT h
      refine lv_iconst (v := 0) hx hb d_Mo_enliven_21 (by decide) ?_
      exact b22 g x1 (0 : Int32) _ _ _ (lv_sub hl [0, 1] rfl) hO hT
    · have hT := qa_t hT h
      exact b17 g x1 _ _ _ (lv_sub hl [0, 1] rfl) hO hT
def mf_Mo_touch_57 (k2 : qa_St → Int32 → qa_Re) (g : qa_St) (x2 : Int32) : qa_Re := (if x2 < 0 ∨ 6 ≤ x2.toNatClampNeg then none else (k2 g (g 1 x2.toNatClampNeg)))
def mf_Mo_touch_44 (k2 : qa_St → Int32 → qa_Re) (g : qa_St) (x2 : Int32) (s0 : Int32) : qa_Re := (if s0 < 0 then (mf_Mo_touch_57 k2 g x2) else (if x2 < 0 ∨ 6 ≤ x2.toNatClampNeg then none else ((mf_Mo_enliven g (g 3 x2.toNatClampNeg)).bind fun t54 => (mf_Mo_touch_57 k2 t54.2 x2))))
def mf_Mo_touch_28 (k2 : qa_St → Int32 → qa_Re) (g : qa_St) (x2 : Int32) (s0 : Int32) : qa_Re := (if s0 = 0 ∨ s0 = 1 then (if x2 < 0 ∨ 6 ≤ x2.toNatClampNeg then none else (if x2 < 0 ∨ 6 ≤ x2.toNatClampNeg then none else (mf_Mo_touch_44 k2 (qa_up (qa_up g 0 22 s0) 19 x2.toNatClampNeg (1 : Int32)) x2 ((qa_up (qa_up g 0 22 s0) 19 x2.toNatClampNeg (1 : Int32)) 3 x2.toNatClampNeg)))) else none)
def mf_Mo_touch_23 (k2 : qa_St → Int32 → qa_Re) (g : qa_St) (x2 : Int32) : qa_Re := (mf_Mo_touch_28 k2 g x2 (1 : Int32))
def mf_Mo_touch_2 : Nat → qa_St → Int32 → qa_Re
  | 0, _, _ => none
  | n + 1, g, x2 => (if x2 < 0 then (some (0, g)) else (if (g 0 22) = 0 then (if x2 < 0 ∨ 6 ≤ x2.toNatClampNeg then none else (if (g 19 x2.toNatClampNeg) = 0 then (mf_Mo_touch_23 (mf_Mo_touch_2 n) g x2) else (mf_Mo_touch_28 (mf_Mo_touch_2 n) g x2 (0 : Int32)))) else (mf_Mo_touch_23 (mf_Mo_touch_2 n) g x2)))
def mf_Mo_touch (g : qa_St) (x1 : Int32) : qa_Re := (mf_Mo_touch_2 4096 g x1)
set_option maxHeartbeats 4000000 in
set_option maxRecDepth 100000 in
theorem mc_Mo_touch (l : Launch) (D : va_G) (cI cJ cF cZ : ClassId) (ad : Nat → Nat) (g : qa_St) (x1 : Int32) : qa_Mv l y_Mo_touch (qa_ws y_Mo_touch b_Mo_touch 3 none) (qa_rm 1 21) D (qa_ty cI cJ cF cZ) 33 ad (me_en cI cZ ad) [.ref (ad 0), .int x1] g (mf_Mo_touch g x1) := by
  refine qa_metv (by decide) (Nat.le_of_ble_eq_true rfl) ?_
  intro p e s m args below meth c Q A T S hK hN hA hT ret ls hl hO
  have hx := S.1
  have hb := S.2.1
  have hl : lv_has ls 3 [(0, .ref (ad 0)), (1, .int x1)] := hl
  have b57 : ∀ (k2 : qa_St → Int32 → qa_Re) (hk2 : ∀ (g : qa_St) (x2 : Int32) (ls : Array Slot) (H : Heap) (locs : List Loc), lv_has ls 3 [(0, .ref (ad 0)), (2, .int x2)] → qa_O D 33 ad (me_en cI cZ ad) A s.heap g H locs → k2 g x2 = some T → W p l e (qa_rm 1 21) s m args below meth c H locs 0 0 Q (F0 m 2 ls [])), ∀ (g : qa_St) (x2 : Int32) (ls : Array Slot) (H : Heap) (locs : List Loc), lv_has ls 3 [(0, .ref (ad 0)), (2, .int x2)] → qa_O D 33 ad (me_en cI cZ ad) A s.heap g H locs → mf_Mo_touch_57 k2 g x2 = some T → W p l e (qa_rm 1 21) s m args below meth c H locs 0 0 Q (F0 m 57 ls []) := by
    intro k2 hk2
    intro g x2 ls H locs hl hO hT
    unfold mf_Mo_touch_57 at hT
    refine lv_aload_n hx hb d_Mo_touch_57 rfl (lv_at hl 0 rfl) ?_
    refine qa_get S hK hO hi_Mo 0 (by decide) rfl rfl 1 (by decide) lf_Mo_7 rfl rfl d_Mo_touch_58 ?_
    refine lv_iload_n hx hb d_Mo_touch_61 rfl (lv_at hl 1 rfl) ?_
    obtain ⟨hi62, hT⟩ := qa_c hT
    refine qa_iald (n := 6) S hK hO 1 (by decide) 0 (me_arr rfl) rfl hi62 d_Mo_touch_62 ?_
    refine lv_istore_n (lv' := [(2, .int (g 1 x2.toNatClampNeg)), (0, .ref (ad 0))]) hx hb d_Mo_touch_63 rfl hl (by decide) rfl (fun ls hl => ?_)
    refine lv_goto (tgt := 2) hx hb d_Mo_touch_64 (by decide) ?_
    exact hk2 g (g 1 x2.toNatClampNeg) _ _ _ (lv_sub hl [1, 0] rfl) hO hT
  have b44 : ∀ (k2 : qa_St → Int32 → qa_Re) (hk2 : ∀ (g : qa_St) (x2 : Int32) (ls : Array Slot) (H : Heap) (locs : List Loc), lv_has ls 3 [(0, .ref (ad 0)), (2, .int x2)] → qa_O D 33 ad (me_en cI cZ ad) A s.heap g H locs → k2 g x2 = some T → W p l e (qa_rm 1 21) s m args below meth c H locs 0 0 Q (F0 m 2 ls [])), ∀ (g : qa_St) (x2 : Int32) (s0 : Int32) (ls : Array Slot) (H : Heap) (locs : List Loc), lv_has ls 3 [(0, .ref (ad 0)), (2, .int x2)] → qa_O D 33 ad (me_en cI cZ ad) A s.heap g H locs → mf_Mo_touch_44 k2 g x2 s0 = some T → W p l e (qa_rm 1 21) s m args below meth c H locs 0 0 Q (F0 m 44 ls [.int s0]) := by
    intro k2 hk2
    intro g x2 s0 ls H locs hl hO hT
    unfold mf_Mo_touch_44 at hT
    refine lv_if_lt (tgt := 57) hx hb d_Mo_touch_44 (by decide) (fun h => ?_) (fun h => ?_)
    · have hT := qa_t hT h
      exact b57 k2 hk2 g x2 _ _ _ (lv_sub hl [0, 1] rfl) hO hT
    · have hT := qa_f hT h
      refine lv_aload_n hx hb d_Mo_touch_47 rfl (lv_at hl 0 rfl) ?_
      refine lv_aload_n hx hb d_Mo_touch_48 rfl (lv_at hl 0 rfl) ?_
      refine qa_get S hK hO hi_Mo 0 (by decide) rfl rfl 3 (by decide) lf_Mo_16 rfl rfl d_Mo_touch_49 ?_
      refine lv_iload_n hx hb d_Mo_touch_52 rfl (lv_at hl 1 rfl) ?_
      obtain ⟨hi53, hT⟩ := qa_c hT
      refine qa_iald (n := 6) S hK hO 3 (by decide) 0 (me_arr rfl) rfl hi53 d_Mo_touch_53 ?_
      obtain ⟨t54, ht54, hT⟩ := qa_b hT
      refine qa_Vv (As := [.int (g 3 x2.toNatClampNeg)]) (rest := []) (r := 0) S hK hN hA hO (mc_Mo_enliven l D cI cJ cF cZ ad g (g 3 x2.toNatClampNeg)) ht54 qy_Mo_enliven lm_Mo_196 ⟨by decide, by decide⟩ (by decide) rfl rfl rfl rfl hl.1 rfl (Nat.le_of_ble_eq_true rfl) d_Mo_touch_54 (fun H locs hO => ?_)
      exact b57 k2 hk2 t54.2 x2 _ _ _ (lv_sub hl [0, 1] rfl) hO hT
  have b28 : ∀ (k2 : qa_St → Int32 → qa_Re) (hk2 : ∀ (g : qa_St) (x2 : Int32) (ls : Array Slot) (H : Heap) (locs : List Loc), lv_has ls 3 [(0, .ref (ad 0)), (2, .int x2)] → qa_O D 33 ad (me_en cI cZ ad) A s.heap g H locs → k2 g x2 = some T → W p l e (qa_rm 1 21) s m args below meth c H locs 0 0 Q (F0 m 2 ls [])), ∀ (g : qa_St) (x2 : Int32) (s0 : Int32) (ls : Array Slot) (H : Heap) (locs : List Loc), lv_has ls 3 [(0, .ref (ad 0)), (2, .int x2)] → qa_O D 33 ad (me_en cI cZ ad) A s.heap g H locs → mf_Mo_touch_28 k2 g x2 s0 = some T → W p l e (qa_rm 1 21) s m args below meth c H locs 0 0 Q (F0 m 28 ls [.int s0, .ref (ad 0)]) := by
    intro k2 hk2
    intro g x2 s0 ls H locs hl hO hT
    unfold mf_Mo_touch_28 at hT
    obtain ⟨hz28, hT⟩ := qa_k hT
    refine qa_put S hK hO hi_Mo t_Mo t_Mo_ok n_Mo 0 (by decide) rfl rfl 22 (by decide) lf_Mo_157 rfl rfl (ty := .boolean) (by decide +kernel) (qa_nz hz28) (qa_fz hz28) (Nat.le_of_ble_eq_true rfl) rfl d_Mo_touch_28 (fun H locs hO => ?_)
    refine lv_aload_n hx hb d_Mo_touch_31 rfl (lv_at hl 0 rfl) ?_
    refine qa_get S hK hO hi_Mo 0 (by decide) rfl rfl 24 (by decide) lf_Mo_65 rfl rfl d_Mo_touch_32 ?_
    refine lv_iload_n hx hb d_Mo_touch_35 rfl (lv_at hl 1 rfl) ?_
    refine lv_iconst (v := 1) hx hb d_Mo_touch_36 (by decide) ?_
    obtain ⟨hi37, hT⟩ := qa_c hT
    refine qa_zast (n := 6) S hK hO 19 (by decide) 3 (me_zar rfl) rfl hi37 rfl d_Mo_touch_37 (fun H locs hO => ?_)
    refine lv_aload_n hx hb d_Mo_touch_38 rfl (lv_at hl 0 rfl) ?_
    refine qa_get S hK hO hi_Mo 0 (by decide) rfl rfl 3 (by decide) lf_Mo_16 rfl rfl d_Mo_touch_39 ?_
    refine lv_iload_n hx hb d_Mo_touch_42 rfl (lv_at hl 1 rfl) ?_
    obtain ⟨hi43, hT⟩ := qa_c hT
    refine qa_iald (n := 6) S hK hO 3 (by decide) 0 (me_arr rfl) rfl hi43 d_Mo_touch_43 ?_
    exact b44 k2 hk2 (qa_up (qa_up g 0 22 s0) 19 x2.toNatClampNeg (1 : Int32)) x2 ((qa_up (qa_up g 0 22 s0) 19 x2.toNatClampNeg (1 : Int32)) 3 x2.toNatClampNeg) _ _ _ (lv_sub hl [0, 1] rfl) hO hT
  have b23 : ∀ (k2 : qa_St → Int32 → qa_Re) (hk2 : ∀ (g : qa_St) (x2 : Int32) (ls : Array Slot) (H : Heap) (locs : List Loc), lv_has ls 3 [(0, .ref (ad 0)), (2, .int x2)] → qa_O D 33 ad (me_en cI cZ ad) A s.heap g H locs → k2 g x2 = some T → W p l e (qa_rm 1 21) s m args below meth c H locs 0 0 Q (F0 m 2 ls [])), ∀ (g : qa_St) (x2 : Int32) (ls : Array Slot) (H : Heap) (locs : List Loc), lv_has ls 3 [(0, .ref (ad 0)), (2, .int x2)] → qa_O D 33 ad (me_en cI cZ ad) A s.heap g H locs → mf_Mo_touch_23 k2 g x2 = some T → W p l e (qa_rm 1 21) s m args below meth c H locs 0 0 Q (F0 m 23 ls [.ref (ad 0)]) := by
    intro k2 hk2
    intro g x2 ls H locs hl hO hT
    unfold mf_Mo_touch_23 at hT
    refine lv_iconst (v := 1) hx hb d_Mo_touch_23 (by decide) ?_
    refine lv_goto (tgt := 28) hx hb d_Mo_touch_24 (by decide) ?_
    exact b28 k2 hk2 g x2 (1 : Int32) _ _ _ (lv_sub hl [0, 1] rfl) hO hT
  have b2 : ∀ (n : Nat), ∀ (g : qa_St) (x2 : Int32) (ls : Array Slot) (H : Heap) (locs : List Loc), lv_has ls 3 [(0, .ref (ad 0)), (2, .int x2)] → qa_O D 33 ad (me_en cI cZ ad) A s.heap g H locs → mf_Mo_touch_2 n g x2 = some T → W p l e (qa_rm 1 21) s m args below meth c H locs 0 0 Q (F0 m 2 ls []) := by
    intro n
    induction n with
    | zero => intro g x2 ls H locs hl hO hT; rw [mf_Mo_touch_2] at hT; cases hT
    | succ n ih =>
      intro g x2 ls H locs hl hO hT
      rw [mf_Mo_touch_2] at hT
      refine lv_iload_n hx hb d_Mo_touch_2 rfl (lv_at hl 1 rfl) ?_
      refine lv_if_lt (tgt := 67) hx hb d_Mo_touch_3 (by decide) (fun h => ?_) (fun h => ?_)
      · have hT := qa_t hT h
        exact ret hT hO d_Mo_touch_67
      · have hT := qa_f hT h
        refine lv_aload_n hx hb d_Mo_touch_6 rfl (lv_at hl 0 rfl) ?_
        refine lv_aload_n hx hb d_Mo_touch_7 rfl (lv_at hl 0 rfl) ?_
        refine qa_get S hK hO hi_Mo 0 (by decide) rfl rfl 22 (by decide) lf_Mo_157 rfl rfl d_Mo_touch_8 ?_
        refine lv_if_ne (tgt := 23) hx hb d_Mo_touch_11 (by decide) (fun h => ?_) (fun h => ?_)
        · have hT := qa_f hT h
          exact b23 (mf_Mo_touch_2 n) ih g x2 _ _ _ (lv_sub hl [0, 1] rfl) hO hT
        · have hT := qa_t hT h
          refine lv_aload_n hx hb d_Mo_touch_14 rfl (lv_at hl 0 rfl) ?_
          refine qa_get S hK hO hi_Mo 0 (by decide) rfl rfl 24 (by decide) lf_Mo_65 rfl rfl d_Mo_touch_15 ?_
          refine lv_iload_n hx hb d_Mo_touch_18 rfl (lv_at hl 1 rfl) ?_
          obtain ⟨hi19, hT⟩ := qa_c hT
          refine qa_zald (n := 6) S hK hO 19 (by decide) 3 (me_zar rfl) rfl hi19 d_Mo_touch_19 ?_
          refine lv_if_ne (tgt := 27) hx hb d_Mo_touch_20 (by decide) (fun h => ?_) (fun h => ?_)
          · have hT := qa_f hT h
            refine lv_iconst (v := 0) hx hb d_Mo_touch_27 (by decide) ?_
            exact b28 (mf_Mo_touch_2 n) ih g x2 (0 : Int32) _ _ _ (lv_sub hl [0, 1] rfl) hO hT
          · have hT := qa_t hT h
            exact b23 (mf_Mo_touch_2 n) ih g x2 _ _ _ (lv_sub hl [0, 1] rfl) hO hT
  unfold mf_Mo_touch at hT
  refine lv_iload_n hx hb d_Mo_touch_0 rfl (lv_at hl 1 rfl) ?_
  refine lv_istore_n (lv' := [(2, .int x1), (0, .ref (ad 0)), (1, .int x1)]) hx hb d_Mo_touch_1 rfl hl (by decide) rfl (fun ls hl => ?_)
  exact b2 4096 g x1 _ _ _ (lv_sub hl [1, 0] rfl) hO hT
def mf_Mo_receiver (g : qa_St) (x1 : Int32) : qa_Re := (if x1 < 0 ∨ 200 ≤ x1.toNatClampNeg then none else (if ((((10 : Int32) * x1) + (2 : Int32)) + (g 15 x1.toNatClampNeg)) < 0 ∨ 2000 ≤ ((((10 : Int32) * x1) + (2 : Int32)) + (g 15 x1.toNatClampNeg)).toNatClampNeg then none else (some ((g 16 ((((10 : Int32) * x1) + (2 : Int32)) + (g 15 x1.toNatClampNeg)).toNatClampNeg), g))))
set_option maxHeartbeats 4000000 in
set_option maxRecDepth 100000 in
theorem mc_Mo_receiver (l : Launch) (D : va_G) (cI cJ cF cZ : ClassId) (ad : Nat → Nat) (g : qa_St) (x1 : Int32) : qa_Mi l y_Mo_receiver (qa_ws y_Mo_receiver b_Mo_receiver 2 (some .int)) (qa_rm 0 0) D (qa_ty cI cJ cF cZ) 33 ad (me_en cI cZ ad) [.ref (ad 0), .int x1] g (mf_Mo_receiver g x1) := by
  refine qa_meti (by decide) (Nat.le_of_ble_eq_true rfl) ?_
  intro p e s m args below meth c Q A T S hK hN hA hT ret ls hl hO
  have hx := S.1
  have hb := S.2.1
  have hl : lv_has ls 2 [(0, .ref (ad 0)), (1, .int x1)] := hl
  unfold mf_Mo_receiver at hT
  refine lv_aload_n hx hb d_Mo_receiver_0 rfl (lv_at hl 0 rfl) ?_
  refine qa_get S hK hO hi_Mo 0 (by decide) rfl rfl 18 (by decide) lf_Mo_56 rfl rfl d_Mo_receiver_1 ?_
  refine lv_bipush (v := 10) hx hb d_Mo_receiver_4 (by decide) ?_
  refine lv_iload_n hx hb d_Mo_receiver_6 rfl (lv_at hl 1 rfl) ?_
  refine lv_imul hx hb d_Mo_receiver_7 ?_
  refine lv_iconst (v := 2) hx hb d_Mo_receiver_8 (by decide) ?_
  refine lv_iadd hx hb d_Mo_receiver_9 ?_
  refine lv_aload_n hx hb d_Mo_receiver_10 rfl (lv_at hl 0 rfl) ?_
  refine qa_get S hK hO hi_Mo 0 (by decide) rfl rfl 17 (by decide) lf_Mo_53 rfl rfl d_Mo_receiver_11 ?_
  refine lv_iload_n hx hb d_Mo_receiver_14 rfl (lv_at hl 1 rfl) ?_
  obtain ⟨hi15, hT⟩ := qa_c hT
  refine qa_iald (n := 200) S hK hO 15 (by decide) 0 (me_arr rfl) rfl hi15 d_Mo_receiver_15 ?_
  refine lv_iadd hx hb d_Mo_receiver_16 ?_
  obtain ⟨hi17, hT⟩ := qa_c hT
  refine qa_iald (n := 2000) S hK hO 16 (by decide) 0 (me_arr rfl) rfl hi17 d_Mo_receiver_17 ?_
  exact ret hT hO d_Mo_receiver_18
def mf_Mo_target_67 (k12 : qa_St → Int32 → Int32 → Int32 → Int32 → Int32 → qa_Re) (g : qa_St) (x1 : Int32) (x2 : Int32) (x4 : Int32) (x5 : Int32) (s0 : Int32) : qa_Re := (k12 g x1 x2 s0 x4 (x5 + 1))
def mf_Mo_target_66 (k12 : qa_St → Int32 → Int32 → Int32 → Int32 → Int32 → qa_Re) (g : qa_St) (x1 : Int32) (x2 : Int32) (x4 : Int32) (x5 : Int32) : qa_Re := (mf_Mo_target_67 k12 g x1 x2 x4 x5 (0 : Int32))
def mf_Mo_target_62 (k12 : qa_St → Int32 → Int32 → Int32 → Int32 → Int32 → qa_Re) (g : qa_St) (x1 : Int32) (x2 : Int32) (x4 : Int32) (x5 : Int32) : qa_Re := (mf_Mo_target_67 k12 g x1 x2 x4 x5 (1 : Int32))
def mf_Mo_target_12 : Nat → qa_St → Int32 → Int32 → Int32 → Int32 → Int32 → qa_Re
  | 0, _, _, _, _, _, _ => none
  | n + 1, g, x1, x2, x3, x4, x5 => (if (g 0 0) ≤ x5 then (if x3 = 0 ∨ x3 = 1 then some (x3, g) else none) else (if x3 = 0 then (if x5 < 0 ∨ 6 ≤ x5.toNatClampNeg then none else (if (g 20 x5.toNatClampNeg) = 0 then (mf_Mo_target_66 (mf_Mo_target_12 n) g x1 x2 x4 x5) else ((mf_Mo_isOf g x5 x4).bind fun t40 => (if t40.1 = 0 then (mf_Mo_target_66 (mf_Mo_target_12 n) t40.2 x1 x2 x4 x5) else (if x1 < 0 ∨ 200 ≤ x1.toNatClampNeg then none else ((mf_Mo_answer t40.2 x5 (t40.2 9 x1.toNatClampNeg)).bind fun t55 => (if t55.1 = x2 then (mf_Mo_target_62 (mf_Mo_target_12 n) t55.2 x1 x2 x4 x5) else (mf_Mo_target_66 (mf_Mo_target_12 n) t55.2 x1 x2 x4 x5)))))))) else (mf_Mo_target_62 (mf_Mo_target_12 n) g x1 x2 x4 x5)))
def mf_Mo_target (g : qa_St) (x1 : Int32) (x2 : Int32) : qa_Re := ((mf_Mo_receiver g x1).bind fun t4 => (mf_Mo_target_12 4096 t4.2 x1 x2 (0 : Int32) t4.1 (0 : Int32)))
set_option maxHeartbeats 4000000 in
set_option maxRecDepth 100000 in
theorem mc_Mo_target (l : Launch) (D : va_G) (cI cJ cF cZ : ClassId) (ad : Nat → Nat) (g : qa_St) (x1 : Int32) (x2 : Int32) : qa_Mi l y_Mo_target (qa_ws y_Mo_target b_Mo_target 6 (some .boolean)) (qa_rm 2 47) D (qa_ty cI cJ cF cZ) 33 ad (me_en cI cZ ad) [.ref (ad 0), .int x1, .int x2] g (mf_Mo_target g x1 x2) := by
  refine qa_metz (by decide) (Nat.le_of_ble_eq_true rfl) ?_
  intro p e s m args below meth c Q A T S hK hN hA hT ret ls hl hO
  have hx := S.1
  have hb := S.2.1
  have hl : lv_has ls 6 [(0, .ref (ad 0)), (1, .int x1), (2, .int x2)] := hl
  have b67 : ∀ (k12 : qa_St → Int32 → Int32 → Int32 → Int32 → Int32 → qa_Re) (hk12 : ∀ (g : qa_St) (x1 : Int32) (x2 : Int32) (x3 : Int32) (x4 : Int32) (x5 : Int32) (ls : Array Slot) (H : Heap) (locs : List Loc), lv_has ls 6 [(0, .ref (ad 0)), (1, .int x1), (2, .int x2), (3, .int x3), (4, .int x4), (5, .int x5)] → qa_O D 33 ad (me_en cI cZ ad) A s.heap g H locs → k12 g x1 x2 x3 x4 x5 = some T → W p l e (qa_rm 2 47) s m args below meth c H locs 0 0 Q (F0 m 12 ls [])), ∀ (g : qa_St) (x1 : Int32) (x2 : Int32) (x4 : Int32) (x5 : Int32) (s0 : Int32) (ls : Array Slot) (H : Heap) (locs : List Loc), lv_has ls 6 [(0, .ref (ad 0)), (1, .int x1), (2, .int x2), (4, .int x4), (5, .int x5)] → qa_O D 33 ad (me_en cI cZ ad) A s.heap g H locs → mf_Mo_target_67 k12 g x1 x2 x4 x5 s0 = some T → W p l e (qa_rm 2 47) s m args below meth c H locs 0 0 Q (F0 m 67 ls [.int s0]) := by
    intro k12 hk12
    intro g x1 x2 x4 x5 s0 ls H locs hl hO hT
    unfold mf_Mo_target_67 at hT
    refine lv_istore_n (lv' := [(3, .int s0), (0, .ref (ad 0)), (1, .int x1), (2, .int x2), (4, .int x4), (5, .int x5)]) hx hb d_Mo_target_67 rfl hl (by decide) rfl (fun ls hl => ?_)
    refine lv_iinc (lv' := [(5, .int (x5 + 1)), (3, .int s0), (0, .ref (ad 0)), (1, .int x1), (2, .int x2), (4, .int x4)]) hx hb d_Mo_target_68 hl (k := 5) rfl (qa_o1 _) (by decide) rfl (fun ls hl => ?_)
    refine lv_goto (tgt := 12) hx hb d_Mo_target_71 (by decide) ?_
    exact hk12 g x1 x2 s0 x4 (x5 + 1) _ _ _ (lv_sub hl [2, 3, 4, 1, 5, 0] rfl) hO hT
  have b66 : ∀ (k12 : qa_St → Int32 → Int32 → Int32 → Int32 → Int32 → qa_Re) (hk12 : ∀ (g : qa_St) (x1 : Int32) (x2 : Int32) (x3 : Int32) (x4 : Int32) (x5 : Int32) (ls : Array Slot) (H : Heap) (locs : List Loc), lv_has ls 6 [(0, .ref (ad 0)), (1, .int x1), (2, .int x2), (3, .int x3), (4, .int x4), (5, .int x5)] → qa_O D 33 ad (me_en cI cZ ad) A s.heap g H locs → k12 g x1 x2 x3 x4 x5 = some T → W p l e (qa_rm 2 47) s m args below meth c H locs 0 0 Q (F0 m 12 ls [])), ∀ (g : qa_St) (x1 : Int32) (x2 : Int32) (x4 : Int32) (x5 : Int32) (ls : Array Slot) (H : Heap) (locs : List Loc), lv_has ls 6 [(0, .ref (ad 0)), (1, .int x1), (2, .int x2), (4, .int x4), (5, .int x5)] → qa_O D 33 ad (me_en cI cZ ad) A s.heap g H locs → mf_Mo_target_66 k12 g x1 x2 x4 x5 = some T → W p l e (qa_rm 2 47) s m args below meth c H locs 0 0 Q (F0 m 66 ls []) := by
    intro k12 hk12
    intro g x1 x2 x4 x5 ls H locs hl hO hT
    unfold mf_Mo_target_66 at hT
    refine lv_iconst (v := 0) hx hb d_Mo_target_66 (by decide) ?_
    exact b67 k12 hk12 g x1 x2 x4 x5 (0 : Int32) _ _ _ (lv_sub hl [0, 1, 2, 3, 4] rfl) hO hT
  have b62 : ∀ (k12 : qa_St → Int32 → Int32 → Int32 → Int32 → Int32 → qa_Re) (hk12 : ∀ (g : qa_St) (x1 : Int32) (x2 : Int32) (x3 : Int32) (x4 : Int32) (x5 : Int32) (ls : Array Slot) (H : Heap) (locs : List Loc), lv_has ls 6 [(0, .ref (ad 0)), (1, .int x1), (2, .int x2), (3, .int x3), (4, .int x4), (5, .int x5)] → qa_O D 33 ad (me_en cI cZ ad) A s.heap g H locs → k12 g x1 x2 x3 x4 x5 = some T → W p l e (qa_rm 2 47) s m args below meth c H locs 0 0 Q (F0 m 12 ls [])), ∀ (g : qa_St) (x1 : Int32) (x2 : Int32) (x4 : Int32) (x5 : Int32) (ls : Array Slot) (H : Heap) (locs : List Loc), lv_has ls 6 [(0, .ref (ad 0)), (1, .int x1), (2, .int x2), (4, .int x4), (5, .int x5)] → qa_O D 33 ad (me_en cI cZ ad) A s.heap g H locs → mf_Mo_target_62 k12 g x1 x2 x4 x5 = some T → W p l e (qa_rm 2 47) s m args below meth c H locs 0 0 Q (F0 m 62 ls []) := by
    intro k12 hk12
    intro g x1 x2 x4 x5 ls H locs hl hO hT
    unfold mf_Mo_target_62 at hT
    refine lv_iconst (v := 1) hx hb d_Mo_target_62 (by decide) ?_
    refine lv_goto (tgt := 67) hx hb d_Mo_target_63 (by decide) ?_
    exact b67 k12 hk12 g x1 x2 x4 x5 (1 : Int32) _ _ _ (lv_sub hl [0, 1, 2, 3, 4] rfl) hO hT
  have b12 : ∀ (n : Nat), ∀ (g : qa_St) (x1 : Int32) (x2 : Int32) (x3 : Int32) (x4 : Int32) (x5 : Int32) (ls : Array Slot) (H : Heap) (locs : List Loc), lv_has ls 6 [(0, .ref (ad 0)), (1, .int x1), (2, .int x2), (3, .int x3), (4, .int x4), (5, .int x5)] → qa_O D 33 ad (me_en cI cZ ad) A s.heap g H locs → mf_Mo_target_12 n g x1 x2 x3 x4 x5 = some T → W p l e (qa_rm 2 47) s m args below meth c H locs 0 0 Q (F0 m 12 ls []) := by
    intro n
    induction n with
    | zero => intro g x1 x2 x3 x4 x5 ls H locs hl hO hT; rw [mf_Mo_target_12] at hT; cases hT
    | succ n ih =>
      intro g x1 x2 x3 x4 x5 ls H locs hl hO hT
      rw [mf_Mo_target_12] at hT
      refine lv_iload hx hb d_Mo_target_12 (lv_at hl 5 rfl) ?_
      refine lv_aload_n hx hb d_Mo_target_14 rfl (lv_at hl 0 rfl) ?_
      refine qa_get S hK hO hi_Mo 0 (by decide) rfl rfl 0 (by decide) lf_Mo_114 rfl rfl d_Mo_target_15 ?_
      refine lv_icmp_ge (tgt := 74) hx hb d_Mo_target_18 (by decide) (fun h => ?_) (fun h => ?_)
      · have hT := qa_t hT h
        refine lv_iload_n hx hb d_Mo_target_74 rfl (lv_at hl 3 rfl) ?_
        obtain ⟨hz, hT⟩ := qa_k hT
        exact ret hz hT hO d_Mo_target_75
      · have hT := qa_f hT h
        refine lv_iload_n hx hb d_Mo_target_21 rfl (lv_at hl 3 rfl) ?_
        refine lv_if_ne (tgt := 62) hx hb d_Mo_target_22 (by decide) (fun h => ?_) (fun h => ?_)
        · have hT := qa_f hT h
          exact b62 (mf_Mo_target_12 n) ih g x1 x2 x4 x5 _ _ _ (lv_sub hl [0, 1, 2, 4, 5] rfl) hO hT
        · have hT := qa_t hT h
          refine lv_aload_n hx hb d_Mo_target_25 rfl (lv_at hl 0 rfl) ?_
          refine qa_get S hK hO hi_Mo 0 (by decide) rfl rfl 25 (by decide) lf_Mo_68 rfl rfl d_Mo_target_26 ?_
          refine lv_iload hx hb d_Mo_target_29 (lv_at hl 5 rfl) ?_
          obtain ⟨hi31, hT⟩ := qa_c hT
          refine qa_zald (n := 6) S hK hO 20 (by decide) 3 (me_zar rfl) rfl hi31 d_Mo_target_31 ?_
          refine lv_if_eq (tgt := 66) hx hb d_Mo_target_32 (by decide) (fun h => ?_) (fun h => ?_)
          · have hT := qa_t hT h
            exact b66 (mf_Mo_target_12 n) ih g x1 x2 x4 x5 _ _ _ (lv_sub hl [0, 1, 2, 4, 5] rfl) hO hT
          · have hT := qa_f hT h
            refine lv_aload_n hx hb d_Mo_target_35 rfl (lv_at hl 0 rfl) ?_
            refine lv_iload hx hb d_Mo_target_36 (lv_at hl 5 rfl) ?_
            refine lv_iload hx hb d_Mo_target_38 (lv_at hl 4 rfl) ?_
            obtain ⟨t40, ht40, hT⟩ := qa_b hT
            refine qa_Vi (As := [.int x5, .int x4]) (rest := []) (r := 0) S hK hN hA hO (mc_Mo_isOf l D cI cJ cF cZ ad g x5 x4) ht40 qy_Mo_isOf lm_Mo_142 ⟨by decide, by decide⟩ (by decide) rfl rfl rfl rfl hl.1 rfl (Nat.le_of_ble_eq_true rfl) d_Mo_target_40 (fun H locs hO => ?_)
            refine lv_if_eq (tgt := 66) hx hb d_Mo_target_43 (by decide) (fun h => ?_) (fun h => ?_)
            · have hT := qa_t hT h
              exact b66 (mf_Mo_target_12 n) ih t40.2 x1 x2 x4 x5 _ _ _ (lv_sub hl [0, 1, 2, 4, 5] rfl) hO hT
            · have hT := qa_f hT h
              refine lv_aload_n hx hb d_Mo_target_46 rfl (lv_at hl 0 rfl) ?_
              refine lv_iload hx hb d_Mo_target_47 (lv_at hl 5 rfl) ?_
              refine lv_aload_n hx hb d_Mo_target_49 rfl (lv_at hl 0 rfl) ?_
              refine qa_get S hK hO hi_Mo 0 (by decide) rfl rfl 10 (by decide) lf_Mo_34 rfl rfl d_Mo_target_50 ?_
              refine lv_iload_n hx hb d_Mo_target_53 rfl (lv_at hl 1 rfl) ?_
              obtain ⟨hi54, hT⟩ := qa_c hT
              refine qa_iald (n := 200) S hK hO 9 (by decide) 0 (me_arr rfl) rfl hi54 d_Mo_target_54 ?_
              obtain ⟨t55, ht55, hT⟩ := qa_b hT
              refine qa_Vi (As := [.int x5, .int (t40.2 9 x1.toNatClampNeg)]) (rest := []) (r := 0) S hK hN hA hO (mc_Mo_answer l D cI cJ cF cZ ad t40.2 x5 (t40.2 9 x1.toNatClampNeg)) ht55 qy_Mo_answer lm_Mo_177 ⟨by decide, by decide⟩ (by decide) rfl rfl rfl rfl hl.1 rfl (Nat.le_of_ble_eq_true rfl) d_Mo_target_55 (fun H locs hO => ?_)
              refine lv_iload_n hx hb d_Mo_target_58 rfl (lv_at hl 2 rfl) ?_
              refine lv_icmp_ne (tgt := 66) hx hb d_Mo_target_59 (by decide) (fun h => ?_) (fun h => ?_)
              · have hT := qa_f hT h
                exact b66 (mf_Mo_target_12 n) ih t55.2 x1 x2 x4 x5 _ _ _ (lv_sub hl [0, 1, 2, 4, 5] rfl) hO hT
              · have hT := qa_t hT h
                exact b62 (mf_Mo_target_12 n) ih t55.2 x1 x2 x4 x5 _ _ _ (lv_sub hl [0, 1, 2, 4, 5] rfl) hO hT
  unfold mf_Mo_target at hT
  refine lv_iconst (v := 0) hx hb d_Mo_target_0 (by decide) ?_
  refine lv_istore_n (lv' := [(3, .int (0 : Int32)), (0, .ref (ad 0)), (1, .int x1), (2, .int x2)]) hx hb d_Mo_target_1 rfl hl (by decide) rfl (fun ls hl => ?_)
  refine lv_aload_n hx hb d_Mo_target_2 rfl (lv_at hl 1 rfl) ?_
  refine lv_iload_n hx hb d_Mo_target_3 rfl (lv_at hl 2 rfl) ?_
  obtain ⟨t4, ht4, hT⟩ := qa_b hT
  refine qa_Vi (As := [.int x1]) (rest := []) (r := 0) S hK hN hA hO (mc_Mo_receiver l D cI cJ cF cZ ad g x1) ht4 qy_Mo_receiver lm_Mo_199 ⟨by decide, by decide⟩ (by decide) rfl rfl rfl rfl hl.1 rfl (Nat.le_of_ble_eq_true rfl) d_Mo_target_4 (fun H locs hO => ?_)
  refine lv_istore (lv' := [(4, .int t4.1), (3, .int (0 : Int32)), (0, .ref (ad 0)), (1, .int x1), (2, .int x2)]) hx hb d_Mo_target_7 hl (by decide) rfl (fun ls hl => ?_)
  refine lv_iconst (v := 0) hx hb d_Mo_target_9 (by decide) ?_
  refine lv_istore (lv' := [(5, .int (0 : Int32)), (4, .int t4.1), (3, .int (0 : Int32)), (0, .ref (ad 0)), (1, .int x1), (2, .int x2)]) hx hb d_Mo_target_10 hl (by decide) rfl (fun ls hl => ?_)
  exact b12 4096 t4.2 x1 x2 (0 : Int32) t4.1 (0 : Int32) _ _ _ (lv_sub hl [3, 4, 5, 2, 1, 0] rfl) hO hT
