def mf_Mo_instruct_176 (g : qa_St) (x1 : Int32) (x3 : Int32) (x4 : Int32) : qa_Re := ((mf_Mo_call g x1 x3 x4).bind fun t181 => (some (0, t181.2)))
def mf_Mo_instruct_156 (g : qa_St) (x1 : Int32) (x3 : Int32) (x4 : Int32) (s0 : Int32) : qa_Re := (if s0 = 0 then (some (0, g)) else (if x3 = (16 : Int32) then (mf_Mo_instruct_176 g x1 x3 x4) else (if x3 = (17 : Int32) then (mf_Mo_instruct_176 g x1 x3 x4) else (if x3 = (22 : Int32) then ((mf_Mo_pop g).bind fun t194 => ((mf_Mo_leave t194.2 t194.1).bind fun t202 => (some (0, t202.2)))) else (if x3 = (21 : Int32) then ((mf_Mo_pop g).bind fun t215 => ((mf_Mo_raise t215.2 t215.1).bind fun t223 => (some (0, t223.2)))) else ((mf_Mo_plain g x1 x3 x4).bind fun t234 => (if 0 ≤ t234.1 then (some (0, t234.2)) else ((mf_Mo_raise t234.2 t234.1).bind fun t247 => (some (0, t247.2))))))))))
def mf_Mo_instruct_151 (g : qa_St) (x1 : Int32) (x3 : Int32) (x4 : Int32) : qa_Re := (mf_Mo_instruct_156 g x1 x3 x4 (1 : Int32))
def mf_Mo_instruct_135 (g : qa_St) (x1 : Int32) (x3 : Int32) (x4 : Int32) (s0 : Int32) : qa_Re := (if s0 < 0 then (mf_Mo_instruct_151 g x1 x3 x4) else ((mf_Mo_trigger g s0).bind fun t145 => (if t145.1 = 0 then (mf_Mo_instruct_156 t145.2 x1 x3 x4 (0 : Int32)) else (mf_Mo_instruct_151 t145.2 x1 x3 x4))))
def mf_Mo_instruct_131 (g : qa_St) (x1 : Int32) (x3 : Int32) (x4 : Int32) (s0 : Int32) : qa_Re := (mf_Mo_instruct_135 g x1 x3 x4 s0)
def mf_Mo_instruct_113 (g : qa_St) (x1 : Int32) (x3 : Int32) (x4 : Int32) : qa_Re := (mf_Mo_instruct_135 g x1 x3 x4 x4)
def mf_Mo_instruct_71 (g : qa_St) (x1 : Int32) (s0 : Int32) (s1 : Int32) : qa_Re := (if x1 < 0 ∨ 10 ≤ x1.toNatClampNeg then none else (if ((s1 * s0) + (g 22 x1.toNatClampNeg)) < 0 ∨ 200 ≤ ((s1 * s0) + (g 22 x1.toNatClampNeg)).toNatClampNeg then none else (if ((s1 * s0) + (g 22 x1.toNatClampNeg)) < 0 ∨ 200 ≤ ((s1 * s0) + (g 22 x1.toNatClampNeg)).toNatClampNeg then none else (if (g 8 ((s1 * s0) + (g 22 x1.toNatClampNeg)).toNatClampNeg) = (11 : Int32) then (mf_Mo_instruct_113 g x1 (g 8 ((s1 * s0) + (g 22 x1.toNatClampNeg)).toNatClampNeg) (g 9 ((s1 * s0) + (g 22 x1.toNatClampNeg)).toNatClampNeg)) else (if (g 8 ((s1 * s0) + (g 22 x1.toNatClampNeg)).toNatClampNeg) = (14 : Int32) then (mf_Mo_instruct_113 g x1 (g 8 ((s1 * s0) + (g 22 x1.toNatClampNeg)).toNatClampNeg) (g 9 ((s1 * s0) + (g 22 x1.toNatClampNeg)).toNatClampNeg)) else (if (g 8 ((s1 * s0) + (g 22 x1.toNatClampNeg)).toNatClampNeg) = (15 : Int32) then (mf_Mo_instruct_113 g x1 (g 8 ((s1 * s0) + (g 22 x1.toNatClampNeg)).toNatClampNeg) (g 9 ((s1 * s0) + (g 22 x1.toNatClampNeg)).toNatClampNeg)) else (if (g 8 ((s1 * s0) + (g 22 x1.toNatClampNeg)).toNatClampNeg) = (16 : Int32) then (if (g 9 ((s1 * s0) + (g 22 x1.toNatClampNeg)).toNatClampNeg) < 0 ∨ 10 ≤ (g 9 ((s1 * s0) + (g 22 x1.toNatClampNeg)).toNatClampNeg).toNatClampNeg then none else (mf_Mo_instruct_131 g x1 (g 8 ((s1 * s0) + (g 22 x1.toNatClampNeg)).toNatClampNeg) (g 9 ((s1 * s0) + (g 22 x1.toNatClampNeg)).toNatClampNeg) (g 4 (g 9 ((s1 * s0) + (g 22 x1.toNatClampNeg)).toNatClampNeg).toNatClampNeg))) else (mf_Mo_instruct_135 g x1 (g 8 ((s1 * s0) + (g 22 x1.toNatClampNeg)).toNatClampNeg) (g 9 ((s1 * s0) + (g 22 x1.toNatClampNeg)).toNatClampNeg) (-1 : Int32)))))))))
def mf_Mo_instruct_52 (g : qa_St) (x1 : Int32) (s0 : Int32) (s1 : Int32) : qa_Re := (if x1 < 0 ∨ 10 ≤ x1.toNatClampNeg then none else (if x1 < 0 ∨ 10 ≤ x1.toNatClampNeg then none else (mf_Mo_instruct_71 (qa_up (qa_up g 0 30 (s1 + s0)) 25 x1.toNatClampNeg (0 : Int32)) x1 ((qa_up (qa_up g 0 30 (s1 + s0)) 25 x1.toNatClampNeg (0 : Int32)) 21 x1.toNatClampNeg) (20 : Int32))))
def mf_Mo_instruct_33 (g : qa_St) (x1 : Int32) : qa_Re := (if x1 < 0 ∨ 10 ≤ x1.toNatClampNeg then none else (if (g 25 x1.toNatClampNeg) = 0 then (mf_Mo_instruct_52 g x1 (1 : Int32) (g 0 30)) else (mf_Mo_instruct_52 g x1 (0 : Int32) (g 0 30))))
def mf_Mo_instruct (g : qa_St) : qa_Re := (if ((g 0 32) - (1 : Int32)) < 0 ∨ 10 ≤ ((g 0 32) - (1 : Int32)).toNatClampNeg then none else (if (g 25 ((g 0 32) - (1 : Int32)).toNatClampNeg) = 0 then (if (g 0 30) = (g 0 31) then (some (0, (qa_up g 0 28 (2 : Int32)))) else (mf_Mo_instruct_33 g ((g 0 32) - (1 : Int32)))) else (mf_Mo_instruct_33 g ((g 0 32) - (1 : Int32)))))
set_option maxHeartbeats 4000000 in
set_option maxRecDepth 100000 in
theorem mc_Mo_instruct (l : Launch) (D : va_G) (cI cJ cF cZ : ClassId) (ad : Nat → Nat) (g : qa_St) : qa_Mv l y_Mo_instruct (qa_ws y_Mo_instruct b_Mo_instruct 8 none) (qa_rm 3 75) D (qa_ty cI cJ cF cZ) 33 ad (me_en cI cZ ad) [.ref (ad 0)] g (mf_Mo_instruct g) := by
  refine qa_metv (by decide) (Nat.le_of_ble_eq_true rfl) ?_
  intro p e s m args below meth c Q A T S hK hN hA hT ret ls hl hO
  have hx := S.1
  have hb := S.2.1
  have hl : lv_has ls 8 [(0, .ref (ad 0))] := hl
  have b176 : ∀ (g : qa_St) (x1 : Int32) (x3 : Int32) (x4 : Int32) (ls : Array Slot) (H : Heap) (locs : List Loc), lv_has ls 8 [(0, .ref (ad 0)), (1, .int x1), (3, .int x3), (4, .int x4)] → qa_O D 33 ad (me_en cI cZ ad) A s.heap g H locs → mf_Mo_instruct_176 g x1 x3 x4 = some T → W p l e (qa_rm 3 75) s m args below meth c H locs 0 0 Q (F0 m 176 ls []) := by
    intro g x1 x3 x4 ls H locs hl hO hT
    unfold mf_Mo_instruct_176 at hT
    refine lv_aload_n hx hb d_Mo_instruct_176 rfl (lv_at hl 0 rfl) ?_
    refine lv_iload_n hx hb d_Mo_instruct_177 rfl (lv_at hl 1 rfl) ?_
    refine lv_iload_n hx hb d_Mo_instruct_178 rfl (lv_at hl 2 rfl) ?_
    refine lv_iload hx hb d_Mo_instruct_179 (lv_at hl 3 rfl) ?_
    obtain ⟨t181, ht181, hT⟩ := qa_b hT
    refine qa_Vv (As := [.int x1, .int x3, .int x4]) (rest := []) (r := 0) S hK hN hA hO (mc_Mo_call l D cI cJ cF cZ ad g x1 x3 x4) ht181 qy_Mo_call lm_Mo_254 ⟨by decide, by decide⟩ (by decide) rfl rfl rfl rfl hl.1 rfl (Nat.le_of_ble_eq_true rfl) d_Mo_instruct_181 (fun H locs hO => ?_)
    refine lv_goto (tgt := 250) hx hb d_Mo_instruct_184 (by decide) ?_
    exact ret hT hO d_Mo_instruct_250
  have b156 : ∀ (g : qa_St) (x1 : Int32) (x3 : Int32) (x4 : Int32) (s0 : Int32) (ls : Array Slot) (H : Heap) (locs : List Loc), lv_has ls 8 [(0, .ref (ad 0)), (1, .int x1), (3, .int x3), (4, .int x4)] → qa_O D 33 ad (me_en cI cZ ad) A s.heap g H locs → mf_Mo_instruct_156 g x1 x3 x4 s0 = some T → W p l e (qa_rm 3 75) s m args below meth c H locs 0 0 Q (F0 m 156 ls [.int s0]) := by
    intro g x1 x3 x4 s0 ls H locs hl hO hT
    unfold mf_Mo_instruct_156 at hT
    refine lv_istore (lv' := [(6, .int s0), (0, .ref (ad 0)), (1, .int x1), (3, .int x3), (4, .int x4)]) hx hb d_Mo_instruct_156 hl (by decide) rfl (fun ls hl => ?_)
    refine lv_iload hx hb d_Mo_instruct_158 (lv_at hl 0 rfl) ?_
    refine lv_if_ne (tgt := 164) hx hb d_Mo_instruct_160 (by decide) (fun h => ?_) (fun h => ?_)
    · have hT := qa_f hT h
      refine lv_iload_n hx hb d_Mo_instruct_164 rfl (lv_at hl 3 rfl) ?_
      refine lv_bipush (v := 16) hx hb d_Mo_instruct_165 (by decide) ?_
      refine lv_icmp_eq (tgt := 176) hx hb d_Mo_instruct_167 (by decide) (fun h => ?_) (fun h => ?_)
      · have hT := qa_t hT h
        exact b176 g x1 x3 x4 _ _ _ (lv_sub hl [1, 2, 3, 4] rfl) hO hT
      · have hT := qa_f hT h
        refine lv_iload_n hx hb d_Mo_instruct_170 rfl (lv_at hl 3 rfl) ?_
        refine lv_bipush (v := 17) hx hb d_Mo_instruct_171 (by decide) ?_
        refine lv_icmp_ne (tgt := 187) hx hb d_Mo_instruct_173 (by decide) (fun h => ?_) (fun h => ?_)
        · have hT := qa_f hT h
          refine lv_iload_n hx hb d_Mo_instruct_187 rfl (lv_at hl 3 rfl) ?_
          refine lv_bipush (v := 22) hx hb d_Mo_instruct_188 (by decide) ?_
          refine lv_icmp_ne (tgt := 208) hx hb d_Mo_instruct_190 (by decide) (fun h => ?_) (fun h => ?_)
          · have hT := qa_f hT h
            refine lv_iload_n hx hb d_Mo_instruct_208 rfl (lv_at hl 3 rfl) ?_
            refine lv_bipush (v := 21) hx hb d_Mo_instruct_209 (by decide) ?_
            refine lv_icmp_ne (tgt := 229) hx hb d_Mo_instruct_211 (by decide) (fun h => ?_) (fun h => ?_)
            · have hT := qa_f hT h
              refine lv_aload_n hx hb d_Mo_instruct_229 rfl (lv_at hl 1 rfl) ?_
              refine lv_iload_n hx hb d_Mo_instruct_230 rfl (lv_at hl 2 rfl) ?_
              refine lv_iload_n hx hb d_Mo_instruct_231 rfl (lv_at hl 3 rfl) ?_
              refine lv_iload hx hb d_Mo_instruct_232 (lv_at hl 4 rfl) ?_
              obtain ⟨t234, ht234, hT⟩ := qa_b hT
              refine qa_Vi (As := [.int x1, .int x3, .int x4]) (rest := []) (r := 0) S hK hN hA hO (mc_Mo_plain l D cI cJ cF cZ ad g x1 x3 x4) ht234 qy_Mo_plain lm_Mo_265 ⟨by decide, by decide⟩ (by decide) rfl rfl rfl rfl hl.1 rfl (Nat.le_of_ble_eq_true rfl) d_Mo_instruct_234 (fun H locs hO => ?_)
              refine lv_istore (lv' := [(7, .int t234.1), (6, .int s0), (0, .ref (ad 0)), (1, .int x1), (3, .int x3), (4, .int x4)]) hx hb d_Mo_instruct_237 hl (by decide) rfl (fun ls hl => ?_)
              refine lv_iload hx hb d_Mo_instruct_239 (lv_at hl 0 rfl) ?_
              refine lv_if_ge (tgt := 250) hx hb d_Mo_instruct_241 (by decide) (fun h => ?_) (fun h => ?_)
              · have hT := qa_t hT h
                exact ret hT hO d_Mo_instruct_250
              · have hT := qa_f hT h
                refine lv_aload_n hx hb d_Mo_instruct_244 rfl (lv_at hl 2 rfl) ?_
                refine lv_iload hx hb d_Mo_instruct_245 (lv_at hl 0 rfl) ?_
                obtain ⟨t247, ht247, hT⟩ := qa_b hT
                refine qa_Vv (As := [.int t234.1]) (rest := []) (r := 0) S hK hN hA hO (mc_Mo_raise l D cI cJ cF cZ ad t234.2 t234.1) ht247 qy_Mo_raise lm_Mo_251 ⟨by decide, by decide⟩ (by decide) rfl rfl rfl rfl hl.1 rfl (Nat.le_of_ble_eq_true rfl) d_Mo_instruct_247 (fun H locs hO => ?_)
                exact ret hT hO d_Mo_instruct_250
            · have hT := qa_t hT h
              refine lv_aload_n hx hb d_Mo_instruct_214 rfl (lv_at hl 1 rfl) ?_
              obtain ⟨t215, ht215, hT⟩ := qa_b hT
              refine qa_Vi (As := []) (rest := []) (r := 0) S hK hN hA hO (mc_Mo_pop l D cI cJ cF cZ ad g) ht215 qy_Mo_pop lm_Mo_258 ⟨by decide, by decide⟩ (by decide) rfl rfl rfl rfl hl.1 rfl (Nat.le_of_ble_eq_true rfl) d_Mo_instruct_215 (fun H locs hO => ?_)
              refine lv_istore (lv' := [(7, .int t215.1), (6, .int s0), (0, .ref (ad 0)), (1, .int x1), (3, .int x3), (4, .int x4)]) hx hb d_Mo_instruct_218 hl (by decide) rfl (fun ls hl => ?_)
              refine lv_aload_n hx hb d_Mo_instruct_220 rfl (lv_at hl 2 rfl) ?_
              refine lv_iload hx hb d_Mo_instruct_221 (lv_at hl 0 rfl) ?_
              obtain ⟨t223, ht223, hT⟩ := qa_b hT
              refine qa_Vv (As := [.int t215.1]) (rest := []) (r := 0) S hK hN hA hO (mc_Mo_raise l D cI cJ cF cZ ad t215.2 t215.1) ht223 qy_Mo_raise lm_Mo_251 ⟨by decide, by decide⟩ (by decide) rfl rfl rfl rfl hl.1 rfl (Nat.le_of_ble_eq_true rfl) d_Mo_instruct_223 (fun H locs hO => ?_)
              refine lv_goto (tgt := 250) hx hb d_Mo_instruct_226 (by decide) ?_
              exact ret hT hO d_Mo_instruct_250
          · have hT := qa_t hT h
            refine lv_aload_n hx hb d_Mo_instruct_193 rfl (lv_at hl 1 rfl) ?_
            obtain ⟨t194, ht194, hT⟩ := qa_b hT
            refine qa_Vi (As := []) (rest := []) (r := 0) S hK hN hA hO (mc_Mo_pop l D cI cJ cF cZ ad g) ht194 qy_Mo_pop lm_Mo_258 ⟨by decide, by decide⟩ (by decide) rfl rfl rfl rfl hl.1 rfl (Nat.le_of_ble_eq_true rfl) d_Mo_instruct_194 (fun H locs hO => ?_)
            refine lv_istore (lv' := [(7, .int t194.1), (6, .int s0), (0, .ref (ad 0)), (1, .int x1), (3, .int x3), (4, .int x4)]) hx hb d_Mo_instruct_197 hl (by decide) rfl (fun ls hl => ?_)
            refine lv_aload_n hx hb d_Mo_instruct_199 rfl (lv_at hl 2 rfl) ?_
            refine lv_iload hx hb d_Mo_instruct_200 (lv_at hl 0 rfl) ?_
            obtain ⟨t202, ht202, hT⟩ := qa_b hT
            refine qa_Vv (As := [.int t194.1]) (rest := []) (r := 0) S hK hN hA hO (mc_Mo_leave l D cI cJ cF cZ ad t194.2 t194.1) ht202 qy_Mo_leave lm_Mo_262 ⟨by decide, by decide⟩ (by decide) rfl rfl rfl rfl hl.1 rfl (Nat.le_of_ble_eq_true rfl) d_Mo_instruct_202 (fun H locs hO => ?_)
            refine lv_goto (tgt := 250) hx hb d_Mo_instruct_205 (by decide) ?_
            exact ret hT hO d_Mo_instruct_250
        · have hT := qa_t hT h
          exact b176 g x1 x3 x4 _ _ _ (lv_sub hl [1, 2, 3, 4] rfl) hO hT
    · have hT := qa_t hT h
      exact ret hT hO d_Mo_instruct_163
  have b151 : ∀ (g : qa_St) (x1 : Int32) (x3 : Int32) (x4 : Int32) (ls : Array Slot) (H : Heap) (locs : List Loc), lv_has ls 8 [(0, .ref (ad 0)), (1, .int x1), (3, .int x3), (4, .int x4)] → qa_O D 33 ad (me_en cI cZ ad) A s.heap g H locs → mf_Mo_instruct_151 g x1 x3 x4 = some T → W p l e (qa_rm 3 75) s m args below meth c H locs 0 0 Q (F0 m 151 ls []) := by
    intro g x1 x3 x4 ls H locs hl hO hT
    unfold mf_Mo_instruct_151 at hT
    refine lv_iconst (v := 1) hx hb d_Mo_instruct_151 (by decide) ?_
    refine lv_goto (tgt := 156) hx hb d_Mo_instruct_152 (by decide) ?_
    exact b156 g x1 x3 x4 (1 : Int32) _ _ _ (lv_sub hl [0, 1, 2, 3] rfl) hO hT
  have b135 : ∀ (g : qa_St) (x1 : Int32) (x3 : Int32) (x4 : Int32) (s0 : Int32) (ls : Array Slot) (H : Heap) (locs : List Loc), lv_has ls 8 [(0, .ref (ad 0)), (1, .int x1), (3, .int x3), (4, .int x4)] → qa_O D 33 ad (me_en cI cZ ad) A s.heap g H locs → mf_Mo_instruct_135 g x1 x3 x4 s0 = some T → W p l e (qa_rm 3 75) s m args below meth c H locs 0 0 Q (F0 m 135 ls [.int s0]) := by
    intro g x1 x3 x4 s0 ls H locs hl hO hT
    unfold mf_Mo_instruct_135 at hT
    refine lv_istore (lv' := [(5, .int s0), (0, .ref (ad 0)), (1, .int x1), (3, .int x3), (4, .int x4)]) hx hb d_Mo_instruct_135 hl (by decide) rfl (fun ls hl => ?_)
    refine lv_iload hx hb d_Mo_instruct_137 (lv_at hl 0 rfl) ?_
    refine lv_if_lt (tgt := 151) hx hb d_Mo_instruct_139 (by decide) (fun h => ?_) (fun h => ?_)
    · have hT := qa_t hT h
      exact b151 g x1 x3 x4 _ _ _ (lv_sub hl [1, 2, 3, 4] rfl) hO hT
    · have hT := qa_f hT h
      refine lv_aload_n hx hb d_Mo_instruct_142 rfl (lv_at hl 1 rfl) ?_
      refine lv_iload hx hb d_Mo_instruct_143 (lv_at hl 0 rfl) ?_
      obtain ⟨t145, ht145, hT⟩ := qa_b hT
      refine qa_Vi (As := [.int s0]) (rest := []) (r := 0) S hK hN hA hO (mc_Mo_trigger l D cI cJ cF cZ ad g s0) ht145 qy_Mo_trigger lm_Mo_244 ⟨by decide, by decide⟩ (by decide) rfl rfl rfl rfl hl.1 rfl (Nat.le_of_ble_eq_true rfl) d_Mo_instruct_145 (fun H locs hO => ?_)
      refine lv_if_eq (tgt := 155) hx hb d_Mo_instruct_148 (by decide) (fun h => ?_) (fun h => ?_)
      · have hT := qa_t hT h
        refine lv_iconst (v := 0) hx hb d_Mo_instruct_155 (by decide) ?_
        exact b156 t145.2 x1 x3 x4 (0 : Int32) _ _ _ (lv_sub hl [1, 2, 3, 4] rfl) hO hT
      · have hT := qa_f hT h
        exact b151 t145.2 x1 x3 x4 _ _ _ (lv_sub hl [1, 2, 3, 4] rfl) hO hT
  have b131 : ∀ (g : qa_St) (x1 : Int32) (x3 : Int32) (x4 : Int32) (s0 : Int32) (ls : Array Slot) (H : Heap) (locs : List Loc), lv_has ls 8 [(0, .ref (ad 0)), (1, .int x1), (3, .int x3), (4, .int x4)] → qa_O D 33 ad (me_en cI cZ ad) A s.heap g H locs → mf_Mo_instruct_131 g x1 x3 x4 s0 = some T → W p l e (qa_rm 3 75) s m args below meth c H locs 0 0 Q (F0 m 131 ls [.int s0]) := by
    intro g x1 x3 x4 s0 ls H locs hl hO hT
    unfold mf_Mo_instruct_131 at hT
    refine lv_goto (tgt := 135) hx hb d_Mo_instruct_131 (by decide) ?_
    exact b135 g x1 x3 x4 s0 _ _ _ (lv_sub hl [0, 1, 2, 3] rfl) hO hT
  have b113 : ∀ (g : qa_St) (x1 : Int32) (x3 : Int32) (x4 : Int32) (ls : Array Slot) (H : Heap) (locs : List Loc), lv_has ls 8 [(0, .ref (ad 0)), (1, .int x1), (3, .int x3), (4, .int x4)] → qa_O D 33 ad (me_en cI cZ ad) A s.heap g H locs → mf_Mo_instruct_113 g x1 x3 x4 = some T → W p l e (qa_rm 3 75) s m args below meth c H locs 0 0 Q (F0 m 113 ls []) := by
    intro g x1 x3 x4 ls H locs hl hO hT
    unfold mf_Mo_instruct_113 at hT
    refine lv_iload hx hb d_Mo_instruct_113 (lv_at hl 3 rfl) ?_
    refine lv_goto (tgt := 135) hx hb d_Mo_instruct_115 (by decide) ?_
    exact b135 g x1 x3 x4 x4 _ _ _ (lv_sub hl [0, 1, 2, 3] rfl) hO hT
  have b71 : ∀ (g : qa_St) (x1 : Int32) (s0 : Int32) (s1 : Int32) (ls : Array Slot) (H : Heap) (locs : List Loc), lv_has ls 8 [(0, .ref (ad 0)), (1, .int x1)] → qa_O D 33 ad (me_en cI cZ ad) A s.heap g H locs → mf_Mo_instruct_71 g x1 s0 s1 = some T → W p l e (qa_rm 3 75) s m args below meth c H locs 0 0 Q (F0 m 71 ls [.int s0, .int s1]) := by
    intro g x1 s0 s1 ls H locs hl hO hT
    unfold mf_Mo_instruct_71 at hT
    refine lv_imul hx hb d_Mo_instruct_71 ?_
    refine lv_aload_n hx hb d_Mo_instruct_72 rfl (lv_at hl 0 rfl) ?_
    refine qa_get S hK hO hi_Mo 0 (by decide) rfl rfl 34 (by decide) lf_Mo_74 rfl rfl d_Mo_instruct_73 ?_
    refine lv_iload_n hx hb d_Mo_instruct_76 rfl (lv_at hl 1 rfl) ?_
    obtain ⟨hi77, hT⟩ := qa_c hT
    refine qa_iald (n := 10) S hK hO 22 (by decide) 0 (me_arr rfl) rfl hi77 d_Mo_instruct_77 ?_
    refine lv_iadd hx hb d_Mo_instruct_78 ?_
    refine lv_istore_n (lv' := [(2, .int ((s1 * s0) + (g 22 x1.toNatClampNeg))), (0, .ref (ad 0)), (1, .int x1)]) hx hb d_Mo_instruct_79 rfl hl (by decide) rfl (fun ls hl => ?_)
    refine lv_aload_n hx hb d_Mo_instruct_80 rfl (lv_at hl 1 rfl) ?_
    refine qa_get S hK hO hi_Mo 0 (by decide) rfl rfl 9 (by decide) lf_Mo_31 rfl rfl d_Mo_instruct_81 ?_
    refine lv_iload_n hx hb d_Mo_instruct_84 rfl (lv_at hl 0 rfl) ?_
    obtain ⟨hi85, hT⟩ := qa_c hT
    refine qa_iald (n := 200) S hK hO 8 (by decide) 0 (me_arr rfl) rfl hi85 d_Mo_instruct_85 ?_
    refine lv_istore_n (lv' := [(3, .int (g 8 ((s1 * s0) + (g 22 x1.toNatClampNeg)).toNatClampNeg)), (2, .int ((s1 * s0) + (g 22 x1.toNatClampNeg))), (0, .ref (ad 0)), (1, .int x1)]) hx hb d_Mo_instruct_86 rfl hl (by decide) rfl (fun ls hl => ?_)
    refine lv_aload_n hx hb d_Mo_instruct_87 rfl (lv_at hl 2 rfl) ?_
    refine qa_get S hK hO hi_Mo 0 (by decide) rfl rfl 10 (by decide) lf_Mo_34 rfl rfl d_Mo_instruct_88 ?_
    refine lv_iload_n hx hb d_Mo_instruct_91 rfl (lv_at hl 1 rfl) ?_
    obtain ⟨hi92, hT⟩ := qa_c hT
    refine qa_iald (n := 200) S hK hO 9 (by decide) 0 (me_arr rfl) rfl hi92 d_Mo_instruct_92 ?_
    refine lv_istore (lv' := [(4, .int (g 9 ((s1 * s0) + (g 22 x1.toNatClampNeg)).toNatClampNeg)), (3, .int (g 8 ((s1 * s0) + (g 22 x1.toNatClampNeg)).toNatClampNeg)), (2, .int ((s1 * s0) + (g 22 x1.toNatClampNeg))), (0, .ref (ad 0)), (1, .int x1)]) hx hb d_Mo_instruct_93 hl (by decide) rfl (fun ls hl => ?_)
    refine lv_iload_n hx hb d_Mo_instruct_95 rfl (lv_at hl 1 rfl) ?_
    refine lv_bipush (v := 11) hx hb d_Mo_instruct_96 (by decide) ?_
    refine lv_icmp_eq (tgt := 113) hx hb d_Mo_instruct_98 (by decide) (fun h => ?_) (fun h => ?_)
    · have hT := qa_t hT h
      exact b113 g x1 (g 8 ((s1 * s0) + (g 22 x1.toNatClampNeg)).toNatClampNeg) (g 9 ((s1 * s0) + (g 22 x1.toNatClampNeg)).toNatClampNeg) _ _ _ (lv_sub hl [3, 4, 1, 0] rfl) hO hT
    · have hT := qa_f hT h
      refine lv_iload_n hx hb d_Mo_instruct_101 rfl (lv_at hl 1 rfl) ?_
      refine lv_bipush (v := 14) hx hb d_Mo_instruct_102 (by decide) ?_
      refine lv_icmp_eq (tgt := 113) hx hb d_Mo_instruct_104 (by decide) (fun h => ?_) (fun h => ?_)
      · have hT := qa_t hT h
        exact b113 g x1 (g 8 ((s1 * s0) + (g 22 x1.toNatClampNeg)).toNatClampNeg) (g 9 ((s1 * s0) + (g 22 x1.toNatClampNeg)).toNatClampNeg) _ _ _ (lv_sub hl [3, 4, 1, 0] rfl) hO hT
      · have hT := qa_f hT h
        refine lv_iload_n hx hb d_Mo_instruct_107 rfl (lv_at hl 1 rfl) ?_
        refine lv_bipush (v := 15) hx hb d_Mo_instruct_108 (by decide) ?_
        refine lv_icmp_ne (tgt := 118) hx hb d_Mo_instruct_110 (by decide) (fun h => ?_) (fun h => ?_)
        · have hT := qa_f hT h
          refine lv_iload_n hx hb d_Mo_instruct_118 rfl (lv_at hl 1 rfl) ?_
          refine lv_bipush (v := 16) hx hb d_Mo_instruct_119 (by decide) ?_
          refine lv_icmp_ne (tgt := 134) hx hb d_Mo_instruct_121 (by decide) (fun h => ?_) (fun h => ?_)
          · have hT := qa_f hT h
            refine lv_iconst (v := -1) hx hb d_Mo_instruct_134 (by decide) ?_
            exact b135 g x1 (g 8 ((s1 * s0) + (g 22 x1.toNatClampNeg)).toNatClampNeg) (g 9 ((s1 * s0) + (g 22 x1.toNatClampNeg)).toNatClampNeg) (-1 : Int32) _ _ _ (lv_sub hl [3, 4, 1, 0] rfl) hO hT
          · have hT := qa_t hT h
            refine lv_aload_n hx hb d_Mo_instruct_124 rfl (lv_at hl 3 rfl) ?_
            refine qa_get S hK hO hi_Mo 0 (by decide) rfl rfl 5 (by decide) lf_Mo_19 rfl rfl d_Mo_instruct_125 ?_
            refine lv_iload hx hb d_Mo_instruct_128 (lv_at hl 0 rfl) ?_
            obtain ⟨hi130, hT⟩ := qa_c hT
            refine qa_iald (n := 10) S hK hO 4 (by decide) 0 (me_arr rfl) rfl hi130 d_Mo_instruct_130 ?_
            exact b131 g x1 (g 8 ((s1 * s0) + (g 22 x1.toNatClampNeg)).toNatClampNeg) (g 9 ((s1 * s0) + (g 22 x1.toNatClampNeg)).toNatClampNeg) (g 4 (g 9 ((s1 * s0) + (g 22 x1.toNatClampNeg)).toNatClampNeg).toNatClampNeg) _ _ _ (lv_sub hl [3, 4, 1, 0] rfl) hO hT
        · have hT := qa_t hT h
          exact b113 g x1 (g 8 ((s1 * s0) + (g 22 x1.toNatClampNeg)).toNatClampNeg) (g 9 ((s1 * s0) + (g 22 x1.toNatClampNeg)).toNatClampNeg) _ _ _ (lv_sub hl [3, 4, 1, 0] rfl) hO hT
  have b52 : ∀ (g : qa_St) (x1 : Int32) (s0 : Int32) (s1 : Int32) (ls : Array Slot) (H : Heap) (locs : List Loc), lv_has ls 8 [(0, .ref (ad 0)), (1, .int x1)] → qa_O D 33 ad (me_en cI cZ ad) A s.heap g H locs → mf_Mo_instruct_52 g x1 s0 s1 = some T → W p l e (qa_rm 3 75) s m args below meth c H locs 0 0 Q (F0 m 52 ls [.int s0, .int s1, .ref (ad 0)]) := by
    intro g x1 s0 s1 ls H locs hl hO hT
    unfold mf_Mo_instruct_52 at hT
    refine lv_iadd hx hb d_Mo_instruct_52 ?_
    refine qa_put S hK hO hi_Mo t_Mo t_Mo_ok n_Mo 0 (by decide) rfl rfl 30 (by decide) lf_Mo_220 rfl rfl (ty := .int) (by decide +kernel) rfl rfl (Nat.le_of_ble_eq_true rfl) rfl d_Mo_instruct_53 (fun H locs hO => ?_)
    refine lv_aload_n hx hb d_Mo_instruct_56 rfl (lv_at hl 0 rfl) ?_
    refine qa_get S hK hO hi_Mo 0 (by decide) rfl rfl 37 (by decide) lf_Mo_83 rfl rfl d_Mo_instruct_57 ?_
    refine lv_iload_n hx hb d_Mo_instruct_60 rfl (lv_at hl 1 rfl) ?_
    refine lv_iconst (v := 0) hx hb d_Mo_instruct_61 (by decide) ?_
    obtain ⟨hi62, hT⟩ := qa_c hT
    refine qa_zast (n := 10) S hK hO 25 (by decide) 3 (me_zar rfl) rfl hi62 rfl d_Mo_instruct_62 (fun H locs hO => ?_)
    refine lv_bipush (v := 20) hx hb d_Mo_instruct_63 (by decide) ?_
    refine lv_aload_n hx hb d_Mo_instruct_65 rfl (lv_at hl 0 rfl) ?_
    refine qa_get S hK hO hi_Mo 0 (by decide) rfl rfl 33 (by decide) lf_Mo_71 rfl rfl d_Mo_instruct_66 ?_
    refine lv_iload_n hx hb d_Mo_instruct_69 rfl (lv_at hl 1 rfl) ?_
    obtain ⟨hi70, hT⟩ := qa_c hT
    refine qa_iald (n := 10) S hK hO 21 (by decide) 0 (me_arr rfl) rfl hi70 d_Mo_instruct_70 ?_
    exact b71 (qa_up (qa_up g 0 30 (s1 + s0)) 25 x1.toNatClampNeg (0 : Int32)) x1 ((qa_up (qa_up g 0 30 (s1 + s0)) 25 x1.toNatClampNeg (0 : Int32)) 21 x1.toNatClampNeg) (20 : Int32) _ _ _ (lv_sub hl [0, 1] rfl) hO hT
  have b33 : ∀ (g : qa_St) (x1 : Int32) (ls : Array Slot) (H : Heap) (locs : List Loc), lv_has ls 8 [(0, .ref (ad 0)), (1, .int x1)] → qa_O D 33 ad (me_en cI cZ ad) A s.heap g H locs → mf_Mo_instruct_33 g x1 = some T → W p l e (qa_rm 3 75) s m args below meth c H locs 0 0 Q (F0 m 33 ls []) := by
    intro g x1 ls H locs hl hO hT
    unfold mf_Mo_instruct_33 at hT
    refine lv_aload_n hx hb d_Mo_instruct_33 rfl (lv_at hl 0 rfl) ?_
    refine lv_dup hx hb d_Mo_instruct_34 rfl ?_
    refine qa_get S hK hO hi_Mo 0 (by decide) rfl rfl 30 (by decide) lf_Mo_220 rfl rfl d_Mo_instruct_35 ?_
    refine lv_aload_n hx hb d_Mo_instruct_38 rfl (lv_at hl 0 rfl) ?_
    refine qa_get S hK hO hi_Mo 0 (by decide) rfl rfl 37 (by decide) lf_Mo_83 rfl rfl d_Mo_instruct_39 ?_
    refine lv_iload_n hx hb d_Mo_instruct_42 rfl (lv_at hl 1 rfl) ?_
    obtain ⟨hi43, hT⟩ := qa_c hT
    refine qa_zald (n := 10) S hK hO 25 (by decide) 3 (me_zar rfl) rfl hi43 d_Mo_instruct_43 ?_
    refine lv_if_eq (tgt := 51) hx hb d_Mo_instruct_44 (by decide) (fun h => ?_) (fun h => ?_)
    · have hT := qa_t hT h
      refine lv_iconst (v := 1) hx hb d_Mo_instruct_51 (by decide) ?_
      exact b52 g x1 (1 : Int32) (g 0 30) _ _ _ (lv_sub hl [0, 1] rfl) hO hT
    · have hT := qa_f hT h
      refine lv_iconst (v := 0) hx hb d_Mo_instruct_47 (by decide) ?_
      refine lv_goto (tgt := 52) hx hb d_Mo_instruct_48 (by decide) ?_
      exact b52 g x1 (0 : Int32) (g 0 30) _ _ _ (lv_sub hl [0, 1] rfl) hO hT
  unfold mf_Mo_instruct at hT
  refine lv_aload_n hx hb d_Mo_instruct_0 rfl (lv_at hl 0 rfl) ?_
  refine qa_get S hK hO hi_Mo 0 (by decide) rfl rfl 32 (by decide) lf_Mo_226 rfl rfl d_Mo_instruct_1 ?_
  refine lv_iconst (v := 1) hx hb d_Mo_instruct_4 (by decide) ?_
  refine lv_isub hx hb d_Mo_instruct_5 ?_
  refine lv_istore_n (lv' := [(1, .int ((g 0 32) - (1 : Int32))), (0, .ref (ad 0))]) hx hb d_Mo_instruct_6 rfl hl (by decide) rfl (fun ls hl => ?_)
  refine lv_aload_n hx hb d_Mo_instruct_7 rfl (lv_at hl 1 rfl) ?_
  refine qa_get S hK hO hi_Mo 0 (by decide) rfl rfl 37 (by decide) lf_Mo_83 rfl rfl d_Mo_instruct_8 ?_
  refine lv_iload_n hx hb d_Mo_instruct_11 rfl (lv_at hl 0 rfl) ?_
  obtain ⟨hi12, hT⟩ := qa_c hT
  refine qa_zald (n := 10) S hK hO 25 (by decide) 3 (me_zar rfl) rfl hi12 d_Mo_instruct_12 ?_
  refine lv_if_ne (tgt := 33) hx hb d_Mo_instruct_13 (by decide) (fun h => ?_) (fun h => ?_)
  · have hT := qa_f hT h
    exact b33 g ((g 0 32) - (1 : Int32)) _ _ _ (lv_sub hl [1, 0] rfl) hO hT
  · have hT := qa_t hT h
    refine lv_aload_n hx hb d_Mo_instruct_16 rfl (lv_at hl 1 rfl) ?_
    refine qa_get S hK hO hi_Mo 0 (by decide) rfl rfl 30 (by decide) lf_Mo_220 rfl rfl d_Mo_instruct_17 ?_
    refine lv_aload_n hx hb d_Mo_instruct_20 rfl (lv_at hl 1 rfl) ?_
    refine qa_get S hK hO hi_Mo 0 (by decide) rfl rfl 31 (by decide) lf_Mo_223 rfl rfl d_Mo_instruct_21 ?_
    refine lv_icmp_ne (tgt := 33) hx hb d_Mo_instruct_24 (by decide) (fun h => ?_) (fun h => ?_)
    · have hT := qa_f hT h
      exact b33 g ((g 0 32) - (1 : Int32)) _ _ _ (lv_sub hl [1, 0] rfl) hO hT
    · have hT := qa_t hT h
      refine lv_aload_n hx hb d_Mo_instruct_27 rfl (lv_at hl 1 rfl) ?_
      refine lv_iconst (v := 2) hx hb d_Mo_instruct_28 (by decide) ?_
      refine qa_put S hK hO hi_Mo t_Mo t_Mo_ok n_Mo 0 (by decide) rfl rfl 28 (by decide) lf_Mo_214 rfl rfl (ty := .int) (by decide +kernel) rfl rfl (Nat.le_of_ble_eq_true rfl) rfl d_Mo_instruct_29 (fun H locs hO => ?_)
      exact ret hT hO d_Mo_instruct_32
def mf_Mo_begin (g : qa_St) (x1 : Int32) : qa_Re := (if (0 : Int32) < 0 ∨ 10 ≤ (0 : Int32).toNatClampNeg then none else ((mf_Mo_trigger g (g 4 (0 : Int32).toNatClampNeg)).bind fun t7 => (if t7.1 = 0 then (some (0, t7.2)) else ((mf_Mo_enter (qa_up t7.2 0 27 (1 : Int32)) (0 : Int32) (0 : Int32)).bind fun t23 => (if (0 : Int32) < 0 ∨ 40 ≤ (0 : Int32).toNatClampNeg then none else (some (0, (qa_up t23.2 26 (0 : Int32).toNatClampNeg x1))))))))
set_option maxHeartbeats 4000000 in
set_option maxRecDepth 100000 in
theorem mc_Mo_begin (l : Launch) (D : va_G) (cI cJ cF cZ : ClassId) (ad : Nat → Nat) (g : qa_St) (x1 : Int32) : qa_Mv l y_Mo_begin (qa_ws y_Mo_begin b_Mo_begin 3 none) (qa_rm 3 70) D (qa_ty cI cJ cF cZ) 33 ad (me_en cI cZ ad) [.ref (ad 0), .int x1] g (mf_Mo_begin g x1) := by
  refine qa_metv (by decide) (Nat.le_of_ble_eq_true rfl) ?_
  intro p e s m args below meth c Q A T S hK hN hA hT ret ls hl hO
  have hx := S.1
  have hb := S.2.1
  have hl : lv_has ls 3 [(0, .ref (ad 0)), (1, .int x1)] := hl
  unfold mf_Mo_begin at hT
  refine lv_aload_n hx hb d_Mo_begin_0 rfl (lv_at hl 0 rfl) ?_
  refine lv_aload_n hx hb d_Mo_begin_1 rfl (lv_at hl 0 rfl) ?_
  refine qa_get S hK hO hi_Mo 0 (by decide) rfl rfl 5 (by decide) lf_Mo_19 rfl rfl d_Mo_begin_2 ?_
  refine lv_iconst (v := 0) hx hb d_Mo_begin_5 (by decide) ?_
  obtain ⟨hi6, hT⟩ := qa_c hT
  refine qa_iald (n := 10) S hK hO 4 (by decide) 0 (me_arr rfl) rfl hi6 d_Mo_begin_6 ?_
  obtain ⟨t7, ht7, hT⟩ := qa_b hT
  refine qa_Vi (As := [.int (g 4 (0 : Int32).toNatClampNeg)]) (rest := []) (r := 0) S hK hN hA hO (mc_Mo_trigger l D cI cJ cF cZ ad g (g 4 (0 : Int32).toNatClampNeg)) ht7 qy_Mo_trigger lm_Mo_244 ⟨by decide, by decide⟩ (by decide) rfl rfl rfl rfl hl.1 rfl (Nat.le_of_ble_eq_true rfl) d_Mo_begin_7 (fun H locs hO => ?_)
  refine lv_istore_n (lv' := [(2, .int t7.1), (0, .ref (ad 0)), (1, .int x1)]) hx hb d_Mo_begin_10 rfl hl (by decide) rfl (fun ls hl => ?_)
  refine lv_iload_n hx hb d_Mo_begin_11 rfl (lv_at hl 0 rfl) ?_
  refine lv_if_eq (tgt := 33) hx hb d_Mo_begin_12 (by decide) (fun h => ?_) (fun h => ?_)
  · have hT := qa_t hT h
    exact ret hT hO d_Mo_begin_33
  · have hT := qa_f hT h
    refine lv_aload_n hx hb d_Mo_begin_15 rfl (lv_at hl 1 rfl) ?_
    refine lv_iconst (v := 1) hx hb d_Mo_begin_16 (by decide) ?_
    refine qa_put S hK hO hi_Mo t_Mo t_Mo_ok n_Mo 0 (by decide) rfl rfl 27 (by decide) lf_Mo_211 rfl rfl (ty := .boolean) (by decide +kernel) rfl rfl (Nat.le_of_ble_eq_true rfl) rfl d_Mo_begin_17 (fun H locs hO => ?_)
    refine lv_aload_n hx hb d_Mo_begin_20 rfl (lv_at hl 1 rfl) ?_
    refine lv_iconst (v := 0) hx hb d_Mo_begin_21 (by decide) ?_
    refine lv_iconst (v := 0) hx hb d_Mo_begin_22 (by decide) ?_
    obtain ⟨t23, ht23, hT⟩ := qa_b hT
    refine qa_Vv (As := [.int (0 : Int32), .int (0 : Int32)]) (rest := []) (r := 0) S hK hN hA hO (mc_Mo_enter l D cI cJ cF cZ ad (qa_up t7.2 0 27 (1 : Int32)) (0 : Int32) (0 : Int32)) ht23 qy_Mo_enter lm_Mo_247 ⟨by decide, by decide⟩ (by decide) rfl rfl rfl rfl hl.1 rfl (Nat.le_of_ble_eq_true rfl) d_Mo_begin_23 (fun H locs hO => ?_)
    refine lv_aload_n hx hb d_Mo_begin_26 rfl (lv_at hl 1 rfl) ?_
    refine qa_get S hK hO hi_Mo 0 (by decide) rfl rfl 38 (by decide) lf_Mo_86 rfl rfl d_Mo_begin_27 ?_
    refine lv_iconst (v := 0) hx hb d_Mo_begin_30 (by decide) ?_
    refine lv_iload_n hx hb d_Mo_begin_31 rfl (lv_at hl 2 rfl) ?_
    obtain ⟨hi32, hT⟩ := qa_c hT
    refine qa_iast (n := 40) S hK hO 26 (by decide) 0 (me_arr rfl) rfl hi32 d_Mo_begin_32 (fun H locs hO => ?_)
    exact ret hT hO d_Mo_begin_33
def mf_Mo_run_132 (k99 : qa_St → Int32 → Int32 → qa_Re) (g : qa_St) (x1 : Int32) (x3 : Int32) : qa_Re := (k99 g x1 (x3 + 1))
def mf_Mo_run_99 : Nat → qa_St → Int32 → Int32 → qa_Re
  | 0, _, _, _ => none
  | n + 1, g, x1, x3 => (if (2100 : Int32) ≤ x3 then (some ((g 0 28), g)) else (if 0 ≤ (g 0 28) then (some ((g 0 28), g)) else (if (g 0 32) ≤ 0 then ((mf_Mo_begin g x1).bind fun t129 => (mf_Mo_run_132 (mf_Mo_run_99 n) t129.2 x1 x3)) else ((mf_Mo_instruct g).bind fun t121 => (mf_Mo_run_132 (mf_Mo_run_99 n) t121.2 x1 x3)))))
def mf_Mo_run_71 : Nat → qa_St → Int32 → Int32 → qa_Re
  | 0, _, _, _ => none
  | n + 1, g, x1, x3 => (if (6 : Int32) ≤ x3 then (mf_Mo_run_99 4096 g x1 (0 : Int32)) else (if x3 < 0 ∨ 6 ≤ x3.toNatClampNeg then none else (if x3 < 0 ∨ 6 ≤ x3.toNatClampNeg then none else ((mf_Mo_run_71 n) (qa_up (qa_up g 30 x3.toNatClampNeg (0 : Int32)) 31 x3.toNatClampNeg (-1 : Int32)) x1 (x3 + 1)))))
def mf_Mo_run_59 (g : qa_St) (x1 : Int32) : qa_Re := (mf_Mo_run_71 4096 (qa_up (qa_up g 0 45 (0 : Int32)) 0 46 (0 : Int32)) x1 (0 : Int32))
def mf_Mo_run_39 (g : qa_St) (x1 : Int32) (x2 : Int32) : qa_Re := (mf_Mo_run_59 (qa_up (qa_up (qa_up (qa_up g 0 30 (0 : Int32)) 0 31 x2) 0 32 (0 : Int32)) 0 40 (0 : Int32)) x1)
def mf_Mo_run (g : qa_St) (x1 : Int32) (x2 : Int32) : qa_Re := (if (g 0 15) = 0 then (some ((-1 : Int32), g)) else ((mf_Mo_within g x2 (2000 : Int32)).bind fun t11 => (if t11.1 = 0 then (some ((-1 : Int32), t11.2)) else (mf_Mo_run_39 (qa_up (qa_up (qa_up (qa_up t11.2 0 26 (1 : Int32)) 0 27 (0 : Int32)) 0 28 (-1 : Int32)) 0 29 (0 : Int32)) x1 x2))))
set_option maxHeartbeats 4000000 in
set_option maxRecDepth 100000 in
theorem mc_Mo_run (l : Launch) (D : va_G) (cI cJ cF cZ : ClassId) (ad : Nat → Nat) (g : qa_St) (x1 : Int32) (x2 : Int32) : qa_Mi l y_Mo_run (qa_ws y_Mo_run b_Mo_run 4 (some .int)) (qa_rm 4 102) D (qa_ty cI cJ cF cZ) 33 ad (me_en cI cZ ad) [.ref (ad 0), .int x1, .int x2] g (mf_Mo_run g x1 x2) := by
  refine qa_meti (by decide) (Nat.le_of_ble_eq_true rfl) ?_
  intro p e s m args below meth c Q A T S hK hN hA hT ret ls hl hO
  have hx := S.1
  have hb := S.2.1
  have hl : lv_has ls 4 [(0, .ref (ad 0)), (1, .int x1), (2, .int x2)] := hl
  have b132 : ∀ (k99 : qa_St → Int32 → Int32 → qa_Re) (hk99 : ∀ (g : qa_St) (x1 : Int32) (x3 : Int32) (ls : Array Slot) (H : Heap) (locs : List Loc), lv_has ls 4 [(0, .ref (ad 0)), (1, .int x1), (3, .int x3)] → qa_O D 33 ad (me_en cI cZ ad) A s.heap g H locs → k99 g x1 x3 = some T → W p l e (qa_rm 4 102) s m args below meth c H locs 0 0 Q (F0 m 99 ls [])), ∀ (g : qa_St) (x1 : Int32) (x3 : Int32) (ls : Array Slot) (H : Heap) (locs : List Loc), lv_has ls 4 [(0, .ref (ad 0)), (1, .int x1), (3, .int x3)] → qa_O D 33 ad (me_en cI cZ ad) A s.heap g H locs → mf_Mo_run_132 k99 g x1 x3 = some T → W p l e (qa_rm 4 102) s m args below meth c H locs 0 0 Q (F0 m 132 ls []) := by
    intro k99 hk99
    intro g x1 x3 ls H locs hl hO hT
    unfold mf_Mo_run_132 at hT
    refine lv_iinc (lv' := [(3, .int (x3 + 1)), (0, .ref (ad 0)), (1, .int x1)]) hx hb d_Mo_run_132 hl (k := 2) rfl (qa_o1 _) (by decide) rfl (fun ls hl => ?_)
    refine lv_goto (tgt := 99) hx hb d_Mo_run_135 (by decide) ?_
    exact hk99 g x1 (x3 + 1) _ _ _ (lv_sub hl [1, 2, 0] rfl) hO hT
  have b99 : ∀ (n : Nat), ∀ (g : qa_St) (x1 : Int32) (x3 : Int32) (ls : Array Slot) (H : Heap) (locs : List Loc), lv_has ls 4 [(0, .ref (ad 0)), (1, .int x1), (3, .int x3)] → qa_O D 33 ad (me_en cI cZ ad) A s.heap g H locs → mf_Mo_run_99 n g x1 x3 = some T → W p l e (qa_rm 4 102) s m args below meth c H locs 0 0 Q (F0 m 99 ls []) := by
    intro n
    induction n with
    | zero => intro g x1 x3 ls H locs hl hO hT; rw [mf_Mo_run_99] at hT; cases hT
    | succ n ih =>
      intro g x1 x3 ls H locs hl hO hT
      rw [mf_Mo_run_99] at hT
      refine lv_iload_n hx hb d_Mo_run_99 rfl (lv_at hl 2 rfl) ?_
      refine lv_sipush (v := 2100) hx hb d_Mo_run_100 (by decide) ?_
      refine lv_icmp_ge (tgt := 138) hx hb d_Mo_run_103 (by decide) (fun h => ?_) (fun h => ?_)
      · have hT := qa_t hT h
        refine lv_aload_n hx hb d_Mo_run_138 rfl (lv_at hl 0 rfl) ?_
        refine qa_get S hK hO hi_Mo 0 (by decide) rfl rfl 28 (by decide) lf_Mo_214 rfl rfl d_Mo_run_139 ?_
        exact ret hT hO d_Mo_run_142
      · have hT := qa_f hT h
        refine lv_aload_n hx hb d_Mo_run_106 rfl (lv_at hl 0 rfl) ?_
        refine qa_get S hK hO hi_Mo 0 (by decide) rfl rfl 28 (by decide) lf_Mo_214 rfl rfl d_Mo_run_107 ?_
        refine lv_if_ge (tgt := 138) hx hb d_Mo_run_110 (by decide) (fun h => ?_) (fun h => ?_)
        · have hT := qa_t hT h
          refine lv_aload_n hx hb d_Mo_run_138 rfl (lv_at hl 0 rfl) ?_
          refine qa_get S hK hO hi_Mo 0 (by decide) rfl rfl 28 (by decide) lf_Mo_214 rfl rfl d_Mo_run_139 ?_
          exact ret hT hO d_Mo_run_142
        · have hT := qa_f hT h
          refine lv_aload_n hx hb d_Mo_run_113 rfl (lv_at hl 0 rfl) ?_
          refine qa_get S hK hO hi_Mo 0 (by decide) rfl rfl 32 (by decide) lf_Mo_226 rfl rfl d_Mo_run_114 ?_
          refine lv_if_le (tgt := 127) hx hb d_Mo_run_117 (by decide) (fun h => ?_) (fun h => ?_)
          · have hT := qa_t hT h
            refine lv_aload_n hx hb d_Mo_run_127 rfl (lv_at hl 0 rfl) ?_
            refine lv_iload_n hx hb d_Mo_run_128 rfl (lv_at hl 1 rfl) ?_
            obtain ⟨t129, ht129, hT⟩ := qa_b hT
            refine qa_Vv (As := [.int x1]) (rest := []) (r := 0) S hK hN hA hO (mc_Mo_begin l D cI cJ cF cZ ad g x1) ht129 qy_Mo_begin lm_Mo_241 ⟨by decide, by decide⟩ (by decide) rfl rfl rfl rfl hl.1 rfl (Nat.le_of_ble_eq_true rfl) d_Mo_run_129 (fun H locs hO => ?_)
            exact b132 (mf_Mo_run_99 n) ih t129.2 x1 x3 _ _ _ (lv_sub hl [0, 1, 2] rfl) hO hT
          · have hT := qa_f hT h
            refine lv_aload_n hx hb d_Mo_run_120 rfl (lv_at hl 0 rfl) ?_
            obtain ⟨t121, ht121, hT⟩ := qa_b hT
            refine qa_Vv (As := []) (rest := []) (r := 0) S hK hN hA hO (mc_Mo_instruct l D cI cJ cF cZ ad g) ht121 qy_Mo_instruct lm_Mo_238 ⟨by decide, by decide⟩ (by decide) rfl rfl rfl rfl hl.1 rfl (Nat.le_of_ble_eq_true rfl) d_Mo_run_121 (fun H locs hO => ?_)
            refine lv_goto (tgt := 132) hx hb d_Mo_run_124 (by decide) ?_
            exact b132 (mf_Mo_run_99 n) ih t121.2 x1 x3 _ _ _ (lv_sub hl [0, 1, 2] rfl) hO hT
  have b71 : ∀ (n : Nat), ∀ (g : qa_St) (x1 : Int32) (x3 : Int32) (ls : Array Slot) (H : Heap) (locs : List Loc), lv_has ls 4 [(0, .ref (ad 0)), (1, .int x1), (3, .int x3)] → qa_O D 33 ad (me_en cI cZ ad) A s.heap g H locs → mf_Mo_run_71 n g x1 x3 = some T → W p l e (qa_rm 4 102) s m args below meth c H locs 0 0 Q (F0 m 71 ls []) := by
    intro n
    induction n with
    | zero => intro g x1 x3 ls H locs hl hO hT; rw [mf_Mo_run_71] at hT; cases hT
    | succ n ih =>
      intro g x1 x3 ls H locs hl hO hT
      rw [mf_Mo_run_71] at hT
      refine lv_iload_n hx hb d_Mo_run_71 rfl (lv_at hl 2 rfl) ?_
      refine lv_bipush (v := 6) hx hb d_Mo_run_72 (by decide) ?_
      refine lv_icmp_ge (tgt := 97) hx hb d_Mo_run_74 (by decide) (fun h => ?_) (fun h => ?_)
      · have hT := qa_t hT h
        refine lv_iconst (v := 0) hx hb d_Mo_run_97 (by decide) ?_
        refine lv_istore_n (lv' := [(3, .int (0 : Int32)), (0, .ref (ad 0)), (1, .int x1)]) hx hb d_Mo_run_98 rfl hl (by decide) rfl (fun ls hl => ?_)
        exact b99 4096 g x1 (0 : Int32) _ _ _ (lv_sub hl [1, 2, 0] rfl) hO hT
      · have hT := qa_f hT h
        refine lv_aload_n hx hb d_Mo_run_77 rfl (lv_at hl 0 rfl) ?_
        refine qa_get S hK hO hi_Mo 0 (by decide) rfl rfl 43 (by decide) lf_Mo_98 rfl rfl d_Mo_run_78 ?_
        refine lv_iload_n hx hb d_Mo_run_81 rfl (lv_at hl 2 rfl) ?_
        refine lv_iconst (v := 0) hx hb d_Mo_run_82 (by decide) ?_
        obtain ⟨hi83, hT⟩ := qa_c hT
        refine qa_iast (n := 6) S hK hO 30 (by decide) 0 (me_arr rfl) rfl hi83 d_Mo_run_83 (fun H locs hO => ?_)
        refine lv_aload_n hx hb d_Mo_run_84 rfl (lv_at hl 0 rfl) ?_
        refine qa_get S hK hO hi_Mo 0 (by decide) rfl rfl 44 (by decide) lf_Mo_101 rfl rfl d_Mo_run_85 ?_
        refine lv_iload_n hx hb d_Mo_run_88 rfl (lv_at hl 2 rfl) ?_
        refine lv_iconst (v := -1) hx hb d_Mo_run_89 (by decide) ?_
        obtain ⟨hi90, hT⟩ := qa_c hT
        refine qa_iast (n := 6) S hK hO 31 (by decide) 0 (me_arr rfl) rfl hi90 d_Mo_run_90 (fun H locs hO => ?_)
        refine lv_iinc (lv' := [(3, .int (x3 + 1)), (0, .ref (ad 0)), (1, .int x1)]) hx hb d_Mo_run_91 hl (k := 2) rfl (qa_o1 _) (by decide) rfl (fun ls hl => ?_)
        refine lv_goto (tgt := 71) hx hb d_Mo_run_94 (by decide) ?_
        exact ih (qa_up (qa_up g 30 x3.toNatClampNeg (0 : Int32)) 31 x3.toNatClampNeg (-1 : Int32)) x1 (x3 + 1) _ _ _ (lv_sub hl [1, 2, 0] rfl) hO hT
  have b59 : ∀ (g : qa_St) (x1 : Int32) (ls : Array Slot) (H : Heap) (locs : List Loc), lv_has ls 4 [(0, .ref (ad 0)), (1, .int x1)] → qa_O D 33 ad (me_en cI cZ ad) A s.heap g H locs → mf_Mo_run_59 g x1 = some T → W p l e (qa_rm 4 102) s m args below meth c H locs 0 0 Q (F0 m 59 ls []) := by
    intro g x1 ls H locs hl hO hT
    unfold mf_Mo_run_59 at hT
    refine lv_aload_n hx hb d_Mo_run_59 rfl (lv_at hl 0 rfl) ?_
    refine lv_iconst (v := 0) hx hb d_Mo_run_60 (by decide) ?_
    refine qa_put S hK hO hi_Mo t_Mo t_Mo_ok n_Mo 0 (by decide) rfl rfl 45 (by decide) lf_Mo_232 rfl rfl (ty := .int) (by decide +kernel) rfl rfl (Nat.le_of_ble_eq_true rfl) rfl d_Mo_run_61 (fun H locs hO => ?_)
    refine lv_aload_n hx hb d_Mo_run_64 rfl (lv_at hl 0 rfl) ?_
    refine lv_iconst (v := 0) hx hb d_Mo_run_65 (by decide) ?_
    refine qa_put S hK hO hi_Mo t_Mo t_Mo_ok n_Mo 0 (by decide) rfl rfl 46 (by decide) lf_Mo_235 rfl rfl (ty := .int) (by decide +kernel) rfl rfl (Nat.le_of_ble_eq_true rfl) rfl d_Mo_run_66 (fun H locs hO => ?_)
    refine lv_iconst (v := 0) hx hb d_Mo_run_69 (by decide) ?_
    refine lv_istore_n (lv' := [(3, .int (0 : Int32)), (0, .ref (ad 0)), (1, .int x1)]) hx hb d_Mo_run_70 rfl hl (by decide) rfl (fun ls hl => ?_)
    exact b71 4096 (qa_up (qa_up g 0 45 (0 : Int32)) 0 46 (0 : Int32)) x1 (0 : Int32) _ _ _ (lv_sub hl [1, 2, 0] rfl) hO hT
  have b39 : ∀ (g : qa_St) (x1 : Int32) (x2 : Int32) (ls : Array Slot) (H : Heap) (locs : List Loc), lv_has ls 4 [(0, .ref (ad 0)), (1, .int x1), (2, .int x2)] → qa_O D 33 ad (me_en cI cZ ad) A s.heap g H locs → mf_Mo_run_39 g x1 x2 = some T → W p l e (qa_rm 4 102) s m args below meth c H locs 0 0 Q (F0 m 39 ls []) := by
    intro g x1 x2 ls H locs hl hO hT
    unfold mf_Mo_run_39 at hT
    refine lv_aload_n hx hb d_Mo_run_39 rfl (lv_at hl 0 rfl) ?_
    refine lv_iconst (v := 0) hx hb d_Mo_run_40 (by decide) ?_
    refine qa_put S hK hO hi_Mo t_Mo t_Mo_ok n_Mo 0 (by decide) rfl rfl 30 (by decide) lf_Mo_220 rfl rfl (ty := .int) (by decide +kernel) rfl rfl (Nat.le_of_ble_eq_true rfl) rfl d_Mo_run_41 (fun H locs hO => ?_)
    refine lv_aload_n hx hb d_Mo_run_44 rfl (lv_at hl 0 rfl) ?_
    refine lv_iload_n hx hb d_Mo_run_45 rfl (lv_at hl 2 rfl) ?_
    refine qa_put S hK hO hi_Mo t_Mo t_Mo_ok n_Mo 0 (by decide) rfl rfl 31 (by decide) lf_Mo_223 rfl rfl (ty := .int) (by decide +kernel) rfl rfl (Nat.le_of_ble_eq_true rfl) rfl d_Mo_run_46 (fun H locs hO => ?_)
    refine lv_aload_n hx hb d_Mo_run_49 rfl (lv_at hl 0 rfl) ?_
    refine lv_iconst (v := 0) hx hb d_Mo_run_50 (by decide) ?_
    refine qa_put S hK hO hi_Mo t_Mo t_Mo_ok n_Mo 0 (by decide) rfl rfl 32 (by decide) lf_Mo_226 rfl rfl (ty := .int) (by decide +kernel) rfl rfl (Nat.le_of_ble_eq_true rfl) rfl d_Mo_run_51 (fun H locs hO => ?_)
    refine lv_aload_n hx hb d_Mo_run_54 rfl (lv_at hl 0 rfl) ?_
    refine lv_iconst (v := 0) hx hb d_Mo_run_55 (by decide) ?_
    refine qa_put S hK hO hi_Mo t_Mo t_Mo_ok n_Mo 0 (by decide) rfl rfl 40 (by decide) lf_Mo_229 rfl rfl (ty := .int) (by decide +kernel) rfl rfl (Nat.le_of_ble_eq_true rfl) rfl d_Mo_run_56 (fun H locs hO => ?_)
    exact b59 (qa_up (qa_up (qa_up (qa_up g 0 30 (0 : Int32)) 0 31 x2) 0 32 (0 : Int32)) 0 40 (0 : Int32)) x1 _ _ _ (lv_sub hl [0, 1] rfl) hO hT
  unfold mf_Mo_run at hT
  refine lv_aload_n hx hb d_Mo_run_0 rfl (lv_at hl 0 rfl) ?_
  refine qa_get S hK hO hi_Mo 0 (by decide) rfl rfl 15 (by decide) lf_Mo_107 rfl rfl d_Mo_run_1 ?_
  refine lv_if_eq (tgt := 17) hx hb d_Mo_run_4 (by decide) (fun h => ?_) (fun h => ?_)
  · have hT := qa_t hT h
    refine lv_iconst (v := -1) hx hb d_Mo_run_17 (by decide) ?_
    exact ret hT hO d_Mo_run_18
  · have hT := qa_f hT h
    refine lv_iload_n hx hb d_Mo_run_7 rfl (lv_at hl 2 rfl) ?_
    refine lv_sipush (v := 2000) hx hb d_Mo_run_8 (by decide) ?_
    obtain ⟨t11, ht11, hT⟩ := qa_b hT
    refine qa_Si (As := [.int x2, .int (2000 : Int32)]) (rest := []) S hK hN hA hO (mc_Mo_within l D cI cJ cF cZ ad g x2 (2000 : Int32)) ht11 qy_Mo_within lm_Mo_118 ⟨by decide, by decide⟩ rfl hl.1 rfl (Nat.le_of_ble_eq_true rfl) d_Mo_run_11 (fun H locs hO => ?_)
    refine lv_if_ne (tgt := 19) hx hb d_Mo_run_14 (by decide) (fun h => ?_) (fun h => ?_)
    · have hT := qa_f hT h
      refine lv_aload_n hx hb d_Mo_run_19 rfl (lv_at hl 0 rfl) ?_
      refine lv_iconst (v := 1) hx hb d_Mo_run_20 (by decide) ?_
      refine qa_put S hK hO hi_Mo t_Mo t_Mo_ok n_Mo 0 (by decide) rfl rfl 26 (by decide) lf_Mo_111 rfl rfl (ty := .boolean) (by decide +kernel) rfl rfl (Nat.le_of_ble_eq_true rfl) rfl d_Mo_run_21 (fun H locs hO => ?_)
      refine lv_aload_n hx hb d_Mo_run_24 rfl (lv_at hl 0 rfl) ?_
      refine lv_iconst (v := 0) hx hb d_Mo_run_25 (by decide) ?_
      refine qa_put S hK hO hi_Mo t_Mo t_Mo_ok n_Mo 0 (by decide) rfl rfl 27 (by decide) lf_Mo_211 rfl rfl (ty := .boolean) (by decide +kernel) rfl rfl (Nat.le_of_ble_eq_true rfl) rfl d_Mo_run_26 (fun H locs hO => ?_)
      refine lv_aload_n hx hb d_Mo_run_29 rfl (lv_at hl 0 rfl) ?_
      refine lv_iconst (v := -1) hx hb d_Mo_run_30 (by decide) ?_
      refine qa_put S hK hO hi_Mo t_Mo t_Mo_ok n_Mo 0 (by decide) rfl rfl 28 (by decide) lf_Mo_214 rfl rfl (ty := .int) (by decide +kernel) rfl rfl (Nat.le_of_ble_eq_true rfl) rfl d_Mo_run_31 (fun H locs hO => ?_)
      refine lv_aload_n hx hb d_Mo_run_34 rfl (lv_at hl 0 rfl) ?_
      refine lv_iconst (v := 0) hx hb d_Mo_run_35 (by decide) ?_
      refine qa_put S hK hO hi_Mo t_Mo t_Mo_ok n_Mo 0 (by decide) rfl rfl 29 (by decide) lf_Mo_217 rfl rfl (ty := .int) (by decide +kernel) rfl rfl (Nat.le_of_ble_eq_true rfl) rfl d_Mo_run_36 (fun H locs hO => ?_)
      exact b39 (qa_up (qa_up (qa_up (qa_up t11.2 0 26 (1 : Int32)) 0 27 (0 : Int32)) 0 28 (-1 : Int32)) 0 29 (0 : Int32)) x1 x2 _ _ _ (lv_sub hl [0, 1, 2] rfl) hO hT
    · have hT := qa_t hT h
      refine lv_iconst (v := -1) hx hb d_Mo_run_17 (by decide) ?_
      exact ret hT hO d_Mo_run_18
def mf_Mo_result (g : qa_St) : qa_Re := (if (g 0 26) = 0 then (some ((0 : Int32), g)) else (some ((g 0 29), g)))
set_option maxHeartbeats 4000000 in
set_option maxRecDepth 100000 in
theorem mc_Mo_result (l : Launch) (D : va_G) (cI cJ cF cZ : ClassId) (ad : Nat → Nat) (g : qa_St) : qa_Mi l y_Mo_result (qa_ws y_Mo_result b_Mo_result 1 (some .int)) (qa_rm 0 0) D (qa_ty cI cJ cF cZ) 33 ad (me_en cI cZ ad) [.ref (ad 0)] g (mf_Mo_result g) := by
  refine qa_meti (by decide) (Nat.le_of_ble_eq_true rfl) ?_
  intro p e s m args below meth c Q A T S hK hN hA hT ret ls hl hO
  have hx := S.1
  have hb := S.2.1
  have hl : lv_has ls 1 [(0, .ref (ad 0))] := hl
  unfold mf_Mo_result at hT
  refine lv_aload_n hx hb d_Mo_result_0 rfl (lv_at hl 0 rfl) ?_
  refine qa_get S hK hO hi_Mo 0 (by decide) rfl rfl 26 (by decide) lf_Mo_111 rfl rfl d_Mo_result_1 ?_
  refine lv_if_eq (tgt := 14) hx hb d_Mo_result_4 (by decide) (fun h => ?_) (fun h => ?_)
  · have hT := qa_t hT h
    refine lv_iconst (v := 0) hx hb d_Mo_result_14 (by decide) ?_
    exact ret hT hO d_Mo_result_15
  · have hT := qa_f hT h
    refine lv_aload_n hx hb d_Mo_result_7 rfl (lv_at hl 0 rfl) ?_
    refine qa_get S hK hO hi_Mo 0 (by decide) rfl rfl 29 (by decide) lf_Mo_217 rfl rfl d_Mo_result_8 ?_
    refine lv_goto (tgt := 15) hx hb d_Mo_result_11 (by decide) ?_
    exact ret hT hO d_Mo_result_15
def mf_Mo_steps (g : qa_St) : qa_Re := (if (g 0 26) = 0 then (some ((-1 : Int32), g)) else (some ((g 0 30), g)))
set_option maxHeartbeats 4000000 in
set_option maxRecDepth 100000 in
theorem mc_Mo_steps (l : Launch) (D : va_G) (cI cJ cF cZ : ClassId) (ad : Nat → Nat) (g : qa_St) : qa_Mi l y_Mo_steps (qa_ws y_Mo_steps b_Mo_steps 1 (some .int)) (qa_rm 0 0) D (qa_ty cI cJ cF cZ) 33 ad (me_en cI cZ ad) [.ref (ad 0)] g (mf_Mo_steps g) := by
  refine qa_meti (by decide) (Nat.le_of_ble_eq_true rfl) ?_
  intro p e s m args below meth c Q A T S hK hN hA hT ret ls hl hO
  have hx := S.1
  have hb := S.2.1
  have hl : lv_has ls 1 [(0, .ref (ad 0))] := hl
  unfold mf_Mo_steps at hT
  refine lv_aload_n hx hb d_Mo_steps_0 rfl (lv_at hl 0 rfl) ?_
  refine qa_get S hK hO hi_Mo 0 (by decide) rfl rfl 26 (by decide) lf_Mo_111 rfl rfl d_Mo_steps_1 ?_
  refine lv_if_eq (tgt := 14) hx hb d_Mo_steps_4 (by decide) (fun h => ?_) (fun h => ?_)
  · have hT := qa_t hT h
    refine lv_iconst (v := -1) hx hb d_Mo_steps_14 (by decide) ?_
    exact ret hT hO d_Mo_steps_15
  · have hT := qa_f hT h
    refine lv_aload_n hx hb d_Mo_steps_7 rfl (lv_at hl 0 rfl) ?_
    refine qa_get S hK hO hi_Mo 0 (by decide) rfl rfl 30 (by decide) lf_Mo_220 rfl rfl d_Mo_steps_8 ?_
    refine lv_goto (tgt := 15) hx hb d_Mo_steps_11 (by decide) ?_
    exact ret hT hO d_Mo_steps_15
def mf_Mo_prints (g : qa_St) : qa_Re := (if (g 0 26) = 0 then (some ((-1 : Int32), g)) else (some ((g 0 46), g)))
set_option maxHeartbeats 4000000 in
set_option maxRecDepth 100000 in
theorem mc_Mo_prints (l : Launch) (D : va_G) (cI cJ cF cZ : ClassId) (ad : Nat → Nat) (g : qa_St) : qa_Mi l y_Mo_prints (qa_ws y_Mo_prints b_Mo_prints 1 (some .int)) (qa_rm 0 0) D (qa_ty cI cJ cF cZ) 33 ad (me_en cI cZ ad) [.ref (ad 0)] g (mf_Mo_prints g) := by
  refine qa_meti (by decide) (Nat.le_of_ble_eq_true rfl) ?_
  intro p e s m args below meth c Q A T S hK hN hA hT ret ls hl hO
  have hx := S.1
  have hb := S.2.1
  have hl : lv_has ls 1 [(0, .ref (ad 0))] := hl
  unfold mf_Mo_prints at hT
  refine lv_aload_n hx hb d_Mo_prints_0 rfl (lv_at hl 0 rfl) ?_
  refine qa_get S hK hO hi_Mo 0 (by decide) rfl rfl 26 (by decide) lf_Mo_111 rfl rfl d_Mo_prints_1 ?_
  refine lv_if_eq (tgt := 14) hx hb d_Mo_prints_4 (by decide) (fun h => ?_) (fun h => ?_)
  · have hT := qa_t hT h
    refine lv_iconst (v := -1) hx hb d_Mo_prints_14 (by decide) ?_
    exact ret hT hO d_Mo_prints_15
  · have hT := qa_f hT h
    refine lv_aload_n hx hb d_Mo_prints_7 rfl (lv_at hl 0 rfl) ?_
    refine qa_get S hK hO hi_Mo 0 (by decide) rfl rfl 46 (by decide) lf_Mo_235 rfl rfl d_Mo_prints_8 ?_
    refine lv_goto (tgt := 15) hx hb d_Mo_prints_11 (by decide) ?_
    exact ret hT hO d_Mo_prints_15
def mf_Mo_printed (g : qa_St) (x1 : Int32) : qa_Re := (if (g 0 26) = 0 then (some ((0 : Int32), g)) else ((mf_Mo_within g x1 (15 : Int32)).bind fun t10 => (if t10.1 = 0 then (some ((0 : Int32), t10.2)) else (if (t10.2 0 46) ≤ x1 then (some ((0 : Int32), t10.2)) else (if x1 < 0 ∨ 16 ≤ x1.toNatClampNeg then none else (some ((t10.2 32 x1.toNatClampNeg), t10.2)))))))
set_option maxHeartbeats 4000000 in
set_option maxRecDepth 100000 in
theorem mc_Mo_printed (l : Launch) (D : va_G) (cI cJ cF cZ : ClassId) (ad : Nat → Nat) (g : qa_St) (x1 : Int32) : qa_Mi l y_Mo_printed (qa_ws y_Mo_printed b_Mo_printed 2 (some .int)) (qa_rm 1 21) D (qa_ty cI cJ cF cZ) 33 ad (me_en cI cZ ad) [.ref (ad 0), .int x1] g (mf_Mo_printed g x1) := by
  refine qa_meti (by decide) (Nat.le_of_ble_eq_true rfl) ?_
  intro p e s m args below meth c Q A T S hK hN hA hT ret ls hl hO
  have hx := S.1
  have hb := S.2.1
  have hl : lv_has ls 2 [(0, .ref (ad 0)), (1, .int x1)] := hl
  unfold mf_Mo_printed at hT
  refine lv_aload_n hx hb d_Mo_printed_0 rfl (lv_at hl 0 rfl) ?_
  refine qa_get S hK hO hi_Mo 0 (by decide) rfl rfl 26 (by decide) lf_Mo_111 rfl rfl d_Mo_printed_1 ?_
  refine lv_if_eq (tgt := 33) hx hb d_Mo_printed_4 (by decide) (fun h => ?_) (fun h => ?_)
  · have hT := qa_t hT h
    refine lv_iconst (v := 0) hx hb d_Mo_printed_33 (by decide) ?_
    exact ret hT hO d_Mo_printed_34
  · have hT := qa_f hT h
    refine lv_iload_n hx hb d_Mo_printed_7 rfl (lv_at hl 1 rfl) ?_
    refine lv_bipush (v := 15) hx hb d_Mo_printed_8 (by decide) ?_
    obtain ⟨t10, ht10, hT⟩ := qa_b hT
    refine qa_Si (As := [.int x1, .int (15 : Int32)]) (rest := []) S hK hN hA hO (mc_Mo_within l D cI cJ cF cZ ad g x1 (15 : Int32)) ht10 qy_Mo_within lm_Mo_118 ⟨by decide, by decide⟩ rfl hl.1 rfl (Nat.le_of_ble_eq_true rfl) d_Mo_printed_10 (fun H locs hO => ?_)
    refine lv_if_eq (tgt := 33) hx hb d_Mo_printed_13 (by decide) (fun h => ?_) (fun h => ?_)
    · have hT := qa_t hT h
      refine lv_iconst (v := 0) hx hb d_Mo_printed_33 (by decide) ?_
      exact ret hT hO d_Mo_printed_34
    · have hT := qa_f hT h
      refine lv_iload_n hx hb d_Mo_printed_16 rfl (lv_at hl 1 rfl) ?_
      refine lv_aload_n hx hb d_Mo_printed_17 rfl (lv_at hl 0 rfl) ?_
      refine qa_get S hK hO hi_Mo 0 (by decide) rfl rfl 46 (by decide) lf_Mo_235 rfl rfl d_Mo_printed_18 ?_
      refine lv_icmp_ge (tgt := 33) hx hb d_Mo_printed_21 (by decide) (fun h => ?_) (fun h => ?_)
      · have hT := qa_t hT h
        refine lv_iconst (v := 0) hx hb d_Mo_printed_33 (by decide) ?_
        exact ret hT hO d_Mo_printed_34
      · have hT := qa_f hT h
        refine lv_aload_n hx hb d_Mo_printed_24 rfl (lv_at hl 0 rfl) ?_
        refine qa_get S hK hO hi_Mo 0 (by decide) rfl rfl 47 (by decide) lf_Mo_104 rfl rfl d_Mo_printed_25 ?_
        refine lv_iload_n hx hb d_Mo_printed_28 rfl (lv_at hl 1 rfl) ?_
        obtain ⟨hi29, hT⟩ := qa_c hT
        refine qa_iald (n := 16) S hK hO 32 (by decide) 0 (me_arr rfl) rfl hi29 d_Mo_printed_29 ?_
        refine lv_goto (tgt := 34) hx hb d_Mo_printed_30 (by decide) ?_
        exact ret hT hO d_Mo_printed_34
def mf_Mo_begun (g : qa_St) (x1 : Int32) : qa_Re := (if (g 0 26) = 0 then (some ((-1 : Int32), g)) else ((mf_Mo_within g x1 ((g 0 0) - (1 : Int32))).bind fun t14 => (if t14.1 = 0 then (some ((-1 : Int32), t14.2)) else (if x1 < 0 ∨ 6 ≤ x1.toNatClampNeg then none else (some ((t14.2 31 x1.toNatClampNeg), t14.2))))))
set_option maxHeartbeats 4000000 in
set_option maxRecDepth 100000 in
theorem mc_Mo_begun (l : Launch) (D : va_G) (cI cJ cF cZ : ClassId) (ad : Nat → Nat) (g : qa_St) (x1 : Int32) : qa_Mi l y_Mo_begun (qa_ws y_Mo_begun b_Mo_begun 2 (some .int)) (qa_rm 1 21) D (qa_ty cI cJ cF cZ) 33 ad (me_en cI cZ ad) [.ref (ad 0), .int x1] g (mf_Mo_begun g x1) := by
  refine qa_meti (by decide) (Nat.le_of_ble_eq_true rfl) ?_
  intro p e s m args below meth c Q A T S hK hN hA hT ret ls hl hO
  have hx := S.1
  have hb := S.2.1
  have hl : lv_has ls 2 [(0, .ref (ad 0)), (1, .int x1)] := hl
  unfold mf_Mo_begun at hT
  refine lv_aload_n hx hb d_Mo_begun_0 rfl (lv_at hl 0 rfl) ?_
  refine qa_get S hK hO hi_Mo 0 (by decide) rfl rfl 26 (by decide) lf_Mo_111 rfl rfl d_Mo_begun_1 ?_
  refine lv_if_eq (tgt := 29) hx hb d_Mo_begun_4 (by decide) (fun h => ?_) (fun h => ?_)
  · have hT := qa_t hT h
    refine lv_iconst (v := -1) hx hb d_Mo_begun_29 (by decide) ?_
    exact ret hT hO d_Mo_begun_30
  · have hT := qa_f hT h
    refine lv_iload_n hx hb d_Mo_begun_7 rfl (lv_at hl 1 rfl) ?_
    refine lv_aload_n hx hb d_Mo_begun_8 rfl (lv_at hl 0 rfl) ?_
    refine qa_get S hK hO hi_Mo 0 (by decide) rfl rfl 0 (by decide) lf_Mo_114 rfl rfl d_Mo_begun_9 ?_
    refine lv_iconst (v := 1) hx hb d_Mo_begun_12 (by decide) ?_
    refine lv_isub hx hb d_Mo_begun_13 ?_
    obtain ⟨t14, ht14, hT⟩ := qa_b hT
    refine qa_Si (As := [.int x1, .int ((g 0 0) - (1 : Int32))]) (rest := []) S hK hN hA hO (mc_Mo_within l D cI cJ cF cZ ad g x1 ((g 0 0) - (1 : Int32))) ht14 qy_Mo_within lm_Mo_118 ⟨by decide, by decide⟩ rfl hl.1 rfl (Nat.le_of_ble_eq_true rfl) d_Mo_begun_14 (fun H locs hO => ?_)
    refine lv_if_eq (tgt := 29) hx hb d_Mo_begun_17 (by decide) (fun h => ?_) (fun h => ?_)
    · have hT := qa_t hT h
      refine lv_iconst (v := -1) hx hb d_Mo_begun_29 (by decide) ?_
      exact ret hT hO d_Mo_begun_30
    · have hT := qa_f hT h
      refine lv_aload_n hx hb d_Mo_begun_20 rfl (lv_at hl 0 rfl) ?_
      refine qa_get S hK hO hi_Mo 0 (by decide) rfl rfl 44 (by decide) lf_Mo_101 rfl rfl d_Mo_begun_21 ?_
      refine lv_iload_n hx hb d_Mo_begun_24 rfl (lv_at hl 1 rfl) ?_
      obtain ⟨hi25, hT⟩ := qa_c hT
      refine qa_iald (n := 6) S hK hO 31 (by decide) 0 (me_arr rfl) rfl hi25 d_Mo_begun_25 ?_
      refine lv_goto (tgt := 30) hx hb d_Mo_begun_26 (by decide) ?_
      exact ret hT hO d_Mo_begun_30
def mf_Mo_objects (g : qa_St) : qa_Re := (if (g 0 26) = 0 then (some ((-1 : Int32), g)) else (some ((g 0 40), g)))
set_option maxHeartbeats 4000000 in
set_option maxRecDepth 100000 in
theorem mc_Mo_objects (l : Launch) (D : va_G) (cI cJ cF cZ : ClassId) (ad : Nat → Nat) (g : qa_St) : qa_Mi l y_Mo_objects (qa_ws y_Mo_objects b_Mo_objects 1 (some .int)) (qa_rm 0 0) D (qa_ty cI cJ cF cZ) 33 ad (me_en cI cZ ad) [.ref (ad 0)] g (mf_Mo_objects g) := by
  refine qa_meti (by decide) (Nat.le_of_ble_eq_true rfl) ?_
  intro p e s m args below meth c Q A T S hK hN hA hT ret ls hl hO
  have hx := S.1
  have hb := S.2.1
  have hl : lv_has ls 1 [(0, .ref (ad 0))] := hl
  unfold mf_Mo_objects at hT
  refine lv_aload_n hx hb d_Mo_objects_0 rfl (lv_at hl 0 rfl) ?_
  refine qa_get S hK hO hi_Mo 0 (by decide) rfl rfl 26 (by decide) lf_Mo_111 rfl rfl d_Mo_objects_1 ?_
  refine lv_if_eq (tgt := 14) hx hb d_Mo_objects_4 (by decide) (fun h => ?_) (fun h => ?_)
  · have hT := qa_t hT h
    refine lv_iconst (v := -1) hx hb d_Mo_objects_14 (by decide) ?_
    exact ret hT hO d_Mo_objects_15
  · have hT := qa_f hT h
    refine lv_aload_n hx hb d_Mo_objects_7 rfl (lv_at hl 0 rfl) ?_
    refine qa_get S hK hO hi_Mo 0 (by decide) rfl rfl 40 (by decide) lf_Mo_229 rfl rfl d_Mo_objects_8 ?_
    refine lv_goto (tgt := 15) hx hb d_Mo_objects_11 (by decide) ?_
    exact ret hT hO d_Mo_objects_15
def mf_Mo_kept (g : qa_St) (x1 : Int32) : qa_Re := (if (g 0 26) = 0 then (some ((0 : Int32), g)) else ((mf_Mo_within g x1 ((g 0 0) - (1 : Int32))).bind fun t14 => (if t14.1 = 0 then (some ((0 : Int32), t14.2)) else (if x1 < 0 ∨ 6 ≤ x1.toNatClampNeg then none else (some ((t14.2 30 x1.toNatClampNeg), t14.2))))))
set_option maxHeartbeats 4000000 in
set_option maxRecDepth 100000 in
theorem mc_Mo_kept (l : Launch) (D : va_G) (cI cJ cF cZ : ClassId) (ad : Nat → Nat) (g : qa_St) (x1 : Int32) : qa_Mi l y_Mo_kept (qa_ws y_Mo_kept b_Mo_kept 2 (some .int)) (qa_rm 1 21) D (qa_ty cI cJ cF cZ) 33 ad (me_en cI cZ ad) [.ref (ad 0), .int x1] g (mf_Mo_kept g x1) := by
  refine qa_meti (by decide) (Nat.le_of_ble_eq_true rfl) ?_
  intro p e s m args below meth c Q A T S hK hN hA hT ret ls hl hO
  have hx := S.1
  have hb := S.2.1
  have hl : lv_has ls 2 [(0, .ref (ad 0)), (1, .int x1)] := hl
  unfold mf_Mo_kept at hT
  refine lv_aload_n hx hb d_Mo_kept_0 rfl (lv_at hl 0 rfl) ?_
  refine qa_get S hK hO hi_Mo 0 (by decide) rfl rfl 26 (by decide) lf_Mo_111 rfl rfl d_Mo_kept_1 ?_
  refine lv_if_eq (tgt := 29) hx hb d_Mo_kept_4 (by decide) (fun h => ?_) (fun h => ?_)
  · have hT := qa_t hT h
    refine lv_iconst (v := 0) hx hb d_Mo_kept_29 (by decide) ?_
    exact ret hT hO d_Mo_kept_30
  · have hT := qa_f hT h
    refine lv_iload_n hx hb d_Mo_kept_7 rfl (lv_at hl 1 rfl) ?_
    refine lv_aload_n hx hb d_Mo_kept_8 rfl (lv_at hl 0 rfl) ?_
    refine qa_get S hK hO hi_Mo 0 (by decide) rfl rfl 0 (by decide) lf_Mo_114 rfl rfl d_Mo_kept_9 ?_
    refine lv_iconst (v := 1) hx hb d_Mo_kept_12 (by decide) ?_
    refine lv_isub hx hb d_Mo_kept_13 ?_
    obtain ⟨t14, ht14, hT⟩ := qa_b hT
    refine qa_Si (As := [.int x1, .int ((g 0 0) - (1 : Int32))]) (rest := []) S hK hN hA hO (mc_Mo_within l D cI cJ cF cZ ad g x1 ((g 0 0) - (1 : Int32))) ht14 qy_Mo_within lm_Mo_118 ⟨by decide, by decide⟩ rfl hl.1 rfl (Nat.le_of_ble_eq_true rfl) d_Mo_kept_14 (fun H locs hO => ?_)
    refine lv_if_eq (tgt := 29) hx hb d_Mo_kept_17 (by decide) (fun h => ?_) (fun h => ?_)
    · have hT := qa_t hT h
      refine lv_iconst (v := 0) hx hb d_Mo_kept_29 (by decide) ?_
      exact ret hT hO d_Mo_kept_30
    · have hT := qa_f hT h
      refine lv_aload_n hx hb d_Mo_kept_20 rfl (lv_at hl 0 rfl) ?_
      refine qa_get S hK hO hi_Mo 0 (by decide) rfl rfl 43 (by decide) lf_Mo_98 rfl rfl d_Mo_kept_21 ?_
      refine lv_iload_n hx hb d_Mo_kept_24 rfl (lv_at hl 1 rfl) ?_
      obtain ⟨hi25, hT⟩ := qa_c hT
      refine qa_iald (n := 6) S hK hO 30 (by decide) 0 (me_arr rfl) rfl hi25 d_Mo_kept_25 ?_
      refine lv_goto (tgt := 30) hx hb d_Mo_kept_26 (by decide) ?_
      exact ret hT hO d_Mo_kept_30
