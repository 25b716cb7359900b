def xf_Ch_apply_144 (g : qa_St) (x2 : Int32) (s0 : Int32) : qa_Re := ((xf_Ch_need g s0).bind fun t144 => ((xf_Fr_place t144.2 75 x2).bind fun t153 => ((xf_Ch_put t153.2 t153.1).bind fun t156 => (some (0, t156.2)))))
def xf_Ch_apply (g : qa_St) (x1 : Int32) (x2 : Int32) : qa_Re := (if x1 = 0 then ((xf_Ch_put g (9 : Int32)).bind fun t111 => (some (0, t111.2))) else (if x1 = 1 then ((xf_Ch_put g x2).bind fun t119 => (some (0, t119.2))) else (if x1 = 2 then ((xf_Fr_place g 75 x2).bind fun t131 => (if t131.1 = (8 : Int32) then (xf_Ch_apply_144 t131.2 x2 (0 : Int32)) else (xf_Ch_apply_144 t131.2 x2 (1 : Int32)))) else (if x1 = 3 then ((xf_Ch_takeAny g).bind fun t168 => ((xf_Fr_setPlace t168.2 75 x2 t168.1).bind fun t171 => (some (0, t171.2)))) else (if x1 = 4 then ((xf_Ch_takeAny g).bind fun t178 => (some (0, t178.2))) else (if x1 = 5 then ((xf_Ch_takeNumbers g (2 : Int32)).bind fun t187 => ((xf_Ch_put t187.2 (9 : Int32)).bind fun t193 => (some (0, t193.2)))) else (if x1 = 6 then ((xf_Ch_takeNumbers g (2 : Int32)).bind fun t187 => ((xf_Ch_put t187.2 (9 : Int32)).bind fun t193 => (some (0, t193.2)))) else (if x1 = 7 then ((xf_Ch_takeNumbers g (2 : Int32)).bind fun t187 => ((xf_Ch_put t187.2 (9 : Int32)).bind fun t193 => (some (0, t193.2)))) else (if x1 = 8 then ((xf_Ch_takeNumbers g (2 : Int32)).bind fun t187 => ((xf_Ch_put t187.2 (9 : Int32)).bind fun t193 => (some (0, t193.2)))) else (if x1 = 9 then ((xf_Ch_applyToObject g x1 x2).bind fun t231 => (some (0, t231.2))) else (if x1 = 10 then ((xf_Ch_takeNumbers g (1 : Int32)).bind fun t201 => (some (0, t201.2))) else (if x1 = 11 then ((xf_Ch_put g x2).bind fun t119 => (some (0, t119.2))) else (if x1 = 12 then ((xf_Ch_applyToObject g x1 x2).bind fun t231 => (some (0, t231.2))) else (if x1 = 13 then ((xf_Ch_applyToObject g x1 x2).bind fun t231 => (some (0, t231.2))) else (if x1 = 14 then ((xf_Ch_put g (9 : Int32)).bind fun t111 => (some (0, t111.2))) else (if x1 = 15 then ((xf_Ch_takeNumbers g (1 : Int32)).bind fun t201 => (some (0, t201.2))) else (if x1 = 16 then ((xf_Pr_inputsOf g x2).bind fun t213 => ((xf_Ch_takeNumbers t213.2 t213.1).bind fun t216 => ((xf_Ch_put t216.2 (9 : Int32)).bind fun t222 => (some (0, t222.2))))) else (if x1 = 17 then ((xf_Ch_applyToObject g x1 x2).bind fun t231 => (some (0, t231.2))) else (if x1 = 18 then ((xf_Ch_applyToObject g x1 x2).bind fun t231 => (some (0, t231.2))) else (if x1 = 19 then ((xf_Ch_applyToObject g x1 x2).bind fun t231 => (some (0, t231.2))) else (if x1 = 20 then ((xf_Ch_takeNumbers g (1 : Int32)).bind fun t201 => (some (0, t201.2))) else (if x1 = 21 then ((xf_Ch_takeNumbers g (1 : Int32)).bind fun t201 => (some (0, t201.2))) else (if x1 = 22 then ((xf_Ch_takeNumbers g (1 : Int32)).bind fun t201 => (some (0, t201.2))) else ((xf_Ch_applyToObject g x1 x2).bind fun t231 => (some (0, t231.2))))))))))))))))))))))))))
set_option maxHeartbeats 4000000 in
set_option maxRecDepth 100000 in
theorem xc_Ch_apply (l : Launch) (D : va_G) (cI cJ cF cZ : ClassId) (ad : Nat → Nat) (g : qa_St) (x1 : Int32) (x2 : Int32) : qa_Mv l y_Ch_apply (qa_ws y_Ch_apply b_Ch_apply 3 none) (qa_rm 4 85) D (qa_ty cI cJ cF cZ) 107 ad (xe_en cI cJ cF ad) [.ref (ad 72), .int x1, .int x2] g (xf_Ch_apply g x1 x2) := by
  refine qa_metv (by decide) (Nat.le_of_ble_eq_true rfl) ?_
  intro p e s m args below meth c Q A T S hK hN hA hT ret ls hl hO
  have hx := S.1
  have hb := S.2.1
  have hl : lv_has ls 3 [(0, .ref (ad 72)), (1, .int x1), (2, .int x2)] := hl
  have b144 : ∀ (g : qa_St) (x2 : Int32) (s0 : Int32) (ls : Array Slot) (H : Heap) (locs : List Loc), lv_has ls 3 [(0, .ref (ad 72)), (2, .int x2)] → qa_O D 107 ad (xe_en cI cJ cF ad) A s.heap g H locs → xf_Ch_apply_144 g x2 s0 = some T → W p l e (qa_rm 4 85) s m args below meth c H locs 0 0 Q (F0 m 144 ls [.int s0, .ref (ad 72)]) := by
    intro g x2 s0 ls H locs hl hO hT
    unfold xf_Ch_apply_144 at hT
    obtain ⟨t144, ht144, hT⟩ := qa_b hT
    refine qa_Vv (As := [.int s0]) (rest := []) (r := 72) S hK hN hA hO (xc_Ch_need l D cI cJ cF cZ ad g s0) ht144 qy_Ch_need lm_Ch_126 ⟨by decide, by decide⟩ (by decide) rfl rfl rfl rfl hl.1 rfl (Nat.le_of_ble_eq_true rfl) d_Ch_apply_144 (fun H locs hO => ?_)
    refine lv_aload_n hx hb d_Ch_apply_147 rfl (lv_at hl 0 rfl) ?_
    refine lv_aload_n hx hb d_Ch_apply_148 rfl (lv_at hl 0 rfl) ?_
    refine qa_get S hK hO hi_Ch 72 (by decide) rfl rfl 3 (by decide) lf_Ch_21 rfl rfl d_Ch_apply_149 ?_
    refine lv_iload_n hx hb d_Ch_apply_152 rfl (lv_at hl 1 rfl) ?_
    obtain ⟨t153, ht153, hT⟩ := qa_b hT
    refine qa_Vi (As := [.int x2]) (rest := [.ref (ad 72)]) (r := 75) S hK hN hA hO (xc_Fr_place l D cI cJ cF cZ ad t144.2 75 x2 xe_F75) ht153 qy_Fr_place lm_Ch_130 ⟨by decide, by decide⟩ (xe_Flt xe_F75) (xe_fr xe_F75 _) rfl rfl rfl hl.1 rfl (Nat.le_of_ble_eq_true rfl) d_Ch_apply_153 (fun H locs hO => ?_)
    obtain ⟨t156, ht156, hT⟩ := qa_b hT
    refine qa_Vv (As := [.int t153.1]) (rest := []) (r := 72) S hK hN hA hO (xc_Ch_put l D cI cJ cF cZ ad t153.2 t153.1) ht156 qy_Ch_put lm_Ch_139 ⟨by decide, by decide⟩ (by decide) rfl rfl rfl rfl hl.1 rfl (Nat.le_of_ble_eq_true rfl) d_Ch_apply_156 (fun H locs hO => ?_)
    refine lv_goto (tgt := 234) hx hb d_Ch_apply_159 (by decide) ?_
    exact ret hT hO d_Ch_apply_234
  unfold xf_Ch_apply at hT
  refine lv_iload_n hx hb d_Ch_apply_0 rfl (lv_at hl 1 rfl) ?_
  by_cases h1_0 : x1 = 0
  · have hT := qa_t hT h1_0
    refine lv_tableIn (off := 107) (tgt := 108) hx hb d_Ch_apply_1 (by rw [h1_0]; decide) (by rw [h1_0]; decide) (by rw [h1_0]; rfl) (by decide) ?_
    refine lv_aload_n hx hb d_Ch_apply_108 rfl (lv_at hl 0 rfl) ?_
    refine lv_bipush (v := 9) hx hb d_Ch_apply_109 (by decide) ?_
    obtain ⟨t111, ht111, hT⟩ := qa_b hT
    refine qa_Vv (As := [.int (9 : Int32)]) (rest := []) (r := 72) S hK hN hA hO (xc_Ch_put l D cI cJ cF cZ ad g (9 : Int32)) ht111 qy_Ch_put lm_Ch_139 ⟨by decide, by decide⟩ (by decide) rfl rfl rfl rfl hl.1 rfl (Nat.le_of_ble_eq_true rfl) d_Ch_apply_111 (fun H locs hO => ?_)
    refine lv_goto (tgt := 234) hx hb d_Ch_apply_114 (by decide) ?_
    exact ret hT hO d_Ch_apply_234
  have hT := qa_f hT h1_0
  by_cases h1_1 : x1 = 1
  · have hT := qa_t hT h1_1
    refine lv_tableIn (off := 116) (tgt := 117) hx hb d_Ch_apply_1 (by rw [h1_1]; decide) (by rw [h1_1]; decide) (by rw [h1_1]; rfl) (by decide) ?_
    refine lv_aload_n hx hb d_Ch_apply_117 rfl (lv_at hl 0 rfl) ?_
    refine lv_iload_n hx hb d_Ch_apply_118 rfl (lv_at hl 2 rfl) ?_
    obtain ⟨t119, ht119, hT⟩ := qa_b hT
    refine qa_Vv (As := [.int x2]) (rest := []) (r := 72) S hK hN hA hO (xc_Ch_put l D cI cJ cF cZ ad g x2) ht119 qy_Ch_put lm_Ch_139 ⟨by decide, by decide⟩ (by decide) rfl rfl rfl rfl hl.1 rfl (Nat.le_of_ble_eq_true rfl) d_Ch_apply_119 (fun H locs hO => ?_)
    refine lv_goto (tgt := 234) hx hb d_Ch_apply_122 (by decide) ?_
    exact ret hT hO d_Ch_apply_234
  have hT := qa_f hT h1_1
  by_cases h1_2 : x1 = 2
  · have hT := qa_t hT h1_2
    refine lv_tableIn (off := 124) (tgt := 125) hx hb d_Ch_apply_1 (by rw [h1_2]; decide) (by rw [h1_2]; decide) (by rw [h1_2]; rfl) (by decide) ?_
    refine lv_aload_n hx hb d_Ch_apply_125 rfl (lv_at hl 0 rfl) ?_
    refine lv_aload_n hx hb d_Ch_apply_126 rfl (lv_at hl 0 rfl) ?_
    refine qa_get S hK hO hi_Ch 72 (by decide) rfl rfl 3 (by decide) lf_Ch_21 rfl rfl d_Ch_apply_127 ?_
    refine lv_iload_n hx hb d_Ch_apply_130 rfl (lv_at hl 2 rfl) ?_
    obtain ⟨t131, ht131, hT⟩ := qa_b hT
    refine qa_Vi (As := [.int x2]) (rest := [.ref (ad 72)]) (r := 75) S hK hN hA hO (xc_Fr_place l D cI cJ cF cZ ad g 75 x2 xe_F75) ht131 qy_Fr_place lm_Ch_130 ⟨by decide, by decide⟩ (xe_Flt xe_F75) (xe_fr xe_F75 _) rfl rfl rfl hl.1 rfl (Nat.le_of_ble_eq_true rfl) d_Ch_apply_131 (fun H locs hO => ?_)
    refine lv_bipush (v := 8) hx hb d_Ch_apply_134 (by decide) ?_
    refine lv_icmp_eq (tgt := 143) hx hb d_Ch_apply_136 (by decide) (fun h => ?_) (fun h => ?_)
    · have hT := qa_t hT h
      refine lv_iconst (v := 0) hx hb d_Ch_apply_143 (by decide) ?_
      exact b144 t131.2 x2 (0 : Int32) _ _ _ (lv_sub hl [0, 2] rfl) hO hT
    · have hT := qa_f hT h
      refine lv_iconst (v := 1) hx hb d_Ch_apply_139 (by decide) ?_
      refine lv_goto (tgt := 144) hx hb d_Ch_apply_140 (by decide) ?_
      exact b144 t131.2 x2 (1 : Int32) _ _ _ (lv_sub hl [0, 2] rfl) hO hT
  have hT := qa_f hT h1_2
  by_cases h1_3 : x1 = 3
  · have hT := qa_t hT h1_3
    refine lv_tableIn (off := 161) (tgt := 162) hx hb d_Ch_apply_1 (by rw [h1_3]; decide) (by rw [h1_3]; decide) (by rw [h1_3]; rfl) (by decide) ?_
    refine lv_aload_n hx hb d_Ch_apply_162 rfl (lv_at hl 0 rfl) ?_
    refine qa_get S hK hO hi_Ch 72 (by decide) rfl rfl 3 (by decide) lf_Ch_21 rfl rfl d_Ch_apply_163 ?_
    refine lv_iload_n hx hb d_Ch_apply_166 rfl (lv_at hl 2 rfl) ?_
    refine lv_aload_n hx hb d_Ch_apply_167 rfl (lv_at hl 0 rfl) ?_
    obtain ⟨t168, ht168, hT⟩ := qa_b hT
    refine qa_Vi (As := []) (rest := [.int x2, .ref (ad 75)]) (r := 72) S hK hN hA hO (xc_Ch_takeAny l D cI cJ cF cZ ad g) ht168 qy_Ch_takeAny lm_Ch_142 ⟨by decide, by decide⟩ (by decide) rfl rfl rfl rfl hl.1 rfl (Nat.le_of_ble_eq_true rfl) d_Ch_apply_168 (fun H locs hO => ?_)
    obtain ⟨t171, ht171, hT⟩ := qa_b hT
    refine qa_Vv (As := [.int x2, .int t168.1]) (rest := []) (r := 75) S hK hN hA hO (xc_Fr_setPlace l D cI cJ cF cZ ad t168.2 75 x2 t168.1 xe_F75) ht171 qy_Fr_setPlace lm_Ch_81 ⟨by decide, by decide⟩ (xe_Flt xe_F75) (xe_fr xe_F75 _) rfl rfl rfl hl.1 rfl (Nat.le_of_ble_eq_true rfl) d_Ch_apply_171 (fun H locs hO => ?_)
    refine lv_goto (tgt := 234) hx hb d_Ch_apply_174 (by decide) ?_
    exact ret hT hO d_Ch_apply_234
  have hT := qa_f hT h1_3
  by_cases h1_4 : x1 = 4
  · have hT := qa_t hT h1_4
    refine lv_tableIn (off := 176) (tgt := 177) hx hb d_Ch_apply_1 (by rw [h1_4]; decide) (by rw [h1_4]; decide) (by rw [h1_4]; rfl) (by decide) ?_
    refine lv_aload_n hx hb d_Ch_apply_177 rfl (lv_at hl 0 rfl) ?_
    obtain ⟨t178, ht178, hT⟩ := qa_b hT
    refine qa_Vi (As := []) (rest := []) (r := 72) S hK hN hA hO (xc_Ch_takeAny l D cI cJ cF cZ ad g) ht178 qy_Ch_takeAny lm_Ch_142 ⟨by decide, by decide⟩ (by decide) rfl rfl rfl rfl hl.1 rfl (Nat.le_of_ble_eq_true rfl) d_Ch_apply_178 (fun H locs hO => ?_)
    refine lv_pop hx hb d_Ch_apply_181 rfl ?_
    refine lv_goto (tgt := 234) hx hb d_Ch_apply_182 (by decide) ?_
    exact ret hT hO d_Ch_apply_234
  have hT := qa_f hT h1_4
  by_cases h1_5 : x1 = 5
  · have hT := qa_t hT h1_5
    refine lv_tableIn (off := 184) (tgt := 185) hx hb d_Ch_apply_1 (by rw [h1_5]; decide) (by rw [h1_5]; decide) (by rw [h1_5]; rfl) (by decide) ?_
    refine lv_aload_n hx hb d_Ch_apply_185 rfl (lv_at hl 0 rfl) ?_
    refine lv_iconst (v := 2) hx hb d_Ch_apply_186 (by decide) ?_
    obtain ⟨t187, ht187, hT⟩ := qa_b hT
    refine qa_Vv (As := [.int (2 : Int32)]) (rest := []) (r := 72) S hK hN hA hO (xc_Ch_takeNumbers l D cI cJ cF cZ ad g (2 : Int32)) ht187 qy_Ch_takeNumbers lm_Ch_145 ⟨by decide, by decide⟩ (by decide) rfl rfl rfl rfl hl.1 rfl (Nat.le_of_ble_eq_true rfl) d_Ch_apply_187 (fun H locs hO => ?_)
    refine lv_aload_n hx hb d_Ch_apply_190 rfl (lv_at hl 0 rfl) ?_
    refine lv_bipush (v := 9) hx hb d_Ch_apply_191 (by decide) ?_
    obtain ⟨t193, ht193, hT⟩ := qa_b hT
    refine qa_Vv (As := [.int (9 : Int32)]) (rest := []) (r := 72) S hK hN hA hO (xc_Ch_put l D cI cJ cF cZ ad t187.2 (9 : Int32)) ht193 qy_Ch_put lm_Ch_139 ⟨by decide, by decide⟩ (by decide) rfl rfl rfl rfl hl.1 rfl (Nat.le_of_ble_eq_true rfl) d_Ch_apply_193 (fun H locs hO => ?_)
    refine lv_goto (tgt := 234) hx hb d_Ch_apply_196 (by decide) ?_
    exact ret hT hO d_Ch_apply_234
  have hT := qa_f hT h1_5
  by_cases h1_6 : x1 = 6
  · have hT := qa_t hT h1_6
    refine lv_tableIn (off := 184) (tgt := 185) hx hb d_Ch_apply_1 (by rw [h1_6]; decide) (by rw [h1_6]; decide) (by rw [h1_6]; rfl) (by decide) ?_
    refine lv_aload_n hx hb d_Ch_apply_185 rfl (lv_at hl 0 rfl) ?_
    refine lv_iconst (v := 2) hx hb d_Ch_apply_186 (by decide) ?_
    obtain ⟨t187, ht187, hT⟩ := qa_b hT
    refine qa_Vv (As := [.int (2 : Int32)]) (rest := []) (r := 72) S hK hN hA hO (xc_Ch_takeNumbers l D cI cJ cF cZ ad g (2 : Int32)) ht187 qy_Ch_takeNumbers lm_Ch_145 ⟨by decide, by decide⟩ (by decide) rfl rfl rfl rfl hl.1 rfl (Nat.le_of_ble_eq_true rfl) d_Ch_apply_187 (fun H locs hO => ?_)
    refine lv_aload_n hx hb d_Ch_apply_190 rfl (lv_at hl 0 rfl) ?_
    refine lv_bipush (v := 9) hx hb d_Ch_apply_191 (by decide) ?_
    obtain ⟨t193, ht193, hT⟩ := qa_b hT
    refine qa_Vv (As := [.int (9 : Int32)]) (rest := []) (r := 72) S hK hN hA hO (xc_Ch_put l D cI cJ cF cZ ad t187.2 (9 : Int32)) ht193 qy_Ch_put lm_Ch_139 ⟨by decide, by decide⟩ (by decide) rfl rfl rfl rfl hl.1 rfl (Nat.le_of_ble_eq_true rfl) d_Ch_apply_193 (fun H locs hO => ?_)
    refine lv_goto (tgt := 234) hx hb d_Ch_apply_196 (by decide) ?_
    exact ret hT hO d_Ch_apply_234
  have hT := qa_f hT h1_6
  by_cases h1_7 : x1 = 7
  · have hT := qa_t hT h1_7
    refine lv_tableIn (off := 184) (tgt := 185) hx hb d_Ch_apply_1 (by rw [h1_7]; decide) (by rw [h1_7]; decide) (by rw [h1_7]; rfl) (by decide) ?_
    refine lv_aload_n hx hb d_Ch_apply_185 rfl (lv_at hl 0 rfl) ?_
    refine lv_iconst (v := 2) hx hb d_Ch_apply_186 (by decide) ?_
    obtain ⟨t187, ht187, hT⟩ := qa_b hT
    refine qa_Vv (As := [.int (2 : Int32)]) (rest := []) (r := 72) S hK hN hA hO (xc_Ch_takeNumbers l D cI cJ cF cZ ad g (2 : Int32)) ht187 qy_Ch_takeNumbers lm_Ch_145 ⟨by decide, by decide⟩ (by decide) rfl rfl rfl rfl hl.1 rfl (Nat.le_of_ble_eq_true rfl) d_Ch_apply_187 (fun H locs hO => ?_)
    refine lv_aload_n hx hb d_Ch_apply_190 rfl (lv_at hl 0 rfl) ?_
    refine lv_bipush (v := 9) hx hb d_Ch_apply_191 (by decide) ?_
    obtain ⟨t193, ht193, hT⟩ := qa_b hT
    refine qa_Vv (As := [.int (9 : Int32)]) (rest := []) (r := 72) S hK hN hA hO (xc_Ch_put l D cI cJ cF cZ ad t187.2 (9 : Int32)) ht193 qy_Ch_put lm_Ch_139 ⟨by decide, by decide⟩ (by decide) rfl rfl rfl rfl hl.1 rfl (Nat.le_of_ble_eq_true rfl) d_Ch_apply_193 (fun H locs hO => ?_)
    refine lv_goto (tgt := 234) hx hb d_Ch_apply_196 (by decide) ?_
    exact ret hT hO d_Ch_apply_234
  have hT := qa_f hT h1_7
  by_cases h1_8 : x1 = 8
  · have hT := qa_t hT h1_8
    refine lv_tableIn (off := 184) (tgt := 185) hx hb d_Ch_apply_1 (by rw [h1_8]; decide) (by rw [h1_8]; decide) (by rw [h1_8]; rfl) (by decide) ?_
    refine lv_aload_n hx hb d_Ch_apply_185 rfl (lv_at hl 0 rfl) ?_
    refine lv_iconst (v := 2) hx hb d_Ch_apply_186 (by decide) ?_
    obtain ⟨t187, ht187, hT⟩ := qa_b hT
    refine qa_Vv (As := [.int (2 : Int32)]) (rest := []) (r := 72) S hK hN hA hO (xc_Ch_takeNumbers l D cI cJ cF cZ ad g (2 : Int32)) ht187 qy_Ch_takeNumbers lm_Ch_145 ⟨by decide, by decide⟩ (by decide) rfl rfl rfl rfl hl.1 rfl (Nat.le_of_ble_eq_true rfl) d_Ch_apply_187 (fun H locs hO => ?_)
    refine lv_aload_n hx hb d_Ch_apply_190 rfl (lv_at hl 0 rfl) ?_
    refine lv_bipush (v := 9) hx hb d_Ch_apply_191 (by decide) ?_
    obtain ⟨t193, ht193, hT⟩ := qa_b hT
    refine qa_Vv (As := [.int (9 : Int32)]) (rest := []) (r := 72) S hK hN hA hO (xc_Ch_put l D cI cJ cF cZ ad t187.2 (9 : Int32)) ht193 qy_Ch_put lm_Ch_139 ⟨by decide, by decide⟩ (by decide) rfl rfl rfl rfl hl.1 rfl (Nat.le_of_ble_eq_true rfl) d_Ch_apply_193 (fun H locs hO => ?_)
    refine lv_goto (tgt := 234) hx hb d_Ch_apply_196 (by decide) ?_
    exact ret hT hO d_Ch_apply_234
  have hT := qa_f hT h1_8
  by_cases h1_9 : x1 = 9
  · have hT := qa_t hT h1_9
    refine lv_tableIn (off := 227) (tgt := 228) hx hb d_Ch_apply_1 (by rw [h1_9]; decide) (by rw [h1_9]; decide) (by rw [h1_9]; rfl) (by decide) ?_
    refine lv_aload_n hx hb d_Ch_apply_228 rfl (lv_at hl 0 rfl) ?_
    refine lv_iload_n hx hb d_Ch_apply_229 rfl (lv_at hl 1 rfl) ?_
    refine lv_iload_n hx hb d_Ch_apply_230 rfl (lv_at hl 2 rfl) ?_
    obtain ⟨t231, ht231, hT⟩ := qa_b hT
    refine qa_Vv (As := [.int x1, .int x2]) (rest := []) (r := 72) S hK hN hA hO (xc_Ch_applyToObject l D cI cJ cF cZ ad g x1 x2) ht231 qy_Ch_applyToObject lm_Ch_148 ⟨by decide, by decide⟩ (by decide) rfl rfl rfl rfl hl.1 rfl (Nat.le_of_ble_eq_true rfl) d_Ch_apply_231 (fun H locs hO => ?_)
    exact ret hT hO d_Ch_apply_234
  have hT := qa_f hT h1_9
  by_cases h1_10 : x1 = 10
  · have hT := qa_t hT h1_10
    refine lv_tableIn (off := 198) (tgt := 199) hx hb d_Ch_apply_1 (by rw [h1_10]; decide) (by rw [h1_10]; decide) (by rw [h1_10]; rfl) (by decide) ?_
    refine lv_aload_n hx hb d_Ch_apply_199 rfl (lv_at hl 0 rfl) ?_
    refine lv_iconst (v := 1) hx hb d_Ch_apply_200 (by decide) ?_
    obtain ⟨t201, ht201, hT⟩ := qa_b hT
    refine qa_Vv (As := [.int (1 : Int32)]) (rest := []) (r := 72) S hK hN hA hO (xc_Ch_takeNumbers l D cI cJ cF cZ ad g (1 : Int32)) ht201 qy_Ch_takeNumbers lm_Ch_145 ⟨by decide, by decide⟩ (by decide) rfl rfl rfl rfl hl.1 rfl (Nat.le_of_ble_eq_true rfl) d_Ch_apply_201 (fun H locs hO => ?_)
    refine lv_goto (tgt := 234) hx hb d_Ch_apply_204 (by decide) ?_
    exact ret hT hO d_Ch_apply_234
  have hT := qa_f hT h1_10
  by_cases h1_11 : x1 = 11
  · have hT := qa_t hT h1_11
    refine lv_tableIn (off := 116) (tgt := 117) hx hb d_Ch_apply_1 (by rw [h1_11]; decide) (by rw [h1_11]; decide) (by rw [h1_11]; rfl) (by decide) ?_
    refine lv_aload_n hx hb d_Ch_apply_117 rfl (lv_at hl 0 rfl) ?_
    refine lv_iload_n hx hb d_Ch_apply_118 rfl (lv_at hl 2 rfl) ?_
    obtain ⟨t119, ht119, hT⟩ := qa_b hT
    refine qa_Vv (As := [.int x2]) (rest := []) (r := 72) S hK hN hA hO (xc_Ch_put l D cI cJ cF cZ ad g x2) ht119 qy_Ch_put lm_Ch_139 ⟨by decide, by decide⟩ (by decide) rfl rfl rfl rfl hl.1 rfl (Nat.le_of_ble_eq_true rfl) d_Ch_apply_119 (fun H locs hO => ?_)
    refine lv_goto (tgt := 234) hx hb d_Ch_apply_122 (by decide) ?_
    exact ret hT hO d_Ch_apply_234
  have hT := qa_f hT h1_11
  by_cases h1_12 : x1 = 12
  · have hT := qa_t hT h1_12
    refine lv_tableIn (off := 227) (tgt := 228) hx hb d_Ch_apply_1 (by rw [h1_12]; decide) (by rw [h1_12]; decide) (by rw [h1_12]; rfl) (by decide) ?_
    refine lv_aload_n hx hb d_Ch_apply_228 rfl (lv_at hl 0 rfl) ?_
    refine lv_iload_n hx hb d_Ch_apply_229 rfl (lv_at hl 1 rfl) ?_
    refine lv_iload_n hx hb d_Ch_apply_230 rfl (lv_at hl 2 rfl) ?_
    obtain ⟨t231, ht231, hT⟩ := qa_b hT
    refine qa_Vv (As := [.int x1, .int x2]) (rest := []) (r := 72) S hK hN hA hO (xc_Ch_applyToObject l D cI cJ cF cZ ad g x1 x2) ht231 qy_Ch_applyToObject lm_Ch_148 ⟨by decide, by decide⟩ (by decide) rfl rfl rfl rfl hl.1 rfl (Nat.le_of_ble_eq_true rfl) d_Ch_apply_231 (fun H locs hO => ?_)
    exact ret hT hO d_Ch_apply_234
  have hT := qa_f hT h1_12
  by_cases h1_13 : x1 = 13
  · have hT := qa_t hT h1_13
    refine lv_tableIn (off := 227) (tgt := 228) hx hb d_Ch_apply_1 (by rw [h1_13]; decide) (by rw [h1_13]; decide) (by rw [h1_13]; rfl) (by decide) ?_
    refine lv_aload_n hx hb d_Ch_apply_228 rfl (lv_at hl 0 rfl) ?_
    refine lv_iload_n hx hb d_Ch_apply_229 rfl (lv_at hl 1 rfl) ?_
    refine lv_iload_n hx hb d_Ch_apply_230 rfl (lv_at hl 2 rfl) ?_
    obtain ⟨t231, ht231, hT⟩ := qa_b hT
    refine qa_Vv (As := [.int x1, .int x2]) (rest := []) (r := 72) S hK hN hA hO (xc_Ch_applyToObject l D cI cJ cF cZ ad g x1 x2) ht231 qy_Ch_applyToObject lm_Ch_148 ⟨by decide, by decide⟩ (by decide) rfl rfl rfl rfl hl.1 rfl (Nat.le_of_ble_eq_true rfl) d_Ch_apply_231 (fun H locs hO => ?_)
    exact ret hT hO d_Ch_apply_234
  have hT := qa_f hT h1_13
  by_cases h1_14 : x1 = 14
  · have hT := qa_t hT h1_14
    refine lv_tableIn (off := 107) (tgt := 108) hx hb d_Ch_apply_1 (by rw [h1_14]; decide) (by rw [h1_14]; decide) (by rw [h1_14]; rfl) (by decide) ?_
    refine lv_aload_n hx hb d_Ch_apply_108 rfl (lv_at hl 0 rfl) ?_
    refine lv_bipush (v := 9) hx hb d_Ch_apply_109 (by decide) ?_
    obtain ⟨t111, ht111, hT⟩ := qa_b hT
    refine qa_Vv (As := [.int (9 : Int32)]) (rest := []) (r := 72) S hK hN hA hO (xc_Ch_put l D cI cJ cF cZ ad g (9 : Int32)) ht111 qy_Ch_put lm_Ch_139 ⟨by decide, by decide⟩ (by decide) rfl rfl rfl rfl hl.1 rfl (Nat.le_of_ble_eq_true rfl) d_Ch_apply_111 (fun H locs hO => ?_)
    refine lv_goto (tgt := 234) hx hb d_Ch_apply_114 (by decide) ?_
    exact ret hT hO d_Ch_apply_234
  have hT := qa_f hT h1_14
  by_cases h1_15 : x1 = 15
  · have hT := qa_t hT h1_15
    refine lv_tableIn (off := 198) (tgt := 199) hx hb d_Ch_apply_1 (by rw [h1_15]; decide) (by rw [h1_15]; decide) (by rw [h1_15]; rfl) (by decide) ?_
    refine lv_aload_n hx hb d_Ch_apply_199 rfl (lv_at hl 0 rfl) ?_
    refine lv_iconst (v := 1) hx hb d_Ch_apply_200 (by decide) ?_
    obtain ⟨t201, ht201, hT⟩ := qa_b hT
    refine qa_Vv (As := [.int (1 : Int32)]) (rest := []) (r := 72) S hK hN hA hO (xc_Ch_takeNumbers l D cI cJ cF cZ ad g (1 : Int32)) ht201 qy_Ch_takeNumbers lm_Ch_145 ⟨by decide, by decide⟩ (by decide) rfl rfl rfl rfl hl.1 rfl (Nat.le_of_ble_eq_true rfl) d_Ch_apply_201 (fun H locs hO => ?_)
    refine lv_goto (tgt := 234) hx hb d_Ch_apply_204 (by decide) ?_
    exact ret hT hO d_Ch_apply_234
  have hT := qa_f hT h1_15
  by_cases h1_16 : x1 = 16
  · have hT := qa_t hT h1_16
    refine lv_tableIn (off := 206) (tgt := 207) hx hb d_Ch_apply_1 (by rw [h1_16]; decide) (by rw [h1_16]; decide) (by rw [h1_16]; rfl) (by decide) ?_
    refine lv_aload_n hx hb d_Ch_apply_207 rfl (lv_at hl 0 rfl) ?_
    refine lv_aload_n hx hb d_Ch_apply_208 rfl (lv_at hl 0 rfl) ?_
    refine qa_get S hK hO hi_Ch 72 (by decide) rfl rfl 0 (by decide) lf_Ch_25 rfl rfl d_Ch_apply_209 ?_
    refine lv_iload_n hx hb d_Ch_apply_212 rfl (lv_at hl 2 rfl) ?_
    obtain ⟨t213, ht213, hT⟩ := qa_b hT
    refine qa_Vi (As := [.int x2]) (rest := [.ref (ad 72)]) (r := 1) S hK hN hA hO (xc_Pr_inputsOf l D cI cJ cF cZ ad g x2) ht213 qy_Pr_inputsOf lm_Ch_77 ⟨by decide, by decide⟩ (by decide) rfl rfl rfl rfl hl.1 rfl (Nat.le_of_ble_eq_true rfl) d_Ch_apply_213 (fun H locs hO => ?_)
    obtain ⟨t216, ht216, hT⟩ := qa_b hT
    refine qa_Vv (As := [.int t213.1]) (rest := []) (r := 72) S hK hN hA hO (xc_Ch_takeNumbers l D cI cJ cF cZ ad t213.2 t213.1) ht216 qy_Ch_takeNumbers lm_Ch_145 ⟨by decide, by decide⟩ (by decide) rfl rfl rfl rfl hl.1 rfl (Nat.le_of_ble_eq_true rfl) d_Ch_apply_216 (fun H locs hO => ?_)
    refine lv_aload_n hx hb d_Ch_apply_219 rfl (lv_at hl 0 rfl) ?_
    refine lv_bipush (v := 9) hx hb d_Ch_apply_220 (by decide) ?_
    obtain ⟨t222, ht222, hT⟩ := qa_b hT
    refine qa_Vv (As := [.int (9 : Int32)]) (rest := []) (r := 72) S hK hN hA hO (xc_Ch_put l D cI cJ cF cZ ad t216.2 (9 : Int32)) ht222 qy_Ch_put lm_Ch_139 ⟨by decide, by decide⟩ (by decide) rfl rfl rfl rfl hl.1 rfl (Nat.le_of_ble_eq_true rfl) d_Ch_apply_222 (fun H locs hO => ?_)
    refine lv_goto (tgt := 234) hx hb d_Ch_apply_225 (by decide) ?_
    exact ret hT hO d_Ch_apply_234
  have hT := qa_f hT h1_16
  by_cases h1_17 : x1 = 17
  · have hT := qa_t hT h1_17
    refine lv_tableIn (off := 227) (tgt := 228) hx hb d_Ch_apply_1 (by rw [h1_17]; decide) (by rw [h1_17]; decide) (by rw [h1_17]; rfl) (by decide) ?_
    refine lv_aload_n hx hb d_Ch_apply_228 rfl (lv_at hl 0 rfl) ?_
    refine lv_iload_n hx hb d_Ch_apply_229 rfl (lv_at hl 1 rfl) ?_
    refine lv_iload_n hx hb d_Ch_apply_230 rfl (lv_at hl 2 rfl) ?_
    obtain ⟨t231, ht231, hT⟩ := qa_b hT
    refine qa_Vv (As := [.int x1, .int x2]) (rest := []) (r := 72) S hK hN hA hO (xc_Ch_applyToObject l D cI cJ cF cZ ad g x1 x2) ht231 qy_Ch_applyToObject lm_Ch_148 ⟨by decide, by decide⟩ (by decide) rfl rfl rfl rfl hl.1 rfl (Nat.le_of_ble_eq_true rfl) d_Ch_apply_231 (fun H locs hO => ?_)
    exact ret hT hO d_Ch_apply_234
  have hT := qa_f hT h1_17
  by_cases h1_18 : x1 = 18
  · have hT := qa_t hT h1_18
    refine lv_tableIn (off := 227) (tgt := 228) hx hb d_Ch_apply_1 (by rw [h1_18]; decide) (by rw [h1_18]; decide) (by rw [h1_18]; rfl) (by decide) ?_
    refine lv_aload_n hx hb d_Ch_apply_228 rfl (lv_at hl 0 rfl) ?_
    refine lv_iload_n hx hb d_Ch_apply_229 rfl (lv_at hl 1 rfl) ?_
    refine lv_iload_n hx hb d_Ch_apply_230 rfl (lv_at hl 2 rfl) ?_
    obtain ⟨t231, ht231, hT⟩ := qa_b hT
    refine qa_Vv (As := [.int x1, .int x2]) (rest := []) (r := 72) S hK hN hA hO (xc_Ch_applyToObject l D cI cJ cF cZ ad g x1 x2) ht231 qy_Ch_applyToObject lm_Ch_148 ⟨by decide, by decide⟩ (by decide) rfl rfl rfl rfl hl.1 rfl (Nat.le_of_ble_eq_true rfl) d_Ch_apply_231 (fun H locs hO => ?_)
    exact ret hT hO d_Ch_apply_234
  have hT := qa_f hT h1_18
  by_cases h1_19 : x1 = 19
  · have hT := qa_t hT h1_19
    refine lv_tableIn (off := 227) (tgt := 228) hx hb d_Ch_apply_1 (by rw [h1_19]; decide) (by rw [h1_19]; decide) (by rw [h1_19]; rfl) (by decide) ?_
    refine lv_aload_n hx hb d_Ch_apply_228 rfl (lv_at hl 0 rfl) ?_
    refine lv_iload_n hx hb d_Ch_apply_229 rfl (lv_at hl 1 rfl) ?_
    refine lv_iload_n hx hb d_Ch_apply_230 rfl (lv_at hl 2 rfl) ?_
    obtain ⟨t231, ht231, hT⟩ := qa_b hT
    refine qa_Vv (As := [.int x1, .int x2]) (rest := []) (r := 72) S hK hN hA hO (xc_Ch_applyToObject l D cI cJ cF cZ ad g x1 x2) ht231 qy_Ch_applyToObject lm_Ch_148 ⟨by decide, by decide⟩ (by decide) rfl rfl rfl rfl hl.1 rfl (Nat.le_of_ble_eq_true rfl) d_Ch_apply_231 (fun H locs hO => ?_)
    exact ret hT hO d_Ch_apply_234
  have hT := qa_f hT h1_19
  by_cases h1_20 : x1 = 20
  · have hT := qa_t hT h1_20
    refine lv_tableIn (off := 198) (tgt := 199) hx hb d_Ch_apply_1 (by rw [h1_20]; decide) (by rw [h1_20]; decide) (by rw [h1_20]; rfl) (by decide) ?_
    refine lv_aload_n hx hb d_Ch_apply_199 rfl (lv_at hl 0 rfl) ?_
    refine lv_iconst (v := 1) hx hb d_Ch_apply_200 (by decide) ?_
    obtain ⟨t201, ht201, hT⟩ := qa_b hT
    refine qa_Vv (As := [.int (1 : Int32)]) (rest := []) (r := 72) S hK hN hA hO (xc_Ch_takeNumbers l D cI cJ cF cZ ad g (1 : Int32)) ht201 qy_Ch_takeNumbers lm_Ch_145 ⟨by decide, by decide⟩ (by decide) rfl rfl rfl rfl hl.1 rfl (Nat.le_of_ble_eq_true rfl) d_Ch_apply_201 (fun H locs hO => ?_)
    refine lv_goto (tgt := 234) hx hb d_Ch_apply_204 (by decide) ?_
    exact ret hT hO d_Ch_apply_234
  have hT := qa_f hT h1_20
  by_cases h1_21 : x1 = 21
  · have hT := qa_t hT h1_21
    refine lv_tableIn (off := 198) (tgt := 199) hx hb d_Ch_apply_1 (by rw [h1_21]; decide) (by rw [h1_21]; decide) (by rw [h1_21]; rfl) (by decide) ?_
    refine lv_aload_n hx hb d_Ch_apply_199 rfl (lv_at hl 0 rfl) ?_
    refine lv_iconst (v := 1) hx hb d_Ch_apply_200 (by decide) ?_
    obtain ⟨t201, ht201, hT⟩ := qa_b hT
    refine qa_Vv (As := [.int (1 : Int32)]) (rest := []) (r := 72) S hK hN hA hO (xc_Ch_takeNumbers l D cI cJ cF cZ ad g (1 : Int32)) ht201 qy_Ch_takeNumbers lm_Ch_145 ⟨by decide, by decide⟩ (by decide) rfl rfl rfl rfl hl.1 rfl (Nat.le_of_ble_eq_true rfl) d_Ch_apply_201 (fun H locs hO => ?_)
    refine lv_goto (tgt := 234) hx hb d_Ch_apply_204 (by decide) ?_
    exact ret hT hO d_Ch_apply_234
  have hT := qa_f hT h1_21
  by_cases h1_22 : x1 = 22
  · have hT := qa_t hT h1_22
    refine lv_tableIn (off := 198) (tgt := 199) hx hb d_Ch_apply_1 (by rw [h1_22]; decide) (by rw [h1_22]; decide) (by rw [h1_22]; rfl) (by decide) ?_
    refine lv_aload_n hx hb d_Ch_apply_199 rfl (lv_at hl 0 rfl) ?_
    refine lv_iconst (v := 1) hx hb d_Ch_apply_200 (by decide) ?_
    obtain ⟨t201, ht201, hT⟩ := qa_b hT
    refine qa_Vv (As := [.int (1 : Int32)]) (rest := []) (r := 72) S hK hN hA hO (xc_Ch_takeNumbers l D cI cJ cF cZ ad g (1 : Int32)) ht201 qy_Ch_takeNumbers lm_Ch_145 ⟨by decide, by decide⟩ (by decide) rfl rfl rfl rfl hl.1 rfl (Nat.le_of_ble_eq_true rfl) d_Ch_apply_201 (fun H locs hO => ?_)
    refine lv_goto (tgt := 234) hx hb d_Ch_apply_204 (by decide) ?_
    exact ret hT hO d_Ch_apply_234
  have hT := qa_f hT h1_22
  have z0 : x1.toInt ≠ 0 := qa_ne h1_0 (by decide)
  have z1 : x1.toInt ≠ 1 := qa_ne h1_1 (by decide)
  have z2 : x1.toInt ≠ 2 := qa_ne h1_2 (by decide)
  have z3 : x1.toInt ≠ 3 := qa_ne h1_3 (by decide)
  have z4 : x1.toInt ≠ 4 := qa_ne h1_4 (by decide)
  have z5 : x1.toInt ≠ 5 := qa_ne h1_5 (by decide)
  have z6 : x1.toInt ≠ 6 := qa_ne h1_6 (by decide)
  have z7 : x1.toInt ≠ 7 := qa_ne h1_7 (by decide)
  have z8 : x1.toInt ≠ 8 := qa_ne h1_8 (by decide)
  have z9 : x1.toInt ≠ 9 := qa_ne h1_9 (by decide)
  have z10 : x1.toInt ≠ 10 := qa_ne h1_10 (by decide)
  have z11 : x1.toInt ≠ 11 := qa_ne h1_11 (by decide)
  have z12 : x1.toInt ≠ 12 := qa_ne h1_12 (by decide)
  have z13 : x1.toInt ≠ 13 := qa_ne h1_13 (by decide)
  have z14 : x1.toInt ≠ 14 := qa_ne h1_14 (by decide)
  have z15 : x1.toInt ≠ 15 := qa_ne h1_15 (by decide)
  have z16 : x1.toInt ≠ 16 := qa_ne h1_16 (by decide)
  have z17 : x1.toInt ≠ 17 := qa_ne h1_17 (by decide)
  have z18 : x1.toInt ≠ 18 := qa_ne h1_18 (by decide)
  have z19 : x1.toInt ≠ 19 := qa_ne h1_19 (by decide)
  have z20 : x1.toInt ≠ 20 := qa_ne h1_20 (by decide)
  have z21 : x1.toInt ≠ 21 := qa_ne h1_21 (by decide)
  have z22 : x1.toInt ≠ 22 := qa_ne h1_22 (by decide)
  refine lv_tableOut (tgt := 228) hx hb d_Ch_apply_1 (by omega) (by decide) ?_
  refine lv_aload_n hx hb d_Ch_apply_228 rfl (lv_at hl 0 rfl) ?_
  refine lv_iload_n hx hb d_Ch_apply_229 rfl (lv_at hl 1 rfl) ?_
  refine lv_iload_n hx hb d_Ch_apply_230 rfl (lv_at hl 2 rfl) ?_
  obtain ⟨t231, ht231, hT⟩ := qa_b hT
  refine qa_Vv (As := [.int x1, .int x2]) (rest := []) (r := 72) S hK hN hA hO (xc_Ch_applyToObject l D cI cJ cF cZ ad g x1 x2) ht231 qy_Ch_applyToObject lm_Ch_148 ⟨by decide, by decide⟩ (by decide) rfl rfl rfl rfl hl.1 rfl (Nat.le_of_ble_eq_true rfl) d_Ch_apply_231 (fun H locs hO => ?_)
  exact ret hT hO d_Ch_apply_234
def xf_Ch_visit_109 (g : qa_St) (x1 : Int32) (x3 : Int32) : qa_Re := (if x3 = (9 : Int32) then (some (0, g)) else (if x3 = (21 : Int32) then (some (0, g)) else (if x3 = (22 : Int32) then (some (0, g)) else ((xf_Ch_arriveAt g (x1 + (1 : Int32))).bind fun t131 => (some (0, t131.2))))))
def xf_Ch_visit_103 (g : qa_St) (x1 : Int32) (x3 : Int32) (x4 : Int32) : qa_Re := ((xf_Ch_arriveAt g x4).bind fun t106 => (xf_Ch_visit_109 t106.2 x1 x3))
def xf_Ch_visit_52 (g : qa_St) (x1 : Int32) : qa_Re := ((xf_Ch_recall g x1).bind fun t54 => ((xf_Pr_opOf t54.2 (t54.2 72 4) x1).bind fun t66 => ((xf_Pr_operandOf t66.2 (t66.2 72 4) x1).bind fun t79 => ((xf_Ch_apply t79.2 t66.1 t79.1).bind fun t88 => (if t66.1 = (9 : Int32) then (xf_Ch_visit_103 t88.2 x1 t66.1 t79.1) else (if t66.1 = (10 : Int32) then (xf_Ch_visit_103 t88.2 x1 t66.1 t79.1) else (xf_Ch_visit_109 t88.2 x1 t66.1)))))))
def xf_Ch_visit_22 (g : qa_St) (x1 : Int32) (s0 : Int32) : qa_Re := ((xf_Pr_handlerOf g s0 x1).bind fun t23 => (if t23.1 = (-1 : Int32) then (xf_Ch_visit_52 t23.2 x1) else ((xf_Ch_recall t23.2 x1).bind fun t34 => ((xf_Fr_goOnWith t34.2 75 t23.1 (9 : Int32)).bind fun t44 => ((xf_Ch_arriveAt t44.2 t23.1).bind fun t49 => (xf_Ch_visit_52 t49.2 x1))))))
def xf_Ch_visit (g : qa_St) (x1 : Int32) : qa_Re := (xf_Ch_visit_22 (qa_up g 72 5 ((g 72 5) &&& (((1 : Int32) <<< (x1 &&& 31)) ^^^ (-1 : Int32)))) x1 ((qa_up g 72 5 ((g 72 5) &&& (((1 : Int32) <<< (x1 &&& 31)) ^^^ (-1 : Int32)))) 72 4))
set_option maxHeartbeats 4000000 in
set_option maxRecDepth 100000 in
theorem xc_Ch_visit (l : Launch) (D : va_G) (cI cJ cF cZ : ClassId) (ad : Nat → Nat) (g : qa_St) (x1 : Int32) : qa_Mv l y_Ch_visit (qa_ws y_Ch_visit b_Ch_visit 5 none) (qa_rm 5 115) D (qa_ty cI cJ cF cZ) 107 ad (xe_en cI cJ cF ad) [.ref (ad 72), .int x1] g (xf_Ch_visit g x1) := by
  refine qa_metv (by decide) (Nat.le_of_ble_eq_true rfl) ?_
  intro p e s m args below meth c Q A T S hK hN hA hT ret ls hl hO
  have hx := S.1
  have hb := S.2.1
  have hl : lv_has ls 5 [(0, .ref (ad 72)), (1, .int x1)] := hl
  have b109 : ∀ (g : qa_St) (x1 : Int32) (x3 : Int32) (ls : Array Slot) (H : Heap) (locs : List Loc), lv_has ls 5 [(0, .ref (ad 72)), (1, .int x1), (3, .int x3)] → qa_O D 107 ad (xe_en cI cJ cF ad) A s.heap g H locs → xf_Ch_visit_109 g x1 x3 = some T → W p l e (qa_rm 5 115) s m args below meth c H locs 0 0 Q (F0 m 109 ls []) := by
    intro g x1 x3 ls H locs hl hO hT
    unfold xf_Ch_visit_109 at hT
    refine lv_iload_n hx hb d_Ch_visit_109 rfl (lv_at hl 2 rfl) ?_
    refine lv_bipush (v := 9) hx hb d_Ch_visit_110 (by decide) ?_
    refine lv_icmp_eq (tgt := 134) hx hb d_Ch_visit_112 (by decide) (fun h => ?_) (fun h => ?_)
    · have hT := qa_t hT h
      exact ret hT hO d_Ch_visit_134
    · have hT := qa_f hT h
      refine lv_iload_n hx hb d_Ch_visit_115 rfl (lv_at hl 2 rfl) ?_
      refine lv_bipush (v := 21) hx hb d_Ch_visit_116 (by decide) ?_
      refine lv_icmp_eq (tgt := 134) hx hb d_Ch_visit_118 (by decide) (fun h => ?_) (fun h => ?_)
      · have hT := qa_t hT h
        exact ret hT hO d_Ch_visit_134
      · have hT := qa_f hT h
        refine lv_iload_n hx hb d_Ch_visit_121 rfl (lv_at hl 2 rfl) ?_
        refine lv_bipush (v := 22) hx hb d_Ch_visit_122 (by decide) ?_
        refine lv_icmp_eq (tgt := 134) hx hb d_Ch_visit_124 (by decide) (fun h => ?_) (fun h => ?_)
        · have hT := qa_t hT h
          exact ret hT hO d_Ch_visit_134
        · have hT := qa_f hT h
          refine lv_aload_n hx hb d_Ch_visit_127 rfl (lv_at hl 0 rfl) ?_
          refine lv_iload_n hx hb d_Ch_visit_128 rfl (lv_at hl 1 rfl) ?_
          refine lv_iconst (v := 1) hx hb d_Ch_visit_129 (by decide) ?_
          refine lv_iadd hx hb d_Ch_visit_130 ?_
          obtain ⟨t131, ht131, hT⟩ := qa_b hT
          refine qa_Vv (As := [.int (x1 + (1 : Int32))]) (rest := []) (r := 72) S hK hN hA hO (xc_Ch_arriveAt l D cI cJ cF cZ ad g (x1 + (1 : Int32))) ht131 qy_Ch_arriveAt lm_Ch_91 ⟨by decide, by decide⟩ (by decide) rfl rfl rfl rfl hl.1 rfl (Nat.le_of_ble_eq_true rfl) d_Ch_visit_131 (fun H locs hO => ?_)
          exact ret hT hO d_Ch_visit_134
  have b103 : ∀ (g : qa_St) (x1 : Int32) (x3 : Int32) (x4 : Int32) (ls : Array Slot) (H : Heap) (locs : List Loc), lv_has ls 5 [(0, .ref (ad 72)), (1, .int x1), (3, .int x3), (4, .int x4)] → qa_O D 107 ad (xe_en cI cJ cF ad) A s.heap g H locs → xf_Ch_visit_103 g x1 x3 x4 = some T → W p l e (qa_rm 5 115) s m args below meth c H locs 0 0 Q (F0 m 103 ls []) := by
    intro g x1 x3 x4 ls H locs hl hO hT
    unfold xf_Ch_visit_103 at hT
    refine lv_aload_n hx hb d_Ch_visit_103 rfl (lv_at hl 0 rfl) ?_
    refine lv_iload hx hb d_Ch_visit_104 (lv_at hl 3 rfl) ?_
    obtain ⟨t106, ht106, hT⟩ := qa_b hT
    refine qa_Vv (As := [.int x4]) (rest := []) (r := 72) S hK hN hA hO (xc_Ch_arriveAt l D cI cJ cF cZ ad g x4) ht106 qy_Ch_arriveAt lm_Ch_91 ⟨by decide, by decide⟩ (by decide) rfl rfl rfl rfl hl.1 rfl (Nat.le_of_ble_eq_true rfl) d_Ch_visit_106 (fun H locs hO => ?_)
    exact b109 t106.2 x1 x3 _ _ _ (lv_sub hl [0, 1, 2] rfl) hO hT
  have b52 : ∀ (g : qa_St) (x1 : Int32) (ls : Array Slot) (H : Heap) (locs : List Loc), lv_has ls 5 [(0, .ref (ad 72)), (1, .int x1)] → qa_O D 107 ad (xe_en cI cJ cF ad) A s.heap g H locs → xf_Ch_visit_52 g x1 = some T → W p l e (qa_rm 5 115) s m args below meth c H locs 0 0 Q (F0 m 52 ls []) := by
    intro g x1 ls H locs hl hO hT
    unfold xf_Ch_visit_52 at hT
    refine lv_aload_n hx hb d_Ch_visit_52 rfl (lv_at hl 0 rfl) ?_
    refine lv_iload_n hx hb d_Ch_visit_53 rfl (lv_at hl 1 rfl) ?_
    obtain ⟨t54, ht54, hT⟩ := qa_b hT
    refine qa_Vv (As := [.int x1]) (rest := []) (r := 72) S hK hN hA hO (xc_Ch_recall l D cI cJ cF cZ ad g x1) ht54 qy_Ch_recall lm_Ch_100 ⟨by decide, by decide⟩ (by decide) rfl rfl rfl rfl hl.1 rfl (Nat.le_of_ble_eq_true rfl) d_Ch_visit_54 (fun H locs hO => ?_)
    refine lv_aload_n hx hb d_Ch_visit_57 rfl (lv_at hl 0 rfl) ?_
    refine qa_get S hK hO hi_Ch 72 (by decide) rfl rfl 0 (by decide) lf_Ch_25 rfl rfl d_Ch_visit_58 ?_
    refine lv_aload_n hx hb d_Ch_visit_61 rfl (lv_at hl 0 rfl) ?_
    refine qa_get S hK hO hi_Ch 72 (by decide) rfl rfl 4 (by decide) lf_Ch_29 rfl rfl d_Ch_visit_62 ?_
    refine lv_iload_n hx hb d_Ch_visit_65 rfl (lv_at hl 1 rfl) ?_
    obtain ⟨t66, ht66, hT⟩ := qa_b hT
    refine qa_Vi (As := [.int (t54.2 72 4), .int x1]) (rest := []) (r := 1) S hK hN hA hO (xc_Pr_opOf l D cI cJ cF cZ ad t54.2 (t54.2 72 4) x1) ht66 qy_Pr_opOf lm_Ch_106 ⟨by decide, by decide⟩ (by decide) rfl rfl rfl rfl hl.1 rfl (Nat.le_of_ble_eq_true rfl) d_Ch_visit_66 (fun H locs hO => ?_)
    refine lv_istore_n (lv' := [(3, .int t66.1), (0, .ref (ad 72)), (1, .int x1)]) hx hb d_Ch_visit_69 rfl hl (by decide) rfl (fun ls hl => ?_)
    refine lv_aload_n hx hb d_Ch_visit_70 rfl (lv_at hl 1 rfl) ?_
    refine qa_get S hK hO hi_Ch 72 (by decide) rfl rfl 0 (by decide) lf_Ch_25 rfl rfl d_Ch_visit_71 ?_
    refine lv_aload_n hx hb d_Ch_visit_74 rfl (lv_at hl 1 rfl) ?_
    refine qa_get S hK hO hi_Ch 72 (by decide) rfl rfl 4 (by decide) lf_Ch_29 rfl rfl d_Ch_visit_75 ?_
    refine lv_iload_n hx hb d_Ch_visit_78 rfl (lv_at hl 2 rfl) ?_
    obtain ⟨t79, ht79, hT⟩ := qa_b hT
    refine qa_Vi (As := [.int (t66.2 72 4), .int x1]) (rest := []) (r := 1) S hK hN hA hO (xc_Pr_operandOf l D cI cJ cF cZ ad t66.2 (t66.2 72 4) x1) ht79 qy_Pr_operandOf lm_Ch_109 ⟨by decide, by decide⟩ (by decide) rfl rfl rfl rfl hl.1 rfl (Nat.le_of_ble_eq_true rfl) d_Ch_visit_79 (fun H locs hO => ?_)
    refine lv_istore (lv' := [(4, .int t79.1), (3, .int t66.1), (0, .ref (ad 72)), (1, .int x1)]) hx hb d_Ch_visit_82 hl (by decide) rfl (fun ls hl => ?_)
    refine lv_aload_n hx hb d_Ch_visit_84 rfl (lv_at hl 2 rfl) ?_
    refine lv_iload_n hx hb d_Ch_visit_85 rfl (lv_at hl 1 rfl) ?_
    refine lv_iload hx hb d_Ch_visit_86 (lv_at hl 0 rfl) ?_
    obtain ⟨t88, ht88, hT⟩ := qa_b hT
    refine qa_Vv (As := [.int t66.1, .int t79.1]) (rest := []) (r := 72) S hK hN hA hO (xc_Ch_apply l D cI cJ cF cZ ad t79.2 t66.1 t79.1) ht88 qy_Ch_apply lm_Ch_112 ⟨by decide, by decide⟩ (by decide) rfl rfl rfl rfl hl.1 rfl (Nat.le_of_ble_eq_true rfl) d_Ch_visit_88 (fun H locs hO => ?_)
    refine lv_iload_n hx hb d_Ch_visit_91 rfl (lv_at hl 1 rfl) ?_
    refine lv_bipush (v := 9) hx hb d_Ch_visit_92 (by decide) ?_
    refine lv_icmp_eq (tgt := 103) hx hb d_Ch_visit_94 (by decide) (fun h => ?_) (fun h => ?_)
    · have hT := qa_t hT h
      exact b103 t88.2 x1 t66.1 t79.1 _ _ _ (lv_sub hl [2, 3, 1, 0] rfl) hO hT
    · have hT := qa_f hT h
      refine lv_iload_n hx hb d_Ch_visit_97 rfl (lv_at hl 1 rfl) ?_
      refine lv_bipush (v := 10) hx hb d_Ch_visit_98 (by decide) ?_
      refine lv_icmp_ne (tgt := 109) hx hb d_Ch_visit_100 (by decide) (fun h => ?_) (fun h => ?_)
      · have hT := qa_f hT h
        exact b109 t88.2 x1 t66.1 _ _ _ (lv_sub hl [2, 3, 1] rfl) hO hT
      · have hT := qa_t hT h
        exact b103 t88.2 x1 t66.1 t79.1 _ _ _ (lv_sub hl [2, 3, 1, 0] rfl) hO hT
  have b22 : ∀ (g : qa_St) (x1 : Int32) (s0 : Int32) (ls : Array Slot) (H : Heap) (locs : List Loc), lv_has ls 5 [(0, .ref (ad 72)), (1, .int x1)] → qa_O D 107 ad (xe_en cI cJ cF ad) A s.heap g H locs → xf_Ch_visit_22 g x1 s0 = some T → W p l e (qa_rm 5 115) s m args below meth c H locs 0 0 Q (F0 m 22 ls [.int s0, .ref (ad 1)]) := by
    intro g x1 s0 ls H locs hl hO hT
    unfold xf_Ch_visit_22 at hT
    refine lv_iload_n hx hb d_Ch_visit_22 rfl (lv_at hl 1 rfl) ?_
    obtain ⟨t23, ht23, hT⟩ := qa_b hT
    refine qa_Vi (As := [.int s0, .int x1]) (rest := []) (r := 1) S hK hN hA hO (xc_Pr_handlerOf l D cI cJ cF cZ ad g s0 x1) ht23 qy_Pr_handlerOf lm_Ch_97 ⟨by decide, by decide⟩ (by decide) rfl rfl rfl rfl hl.1 rfl (Nat.le_of_ble_eq_true rfl) d_Ch_visit_23 (fun H locs hO => ?_)
    refine lv_istore_n (lv' := [(2, .int t23.1), (0, .ref (ad 72)), (1, .int x1)]) hx hb d_Ch_visit_26 rfl hl (by decide) rfl (fun ls hl => ?_)
    refine lv_iload_n hx hb d_Ch_visit_27 rfl (lv_at hl 0 rfl) ?_
    refine lv_iconst (v := -1) hx hb d_Ch_visit_28 (by decide) ?_
    refine lv_icmp_eq (tgt := 52) hx hb d_Ch_visit_29 (by decide) (fun h => ?_) (fun h => ?_)
    · have hT := qa_t hT h
      exact b52 t23.2 x1 _ _ _ (lv_sub hl [1, 2] rfl) hO hT
    · have hT := qa_f hT h
      refine lv_aload_n hx hb d_Ch_visit_32 rfl (lv_at hl 1 rfl) ?_
      refine lv_iload_n hx hb d_Ch_visit_33 rfl (lv_at hl 2 rfl) ?_
      obtain ⟨t34, ht34, hT⟩ := qa_b hT
      refine qa_Vv (As := [.int x1]) (rest := []) (r := 72) S hK hN hA hO (xc_Ch_recall l D cI cJ cF cZ ad t23.2 x1) ht34 qy_Ch_recall lm_Ch_100 ⟨by decide, by decide⟩ (by decide) rfl rfl rfl rfl hl.1 rfl (Nat.le_of_ble_eq_true rfl) d_Ch_visit_34 (fun H locs hO => ?_)
      refine lv_aload_n hx hb d_Ch_visit_37 rfl (lv_at hl 1 rfl) ?_
      refine qa_get S hK hO hi_Ch 72 (by decide) rfl rfl 3 (by decide) lf_Ch_21 rfl rfl d_Ch_visit_38 ?_
      refine lv_iload_n hx hb d_Ch_visit_41 rfl (lv_at hl 0 rfl) ?_
      refine lv_bipush (v := 9) hx hb d_Ch_visit_42 (by decide) ?_
      obtain ⟨t44, ht44, hT⟩ := qa_b hT
      refine qa_Vv (As := [.int t23.1, .int (9 : Int32)]) (rest := []) (r := 75) S hK hN hA hO (xc_Fr_goOnWith l D cI cJ cF cZ ad t34.2 75 t23.1 (9 : Int32) xe_F75) ht44 qy_Fr_goOnWith lm_Ch_103 ⟨by decide, by decide⟩ (xe_Flt xe_F75) (xe_fr xe_F75 _) rfl rfl rfl hl.1 rfl (Nat.le_of_ble_eq_true rfl) d_Ch_visit_44 (fun H locs hO => ?_)
      refine lv_aload_n hx hb d_Ch_visit_47 rfl (lv_at hl 1 rfl) ?_
      refine lv_iload_n hx hb d_Ch_visit_48 rfl (lv_at hl 0 rfl) ?_
      obtain ⟨t49, ht49, hT⟩ := qa_b hT
      refine qa_Vv (As := [.int t23.1]) (rest := []) (r := 72) S hK hN hA hO (xc_Ch_arriveAt l D cI cJ cF cZ ad t44.2 t23.1) ht49 qy_Ch_arriveAt lm_Ch_91 ⟨by decide, by decide⟩ (by decide) rfl rfl rfl rfl hl.1 rfl (Nat.le_of_ble_eq_true rfl) d_Ch_visit_49 (fun H locs hO => ?_)
      exact b52 t49.2 x1 _ _ _ (lv_sub hl [1, 2] rfl) hO hT
  unfold xf_Ch_visit at hT
  refine lv_aload_n hx hb d_Ch_visit_0 rfl (lv_at hl 0 rfl) ?_
  refine lv_dup hx hb d_Ch_visit_1 rfl ?_
  refine qa_get S hK hO hi_Ch 72 (by decide) rfl rfl 5 (by decide) lf_Ch_33 rfl rfl d_Ch_visit_2 ?_
  refine lv_iconst (v := 1) hx hb d_Ch_visit_5 (by decide) ?_
  refine lv_iload_n hx hb d_Ch_visit_6 rfl (lv_at hl 1 rfl) ?_
  refine lv_ishl hx hb d_Ch_visit_7 ?_
  refine lv_iconst (v := -1) hx hb d_Ch_visit_8 (by decide) ?_
  refine lv_ixor hx hb d_Ch_visit_9 ?_
  refine lv_iand hx hb d_Ch_visit_10 ?_
  refine qa_put S hK hO hi_Ch t_Ch t_Ch_ok n_Ch 72 (by decide) rfl rfl 5 (by decide) lf_Ch_33 rfl rfl (ty := .int) (by decide +kernel) rfl rfl (Nat.le_of_ble_eq_true rfl) rfl d_Ch_visit_11 (fun H locs hO => ?_)
  refine lv_aload_n hx hb d_Ch_visit_14 rfl (lv_at hl 0 rfl) ?_
  refine qa_get S hK hO hi_Ch 72 (by decide) rfl rfl 0 (by decide) lf_Ch_25 rfl rfl d_Ch_visit_15 ?_
  refine lv_aload_n hx hb d_Ch_visit_18 rfl (lv_at hl 0 rfl) ?_
  refine qa_get S hK hO hi_Ch 72 (by decide) rfl rfl 4 (by decide) lf_Ch_29 rfl rfl d_Ch_visit_19 ?_
  exact b22 (qa_up g 72 5 ((g 72 5) &&& (((1 : Int32) <<< (x1 &&& 31)) ^^^ (-1 : Int32)))) x1 ((qa_up g 72 5 ((g 72 5) &&& (((1 : Int32) <<< (x1 &&& 31)) ^^^ (-1 : Int32)))) 72 4) _ _ _ (lv_sub hl [0, 1] rfl) hO hT
def xf_Ch_isSound_40 : Nat → qa_St → Int32 → qa_Re
  | 0, _, _ => none
  | n + 1, g, x2 => (if (2000 : Int32) ≤ x2 then (if (g 72 6) = 0 ∨ (g 72 6) = 1 then some ((g 72 6), g) else none) else (if (g 72 6) = 0 then (if (g 72 6) = 0 ∨ (g 72 6) = 1 then some ((g 72 6), g) else none) else (if (g 72 5) = 0 then (if (g 72 6) = 0 ∨ (g 72 6) = 1 then some ((g 72 6), g) else none) else ((xf_Ch_firstWaiting g).bind fun t63 => ((xf_Ch_visit t63.2 t63.1).bind fun t66 => ((xf_Ch_isSound_40 n) t66.2 (x2 + 1)))))))
def xf_Ch_isSound (g : qa_St) (x1 : Int32) : qa_Re := ((xf_Ch_rowOf (qa_up (qa_up (qa_up g 72 4 x1) 72 5 (0 : Int32)) 72 6 (1 : Int32)) x1 (0 : Int32)).bind fun t21 => ((xf_Ch_rowOf t21.2 x1 (20 : Int32)).bind fun t27 => ((xf_Ar_fill4 t27.2 74 200 t21.1 t27.1 (-1 : Int32)).bind fun t31 => ((xf_Ch_enterStart t31.2).bind fun t35 => (xf_Ch_isSound_40 4096 t35.2 (0 : Int32))))))
set_option maxHeartbeats 4000000 in
set_option maxRecDepth 100000 in
theorem xc_Ch_isSound (l : Launch) (D : va_G) (cI cJ cF cZ : ClassId) (ad : Nat → Nat) (g : qa_St) (x1 : Int32) : qa_Mi l y_Ch_isSound (qa_ws y_Ch_isSound b_Ch_isSound 3 (some .boolean)) (qa_rm 6 139) D (qa_ty cI cJ cF cZ) 107 ad (xe_en cI cJ cF ad) [.ref (ad 72), .int x1] g (xf_Ch_isSound g x1) := by
  refine qa_metz (by decide) (Nat.le_of_ble_eq_true rfl) ?_
  intro p e s m args below meth c Q A T S hK hN hA hT ret ls hl hO
  have hx := S.1
  have hb := S.2.1
  have hl : lv_has ls 3 [(0, .ref (ad 72)), (1, .int x1)] := hl
  have b40 : ∀ (n : Nat), ∀ (g : qa_St) (x2 : Int32) (ls : Array Slot) (H : Heap) (locs : List Loc), lv_has ls 3 [(0, .ref (ad 72)), (2, .int x2)] → qa_O D 107 ad (xe_en cI cJ cF ad) A s.heap g H locs → xf_Ch_isSound_40 n g x2 = some T → W p l e (qa_rm 6 139) s m args below meth c H locs 0 0 Q (F0 m 40 ls []) := by
    intro n
    induction n with
    | zero => intro g x2 ls H locs hl hO hT; rw [xf_Ch_isSound_40] at hT; cases hT
    | succ n ih =>
      intro g x2 ls H locs hl hO hT
      rw [xf_Ch_isSound_40] at hT
      refine lv_iload_n hx hb d_Ch_isSound_40 rfl (lv_at hl 1 rfl) ?_
      refine lv_sipush (v := 2000) hx hb d_Ch_isSound_41 (by decide) ?_
      refine lv_icmp_ge (tgt := 75) hx hb d_Ch_isSound_44 (by decide) (fun h => ?_) (fun h => ?_)
      · have hT := qa_t hT h
        refine lv_aload_n hx hb d_Ch_isSound_75 rfl (lv_at hl 0 rfl) ?_
        refine qa_get S hK hO hi_Ch 72 (by decide) rfl rfl 6 (by decide) lf_Ch_36 rfl rfl d_Ch_isSound_76 ?_
        obtain ⟨hz, hT⟩ := qa_k hT
        exact ret hz hT hO d_Ch_isSound_79
      · have hT := qa_f hT h
        refine lv_aload_n hx hb d_Ch_isSound_47 rfl (lv_at hl 0 rfl) ?_
        refine qa_get S hK hO hi_Ch 72 (by decide) rfl rfl 6 (by decide) lf_Ch_36 rfl rfl d_Ch_isSound_48 ?_
        refine lv_if_eq (tgt := 75) hx hb d_Ch_isSound_51 (by decide) (fun h => ?_) (fun h => ?_)
        · have hT := qa_t hT h
          refine lv_aload_n hx hb d_Ch_isSound_75 rfl (lv_at hl 0 rfl) ?_
          refine qa_get S hK hO hi_Ch 72 (by decide) rfl rfl 6 (by decide) lf_Ch_36 rfl rfl d_Ch_isSound_76 ?_
          obtain ⟨hz, hT⟩ := qa_k hT
          exact ret hz hT hO d_Ch_isSound_79
        · have hT := qa_f hT h
          refine lv_aload_n hx hb d_Ch_isSound_54 rfl (lv_at hl 0 rfl) ?_
          refine qa_get S hK hO hi_Ch 72 (by decide) rfl rfl 5 (by decide) lf_Ch_33 rfl rfl d_Ch_isSound_55 ?_
          refine lv_if_eq (tgt := 75) hx hb d_Ch_isSound_58 (by decide) (fun h => ?_) (fun h => ?_)
          · have hT := qa_t hT h
            refine lv_aload_n hx hb d_Ch_isSound_75 rfl (lv_at hl 0 rfl) ?_
            refine qa_get S hK hO hi_Ch 72 (by decide) rfl rfl 6 (by decide) lf_Ch_36 rfl rfl d_Ch_isSound_76 ?_
            obtain ⟨hz, hT⟩ := qa_k hT
            exact ret hz hT hO d_Ch_isSound_79
          · have hT := qa_f hT h
            refine lv_aload_n hx hb d_Ch_isSound_61 rfl (lv_at hl 0 rfl) ?_
            refine lv_aload_n hx hb d_Ch_isSound_62 rfl (lv_at hl 0 rfl) ?_
            obtain ⟨t63, ht63, hT⟩ := qa_b hT
            refine qa_Vi (As := []) (rest := [.ref (ad 72)]) (r := 72) S hK hN hA hO (xc_Ch_firstWaiting l D cI cJ cF cZ ad g) ht63 qy_Ch_firstWaiting lm_Ch_53 ⟨by decide, by decide⟩ (by decide) rfl rfl rfl rfl hl.1 rfl (Nat.le_of_ble_eq_true rfl) d_Ch_isSound_63 (fun H locs hO => ?_)
            obtain ⟨t66, ht66, hT⟩ := qa_b hT
            refine qa_Vv (As := [.int t63.1]) (rest := []) (r := 72) S hK hN hA hO (xc_Ch_visit l D cI cJ cF cZ ad t63.2 t63.1) ht66 qy_Ch_visit lm_Ch_57 ⟨by decide, by decide⟩ (by decide) rfl rfl rfl rfl hl.1 rfl (Nat.le_of_ble_eq_true rfl) d_Ch_isSound_66 (fun H locs hO => ?_)
            refine lv_iinc (lv' := [(2, .int (x2 + 1)), (0, .ref (ad 72))]) hx hb d_Ch_isSound_69 hl (k := 1) rfl (qa_o1 _) (by decide) rfl (fun ls hl => ?_)
            refine lv_goto (tgt := 40) hx hb d_Ch_isSound_72 (by decide) ?_
            exact ih t66.2 (x2 + 1) _ _ _ (lv_sub hl [1, 0] rfl) hO hT
  unfold xf_Ch_isSound at hT
  refine lv_aload_n hx hb d_Ch_isSound_0 rfl (lv_at hl 0 rfl) ?_
  refine lv_iload_n hx hb d_Ch_isSound_1 rfl (lv_at hl 1 rfl) ?_
  refine qa_put S hK hO hi_Ch t_Ch t_Ch_ok n_Ch 72 (by decide) rfl rfl 4 (by decide) lf_Ch_29 rfl rfl (ty := .int) (by decide +kernel) rfl rfl (Nat.le_of_ble_eq_true rfl) rfl d_Ch_isSound_2 (fun H locs hO => ?_)
  refine lv_aload_n hx hb d_Ch_isSound_5 rfl (lv_at hl 0 rfl) ?_
  refine lv_iconst (v := 0) hx hb d_Ch_isSound_6 (by decide) ?_
  refine qa_put S hK hO hi_Ch t_Ch t_Ch_ok n_Ch 72 (by decide) rfl rfl 5 (by decide) lf_Ch_33 rfl rfl (ty := .int) (by decide +kernel) rfl rfl (Nat.le_of_ble_eq_true rfl) rfl d_Ch_isSound_7 (fun H locs hO => ?_)
  refine lv_aload_n hx hb d_Ch_isSound_10 rfl (lv_at hl 0 rfl) ?_
  refine lv_iconst (v := 1) hx hb d_Ch_isSound_11 (by decide) ?_
  refine qa_put S hK hO hi_Ch t_Ch t_Ch_ok n_Ch 72 (by decide) rfl rfl 6 (by decide) lf_Ch_36 rfl rfl (ty := .boolean) (by decide +kernel) rfl rfl (Nat.le_of_ble_eq_true rfl) rfl d_Ch_isSound_12 (fun H locs hO => ?_)
  refine lv_aload_n hx hb d_Ch_isSound_15 rfl (lv_at hl 0 rfl) ?_
  refine qa_get S hK hO hi_Ch 72 (by decide) rfl rfl 2 (by decide) lf_Ch_15 rfl rfl d_Ch_isSound_16 ?_
  refine lv_iload_n hx hb d_Ch_isSound_19 rfl (lv_at hl 1 rfl) ?_
  refine lv_iconst (v := 0) hx hb d_Ch_isSound_20 (by decide) ?_
  obtain ⟨t21, ht21, hT⟩ := qa_b hT
  refine qa_Si (As := [.int x1, .int (0 : Int32)]) (rest := [.ref (ad 74)]) S hK hN hA hO (xc_Ch_rowOf l D cI cJ cF cZ ad (qa_up (qa_up (qa_up g 72 4 x1) 72 5 (0 : Int32)) 72 6 (1 : Int32)) x1 (0 : Int32)) ht21 qy_Ch_rowOf lm_Ch_40 ⟨by decide, by decide⟩ rfl hl.1 rfl (Nat.le_of_ble_eq_true rfl) d_Ch_isSound_21 (fun H locs hO => ?_)
  refine lv_iload_n hx hb d_Ch_isSound_24 rfl (lv_at hl 1 rfl) ?_
  refine lv_bipush (v := 20) hx hb d_Ch_isSound_25 (by decide) ?_
  obtain ⟨t27, ht27, hT⟩ := qa_b hT
  refine qa_Si (As := [.int x1, .int (20 : Int32)]) (rest := [.int t21.1, .ref (ad 74)]) S hK hN hA hO (xc_Ch_rowOf l D cI cJ cF cZ ad t21.2 x1 (20 : Int32)) ht27 qy_Ch_rowOf lm_Ch_40 ⟨by decide, by decide⟩ rfl hl.1 rfl (Nat.le_of_ble_eq_true rfl) d_Ch_isSound_27 (fun H locs hO => ?_)
  refine lv_iconst (v := -1) hx hb d_Ch_isSound_30 (by decide) ?_
  obtain ⟨t31, ht31, hT⟩ := qa_b hT
  refine qa_Sv (As := [.ref (ad 74), .int t21.1, .int t27.1, .int (-1 : Int32)]) (rest := []) S hK hN hA hO (xc_Ar_fill4 l D cI cJ cF cZ ad t27.2 74 200 t21.1 t27.1 (-1 : Int32) (by decide) (xe_arr rfl)) ht31 qy_Ar_fill4 lm_Ch_44 ⟨by decide, by decide⟩ rfl hl.1 rfl (Nat.le_of_ble_eq_true rfl) d_Ch_isSound_31 (fun H locs hO => ?_)
  refine lv_aload_n hx hb d_Ch_isSound_34 rfl (lv_at hl 0 rfl) ?_
  obtain ⟨t35, ht35, hT⟩ := qa_b hT
  refine qa_Vv (As := []) (rest := []) (r := 72) S hK hN hA hO (xc_Ch_enterStart l D cI cJ cF cZ ad t31.2) ht35 qy_Ch_enterStart lm_Ch_50 ⟨by decide, by decide⟩ (by decide) rfl rfl rfl rfl hl.1 rfl (Nat.le_of_ble_eq_true rfl) d_Ch_isSound_35 (fun H locs hO => ?_)
  refine lv_iconst (v := 0) hx hb d_Ch_isSound_38 (by decide) ?_
  refine lv_istore_n (lv' := [(2, .int (0 : Int32)), (0, .ref (ad 72)), (1, .int x1)]) hx hb d_Ch_isSound_39 rfl hl (by decide) rfl (fun ls hl => ?_)
  exact b40 4096 t35.2 (0 : Int32) _ _ _ (lv_sub hl [1, 0] rfl) hO hT
def xf_Pr_initialiserOf (g : qa_St) (x1 : Int32) : qa_Re := ((xf_Pr_isType g x1).bind fun t2 => (if t2.1 = 0 then (some ((-1 : Int32), t2.2)) else (if x1 < 0 ∨ 6 ≤ x1.toNatClampNeg then none else (some ((t2.2 4 x1.toNatClampNeg), t2.2)))))
set_option maxHeartbeats 4000000 in
set_option maxRecDepth 100000 in
theorem xc_Pr_initialiserOf (l : Launch) (D : va_G) (cI cJ cF cZ : ClassId) (ad : Nat → Nat) (g : qa_St) (x1 : Int32) : qa_Mi l y_Pr_initialiserOf (qa_ws y_Pr_initialiserOf b_Pr_initialiserOf 2 (some .int)) (qa_rm 1 21) D (qa_ty cI cJ cF cZ) 107 ad (xe_en cI cJ cF ad) [.ref (ad 1), .int x1] g (xf_Pr_initialiserOf g x1) := by
  refine qa_meti (by decide) (Nat.le_of_ble_eq_true rfl) ?_
  intro p e s m args below meth c Q A T S hK hN hA hT ret ls hl hO
  have hx := S.1
  have hb := S.2.1
  have hl : lv_has ls 2 [(0, .ref (ad 1)), (1, .int x1)] := hl
  unfold xf_Pr_initialiserOf at hT
  refine lv_aload_n hx hb d_Pr_initialiserOf_0 rfl (lv_at hl 0 rfl) ?_
  refine lv_iload_n hx hb d_Pr_initialiserOf_1 rfl (lv_at hl 1 rfl) ?_
  obtain ⟨t2, ht2, hT⟩ := qa_b hT
  refine qa_Vi (As := [.int x1]) (rest := []) (r := 1) S hK hN hA hO (xc_Pr_isType l D cI cJ cF cZ ad g x1) ht2 qy_Pr_isType lm_Pr_56 ⟨by decide, by decide⟩ (by decide) rfl rfl rfl rfl hl.1 rfl (Nat.le_of_ble_eq_true rfl) d_Pr_initialiserOf_2 (fun H locs hO => ?_)
  refine lv_if_eq (tgt := 17) hx hb d_Pr_initialiserOf_5 (by decide) (fun h => ?_) (fun h => ?_)
  · have hT := qa_t hT h
    refine lv_iconst (v := -1) hx hb d_Pr_initialiserOf_17 (by decide) ?_
    exact ret hT hO d_Pr_initialiserOf_18
  · have hT := qa_f hT h
    refine lv_aload_n hx hb d_Pr_initialiserOf_8 rfl (lv_at hl 0 rfl) ?_
    refine qa_get S hK hO hi_Pr 1 (by decide) rfl rfl 4 (by decide) lf_Pr_18 rfl rfl d_Pr_initialiserOf_9 ?_
    refine lv_iload_n hx hb d_Pr_initialiserOf_12 rfl (lv_at hl 1 rfl) ?_
    obtain ⟨hi13, hT⟩ := qa_c hT
    refine qa_iald (n := 6) S hK hO 4 (by decide) 0 (xe_arr rfl) rfl hi13 d_Pr_initialiserOf_13 ?_
    refine lv_goto (tgt := 18) hx hb d_Pr_initialiserOf_14 (by decide) ?_
    exact ret hT hO d_Pr_initialiserOf_18
def xf_Pr_isOf (g : qa_St) (x1 : Int32) (x2 : Int32) : qa_Re := ((xf_Pr_isType g x1).bind fun t2 => (if t2.1 = 0 then (some ((0 : Int32), t2.2)) else ((xf_Pr_isType t2.2 x2).bind fun t10 => (if t10.1 = 0 then (some ((0 : Int32), t10.2)) else (if x1 < 0 ∨ 6 ≤ x1.toNatClampNeg then none else ((xf_Cw_has t10.2 (t10.2 2 x1.toNatClampNeg) x2).bind fun t23 => (if t23.1 = 0 then (some ((0 : Int32), t23.2)) else (some ((1 : Int32), t23.2)))))))))
set_option maxHeartbeats 4000000 in
set_option maxRecDepth 100000 in
theorem xc_Pr_isOf (l : Launch) (D : va_G) (cI cJ cF cZ : ClassId) (ad : Nat → Nat) (g : qa_St) (x1 : Int32) (x2 : Int32) : qa_Mi l y_Pr_isOf (qa_ws y_Pr_isOf b_Pr_isOf 3 (some .boolean)) (qa_rm 1 21) D (qa_ty cI cJ cF cZ) 107 ad (xe_en cI cJ cF ad) [.ref (ad 1), .int x1, .int x2] g (xf_Pr_isOf g x1 x2) := by
  refine qa_metz (by decide) (Nat.le_of_ble_eq_true rfl) ?_
  intro p e s m args below meth c Q A T S hK hN hA hT ret ls hl hO
  have hx := S.1
  have hb := S.2.1
  have hl : lv_has ls 3 [(0, .ref (ad 1)), (1, .int x1), (2, .int x2)] := hl
  unfold xf_Pr_isOf at hT
  refine lv_aload_n hx hb d_Pr_isOf_0 rfl (lv_at hl 0 rfl) ?_
  refine lv_iload_n hx hb d_Pr_isOf_1 rfl (lv_at hl 1 rfl) ?_
  obtain ⟨t2, ht2, hT⟩ := qa_b hT
  refine qa_Vi (As := [.int x1]) (rest := []) (r := 1) S hK hN hA hO (xc_Pr_isType l D cI cJ cF cZ ad g x1) ht2 qy_Pr_isType lm_Pr_56 ⟨by decide, by decide⟩ (by decide) rfl rfl rfl rfl hl.1 rfl (Nat.le_of_ble_eq_true rfl) d_Pr_isOf_2 (fun H locs hO => ?_)
  refine lv_if_eq (tgt := 33) hx hb d_Pr_isOf_5 (by decide) (fun h => ?_) (fun h => ?_)
  · have hT := qa_t hT h
    refine lv_iconst (v := 0) hx hb d_Pr_isOf_33 (by decide) ?_
    exact ret (by decide) hT hO d_Pr_isOf_34
  · have hT := qa_f hT h
    refine lv_aload_n hx hb d_Pr_isOf_8 rfl (lv_at hl 0 rfl) ?_
    refine lv_iload_n hx hb d_Pr_isOf_9 rfl (lv_at hl 2 rfl) ?_
    obtain ⟨t10, ht10, hT⟩ := qa_b hT
    refine qa_Vi (As := [.int x2]) (rest := []) (r := 1) S hK hN hA hO (xc_Pr_isType l D cI cJ cF cZ ad t2.2 x2) ht10 qy_Pr_isType lm_Pr_56 ⟨by decide, by decide⟩ (by decide) rfl rfl rfl rfl hl.1 rfl (Nat.le_of_ble_eq_true rfl) d_Pr_isOf_10 (fun H locs hO => ?_)
    refine lv_if_eq (tgt := 33) hx hb d_Pr_isOf_13 (by decide) (fun h => ?_) (fun h => ?_)
    · have hT := qa_t hT h
      refine lv_iconst (v := 0) hx hb d_Pr_isOf_33 (by decide) ?_
      exact ret (by decide) hT hO d_Pr_isOf_34
    · have hT := qa_f hT h
      refine lv_aload_n hx hb d_Pr_isOf_16 rfl (lv_at hl 0 rfl) ?_
      refine qa_get S hK hO hi_Pr 1 (by decide) rfl rfl 2 (by decide) lf_Pr_9 rfl rfl d_Pr_isOf_17 ?_
      refine lv_iload_n hx hb d_Pr_isOf_20 rfl (lv_at hl 1 rfl) ?_
      obtain ⟨hi21, hT⟩ := qa_c hT
      refine qa_iald (n := 6) S hK hO 2 (by decide) 0 (xe_arr rfl) rfl hi21 d_Pr_isOf_21 ?_
      refine lv_iload_n hx hb d_Pr_isOf_22 rfl (lv_at hl 2 rfl) ?_
      obtain ⟨t23, ht23, hT⟩ := qa_b hT
      refine qa_SNi (As := [.int (t10.2 2 x1.toNatClampNeg), .int x2]) (rest := []) S hK hN hA hO (xc_Cw_has l D cI cJ cF cZ ad t10.2 (t10.2 2 x1.toNatClampNeg) x2) ht23 qy_Cw_has ln_Pr_95 ⟨by decide, by decide⟩ rfl hl.1 rfl (Nat.le_of_ble_eq_true rfl) d_Pr_isOf_23 (fun H locs hO => ?_)
      refine lv_if_eq (tgt := 33) hx hb d_Pr_isOf_26 (by decide) (fun h => ?_) (fun h => ?_)
      · have hT := qa_t hT h
        refine lv_iconst (v := 0) hx hb d_Pr_isOf_33 (by decide) ?_
        exact ret (by decide) hT hO d_Pr_isOf_34
      · have hT := qa_f hT h
        refine lv_iconst (v := 1) hx hb d_Pr_isOf_29 (by decide) ?_
        refine lv_goto (tgt := 34) hx hb d_Pr_isOf_30 (by decide) ?_
        exact ret (by decide) hT hO d_Pr_isOf_34
