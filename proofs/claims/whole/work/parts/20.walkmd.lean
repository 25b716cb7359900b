def mf_Mo_effect_318 (g : qa_St) : qa_Re := ((mf_Mo_give g (9 : Int32)).bind fun t321 => (some (0, t321.2)))
def mf_Mo_effect_288 (g : qa_St) (x1 : Int32) : qa_Re := (if x1 = (12 : Int32) then (mf_Mo_effect_318 g) else (if x1 = (14 : Int32) then (mf_Mo_effect_318 g) else (if x1 = (16 : Int32) then (mf_Mo_effect_318 g) else (if x1 = (17 : Int32) then (mf_Mo_effect_318 g) else (if x1 = (19 : Int32) then (mf_Mo_effect_318 g) else (some (0, g)))))))
def mf_Mo_effect_273 (g : qa_St) (x1 : Int32) : qa_Re := (if x1 = 0 then (mf_Mo_effect_318 g) else (if x1 < (5 : Int32) then (mf_Mo_effect_288 g x1) else (if x1 ≤ (8 : Int32) then (mf_Mo_effect_318 g) else (mf_Mo_effect_288 g x1))))
def mf_Mo_effect_268 (g : qa_St) (x1 : Int32) (x2 : Int32) : qa_Re := ((mf_Mo_give g x2).bind fun t270 => (mf_Mo_effect_273 t270.2 x1))
def mf_Mo_effect_251 (g : qa_St) (x1 : Int32) (x2 : Int32) : qa_Re := (if x1 = (1 : Int32) then (mf_Mo_effect_268 g x1 x2) else (if x1 = (11 : Int32) then (mf_Mo_effect_268 g x1 x2) else (if x1 = (18 : Int32) then (mf_Mo_effect_268 g x1 x2) else (mf_Mo_effect_273 g x1))))
def mf_Mo_effect_236 (g : qa_St) (x1 : Int32) (x2 : Int32) : qa_Re := (if x1 = (2 : Int32) then (if x2 < 0 ∨ 10 ≤ x2.toNatClampNeg then none else ((mf_Mo_give g (g 17 x2.toNatClampNeg)).bind fun t248 => (mf_Mo_effect_251 t248.2 x1 x2))) else (mf_Mo_effect_251 g x1 x2))
def mf_Mo_effect_206 : Nat → qa_St → Int32 → Int32 → Int32 → qa_Re
  | 0, _, _, _, _ => none
  | n + 1, g, x1, x2, x4 => (if x1 = (16 : Int32) then (if x2 < 0 ∨ 10 ≤ x2.toNatClampNeg then none else (if (g 6 x2.toNatClampNeg) ≤ x4 then (mf_Mo_effect_236 g x1 x2) else ((mf_Mo_take g (9 : Int32)).bind fun t226 => ((mf_Mo_effect_206 n) t226.2 x1 x2 (x4 + 1))))) else (mf_Mo_effect_236 g x1 x2))
def mf_Mo_effect_203 (g : qa_St) (x1 : Int32) (x2 : Int32) : qa_Re := (mf_Mo_effect_206 4096 g x1 x2 (0 : Int32))
def mf_Mo_effect_183 (g : qa_St) (x1 : Int32) (x2 : Int32) (x3 : Int32) : qa_Re := (if x1 = (17 : Int32) then ((mf_Mo_answer g x3 x2).bind fun t192 => (if 0 ≤ t192.1 then (mf_Mo_effect_203 t192.2 x1 x2) else (mf_Mo_effect_203 (qa_up t192.2 0 21 (1 : Int32)) x1 x2))) else (mf_Mo_effect_203 g x1 x2))
def mf_Mo_effect_169 (g : qa_St) (x1 : Int32) (x2 : Int32) (x3 : Int32) : qa_Re := ((mf_Mo_width g x3).bind fun t172 => (if x2 < t172.1 then (mf_Mo_effect_183 t172.2 x1 x2 x3) else (mf_Mo_effect_183 (qa_up t172.2 0 21 (1 : Int32)) x1 x2 x3)))
def mf_Mo_effect_149 (g : qa_St) (x1 : Int32) (x2 : Int32) (x3 : Int32) : qa_Re := (if (g 0 21) = 0 then (if x1 = (12 : Int32) then (mf_Mo_effect_169 g x1 x2 x3) else (if x1 = (13 : Int32) then (mf_Mo_effect_169 g x1 x2 x3) else (mf_Mo_effect_183 g x1 x2 x3))) else (some (0, g)))
def mf_Mo_effect_143 (g : qa_St) (x1 : Int32) (x2 : Int32) : qa_Re := ((mf_Mo_take g (0 : Int32)).bind fun t145 => (mf_Mo_effect_149 t145.2 x1 x2 t145.1))
def mf_Mo_effect_119 (g : qa_St) (x1 : Int32) (x2 : Int32) (x3 : Int32) : qa_Re := (if x1 = (12 : Int32) then (mf_Mo_effect_143 g x1 x2) else (if x1 = (13 : Int32) then (mf_Mo_effect_143 g x1 x2) else (if x1 < (17 : Int32) then (mf_Mo_effect_149 g x1 x2 x3) else (if (19 : Int32) < x1 then (mf_Mo_effect_149 g x1 x2 x3) else (mf_Mo_effect_143 g x1 x2)))))
def mf_Mo_effect_112 (g : qa_St) (x1 : Int32) (x2 : Int32) : qa_Re := ((mf_Mo_take g (9 : Int32)).bind fun t115 => (mf_Mo_effect_119 t115.2 x1 x2 t115.1))
def mf_Mo_effect_94 (g : qa_St) (x1 : Int32) (x2 : Int32) (x3 : Int32) : qa_Re := (if x1 = (10 : Int32) then (mf_Mo_effect_112 g x1 x2) else (if x1 = (15 : Int32) then (mf_Mo_effect_112 g x1 x2) else (if x1 < (20 : Int32) then (mf_Mo_effect_119 g x1 x2 x3) else (mf_Mo_effect_112 g x1 x2))))
def mf_Mo_effect_83 (g : qa_St) (x1 : Int32) (x2 : Int32) (x3 : Int32) : qa_Re := (if x1 < (5 : Int32) then (mf_Mo_effect_94 g x1 x2 x3) else (if x1 ≤ (8 : Int32) then (mf_Mo_effect_112 g x1 x2) else (mf_Mo_effect_94 g x1 x2 x3)))
def mf_Mo_effect_76 (g : qa_St) (x1 : Int32) (x2 : Int32) : qa_Re := ((mf_Mo_take g (9 : Int32)).bind fun t79 => (mf_Mo_effect_83 t79.2 x1 x2 t79.1))
def mf_Mo_effect_64 (g : qa_St) (x1 : Int32) (x2 : Int32) (x3 : Int32) : qa_Re := (if x1 = (13 : Int32) then (mf_Mo_effect_76 g x1 x2) else (if x1 = (17 : Int32) then (mf_Mo_effect_76 g x1 x2) else (mf_Mo_effect_83 g x1 x2 x3)))
def mf_Mo_effect_53 (g : qa_St) (x1 : Int32) (x2 : Int32) (x3 : Int32) : qa_Re := (if x1 < (5 : Int32) then (mf_Mo_effect_64 g x1 x2 x3) else (if x1 ≤ (8 : Int32) then (mf_Mo_effect_76 g x1 x2) else (mf_Mo_effect_64 g x1 x2 x3)))
def mf_Mo_effect_41 (g : qa_St) (x1 : Int32) (x2 : Int32) (x3 : Int32) : qa_Re := (if x1 = (3 : Int32) then (if x2 < 0 ∨ 10 ≤ x2.toNatClampNeg then none else (mf_Mo_effect_53 (qa_up g 17 x2.toNatClampNeg x3) x1 x2 x3)) else (mf_Mo_effect_53 g x1 x2 x3))
def mf_Mo_effect_34 (g : qa_St) (x1 : Int32) (x2 : Int32) : qa_Re := ((mf_Mo_take g (8 : Int32)).bind fun t37 => (mf_Mo_effect_41 t37.2 x1 x2 t37.1))
def mf_Mo_effect_24 (g : qa_St) (x1 : Int32) (x2 : Int32) (x3 : Int32) : qa_Re := (if x1 = (3 : Int32) then (mf_Mo_effect_34 g x1 x2) else (if x1 = (4 : Int32) then (mf_Mo_effect_34 g x1 x2) else (mf_Mo_effect_41 g x1 x2 x3)))
def mf_Mo_effect (g : qa_St) (x1 : Int32) (x2 : Int32) : qa_Re := (if x1 = (2 : Int32) then (if x2 < 0 ∨ 10 ≤ x2.toNatClampNeg then none else (if (g 17 x2.toNatClampNeg) = (8 : Int32) then (mf_Mo_effect_24 (qa_up g 0 21 (1 : Int32)) x1 x2 (8 : Int32)) else (mf_Mo_effect_24 g x1 x2 (8 : Int32)))) else (mf_Mo_effect_24 g x1 x2 (8 : Int32)))
set_option maxHeartbeats 4000000 in
set_option maxRecDepth 100000 in
theorem mc_Mo_effect (l : Launch) (D : va_G) (cI cJ cF cZ : ClassId) (ad : Nat → Nat) (g : qa_St) (x1 : Int32) (x2 : Int32) : qa_Mv l y_Mo_effect (qa_ws y_Mo_effect b_Mo_effect 5 none) (qa_rm 2 47) D (qa_ty cI cJ cF cZ) 33 ad (me_en cI cZ ad) [.ref (ad 0), .int x1, .int x2] g (mf_Mo_effect g x1 x2) := by
  refine qa_metv (by decide) (Nat.le_of_ble_eq_true rfl) ?_
  intro p e s m args below meth c Q A T S hK hN hA hT ret ls hl hO
  have hx := S.1
  have hb := S.2.1
  have hl : lv_has ls 5 [(0, .ref (ad 0)), (1, .int x1), (2, .int x2)] := hl
  have b318 : ∀ (g : qa_St) (ls : Array Slot) (H : Heap) (locs : List Loc), lv_has ls 5 [(0, .ref (ad 0))] → qa_O D 33 ad (me_en cI cZ ad) A s.heap g H locs → mf_Mo_effect_318 g = some T → W p l e (qa_rm 2 47) s m args below meth c H locs 0 0 Q (F0 m 318 ls []) := by
    intro g ls H locs hl hO hT
    unfold mf_Mo_effect_318 at hT
    refine lv_aload_n hx hb d_Mo_effect_318 rfl (lv_at hl 0 rfl) ?_
    refine lv_bipush (v := 9) hx hb d_Mo_effect_319 (by decide) ?_
    obtain ⟨t321, ht321, hT⟩ := qa_b hT
    refine qa_Vv (As := [.int (9 : Int32)]) (rest := []) (r := 0) S hK hN hA hO (mc_Mo_give l D cI cJ cF cZ ad g (9 : Int32)) ht321 qy_Mo_give lm_Mo_180 ⟨by decide, by decide⟩ (by decide) rfl rfl rfl rfl hl.1 rfl (Nat.le_of_ble_eq_true rfl) d_Mo_effect_321 (fun H locs hO => ?_)
    exact ret hT hO d_Mo_effect_324
  have b288 : ∀ (g : qa_St) (x1 : Int32) (ls : Array Slot) (H : Heap) (locs : List Loc), lv_has ls 5 [(0, .ref (ad 0)), (1, .int x1)] → qa_O D 33 ad (me_en cI cZ ad) A s.heap g H locs → mf_Mo_effect_288 g x1 = some T → W p l e (qa_rm 2 47) s m args below meth c H locs 0 0 Q (F0 m 288 ls []) := by
    intro g x1 ls H locs hl hO hT
    unfold mf_Mo_effect_288 at hT
    refine lv_iload_n hx hb d_Mo_effect_288 rfl (lv_at hl 1 rfl) ?_
    refine lv_bipush (v := 12) hx hb d_Mo_effect_289 (by decide) ?_
    refine lv_icmp_eq (tgt := 318) hx hb d_Mo_effect_291 (by decide) (fun h => ?_) (fun h => ?_)
    · have hT := qa_t hT h
      exact b318 g _ _ _ (lv_sub hl [0] rfl) hO hT
    · have hT := qa_f hT h
      refine lv_iload_n hx hb d_Mo_effect_294 rfl (lv_at hl 1 rfl) ?_
      refine lv_bipush (v := 14) hx hb d_Mo_effect_295 (by decide) ?_
      refine lv_icmp_eq (tgt := 318) hx hb d_Mo_effect_297 (by decide) (fun h => ?_) (fun h => ?_)
      · have hT := qa_t hT h
        exact b318 g _ _ _ (lv_sub hl [0] rfl) hO hT
      · have hT := qa_f hT h
        refine lv_iload_n hx hb d_Mo_effect_300 rfl (lv_at hl 1 rfl) ?_
        refine lv_bipush (v := 16) hx hb d_Mo_effect_301 (by decide) ?_
        refine lv_icmp_eq (tgt := 318) hx hb d_Mo_effect_303 (by decide) (fun h => ?_) (fun h => ?_)
        · have hT := qa_t hT h
          exact b318 g _ _ _ (lv_sub hl [0] rfl) hO hT
        · have hT := qa_f hT h
          refine lv_iload_n hx hb d_Mo_effect_306 rfl (lv_at hl 1 rfl) ?_
          refine lv_bipush (v := 17) hx hb d_Mo_effect_307 (by decide) ?_
          refine lv_icmp_eq (tgt := 318) hx hb d_Mo_effect_309 (by decide) (fun h => ?_) (fun h => ?_)
          · have hT := qa_t hT h
            exact b318 g _ _ _ (lv_sub hl [0] rfl) hO hT
          · have hT := qa_f hT h
            refine lv_iload_n hx hb d_Mo_effect_312 rfl (lv_at hl 1 rfl) ?_
            refine lv_bipush (v := 19) hx hb d_Mo_effect_313 (by decide) ?_
            refine lv_icmp_ne (tgt := 324) hx hb d_Mo_effect_315 (by decide) (fun h => ?_) (fun h => ?_)
            · have hT := qa_f hT h
              exact ret hT hO d_Mo_effect_324
            · have hT := qa_t hT h
              exact b318 g _ _ _ (lv_sub hl [0] rfl) hO hT
  have b273 : ∀ (g : qa_St) (x1 : Int32) (ls : Array Slot) (H : Heap) (locs : List Loc), lv_has ls 5 [(0, .ref (ad 0)), (1, .int x1)] → qa_O D 33 ad (me_en cI cZ ad) A s.heap g H locs → mf_Mo_effect_273 g x1 = some T → W p l e (qa_rm 2 47) s m args below meth c H locs 0 0 Q (F0 m 273 ls []) := by
    intro g x1 ls H locs hl hO hT
    unfold mf_Mo_effect_273 at hT
    refine lv_iload_n hx hb d_Mo_effect_273 rfl (lv_at hl 1 rfl) ?_
    refine lv_if_eq (tgt := 318) hx hb d_Mo_effect_274 (by decide) (fun h => ?_) (fun h => ?_)
    · have hT := qa_t hT h
      exact b318 g _ _ _ (lv_sub hl [0] rfl) hO hT
    · have hT := qa_f hT h
      refine lv_iload_n hx hb d_Mo_effect_277 rfl (lv_at hl 1 rfl) ?_
      refine lv_iconst (v := 5) hx hb d_Mo_effect_278 (by decide) ?_
      refine lv_icmp_lt (tgt := 288) hx hb d_Mo_effect_279 (by decide) (fun h => ?_) (fun h => ?_)
      · have hT := qa_t hT h
        exact b288 g x1 _ _ _ (lv_sub hl [0, 1] rfl) hO hT
      · have hT := qa_f hT h
        refine lv_iload_n hx hb d_Mo_effect_282 rfl (lv_at hl 1 rfl) ?_
        refine lv_bipush (v := 8) hx hb d_Mo_effect_283 (by decide) ?_
        refine lv_icmp_le (tgt := 318) hx hb d_Mo_effect_285 (by decide) (fun h => ?_) (fun h => ?_)
        · have hT := qa_t hT h
          exact b318 g _ _ _ (lv_sub hl [0] rfl) hO hT
        · have hT := qa_f hT h
          exact b288 g x1 _ _ _ (lv_sub hl [0, 1] rfl) hO hT
  have b268 : ∀ (g : qa_St) (x1 : Int32) (x2 : Int32) (ls : Array Slot) (H : Heap) (locs : List Loc), lv_has ls 5 [(0, .ref (ad 0)), (1, .int x1), (2, .int x2)] → qa_O D 33 ad (me_en cI cZ ad) A s.heap g H locs → mf_Mo_effect_268 g x1 x2 = some T → W p l e (qa_rm 2 47) s m args below meth c H locs 0 0 Q (F0 m 268 ls []) := by
    intro g x1 x2 ls H locs hl hO hT
    unfold mf_Mo_effect_268 at hT
    refine lv_aload_n hx hb d_Mo_effect_268 rfl (lv_at hl 0 rfl) ?_
    refine lv_iload_n hx hb d_Mo_effect_269 rfl (lv_at hl 2 rfl) ?_
    obtain ⟨t270, ht270, hT⟩ := qa_b hT
    refine qa_Vv (As := [.int x2]) (rest := []) (r := 0) S hK hN hA hO (mc_Mo_give l D cI cJ cF cZ ad g x2) ht270 qy_Mo_give lm_Mo_180 ⟨by decide, by decide⟩ (by decide) rfl rfl rfl rfl hl.1 rfl (Nat.le_of_ble_eq_true rfl) d_Mo_effect_270 (fun H locs hO => ?_)
    exact b273 t270.2 x1 _ _ _ (lv_sub hl [0, 1] rfl) hO hT
  have b251 : ∀ (g : qa_St) (x1 : Int32) (x2 : Int32) (ls : Array Slot) (H : Heap) (locs : List Loc), lv_has ls 5 [(0, .ref (ad 0)), (1, .int x1), (2, .int x2)] → qa_O D 33 ad (me_en cI cZ ad) A s.heap g H locs → mf_Mo_effect_251 g x1 x2 = some T → W p l e (qa_rm 2 47) s m args below meth c H locs 0 0 Q (F0 m 251 ls []) := by
    intro g x1 x2 ls H locs hl hO hT
    unfold mf_Mo_effect_251 at hT
    refine lv_iload_n hx hb d_Mo_effect_251 rfl (lv_at hl 1 rfl) ?_
    refine lv_iconst (v := 1) hx hb d_Mo_effect_252 (by decide) ?_
    refine lv_icmp_eq (tgt := 268) hx hb d_Mo_effect_253 (by decide) (fun h => ?_) (fun h => ?_)
    · have hT := qa_t hT h
      exact b268 g x1 x2 _ _ _ (lv_sub hl [0, 1, 2] rfl) hO hT
    · have hT := qa_f hT h
      refine lv_iload_n hx hb d_Mo_effect_256 rfl (lv_at hl 1 rfl) ?_
      refine lv_bipush (v := 11) hx hb d_Mo_effect_257 (by decide) ?_
      refine lv_icmp_eq (tgt := 268) hx hb d_Mo_effect_259 (by decide) (fun h => ?_) (fun h => ?_)
      · have hT := qa_t hT h
        exact b268 g x1 x2 _ _ _ (lv_sub hl [0, 1, 2] rfl) hO hT
      · have hT := qa_f hT h
        refine lv_iload_n hx hb d_Mo_effect_262 rfl (lv_at hl 1 rfl) ?_
        refine lv_bipush (v := 18) hx hb d_Mo_effect_263 (by decide) ?_
        refine lv_icmp_ne (tgt := 273) hx hb d_Mo_effect_265 (by decide) (fun h => ?_) (fun h => ?_)
        · have hT := qa_f hT h
          exact b273 g x1 _ _ _ (lv_sub hl [0, 1] rfl) hO hT
        · have hT := qa_t hT h
          exact b268 g x1 x2 _ _ _ (lv_sub hl [0, 1, 2] rfl) hO hT
  have b236 : ∀ (g : qa_St) (x1 : Int32) (x2 : Int32) (ls : Array Slot) (H : Heap) (locs : List Loc), lv_has ls 5 [(0, .ref (ad 0)), (1, .int x1), (2, .int x2)] → qa_O D 33 ad (me_en cI cZ ad) A s.heap g H locs → mf_Mo_effect_236 g x1 x2 = some T → W p l e (qa_rm 2 47) s m args below meth c H locs 0 0 Q (F0 m 236 ls []) := by
    intro g x1 x2 ls H locs hl hO hT
    unfold mf_Mo_effect_236 at hT
    refine lv_iload_n hx hb d_Mo_effect_236 rfl (lv_at hl 1 rfl) ?_
    refine lv_iconst (v := 2) hx hb d_Mo_effect_237 (by decide) ?_
    refine lv_icmp_ne (tgt := 251) hx hb d_Mo_effect_238 (by decide) (fun h => ?_) (fun h => ?_)
    · have hT := qa_f hT h
      exact b251 g x1 x2 _ _ _ (lv_sub hl [0, 1, 2] rfl) hO hT
    · have hT := qa_t hT h
      refine lv_aload_n hx hb d_Mo_effect_241 rfl (lv_at hl 0 rfl) ?_
      refine lv_aload_n hx hb d_Mo_effect_242 rfl (lv_at hl 0 rfl) ?_
      refine qa_get S hK hO hi_Mo 0 (by decide) rfl rfl 19 (by decide) lf_Mo_59 rfl rfl d_Mo_effect_243 ?_
      refine lv_iload_n hx hb d_Mo_effect_246 rfl (lv_at hl 2 rfl) ?_
      obtain ⟨hi247, hT⟩ := qa_c hT
      refine qa_iald (n := 10) S hK hO 17 (by decide) 0 (me_arr rfl) rfl hi247 d_Mo_effect_247 ?_
      obtain ⟨t248, ht248, hT⟩ := qa_b hT
      refine qa_Vv (As := [.int (g 17 x2.toNatClampNeg)]) (rest := []) (r := 0) S hK hN hA hO (mc_Mo_give l D cI cJ cF cZ ad g (g 17 x2.toNatClampNeg)) ht248 qy_Mo_give lm_Mo_180 ⟨by decide, by decide⟩ (by decide) rfl rfl rfl rfl hl.1 rfl (Nat.le_of_ble_eq_true rfl) d_Mo_effect_248 (fun H locs hO => ?_)
      exact b251 t248.2 x1 x2 _ _ _ (lv_sub hl [0, 1, 2] rfl) hO hT
  have b206 : ∀ (n : Nat), ∀ (g : qa_St) (x1 : Int32) (x2 : Int32) (x4 : Int32) (ls : Array Slot) (H : Heap) (locs : List Loc), lv_has ls 5 [(0, .ref (ad 0)), (1, .int x1), (2, .int x2), (4, .int x4)] → qa_O D 33 ad (me_en cI cZ ad) A s.heap g H locs → mf_Mo_effect_206 n g x1 x2 x4 = some T → W p l e (qa_rm 2 47) s m args below meth c H locs 0 0 Q (F0 m 206 ls []) := by
    intro n
    induction n with
    | zero => intro g x1 x2 x4 ls H locs hl hO hT; rw [mf_Mo_effect_206] at hT; cases hT
    | succ n ih =>
      intro g x1 x2 x4 ls H locs hl hO hT
      rw [mf_Mo_effect_206] at hT
      refine lv_iload_n hx hb d_Mo_effect_206 rfl (lv_at hl 1 rfl) ?_
      refine lv_bipush (v := 16) hx hb d_Mo_effect_207 (by decide) ?_
      refine lv_icmp_ne (tgt := 236) hx hb d_Mo_effect_209 (by decide) (fun h => ?_) (fun h => ?_)
      · have hT := qa_f hT h
        exact b236 g x1 x2 _ _ _ (lv_sub hl [0, 1, 2] rfl) hO hT
      · have hT := qa_t hT h
        refine lv_iload hx hb d_Mo_effect_212 (lv_at hl 3 rfl) ?_
        refine lv_aload_n hx hb d_Mo_effect_214 rfl (lv_at hl 0 rfl) ?_
        refine qa_get S hK hO hi_Mo 0 (by decide) rfl rfl 7 (by decide) lf_Mo_25 rfl rfl d_Mo_effect_215 ?_
        refine lv_iload_n hx hb d_Mo_effect_218 rfl (lv_at hl 2 rfl) ?_
        obtain ⟨hi219, hT⟩ := qa_c hT
        refine qa_iald (n := 10) S hK hO 6 (by decide) 0 (me_arr rfl) rfl hi219 d_Mo_effect_219 ?_
        refine lv_icmp_ge (tgt := 236) hx hb d_Mo_effect_220 (by decide) (fun h => ?_) (fun h => ?_)
        · have hT := qa_t hT h
          exact b236 g x1 x2 _ _ _ (lv_sub hl [0, 1, 2] rfl) hO hT
        · have hT := qa_f hT h
          refine lv_aload_n hx hb d_Mo_effect_223 rfl (lv_at hl 0 rfl) ?_
          refine lv_bipush (v := 9) hx hb d_Mo_effect_224 (by decide) ?_
          obtain ⟨t226, ht226, hT⟩ := qa_b hT
          refine qa_Vi (As := [.int (9 : Int32)]) (rest := []) (r := 0) S hK hN hA hO (mc_Mo_take l D cI cJ cF cZ ad g (9 : Int32)) ht226 qy_Mo_take lm_Mo_174 ⟨by decide, by decide⟩ (by decide) rfl rfl rfl rfl hl.1 rfl (Nat.le_of_ble_eq_true rfl) d_Mo_effect_226 (fun H locs hO => ?_)
          refine lv_istore_n (lv' := [(3, .int t226.1), (0, .ref (ad 0)), (1, .int x1), (2, .int x2), (4, .int x4)]) hx hb d_Mo_effect_229 rfl hl (by decide) rfl (fun ls hl => ?_)
          refine lv_iinc (lv' := [(4, .int (x4 + 1)), (3, .int t226.1), (0, .ref (ad 0)), (1, .int x1), (2, .int x2)]) hx hb d_Mo_effect_230 hl (k := 4) rfl (qa_o1 _) (by decide) rfl (fun ls hl => ?_)
          refine lv_goto (tgt := 206) hx hb d_Mo_effect_233 (by decide) ?_
          exact ih t226.2 x1 x2 (x4 + 1) _ _ _ (lv_sub hl [2, 3, 4, 0] rfl) hO hT
  have b203 : ∀ (g : qa_St) (x1 : Int32) (x2 : Int32) (ls : Array Slot) (H : Heap) (locs : List Loc), lv_has ls 5 [(0, .ref (ad 0)), (1, .int x1), (2, .int x2)] → qa_O D 33 ad (me_en cI cZ ad) A s.heap g H locs → mf_Mo_effect_203 g x1 x2 = some T → W p l e (qa_rm 2 47) s m args below meth c H locs 0 0 Q (F0 m 203 ls []) := by
    intro g x1 x2 ls H locs hl hO hT
    unfold mf_Mo_effect_203 at hT
    refine lv_iconst (v := 0) hx hb d_Mo_effect_203 (by decide) ?_
    refine lv_istore (lv' := [(4, .int (0 : Int32)), (0, .ref (ad 0)), (1, .int x1), (2, .int x2)]) hx hb d_Mo_effect_204 hl (by decide) rfl (fun ls hl => ?_)
    exact b206 4096 g x1 x2 (0 : Int32) _ _ _ (lv_sub hl [1, 2, 3, 0] rfl) hO hT
  have b183 : ∀ (g : qa_St) (x1 : Int32) (x2 : Int32) (x3 : Int32) (ls : Array Slot) (H : Heap) (locs : List Loc), lv_has ls 5 [(0, .ref (ad 0)), (1, .int x1), (2, .int x2), (3, .int x3)] → qa_O D 33 ad (me_en cI cZ ad) A s.heap g H locs → mf_Mo_effect_183 g x1 x2 x3 = some T → W p l e (qa_rm 2 47) s m args below meth c H locs 0 0 Q (F0 m 183 ls []) := by
    intro g x1 x2 x3 ls H locs hl hO hT
    unfold mf_Mo_effect_183 at hT
    refine lv_iload_n hx hb d_Mo_effect_183 rfl (lv_at hl 1 rfl) ?_
    refine lv_bipush (v := 17) hx hb d_Mo_effect_184 (by decide) ?_
    refine lv_icmp_ne (tgt := 203) hx hb d_Mo_effect_186 (by decide) (fun h => ?_) (fun h => ?_)
    · have hT := qa_f hT h
      exact b203 g x1 x2 _ _ _ (lv_sub hl [0, 1, 2] rfl) hO hT
    · have hT := qa_t hT h
      refine lv_aload_n hx hb d_Mo_effect_189 rfl (lv_at hl 0 rfl) ?_
      refine lv_iload_n hx hb d_Mo_effect_190 rfl (lv_at hl 3 rfl) ?_
      refine lv_iload_n hx hb d_Mo_effect_191 rfl (lv_at hl 2 rfl) ?_
      obtain ⟨t192, ht192, hT⟩ := qa_b hT
      refine qa_Vi (As := [.int x3, .int x2]) (rest := []) (r := 0) S hK hN hA hO (mc_Mo_answer l D cI cJ cF cZ ad g x3 x2) ht192 qy_Mo_answer lm_Mo_177 ⟨by decide, by decide⟩ (by decide) rfl rfl rfl rfl hl.1 rfl (Nat.le_of_ble_eq_true rfl) d_Mo_effect_192 (fun H locs hO => ?_)
      refine lv_if_ge (tgt := 203) hx hb d_Mo_effect_195 (by decide) (fun h => ?_) (fun h => ?_)
      · have hT := qa_t hT h
        exact b203 t192.2 x1 x2 _ _ _ (lv_sub hl [0, 1, 2] rfl) hO hT
      · have hT := qa_f hT h
        refine lv_aload_n hx hb d_Mo_effect_198 rfl (lv_at hl 0 rfl) ?_
        refine lv_iconst (v := 1) hx hb d_Mo_effect_199 (by decide) ?_
        refine qa_put S hK hO hi_Mo t_Mo t_Mo_ok n_Mo 0 (by decide) rfl rfl 21 (by decide) lf_Mo_148 rfl rfl (ty := .boolean) (by decide +kernel) rfl rfl (Nat.le_of_ble_eq_true rfl) rfl d_Mo_effect_200 (fun H locs hO => ?_)
        exact b203 (qa_up t192.2 0 21 (1 : Int32)) x1 x2 _ _ _ (lv_sub hl [0, 1, 2] rfl) hO hT
  have b169 : ∀ (g : qa_St) (x1 : Int32) (x2 : Int32) (x3 : Int32) (ls : Array Slot) (H : Heap) (locs : List Loc), lv_has ls 5 [(0, .ref (ad 0)), (1, .int x1), (2, .int x2), (3, .int x3)] → qa_O D 33 ad (me_en cI cZ ad) A s.heap g H locs → mf_Mo_effect_169 g x1 x2 x3 = some T → W p l e (qa_rm 2 47) s m args below meth c H locs 0 0 Q (F0 m 169 ls []) := by
    intro g x1 x2 x3 ls H locs hl hO hT
    unfold mf_Mo_effect_169 at hT
    refine lv_iload_n hx hb d_Mo_effect_169 rfl (lv_at hl 2 rfl) ?_
    refine lv_aload_n hx hb d_Mo_effect_170 rfl (lv_at hl 0 rfl) ?_
    refine lv_iload_n hx hb d_Mo_effect_171 rfl (lv_at hl 3 rfl) ?_
    obtain ⟨t172, ht172, hT⟩ := qa_b hT
    refine qa_Vi (As := [.int x3]) (rest := [.int x2]) (r := 0) S hK hN hA hO (mc_Mo_width l D cI cJ cF cZ ad g x3) ht172 qy_Mo_width lm_Mo_122 ⟨by decide, by decide⟩ (by decide) rfl rfl rfl rfl hl.1 rfl (Nat.le_of_ble_eq_true rfl) d_Mo_effect_172 (fun H locs hO => ?_)
    refine lv_icmp_lt (tgt := 183) hx hb d_Mo_effect_175 (by decide) (fun h => ?_) (fun h => ?_)
    · have hT := qa_t hT h
      exact b183 t172.2 x1 x2 x3 _ _ _ (lv_sub hl [0, 1, 2, 3] rfl) hO hT
    · have hT := qa_f hT h
      refine lv_aload_n hx hb d_Mo_effect_178 rfl (lv_at hl 0 rfl) ?_
      refine lv_iconst (v := 1) hx hb d_Mo_effect_179 (by decide) ?_
      refine qa_put S hK hO hi_Mo t_Mo t_Mo_ok n_Mo 0 (by decide) rfl rfl 21 (by decide) lf_Mo_148 rfl rfl (ty := .boolean) (by decide +kernel) rfl rfl (Nat.le_of_ble_eq_true rfl) rfl d_Mo_effect_180 (fun H locs hO => ?_)
      exact b183 (qa_up t172.2 0 21 (1 : Int32)) x1 x2 x3 _ _ _ (lv_sub hl [0, 1, 2, 3] rfl) hO hT
  have b149 : ∀ (g : qa_St) (x1 : Int32) (x2 : Int32) (x3 : Int32) (ls : Array Slot) (H : Heap) (locs : List Loc), lv_has ls 5 [(0, .ref (ad 0)), (1, .int x1), (2, .int x2), (3, .int x3)] → qa_O D 33 ad (me_en cI cZ ad) A s.heap g H locs → mf_Mo_effect_149 g x1 x2 x3 = some T → W p l e (qa_rm 2 47) s m args below meth c H locs 0 0 Q (F0 m 149 ls []) := by
    intro g x1 x2 x3 ls H locs hl hO hT
    unfold mf_Mo_effect_149 at hT
    refine lv_aload_n hx hb d_Mo_effect_149 rfl (lv_at hl 0 rfl) ?_
    refine qa_get S hK hO hi_Mo 0 (by decide) rfl rfl 21 (by decide) lf_Mo_148 rfl rfl d_Mo_effect_150 ?_
    refine lv_if_eq (tgt := 157) hx hb d_Mo_effect_153 (by decide) (fun h => ?_) (fun h => ?_)
    · have hT := qa_t hT h
      refine lv_iload_n hx hb d_Mo_effect_157 rfl (lv_at hl 1 rfl) ?_
      refine lv_bipush (v := 12) hx hb d_Mo_effect_158 (by decide) ?_
      refine lv_icmp_eq (tgt := 169) hx hb d_Mo_effect_160 (by decide) (fun h => ?_) (fun h => ?_)
      · have hT := qa_t hT h
        exact b169 g x1 x2 x3 _ _ _ (lv_sub hl [0, 1, 2, 3] rfl) hO hT
      · have hT := qa_f hT h
        refine lv_iload_n hx hb d_Mo_effect_163 rfl (lv_at hl 1 rfl) ?_
        refine lv_bipush (v := 13) hx hb d_Mo_effect_164 (by decide) ?_
        refine lv_icmp_ne (tgt := 183) hx hb d_Mo_effect_166 (by decide) (fun h => ?_) (fun h => ?_)
        · have hT := qa_f hT h
          exact b183 g x1 x2 x3 _ _ _ (lv_sub hl [0, 1, 2, 3] rfl) hO hT
        · have hT := qa_t hT h
          exact b169 g x1 x2 x3 _ _ _ (lv_sub hl [0, 1, 2, 3] rfl) hO hT
    · have hT := qa_f hT h
      exact ret hT hO d_Mo_effect_156
  have b143 : ∀ (g : qa_St) (x1 : Int32) (x2 : Int32) (ls : Array Slot) (H : Heap) (locs : List Loc), lv_has ls 5 [(0, .ref (ad 0)), (1, .int x1), (2, .int x2)] → qa_O D 33 ad (me_en cI cZ ad) A s.heap g H locs → mf_Mo_effect_143 g x1 x2 = some T → W p l e (qa_rm 2 47) s m args below meth c H locs 0 0 Q (F0 m 143 ls []) := by
    intro g x1 x2 ls H locs hl hO hT
    unfold mf_Mo_effect_143 at hT
    refine lv_aload_n hx hb d_Mo_effect_143 rfl (lv_at hl 0 rfl) ?_
    refine lv_iconst (v := 0) hx hb d_Mo_effect_144 (by decide) ?_
    obtain ⟨t145, ht145, hT⟩ := qa_b hT
    refine qa_Vi (As := [.int (0 : Int32)]) (rest := []) (r := 0) S hK hN hA hO (mc_Mo_take l D cI cJ cF cZ ad g (0 : Int32)) ht145 qy_Mo_take lm_Mo_174 ⟨by decide, by decide⟩ (by decide) rfl rfl rfl rfl hl.1 rfl (Nat.le_of_ble_eq_true rfl) d_Mo_effect_145 (fun H locs hO => ?_)
    refine lv_istore_n (lv' := [(3, .int t145.1), (0, .ref (ad 0)), (1, .int x1), (2, .int x2)]) hx hb d_Mo_effect_148 rfl hl (by decide) rfl (fun ls hl => ?_)
    exact b149 t145.2 x1 x2 t145.1 _ _ _ (lv_sub hl [1, 2, 3, 0] rfl) hO hT
  have b119 : ∀ (g : qa_St) (x1 : Int32) (x2 : Int32) (x3 : Int32) (ls : Array Slot) (H : Heap) (locs : List Loc), lv_has ls 5 [(0, .ref (ad 0)), (1, .int x1), (2, .int x2), (3, .int x3)] → qa_O D 33 ad (me_en cI cZ ad) A s.heap g H locs → mf_Mo_effect_119 g x1 x2 x3 = some T → W p l e (qa_rm 2 47) s m args below meth c H locs 0 0 Q (F0 m 119 ls []) := by
    intro g x1 x2 x3 ls H locs hl hO hT
    unfold mf_Mo_effect_119 at hT
    refine lv_iload_n hx hb d_Mo_effect_119 rfl (lv_at hl 1 rfl) ?_
    refine lv_bipush (v := 12) hx hb d_Mo_effect_120 (by decide) ?_
    refine lv_icmp_eq (tgt := 143) hx hb d_Mo_effect_122 (by decide) (fun h => ?_) (fun h => ?_)
    · have hT := qa_t hT h
      exact b143 g x1 x2 _ _ _ (lv_sub hl [0, 1, 2] rfl) hO hT
    · have hT := qa_f hT h
      refine lv_iload_n hx hb d_Mo_effect_125 rfl (lv_at hl 1 rfl) ?_
      refine lv_bipush (v := 13) hx hb d_Mo_effect_126 (by decide) ?_
      refine lv_icmp_eq (tgt := 143) hx hb d_Mo_effect_128 (by decide) (fun h => ?_) (fun h => ?_)
      · have hT := qa_t hT h
        exact b143 g x1 x2 _ _ _ (lv_sub hl [0, 1, 2] rfl) hO hT
      · have hT := qa_f hT h
        refine lv_iload_n hx hb d_Mo_effect_131 rfl (lv_at hl 1 rfl) ?_
        refine lv_bipush (v := 17) hx hb d_Mo_effect_132 (by decide) ?_
        refine lv_icmp_lt (tgt := 149) hx hb d_Mo_effect_134 (by decide) (fun h => ?_) (fun h => ?_)
        · have hT := qa_t hT h
          exact b149 g x1 x2 x3 _ _ _ (lv_sub hl [0, 1, 2, 3] rfl) hO hT
        · have hT := qa_f hT h
          refine lv_iload_n hx hb d_Mo_effect_137 rfl (lv_at hl 1 rfl) ?_
          refine lv_bipush (v := 19) hx hb d_Mo_effect_138 (by decide) ?_
          refine lv_icmp_gt (tgt := 149) hx hb d_Mo_effect_140 (by decide) (fun h => ?_) (fun h => ?_)
          · have hT := qa_t hT h
            exact b149 g x1 x2 x3 _ _ _ (lv_sub hl [0, 1, 2, 3] rfl) hO hT
          · have hT := qa_f hT h
            exact b143 g x1 x2 _ _ _ (lv_sub hl [0, 1, 2] rfl) hO hT
  have b112 : ∀ (g : qa_St) (x1 : Int32) (x2 : Int32) (ls : Array Slot) (H : Heap) (locs : List Loc), lv_has ls 5 [(0, .ref (ad 0)), (1, .int x1), (2, .int x2)] → qa_O D 33 ad (me_en cI cZ ad) A s.heap g H locs → mf_Mo_effect_112 g x1 x2 = some T → W p l e (qa_rm 2 47) s m args below meth c H locs 0 0 Q (F0 m 112 ls []) := by
    intro g x1 x2 ls H locs hl hO hT
    unfold mf_Mo_effect_112 at hT
    refine lv_aload_n hx hb d_Mo_effect_112 rfl (lv_at hl 0 rfl) ?_
    refine lv_bipush (v := 9) hx hb d_Mo_effect_113 (by decide) ?_
    obtain ⟨t115, ht115, hT⟩ := qa_b hT
    refine qa_Vi (As := [.int (9 : Int32)]) (rest := []) (r := 0) S hK hN hA hO (mc_Mo_take l D cI cJ cF cZ ad g (9 : Int32)) ht115 qy_Mo_take lm_Mo_174 ⟨by decide, by decide⟩ (by decide) rfl rfl rfl rfl hl.1 rfl (Nat.le_of_ble_eq_true rfl) d_Mo_effect_115 (fun H locs hO => ?_)
    refine lv_istore_n (lv' := [(3, .int t115.1), (0, .ref (ad 0)), (1, .int x1), (2, .int x2)]) hx hb d_Mo_effect_118 rfl hl (by decide) rfl (fun ls hl => ?_)
    exact b119 t115.2 x1 x2 t115.1 _ _ _ (lv_sub hl [1, 2, 3, 0] rfl) hO hT
  have b94 : ∀ (g : qa_St) (x1 : Int32) (x2 : Int32) (x3 : Int32) (ls : Array Slot) (H : Heap) (locs : List Loc), lv_has ls 5 [(0, .ref (ad 0)), (1, .int x1), (2, .int x2), (3, .int x3)] → qa_O D 33 ad (me_en cI cZ ad) A s.heap g H locs → mf_Mo_effect_94 g x1 x2 x3 = some T → W p l e (qa_rm 2 47) s m args below meth c H locs 0 0 Q (F0 m 94 ls []) := by
    intro g x1 x2 x3 ls H locs hl hO hT
    unfold mf_Mo_effect_94 at hT
    refine lv_iload_n hx hb d_Mo_effect_94 rfl (lv_at hl 1 rfl) ?_
    refine lv_bipush (v := 10) hx hb d_Mo_effect_95 (by decide) ?_
    refine lv_icmp_eq (tgt := 112) hx hb d_Mo_effect_97 (by decide) (fun h => ?_) (fun h => ?_)
    · have hT := qa_t hT h
      exact b112 g x1 x2 _ _ _ (lv_sub hl [0, 1, 2] rfl) hO hT
    · have hT := qa_f hT h
      refine lv_iload_n hx hb d_Mo_effect_100 rfl (lv_at hl 1 rfl) ?_
      refine lv_bipush (v := 15) hx hb d_Mo_effect_101 (by decide) ?_
      refine lv_icmp_eq (tgt := 112) hx hb d_Mo_effect_103 (by decide) (fun h => ?_) (fun h => ?_)
      · have hT := qa_t hT h
        exact b112 g x1 x2 _ _ _ (lv_sub hl [0, 1, 2] rfl) hO hT
      · have hT := qa_f hT h
        refine lv_iload_n hx hb d_Mo_effect_106 rfl (lv_at hl 1 rfl) ?_
        refine lv_bipush (v := 20) hx hb d_Mo_effect_107 (by decide) ?_
        refine lv_icmp_lt (tgt := 119) hx hb d_Mo_effect_109 (by decide) (fun h => ?_) (fun h => ?_)
        · have hT := qa_t hT h
          exact b119 g x1 x2 x3 _ _ _ (lv_sub hl [0, 1, 2, 3] rfl) hO hT
        · have hT := qa_f hT h
          exact b112 g x1 x2 _ _ _ (lv_sub hl [0, 1, 2] rfl) hO hT
  have b83 : ∀ (g : qa_St) (x1 : Int32) (x2 : Int32) (x3 : Int32) (ls : Array Slot) (H : Heap) (locs : List Loc), lv_has ls 5 [(0, .ref (ad 0)), (1, .int x1), (2, .int x2), (3, .int x3)] → qa_O D 33 ad (me_en cI cZ ad) A s.heap g H locs → mf_Mo_effect_83 g x1 x2 x3 = some T → W p l e (qa_rm 2 47) s m args below meth c H locs 0 0 Q (F0 m 83 ls []) := by
    intro g x1 x2 x3 ls H locs hl hO hT
    unfold mf_Mo_effect_83 at hT
    refine lv_iload_n hx hb d_Mo_effect_83 rfl (lv_at hl 1 rfl) ?_
    refine lv_iconst (v := 5) hx hb d_Mo_effect_84 (by decide) ?_
    refine lv_icmp_lt (tgt := 94) hx hb d_Mo_effect_85 (by decide) (fun h => ?_) (fun h => ?_)
    · have hT := qa_t hT h
      exact b94 g x1 x2 x3 _ _ _ (lv_sub hl [0, 1, 2, 3] rfl) hO hT
    · have hT := qa_f hT h
      refine lv_iload_n hx hb d_Mo_effect_88 rfl (lv_at hl 1 rfl) ?_
      refine lv_bipush (v := 8) hx hb d_Mo_effect_89 (by decide) ?_
      refine lv_icmp_le (tgt := 112) hx hb d_Mo_effect_91 (by decide) (fun h => ?_) (fun h => ?_)
      · have hT := qa_t hT h
        exact b112 g x1 x2 _ _ _ (lv_sub hl [0, 1, 2] rfl) hO hT
      · have hT := qa_f hT h
        exact b94 g x1 x2 x3 _ _ _ (lv_sub hl [0, 1, 2, 3] rfl) hO hT
  have b76 : ∀ (g : qa_St) (x1 : Int32) (x2 : Int32) (ls : Array Slot) (H : Heap) (locs : List Loc), lv_has ls 5 [(0, .ref (ad 0)), (1, .int x1), (2, .int x2)] → qa_O D 33 ad (me_en cI cZ ad) A s.heap g H locs → mf_Mo_effect_76 g x1 x2 = some T → W p l e (qa_rm 2 47) s m args below meth c H locs 0 0 Q (F0 m 76 ls []) := by
    intro g x1 x2 ls H locs hl hO hT
    unfold mf_Mo_effect_76 at hT
    refine lv_aload_n hx hb d_Mo_effect_76 rfl (lv_at hl 0 rfl) ?_
    refine lv_bipush (v := 9) hx hb d_Mo_effect_77 (by decide) ?_
    obtain ⟨t79, ht79, hT⟩ := qa_b hT
    refine qa_Vi (As := [.int (9 : Int32)]) (rest := []) (r := 0) S hK hN hA hO (mc_Mo_take l D cI cJ cF cZ ad g (9 : Int32)) ht79 qy_Mo_take lm_Mo_174 ⟨by decide, by decide⟩ (by decide) rfl rfl rfl rfl hl.1 rfl (Nat.le_of_ble_eq_true rfl) d_Mo_effect_79 (fun H locs hO => ?_)
    refine lv_istore_n (lv' := [(3, .int t79.1), (0, .ref (ad 0)), (1, .int x1), (2, .int x2)]) hx hb d_Mo_effect_82 rfl hl (by decide) rfl (fun ls hl => ?_)
    exact b83 t79.2 x1 x2 t79.1 _ _ _ (lv_sub hl [1, 2, 3, 0] rfl) hO hT
  have b64 : ∀ (g : qa_St) (x1 : Int32) (x2 : Int32) (x3 : Int32) (ls : Array Slot) (H : Heap) (locs : List Loc), lv_has ls 5 [(0, .ref (ad 0)), (1, .int x1), (2, .int x2), (3, .int x3)] → qa_O D 33 ad (me_en cI cZ ad) A s.heap g H locs → mf_Mo_effect_64 g x1 x2 x3 = some T → W p l e (qa_rm 2 47) s m args below meth c H locs 0 0 Q (F0 m 64 ls []) := by
    intro g x1 x2 x3 ls H locs hl hO hT
    unfold mf_Mo_effect_64 at hT
    refine lv_iload_n hx hb d_Mo_effect_64 rfl (lv_at hl 1 rfl) ?_
    refine lv_bipush (v := 13) hx hb d_Mo_effect_65 (by decide) ?_
    refine lv_icmp_eq (tgt := 76) hx hb d_Mo_effect_67 (by decide) (fun h => ?_) (fun h => ?_)
    · have hT := qa_t hT h
      exact b76 g x1 x2 _ _ _ (lv_sub hl [0, 1, 2] rfl) hO hT
    · have hT := qa_f hT h
      refine lv_iload_n hx hb d_Mo_effect_70 rfl (lv_at hl 1 rfl) ?_
      refine lv_bipush (v := 17) hx hb d_Mo_effect_71 (by decide) ?_
      refine lv_icmp_ne (tgt := 83) hx hb d_Mo_effect_73 (by decide) (fun h => ?_) (fun h => ?_)
      · have hT := qa_f hT h
        exact b83 g x1 x2 x3 _ _ _ (lv_sub hl [0, 1, 2, 3] rfl) hO hT
      · have hT := qa_t hT h
        exact b76 g x1 x2 _ _ _ (lv_sub hl [0, 1, 2] rfl) hO hT
  have b53 : ∀ (g : qa_St) (x1 : Int32) (x2 : Int32) (x3 : Int32) (ls : Array Slot) (H : Heap) (locs : List Loc), lv_has ls 5 [(0, .ref (ad 0)), (1, .int x1), (2, .int x2), (3, .int x3)] → qa_O D 33 ad (me_en cI cZ ad) A s.heap g H locs → mf_Mo_effect_53 g x1 x2 x3 = some T → W p l e (qa_rm 2 47) s m args below meth c H locs 0 0 Q (F0 m 53 ls []) := by
    intro g x1 x2 x3 ls H locs hl hO hT
    unfold mf_Mo_effect_53 at hT
    refine lv_iload_n hx hb d_Mo_effect_53 rfl (lv_at hl 1 rfl) ?_
    refine lv_iconst (v := 5) hx hb d_Mo_effect_54 (by decide) ?_
    refine lv_icmp_lt (tgt := 64) hx hb d_Mo_effect_55 (by decide) (fun h => ?_) (fun h => ?_)
    · have hT := qa_t hT h
      exact b64 g x1 x2 x3 _ _ _ (lv_sub hl [0, 1, 2, 3] rfl) hO hT
    · have hT := qa_f hT h
      refine lv_iload_n hx hb d_Mo_effect_58 rfl (lv_at hl 1 rfl) ?_
      refine lv_bipush (v := 8) hx hb d_Mo_effect_59 (by decide) ?_
      refine lv_icmp_le (tgt := 76) hx hb d_Mo_effect_61 (by decide) (fun h => ?_) (fun h => ?_)
      · have hT := qa_t hT h
        exact b76 g x1 x2 _ _ _ (lv_sub hl [0, 1, 2] rfl) hO hT
      · have hT := qa_f hT h
        exact b64 g x1 x2 x3 _ _ _ (lv_sub hl [0, 1, 2, 3] rfl) hO hT
  have b41 : ∀ (g : qa_St) (x1 : Int32) (x2 : Int32) (x3 : Int32) (ls : Array Slot) (H : Heap) (locs : List Loc), lv_has ls 5 [(0, .ref (ad 0)), (1, .int x1), (2, .int x2), (3, .int x3)] → qa_O D 33 ad (me_en cI cZ ad) A s.heap g H locs → mf_Mo_effect_41 g x1 x2 x3 = some T → W p l e (qa_rm 2 47) s m args below meth c H locs 0 0 Q (F0 m 41 ls []) := by
    intro g x1 x2 x3 ls H locs hl hO hT
    unfold mf_Mo_effect_41 at hT
    refine lv_iload_n hx hb d_Mo_effect_41 rfl (lv_at hl 1 rfl) ?_
    refine lv_iconst (v := 3) hx hb d_Mo_effect_42 (by decide) ?_
    refine lv_icmp_ne (tgt := 53) hx hb d_Mo_effect_43 (by decide) (fun h => ?_) (fun h => ?_)
    · have hT := qa_f hT h
      exact b53 g x1 x2 x3 _ _ _ (lv_sub hl [0, 1, 2, 3] rfl) hO hT
    · have hT := qa_t hT h
      refine lv_aload_n hx hb d_Mo_effect_46 rfl (lv_at hl 0 rfl) ?_
      refine qa_get S hK hO hi_Mo 0 (by decide) rfl rfl 19 (by decide) lf_Mo_59 rfl rfl d_Mo_effect_47 ?_
      refine lv_iload_n hx hb d_Mo_effect_50 rfl (lv_at hl 2 rfl) ?_
      refine lv_iload_n hx hb d_Mo_effect_51 rfl (lv_at hl 3 rfl) ?_
      obtain ⟨hi52, hT⟩ := qa_c hT
      refine qa_iast (n := 10) S hK hO 17 (by decide) 0 (me_arr rfl) rfl hi52 d_Mo_effect_52 (fun H locs hO => ?_)
      exact b53 (qa_up g 17 x2.toNatClampNeg x3) x1 x2 x3 _ _ _ (lv_sub hl [0, 1, 2, 3] rfl) hO hT
  have b34 : ∀ (g : qa_St) (x1 : Int32) (x2 : Int32) (ls : Array Slot) (H : Heap) (locs : List Loc), lv_has ls 5 [(0, .ref (ad 0)), (1, .int x1), (2, .int x2)] → qa_O D 33 ad (me_en cI cZ ad) A s.heap g H locs → mf_Mo_effect_34 g x1 x2 = some T → W p l e (qa_rm 2 47) s m args below meth c H locs 0 0 Q (F0 m 34 ls []) := by
    intro g x1 x2 ls H locs hl hO hT
    unfold mf_Mo_effect_34 at hT
    refine lv_aload_n hx hb d_Mo_effect_34 rfl (lv_at hl 0 rfl) ?_
    refine lv_bipush (v := 8) hx hb d_Mo_effect_35 (by decide) ?_
    obtain ⟨t37, ht37, hT⟩ := qa_b hT
    refine qa_Vi (As := [.int (8 : Int32)]) (rest := []) (r := 0) S hK hN hA hO (mc_Mo_take l D cI cJ cF cZ ad g (8 : Int32)) ht37 qy_Mo_take lm_Mo_174 ⟨by decide, by decide⟩ (by decide) rfl rfl rfl rfl hl.1 rfl (Nat.le_of_ble_eq_true rfl) d_Mo_effect_37 (fun H locs hO => ?_)
    refine lv_istore_n (lv' := [(3, .int t37.1), (0, .ref (ad 0)), (1, .int x1), (2, .int x2)]) hx hb d_Mo_effect_40 rfl hl (by decide) rfl (fun ls hl => ?_)
    exact b41 t37.2 x1 x2 t37.1 _ _ _ (lv_sub hl [1, 2, 3, 0] rfl) hO hT
  have b24 : ∀ (g : qa_St) (x1 : Int32) (x2 : Int32) (x3 : Int32) (ls : Array Slot) (H : Heap) (locs : List Loc), lv_has ls 5 [(0, .ref (ad 0)), (1, .int x1), (2, .int x2), (3, .int x3)] → qa_O D 33 ad (me_en cI cZ ad) A s.heap g H locs → mf_Mo_effect_24 g x1 x2 x3 = some T → W p l e (qa_rm 2 47) s m args below meth c H locs 0 0 Q (F0 m 24 ls []) := by
    intro g x1 x2 x3 ls H locs hl hO hT
    unfold mf_Mo_effect_24 at hT
    refine lv_iload_n hx hb d_Mo_effect_24 rfl (lv_at hl 1 rfl) ?_
    refine lv_iconst (v := 3) hx hb d_Mo_effect_25 (by decide) ?_
    refine lv_icmp_eq (tgt := 34) hx hb d_Mo_effect_26 (by decide) (fun h => ?_) (fun h => ?_)
    · have hT := qa_t hT h
      exact b34 g x1 x2 _ _ _ (lv_sub hl [0, 1, 2] rfl) hO hT
    · have hT := qa_f hT h
      refine lv_iload_n hx hb d_Mo_effect_29 rfl (lv_at hl 1 rfl) ?_
      refine lv_iconst (v := 4) hx hb d_Mo_effect_30 (by decide) ?_
      refine lv_icmp_ne (tgt := 41) hx hb d_Mo_effect_31 (by decide) (fun h => ?_) (fun h => ?_)
      · have hT := qa_f hT h
        exact b41 g x1 x2 x3 _ _ _ (lv_sub hl [0, 1, 2, 3] rfl) hO hT
      · have hT := qa_t hT h
        exact b34 g x1 x2 _ _ _ (lv_sub hl [0, 1, 2] rfl) hO hT
  unfold mf_Mo_effect at hT
  refine lv_bipush (v := 8) hx hb d_Mo_effect_0 (by decide) ?_
  refine lv_istore_n (lv' := [(3, .int (8 : Int32)), (0, .ref (ad 0)), (1, .int x1), (2, .int x2)]) hx hb d_Mo_effect_2 rfl hl (by decide) rfl (fun ls hl => ?_)
  refine lv_iload_n hx hb d_Mo_effect_3 rfl (lv_at hl 2 rfl) ?_
  refine lv_iconst (v := 2) hx hb d_Mo_effect_4 (by decide) ?_
  refine lv_icmp_ne (tgt := 24) hx hb d_Mo_effect_5 (by decide) (fun h => ?_) (fun h => ?_)
  · have hT := qa_f hT h
    exact b24 g x1 x2 (8 : Int32) _ _ _ (lv_sub hl [1, 2, 3, 0] rfl) hO hT
  · have hT := qa_t hT h
    refine lv_aload_n hx hb d_Mo_effect_8 rfl (lv_at hl 1 rfl) ?_
    refine qa_get S hK hO hi_Mo 0 (by decide) rfl rfl 19 (by decide) lf_Mo_59 rfl rfl d_Mo_effect_9 ?_
    refine lv_iload_n hx hb d_Mo_effect_12 rfl (lv_at hl 3 rfl) ?_
    obtain ⟨hi13, hT⟩ := qa_c hT
    refine qa_iald (n := 10) S hK hO 17 (by decide) 0 (me_arr rfl) rfl hi13 d_Mo_effect_13 ?_
    refine lv_bipush (v := 8) hx hb d_Mo_effect_14 (by decide) ?_
    refine lv_icmp_ne (tgt := 24) hx hb d_Mo_effect_16 (by decide) (fun h => ?_) (fun h => ?_)
    · have hT := qa_f hT h
      exact b24 g x1 x2 (8 : Int32) _ _ _ (lv_sub hl [1, 2, 3, 0] rfl) hO hT
    · have hT := qa_t hT h
      refine lv_aload_n hx hb d_Mo_effect_19 rfl (lv_at hl 1 rfl) ?_
      refine lv_iconst (v := 1) hx hb d_Mo_effect_20 (by decide) ?_
      refine qa_put S hK hO hi_Mo t_Mo t_Mo_ok n_Mo 0 (by decide) rfl rfl 21 (by decide) lf_Mo_148 rfl rfl (ty := .boolean) (by decide +kernel) rfl rfl (Nat.le_of_ble_eq_true rfl) rfl d_Mo_effect_21 (fun H locs hO => ?_)
      exact b24 (qa_up g 0 21 (1 : Int32)) x1 x2 (8 : Int32) _ _ _ (lv_sub hl [1, 2, 3, 0] rfl) hO hT
def mf_Mo_guarded_45 (k4 : qa_St → Int32 → Int32 → Int32 → qa_Re) (g : qa_St) (x1 : Int32) (x2 : Int32) (x3 : Int32) : qa_Re := (k4 g x1 x2 (x3 + 1))
def mf_Mo_guarded_4 : Nat → qa_St → Int32 → Int32 → Int32 → qa_Re
  | 0, _, _, _, _ => none
  | n + 1, g, x1, x2, x3 => (if x1 < 0 ∨ 10 ≤ x1.toNatClampNeg then none else (if (((3 : Int32) * x1) + (g 10 x1.toNatClampNeg)) ≤ x3 then (some ((-1 : Int32), g)) else (if x3 < 0 ∨ 30 ≤ x3.toNatClampNeg then none else (if x2 < (g 11 x3.toNatClampNeg) then (mf_Mo_guarded_45 (mf_Mo_guarded_4 n) g x1 x2 x3) else (if x3 < 0 ∨ 30 ≤ x3.toNatClampNeg then none else (if (g 12 x3.toNatClampNeg) ≤ x2 then (mf_Mo_guarded_45 (mf_Mo_guarded_4 n) g x1 x2 x3) else (if x3 < 0 ∨ 30 ≤ x3.toNatClampNeg then none else (some ((g 13 x3.toNatClampNeg), g)))))))))
def mf_Mo_guarded (g : qa_St) (x1 : Int32) (x2 : Int32) : qa_Re := (mf_Mo_guarded_4 4096 g x1 x2 ((3 : Int32) * x1))
set_option maxHeartbeats 4000000 in
set_option maxRecDepth 100000 in
theorem mc_Mo_guarded (l : Launch) (D : va_G) (cI cJ cF cZ : ClassId) (ad : Nat → Nat) (g : qa_St) (x1 : Int32) (x2 : Int32) : qa_Mi l y_Mo_guarded (qa_ws y_Mo_guarded b_Mo_guarded 4 (some .int)) (qa_rm 0 0) D (qa_ty cI cJ cF cZ) 33 ad (me_en cI cZ ad) [.ref (ad 0), .int x1, .int x2] g (mf_Mo_guarded g x1 x2) := by
  refine qa_meti (by decide) (Nat.le_of_ble_eq_true rfl) ?_
  intro p e s m args below meth c Q A T S hK hN hA hT ret ls hl hO
  have hx := S.1
  have hb := S.2.1
  have hl : lv_has ls 4 [(0, .ref (ad 0)), (1, .int x1), (2, .int x2)] := hl
  have b45 : ∀ (k4 : qa_St → Int32 → Int32 → Int32 → qa_Re) (hk4 : ∀ (g : qa_St) (x1 : Int32) (x2 : Int32) (x3 : Int32) (ls : Array Slot) (H : Heap) (locs : List Loc), lv_has ls 4 [(0, .ref (ad 0)), (1, .int x1), (2, .int x2), (3, .int x3)] → qa_O D 33 ad (me_en cI cZ ad) A s.heap g H locs → k4 g x1 x2 x3 = some T → W p l e (qa_rm 0 0) s m args below meth c H locs 0 0 Q (F0 m 4 ls [])), ∀ (g : qa_St) (x1 : Int32) (x2 : Int32) (x3 : Int32) (ls : Array Slot) (H : Heap) (locs : List Loc), lv_has ls 4 [(0, .ref (ad 0)), (1, .int x1), (2, .int x2), (3, .int x3)] → qa_O D 33 ad (me_en cI cZ ad) A s.heap g H locs → mf_Mo_guarded_45 k4 g x1 x2 x3 = some T → W p l e (qa_rm 0 0) s m args below meth c H locs 0 0 Q (F0 m 45 ls []) := by
    intro k4 hk4
    intro g x1 x2 x3 ls H locs hl hO hT
    unfold mf_Mo_guarded_45 at hT
    refine lv_iinc (lv' := [(3, .int (x3 + 1)), (0, .ref (ad 0)), (1, .int x1), (2, .int x2)]) hx hb d_Mo_guarded_45 hl (k := 3) rfl (qa_o1 _) (by decide) rfl (fun ls hl => ?_)
    refine lv_goto (tgt := 4) hx hb d_Mo_guarded_48 (by decide) ?_
    exact hk4 g x1 x2 (x3 + 1) _ _ _ (lv_sub hl [1, 2, 3, 0] rfl) hO hT
  have b4 : ∀ (n : Nat), ∀ (g : qa_St) (x1 : Int32) (x2 : Int32) (x3 : Int32) (ls : Array Slot) (H : Heap) (locs : List Loc), lv_has ls 4 [(0, .ref (ad 0)), (1, .int x1), (2, .int x2), (3, .int x3)] → qa_O D 33 ad (me_en cI cZ ad) A s.heap g H locs → mf_Mo_guarded_4 n g x1 x2 x3 = some T → W p l e (qa_rm 0 0) s m args below meth c H locs 0 0 Q (F0 m 4 ls []) := by
    intro n
    induction n with
    | zero => intro g x1 x2 x3 ls H locs hl hO hT; rw [mf_Mo_guarded_4] at hT; cases hT
    | succ n ih =>
      intro g x1 x2 x3 ls H locs hl hO hT
      rw [mf_Mo_guarded_4] at hT
      refine lv_iload_n hx hb d_Mo_guarded_4 rfl (lv_at hl 3 rfl) ?_
      refine lv_iconst (v := 3) hx hb d_Mo_guarded_5 (by decide) ?_
      refine lv_iload_n hx hb d_Mo_guarded_6 rfl (lv_at hl 1 rfl) ?_
      refine lv_imul hx hb d_Mo_guarded_7 ?_
      refine lv_aload_n hx hb d_Mo_guarded_8 rfl (lv_at hl 0 rfl) ?_
      refine qa_get S hK hO hi_Mo 0 (by decide) rfl rfl 11 (by decide) lf_Mo_37 rfl rfl d_Mo_guarded_9 ?_
      refine lv_iload_n hx hb d_Mo_guarded_12 rfl (lv_at hl 1 rfl) ?_
      obtain ⟨hi13, hT⟩ := qa_c hT
      refine qa_iald (n := 10) S hK hO 10 (by decide) 0 (me_arr rfl) rfl hi13 d_Mo_guarded_13 ?_
      refine lv_iadd hx hb d_Mo_guarded_14 ?_
      refine lv_icmp_ge (tgt := 51) hx hb d_Mo_guarded_15 (by decide) (fun h => ?_) (fun h => ?_)
      · have hT := qa_t hT h
        refine lv_iconst (v := -1) hx hb d_Mo_guarded_51 (by decide) ?_
        exact ret hT hO d_Mo_guarded_52
      · have hT := qa_f hT h
        refine lv_iload_n hx hb d_Mo_guarded_18 rfl (lv_at hl 2 rfl) ?_
        refine lv_aload_n hx hb d_Mo_guarded_19 rfl (lv_at hl 0 rfl) ?_
        refine qa_get S hK hO hi_Mo 0 (by decide) rfl rfl 12 (by decide) lf_Mo_40 rfl rfl d_Mo_guarded_20 ?_
        refine lv_iload_n hx hb d_Mo_guarded_23 rfl (lv_at hl 3 rfl) ?_
        obtain ⟨hi24, hT⟩ := qa_c hT
        refine qa_iald (n := 30) S hK hO 11 (by decide) 0 (me_arr rfl) rfl hi24 d_Mo_guarded_24 ?_
        refine lv_icmp_lt (tgt := 45) hx hb d_Mo_guarded_25 (by decide) (fun h => ?_) (fun h => ?_)
        · have hT := qa_t hT h
          exact b45 (mf_Mo_guarded_4 n) ih g x1 x2 x3 _ _ _ (lv_sub hl [0, 1, 2, 3] rfl) hO hT
        · have hT := qa_f hT h
          refine lv_iload_n hx hb d_Mo_guarded_28 rfl (lv_at hl 2 rfl) ?_
          refine lv_aload_n hx hb d_Mo_guarded_29 rfl (lv_at hl 0 rfl) ?_
          refine qa_get S hK hO hi_Mo 0 (by decide) rfl rfl 13 (by decide) lf_Mo_43 rfl rfl d_Mo_guarded_30 ?_
          refine lv_iload_n hx hb d_Mo_guarded_33 rfl (lv_at hl 3 rfl) ?_
          obtain ⟨hi34, hT⟩ := qa_c hT
          refine qa_iald (n := 30) S hK hO 12 (by decide) 0 (me_arr rfl) rfl hi34 d_Mo_guarded_34 ?_
          refine lv_icmp_ge (tgt := 45) hx hb d_Mo_guarded_35 (by decide) (fun h => ?_) (fun h => ?_)
          · have hT := qa_t hT h
            exact b45 (mf_Mo_guarded_4 n) ih g x1 x2 x3 _ _ _ (lv_sub hl [0, 1, 2, 3] rfl) hO hT
          · have hT := qa_f hT h
            refine lv_aload_n hx hb d_Mo_guarded_38 rfl (lv_at hl 0 rfl) ?_
            refine qa_get S hK hO hi_Mo 0 (by decide) rfl rfl 14 (by decide) lf_Mo_46 rfl rfl d_Mo_guarded_39 ?_
            refine lv_iload_n hx hb d_Mo_guarded_42 rfl (lv_at hl 3 rfl) ?_
            obtain ⟨hi43, hT⟩ := qa_c hT
            refine qa_iald (n := 30) S hK hO 13 (by decide) 0 (me_arr rfl) rfl hi43 d_Mo_guarded_43 ?_
            exact ret hT hO d_Mo_guarded_44
  unfold mf_Mo_guarded at hT
  refine lv_iconst (v := 3) hx hb d_Mo_guarded_0 (by decide) ?_
  refine lv_iload_n hx hb d_Mo_guarded_1 rfl (lv_at hl 1 rfl) ?_
  refine lv_imul hx hb d_Mo_guarded_2 ?_
  refine lv_istore_n (lv' := [(3, .int ((3 : Int32) * x1)), (0, .ref (ad 0)), (1, .int x1), (2, .int x2)]) hx hb d_Mo_guarded_3 rfl hl (by decide) rfl (fun ls hl => ?_)
  exact b4 4096 g x1 x2 ((3 : Int32) * x1) _ _ _ (lv_sub hl [1, 2, 3, 0] rfl) hO hT
def mf_Mo_flow_94 (g : qa_St) (x1 : Int32) (x2 : Int32) (x3 : Int32) : qa_Re := ((mf_Mo_guarded g x1 x2).bind fun t97 => (if t97.1 < 0 then (some (0, t97.2)) else (if (t97.2 0 21) = 0 then ((mf_Mo_load t97.2 x3).bind fun t117 => (if (4 : Int32) < 0 ∨ 10 ≤ (4 : Int32).toNatClampNeg then none else ((mf_Mo_arrive (qa_up (qa_up t117.2 0 20 (1 : Int32)) 17 (4 : Int32).toNatClampNeg (9 : Int32)) x1 t97.1).bind fun t137 => (some (0, t137.2))))) else (some (0, t97.2)))))
def mf_Mo_flow_87 (g : qa_St) (x1 : Int32) (x2 : Int32) (x3 : Int32) (x5 : Int32) : qa_Re := ((mf_Mo_arrive g x1 x5).bind fun t91 => (mf_Mo_flow_94 t91.2 x1 x2 x3))
def mf_Mo_flow_73 (g : qa_St) (x1 : Int32) (x2 : Int32) (x3 : Int32) (x4 : Int32) (x5 : Int32) : qa_Re := (if x4 = (9 : Int32) then (mf_Mo_flow_87 g x1 x2 x3 x5) else (if x4 = (10 : Int32) then (mf_Mo_flow_87 g x1 x2 x3 x5) else (mf_Mo_flow_94 g x1 x2 x3)))
def mf_Mo_flow (g : qa_St) (x1 : Int32) (x2 : Int32) : qa_Re := ((mf_Mo_load g (((20 : Int32) * x1) + x2)).bind fun t9 => (if (((20 : Int32) * x1) + x2) < 0 ∨ 200 ≤ (((20 : Int32) * x1) + x2).toNatClampNeg then none else (if (((20 : Int32) * x1) + x2) < 0 ∨ 200 ≤ (((20 : Int32) * x1) + x2).toNatClampNeg then none else ((mf_Mo_effect t9.2 (t9.2 8 (((20 : Int32) * x1) + x2).toNatClampNeg) (t9.2 9 (((20 : Int32) * x1) + x2).toNatClampNeg)).bind fun t33 => (if (t33.2 0 21) = 0 then (if (t9.2 8 (((20 : Int32) * x1) + x2).toNatClampNeg) = (9 : Int32) then (mf_Mo_flow_73 t33.2 x1 x2 (((20 : Int32) * x1) + x2) (t9.2 8 (((20 : Int32) * x1) + x2).toNatClampNeg) (t9.2 9 (((20 : Int32) * x1) + x2).toNatClampNeg)) else (if (t9.2 8 (((20 : Int32) * x1) + x2).toNatClampNeg) = (21 : Int32) then (mf_Mo_flow_73 t33.2 x1 x2 (((20 : Int32) * x1) + x2) (t9.2 8 (((20 : Int32) * x1) + x2).toNatClampNeg) (t9.2 9 (((20 : Int32) * x1) + x2).toNatClampNeg)) else (if (t9.2 8 (((20 : Int32) * x1) + x2).toNatClampNeg) = (22 : Int32) then (mf_Mo_flow_73 t33.2 x1 x2 (((20 : Int32) * x1) + x2) (t9.2 8 (((20 : Int32) * x1) + x2).toNatClampNeg) (t9.2 9 (((20 : Int32) * x1) + x2).toNatClampNeg)) else ((mf_Mo_arrive t33.2 x1 (x2 + (1 : Int32))).bind fun t70 => (mf_Mo_flow_73 t70.2 x1 x2 (((20 : Int32) * x1) + x2) (t9.2 8 (((20 : Int32) * x1) + x2).toNatClampNeg) (t9.2 9 (((20 : Int32) * x1) + x2).toNatClampNeg)))))) else (some (0, t33.2)))))))
set_option maxHeartbeats 4000000 in
set_option maxRecDepth 100000 in
theorem mc_Mo_flow (l : Launch) (D : va_G) (cI cJ cF cZ : ClassId) (ad : Nat → Nat) (g : qa_St) (x1 : Int32) (x2 : Int32) : qa_Mv l y_Mo_flow (qa_ws y_Mo_flow b_Mo_flow 7 none) (qa_rm 3 73) D (qa_ty cI cJ cF cZ) 33 ad (me_en cI cZ ad) [.ref (ad 0), .int x1, .int x2] g (mf_Mo_flow g x1 x2) := by
  refine qa_metv (by decide) (Nat.le_of_ble_eq_true rfl) ?_
  intro p e s m args below meth c Q A T S hK hN hA hT ret ls hl hO
  have hx := S.1
  have hb := S.2.1
  have hl : lv_has ls 7 [(0, .ref (ad 0)), (1, .int x1), (2, .int x2)] := hl
  have b94 : ∀ (g : qa_St) (x1 : Int32) (x2 : Int32) (x3 : Int32) (ls : Array Slot) (H : Heap) (locs : List Loc), lv_has ls 7 [(0, .ref (ad 0)), (1, .int x1), (2, .int x2), (3, .int x3)] → qa_O D 33 ad (me_en cI cZ ad) A s.heap g H locs → mf_Mo_flow_94 g x1 x2 x3 = some T → W p l e (qa_rm 3 73) s m args below meth c H locs 0 0 Q (F0 m 94 ls []) := by
    intro g x1 x2 x3 ls H locs hl hO hT
    unfold mf_Mo_flow_94 at hT
    refine lv_aload_n hx hb d_Mo_flow_94 rfl (lv_at hl 0 rfl) ?_
    refine lv_iload_n hx hb d_Mo_flow_95 rfl (lv_at hl 1 rfl) ?_
    refine lv_iload_n hx hb d_Mo_flow_96 rfl (lv_at hl 2 rfl) ?_
    obtain ⟨t97, ht97, hT⟩ := qa_b hT
    refine qa_Vi (As := [.int x1, .int x2]) (rest := []) (r := 0) S hK hN hA hO (mc_Mo_guarded l D cI cJ cF cZ ad g x1 x2) ht97 qy_Mo_guarded lm_Mo_171 ⟨by decide, by decide⟩ (by decide) rfl rfl rfl rfl hl.1 rfl (Nat.le_of_ble_eq_true rfl) d_Mo_flow_97 (fun H locs hO => ?_)
    refine lv_istore (lv' := [(6, .int t97.1), (0, .ref (ad 0)), (1, .int x1), (2, .int x2), (3, .int x3)]) hx hb d_Mo_flow_100 hl (by decide) rfl (fun ls hl => ?_)
    refine lv_iload hx hb d_Mo_flow_102 (lv_at hl 0 rfl) ?_
    refine lv_if_lt (tgt := 114) hx hb d_Mo_flow_104 (by decide) (fun h => ?_) (fun h => ?_)
    · have hT := qa_t hT h
      exact ret hT hO d_Mo_flow_114
    · have hT := qa_f hT h
      refine lv_aload_n hx hb d_Mo_flow_107 rfl (lv_at hl 1 rfl) ?_
      refine qa_get S hK hO hi_Mo 0 (by decide) rfl rfl 21 (by decide) lf_Mo_148 rfl rfl d_Mo_flow_108 ?_
      refine lv_if_eq (tgt := 115) hx hb d_Mo_flow_111 (by decide) (fun h => ?_) (fun h => ?_)
      · have hT := qa_t hT h
        refine lv_aload_n hx hb d_Mo_flow_115 rfl (lv_at hl 1 rfl) ?_
        refine lv_iload_n hx hb d_Mo_flow_116 rfl (lv_at hl 4 rfl) ?_
        obtain ⟨t117, ht117, hT⟩ := qa_b hT
        refine qa_Vv (As := [.int x3]) (rest := []) (r := 0) S hK hN hA hO (mc_Mo_load l D cI cJ cF cZ ad t97.2 x3) ht117 qy_Mo_load lm_Mo_160 ⟨by decide, by decide⟩ (by decide) rfl rfl rfl rfl hl.1 rfl (Nat.le_of_ble_eq_true rfl) d_Mo_flow_117 (fun H locs hO => ?_)
        refine lv_aload_n hx hb d_Mo_flow_120 rfl (lv_at hl 1 rfl) ?_
        refine lv_iconst (v := 1) hx hb d_Mo_flow_121 (by decide) ?_
        refine qa_put S hK hO hi_Mo t_Mo t_Mo_ok n_Mo 0 (by decide) rfl rfl 20 (by decide) lf_Mo_151 rfl rfl (ty := .int) (by decide +kernel) rfl rfl (Nat.le_of_ble_eq_true rfl) rfl d_Mo_flow_122 (fun H locs hO => ?_)
        refine lv_aload_n hx hb d_Mo_flow_125 rfl (lv_at hl 1 rfl) ?_
        refine qa_get S hK hO hi_Mo 0 (by decide) rfl rfl 19 (by decide) lf_Mo_59 rfl rfl d_Mo_flow_126 ?_
        refine lv_iconst (v := 4) hx hb d_Mo_flow_129 (by decide) ?_
        refine lv_bipush (v := 9) hx hb d_Mo_flow_130 (by decide) ?_
        obtain ⟨hi132, hT⟩ := qa_c hT
        refine qa_iast (n := 10) S hK hO 17 (by decide) 0 (me_arr rfl) rfl hi132 d_Mo_flow_132 (fun H locs hO => ?_)
        refine lv_aload_n hx hb d_Mo_flow_133 rfl (lv_at hl 1 rfl) ?_
        refine lv_iload_n hx hb d_Mo_flow_134 rfl (lv_at hl 2 rfl) ?_
        refine lv_iload hx hb d_Mo_flow_135 (lv_at hl 0 rfl) ?_
        obtain ⟨t137, ht137, hT⟩ := qa_b hT
        refine qa_Vv (As := [.int x1, .int t97.1]) (rest := []) (r := 0) S hK hN hA hO (mc_Mo_arrive l D cI cJ cF cZ ad (qa_up (qa_up t117.2 0 20 (1 : Int32)) 17 (4 : Int32).toNatClampNeg (9 : Int32)) x1 t97.1) ht137 qy_Mo_arrive lm_Mo_168 ⟨by decide, by decide⟩ (by decide) rfl rfl rfl rfl hl.1 rfl (Nat.le_of_ble_eq_true rfl) d_Mo_flow_137 (fun H locs hO => ?_)
        exact ret hT hO d_Mo_flow_140
      · have hT := qa_f hT h
        exact ret hT hO d_Mo_flow_114
  have b87 : ∀ (g : qa_St) (x1 : Int32) (x2 : Int32) (x3 : Int32) (x5 : Int32) (ls : Array Slot) (H : Heap) (locs : List Loc), lv_has ls 7 [(0, .ref (ad 0)), (1, .int x1), (2, .int x2), (3, .int x3), (5, .int x5)] → qa_O D 33 ad (me_en cI cZ ad) A s.heap g H locs → mf_Mo_flow_87 g x1 x2 x3 x5 = some T → W p l e (qa_rm 3 73) s m args below meth c H locs 0 0 Q (F0 m 87 ls []) := by
    intro g x1 x2 x3 x5 ls H locs hl hO hT
    unfold mf_Mo_flow_87 at hT
    refine lv_aload_n hx hb d_Mo_flow_87 rfl (lv_at hl 0 rfl) ?_
    refine lv_iload_n hx hb d_Mo_flow_88 rfl (lv_at hl 1 rfl) ?_
    refine lv_iload hx hb d_Mo_flow_89 (lv_at hl 4 rfl) ?_
    obtain ⟨t91, ht91, hT⟩ := qa_b hT
    refine qa_Vv (As := [.int x1, .int x5]) (rest := []) (r := 0) S hK hN hA hO (mc_Mo_arrive l D cI cJ cF cZ ad g x1 x5) ht91 qy_Mo_arrive lm_Mo_168 ⟨by decide, by decide⟩ (by decide) rfl rfl rfl rfl hl.1 rfl (Nat.le_of_ble_eq_true rfl) d_Mo_flow_91 (fun H locs hO => ?_)
    exact b94 t91.2 x1 x2 x3 _ _ _ (lv_sub hl [0, 1, 2, 3] rfl) hO hT
  have b73 : ∀ (g : qa_St) (x1 : Int32) (x2 : Int32) (x3 : Int32) (x4 : Int32) (x5 : Int32) (ls : Array Slot) (H : Heap) (locs : List Loc), lv_has ls 7 [(0, .ref (ad 0)), (1, .int x1), (2, .int x2), (3, .int x3), (4, .int x4), (5, .int x5)] → qa_O D 33 ad (me_en cI cZ ad) A s.heap g H locs → mf_Mo_flow_73 g x1 x2 x3 x4 x5 = some T → W p l e (qa_rm 3 73) s m args below meth c H locs 0 0 Q (F0 m 73 ls []) := by
    intro g x1 x2 x3 x4 x5 ls H locs hl hO hT
    unfold mf_Mo_flow_73 at hT
    refine lv_iload hx hb d_Mo_flow_73 (lv_at hl 4 rfl) ?_
    refine lv_bipush (v := 9) hx hb d_Mo_flow_75 (by decide) ?_
    refine lv_icmp_eq (tgt := 87) hx hb d_Mo_flow_77 (by decide) (fun h => ?_) (fun h => ?_)
    · have hT := qa_t hT h
      exact b87 g x1 x2 x3 x5 _ _ _ (lv_sub hl [0, 1, 2, 3, 5] rfl) hO hT
    · have hT := qa_f hT h
      refine lv_iload hx hb d_Mo_flow_80 (lv_at hl 4 rfl) ?_
      refine lv_bipush (v := 10) hx hb d_Mo_flow_82 (by decide) ?_
      refine lv_icmp_ne (tgt := 94) hx hb d_Mo_flow_84 (by decide) (fun h => ?_) (fun h => ?_)
      · have hT := qa_f hT h
        exact b94 g x1 x2 x3 _ _ _ (lv_sub hl [0, 1, 2, 3] rfl) hO hT
      · have hT := qa_t hT h
        exact b87 g x1 x2 x3 x5 _ _ _ (lv_sub hl [0, 1, 2, 3, 5] rfl) hO hT
  unfold mf_Mo_flow at hT
  refine lv_bipush (v := 20) hx hb d_Mo_flow_0 (by decide) ?_
  refine lv_iload_n hx hb d_Mo_flow_2 rfl (lv_at hl 1 rfl) ?_
  refine lv_imul hx hb d_Mo_flow_3 ?_
  refine lv_iload_n hx hb d_Mo_flow_4 rfl (lv_at hl 2 rfl) ?_
  refine lv_iadd hx hb d_Mo_flow_5 ?_
  refine lv_istore_n (lv' := [(3, .int (((20 : Int32) * x1) + x2)), (0, .ref (ad 0)), (1, .int x1), (2, .int x2)]) hx hb d_Mo_flow_6 rfl hl (by decide) rfl (fun ls hl => ?_)
  refine lv_aload_n hx hb d_Mo_flow_7 rfl (lv_at hl 1 rfl) ?_
  refine lv_iload_n hx hb d_Mo_flow_8 rfl (lv_at hl 0 rfl) ?_
  obtain ⟨t9, ht9, hT⟩ := qa_b hT
  refine qa_Vv (As := [.int (((20 : Int32) * x1) + x2)]) (rest := []) (r := 0) S hK hN hA hO (mc_Mo_load l D cI cJ cF cZ ad g (((20 : Int32) * x1) + x2)) ht9 qy_Mo_load lm_Mo_160 ⟨by decide, by decide⟩ (by decide) rfl rfl rfl rfl hl.1 rfl (Nat.le_of_ble_eq_true rfl) d_Mo_flow_9 (fun H locs hO => ?_)
  refine lv_aload_n hx hb d_Mo_flow_12 rfl (lv_at hl 1 rfl) ?_
  refine qa_get S hK hO hi_Mo 0 (by decide) rfl rfl 9 (by decide) lf_Mo_31 rfl rfl d_Mo_flow_13 ?_
  refine lv_iload_n hx hb d_Mo_flow_16 rfl (lv_at hl 0 rfl) ?_
  obtain ⟨hi17, hT⟩ := qa_c hT
  refine qa_iald (n := 200) S hK hO 8 (by decide) 0 (me_arr rfl) rfl hi17 d_Mo_flow_17 ?_
  refine lv_istore (lv' := [(4, .int (t9.2 8 (((20 : Int32) * x1) + x2).toNatClampNeg)), (3, .int (((20 : Int32) * x1) + x2)), (0, .ref (ad 0)), (1, .int x1), (2, .int x2)]) hx hb d_Mo_flow_18 hl (by decide) rfl (fun ls hl => ?_)
  refine lv_aload_n hx hb d_Mo_flow_20 rfl (lv_at hl 2 rfl) ?_
  refine qa_get S hK hO hi_Mo 0 (by decide) rfl rfl 10 (by decide) lf_Mo_34 rfl rfl d_Mo_flow_21 ?_
  refine lv_iload_n hx hb d_Mo_flow_24 rfl (lv_at hl 1 rfl) ?_
  obtain ⟨hi25, hT⟩ := qa_c hT
  refine qa_iald (n := 200) S hK hO 9 (by decide) 0 (me_arr rfl) rfl hi25 d_Mo_flow_25 ?_
  refine lv_istore (lv' := [(5, .int (t9.2 9 (((20 : Int32) * x1) + x2).toNatClampNeg)), (4, .int (t9.2 8 (((20 : Int32) * x1) + x2).toNatClampNeg)), (3, .int (((20 : Int32) * x1) + x2)), (0, .ref (ad 0)), (1, .int x1), (2, .int x2)]) hx hb d_Mo_flow_26 hl (by decide) rfl (fun ls hl => ?_)
  refine lv_aload_n hx hb d_Mo_flow_28 rfl (lv_at hl 3 rfl) ?_
  refine lv_iload hx hb d_Mo_flow_29 (lv_at hl 1 rfl) ?_
  refine lv_iload hx hb d_Mo_flow_31 (lv_at hl 0 rfl) ?_
  obtain ⟨t33, ht33, hT⟩ := qa_b hT
  refine qa_Vv (As := [.int (t9.2 8 (((20 : Int32) * x1) + x2).toNatClampNeg), .int (t9.2 9 (((20 : Int32) * x1) + x2).toNatClampNeg)]) (rest := []) (r := 0) S hK hN hA hO (mc_Mo_effect l D cI cJ cF cZ ad t9.2 (t9.2 8 (((20 : Int32) * x1) + x2).toNatClampNeg) (t9.2 9 (((20 : Int32) * x1) + x2).toNatClampNeg)) ht33 qy_Mo_effect lm_Mo_164 ⟨by decide, by decide⟩ (by decide) rfl rfl rfl rfl hl.1 rfl (Nat.le_of_ble_eq_true rfl) d_Mo_flow_33 (fun H locs hO => ?_)
  refine lv_aload_n hx hb d_Mo_flow_36 rfl (lv_at hl 3 rfl) ?_
  refine qa_get S hK hO hi_Mo 0 (by decide) rfl rfl 21 (by decide) lf_Mo_148 rfl rfl d_Mo_flow_37 ?_
  refine lv_if_eq (tgt := 44) hx hb d_Mo_flow_40 (by decide) (fun h => ?_) (fun h => ?_)
  · have hT := qa_t hT h
    refine lv_iload hx hb d_Mo_flow_44 (lv_at hl 1 rfl) ?_
    refine lv_bipush (v := 9) hx hb d_Mo_flow_46 (by decide) ?_
    refine lv_icmp_eq (tgt := 73) hx hb d_Mo_flow_48 (by decide) (fun h => ?_) (fun h => ?_)
    · have hT := qa_t hT h
      exact b73 t33.2 x1 x2 (((20 : Int32) * x1) + x2) (t9.2 8 (((20 : Int32) * x1) + x2).toNatClampNeg) (t9.2 9 (((20 : Int32) * x1) + x2).toNatClampNeg) _ _ _ (lv_sub hl [3, 4, 5, 2, 1, 0] rfl) hO hT
    · have hT := qa_f hT h
      refine lv_iload hx hb d_Mo_flow_51 (lv_at hl 1 rfl) ?_
      refine lv_bipush (v := 21) hx hb d_Mo_flow_53 (by decide) ?_
      refine lv_icmp_eq (tgt := 73) hx hb d_Mo_flow_55 (by decide) (fun h => ?_) (fun h => ?_)
      · have hT := qa_t hT h
        exact b73 t33.2 x1 x2 (((20 : Int32) * x1) + x2) (t9.2 8 (((20 : Int32) * x1) + x2).toNatClampNeg) (t9.2 9 (((20 : Int32) * x1) + x2).toNatClampNeg) _ _ _ (lv_sub hl [3, 4, 5, 2, 1, 0] rfl) hO hT
      · have hT := qa_f hT h
        refine lv_iload hx hb d_Mo_flow_58 (lv_at hl 1 rfl) ?_
        refine lv_bipush (v := 22) hx hb d_Mo_flow_60 (by decide) ?_
        refine lv_icmp_eq (tgt := 73) hx hb d_Mo_flow_62 (by decide) (fun h => ?_) (fun h => ?_)
        · have hT := qa_t hT h
          exact b73 t33.2 x1 x2 (((20 : Int32) * x1) + x2) (t9.2 8 (((20 : Int32) * x1) + x2).toNatClampNeg) (t9.2 9 (((20 : Int32) * x1) + x2).toNatClampNeg) _ _ _ (lv_sub hl [3, 4, 5, 2, 1, 0] rfl) hO hT
        · have hT := qa_f hT h
          refine lv_aload_n hx hb d_Mo_flow_65 rfl (lv_at hl 3 rfl) ?_
          refine lv_iload_n hx hb d_Mo_flow_66 rfl (lv_at hl 4 rfl) ?_
          refine lv_iload_n hx hb d_Mo_flow_67 rfl (lv_at hl 5 rfl) ?_
          refine lv_iconst (v := 1) hx hb d_Mo_flow_68 (by decide) ?_
          refine lv_iadd hx hb d_Mo_flow_69 ?_
          obtain ⟨t70, ht70, hT⟩ := qa_b hT
          refine qa_Vv (As := [.int x1, .int (x2 + (1 : Int32))]) (rest := []) (r := 0) S hK hN hA hO (mc_Mo_arrive l D cI cJ cF cZ ad t33.2 x1 (x2 + (1 : Int32))) ht70 qy_Mo_arrive lm_Mo_168 ⟨by decide, by decide⟩ (by decide) rfl rfl rfl rfl hl.1 rfl (Nat.le_of_ble_eq_true rfl) d_Mo_flow_70 (fun H locs hO => ?_)
          exact b73 t70.2 x1 x2 (((20 : Int32) * x1) + x2) (t9.2 8 (((20 : Int32) * x1) + x2).toNatClampNeg) (t9.2 9 (((20 : Int32) * x1) + x2).toNatClampNeg) _ _ _ (lv_sub hl [3, 4, 5, 2, 1, 0] rfl) hO hT
  · have hT := qa_f hT h
    exact ret hT hO d_Mo_flow_43
