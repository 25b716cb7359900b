def mf_Mo_plain_479 (g : qa_St) (x1 : Int32) (x4 : Int32) : qa_Re := (if x1 < 0 ∨ 10 ≤ x1.toNatClampNeg then none else (some ((0 : Int32), (qa_up g 22 x1.toNatClampNeg x4))))
def mf_Mo_plain_461 (g : qa_St) (x1 : Int32) (x4 : Int32) (s0 : Int32) : qa_Re := ((mf_Mo_push g s0).bind fun t461 => (mf_Mo_plain_479 t461.2 x1 x4))
def mf_Mo_plain_460 (g : qa_St) (x1 : Int32) (x4 : Int32) : qa_Re := (mf_Mo_plain_461 g x1 x4 (0 : Int32))
def mf_Mo_plain_316 (g : qa_St) (x1 : Int32) (x2 : Int32) (x3 : Int32) (x4 : Int32) (x5 : Int32) (x6 : Int32) : qa_Re := (if x2 = (11 : Int32) then ((mf_Mo_create g x3).bind fun t324 => (mf_Mo_plain_479 t324.2 x1 x4)) else (if x2 = (12 : Int32) then (if (((6 : Int32) * x5) + x3) < 0 ∨ 96 ≤ (((6 : Int32) * x5) + x3).toNatClampNeg then none else ((mf_Mo_push g (g 29 (((6 : Int32) * x5) + x3).toNatClampNeg)).bind fun t349 => (mf_Mo_plain_479 t349.2 x1 x4))) else (if x2 = (13 : Int32) then (if (((6 : Int32) * x6) + x3) < 0 ∨ 96 ≤ (((6 : Int32) * x6) + x3).toNatClampNeg then none else (mf_Mo_plain_479 (qa_up g 29 (((6 : Int32) * x6) + x3).toNatClampNeg x5) x1 x4)) else (if x2 = (14 : Int32) then (if x3 < 0 ∨ 6 ≤ x3.toNatClampNeg then none else ((mf_Mo_push g (g 30 x3.toNatClampNeg)).bind fun t391 => (mf_Mo_plain_479 t391.2 x1 x4))) else (if x2 = (15 : Int32) then (if x3 < 0 ∨ 6 ≤ x3.toNatClampNeg then none else (mf_Mo_plain_479 (qa_up g 30 x3.toNatClampNeg x5) x1 x4)) else (if x2 = (18 : Int32) then ((mf_Mo_push g x5).bind fun t423 => (mf_Mo_plain_479 t423.2 x1 x4)) else (if x2 = (19 : Int32) then (if x5 < 0 then (mf_Mo_plain_460 g x1 x4) else (if x5 < 0 ∨ 16 ≤ x5.toNatClampNeg then none else ((mf_Mo_isOf g (g 28 x5.toNatClampNeg) x3).bind fun t450 => (if t450.1 = 0 then (mf_Mo_plain_460 t450.2 x1 x4) else (mf_Mo_plain_461 t450.2 x1 x4 (1 : Int32)))))) else (if x2 = (20 : Int32) then ((mf_Mo_print g x5).bind fun t476 => (mf_Mo_plain_479 t476.2 x1 x4)) else (mf_Mo_plain_479 g x1 x4)))))))))
def mf_Mo_plain_310 (g : qa_St) (x1 : Int32) (x3 : Int32) : qa_Re := (mf_Mo_plain_479 g x1 x3)
def mf_Mo_plain_155 (g : qa_St) (x1 : Int32) (x2 : Int32) (x3 : Int32) (x4 : Int32) (x5 : Int32) (x6 : Int32) : qa_Re := (if x2 = 0 then ((mf_Mo_push g x3).bind fun t161 => (mf_Mo_plain_479 t161.2 x1 x4)) else (if x2 = (1 : Int32) then ((mf_Mo_push g (-1 : Int32)).bind fun t174 => (mf_Mo_plain_479 t174.2 x1 x4)) else (if x2 = (2 : Int32) then (if (((4 : Int32) * x1) + x3) < 0 ∨ 40 ≤ (((4 : Int32) * x1) + x3).toNatClampNeg then none else ((mf_Mo_push g (g 26 (((4 : Int32) * x1) + x3).toNatClampNeg)).bind fun t196 => (mf_Mo_plain_479 t196.2 x1 x4))) else (if x2 = (3 : Int32) then (if (((4 : Int32) * x1) + x3) < 0 ∨ 40 ≤ (((4 : Int32) * x1) + x3).toNatClampNeg then none else (mf_Mo_plain_479 (qa_up g 26 (((4 : Int32) * x1) + x3).toNatClampNeg x5) x1 x4)) else (if x2 = (5 : Int32) then ((mf_Mo_push g (x6 + x5)).bind fun t233 => (mf_Mo_plain_479 t233.2 x1 x4)) else (if x2 = (6 : Int32) then ((mf_Mo_push g (x6 - x5)).bind fun t251 => (mf_Mo_plain_479 t251.2 x1 x4)) else (if x2 = (7 : Int32) then ((mf_Mo_push g (x6 * x5)).bind fun t269 => (mf_Mo_plain_479 t269.2 x1 x4)) else (if x2 = (8 : Int32) then (if x5 = 0 then none else ((mf_Mo_push g (x6 / x5)).bind fun t287 => (mf_Mo_plain_479 t287.2 x1 x4))) else (if x2 = (9 : Int32) then (mf_Mo_plain_310 g x1 x3) else (if x2 = (10 : Int32) then (if 0 < x5 then (mf_Mo_plain_316 g x1 x2 x3 x4 x5 x6) else (mf_Mo_plain_310 g x1 x3)) else (mf_Mo_plain_316 g x1 x2 x3 x4 x5 x6)))))))))))
def mf_Mo_plain_126 (g : qa_St) (x1 : Int32) (x2 : Int32) (x3 : Int32) (x4 : Int32) (x5 : Int32) (x6 : Int32) : qa_Re := (if x2 = (18 : Int32) then (if x5 < 0 then (mf_Mo_plain_155 g x1 x2 x3 x4 x5 x6) else (if x5 < 0 ∨ 16 ≤ x5.toNatClampNeg then none else ((mf_Mo_isOf g (g 28 x5.toNatClampNeg) x3).bind fun t146 => (if t146.1 = 0 then (some ((-3 : Int32), t146.2)) else (mf_Mo_plain_155 t146.2 x1 x2 x3 x4 x5 x6))))) else (mf_Mo_plain_155 g x1 x2 x3 x4 x5 x6))
def mf_Mo_plain_108 (g : qa_St) (x1 : Int32) (x2 : Int32) (x3 : Int32) (x4 : Int32) (x5 : Int32) (x6 : Int32) : qa_Re := (if x2 = (11 : Int32) then (if (g 0 40) = (16 : Int32) then (some ((-4 : Int32), g)) else (mf_Mo_plain_126 g x1 x2 x3 x4 x5 x6)) else (mf_Mo_plain_126 g x1 x2 x3 x4 x5 x6))
def mf_Mo_plain_95 (g : qa_St) (x1 : Int32) (x2 : Int32) (x3 : Int32) (x4 : Int32) (x5 : Int32) (x6 : Int32) : qa_Re := (if x2 = (13 : Int32) then (if 0 ≤ x6 then (mf_Mo_plain_108 g x1 x2 x3 x4 x5 x6) else (some ((-1 : Int32), g))) else (mf_Mo_plain_108 g x1 x2 x3 x4 x5 x6))
def mf_Mo_plain_84 (g : qa_St) (x1 : Int32) (x2 : Int32) (x3 : Int32) (x4 : Int32) (x5 : Int32) (x6 : Int32) : qa_Re := (if x2 = (12 : Int32) then (if x5 < 0 then (some ((-1 : Int32), g)) else (mf_Mo_plain_95 g x1 x2 x3 x4 x5 x6)) else (mf_Mo_plain_95 g x1 x2 x3 x4 x5 x6))
def mf_Mo_plain_68 (g : qa_St) (x1 : Int32) (x2 : Int32) (x3 : Int32) (x4 : Int32) (x5 : Int32) (s0 : Int32) : qa_Re := (if x2 = (8 : Int32) then (if x5 = 0 then (some ((-2 : Int32), g)) else (mf_Mo_plain_84 g x1 x2 x3 x4 x5 s0)) else (mf_Mo_plain_84 g x1 x2 x3 x4 x5 s0))
def mf_Mo_plain_60 (g : qa_St) (x1 : Int32) (x2 : Int32) (x3 : Int32) (x4 : Int32) (x5 : Int32) : qa_Re := ((mf_Mo_pop g).bind fun t61 => (mf_Mo_plain_68 t61.2 x1 x2 x3 x4 x5 t61.1))
def mf_Mo_plain_54 (g : qa_St) (x1 : Int32) (x2 : Int32) (x3 : Int32) (x4 : Int32) (x5 : Int32) : qa_Re := (if x2 = (13 : Int32) then (mf_Mo_plain_60 g x1 x2 x3 x4 x5) else (mf_Mo_plain_68 g x1 x2 x3 x4 x5 (0 : Int32)))
def mf_Mo_plain_41 (g : qa_St) (x1 : Int32) (x2 : Int32) (x3 : Int32) (x4 : Int32) (s0 : Int32) : qa_Re := (if x2 < (5 : Int32) then (mf_Mo_plain_54 g x1 x2 x3 x4 s0) else (if x2 ≤ (8 : Int32) then (mf_Mo_plain_60 g x1 x2 x3 x4 s0) else (mf_Mo_plain_54 g x1 x2 x3 x4 s0)))
def mf_Mo_plain_40 (g : qa_St) (x1 : Int32) (x2 : Int32) (x3 : Int32) (x4 : Int32) : qa_Re := (mf_Mo_plain_41 g x1 x2 x3 x4 (0 : Int32))
def mf_Mo_plain (g : qa_St) (x1 : Int32) (x2 : Int32) (x3 : Int32) : qa_Re := (if x1 < 0 ∨ 10 ≤ x1.toNatClampNeg then none else (if x2 < (3 : Int32) then (mf_Mo_plain_40 g x1 x2 x3 ((g 22 x1.toNatClampNeg) + (1 : Int32))) else (if x2 = (9 : Int32) then (mf_Mo_plain_40 g x1 x2 x3 ((g 22 x1.toNatClampNeg) + (1 : Int32))) else (if x2 = (11 : Int32) then (mf_Mo_plain_40 g x1 x2 x3 ((g 22 x1.toNatClampNeg) + (1 : Int32))) else (if x2 = (14 : Int32) then (mf_Mo_plain_40 g x1 x2 x3 ((g 22 x1.toNatClampNeg) + (1 : Int32))) else ((mf_Mo_pop g).bind fun t34 => (mf_Mo_plain_41 t34.2 x1 x2 x3 ((g 22 x1.toNatClampNeg) + (1 : Int32)) t34.1)))))))
set_option maxHeartbeats 4000000 in
set_option maxRecDepth 100000 in
theorem mc_Mo_plain (l : Launch) (D : va_G) (cI cJ cF cZ : ClassId) (ad : Nat → Nat) (g : qa_St) (x1 : Int32) (x2 : Int32) (x3 : Int32) : qa_Mi l y_Mo_plain (qa_ws y_Mo_plain b_Mo_plain 7 (some .int)) (qa_rm 2 44) D (qa_ty cI cJ cF cZ) 33 ad (me_en cI cZ ad) [.ref (ad 0), .int x1, .int x2, .int x3] g (mf_Mo_plain g x1 x2 x3) := by
  refine qa_meti (by decide) (Nat.le_of_ble_eq_true rfl) ?_
  intro p e s m args below meth c Q A T S hK hN hA hT ret ls hl hO
  have hx := S.1
  have hb := S.2.1
  have hl : lv_has ls 7 [(0, .ref (ad 0)), (1, .int x1), (2, .int x2), (3, .int x3)] := hl
  have b479 : ∀ (g : qa_St) (x1 : Int32) (x4 : Int32) (ls : Array Slot) (H : Heap) (locs : List Loc), lv_has ls 7 [(0, .ref (ad 0)), (1, .int x1), (4, .int x4)] → qa_O D 33 ad (me_en cI cZ ad) A s.heap g H locs → mf_Mo_plain_479 g x1 x4 = some T → W p l e (qa_rm 2 44) s m args below meth c H locs 0 0 Q (F0 m 479 ls []) := by
    intro g x1 x4 ls H locs hl hO hT
    unfold mf_Mo_plain_479 at hT
    refine lv_aload_n hx hb d_Mo_plain_479 rfl (lv_at hl 0 rfl) ?_
    refine qa_get S hK hO hi_Mo 0 (by decide) rfl rfl 34 (by decide) lf_Mo_74 rfl rfl d_Mo_plain_480 ?_
    refine lv_iload_n hx hb d_Mo_plain_483 rfl (lv_at hl 1 rfl) ?_
    refine lv_iload hx hb d_Mo_plain_484 (lv_at hl 2 rfl) ?_
    obtain ⟨hi486, hT⟩ := qa_c hT
    refine qa_iast (n := 10) S hK hO 22 (by decide) 0 (me_arr rfl) rfl hi486 d_Mo_plain_486 (fun H locs hO => ?_)
    refine lv_iconst (v := 0) hx hb d_Mo_plain_487 (by decide) ?_
    exact ret hT hO d_Mo_plain_488
  have b461 : ∀ (g : qa_St) (x1 : Int32) (x4 : Int32) (s0 : Int32) (ls : Array Slot) (H : Heap) (locs : List Loc), lv_has ls 7 [(0, .ref (ad 0)), (1, .int x1), (4, .int x4)] → qa_O D 33 ad (me_en cI cZ ad) A s.heap g H locs → mf_Mo_plain_461 g x1 x4 s0 = some T → W p l e (qa_rm 2 44) s m args below meth c H locs 0 0 Q (F0 m 461 ls [.int s0, .ref (ad 0)]) := by
    intro g x1 x4 s0 ls H locs hl hO hT
    unfold mf_Mo_plain_461 at hT
    obtain ⟨t461, ht461, hT⟩ := qa_b hT
    refine qa_Vv (As := [.int s0]) (rest := []) (r := 0) S hK hN hA hO (mc_Mo_push l D cI cJ cF cZ ad g s0) ht461 qy_Mo_push lm_Mo_269 ⟨by decide, by decide⟩ (by decide) rfl rfl rfl rfl hl.1 rfl (Nat.le_of_ble_eq_true rfl) d_Mo_plain_461 (fun H locs hO => ?_)
    refine lv_goto (tgt := 479) hx hb d_Mo_plain_464 (by decide) ?_
    exact b479 t461.2 x1 x4 _ _ _ (lv_sub hl [0, 1, 2] rfl) hO hT
  have b460 : ∀ (g : qa_St) (x1 : Int32) (x4 : Int32) (ls : Array Slot) (H : Heap) (locs : List Loc), lv_has ls 7 [(0, .ref (ad 0)), (1, .int x1), (4, .int x4)] → qa_O D 33 ad (me_en cI cZ ad) A s.heap g H locs → mf_Mo_plain_460 g x1 x4 = some T → W p l e (qa_rm 2 44) s m args below meth c H locs 0 0 Q (F0 m 460 ls [.ref (ad 0)]) := by
    intro g x1 x4 ls H locs hl hO hT
    unfold mf_Mo_plain_460 at hT
    refine lv_iconst (v := 0) hx hb d_Mo_plain_460 (by decide) ?_
    exact b461 g x1 x4 (0 : Int32) _ _ _ (lv_sub hl [0, 1, 2] rfl) hO hT
  have b316 : ∀ (g : qa_St) (x1 : Int32) (x2 : Int32) (x3 : Int32) (x4 : Int32) (x5 : Int32) (x6 : Int32) (ls : Array Slot) (H : Heap) (locs : List Loc), lv_has ls 7 [(0, .ref (ad 0)), (1, .int x1), (2, .int x2), (3, .int x3), (4, .int x4), (5, .int x5), (6, .int x6)] → qa_O D 33 ad (me_en cI cZ ad) A s.heap g H locs → mf_Mo_plain_316 g x1 x2 x3 x4 x5 x6 = some T → W p l e (qa_rm 2 44) s m args below meth c H locs 0 0 Q (F0 m 316 ls []) := by
    intro g x1 x2 x3 x4 x5 x6 ls H locs hl hO hT
    unfold mf_Mo_plain_316 at hT
    refine lv_iload_n hx hb d_Mo_plain_316 rfl (lv_at hl 2 rfl) ?_
    refine lv_bipush (v := 11) hx hb d_Mo_plain_317 (by decide) ?_
    refine lv_icmp_ne (tgt := 330) hx hb d_Mo_plain_319 (by decide) (fun h => ?_) (fun h => ?_)
    · have hT := qa_f hT h
      refine lv_iload_n hx hb d_Mo_plain_330 rfl (lv_at hl 2 rfl) ?_
      refine lv_bipush (v := 12) hx hb d_Mo_plain_331 (by decide) ?_
      refine lv_icmp_ne (tgt := 355) hx hb d_Mo_plain_333 (by decide) (fun h => ?_) (fun h => ?_)
      · have hT := qa_f hT h
        refine lv_iload_n hx hb d_Mo_plain_355 rfl (lv_at hl 2 rfl) ?_
        refine lv_bipush (v := 13) hx hb d_Mo_plain_356 (by decide) ?_
        refine lv_icmp_ne (tgt := 378) hx hb d_Mo_plain_358 (by decide) (fun h => ?_) (fun h => ?_)
        · have hT := qa_f hT h
          refine lv_iload_n hx hb d_Mo_plain_378 rfl (lv_at hl 2 rfl) ?_
          refine lv_bipush (v := 14) hx hb d_Mo_plain_379 (by decide) ?_
          refine lv_icmp_ne (tgt := 397) hx hb d_Mo_plain_381 (by decide) (fun h => ?_) (fun h => ?_)
          · have hT := qa_f hT h
            refine lv_iload_n hx hb d_Mo_plain_397 rfl (lv_at hl 2 rfl) ?_
            refine lv_bipush (v := 15) hx hb d_Mo_plain_398 (by decide) ?_
            refine lv_icmp_ne (tgt := 414) hx hb d_Mo_plain_400 (by decide) (fun h => ?_) (fun h => ?_)
            · have hT := qa_f hT h
              refine lv_iload_n hx hb d_Mo_plain_414 rfl (lv_at hl 2 rfl) ?_
              refine lv_bipush (v := 18) hx hb d_Mo_plain_415 (by decide) ?_
              refine lv_icmp_ne (tgt := 429) hx hb d_Mo_plain_417 (by decide) (fun h => ?_) (fun h => ?_)
              · have hT := qa_f hT h
                refine lv_iload_n hx hb d_Mo_plain_429 rfl (lv_at hl 2 rfl) ?_
                refine lv_bipush (v := 19) hx hb d_Mo_plain_430 (by decide) ?_
                refine lv_icmp_ne (tgt := 467) hx hb d_Mo_plain_432 (by decide) (fun h => ?_) (fun h => ?_)
                · have hT := qa_f hT h
                  refine lv_iload_n hx hb d_Mo_plain_467 rfl (lv_at hl 2 rfl) ?_
                  refine lv_bipush (v := 20) hx hb d_Mo_plain_468 (by decide) ?_
                  refine lv_icmp_ne (tgt := 479) hx hb d_Mo_plain_470 (by decide) (fun h => ?_) (fun h => ?_)
                  · have hT := qa_f hT h
                    exact b479 g x1 x4 _ _ _ (lv_sub hl [0, 1, 4] rfl) hO hT
                  · have hT := qa_t hT h
                    refine lv_aload_n hx hb d_Mo_plain_473 rfl (lv_at hl 0 rfl) ?_
                    refine lv_iload hx hb d_Mo_plain_474 (lv_at hl 5 rfl) ?_
                    obtain ⟨t476, ht476, hT⟩ := qa_b hT
                    refine qa_Vv (As := [.int x5]) (rest := []) (r := 0) S hK hN hA hO (mc_Mo_print l D cI cJ cF cZ ad g x5) ht476 qy_Mo_print lm_Mo_275 ⟨by decide, by decide⟩ (by decide) rfl rfl rfl rfl hl.1 rfl (Nat.le_of_ble_eq_true rfl) d_Mo_plain_476 (fun H locs hO => ?_)
                    exact b479 t476.2 x1 x4 _ _ _ (lv_sub hl [0, 1, 4] rfl) hO hT
                · have hT := qa_t hT h
                  refine lv_aload_n hx hb d_Mo_plain_435 rfl (lv_at hl 0 rfl) ?_
                  refine lv_iload hx hb d_Mo_plain_436 (lv_at hl 5 rfl) ?_
                  refine lv_if_lt (tgt := 460) hx hb d_Mo_plain_438 (by decide) (fun h => ?_) (fun h => ?_)
                  · have hT := qa_t hT h
                    exact b460 g x1 x4 _ _ _ (lv_sub hl [0, 1, 4] rfl) hO hT
                  · have hT := qa_f hT h
                    refine lv_aload_n hx hb d_Mo_plain_441 rfl (lv_at hl 0 rfl) ?_
                    refine lv_aload_n hx hb d_Mo_plain_442 rfl (lv_at hl 0 rfl) ?_
                    refine qa_get S hK hO hi_Mo 0 (by decide) rfl rfl 41 (by decide) lf_Mo_92 rfl rfl d_Mo_plain_443 ?_
                    refine lv_iload hx hb d_Mo_plain_446 (lv_at hl 5 rfl) ?_
                    obtain ⟨hi448, hT⟩ := qa_c hT
                    refine qa_iald (n := 16) S hK hO 28 (by decide) 0 (me_arr rfl) rfl hi448 d_Mo_plain_448 ?_
                    refine lv_iload_n hx hb d_Mo_plain_449 rfl (lv_at hl 3 rfl) ?_
                    obtain ⟨t450, ht450, hT⟩ := qa_b hT
                    refine qa_Vi (As := [.int (g 28 x5.toNatClampNeg), .int x3]) (rest := [.ref (ad 0)]) (r := 0) S hK hN hA hO (mc_Mo_isOf l D cI cJ cF cZ ad g (g 28 x5.toNatClampNeg) x3) ht450 qy_Mo_isOf lm_Mo_142 ⟨by decide, by decide⟩ (by decide) rfl rfl rfl rfl hl.1 rfl (Nat.le_of_ble_eq_true rfl) d_Mo_plain_450 (fun H locs hO => ?_)
                    refine lv_if_eq (tgt := 460) hx hb d_Mo_plain_453 (by decide) (fun h => ?_) (fun h => ?_)
                    · have hT := qa_t hT h
                      exact b460 t450.2 x1 x4 _ _ _ (lv_sub hl [0, 1, 4] rfl) hO hT
                    · have hT := qa_f hT h
                      refine lv_iconst (v := 1) hx hb d_Mo_plain_456 (by decide) ?_
                      refine lv_goto (tgt := 461) hx hb d_Mo_plain_457 (by decide) ?_
                      exact b461 t450.2 x1 x4 (1 : Int32) _ _ _ (lv_sub hl [0, 1, 4] rfl) hO hT
              · have hT := qa_t hT h
                refine lv_aload_n hx hb d_Mo_plain_420 rfl (lv_at hl 0 rfl) ?_
                refine lv_iload hx hb d_Mo_plain_421 (lv_at hl 5 rfl) ?_
                obtain ⟨t423, ht423, hT⟩ := qa_b hT
                refine qa_Vv (As := [.int x5]) (rest := []) (r := 0) S hK hN hA hO (mc_Mo_push l D cI cJ cF cZ ad g x5) ht423 qy_Mo_push lm_Mo_269 ⟨by decide, by decide⟩ (by decide) rfl rfl rfl rfl hl.1 rfl (Nat.le_of_ble_eq_true rfl) d_Mo_plain_423 (fun H locs hO => ?_)
                refine lv_goto (tgt := 479) hx hb d_Mo_plain_426 (by decide) ?_
                exact b479 t423.2 x1 x4 _ _ _ (lv_sub hl [0, 1, 4] rfl) hO hT
            · have hT := qa_t hT h
              refine lv_aload_n hx hb d_Mo_plain_403 rfl (lv_at hl 0 rfl) ?_
              refine qa_get S hK hO hi_Mo 0 (by decide) rfl rfl 43 (by decide) lf_Mo_98 rfl rfl d_Mo_plain_404 ?_
              refine lv_iload_n hx hb d_Mo_plain_407 rfl (lv_at hl 3 rfl) ?_
              refine lv_iload hx hb d_Mo_plain_408 (lv_at hl 5 rfl) ?_
              obtain ⟨hi410, hT⟩ := qa_c hT
              refine qa_iast (n := 6) S hK hO 30 (by decide) 0 (me_arr rfl) rfl hi410 d_Mo_plain_410 (fun H locs hO => ?_)
              refine lv_goto (tgt := 479) hx hb d_Mo_plain_411 (by decide) ?_
              exact b479 (qa_up g 30 x3.toNatClampNeg x5) x1 x4 _ _ _ (lv_sub hl [0, 1, 4] rfl) hO hT
          · have hT := qa_t hT h
            refine lv_aload_n hx hb d_Mo_plain_384 rfl (lv_at hl 0 rfl) ?_
            refine lv_aload_n hx hb d_Mo_plain_385 rfl (lv_at hl 0 rfl) ?_
            refine qa_get S hK hO hi_Mo 0 (by decide) rfl rfl 43 (by decide) lf_Mo_98 rfl rfl d_Mo_plain_386 ?_
            refine lv_iload_n hx hb d_Mo_plain_389 rfl (lv_at hl 3 rfl) ?_
            obtain ⟨hi390, hT⟩ := qa_c hT
            refine qa_iald (n := 6) S hK hO 30 (by decide) 0 (me_arr rfl) rfl hi390 d_Mo_plain_390 ?_
            obtain ⟨t391, ht391, hT⟩ := qa_b hT
            refine qa_Vv (As := [.int (g 30 x3.toNatClampNeg)]) (rest := []) (r := 0) S hK hN hA hO (mc_Mo_push l D cI cJ cF cZ ad g (g 30 x3.toNatClampNeg)) ht391 qy_Mo_push lm_Mo_269 ⟨by decide, by decide⟩ (by decide) rfl rfl rfl rfl hl.1 rfl (Nat.le_of_ble_eq_true rfl) d_Mo_plain_391 (fun H locs hO => ?_)
            refine lv_goto (tgt := 479) hx hb d_Mo_plain_394 (by decide) ?_
            exact b479 t391.2 x1 x4 _ _ _ (lv_sub hl [0, 1, 4] rfl) hO hT
        · have hT := qa_t hT h
          refine lv_aload_n hx hb d_Mo_plain_361 rfl (lv_at hl 0 rfl) ?_
          refine qa_get S hK hO hi_Mo 0 (by decide) rfl rfl 42 (by decide) lf_Mo_95 rfl rfl d_Mo_plain_362 ?_
          refine lv_bipush (v := 6) hx hb d_Mo_plain_365 (by decide) ?_
          refine lv_iload hx hb d_Mo_plain_367 (lv_at hl 6 rfl) ?_
          refine lv_imul hx hb d_Mo_plain_369 ?_
          refine lv_iload_n hx hb d_Mo_plain_370 rfl (lv_at hl 3 rfl) ?_
          refine lv_iadd hx hb d_Mo_plain_371 ?_
          refine lv_iload hx hb d_Mo_plain_372 (lv_at hl 5 rfl) ?_
          obtain ⟨hi374, hT⟩ := qa_c hT
          refine qa_iast (n := 96) S hK hO 29 (by decide) 0 (me_arr rfl) rfl hi374 d_Mo_plain_374 (fun H locs hO => ?_)
          refine lv_goto (tgt := 479) hx hb d_Mo_plain_375 (by decide) ?_
          exact b479 (qa_up g 29 (((6 : Int32) * x6) + x3).toNatClampNeg x5) x1 x4 _ _ _ (lv_sub hl [0, 1, 4] rfl) hO hT
      · have hT := qa_t hT h
        refine lv_aload_n hx hb d_Mo_plain_336 rfl (lv_at hl 0 rfl) ?_
        refine lv_aload_n hx hb d_Mo_plain_337 rfl (lv_at hl 0 rfl) ?_
        refine qa_get S hK hO hi_Mo 0 (by decide) rfl rfl 42 (by decide) lf_Mo_95 rfl rfl d_Mo_plain_338 ?_
        refine lv_bipush (v := 6) hx hb d_Mo_plain_341 (by decide) ?_
        refine lv_iload hx hb d_Mo_plain_343 (lv_at hl 5 rfl) ?_
        refine lv_imul hx hb d_Mo_plain_345 ?_
        refine lv_iload_n hx hb d_Mo_plain_346 rfl (lv_at hl 3 rfl) ?_
        refine lv_iadd hx hb d_Mo_plain_347 ?_
        obtain ⟨hi348, hT⟩ := qa_c hT
        refine qa_iald (n := 96) S hK hO 29 (by decide) 0 (me_arr rfl) rfl hi348 d_Mo_plain_348 ?_
        obtain ⟨t349, ht349, hT⟩ := qa_b hT
        refine qa_Vv (As := [.int (g 29 (((6 : Int32) * x5) + x3).toNatClampNeg)]) (rest := []) (r := 0) S hK hN hA hO (mc_Mo_push l D cI cJ cF cZ ad g (g 29 (((6 : Int32) * x5) + x3).toNatClampNeg)) ht349 qy_Mo_push lm_Mo_269 ⟨by decide, by decide⟩ (by decide) rfl rfl rfl rfl hl.1 rfl (Nat.le_of_ble_eq_true rfl) d_Mo_plain_349 (fun H locs hO => ?_)
        refine lv_goto (tgt := 479) hx hb d_Mo_plain_352 (by decide) ?_
        exact b479 t349.2 x1 x4 _ _ _ (lv_sub hl [0, 1, 4] rfl) hO hT
    · have hT := qa_t hT h
      refine lv_aload_n hx hb d_Mo_plain_322 rfl (lv_at hl 0 rfl) ?_
      refine lv_iload_n hx hb d_Mo_plain_323 rfl (lv_at hl 3 rfl) ?_
      obtain ⟨t324, ht324, hT⟩ := qa_b hT
      refine qa_Vv (As := [.int x3]) (rest := []) (r := 0) S hK hN hA hO (mc_Mo_create l D cI cJ cF cZ ad g x3) ht324 qy_Mo_create lm_Mo_272 ⟨by decide, by decide⟩ (by decide) rfl rfl rfl rfl hl.1 rfl (Nat.le_of_ble_eq_true rfl) d_Mo_plain_324 (fun H locs hO => ?_)
      refine lv_goto (tgt := 479) hx hb d_Mo_plain_327 (by decide) ?_
      exact b479 t324.2 x1 x4 _ _ _ (lv_sub hl [0, 1, 4] rfl) hO hT
  have b310 : ∀ (g : qa_St) (x1 : Int32) (x3 : Int32) (ls : Array Slot) (H : Heap) (locs : List Loc), lv_has ls 7 [(0, .ref (ad 0)), (1, .int x1), (3, .int x3)] → qa_O D 33 ad (me_en cI cZ ad) A s.heap g H locs → mf_Mo_plain_310 g x1 x3 = some T → W p l e (qa_rm 2 44) s m args below meth c H locs 0 0 Q (F0 m 310 ls []) := by
    intro g x1 x3 ls H locs hl hO hT
    unfold mf_Mo_plain_310 at hT
    refine lv_iload_n hx hb d_Mo_plain_310 rfl (lv_at hl 2 rfl) ?_
    refine lv_istore (lv' := [(4, .int x3), (0, .ref (ad 0)), (1, .int x1), (3, .int x3)]) hx hb d_Mo_plain_311 hl (by decide) rfl (fun ls hl => ?_)
    refine lv_goto (tgt := 479) hx hb d_Mo_plain_313 (by decide) ?_
    exact b479 g x1 x3 _ _ _ (lv_sub hl [1, 2, 0] rfl) hO hT
  have b155 : ∀ (g : qa_St) (x1 : Int32) (x2 : Int32) (x3 : Int32) (x4 : Int32) (x5 : Int32) (x6 : Int32) (ls : Array Slot) (H : Heap) (locs : List Loc), lv_has ls 7 [(0, .ref (ad 0)), (1, .int x1), (2, .int x2), (3, .int x3), (4, .int x4), (5, .int x5), (6, .int x6)] → qa_O D 33 ad (me_en cI cZ ad) A s.heap g H locs → mf_Mo_plain_155 g x1 x2 x3 x4 x5 x6 = some T → W p l e (qa_rm 2 44) s m args below meth c H locs 0 0 Q (F0 m 155 ls []) := by
    intro g x1 x2 x3 x4 x5 x6 ls H locs hl hO hT
    unfold mf_Mo_plain_155 at hT
    refine lv_iload_n hx hb d_Mo_plain_155 rfl (lv_at hl 2 rfl) ?_
    refine lv_if_ne (tgt := 167) hx hb d_Mo_plain_156 (by decide) (fun h => ?_) (fun h => ?_)
    · have hT := qa_f hT h
      refine lv_iload_n hx hb d_Mo_plain_167 rfl (lv_at hl 2 rfl) ?_
      refine lv_iconst (v := 1) hx hb d_Mo_plain_168 (by decide) ?_
      refine lv_icmp_ne (tgt := 180) hx hb d_Mo_plain_169 (by decide) (fun h => ?_) (fun h => ?_)
      · have hT := qa_f hT h
        refine lv_iload_n hx hb d_Mo_plain_180 rfl (lv_at hl 2 rfl) ?_
        refine lv_iconst (v := 2) hx hb d_Mo_plain_181 (by decide) ?_
        refine lv_icmp_ne (tgt := 202) hx hb d_Mo_plain_182 (by decide) (fun h => ?_) (fun h => ?_)
        · have hT := qa_f hT h
          refine lv_iload_n hx hb d_Mo_plain_202 rfl (lv_at hl 2 rfl) ?_
          refine lv_iconst (v := 3) hx hb d_Mo_plain_203 (by decide) ?_
          refine lv_icmp_ne (tgt := 222) hx hb d_Mo_plain_204 (by decide) (fun h => ?_) (fun h => ?_)
          · have hT := qa_f hT h
            refine lv_iload_n hx hb d_Mo_plain_222 rfl (lv_at hl 2 rfl) ?_
            refine lv_iconst (v := 5) hx hb d_Mo_plain_223 (by decide) ?_
            refine lv_icmp_ne (tgt := 239) hx hb d_Mo_plain_224 (by decide) (fun h => ?_) (fun h => ?_)
            · have hT := qa_f hT h
              refine lv_iload_n hx hb d_Mo_plain_239 rfl (lv_at hl 2 rfl) ?_
              refine lv_bipush (v := 6) hx hb d_Mo_plain_240 (by decide) ?_
              refine lv_icmp_ne (tgt := 257) hx hb d_Mo_plain_242 (by decide) (fun h => ?_) (fun h => ?_)
              · have hT := qa_f hT h
                refine lv_iload_n hx hb d_Mo_plain_257 rfl (lv_at hl 2 rfl) ?_
                refine lv_bipush (v := 7) hx hb d_Mo_plain_258 (by decide) ?_
                refine lv_icmp_ne (tgt := 275) hx hb d_Mo_plain_260 (by decide) (fun h => ?_) (fun h => ?_)
                · have hT := qa_f hT h
                  refine lv_iload_n hx hb d_Mo_plain_275 rfl (lv_at hl 2 rfl) ?_
                  refine lv_bipush (v := 8) hx hb d_Mo_plain_276 (by decide) ?_
                  refine lv_icmp_ne (tgt := 293) hx hb d_Mo_plain_278 (by decide) (fun h => ?_) (fun h => ?_)
                  · have hT := qa_f hT h
                    refine lv_iload_n hx hb d_Mo_plain_293 rfl (lv_at hl 2 rfl) ?_
                    refine lv_bipush (v := 9) hx hb d_Mo_plain_294 (by decide) ?_
                    refine lv_icmp_eq (tgt := 310) hx hb d_Mo_plain_296 (by decide) (fun h => ?_) (fun h => ?_)
                    · have hT := qa_t hT h
                      exact b310 g x1 x3 _ _ _ (lv_sub hl [0, 1, 3] rfl) hO hT
                    · have hT := qa_f hT h
                      refine lv_iload_n hx hb d_Mo_plain_299 rfl (lv_at hl 2 rfl) ?_
                      refine lv_bipush (v := 10) hx hb d_Mo_plain_300 (by decide) ?_
                      refine lv_icmp_ne (tgt := 316) hx hb d_Mo_plain_302 (by decide) (fun h => ?_) (fun h => ?_)
                      · have hT := qa_f hT h
                        exact b316 g x1 x2 x3 x4 x5 x6 _ _ _ (lv_sub hl [0, 1, 2, 3, 4, 5, 6] rfl) hO hT
                      · have hT := qa_t hT h
                        refine lv_iload hx hb d_Mo_plain_305 (lv_at hl 5 rfl) ?_
                        refine lv_if_gt (tgt := 316) hx hb d_Mo_plain_307 (by decide) (fun h => ?_) (fun h => ?_)
                        · have hT := qa_t hT h
                          exact b316 g x1 x2 x3 x4 x5 x6 _ _ _ (lv_sub hl [0, 1, 2, 3, 4, 5, 6] rfl) hO hT
                        · have hT := qa_f hT h
                          exact b310 g x1 x3 _ _ _ (lv_sub hl [0, 1, 3] rfl) hO hT
                  · have hT := qa_t hT h
                    refine lv_aload_n hx hb d_Mo_plain_281 rfl (lv_at hl 0 rfl) ?_
                    refine lv_iload hx hb d_Mo_plain_282 (lv_at hl 6 rfl) ?_
                    refine lv_iload hx hb d_Mo_plain_284 (lv_at hl 5 rfl) ?_
                    obtain ⟨hi286, hT⟩ := qa_c hT
                    refine lv_idiv hx hb d_Mo_plain_286 hi286 ?_
                    obtain ⟨t287, ht287, hT⟩ := qa_b hT
                    refine qa_Vv (As := [.int (x6 / x5)]) (rest := []) (r := 0) S hK hN hA hO (mc_Mo_push l D cI cJ cF cZ ad g (x6 / x5)) ht287 qy_Mo_push lm_Mo_269 ⟨by decide, by decide⟩ (by decide) rfl rfl rfl rfl hl.1 rfl (Nat.le_of_ble_eq_true rfl) d_Mo_plain_287 (fun H locs hO => ?_)
                    refine lv_goto (tgt := 479) hx hb d_Mo_plain_290 (by decide) ?_
                    exact b479 t287.2 x1 x4 _ _ _ (lv_sub hl [0, 1, 4] rfl) hO hT
                · have hT := qa_t hT h
                  refine lv_aload_n hx hb d_Mo_plain_263 rfl (lv_at hl 0 rfl) ?_
                  refine lv_iload hx hb d_Mo_plain_264 (lv_at hl 6 rfl) ?_
                  refine lv_iload hx hb d_Mo_plain_266 (lv_at hl 5 rfl) ?_
                  refine lv_imul hx hb d_Mo_plain_268 ?_
                  obtain ⟨t269, ht269, hT⟩ := qa_b hT
                  refine qa_Vv (As := [.int (x6 * x5)]) (rest := []) (r := 0) S hK hN hA hO (mc_Mo_push l D cI cJ cF cZ ad g (x6 * x5)) ht269 qy_Mo_push lm_Mo_269 ⟨by decide, by decide⟩ (by decide) rfl rfl rfl rfl hl.1 rfl (Nat.le_of_ble_eq_true rfl) d_Mo_plain_269 (fun H locs hO => ?_)
                  refine lv_goto (tgt := 479) hx hb d_Mo_plain_272 (by decide) ?_
                  exact b479 t269.2 x1 x4 _ _ _ (lv_sub hl [0, 1, 4] rfl) hO hT
              · have hT := qa_t hT h
                refine lv_aload_n hx hb d_Mo_plain_245 rfl (lv_at hl 0 rfl) ?_
                refine lv_iload hx hb d_Mo_plain_246 (lv_at hl 6 rfl) ?_
                refine lv_iload hx hb d_Mo_plain_248 (lv_at hl 5 rfl) ?_
                refine lv_isub hx hb d_Mo_plain_250 ?_
                obtain ⟨t251, ht251, hT⟩ := qa_b hT
                refine qa_Vv (As := [.int (x6 - x5)]) (rest := []) (r := 0) S hK hN hA hO (mc_Mo_push l D cI cJ cF cZ ad g (x6 - x5)) ht251 qy_Mo_push lm_Mo_269 ⟨by decide, by decide⟩ (by decide) rfl rfl rfl rfl hl.1 rfl (Nat.le_of_ble_eq_true rfl) d_Mo_plain_251 (fun H locs hO => ?_)
                refine lv_goto (tgt := 479) hx hb d_Mo_plain_254 (by decide) ?_
                exact b479 t251.2 x1 x4 _ _ _ (lv_sub hl [0, 1, 4] rfl) hO hT
            · have hT := qa_t hT h
              refine lv_aload_n hx hb d_Mo_plain_227 rfl (lv_at hl 0 rfl) ?_
              refine lv_iload hx hb d_Mo_plain_228 (lv_at hl 6 rfl) ?_
              refine lv_iload hx hb d_Mo_plain_230 (lv_at hl 5 rfl) ?_
              refine lv_iadd hx hb d_Mo_plain_232 ?_
              obtain ⟨t233, ht233, hT⟩ := qa_b hT
              refine qa_Vv (As := [.int (x6 + x5)]) (rest := []) (r := 0) S hK hN hA hO (mc_Mo_push l D cI cJ cF cZ ad g (x6 + x5)) ht233 qy_Mo_push lm_Mo_269 ⟨by decide, by decide⟩ (by decide) rfl rfl rfl rfl hl.1 rfl (Nat.le_of_ble_eq_true rfl) d_Mo_plain_233 (fun H locs hO => ?_)
              refine lv_goto (tgt := 479) hx hb d_Mo_plain_236 (by decide) ?_
              exact b479 t233.2 x1 x4 _ _ _ (lv_sub hl [0, 1, 4] rfl) hO hT
          · have hT := qa_t hT h
            refine lv_aload_n hx hb d_Mo_plain_207 rfl (lv_at hl 0 rfl) ?_
            refine qa_get S hK hO hi_Mo 0 (by decide) rfl rfl 38 (by decide) lf_Mo_86 rfl rfl d_Mo_plain_208 ?_
            refine lv_iconst (v := 4) hx hb d_Mo_plain_211 (by decide) ?_
            refine lv_iload_n hx hb d_Mo_plain_212 rfl (lv_at hl 1 rfl) ?_
            refine lv_imul hx hb d_Mo_plain_213 ?_
            refine lv_iload_n hx hb d_Mo_plain_214 rfl (lv_at hl 3 rfl) ?_
            refine lv_iadd hx hb d_Mo_plain_215 ?_
            refine lv_iload hx hb d_Mo_plain_216 (lv_at hl 5 rfl) ?_
            obtain ⟨hi218, hT⟩ := qa_c hT
            refine qa_iast (n := 40) S hK hO 26 (by decide) 0 (me_arr rfl) rfl hi218 d_Mo_plain_218 (fun H locs hO => ?_)
            refine lv_goto (tgt := 479) hx hb d_Mo_plain_219 (by decide) ?_
            exact b479 (qa_up g 26 (((4 : Int32) * x1) + x3).toNatClampNeg x5) x1 x4 _ _ _ (lv_sub hl [0, 1, 4] rfl) hO hT
        · have hT := qa_t hT h
          refine lv_aload_n hx hb d_Mo_plain_185 rfl (lv_at hl 0 rfl) ?_
          refine lv_aload_n hx hb d_Mo_plain_186 rfl (lv_at hl 0 rfl) ?_
          refine qa_get S hK hO hi_Mo 0 (by decide) rfl rfl 38 (by decide) lf_Mo_86 rfl rfl d_Mo_plain_187 ?_
          refine lv_iconst (v := 4) hx hb d_Mo_plain_190 (by decide) ?_
          refine lv_iload_n hx hb d_Mo_plain_191 rfl (lv_at hl 1 rfl) ?_
          refine lv_imul hx hb d_Mo_plain_192 ?_
          refine lv_iload_n hx hb d_Mo_plain_193 rfl (lv_at hl 3 rfl) ?_
          refine lv_iadd hx hb d_Mo_plain_194 ?_
          obtain ⟨hi195, hT⟩ := qa_c hT
          refine qa_iald (n := 40) S hK hO 26 (by decide) 0 (me_arr rfl) rfl hi195 d_Mo_plain_195 ?_
          obtain ⟨t196, ht196, hT⟩ := qa_b hT
          refine qa_Vv (As := [.int (g 26 (((4 : Int32) * x1) + x3).toNatClampNeg)]) (rest := []) (r := 0) S hK hN hA hO (mc_Mo_push l D cI cJ cF cZ ad g (g 26 (((4 : Int32) * x1) + x3).toNatClampNeg)) ht196 qy_Mo_push lm_Mo_269 ⟨by decide, by decide⟩ (by decide) rfl rfl rfl rfl hl.1 rfl (Nat.le_of_ble_eq_true rfl) d_Mo_plain_196 (fun H locs hO => ?_)
          refine lv_goto (tgt := 479) hx hb d_Mo_plain_199 (by decide) ?_
          exact b479 t196.2 x1 x4 _ _ _ (lv_sub hl [0, 1, 4] rfl) hO hT
      · have hT := qa_t hT h
        refine lv_aload_n hx hb d_Mo_plain_172 rfl (lv_at hl 0 rfl) ?_
        refine lv_iconst (v := -1) hx hb d_Mo_plain_173 (by decide) ?_
        obtain ⟨t174, ht174, hT⟩ := qa_b hT
        refine qa_Vv (As := [.int (-1 : Int32)]) (rest := []) (r := 0) S hK hN hA hO (mc_Mo_push l D cI cJ cF cZ ad g (-1 : Int32)) ht174 qy_Mo_push lm_Mo_269 ⟨by decide, by decide⟩ (by decide) rfl rfl rfl rfl hl.1 rfl (Nat.le_of_ble_eq_true rfl) d_Mo_plain_174 (fun H locs hO => ?_)
        refine lv_goto (tgt := 479) hx hb d_Mo_plain_177 (by decide) ?_
        exact b479 t174.2 x1 x4 _ _ _ (lv_sub hl [0, 1, 4] rfl) hO hT
    · have hT := qa_t hT h
      refine lv_aload_n hx hb d_Mo_plain_159 rfl (lv_at hl 0 rfl) ?_
      refine lv_iload_n hx hb d_Mo_plain_160 rfl (lv_at hl 3 rfl) ?_
      obtain ⟨t161, ht161, hT⟩ := qa_b hT
      refine qa_Vv (As := [.int x3]) (rest := []) (r := 0) S hK hN hA hO (mc_Mo_push l D cI cJ cF cZ ad g x3) ht161 qy_Mo_push lm_Mo_269 ⟨by decide, by decide⟩ (by decide) rfl rfl rfl rfl hl.1 rfl (Nat.le_of_ble_eq_true rfl) d_Mo_plain_161 (fun H locs hO => ?_)
      refine lv_goto (tgt := 479) hx hb d_Mo_plain_164 (by decide) ?_
      exact b479 t161.2 x1 x4 _ _ _ (lv_sub hl [0, 1, 4] rfl) hO hT
  have b126 : ∀ (g : qa_St) (x1 : Int32) (x2 : Int32) (x3 : Int32) (x4 : Int32) (x5 : Int32) (x6 : Int32) (ls : Array Slot) (H : Heap) (locs : List Loc), lv_has ls 7 [(0, .ref (ad 0)), (1, .int x1), (2, .int x2), (3, .int x3), (4, .int x4), (5, .int x5), (6, .int x6)] → qa_O D 33 ad (me_en cI cZ ad) A s.heap g H locs → mf_Mo_plain_126 g x1 x2 x3 x4 x5 x6 = some T → W p l e (qa_rm 2 44) s m args below meth c H locs 0 0 Q (F0 m 126 ls []) := by
    intro g x1 x2 x3 x4 x5 x6 ls H locs hl hO hT
    unfold mf_Mo_plain_126 at hT
    refine lv_iload_n hx hb d_Mo_plain_126 rfl (lv_at hl 2 rfl) ?_
    refine lv_bipush (v := 18) hx hb d_Mo_plain_127 (by decide) ?_
    refine lv_icmp_ne (tgt := 155) hx hb d_Mo_plain_129 (by decide) (fun h => ?_) (fun h => ?_)
    · have hT := qa_f hT h
      exact b155 g x1 x2 x3 x4 x5 x6 _ _ _ (lv_sub hl [0, 1, 2, 3, 4, 5, 6] rfl) hO hT
    · have hT := qa_t hT h
      refine lv_iload hx hb d_Mo_plain_132 (lv_at hl 5 rfl) ?_
      refine lv_if_lt (tgt := 155) hx hb d_Mo_plain_134 (by decide) (fun h => ?_) (fun h => ?_)
      · have hT := qa_t hT h
        exact b155 g x1 x2 x3 x4 x5 x6 _ _ _ (lv_sub hl [0, 1, 2, 3, 4, 5, 6] rfl) hO hT
      · have hT := qa_f hT h
        refine lv_aload_n hx hb d_Mo_plain_137 rfl (lv_at hl 0 rfl) ?_
        refine lv_aload_n hx hb d_Mo_plain_138 rfl (lv_at hl 0 rfl) ?_
        refine qa_get S hK hO hi_Mo 0 (by decide) rfl rfl 41 (by decide) lf_Mo_92 rfl rfl d_Mo_plain_139 ?_
        refine lv_iload hx hb d_Mo_plain_142 (lv_at hl 5 rfl) ?_
        obtain ⟨hi144, hT⟩ := qa_c hT
        refine qa_iald (n := 16) S hK hO 28 (by decide) 0 (me_arr rfl) rfl hi144 d_Mo_plain_144 ?_
        refine lv_iload_n hx hb d_Mo_plain_145 rfl (lv_at hl 3 rfl) ?_
        obtain ⟨t146, ht146, hT⟩ := qa_b hT
        refine qa_Vi (As := [.int (g 28 x5.toNatClampNeg), .int x3]) (rest := []) (r := 0) S hK hN hA hO (mc_Mo_isOf l D cI cJ cF cZ ad g (g 28 x5.toNatClampNeg) x3) ht146 qy_Mo_isOf lm_Mo_142 ⟨by decide, by decide⟩ (by decide) rfl rfl rfl rfl hl.1 rfl (Nat.le_of_ble_eq_true rfl) d_Mo_plain_146 (fun H locs hO => ?_)
        refine lv_if_ne (tgt := 155) hx hb d_Mo_plain_149 (by decide) (fun h => ?_) (fun h => ?_)
        · have hT := qa_f hT h
          exact b155 t146.2 x1 x2 x3 x4 x5 x6 _ _ _ (lv_sub hl [0, 1, 2, 3, 4, 5, 6] rfl) hO hT
        · have hT := qa_t hT h
          refine lv_bipush (v := -3) hx hb d_Mo_plain_152 (by decide) ?_
          exact ret hT hO d_Mo_plain_154
  have b108 : ∀ (g : qa_St) (x1 : Int32) (x2 : Int32) (x3 : Int32) (x4 : Int32) (x5 : Int32) (x6 : Int32) (ls : Array Slot) (H : Heap) (locs : List Loc), lv_has ls 7 [(0, .ref (ad 0)), (1, .int x1), (2, .int x2), (3, .int x3), (4, .int x4), (5, .int x5), (6, .int x6)] → qa_O D 33 ad (me_en cI cZ ad) A s.heap g H locs → mf_Mo_plain_108 g x1 x2 x3 x4 x5 x6 = some T → W p l e (qa_rm 2 44) s m args below meth c H locs 0 0 Q (F0 m 108 ls []) := by
    intro g x1 x2 x3 x4 x5 x6 ls H locs hl hO hT
    unfold mf_Mo_plain_108 at hT
    refine lv_iload_n hx hb d_Mo_plain_108 rfl (lv_at hl 2 rfl) ?_
    refine lv_bipush (v := 11) hx hb d_Mo_plain_109 (by decide) ?_
    refine lv_icmp_ne (tgt := 126) hx hb d_Mo_plain_111 (by decide) (fun h => ?_) (fun h => ?_)
    · have hT := qa_f hT h
      exact b126 g x1 x2 x3 x4 x5 x6 _ _ _ (lv_sub hl [0, 1, 2, 3, 4, 5, 6] rfl) hO hT
    · have hT := qa_t hT h
      refine lv_aload_n hx hb d_Mo_plain_114 rfl (lv_at hl 0 rfl) ?_
      refine qa_get S hK hO hi_Mo 0 (by decide) rfl rfl 40 (by decide) lf_Mo_229 rfl rfl d_Mo_plain_115 ?_
      refine lv_bipush (v := 16) hx hb d_Mo_plain_118 (by decide) ?_
      refine lv_icmp_ne (tgt := 126) hx hb d_Mo_plain_120 (by decide) (fun h => ?_) (fun h => ?_)
      · have hT := qa_f hT h
        exact b126 g x1 x2 x3 x4 x5 x6 _ _ _ (lv_sub hl [0, 1, 2, 3, 4, 5, 6] rfl) hO hT
      · have hT := qa_t hT h
        refine lv_bipush (v := -4) hx hb d_Mo_plain_123 (by decide) ?_
        exact ret hT hO d_Mo_plain_125
  have b95 : ∀ (g : qa_St) (x1 : Int32) (x2 : Int32) (x3 : Int32) (x4 : Int32) (x5 : Int32) (x6 : Int32) (ls : Array Slot) (H : Heap) (locs : List Loc), lv_has ls 7 [(0, .ref (ad 0)), (1, .int x1), (2, .int x2), (3, .int x3), (4, .int x4), (5, .int x5), (6, .int x6)] → qa_O D 33 ad (me_en cI cZ ad) A s.heap g H locs → mf_Mo_plain_95 g x1 x2 x3 x4 x5 x6 = some T → W p l e (qa_rm 2 44) s m args below meth c H locs 0 0 Q (F0 m 95 ls []) := by
    intro g x1 x2 x3 x4 x5 x6 ls H locs hl hO hT
    unfold mf_Mo_plain_95 at hT
    refine lv_iload_n hx hb d_Mo_plain_95 rfl (lv_at hl 2 rfl) ?_
    refine lv_bipush (v := 13) hx hb d_Mo_plain_96 (by decide) ?_
    refine lv_icmp_ne (tgt := 108) hx hb d_Mo_plain_98 (by decide) (fun h => ?_) (fun h => ?_)
    · have hT := qa_f hT h
      exact b108 g x1 x2 x3 x4 x5 x6 _ _ _ (lv_sub hl [0, 1, 2, 3, 4, 5, 6] rfl) hO hT
    · have hT := qa_t hT h
      refine lv_iload hx hb d_Mo_plain_101 (lv_at hl 6 rfl) ?_
      refine lv_if_ge (tgt := 108) hx hb d_Mo_plain_103 (by decide) (fun h => ?_) (fun h => ?_)
      · have hT := qa_t hT h
        exact b108 g x1 x2 x3 x4 x5 x6 _ _ _ (lv_sub hl [0, 1, 2, 3, 4, 5, 6] rfl) hO hT
      · have hT := qa_f hT h
        refine lv_iconst (v := -1) hx hb d_Mo_plain_106 (by decide) ?_
        exact ret hT hO d_Mo_plain_107
  have b84 : ∀ (g : qa_St) (x1 : Int32) (x2 : Int32) (x3 : Int32) (x4 : Int32) (x5 : Int32) (x6 : Int32) (ls : Array Slot) (H : Heap) (locs : List Loc), lv_has ls 7 [(0, .ref (ad 0)), (1, .int x1), (2, .int x2), (3, .int x3), (4, .int x4), (5, .int x5), (6, .int x6)] → qa_O D 33 ad (me_en cI cZ ad) A s.heap g H locs → mf_Mo_plain_84 g x1 x2 x3 x4 x5 x6 = some T → W p l e (qa_rm 2 44) s m args below meth c H locs 0 0 Q (F0 m 84 ls []) := by
    intro g x1 x2 x3 x4 x5 x6 ls H locs hl hO hT
    unfold mf_Mo_plain_84 at hT
    refine lv_iload_n hx hb d_Mo_plain_84 rfl (lv_at hl 2 rfl) ?_
    refine lv_bipush (v := 12) hx hb d_Mo_plain_85 (by decide) ?_
    refine lv_icmp_ne (tgt := 95) hx hb d_Mo_plain_87 (by decide) (fun h => ?_) (fun h => ?_)
    · have hT := qa_f hT h
      exact b95 g x1 x2 x3 x4 x5 x6 _ _ _ (lv_sub hl [0, 1, 2, 3, 4, 5, 6] rfl) hO hT
    · have hT := qa_t hT h
      refine lv_iload hx hb d_Mo_plain_90 (lv_at hl 5 rfl) ?_
      refine lv_if_lt (tgt := 106) hx hb d_Mo_plain_92 (by decide) (fun h => ?_) (fun h => ?_)
      · have hT := qa_t hT h
        refine lv_iconst (v := -1) hx hb d_Mo_plain_106 (by decide) ?_
        exact ret hT hO d_Mo_plain_107
      · have hT := qa_f hT h
        exact b95 g x1 x2 x3 x4 x5 x6 _ _ _ (lv_sub hl [0, 1, 2, 3, 4, 5, 6] rfl) hO hT
  have b68 : ∀ (g : qa_St) (x1 : Int32) (x2 : Int32) (x3 : Int32) (x4 : Int32) (x5 : Int32) (s0 : Int32) (ls : Array Slot) (H : Heap) (locs : List Loc), lv_has ls 7 [(0, .ref (ad 0)), (1, .int x1), (2, .int x2), (3, .int x3), (4, .int x4), (5, .int x5)] → qa_O D 33 ad (me_en cI cZ ad) A s.heap g H locs → mf_Mo_plain_68 g x1 x2 x3 x4 x5 s0 = some T → W p l e (qa_rm 2 44) s m args below meth c H locs 0 0 Q (F0 m 68 ls [.int s0]) := by
    intro g x1 x2 x3 x4 x5 s0 ls H locs hl hO hT
    unfold mf_Mo_plain_68 at hT
    refine lv_istore (lv' := [(6, .int s0), (0, .ref (ad 0)), (1, .int x1), (2, .int x2), (3, .int x3), (4, .int x4), (5, .int x5)]) hx hb d_Mo_plain_68 hl (by decide) rfl (fun ls hl => ?_)
    refine lv_iload_n hx hb d_Mo_plain_70 rfl (lv_at hl 3 rfl) ?_
    refine lv_bipush (v := 8) hx hb d_Mo_plain_71 (by decide) ?_
    refine lv_icmp_ne (tgt := 84) hx hb d_Mo_plain_73 (by decide) (fun h => ?_) (fun h => ?_)
    · have hT := qa_f hT h
      exact b84 g x1 x2 x3 x4 x5 s0 _ _ _ (lv_sub hl [1, 2, 3, 4, 5, 6, 0] rfl) hO hT
    · have hT := qa_t hT h
      refine lv_iload hx hb d_Mo_plain_76 (lv_at hl 6 rfl) ?_
      refine lv_if_ne (tgt := 84) hx hb d_Mo_plain_78 (by decide) (fun h => ?_) (fun h => ?_)
      · have hT := qa_f hT h
        exact b84 g x1 x2 x3 x4 x5 s0 _ _ _ (lv_sub hl [1, 2, 3, 4, 5, 6, 0] rfl) hO hT
      · have hT := qa_t hT h
        refine lv_bipush (v := -2) hx hb d_Mo_plain_81 (by decide) ?_
        exact ret hT hO d_Mo_plain_83
  have b60 : ∀ (g : qa_St) (x1 : Int32) (x2 : Int32) (x3 : Int32) (x4 : Int32) (x5 : Int32) (ls : Array Slot) (H : Heap) (locs : List Loc), lv_has ls 7 [(0, .ref (ad 0)), (1, .int x1), (2, .int x2), (3, .int x3), (4, .int x4), (5, .int x5)] → qa_O D 33 ad (me_en cI cZ ad) A s.heap g H locs → mf_Mo_plain_60 g x1 x2 x3 x4 x5 = some T → W p l e (qa_rm 2 44) s m args below meth c H locs 0 0 Q (F0 m 60 ls []) := by
    intro g x1 x2 x3 x4 x5 ls H locs hl hO hT
    unfold mf_Mo_plain_60 at hT
    refine lv_aload_n hx hb d_Mo_plain_60 rfl (lv_at hl 0 rfl) ?_
    obtain ⟨t61, ht61, hT⟩ := qa_b hT
    refine qa_Vi (As := []) (rest := []) (r := 0) S hK hN hA hO (mc_Mo_pop l D cI cJ cF cZ ad g) ht61 qy_Mo_pop lm_Mo_258 ⟨by decide, by decide⟩ (by decide) rfl rfl rfl rfl hl.1 rfl (Nat.le_of_ble_eq_true rfl) d_Mo_plain_61 (fun H locs hO => ?_)
    refine lv_goto (tgt := 68) hx hb d_Mo_plain_64 (by decide) ?_
    exact b68 t61.2 x1 x2 x3 x4 x5 t61.1 _ _ _ (lv_sub hl [0, 1, 2, 3, 4, 5] rfl) hO hT
  have b54 : ∀ (g : qa_St) (x1 : Int32) (x2 : Int32) (x3 : Int32) (x4 : Int32) (x5 : Int32) (ls : Array Slot) (H : Heap) (locs : List Loc), lv_has ls 7 [(0, .ref (ad 0)), (1, .int x1), (2, .int x2), (3, .int x3), (4, .int x4), (5, .int x5)] → qa_O D 33 ad (me_en cI cZ ad) A s.heap g H locs → mf_Mo_plain_54 g x1 x2 x3 x4 x5 = some T → W p l e (qa_rm 2 44) s m args below meth c H locs 0 0 Q (F0 m 54 ls []) := by
    intro g x1 x2 x3 x4 x5 ls H locs hl hO hT
    unfold mf_Mo_plain_54 at hT
    refine lv_iload_n hx hb d_Mo_plain_54 rfl (lv_at hl 2 rfl) ?_
    refine lv_bipush (v := 13) hx hb d_Mo_plain_55 (by decide) ?_
    refine lv_icmp_ne (tgt := 67) hx hb d_Mo_plain_57 (by decide) (fun h => ?_) (fun h => ?_)
    · have hT := qa_f hT h
      refine lv_iconst (v := 0) hx hb d_Mo_plain_67 (by decide) ?_
      exact b68 g x1 x2 x3 x4 x5 (0 : Int32) _ _ _ (lv_sub hl [0, 1, 2, 3, 4, 5] rfl) hO hT
    · have hT := qa_t hT h
      exact b60 g x1 x2 x3 x4 x5 _ _ _ (lv_sub hl [0, 1, 2, 3, 4, 5] rfl) hO hT
  have b41 : ∀ (g : qa_St) (x1 : Int32) (x2 : Int32) (x3 : Int32) (x4 : Int32) (s0 : Int32) (ls : Array Slot) (H : Heap) (locs : List Loc), lv_has ls 7 [(0, .ref (ad 0)), (1, .int x1), (2, .int x2), (3, .int x3), (4, .int x4)] → qa_O D 33 ad (me_en cI cZ ad) A s.heap g H locs → mf_Mo_plain_41 g x1 x2 x3 x4 s0 = some T → W p l e (qa_rm 2 44) s m args below meth c H locs 0 0 Q (F0 m 41 ls [.int s0]) := by
    intro g x1 x2 x3 x4 s0 ls H locs hl hO hT
    unfold mf_Mo_plain_41 at hT
    refine lv_istore (lv' := [(5, .int s0), (0, .ref (ad 0)), (1, .int x1), (2, .int x2), (3, .int x3), (4, .int x4)]) hx hb d_Mo_plain_41 hl (by decide) rfl (fun ls hl => ?_)
    refine lv_iload_n hx hb d_Mo_plain_43 rfl (lv_at hl 3 rfl) ?_
    refine lv_iconst (v := 5) hx hb d_Mo_plain_44 (by decide) ?_
    refine lv_icmp_lt (tgt := 54) hx hb d_Mo_plain_45 (by decide) (fun h => ?_) (fun h => ?_)
    · have hT := qa_t hT h
      exact b54 g x1 x2 x3 x4 s0 _ _ _ (lv_sub hl [1, 2, 3, 4, 5, 0] rfl) hO hT
    · have hT := qa_f hT h
      refine lv_iload_n hx hb d_Mo_plain_48 rfl (lv_at hl 3 rfl) ?_
      refine lv_bipush (v := 8) hx hb d_Mo_plain_49 (by decide) ?_
      refine lv_icmp_le (tgt := 60) hx hb d_Mo_plain_51 (by decide) (fun h => ?_) (fun h => ?_)
      · have hT := qa_t hT h
        exact b60 g x1 x2 x3 x4 s0 _ _ _ (lv_sub hl [1, 2, 3, 4, 5, 0] rfl) hO hT
      · have hT := qa_f hT h
        exact b54 g x1 x2 x3 x4 s0 _ _ _ (lv_sub hl [1, 2, 3, 4, 5, 0] rfl) hO hT
  have b40 : ∀ (g : qa_St) (x1 : Int32) (x2 : Int32) (x3 : Int32) (x4 : Int32) (ls : Array Slot) (H : Heap) (locs : List Loc), lv_has ls 7 [(0, .ref (ad 0)), (1, .int x1), (2, .int x2), (3, .int x3), (4, .int x4)] → qa_O D 33 ad (me_en cI cZ ad) A s.heap g H locs → mf_Mo_plain_40 g x1 x2 x3 x4 = some T → W p l e (qa_rm 2 44) s m args below meth c H locs 0 0 Q (F0 m 40 ls []) := by
    intro g x1 x2 x3 x4 ls H locs hl hO hT
    unfold mf_Mo_plain_40 at hT
    refine lv_iconst (v := 0) hx hb d_Mo_plain_40 (by decide) ?_
    exact b41 g x1 x2 x3 x4 (0 : Int32) _ _ _ (lv_sub hl [0, 1, 2, 3, 4] rfl) hO hT
  unfold mf_Mo_plain at hT
  refine lv_aload_n hx hb d_Mo_plain_0 rfl (lv_at hl 0 rfl) ?_
  refine qa_get S hK hO hi_Mo 0 (by decide) rfl rfl 34 (by decide) lf_Mo_74 rfl rfl d_Mo_plain_1 ?_
  refine lv_iload_n hx hb d_Mo_plain_4 rfl (lv_at hl 1 rfl) ?_
  obtain ⟨hi5, hT⟩ := qa_c hT
  refine qa_iald (n := 10) S hK hO 22 (by decide) 0 (me_arr rfl) rfl hi5 d_Mo_plain_5 ?_
  refine lv_iconst (v := 1) hx hb d_Mo_plain_6 (by decide) ?_
  refine lv_iadd hx hb d_Mo_plain_7 ?_
  refine lv_istore (lv' := [(4, .int ((g 22 x1.toNatClampNeg) + (1 : Int32))), (0, .ref (ad 0)), (1, .int x1), (2, .int x2), (3, .int x3)]) hx hb d_Mo_plain_8 hl (by decide) rfl (fun ls hl => ?_)
  refine lv_iload_n hx hb d_Mo_plain_10 rfl (lv_at hl 3 rfl) ?_
  refine lv_iconst (v := 3) hx hb d_Mo_plain_11 (by decide) ?_
  refine lv_icmp_lt (tgt := 40) hx hb d_Mo_plain_12 (by decide) (fun h => ?_) (fun h => ?_)
  · have hT := qa_t hT h
    exact b40 g x1 x2 x3 ((g 22 x1.toNatClampNeg) + (1 : Int32)) _ _ _ (lv_sub hl [1, 2, 3, 4, 0] rfl) hO hT
  · have hT := qa_f hT h
    refine lv_iload_n hx hb d_Mo_plain_15 rfl (lv_at hl 3 rfl) ?_
    refine lv_bipush (v := 9) hx hb d_Mo_plain_16 (by decide) ?_
    refine lv_icmp_eq (tgt := 40) hx hb d_Mo_plain_18 (by decide) (fun h => ?_) (fun h => ?_)
    · have hT := qa_t hT h
      exact b40 g x1 x2 x3 ((g 22 x1.toNatClampNeg) + (1 : Int32)) _ _ _ (lv_sub hl [1, 2, 3, 4, 0] rfl) hO hT
    · have hT := qa_f hT h
      refine lv_iload_n hx hb d_Mo_plain_21 rfl (lv_at hl 3 rfl) ?_
      refine lv_bipush (v := 11) hx hb d_Mo_plain_22 (by decide) ?_
      refine lv_icmp_eq (tgt := 40) hx hb d_Mo_plain_24 (by decide) (fun h => ?_) (fun h => ?_)
      · have hT := qa_t hT h
        exact b40 g x1 x2 x3 ((g 22 x1.toNatClampNeg) + (1 : Int32)) _ _ _ (lv_sub hl [1, 2, 3, 4, 0] rfl) hO hT
      · have hT := qa_f hT h
        refine lv_iload_n hx hb d_Mo_plain_27 rfl (lv_at hl 3 rfl) ?_
        refine lv_bipush (v := 14) hx hb d_Mo_plain_28 (by decide) ?_
        refine lv_icmp_eq (tgt := 40) hx hb d_Mo_plain_30 (by decide) (fun h => ?_) (fun h => ?_)
        · have hT := qa_t hT h
          exact b40 g x1 x2 x3 ((g 22 x1.toNatClampNeg) + (1 : Int32)) _ _ _ (lv_sub hl [1, 2, 3, 4, 0] rfl) hO hT
        · have hT := qa_f hT h
          refine lv_aload_n hx hb d_Mo_plain_33 rfl (lv_at hl 1 rfl) ?_
          obtain ⟨t34, ht34, hT⟩ := qa_b hT
          refine qa_Vi (As := []) (rest := []) (r := 0) S hK hN hA hO (mc_Mo_pop l D cI cJ cF cZ ad g) ht34 qy_Mo_pop lm_Mo_258 ⟨by decide, by decide⟩ (by decide) rfl rfl rfl rfl hl.1 rfl (Nat.le_of_ble_eq_true rfl) d_Mo_plain_34 (fun H locs hO => ?_)
          refine lv_goto (tgt := 41) hx hb d_Mo_plain_37 (by decide) ?_
          exact b41 t34.2 x1 x2 x3 ((g 22 x1.toNatClampNeg) + (1 : Int32)) t34.1 _ _ _ (lv_sub hl [1, 2, 3, 4, 0] rfl) hO hT
