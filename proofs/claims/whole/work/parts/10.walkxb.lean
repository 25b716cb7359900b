def xf_Pr_operandFits (g : qa_St) (x1 : Int32) (x2 : Int32) : qa_Re := (if x1 = 1 then ((xf_Pr_isType g x2).bind fun t94 => (if t94.1 = 0 ∨ t94.1 = 1 then some (t94.1, t94.2) else none)) else (if x1 = 2 then ((xf_Cw_within g x2 (4 : Int32)).bind fun t100 => (if t100.1 = 0 ∨ t100.1 = 1 then some (t100.1, t100.2) else none)) else (if x1 = 3 then ((xf_Cw_within g x2 (4 : Int32)).bind fun t100 => (if t100.1 = 0 ∨ t100.1 = 1 then some (t100.1, t100.2) else none)) else (if x1 = 4 then (some ((1 : Int32), g)) else (if x1 = 5 then (some ((1 : Int32), g)) else (if x1 = 6 then (some ((1 : Int32), g)) else (if x1 = 7 then (some ((1 : Int32), g)) else (if x1 = 8 then (some ((1 : Int32), g)) else (if x1 = 9 then ((xf_Cw_within g x2 (20 : Int32)).bind fun t107 => (if t107.1 = 0 ∨ t107.1 = 1 then some (t107.1, t107.2) else none)) else (if x1 = 10 then ((xf_Cw_within g x2 (20 : Int32)).bind fun t107 => (if t107.1 = 0 ∨ t107.1 = 1 then some (t107.1, t107.2) else none)) else (if x1 = 11 then ((xf_Pr_isType g x2).bind fun t94 => (if t94.1 = 0 ∨ t94.1 = 1 then some (t94.1, t94.2) else none)) else (if x1 = 12 then ((xf_Cw_within g x2 (6 : Int32)).bind fun t114 => (if t114.1 = 0 ∨ t114.1 = 1 then some (t114.1, t114.2) else none)) else (if x1 = 13 then ((xf_Cw_within g x2 (6 : Int32)).bind fun t114 => (if t114.1 = 0 ∨ t114.1 = 1 then some (t114.1, t114.2) else none)) else (if x1 = 14 then ((xf_Pr_isType g x2).bind fun t94 => (if t94.1 = 0 ∨ t94.1 = 1 then some (t94.1, t94.2) else none)) else (if x1 = 15 then ((xf_Pr_isType g x2).bind fun t94 => (if t94.1 = 0 ∨ t94.1 = 1 then some (t94.1, t94.2) else none)) else (if x1 = 16 then ((xf_Pr_isPlain g x2).bind fun t120 => (if t120.1 = 0 ∨ t120.1 = 1 then some (t120.1, t120.2) else none)) else (if x1 = 17 then ((xf_Cw_within g x2 (4 : Int32)).bind fun t126 => (if t126.1 = 0 ∨ t126.1 = 1 then some (t126.1, t126.2) else none)) else (if x1 = 18 then ((xf_Pr_isType g x2).bind fun t94 => (if t94.1 = 0 ∨ t94.1 = 1 then some (t94.1, t94.2) else none)) else (if x1 = 19 then ((xf_Pr_isType g x2).bind fun t94 => (if t94.1 = 0 ∨ t94.1 = 1 then some (t94.1, t94.2) else none)) else (some ((1 : Int32), g)))))))))))))))))))))
set_option maxHeartbeats 4000000 in
set_option maxRecDepth 100000 in
theorem xc_Pr_operandFits (l : Launch) (D : va_G) (cI cJ cF cZ : ClassId) (ad : Nat → Nat) (g : qa_St) (x1 : Int32) (x2 : Int32) : qa_Mi l y_Pr_operandFits (qa_ws y_Pr_operandFits b_Pr_operandFits 3 (some .boolean)) (qa_rm 2 42) D (qa_ty cI cJ cF cZ) 107 ad (xe_en cI cJ cF ad) [.ref (ad 1), .int x1, .int x2] g (xf_Pr_operandFits g x1 x2) := by
  refine qa_metz (by decide) (Nat.le_of_ble_eq_true rfl) ?_
  intro p e s m args below meth c Q A T S hK hN hA hT ret ls hl hO
  have hx := S.1
  have hb := S.2.1
  have hl : lv_has ls 3 [(0, .ref (ad 1)), (1, .int x1), (2, .int x2)] := hl
  unfold xf_Pr_operandFits at hT
  refine lv_iload_n hx hb d_Pr_operandFits_0 rfl (lv_at hl 1 rfl) ?_
  by_cases h1_1 : x1 = 1
  · have hT := qa_t hT h1_1
    refine lv_tableIn (off := 91) (tgt := 92) hx hb d_Pr_operandFits_1 (by rw [h1_1]; decide) (by rw [h1_1]; decide) (by rw [h1_1]; rfl) (by decide) ?_
    refine lv_aload_n hx hb d_Pr_operandFits_92 rfl (lv_at hl 0 rfl) ?_
    refine lv_iload_n hx hb d_Pr_operandFits_93 rfl (lv_at hl 2 rfl) ?_
    obtain ⟨t94, ht94, hT⟩ := qa_b hT
    refine qa_Vi (As := [.int x2]) (rest := []) (r := 1) S hK hN hA hO (xc_Pr_isType l D cI cJ cF cZ ad g x2) ht94 qy_Pr_isType lm_Pr_56 ⟨by decide, by decide⟩ (by decide) rfl rfl rfl rfl hl.1 rfl (Nat.le_of_ble_eq_true rfl) d_Pr_operandFits_94 (fun H locs hO => ?_)
    obtain ⟨hz, hT⟩ := qa_k hT
    exact ret hz hT hO d_Pr_operandFits_97
  have hT := qa_f hT h1_1
  by_cases h1_2 : x1 = 2
  · have hT := qa_t hT h1_2
    refine lv_tableIn (off := 97) (tgt := 98) hx hb d_Pr_operandFits_1 (by rw [h1_2]; decide) (by rw [h1_2]; decide) (by rw [h1_2]; rfl) (by decide) ?_
    refine lv_iload_n hx hb d_Pr_operandFits_98 rfl (lv_at hl 2 rfl) ?_
    refine lv_iconst (v := 4) hx hb d_Pr_operandFits_99 (by decide) ?_
    obtain ⟨t100, ht100, hT⟩ := qa_b hT
    refine qa_SNi (As := [.int x2, .int (4 : Int32)]) (rest := []) S hK hN hA hO (xc_Cw_within l D cI cJ cF cZ ad g x2 (4 : Int32)) ht100 qy_Cw_within ln_Pr_80 ⟨by decide, by decide⟩ rfl hl.1 rfl (Nat.le_of_ble_eq_true rfl) d_Pr_operandFits_100 (fun H locs hO => ?_)
    obtain ⟨hz, hT⟩ := qa_k hT
    exact ret hz hT hO d_Pr_operandFits_103
  have hT := qa_f hT h1_2
  by_cases h1_3 : x1 = 3
  · have hT := qa_t hT h1_3
    refine lv_tableIn (off := 97) (tgt := 98) hx hb d_Pr_operandFits_1 (by rw [h1_3]; decide) (by rw [h1_3]; decide) (by rw [h1_3]; rfl) (by decide) ?_
    refine lv_iload_n hx hb d_Pr_operandFits_98 rfl (lv_at hl 2 rfl) ?_
    refine lv_iconst (v := 4) hx hb d_Pr_operandFits_99 (by decide) ?_
    obtain ⟨t100, ht100, hT⟩ := qa_b hT
    refine qa_SNi (As := [.int x2, .int (4 : Int32)]) (rest := []) S hK hN hA hO (xc_Cw_within l D cI cJ cF cZ ad g x2 (4 : Int32)) ht100 qy_Cw_within ln_Pr_80 ⟨by decide, by decide⟩ rfl hl.1 rfl (Nat.le_of_ble_eq_true rfl) d_Pr_operandFits_100 (fun H locs hO => ?_)
    obtain ⟨hz, hT⟩ := qa_k hT
    exact ret hz hT hO d_Pr_operandFits_103
  have hT := qa_f hT h1_3
  by_cases h1_4 : x1 = 4
  · have hT := qa_t hT h1_4
    refine lv_tableIn (off := 129) (tgt := 130) hx hb d_Pr_operandFits_1 (by rw [h1_4]; decide) (by rw [h1_4]; decide) (by rw [h1_4]; rfl) (by decide) ?_
    refine lv_iconst (v := 1) hx hb d_Pr_operandFits_130 (by decide) ?_
    exact ret (by decide) hT hO d_Pr_operandFits_131
  have hT := qa_f hT h1_4
  by_cases h1_5 : x1 = 5
  · have hT := qa_t hT h1_5
    refine lv_tableIn (off := 129) (tgt := 130) hx hb d_Pr_operandFits_1 (by rw [h1_5]; decide) (by rw [h1_5]; decide) (by rw [h1_5]; rfl) (by decide) ?_
    refine lv_iconst (v := 1) hx hb d_Pr_operandFits_130 (by decide) ?_
    exact ret (by decide) hT hO d_Pr_operandFits_131
  have hT := qa_f hT h1_5
  by_cases h1_6 : x1 = 6
  · have hT := qa_t hT h1_6
    refine lv_tableIn (off := 129) (tgt := 130) hx hb d_Pr_operandFits_1 (by rw [h1_6]; decide) (by rw [h1_6]; decide) (by rw [h1_6]; rfl) (by decide) ?_
    refine lv_iconst (v := 1) hx hb d_Pr_operandFits_130 (by decide) ?_
    exact ret (by decide) hT hO d_Pr_operandFits_131
  have hT := qa_f hT h1_6
  by_cases h1_7 : x1 = 7
  · have hT := qa_t hT h1_7
    refine lv_tableIn (off := 129) (tgt := 130) hx hb d_Pr_operandFits_1 (by rw [h1_7]; decide) (by rw [h1_7]; decide) (by rw [h1_7]; rfl) (by decide) ?_
    refine lv_iconst (v := 1) hx hb d_Pr_operandFits_130 (by decide) ?_
    exact ret (by decide) hT hO d_Pr_operandFits_131
  have hT := qa_f hT h1_7
  by_cases h1_8 : x1 = 8
  · have hT := qa_t hT h1_8
    refine lv_tableIn (off := 129) (tgt := 130) hx hb d_Pr_operandFits_1 (by rw [h1_8]; decide) (by rw [h1_8]; decide) (by rw [h1_8]; rfl) (by decide) ?_
    refine lv_iconst (v := 1) hx hb d_Pr_operandFits_130 (by decide) ?_
    exact ret (by decide) hT hO d_Pr_operandFits_131
  have hT := qa_f hT h1_8
  by_cases h1_9 : x1 = 9
  · have hT := qa_t hT h1_9
    refine lv_tableIn (off := 103) (tgt := 104) hx hb d_Pr_operandFits_1 (by rw [h1_9]; decide) (by rw [h1_9]; decide) (by rw [h1_9]; rfl) (by decide) ?_
    refine lv_iload_n hx hb d_Pr_operandFits_104 rfl (lv_at hl 2 rfl) ?_
    refine lv_bipush (v := 20) hx hb d_Pr_operandFits_105 (by decide) ?_
    obtain ⟨t107, ht107, hT⟩ := qa_b hT
    refine qa_SNi (As := [.int x2, .int (20 : Int32)]) (rest := []) S hK hN hA hO (xc_Cw_within l D cI cJ cF cZ ad g x2 (20 : Int32)) ht107 qy_Cw_within ln_Pr_80 ⟨by decide, by decide⟩ rfl hl.1 rfl (Nat.le_of_ble_eq_true rfl) d_Pr_operandFits_107 (fun H locs hO => ?_)
    obtain ⟨hz, hT⟩ := qa_k hT
    exact ret hz hT hO d_Pr_operandFits_110
  have hT := qa_f hT h1_9
  by_cases h1_10 : x1 = 10
  · have hT := qa_t hT h1_10
    refine lv_tableIn (off := 103) (tgt := 104) hx hb d_Pr_operandFits_1 (by rw [h1_10]; decide) (by rw [h1_10]; decide) (by rw [h1_10]; rfl) (by decide) ?_
    refine lv_iload_n hx hb d_Pr_operandFits_104 rfl (lv_at hl 2 rfl) ?_
    refine lv_bipush (v := 20) hx hb d_Pr_operandFits_105 (by decide) ?_
    obtain ⟨t107, ht107, hT⟩ := qa_b hT
    refine qa_SNi (As := [.int x2, .int (20 : Int32)]) (rest := []) S hK hN hA hO (xc_Cw_within l D cI cJ cF cZ ad g x2 (20 : Int32)) ht107 qy_Cw_within ln_Pr_80 ⟨by decide, by decide⟩ rfl hl.1 rfl (Nat.le_of_ble_eq_true rfl) d_Pr_operandFits_107 (fun H locs hO => ?_)
    obtain ⟨hz, hT⟩ := qa_k hT
    exact ret hz hT hO d_Pr_operandFits_110
  have hT := qa_f hT h1_10
  by_cases h1_11 : x1 = 11
  · have hT := qa_t hT h1_11
    refine lv_tableIn (off := 91) (tgt := 92) hx hb d_Pr_operandFits_1 (by rw [h1_11]; decide) (by rw [h1_11]; decide) (by rw [h1_11]; rfl) (by decide) ?_
    refine lv_aload_n hx hb d_Pr_operandFits_92 rfl (lv_at hl 0 rfl) ?_
    refine lv_iload_n hx hb d_Pr_operandFits_93 rfl (lv_at hl 2 rfl) ?_
    obtain ⟨t94, ht94, hT⟩ := qa_b hT
    refine qa_Vi (As := [.int x2]) (rest := []) (r := 1) S hK hN hA hO (xc_Pr_isType l D cI cJ cF cZ ad g x2) ht94 qy_Pr_isType lm_Pr_56 ⟨by decide, by decide⟩ (by decide) rfl rfl rfl rfl hl.1 rfl (Nat.le_of_ble_eq_true rfl) d_Pr_operandFits_94 (fun H locs hO => ?_)
    obtain ⟨hz, hT⟩ := qa_k hT
    exact ret hz hT hO d_Pr_operandFits_97
  have hT := qa_f hT h1_11
  by_cases h1_12 : x1 = 12
  · have hT := qa_t hT h1_12
    refine lv_tableIn (off := 110) (tgt := 111) hx hb d_Pr_operandFits_1 (by rw [h1_12]; decide) (by rw [h1_12]; decide) (by rw [h1_12]; rfl) (by decide) ?_
    refine lv_iload_n hx hb d_Pr_operandFits_111 rfl (lv_at hl 2 rfl) ?_
    refine lv_bipush (v := 6) hx hb d_Pr_operandFits_112 (by decide) ?_
    obtain ⟨t114, ht114, hT⟩ := qa_b hT
    refine qa_SNi (As := [.int x2, .int (6 : Int32)]) (rest := []) S hK hN hA hO (xc_Cw_within l D cI cJ cF cZ ad g x2 (6 : Int32)) ht114 qy_Cw_within ln_Pr_80 ⟨by decide, by decide⟩ rfl hl.1 rfl (Nat.le_of_ble_eq_true rfl) d_Pr_operandFits_114 (fun H locs hO => ?_)
    obtain ⟨hz, hT⟩ := qa_k hT
    exact ret hz hT hO d_Pr_operandFits_117
  have hT := qa_f hT h1_12
  by_cases h1_13 : x1 = 13
  · have hT := qa_t hT h1_13
    refine lv_tableIn (off := 110) (tgt := 111) hx hb d_Pr_operandFits_1 (by rw [h1_13]; decide) (by rw [h1_13]; decide) (by rw [h1_13]; rfl) (by decide) ?_
    refine lv_iload_n hx hb d_Pr_operandFits_111 rfl (lv_at hl 2 rfl) ?_
    refine lv_bipush (v := 6) hx hb d_Pr_operandFits_112 (by decide) ?_
    obtain ⟨t114, ht114, hT⟩ := qa_b hT
    refine qa_SNi (As := [.int x2, .int (6 : Int32)]) (rest := []) S hK hN hA hO (xc_Cw_within l D cI cJ cF cZ ad g x2 (6 : Int32)) ht114 qy_Cw_within ln_Pr_80 ⟨by decide, by decide⟩ rfl hl.1 rfl (Nat.le_of_ble_eq_true rfl) d_Pr_operandFits_114 (fun H locs hO => ?_)
    obtain ⟨hz, hT⟩ := qa_k hT
    exact ret hz hT hO d_Pr_operandFits_117
  have hT := qa_f hT h1_13
  by_cases h1_14 : x1 = 14
  · have hT := qa_t hT h1_14
    refine lv_tableIn (off := 91) (tgt := 92) hx hb d_Pr_operandFits_1 (by rw [h1_14]; decide) (by rw [h1_14]; decide) (by rw [h1_14]; rfl) (by decide) ?_
    refine lv_aload_n hx hb d_Pr_operandFits_92 rfl (lv_at hl 0 rfl) ?_
    refine lv_iload_n hx hb d_Pr_operandFits_93 rfl (lv_at hl 2 rfl) ?_
    obtain ⟨t94, ht94, hT⟩ := qa_b hT
    refine qa_Vi (As := [.int x2]) (rest := []) (r := 1) S hK hN hA hO (xc_Pr_isType l D cI cJ cF cZ ad g x2) ht94 qy_Pr_isType lm_Pr_56 ⟨by decide, by decide⟩ (by decide) rfl rfl rfl rfl hl.1 rfl (Nat.le_of_ble_eq_true rfl) d_Pr_operandFits_94 (fun H locs hO => ?_)
    obtain ⟨hz, hT⟩ := qa_k hT
    exact ret hz hT hO d_Pr_operandFits_97
  have hT := qa_f hT h1_14
  by_cases h1_15 : x1 = 15
  · have hT := qa_t hT h1_15
    refine lv_tableIn (off := 91) (tgt := 92) hx hb d_Pr_operandFits_1 (by rw [h1_15]; decide) (by rw [h1_15]; decide) (by rw [h1_15]; rfl) (by decide) ?_
    refine lv_aload_n hx hb d_Pr_operandFits_92 rfl (lv_at hl 0 rfl) ?_
    refine lv_iload_n hx hb d_Pr_operandFits_93 rfl (lv_at hl 2 rfl) ?_
    obtain ⟨t94, ht94, hT⟩ := qa_b hT
    refine qa_Vi (As := [.int x2]) (rest := []) (r := 1) S hK hN hA hO (xc_Pr_isType l D cI cJ cF cZ ad g x2) ht94 qy_Pr_isType lm_Pr_56 ⟨by decide, by decide⟩ (by decide) rfl rfl rfl rfl hl.1 rfl (Nat.le_of_ble_eq_true rfl) d_Pr_operandFits_94 (fun H locs hO => ?_)
    obtain ⟨hz, hT⟩ := qa_k hT
    exact ret hz hT hO d_Pr_operandFits_97
  have hT := qa_f hT h1_15
  by_cases h1_16 : x1 = 16
  · have hT := qa_t hT h1_16
    refine lv_tableIn (off := 117) (tgt := 118) hx hb d_Pr_operandFits_1 (by rw [h1_16]; decide) (by rw [h1_16]; decide) (by rw [h1_16]; rfl) (by decide) ?_
    refine lv_aload_n hx hb d_Pr_operandFits_118 rfl (lv_at hl 0 rfl) ?_
    refine lv_iload_n hx hb d_Pr_operandFits_119 rfl (lv_at hl 2 rfl) ?_
    obtain ⟨t120, ht120, hT⟩ := qa_b hT
    refine qa_Vi (As := [.int x2]) (rest := []) (r := 1) S hK hN hA hO (xc_Pr_isPlain l D cI cJ cF cZ ad g x2) ht120 qy_Pr_isPlain lm_Pr_84 ⟨by decide, by decide⟩ (by decide) rfl rfl rfl rfl hl.1 rfl (Nat.le_of_ble_eq_true rfl) d_Pr_operandFits_120 (fun H locs hO => ?_)
    obtain ⟨hz, hT⟩ := qa_k hT
    exact ret hz hT hO d_Pr_operandFits_123
  have hT := qa_f hT h1_16
  by_cases h1_17 : x1 = 17
  · have hT := qa_t hT h1_17
    refine lv_tableIn (off := 123) (tgt := 124) hx hb d_Pr_operandFits_1 (by rw [h1_17]; decide) (by rw [h1_17]; decide) (by rw [h1_17]; rfl) (by decide) ?_
    refine lv_iload_n hx hb d_Pr_operandFits_124 rfl (lv_at hl 2 rfl) ?_
    refine lv_iconst (v := 4) hx hb d_Pr_operandFits_125 (by decide) ?_
    obtain ⟨t126, ht126, hT⟩ := qa_b hT
    refine qa_SNi (As := [.int x2, .int (4 : Int32)]) (rest := []) S hK hN hA hO (xc_Cw_within l D cI cJ cF cZ ad g x2 (4 : Int32)) ht126 qy_Cw_within ln_Pr_80 ⟨by decide, by decide⟩ rfl hl.1 rfl (Nat.le_of_ble_eq_true rfl) d_Pr_operandFits_126 (fun H locs hO => ?_)
    obtain ⟨hz, hT⟩ := qa_k hT
    exact ret hz hT hO d_Pr_operandFits_129
  have hT := qa_f hT h1_17
  by_cases h1_18 : x1 = 18
  · have hT := qa_t hT h1_18
    refine lv_tableIn (off := 91) (tgt := 92) hx hb d_Pr_operandFits_1 (by rw [h1_18]; decide) (by rw [h1_18]; decide) (by rw [h1_18]; rfl) (by decide) ?_
    refine lv_aload_n hx hb d_Pr_operandFits_92 rfl (lv_at hl 0 rfl) ?_
    refine lv_iload_n hx hb d_Pr_operandFits_93 rfl (lv_at hl 2 rfl) ?_
    obtain ⟨t94, ht94, hT⟩ := qa_b hT
    refine qa_Vi (As := [.int x2]) (rest := []) (r := 1) S hK hN hA hO (xc_Pr_isType l D cI cJ cF cZ ad g x2) ht94 qy_Pr_isType lm_Pr_56 ⟨by decide, by decide⟩ (by decide) rfl rfl rfl rfl hl.1 rfl (Nat.le_of_ble_eq_true rfl) d_Pr_operandFits_94 (fun H locs hO => ?_)
    obtain ⟨hz, hT⟩ := qa_k hT
    exact ret hz hT hO d_Pr_operandFits_97
  have hT := qa_f hT h1_18
  by_cases h1_19 : x1 = 19
  · have hT := qa_t hT h1_19
    refine lv_tableIn (off := 91) (tgt := 92) hx hb d_Pr_operandFits_1 (by rw [h1_19]; decide) (by rw [h1_19]; decide) (by rw [h1_19]; rfl) (by decide) ?_
    refine lv_aload_n hx hb d_Pr_operandFits_92 rfl (lv_at hl 0 rfl) ?_
    refine lv_iload_n hx hb d_Pr_operandFits_93 rfl (lv_at hl 2 rfl) ?_
    obtain ⟨t94, ht94, hT⟩ := qa_b hT
    refine qa_Vi (As := [.int x2]) (rest := []) (r := 1) S hK hN hA hO (xc_Pr_isType l D cI cJ cF cZ ad g x2) ht94 qy_Pr_isType lm_Pr_56 ⟨by decide, by decide⟩ (by decide) rfl rfl rfl rfl hl.1 rfl (Nat.le_of_ble_eq_true rfl) d_Pr_operandFits_94 (fun H locs hO => ?_)
    obtain ⟨hz, hT⟩ := qa_k hT
    exact ret hz hT hO d_Pr_operandFits_97
  have hT := qa_f hT h1_19
  have z1 : x1.toInt ≠ 1 := qa_ne h1_1 (by decide)
  have z2 : x1.toInt ≠ 2 := qa_ne h1_2 (by decide)
  have z3 : x1.toInt ≠ 3 := qa_ne h1_3 (by decide)
  have z4 : x1.toInt ≠ 4 := qa_ne h1_4 (by decide)
  have z5 : x1.toInt ≠ 5 := qa_ne h1_5 (by decide)
  have z6 : x1.toInt ≠ 6 := qa_ne h1_6 (by decide)
  have z7 : x1.toInt ≠ 7 := qa_ne h1_7 (by decide)
  have z8 : x1.toInt ≠ 8 := qa_ne h1_8 (by decide)
  have z9 : x1.toInt ≠ 9 := qa_ne h1_9 (by decide)
  have z10 : x1.toInt ≠ 10 := qa_ne h1_10 (by decide)
  have z11 : x1.toInt ≠ 11 := qa_ne h1_11 (by decide)
  have z12 : x1.toInt ≠ 12 := qa_ne h1_12 (by decide)
  have z13 : x1.toInt ≠ 13 := qa_ne h1_13 (by decide)
  have z14 : x1.toInt ≠ 14 := qa_ne h1_14 (by decide)
  have z15 : x1.toInt ≠ 15 := qa_ne h1_15 (by decide)
  have z16 : x1.toInt ≠ 16 := qa_ne h1_16 (by decide)
  have z17 : x1.toInt ≠ 17 := qa_ne h1_17 (by decide)
  have z18 : x1.toInt ≠ 18 := qa_ne h1_18 (by decide)
  have z19 : x1.toInt ≠ 19 := qa_ne h1_19 (by decide)
  refine lv_tableOut (tgt := 130) hx hb d_Pr_operandFits_1 (by omega) (by decide) ?_
  refine lv_iconst (v := 1) hx hb d_Pr_operandFits_130 (by decide) ?_
  exact ret (by decide) hT hO d_Pr_operandFits_131
def xf_Pr_addCode_67 (g : qa_St) (x1 : Int32) (x3 : Int32) (x4 : Int32) : qa_Re := (if x1 < 0 ∨ 10 ≤ x1.toNatClampNeg then none else (if x4 < 0 ∨ 20 ≤ x4.toNatClampNeg then none else (some (x4, (qa_up g (28 + x1.toNatClampNeg) x4.toNatClampNeg x3)))))
def xf_Pr_addCode (g : qa_St) (x1 : Int32) (x2 : Int32) (x3 : Int32) : qa_Re := ((xf_Pr_isMethod g x1).bind fun t2 => (if t2.1 = 0 then (some ((-1 : Int32), t2.2)) else (if x1 < 0 ∨ 10 ≤ x1.toNatClampNeg then none else (if (20 : Int32) ≤ (t2.2 15 x1.toNatClampNeg) then (some ((-1 : Int32), t2.2)) else ((xf_Cw_within t2.2 x2 (23 : Int32)).bind fun t22 => (if t22.1 = 0 then (some ((-1 : Int32), t22.2)) else ((xf_Pr_operandFits t22.2 x2 x3).bind fun t31 => (if t31.1 = 0 then (some ((-1 : Int32), t31.2)) else (if x1 < 0 ∨ 10 ≤ x1.toNatClampNeg then none else (if x1 < 0 ∨ 10 ≤ x1.toNatClampNeg then none else (if x1 < 0 ∨ 10 ≤ x1.toNatClampNeg then none else (if x1 < 0 ∨ 10 ≤ x1.toNatClampNeg then none else (if (t31.2 15 x1.toNatClampNeg) < 0 ∨ 20 ≤ (t31.2 15 x1.toNatClampNeg).toNatClampNeg then none else (xf_Pr_addCode_67 (qa_up (qa_up t31.2 15 x1.toNatClampNeg ((t31.2 15 x1.toNatClampNeg) + (1 : Int32))) (17 + x1.toNatClampNeg) (t31.2 15 x1.toNatClampNeg).toNatClampNeg x2) x1 x3 (t31.2 15 x1.toNatClampNeg)))))))))))))))
set_option maxHeartbeats 4000000 in
set_option maxRecDepth 100000 in
theorem xc_Pr_addCode (l : Launch) (D : va_G) (cI cJ cF cZ : ClassId) (ad : Nat → Nat) (g : qa_St) (x1 : Int32) (x2 : Int32) (x3 : Int32) : qa_Mi l y_Pr_addCode (qa_ws y_Pr_addCode b_Pr_addCode 5 (some .int)) (qa_rm 3 64) D (qa_ty cI cJ cF cZ) 107 ad (xe_en cI cJ cF ad) [.ref (ad 1), .int x1, .int x2, .int x3] g (xf_Pr_addCode g x1 x2 x3) := by
  refine qa_meti (by decide) (Nat.le_of_ble_eq_true rfl) ?_
  intro p e s m args below meth c Q A T S hK hN hA hT ret ls hl hO
  have hx := S.1
  have hb := S.2.1
  have hl : lv_has ls 5 [(0, .ref (ad 1)), (1, .int x1), (2, .int x2), (3, .int x3)] := hl
  have b67 : ∀ (g : qa_St) (x1 : Int32) (x3 : Int32) (x4 : Int32) (ls : Array Slot) (H : Heap) (locs : List Loc), lv_has ls 5 [(0, .ref (ad 1)), (1, .int x1), (3, .int x3), (4, .int x4)] → qa_O D 107 ad (xe_en cI cJ cF ad) A s.heap g H locs → xf_Pr_addCode_67 g x1 x3 x4 = some T → W p l e (qa_rm 3 64) s m args below meth c H locs 0 0 Q (F0 m 67 ls []) := by
    intro g x1 x3 x4 ls H locs hl hO hT
    unfold xf_Pr_addCode_67 at hT
    refine lv_aload_n hx hb d_Pr_addCode_67 rfl (lv_at hl 0 rfl) ?_
    refine qa_get S hK hO hi_Pr 1 (by decide) rfl rfl 11 (by decide) lf_Pr_41 rfl rfl d_Pr_addCode_68 ?_
    refine lv_iload_n hx hb d_Pr_addCode_71 rfl (lv_at hl 1 rfl) ?_
    obtain ⟨hi72, hT⟩ := qa_c hT
    refine qa_aald (n := 10) S hK hO 27 (by decide) 1 rfl rfl rfl hi72 rfl d_Pr_addCode_72 ?_
    refine lv_iload hx hb d_Pr_addCode_73 (lv_at hl 3 rfl) ?_
    refine lv_iload_n hx hb d_Pr_addCode_75 rfl (lv_at hl 2 rfl) ?_
    obtain ⟨hi76, hT⟩ := qa_c hT
    refine qa_iast (n := 20) S hK hO (28 + x1.toNatClampNeg) (qa_rowlt hi72 (by decide)) 0 (xe_arr (xr_27 _ (qa_lt hi72))) rfl hi76 d_Pr_addCode_76 (fun H locs hO => ?_)
    refine lv_iload hx hb d_Pr_addCode_77 (lv_at hl 3 rfl) ?_
    exact ret hT hO d_Pr_addCode_79
  unfold xf_Pr_addCode at hT
  refine lv_aload_n hx hb d_Pr_addCode_0 rfl (lv_at hl 0 rfl) ?_
  refine lv_iload_n hx hb d_Pr_addCode_1 rfl (lv_at hl 1 rfl) ?_
  obtain ⟨t2, ht2, hT⟩ := qa_b hT
  refine qa_Vi (As := [.int x1]) (rest := []) (r := 1) S hK hN hA hO (xc_Pr_isMethod l D cI cJ cF cZ ad g x1) ht2 qy_Pr_isMethod lm_Pr_87 ⟨by decide, by decide⟩ (by decide) rfl rfl rfl rfl hl.1 rfl (Nat.le_of_ble_eq_true rfl) d_Pr_addCode_2 (fun H locs hO => ?_)
  refine lv_if_eq (tgt := 37) hx hb d_Pr_addCode_5 (by decide) (fun h => ?_) (fun h => ?_)
  · have hT := qa_t hT h
    refine lv_iconst (v := -1) hx hb d_Pr_addCode_37 (by decide) ?_
    exact ret hT hO d_Pr_addCode_38
  · have hT := qa_f hT h
    refine lv_aload_n hx hb d_Pr_addCode_8 rfl (lv_at hl 0 rfl) ?_
    refine qa_get S hK hO hi_Pr 1 (by decide) rfl rfl 9 (by decide) lf_Pr_35 rfl rfl d_Pr_addCode_9 ?_
    refine lv_iload_n hx hb d_Pr_addCode_12 rfl (lv_at hl 1 rfl) ?_
    obtain ⟨hi13, hT⟩ := qa_c hT
    refine qa_iald (n := 10) S hK hO 15 (by decide) 0 (xe_arr rfl) rfl hi13 d_Pr_addCode_13 ?_
    refine lv_bipush (v := 20) hx hb d_Pr_addCode_14 (by decide) ?_
    refine lv_icmp_ge (tgt := 37) hx hb d_Pr_addCode_16 (by decide) (fun h => ?_) (fun h => ?_)
    · have hT := qa_t hT h
      refine lv_iconst (v := -1) hx hb d_Pr_addCode_37 (by decide) ?_
      exact ret hT hO d_Pr_addCode_38
    · have hT := qa_f hT h
      refine lv_iload_n hx hb d_Pr_addCode_19 rfl (lv_at hl 2 rfl) ?_
      refine lv_bipush (v := 23) hx hb d_Pr_addCode_20 (by decide) ?_
      obtain ⟨t22, ht22, hT⟩ := qa_b hT
      refine qa_SNi (As := [.int x2, .int (23 : Int32)]) (rest := []) S hK hN hA hO (xc_Cw_within l D cI cJ cF cZ ad t2.2 x2 (23 : Int32)) ht22 qy_Cw_within ln_Pr_80 ⟨by decide, by decide⟩ rfl hl.1 rfl (Nat.le_of_ble_eq_true rfl) d_Pr_addCode_22 (fun H locs hO => ?_)
      refine lv_if_eq (tgt := 37) hx hb d_Pr_addCode_25 (by decide) (fun h => ?_) (fun h => ?_)
      · have hT := qa_t hT h
        refine lv_iconst (v := -1) hx hb d_Pr_addCode_37 (by decide) ?_
        exact ret hT hO d_Pr_addCode_38
      · have hT := qa_f hT h
        refine lv_aload_n hx hb d_Pr_addCode_28 rfl (lv_at hl 0 rfl) ?_
        refine lv_iload_n hx hb d_Pr_addCode_29 rfl (lv_at hl 2 rfl) ?_
        refine lv_iload_n hx hb d_Pr_addCode_30 rfl (lv_at hl 3 rfl) ?_
        obtain ⟨t31, ht31, hT⟩ := qa_b hT
        refine qa_Vi (As := [.int x2, .int x3]) (rest := []) (r := 1) S hK hN hA hO (xc_Pr_operandFits l D cI cJ cF cZ ad t22.2 x2 x3) ht31 qy_Pr_operandFits lm_Pr_92 ⟨by decide, by decide⟩ (by decide) rfl rfl rfl rfl hl.1 rfl (Nat.le_of_ble_eq_true rfl) d_Pr_addCode_31 (fun H locs hO => ?_)
        refine lv_if_ne (tgt := 39) hx hb d_Pr_addCode_34 (by decide) (fun h => ?_) (fun h => ?_)
        · have hT := qa_f hT h
          refine lv_aload_n hx hb d_Pr_addCode_39 rfl (lv_at hl 0 rfl) ?_
          refine qa_get S hK hO hi_Pr 1 (by decide) rfl rfl 9 (by decide) lf_Pr_35 rfl rfl d_Pr_addCode_40 ?_
          refine lv_iload_n hx hb d_Pr_addCode_43 rfl (lv_at hl 1 rfl) ?_
          obtain ⟨hi44, hT⟩ := qa_c hT
          refine qa_iald (n := 10) S hK hO 15 (by decide) 0 (xe_arr rfl) rfl hi44 d_Pr_addCode_44 ?_
          refine lv_istore (lv' := [(4, .int (t31.2 15 x1.toNatClampNeg)), (0, .ref (ad 1)), (1, .int x1), (2, .int x2), (3, .int x3)]) hx hb d_Pr_addCode_45 hl (by decide) rfl (fun ls hl => ?_)
          refine lv_aload_n hx hb d_Pr_addCode_47 rfl (lv_at hl 1 rfl) ?_
          refine qa_get S hK hO hi_Pr 1 (by decide) rfl rfl 9 (by decide) lf_Pr_35 rfl rfl d_Pr_addCode_48 ?_
          refine lv_iload_n hx hb d_Pr_addCode_51 rfl (lv_at hl 2 rfl) ?_
          refine lv_dup2_11 hx hb d_Pr_addCode_52 rfl rfl ?_
          obtain ⟨hi53, hT⟩ := qa_c hT
          refine qa_iald (n := 10) S hK hO 15 (by decide) 0 (xe_arr rfl) rfl hi53 d_Pr_addCode_53 ?_
          refine lv_iconst (v := 1) hx hb d_Pr_addCode_54 (by decide) ?_
          refine lv_iadd hx hb d_Pr_addCode_55 ?_
          obtain ⟨hi56, hT⟩ := qa_c hT
          refine qa_iast (n := 10) S hK hO 15 (by decide) 0 (xe_arr rfl) rfl hi56 d_Pr_addCode_56 (fun H locs hO => ?_)
          refine lv_aload_n hx hb d_Pr_addCode_57 rfl (lv_at hl 1 rfl) ?_
          refine qa_get S hK hO hi_Pr 1 (by decide) rfl rfl 10 (by decide) lf_Pr_38 rfl rfl d_Pr_addCode_58 ?_
          refine lv_iload_n hx hb d_Pr_addCode_61 rfl (lv_at hl 2 rfl) ?_
          obtain ⟨hi62, hT⟩ := qa_c hT
          refine qa_aald (n := 10) S hK hO 16 (by decide) 1 rfl rfl rfl hi62 rfl d_Pr_addCode_62 ?_
          refine lv_iload hx hb d_Pr_addCode_63 (lv_at hl 0 rfl) ?_
          refine lv_iload_n hx hb d_Pr_addCode_65 rfl (lv_at hl 3 rfl) ?_
          obtain ⟨hi66, hT⟩ := qa_c hT
          refine qa_iast (n := 20) S hK hO (17 + x1.toNatClampNeg) (qa_rowlt hi62 (by decide)) 0 (xe_arr (xr_16 _ (qa_lt hi62))) rfl hi66 d_Pr_addCode_66 (fun H locs hO => ?_)
          exact b67 (qa_up (qa_up t31.2 15 x1.toNatClampNeg ((t31.2 15 x1.toNatClampNeg) + (1 : Int32))) (17 + x1.toNatClampNeg) (t31.2 15 x1.toNatClampNeg).toNatClampNeg x2) x1 x3 (t31.2 15 x1.toNatClampNeg) _ _ _ (lv_sub hl [1, 2, 4, 0] rfl) hO hT
        · have hT := qa_t hT h
          refine lv_iconst (v := -1) hx hb d_Pr_addCode_37 (by decide) ?_
          exact ret hT hO d_Pr_addCode_38
def xf_Cw_code (g : qa_St) (x1 : Int32) (x2 : Int32) (x3 : Int32) : qa_Re := ((xf_Pr_addCode g x1 x2 x3).bind fun t8 => ((xf_Cw_reopenUnlessNone t8.2 t8.1).bind fun t11 => (some (t11.1, t11.2))))
set_option maxHeartbeats 4000000 in
set_option maxRecDepth 100000 in
theorem xc_Cw_code (l : Launch) (D : va_G) (cI cJ cF cZ : ClassId) (ad : Nat → Nat) (g : qa_St) (x1 : Int32) (x2 : Int32) (x3 : Int32) : qa_Mi l y_Cw_code (qa_ws y_Cw_code b_Cw_code 4 (some .int)) (qa_rm 4 88) D (qa_ty cI cJ cF cZ) 107 ad (xe_en cI cJ cF ad) [.ref (ad 0), .int x1, .int x2, .int x3] g (xf_Cw_code g x1 x2 x3) := by
  refine qa_meti (by decide) (Nat.le_of_ble_eq_true rfl) ?_
  intro p e s m args below meth c Q A T S hK hN hA hT ret ls hl hO
  have hx := S.1
  have hb := S.2.1
  have hl : lv_has ls 4 [(0, .ref (ad 0)), (1, .int x1), (2, .int x2), (3, .int x3)] := hl
  unfold xf_Cw_code at hT
  refine lv_aload_n hx hb d_Cw_code_0 rfl (lv_at hl 0 rfl) ?_
  refine lv_aload_n hx hb d_Cw_code_1 rfl (lv_at hl 0 rfl) ?_
  refine qa_get S hK hO hi_Cw 0 (by decide) rfl rfl 0 (by decide) lf_Cw_17 rfl rfl d_Cw_code_2 ?_
  refine lv_iload_n hx hb d_Cw_code_5 rfl (lv_at hl 1 rfl) ?_
  refine lv_iload_n hx hb d_Cw_code_6 rfl (lv_at hl 2 rfl) ?_
  refine lv_iload_n hx hb d_Cw_code_7 rfl (lv_at hl 3 rfl) ?_
  obtain ⟨t8, ht8, hT⟩ := qa_b hT
  refine qa_Vi (As := [.int x1, .int x2, .int x3]) (rest := [.ref (ad 0)]) (r := 1) S hK hN hA hO (xc_Pr_addCode l D cI cJ cF cZ ad g x1 x2 x3) ht8 qy_Pr_addCode lm_Cw_68 ⟨by decide, by decide⟩ (by decide) rfl rfl rfl rfl hl.1 rfl (Nat.le_of_ble_eq_true rfl) d_Cw_code_8 (fun H locs hO => ?_)
  obtain ⟨t11, ht11, hT⟩ := qa_b hT
  refine qa_Vi (As := [.int t8.1]) (rest := []) (r := 0) S hK hN hA hO (xc_Cw_reopenUnlessNone l D cI cJ cF cZ ad t8.2 t8.1) ht11 qy_Cw_reopenUnlessNone lm_Cw_52 ⟨by decide, by decide⟩ (by decide) rfl rfl rfl rfl hl.1 rfl (Nat.le_of_ble_eq_true rfl) d_Cw_code_11 (fun H locs hO => ?_)
  exact ret hT hO d_Cw_code_14
def xf_Pr_addGuard_94 (g : qa_St) : qa_Re := (some ((1 : Int32), g))
def xf_Pr_addGuard_73 (g : qa_St) (x1 : Int32) (x3 : Int32) (x4 : Int32) (x5 : Int32) : qa_Re := (if x1 < 0 ∨ 10 ≤ x1.toNatClampNeg then none else (if x5 < 0 ∨ 3 ≤ x5.toNatClampNeg then none else (if x1 < 0 ∨ 10 ≤ x1.toNatClampNeg then none else (if x5 < 0 ∨ 3 ≤ x5.toNatClampNeg then none else (xf_Pr_addGuard_94 (qa_up (qa_up g (51 + x1.toNatClampNeg) x5.toNatClampNeg x3) (62 + x1.toNatClampNeg) x5.toNatClampNeg x4))))))
def xf_Pr_addGuard (g : qa_St) (x1 : Int32) (x2 : Int32) (x3 : Int32) (x4 : Int32) : qa_Re := ((xf_Pr_isMethod g x1).bind fun t2 => (if t2.1 = 0 then (some ((0 : Int32), t2.2)) else (if x1 < 0 ∨ 10 ≤ x1.toNatClampNeg then none else (if (3 : Int32) ≤ (t2.2 38 x1.toNatClampNeg) then (some ((0 : Int32), t2.2)) else (if x2 < 0 then (some ((0 : Int32), t2.2)) else (if x3 ≤ x2 then (some ((0 : Int32), t2.2)) else (if (20 : Int32) < x3 then (some ((0 : Int32), t2.2)) else ((xf_Cw_within t2.2 x4 (20 : Int32)).bind fun t37 => (if t37.1 = 0 then (some ((0 : Int32), t37.2)) else (if x1 < 0 ∨ 10 ≤ x1.toNatClampNeg then none else (if x1 < 0 ∨ 10 ≤ x1.toNatClampNeg then none else (if x1 < 0 ∨ 10 ≤ x1.toNatClampNeg then none else (if x1 < 0 ∨ 10 ≤ x1.toNatClampNeg then none else (if (t37.2 38 x1.toNatClampNeg) < 0 ∨ 3 ≤ (t37.2 38 x1.toNatClampNeg).toNatClampNeg then none else (xf_Pr_addGuard_73 (qa_up (qa_up t37.2 38 x1.toNatClampNeg ((t37.2 38 x1.toNatClampNeg) + (1 : Int32))) (40 + x1.toNatClampNeg) (t37.2 38 x1.toNatClampNeg).toNatClampNeg x2) x1 x3 x4 (t37.2 38 x1.toNatClampNeg))))))))))))))))
set_option maxHeartbeats 4000000 in
set_option maxRecDepth 100000 in
theorem xc_Pr_addGuard (l : Launch) (D : va_G) (cI cJ cF cZ : ClassId) (ad : Nat → Nat) (g : qa_St) (x1 : Int32) (x2 : Int32) (x3 : Int32) (x4 : Int32) : qa_Mi l y_Pr_addGuard (qa_ws y_Pr_addGuard b_Pr_addGuard 6 (some .boolean)) (qa_rm 1 21) D (qa_ty cI cJ cF cZ) 107 ad (xe_en cI cJ cF ad) [.ref (ad 1), .int x1, .int x2, .int x3, .int x4] g (xf_Pr_addGuard g x1 x2 x3 x4) := by
  refine qa_metz (by decide) (Nat.le_of_ble_eq_true rfl) ?_
  intro p e s m args below meth c Q A T S hK hN hA hT ret ls hl hO
  have hx := S.1
  have hb := S.2.1
  have hl : lv_has ls 6 [(0, .ref (ad 1)), (1, .int x1), (2, .int x2), (3, .int x3), (4, .int x4)] := hl
  have b94 : ∀ (g : qa_St) (ls : Array Slot) (H : Heap) (locs : List Loc), lv_has ls 6 [] → qa_O D 107 ad (xe_en cI cJ cF ad) A s.heap g H locs → xf_Pr_addGuard_94 g = some T → W p l e (qa_rm 1 21) s m args below meth c H locs 0 0 Q (F0 m 94 ls []) := by
    intro g ls H locs hl hO hT
    unfold xf_Pr_addGuard_94 at hT
    refine lv_iconst (v := 1) hx hb d_Pr_addGuard_94 (by decide) ?_
    exact ret (by decide) hT hO d_Pr_addGuard_95
  have b73 : ∀ (g : qa_St) (x1 : Int32) (x3 : Int32) (x4 : Int32) (x5 : Int32) (ls : Array Slot) (H : Heap) (locs : List Loc), lv_has ls 6 [(0, .ref (ad 1)), (1, .int x1), (3, .int x3), (4, .int x4), (5, .int x5)] → qa_O D 107 ad (xe_en cI cJ cF ad) A s.heap g H locs → xf_Pr_addGuard_73 g x1 x3 x4 x5 = some T → W p l e (qa_rm 1 21) s m args below meth c H locs 0 0 Q (F0 m 73 ls []) := by
    intro g x1 x3 x4 x5 ls H locs hl hO hT
    unfold xf_Pr_addGuard_73 at hT
    refine lv_aload_n hx hb d_Pr_addGuard_73 rfl (lv_at hl 0 rfl) ?_
    refine qa_get S hK hO hi_Pr 1 (by decide) rfl rfl 14 (by decide) lf_Pr_50 rfl rfl d_Pr_addGuard_74 ?_
    refine lv_iload_n hx hb d_Pr_addGuard_77 rfl (lv_at hl 1 rfl) ?_
    obtain ⟨hi78, hT⟩ := qa_c hT
    refine qa_aald (n := 10) S hK hO 50 (by decide) 1 rfl rfl rfl hi78 rfl d_Pr_addGuard_78 ?_
    refine lv_iload hx hb d_Pr_addGuard_79 (lv_at hl 4 rfl) ?_
    refine lv_iload_n hx hb d_Pr_addGuard_81 rfl (lv_at hl 2 rfl) ?_
    obtain ⟨hi82, hT⟩ := qa_c hT
    refine qa_iast (n := 3) S hK hO (51 + x1.toNatClampNeg) (qa_rowlt hi78 (by decide)) 0 (xe_arr (xr_50 _ (qa_lt hi78))) rfl hi82 d_Pr_addGuard_82 (fun H locs hO => ?_)
    refine lv_aload_n hx hb d_Pr_addGuard_83 rfl (lv_at hl 0 rfl) ?_
    refine qa_get S hK hO hi_Pr 1 (by decide) rfl rfl 15 (by decide) lf_Pr_53 rfl rfl d_Pr_addGuard_84 ?_
    refine lv_iload_n hx hb d_Pr_addGuard_87 rfl (lv_at hl 1 rfl) ?_
    obtain ⟨hi88, hT⟩ := qa_c hT
    refine qa_aald (n := 10) S hK hO 61 (by decide) 1 rfl rfl rfl hi88 rfl d_Pr_addGuard_88 ?_
    refine lv_iload hx hb d_Pr_addGuard_89 (lv_at hl 4 rfl) ?_
    refine lv_iload hx hb d_Pr_addGuard_91 (lv_at hl 3 rfl) ?_
    obtain ⟨hi93, hT⟩ := qa_c hT
    refine qa_iast (n := 3) S hK hO (62 + x1.toNatClampNeg) (qa_rowlt hi88 (by decide)) 0 (xe_arr (xr_61 _ (qa_lt hi88))) rfl hi93 d_Pr_addGuard_93 (fun H locs hO => ?_)
    exact b94 (qa_up (qa_up g (51 + x1.toNatClampNeg) x5.toNatClampNeg x3) (62 + x1.toNatClampNeg) x5.toNatClampNeg x4) _ _ _ (lv_sub hl [] rfl) hO hT
  unfold xf_Pr_addGuard at hT
  refine lv_aload_n hx hb d_Pr_addGuard_0 rfl (lv_at hl 0 rfl) ?_
  refine lv_iload_n hx hb d_Pr_addGuard_1 rfl (lv_at hl 1 rfl) ?_
  obtain ⟨t2, ht2, hT⟩ := qa_b hT
  refine qa_Vi (As := [.int x1]) (rest := []) (r := 1) S hK hN hA hO (xc_Pr_isMethod l D cI cJ cF cZ ad g x1) ht2 qy_Pr_isMethod lm_Pr_87 ⟨by decide, by decide⟩ (by decide) rfl rfl rfl rfl hl.1 rfl (Nat.le_of_ble_eq_true rfl) d_Pr_addGuard_2 (fun H locs hO => ?_)
  refine lv_if_eq (tgt := 43) hx hb d_Pr_addGuard_5 (by decide) (fun h => ?_) (fun h => ?_)
  · have hT := qa_t hT h
    refine lv_iconst (v := 0) hx hb d_Pr_addGuard_43 (by decide) ?_
    exact ret (by decide) hT hO d_Pr_addGuard_44
  · have hT := qa_f hT h
    refine lv_aload_n hx hb d_Pr_addGuard_8 rfl (lv_at hl 0 rfl) ?_
    refine qa_get S hK hO hi_Pr 1 (by decide) rfl rfl 12 (by decide) lf_Pr_44 rfl rfl d_Pr_addGuard_9 ?_
    refine lv_iload_n hx hb d_Pr_addGuard_12 rfl (lv_at hl 1 rfl) ?_
    obtain ⟨hi13, hT⟩ := qa_c hT
    refine qa_iald (n := 10) S hK hO 38 (by decide) 0 (xe_arr rfl) rfl hi13 d_Pr_addGuard_13 ?_
    refine lv_iconst (v := 3) hx hb d_Pr_addGuard_14 (by decide) ?_
    refine lv_icmp_ge (tgt := 43) hx hb d_Pr_addGuard_15 (by decide) (fun h => ?_) (fun h => ?_)
    · have hT := qa_t hT h
      refine lv_iconst (v := 0) hx hb d_Pr_addGuard_43 (by decide) ?_
      exact ret (by decide) hT hO d_Pr_addGuard_44
    · have hT := qa_f hT h
      refine lv_iload_n hx hb d_Pr_addGuard_18 rfl (lv_at hl 2 rfl) ?_
      refine lv_if_lt (tgt := 43) hx hb d_Pr_addGuard_19 (by decide) (fun h => ?_) (fun h => ?_)
      · have hT := qa_t hT h
        refine lv_iconst (v := 0) hx hb d_Pr_addGuard_43 (by decide) ?_
        exact ret (by decide) hT hO d_Pr_addGuard_44
      · have hT := qa_f hT h
        refine lv_iload_n hx hb d_Pr_addGuard_22 rfl (lv_at hl 2 rfl) ?_
        refine lv_iload_n hx hb d_Pr_addGuard_23 rfl (lv_at hl 3 rfl) ?_
        refine lv_icmp_ge (tgt := 43) hx hb d_Pr_addGuard_24 (by decide) (fun h => ?_) (fun h => ?_)
        · have hT := qa_t hT h
          refine lv_iconst (v := 0) hx hb d_Pr_addGuard_43 (by decide) ?_
          exact ret (by decide) hT hO d_Pr_addGuard_44
        · have hT := qa_f hT h
          refine lv_iload_n hx hb d_Pr_addGuard_27 rfl (lv_at hl 3 rfl) ?_
          refine lv_bipush (v := 20) hx hb d_Pr_addGuard_28 (by decide) ?_
          refine lv_icmp_gt (tgt := 43) hx hb d_Pr_addGuard_30 (by decide) (fun h => ?_) (fun h => ?_)
          · have hT := qa_t hT h
            refine lv_iconst (v := 0) hx hb d_Pr_addGuard_43 (by decide) ?_
            exact ret (by decide) hT hO d_Pr_addGuard_44
          · have hT := qa_f hT h
            refine lv_iload hx hb d_Pr_addGuard_33 (lv_at hl 4 rfl) ?_
            refine lv_bipush (v := 20) hx hb d_Pr_addGuard_35 (by decide) ?_
            obtain ⟨t37, ht37, hT⟩ := qa_b hT
            refine qa_SNi (As := [.int x4, .int (20 : Int32)]) (rest := []) S hK hN hA hO (xc_Cw_within l D cI cJ cF cZ ad t2.2 x4 (20 : Int32)) ht37 qy_Cw_within ln_Pr_80 ⟨by decide, by decide⟩ rfl hl.1 rfl (Nat.le_of_ble_eq_true rfl) d_Pr_addGuard_37 (fun H locs hO => ?_)
            refine lv_if_ne (tgt := 45) hx hb d_Pr_addGuard_40 (by decide) (fun h => ?_) (fun h => ?_)
            · have hT := qa_f hT h
              refine lv_aload_n hx hb d_Pr_addGuard_45 rfl (lv_at hl 0 rfl) ?_
              refine qa_get S hK hO hi_Pr 1 (by decide) rfl rfl 12 (by decide) lf_Pr_44 rfl rfl d_Pr_addGuard_46 ?_
              refine lv_iload_n hx hb d_Pr_addGuard_49 rfl (lv_at hl 1 rfl) ?_
              obtain ⟨hi50, hT⟩ := qa_c hT
              refine qa_iald (n := 10) S hK hO 38 (by decide) 0 (xe_arr rfl) rfl hi50 d_Pr_addGuard_50 ?_
              refine lv_istore (lv' := [(5, .int (t37.2 38 x1.toNatClampNeg)), (0, .ref (ad 1)), (1, .int x1), (2, .int x2), (3, .int x3), (4, .int x4)]) hx hb d_Pr_addGuard_51 hl (by decide) rfl (fun ls hl => ?_)
              refine lv_aload_n hx hb d_Pr_addGuard_53 rfl (lv_at hl 1 rfl) ?_
              refine qa_get S hK hO hi_Pr 1 (by decide) rfl rfl 12 (by decide) lf_Pr_44 rfl rfl d_Pr_addGuard_54 ?_
              refine lv_iload_n hx hb d_Pr_addGuard_57 rfl (lv_at hl 2 rfl) ?_
              refine lv_dup2_11 hx hb d_Pr_addGuard_58 rfl rfl ?_
              obtain ⟨hi59, hT⟩ := qa_c hT
              refine qa_iald (n := 10) S hK hO 38 (by decide) 0 (xe_arr rfl) rfl hi59 d_Pr_addGuard_59 ?_
              refine lv_iconst (v := 1) hx hb d_Pr_addGuard_60 (by decide) ?_
              refine lv_iadd hx hb d_Pr_addGuard_61 ?_
              obtain ⟨hi62, hT⟩ := qa_c hT
              refine qa_iast (n := 10) S hK hO 38 (by decide) 0 (xe_arr rfl) rfl hi62 d_Pr_addGuard_62 (fun H locs hO => ?_)
              refine lv_aload_n hx hb d_Pr_addGuard_63 rfl (lv_at hl 1 rfl) ?_
              refine qa_get S hK hO hi_Pr 1 (by decide) rfl rfl 13 (by decide) lf_Pr_47 rfl rfl d_Pr_addGuard_64 ?_
              refine lv_iload_n hx hb d_Pr_addGuard_67 rfl (lv_at hl 2 rfl) ?_
              obtain ⟨hi68, hT⟩ := qa_c hT
              refine qa_aald (n := 10) S hK hO 39 (by decide) 1 rfl rfl rfl hi68 rfl d_Pr_addGuard_68 ?_
              refine lv_iload hx hb d_Pr_addGuard_69 (lv_at hl 0 rfl) ?_
              refine lv_iload_n hx hb d_Pr_addGuard_71 rfl (lv_at hl 3 rfl) ?_
              obtain ⟨hi72, hT⟩ := qa_c hT
              refine qa_iast (n := 3) S hK hO (40 + x1.toNatClampNeg) (qa_rowlt hi68 (by decide)) 0 (xe_arr (xr_39 _ (qa_lt hi68))) rfl hi72 d_Pr_addGuard_72 (fun H locs hO => ?_)
              exact b73 (qa_up (qa_up t37.2 38 x1.toNatClampNeg ((t37.2 38 x1.toNatClampNeg) + (1 : Int32))) (40 + x1.toNatClampNeg) (t37.2 38 x1.toNatClampNeg).toNatClampNeg x2) x1 x3 x4 (t37.2 38 x1.toNatClampNeg) _ _ _ (lv_sub hl [1, 2, 4, 5, 0] rfl) hO hT
            · have hT := qa_t hT h
              refine lv_iconst (v := 0) hx hb d_Pr_addGuard_43 (by decide) ?_
              exact ret (by decide) hT hO d_Pr_addGuard_44
def xf_Cw_guard (g : qa_St) (x1 : Int32) (x2 : Int32) (x3 : Int32) (x4 : Int32) : qa_Re := ((xf_Pr_addGuard g x1 x2 x3 x4).bind fun t10 => ((xf_Cw_reopenIf t10.2 t10.1).bind fun t13 => (if t13.1 = 0 ∨ t13.1 = 1 then some (t13.1, t13.2) else none)))
set_option maxHeartbeats 4000000 in
set_option maxRecDepth 100000 in
theorem xc_Cw_guard (l : Launch) (D : va_G) (cI cJ cF cZ : ClassId) (ad : Nat → Nat) (g : qa_St) (x1 : Int32) (x2 : Int32) (x3 : Int32) (x4 : Int32) : qa_Mi l y_Cw_guard (qa_ws y_Cw_guard b_Cw_guard 5 (some .boolean)) (qa_rm 2 46) D (qa_ty cI cJ cF cZ) 107 ad (xe_en cI cJ cF ad) [.ref (ad 0), .int x1, .int x2, .int x3, .int x4] g (xf_Cw_guard g x1 x2 x3 x4) := by
  refine qa_metz (by decide) (Nat.le_of_ble_eq_true rfl) ?_
  intro p e s m args below meth c Q A T S hK hN hA hT ret ls hl hO
  have hx := S.1
  have hb := S.2.1
  have hl : lv_has ls 5 [(0, .ref (ad 0)), (1, .int x1), (2, .int x2), (3, .int x3), (4, .int x4)] := hl
  unfold xf_Cw_guard at hT
  refine lv_aload_n hx hb d_Cw_guard_0 rfl (lv_at hl 0 rfl) ?_
  refine lv_aload_n hx hb d_Cw_guard_1 rfl (lv_at hl 0 rfl) ?_
  refine qa_get S hK hO hi_Cw 0 (by decide) rfl rfl 0 (by decide) lf_Cw_17 rfl rfl d_Cw_guard_2 ?_
  refine lv_iload_n hx hb d_Cw_guard_5 rfl (lv_at hl 1 rfl) ?_
  refine lv_iload_n hx hb d_Cw_guard_6 rfl (lv_at hl 2 rfl) ?_
  refine lv_iload_n hx hb d_Cw_guard_7 rfl (lv_at hl 3 rfl) ?_
  refine lv_iload hx hb d_Cw_guard_8 (lv_at hl 4 rfl) ?_
  obtain ⟨t10, ht10, hT⟩ := qa_b hT
  refine qa_Vi (As := [.int x1, .int x2, .int x3, .int x4]) (rest := [.ref (ad 0)]) (r := 1) S hK hN hA hO (xc_Pr_addGuard l D cI cJ cF cZ ad g x1 x2 x3 x4) ht10 qy_Pr_addGuard lm_Cw_71 ⟨by decide, by decide⟩ (by decide) rfl rfl rfl rfl hl.1 rfl (Nat.le_of_ble_eq_true rfl) d_Cw_guard_10 (fun H locs hO => ?_)
  obtain ⟨t13, ht13, hT⟩ := qa_b hT
  refine qa_Vi (As := [.int t10.1]) (rest := []) (r := 0) S hK hN hA hO (xc_Cw_reopenIf l D cI cJ cF cZ ad t10.2 t10.1) ht13 qy_Cw_reopenIf lm_Cw_64 ⟨by decide, by decide⟩ (by decide) rfl rfl rfl rfl hl.1 rfl (Nat.le_of_ble_eq_true rfl) d_Cw_guard_13 (fun H locs hO => ?_)
  obtain ⟨hz, hT⟩ := qa_k hT
  exact ret hz hT hO d_Cw_guard_16
def xf_Pr_hasStart (g : qa_St) : qa_Re := ((xf_Pr_isPlain g (0 : Int32)).bind fun t2 => (if t2.1 = 0 then (some ((0 : Int32), t2.2)) else (if (0 : Int32) < 0 ∨ 10 ≤ (0 : Int32).toNatClampNeg then none else (if (t2.2 14 (0 : Int32).toNatClampNeg) = (1 : Int32) then (some ((1 : Int32), t2.2)) else (some ((0 : Int32), t2.2))))))
set_option maxHeartbeats 4000000 in
set_option maxRecDepth 100000 in
theorem xc_Pr_hasStart (l : Launch) (D : va_G) (cI cJ cF cZ : ClassId) (ad : Nat → Nat) (g : qa_St) : qa_Mi l y_Pr_hasStart (qa_ws y_Pr_hasStart b_Pr_hasStart 1 (some .boolean)) (qa_rm 2 42) D (qa_ty cI cJ cF cZ) 107 ad (xe_en cI cJ cF ad) [.ref (ad 1)] g (xf_Pr_hasStart g) := by
  refine qa_metz (by decide) (Nat.le_of_ble_eq_true rfl) ?_
  intro p e s m args below meth c Q A T S hK hN hA hT ret ls hl hO
  have hx := S.1
  have hb := S.2.1
  have hl : lv_has ls 1 [(0, .ref (ad 1))] := hl
  unfold xf_Pr_hasStart at hT
  refine lv_aload_n hx hb d_Pr_hasStart_0 rfl (lv_at hl 0 rfl) ?_
  refine lv_iconst (v := 0) hx hb d_Pr_hasStart_1 (by decide) ?_
  obtain ⟨t2, ht2, hT⟩ := qa_b hT
  refine qa_Vi (As := [.int (0 : Int32)]) (rest := []) (r := 1) S hK hN hA hO (xc_Pr_isPlain l D cI cJ cF cZ ad g (0 : Int32)) ht2 qy_Pr_isPlain lm_Pr_84 ⟨by decide, by decide⟩ (by decide) rfl rfl rfl rfl hl.1 rfl (Nat.le_of_ble_eq_true rfl) d_Pr_hasStart_2 (fun H locs hO => ?_)
  refine lv_if_eq (tgt := 22) hx hb d_Pr_hasStart_5 (by decide) (fun h => ?_) (fun h => ?_)
  · have hT := qa_t hT h
    refine lv_iconst (v := 0) hx hb d_Pr_hasStart_22 (by decide) ?_
    exact ret (by decide) hT hO d_Pr_hasStart_23
  · have hT := qa_f hT h
    refine lv_aload_n hx hb d_Pr_hasStart_8 rfl (lv_at hl 0 rfl) ?_
    refine qa_get S hK hO hi_Pr 1 (by decide) rfl rfl 8 (by decide) lf_Pr_32 rfl rfl d_Pr_hasStart_9 ?_
    refine lv_iconst (v := 0) hx hb d_Pr_hasStart_12 (by decide) ?_
    obtain ⟨hi13, hT⟩ := qa_c hT
    refine qa_iald (n := 10) S hK hO 14 (by decide) 0 (xe_arr rfl) rfl hi13 d_Pr_hasStart_13 ?_
    refine lv_iconst (v := 1) hx hb d_Pr_hasStart_14 (by decide) ?_
    refine lv_icmp_ne (tgt := 22) hx hb d_Pr_hasStart_15 (by decide) (fun h => ?_) (fun h => ?_)
    · have hT := qa_f hT h
      refine lv_iconst (v := 0) hx hb d_Pr_hasStart_22 (by decide) ?_
      exact ret (by decide) hT hO d_Pr_hasStart_23
    · have hT := qa_t hT h
      refine lv_iconst (v := 1) hx hb d_Pr_hasStart_18 (by decide) ?_
      refine lv_goto (tgt := 23) hx hb d_Pr_hasStart_19 (by decide) ?_
      exact ret (by decide) hT hO d_Pr_hasStart_23
def xf_Pr_methodCount (g : qa_St) : qa_Re := (some ((g 1 1), g))
set_option maxHeartbeats 4000000 in
set_option maxRecDepth 100000 in
theorem xc_Pr_methodCount (l : Launch) (D : va_G) (cI cJ cF cZ : ClassId) (ad : Nat → Nat) (g : qa_St) : qa_Mi l y_Pr_methodCount (qa_ws y_Pr_methodCount b_Pr_methodCount 1 (some .int)) (qa_rm 0 0) D (qa_ty cI cJ cF cZ) 107 ad (xe_en cI cJ cF ad) [.ref (ad 1)] g (xf_Pr_methodCount g) := by
  refine qa_meti (by decide) (Nat.le_of_ble_eq_true rfl) ?_
  intro p e s m args below meth c Q A T S hK hN hA hT ret ls hl hO
  have hx := S.1
  have hb := S.2.1
  have hl : lv_has ls 1 [(0, .ref (ad 1))] := hl
  unfold xf_Pr_methodCount at hT
  refine lv_aload_n hx hb d_Pr_methodCount_0 rfl (lv_at hl 0 rfl) ?_
  refine qa_get S hK hO hi_Pr 1 (by decide) rfl rfl 1 (by decide) lf_Pr_77 rfl rfl d_Pr_methodCount_1 ?_
  exact ret hT hO d_Pr_methodCount_4
def xf_Ch_rowOf (g : qa_St) (x0 : Int32) (x1 : Int32) : qa_Re := (some (((x0 * (20 : Int32)) + x1), g))
set_option maxHeartbeats 4000000 in
set_option maxRecDepth 100000 in
theorem xc_Ch_rowOf (l : Launch) (D : va_G) (cI cJ cF cZ : ClassId) (ad : Nat → Nat) (g : qa_St) (x0 : Int32) (x1 : Int32) : qa_Mi l y_Ch_rowOf (qa_ws y_Ch_rowOf b_Ch_rowOf 2 (some .int)) (qa_rm 0 0) D (qa_ty cI cJ cF cZ) 107 ad (xe_en cI cJ cF ad) [.int x0, .int x1] g (xf_Ch_rowOf g x0 x1) := by
  refine qa_meti (by decide) (Nat.le_of_ble_eq_true rfl) ?_
  intro p e s m args below meth c Q A T S hK hN hA hT ret ls hl hO
  have hx := S.1
  have hb := S.2.1
  have hl : lv_has ls 2 [(0, .int x0), (1, .int x1)] := hl
  unfold xf_Ch_rowOf at hT
  refine lv_iload_n hx hb d_Ch_rowOf_0 rfl (lv_at hl 0 rfl) ?_
  refine lv_bipush (v := 20) hx hb d_Ch_rowOf_1 (by decide) ?_
  refine lv_imul hx hb d_Ch_rowOf_3 ?_
  refine lv_iload_n hx hb d_Ch_rowOf_4 rfl (lv_at hl 1 rfl) ?_
  refine lv_iadd hx hb d_Ch_rowOf_5 ?_
  exact ret hT hO d_Ch_rowOf_6
def xf_Ar_rangeCheck (g : qa_St) (x0 : Int32) (x1 : Int32) (x2 : Int32) : qa_Re := (if x1 ≤ x2 then (if 0 ≤ x1 then (if x2 ≤ x0 then (some (0, g)) else none) else none) else none)
set_option maxHeartbeats 4000000 in
set_option maxRecDepth 100000 in
theorem xc_Ar_rangeCheck (l : Launch) (D : va_G) (cI cJ cF cZ : ClassId) (ad : Nat → Nat) (g : qa_St) (x0 : Int32) (x1 : Int32) (x2 : Int32) : qa_Mv l y_Ar_rangeCheck (qa_ws y_Ar_rangeCheck b_Ar_rangeCheck 3 none) (qa_rm 0 0) D (qa_ty cI cJ cF cZ) 107 ad (xe_en cI cJ cF ad) [.int x0, .int x1, .int x2] g (xf_Ar_rangeCheck g x0 x1 x2) := by
  refine qa_metv (by decide) (Nat.le_of_ble_eq_true rfl) ?_
  intro p e s m args below meth c Q A T S hK hN hA hT ret ls hl hO
  have hx := S.1
  have hb := S.2.1
  have hl : lv_has ls 3 [(0, .int x0), (1, .int x1), (2, .int x2)] := hl
  unfold xf_Ar_rangeCheck at hT
  refine lv_iload_n hx hb d_Ar_rangeCheck_0 rfl (lv_at hl 1 rfl) ?_
  refine lv_iload_n hx hb d_Ar_rangeCheck_1 rfl (lv_at hl 2 rfl) ?_
  refine lv_icmp_le (tgt := 46) hx hb d_Ar_rangeCheck_2 (by decide) (fun h => ?_) (fun h => ?_)
  · have hT := qa_t hT h
    refine lv_iload_n hx hb d_Ar_rangeCheck_46 rfl (lv_at hl 1 rfl) ?_
    refine lv_if_ge (tgt := 59) hx hb d_Ar_rangeCheck_47 (by decide) (fun h => ?_) (fun h => ?_)
    · have hT := qa_t hT h
      refine lv_iload_n hx hb d_Ar_rangeCheck_59 rfl (lv_at hl 2 rfl) ?_
      refine lv_iload_n hx hb d_Ar_rangeCheck_60 rfl (lv_at hl 0 rfl) ?_
      refine lv_icmp_le (tgt := 73) hx hb d_Ar_rangeCheck_61 (by decide) (fun h => ?_) (fun h => ?_)
      · have hT := qa_t hT h
        exact ret hT hO d_Ar_rangeCheck_73
      · have hT := qa_f hT h
        cases hT
    · have hT := qa_f hT h
      cases hT
  · have hT := qa_f hT h
    cases hT
def xf_Ar_fill4_10 (r0 : Nat) (n0 : Nat) : Nat → qa_St → Int32 → Int32 → Int32 → qa_Re
  | 0, _, _, _, _ => none
  | n + 1, g, x2, x3, x4 => (if x2 ≤ x4 then (some (0, g)) else (if x4 < 0 ∨ n0 ≤ x4.toNatClampNeg then none else ((xf_Ar_fill4_10 r0 n0 n) (qa_up g r0 x4.toNatClampNeg x3) x2 x3 (x4 + 1))))
def xf_Ar_fill4 (g : qa_St) (r0 : Nat) (n0 : Nat) (x1 : Int32) (x2 : Int32) (x3 : Int32) : qa_Re := ((xf_Ar_rangeCheck g (Int32.ofNat n0) x1 x2).bind fun t4 => (xf_Ar_fill4_10 r0 n0 4096 t4.2 x2 x3 x1))
set_option maxHeartbeats 4000000 in
set_option maxRecDepth 100000 in
theorem xc_Ar_fill4 (l : Launch) (D : va_G) (cI cJ cF cZ : ClassId) (ad : Nat → Nat) (g : qa_St) (r0 : Nat) (n0 : Nat) (x1 : Int32) (x2 : Int32) (x3 : Int32) (hr0 : r0 < 107) (he0 : ∀ w, (xe_en cI cJ cF ad) r0 w = .inl (cI, n0, .inl w)) : qa_Mv l y_Ar_fill4 (qa_ws y_Ar_fill4 b_Ar_fill4 5 none) (qa_rm 1 22) D (qa_ty cI cJ cF cZ) 107 ad (xe_en cI cJ cF ad) [.ref (ad r0), .int x1, .int x2, .int x3] g (xf_Ar_fill4 g r0 n0 x1 x2 x3) := by
  refine qa_metv (by decide) (Nat.le_of_ble_eq_true rfl) ?_
  intro p e s m args below meth c Q A T S hK hN hA hT ret ls hl hO
  have hx := S.1
  have hb := S.2.1
  have hl : lv_has ls 5 [(0, .ref (ad r0)), (1, .int x1), (2, .int x2), (3, .int x3)] := hl
  have b10 : ∀ (n : Nat), ∀ (g : qa_St) (x2 : Int32) (x3 : Int32) (x4 : Int32) (ls : Array Slot) (H : Heap) (locs : List Loc), lv_has ls 5 [(0, .ref (ad r0)), (2, .int x2), (3, .int x3), (4, .int x4)] → qa_O D 107 ad (xe_en cI cJ cF ad) A s.heap g H locs → xf_Ar_fill4_10 r0 n0 n g x2 x3 x4 = some T → W p l e (qa_rm 1 22) s m args below meth c H locs 0 0 Q (F0 m 10 ls []) := by
    intro n
    induction n with
    | zero => intro g x2 x3 x4 ls H locs hl hO hT; rw [xf_Ar_fill4_10] at hT; cases hT
    | succ n ih =>
      intro g x2 x3 x4 ls H locs hl hO hT
      rw [xf_Ar_fill4_10] at hT
      refine lv_iload hx hb d_Ar_fill4_10 (lv_at hl 3 rfl) ?_
      refine lv_iload_n hx hb d_Ar_fill4_12 rfl (lv_at hl 1 rfl) ?_
      refine lv_icmp_ge (tgt := 27) hx hb d_Ar_fill4_13 (by decide) (fun h => ?_) (fun h => ?_)
      · have hT := qa_t hT h
        exact ret hT hO d_Ar_fill4_27
      · have hT := qa_f hT h
        refine lv_aload_n hx hb d_Ar_fill4_16 rfl (lv_at hl 0 rfl) ?_
        refine lv_iload hx hb d_Ar_fill4_17 (lv_at hl 3 rfl) ?_
        refine lv_iload_n hx hb d_Ar_fill4_19 rfl (lv_at hl 2 rfl) ?_
        obtain ⟨hi20, hT⟩ := qa_c hT
        refine qa_iast (n := n0) S hK hO r0 hr0 0 he0 rfl hi20 d_Ar_fill4_20 (fun H locs hO => ?_)
        refine lv_iinc (lv' := [(4, .int (x4 + 1)), (0, .ref (ad r0)), (2, .int x2), (3, .int x3)]) hx hb d_Ar_fill4_21 hl (k := 3) rfl (qa_o1 _) (by decide) rfl (fun ls hl => ?_)
        refine lv_goto (tgt := 10) hx hb d_Ar_fill4_24 (by decide) ?_
        exact ih (qa_up g r0 x4.toNatClampNeg x3) x2 x3 (x4 + 1) _ _ _ (lv_sub hl [1, 2, 3, 0] rfl) hO hT
  unfold xf_Ar_fill4 at hT
  refine lv_aload_n hx hb d_Ar_fill4_0 rfl (lv_at hl 0 rfl) ?_
  refine qa_alen S hK hO r0 hr0 0 he0 rfl rfl d_Ar_fill4_1 ?_
  refine lv_iload_n hx hb d_Ar_fill4_2 rfl (lv_at hl 1 rfl) ?_
  refine lv_iload_n hx hb d_Ar_fill4_3 rfl (lv_at hl 2 rfl) ?_
  obtain ⟨t4, ht4, hT⟩ := qa_b hT
  refine qa_Sv (As := [.int (Int32.ofNat n0), .int x1, .int x2]) (rest := []) S hK hN hA hO (xc_Ar_rangeCheck l D cI cJ cF cZ ad g (Int32.ofNat n0) x1 x2) ht4 qy_Ar_rangeCheck lm_Ar_13 ⟨by decide, by decide⟩ rfl hl.1 rfl (Nat.le_of_ble_eq_true rfl) d_Ar_fill4_4 (fun H locs hO => ?_)
  refine lv_iload_n hx hb d_Ar_fill4_7 rfl (lv_at hl 1 rfl) ?_
  refine lv_istore (lv' := [(4, .int x1), (0, .ref (ad r0)), (1, .int x1), (2, .int x2), (3, .int x3)]) hx hb d_Ar_fill4_8 hl (by decide) rfl (fun ls hl => ?_)
  exact b10 4096 t4.2 x2 x3 x1 _ _ _ (lv_sub hl [1, 3, 4, 0] rfl) hO hT
def xf_Fr_clear (g : qa_St) (r0 : Nat) : qa_Re := ((xf_Ar_fill g (r0 + 1) 10 (8 : Int32)).bind fun t6 => (some (0, (qa_up (qa_up t6.2 r0 1 (0 : Int32)) r0 2 (0 : Int32)))))
set_option maxHeartbeats 4000000 in
set_option maxRecDepth 100000 in
theorem xc_Fr_clear (l : Launch) (D : va_G) (cI cJ cF cZ : ClassId) (ad : Nat → Nat) (g : qa_St) (r0 : Nat) (hf0 : xe_F r0) : qa_Mv l y_Fr_clear (qa_ws y_Fr_clear b_Fr_clear 1 none) (qa_rm 1 23) D (qa_ty cI cJ cF cZ) 107 ad (xe_en cI cJ cF ad) [.ref (ad r0)] g (xf_Fr_clear g r0) := by
  refine qa_metv (by decide) (Nat.le_of_ble_eq_true rfl) ?_
  intro p e s m args below meth c Q A T S hK hN hA hT ret ls hl hO
  have hx := S.1
  have hb := S.2.1
  have hl : lv_has ls 1 [(0, .ref (ad r0))] := hl
  unfold xf_Fr_clear at hT
  refine lv_aload_n hx hb d_Fr_clear_0 rfl (lv_at hl 0 rfl) ?_
  refine qa_get S hK hO hi_Fr r0 (xe_Flt hf0) (xe_fr hf0 _) rfl 0 (by decide) lf_Fr_9 rfl rfl d_Fr_clear_1 ?_
  refine lv_bipush (v := 8) hx hb d_Fr_clear_4 (by decide) ?_
  obtain ⟨t6, ht6, hT⟩ := qa_b hT
  refine qa_Sv (As := [.ref (ad (r0 + 1)), .int (8 : Int32)]) (rest := []) S hK hN hA hO (xc_Ar_fill l D cI cJ cF cZ ad g (r0 + 1) 10 (8 : Int32) (xe_Plt hf0) (xe_pl hf0)) ht6 qy_Ar_fill lm_Fr_15 ⟨by decide, by decide⟩ rfl hl.1 rfl (Nat.le_of_ble_eq_true rfl) d_Fr_clear_6 (fun H locs hO => ?_)
  refine lv_aload_n hx hb d_Fr_clear_9 rfl (lv_at hl 0 rfl) ?_
  refine lv_iconst (v := 0) hx hb d_Fr_clear_10 (by decide) ?_
  refine qa_put S hK hO hi_Fr t_Fr t_Fr_ok n_Fr r0 (xe_Flt hf0) (xe_fr hf0 _) rfl 1 (by decide) lf_Fr_21 rfl rfl (ty := .int) (by decide +kernel) rfl rfl (Nat.le_of_ble_eq_true rfl) (by rw [xe_fr hf0]; rfl) d_Fr_clear_11 (fun H locs hO => ?_)
  refine lv_aload_n hx hb d_Fr_clear_14 rfl (lv_at hl 0 rfl) ?_
  refine lv_iconst (v := 0) hx hb d_Fr_clear_15 (by decide) ?_
  refine qa_put S hK hO hi_Fr t_Fr t_Fr_ok n_Fr r0 (xe_Flt hf0) (xe_fr hf0 _) rfl 2 (by decide) lf_Fr_25 rfl rfl (ty := .int) (by decide +kernel) rfl rfl (Nat.le_of_ble_eq_true rfl) (by rw [xe_fr hf0]; rfl) d_Fr_clear_16 (fun H locs hO => ?_)
  exact ret hT hO d_Fr_clear_19
def xf_Pr_inputsOf (g : qa_St) (x1 : Int32) : qa_Re := ((xf_Pr_isMethod g x1).bind fun t2 => (if t2.1 = 0 then (some ((0 : Int32), t2.2)) else (if x1 < 0 ∨ 10 ≤ x1.toNatClampNeg then none else (some ((t2.2 14 x1.toNatClampNeg), t2.2)))))
set_option maxHeartbeats 4000000 in
set_option maxRecDepth 100000 in
theorem xc_Pr_inputsOf (l : Launch) (D : va_G) (cI cJ cF cZ : ClassId) (ad : Nat → Nat) (g : qa_St) (x1 : Int32) : qa_Mi l y_Pr_inputsOf (qa_ws y_Pr_inputsOf b_Pr_inputsOf 2 (some .int)) (qa_rm 1 21) D (qa_ty cI cJ cF cZ) 107 ad (xe_en cI cJ cF ad) [.ref (ad 1), .int x1] g (xf_Pr_inputsOf g x1) := by
  refine qa_meti (by decide) (Nat.le_of_ble_eq_true rfl) ?_
  intro p e s m args below meth c Q A T S hK hN hA hT ret ls hl hO
  have hx := S.1
  have hb := S.2.1
  have hl : lv_has ls 2 [(0, .ref (ad 1)), (1, .int x1)] := hl
  unfold xf_Pr_inputsOf at hT
  refine lv_aload_n hx hb d_Pr_inputsOf_0 rfl (lv_at hl 0 rfl) ?_
  refine lv_iload_n hx hb d_Pr_inputsOf_1 rfl (lv_at hl 1 rfl) ?_
  obtain ⟨t2, ht2, hT⟩ := qa_b hT
  refine qa_Vi (As := [.int x1]) (rest := []) (r := 1) S hK hN hA hO (xc_Pr_isMethod l D cI cJ cF cZ ad g x1) ht2 qy_Pr_isMethod lm_Pr_87 ⟨by decide, by decide⟩ (by decide) rfl rfl rfl rfl hl.1 rfl (Nat.le_of_ble_eq_true rfl) d_Pr_inputsOf_2 (fun H locs hO => ?_)
  refine lv_if_eq (tgt := 17) hx hb d_Pr_inputsOf_5 (by decide) (fun h => ?_) (fun h => ?_)
  · have hT := qa_t hT h
    refine lv_iconst (v := 0) hx hb d_Pr_inputsOf_17 (by decide) ?_
    exact ret hT hO d_Pr_inputsOf_18
  · have hT := qa_f hT h
    refine lv_aload_n hx hb d_Pr_inputsOf_8 rfl (lv_at hl 0 rfl) ?_
    refine qa_get S hK hO hi_Pr 1 (by decide) rfl rfl 8 (by decide) lf_Pr_32 rfl rfl d_Pr_inputsOf_9 ?_
    refine lv_iload_n hx hb d_Pr_inputsOf_12 rfl (lv_at hl 1 rfl) ?_
    obtain ⟨hi13, hT⟩ := qa_c hT
    refine qa_iald (n := 10) S hK hO 14 (by decide) 0 (xe_arr rfl) rfl hi13 d_Pr_inputsOf_13 ?_
    refine lv_goto (tgt := 18) hx hb d_Pr_inputsOf_14 (by decide) ?_
    exact ret hT hO d_Pr_inputsOf_18
def xf_Fr_setPlace (g : qa_St) (r0 : Nat) (x1 : Int32) (x2 : Int32) : qa_Re := ((xf_Cw_within g x1 (10 : Int32)).bind fun t3 => (if t3.1 = 0 then (some (0, t3.2)) else (if x1 < 0 ∨ 10 ≤ x1.toNatClampNeg then none else (some (0, (qa_up t3.2 (r0 + 1) x1.toNatClampNeg x2))))))
set_option maxHeartbeats 4000000 in
set_option maxRecDepth 100000 in
theorem xc_Fr_setPlace (l : Launch) (D : va_G) (cI cJ cF cZ : ClassId) (ad : Nat → Nat) (g : qa_St) (r0 : Nat) (x1 : Int32) (x2 : Int32) (hf0 : xe_F r0) : qa_Mv l y_Fr_setPlace (qa_ws y_Fr_setPlace b_Fr_setPlace 3 none) (qa_rm 1 21) D (qa_ty cI cJ cF cZ) 107 ad (xe_en cI cJ cF ad) [.ref (ad r0), .int x1, .int x2] g (xf_Fr_setPlace g r0 x1 x2) := by
  refine qa_metv (by decide) (Nat.le_of_ble_eq_true rfl) ?_
  intro p e s m args below meth c Q A T S hK hN hA hT ret ls hl hO
  have hx := S.1
  have hb := S.2.1
  have hl : lv_has ls 3 [(0, .ref (ad r0)), (1, .int x1), (2, .int x2)] := hl
  unfold xf_Fr_setPlace at hT
  refine lv_iload_n hx hb d_Fr_setPlace_0 rfl (lv_at hl 1 rfl) ?_
  refine lv_bipush (v := 10) hx hb d_Fr_setPlace_1 (by decide) ?_
  obtain ⟨t3, ht3, hT⟩ := qa_b hT
  refine qa_SNi (As := [.int x1, .int (10 : Int32)]) (rest := []) S hK hN hA hO (xc_Cw_within l D cI cJ cF cZ ad g x1 (10 : Int32)) ht3 qy_Cw_within ln_Fr_43 ⟨by decide, by decide⟩ rfl hl.1 rfl (Nat.le_of_ble_eq_true rfl) d_Fr_setPlace_3 (fun H locs hO => ?_)
  refine lv_if_eq (tgt := 16) hx hb d_Fr_setPlace_6 (by decide) (fun h => ?_) (fun h => ?_)
  · have hT := qa_t hT h
    exact ret hT hO d_Fr_setPlace_16
  · have hT := qa_f hT h
    refine lv_aload_n hx hb d_Fr_setPlace_9 rfl (lv_at hl 0 rfl) ?_
    refine qa_get S hK hO hi_Fr r0 (xe_Flt hf0) (xe_fr hf0 _) rfl 0 (by decide) lf_Fr_9 rfl rfl d_Fr_setPlace_10 ?_
    refine lv_iload_n hx hb d_Fr_setPlace_13 rfl (lv_at hl 1 rfl) ?_
    refine lv_iload_n hx hb d_Fr_setPlace_14 rfl (lv_at hl 2 rfl) ?_
    obtain ⟨hi15, hT⟩ := qa_c hT
    refine qa_iast (n := 10) S hK hO (r0 + 1) (xe_Plt hf0) 0 (xe_pl hf0) rfl hi15 d_Fr_setPlace_15 (fun H locs hO => ?_)
    exact ret hT hO d_Fr_setPlace_16
def xf_Pr_ownerOf (g : qa_St) (x1 : Int32) : qa_Re := ((xf_Pr_isMethod g x1).bind fun t2 => (if t2.1 = 0 then (some ((-1 : Int32), t2.2)) else (if x1 < 0 ∨ 10 ≤ x1.toNatClampNeg then none else (some ((t2.2 12 x1.toNatClampNeg), t2.2)))))
set_option maxHeartbeats 4000000 in
set_option maxRecDepth 100000 in
theorem xc_Pr_ownerOf (l : Launch) (D : va_G) (cI cJ cF cZ : ClassId) (ad : Nat → Nat) (g : qa_St) (x1 : Int32) : qa_Mi l y_Pr_ownerOf (qa_ws y_Pr_ownerOf b_Pr_ownerOf 2 (some .int)) (qa_rm 1 21) D (qa_ty cI cJ cF cZ) 107 ad (xe_en cI cJ cF ad) [.ref (ad 1), .int x1] g (xf_Pr_ownerOf g x1) := by
  refine qa_meti (by decide) (Nat.le_of_ble_eq_true rfl) ?_
  intro p e s m args below meth c Q A T S hK hN hA hT ret ls hl hO
  have hx := S.1
  have hb := S.2.1
  have hl : lv_has ls 2 [(0, .ref (ad 1)), (1, .int x1)] := hl
  unfold xf_Pr_ownerOf at hT
  refine lv_aload_n hx hb d_Pr_ownerOf_0 rfl (lv_at hl 0 rfl) ?_
  refine lv_iload_n hx hb d_Pr_ownerOf_1 rfl (lv_at hl 1 rfl) ?_
  obtain ⟨t2, ht2, hT⟩ := qa_b hT
  refine qa_Vi (As := [.int x1]) (rest := []) (r := 1) S hK hN hA hO (xc_Pr_isMethod l D cI cJ cF cZ ad g x1) ht2 qy_Pr_isMethod lm_Pr_87 ⟨by decide, by decide⟩ (by decide) rfl rfl rfl rfl hl.1 rfl (Nat.le_of_ble_eq_true rfl) d_Pr_ownerOf_2 (fun H locs hO => ?_)
  refine lv_if_eq (tgt := 17) hx hb d_Pr_ownerOf_5 (by decide) (fun h => ?_) (fun h => ?_)
  · have hT := qa_t hT h
    refine lv_iconst (v := -1) hx hb d_Pr_ownerOf_17 (by decide) ?_
    exact ret hT hO d_Pr_ownerOf_18
  · have hT := qa_f hT h
    refine lv_aload_n hx hb d_Pr_ownerOf_8 rfl (lv_at hl 0 rfl) ?_
    refine qa_get S hK hO hi_Pr 1 (by decide) rfl rfl 6 (by decide) lf_Pr_26 rfl rfl d_Pr_ownerOf_9 ?_
    refine lv_iload_n hx hb d_Pr_ownerOf_12 rfl (lv_at hl 1 rfl) ?_
    obtain ⟨hi13, hT⟩ := qa_c hT
    refine qa_iald (n := 10) S hK hO 12 (by decide) 0 (xe_arr rfl) rfl hi13 d_Pr_ownerOf_13 ?_
    refine lv_goto (tgt := 18) hx hb d_Pr_ownerOf_14 (by decide) ?_
    exact ret hT hO d_Pr_ownerOf_18
