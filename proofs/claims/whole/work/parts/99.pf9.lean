/-! A turn of a frame -/
def ru_c (h0 : qa_St) (x1 x2 : Int32) : Int32 := if x1 = 11 then x2 else if x1 = 14 then x2 else if x1 = 15 then x2 else if x1 = 16 then h0 4 x2.toInt.toNat else -1
def ru_KK (arg : Int32) (D : Nat) (x1 x2 : Int32) : Nat → qa_St → qa_Re := fun t h => (mf_Mo_instruct_151 h (Int32.ofNat (D - 1)) x1 x2).bind fun z => RR arg (t + 1) z.2
theorem ms_inst {h0 h : qa_St} (hP : pr_P h0) (hp : pm h0 h) {D m pc : Nat} (hD : 1 ≤ D ∧ D ≤ 10) (hm : (m : Int) < (h0 0 4).toInt) (hi : (pc : Int) < (h0 7 m).toInt) (hF : h 0 32 = Int32.ofNat D) (h21 : h 21 (D - 1) = Int32.ofNat m) (h22 : h 22 (D - 1) = Int32.ofNat pc) (s0 : Int32) (hc : (h 25 (D - 1) = 0 ∧ ¬ h 0 30 = h 0 31 ∧ s0 = 1) ∨ (¬ h 25 (D - 1) = 0 ∧ s0 = 0)) : mf_Mo_instruct h = mf_Mo_instruct_135 (qa_up (qa_up h 0 30 (h 0 30 + s0)) 25 (D - 1) 0) (Int32.ofNat (D - 1)) (h0 8 (20 * m + pc)) (h0 9 (20 * m + pc)) (ru_c h0 (h0 8 (20 * m + pc)) (h0 9 (20 * m + pc))) := by
  have hP0 := hP
  obtain ⟨hN, hC, hM, hU, hK, hG⟩ := hP
  obtain ⟨n0, n1, n2, n3⟩ := hN
  have q := hM m hm
  have qk := hK m pc hm hi
  have e0 : (0 : Int32).toInt = 0 := rfl
  obtain ⟨bm1, bm2⟩ := ru_b hD
  have em : (Int32.ofNat m).toInt = (m : Int) := pv_nI (by omega)
  have emn : (Int32.ofNat m).toInt.toNat = m := by omega
  have ep : (Int32.ofNat pc).toInt = (pc : Int) := pv_nI (by omega)
  have epn : (Int32.ofNat pc).toInt.toNat = pc := by omega
  have er := (pr_row (h := h) (Int32.ofNat m) (Int32.ofNat pc) (by omega) (by omega)).2
  rw [emn, epn] at er
  have erR : (20 : Int32) * Int32.ofNat m + Int32.ofNat pc = Int32.ofNat (20 * m + pc) := by rw [pv_eq, er, pv_nI (by omega)]
  have eR : (Int32.ofNat (20 * m + pc)).toInt = ((20 * m + pc : Nat) : Int) := pv_nI (by omega)
  have eRn : (Int32.ofNat (20 * m + pc)).toNatClampNeg = 20 * m + pc := by rw [pv_cl]; omega
  have hRb : ¬ (Int32.ofNat (20 * m + pc) < 0 ∨ 200 ≤ (Int32.ofNat (20 * m + pc)).toNatClampNeg) := by rw [eRn, pv_lt, eR, e0]; omega
  have h52 : ∀ s : Int32, mf_Mo_instruct_52 h (Int32.ofNat (D - 1)) s (h 0 30) = mf_Mo_instruct_135 (qa_up (qa_up h 0 30 (h 0 30 + s)) 25 (D - 1) 0) (Int32.ofNat (D - 1)) (h0 8 (20 * m + pc)) (h0 9 (20 * m + pc)) (ru_c h0 (h0 8 (20 * m + pc)) (h0 9 (20 * m + pc))) := fun s => by
    unfold mf_Mo_instruct_52
    rw [if_neg bm2, if_neg bm2, bm1]
    obtain ⟨h1, hh1⟩ : ∃ h1, h1 = qa_up (qa_up h 0 30 (h 0 30 + s)) 25 (D - 1) 0 := ⟨_, rfl⟩
    rw [← hh1]
    have k1 : ∀ r k, ¬ (r = 0 ∧ k = 30) → ¬ (r = 25 ∧ k = D - 1) → h1 r k = h r k := fun r k z1 z2 => by rw [hh1, pv_get, if_neg z2, pv_get, if_neg z1]
    rw [k1 21 _ (by omega) (by omega), h21]
    unfold mf_Mo_instruct_71
    rw [if_neg bm2, bm1, k1 22 _ (by omega) (by omega), h22, erR, if_neg hRb, if_neg hRb, eRn, k1 8 _ (by omega) (by omega), k1 9 _ (by omega) (by omega), hp.1 8 _ (by omega) (by omega), hp.1 9 _ (by omega) (by omega)]
    unfold mf_Mo_instruct_113 mf_Mo_instruct_131 ru_c
    by_cases z1 : h0 8 (20 * m + pc) = 11
    · rw [if_pos z1, if_pos z1]
    · rw [if_neg z1, if_neg z1]
      by_cases z2 : h0 8 (20 * m + pc) = 14
      · rw [if_pos z2, if_pos z2]
      · rw [if_neg z2, if_neg z2]
        by_cases z3 : h0 8 (20 * m + pc) = 15
        · rw [if_pos z3, if_pos z3]
        · rw [if_neg z3, if_neg z3]
          by_cases z4 : h0 8 (20 * m + pc) = 16
          · have ht5 := qk.2.2.2.2.2.2 (by rw [z4]; rfl)
            rw [if_pos z4, if_pos z4, if_neg (by rw [pv_lt, pv_cl, e0]; omega), pv_cl, k1 4 _ (by omega) (by omega), hp.1 4 _ (by omega) (by omega)]
          · rw [if_neg z4, if_neg z4]
  unfold mf_Mo_instruct
  rw [hF, ru_fD hD.2 hD.1, if_neg bm2, bm1]
  unfold mf_Mo_instruct_33
  rw [if_neg bm2, bm1]
  rcases hc with ⟨c1, c2, c3⟩ | ⟨c1, c2⟩
  · rw [if_pos c1, if_neg c2, if_pos c1, c3]
    exact h52 1
  · rw [if_neg c1, if_neg c1, c2]
    exact h52 0
theorem ms_spent {h : qa_St} {D : Nat} (hD : 1 ≤ D ∧ D ≤ 10) (hF : h 0 32 = Int32.ofNat D) (h25 : h 25 (D - 1) = 0) (hs : h 0 30 = h 0 31) : mf_Mo_instruct h = some (0, qa_up h 0 28 2) := by
  obtain ⟨bm1, bm2⟩ := ru_b hD
  unfold mf_Mo_instruct
  rw [hF, ru_fD hD.2 hD.1, if_neg bm2, bm1, if_pos h25, if_pos hs]
theorem ms_135 (arg : Int32) (D : Nat) (h : qa_St) (x1 x2 c : Int32) (t : Nat) : ((mf_Mo_instruct_135 h (Int32.ofNat (D - 1)) x1 x2 c).bind fun z => RR arg (t + 1) z.2) = if c < 0 then ru_KK arg D x1 x2 t h else TK arg (ru_KK arg D x1 x2) t (mf_Mo_trigger h c) := by
  unfold mf_Mo_instruct_135
  by_cases hc : c < 0
  · rw [if_pos hc, if_pos hc]
    rfl
  · rw [if_neg hc, if_neg hc]
    unfold TK
    cases mf_Mo_trigger h c with
    | none => rfl
    | some z =>
      show ((if z.1 = 0 then mf_Mo_instruct_156 z.2 (Int32.ofNat (D - 1)) x1 x2 0 else mf_Mo_instruct_151 z.2 (Int32.ofNat (D - 1)) x1 x2).bind fun z => RR arg (t + 1) z.2) = if z.1 = 0 then RR arg (t + 1) z.2 else ru_KK arg D x1 x2 t z.2
      by_cases hz : z.1 = 0
      · rw [if_pos hz, if_pos hz]
        unfold mf_Mo_instruct_156
        rw [if_pos rfl]
        rfl
      · rw [if_neg hz, if_neg hz]
        rfl
/-- once the initialiser is left, the instruction is taken up again -/
theorem ru_resume {h0 : qa_St} (hP : pr_P h0) (arg : Int32) {D m pc : Nat} (hD : 1 ≤ D ∧ D ≤ 9) (hm : (m : Int) < (h0 0 4).toInt) (hi : (pc : Int) < (h0 7 m).toInt) (hx : qa_St) (x21 : hx 21 (D - 1) = Int32.ofNat m) (x22 : hx 22 (D - 1) = Int32.ofNat pc) (T : Nat) (hT : (T : Int) < (h0 0 0).toInt) (hcT : ru_c h0 (h0 8 (20 * m + pc)) (h0 9 (20 * m + pc)) = Int32.ofNat T) : ∀ (hb : qa_St) (v : Int32) (t : Nat), ru_m h0 hb → ru_Z hb → hb 0 32 = Int32.ofNat (D + 1) → hb 24 D = 1 → ru_L D (if D = 0 then hx else qa_up hx 25 (D - 1) 1) hb → t + 1 < 2100 → ∃ hc, ((mf_Mo_leave hb v).bind fun z => RR arg (t + 1) z.2) = TK arg (ru_KK arg D (h0 8 (20 * m + pc)) (h0 9 (20 * m + pc))) (t + 1) (mf_Mo_trigger hc (Int32.ofNat T)) ∧ (∀ r k, ¬ (r = 0 ∧ (k = 32 ∨ k = 28 ∨ k = 29)) → ¬ (r = 25 ∧ k = D - 1 ∧ 1 ≤ D) → hc r k = hb r k) ∧ hc 0 32 = Int32.ofNat D ∧ ru_Z hc ∧ (1 ≤ D → hc 25 (D - 1) = 0) := by
  intro hb v t hm1 hZ hF h24 hL ht
  have hn := hP.1
  obtain ⟨n0, n1, n2, n3⟩ := hn
  have e0 : (0 : Int32).toInt = 0 := rfl
  have eD : (Int32.ofNat D).toInt = (D : Int) := pv_nI (by omega)
  have eT : (Int32.ofNat T).toInt = (T : Int) := pv_nI (by omega)
  have hD0 : ¬ D = 0 := by omega
  rw [if_neg hD0] at hL
  have hlv := ms_leave_init (D := D) (by omega) hF h24 v
  rw [if_neg hD0] at hlv
  obtain ⟨hb1, hhb1⟩ : ∃ hb1, hb1 = qa_up hb 0 32 (Int32.ofNat D) := ⟨_, rfl⟩
  rw [← hhb1] at hlv
  have k1 : ∀ r k, ¬ (r = 0 ∧ k = 32) → hb1 r k = hb r k := fun r k z => by rw [hhb1, pv_get, if_neg z]
  have hF1 : hb1 0 32 = Int32.ofNat D := by rw [hhb1, pv_self]
  have hpm1 : pm h0 hb1 := ⟨fun r k a b => by rw [k1 r k (by omega)]; exact hm1.1 r k a (by omega), by rw [k1 0 0 (by omega)]; exact hm1.2 0 (by omega), by rw [k1 0 4 (by omega)]; exact hm1.2 4 (by omega)⟩
  have h21 : hb1 21 (D - 1) = Int32.ofNat m := by rw [k1 21 _ (by omega), hL.1 21 _ (by omega) (by omega) (by omega), pv_nr (by decide)]; exact x21
  have h22 : hb1 22 (D - 1) = Int32.ofNat pc := by rw [k1 22 _ (by omega), hL.1 22 _ (by omega) (by omega) (by omega), pv_nr (by decide)]; exact x22
  have h25 : hb1 25 (D - 1) = 1 := by rw [k1 25 _ (by omega), hL.1 25 _ (by omega) (by omega) (by omega), pv_self]
  have hin := ms_inst hP hpm1 (D := D) (by omega) hm hi hF1 h21 h22 0 (Or.inr ⟨by rw [h25]; decide, rfl⟩)
  have h28 : hb1 0 28 = -1 := by rw [k1 0 28 (by omega)]; exact hZ.1
  refine ⟨qa_up (qa_up hb1 0 30 (hb1 0 30 + 0)) 25 (D - 1) 0, ?_, fun r k z1 z2 => ?_, ?_, ⟨?_, ?_⟩, fun _ => pv_self⟩
  · rw [hlv, Option.bind_some]
    dsimp only
    rw [RR_turn arg (t + 1) hb1 ht (by rw [h28]; decide) (by rw [hF1, eD]; omega), hin, ms_135, hcT, if_neg (by rw [pv_lt, eT, e0]; omega)]
  · rw [pv_get, if_neg (by omega)]
    by_cases hz : r = 0 ∧ k = 30
    · rw [hz.1, hz.2, pv_self, Int32.add_zero, k1 0 30 (by omega)]
    · rw [pv_get, if_neg hz, k1 r k (by omega)]
  · rw [pv_nr (by decide), pv_ni (by decide)]; exact hF1
  · rw [pv_nr (by decide), pv_ni (by decide)]; exact h28
  · rw [pv_nr (by decide), pv_ni (by decide), k1 0 29 (by omega)]; exact hZ.2
