theorem ms_s2 {h0 : qa_St} (m : Nat) (hm : m < 10) : ∀ (d i n : Nat) (h : qa_St), i + d = 20 → d < n → ∃ h', mf_Mo_sound_2 n h (Int32.ofNat m) (Int32.ofNat i) = mf_Mo_sound_38 4096 (qa_up (qa_up h' 0 21 0) 0 20 0) (Int32.ofNat m) 0 ∧ (∀ r k, r ≠ 14 → h' r k = h r k) ∧ (∀ j, i ≤ j → j < 20 → h' 14 (20 * m + j) = 0) ∧ ∀ r, ¬ (20 * m + i ≤ r ∧ r < 20 * m + 20) → h' 14 r = h 14 r := by
  intro d
  have e0 : (0 : Int32).toInt = 0 := rfl
  have e20 : (20 : Int32).toInt = 20 := rfl
  have em : (Int32.ofNat m).toInt = (m : Int) := pv_nI (by omega)
  have emn : (Int32.ofNat m).toInt.toNat = m := by omega
  induction d with
  | zero =>
    intro i n h hi hn
    obtain ⟨n, rfl⟩ : ∃ z, n = z + 1 := ⟨n - 1, by omega⟩
    have ei : (Int32.ofNat i).toInt = (i : Int) := pv_nI (by omega)
    refine ⟨h, ?_, fun _ _ _ => rfl, fun j h1 h2 => by omega, fun _ _ => rfl⟩
    rw [mf_Mo_sound_2, if_pos (by rw [pv_le, e20, ei]; omega)]
  | succ d ih =>
    intro i n h hi hn
    obtain ⟨n, rfl⟩ : ∃ z, n = z + 1 := ⟨n - 1, by omega⟩
    have ei : (Int32.ofNat i).toInt = (i : Int) := pv_nI (by omega)
    have ein : (Int32.ofNat i).toInt.toNat = i := by omega
    have er := (pr_row (h := h) (Int32.ofNat m) (Int32.ofNat i) (by omega) (by omega)).2
    rw [emn, ein] at er
    have ern : ((20 : Int32) * Int32.ofNat m + Int32.ofNat i).toNatClampNeg = 20 * m + i := by rw [pv_cl, er]; omega
    obtain ⟨h', a1, a2, a3, a4⟩ := ih (i + 1) n (qa_up h 14 (20 * m + i) 0) (by omega) (by omega)
    refine ⟨h', ?_, fun r k hr => by rw [a2 r k hr, pv_nr hr], fun j h1 h2 => ?_, fun r hr => by rw [a4 r (by omega), pv_ni (by omega)]⟩
    · rw [mf_Mo_sound_2, if_neg (by rw [pv_le, e20, ei]; omega), if_neg (by rw [ern, pv_lt, er, e0]; omega), ern, pv_n1]
      exact a1
    · by_cases hji : j = i
      · rw [hji, a4 _ (by omega)]; exact pv_self
      · exact a3 j (by omega) h2
theorem ms_s38 {h0 : qa_St} (hP : pr_P h0) {m : Nat} (hm : (m : Int) < (h0 0 4).toInt) : ∀ (d p n : Nat) (h : qa_St), pm h0 h → p + d = 4 → d < n → ∃ h', mf_Mo_sound_38 n h (Int32.ofNat m) (Int32.ofNat p) = mf_Mo_sound_93 h' (Int32.ofNat m) ∧ (∀ r k, r ≠ 17 → h' r k = h r k) ∧ ∀ q, q < 4 → h' 17 q = if q = 0 ∧ 0 ≤ (h0 5 m).toInt then h0 4 m else if q < p then h 17 q else if (q : Int) < (h0 6 m).toInt then 9 else 8 := by
  obtain ⟨hN, hC, hM, hU, hK, hG⟩ := hP
  obtain ⟨n0, n1, n2, n3⟩ := hN
  have q := hM m hm
  intro d
  have e0 : (0 : Int32).toInt = 0 := rfl
  have e4 : (4 : Int32).toInt = 4 := rfl
  have em : (Int32.ofNat m).toInt = (m : Int) := pv_nI (by omega)
  have emn : (Int32.ofNat m).toInt.toNat = m := by omega
  have hmb : ¬ (Int32.ofNat m < 0 ∨ 10 ≤ (Int32.ofNat m).toNatClampNeg) := by rw [pv_lt, pv_cl, em, e0]; omega
  induction d with
  | zero =>
    intro p n h hp hpd hn
    obtain ⟨n, rfl⟩ : ∃ z, n = z + 1 := ⟨n - 1, by omega⟩
    have ep : (Int32.ofNat p).toInt = (p : Int) := pv_nI (by omega)
    rw [mf_Mo_sound_38, if_pos (by rw [pv_le, e4, ep]; omega), if_neg hmb, if_neg hmb, if_neg (show ¬ ((0 : Int32) < 0 ∨ 10 ≤ (0 : Int32).toNatClampNeg) by decide), pv_cl (Int32.ofNat m), emn, hp.1 5 m (by omega) (by omega), hp.1 4 m (by omega) (by omega)]
    by_cases hs : (h0 5 m).toInt < 0
    · rw [if_pos (by rw [pv_lt, e0]; exact hs)]
      exact ⟨h, rfl, fun _ _ _ => rfl, fun q hq => by rw [if_neg (by omega), if_pos (by omega)]⟩
    · rw [if_neg (by rw [pv_lt, e0]; exact hs)]
      refine ⟨_, rfl, fun r k hr => pv_nr hr, fun q hq => ?_⟩
      have e00 : (0 : Int32).toNatClampNeg = 0 := rfl
      rw [e00]
      by_cases hq0 : q = 0
      · rw [if_pos ⟨hq0, by omega⟩, hq0]; exact pv_self
      · rw [if_neg (fun z => hq0 z.1), if_pos (by omega), pv_ni hq0]
  | succ d ih =>
    intro p n h hp hpd hn
    obtain ⟨n, rfl⟩ : ∃ z, n = z + 1 := ⟨n - 1, by omega⟩
    have ep : (Int32.ofNat p).toInt = (p : Int) := pv_nI (by omega)
    have epn : (Int32.ofNat p).toNatClampNeg = p := by rw [pv_cl]; omega
    have hpb : ¬ (Int32.ofNat p < 0 ∨ 10 ≤ (Int32.ofNat p).toNatClampNeg) := by rw [epn, pv_lt, ep, e0]; omega
    have hst : mf_Mo_sound_38 (n + 1) h (Int32.ofNat m) (Int32.ofNat p) = mf_Mo_sound_38 n (qa_up h 17 p (if (p : Int) < (h0 6 m).toInt then 9 else 8)) (Int32.ofNat m) (Int32.ofNat (p + 1)) := by
      rw [mf_Mo_sound_38, if_neg (by rw [pv_le, e4, ep]; omega), if_neg hmb, pv_cl (Int32.ofNat m), emn, hp.1 6 m (by omega) (by omega)]
      unfold mf_Mo_sound_65
      rw [if_neg hpb, if_neg hpb, epn, pv_n1]
      by_cases hw : (p : Int) < (h0 6 m).toInt
      · rw [if_pos hw, if_neg (by rw [pv_le, ep]; omega)]
      · rw [if_neg hw, if_pos (by rw [pv_le, ep]; omega)]
    rw [hst]
    obtain ⟨h', a1, a2, a3⟩ := ih (p + 1) n (qa_up h 17 p (if (p : Int) < (h0 6 m).toInt then 9 else 8)) (pm_tr hp (mw_pm (mw_17 _ _ _))) (by omega) (by omega)
    refine ⟨h', a1, fun r k hr => by rw [a2 r k hr, pv_nr hr], fun q hq => ?_⟩
    rw [a3 q hq]
    by_cases h1 : q = 0 ∧ 0 ≤ (h0 5 m).toInt
    · rw [if_pos h1, if_pos h1]
    · rw [if_neg h1, if_neg h1]
      by_cases hqp : q = p
      · rw [if_pos (show q < p + 1 by omega), if_neg (show ¬ q < p by omega), hqp]; exact pv_self
      · by_cases hlt : q < p
        · rw [if_pos (show q < p + 1 by omega), if_pos hlt, pv_ni hqp]
        · rw [if_neg (show ¬ q < p + 1 by omega), if_neg hlt]
/-- the reference's answer for a method: no sound types, or it has the least -/
theorem ms_sound {g h : qa_St} (hP : pr_P h) (hRR : pr_R g h) {m : Nat} (hm : (m : Int) < (h 0 4).toInt) :
    ∃ v h', mf_Mo_sound h (Int32.ofNat m) = some (v, h') ∧ mr m h h' ∧ mg h m h' ∧ (v = 0 ∨ (v = 1 ∧ tc_po g h m (mN h' m) (mV h' m))) ∧ ∀ NP VP, tc_po g h m NP VP → v = 1 ∧ tc_sle g h (mN h' m) (mV h' m) NP VP := by
  have hP0 := hP
  obtain ⟨hN, hC, hM, hU, hK, hG⟩ := hP
  have hN0 := hN
  obtain ⟨n0, n1, n2, n3⟩ := hN
  have q := hM m hm
  have em : (Int32.ofNat m).toInt = (m : Int) := pv_nI (by omega)
  obtain ⟨h1, a1, a2, a3, a4⟩ := ms_s2 (h0 := h) m (by omega) 20 0 4096 h (by omega) (by omega)
  obtain ⟨h2, hh2⟩ : ∃ h2, h2 = qa_up (qa_up h1 0 21 0) 0 20 0 := ⟨_, rfl⟩
  rw [← hh2] at a1
  have k2 : ∀ r k, r ≠ 14 → ¬ (r = 0 ∧ (k = 20 ∨ k = 21)) → h2 r k = h r k := fun r k h1' h2' => by rw [hh2, pv_get, if_neg (by omega), pv_get, if_neg (by omega), a2 r k h1']
  have k14 : ∀ k, h2 14 k = h1 14 k := fun k => by rw [hh2, pv_nr (by decide), pv_nr (by decide)]
  have hp2 : pm h h2 := ⟨fun r k a b => k2 r k (by omega) (by omega), k2 0 0 (by decide) (by decide), k2 0 4 (by decide) (by decide)⟩
  obtain ⟨h3, b1, b2, b3⟩ := ms_s38 hP0 hm 4 0 4096 h2 hp2 (by omega) (by omega)
  obtain ⟨h4, hh4⟩ : ∃ h4, h4 = qa_up h3 0 22 1 := ⟨_, rfl⟩
  have k4 : ∀ r k, r ≠ 17 → r ≠ 14 → ¬ (r = 0 ∧ (k = 20 ∨ k = 21 ∨ k = 22)) → h4 r k = h r k := fun r k c1 c2 c3 => by rw [hh4, pv_get, if_neg (by omega), b2 r k c1, k2 r k c2 (by omega)]
  have k414 : ∀ k, h4 14 k = h1 14 k := fun k => by rw [hh4, pv_nr (by decide), b2 14 k (by decide), k14]
  have k421 : h4 0 21 = 0 := by rw [hh4, pv_ni (by decide), b2 0 21 (by decide), hh2, pv_ni (by decide), pv_self]
  have k420 : h4 0 20 = 0 := by rw [hh4, pv_ni (by decide), b2 0 20 (by decide), hh2, pv_self]
  have k422 : h4 0 22 = 1 := by rw [hh4, pv_self]
  have hN4 : ∀ i, i < 20 → mN h4 m i = -1 := fun i hi => by
    unfold mN
    rw [if_pos (by rw [k414]; exact a3 i (by omega) hi)]
  have hg4 : mg h m h4 := ⟨⟨fun r k a b => k4 r k (by omega) (by omega) (by omega), k4 0 0 (by decide) (by decide) (by decide), k4 0 4 (by decide) (by decide) (by decide)⟩, fun i hi => Or.inl (hN4 i hi), fun i hi => by
    have := a3 i (by omega) hi
    rw [k414]
    exact ⟨Or.inl this, fun z => absurd this z⟩, Or.inr k422, Or.inl k421⟩
  have hr4 : mr m h h4 := ⟨fun r k c1 c2 c3 c4 c5 => k4 r k c4 c1 c5, fun r hr => ⟨by rw [k414, a4 r (by omega)], k4 15 r (by decide) (by decide) (by omega), fun p _ => k4 16 _ (by decide) (by decide) (by omega)⟩⟩
  have hf4 : mf h4 (tc_st h m) := by
    refine ⟨by show 0 ≤ 6; omega, k420, fun p hp => ?_⟩
    have hp : p < 4 + 0 := hp
    rw [hh4, pv_nr (by decide), b3 p (by omega)]
    show _ = if p = 0 ∧ 0 ≤ (h 5 m).toInt then h 4 m else if (p : Int) < (h 6 m).toInt then 9 else 8
    by_cases c1 : p = 0 ∧ 0 ≤ (h 5 m).toInt
    · rw [if_pos c1, if_pos c1]
    · rw [if_neg c1, if_neg c1, if_neg (by omega)]
  obtain ⟨h5, c1, c2, c3, c4, c5, c6⟩ := ms_arr hP0 hRR hm hg4 hf4 (tc_st_ok hM hm) 0 (by decide)
  have h00 : (0 : Int32).toInt = 0 := rfl
  rw [h00] at c5 c6
  have hL5 : mL g h m h5 := by
    refine ⟨c3, ?_⟩
    rcases c5 with ⟨y1, y2, y3⟩ | y
    · refine Or.inr ⟨y1.trans k421, y3, fun z => ?_⟩
      have := (y2.2.1 z).1
      rw [k422] at this
      exact absurd this (by decide)
    · exact Or.inl y
  obtain ⟨v, h', d1, d2, d3, d4, d5⟩ := ms_loop hP0 hRR hm 1220 0 4096 h5 hL5 (by omega) (by omega) (by omega)
  refine ⟨v, h', ?_, mr_tr hr4 (mr_tr c2 d2), d3, d4, fun NP VP hpo => ?_⟩
  · unfold mf_Mo_sound
    refine a1.trans (b1.trans ?_)
    unfold mf_Mo_sound_93
    rw [← hh4, c1, Option.bind_some]
    exact d1
  · obtain ⟨w1, w2⟩ := c6 NP VP hpo (fun i hi hn => absurd (hN4 i hi) hn) hpo.2.1
    exact d5 NP VP hpo (w1.trans k421) w2
/-- both say the same of a method, and hold the same types -/
theorem tc_both {g h : qa_St} (hP : pr_P h) (hRR : pr_R g h) {m : Nat} (hm : (m : Int) < (h 0 4).toInt) :
    ∃ v g' h', xf_Ch_isSound g (Int32.ofNat m) = some (v, g') ∧ mf_Mo_sound h (Int32.ofNat m) = some (v, h') ∧ (∀ r k, r < 72 ∨ 76 < r → g' r k = g r k) ∧ (∀ r, (r < 20 * m ∨ 20 * m + 20 ≤ r) → g' 74 r = g 74 r ∧ ∀ p, p < 10 → g' 73 (10 * r + p) = g 73 (10 * r + p)) ∧ mr m h h' ∧ (v = 0 ∨ (v = 1 ∧ mg h m h' ∧ tc_po g h m (mN h' m) (mV h' m) ∧ ∀ i, i < 20 → xN g' m i = mN h' m i ∧ (mN h' m i ≠ -1 → ∀ p, p < 4 + (mN h' m i).toNat → xV g' m i p = mV h' m i p))) := by
  obtain ⟨v, g', a1, a2, a3, a4, a5⟩ := xs_isSound hP hRR hm
  obtain ⟨w, h', b1, b2, b3, b4, b5⟩ := ms_sound hP hRR hm
  obtain ⟨hN, hC, hM, hU, hK, hG⟩ := hP
  have hT := hRR.2.1
  have hvw : v = w := by
    rcases a4 with y | ⟨y1, y2⟩
    · rcases b4 with z | ⟨z1, z2⟩
      · rw [y, z]
      · rw [(a5 _ _ z2).1, z1]
    · rw [y1, (b5 _ _ y2).1]
  refine ⟨v, g', h', a1, by rw [hvw]; exact b1, a2, a3, b2, ?_⟩
  rcases a4 with y | ⟨y1, y2⟩
  · exact Or.inl y
  · right
    rcases b4 with z | ⟨z1, z2⟩
    · rw [← hvw, y1] at z; exact absurd z (by decide)
    · refine ⟨y1, b3, z2, fun i hi => ?_⟩
      have := tc_sle_as hN hC hT (b5 _ _ y2).2 (a5 _ _ z2).2 i hi
      exact ⟨this.1, fun hn p hp => (this.2 hn p hp).symm⟩
