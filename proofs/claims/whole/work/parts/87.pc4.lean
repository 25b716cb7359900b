def mg (h0 : qa_St) (m : Nat) (h : qa_St) : Prop := pm h0 h ∧ tc_gd h0 m (mN h m) (mV h m) ∧ (∀ i, i < 20 → (h 14 (20 * m + i) = 0 ∨ h 14 (20 * m + i) = 1) ∧ (h 14 (20 * m + i) ≠ 0 → 0 ≤ (h 15 (20 * m + i)).toInt)) ∧ (h 0 22 = 0 ∨ h 0 22 = 1) ∧ (h 0 21 = 0 ∨ h 0 21 = 1)
theorem ms_arrive {g h0 h : qa_St} (hP : pr_P h0) (hRR : pr_R g h0) {m : Nat} (hm : (m : Int) < (h0 0 4).toInt) (hg : mg h0 m h) {f : tc_F} (hf : mf h f) (hv : tc_ok h0 f) (x2 : Int32) (hx2 : 0 ≤ x2.toInt) :
    ∃ h', mf_Mo_arrive h (Int32.ofNat m) x2 = some (0, h') ∧ mr m h h' ∧ mg h0 m h' ∧ mf h' f ∧ ((h' 0 21 = h 0 21 ∧ x2.toInt < (h0 7 m).toInt ∧ tc_ss g h0 (mN h m) (mV h m) x2.toInt.toNat f (mN h' m) (mV h' m) ∧ (h' 0 22 = 0 ↔ (h 0 22 = 0 ∧ mN h m x2.toInt.toNat ≠ -1 ∧ ∀ p, p < 4 + f.1 → mV h' m x2.toInt.toNat p = mV h m x2.toInt.toNat p))) ∨ (h' 0 21 = 1 ∧ ¬ (x2.toInt < (h0 7 m).toInt ∧ (mN h m x2.toInt.toNat = -1 ∨ mN h m x2.toInt.toNat = (f.1 : Int))))) := by
  have hP0 := hP
  obtain ⟨hN, hC, hM, hU, hK, hG⟩ := hP
  obtain ⟨n0, n1, n2, n3⟩ := hN
  obtain ⟨hp, hgd, h14, h22, h21⟩ := hg
  have hg0 : mg h0 m h := ⟨hp, hgd, h14, h22, h21⟩
  obtain ⟨f6, f20, f17⟩ := hf
  have q := hM m hm
  have e0 : (0 : Int32).toInt = 0 := rfl
  have em : (Int32.ofNat m).toInt = (m : Int) := pv_nI (by omega)
  have emn : (Int32.ofNat m).toInt.toNat = m := by omega
  have hbad : ∃ h', some ((0 : Int32), qa_up h 0 21 1) = some (0, h') ∧ mr m h h' ∧ mg h0 m h' ∧ mf h' f ∧ h' 0 21 = 1 := by
    have eN : mN (qa_up h 0 21 1) m = mN h m := funext fun i => by unfold mN; rw [pv_nr (by decide), pv_nr (by decide)]
    have eV : mV (qa_up h 0 21 1) m = mV h m := funext fun i => funext fun p => by unfold mV; rw [pv_nr (by decide)]
    refine ⟨_, rfl, mr_w (mw_21 _ _), ⟨pm_tr hp (mw_pm (mw_21 _ _)), by rw [eN, eV]; exact hgd, fun i hi => by rw [pv_nr (by decide), pv_nr (by decide)]; exact h14 i hi, by rw [pv_ni (by decide)]; exact h22, Or.inr pv_self⟩, ⟨f6, by rw [pv_ni (by decide)]; exact f20, fun p hp => by rw [pv_nr (by decide)]; exact f17 p hp⟩, pv_self⟩
  unfold mf_Mo_arrive
  rw [if_neg (by rw [pv_lt, pv_cl, em, e0]; omega), pv_cl (Int32.ofNat m), emn, hp.1 7 m (by omega) (by omega)]
  by_cases hlt : x2.toInt < (h0 7 m).toInt
  · rw [if_pos (by rw [pv_lt]; exact hlt)]
    obtain ⟨j, hj⟩ : ∃ j : Nat, j = x2.toInt.toNat := ⟨_, rfl⟩
    obtain ⟨R, hRe⟩ : ∃ R : Nat, R = 20 * m + j := ⟨_, rfl⟩
    have erow := (pr_row (h := h) (Int32.ofNat m) x2 (by omega) (by omega)).2
    rw [emn, ← hj, ← hRe] at erow
    have erR : (20 : Int32) * Int32.ofNat m + x2 = Int32.ofNat R := by rw [pv_eq, erow, pv_nI (by omega)]
    have eR : (Int32.ofNat R).toInt = (R : Int) := pv_nI (by omega)
    have eRn : (Int32.ofNat R).toNatClampNeg = R := by rw [pv_cl]; omega
    have hRb : ¬ (Int32.ofNat R < 0 ∨ 200 ≤ (Int32.ofNat R).toNatClampNeg) := by rw [eRn, pv_lt, eR, e0]; omega
    rw [erR, if_neg hRb, if_neg hRb, eRn, f20]
    have h14R := (h14 j (by omega)).1
    have h15R := (h14 j (by omega)).2
    rw [← hRe] at h14R h15R
    have hNj : mN h m j = if h 14 R = 0 then -1 else (h 15 R).toInt := by unfold mN; rw [← hRe]
    have hgood : (mN h m j = -1 ∨ mN h m j = (f.1 : Int)) → ∃ h', mf_Mo_arrive_51 h (Int32.ofNat R) = some (0, h') ∧ mr m h h' ∧ mg h0 m h' ∧ mf h' f ∧ ((h' 0 21 = h 0 21 ∧ x2.toInt < (h0 7 m).toInt ∧ tc_ss g h0 (mN h m) (mV h m) x2.toInt.toNat f (mN h' m) (mV h' m) ∧ (h' 0 22 = 0 ↔ (h 0 22 = 0 ∧ mN h m x2.toInt.toNat ≠ -1 ∧ ∀ p, p < 4 + f.1 → mV h' m x2.toInt.toNat p = mV h m x2.toInt.toNat p))) ∨ (h' 0 21 = 1 ∧ ¬ (x2.toInt < (h0 7 m).toInt ∧ (mN h m x2.toInt.toNat = -1 ∨ mN h m x2.toInt.toNat = (f.1 : Int))))) := fun hn => by
      have hnz : h 14 R ≠ 0 ↔ mN h m j ≠ -1 := by
        rw [hNj]
        by_cases hz : h 14 R = 0
        · rw [if_pos hz]; exact ⟨fun z => absurd hz z, fun z => absurd rfl z⟩
        · rw [if_neg hz]
          have := h15R hz
          exact ⟨fun _ => by omega, fun _ => hz⟩
      have hv16 : h 14 R ≠ 0 → ∀ q, q < 4 + f.1 → tc_va h0 (h 16 (10 * R + q)) := fun hz q hq => by
        have hz' := hnz.mp hz
        rcases hgd j (by omega) with y | ⟨y1, y2, y3⟩
        · exact absurd y hz'
        · have hne : mN h m j = (f.1 : Int) := hn.elim (fun w => absurd w hz') id
          have := y3.2 q (by show q < 4 + (mN h m j).toNat; omega)
          rw [hRe]
          exact this
      obtain ⟨h', a1, a2, a3, a4, a5, a6, a7, a8⟩ := ms_arr54 hP0 hRR R f.1 (by omega) f6 (4 + f.1) 0 4096 h hp (by omega) (by omega) f20 h14R h22 (fun q hq => by rw [f17 q hq]; exact hv.2 q hq) hv16
      have hN' : ∀ i, i < 20 → mN h' m i = if i = j then (f.1 : Int) else mN h m i := fun i hi => by
        unfold mN
        by_cases hij : i = j
        · rw [if_pos hij, hij, ← hRe, a3, a4, if_neg (by decide), pv_nI (by omega)]
        · rw [if_neg hij, a2 14 _ (by decide) (by omega) (by omega) (by omega), a2 15 _ (by decide) (by omega) (by omega) (by omega)]
      have hss : tc_ss g h0 (mN h m) (mV h m) j f (mN h' m) (mV h' m) := by
        refine ⟨by rw [hN' j (by omega), if_pos rfl], hn, fun p hp' => ⟨fun z => ?_, fun z => ?_⟩, fun i hi hij => ⟨by rw [hN' i hi, if_neg hij], fun p hp' => ?_⟩⟩
        · have hz : h 14 R = 0 := Classical.byContradiction fun w => (hnz.mp w) z
          unfold mV
          rw [← hRe, (a6 p (by omega) hp').1 hz]
          exact f17 p hp'
        · have := (a6 p (by omega) hp').2 (hnz.mpr z)
          rw [f17 p hp'] at this
          unfold mV
          rw [← hRe]
          exact this
        · unfold mV
          exact a5 _ (by omega)
      have hgd' := tc_ss_gd hgd hss (by omega) hv
      refine ⟨h', a1, ⟨fun r k h1 h2 h3 h4 h5 => a2 r k h3 (by omega) (by omega) (by omega), fun r hr => ⟨a2 14 r (by decide) (by omega) (by omega) (by omega), a2 15 r (by decide) (by omega) (by omega) (by omega), fun p hp' => a5 _ (by omega)⟩⟩, ⟨?_, hgd', fun i hi => ?_, a7, by rw [a2 0 21 (by decide) (by decide) (by omega) (by omega)]; exact h21⟩, ⟨f6, by rw [a2 0 20 (by decide) (by decide) (by omega) (by omega)]; exact f20, fun p hp' => by rw [a2 17 p (by decide) (by omega) (by omega) (by omega)]; exact f17 p hp'⟩, Or.inl ⟨a2 0 21 (by decide) (by decide) (by omega) (by omega), hlt, by rw [← hj]; exact hss, ?_⟩⟩
      · exact ⟨fun r k h1 h2 => by rw [a2 r k (by omega) (by omega) (by omega) (by omega)]; exact hp.1 r k h1 h2, by rw [a2 0 0 (by decide) (by decide) (by omega) (by omega)]; exact hp.2.1, by rw [a2 0 4 (by decide) (by decide) (by omega) (by omega)]; exact hp.2.2⟩
      · by_cases hij : i = j
        · rw [hij, ← hRe]; exact ⟨Or.inr a3, fun _ => by rw [a4, pv_nI (by omega)]; omega⟩
        · rw [a2 14 _ (by decide) (by omega) (by omega) (by omega), a2 15 _ (by decide) (by omega) (by omega) (by omega)]; exact h14 i hi
      · rw [a8, ← hj]
        constructor
        · rintro ⟨b1, b2⟩
          refine ⟨b1, hnz.mp (b2 0 (by omega) (by omega)).1, fun p hp' => ?_⟩
          unfold mV
          rw [← hRe]
          exact (b2 p (by omega) hp').2
        · rintro ⟨b1, b2, b3⟩
          refine ⟨b1, fun p _ hp' => ⟨hnz.mpr b2, ?_⟩⟩
          have := b3 p hp'
          unfold mV at this
          rw [← hRe] at this
          exact this
    by_cases hz : h 14 R = 0
    · rw [if_pos hz]
      exact hgood (Or.inl (by rw [hNj, if_pos hz]))
    · rw [if_neg hz]
      by_cases h15 : h 15 R = Int32.ofNat f.1
      · rw [if_pos h15]
        exact hgood (Or.inr (by rw [hNj, if_neg hz, h15, pv_nI (by omega)]))
      · rw [if_neg h15]
        obtain ⟨h', b1, b2, b3, b4, b5⟩ := hbad
        refine ⟨h', b1, b2, b3, b4, Or.inr ⟨b5, fun z => ?_⟩⟩
        rw [← hj] at z
        have h15p := h15R hz
        rw [hNj, if_neg hz] at z
        rcases z.2 with w | w
        · omega
        · exact h15 (by rw [pv_eq, w, pv_nI (by omega)])
  · rw [if_neg (by rw [pv_lt]; exact hlt)]
    obtain ⟨h', b1, b2, b3, b4, b5⟩ := hbad
    exact ⟨h', b1, b2, b3, b4, Or.inr ⟨b5, fun z => hlt z.1⟩⟩
