/-! The reference: the flow of an instruction -/
theorem ms_flow {g h0 h : qa_St} (hP : pr_P h0) (hRR : pr_R g h0) {m : Nat} (hm : (m : Int) < (h0 0 4).toInt) (hg : mg h0 m h) (hb : h 0 21 = 0) {i : Nat} (hi : (i : Int) < (h0 7 m).toInt) (hn : mN h m i ≠ -1) :
    ∃ h', mf_Mo_flow h (Int32.ofNat m) (Int32.ofNat i) = some (0, h') ∧ mr m h h' ∧ mg h0 m h' ∧ (h' 0 21 = 1 ∨ (h' 0 21 = 0 ∧ mC g h0 m h h' ∧ (h' 0 22 = 0 → tc_fl g h0 m (mN h' m) (mV h' m) i))) ∧ ∀ NP VP, tc_po g h0 m NP VP → tc_sle g h0 (mN h m) (mV h m) NP VP → h' 0 21 = 0 ∧ tc_sle g h0 (mN h' m) (mV h' m) NP VP := by
  have hP0 := hP
  obtain ⟨hN, hC, hM, hU, hK, hG⟩ := hP
  have hT := hRR.2.1
  have hN0 := hN
  obtain ⟨n0, n1, n2, n3⟩ := hN
  have q := hM m hm
  have qk := hK m i hm hi
  have e0 : (0 : Int32).toInt = 0 := rfl
  have em : (Int32.ofNat m).toInt = (m : Int) := pv_nI (by omega)
  have emn : (Int32.ofNat m).toInt.toNat = m := by omega
  have ei : (Int32.ofNat i).toInt = (i : Int) := pv_nI (by omega)
  have ein : (Int32.ofNat i).toInt.toNat = i := by omega
  obtain ⟨x1, hx1⟩ : ∃ x, x = h0 8 (20 * m + i) := ⟨_, rfl⟩
  obtain ⟨x2, hx2⟩ : ∃ x, x = h0 9 (20 * m + i) := ⟨_, rfl⟩
  have hft0 : pr_fit h0 (h0 8 (20 * m + i)).toInt (h0 9 (20 * m + i)).toInt := qk.2.2
  rw [← hx1, ← hx2] at qk
  obtain ⟨hp, hgd, h14, h22, h21⟩ := hg
  have hg0 : mg h0 m h := ⟨hp, hgd, h14, h22, h21⟩
  have hok : tc_ok h0 (tc_at (mN h m) (mV h m) i) := by
    rcases hgd i (by omega) with y | y
    · exact absurd y hn
    · exact y.2.2
  have hz : ¬ h 14 (20 * m + i) = 0 := fun z => hn (by unfold mN; rw [if_pos z])
  have hNi : mN h m i = (h 15 (20 * m + i)).toInt := by unfold mN; rw [if_neg hz]
  have hpos := (h14 i (by omega)).2 hz
  obtain ⟨k, hke⟩ : ∃ k : Nat, k = (h 15 (20 * m + i)).toInt.toNat := ⟨_, rfl⟩
  have hk6 : k ≤ 6 := by
    have : (mN h m i).toNat ≤ 6 := hok.1
    omega
  have hk15 : h 15 (20 * m + i) = Int32.ofNat k := by rw [hke]; exact pv_nIe hpos
  have hat : tc_at (mN h m) (mV h m) i = (k, mV h m i) := by unfold tc_at; rw [hNi, ← hke]
  have er := (pr_row (h := h) (Int32.ofNat m) (Int32.ofNat i) (by omega) (by omega)).2
  rw [emn, ein] at er
  have erR : (20 : Int32) * Int32.ofNat m + Int32.ofNat i = Int32.ofNat (20 * m + i) := by rw [pv_eq, er, pv_nI (by omega)]
  have eR : (Int32.ofNat (20 * m + i)).toInt = ((20 * m + i : Nat) : Int) := pv_nI (by omega)
  have eRn : (Int32.ofNat (20 * m + i)).toNatClampNeg = 20 * m + i := by rw [pv_cl]; omega
  have hRb : ¬ (Int32.ofNat (20 * m + i) < 0 ∨ 200 ≤ (Int32.ofNat (20 * m + i)).toNatClampNeg) := by rw [eRn, pv_lt, eR, e0]; omega
  -- load
  obtain ⟨h1, a1, a2, a3⟩ := ms_load (h := h) (m := m) (i := i) (by omega) (by omega) hk6 hk15
  have hw1 : mw h h1 := fun r k hr hk => a2 r k hr (fun z => hk ⟨z.1, Or.inl z.2⟩)
  have ho1 : mo h1 (some (tc_at (mN h m) (mV h m) i)) := by
    rw [hat]
    exact mo_some (by rw [a2 0 21 (by decide) (by decide)]; exact hb) a3.1 a3.2.1 a3.2.2
  -- effect
  obtain ⟨h2, b1, b2, b3⟩ := ms_effect hP0 hRR (pm_tr hp (mw_pm hw1)) ho1 hok x1 x2 ⟨qk.1, qk.2.1⟩ qk.2.2
  have hw2 : mw h h2 := mw_tr hw1 b2
  have hp2 : pm h0 h2 := pm_tr hp (mw_pm hw2)
  obtain ⟨hc2, eN2, eV2⟩ := mC_same (g := g) (h0 := h0) (m := m) (h := h) (h' := h2) (fun k => hw2 14 k (by decide) (by omega)) (fun k => hw2 15 k (by decide) (by omega)) (fun k => hw2 16 k (by decide) (by omega)) (hw2 0 22 (by decide) (by omega))
  have hop : h1 8 (20 * m + i) = x1 := by rw [hw1 8 _ (by decide) (by omega), hp.1 8 _ (by omega) (by omega), hx1]
  have hoa : h1 9 (20 * m + i) = x2 := by rw [hw1 9 _ (by decide) (by omega), hp.1 9 _ (by omega) (by omega), hx2]
  have hflow : mf_Mo_flow h (Int32.ofNat m) (Int32.ofNat i) = (if (h2 0 21) = 0 then (if x1 = (9 : Int32) then (mf_Mo_flow_73 h2 (Int32.ofNat m) (Int32.ofNat i) (Int32.ofNat (20 * m + i)) x1 x2) else (if x1 = (21 : Int32) then (mf_Mo_flow_73 h2 (Int32.ofNat m) (Int32.ofNat i) (Int32.ofNat (20 * m + i)) x1 x2) else (if x1 = (22 : Int32) then (mf_Mo_flow_73 h2 (Int32.ofNat m) (Int32.ofNat i) (Int32.ofNat (20 * m + i)) x1 x2) else ((mf_Mo_arrive h2 (Int32.ofNat m) (Int32.ofNat i + (1 : Int32))).bind fun t70 => (mf_Mo_flow_73 t70.2 (Int32.ofNat m) (Int32.ofNat i) (Int32.ofNat (20 * m + i)) x1 x2))))) else (some (0, h2))) := by
    unfold mf_Mo_flow
    rw [erR, a1]
    simp only [Option.bind_some]
    rw [if_neg hRb, if_neg hRb, eRn, hop, hoa, b1]
    rfl
  have hg2 : h2 0 21 = 0 ∨ h2 0 21 = 1 → mg h0 m h2 := fun hz2 => ⟨hp2, by rw [eN2, eV2]; exact hgd, fun j hj => by rw [hw2 14 _ (by decide) (by omega), hw2 15 _ (by decide) (by omega)]; exact h14 j hj, by rw [hw2 0 22 (by decide) (by omega)]; exact h22, hz2⟩
  have hefb : ∀ NP VP, tc_po g h0 m NP VP → tc_sle g h0 (mN h m) (mV h m) NP VP → ∃ r, tc_ef g h0 x1.toInt x2 (tc_at (mN h m) (mV h m) i) = some r ∧ (∀ j, tc_sc x1.toInt x2.toInt i j → tc_ar g h0 m NP VP j r) := fun NP VP hpo hs => by
    obtain ⟨r, e1, e2, -⟩ := tc_fl_dn hN0 hC hT (by omega) hft0 hs hn (hpo.2.2 i (by omega) (by rw [(hs i (by omega) hn).1]; exact hn))
    rw [← hx1, ← hx2] at e1 e2
    exact ⟨r, e1, e2⟩
  rw [hflow]
  cases hr : tc_ef g h0 x1.toInt x2 (tc_at (mN h m) (mV h m) i) with
  | none =>
    have hb2 := b3.2 hr
    rw [if_neg (by rw [hb2]; decide)]
    refine ⟨h2, rfl, mr_w hw2, hg2 (Or.inr hb2), Or.inl hb2, fun NP VP hpo hs => ?_⟩
    obtain ⟨r, e1, -⟩ := hefb NP VP hpo hs
    rw [hr] at e1
    cases e1
  | some r =>
    have ho2 := b3.1 r hr
    obtain ⟨c1, c2, c3, c4⟩ := ho2.1 r rfl
    have hvr : tc_ok h0 r := tc_ef_ok qk.2.2 hok hr
    rw [if_pos c1]
    have hQ0 : mQ g h0 m r (fun _ => False) h2 h2 := mQ_0 (hg2 (Or.inl c1)) ⟨c2, c3, c4⟩ c1
    have v9 : x1 = 9 ↔ x1.toInt = 9 := by rw [pv_eq]; rfl
    have v10 : x1 = 10 ↔ x1.toInt = 10 := by rw [pv_eq]; rfl
    have v21 : x1 = 21 ↔ x1.toInt = 21 := by rw [pv_eq]; rfl
    have v22 : x1 = 22 ↔ x1.toInt = 22 := by rw [pv_eq]; rfl
    have esu : (Int32.ofNat i + 1).toInt = (i : Int) + 1 := by rw [pv_n1, pv_nI (by omega)]; omega
    have hft := qk.2.2
    -- to the arrivals
    have hA : ∃ h3, mf_Mo_flow h (Int32.ofNat m) (Int32.ofNat i) = mf_Mo_flow_73 h3 (Int32.ofNat m) (Int32.ofNat i) (Int32.ofNat (20 * m + i)) x1 x2 ∧ mQ g h0 m r (fun j => x1.toInt ≠ 9 ∧ x1.toInt ≠ 21 ∧ x1.toInt ≠ 22 ∧ j = (i : Int) + 1) h2 h3 := by
      rw [hflow, if_pos c1]
      by_cases h9 : x1 = 9
      · rw [if_pos h9]
        exact ⟨h2, rfl, mQ_S hQ0 (fun j => ⟨fun z => z.elim, fun z => absurd (v9.mp h9) z.1⟩)⟩
      · rw [if_neg h9]
        by_cases h21 : x1 = 21
        · rw [if_pos h21]
          exact ⟨h2, rfl, mQ_S hQ0 (fun j => ⟨fun z => z.elim, fun z => absurd (v21.mp h21) z.2.1⟩)⟩
        · rw [if_neg h21]
          by_cases h22 : x1 = 22
          · rw [if_pos h22]
            exact ⟨h2, rfl, mQ_S hQ0 (fun j => ⟨fun z => z.elim, fun z => absurd (v22.mp h22) z.2.2.1⟩)⟩
          · rw [if_neg h22]
            obtain ⟨h3, d1, d2⟩ := mQ_step hP0 hRR hm hvr hQ0 (Int32.ofNat i + 1) (by rw [esu]; omega)
            rw [d1]
            refine ⟨h3, rfl, mQ_S d2 (fun j => ?_)⟩
            rw [esu]
            exact ⟨fun z => ⟨fun w => h9 (v9.mpr w), fun w => h21 (v21.mpr w), fun w => h22 (v22.mpr w), z.elim (fun y => y.elim) id⟩, fun z => Or.inr z.2.2.2⟩
    have hB : ∃ h3, mf_Mo_flow h (Int32.ofNat m) (Int32.ofNat i) = mf_Mo_flow_94 h3 (Int32.ofNat m) (Int32.ofNat i) (Int32.ofNat (20 * m + i)) ∧ mQ g h0 m r (tc_sc x1.toInt x2.toInt i) h2 h3 := by
      obtain ⟨h3, d1, d2⟩ := hA
      rw [d1]
      unfold mf_Mo_flow_73 mf_Mo_flow_87
      by_cases h9 : x1 = 9
      · have ht3 := hft.2.2.1 (Or.inl (v9.mp h9))
        rw [if_pos h9]
        obtain ⟨h4, f1, f2⟩ := mQ_step hP0 hRR hm hvr d2 x2 ht3.1
        rw [f1]
        refine ⟨h4, rfl, mQ_S f2 (fun j => ?_)⟩
        show ((x1.toInt ≠ 9 ∧ x1.toInt ≠ 21 ∧ x1.toInt ≠ 22 ∧ j = (i : Int) + 1) ∨ j = x2.toInt) ↔ _
        unfold tc_sc
        have := v9.mp h9
        omega
      · rw [if_neg h9]
        by_cases h10 : x1 = 10
        · have ht3 := hft.2.2.1 (Or.inr (v10.mp h10))
          rw [if_pos h10]
          obtain ⟨h4, f1, f2⟩ := mQ_step hP0 hRR hm hvr d2 x2 ht3.1
          rw [f1]
          refine ⟨h4, rfl, mQ_S f2 (fun j => ?_)⟩
          show ((x1.toInt ≠ 9 ∧ x1.toInt ≠ 21 ∧ x1.toInt ≠ 22 ∧ j = (i : Int) + 1) ∨ j = x2.toInt) ↔ _
          unfold tc_sc
          have := v10.mp h10
          omega
        · rw [if_neg h10]
          refine ⟨h3, rfl, mQ_S d2 (fun j => ?_)⟩
          show (x1.toInt ≠ 9 ∧ x1.toInt ≠ 21 ∧ x1.toInt ≠ 22 ∧ j = (i : Int) + 1) ↔ _
          unfold tc_sc
          have a9 : ¬ x1.toInt = 9 := fun w => h9 (v9.mpr w)
          have a10 : ¬ x1.toInt = 10 := fun w => h10 (v10.mpr w)
          omega
    obtain ⟨h3, d1, q1, q2, q3, q4, q5⟩ := hB
    rw [← hflow.trans (if_pos c1), d1]
    clear hA hflow
    -- the handler
    have hge := pr_hd_ge hM hG hm (i : Int) 4 0
    have hp3 := q2.1
    have hPm := pm_P hp3 hP0
    have hgu := ms_guarded hPm.1 hPm.2.2.1 (Int32.ofNat m) (Int32.ofNat i) (by rw [hp3.2.2]; omega)
    rw [emn, ei, pm_hd hp3] at hgu
    have hlate : ∀ NP VP, tc_po g h0 m NP VP → tc_sle g h0 (mN h m) (mV h m) NP VP → h3 0 21 = 0 ∧ tc_sle g h0 (mN h3 m) (mV h3 m) NP VP := fun NP VP hpo hs => by
      obtain ⟨r', e1, e2⟩ := hefb NP VP hpo hs
      rw [hr] at e1
      cases e1
      exact q5 NP VP hpo (by rw [eN2, eV2]; exact hs) e2
    have hr3 : mr m h h3 := mr_tr (mr_w hw2) q1
    have hfl : h3 0 21 = 0 → mC g h0 m h h3 ∧ ∀ j, tc_sc x1.toInt x2.toInt i j → tc_ar g h0 m (mN h3 m) (mV h3 m) j r := fun z => by
      rcases q4 with y | ⟨-, y2, y3⟩
      · rw [z] at y; exact absurd y (by decide)
      · exact ⟨mC_tr hN0 hC hT hc2 y2, y3⟩
    -- the flow of i, from a later state with nothing new
    have hfin : ∀ h' : qa_St, mC g h0 m h3 h' → h3 0 21 = 0 → h' 0 22 = 0 → (0 ≤ (pr_hd h0 m i 4 0).toInt → tc_ar g h0 m (mN h' m) (mV h' m) (pr_hd h0 m i 4 0).toInt (tc_hf (tc_at (mN h3 m) (mV h3 m) i))) → tc_fl g h0 m (mN h' m) (mV h' m) i := fun h' hc hz3 hz22 hha => by
      obtain ⟨w1, w2⟩ := hfl hz3
      have wt := mC_tr hN0 hC hT w1 hc
      obtain ⟨-, u2⟩ := wt.2.1 hz22
      obtain ⟨-, u3⟩ := hc.2.1 hz22
      have hl : tc_fle g h0 (tc_at (mN h' m) (mV h' m) i) (tc_at (mN h m) (mV h m) i) := ⟨by show (mN h' m i).toNat = (mN h m i).toNat; rw [(u2 i (by omega)).1], fun p hp' => by
        have hp' : p < 4 + (mN h' m i).toNat := hp'
        rw [(u2 i (by omega)).1] at hp'
        show tc_le g h0 (mV h' m i p) (mV h m i p)
        rw [(u2 i (by omega)).2 p hp']; exact tc_refl _⟩
      have hl3 : tc_fle g h0 (tc_at (mN h' m) (mV h' m) i) (tc_at (mN h3 m) (mV h3 m) i) := ⟨by show (mN h' m i).toNat = (mN h3 m i).toNat; rw [(u3 i (by omega)).1], fun p hp' => by
        have hp' : p < 4 + (mN h' m i).toNat := hp'
        rw [(u3 i (by omega)).1] at hp'
        show tc_le g h0 (mV h' m i p) (mV h3 m i p)
        rw [(u3 i (by omega)).2 p hp']; exact tc_refl _⟩
      obtain ⟨r', e1, e2⟩ := tc_ef_m hN0 hC hT hft hl hr
      unfold tc_fl
      rw [← hx1, ← hx2]
      exact ⟨r', e1, fun j hj => tc_ar_dn hN0 hC hT e2 (tc_ar_up hN0 hC hM hT hm hc.1 (w2 j hj)), fun z => tc_ar_dn hN0 hC hT (tc_hf_m hl3) (hha z)⟩
    have hself : mC g h0 m h3 h3 := (mC_same (fun _ => rfl) (fun _ => rfl) (fun _ => rfl) rfl).1
    unfold mf_Mo_flow_94
    rw [hgu]
    simp only [Option.bind_some]
    rcases hge with hge | hge
    · rw [if_pos (by rw [hge]; decide)]
      refine ⟨h3, rfl, hr3, q2, ?_, hlate⟩
      rcases q2.2.2.2.2 with y | y
      · exact Or.inr ⟨y, (hfl y).1, fun z => hfin h3 hself y z (fun w => by rw [hge] at w; exact absurd w (by decide))⟩
      · exact Or.inl y
    · rw [if_neg (by rw [pv_lt, e0]; omega)]
      by_cases hb3 : h3 0 21 = 0
      · rw [if_pos hb3]
        -- the instruction is still reached
        have hc3 := (hfl hb3).1
        have hn3 : mN h3 m i = mN h m i := (hc3.1 i (by omega) hn).1
        have hz3 : ¬ h3 14 (20 * m + i) = 0 := fun z => by
          have : mN h3 m i = -1 := by unfold mN; rw [if_pos z]
          rw [hn3] at this
          exact hn this
        have h153 : h3 15 (20 * m + i) = Int32.ofNat k := by
          have : mN h3 m i = (h3 15 (20 * m + i)).toInt := by unfold mN; rw [if_neg hz3]
          rw [pv_eq, ← this, hn3, hNi, hk15]
        obtain ⟨h4, f1, f2, f3⟩ := ms_load (h := h3) (m := m) (i := i) (by omega) (by omega) hk6 h153
        rw [f1]
        simp only [Option.bind_some]
        rw [if_neg (by decide), show (4 : Int32).toNatClampNeg = 4 from rfl]
        obtain ⟨h5, hh5⟩ : ∃ h5, h5 = qa_up (qa_up h4 0 20 1) 17 4 9 := ⟨_, rfl⟩
        rw [← hh5]
        have j1 : ∀ r p, r ≠ 17 → ¬ (r = 0 ∧ p = 20) → h5 r p = h3 r p := fun r p h1 h2 => by rw [hh5, pv_nr h1, pv_get, if_neg h2, f2 r p h1 h2]
        have hw5 : mw h3 h5 := fun r p h1 h2 => j1 r p h1 (fun z => h2 ⟨z.1, Or.inl z.2⟩)
        obtain ⟨hc5, eN5, eV5⟩ := mC_same (g := g) (h0 := h0) (m := m) (h := h3) (h' := h5) (fun k => hw5 14 k (by decide) (by omega)) (fun k => hw5 15 k (by decide) (by omega)) (fun k => hw5 16 k (by decide) (by omega)) (hw5 0 22 (by decide) (by omega))
        have hat3 : tc_at (mN h3 m) (mV h3 m) i = (k, mV h3 m i) := by unfold tc_at; rw [hn3, hNi, ← hke]
        have hg5 : mg h0 m h5 := ⟨pm_tr q2.1 (mw_pm hw5), by rw [eN5, eV5]; exact q2.2.1, fun j hj => by rw [hw5 14 _ (by decide) (by omega), hw5 15 _ (by decide) (by omega)]; exact q2.2.2.1 j hj, by rw [hw5 0 22 (by decide) (by omega)]; exact q2.2.2.2.1, Or.inl (by rw [j1 0 21 (by decide) (by decide)]; exact hb3)⟩
        have hf5 : mf h5 (tc_hf (tc_at (mN h3 m) (mV h3 m) i)) := by
          rw [hat3]
          refine ⟨by show 1 ≤ 6; omega, by rw [hh5, pv_nr (by decide), pv_self]; rfl, fun p hp' => ?_⟩
          have hp' : p < 4 + 1 := hp'
          show _ = tc_up (mV h3 m i) 4 9 p
          by_cases hp4 : p = 4
          · rw [hp4, tc_up_s, hh5]; exact pv_self
          · rw [tc_up_n hp4, hh5, pv_ni hp4, pv_nr (by decide)]; exact f3.2.2 p (by show p < 4 + k; omega)
        have hokh : tc_ok h0 (tc_hf (tc_at (mN h3 m) (mV h3 m) i)) := by
          apply tc_hf_ok
          rcases q2.2.1 i (by omega) with y | y
          · rw [hn3] at y; exact absurd y hn
          · exact y.2.2
        obtain ⟨h6, l1, l2, l3, l4, l5, l6⟩ := ms_arr hP0 hRR hm hg5 hf5 hokh (pr_hd h0 m i 4 0) hge.1
        have hb5 : h5 0 21 = 0 := by rw [j1 0 21 (by decide) (by decide)]; exact hb3
        rw [l1]
        refine ⟨h6, rfl, mr_tr hr3 (mr_tr (mr_w hw5) l2), l3, ?_, fun NP VP hpo hs => ?_⟩
        · rcases l5 with ⟨y1, y2, y3⟩ | y
          · have hc6 := mC_tr hN0 hC hT hc5 y2
            exact Or.inr ⟨y1.trans hb5, mC_tr hN0 hC hT hc3 hc6, fun z => hfin h6 hc6 hb3 z (fun _ => y3)⟩
          · exact Or.inl y
        · obtain ⟨w1, w2⟩ := hlate NP VP hpo hs
          obtain ⟨r', -, -, e3⟩ := tc_fl_dn hN0 hC hT (by omega) hft0 w2 (by rw [hn3]; exact hn) (hpo.2.2 i (by omega) (by rw [(hs i (by omega) hn).1]; exact hn))
          obtain ⟨u1, u2⟩ := l6 NP VP hpo (by rw [eN5, eV5]; exact w2) (e3 hge.1)
          exact ⟨u1.trans hb5, u2⟩
      · rw [if_neg hb3]
        have hb31 : h3 0 21 = 1 := q2.2.2.2.2.elim (fun y => absurd y hb3) id
        refine ⟨h3, rfl, hr3, q2, Or.inl hb31, hlate⟩
