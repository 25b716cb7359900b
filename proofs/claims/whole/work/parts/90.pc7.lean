/-! The reference: rounds -/
def mR (g h0 : qa_St) (m : Nat) (hs h : qa_St) (k : Nat) : Prop := mr m hs h ∧ mg h0 m h ∧ (h 0 21 = 1 ∨ (h 0 21 = 0 ∧ mC g h0 m hs h ∧ (h 0 22 = 0 → ∀ i, i < k → mN h m i ≠ -1 → tc_fl g h0 m (mN h m) (mV h m) i))) ∧ ∀ NP VP, tc_po g h0 m NP VP → tc_sle g h0 (mN hs m) (mV hs m) NP VP → h 0 21 = 0 ∧ tc_sle g h0 (mN h m) (mV h m) NP VP
theorem ms_s134 {g h0 hs : qa_St} (hP : pr_P h0) (hRR : pr_R g h0) {m : Nat} (hm : (m : Int) < (h0 0 4).toInt) (k106 : qa_St → Int32 → Int32 → qa_Re) (x2 : Int32) : ∀ (d i n : Nat) (h : qa_St), (i : Int) + d = (h0 7 m).toInt → d < n → mR g h0 m hs h i → ∃ h', mf_Mo_sound_134 k106 n h (Int32.ofNat m) x2 (Int32.ofNat i) = k106 h' (Int32.ofNat m) (x2 + 1) ∧ mR g h0 m hs h' (h0 7 m).toInt.toNat := by
  have hP0 := hP
  obtain ⟨hN, hC, hM, hU, hK, hG⟩ := hP
  have hT := hRR.2.1
  have hN0 := hN
  obtain ⟨n0, n1, n2, n3⟩ := hN
  have q := hM m hm
  have e0 : (0 : Int32).toInt = 0 := rfl
  have em : (Int32.ofNat m).toInt = (m : Int) := pv_nI (by omega)
  have emn : (Int32.ofNat m).toInt.toNat = m := by omega
  have hmb : ¬ (Int32.ofNat m < 0 ∨ 10 ≤ (Int32.ofNat m).toNatClampNeg) := by rw [pv_lt, pv_cl, em, e0]; omega
  intro d
  induction d with
  | zero =>
    intro i n h hi hn hr
    obtain ⟨n, rfl⟩ : ∃ z, n = z + 1 := ⟨n - 1, by omega⟩
    have ei : (Int32.ofNat i).toInt = (i : Int) := pv_nI (by omega)
    refine ⟨h, ?_, ?_⟩
    · rw [mf_Mo_sound_134, if_neg hmb, pv_cl, emn, hr.2.1.1.1 7 m (by omega) (by omega), if_pos (by rw [pv_le, ei]; omega)]
      rfl
    · have : i = (h0 7 m).toInt.toNat := by omega
      rw [← this]; exact hr
  | succ d ih =>
    intro i n h hi hn hr
    obtain ⟨n, rfl⟩ : ∃ z, n = z + 1 := ⟨n - 1, by omega⟩
    have ei : (Int32.ofNat i).toInt = (i : Int) := pv_nI (by omega)
    have ein : (Int32.ofNat i).toInt.toNat = i := by omega
    obtain ⟨r1, r2, r3, r4⟩ := hr
    rw [mf_Mo_sound_134, if_neg hmb, pv_cl (Int32.ofNat m), emn, r2.1.1 7 m (by omega) (by omega), if_neg (by rw [pv_le, ei]; omega)]
    by_cases hb : h 0 21 = 0
    · rw [if_pos hb]
      have er := (pr_row (h := h) (Int32.ofNat m) (Int32.ofNat i) (by omega) (by omega)).2
      rw [emn, ein] at er
      have erR : (20 : Int32) * Int32.ofNat m + Int32.ofNat i = Int32.ofNat (20 * m + i) := by rw [pv_eq, er, pv_nI (by omega)]
      have eR : (Int32.ofNat (20 * m + i)).toInt = ((20 * m + i : Nat) : Int) := pv_nI (by omega)
      have eRn : (Int32.ofNat (20 * m + i)).toNatClampNeg = 20 * m + i := by rw [pv_cl]; omega
      have hRb : ¬ (Int32.ofNat (20 * m + i) < 0 ∨ 200 ≤ (Int32.ofNat (20 * m + i)).toNatClampNeg) := by rw [eRn, pv_lt, eR, e0]; omega
      obtain ⟨c1, c2⟩ : mC g h0 m hs h ∧ (h 0 22 = 0 → ∀ j, j < i → mN h m j ≠ -1 → tc_fl g h0 m (mN h m) (mV h m) j) := by
        rcases r3 with y | ⟨-, y2, y3⟩
        · rw [hb] at y; exact absurd y (by decide)
        · exact ⟨y2, y3⟩
      rw [erR, if_neg hRb, eRn]
      unfold mf_Mo_sound_171
      rw [pv_n1]
      by_cases hz : h 14 (20 * m + i) = 0
      · rw [if_pos hz]
        refine ih (i + 1) n h (by omega) (by omega) ⟨r1, r2, Or.inr ⟨hb, c1, fun z j hj hn => ?_⟩, r4⟩
        by_cases hji : j = i
        · have : mN h m i = -1 := by unfold mN; rw [if_pos hz]
          rw [hji] at hn
          exact absurd this hn
        · exact c2 z j (by omega) hn
      · rw [if_neg hz]
        have hn : mN h m i ≠ -1 := by
          unfold mN
          rw [if_neg hz]
          have := (r2.2.2.1 i (by omega)).2 hz
          omega
        obtain ⟨h1, a1, a2, a3, a4, a5⟩ := ms_flow hP0 hRR hm r2 hb (by omega) hn
        rw [a1]
        simp only [Option.bind_some]
        refine ih (i + 1) n h1 (by omega) (by omega) ⟨mr_tr r1 a2, a3, ?_, fun NP VP hpo hs => ?_⟩
        · rcases a4 with y | ⟨y1, y2, y3⟩
          · exact Or.inl y
          · refine Or.inr ⟨y1, mC_tr hN0 hC hT c1 y2, fun z j hj hnj => ?_⟩
            by_cases hji : j = i
            · rw [hji]; exact y3 z
            · obtain ⟨w1, w2⟩ := y2.2.1 z
              have w3 := w2 j (by omega)
              have hjl : (j : Int) < (h0 7 m).toInt := by omega
              exact tc_fl_cg hN0 hC hM hT hm (hK m j hm hjl).2.2 y2.1 w3.1 w3.2 (c2 w1 j (by omega) (by rw [← w3.1]; exact hnj))
        · obtain ⟨w1, w2⟩ := r4 NP VP hpo hs
          exact a5 NP VP hpo w2
    · rw [if_neg hb]
      have hb1 : h 0 21 = 1 := r2.2.2.2.2.elim (fun y => absurd y hb) id
      exact ⟨h, rfl, r1, r2, Or.inl hb1, r4⟩
/-- what holds before each round -/
def mL (g h0 : qa_St) (m : Nat) (h : qa_St) : Prop := mg h0 m h ∧ (h 0 21 = 1 ∨ (h 0 21 = 0 ∧ tc_ar g h0 m (mN h m) (mV h m) 0 (tc_st h0 m) ∧ (h 0 22 = 0 → ∀ i, i < 20 → mN h m i ≠ -1 → tc_fl g h0 m (mN h m) (mV h m) i)))
theorem mP_bd {h0 h : qa_St} {m : Nat} (hg : mg h0 m h) : mP m h ≤ 1220 := tc_sum_bd (b := 61) 20 (fun i hi => tc_ph_bd hg.2.1 hi)
theorem ms_loop {g h0 : qa_St} (hP : pr_P h0) (hRR : pr_R g h0) {m : Nat} (hm : (m : Int) < (h0 0 4).toInt) : ∀ (d t n : Nat) (h : qa_St), mL g h0 m h → 1220 ≤ mP m h + d → t + d < 2000 → d + 1 < n → ∃ v h', mf_Mo_sound_106 n h (Int32.ofNat m) (Int32.ofNat t) = some (v, h') ∧ mr m h h' ∧ mg h0 m h' ∧ (v = 0 ∨ (v = 1 ∧ tc_po g h0 m (mN h' m) (mV h' m))) ∧ ∀ NP VP, tc_po g h0 m NP VP → h 0 21 = 0 → tc_sle g h0 (mN h m) (mV h m) NP VP → v = 1 ∧ tc_sle g h0 (mN h' m) (mV h' m) NP VP := by
  have hP0 := hP
  obtain ⟨hN, hC, hM, hU, hK, hG⟩ := hP
  have hT := hRR.2.1
  have q := hM m hm
  have e2k : (2000 : Int32).toInt = 2000 := rfl
  -- nothing new, or bad: the end
  have hfin : ∀ (n t : Nat) (h : qa_St), mL g h0 m h → (h 0 22 = 0 ∨ h 0 21 = 1) → ∃ v h', mf_Mo_sound_106 (n + 1) h (Int32.ofNat m) (Int32.ofNat t) = some (v, h') ∧ mr m h h' ∧ mg h0 m h' ∧ (v = 0 ∨ (v = 1 ∧ tc_po g h0 m (mN h' m) (mV h' m))) ∧ ∀ NP VP, tc_po g h0 m NP VP → h 0 21 = 0 → tc_sle g h0 (mN h m) (mV h m) NP VP → v = 1 ∧ tc_sle g h0 (mN h' m) (mV h' m) NP VP := fun n t h hL he => by
    obtain ⟨l1, l2⟩ := hL
    have he2 : mf_Mo_sound_106 (n + 1) h (Int32.ofNat m) (Int32.ofNat t) = mf_Mo_sound_183 h := by
      rw [mf_Mo_sound_106]
      by_cases h2 : (2000 : Int32) ≤ Int32.ofNat t
      · rw [if_pos h2]
      · rw [if_neg h2]
        by_cases h3 : h 0 22 = 0
        · rw [if_pos h3]
        · rw [if_neg h3]
          have hb := he.elim (fun z => absurd z h3) id
          rw [if_neg (by rw [hb]; decide)]
    rw [he2]
    unfold mf_Mo_sound_183
    rcases l2 with l2 | ⟨l2, l3, l4⟩
    · rw [if_neg (by rw [l2]; decide)]
      exact ⟨0, h, rfl, mr_rf m h, l1, Or.inl rfl, fun NP VP _ hz _ => by rw [l2] at hz; exact absurd hz (by decide)⟩
    · rw [if_pos l2]
      have h22 : h 0 22 = 0 := he.elim id (fun z => by rw [l2] at z; exact absurd z (by decide))
      exact ⟨1, h, rfl, mr_rf m h, l1, Or.inr ⟨rfl, l1.2.1, l3, l4 h22⟩, fun NP VP _ _ hs => ⟨rfl, hs⟩⟩
  intro d
  induction d with
  | zero =>
    intro t n h hL hd ht hn
    obtain ⟨n, rfl⟩ : ∃ z, n = z + 1 := ⟨n - 1, by omega⟩
    by_cases he : h 0 22 = 0 ∨ h 0 21 = 1
    · exact hfin n t h hL he
    · obtain ⟨l1, l2⟩ := hL
      have h22 : ¬ h 0 22 = 0 := fun z => he (Or.inl z)
      obtain ⟨l2, l3, l4⟩ := l2.elim (fun z => absurd (Or.inr z) he) id
      obtain ⟨n, rfl⟩ : ∃ z, n = z + 1 := ⟨n - 1, by omega⟩
      have et : (Int32.ofNat t).toInt = (t : Int) := pv_nI (by omega)
      obtain ⟨hs, hhs⟩ : ∃ hs, hs = qa_up h 0 22 0 := ⟨_, rfl⟩
      have ks : ∀ r k, ¬ (r = 0 ∧ k = 22) → hs r k = h r k := fun r k hr => by rw [hhs, pv_get, if_neg hr]
      have ks22 : hs 0 22 = 0 := by rw [hhs, pv_self]
      have eN : mN hs m = mN h m := funext fun i => by unfold mN; rw [ks 14 _ (by omega), ks 15 _ (by omega)]
      have eV : mV hs m = mV h m := funext fun i => funext fun p => by unfold mV; rw [ks 16 _ (by omega)]
      have hgs : mg h0 m hs := ⟨⟨fun r k a b => by rw [ks r k (by omega)]; exact l1.1.1 r k a b, by rw [ks 0 0 (by decide)]; exact l1.1.2.1, by rw [ks 0 4 (by decide)]; exact l1.1.2.2⟩, by rw [eN, eV]; exact l1.2.1, fun i hi => by rw [ks 14 _ (by omega), ks 15 _ (by omega)]; exact l1.2.2.1 i hi, Or.inl ks22, by rw [ks 0 21 (by decide)]; exact l1.2.2.2.2⟩
      have hrs : mr m h hs := ⟨fun r k a b c d e => ks r k (by omega), fun r _ => ⟨ks 14 r (by omega), ks 15 r (by omega), fun p _ => ks 16 _ (by omega)⟩⟩
      have hR0 : mR g h0 m hs hs 0 := ⟨mr_rf m hs, hgs, Or.inr ⟨by rw [ks 0 21 (by decide)]; exact l2, (mC_same (fun _ => rfl) (fun _ => rfl) (fun _ => rfl) rfl).1, fun _ i hi => by omega⟩, fun NP VP _ hz => ⟨by rw [ks 0 21 (by decide)]; exact l2, hz⟩⟩
      obtain ⟨h1, a1, a2, a3, a4, a5⟩ := ms_s134 hP0 hRR hm (mf_Mo_sound_106 (n + 1)) (Int32.ofNat t) (h0 7 m).toInt.toNat 0 4096 hs (by omega) (by omega) hR0
      have he1 : mf_Mo_sound_106 (n + 1 + 1) h (Int32.ofNat m) (Int32.ofNat t) = mf_Mo_sound_106 (n + 1) h1 (Int32.ofNat m) (Int32.ofNat (t + 1)) := by
        rw [mf_Mo_sound_106, if_neg (by rw [pv_le, e2k, et]; omega), if_neg h22, if_pos l2, ← hhs, ← pv_n1]
        exact a1
      have hL1 : mL g h0 m h1 := by
        refine ⟨a3, ?_⟩
        rcases a4 with y | ⟨y1, y2, y3⟩
        · exact Or.inl y
        · refine Or.inr ⟨y1, tc_ar_up hN hC hM hT hm y2.1 (by rw [eN, eV]; exact l3), fun z i hi hn => ?_⟩
          rcases a3.2.1 i hi with w | ⟨w1, -, -⟩
          · exact absurd w hn
          · exact y3 z i (by omega) hn
      have hend : h1 0 22 = 0 ∨ h1 0 21 = 1 := by
        rcases a4 with y | ⟨y1, y2, y3⟩
        · exact Or.inr y
        · refine Classical.byContradiction fun hc => ?_
          have := y2.2.2.2 ks22 (fun z => hc (Or.inl z))
          have hb := mP_bd a3
          have : mP m hs = mP m h := by unfold mP; rw [eN, eV]
          omega
      obtain ⟨v, h', c1, c2, c3, c4, c5⟩ := hfin n (t + 1) h1 hL1 hend
      refine ⟨v, h', he1.trans c1, mr_tr hrs (mr_tr a2 c2), c3, c4, fun NP VP hpo hz hb => ?_⟩
      obtain ⟨w1, w2⟩ := a5 NP VP hpo (by rw [eN, eV]; exact hb)
      exact c5 NP VP hpo w1 w2
  | succ d ih =>
    intro t n h hL hd ht hn
    obtain ⟨n, rfl⟩ : ∃ z, n = z + 1 := ⟨n - 1, by omega⟩
    by_cases he : h 0 22 = 0 ∨ h 0 21 = 1
    · exact hfin n t h hL he
    · obtain ⟨l1, l2⟩ := hL
      have h22 : ¬ h 0 22 = 0 := fun z => he (Or.inl z)
      obtain ⟨l2, l3, l4⟩ := l2.elim (fun z => absurd (Or.inr z) he) id
      have et : (Int32.ofNat t).toInt = (t : Int) := pv_nI (by omega)
      obtain ⟨hs, hhs⟩ : ∃ hs, hs = qa_up h 0 22 0 := ⟨_, rfl⟩
      have ks : ∀ r k, ¬ (r = 0 ∧ k = 22) → hs r k = h r k := fun r k hr => by rw [hhs, pv_get, if_neg hr]
      have ks22 : hs 0 22 = 0 := by rw [hhs, pv_self]
      have eN : mN hs m = mN h m := funext fun i => by unfold mN; rw [ks 14 _ (by omega), ks 15 _ (by omega)]
      have eV : mV hs m = mV h m := funext fun i => funext fun p => by unfold mV; rw [ks 16 _ (by omega)]
      have hgs : mg h0 m hs := ⟨⟨fun r k a b => by rw [ks r k (by omega)]; exact l1.1.1 r k a b, by rw [ks 0 0 (by decide)]; exact l1.1.2.1, by rw [ks 0 4 (by decide)]; exact l1.1.2.2⟩, by rw [eN, eV]; exact l1.2.1, fun i hi => by rw [ks 14 _ (by omega), ks 15 _ (by omega)]; exact l1.2.2.1 i hi, Or.inl ks22, by rw [ks 0 21 (by decide)]; exact l1.2.2.2.2⟩
      have hrs : mr m h hs := ⟨fun r k a b c d e => ks r k (by omega), fun r _ => ⟨ks 14 r (by omega), ks 15 r (by omega), fun p _ => ks 16 _ (by omega)⟩⟩
      have hR0 : mR g h0 m hs hs 0 := ⟨mr_rf m hs, hgs, Or.inr ⟨by rw [ks 0 21 (by decide)]; exact l2, (mC_same (fun _ => rfl) (fun _ => rfl) (fun _ => rfl) rfl).1, fun _ i hi => by omega⟩, fun NP VP _ hz => ⟨by rw [ks 0 21 (by decide)]; exact l2, hz⟩⟩
      obtain ⟨h1, a1, a2, a3, a4, a5⟩ := ms_s134 hP0 hRR hm (mf_Mo_sound_106 n) (Int32.ofNat t) (h0 7 m).toInt.toNat 0 4096 hs (by omega) (by omega) hR0
      have he1 : mf_Mo_sound_106 (n + 1) h (Int32.ofNat m) (Int32.ofNat t) = mf_Mo_sound_106 n h1 (Int32.ofNat m) (Int32.ofNat (t + 1)) := by
        rw [mf_Mo_sound_106, if_neg (by rw [pv_le, e2k, et]; omega), if_neg h22, if_pos l2, ← hhs, ← pv_n1]
        exact a1
      have hL1 : mL g h0 m h1 := by
        refine ⟨a3, ?_⟩
        rcases a4 with y | ⟨y1, y2, y3⟩
        · exact Or.inl y
        · refine Or.inr ⟨y1, tc_ar_up hN hC hM hT hm y2.1 (by rw [eN, eV]; exact l3), fun z i hi hn => ?_⟩
          rcases a3.2.1 i hi with w | ⟨w1, -, -⟩
          · exact absurd w hn
          · exact y3 z i (by omega) hn
      have hrec : ∃ v h', mf_Mo_sound_106 n h1 (Int32.ofNat m) (Int32.ofNat (t + 1)) = some (v, h') ∧ mr m h1 h' ∧ mg h0 m h' ∧ (v = 0 ∨ (v = 1 ∧ tc_po g h0 m (mN h' m) (mV h' m))) ∧ ∀ NP VP, tc_po g h0 m NP VP → h1 0 21 = 0 → tc_sle g h0 (mN h1 m) (mV h1 m) NP VP → v = 1 ∧ tc_sle g h0 (mN h' m) (mV h' m) NP VP := by
        by_cases hend : h1 0 22 = 0 ∨ h1 0 21 = 1
        · obtain ⟨n, rfl⟩ : ∃ z, n = z + 1 := ⟨n - 1, by omega⟩
          exact hfin n (t + 1) h1 hL1 hend
        · obtain ⟨y1, y2, y3⟩ := a4.elim (fun z => absurd (Or.inr z) hend) id
          have hlt := y2.2.2.2 ks22 (fun z => hend (Or.inl z))
          have : mP m hs = mP m h := by unfold mP; rw [eN, eV]
          exact ih (t + 1) n h1 hL1 (by omega) (by omega) (by omega)
      obtain ⟨v, h', c1, c2, c3, c4, c5⟩ := hrec
      refine ⟨v, h', he1.trans c1, mr_tr hrs (mr_tr a2 c2), c3, c4, fun NP VP hpo hz hb => ?_⟩
      obtain ⟨w1, w2⟩ := a5 NP VP hpo (by rw [eN, eV]; exact hb)
      exact c5 NP VP hpo w1 w2
