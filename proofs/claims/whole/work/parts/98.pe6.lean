theorem pv_d20 : ∀ n, n < 200 → Int32.ofNat n / 20 = Int32.ofNat (n / 20) ∧ Int32.ofNat n - Int32.ofNat n / 20 * 20 = Int32.ofNat (n % 20) := by decide +kernel
def mF (g h0 : qa_St) (hs h : qa_St) (a : Nat) : Prop := me h0 h ∧ mb h ∧ mD hs h ∧ (∀ L K : Nat → Prop, rc_c g h0 L K → (∀ k, mLs hs k → L k) → (∀ k, mKs hs k → K k) → (∀ k, mLs h k → L k) ∧ (∀ k, mKs h k → K k)) ∧ (h 0 22 = 0 → ∀ m' i' : Nat, 20 * m' + i' < a → (m' : Int) < (h0 0 4).toInt → (i' : Int) < (h0 7 m').toInt → h0 14 (20 * m' + i') ≠ 0 → mLs hs m' → rc_f g h0 (mLs hs) (mKs hs) m' i')
theorem ms_sp93 {g h0 hs : qa_St} (hP : pr_P h0) (hRR : pr_R g h0) (hall : ∀ m : Nat, (m : Int) < (h0 0 4).toInt → pc_m g h0 m) (k73 : qa_St → Int32 → qa_Re) (x1 : Int32) : ∀ (d a n : Nat) (h : qa_St), (a : Int) + d = 20 * (h0 0 4).toInt → d < n → mF g h0 hs h a → ∃ h', mf_Mo_spread_93 k73 n h x1 (Int32.ofNat a) = k73 h' (x1 + 1) ∧ mF g h0 hs h' (20 * (h0 0 4).toInt.toNat) := by
  have hP0 := hP
  obtain ⟨hN, hC, hM, hU, hK, hG⟩ := hP
  obtain ⟨n0, n1, n2, n3⟩ := hN
  have e0 : (0 : Int32).toInt = 0 := rfl
  have e20 : (20 : Int32).toInt = 20 := rfl
  intro d
  induction d with
  | zero =>
    intro a n h ha hn hF
    obtain ⟨n, rfl⟩ : ∃ z, n = z + 1 := ⟨n - 1, by omega⟩
    have ea : (Int32.ofNat a).toInt = (a : Int) := pv_nI (by omega)
    have h4 := (me_pm hF.1).2.2
    have e20M : ((20 : Int32) * h0 0 4).toInt = 20 * (h0 0 4).toInt := by rw [pv_mul (by rw [e20]; omega) (by rw [e20]; omega), e20]
    refine ⟨h, ?_, by rw [show 20 * (h0 0 4).toInt.toNat = a by omega]; exact hF⟩
    rw [mf_Mo_spread_93, h4, if_pos (by rw [pv_le, e20M, ea]; omega)]
  | succ d ih =>
    intro a n h ha hn hF
    obtain ⟨n, rfl⟩ : ∃ z, n = z + 1 := ⟨n - 1, by omega⟩
    have ea : (Int32.ofNat a).toInt = (a : Int) := pv_nI (by omega)
    have ean : (Int32.ofNat a).toNatClampNeg = a := by rw [pv_cl]; omega
    have h4 := (me_pm hF.1).2.2
    have e20M : ((20 : Int32) * h0 0 4).toInt = 20 * (h0 0 4).toInt := by rw [pv_mul (by rw [e20]; omega) (by rw [e20]; omega), e20]
    obtain ⟨m, hmm⟩ : ∃ m, m = a / 20 := ⟨_, rfl⟩
    obtain ⟨i, hii⟩ : ∃ i, i = a % 20 := ⟨_, rfl⟩
    have hami : a = 20 * m + i := by omega
    have hi20 : i < 20 := by omega
    have hm : (m : Int) < (h0 0 4).toInt := by omega
    have q := hM m hm
    obtain ⟨d1, d2⟩ := pv_d20 a (by omega)
    rw [← hmm] at d1
    rw [← hii] at d2
    have em : (Int32.ofNat m).toInt = (m : Int) := pv_nI (by omega)
    have emn : (Int32.ofNat m).toNatClampNeg = m := by rw [pv_cl]; omega
    have ei : (Int32.ofNat i).toInt = (i : Int) := pv_nI (by omega)
    have hmb : ¬ (Int32.ofNat m < 0 ∨ 10 ≤ (Int32.ofNat m).toNatClampNeg) := by rw [emn, pv_lt, em, e0]; omega
    have hab : ¬ (Int32.ofNat a < 0 ∨ 200 ≤ (Int32.ofNat a).toNatClampNeg) := by rw [ean, pv_lt, ea, e0]; omega
    have hF0 := hF
    obtain ⟨f1, f2, f3, f4, f5⟩ := hF
    have hskip : (¬ mLs h m ∨ ¬ (i : Int) < (h0 7 m).toInt ∨ h0 14 (20 * m + i) = 0) → mF g h0 hs h (a + 1) := fun hs' => by
      refine ⟨f1, f2, f3, f4, fun hz m' i' hlt hm' hi' hz' hL => ?_⟩
      have q' := hM m' hm'
      by_cases hmi : 20 * m' + i' = a
      · have e1 : m' = m := by omega
        have e2 : i' = i := by omega
        rw [e1] at hL
        rw [e1, e2] at hz'
        rw [e1, e2] at hi'
        rcases hs' with y | y | y
        · exact absurd (f3.1 _ hL) y
        · exact absurd hi' y
        · exact absurd y hz'
      · exact f5 hz m' i' (by omega) hm' hi' hz' hL
    rw [mf_Mo_spread_93, h4, if_neg (by rw [pv_le, e20M, ea]; omega), if_neg (show ¬ (20 : Int32) = 0 by decide), d2, d1, if_neg hmb, if_neg (show ¬ (20 : Int32) = 0 by decide), if_neg (show ¬ (20 : Int32) = 0 by decide), if_neg hmb, if_neg hab, ean, emn, (me_pm f1).1 7 m (by omega) (by omega), f1 14 a (by decide) (by decide) (by decide) (by omega)]
    unfold mf_Mo_spread_146
    rw [pv_n1]
    by_cases c1 : h 18 m = 0
    · rw [if_pos c1]
      exact ih (a + 1) n h (by omega) (by omega) (hskip (Or.inl (fun z => z.2 c1)))
    · rw [if_neg c1]
      by_cases c2 : (i : Int) < (h0 7 m).toInt
      · rw [if_neg (by rw [pv_le, ei]; omega)]
        by_cases c3 : h0 14 a = 0
        · rw [if_pos c3]
          exact ih (a + 1) n h (by omega) (by omega) (hskip (Or.inr (Or.inr (by rw [← hami]; exact c3))))
        · rw [if_neg c3]
          have hz : h0 14 (20 * m + i) ≠ 0 := by rw [← hami]; exact c3
          obtain ⟨h1, a1, a2, a3, a4, a5, a6⟩ := ms_reach hP0 hRR f1 f2 hall hm c2 hz
          rw [← hami] at a1
          rw [a1]
          simp only [Option.bind_some]
          refine ih (a + 1) n h1 (by omega) (by omega) ⟨a2, a3, mD_tr f3 a4, fun L K hc hL hKK => ?_, fun hz22 m' i' hlt hm' hi' hz' hL => ?_⟩
          · obtain ⟨w1, w2⟩ := f4 L K hc hL hKK
            exact a5 L K w1 w2 (hc.2.2 m i hm c2 hz (w1 m ⟨by omega, c1⟩))
          · obtain ⟨w0, w1, w2⟩ := (mD_tr f3 a4).2.2.2.1 hz22
            obtain ⟨u0, u1, u2⟩ := a4.2.2.2.1 hz22
            by_cases hmi : 20 * m' + i' = a
            · have q' := hM m' hm'
              have e1 : m' = m := by omega
              have e2 : i' = i := by omega
              have hr := a6 hz22
              have x1 : mLs h = mLs hs := funext fun k => propext ⟨fun z => w1 k (a4.1 k z), f3.1 k⟩
              have x2 : mKs h = mKs hs := funext fun k => propext ⟨fun z => w2 k (a4.2.1 k z), f3.2.1 k⟩
              rw [x1, x2] at hr
              rw [e1, e2]
              exact hr
            · exact f5 u0 m' i' (by omega) hm' hi' hz' hL
      · rw [if_pos (by rw [pv_le, ei]; omega)]
        exact ih (a + 1) n h (by omega) (by omega) (hskip (Or.inr (Or.inl c2)))
theorem ms_sp73 {g h0 : qa_St} (hP : pr_P h0) (hRR : pr_R g h0) (hall : ∀ m : Nat, (m : Int) < (h0 0 4).toInt → pc_m g h0 m) : ∀ (d t n : Nat) (h : qa_St), 22 ≤ mcn h + d → t + d ≤ 28 → d + 1 < n → me h0 h → mb h → mLs h 0 → (∀ k, rc_T g h0 (h0 4 0).toInt.toNat k → mLs h k) → (∀ L K : Nat → Prop, rc_c g h0 L K → (∀ k, mLs h k → L k) ∧ (∀ k, mKs h k → K k)) → h 0 22 ≠ 0 → ∃ h', mf_Mo_spread_73 n h (Int32.ofNat t) = some (0, h') ∧ me h0 h' ∧ mb h' ∧ rc_c g h0 (mLs h') (mKs h') ∧ (∀ L K : Nat → Prop, rc_c g h0 L K → (∀ k, mLs h' k → L k) ∧ (∀ k, mKs h' k → K k)) := by
  have hn4 := hP.1
  obtain ⟨n0, n1, n2, n3⟩ := hn4
  have e30 : (30 : Int32).toInt = 30 := rfl
  -- a round
  have hround : ∀ (n t : Nat) (h : qa_St), t < 30 → me h0 h → mb h → (∀ L K : Nat → Prop, rc_c g h0 L K → (∀ k, mLs h k → L k) ∧ (∀ k, mKs h k → K k)) → h 0 22 ≠ 0 → ∃ hs h', (∀ k, mLs hs k ↔ mLs h k) ∧ (∀ k, mKs hs k ↔ mKs h k) ∧ mcn hs = mcn h ∧ hs 0 22 = 0 ∧ mf_Mo_spread_73 (n + 1) h (Int32.ofNat t) = mf_Mo_spread_73 n h' (Int32.ofNat (t + 1)) ∧ mF g h0 hs h' (20 * (h0 0 4).toInt.toNat) ∧ (∀ L K : Nat → Prop, rc_c g h0 L K → (∀ k, mLs h' k → L k) ∧ (∀ k, mKs h' k → K k)) := fun n t h ht he hb hl h22 => by
    have et : (Int32.ofNat t).toInt = (t : Int) := pv_nI (by omega)
    obtain ⟨hs, hhs⟩ : ∃ hs, hs = qa_up h 0 22 0 := ⟨_, rfl⟩
    have ks : ∀ r k, ¬ (r = 0 ∧ k = 22) → hs r k = h r k := fun r k hr => by rw [hhs, pv_get, if_neg hr]
    have x1 : ∀ k, mLs hs k ↔ mLs h k := fun k => by unfold mLs; rw [ks 18 k (by omega)]
    have x2 : ∀ k, mKs hs k ↔ mKs h k := fun k => by unfold mKs; rw [ks 20 k (by omega)]
    have f18 : hs 18 = h 18 := funext fun k => ks 18 k (by omega)
    have f19 : hs 19 = h 19 := funext fun k => ks 19 k (by omega)
    have f20 : hs 20 = h 20 := funext fun k => ks 20 k (by omega)
    have hcn : mcn hs = mcn h := by unfold mcn; rw [f18, f19, f20]
    have hF0 : mF g h0 hs hs 0 := ⟨fun r k a b c d => by rw [ks r k d]; exact he r k a b c d, ⟨fun k hk => by rw [ks 18 k (by omega)]; exact hb.1 k hk, fun k hk => by rw [ks 20 k (by omega)]; exact hb.2 k hk⟩, mD_rf hs, fun L K _ h1 h2 => ⟨h1, h2⟩, fun _ m' i' hlt => by omega⟩
    obtain ⟨h', a1, a2⟩ := ms_sp93 hP hRR hall (mf_Mo_spread_73 n) (Int32.ofNat t) (20 * (h0 0 4).toInt.toNat) 0 4096 hs (by omega) (by omega) hF0
    refine ⟨hs, h', x1, x2, hcn, by rw [hhs, pv_self], ?_, a2, fun L K hc => ?_⟩
    · rw [mf_Mo_spread_73, if_neg (by rw [pv_le, e30, et]; omega), if_neg h22, ← hhs, ← pv_n1]
      exact a1
    · obtain ⟨w1, w2⟩ := hl L K hc
      exact a2.2.2.2.1 L K hc (fun k z => w1 k ((x1 k).mp z)) (fun k z => w2 k ((x2 k).mp z))
  have hclosed : ∀ (hs h h' : qa_St), (∀ k, mLs hs k ↔ mLs h k) → mF g h0 hs h' (20 * (h0 0 4).toInt.toNat) → mLs h 0 → (∀ k, rc_T g h0 (h0 4 0).toInt.toNat k → mLs h k) → h' 0 22 = 0 → rc_c g h0 (mLs h') (mKs h') := fun hs h h' x1 hF hl0 hT0 hz => by
    obtain ⟨-, w1, w2⟩ := hF.2.2.1.2.2.2.1 hz
    have y1 : mLs h' = mLs hs := funext fun k => propext ⟨w1 k, hF.2.2.1.1 k⟩
    have y2 : mKs h' = mKs hs := funext fun k => propext ⟨w2 k, hF.2.2.1.2.1 k⟩
    rw [y1, y2]
    refine ⟨(x1 0).mpr hl0, fun k z => (x1 k).mpr (hT0 k z), fun m i hm hi hz' hL => hF.2.2.2.2 hz m i ?_ hm hi hz' hL⟩
    have := hP.2.2.1 m hm
    omega
  have hfin : ∀ (n t : Nat) (h' : qa_St), h' 0 22 = 0 → mf_Mo_spread_73 (n + 1) h' (Int32.ofNat t) = some (0, h') := fun n t h' hz => by
    rw [mf_Mo_spread_73, if_pos hz]
    split <;> rfl
  intro d
  induction d with
  | zero =>
    intro t n h hd ht hn he hb hl0 hT0 hl h22
    obtain ⟨n, rfl⟩ : ∃ z, n = z + 1 := ⟨n - 1, by omega⟩
    obtain ⟨n, rfl⟩ : ∃ z, n = z + 1 := ⟨n - 1, by omega⟩
    obtain ⟨hs, h', x1, x2, x3, x4, a1, a2, a3⟩ := hround (n + 1) t h (by omega) he hb hl h22
    have hz : h' 0 22 = 0 := Classical.byContradiction fun hc => by
      have := a2.2.2.1.2.2.2.2.2 x4 hc
      have := mcn_bd h'
      omega
    exact ⟨h', a1.trans (hfin n (t + 1) h' hz), a2.1, a2.2.1, hclosed hs h h' x1 a2 hl0 hT0 hz, a3⟩
  | succ d ih =>
    intro t n h hd ht hn he hb hl0 hT0 hl h22
    obtain ⟨n, rfl⟩ : ∃ z, n = z + 1 := ⟨n - 1, by omega⟩
    obtain ⟨hs, h1, x1, x2, x3, x4, a1, a2, a3⟩ := hround n t h (by omega) he hb hl h22
    by_cases hz : h1 0 22 = 0
    · obtain ⟨n, rfl⟩ : ∃ z, n = z + 1 := ⟨n - 1, by omega⟩
      exact ⟨h1, a1.trans (hfin n (t + 1) h1 hz), a2.1, a2.2.1, hclosed hs h h1 x1 a2 hl0 hT0 hz, a3⟩
    · have := a2.2.2.1.2.2.2.2.2 x4 hz
      obtain ⟨h', b1, b2⟩ := ih (t + 1) n h1 (by omega) (by omega) (by omega) a2.1 a2.2.1 (a2.2.2.1.1 0 ((x1 0).mpr hl0)) (fun k z => a2.2.2.1.1 k ((x1 k).mpr (hT0 k z))) a3 hz
      exact ⟨h', a1.trans b1, b2⟩
theorem ms_sp2 : ∀ (d k n : Nat) (h : qa_St), k + d = 10 → d < n → ∃ h', mf_Mo_spread_2 n h (Int32.ofNat k) = mf_Mo_spread_23 4096 h' 0 ∧ (∀ r j, r ≠ 18 → h' r j = h r j) ∧ (∀ j, k ≤ j → j < 10 → h' 18 j = 0) ∧ ∀ j, j < k → h' 18 j = h 18 j := by
  intro d
  have e0 : (0 : Int32).toInt = 0 := rfl
  have e10 : (10 : Int32).toInt = 10 := rfl
  induction d with
  | zero =>
    intro k n h hk hn
    obtain ⟨n, rfl⟩ : ∃ z, n = z + 1 := ⟨n - 1, by omega⟩
    have ek : (Int32.ofNat k).toInt = (k : Int) := pv_nI (by omega)
    refine ⟨h, ?_, fun _ _ _ => rfl, fun j h1 h2 => by omega, fun _ _ => rfl⟩
    rw [mf_Mo_spread_2, if_pos (by rw [pv_le, e10, ek]; omega)]
  | succ d ih =>
    intro k n h hk hn
    obtain ⟨n, rfl⟩ : ∃ z, n = z + 1 := ⟨n - 1, by omega⟩
    have ek : (Int32.ofNat k).toInt = (k : Int) := pv_nI (by omega)
    have ekn : (Int32.ofNat k).toNatClampNeg = k := by rw [pv_cl]; omega
    obtain ⟨h', a1, a2, a3, a4⟩ := ih (k + 1) n (qa_up h 18 k 0) (by omega) (by omega)
    refine ⟨h', ?_, fun r j hr => by rw [a2 r j hr, pv_nr hr], fun j h1 h2 => ?_, fun j hj => by rw [a4 j (by omega), pv_ni (by omega)]⟩
    · rw [mf_Mo_spread_2, if_neg (by rw [pv_le, e10, ek]; omega), if_neg (by rw [ekn, pv_lt, ek, e0]; omega), ekn, pv_n1]
      exact a1
    · by_cases hjk : j = k
      · rw [hjk, a4 k (by omega)]; exact pv_self
      · exact a3 j (by omega) h2
theorem ms_sp23 : ∀ (d k n : Nat) (h : qa_St), k + d = 6 → d < n → ∃ h', mf_Mo_spread_23 n h (Int32.ofNat k) = mf_Mo_spread_63 (qa_up h' 18 0 1) ((qa_up h' 18 0 1) 4 0) ∧ (∀ r j, r ≠ 19 → r ≠ 20 → h' r j = h r j) ∧ (∀ j, k ≤ j → j < 6 → h' 20 j = 0) ∧ ∀ j, j < k → h' 20 j = h 20 j := by
  intro d
  have e0 : (0 : Int32).toInt = 0 := rfl
  have e6 : (6 : Int32).toInt = 6 := rfl
  have e00 : (0 : Int32).toNatClampNeg = 0 := rfl
  induction d with
  | zero =>
    intro k n h hk hn
    obtain ⟨n, rfl⟩ : ∃ z, n = z + 1 := ⟨n - 1, by omega⟩
    have ek : (Int32.ofNat k).toInt = (k : Int) := pv_nI (by omega)
    refine ⟨h, ?_, fun _ _ _ _ => rfl, fun j h1 h2 => by omega, fun _ _ => rfl⟩
    rw [mf_Mo_spread_23, if_pos (by rw [pv_le, e6, ek]; omega), if_neg (by decide), if_neg (by decide), e00]
  | succ d ih =>
    intro k n h hk hn
    obtain ⟨n, rfl⟩ : ∃ z, n = z + 1 := ⟨n - 1, by omega⟩
    have ek : (Int32.ofNat k).toInt = (k : Int) := pv_nI (by omega)
    have ekn : (Int32.ofNat k).toNatClampNeg = k := by rw [pv_cl]; omega
    have hkb : ¬ (Int32.ofNat k < 0 ∨ 6 ≤ (Int32.ofNat k).toNatClampNeg) := by rw [ekn, pv_lt, ek, e0]; omega
    obtain ⟨h', a1, a2, a3, a4⟩ := ih (k + 1) n (qa_up (qa_up h 19 k 0) 20 k 0) (by omega) (by omega)
    refine ⟨h', ?_, fun r j h1 h2 => by rw [a2 r j h1 h2, pv_nr h2, pv_nr h1], fun j h1 h2 => ?_, fun j hj => by rw [a4 j (by omega), pv_ni (by omega), pv_nr (by decide)]⟩
    · rw [mf_Mo_spread_23, if_neg (by rw [pv_le, e6, ek]; omega), if_neg hkb, if_neg hkb, ekn, pv_n1]
      exact a1
    · by_cases hjk : j = k
      · rw [hjk, a4 k (by omega)]; exact pv_self
      · exact a3 j (by omega) h2
/-- the reference finds the least closed sets -/
theorem ms_spread {g h : qa_St} (hP : pr_P h) (hRR : pr_R g h) (h0 : 0 < (h 0 4).toInt) (hall : ∀ m : Nat, (m : Int) < (h 0 4).toInt → pc_m g h m) : ∃ h', mf_Mo_spread h = some (0, h') ∧ me h h' ∧ mb h' ∧ rc_c g h (mLs h') (mKs h') ∧ (∀ L K : Nat → Prop, rc_c g h L K → (∀ k, mLs h' k → L k) ∧ (∀ k, mKs h' k → K k)) := by
  have hP0 := hP
  obtain ⟨hN, hC, hM, hU, hK, hG⟩ := hP
  obtain ⟨n0, n1, n2, n3⟩ := hN
  have q0 := hM 0 (by omega)
  obtain ⟨h1, a1, a2, a3, a4⟩ := ms_sp2 10 0 4096 h (by omega) (by omega)
  obtain ⟨h2, b1, b2, b3, b4⟩ := ms_sp23 6 0 4096 h1 (by omega) (by omega)
  obtain ⟨h3, hh3⟩ : ∃ h3, h3 = qa_up h2 18 0 1 := ⟨_, rfl⟩
  rw [← hh3] at b1
  have k3 : ∀ r k, r ≠ 18 → r ≠ 19 → r ≠ 20 → h3 r k = h r k := fun r k c1 c2 c3 => by rw [hh3, pv_nr c1, b2 r k c2 c3, a2 r k c1]
  have k18 : ∀ k, k < 10 → h3 18 k = if k = 0 then 1 else 0 := fun k hk => by
    rw [hh3, pv_get]
    by_cases hk0 : k = 0
    · rw [if_pos ⟨rfl, hk0⟩, if_pos hk0]
    · rw [if_neg (fun z => hk0 z.2), if_neg hk0, b2 18 k (by decide) (by decide), a3 k (by omega) hk]
  have k20 : ∀ k, k < 6 → h3 20 k = 0 := fun k hk => by rw [hh3, pv_nr (by decide), b3 k (by omega) hk]
  have he3 : me h h3 := fun r k c1 c2 c3 _ => k3 r k c1 c2 c3
  have hb3 : mb h3 := ⟨fun k hk => by rw [k18 k hk]; split; exact Or.inr rfl; exact Or.inl rfl, fun k hk => Or.inl (k20 k hk)⟩
  have h34 : h3 4 0 = h 4 0 := k3 4 0 (by decide) (by decide) (by decide)
  obtain ⟨h4, c1, c2⟩ := ms_touch hP0 hRR he3 hb3 (h 4 0) (by omega)
  obtain ⟨h5, hh5⟩ : ∃ h5, h5 = qa_up h4 0 22 1 := ⟨_, rfl⟩
  have k5 : ∀ r k, ¬ (r = 0 ∧ k = 22) → h5 r k = h4 r k := fun r k hr => by rw [hh5, pv_get, if_neg hr]
  have hl3 : ∀ k, mLs h3 k ↔ k = 0 := fun k => by
    unfold mLs
    constructor
    · rintro ⟨z1, z2⟩
      rw [k18 k z1] at z2
      by_cases hk0 : k = 0
      · exact hk0
      · rw [if_neg hk0] at z2; exact absurd rfl z2
    · intro z
      exact ⟨by omega, by rw [k18 k (by omega), if_pos z]; decide⟩
  have hl5 : ∀ k, mLs h5 k ↔ (k = 0 ∨ rc_T g h (h 4 0).toInt.toNat k) := fun k => by
    have : mLs h5 k ↔ mLs h4 k := by unfold mLs; rw [k5 18 k (by omega)]
    rw [this, c2.2.2.2.1, hl3]
  have hk5 : ∀ k, ¬ mKs h5 k := fun k z => by
    have : mKs h4 k := ⟨z.1, by have := z.2; rw [k5 20 k (by omega)] at this; exact this⟩
    rcases (c2.2.2.2.2 k).mp this with y | y
    · exact y.2 (k20 k y.1)
    · exact y
  obtain ⟨h', d1, d2, d3, d4, d5⟩ := ms_sp73 hP0 hRR hall 22 0 4096 h5 (by omega) (by omega) (by omega) (fun r k e1 e2 e3 e4 => by rw [k5 r k e4]; exact c2.1 r k e1 e2 e3 e4) ⟨fun k hk => by rw [k5 18 k (by omega)]; exact c2.2.1.1 k hk, fun k hk => by rw [k5 20 k (by omega)]; exact c2.2.1.2 k hk⟩ ((hl5 0).mpr (Or.inl rfl)) (fun k z => (hl5 k).mpr (Or.inr z)) (fun L K hc => ⟨fun k z => ((hl5 k).mp z).elim (fun y => by rw [y]; exact hc.1) (hc.2.1 k), fun k z => absurd z (hk5 k)⟩) (by rw [hh5, pv_self]; decide)
  refine ⟨h', ?_, d2, d3, d4, d5⟩
  unfold mf_Mo_spread
  refine a1.trans (b1.trans ?_)
  unfold mf_Mo_spread_63
  rw [h34, c1, Option.bind_some, ← hh5]
  exact d1
