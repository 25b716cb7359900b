theorem xs_clear (g : qa_St) (r0 : Nat) : xf_Fr_clear g r0 = some (0, qa_up (qa_up (pv_fill g (r0 + 1) 0 10 8) r0 1 0) r0 2 0) := by
  unfold xf_Fr_clear
  rw [pv_Afill g (r0 + 1) 10 (by omega) 8]
  rfl
theorem xs_es9 {g0 h : qa_St} (hP : pr_P h) (hRR : pr_R g0 h) {m : Nat} (hm : (m : Int) < (h 0 4).toInt) : ∀ (d p n : Nat) (g : qa_St), xp g0 g → g 72 4 = Int32.ofNat m → (p : Int) + d = (h 6 m).toInt → d < n → ∃ g', xf_Ch_enterStart_9 n g (Int32.ofNat p) = xf_Ch_enterStart_73 g' ∧ (∀ r k, r ≠ 76 → g' r k = g r k) ∧ ∀ q, q < 10 → g' 76 q = if q = 0 ∧ 0 ≤ (h 5 m).toInt then h 4 m else if (p : Int) ≤ q ∧ (q : Int) < (h 6 m).toInt then 9 else g 76 q := by
  have hP0 := hP
  obtain ⟨hN, hC, hM, hU, hK, hG⟩ := hP
  have hN0 := hN
  obtain ⟨n0, n1, n2, n3⟩ := hN
  have q := hM m hm
  have em : (Int32.ofNat m).toInt = (m : Int) := pv_nI (by omega)
  have emn : (Int32.ofNat m).toInt.toNat = m := by omega
  intro d
  induction d with
  | zero =>
    intro p n g hp h4 hpd hn
    obtain ⟨n, rfl⟩ : ∃ z, n = z + 1 := ⟨n - 1, by omega⟩
    have hRg := xp_R hp hN0 hRR hC
    obtain ⟨⟨r1, r2⟩, hT, hO, hQ, hZ, hL, hH⟩ := hRg
    have ep : (Int32.ofNat p).toInt = (p : Int) := pv_nI (by omega)
    rw [xf_Ch_enterStart_9, h4, xs_inputsOf _ hN0 r2 hQ, emn, if_pos (by omega)]
    simp only [Option.bind_some]
    rw [if_pos (by rw [pv_le, ep]; omega), h4, xs_isPlain _ _ (by rw [r2]; omega), emn, r2, (hQ m hm).2.1]
    simp only [Option.bind_some, pv_b1]
    by_cases hs : 0 ≤ (h 5 m).toInt
    · rw [if_pos (by omega), h4, xs_ownerOf _ hN0 r2 hQ, emn, if_pos (by omega)]
      simp only [Option.bind_some]
      rw [xs_setPlace 75 0 _ ⟨by decide, by decide⟩]
      simp only [Option.bind_some]
      refine ⟨_, rfl, fun r k hr => pv_nr hr, fun q hq => ?_⟩
      have e00 : (0 : Int32).toInt.toNat = 0 := rfl
      rw [e00]
      by_cases hq0 : q = 0
      · rw [if_pos ⟨hq0, hs⟩, hq0]; exact pv_self
      · rw [if_neg (fun z => hq0 z.1), if_neg (by omega), pv_ni hq0]
    · rw [if_neg (by omega)]
      exact ⟨g, rfl, fun _ _ _ => rfl, fun q hq => by rw [if_neg (fun z => hs z.2), if_neg (by omega)]⟩
  | succ d ih =>
    intro p n g hp h4 hpd hn
    obtain ⟨n, rfl⟩ : ∃ z, n = z + 1 := ⟨n - 1, by omega⟩
    have hRg := xp_R hp hN0 hRR hC
    obtain ⟨⟨r1, r2⟩, hT, hO, hQ, hZ, hL, hH⟩ := hRg
    have ep : (Int32.ofNat p).toInt = (p : Int) := pv_nI (by omega)
    have epn : (Int32.ofNat p).toInt.toNat = p := by omega
    rw [xf_Ch_enterStart_9, h4, xs_inputsOf _ hN0 r2 hQ, emn, if_pos (by omega)]
    simp only [Option.bind_some]
    rw [if_neg (by rw [pv_le, ep]; omega), xs_setPlace 75 _ _ (by omega), epn]
    simp only [Option.bind_some]
    rw [pv_n1]
    obtain ⟨g', a1, a2, a3⟩ := ih (p + 1) n (qa_up g (75 + 1) p 9) (fun r k hr => by rw [pv_nr (by omega)]; exact hp r k hr) (by rw [pv_nr (by decide)]; exact h4) (by omega) (by omega)
    refine ⟨g', a1, fun r k hr => by rw [a2 r k hr, pv_nr hr], fun q hq => ?_⟩
    rw [a3 q hq]
    by_cases h1 : q = 0 ∧ 0 ≤ (h 5 m).toInt
    · rw [if_pos h1, if_pos h1]
    · rw [if_neg h1, if_neg h1]
      by_cases hqp : q = p
      · rw [if_neg (by omega), if_pos (by omega), hqp]; exact pv_self
      · rw [pv_ni hqp]
        by_cases h2 : (p : Int) ≤ q ∧ (q : Int) < (h 6 m).toInt
        · rw [if_pos h2, if_pos (by omega)]
        · rw [if_neg h2, if_neg (by omega)]
theorem pv_fill4 (n : Nat) (hn : n ≤ 200) (v : Int32) : ∀ (k fu : Nat) (g : qa_St) (i : Nat), i + k = n → k < fu → xf_Ar_fill4_10 74 200 fu g (Int32.ofNat n) v (Int32.ofNat i) = some (0, pv_fill g 74 i n v) := by
  intro k
  induction k with
  | zero =>
    intro fu g i hk hf
    obtain ⟨fu, rfl⟩ : ∃ z, fu = z + 1 := ⟨fu - 1, by omega⟩
    rw [xf_Ar_fill4_10, if_pos (by rw [pv_le, pv_nI (by omega), pv_nI (by omega)]; omega), pv_fill_nil (by omega)]
  | succ k ih =>
    intro fu g i hk hf
    obtain ⟨fu, rfl⟩ : ∃ z, fu = z + 1 := ⟨fu - 1, by omega⟩
    have hi : (Int32.ofNat i).toInt = (i : Int) := pv_nI (by omega)
    have h0 : (0 : Int32).toInt = 0 := rfl
    rw [xf_Ar_fill4_10, if_neg (by rw [pv_le, pv_nI (n := n) (by omega), hi]; omega), if_neg (by rw [pv_lt, pv_cl, hi, h0]; omega), pv_n1, ih fu _ (i + 1) (by omega) (by omega), pv_cl, hi]
    rw [show ((i : Int)).toNat = i by omega, pv_fill_step (by omega)]
theorem xs_range (ga : qa_St) (m : Nat) (h : m < 10) : xf_Ar_rangeCheck ga (Int32.ofNat 200) (Int32.ofNat (20 * m)) (Int32.ofNat (20 * m + 20)) = some (0, ga) := by
  have e0 : (0 : Int32).toInt = 0 := rfl
  unfold xf_Ar_rangeCheck
  rw [if_pos (by rw [pv_le, pv_nI (by omega), pv_nI (by omega)]; omega), if_pos (by rw [pv_le, e0, pv_nI (by omega)]; omega), if_pos (by rw [pv_le, pv_nI (n := 20 * m + 20) (by omega), pv_nI (by omega)]; omega)]
theorem xs_fill4 (ga : qa_St) (m : Nat) (h : m < 10) : xf_Ar_fill4 ga 74 200 (Int32.ofNat (20 * m)) (Int32.ofNat (20 * m + 20)) (-1) = some (0, pv_fill ga 74 (20 * m) (20 * m + 20) (-1)) := by
  unfold xf_Ar_fill4
  rw [xs_range ga m h, Option.bind_some]
  exact pv_fill4 (20 * m + 20) (by omega) (-1) 20 4096 ga (20 * m) (by omega) (by omega)
/-- the class's answer for a method: no sound types, or it has the least -/
theorem xs_isSound {g h : qa_St} (hP : pr_P h) (hRR : pr_R g h) {m : Nat} (hm : (m : Int) < (h 0 4).toInt) :
    ∃ v g', xf_Ch_isSound g (Int32.ofNat m) = some (v, g') ∧ (∀ r k, r < 72 ∨ 76 < r → g' r k = g r k) ∧ (∀ r, (r < 20 * m ∨ 20 * m + 20 ≤ r) → g' 74 r = g 74 r ∧ ∀ p, p < 10 → g' 73 (10 * r + p) = g 73 (10 * r + p)) ∧ (v = 0 ∨ (v = 1 ∧ tc_po g h m (xN g' m) (xV g' m))) ∧ ∀ NP VP, tc_po g h m NP VP → v = 1 ∧ tc_sle g h (xN g' m) (xV g' m) NP VP := by
  have hP0 := hP
  obtain ⟨hN, hC, hM, hU, hK, hG⟩ := hP
  have hN0 := hN
  obtain ⟨n0, n1, n2, n3⟩ := hN
  have q := hM m hm
  have em : (Int32.ofNat m).toInt = (m : Int) := pv_nI (by omega)
  have e20 : (20 : Int32).toInt = 20 := rfl
  have e0 : (0 : Int32).toInt = 0 := rfl
  have e1 : (Int32.ofNat m * 20).toInt = 20 * (m : Int) := by rw [pv_mul (by rw [em, e20]; omega) (by rw [em, e20]; omega), em, e20]; omega
  have r0 : Int32.ofNat m * 20 + 0 = Int32.ofNat (20 * m) := by rw [pv_eq, pv_add (by rw [e1, e0]; omega) (by rw [e1, e0]; omega), e1, e0, pv_nI (by omega)]; omega
  have r20 : Int32.ofNat m * 20 + 20 = Int32.ofNat (20 * m + 20) := by rw [pv_eq, pv_add (by rw [e1, e20]; omega) (by rw [e1, e20]; omega), e1, e20, pv_nI (by omega)]; omega
  unfold xf_Ch_isSound xf_Ch_rowOf
  generalize hK : xf_Ch_isSound_40 4096 = K
  simp only [Option.bind_some]
  rw [r0, r20]
  obtain ⟨ga, hga⟩ : ∃ ga, ga = qa_up (qa_up (qa_up g 72 4 (Int32.ofNat m)) 72 5 0) 72 6 1 := ⟨_, rfl⟩
  rw [← hga]
  have ka : ∀ r k, r ≠ 72 → ga r k = g r k := fun r k hr => by rw [hga, pv_nr hr, pv_nr hr, pv_nr hr]
  have hfill := xs_fill4 ga m (by omega)
  rw [hfill]
  simp only [Option.bind_some]
  obtain ⟨gb, hgb⟩ : ∃ gb, gb = pv_fill ga 74 (20 * m) (20 * m + 20) (-1) := ⟨_, rfl⟩
  rw [← hgb]
  have kb : ∀ r k, r ≠ 74 → gb r k = ga r k := fun r k hr => by rw [hgb, pv_fill_out (Or.inl hr)]
  have kb1 : ∀ i, i < 20 → gb 74 (20 * m + i) = -1 := fun i hi => by rw [hgb, pv_fill_in (by omega) (by omega)]
  have kb2 : ∀ r, (r < 20 * m ∨ 20 * m + 20 ≤ r) → gb 74 r = g 74 r := fun r hr => by rw [hgb, pv_fill_out (Or.inr hr), ka 74 r (by decide)]
  -- the start
  unfold xf_Ch_enterStart
  generalize hE : xf_Ch_enterStart_9 4096 = E
  rw [xs_clear]
  simp only [Option.bind_some]
  obtain ⟨gc, hgc⟩ : ∃ gc, gc = qa_up (qa_up (pv_fill gb (75 + 1) 0 10 8) 75 1 0) 75 2 0 := ⟨_, rfl⟩
  rw [← hgc]
  have kc : ∀ r k, r ≠ 75 → r ≠ 76 → gc r k = gb r k := fun r k h1 h2 => by rw [hgc, pv_nr h1, pv_nr h1, pv_fill_out (Or.inl h2)]
  have kc75 : gc 75 1 = 0 := by rw [hgc, pv_ni (by decide), pv_self]
  have kc76 : ∀ k, k < 10 → gc 76 k = 8 := fun k hk => by rw [hgc, pv_nr (by decide), pv_nr (by decide), pv_fill_in (by omega) hk]
  have hpc : xp g gc := fun r k hr => by rw [kc r k (by omega) (by omega), kb r k (by omega)]; exact (by
    by_cases h72 : r = 72
    · omega
    · exact ka r k h72)
  have hc4 : gc 72 4 = Int32.ofNat m := by rw [kc 72 4 (by decide) (by decide), kb 72 4 (by decide), hga, pv_ni (by decide), pv_ni (by decide), pv_self]
  have hc5 : gc 72 5 = 0 := by rw [kc 72 5 (by decide) (by decide), kb 72 5 (by decide), hga, pv_ni (by decide), pv_self]
  have hc6 : gc 72 6 = 1 := by rw [kc 72 6 (by decide) (by decide), kb 72 6 (by decide), hga, pv_self]
  obtain ⟨gd, d1, d2, d3⟩ := xs_es9 hP0 hRR hm (h 6 m).toInt.toNat 0 4096 gc hpc hc4 (by omega) (by omega)
  have hd1 : E gc 0 = xf_Ch_enterStart_73 gd := by rw [← hE]; exact d1
  rw [hd1]
  unfold xf_Ch_enterStart_73
  have hod : xo gd (some (tc_st h m)) := by
    refine xo_some (by rw [d2 72 6 (by decide)]; exact hc6) (by show 0 ≤ 6; omega) (by rw [d2 75 1 (by decide)]; exact kc75) (fun p hp => ?_)
    have hp : p < 4 + 0 := hp
    rw [d3 p (by omega), kc76 p (by omega)]
    show _ = if p = 0 ∧ 0 ≤ (h 5 m).toInt then h 4 m else if (p : Int) < (h 6 m).toInt then 9 else 8
    by_cases h1 : p = 0 ∧ 0 ≤ (h 5 m).toInt
    · rw [if_pos h1, if_pos h1]
    · rw [if_neg h1, if_neg h1]
      by_cases h2 : (p : Int) < (h 6 m).toInt
      · rw [if_pos h2, if_pos (by omega)]
      · rw [if_neg h2, if_neg (by omega)]
  have hNd : ∀ i, i < 20 → xN gd m i = -1 := fun i hi => by
    unfold xN
    rw [d2 74 _ (by decide), kc 74 _ (by decide) (by decide), kb1 i hi]
    rfl
  have hhd : xh g m gd := ⟨fun r k hr => by rw [d2 r k (by omega)]; exact hpc r k hr, by rw [d2 72 4 (by decide)]; exact hc4, fun r h1 h2 => Or.inl (by rw [d2 74 _ (by decide), kc 74 _ (by decide) (by decide)]; have := kb1 (r - 20 * m) (by omega); rw [show 20 * m + (r - 20 * m) = r by omega] at this; exact this)⟩
  have hgdd : tc_gd h m (xN gd m) (xV gd m) := fun i hi => Or.inl (hNd i hi)
  obtain ⟨ge, f1, f2, f3, f4, f5⟩ := xs_arr hP0 hRR hm hhd hod (fun f hf => by cases hf; exact ⟨hgdd, tc_st_ok hM hm⟩) 0
  rw [f1]
  simp only [Option.bind_some]
  have hfr : ∀ {g' : qa_St}, xr m ge g' → (∀ r k, r < 72 ∨ 76 < r → g' r k = g r k) ∧ (∀ r, (r < 20 * m ∨ 20 * m + 20 ≤ r) → g' 74 r = g 74 r ∧ ∀ p, p < 10 → g' 73 (10 * r + p) = g 73 (10 * r + p)) := fun {g'} hr => by
    have hh := xr_tr f3 hr
    refine ⟨fun r k hrk => ?_, fun r hrr => ⟨?_, fun p hp => ?_⟩⟩
    · rw [hh.1 r k (by omega) (by omega) (by omega) (by omega) (by omega), d2 r k (by omega), kc r k (by omega) (by omega), kb r k (by omega), ka r k (by omega)]
    · rw [(hh.2.1 r hrr).1, d2 74 r (by decide), kc 74 r (by decide) (by decide), kb2 r hrr]
    · rw [(hh.2.1 r hrr).2 p hp, d2 73 _ (by decide), kc 73 _ (by decide) (by decide), kb 73 _ (by decide), ka 73 _ (by decide)]
  have hM1 : xM m ge ≤ 1240 := by
    unfold xM
    refine tc_sum_bd (b := 62) 20 (fun k _ => ?_)
    show (61 - tc_ph (xN ge m) (xV ge m) k) + (if pv_bit (ge 72 5) k then 1 else 0) ≤ 62
    have : (if pv_bit (ge 72 5) k then 1 else 0) ≤ 1 := by split <;> omega
    omega
  have hbd : ∀ NP VP, tc_po g h m NP VP → tc_sle g h (xN gd m) (xV gd m) NP VP := fun NP VP _ i hi hn => absurd (hNd i hi) hn
  have h00 : (0 : Int32).toInt = 0 := rfl
  rw [h00] at f4 f5
  have hLe : xL g h m ge := by
    refine ⟨f2, ?_⟩
    rcases f4 with ⟨f, a1, a2, a3, a4⟩ | f4
    · cases a1
      have hgd5 : gd 72 5 = 0 := by rw [d2 72 5 (by decide)]; exact hc5
      refine Or.inr ⟨(a2.1 _ rfl).1, a3.2.1, a4, fun k hk hw => ?_, fun k hk hn hw => ?_, fun k k1 k2 hw => ?_⟩
      · rcases a3.2.2.2.2.2.2 k hk hw with y | y
        · rw [hgd5] at y; exact absurd y (pv_bit_z32 k (by omega))
        · exact y
      · have := (a3.2.2.2.1 k hk hw).1
        rw [hNd k hk] at this
        exact absurd this hn
      · have := a3.2.2.2.2.2.1 k k1 k2 hw
        rw [hgd5] at this
        exact absurd this (pv_bit_z32 k k2)
    · exact Or.inl (f4.2 rfl).1
  obtain ⟨v, g', c1, c2, c3, c4, c5⟩ := xs_loop hP0 hRR hm 1240 0 4096 ge hLe hM1 (by omega) (by omega)
  have c1' : K ge 0 = some (v, g') := by rw [← hK]; exact c1
  refine ⟨v, g', c1', (hfr c3).1, (hfr c3).2, ?_, fun NP VP hpo => ?_⟩
  · rcases c4 with c4 | ⟨c4, -, c6⟩
    · exact Or.inl c4
    · exact Or.inr ⟨c4, c6⟩
  · obtain ⟨w1, w2⟩ := f5 NP VP hpo _ rfl (hbd NP VP hpo) hpo.2.1
    exact c5 NP VP hpo (w1.1 _ rfl).1 w2
