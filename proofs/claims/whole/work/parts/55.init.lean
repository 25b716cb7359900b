/-! Promise 4: initialiser -/
theorem xs_isPlain (g : qa_St) (x : Int32) (hg : (g 1 1).toInt ≤ 10) : xf_Pr_isPlain g x = some (if 0 ≤ x.toInt ∧ x.toInt < (g 1 1).toInt ∧ (g 13 x.toInt.toNat).toInt = -1 then 1 else 0, g) := by
  have h0 : (0 : Int32).toInt = 0 := rfl
  have em : (-1 : Int32).toInt = -1 := rfl
  unfold xf_Pr_isPlain
  rw [xs_isMethod]
  simp only [Option.bind_some, pv_b1]
  simp only [pv_lt, pv_cl, pv_eq, h0, em]
  by_cases h : 0 ≤ x.toInt ∧ x.toInt < (g 1 1).toInt
  · rw [if_neg (fun q => q h), if_neg (by omega)]
    by_cases h2 : (g 13 x.toInt.toNat).toInt = -1
    · rw [if_pos h2, if_pos ⟨h.1, h.2, h2⟩]
    · rw [if_neg h2, if_neg (fun q => h2 q.2.2)]
  · rw [if_pos h, if_neg (fun q => h ⟨q.1, q.2.1⟩)]
theorem st_initialiser (PC PN : qa_St → qa_St → Prop) (g h : qa_St) (x1 x2 : Int32) (hI : pr_I PC PN g h) : ql_st (pr_I PC PN) (xf_Cw_initialiser g x1 x2) (mf_Mo_initialiser h x1 x2) := by
  have hI0 := hI
  obtain ⟨⟨hN, hC, hM, hU, hK, hG⟩, ⟨⟨r1, r2⟩, hT, hO, hQ, hZ, hL, hH⟩, hF, -, -⟩ := hI
  have hN0 := hN
  obtain ⟨n0, n1, n2, n3⟩ := hN
  have e0 : (0 : Int32).toInt = 0 := rfl
  have e1 : (1 : Int32).toInt = 1 := rfl
  have em : (-1 : Int32).toInt = -1 := rfl
  have s1 : (h 0 0 - 1).toInt = (h 0 0).toInt - 1 := by rw [pv_sub (by rw [e1]; omega) (by rw [e1]; omega), e1]
  have s2 : (h 0 4 - 1).toInt = (h 0 4).toInt - 1 := by rw [pv_sub (by rw [e1]; omega) (by rw [e1]; omega), e1]
  have hx : xf_Pr_setInitialiser g x1 x2 = if (0 ≤ x1.toInt ∧ x1.toInt < (h 0 0).toInt) ∧ (0 ≤ x2.toInt ∧ x2.toInt < (h 0 4).toInt) ∧ (h 5 x2.toInt.toNat).toInt = -1 ∧ (h 6 x2.toInt.toNat).toInt = 0 then some (1, qa_up g 4 x1.toInt.toNat x2) else some (0, g) := by
    unfold xf_Pr_setInitialiser
    rw [xs_isType, r1]
    simp only [Option.bind_some, pv_b1]
    by_cases h1 : 0 ≤ x1.toInt ∧ x1.toInt < (h 0 0).toInt
    · rw [if_neg (fun q => q h1), xs_isPlain g x2 (by rw [r2]; exact n3), r2]
      simp only [Option.bind_some, pv_b1]
      by_cases h2 : 0 ≤ x2.toInt ∧ x2.toInt < (h 0 4).toInt
      · have q := hQ x2.toInt.toNat (by omega)
        rw [q.2.1]
        by_cases h3 : (h 5 x2.toInt.toNat).toInt = -1
        · rw [if_neg (fun z => z ⟨h2.1, h2.2, h3⟩), if_neg (by rw [pv_lt, pv_cl, e0]; omega), pv_cl, q.2.2.1]
          by_cases h4 : (h 6 x2.toInt.toNat).toInt = 0
          · rw [if_pos (by rw [pv_eq, e0]; exact h4), if_neg (by rw [pv_lt, pv_cl, e0]; omega), if_pos ⟨h1, h2, h3, h4⟩]
            rfl
          · rw [if_neg (by rw [pv_eq, e0]; exact h4), if_neg (fun z => h4 z.2.2.2)]
        · rw [if_pos (fun z => h3 z.2.2), if_neg (fun z => h3 z.2.2.1)]
      · rw [if_pos (fun z => h2 ⟨z.1, z.2.1⟩), if_neg (fun z => h2 z.2.1)]
    · rw [if_pos h1, if_neg (fun z => h1 z.1)]
  have hm : mf_Mo_initialiser h x1 x2 = if (0 ≤ x1.toInt ∧ x1.toInt < (h 0 0).toInt) ∧ (0 ≤ x2.toInt ∧ x2.toInt < (h 0 4).toInt) ∧ (h 5 x2.toInt.toNat).toInt = -1 ∧ (h 6 x2.toInt.toNat).toInt = 0 then some (1, qa_up (qa_up (qa_up h 3 x1.toInt.toNat x2) 0 15 0) 0 26 0) else some (0, h) := by
    unfold mf_Mo_initialiser
    rw [ms_within, s1]
    simp only [Option.bind_some, pv_b1]
    by_cases h1 : 0 ≤ x1.toInt ∧ x1.toInt < (h 0 0).toInt
    · rw [if_neg (fun q => q (by omega)), ms_within, s2]
      simp only [Option.bind_some, pv_b1]
      by_cases h2 : 0 ≤ x2.toInt ∧ x2.toInt < (h 0 4).toInt
      · have q := hM x2.toInt.toNat (by omega)
        rw [if_neg (fun z => z (by omega)), if_neg (by rw [pv_lt, pv_cl, e0]; omega), pv_cl]
        by_cases h3 : (h 5 x2.toInt.toNat).toInt = -1
        · rw [if_neg (by rw [pv_le, e0]; omega), if_neg (by rw [pv_lt, e0]; omega)]
          by_cases h4 : (h 6 x2.toInt.toNat).toInt = 0
          · rw [if_pos (by rw [pv_le, e0]; omega), if_neg (by rw [pv_lt, pv_cl, e0]; omega), ms_changed, if_pos ⟨h1, h2, h3, h4⟩]
            rfl
          · rw [if_neg (by rw [pv_le, e0]; omega), if_neg (fun z => h4 z.2.2.2)]
        · rw [if_pos (by rw [pv_le, e0]; omega), if_neg (fun z => h3 z.2.2.1)]
      · rw [if_pos (by omega), if_neg (fun z => h2 z.2.1)]
    · rw [if_pos (by omega), if_neg (fun z => h1 z.1)]
  by_cases hok : (0 ≤ x1.toInt ∧ x1.toInt < (h 0 0).toInt) ∧ (0 ≤ x2.toInt ∧ x2.toInt < (h 0 4).toInt) ∧ (h 5 x2.toInt.toNat).toInt = -1 ∧ (h 6 x2.toInt.toNat).toInt = 0
  · rw [if_pos hok] at hx hm
    obtain ⟨k1, k2, k3, k4⟩ := hok
    have hxx : xf_Cw_initialiser g x1 x2 = some (1, qa_up (qa_up (qa_up g 4 x1.toInt.toNat x2) 0 4 0) 0 5 0) := by
      unfold xf_Cw_initialiser
      rw [hx]
      rfl
    obtain ⟨t, ht⟩ : ∃ t : Nat, t = x1.toInt.toNat := ⟨_, rfl⟩
    rw [← ht] at hxx hm
    obtain ⟨g', hg'⟩ : ∃ g', g' = qa_up (qa_up (qa_up g 4 t x2) 0 4 0) 0 5 0 := ⟨_, rfl⟩
    obtain ⟨h', hh'⟩ : ∃ h', h' = qa_up (qa_up (qa_up h 3 t x2) 0 15 0) 0 26 0 := ⟨_, rfl⟩
    rw [← hg'] at hxx
    rw [← hh'] at hm
    have c0 : h' 0 0 = h 0 0 := by rw [hh', pv_ni (by decide), pv_ni (by decide), pv_nr (by decide)]
    have c4 : h' 0 4 = h 0 4 := by rw [hh', pv_ni (by decide), pv_ni (by decide), pv_nr (by decide)]
    have cr : ∀ r i, r ≠ 0 → r ≠ 3 → h' r i = h r i := fun r i h1 h2 => by rw [hh', pv_nr h1, pv_nr h1, pv_nr h2]
    have c3 : ∀ c, h' 3 c = if c = t then x2 else h 3 c := fun c => by
      rw [hh', pv_nr (by decide), pv_nr (by decide)]
      by_cases hc : c = t
      · rw [if_pos hc, hc, pv_self]
      · rw [if_neg hc, pv_ni hc]
    have dr : ∀ r i, r ≠ 0 → r ≠ 4 → g' r i = g r i := fun r i h1 h2 => by rw [hg', pv_nr h1, pv_nr h1, pv_nr h2]
    have d4 : ∀ c, g' 4 c = if c = t then x2 else g 4 c := fun c => by
      rw [hg', pv_nr (by decide), pv_nr (by decide)]
      by_cases hc : c = t
      · rw [if_pos hc, hc, pv_self]
      · rw [if_neg hc, pv_ni hc]
    refine pr_new hxx hm ⟨?_, ?_, ?_, ?_, ?_, ?_⟩ ⟨⟨?_, ?_⟩, ?_, ?_, ?_, ?_, ?_, ?_⟩ ?_ ?_ ?_ ?_
    · unfold pr_N
      rw [c0, c4]
      exact hN0
    · intro c hc
      rw [c0] at hc
      rw [c4, cr 1 _ (by decide) (by decide), cr 2 _ (by decide) (by decide), cr 5 _ (by decide) (by decide), cr 6 _ (by decide) (by decide), c3]
      have q := hC c hc
      by_cases hct : c = t
      · rw [if_pos hct]
        exact ⟨q.1, q.2.1, q.2.2.1, q.2.2.2.1, by omega, by omega, fun _ => ⟨k3, k4⟩⟩
      · rw [if_neg hct]
        exact q
    · intro m hm1
      rw [c4] at hm1
      rw [cr 4 _ (by decide) (by decide), cr 5 _ (by decide) (by decide), cr 6 _ (by decide) (by decide), cr 7 _ (by decide) (by decide), cr 10 _ (by decide) (by decide), c0]
      exact hM m hm1
    · intro m k hm1 hk
      rw [c4] at hm1 hk
      rw [cr 4 _ (by decide) (by decide), cr 4 _ (by decide) (by decide), cr 5 _ (by decide) (by decide), cr 5 _ (by decide) (by decide)]
      exact hU m k hm1 hk
    · intro m i hm1 hi
      rw [c4] at hm1
      rw [cr 7 _ (by decide) (by decide)] at hi
      rw [cr 8 _ (by decide) (by decide), cr 9 _ (by decide) (by decide)]
      obtain ⟨q1, q2, q3, q4⟩ := hK m i hm1 hi
      refine ⟨q1, q2, fun ho => ?_, ?_⟩
      · rw [c0]
        exact q3 ho
      · rw [c4]
        refine ⟨q4.1, q4.2.1, q4.2.2.1, fun ho => ?_⟩
        rw [cr 5 _ (by decide) (by decide)]
        exact q4.2.2.2 ho
    · intro m k hm1 hk
      rw [c4] at hm1
      rw [cr 10 _ (by decide) (by decide)] at hk
      rw [cr 11 _ (by decide) (by decide), cr 12 _ (by decide) (by decide), cr 13 _ (by decide) (by decide)]
      exact hG m k hm1 hk
    · rw [dr 1 _ (by decide) (by decide), c0, r1]
    · rw [dr 1 _ (by decide) (by decide), c4, r2]
    · intro c hc
      rw [c0] at hc
      rw [cr 1 _ (by decide) (by decide), cr 2 _ (by decide) (by decide), dr 2 _ (by decide) (by decide), dr 2 _ (by decide) (by decide), dr 3 _ (by decide) (by decide), dr 3 _ (by decide) (by decide), c3, d4]
      have q := hT c hc
      refine ⟨q.1, q.2.1, q.2.2.1, q.2.2.2.1, ?_⟩
      by_cases hct : c = t
      · rw [if_pos hct, if_pos hct]
      · rw [if_neg hct, if_neg hct]
        exact q.2.2.2.2
    · intro c s hc hs
      rw [c0] at hc
      rw [c4, dr _ _ (by omega) (by omega)]
      rcases hO c s hc hs with ⟨o1, o2⟩ | ⟨m, o1, o2, o3, o4⟩
      · left
        refine ⟨o1, fun m hm1 hq => ?_⟩
        rw [cr 4 _ (by decide) (by decide), cr 5 _ (by decide) (by decide)] at hq
        exact o2 m hm1 hq
      · right
        refine ⟨m, o1, o2, ?_, ?_⟩
        · rw [cr 4 _ (by decide) (by decide)]; exact o3
        · rw [cr 5 _ (by decide) (by decide)]; exact o4
    · intro m hm1
      rw [c4] at hm1
      rw [cr 4 _ (by decide) (by decide), cr 5 _ (by decide) (by decide), cr 6 _ (by decide) (by decide), cr 7 _ (by decide) (by decide), cr 10 _ (by decide) (by decide), dr 12 _ (by decide) (by decide), dr 13 _ (by decide) (by decide), dr 14 _ (by decide) (by decide), dr 15 _ (by decide) (by decide), dr 38 _ (by decide) (by decide)]
      exact hQ m hm1
    · intro m hm1 h10
      rw [c4] at hm1
      rw [dr 15 _ (by decide) (by decide), dr 38 _ (by decide) (by decide)]
      exact hZ m hm1 h10
    · intro m i hm1 hi
      rw [c4] at hm1
      rw [cr 7 _ (by decide) (by decide)] at hi
      rw [cr 8 _ (by decide) (by decide), cr 9 _ (by decide) (by decide), dr _ _ (by omega) (by omega), dr _ _ (by omega) (by omega)]
      exact hL m i hm1 hi
    · intro m k hm1 hk
      rw [c4] at hm1
      rw [cr 10 _ (by decide) (by decide)] at hk
      rw [cr 11 _ (by decide) (by decide), cr 12 _ (by decide) (by decide), cr 13 _ (by decide) (by decide), dr _ _ (by omega) (by omega), dr _ _ (by omega) (by omega), dr _ _ (by omega) (by omega)]
      exact hH m k hm1 hk
    · rw [hg', pv_ni (by decide), pv_self]
    · rw [hh', pv_ni (by decide), pv_self]
    · rw [hg', pv_self]
    · rw [hh', pv_self]
  · rw [if_neg hok] at hx hm
    refine pr_same (v := 0) hI0 ?_ hm
    unfold xf_Cw_initialiser
    rw [hx]
    rfl
