/-! Promise 6: guard -/
theorem st_guard (PC PN : qa_St → qa_St → Prop) (g h : qa_St) (x1 x2 x3 x4 : Int32) (hI : pr_I PC PN g h) : ql_st (pr_I PC PN) (xf_Cw_guard g x1 x2 x3 x4) (mf_Mo_guard h x1 x2 x3 x4) := by
  have hI0 := hI
  obtain ⟨⟨hN, hC, hM, hU, hK, hG⟩, ⟨⟨r1, r2⟩, hT, hO, hQ, hZ, hL, hH⟩, hF, -, -⟩ := hI
  have hN0 := hN
  obtain ⟨n0, n1, n2, n3⟩ := hN
  have e0 : (0 : Int32).toInt = 0 := rfl
  have e1 : (1 : Int32).toInt = 1 := rfl
  have e3 : (3 : Int32).toInt = 3 := rfl
  have e19 : (19 : Int32).toInt = 19 := rfl
  have e20 : (20 : Int32).toInt = 20 := rfl
  have s2 : (h 0 4 - 1).toInt = (h 0 4).toInt - 1 := by rw [pv_sub (by rw [e1]; omega) (by rw [e1]; omega), e1]
  by_cases h1 : 0 ≤ x1.toInt ∧ x1.toInt < (h 0 4).toInt
  · obtain ⟨m, hm⟩ : ∃ m : Nat, m = x1.toInt.toNat := ⟨_, rfl⟩
    have hmI : x1.toInt = (m : Int) := by omega
    have qm := hM m (by omega)
    have qq := hQ m (by omega)
    obtain ⟨k, hk⟩ : ∃ k : Nat, k = (h 10 m).toInt.toNat := ⟨_, rfl⟩
    have hkI : (h 10 m).toInt = (k : Int) := by omega
    have e3m : ((3 : Int32) * x1).toInt = 3 * (m : Int) := by rw [pv_mul (by rw [e3]; omega) (by rw [e3]; omega), e3, hmI]
    have eix : ((3 : Int32) * x1 + h 10 m).toInt = 3 * (m : Int) + (k : Int) := by rw [pv_add (by omega) (by omega), e3m, hkI]
    have enx : ((3 : Int32) * x1 + h 10 m).toInt.toNat = 3 * m + k := by omega
    have hx : xf_Pr_addGuard g x1 x2 x3 x4 = if (h 10 m).toInt < 3 ∧ 0 ≤ x2.toInt ∧ x2.toInt < x3.toInt ∧ x3.toInt ≤ 20 ∧ 0 ≤ x4.toInt ∧ x4.toInt ≤ 19 then some (1, qa_up (qa_up (qa_up (qa_up g 38 m (h 10 m + 1)) (40 + m) k x2) (51 + m) k x3) (62 + m) k x4) else some (0, g) := by
      unfold xf_Pr_addGuard
      rw [xs_isMethod, r2]
      simp only [Option.bind_some, pv_b1]
      rw [if_neg (fun q => q h1), if_neg (by first | (rw [pv_lt, pv_cl, e0]; omega) | (rw [pv_lt, e0]; omega)), pv_cl, ← hm, qq.2.2.2.2]
      by_cases h2 : (h 10 m).toInt < 3
      · rw [if_neg (by rw [pv_le, e3]; omega)]
        by_cases h3 : x2.toInt < 0
        · rw [if_pos (by rw [pv_lt, e0]; exact h3), if_neg (by omega)]
        rw [if_neg (by rw [pv_lt, e0]; exact h3)]
        by_cases h4 : x3.toInt ≤ x2.toInt
        · rw [if_pos (by rw [pv_le]; exact h4), if_neg (by omega)]
        rw [if_neg (by rw [pv_le]; exact h4)]
        by_cases h5 : 20 < x3.toInt
        · rw [if_pos (by rw [pv_lt, e20]; exact h5), if_neg (by omega)]
        rw [if_neg (by rw [pv_lt, e20]; exact h5), xs_within, e20]
        simp only [Option.bind_some, pv_b1]
        by_cases h6 : 0 ≤ x4.toInt ∧ x4.toInt < 20
        · rw [if_neg (fun q => q h6), if_neg (by first | (rw [pv_lt, pv_cl, e0]; omega) | (rw [pv_lt, e0]; omega)), if_neg (by first | (rw [pv_lt, pv_cl, e0]; omega) | (rw [pv_lt, e0]; omega)), if_neg (by first | (rw [pv_lt, pv_cl, e0]; omega) | (rw [pv_lt, e0]; omega)), if_neg (by first | (rw [pv_lt, pv_cl, e0]; omega) | (rw [pv_lt, e0]; omega)), qq.2.2.2.2, if_neg (by first | (rw [pv_lt, pv_cl, e0]; omega) | (rw [pv_lt, e0]; omega))]
          unfold xf_Pr_addGuard_73 xf_Pr_addGuard_94
          rw [if_neg (by first | (rw [pv_lt, pv_cl, e0]; omega) | (rw [pv_lt, e0]; omega)), if_neg (by first | (rw [pv_lt, pv_cl, e0]; omega) | (rw [pv_lt, e0]; omega)), if_neg (by first | (rw [pv_lt, pv_cl, e0]; omega) | (rw [pv_lt, e0]; omega)), if_neg (by first | (rw [pv_lt, pv_cl, e0]; omega) | (rw [pv_lt, e0]; omega)), pv_cl x1, pv_cl (h 10 m), ← hm, ← hk, if_pos (by omega)]
        · rw [if_pos h6, if_neg (by omega)]
      · rw [if_pos (by rw [pv_le, e3]; omega), if_neg (by omega)]
    have hmm : mf_Mo_guard h x1 x2 x3 x4 = if (h 10 m).toInt < 3 ∧ 0 ≤ x2.toInt ∧ x2.toInt < x3.toInt ∧ x3.toInt ≤ 20 ∧ 0 ≤ x4.toInt ∧ x4.toInt ≤ 19 then some (1, qa_up (qa_up (qa_up (qa_up (qa_up (qa_up h 11 (3 * m + k) x2) 12 (3 * m + k) x3) 13 (3 * m + k) x4) 10 m (h 10 m + 1)) 0 15 0) 0 26 0) else some (0, h) := by
      unfold mf_Mo_guard
      rw [ms_within, s2]
      simp only [Option.bind_some, pv_b1]
      rw [if_neg (fun q => q (by omega)), if_neg (by first | (rw [pv_lt, pv_cl, e0]; omega) | (rw [pv_lt, e0]; omega)), pv_cl, ← hm]
      by_cases h2 : (h 10 m).toInt < 3
      · rw [if_neg (by rw [pv_eq, e3]; omega)]
        by_cases h3 : x2.toInt < 0
        · rw [if_pos (by rw [pv_lt, e0]; exact h3), if_neg (by omega)]
        rw [if_neg (by rw [pv_lt, e0]; exact h3)]
        by_cases h4 : x3.toInt ≤ x2.toInt
        · rw [if_pos (by rw [pv_le]; exact h4), if_neg (by omega)]
        rw [if_neg (by rw [pv_le]; exact h4)]
        by_cases h5 : 20 < x3.toInt
        · rw [if_pos (by rw [pv_lt, e20]; exact h5), if_neg (by omega)]
        rw [if_neg (by rw [pv_lt, e20]; exact h5), ms_within, e19]
        simp only [Option.bind_some, pv_b1]
        by_cases h6 : 0 ≤ x4.toInt ∧ x4.toInt ≤ 19
        · rw [if_neg (fun q => q h6), if_neg (by first | (rw [pv_lt, pv_cl, e0]; omega) | (rw [pv_lt, e0]; omega)), if_neg (by first | (rw [pv_lt, pv_cl, e0]; omega) | (rw [pv_lt, e0]; omega)), if_neg (by first | (rw [pv_lt, pv_cl, e0]; omega) | (rw [pv_lt, e0]; omega))]
          unfold mf_Mo_guard_78 mf_Mo_guard_97
          rw [if_neg (by first | (rw [pv_lt, pv_cl, e0]; omega) | (rw [pv_lt, e0]; omega)), if_neg (by first | (rw [pv_lt, pv_cl, e0]; omega) | (rw [pv_lt, e0]; omega)), if_neg (by first | (rw [pv_lt, pv_cl, e0]; omega) | (rw [pv_lt, e0]; omega)), pv_cl x1, pv_cl (3 * x1 + h 10 m), enx, ← hm, ms_changed, pv_nr (by decide), pv_nr (by decide), pv_nr (by decide), if_pos (by omega)]
          rfl
        · rw [if_pos h6, if_neg (by omega)]
      · rw [if_pos (by rw [pv_eq, e3]; omega), if_neg (by omega)]
    by_cases hok : (h 10 m).toInt < 3 ∧ 0 ≤ x2.toInt ∧ x2.toInt < x3.toInt ∧ x3.toInt ≤ 20 ∧ 0 ≤ x4.toInt ∧ x4.toInt ≤ 19
    · rw [if_pos hok] at hx hmm
      have ek1 : (h 10 m + 1).toInt = (k : Int) + 1 := by rw [pv_add (by rw [e1]; omega) (by rw [e1]; omega), e1, hkI]
      have hxx : xf_Cw_guard g x1 x2 x3 x4 = some (1, qa_up (qa_up (qa_up (qa_up (qa_up (qa_up g 38 m (h 10 m + 1)) (40 + m) k x2) (51 + m) k x3) (62 + m) k x4) 0 4 0) 0 5 0) := by
        unfold xf_Cw_guard
        rw [hx]
        rfl
      obtain ⟨g', hg'⟩ : ∃ g', g' = qa_up (qa_up (qa_up (qa_up (qa_up (qa_up g 38 m (h 10 m + 1)) (40 + m) k x2) (51 + m) k x3) (62 + m) k x4) 0 4 0) 0 5 0 := ⟨_, rfl⟩
      obtain ⟨h', hh'⟩ : ∃ h', h' = qa_up (qa_up (qa_up (qa_up (qa_up (qa_up h 11 (3 * m + k) x2) 12 (3 * m + k) x3) 13 (3 * m + k) x4) 10 m (h 10 m + 1)) 0 15 0) 0 26 0 := ⟨_, rfl⟩
      rw [← hg'] at hxx
      rw [← hh'] at hmm
      have hm10 : m < 10 := by omega
      have c0 : h' 0 0 = h 0 0 := by rw [hh', pv_ni (by decide), pv_ni (by decide), pv_nr (by decide), pv_nr (by decide), pv_nr (by decide), pv_nr (by decide)]
      have c4 : h' 0 4 = h 0 4 := by rw [hh', pv_ni (by decide), pv_ni (by decide), pv_nr (by decide), pv_nr (by decide), pv_nr (by decide), pv_nr (by decide)]
      have cr : ∀ r i, 1 ≤ r → r < 10 → h' r i = h r i := fun r i a b => by rw [hh', pv_nr (by omega), pv_nr (by omega), pv_nr (by omega), pv_nr (by omega), pv_nr (by omega), pv_nr (by omega)]
      have c10 : ∀ j, j ≠ m → h' 10 j = h 10 j := fun j hj => by rw [hh', pv_nr (by decide), pv_nr (by decide), pv_ni hj, pv_nr (by decide), pv_nr (by decide), pv_nr (by decide)]
      have c10m : h' 10 m = h 10 m + 1 := by rw [hh', pv_nr (by decide), pv_nr (by decide), pv_self]
      have c11 : ∀ j, j ≠ 3 * m + k → h' 11 j = h 11 j ∧ h' 12 j = h 12 j ∧ h' 13 j = h 13 j := fun j hj => by
        rw [hh']
        refine ⟨?_, ?_, ?_⟩
        · rw [pv_nr (by decide), pv_nr (by decide), pv_nr (by decide), pv_nr (by decide), pv_nr (by decide), pv_ni hj]
        · rw [pv_nr (by decide), pv_nr (by decide), pv_nr (by decide), pv_nr (by decide), pv_ni hj, pv_nr (by decide)]
        · rw [pv_nr (by decide), pv_nr (by decide), pv_nr (by decide), pv_ni hj, pv_nr (by decide), pv_nr (by decide)]
      have c11m : h' 11 (3 * m + k) = x2 ∧ h' 12 (3 * m + k) = x3 ∧ h' 13 (3 * m + k) = x4 := by
        rw [hh']
        refine ⟨?_, ?_, ?_⟩
        · rw [pv_nr (by decide), pv_nr (by decide), pv_nr (by decide), pv_nr (by decide), pv_nr (by decide), pv_self]
        · rw [pv_nr (by decide), pv_nr (by decide), pv_nr (by decide), pv_nr (by decide), pv_self]
        · rw [pv_nr (by decide), pv_nr (by decide), pv_nr (by decide), pv_self]
      have dr : ∀ r i, 1 ≤ r → r < 38 → g' r i = g r i := fun r i a b => by rw [hg', pv_nr (by omega), pv_nr (by omega), pv_nr (by omega), pv_nr (by omega), pv_nr (by omega), pv_nr (by omega)]
      have d38 : ∀ j, j ≠ m → g' 38 j = g 38 j := fun j hj => by rw [hg', pv_nr (by decide), pv_nr (by decide), pv_nr (by omega), pv_nr (by omega), pv_nr (by omega), pv_ni hj]
      have d38m : g' 38 m = h 10 m + 1 := by rw [hg', pv_nr (by decide), pv_nr (by decide), pv_nr (by omega), pv_nr (by omega), pv_nr (by omega), pv_self]
      have d40 : ∀ j i, j < 10 → (j ≠ m ∨ i ≠ k) → g' (40 + j) i = g (40 + j) i ∧ g' (51 + j) i = g (51 + j) i ∧ g' (62 + j) i = g (62 + j) i := fun j i hj hne => by
        rw [hg']
        simp only [pv_get]
        refine ⟨?_, ?_, ?_⟩
        · rw [if_neg (by omega), if_neg (by omega), if_neg (by omega), if_neg (by omega), if_neg (by omega), if_neg (by omega)]
        · rw [if_neg (by omega), if_neg (by omega), if_neg (by omega), if_neg (by omega), if_neg (by omega), if_neg (by omega)]
        · rw [if_neg (by omega), if_neg (by omega), if_neg (by omega), if_neg (by omega), if_neg (by omega), if_neg (by omega)]
      have d40m : g' (40 + m) k = x2 ∧ g' (51 + m) k = x3 ∧ g' (62 + m) k = x4 := by
        rw [hg']
        refine ⟨?_, ?_, ?_⟩
        · rw [pv_nr (by omega), pv_nr (by omega), pv_nr (by omega), pv_nr (by omega), pv_self]
        · rw [pv_nr (by omega), pv_nr (by omega), pv_nr (by omega), pv_self]
        · rw [pv_nr (by omega), pv_nr (by omega), pv_self]
      refine pr_new hxx hmm ⟨?_, ?_, ?_, ?_, ?_, ?_⟩ ⟨⟨?_, ?_⟩, ?_, ?_, ?_, ?_, ?_, ?_⟩ ?_ ?_ ?_ ?_
      · unfold pr_N
        rw [c0, c4]
        exact hN0
      · intro c hc
        rw [c0] at hc
        rw [c4, cr 1 _ (by decide) (by decide), cr 2 _ (by decide) (by decide), cr 3 _ (by decide) (by decide), cr 5 _ (by decide) (by decide), cr 6 _ (by decide) (by decide)]
        exact hC c hc
      · intro j hj
        rw [c4] at hj
        rw [cr 4 _ (by decide) (by decide), cr 5 _ (by decide) (by decide), cr 6 _ (by decide) (by decide), cr 7 _ (by decide) (by decide), c0]
        have q := hM j hj
        by_cases hjm : j = m
        · subst hjm
          rw [c10m, ek1]
          exact ⟨q.1, q.2.1, q.2.2.1, q.2.2.2.1, q.2.2.2.2.1, q.2.2.2.2.2.1, q.2.2.2.2.2.2.1, q.2.2.2.2.2.2.2.1, q.2.2.2.2.2.2.2.2.1, by omega, by omega⟩
        · rw [c10 j hjm]
          exact q
      · intro a b ha hb
        rw [c4] at ha hb
        rw [cr 4 _ (by decide) (by decide), cr 4 _ (by decide) (by decide), cr 5 _ (by decide) (by decide), cr 5 _ (by decide) (by decide)]
        exact hU a b ha hb
      · intro a i ha hi
        rw [c4] at ha
        rw [cr 7 _ (by decide) (by decide)] at hi
        rw [cr 8 _ (by decide) (by decide), cr 9 _ (by decide) (by decide)]
        obtain ⟨q1, q2, q3, q4⟩ := hK a i ha hi
        refine ⟨q1, q2, fun ho => ?_, ?_⟩
        · rw [c0]
          exact q3 ho
        · rw [c4]
          refine ⟨q4.1, q4.2.1, q4.2.2.1, fun ho => ?_⟩
          rw [cr 5 _ (by decide) (by decide)]
          exact q4.2.2.2 ho
      · intro a i ha hi
        rw [c4] at ha
        by_cases ham : a = m
        · subst ham
          rw [c10m, ek1] at hi
          by_cases hik : i = k
          · subst hik
            rw [c11m.1, c11m.2.1, c11m.2.2]
            omega
          · rw [(c11 _ (by omega)).1, (c11 _ (by omega)).2.1, (c11 _ (by omega)).2.2]
            exact hG a i ha (by omega)
        · rw [c10 a ham] at hi
          have q := hM a ha
          rw [(c11 _ (by omega)).1, (c11 _ (by omega)).2.1, (c11 _ (by omega)).2.2]
          exact hG a i ha hi
      · rw [dr 1 _ (by decide) (by decide), c0, r1]
      · rw [dr 1 _ (by decide) (by decide), c4, r2]
      · intro c hc
        rw [c0] at hc
        rw [cr 1 _ (by decide) (by decide), cr 2 _ (by decide) (by decide), cr 3 _ (by decide) (by decide), dr 2 _ (by decide) (by decide), dr 2 _ (by decide) (by decide), dr 3 _ (by decide) (by decide), dr 3 _ (by decide) (by decide), dr 4 _ (by decide) (by decide)]
        exact hT c hc
      · intro c s hc hs
        rw [c0] at hc
        rw [c4, dr _ _ (by omega) (by omega)]
        rcases hO c s hc hs with ⟨o1, o2⟩ | ⟨j, o1, o2, o3, o4⟩
        · left
          refine ⟨o1, fun j hj hq => ?_⟩
          rw [cr 4 _ (by decide) (by decide), cr 5 _ (by decide) (by decide)] at hq
          exact o2 j hj hq
        · right
          refine ⟨j, o1, o2, ?_, ?_⟩
          · rw [cr 4 _ (by decide) (by decide)]; exact o3
          · rw [cr 5 _ (by decide) (by decide)]; exact o4
      · intro j hj
        rw [c4] at hj
        rw [cr 4 _ (by decide) (by decide), cr 5 _ (by decide) (by decide), cr 6 _ (by decide) (by decide), cr 7 _ (by decide) (by decide), dr 12 _ (by decide) (by decide), dr 13 _ (by decide) (by decide), dr 14 _ (by decide) (by decide), dr 15 _ (by decide) (by decide)]
        have q := hQ j hj
        refine ⟨q.1, q.2.1, q.2.2.1, q.2.2.2.1, ?_⟩
        by_cases hjm : j = m
        · subst hjm
          rw [d38m, c10m]
        · rw [d38 j hjm, c10 j hjm]
          exact q.2.2.2.2
      · intro j hj h10
        rw [c4] at hj
        rw [dr 15 _ (by decide) (by decide), d38 j (by omega)]
        exact hZ j hj h10
      · intro j i hj hi
        rw [c4] at hj
        rw [cr 7 _ (by decide) (by decide)] at hi
        rw [cr 8 _ (by decide) (by decide), cr 9 _ (by decide) (by decide), dr _ _ (by omega) (by omega), dr _ _ (by omega) (by omega)]
        exact hL j i hj hi
      · intro a i ha hi
        rw [c4] at ha
        by_cases ham : a = m
        · subst ham
          rw [c10m, ek1] at hi
          by_cases hik : i = k
          · subst hik
            rw [c11m.1, c11m.2.1, c11m.2.2, d40m.1, d40m.2.1, d40m.2.2]
            exact ⟨rfl, rfl, rfl⟩
          · rw [(c11 _ (by omega)).1, (c11 _ (by omega)).2.1, (c11 _ (by omega)).2.2, (d40 a i hm10 (Or.inr hik)).1, (d40 a i hm10 (Or.inr hik)).2.1, (d40 a i hm10 (Or.inr hik)).2.2]
            exact hH a i ha (by omega)
        · rw [c10 a ham] at hi
          have q := hM a ha
          rw [(c11 _ (by omega)).1, (c11 _ (by omega)).2.1, (c11 _ (by omega)).2.2, (d40 a i (by omega) (Or.inl ham)).1, (d40 a i (by omega) (Or.inl ham)).2.1, (d40 a i (by omega) (Or.inl ham)).2.2]
          exact hH a i ha hi
      · rw [hg', pv_ni (by decide), pv_self]
      · rw [hh', pv_ni (by decide), pv_self]
      · rw [hg', pv_self]
      · rw [hh', pv_self]
    · rw [if_neg hok] at hx hmm
      refine pr_same (v := 0) hI0 ?_ hmm
      unfold xf_Cw_guard
      rw [hx]
      rfl
  · refine pr_same (v := 0) hI0 ?_ ?_
    · unfold xf_Cw_guard xf_Pr_addGuard
      rw [xs_isMethod, r2, if_neg h1]
      rfl
    · unfold mf_Mo_guard
      rw [ms_within, s2, if_neg (by omega)]
      rfl
