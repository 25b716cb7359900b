theorem st_type (PC PN : qa_St → qa_St → Prop) (g h : qa_St) (x1 x2 : Int32) (hI : pr_I PC PN g h) : ql_st (pr_I PC PN) (xf_Cw_type g x1 x2) (mf_Mo_type h x1 x2) := by
  have hI0 := hI
  obtain ⟨⟨hN, hC, hM, hU, hK, hG⟩, ⟨⟨r1, r2⟩, hT, hO, hQ, hZ, hL, hH⟩, hF, -, -⟩ := hI
  have hN0 := hN
  obtain ⟨n0, n1, n2, n3⟩ := hN
  have e1 : (1 : Int32).toInt = 1 := rfl
  have em : (-1 : Int32).toInt = -1 := rfl
  have ha := xs_addType g x1 x2 (by rw [r1]; exact n0) (by rw [r1]; exact n1) (fun c hc => by
    rw [r1] at hc
    exact ⟨(hT c hc).2.2.1, (hT c hc).2.2.2.1⟩)
  have hb := ms_type (g := g) x1 x2 hN0 hC hT
  rw [r1] at ha
  generalize hfc : (if 0 ≤ x1.toInt ∧ x1.toInt < (h 0 0).toInt then (g 3 x1.toInt.toNat).toInt else 0) = fc at ha hb
  by_cases hok : (h 0 0).toInt < 6 ∧ (x1.toInt = -1 ∨ (0 ≤ x1.toInt ∧ x1.toInt < (h 0 0).toInt)) ∧ 0 ≤ x2.toInt ∧ x2.toInt ≤ 6 - fc
  · rw [if_pos hok] at ha hb
    obtain ⟨k1, k2, k3, k4⟩ := hok
    obtain ⟨t, ht⟩ : ∃ t : Nat, t = (h 0 0).toInt.toNat := ⟨_, rfl⟩
    have htI : (h 0 0).toInt = (t : Int) := by omega
    have et : h 0 0 = Int32.ofNat t := by rw [ht]; exact pv_nIe n0
    have ec : (h 0 0 + 1).toInt = (t : Int) + 1 := by rw [pv_add (by rw [e1]; omega) (by rw [e1]; omega), e1, htI]
    have hfc0 : 0 ≤ fc ∧ fc ≤ 6 := by
      rw [← hfc]
      by_cases hc : 0 ≤ x1.toInt ∧ x1.toInt < (h 0 0).toInt
      · rw [if_pos hc]
        have := hT x1.toInt.toNat (by omega)
        exact ⟨this.2.2.1, this.2.2.2.1⟩
      · rw [if_neg hc]
        omega
    have hx : xf_Cw_type g x1 x2 = some (h 0 0, qa_up (qa_up (xs_newT g x1 x2) 0 4 0) 0 5 0) := by
      unfold xf_Cw_type
      rw [ha]
      simp only [Option.bind_some]
      rw [xs_reopen, if_neg (by rw [pv_eq, em]; omega)]
      rfl
    obtain ⟨g', hg'⟩ : ∃ g', g' = qa_up (qa_up (xs_newT g x1 x2) 0 4 0) 0 5 0 := ⟨_, rfl⟩
    rw [← hg'] at hx
    rw [← ht] at hb
    obtain ⟨h', hh'⟩ : ∃ h', h' = qa_up (qa_up (qa_up (qa_up (qa_up (qa_up h 1 t x1) 2 t x2) 3 t (-1)) 0 0 (h 0 0 + 1)) 0 15 0) 0 26 0 := ⟨_, rfl⟩
    rw [← hh'] at hb
    -- what the new states hold
    have c0 : h' 0 0 = h 0 0 + 1 := by rw [hh', pv_ni (by decide), pv_ni (by decide), pv_self]
    have c4 : h' 0 4 = h 0 4 := by rw [hh', pv_ni (by decide), pv_ni (by decide), pv_ni (by decide), pv_nr (by decide), pv_nr (by decide), pv_nr (by decide)]
    have cr : ∀ r i, 4 ≤ r → h' r i = h r i := fun r i hr => by rw [hh', pv_nr (by omega), pv_nr (by omega), pv_nr (by omega), pv_nr (by omega), pv_nr (by omega), pv_nr (by omega)]
    have c1 : ∀ c, c ≠ t → h' 1 c = h 1 c ∧ h' 2 c = h 2 c ∧ h' 3 c = h 3 c := fun c hc => by
      rw [hh']
      refine ⟨?_, ?_, ?_⟩
      · rw [pv_nr (by decide), pv_nr (by decide), pv_nr (by decide), pv_nr (by decide), pv_nr (by decide), pv_ni hc]
      · rw [pv_nr (by decide), pv_nr (by decide), pv_nr (by decide), pv_nr (by decide), pv_ni hc, pv_nr (by decide)]
      · rw [pv_nr (by decide), pv_nr (by decide), pv_nr (by decide), pv_ni hc, pv_nr (by decide), pv_nr (by decide)]
    have c1t : h' 1 t = x1 ∧ h' 2 t = x2 ∧ h' 3 t = -1 := by
      rw [hh']
      refine ⟨?_, ?_, ?_⟩
      · rw [pv_nr (by decide), pv_nr (by decide), pv_nr (by decide), pv_nr (by decide), pv_nr (by decide), pv_self]
      · rw [pv_nr (by decide), pv_nr (by decide), pv_nr (by decide), pv_nr (by decide), pv_self]
      · rw [pv_nr (by decide), pv_nr (by decide), pv_nr (by decide), pv_self]
    have gt : (g 1 0).toInt.toNat = t := by rw [r1, ht]
    unfold xs_newT at hg'
    rw [gt, r1] at hg'
    have d0 : g' 1 0 = h 0 0 + 1 := by rw [hg', pv_nr (by decide), pv_nr (by decide), pv_fill_out (Or.inl (by omega)), pv_nr (by decide), pv_nr (by decide), pv_nr (by decide), pv_self]
    have d1 : g' 1 1 = h 0 4 := by rw [hg', pv_nr (by decide), pv_nr (by decide), pv_fill_out (Or.inl (by omega)), pv_nr (by decide), pv_nr (by decide), pv_nr (by decide), pv_ni (by decide), r2]
    have dr : ∀ r i, 12 ≤ r → g' r i = g r i := fun r i hr => by rw [hg', pv_nr (by omega), pv_nr (by omega), pv_fill_out (Or.inl (by omega)), pv_nr (by omega), pv_nr (by omega), pv_nr (by omega), pv_nr (by omega)]
    have d2 : ∀ c, c ≠ t → g' 2 c = g 2 c ∧ g' 3 c = g 3 c ∧ g' 4 c = g 4 c := fun c hc => by
      rw [hg']
      refine ⟨?_, ?_, ?_⟩
      · rw [pv_nr (by decide), pv_nr (by decide), pv_fill_out (Or.inl (by omega)), pv_nr (by decide), pv_nr (by decide), pv_ni hc, pv_nr (by decide)]
      · rw [pv_nr (by decide), pv_nr (by decide), pv_fill_out (Or.inl (by omega)), pv_nr (by decide), pv_ni hc, pv_nr (by decide), pv_nr (by decide)]
      · rw [pv_nr (by decide), pv_nr (by decide), pv_fill_out (Or.inl (by omega)), pv_ni hc, pv_nr (by decide), pv_nr (by decide), pv_nr (by decide)]
    have d2t : g' 2 t = ((1 : Int32) <<< (h 0 0 &&& 31)) ||| (if 0 ≤ x1.toInt ∧ x1.toInt < (h 0 0).toInt then g 2 x1.toInt.toNat else 0) := by
      rw [hg', pv_nr (by decide), pv_nr (by decide), pv_fill_out (Or.inl (by omega)), pv_nr (by decide), pv_nr (by decide), pv_self]
    have d3t : g' 3 t = (if 0 ≤ x1.toInt ∧ x1.toInt < (h 0 0).toInt then g 3 x1.toInt.toNat else 0) + x2 := by
      rw [hg', pv_nr (by decide), pv_nr (by decide), pv_fill_out (Or.inl (by omega)), pv_nr (by decide), pv_self]
    have d4t : g' 4 t = -1 := by rw [hg', pv_nr (by decide), pv_nr (by decide), pv_fill_out (Or.inl (by omega)), pv_self]
    have d6 : ∀ c s, c < t → g' (6 + c) s = g (6 + c) s := fun c s hc => by rw [hg', pv_nr (by omega), pv_nr (by omega), pv_fill_out (Or.inl (by omega)), pv_nr (by omega), pv_nr (by omega), pv_nr (by omega), pv_nr (by omega)]
    have d6t : ∀ s, s < 4 → g' (6 + t) s = -1 := fun s hs => by rw [hg', pv_nr (by omega), pv_nr (by omega), pv_fill_in (by omega) hs]
    have f3 : (if 0 ≤ x1.toInt ∧ x1.toInt < (h 0 0).toInt then g 3 x1.toInt.toNat else 0).toInt = fc := by
      rw [← hfc]
      by_cases hc : 0 ≤ x1.toInt ∧ x1.toInt < (h 0 0).toInt
      · rw [if_pos hc, if_pos hc]
      · rw [if_neg hc, if_neg hc]
        rfl
    refine pr_new hx hb ⟨?_, ?_, ?_, ?_, ?_, ?_⟩ ⟨⟨?_, ?_⟩, ?_, ?_, ?_, ?_, ?_, ?_⟩ ?_ ?_ ?_ ?_
    · unfold pr_N
      rw [c0, c4, ec]
      omega
    · intro c hc
      rw [c0, ec] at hc
      rw [c4]
      by_cases hct : c = t
      · subst hct
        rw [c1t.1, c1t.2.1, c1t.2.2, em]
        omega
      · rw [(c1 c hct).1, (c1 c hct).2.1, (c1 c hct).2.2, cr 5 _ (by omega), cr 6 _ (by omega)]
        exact hC c (by omega)
    · intro m hm
      rw [c4] at hm
      rw [cr 4 _ (by omega), cr 5 _ (by omega), cr 6 _ (by omega), cr 7 _ (by omega), cr 10 _ (by omega), c0, ec]
      have := hM m hm
      omega
    · intro m k hm hk
      rw [c4] at hm hk
      rw [cr 4 _ (by omega), cr 4 _ (by omega), cr 5 _ (by omega), cr 5 _ (by omega)]
      exact hU m k hm hk
    · intro m i hm hi
      rw [c4] at hm
      rw [cr 7 _ (by omega)] at hi
      rw [cr 8 _ (by omega), cr 9 _ (by omega)]
      obtain ⟨q1, q2, q3, q4⟩ := hK m i hm hi
      refine ⟨q1, q2, fun ho => ?_, ?_⟩
      · have := q3 ho
        rw [c0, ec]
        omega
      · rw [c4]
        refine ⟨q4.1, q4.2.1, q4.2.2.1, fun ho => ?_⟩
        rw [cr 5 _ (by omega)]
        exact q4.2.2.2 ho
    · intro m k hm hk
      rw [c4] at hm
      rw [cr 10 _ (by omega)] at hk
      rw [cr 11 _ (by omega), cr 12 _ (by omega), cr 13 _ (by omega)]
      exact hG m k hm hk
    · rw [d0, c0]
    · rw [d1, c4]
    · intro c hc
      rw [c0, ec] at hc
      by_cases hct : c = t
      · subst hct
        rw [c1t.1, c1t.2.1, c1t.2.2, d2t, d4t]
        have hs : (g' 3 c).toInt = fc + x2.toInt := by rw [d3t, pv_add (by rw [f3]; omega) (by rw [f3]; omega), f3]
        rw [hs]
        by_cases hp : x1.toInt < 0
        · rw [if_pos hp, if_pos hp, if_neg (by omega), et]
          rw [if_neg (by omega)] at hfc
          exact ⟨rfl, by omega, by omega, by omega, rfl⟩
        · have hlt : 0 ≤ x1.toInt ∧ x1.toInt < (h 0 0).toInt := by omega
          rw [if_neg hp, if_neg hp, if_pos hlt, (d2 x1.toInt.toNat (by omega)).1, (d2 x1.toInt.toNat (by omega)).2.1, et]
          rw [if_pos hlt] at hfc
          exact ⟨rfl, by omega, by omega, by omega, rfl⟩
      · rw [(c1 c hct).1, (c1 c hct).2.1, (c1 c hct).2.2, (d2 c hct).1, (d2 c hct).2.1, (d2 c hct).2.2]
        have hcc := hC c (by omega)
        have hp : (h 1 c).toInt.toNat ≠ t := by omega
        rw [(d2 _ hp).1, (d2 _ hp).2.1]
        exact hT c (by omega)
    · intro c s hc hs
      rw [c0, ec] at hc
      rw [c4]
      by_cases hct : c = t
      · subst hct
        left
        rw [d6t s hs]
        refine ⟨rfl, fun m hm hq => ?_⟩
        rw [cr 4 _ (by omega)] at hq
        have := hM m hm
        omega
      · rw [d6 c s (by omega)]
        rcases hO c s (by omega) hs with ⟨o1, o2⟩ | ⟨m, o1, o2, o3, o4⟩
        · left
          refine ⟨o1, fun m hm hq => ?_⟩
          rw [cr 4 _ (by omega), cr 5 _ (by omega)] at hq
          exact o2 m hm hq
        · right
          refine ⟨m, o1, o2, ?_, ?_⟩
          · rw [cr 4 _ (by omega)]; exact o3
          · rw [cr 5 _ (by omega)]; exact o4
    · intro m hm
      rw [c4] at hm
      rw [cr 4 _ (by omega), cr 5 _ (by omega), cr 6 _ (by omega), cr 7 _ (by omega), cr 10 _ (by omega), dr 12 _ (by omega), dr 13 _ (by omega), dr 14 _ (by omega), dr 15 _ (by omega), dr 38 _ (by omega)]
      exact hQ m hm
    · intro m hm h10
      rw [c4] at hm
      rw [dr 15 _ (by omega), dr 38 _ (by omega)]
      exact hZ m hm h10
    · intro m i hm hi
      rw [c4] at hm
      rw [cr 7 _ (by omega)] at hi
      rw [cr 8 _ (by omega), cr 9 _ (by omega), dr _ _ (by omega), dr _ _ (by omega)]
      exact hL m i hm hi
    · intro m k hm hk
      rw [c4] at hm
      rw [cr 10 _ (by omega)] at hk
      rw [cr 11 _ (by omega), cr 12 _ (by omega), cr 13 _ (by omega), dr _ _ (by omega), dr _ _ (by omega), dr _ _ (by omega)]
      exact hH m k hm hk
    · rw [hg', pv_ni (by decide), pv_self]
    · rw [hh', pv_ni (by decide), pv_self]
    · rw [hg', pv_self]
    · rw [hh', pv_self]
  · rw [if_neg hok] at ha hb
    refine pr_same (v := -1) hI0 ?_ hb
    unfold xf_Cw_type
    rw [ha]
    simp only [Option.bind_some]
    rw [xs_reopen, if_pos rfl]
    rfl
