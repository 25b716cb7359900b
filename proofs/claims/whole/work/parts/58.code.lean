theorem st_code (PC PN : qa_St → qa_St → Prop) (g h : qa_St) (x1 x2 x3 : Int32) (hI : pr_I PC PN g h) : ql_st (pr_I PC PN) (xf_Cw_code g x1 x2 x3) (mf_Mo_code h x1 x2 x3) := by
  have hI0 := hI
  obtain ⟨⟨hN, hC, hM, hU, hK, hG⟩, ⟨⟨r1, r2⟩, hT, hO, hQ, hZ, hL, hH⟩, hF, -, -⟩ := hI
  have hN0 := hN
  obtain ⟨n0, n1, n2, n3⟩ := hN
  have e0 : (0 : Int32).toInt = 0 := rfl
  have e1 : (1 : Int32).toInt = 1 := rfl
  have em : (-1 : Int32).toInt = -1 := rfl
  have e20 : (20 : Int32).toInt = 20 := rfl
  have e22 : (22 : Int32).toInt = 22 := rfl
  have e23 : (23 : Int32).toInt = 23 := rfl
  have s2 : (h 0 4 - 1).toInt = (h 0 4).toInt - 1 := by rw [pv_sub (by rw [e1]; omega) (by rw [e1]; omega), e1]
  have hno : ∀ a : qa_Re, xf_Pr_addCode g x1 x2 x3 = some (-1, g) → xf_Cw_code g x1 x2 x3 = some (-1, g) := fun _ hx => by
    unfold xf_Cw_code
    rw [hx]
    simp only [Option.bind_some]
    rw [xs_reopen, if_pos rfl]
    rfl
  by_cases h1 : 0 ≤ x1.toInt ∧ x1.toInt < (h 0 4).toInt
  · obtain ⟨m, hm⟩ : ∃ m : Nat, m = x1.toInt.toNat := ⟨_, rfl⟩
    have hmI : x1.toInt = (m : Int) := by omega
    have qm := hM m (by omega)
    have qq := hQ m (by omega)
    obtain ⟨k, hk⟩ : ∃ k : Nat, k = (h 7 m).toInt.toNat := ⟨_, rfl⟩
    have hkI : (h 7 m).toInt = (k : Int) := by omega
    by_cases h2 : (h 7 m).toInt < 20
    · by_cases h3 : 0 ≤ x2.toInt ∧ x2.toInt ≤ 22
      · obtain ⟨b, hb01, hbx, hbm, hbf⟩ := st_fits (g := g) (h := h) x2 x3 hN0 hM r1 r2 hQ h3.1 h3.2
        have e20m : ((20 : Int32) * x1).toInt = 20 * (m : Int) := by rw [pv_mul (by rw [e20]; omega) (by rw [e20]; omega), e20, hmI]
        have eix : ((20 : Int32) * x1 + h 7 m).toInt = 20 * (m : Int) + (k : Int) := by rw [pv_add (by omega) (by omega), e20m, hkI]
        have enx : ((20 : Int32) * x1 + h 7 m).toInt.toNat = 20 * m + k := by omega
        have ek1 : (h 7 m + 1).toInt = (k : Int) + 1 := by rw [pv_add (by rw [e1]; omega) (by rw [e1]; omega), e1, hkI]
        have hx : xf_Pr_addCode g x1 x2 x3 = if b = 0 then some (-1, g) else some (h 7 m, qa_up (qa_up (qa_up g 15 m (h 7 m + 1)) (17 + m) k x2) (28 + m) k x3) := by
          unfold xf_Pr_addCode
          rw [xs_isMethod, r2]
          simp only [Option.bind_some, pv_b1]
          rw [if_neg (fun q => q h1), if_neg (by rw [pv_lt, pv_cl, e0]; omega), pv_cl x1, ← hm, qq.2.2.2.1, if_neg (by rw [pv_le, e20]; omega), xs_within, e23]
          simp only [Option.bind_some, pv_b1]
          rw [if_neg (fun q => q (by omega)), hbx]
          simp only [Option.bind_some]
          by_cases hb : b = 0
          · rw [if_pos hb, if_pos hb]
          · rw [if_neg hb, if_neg hb, if_neg (by rw [pv_lt, e0]; omega), if_neg (by rw [pv_lt, e0]; omega), if_neg (by rw [pv_lt, e0]; omega), if_neg (by rw [pv_lt, e0]; omega), qq.2.2.2.1, if_neg (by rw [pv_lt, pv_cl, e0]; omega)]
            unfold xf_Pr_addCode_67
            rw [if_neg (by rw [pv_lt, pv_cl, e0]; omega), if_neg (by rw [pv_lt, pv_cl, e0]; omega), pv_cl x1, pv_cl (h 7 m), ← hm, ← hk]
        have hmm : mf_Mo_code h x1 x2 x3 = if b = 0 then some (-1, h) else some (h 7 m, qa_up (qa_up (qa_up (qa_up (qa_up h 8 (20 * m + k) x2) 9 (20 * m + k) x3) 7 m (h 7 m + 1)) 0 15 0) 0 26 0) := by
          unfold mf_Mo_code
          rw [ms_within, s2]
          simp only [Option.bind_some, pv_b1]
          rw [if_neg (fun q => q (by omega)), if_neg (by rw [pv_lt, pv_cl, e0]; omega), pv_cl x1, ← hm, if_neg (by rw [pv_eq, e20]; omega), ms_within, e22]
          simp only [Option.bind_some, pv_b1]
          rw [if_neg (fun q => q h3), hbm]
          simp only [Option.bind_some]
          by_cases hb : b = 0
          · rw [if_pos hb, if_pos hb]
          · rw [if_neg hb, if_neg hb, if_neg (by rw [pv_lt, e0]; omega), if_neg (by rw [pv_lt, pv_cl, e0]; omega), if_neg (by rw [pv_lt, e0]; omega)]
            rw [pv_nr (by decide)]
            unfold mf_Mo_code_75
            rw [if_neg (by rw [pv_lt, pv_cl, e0]; omega), if_neg (by rw [pv_lt, pv_cl, e0]; omega), pv_cl x1, ← hm, pv_nr (by decide), pv_nr (by decide)]
            unfold mf_Mo_code_87
            rw [if_neg (by rw [pv_lt, pv_cl, e0]; omega), ms_changed]
            simp only [Option.bind_some]
            rw [if_neg (by rw [pv_lt, pv_cl, e0]; omega), pv_cl x1, ← hm, pv_cl (20 * x1 + h 7 m), enx, pv_nr (by decide), pv_nr (by decide), pv_self]
            have : h 7 m + 1 - 1 = h 7 m := Int32.add_sub_cancel _ _
            rw [this]
        by_cases hb : b = 0
        · rw [if_pos hb] at hx hmm
          exact pr_same (v := -1) hI0 (hno none hx) hmm
        · rw [if_neg hb] at hx hmm
          have hfit := hbf (hb01.resolve_left hb)
          have hxx : xf_Cw_code g x1 x2 x3 = some (h 7 m, qa_up (qa_up (qa_up (qa_up (qa_up g 15 m (h 7 m + 1)) (17 + m) k x2) (28 + m) k x3) 0 4 0) 0 5 0) := by
            unfold xf_Cw_code
            rw [hx]
            simp only [Option.bind_some]
            rw [xs_reopen, if_neg (by rw [pv_eq, em]; omega)]
            rfl
          obtain ⟨g', hg'⟩ : ∃ g', g' = qa_up (qa_up (qa_up (qa_up (qa_up g 15 m (h 7 m + 1)) (17 + m) k x2) (28 + m) k x3) 0 4 0) 0 5 0 := ⟨_, rfl⟩
          obtain ⟨h', hh'⟩ : ∃ h', h' = qa_up (qa_up (qa_up (qa_up (qa_up h 8 (20 * m + k) x2) 9 (20 * m + k) x3) 7 m (h 7 m + 1)) 0 15 0) 0 26 0 := ⟨_, rfl⟩
          rw [← hg'] at hxx
          rw [← hh'] at hmm
          have hm10 : m < 10 := by omega
          have c0 : h' 0 0 = h 0 0 := by rw [hh', pv_ni (by decide), pv_ni (by decide), pv_nr (by decide), pv_nr (by decide), pv_nr (by decide)]
          have c4 : h' 0 4 = h 0 4 := by rw [hh', pv_ni (by decide), pv_ni (by decide), pv_nr (by decide), pv_nr (by decide), pv_nr (by decide)]
          have cr : ∀ r i, 1 ≤ r → r ≠ 7 → r ≠ 8 → r ≠ 9 → h' r i = h r i := fun r i a b c d => by rw [hh', pv_nr (by omega), pv_nr (by omega), pv_nr (by omega), pv_nr (by omega), pv_nr (by omega)]
          have c7 : ∀ j, j ≠ m → h' 7 j = h 7 j := fun j hj => by rw [hh', pv_nr (by decide), pv_nr (by decide), pv_ni hj, pv_nr (by decide), pv_nr (by decide)]
          have c7m : h' 7 m = h 7 m + 1 := by rw [hh', pv_nr (by decide), pv_nr (by decide), pv_self]
          have c8 : ∀ j, j ≠ 20 * m + k → h' 8 j = h 8 j ∧ h' 9 j = h 9 j := fun j hj => by
            rw [hh']
            refine ⟨?_, ?_⟩
            · rw [pv_nr (by decide), pv_nr (by decide), pv_nr (by decide), pv_nr (by decide), pv_ni hj]
            · rw [pv_nr (by decide), pv_nr (by decide), pv_nr (by decide), pv_ni hj, pv_nr (by decide)]
          have c8m : h' 8 (20 * m + k) = x2 ∧ h' 9 (20 * m + k) = x3 := by
            rw [hh']
            refine ⟨?_, ?_⟩
            · rw [pv_nr (by decide), pv_nr (by decide), pv_nr (by decide), pv_nr (by decide), pv_self]
            · rw [pv_nr (by decide), pv_nr (by decide), pv_nr (by decide), pv_self]
          have dr : ∀ r i, 1 ≤ r → r ≠ 15 → (r < 17 ∨ 38 ≤ r) → g' r i = g r i := fun r i a b c => by rw [hg', pv_nr (by omega), pv_nr (by omega), pv_nr (by omega), pv_nr (by omega), pv_nr (by omega)]
          have d15 : ∀ j, j ≠ m → g' 15 j = g 15 j := fun j hj => by rw [hg', pv_nr (by decide), pv_nr (by decide), pv_nr (by omega), pv_nr (by omega), pv_ni hj]
          have d15m : g' 15 m = h 7 m + 1 := by rw [hg', pv_nr (by decide), pv_nr (by decide), pv_nr (by omega), pv_nr (by omega), pv_self]
          have d17 : ∀ j i, j < 10 → (j ≠ m ∨ i ≠ k) → g' (17 + j) i = g (17 + j) i ∧ g' (28 + j) i = g (28 + j) i := fun j i hj hne => by
            rw [hg']
            simp only [pv_get]
            refine ⟨?_, ?_⟩
            · rw [if_neg (by omega), if_neg (by omega), if_neg (by omega), if_neg (by omega), if_neg (by omega)]
            · rw [if_neg (by omega), if_neg (by omega), if_neg (by omega), if_neg (by omega), if_neg (by omega)]
          have d17m : g' (17 + m) k = x2 ∧ g' (28 + m) k = x3 := by
            rw [hg']
            refine ⟨?_, ?_⟩
            · rw [pv_nr (by omega), pv_nr (by omega), pv_nr (by omega), pv_self]
            · rw [pv_nr (by omega), pv_nr (by omega), pv_self]
          have hf' : ∀ op a : Int, pr_fit h op a → pr_fit h' op a := fun op a q => by
            refine ⟨fun ho => ?_, q.2.1, q.2.2.1, q.2.2.2.1, fun ho => ?_⟩
            · rw [c0]
              exact q.1 ho
            · rw [c4, cr 5 _ (by decide) (by decide) (by decide) (by decide)]
              exact q.2.2.2.2 ho
          refine pr_new hxx hmm ⟨?_, ?_, ?_, ?_, ?_, ?_⟩ ⟨⟨?_, ?_⟩, ?_, ?_, ?_, ?_, ?_, ?_⟩ ?_ ?_ ?_ ?_
          · unfold pr_N
            rw [c0, c4]
            exact hN0
          · intro c hc
            rw [c0] at hc
            rw [c4, cr 1 _ (by decide) (by decide) (by decide) (by decide), cr 2 _ (by decide) (by decide) (by decide) (by decide), cr 3 _ (by decide) (by decide) (by decide) (by decide), cr 5 _ (by decide) (by decide) (by decide) (by decide), cr 6 _ (by decide) (by decide) (by decide) (by decide)]
            exact hC c hc
          · intro j hj
            rw [c4] at hj
            rw [cr 4 _ (by decide) (by decide) (by decide) (by decide), cr 5 _ (by decide) (by decide) (by decide) (by decide), cr 6 _ (by decide) (by decide) (by decide) (by decide), cr 10 _ (by decide) (by decide) (by decide) (by decide), c0]
            have q := hM j hj
            by_cases hjm : j = m
            · subst hjm
              rw [c7m, ek1]
              exact ⟨q.1, q.2.1, q.2.2.1, q.2.2.2.1, q.2.2.2.2.1, q.2.2.2.2.2.1, q.2.2.2.2.2.2.1, by omega, by omega, q.2.2.2.2.2.2.2.2.2⟩
            · rw [c7 j hjm]
              exact q
          · intro a c ha hc
            rw [c4] at ha hc
            rw [cr 4 _ (by decide) (by decide) (by decide) (by decide), cr 4 _ (by decide) (by decide) (by decide) (by decide), cr 5 _ (by decide) (by decide) (by decide) (by decide), cr 5 _ (by decide) (by decide) (by decide) (by decide)]
            exact hU a c ha hc
          · intro a i ha hi
            rw [c4] at ha
            by_cases ham : a = m
            · subst ham
              rw [c7m, ek1] at hi
              by_cases hik : i = k
              · subst hik
                rw [c8m.1, c8m.2]
                exact ⟨h3.1, h3.2, hf' _ _ hfit⟩
              · rw [(c8 _ (by omega)).1, (c8 _ (by omega)).2]
                have q := hK a i ha (by omega)
                exact ⟨q.1, q.2.1, hf' _ _ q.2.2⟩
            · rw [c7 a ham] at hi
              have q0 := hM a ha
              rw [(c8 _ (by omega)).1, (c8 _ (by omega)).2]
              have q := hK a i ha hi
              exact ⟨q.1, q.2.1, hf' _ _ q.2.2⟩
          · intro a i ha hi
            rw [c4] at ha
            rw [cr 10 _ (by decide) (by decide) (by decide) (by decide)] at hi
            rw [cr 11 _ (by decide) (by decide) (by decide) (by decide), cr 12 _ (by decide) (by decide) (by decide) (by decide), cr 13 _ (by decide) (by decide) (by decide) (by decide)]
            exact hG a i ha hi
          · rw [dr 1 _ (by decide) (by decide) (by decide), c0, r1]
          · rw [dr 1 _ (by decide) (by decide) (by decide), c4, r2]
          · intro c hc
            rw [c0] at hc
            rw [cr 1 _ (by decide) (by decide) (by decide) (by decide), cr 2 _ (by decide) (by decide) (by decide) (by decide), cr 3 _ (by decide) (by decide) (by decide) (by decide), dr 2 _ (by decide) (by decide) (by decide), dr 2 _ (by decide) (by decide) (by decide), dr 3 _ (by decide) (by decide) (by decide), dr 3 _ (by decide) (by decide) (by decide), dr 4 _ (by decide) (by decide) (by decide)]
            exact hT c hc
          · intro c s hc hs
            rw [c0] at hc
            rw [c4, dr _ _ (by omega) (by omega) (by omega)]
            rcases hO c s hc hs with ⟨o1, o2⟩ | ⟨j, o1, o2, o3, o4⟩
            · left
              refine ⟨o1, fun j hj hq => ?_⟩
              rw [cr 4 _ (by decide) (by decide) (by decide) (by decide), cr 5 _ (by decide) (by decide) (by decide) (by decide)] at hq
              exact o2 j hj hq
            · right
              refine ⟨j, o1, o2, ?_, ?_⟩
              · rw [cr 4 _ (by decide) (by decide) (by decide) (by decide)]; exact o3
              · rw [cr 5 _ (by decide) (by decide) (by decide) (by decide)]; exact o4
          · intro j hj
            rw [c4] at hj
            rw [cr 4 _ (by decide) (by decide) (by decide) (by decide), cr 5 _ (by decide) (by decide) (by decide) (by decide), cr 6 _ (by decide) (by decide) (by decide) (by decide), cr 10 _ (by decide) (by decide) (by decide) (by decide), dr 12 _ (by decide) (by decide) (by decide), dr 13 _ (by decide) (by decide) (by decide), dr 14 _ (by decide) (by decide) (by decide), dr 38 _ (by decide) (by decide) (by decide)]
            have q := hQ j hj
            refine ⟨q.1, q.2.1, q.2.2.1, ?_, q.2.2.2.2⟩
            by_cases hjm : j = m
            · subst hjm
              rw [d15m, c7m]
            · rw [d15 j hjm, c7 j hjm]
              exact q.2.2.2.1
          · intro j hj h10
            rw [c4] at hj
            rw [dr 38 _ (by decide) (by decide) (by decide), d15 j (by omega)]
            exact hZ j hj h10
          · intro a i ha hi
            rw [c4] at ha
            by_cases ham : a = m
            · subst ham
              rw [c7m, ek1] at hi
              by_cases hik : i = k
              · subst hik
                rw [c8m.1, c8m.2, d17m.1, d17m.2]
                exact ⟨rfl, rfl⟩
              · rw [(c8 _ (by omega)).1, (c8 _ (by omega)).2, (d17 a i hm10 (Or.inr hik)).1, (d17 a i hm10 (Or.inr hik)).2]
                exact hL a i ha (by omega)
            · rw [c7 a ham] at hi
              have q0 := hM a ha
              rw [(c8 _ (by omega)).1, (c8 _ (by omega)).2, (d17 a i (by omega) (Or.inl ham)).1, (d17 a i (by omega) (Or.inl ham)).2]
              exact hL a i ha hi
          · intro a i ha hi
            rw [c4] at ha
            rw [cr 10 _ (by decide) (by decide) (by decide) (by decide)] at hi
            rw [cr 11 _ (by decide) (by decide) (by decide) (by decide), cr 12 _ (by decide) (by decide) (by decide) (by decide), cr 13 _ (by decide) (by decide) (by decide) (by decide), dr _ _ (by omega) (by omega) (by omega), dr _ _ (by omega) (by omega) (by omega), dr _ _ (by omega) (by omega) (by omega)]
            exact hH a i ha hi
          · rw [hg', pv_ni (by decide), pv_self]
          · rw [hh', pv_ni (by decide), pv_self]
          · rw [hg', pv_self]
          · rw [hh', pv_self]
      · refine pr_same (v := -1) hI0 (hno none ?_) ?_
        · unfold xf_Pr_addCode
          rw [xs_isMethod, r2]
          simp only [Option.bind_some, pv_b1]
          rw [if_neg (fun q => q h1), if_neg (by rw [pv_lt, pv_cl, e0]; omega), pv_cl x1, ← hm, qq.2.2.2.1, if_neg (by rw [pv_le, e20]; omega), xs_within, e23]
          simp only [Option.bind_some, pv_b1]
          rw [if_pos (by omega)]
        · unfold mf_Mo_code
          rw [ms_within, s2]
          simp only [Option.bind_some, pv_b1]
          rw [if_neg (fun q => q (by omega)), if_neg (by rw [pv_lt, pv_cl, e0]; omega), pv_cl x1, ← hm, if_neg (by rw [pv_eq, e20]; omega), ms_within, e22]
          simp only [Option.bind_some, pv_b1]
          rw [if_pos h3]
    · refine pr_same (v := -1) hI0 (hno none ?_) ?_
      · unfold xf_Pr_addCode
        rw [xs_isMethod, r2]
        simp only [Option.bind_some, pv_b1]
        rw [if_neg (fun q => q h1), if_neg (by rw [pv_lt, pv_cl, e0]; omega), pv_cl x1, ← hm, qq.2.2.2.1, if_pos (by rw [pv_le, e20]; omega)]
      · unfold mf_Mo_code
        rw [ms_within, s2]
        simp only [Option.bind_some, pv_b1]
        rw [if_neg (fun q => q (by omega)), if_neg (by rw [pv_lt, pv_cl, e0]; omega), pv_cl x1, ← hm, if_pos (by rw [pv_eq, e20]; omega)]
  · refine pr_same (v := -1) hI0 (hno none ?_) ?_
    · unfold xf_Pr_addCode
      rw [xs_isMethod, r2, if_neg h1]
      rfl
    · unfold mf_Mo_code
      rw [ms_within, s2, if_neg (by omega)]
      rfl
