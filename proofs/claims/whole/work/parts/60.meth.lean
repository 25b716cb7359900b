theorem ms_meth61 (h : qa_St) (x1 x2 x3 w : Int32) (m : Nat) (hmI : (h 0 4).toInt = (m : Int)) (hm9 : m < 10) (hw : (x2 = -1 ∧ w = x3) ∨ (¬ x2 = -1 ∧ w = 2)) :
    mf_Mo_method_61 h x1 x2 x3 = some (h 0 4, qa_up (qa_up (qa_up (qa_up (qa_up (qa_up (qa_up (qa_up h 4 m x1) 5 m x2) 6 m w) 7 m 0) 10 m 0) 0 4 (h 0 4 + 1)) 0 15 0) 0 26 0) := by
  have e0 : (0 : Int32).toInt = 0 := rfl
  have em : (h 0 4).toNatClampNeg = m := by rw [pv_cl]; omega
  have hb : ¬ (h 0 4 < 0 ∨ 10 ≤ m) := by rw [pv_lt, e0]; omega
  have key : ∀ u : qa_St, u 0 4 = h 0 4 → mf_Mo_method_99 u w (h 0 4) = some (h 0 4, qa_up (qa_up (qa_up (qa_up (qa_up (qa_up u 6 m w) 7 m 0) 10 m 0) 0 4 (h 0 4 + 1)) 0 15 0) 0 26 0) := fun u hu => by
    unfold mf_Mo_method_99
    rw [em, if_neg hb, pv_nr (by decide), hu, em, if_neg hb]
    unfold mf_Mo_method_110
    rw [pv_nr (by decide), pv_nr (by decide), hu, em, if_neg hb, pv_nr (by decide), pv_nr (by decide), pv_nr (by decide), hu]
    unfold mf_Mo_method_130
    rw [ms_changed]
    simp only [Option.bind_some]
    rw [pv_ni (by decide), pv_ni (by decide), pv_self]
    have : h 0 4 + 1 - 1 = h 0 4 := Int32.add_sub_cancel _ _
    rw [this]
  unfold mf_Mo_method_61
  rw [em, if_neg hb, pv_nr (by decide), em, if_neg hb]
  unfold mf_Mo_method_81
  rw [pv_nr (by decide), pv_nr (by decide)]
  rcases hw with ⟨a, b⟩ | ⟨a, b⟩
  · rw [if_pos a, ← b]
    exact key _ (by rw [pv_nr (by decide), pv_nr (by decide)])
  · rw [if_neg a, ← b]
    exact key _ (by rw [pv_nr (by decide), pv_nr (by decide)])
theorem st_method (PC PN : qa_St → qa_St → Prop) (g h : qa_St) (x1 x2 x3 : Int32) (hI : pr_I PC PN g h) : ql_st (pr_I PC PN) (xf_Cw_method g x1 x2 x3) (mf_Mo_method h x1 x2 x3) := by
  have hI0 := hI
  obtain ⟨hP, hR, hF, -, -⟩ := hI
  have hP0 := hP
  have hR0 := hR
  obtain ⟨hN, hC, hM, hU, hK, hG⟩ := hP
  obtain ⟨⟨r1, r2⟩, hT, hO, hQ, hZ, hL, hH⟩ := hR
  have hN0 := hN
  obtain ⟨n0, n1, n2, n3⟩ := hN
  have e0 : (0 : Int32).toInt = 0 := rfl
  have e1 : (1 : Int32).toInt = 1 := rfl
  have e2 : (2 : Int32).toInt = 2 := rfl
  have e3 : (3 : Int32).toInt = 3 := rfl
  have e4 : (4 : Int32).toInt = 4 := rfl
  have e10 : (10 : Int32).toInt = 10 := rfl
  have em : (-1 : Int32).toInt = -1 := rfl
  have s1 : (h 0 0 - 1).toInt = (h 0 0).toInt - 1 := by rw [pv_sub (by rw [e1]; omega) (by rw [e1]; omega), e1]
  have hno : xf_Pr_addMethod g x1 x2 x3 = some (-1, g) → xf_Cw_method g x1 x2 x3 = some (-1, g) := fun hx => by
    unfold xf_Cw_method
    rw [hx]
    simp only [Option.bind_some]
    rw [xs_reopen, if_pos rfl]
    rfl
  by_cases h10 : (h 0 4).toInt = 10
  · refine pr_same (v := -1) hI0 (hno ?_) ?_
    · unfold xf_Pr_addMethod
      rw [r2, if_pos (by rw [pv_le, e10]; omega)]
    · unfold mf_Mo_method
      rw [if_pos (by rw [pv_eq, e10]; exact h10)]
  by_cases h1 : ¬ (0 ≤ x1.toInt ∧ x1.toInt < (h 0 0).toInt)
  · refine pr_same (v := -1) hI0 (hno ?_) ?_
    · unfold xf_Pr_addMethod
      rw [r2, if_neg (by rw [pv_le, e10]; omega), xs_isType, r1, if_neg h1]
      rfl
    · unfold mf_Mo_method
      rw [if_neg (by rw [pv_eq, e10]; exact h10), ms_within, s1, if_neg (by omega)]
      rfl
  have h1 : 0 ≤ x1.toInt ∧ x1.toInt < (h 0 0).toInt := by omega
  obtain ⟨m, hm⟩ : ∃ m : Nat, m = (h 0 4).toInt.toNat := ⟨_, rfl⟩
  have hmI : (h 0 4).toInt = (m : Int) := by omega
  have hm9 : m < 10 := by omega
  have emc : (h 0 4).toNatClampNeg = m := by rw [pv_cl]; omega
  have ec1 : (h 0 4 + 1).toInt = (m : Int) + 1 := by rw [pv_add (by rw [e1]; omega) (by rw [e1]; omega), e1, hmI]
  have hbm : ¬ (h 0 4 < 0 ∨ 10 ≤ m) := by rw [pv_lt, e0]; omega
  have hx0 : xf_Pr_addMethod g x1 x2 x3 = if x2 = -1 then xf_Pr_addMethod_29 g x1 x2 x3 1 else xf_Pr_addMethod_29 g x1 x2 x3 0 := by
    unfold xf_Pr_addMethod
    rw [r2, if_neg (by rw [pv_le, e10]; omega), xs_isType, r1, if_pos h1]
    rfl
  have hm0 : mf_Mo_method h x1 x2 x3 = (if x2 < -1 then some (-1, h) else if x2 ≤ 3 then (if x2 = -1 then ((mf_Mo_within h x3 2).bind fun t41 => (if t41.1 = 0 then (some ((-1 : Int32), t41.2)) else (mf_Mo_method_61 t41.2 x1 x2 x3))) else ((mf_Mo_ownMethod h x1 x2).bind fun t53 => (if t53.1 < 0 then (mf_Mo_method_61 t53.2 x1 x2 x3) else (some ((-1 : Int32), t53.2))))) else some (-1, h)) := by
    unfold mf_Mo_method
    rw [if_neg (by rw [pv_eq, e10]; exact h10), ms_within, s1, if_pos (by omega)]
    rfl
  -- the two new states, and the relation between them
  have hfin : ∀ w : Int32, ((x2 = -1 ∧ w = x3) ∨ (¬ x2 = -1 ∧ w = 2)) → -1 ≤ x2.toInt ∧ x2.toInt ≤ 3 → 0 ≤ w.toInt ∧ w.toInt ≤ 2 → (0 ≤ x2.toInt → ∀ j : Nat, (j : Int) < (h 0 4).toInt → ¬ ((h 4 j).toInt = x1.toInt ∧ (h 5 j).toInt = x2.toInt)) →
      ∀ u : qa_St, (u = qa_up (qa_up (qa_up (qa_up g 1 1 (h 0 4 + 1)) 12 m x1) 13 m x2) 14 m w ∧ x2.toInt = -1 ∨ u = qa_up (qa_up (qa_up (qa_up (qa_up g 1 1 (h 0 4 + 1)) 12 m x1) 13 m x2) 14 m w) (6 + x1.toInt.toNat) x2.toInt.toNat (h 0 4) ∧ 0 ≤ x2.toInt) → xf_Pr_addMethod g x1 x2 x3 = some (h 0 4, u) → mf_Mo_method h x1 x2 x3 = mf_Mo_method_61 h x1 x2 x3 → ql_st (pr_I PC PN) (xf_Cw_method g x1 x2 x3) (mf_Mo_method h x1 x2 x3) := by
    intro w hw k2 k3 k5 u hu hx hmm
    rw [ms_meth61 h x1 x2 x3 w m hmI hm9 hw] at hmm
    have hxx : xf_Cw_method g x1 x2 x3 = some (h 0 4, qa_up (qa_up u 0 4 0) 0 5 0) := by
      unfold xf_Cw_method
      rw [hx]
      simp only [Option.bind_some]
      rw [xs_reopen, if_neg (by rw [pv_eq, em]; omega)]
      rfl
    have k4 : 0 ≤ x2.toInt → w.toInt = 2 := fun z => by
      rcases hw with ⟨a, b⟩ | ⟨a, b⟩
      · rw [a, em] at z
        omega
      · rw [b, e2]
    have du : ∀ r i, r ≠ 0 → qa_up (qa_up u 0 4 0) 0 5 0 r i = u r i := fun r i hr => by rw [pv_nr hr, pv_nr hr]
    -- what u holds
    have u1 : u 1 0 = g 1 0 ∧ u 1 1 = h 0 4 + 1 := by
      rcases hu with ⟨a, -⟩ | ⟨a, -⟩
      · rw [a]
        exact ⟨by rw [pv_nr (by decide), pv_nr (by decide), pv_nr (by decide), pv_ni (by decide)], by rw [pv_nr (by decide), pv_nr (by decide), pv_nr (by decide), pv_self]⟩
      · rw [a]
        exact ⟨by rw [pv_nr (by omega), pv_nr (by decide), pv_nr (by decide), pv_nr (by decide), pv_ni (by decide)], by rw [pv_nr (by omega), pv_nr (by decide), pv_nr (by decide), pv_nr (by decide), pv_self]⟩
    have ur : ∀ r i, (2 ≤ r ∧ r < 5 ∨ 15 ≤ r) → u r i = g r i := fun r i hr => by
      rcases hu with ⟨a, -⟩ | ⟨a, -⟩
      · rw [a, pv_nr (by omega), pv_nr (by omega), pv_nr (by omega), pv_nr (by omega)]
      · rw [a, pv_nr (by omega), pv_nr (by omega), pv_nr (by omega), pv_nr (by omega), pv_nr (by omega)]
    have uj : ∀ r j, 12 ≤ r → r < 15 → j ≠ m → u r j = g r j := fun r j a1 a2 hj => by
      rcases hu with ⟨a, -⟩ | ⟨a, -⟩
      · rw [a, pv_ni hj, pv_ni hj, pv_ni hj, pv_nr (by omega)]
      · rw [a, pv_nr (by omega), pv_ni hj, pv_ni hj, pv_ni hj, pv_nr (by omega)]
    have um : u 12 m = x1 ∧ u 13 m = x2 ∧ u 14 m = w := by
      rcases hu with ⟨a, -⟩ | ⟨a, -⟩
      · rw [a]
        exact ⟨by rw [pv_nr (by decide), pv_nr (by decide), pv_self], by rw [pv_nr (by decide), pv_self], by rw [pv_self]⟩
      · rw [a]
        exact ⟨by rw [pv_nr (by omega), pv_nr (by decide), pv_nr (by decide), pv_self], by rw [pv_nr (by omega), pv_nr (by decide), pv_self], by rw [pv_nr (by omega), pv_self]⟩
    have u6 : ∀ c s : Nat, c < 6 → s < 4 → ((0 ≤ x2.toInt ∧ (c : Int) = x1.toInt ∧ (s : Int) = x2.toInt) → (u (6 + c) s).toInt = (m : Int)) ∧ (¬ (0 ≤ x2.toInt ∧ (c : Int) = x1.toInt ∧ (s : Int) = x2.toInt) → u (6 + c) s = g (6 + c) s) := fun c s hc hs => by
      rcases hu with ⟨a, b⟩ | ⟨a, b⟩
      · refine ⟨fun z => by omega, fun _ => ?_⟩
        rw [a, pv_nr (by omega), pv_nr (by omega), pv_nr (by omega), pv_nr (by omega)]
      · refine ⟨fun z => ?_, fun z => ?_⟩
        · rw [a, pv_get, if_pos (by omega)]
          exact hmI
        · rw [a, pv_get, if_neg (by omega), pv_nr (by omega), pv_nr (by omega), pv_nr (by omega), pv_nr (by omega)]
    obtain ⟨h', hh'⟩ : ∃ h', h' = qa_up (qa_up (qa_up (qa_up (qa_up (qa_up (qa_up (qa_up h 4 m x1) 5 m x2) 6 m w) 7 m 0) 10 m 0) 0 4 (h 0 4 + 1)) 0 15 0) 0 26 0 := ⟨_, rfl⟩
    rw [← hh'] at hmm
    have c0 : h' 0 0 = h 0 0 := by rw [hh', pv_ni (by decide), pv_ni (by decide), pv_ni (by decide), pv_nr (by decide), pv_nr (by decide), pv_nr (by decide), pv_nr (by decide), pv_nr (by decide)]
    have c4 : h' 0 4 = h 0 4 + 1 := by rw [hh', pv_ni (by decide), pv_ni (by decide), pv_self]
    have cr : ∀ r i, (1 ≤ r ∧ r < 4 ∨ r = 8 ∨ r = 9 ∨ 11 ≤ r ∧ r < 14) → h' r i = h r i := fun r i hr => by rw [hh', pv_nr (by omega), pv_nr (by omega), pv_nr (by omega), pv_nr (by omega), pv_nr (by omega), pv_nr (by omega), pv_nr (by omega), pv_nr (by omega)]
    have cj : ∀ r j, 4 ≤ r → r < 11 → j ≠ m → h' r j = h r j := fun r j a1 a2 hj => by rw [hh', pv_nr (by omega), pv_nr (by omega), pv_nr (by omega), pv_ni hj, pv_ni hj, pv_ni hj, pv_ni hj, pv_ni hj]
    have cm : h' 4 m = x1 ∧ h' 5 m = x2 ∧ h' 6 m = w ∧ h' 7 m = 0 ∧ h' 10 m = 0 := by
      rw [hh']
      refine ⟨?_, ?_, ?_, ?_, ?_⟩
      · rw [pv_nr (by decide), pv_nr (by decide), pv_nr (by decide), pv_nr (by decide), pv_nr (by decide), pv_nr (by decide), pv_nr (by decide), pv_self]
      · rw [pv_nr (by decide), pv_nr (by decide), pv_nr (by decide), pv_nr (by decide), pv_nr (by decide), pv_nr (by decide), pv_self]
      · rw [pv_nr (by decide), pv_nr (by decide), pv_nr (by decide), pv_nr (by decide), pv_nr (by decide), pv_self]
      · rw [pv_nr (by decide), pv_nr (by decide), pv_nr (by decide), pv_nr (by decide), pv_self]
      · rw [pv_nr (by decide), pv_nr (by decide), pv_nr (by decide), pv_self]
    have hrel := pr_addM (g := g) (h := h) (g' := qa_up (qa_up u 0 4 0) 0 5 0) (h' := h') (x1 := x1) (x2 := x2) (w := w) (m := m) hP0 hR0 hmI hm9 h1 k2 k3 k4 k5 c0 (by rw [c4]; exact ec1) cr cj cm (by rw [du 1 0 (by decide)]; exact u1.1) (by rw [du 1 1 (by decide), c4]; exact u1.2) (fun r i hr => by rw [du r i (by omega)]; exact ur r i hr) (fun r j a1 a2 hj => by rw [du r j (by omega)]; exact uj r j a1 a2 hj) (by rw [du 12 m (by decide), du 13 m (by decide), du 14 m (by decide)]; exact um) (fun c s hc hs => by rw [du (6 + c) s (by omega)]; exact u6 c s hc hs)
    refine pr_new hxx hmm hrel.1 hrel.2 ?_ ?_ ?_ ?_
    · rw [pv_ni (by decide), pv_self]
    · rw [hh', pv_ni (by decide), pv_self]
    · rw [pv_self]
    · rw [hh', pv_self]
  -- the class's tail, once it fits
  have h69 : ∀ x4 : Int32, xf_Pr_addMethod_69 g x1 x2 x3 x4 1 = xf_Pr_addMethod_110 (qa_up (qa_up (qa_up g 1 1 (h 0 4 + 1)) 12 m x1) 13 m x2) x1 x2 x3 x4 (h 0 4) := fun x4 => by
    unfold xf_Pr_addMethod_69
    rw [if_neg (by decide), r2, emc, if_neg hbm, if_neg hbm]
  by_cases h2 : x2 = -1
  · have h2I : x2.toInt = -1 := by rw [h2]; rfl
    rw [if_pos h2] at hx0
    rw [if_neg (by rw [pv_lt, em]; omega), if_pos (by rw [pv_le, e3]; omega), if_pos h2, ms_within, e2] at hm0
    simp only [Option.bind_some, pv_b1] at hm0
    unfold xf_Pr_addMethod_29 at hx0
    rw [if_neg (by decide), xs_within, e3] at hx0
    simp only [Option.bind_some] at hx0
    by_cases h3 : 0 ≤ x3.toInt ∧ x3.toInt ≤ 2
    · rw [if_pos (by omega), h69] at hx0
      rw [if_neg (fun z => z h3)] at hm0
      unfold xf_Pr_addMethod_110 xf_Pr_addMethod_126 at hx0
      rw [if_neg (by decide), emc, if_neg hbm, if_neg (by decide)] at hx0
      exact hfin x3 (Or.inl ⟨h2, rfl⟩) (by omega) h3 (fun z => by omega) _ (Or.inl ⟨rfl, h2I⟩) hx0 hm0
    · rw [if_neg (by omega)] at hx0
      rw [if_pos h3] at hm0
      exact pr_same (v := -1) hI0 (hno (by rw [hx0]; unfold xf_Pr_addMethod_69; rw [if_pos rfl])) hm0
  · have h2I : x2.toInt ≠ -1 := fun z => h2 (by rw [pv_eq, z]; rfl)
    rw [if_neg h2] at hx0 hm0
    unfold xf_Pr_addMethod_29 at hx0
    rw [if_pos rfl, xs_within, e4] at hx0
    simp only [Option.bind_some, pv_b1] at hx0
    by_cases h3 : 0 ≤ x2.toInt ∧ x2.toInt < 4
    · rw [if_neg (fun z => z h3), if_neg (by rw [pv_lt, pv_cl, e0]; omega), if_neg (by rw [pv_lt, pv_cl, e0]; omega), pv_cl x1, pv_cl x2] at hx0
      rw [if_neg (by rw [pv_lt, em]; omega), if_pos (by rw [pv_le, e3]; omega), ms_own hN0 hU hO x1 x2 h1 h3] at hm0
      simp only [Option.bind_some] at hm0
      have hsv := hO x1.toInt.toNat x2.toInt.toNat (by omega) (by omega)
      by_cases h5 : (g (6 + x1.toInt.toNat) x2.toInt.toNat).toInt = -1
      · rw [if_pos (by rw [pv_eq, em]; exact h5), h69] at hx0
        rw [if_pos (by rw [pv_lt, e0]; omega)] at hm0
        unfold xf_Pr_addMethod_110 xf_Pr_addMethod_126 at hx0
        rw [if_pos rfl, emc, if_neg hbm, if_pos rfl, if_neg (by rw [pv_lt, pv_cl, e0]; omega), if_neg (by rw [pv_lt, pv_cl, e0]; omega), pv_cl x1, pv_cl x2] at hx0
        refine hfin 2 (Or.inr ⟨h2, rfl⟩) (by omega) (by rw [e2]; omega) (fun z j hj hq => ?_) _ (Or.inr ⟨rfl, h3.1⟩) hx0 hm0
        rcases hsv with ⟨o1, o2⟩ | ⟨k, o1, o2, o3, o4⟩
        · exact o2 j hj (by omega)
        · omega
      · rw [if_neg (by rw [pv_eq, em]; exact h5)] at hx0
        have hge : ¬ (g (6 + x1.toInt.toNat) x2.toInt.toNat).toInt < 0 := by
          rcases hsv with ⟨o1, o2⟩ | ⟨k, o1, o2, o3, o4⟩
          · exact absurd o1 h5
          · omega
        rw [if_neg (by rw [pv_lt, e0]; exact hge)] at hm0
        exact pr_same (v := -1) hI0 (hno (by rw [hx0]; unfold xf_Pr_addMethod_68 xf_Pr_addMethod_69; rw [if_pos rfl])) hm0
    · rw [if_pos h3] at hx0
      refine pr_same (v := -1) hI0 (hno (by rw [hx0]; unfold xf_Pr_addMethod_68 xf_Pr_addMethod_69; rw [if_pos rfl])) ?_
      rw [hm0]
      by_cases h6 : x2.toInt < -1
      · rw [if_pos (by rw [pv_lt, em]; exact h6)]
      · rw [if_neg (by rw [pv_lt, em]; exact h6), if_neg (by rw [pv_le, e3]; omega)]
