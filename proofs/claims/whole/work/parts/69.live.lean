/-! Promise 11: live, for any PC that says this of the live methods -/
def pr_A (g h : qa_St) : Prop := (∀ m : Nat, (m : Int) < (h 0 4).toInt → (h 18 m = 0 ∧ ¬ pv_bit (g 77 2) m) ∨ (h 18 m = 1 ∧ pv_bit (g 77 2) m)) ∧ ∀ c : Nat, (c : Int) < (h 0 0).toInt → (h 20 c = 0 ∧ ¬ pv_bit (g 77 3) c) ∨ (h 20 c = 1 ∧ pv_bit (g 77 3) c)
theorem xs_live {g : qa_St} (x : Int32) (ha : ¬ g 0 4 = 0) : xf_Cw_live g x = some (if (0 ≤ x.toInt ∧ x.toInt < (g 1 1).toInt) ∧ pv_bit (g 77 2) x.toInt.toNat then 1 else 0, g) := by
  unfold xf_Cw_live
  rw [if_neg ha, xs_isMethod]
  simp only [Option.bind_some, pv_b1]
  by_cases h1 : 0 ≤ x.toInt ∧ x.toInt < (g 1 1).toInt
  · rw [if_neg (fun z => z h1)]
    unfold xf_Re_isLive
    rw [xs_isMethod]
    simp only [Option.bind_some, pv_b1]
    rw [if_neg (fun z => z h1), xs_has _ _ _ h1.1]
    simp only [Option.bind_some, pv_b1]
    by_cases h2 : pv_bit (g 77 2) x.toInt.toNat
    · rw [if_neg (fun z => z h2), if_pos ⟨h1, h2⟩]
      rfl
    · rw [if_pos h2, if_neg (fun z => h2 z.2)]
      rfl
  · rw [if_pos h1, if_neg (fun z => h1 z.1)]
theorem st_live (PC PN : qa_St → qa_St → Prop) (hPC : ∀ g h, PC g h → pr_A g h) (g h : qa_St) (x1 : Int32) (hI : pr_I PC PN g h) : ql_st (pr_I PC PN) (xf_Cw_live g x1) (mf_Mo_live h x1) := by
  obtain ⟨n0, n1, n2, n3⟩ := hI.1.1
  have r2 := hI.2.1.1.2
  have e0 : (0 : Int32).toInt = 0 := rfl
  have e1 : (1 : Int32).toInt = 1 := rfl
  have s2 : (h 0 4 - 1).toInt = (h 0 4).toInt - 1 := by rw [pv_sub (by rw [e1]; omega) (by rw [e1]; omega), e1]
  rcases pr_closed hI with ⟨a, b⟩ | ⟨a, b, p⟩
  · refine pr_same (v := 0) hI ?_ ?_
    · unfold xf_Cw_live
      rw [if_pos a]
    · unfold mf_Mo_live
      rw [if_pos b]
  · have hA := hPC g h p
    rw [xs_live x1 a, r2]
    unfold mf_Mo_live
    rw [if_neg b, ms_within, s2]
    simp only [Option.bind_some, pv_b1]
    by_cases h1 : 0 ≤ x1.toInt ∧ x1.toInt < (h 0 4).toInt
    · rcases hA.1 x1.toInt.toNat (by omega) with ⟨q1, q2⟩ | ⟨q1, q2⟩
      · rw [if_neg (fun z => q2 z.2), if_neg (fun z => z (by omega)), if_neg (by rw [pv_lt, pv_cl, e0]; omega), pv_cl, if_pos q1]
        exact pr_same hI rfl rfl
      · rw [if_pos ⟨h1, q2⟩, if_neg (fun z => z (by omega)), if_neg (by rw [pv_lt, pv_cl, e0]; omega), pv_cl, if_neg (by rw [q1]; decide)]
        exact pr_same hI rfl rfl
    · rw [if_neg (fun z => h1 z.1), if_pos (by omega)]
      exact pr_same hI rfl rfl
