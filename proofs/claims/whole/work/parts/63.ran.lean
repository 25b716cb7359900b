/-! Promises 14 to 20: what a run left behind -/
def pr_N2 (g h : qa_St) : Prop := g 78 12 = h 0 29 ∧ g 78 10 = h 0 30 ∧ g 78 9 = h 0 46 ∧ g 78 8 = h 0 40 ∧ (∀ k : Nat, k < 16 → g 84 k = if (k : Int) < (h 0 46).toInt then h 32 k else 0) ∧ ∀ c : Nat, c < 6 → g 81 c = h 31 c ∧ g 80 c = h 30 c
theorem pr_ran {PC PN : qa_St → qa_St → Prop} {g h : qa_St} (hI : pr_I PC PN g h) : (g 0 5 = 0 ∧ h 0 26 = 0) ∨ (¬ g 0 5 = 0 ∧ ¬ h 0 26 = 0 ∧ PN g h) := by
  obtain ⟨-, -, ⟨-, -, f3, f4⟩, -, f6⟩ := hI
  rcases f4 with z | z
  · exact Or.inl ⟨z, by rw [← f3]; exact z⟩
  · refine Or.inr ⟨by rw [z]; decide, by rw [← f3, z]; decide, f6 z⟩
theorem st_result (PC : qa_St → qa_St → Prop) (g h : qa_St) (hI : pr_I PC pr_N2 g h) : ql_st (pr_I PC pr_N2) (xf_Cw_result g) (mf_Mo_result h) := by
  unfold xf_Cw_result mf_Mo_result
  rcases pr_ran hI with ⟨a, b⟩ | ⟨a, b, p⟩
  · rw [if_pos a, if_pos b]
    exact pr_same hI rfl rfl
  · rw [if_neg a, if_neg b]
    exact pr_same hI (by rw [← p.1]; rfl) rfl
theorem st_steps (PC : qa_St → qa_St → Prop) (g h : qa_St) (hI : pr_I PC pr_N2 g h) : ql_st (pr_I PC pr_N2) (xf_Cw_steps g) (mf_Mo_steps h) := by
  unfold xf_Cw_steps mf_Mo_steps
  rcases pr_ran hI with ⟨a, b⟩ | ⟨a, b, p⟩
  · rw [if_pos a, if_pos b]
    exact pr_same hI rfl rfl
  · rw [if_neg a, if_neg b]
    exact pr_same hI (by rw [← p.2.1]; rfl) rfl
theorem st_prints (PC : qa_St → qa_St → Prop) (g h : qa_St) (hI : pr_I PC pr_N2 g h) : ql_st (pr_I PC pr_N2) (xf_Cw_prints g) (mf_Mo_prints h) := by
  unfold xf_Cw_prints mf_Mo_prints
  rcases pr_ran hI with ⟨a, b⟩ | ⟨a, b, p⟩
  · rw [if_pos a, if_pos b]
    exact pr_same hI rfl rfl
  · rw [if_neg a, if_neg b]
    exact pr_same hI (by rw [← p.2.2.1]; rfl) rfl
theorem st_objects (PC : qa_St → qa_St → Prop) (g h : qa_St) (hI : pr_I PC pr_N2 g h) : ql_st (pr_I PC pr_N2) (xf_Cw_objects g) (mf_Mo_objects h) := by
  unfold xf_Cw_objects mf_Mo_objects
  rcases pr_ran hI with ⟨a, b⟩ | ⟨a, b, p⟩
  · rw [if_pos a, if_pos b]
    exact pr_same hI rfl rfl
  · rw [if_neg a, if_neg b]
    exact pr_same hI (by rw [← p.2.2.2.1]; rfl) rfl
theorem st_printed (PC : qa_St → qa_St → Prop) (g h : qa_St) (x1 : Int32) (hI : pr_I PC pr_N2 g h) : ql_st (pr_I PC pr_N2) (xf_Cw_printed g x1) (mf_Mo_printed h x1) := by
  have e0 : (0 : Int32).toInt = 0 := rfl
  have e15 : (15 : Int32).toInt = 15 := rfl
  have e16 : (16 : Int32).toInt = 16 := rfl
  unfold xf_Cw_printed mf_Mo_printed
  rcases pr_ran hI with ⟨a, b⟩ | ⟨a, b, p⟩
  · rw [if_pos a, if_pos b]
    exact pr_same hI rfl rfl
  · rw [if_neg a, if_neg b]
    unfold xf_Ma_printOf
    rw [xs_within, ms_within, e15, e16]
    simp only [Option.bind_some, pv_b1]
    by_cases h1 : 0 ≤ x1.toInt ∧ x1.toInt < 16
    · rw [if_neg (fun z => z h1), if_neg (by rw [pv_lt, pv_cl, e0]; omega), if_neg (fun z => z (by omega)), pv_cl, p.2.2.2.2.1 x1.toInt.toNat (by omega)]
      by_cases h2 : (h 0 46).toInt ≤ x1.toInt
      · rw [if_neg (show ¬ ((x1.toInt.toNat : Nat) : Int) < (h 0 46).toInt by omega), if_pos (by rw [pv_le]; exact h2)]
        exact pr_same hI rfl rfl
      · rw [if_pos (show ((x1.toInt.toNat : Nat) : Int) < (h 0 46).toInt by omega), if_neg (by rw [pv_le]; exact h2), if_neg (by first | (rw [pv_lt, pv_cl, e0]; omega) | (rw [pv_lt, e0]; omega))]
        exact pr_same hI rfl rfl
    · rw [if_pos h1, if_pos (by omega)]
      exact pr_same hI rfl rfl
theorem st_begun (PC : qa_St → qa_St → Prop) (g h : qa_St) (x1 : Int32) (hI : pr_I PC pr_N2 g h) : ql_st (pr_I PC pr_N2) (xf_Cw_begun g x1) (mf_Mo_begun h x1) := by
  have e0 : (0 : Int32).toInt = 0 := rfl
  have e1 : (1 : Int32).toInt = 1 := rfl
  have e6 : (6 : Int32).toInt = 6 := rfl
  obtain ⟨n0, n1, n2, n3⟩ := hI.1.1
  have r1 := hI.2.1.1.1
  have s1 : (h 0 0 - 1).toInt = (h 0 0).toInt - 1 := by rw [pv_sub (by rw [e1]; omega) (by rw [e1]; omega), e1]
  unfold xf_Cw_begun mf_Mo_begun
  rcases pr_ran hI with ⟨a, b⟩ | ⟨a, b, p⟩
  · rw [if_pos a, if_pos b]
    exact pr_same hI rfl rfl
  · rw [if_neg a, if_neg b, xs_isType, r1, ms_within, s1]
    simp only [Option.bind_some, pv_b1]
    by_cases h1 : 0 ≤ x1.toInt ∧ x1.toInt < (h 0 0).toInt
    · rw [if_neg (fun z => z h1), if_neg (fun z => z (by omega)), if_neg (by rw [pv_lt, pv_cl, e0]; omega), pv_cl]
      unfold xf_Ma_orderOf
      rw [xs_within, e6]
      simp only [Option.bind_some, pv_b1]
      rw [if_neg (fun z => z (by omega)), if_neg (by rw [pv_lt, pv_cl, e0]; omega), pv_cl, (p.2.2.2.2.2 x1.toInt.toNat (by omega)).1]
      exact pr_same hI rfl rfl
    · rw [if_pos h1, if_pos (by omega)]
      exact pr_same hI rfl rfl
theorem st_kept (PC : qa_St → qa_St → Prop) (g h : qa_St) (x1 : Int32) (hI : pr_I PC pr_N2 g h) : ql_st (pr_I PC pr_N2) (xf_Cw_kept g x1) (mf_Mo_kept h x1) := by
  have e0 : (0 : Int32).toInt = 0 := rfl
  have e1 : (1 : Int32).toInt = 1 := rfl
  have e6 : (6 : Int32).toInt = 6 := rfl
  obtain ⟨n0, n1, n2, n3⟩ := hI.1.1
  have r1 := hI.2.1.1.1
  have s1 : (h 0 0 - 1).toInt = (h 0 0).toInt - 1 := by rw [pv_sub (by rw [e1]; omega) (by rw [e1]; omega), e1]
  unfold xf_Cw_kept mf_Mo_kept
  rcases pr_ran hI with ⟨a, b⟩ | ⟨a, b, p⟩
  · rw [if_pos a, if_pos b]
    exact pr_same hI rfl rfl
  · rw [if_neg a, if_neg b, xs_isType, r1, ms_within, s1]
    simp only [Option.bind_some, pv_b1]
    by_cases h1 : 0 ≤ x1.toInt ∧ x1.toInt < (h 0 0).toInt
    · rw [if_neg (fun z => z h1), if_neg (fun z => z (by omega)), if_neg (by rw [pv_lt, pv_cl, e0]; omega), pv_cl]
      unfold xf_Ma_staticOf
      rw [xs_within, e6]
      simp only [Option.bind_some, pv_b1]
      rw [if_neg (fun z => z (by omega)), if_neg (by rw [pv_lt, pv_cl, e0]; omega), pv_cl, (p.2.2.2.2.2 x1.toInt.toNat (by omega)).2]
      exact pr_same hI rfl rfl
    · rw [if_pos h1, if_pos (by omega)]
      exact pr_same hI rfl rfl
