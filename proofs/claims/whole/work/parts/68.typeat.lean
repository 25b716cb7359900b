theorem st_typeAt (PC PN : qa_St → qa_St → Prop) (hPC : ∀ g h, PC g h → pr_D g h) (g h : qa_St) (x1 x2 x3 : Int32) (hI : pr_I PC PN g h) : ql_st (pr_I PC PN) (xf_Cw_typeAt g x1 x2 x3) (mf_Mo_typeAt h x1 x2 x3) := by
  have hN := hI.1.1
  obtain ⟨n0, n1, n2, n3⟩ := hI.1.1
  have r2 := hI.2.1.1.2
  have e0 : (0 : Int32).toInt = 0 := rfl
  have e3 : (3 : Int32).toInt = 3 := rfl
  have e4 : (4 : Int32).toInt = 4 := rfl
  have e10 : (10 : Int32).toInt = 10 := rfl
  rcases pr_closed hI with ⟨a, b⟩ | ⟨a, b, p⟩
  · refine pr_same (v := -1) hI ?_ ?_
    · unfold xf_Cw_typeAt
      rw [if_pos a]
    · unfold mf_Mo_typeAt mf_Mo_reachedAt
      rw [if_pos b]
      rfl
  · have hD := hPC g h p
    unfold xf_Cw_typeAt xf_Ch_typeOf mf_Mo_typeAt
    rw [if_neg a, xs_isReached hN r2 hD, ms_reachedAt hN hD b]
    simp only [Option.bind_some, pv_b1]
    by_cases hr : (0 ≤ x1.toInt ∧ x1.toInt < (h 0 4).toInt) ∧ (0 ≤ x2.toInt ∧ x2.toInt < 20) ∧ h 14 (20 * x1.toInt.toNat + x2.toInt.toNat) = 1
    · have er := pr_row (h := h) x1 x2 (by omega) hr.2.1
      obtain ⟨r, hrr⟩ : ∃ r : Nat, r = 20 * x1.toInt.toNat + x2.toInt.toNat := ⟨_, rfl⟩
      rw [← hrr] at er
      have hr200 : r < 200 := by omega
      have hd := hD x1.toInt.toNat x2.toInt.toNat (by omega) (by omega)
      rw [← hrr] at hd
      rw [if_neg (fun z => z hr), if_neg (fun z => z hr)]
      unfold xf_Ch_rowOf
      simp only [Option.bind_some]
      rw [if_neg (by rw [pv_lt, pv_cl, er.1, e0]; omega), if_neg (by rw [pv_lt, pv_cl, er.2, e0]; omega), pv_cl (x1 * 20 + x2), pv_cl (20 * x1 + x2), er.1, er.2, Int.toNat_natCast, xs_within, ms_within]
      simp only [Option.bind_some, pv_b1]
      rcases hd with ⟨q1, q2⟩ | ⟨q1, q2, q3, q4, q5⟩
      · rw [← hrr] at hr
        exact absurd (q1.symm.trans hr.2.2) (by decide)
      · have t1 : ((4 : Int32) + g 74 r).toInt = 4 + (h 15 r).toInt := by rw [q2, pv_add (by rw [e4]; omega) (by rw [e4]; omega), e4]
        have t2 : ((3 : Int32) + h 15 r).toInt = 3 + (h 15 r).toInt := by rw [pv_add (by rw [e3]; omega) (by rw [e3]; omega), e3]
        rw [t1, t2]
        by_cases h3 : 0 ≤ x3.toInt ∧ x3.toInt < 4 + (h 15 r).toInt
        · have u1 : ((x1 * 20 + x2) * 10 + x3).toInt = ((10 * r + x3.toInt.toNat : Nat) : Int) := by
            have v : ((x1 * 20 + x2) * 10).toInt = 10 * (r : Int) := by rw [pv_mul (by rw [er.1, e10]; omega) (by rw [er.1, e10]; omega), er.1, e10]; omega
            rw [pv_add (by rw [v]; omega) (by rw [v]; omega), v]
            omega
          have u2 : ((10 : Int32) * (20 * x1 + x2) + x3).toInt = ((10 * r + x3.toInt.toNat : Nat) : Int) := by
            have v : ((10 : Int32) * (20 * x1 + x2)).toInt = 10 * (r : Int) := by rw [pv_mul (by rw [er.2, e10]; omega) (by rw [er.2, e10]; omega), er.2, e10]
            rw [pv_add (by rw [v]; omega) (by rw [v]; omega), v]
            omega
          rw [if_neg (fun z => z h3), if_neg (by rw [pv_lt, pv_cl, u1, e0]; omega), if_neg (fun z => z (by omega)), if_neg (by rw [pv_lt, pv_cl, u2, e0]; omega), pv_cl ((x1 * 20 + x2) * 10 + x3), pv_cl (10 * (20 * x1 + x2) + x3), u1, u2, Int.toNat_natCast, q5 x3.toInt.toNat (by omega)]
          exact pr_same hI rfl rfl
        · rw [if_pos h3, if_pos (by omega)]
          exact pr_same hI rfl rfl
    · rw [if_pos hr, if_pos hr]
      exact pr_same hI rfl rfl
