/-! Promise 8: typeAt, for any PC that says this of the check -/
def pr_D (g h : qa_St) : Prop := ∀ m i : Nat, (m : Int) < (h 0 4).toInt → i < 20 →
  (h 14 (20 * m + i) = 0 ∧ g 74 (20 * m + i) = -1) ∨ (h 14 (20 * m + i) = 1 ∧ g 74 (20 * m + i) = h 15 (20 * m + i) ∧ 0 ≤ (h 15 (20 * m + i)).toInt ∧ (h 15 (20 * m + i)).toInt ≤ 6 ∧ ∀ p : Nat, (p : Int) < 4 + (h 15 (20 * m + i)).toInt → g 73 (10 * (20 * m + i) + p) = h 16 (10 * (20 * m + i) + p))
theorem pr_closed {PC PN : qa_St → qa_St → Prop} {g h : qa_St} (hI : pr_I PC PN g h) : (g 0 4 = 0 ∧ h 0 15 = 0) ∨ (¬ g 0 4 = 0 ∧ ¬ h 0 15 = 0 ∧ PC g h) := by
  obtain ⟨-, -, ⟨f1, f2, -, -⟩, f5, -⟩ := hI
  rcases f2 with z | z
  · exact Or.inl ⟨z, by rw [← f1]; exact z⟩
  · exact Or.inr ⟨by rw [z]; decide, by rw [← f1, z]; decide, f5 z⟩
/-- the row of an instruction, in both -/
theorem pr_row {h : qa_St} (x y : Int32) (hx : 0 ≤ x.toInt ∧ x.toInt < 10) (hy : 0 ≤ y.toInt ∧ y.toInt < 20) : (x * 20 + y).toInt = ((20 * x.toInt.toNat + y.toInt.toNat : Nat) : Int) ∧ ((20 : Int32) * x + y).toInt = ((20 * x.toInt.toNat + y.toInt.toNat : Nat) : Int) := by
  have e20 : (20 : Int32).toInt = 20 := rfl
  have e1 : (x * 20).toInt = 20 * x.toInt := by rw [pv_mul (by rw [e20]; omega) (by rw [e20]; omega), e20]; omega
  have e2 : ((20 : Int32) * x).toInt = 20 * x.toInt := by rw [pv_mul (by rw [e20]; omega) (by rw [e20]; omega), e20]
  constructor
  · rw [pv_add (by omega) (by omega), e1]
    omega
  · rw [pv_add (by omega) (by omega), e2]
    omega
theorem xs_isReached {g h : qa_St} (hN : pr_N h) (r2 : g 1 1 = h 0 4) (hD : pr_D g h) (x y : Int32) : xf_Ch_isReached g x y = some (if (0 ≤ x.toInt ∧ x.toInt < (h 0 4).toInt) ∧ (0 ≤ y.toInt ∧ y.toInt < 20) ∧ h 14 (20 * x.toInt.toNat + y.toInt.toNat) = 1 then 1 else 0, g) := by
  obtain ⟨n0, n1, n2, n3⟩ := hN
  have e0 : (0 : Int32).toInt = 0 := rfl
  have e20 : (20 : Int32).toInt = 20 := rfl
  unfold xf_Ch_isReached
  rw [xs_isMethod, r2]
  simp only [Option.bind_some, pv_b1]
  by_cases h1 : 0 ≤ x.toInt ∧ x.toInt < (h 0 4).toInt
  · rw [if_neg (fun z => z h1), xs_within, e20]
    simp only [Option.bind_some, pv_b1]
    by_cases h2 : 0 ≤ y.toInt ∧ y.toInt < 20
    · have er := (pr_row (h := h) x y (by omega) h2).1
      rw [if_neg (fun z => z h2)]
      unfold xf_Ch_rowOf
      simp only [Option.bind_some]
      rw [if_neg (by rw [pv_lt, pv_cl, er, e0]; omega), pv_cl, er, Int.toNat_natCast]
      rcases hD x.toInt.toNat y.toInt.toNat (by omega) (by omega) with ⟨a, b⟩ | ⟨a, b, c, d, -⟩
      · rw [if_pos b, if_neg (fun z => absurd (a.symm.trans z.2.2) (by decide))]
      · rw [if_neg (by rw [b, pv_eq]; show ¬ _ = (-1 : Int32).toInt; have : (-1 : Int32).toInt = -1 := rfl; omega), if_pos ⟨h1, h2, a⟩]
    · rw [if_pos h2, if_neg (fun z => h2 z.2.1)]
  · rw [if_pos h1, if_neg (fun z => h1 z.1)]
theorem ms_reachedAt {g h : qa_St} (hN : pr_N h) (hD : pr_D g h) (hc : ¬ h 0 15 = 0) (x y : Int32) : mf_Mo_reachedAt h x y = some (if (0 ≤ x.toInt ∧ x.toInt < (h 0 4).toInt) ∧ (0 ≤ y.toInt ∧ y.toInt < 20) ∧ h 14 (20 * x.toInt.toNat + y.toInt.toNat) = 1 then 1 else 0, h) := by
  obtain ⟨n0, n1, n2, n3⟩ := hN
  have e0 : (0 : Int32).toInt = 0 := rfl
  have e1 : (1 : Int32).toInt = 1 := rfl
  have e19 : (19 : Int32).toInt = 19 := rfl
  have s2 : (h 0 4 - 1).toInt = (h 0 4).toInt - 1 := by rw [pv_sub (by rw [e1]; omega) (by rw [e1]; omega), e1]
  unfold mf_Mo_reachedAt
  rw [if_neg hc, ms_within, s2]
  simp only [Option.bind_some, pv_b1]
  by_cases h1 : 0 ≤ x.toInt ∧ x.toInt < (h 0 4).toInt
  · rw [if_neg (fun z => z (by omega)), ms_within, e19]
    simp only [Option.bind_some, pv_b1]
    by_cases h2 : 0 ≤ y.toInt ∧ y.toInt < 20
    · have er := (pr_row (h := h) x y (by omega) h2).2
      rw [if_neg (fun z => z (by omega)), if_neg (by rw [pv_lt, pv_cl, er, e0]; omega), pv_cl, er, Int.toNat_natCast]
      rcases hD x.toInt.toNat y.toInt.toNat (by omega) (by omega) with ⟨a, b⟩ | ⟨a, b, c, d, -⟩
      · rw [if_pos a, if_neg (fun z => absurd (a.symm.trans z.2.2) (by decide))]
      · rw [if_neg (by rw [a]; decide), if_pos ⟨h1, h2, a⟩]
    · rw [if_pos (by omega), if_neg (fun z => h2 z.2.1)]
  · rw [if_pos (by omega), if_neg (fun z => h1 z.1)]
