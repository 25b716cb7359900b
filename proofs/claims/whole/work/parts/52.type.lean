/-! Promise 2: type -/
theorem xs_add18n (g : qa_St) (x1 x2 s0 : Int32) (h6 : (g 1 0).toInt ≤ 6) (hf : ∀ c : Nat, (c : Int) < (g 1 0).toInt → 0 ≤ (g 3 c).toInt ∧ (g 3 c).toInt ≤ 6)
    (hno : 6 ≤ (g 1 0).toInt ∨ s0 = 0 ∨ x2.toInt < 0 ∨ 6 - (if 0 ≤ x1.toInt ∧ x1.toInt < (g 1 0).toInt then (g 3 x1.toInt.toNat).toInt else 0) < x2.toInt) : xf_Pr_addType_18 g x1 x2 s0 = some (-1, g) := by
  have e0 : (0 : Int32).toInt = 0 := rfl
  have e6 : (6 : Int32).toInt = 6 := rfl
  unfold xf_Pr_addType_18
  rw [xs_fieldsOf g x1 h6]
  by_cases h1 : 6 ≤ (g 1 0).toInt
  · rw [if_pos (by rw [pv_le, e6]; exact h1)]
  rw [if_neg (by rw [pv_le, e6]; exact h1)]
  by_cases h2 : s0 = 0
  · rw [if_pos h2]
  rw [if_neg h2]
  by_cases h3 : x2.toInt < 0
  · rw [if_pos (by rw [pv_lt, e0]; exact h3)]
  rw [if_neg (by rw [pv_lt, e0]; exact h3)]
  have h4 := hno.resolve_left h1
  have h5 := h4.resolve_left h2
  have h7 := h5.resolve_left h3
  show (if _ ≤ _ then _ else _) = _
  rw [if_neg]
  rw [pv_le]
  by_cases hc : 0 ≤ x1.toInt ∧ x1.toInt < (g 1 0).toInt
  · rw [if_pos hc] at h7
    show ¬ x2.toInt ≤ ((6 : Int32) - (if 0 ≤ x1.toInt ∧ x1.toInt < (g 1 0).toInt then g 3 x1.toInt.toNat else 0)).toInt
    rw [if_pos hc]
    have hb := hf x1.toInt.toNat (by omega)
    rw [pv_sub (by rw [e6]; omega) (by rw [e6]; omega), e6]
    omega
  · rw [if_neg hc] at h7
    show ¬ x2.toInt ≤ ((6 : Int32) - (if 0 ≤ x1.toInt ∧ x1.toInt < (g 1 0).toInt then g 3 x1.toInt.toNat else 0)).toInt
    rw [if_neg hc]
    have : ((6 : Int32) - 0).toInt = 6 := rfl
    rw [this]
    omega
/-- the class's tables behind a new class -/
def xs_newT (g : qa_St) (x1 x2 : Int32) : qa_St := pv_fill (qa_up (qa_up (qa_up (qa_up g 1 0 (g 1 0 + 1)) 2 (g 1 0).toInt.toNat (((1 : Int32) <<< (g 1 0 &&& 31)) ||| (if 0 ≤ x1.toInt ∧ x1.toInt < (g 1 0).toInt then g 2 x1.toInt.toNat else 0))) 3 (g 1 0).toInt.toNat ((if 0 ≤ x1.toInt ∧ x1.toInt < (g 1 0).toInt then g 3 x1.toInt.toNat else 0) + x2)) 4 (g 1 0).toInt.toNat (-1)) (6 + (g 1 0).toInt.toNat) 0 4 (-1)
theorem xs_add18y (g : qa_St) (x1 x2 : Int32) (h0 : 0 ≤ (g 1 0).toInt) (h6 : (g 1 0).toInt < 6) (hf : ∀ c : Nat, (c : Int) < (g 1 0).toInt → 0 ≤ (g 3 c).toInt ∧ (g 3 c).toInt ≤ 6) (hx : x1.toInt = -1 ∨ (0 ≤ x1.toInt ∧ x1.toInt < (g 1 0).toInt)) (h2 : 0 ≤ x2.toInt) (h3 : x2.toInt ≤ 6 - (if 0 ≤ x1.toInt ∧ x1.toInt < (g 1 0).toInt then (g 3 x1.toInt.toNat).toInt else 0)) : xf_Pr_addType_18 g x1 x2 1 = some (g 1 0, xs_newT g x1 x2) := by
  have e0 : (0 : Int32).toInt = 0 := rfl
  have e1 : (1 : Int32).toInt = 1 := rfl
  have e6 : (6 : Int32).toInt = 6 := rfl
  have ea : (g 1 0 + 1).toInt = (g 1 0).toInt + 1 := by rw [pv_add (by rw [e1]; omega) (by rw [e1]; omega), e1]
  unfold xf_Pr_addType_18
  rw [xs_fieldsOf g x1 (by omega), if_neg (by rw [pv_le, e6]; omega), if_neg (by decide), if_neg (by rw [pv_lt, e0]; omega)]
  show (if _ ≤ _ then _ else _) = _
  rw [if_pos]
  · show ((xf_Pr_kinOf (qa_up g 1 0 (g 1 0 + 1)) x1).bind _) = _
    rw [xs_kinOf _ x1 (by rw [pv_self, ea]; omega)]
    show (if g 1 0 < 0 ∨ 6 ≤ (g 1 0).toNatClampNeg then none else _) = _
    rw [if_neg (by rw [pv_lt, pv_cl, e0]; omega)]
    rw [pv_self, ea, pv_nr (by decide)]
    have ek : (if 0 ≤ x1.toInt ∧ x1.toInt < (g 1 0).toInt + 1 then g 2 x1.toInt.toNat else 0) = (if 0 ≤ x1.toInt ∧ x1.toInt < (g 1 0).toInt then g 2 x1.toInt.toNat else 0) := by
      by_cases hc : 0 ≤ x1.toInt ∧ x1.toInt < (g 1 0).toInt
      · rw [if_pos hc, if_pos (by omega)]
      · rw [if_neg hc, if_neg (by omega)]
    rw [ek]
    unfold xf_Pr_addType_83
    have ef : ∀ w : Int32, xf_Pr_fieldsOf (qa_up (qa_up g 1 0 (g 1 0 + 1)) 2 (g 1 0).toNatClampNeg w) x1 = some (if 0 ≤ x1.toInt ∧ x1.toInt < (g 1 0).toInt then g 3 x1.toInt.toNat else 0, qa_up (qa_up g 1 0 (g 1 0 + 1)) 2 (g 1 0).toNatClampNeg w) := fun w => by
      rw [xs_fieldsOf _ x1 (by rw [pv_nr (by decide), pv_self, ea]; omega), pv_nr (by decide), pv_self, ea, pv_nr (by decide), pv_nr (by decide)]
      by_cases hc : 0 ≤ x1.toInt ∧ x1.toInt < (g 1 0).toInt
      · rw [if_pos hc, if_pos (by omega)]
      · rw [if_neg hc, if_neg (by omega)]
    rw [ef]
    simp only [Option.bind_some]
    rw [if_neg (by rw [pv_lt, pv_cl, e0]; omega), if_neg (by rw [pv_lt, pv_cl, e0]; omega), if_neg (by rw [pv_lt, pv_cl, e0]; omega), pv_Afill _ _ 4 (by omega)]
    rfl
  · rw [pv_le]
    by_cases hc : 0 ≤ x1.toInt ∧ x1.toInt < (g 1 0).toInt
    · rw [if_pos hc] at h3
      show x2.toInt ≤ ((6 : Int32) - (if 0 ≤ x1.toInt ∧ x1.toInt < (g 1 0).toInt then g 3 x1.toInt.toNat else 0)).toInt
      rw [if_pos hc]
      have hb := hf x1.toInt.toNat (by omega)
      rw [pv_sub (by rw [e6]; omega) (by rw [e6]; omega), e6]
      omega
    · rw [if_neg hc] at h3
      show x2.toInt ≤ ((6 : Int32) - (if 0 ≤ x1.toInt ∧ x1.toInt < (g 1 0).toInt then g 3 x1.toInt.toNat else 0)).toInt
      rw [if_neg hc]
      have : ((6 : Int32) - 0).toInt = 6 := rfl
      rw [this]
      omega
theorem xs_addType (g : qa_St) (x1 x2 : Int32) (h0 : 0 ≤ (g 1 0).toInt) (h6 : (g 1 0).toInt ≤ 6) (hf : ∀ c : Nat, (c : Int) < (g 1 0).toInt → 0 ≤ (g 3 c).toInt ∧ (g 3 c).toInt ≤ 6) :
    xf_Pr_addType g x1 x2 = if (g 1 0).toInt < 6 ∧ (x1.toInt = -1 ∨ (0 ≤ x1.toInt ∧ x1.toInt < (g 1 0).toInt)) ∧ 0 ≤ x2.toInt ∧ x2.toInt ≤ 6 - (if 0 ≤ x1.toInt ∧ x1.toInt < (g 1 0).toInt then (g 3 x1.toInt.toNat).toInt else 0) then some (g 1 0, xs_newT g x1 x2) else some (-1, g) := by
  have em : (-1 : Int32).toInt = -1 := rfl
  have key : ∀ s0 : Int32, (s0 = 1 ∨ s0 = 0) → (s0 = 1 ↔ (x1.toInt = -1 ∨ (0 ≤ x1.toInt ∧ x1.toInt < (g 1 0).toInt))) → xf_Pr_addType_18 g x1 x2 s0 = if (g 1 0).toInt < 6 ∧ (x1.toInt = -1 ∨ (0 ≤ x1.toInt ∧ x1.toInt < (g 1 0).toInt)) ∧ 0 ≤ x2.toInt ∧ x2.toInt ≤ 6 - (if 0 ≤ x1.toInt ∧ x1.toInt < (g 1 0).toInt then (g 3 x1.toInt.toNat).toInt else 0) then some (g 1 0, xs_newT g x1 x2) else some (-1, g) := by
    intro s0 hs hi
    generalize hfc : (if 0 ≤ x1.toInt ∧ x1.toInt < (g 1 0).toInt then (g 3 x1.toInt.toNat).toInt else 0) = fc
    by_cases hok : (g 1 0).toInt < 6 ∧ (x1.toInt = -1 ∨ (0 ≤ x1.toInt ∧ x1.toInt < (g 1 0).toInt)) ∧ 0 ≤ x2.toInt ∧ x2.toInt ≤ 6 - fc
    · rw [if_pos hok, hi.mpr hok.2.1]
      exact xs_add18y g x1 x2 h0 hok.1 hf hok.2.1 hok.2.2.1 (by rw [hfc]; exact hok.2.2.2)
    · rw [if_neg hok]
      refine xs_add18n g x1 x2 s0 h6 hf ?_
      rw [hfc]
      by_cases ha : 6 ≤ (g 1 0).toInt
      · exact Or.inl ha
      · by_cases hb : s0 = 0
        · exact Or.inr (Or.inl hb)
        · have h1 : s0 = 1 := hs.resolve_right hb
          have h2 := hi.mp h1
          right; right
          by_cases hc : x2.toInt < 0
          · exact Or.inl hc
          · right
            refine Int.not_le.mp (fun hle => hok ⟨by omega, h2, by omega, hle⟩)
  unfold xf_Pr_addType xf_Pr_addType_13
  by_cases h1 : x1 = -1
  · rw [if_pos h1]
    exact key 1 (Or.inl rfl) ⟨fun _ => Or.inl (by rw [h1]; rfl), fun _ => rfl⟩
  · rw [if_neg h1, xs_isType]
    have h1' : x1.toInt ≠ -1 := fun h => h1 (by rw [pv_eq, h]; rfl)
    simp only [Option.bind_some, pv_b1]
    by_cases h2 : 0 ≤ x1.toInt ∧ x1.toInt < (g 1 0).toInt
    · rw [if_neg (fun h => h h2)]
      exact key 1 (Or.inl rfl) ⟨fun _ => Or.inr h2, fun _ => rfl⟩
    · rw [if_pos h2]
      exact key 0 (Or.inr rfl) ⟨fun h => absurd h (by decide), fun h => absurd h (by omega)⟩
