/-! Bits: the classes that a class is of -/
abbrev pv_bit (x : Int32) (k : Nat) : Prop := ¬ ((x >>> (Int32.ofNat k &&& 31)) &&& 1) = 0
theorem pv_or_and (p q : Int32) : (p ||| q) &&& 1 = (p &&& 1) ||| (q &&& 1) := by
  apply Int32.toBitVec_inj.mp
  apply BitVec.eq_of_getLsbD_eq
  intro i hi
  simp [Bool.and_or_distrib_right]
theorem pv_bit_or (a b : Int32) (k : Nat) : pv_bit (a ||| b) k ↔ (pv_bit a k ∨ pv_bit b k) := by
  unfold pv_bit
  rw [Int32.shiftRight_or, pv_or_and, Int32.or_eq_zero_iff]
  constructor
  · intro h
    by_cases h1 : ((a >>> (Int32.ofNat k &&& 31)) &&& 1) = 0
    · exact Or.inr (fun h2 => h ⟨h1, h2⟩)
    · exact Or.inl h1
  · intro h q
    rcases h with h | h
    · exact h q.1
    · exact h q.2
theorem pv_bit_one : ∀ j, j < 10 → ∀ k, k < 10 → (pv_bit ((1 : Int32) <<< (Int32.ofNat j &&& 31)) k ↔ j = k) := by decide +kernel
theorem pv_bit_zero : ∀ k, k < 10 → ¬ pv_bit 0 k := by decide +kernel
theorem xs_has (g : qa_St) (x y : Int32) (hy : 0 ≤ y.toInt) : xf_Cw_has g x y = some (if pv_bit x y.toInt.toNat then 1 else 0, g) := by
  unfold xf_Cw_has pv_bit
  rw [← pv_nIe hy]
  by_cases h : ((x >>> (y &&& 31)) &&& 1) = 0
  · rw [if_pos h, if_neg (fun z => z h)]
  · rw [if_neg h, if_pos h]
theorem pr_bit {g h : qa_St} (hN : pr_N h) (hT : pr_T g h) {c : Nat} (hc : (c : Int) < (h 0 0).toInt) (d : Nat) (hd : d < 10) : pv_bit (g 2 c) d ↔ (d = c ∨ (0 ≤ (h 1 c).toInt ∧ pv_bit (g 2 (h 1 c).toInt.toNat) d)) := by
  obtain ⟨n0, n1, n2, n3⟩ := hN
  rw [(hT c hc).1, pv_bit_or, pv_bit_one c (by omega) d hd]
  by_cases hp : (h 1 c).toInt < 0
  · rw [if_pos hp]
    constructor
    · intro z
      rcases z with z | z
      · exact Or.inl z.symm
      · exact absurd z (pv_bit_zero d hd)
    · intro z
      rcases z with z | z
      · exact Or.inl z.symm
      · omega
  · rw [if_neg hp]
    constructor
    · intro z
      rcases z with z | z
      · exact Or.inl z.symm
      · exact Or.inr ⟨by omega, z⟩
    · intro z
      rcases z with z | z
      · exact Or.inl z.symm
      · exact Or.inr z.2
theorem pr_bit_le {g h : qa_St} (hN : pr_N h) (hC : pr_C h) (hT : pr_T g h) : ∀ (c : Nat), (c : Int) < (h 0 0).toInt → ∀ d, d < 10 → pv_bit (g 2 c) d → d ≤ c := by
  intro c
  induction c using Nat.strongRecOn with
  | _ c ih =>
    intro hc d hd hb
    rcases (pr_bit hN hT hc d hd).mp hb with h1 | ⟨h1, h2⟩
    · omega
    · have q := hC c hc
      have := ih (h 1 c).toInt.toNat (by omega) (by omega) d hd h2
      omega
