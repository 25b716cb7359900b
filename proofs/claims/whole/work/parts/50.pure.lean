/-! The pure side: numbers -/
theorem pv_lt (x y : Int32) : x < y ↔ x.toInt < y.toInt := Int32.lt_iff_toInt_lt
theorem pv_le (x y : Int32) : x ≤ y ↔ x.toInt ≤ y.toInt := Int32.le_iff_toInt_le
theorem pv_eq (x y : Int32) : x = y ↔ x.toInt = y.toInt := Int32.toInt_inj.symm
theorem pv_cl (x : Int32) : x.toNatClampNeg = x.toInt.toNat := rfl
theorem pv_bd (x : Int32) : -2147483648 ≤ x.toInt ∧ x.toInt ≤ 2147483647 := ⟨Int32.le_toInt x, by have := Int32.toInt_lt x; omega⟩
theorem pv_add {x y : Int32} (h1 : -2147483648 ≤ x.toInt + y.toInt) (h2 : x.toInt + y.toInt ≤ 2147483647) : (x + y).toInt = x.toInt + y.toInt := by
  rw [Int32.toInt_add]
  exact Int.bmod_eq_of_le (by omega) (by omega)
theorem pv_sub {x y : Int32} (h1 : -2147483648 ≤ x.toInt - y.toInt) (h2 : x.toInt - y.toInt ≤ 2147483647) : (x - y).toInt = x.toInt - y.toInt := by
  rw [Int32.toInt_sub]
  exact Int.bmod_eq_of_le (by omega) (by omega)
theorem pv_mul {x y : Int32} (h1 : -2147483648 ≤ x.toInt * y.toInt) (h2 : x.toInt * y.toInt ≤ 2147483647) : (x * y).toInt = x.toInt * y.toInt := by
  rw [Int32.toInt_mul]
  exact Int.bmod_eq_of_le (by omega) (by omega)
theorem pv_nI {n : Nat} (h : n ≤ 2147483647) : (Int32.ofNat n).toInt = (n : Int) := nI_toInt (n := n) (by omega)
theorem pv_nIe {x : Int32} (h : 0 ≤ x.toInt) : x = Int32.ofNat x.toInt.toNat := by
  rw [pv_eq, pv_nI (by have := pv_bd x; omega)]
  omega
theorem pv_get (g : qa_St) (r i : Nat) (v : Int32) (a b : Nat) : qa_up g r i v a b = if a = r ∧ b = i then v else g a b := by
  unfold qa_up upd
  by_cases h1 : a = r
  · by_cases h2 : b = i
    · simp [h1, h2]
    · simp [h1, h2]
  · simp [h1]
theorem pv_self {g : qa_St} {r i : Nat} {v : Int32} : qa_up g r i v r i = v := by rw [pv_get, if_pos ⟨rfl, rfl⟩]
theorem pv_nr {g : qa_St} {r i a b : Nat} {v : Int32} (h : a ≠ r) : qa_up g r i v a b = g a b := by rw [pv_get, if_neg (fun q => h q.1)]
theorem pv_ni {g : qa_St} {r i a b : Nat} {v : Int32} (h : b ≠ i) : qa_up g r i v a b = g a b := by rw [pv_get, if_neg (fun q => h q.2)]
def pv_fill (g : qa_St) (r i n : Nat) (v : Int32) : qa_St := fun a b => if a = r ∧ i ≤ b ∧ b < n then v else g a b
theorem pv_fill_out {g : qa_St} {r i n a b : Nat} {v : Int32} (h : a ≠ r ∨ b < i ∨ n ≤ b) : pv_fill g r i n v a b = g a b := by
  unfold pv_fill
  rw [if_neg (by omega)]
theorem pv_fill_in {g : qa_St} {r i n b : Nat} {v : Int32} (h1 : i ≤ b) (h2 : b < n) : pv_fill g r i n v r b = v := by
  unfold pv_fill
  rw [if_pos ⟨rfl, h1, h2⟩]
theorem pv_fill_step {g : qa_St} {r i n : Nat} {v : Int32} (h : i < n) : pv_fill (qa_up g r i v) r (i + 1) n v = pv_fill g r i n v := by
  funext a b
  unfold pv_fill
  by_cases h1 : a = r ∧ i + 1 ≤ b ∧ b < n
  · rw [if_pos h1, if_pos (by omega)]
  · rw [if_neg h1, pv_get]
    by_cases h2 : a = r ∧ b = i
    · rw [if_pos h2, if_pos (by omega)]
    · rw [if_neg h2, if_neg (by omega)]
theorem pv_fill_nil {g : qa_St} {r i n : Nat} {v : Int32} (h : n ≤ i) : pv_fill g r i n v = g := by
  funext a b
  unfold pv_fill
  rw [if_neg (by omega)]
theorem pv_fill5 (r n : Nat) (hn : n ≤ 2147483647) (v : Int32) : ∀ (k : Nat) (fu : Nat) (g : qa_St) (i : Nat), i + k = n → k < fu → xf_Ar_fill_5 r n fu g v (Int32.ofNat i) (Int32.ofNat n) = some (0, pv_fill g r i n v) := by
  intro k
  induction k with
  | zero =>
    intro fu g i hk hf
    obtain ⟨fu, rfl⟩ : ∃ z, fu = z + 1 := ⟨fu - 1, by omega⟩
    rw [xf_Ar_fill_5, if_pos (by rw [pv_le, pv_nI hn, pv_nI (by omega)]; omega), pv_fill_nil (by omega)]
  | succ k ih =>
    intro fu g i hk hf
    obtain ⟨fu, rfl⟩ : ∃ z, fu = z + 1 := ⟨fu - 1, by omega⟩
    have hi : (Int32.ofNat i).toInt = (i : Int) := pv_nI (by omega)
    have h0 : (0 : Int32).toInt = 0 := rfl
    rw [xf_Ar_fill_5, if_neg (by rw [pv_le, pv_nI hn, hi]; omega), if_neg (by rw [pv_lt, pv_cl, hi, h0]; omega)]
    have e : Int32.ofNat i + 1 = Int32.ofNat (i + 1) := nI_1 i
    rw [e, ih fu _ (i + 1) (by omega) (by omega), pv_cl, hi]
    rw [show ((i : Int)).toNat = i by omega, pv_fill_step (by omega)]
theorem pv_Afill (g : qa_St) (r n : Nat) (hn : n ≤ 4000) (v : Int32) : xf_Ar_fill g r n v = some (0, pv_fill g r 0 n v) := by
  unfold xf_Ar_fill
  exact pv_fill5 r n (by omega) v n 4096 g 0 (by omega) (by omega)
/-! The class's questions about the program -/
theorem xs_isType (g : qa_St) (x : Int32) : xf_Pr_isType g x = some (if 0 ≤ x.toInt ∧ x.toInt < (g 1 0).toInt then 1 else 0, g) := by
  have h0 : (0 : Int32).toInt = 0 := rfl
  unfold xf_Pr_isType
  simp only [pv_lt, pv_le, h0]
  by_cases h1 : x.toInt < 0
  · rw [if_pos h1, if_neg (by omega)]
  · rw [if_neg h1]
    by_cases h2 : (g 1 0).toInt ≤ x.toInt
    · rw [if_pos h2, if_neg (by omega)]
    · rw [if_neg h2, if_pos (by omega)]
theorem xs_isMethod (g : qa_St) (x : Int32) : xf_Pr_isMethod g x = some (if 0 ≤ x.toInt ∧ x.toInt < (g 1 1).toInt then 1 else 0, g) := by
  have h0 : (0 : Int32).toInt = 0 := rfl
  unfold xf_Pr_isMethod
  simp only [pv_lt, pv_le, h0]
  by_cases h1 : x.toInt < 0
  · rw [if_pos h1, if_neg (by omega)]
  · rw [if_neg h1]
    by_cases h2 : (g 1 1).toInt ≤ x.toInt
    · rw [if_pos h2, if_neg (by omega)]
    · rw [if_neg h2, if_pos (by omega)]
theorem xs_within (g : qa_St) (x y : Int32) : xf_Cw_within g x y = some (if 0 ≤ x.toInt ∧ x.toInt < y.toInt then 1 else 0, g) := by
  have h0 : (0 : Int32).toInt = 0 := rfl
  unfold xf_Cw_within
  simp only [pv_lt, pv_le, h0]
  by_cases h1 : x.toInt < 0
  · rw [if_pos h1, if_neg (by omega)]
  · rw [if_neg h1]
    by_cases h2 : y.toInt ≤ x.toInt
    · rw [if_pos h2, if_neg (by omega)]
    · rw [if_neg h2, if_pos (by omega)]
theorem pv_b1 {p : Prop} [Decidable p] : ((if p then 1 else 0 : Int32) = 0) ↔ ¬ p := by
  by_cases h : p
  · simp [h]
  · simp [h]
theorem xs_kinOf (g : qa_St) (x : Int32) (hg : (g 1 0).toInt ≤ 6) : xf_Pr_kinOf g x = some (if 0 ≤ x.toInt ∧ x.toInt < (g 1 0).toInt then g 2 x.toInt.toNat else 0, g) := by
  have h0 : (0 : Int32).toInt = 0 := rfl
  unfold xf_Pr_kinOf
  rw [xs_isType]
  simp only [Option.bind_some, pv_b1, pv_lt, pv_cl, h0]
  by_cases h : 0 ≤ x.toInt ∧ x.toInt < (g 1 0).toInt
  · rw [if_neg (by omega), if_neg (by omega), if_pos h]
  · rw [if_pos h, if_neg h]
theorem xs_fieldsOf (g : qa_St) (x : Int32) (hg : (g 1 0).toInt ≤ 6) : xf_Pr_fieldsOf g x = some (if 0 ≤ x.toInt ∧ x.toInt < (g 1 0).toInt then g 3 x.toInt.toNat else 0, g) := by
  have h0 : (0 : Int32).toInt = 0 := rfl
  unfold xf_Pr_fieldsOf
  rw [xs_isType]
  simp only [Option.bind_some, pv_b1, pv_lt, pv_cl, h0]
  by_cases h : 0 ≤ x.toInt ∧ x.toInt < (g 1 0).toInt
  · rw [if_neg (by omega), if_neg (by omega), if_pos h]
  · rw [if_pos h, if_neg h]
theorem ms_within (g : qa_St) (x y : Int32) : mf_Mo_within g x y = some (if 0 ≤ x.toInt ∧ x.toInt ≤ y.toInt then 1 else 0, g) := by
  have h0 : (0 : Int32).toInt = 0 := rfl
  unfold mf_Mo_within
  simp only [pv_lt, h0]
  by_cases h1 : x.toInt < 0
  · rw [if_pos h1, if_neg (by omega)]
  · rw [if_neg h1]
    by_cases h2 : y.toInt < x.toInt
    · rw [if_pos h2, if_neg (by omega)]
    · rw [if_neg h2, if_pos (by omega)]
