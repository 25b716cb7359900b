theorem ms_width {g h : qa_St} (hN : pr_N h) (hC : pr_C h) (hT : pr_T g h) : ∀ (c : Nat), (c : Int) < (h 0 0).toInt → ∀ (n : Nat) (acc : Int32), c < n → mf_Mo_width_4 (n + 1) h acc (Int32.ofNat c) = some (acc + g 3 c, h) := by
  intro c
  induction c using Nat.strongRecOn with
  | _ c ih =>
    intro hc n acc hn
    have e0 : (0 : Int32).toInt = 0 := rfl
    obtain ⟨n0, n1, -, -⟩ := hN
    have ec : (Int32.ofNat c).toInt = (c : Int) := pv_nI (by omega)
    obtain ⟨p1, p2, f1, f2, -⟩ := hC c hc
    obtain ⟨-, t2, t3, t4, -⟩ := hT c hc
    rw [mf_Mo_width_4, if_neg (by rw [pv_lt, ec, e0]; omega), if_neg (by rw [pv_lt, pv_cl, ec, e0]; omega), if_neg (by rw [pv_lt, pv_cl, ec, e0]; omega)]
    rw [pv_cl, ec, show ((c : Int)).toNat = c by omega]
    obtain ⟨n, rfl⟩ : ∃ z, n = z + 1 := ⟨n - 1, by omega⟩
    by_cases hp : (h 1 c).toInt < 0
    · rw [if_pos hp] at t2
      rw [mf_Mo_width_4, if_pos (by rw [pv_lt, e0]; exact hp)]
      have : g 3 c = h 2 c := by rw [pv_eq]; omega
      rw [this]
    · rw [if_neg hp] at t2
      have hb := hT (h 1 c).toInt.toNat (by omega)
      have e1 : h 1 c = Int32.ofNat (h 1 c).toInt.toNat := pv_nIe (by omega)
      rw [e1, ih (h 1 c).toInt.toNat (by omega) (by omega) n _ (by omega)]
      have : g 3 c = h 2 c + g 3 (h 1 c).toInt.toNat := by
        rw [pv_eq, pv_add (by omega) (by omega)]
        exact t2
      rw [this, Int32.add_assoc]
theorem ms_type46 (h : qa_St) (x1 x2 s0 : Int32) (hc0 : 0 ≤ (h 0 0).toInt) (hc6 : (h 0 0).toInt < 6) (hs : 0 ≤ s0.toInt ∧ s0.toInt ≤ 6) (h2 : 0 ≤ x2.toInt ∧ x2.toInt ≤ 6) :
    mf_Mo_type_46 h x1 x2 s0 = if s0.toInt + x2.toInt ≤ 6 then some (h 0 0, qa_up (qa_up (qa_up (qa_up (qa_up (qa_up h 1 (h 0 0).toInt.toNat x1) 2 (h 0 0).toInt.toNat x2) 3 (h 0 0).toInt.toNat (-1)) 0 0 (h 0 0 + 1)) 0 15 0) 0 26 0) else some (-1, h) := by
  have e0 : (0 : Int32).toInt = 0 := rfl
  have e1 : (1 : Int32).toInt = 1 := rfl
  have e6 : (6 : Int32).toInt = 6 := rfl
  have es : (s0 + x2).toInt = s0.toInt + x2.toInt := pv_add (by omega) (by omega)
  unfold mf_Mo_type_46
  by_cases hle : s0.toInt + x2.toInt ≤ 6
  · rw [if_pos hle, if_pos (by rw [pv_le, es, e6]; exact hle), if_neg (by rw [pv_lt, pv_cl, e0]; omega), pv_nr (by decide), if_neg (by rw [pv_lt, pv_cl, e0]; omega)]
    unfold mf_Mo_type_77
    rw [pv_nr (by decide), pv_nr (by decide), if_neg (by rw [pv_lt, pv_cl, e0]; omega), pv_nr (by decide), pv_nr (by decide), pv_nr (by decide)]
    unfold mf_Mo_type_97
    rw [ms_changed]
    simp only [Option.bind_some]
    rw [pv_ni (by decide), pv_ni (by decide), pv_self]
    have : h 0 0 + 1 - 1 = h 0 0 := Int32.add_sub_cancel _ _
    rw [this]
    rfl
  · rw [if_neg hle, if_neg (by rw [pv_le, es, e6]; exact hle)]
theorem ms_type {g h : qa_St} (x1 x2 : Int32) (hN : pr_N h) (hC : pr_C h) (hT : pr_T g h) :
    mf_Mo_type h x1 x2 = if (h 0 0).toInt < 6 ∧ (x1.toInt = -1 ∨ (0 ≤ x1.toInt ∧ x1.toInt < (h 0 0).toInt)) ∧ 0 ≤ x2.toInt ∧ x2.toInt ≤ 6 - (if 0 ≤ x1.toInt ∧ x1.toInt < (h 0 0).toInt then (g 3 x1.toInt.toNat).toInt else 0) then some (h 0 0, qa_up (qa_up (qa_up (qa_up (qa_up (qa_up h 1 (h 0 0).toInt.toNat x1) 2 (h 0 0).toInt.toNat x2) 3 (h 0 0).toInt.toNat (-1)) 0 0 (h 0 0 + 1)) 0 15 0) 0 26 0) else some (-1, h) := by
  have e0 : (0 : Int32).toInt = 0 := rfl
  have em : (-1 : Int32).toInt = -1 := rfl
  have e6 : (6 : Int32).toInt = 6 := rfl
  have hN0 := hN
  obtain ⟨n0, n1, -, -⟩ := hN
  unfold mf_Mo_type
  rw [ms_within]
  simp only [Option.bind_some, pv_b1]
  by_cases h1 : (h 0 0).toInt = 6
  · rw [if_pos (by rw [pv_eq, e6]; exact h1), if_neg (by omega)]
  rw [if_neg (by rw [pv_eq, e6]; exact h1)]
  by_cases h2 : x1.toInt < -1
  · rw [if_pos (by rw [pv_lt, em]; exact h2), if_neg (by omega)]
  rw [if_neg (by rw [pv_lt, em]; exact h2)]
  by_cases h3 : (h 0 0).toInt ≤ x1.toInt
  · rw [if_pos (by rw [pv_le]; exact h3), if_neg (by omega)]
  rw [if_neg (by rw [pv_le]; exact h3)]
  by_cases h4 : 0 ≤ x2.toInt ∧ x2.toInt ≤ (6 : Int32).toInt
  · rw [if_neg (fun h => h h4)]
    rw [e6] at h4
    by_cases h5 : 0 ≤ x1.toInt
    · rw [if_pos (by rw [pv_le, e0]; exact h5), if_pos (show 0 ≤ x1.toInt ∧ x1.toInt < (h 0 0).toInt from ⟨h5, by omega⟩)]
      have e1 : x1 = Int32.ofNat x1.toInt.toNat := pv_nIe h5
      have hw : mf_Mo_width h x1 = some (g 3 x1.toInt.toNat, h) := by
        unfold mf_Mo_width
        have := ms_width hN0 hC hT x1.toInt.toNat (by omega) 4095 0 (by omega)
        rw [← e1, Int32.zero_add] at this
        exact this
      have hb := hT x1.toInt.toNat (by omega)
      rw [hw]
      simp only [Option.bind_some]
      rw [ms_type46 h x1 x2 _ n0 (by omega) ⟨hb.2.2.1, hb.2.2.2.1⟩ h4]
      by_cases h6 : (g 3 x1.toInt.toNat).toInt + x2.toInt ≤ 6
      · rw [if_pos h6, if_pos (by omega)]
      · rw [if_neg h6, if_neg (by omega)]
    · rw [if_neg (by rw [pv_le, e0]; exact h5), if_neg (show ¬ (0 ≤ x1.toInt ∧ x1.toInt < (h 0 0).toInt) by omega), ms_type46 h x1 x2 0 n0 (by omega) (by rw [e0]; omega) h4, e0]
      rw [if_pos (by omega), if_pos (by omega)]
  · rw [if_pos h4, if_neg]
    rw [e6] at h4
    intro hq
    obtain ⟨-, q1, q2, q3⟩ := hq
    by_cases h5 : 0 ≤ x1.toInt ∧ x1.toInt < (h 0 0).toInt
    · rw [if_pos h5] at q3
      have hb := hT x1.toInt.toNat (by omega)
      omega
    · rw [if_neg h5] at q3
      omega
