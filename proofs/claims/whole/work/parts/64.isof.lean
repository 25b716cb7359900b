/-! 'is of', in both -/
theorem ms_isOf5 {g h : qa_St} (hN : pr_N h) (hC : pr_C h) (hT : pr_T g h) (d : Nat) (hd : d < 10) : ∀ (c : Nat), (c : Int) < (h 0 0).toInt → ∀ (far n : Nat), far + c ≤ 5 → c + 1 < n → mf_Mo_isOf_5 n h (Int32.ofNat d) (Int32.ofNat c) (Int32.ofNat far) = some (if pv_bit (g 2 c) d then 1 else 0, h) := by
  intro c
  have hN0 := hN
  obtain ⟨n0, n1, n2, n3⟩ := hN
  have e0 : (0 : Int32).toInt = 0 := rfl
  have e6 : (6 : Int32).toInt = 6 := rfl
  have ed : (Int32.ofNat d).toInt = (d : Int) := pv_nI (by omega)
  induction c using Nat.strongRecOn with
  | _ c ih =>
    intro hc far n hf hn
    obtain ⟨n, rfl⟩ : ∃ z, n = z + 1 := ⟨n - 1, by omega⟩
    obtain ⟨n, rfl⟩ : ∃ z, n = z + 1 := ⟨n - 1, by omega⟩
    have ec : (Int32.ofNat c).toInt = (c : Int) := pv_nI (by omega)
    have ef : (Int32.ofNat far).toInt = (far : Int) := pv_nI (by omega)
    have q := hC c hc
    have hb := pr_bit hN0 hT hc d hd
    rw [mf_Mo_isOf_5, if_neg (by rw [pv_le, e6, ef]; omega), if_neg (by rw [pv_lt, ec, e0]; omega)]
    by_cases hcd : c = d
    · have e : Int32.ofNat c = Int32.ofNat d := by rw [hcd]
      rw [if_pos e]
      unfold mf_Mo_isOf_34
      rw [if_pos e, if_pos (hb.mpr (Or.inl hcd.symm))]
    · have e : ¬ Int32.ofNat c = Int32.ofNat d := by rw [pv_eq, ec, ed]; omega
      have es : Int32.ofNat far + 1 = Int32.ofNat (far + 1) := nI_1 far
      rw [if_neg e, if_neg (by rw [pv_lt, pv_cl, ec, e0]; omega), pv_cl, ec, show ((c : Int)).toNat = c by omega, es]
      by_cases hp : (h 1 c).toInt < 0
      · have hnb : ¬ pv_bit (g 2 c) d := fun z => by
          have := hb.mp z
          omega
        have ne : ¬ h 1 c = Int32.ofNat d := by rw [pv_eq, ed]; omega
        rw [if_neg hnb, mf_Mo_isOf_5]
        unfold mf_Mo_isOf_34
        by_cases h6 : (6 : Int32) ≤ Int32.ofNat (far + 1)
        · rw [if_pos h6, if_neg ne]
        · rw [if_neg h6, if_pos (by rw [pv_lt, e0]; exact hp), if_neg ne]
      · have e1 : h 1 c = Int32.ofNat (h 1 c).toInt.toNat := pv_nIe (by omega)
        have hr := ih (h 1 c).toInt.toNat (by omega) (by omega) (far + 1) (n + 1) (by omega) (by omega)
        rw [← e1] at hr
        rw [hr, pv_br (show pv_bit (g 2 (h 1 c).toInt.toNat) d ↔ pv_bit (g 2 c) d from ⟨fun z => hb.mpr (Or.inr ⟨by omega, z⟩), fun z => by
          rcases hb.mp z with y | y
          · omega
          · exact y.2⟩)]
/-- the reference's isOf, of a class and of any class below ten -/
theorem ms_isOf {g h : qa_St} (hN : pr_N h) (hC : pr_C h) (hT : pr_T g h) (x y : Int32) (hx : 0 ≤ x.toInt ∧ x.toInt < (h 0 0).toInt) (hy : 0 ≤ y.toInt ∧ y.toInt < 10) : mf_Mo_isOf h x y = some (if pv_bit (g 2 x.toInt.toNat) y.toInt.toNat then 1 else 0, h) := by
  have hN0 := hN
  obtain ⟨n0, n1, n2, n3⟩ := hN
  unfold mf_Mo_isOf
  have hr := ms_isOf5 hN0 hC hT y.toInt.toNat (by omega) x.toInt.toNat (by omega) 0 4096 (by omega) (by omega)
  have ex : x = Int32.ofNat x.toInt.toNat := pv_nIe hx.1
  have ey : y = Int32.ofNat y.toInt.toNat := pv_nIe hy.1
  have e : mf_Mo_isOf_5 4096 h y x (Int32.ofNat 0) = mf_Mo_isOf_5 4096 h (Int32.ofNat y.toInt.toNat) (Int32.ofNat x.toInt.toNat) (Int32.ofNat 0) := congrFun (congr (congrArg (mf_Mo_isOf_5 4096 h) ey) ex) _
  exact e.trans hr
/-- the class's isOf -/
theorem xs_isOf {g h : qa_St} (hN : pr_N h) (r1 : g 1 0 = h 0 0) (x y : Int32) : xf_Pr_isOf g x y = some (if (0 ≤ x.toInt ∧ x.toInt < (h 0 0).toInt) ∧ (0 ≤ y.toInt ∧ y.toInt < (h 0 0).toInt) ∧ pv_bit (g 2 x.toInt.toNat) y.toInt.toNat then 1 else 0, g) := by
  obtain ⟨n0, n1, n2, n3⟩ := hN
  have e0 : (0 : Int32).toInt = 0 := rfl
  unfold xf_Pr_isOf
  rw [xs_isType, r1]
  simp only [Option.bind_some, pv_b1]
  by_cases h1 : 0 ≤ x.toInt ∧ x.toInt < (h 0 0).toInt
  · rw [if_neg (fun z => z h1), xs_isType, r1]
    simp only [Option.bind_some, pv_b1]
    by_cases h2 : 0 ≤ y.toInt ∧ y.toInt < (h 0 0).toInt
    · rw [if_neg (fun z => z h2), if_neg (by rw [pv_lt, pv_cl, e0]; omega), xs_has _ _ _ h2.1, pv_cl]
      simp only [Option.bind_some, pv_b1]
      by_cases h3 : pv_bit (g 2 x.toInt.toNat) y.toInt.toNat
      · rw [if_neg (fun z => z h3), if_pos ⟨h1, h2, h3⟩]
      · rw [if_pos h3, if_neg (fun z => h3 z.2.2)]
    · rw [if_pos h2, if_neg (fun z => h2 z.2.1)]
  · rw [if_pos h1, if_neg (fun z => h1 z.1)]
