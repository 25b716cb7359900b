/-! The class's questions about a method, in the reference's words -/
section PQ
variable {g h : qa_St} (x y : Int32)
theorem xs_inputsOf (hN : pr_N h) (r2 : g 1 1 = h 0 4) (hQ : pr_Q g h) : xf_Pr_inputsOf g x = some (if 0 ≤ x.toInt ∧ x.toInt < (h 0 4).toInt then h 6 x.toInt.toNat else 0, g) := by
  obtain ⟨n0, n1, n2, n3⟩ := hN
  have e0 : (0 : Int32).toInt = 0 := rfl
  unfold xf_Pr_inputsOf
  rw [xs_isMethod, r2]
  simp only [Option.bind_some, pv_b1]
  by_cases h1 : 0 ≤ x.toInt ∧ x.toInt < (h 0 4).toInt
  · rw [if_neg (fun z => z h1), if_neg (by rw [pv_lt, pv_cl, e0]; omega), if_pos h1, pv_cl, (hQ x.toInt.toNat (by omega)).2.2.1]
  · rw [if_pos h1, if_neg h1]
theorem xs_ownerOf (hN : pr_N h) (r2 : g 1 1 = h 0 4) (hQ : pr_Q g h) : xf_Pr_ownerOf g x = some (if 0 ≤ x.toInt ∧ x.toInt < (h 0 4).toInt then h 4 x.toInt.toNat else -1, g) := by
  obtain ⟨n0, n1, n2, n3⟩ := hN
  have e0 : (0 : Int32).toInt = 0 := rfl
  unfold xf_Pr_ownerOf
  rw [xs_isMethod, r2]
  simp only [Option.bind_some, pv_b1]
  by_cases h1 : 0 ≤ x.toInt ∧ x.toInt < (h 0 4).toInt
  · rw [if_neg (fun z => z h1), if_neg (by rw [pv_lt, pv_cl, e0]; omega), if_pos h1, pv_cl, (hQ x.toInt.toNat (by omega)).1]
  · rw [if_pos h1, if_neg h1]
theorem xs_lengthOf (hN : pr_N h) (r2 : g 1 1 = h 0 4) (hQ : pr_Q g h) : xf_Pr_lengthOf g x = some (if 0 ≤ x.toInt ∧ x.toInt < (h 0 4).toInt then h 7 x.toInt.toNat else 0, g) := by
  obtain ⟨n0, n1, n2, n3⟩ := hN
  have e0 : (0 : Int32).toInt = 0 := rfl
  unfold xf_Pr_lengthOf
  rw [xs_isMethod, r2]
  simp only [Option.bind_some, pv_b1]
  by_cases h1 : 0 ≤ x.toInt ∧ x.toInt < (h 0 4).toInt
  · rw [if_neg (fun z => z h1), if_neg (by rw [pv_lt, pv_cl, e0]; omega), if_pos h1, pv_cl, (hQ x.toInt.toNat (by omega)).2.2.2.1]
  · rw [if_pos h1, if_neg h1]
theorem xs_initialiserOf (hN : pr_N h) (r1 : g 1 0 = h 0 0) (hT : pr_T g h) : xf_Pr_initialiserOf g x = some (if 0 ≤ x.toInt ∧ x.toInt < (h 0 0).toInt then h 3 x.toInt.toNat else -1, g) := by
  obtain ⟨n0, n1, n2, n3⟩ := hN
  have e0 : (0 : Int32).toInt = 0 := rfl
  unfold xf_Pr_initialiserOf
  rw [xs_isType, r1]
  simp only [Option.bind_some, pv_b1]
  by_cases h1 : 0 ≤ x.toInt ∧ x.toInt < (h 0 0).toInt
  · rw [if_neg (fun z => z h1), if_neg (by rw [pv_lt, pv_cl, e0]; omega), if_pos h1, pv_cl, (hT x.toInt.toNat (by omega)).2.2.2.2]
  · rw [if_pos h1, if_neg h1]
theorem xs_opOf (hN : pr_N h) (hM : pr_M h) (r2 : g 1 1 = h 0 4) (hQ : pr_Q g h) (hL : pr_L g h) (hx : 0 ≤ x.toInt ∧ x.toInt < (h 0 4).toInt) : xf_Pr_opOf g x y = some (if 0 ≤ y.toInt ∧ y.toInt < (h 7 x.toInt.toNat).toInt then h 8 (20 * x.toInt.toNat + y.toInt.toNat) else -1, g) ∧ xf_Pr_operandOf g x y = some (if 0 ≤ y.toInt ∧ y.toInt < (h 7 x.toInt.toNat).toInt then h 9 (20 * x.toInt.toNat + y.toInt.toNat) else -1, g) := by
  have hN0 := hN
  obtain ⟨n0, n1, n2, n3⟩ := hN
  have e0 : (0 : Int32).toInt = 0 := rfl
  have q := hM x.toInt.toNat (by omega)
  unfold xf_Pr_opOf xf_Pr_operandOf
  rw [xs_lengthOf x hN0 r2 hQ, if_pos hx]
  simp only [Option.bind_some]
  rw [xs_within]
  simp only [Option.bind_some, pv_b1]
  by_cases h1 : 0 ≤ y.toInt ∧ y.toInt < (h 7 x.toInt.toNat).toInt
  · have ql := hL x.toInt.toNat y.toInt.toNat (by omega) (by omega)
    refine ⟨?_, ?_⟩
    · rw [if_neg (fun z => z h1), if_neg (by rw [pv_lt, pv_cl, e0]; omega), if_neg (by rw [pv_lt, pv_cl, e0]; omega), if_pos h1, pv_cl x, pv_cl y, ql.1]
    · rw [if_neg (fun z => z h1), if_neg (by rw [pv_lt, pv_cl, e0]; omega), if_neg (by rw [pv_lt, pv_cl, e0]; omega), if_pos h1, pv_cl x, pv_cl y, ql.2]
  · refine ⟨?_, ?_⟩
    · rw [if_pos h1, if_neg h1]
    · rw [if_pos h1, if_neg h1]
end PQ
/-- the first guard over instruction i of method m, from guard k on -/
def pr_hd (h : qa_St) (m : Nat) (i : Int) : Nat → Nat → Int32
  | 0, _ => -1
  | n + 1, k => if (h 10 m).toInt ≤ (k : Int) then -1 else if i < (h 11 (3 * m + k)).toInt ∨ (h 12 (3 * m + k)).toInt ≤ i then pr_hd h m i n (k + 1) else h 13 (3 * m + k)
theorem xs_hd {g h : qa_St} (hN : pr_N h) (hM : pr_M h) (hQ : pr_Q g h) (hH : pr_H g h) (m : Nat) (hm : (m : Int) < (h 0 4).toInt) (y : Int32) : ∀ (d k n : Nat), k + d = 4 → d < n → xf_Pr_handlerOf_12 n g (Int32.ofNat m) y (Int32.ofNat k) = some (pr_hd h m y.toInt d k, g) ∨ d = 0 := by
  intro d
  obtain ⟨n0, n1, n2, n3⟩ := hN
  have e0 : (0 : Int32).toInt = 0 := rfl
  have em : (Int32.ofNat m).toInt = (m : Int) := pv_nI (by omega)
  have emn : (Int32.ofNat m).toInt.toNat = m := by omega
  have q := hM m hm
  have qq := hQ m hm
  induction d with
  | zero => intro k n _ _; exact Or.inr rfl
  | succ d ih =>
    intro k n hk hn
    left
    obtain ⟨n, rfl⟩ : ∃ z, n = z + 1 := ⟨n - 1, by omega⟩
    have ek : (Int32.ofNat k).toInt = (k : Int) := pv_nI (by omega)
    have ekn : (Int32.ofNat k).toInt.toNat = k := by omega
    have es : Int32.ofNat k + 1 = Int32.ofNat (k + 1) := nI_1 k
    rw [xf_Pr_handlerOf_12, pv_cl (Int32.ofNat m), pv_cl (Int32.ofNat k), emn, ekn, if_neg (by rw [pv_lt, em, e0]; omega), qq.2.2.2.2, pr_hd]
    by_cases h1 : (h 10 m).toInt ≤ (k : Int)
    · rw [if_pos (by rw [pv_le, ek]; exact h1), if_pos h1]
    · have hg := hH m k hm (by omega)
      have hnx : xf_Pr_handlerOf_55 (xf_Pr_handlerOf_12 n) g (Int32.ofNat m) y (Int32.ofNat k) = some (pr_hd h m y.toInt d (k + 1), g) := by
        unfold xf_Pr_handlerOf_55
        rw [es]
        rcases ih (k + 1) n (by omega) (by omega) with z | z
        · exact z
        · omega
      rw [if_neg (by rw [pv_le, ek]; exact h1), if_neg h1, if_neg (by rw [pv_lt, em, e0]; omega), if_neg (by rw [pv_lt, ek, e0]; omega), hg.1, hnx]
      by_cases h2 : y.toInt < (h 11 (3 * m + k)).toInt
      · rw [if_pos (by rw [pv_lt]; exact h2), if_pos (Or.inl h2)]
      · rw [if_neg (by rw [pv_lt]; exact h2), if_neg (by rw [pv_lt, em, e0]; omega), if_neg (by rw [pv_lt, ek, e0]; omega), hg.2.1]
        by_cases h3 : (h 12 (3 * m + k)).toInt ≤ y.toInt
        · rw [if_pos (by rw [pv_le]; exact h3), if_pos (Or.inr h3)]
        · rw [if_neg (by rw [pv_le]; exact h3), if_neg (by rw [pv_lt, em, e0]; omega), if_neg (by rw [pv_lt, ek, e0]; omega), hg.2.2, if_neg (by omega)]
theorem xs_handlerOf {g h : qa_St} (hN : pr_N h) (hM : pr_M h) (r2 : g 1 1 = h 0 4) (hQ : pr_Q g h) (hH : pr_H g h) (x y : Int32) (hx : 0 ≤ x.toInt ∧ x.toInt < (h 0 4).toInt) : xf_Pr_handlerOf g x y = some (pr_hd h x.toInt.toNat y.toInt 4 0, g) := by
  have hN0 := hN
  obtain ⟨n0, n1, n2, n3⟩ := hN
  unfold xf_Pr_handlerOf
  rw [xs_isMethod, r2]
  simp only [Option.bind_some, pv_b1]
  rw [if_neg (fun z => z hx)]
  have ex : x = Int32.ofNat x.toInt.toNat := pv_nIe hx.1
  have e : xf_Pr_handlerOf_12 4096 g x y (Int32.ofNat 0) = xf_Pr_handlerOf_12 4096 g (Int32.ofNat x.toInt.toNat) y (Int32.ofNat 0) := congrFun (congrFun (congrArg (xf_Pr_handlerOf_12 4096 g) ex) _) _
  rcases xs_hd hN0 hM hQ hH x.toInt.toNat (by omega) y 4 0 4096 (by omega) (by omega) with z | z
  · exact e.trans z
  · omega
theorem ms_hd {h : qa_St} (hN : pr_N h) (hM : pr_M h) (m : Nat) (hm : (m : Int) < (h 0 4).toInt) (y : Int32) : ∀ (d k n : Nat), k + d = 4 → d < n → mf_Mo_guarded_4 n h (Int32.ofNat m) y (Int32.ofNat (3 * m + k)) = some (pr_hd h m y.toInt d k, h) ∨ d = 0 := by
  intro d
  obtain ⟨n0, n1, n2, n3⟩ := hN
  have e0 : (0 : Int32).toInt = 0 := rfl
  have e3 : (3 : Int32).toInt = 3 := rfl
  have em : (Int32.ofNat m).toInt = (m : Int) := pv_nI (by omega)
  have emn : (Int32.ofNat m).toInt.toNat = m := by omega
  have q := hM m hm
  have e3m : ((3 : Int32) * Int32.ofNat m).toInt = 3 * (m : Int) := by rw [pv_mul (by rw [e3, em]; omega) (by rw [e3, em]; omega), e3, em]
  have eg : ((3 : Int32) * Int32.ofNat m + h 10 m).toInt = 3 * (m : Int) + (h 10 m).toInt := by rw [pv_add (by rw [e3m]; omega) (by rw [e3m]; omega), e3m]
  induction d with
  | zero => intro k n _ _; exact Or.inr rfl
  | succ d ih =>
    intro k n hk hn
    left
    obtain ⟨n, rfl⟩ : ∃ z, n = z + 1 := ⟨n - 1, by omega⟩
    have ek : (Int32.ofNat (3 * m + k)).toInt = 3 * (m : Int) + k := by rw [pv_nI (by omega)]; omega
    have ekn : (Int32.ofNat (3 * m + k)).toInt.toNat = 3 * m + k := by omega
    have es : Int32.ofNat (3 * m + k) + 1 = Int32.ofNat (3 * m + (k + 1)) := nI_1 (3 * m + k)
    rw [mf_Mo_guarded_4, pv_cl (Int32.ofNat m), pv_cl (Int32.ofNat (3 * m + k)), emn, ekn, if_neg (by rw [pv_lt, em, e0]; omega), pr_hd]
    by_cases h1 : (h 10 m).toInt ≤ (k : Int)
    · rw [if_pos (by rw [pv_le, eg, ek]; omega), if_pos h1]
    · have hnx : mf_Mo_guarded_45 (mf_Mo_guarded_4 n) h (Int32.ofNat m) y (Int32.ofNat (3 * m + k)) = some (pr_hd h m y.toInt d (k + 1), h) := by
        unfold mf_Mo_guarded_45
        rw [es]
        rcases ih (k + 1) n (by omega) (by omega) with z | z
        · exact z
        · omega
      rw [if_neg (by rw [pv_le, eg, ek]; omega), if_neg h1, if_neg (by rw [pv_lt, ek, e0]; omega), hnx]
      by_cases h2 : y.toInt < (h 11 (3 * m + k)).toInt
      · rw [if_pos (by rw [pv_lt]; exact h2), if_pos (Or.inl h2)]
      · rw [if_neg (by rw [pv_lt]; exact h2), if_neg (by rw [pv_lt, ek, e0]; omega)]
        by_cases h3 : (h 12 (3 * m + k)).toInt ≤ y.toInt
        · rw [if_pos (by rw [pv_le]; exact h3), if_pos (Or.inr h3)]
        · rw [if_neg (by rw [pv_le]; exact h3), if_neg (by rw [pv_lt, ek, e0]; omega), if_neg (by omega)]
