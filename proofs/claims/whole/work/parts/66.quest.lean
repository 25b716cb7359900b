theorem ms_guarded {h : qa_St} (hN : pr_N h) (hM : pr_M h) (x y : Int32) (hx : 0 ≤ x.toInt ∧ x.toInt < (h 0 4).toInt) : mf_Mo_guarded h x y = some (pr_hd h x.toInt.toNat y.toInt 4 0, h) := by
  have hN0 := hN
  obtain ⟨n0, n1, n2, n3⟩ := hN
  have e3 : (3 : Int32).toInt = 3 := rfl
  unfold mf_Mo_guarded
  have ex : x = Int32.ofNat x.toInt.toNat := pv_nIe hx.1
  have e3x : (3 : Int32) * x = Int32.ofNat (3 * x.toInt.toNat + 0) := by
    rw [pv_eq, pv_mul (by rw [e3]; omega) (by rw [e3]; omega), e3, pv_nI (by omega)]
    omega
  have e : mf_Mo_guarded_4 4096 h x y (3 * x) = mf_Mo_guarded_4 4096 h (Int32.ofNat x.toInt.toNat) y (Int32.ofNat (3 * x.toInt.toNat + 0)) := congr (congrFun (congrArg (mf_Mo_guarded_4 4096 h) ex) y) e3x
  rcases ms_hd hN0 hM x.toInt.toNat (by omega) y 4 0 4096 (by omega) (by omega) with z | z
  · exact e.trans z
  · omega
/-- with what a class answers a selector, in both -/
theorem xs_answering {g h : qa_St} (hN : pr_N h) (hC : pr_C h) (r1 : g 1 0 = h 0 0) (hT : pr_T g h) (x y : Int32) : xf_Pr_answering g x y = some (if (0 ≤ x.toInt ∧ x.toInt < (h 0 0).toInt) ∧ 0 ≤ y.toInt ∧ y.toInt < 4 then pr_an g h y.toInt.toNat 7 x.toInt.toNat else -1, g) := by
  have hN0 := hN
  obtain ⟨n0, n1, n2, n3⟩ := hN
  have e4 : (4 : Int32).toInt = 4 := rfl
  unfold xf_Pr_answering
  rw [xs_isType, r1]
  simp only [Option.bind_some, pv_b1]
  by_cases h1 : 0 ≤ x.toInt ∧ x.toInt < (h 0 0).toInt
  · rw [if_neg (fun z => z h1), xs_within, e4]
    simp only [Option.bind_some, pv_b1]
    by_cases h2 : 0 ≤ y.toInt ∧ y.toInt < 4
    · rw [if_neg (fun z => z h2), if_pos ⟨h1, h2⟩]
      have ex : x = Int32.ofNat x.toInt.toNat := pv_nIe h1.1
      have ha := xs_an hN0 hC hT y h2 x.toInt.toNat (by omega) 0 x.toInt.toNat (by omega) (by omega) (fun d _ => Iff.rfl) 4096 (by omega)
      rw [Nat.add_zero, ← ex] at ha
      exact ha
    · rw [if_pos h2, if_neg (fun z => h2 z.2)]
  · rw [if_pos h1, if_neg (fun z => h1 z.1)]
theorem ms_answer {g h : qa_St} (hN : pr_N h) (hC : pr_C h) (hU : pr_U h) (hO : pr_O g h) (x y : Int32) : mf_Mo_answer h x y = some (if (0 ≤ x.toInt ∧ x.toInt < (h 0 0).toInt) ∧ 0 ≤ y.toInt ∧ y.toInt < 4 then pr_an g h y.toInt.toNat 7 x.toInt.toNat else -1, h) := by
  have hN0 := hN
  obtain ⟨n0, n1, n2, n3⟩ := hN
  have e1 : (1 : Int32).toInt = 1 := rfl
  have e3 : (3 : Int32).toInt = 3 := rfl
  have s1 : (h 0 0 - 1).toInt = (h 0 0).toInt - 1 := by rw [pv_sub (by rw [e1]; omega) (by rw [e1]; omega), e1]
  unfold mf_Mo_answer
  rw [ms_within, s1]
  simp only [Option.bind_some, pv_b1]
  by_cases h1 : 0 ≤ x.toInt ∧ x.toInt < (h 0 0).toInt
  · rw [if_neg (fun z => z (by omega)), ms_within, e3]
    simp only [Option.bind_some, pv_b1]
    by_cases h2 : 0 ≤ y.toInt ∧ y.toInt < 4
    · rw [if_neg (fun z => z (by omega)), if_pos ⟨h1, h2⟩]
      have ex : x = Int32.ofNat x.toInt.toNat := pv_nIe h1.1
      have hb := ms_an hN0 hC hU hO y h2 x.toInt.toNat (by omega) 4096 (by omega)
      rw [← ex] at hb
      exact hb
    · rw [if_pos (by omega), if_neg (fun z => h2 z.2)]
  · rw [if_pos (by omega), if_neg (fun z => h1 z.1)]
