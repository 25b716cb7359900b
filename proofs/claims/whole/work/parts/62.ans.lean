/-! Promise 9: answer -/
def pr_an (g h : qa_St) (s : Nat) : Nat → Nat → Int32
  | 0, _ => -1
  | n + 1, c => if g (6 + c) s = -1 then (if (h 1 c).toInt < 0 then -1 else pr_an g h s n (h 1 c).toInt.toNat) else g (6 + c) s
theorem pr_an_eq {g h : qa_St} (hC : pr_C h) (s : Nat) : ∀ (c : Nat), (c : Int) < (h 0 0).toInt → ∀ n k, c < n → c < k → pr_an g h s n c = pr_an g h s k c := by
  intro c
  induction c using Nat.strongRecOn with
  | _ c ih =>
    intro hc n k hn hk
    obtain ⟨n, rfl⟩ : ∃ z, n = z + 1 := ⟨n - 1, by omega⟩
    obtain ⟨k, rfl⟩ : ∃ z, k = z + 1 := ⟨k - 1, by omega⟩
    rw [pr_an, pr_an]
    by_cases hp : (h 1 c).toInt < 0
    · rw [if_pos hp, if_pos hp]
    · have q := hC c hc
      rw [if_neg hp, if_neg hp, ih (h 1 c).toInt.toNat (by omega) (by omega) n k (by omega) (by omega)]
theorem ms_an {g h : qa_St} (hN : pr_N h) (hC : pr_C h) (hU : pr_U h) (hO : pr_O g h) (x2 : Int32) (h2 : 0 ≤ x2.toInt ∧ x2.toInt < 4) : ∀ (c : Nat), (c : Int) < (h 0 0).toInt → ∀ n, c + 1 < n → mf_Mo_answer_28 n h x2 (-1) (Int32.ofNat c) = some (pr_an g h x2.toInt.toNat 7 c, h) := by
  intro c
  have hN0 := hN
  obtain ⟨n0, n1, n2, n3⟩ := hN
  have e0 : (0 : Int32).toInt = 0 := rfl
  have em : (-1 : Int32).toInt = -1 := rfl
  induction c using Nat.strongRecOn with
  | _ c ih =>
    intro hc n hn
    obtain ⟨n, rfl⟩ : ∃ z, n = z + 1 := ⟨n - 1, by omega⟩
    obtain ⟨n, rfl⟩ : ∃ z, n = z + 1 := ⟨n - 1, by omega⟩
    have ec : (Int32.ofNat c).toInt = (c : Int) := pv_nI (by omega)
    have ecn : (Int32.ofNat c).toInt.toNat = c := by omega
    have q := hC c hc
    rw [mf_Mo_answer_28, if_neg (by rw [pv_lt, ec, e0]; omega), if_neg (by rw [pv_le, em, e0]; omega), ms_own hN0 hU hO (Int32.ofNat c) x2 (by omega) h2, ecn]
    simp only [Option.bind_some]
    rw [if_neg (by rw [pv_lt, pv_cl, ec, e0]; omega), pv_cl, ecn, pr_an]
    rcases hO c x2.toInt.toNat hc (by omega) with ⟨o1, o2⟩ | ⟨m, o1, o2, o3, o4⟩
    · have e : g (6 + c) x2.toInt.toNat = -1 := by
        rw [pv_eq, o1]
        rfl
      rw [if_pos e, e]
      by_cases hp : (h 1 c).toInt < 0
      · rw [if_pos hp, mf_Mo_answer_28, if_pos (by rw [pv_lt, e0]; exact hp)]
      · rw [if_neg hp, pr_an_eq (g := g) hC _ _ (by omega) 6 7 (by omega) (by omega)]
        have e1 : h 1 c = Int32.ofNat (h 1 c).toInt.toNat := pv_nIe (by omega)
        have := ih (h 1 c).toInt.toNat (by omega) (by omega) (n + 1) (by omega)
        rw [← e1] at this
        exact this
    · have hne : ¬ g (6 + c) x2.toInt.toNat = -1 := by
        rw [pv_eq, em, o2]
        omega
      rw [if_neg hne, mf_Mo_answer_28]
      by_cases hp : (h 1 c).toInt < 0
      · rw [if_pos (by rw [pv_lt, e0]; exact hp)]
      · rw [if_neg (by rw [pv_lt, e0]; exact hp), if_pos (by rw [pv_le, e0, o2]; omega)]
theorem xs_an {g h : qa_St} (hN : pr_N h) (hC : pr_C h) (hT : pr_T g h) (x2 : Int32) (h2 : 0 ≤ x2.toInt ∧ x2.toInt < 4) : ∀ (c : Nat), (c : Int) < (h 0 0).toInt → ∀ (k : Nat) (a : Nat), (a : Int) < (h 0 0).toInt → c + k < 10 → (∀ d, d ≤ c + k → (pv_bit (g 2 a) d ↔ pv_bit (g 2 c) d)) → ∀ n, c + k + 1 < n → xf_Pr_answering_20 n g (Int32.ofNat a) x2 (Int32.ofNat (c + k)) = some (pr_an g h x2.toInt.toNat 7 c, g) := by
  intro c
  have hN0 := hN
  obtain ⟨n0, n1, n2, n3⟩ := hN
  have e0 : (0 : Int32).toInt = 0 := rfl
  have em : (-1 : Int32).toInt = -1 := rfl
  induction c using Nat.strongRecOn with
  | _ c ih =>
    intro hc k
    induction k with
    | zero =>
      intro a ha hk hbit n hn
      obtain ⟨n, rfl⟩ : ∃ z, n = z + 1 := ⟨n - 1, by omega⟩
      have ec : (Int32.ofNat (c + 0)).toInt = (c : Int) := pv_nI (by omega)
      have ecn : (Int32.ofNat (c + 0)).toInt.toNat = c := by omega
      have ea : (Int32.ofNat a).toInt = (a : Int) := pv_nI (by omega)
      have ean : (Int32.ofNat a).toInt.toNat = a := by omega
      have q := hC c hc
      have hbc : pv_bit (g 2 a) c := (hbit c (by omega)).mpr ((pr_bit hN0 hT hc c (by omega)).mpr (Or.inl rfl))
      have hnext : xf_Pr_answering_58 (xf_Pr_answering_20 n) g (Int32.ofNat a) x2 (Int32.ofNat (c + 0)) = some (if (h 1 c).toInt < 0 then -1 else pr_an g h x2.toInt.toNat 6 (h 1 c).toInt.toNat, g) := by
        unfold xf_Pr_answering_58
        by_cases hp : (h 1 c).toInt < 0
        · rw [if_pos hp]
          -- no class below is one that c is of
          have hz : ∀ (j : Nat), j ≤ c → ∀ n, j < n → xf_Pr_answering_20 n g (Int32.ofNat a) x2 (Int32.ofNat j + -1) = some (-1, g) := by
            intro j
            induction j with
            | zero =>
              intro _ n hn
              obtain ⟨n, rfl⟩ : ∃ z, n = z + 1 := ⟨n - 1, by omega⟩
              have : (Int32.ofNat 0 + -1).toInt = -1 := by decide
              rw [xf_Pr_answering_20, if_pos (by rw [pv_lt, this, e0]; omega)]
            | succ j ihj =>
              intro hj n hn
              obtain ⟨n, rfl⟩ : ∃ z, n = z + 1 := ⟨n - 1, by omega⟩
              have es : Int32.ofNat (j + 1) + -1 = Int32.ofNat j := by
                rw [pv_eq, pv_add (by rw [pv_nI (by omega), em]; omega) (by rw [pv_nI (by omega), em]; omega), pv_nI (by omega), pv_nI (by omega), em]
                omega
              have ej : (Int32.ofNat j).toInt = (j : Int) := pv_nI (by omega)
              have ejn : (Int32.ofNat j).toInt.toNat = j := by omega
              have hnb : ¬ pv_bit (g 2 a) j := fun z => by
                have := (pr_bit hN0 hT hc j (by omega)).mp ((hbit j (by omega)).mp z)
                omega
              rw [es, xf_Pr_answering_20, if_neg (by rw [pv_lt, ej, e0]; omega), if_neg (by rw [pv_lt, pv_cl, ea, e0]; omega), xs_has _ _ _ (by omega), ejn, pv_cl, ean]
              simp only [Option.bind_some, pv_b1]
              rw [if_pos hnb]
              unfold xf_Pr_answering_58
              exact ihj (by omega) n (by omega)
          exact hz c (by omega) n (by omega)
        · rw [if_neg hp]
          have es : Int32.ofNat (c + 0) + -1 = Int32.ofNat ((h 1 c).toInt.toNat + (c - 1 - (h 1 c).toInt.toNat)) := by
            rw [pv_eq, pv_add (by rw [ec, em]; omega) (by rw [ec, em]; omega), ec, em, pv_nI (by omega)]
            omega
          rw [es, pr_an_eq (g := g) hC _ _ (by omega) 6 7 (by omega) (by omega)]
          refine ih (h 1 c).toInt.toNat (by omega) (by omega) (c - 1 - (h 1 c).toInt.toNat) a ha (by omega) (fun d hd => ?_) n (by omega)
          rw [hbit d (by omega), pr_bit hN0 hT hc d (by omega)]
          constructor
          · intro z
            rcases z with z | z
            · omega
            · exact z.2
          · intro z
            exact Or.inr ⟨by omega, z⟩
      have hA : pr_an g h x2.toInt.toNat 7 c = (if g (6 + c) x2.toInt.toNat = -1 then (if (h 1 c).toInt < 0 then -1 else pr_an g h x2.toInt.toNat 6 (h 1 c).toInt.toNat) else g (6 + c) x2.toInt.toNat) := rfl
      rw [xf_Pr_answering_20, if_neg (by rw [pv_lt, ec, e0]; omega), if_neg (by rw [pv_lt, pv_cl, ea, e0]; omega), xs_has _ _ _ (by omega), ecn, pv_cl (Int32.ofNat a), ean]
      simp only [Option.bind_some, pv_b1]
      rw [if_neg (fun z => z hbc), if_neg (by rw [pv_lt, pv_cl, ec, e0]; omega), if_neg (by rw [pv_lt, pv_cl, e0]; omega), hnext, pv_cl (Int32.ofNat (c + 0)), pv_cl x2, ecn, hA]
      by_cases ho : g (6 + c) x2.toInt.toNat = -1
      · rw [if_pos ho, if_pos ho]
      · rw [if_neg ho, if_neg ho, if_neg (by rw [pv_lt, ec, e0]; omega), if_neg (by rw [pv_lt, e0]; omega)]
    | succ k ihk =>
      intro a ha hk hbit n hn
      obtain ⟨n, rfl⟩ : ∃ z, n = z + 1 := ⟨n - 1, by omega⟩
      have ej : (Int32.ofNat (c + (k + 1))).toInt = (c : Int) + k + 1 := by rw [pv_nI (by omega)]; omega
      have ejn : (Int32.ofNat (c + (k + 1))).toInt.toNat = c + (k + 1) := by omega
      have ea : (Int32.ofNat a).toInt = (a : Int) := pv_nI (by omega)
      have ean : (Int32.ofNat a).toInt.toNat = a := by omega
      have hnb : ¬ pv_bit (g 2 a) (c + (k + 1)) := fun z => by
        have := pr_bit_le hN0 hC hT c hc (c + (k + 1)) (by omega) ((hbit _ (by omega)).mp z)
        omega
      have es : Int32.ofNat (c + (k + 1)) + -1 = Int32.ofNat (c + k) := by
        rw [pv_eq, pv_add (by rw [ej, em]; omega) (by rw [ej, em]; omega), ej, em, pv_nI (by omega)]
        omega
      rw [xf_Pr_answering_20, if_neg (by rw [pv_lt, ej, e0]; omega), if_neg (by rw [pv_lt, pv_cl, ea, e0]; omega), xs_has _ _ _ (by omega), ejn, pv_cl (Int32.ofNat a), ean]
      simp only [Option.bind_some, pv_b1]
      rw [if_pos hnb]
      unfold xf_Pr_answering_58
      rw [es]
      exact ihk a ha (by omega) (fun d hd => hbit d (by omega)) n (by omega)
theorem st_answer (PC PN : qa_St → qa_St → Prop) (g h : qa_St) (x1 x2 : Int32) (hI : pr_I PC PN g h) : ql_st (pr_I PC PN) (xf_Cw_answer g x1 x2) (mf_Mo_answer h x1 x2) := by
  have hI0 := hI
  obtain ⟨⟨hN, hC, hM, hU, hK, hG⟩, ⟨⟨r1, r2⟩, hT, hO, hQ, hZ, hL, hH⟩, hF, -, -⟩ := hI
  have hN0 := hN
  obtain ⟨n0, n1, n2, n3⟩ := hN
  have e1 : (1 : Int32).toInt = 1 := rfl
  have e3 : (3 : Int32).toInt = 3 := rfl
  have e4 : (4 : Int32).toInt = 4 := rfl
  have s1 : (h 0 0 - 1).toInt = (h 0 0).toInt - 1 := by rw [pv_sub (by rw [e1]; omega) (by rw [e1]; omega), e1]
  unfold xf_Cw_answer xf_Pr_answering mf_Mo_answer
  rw [xs_isType, r1, ms_within, s1]
  simp only [Option.bind_some, pv_b1]
  by_cases h1 : 0 ≤ x1.toInt ∧ x1.toInt < (h 0 0).toInt
  · rw [if_neg (fun z => z h1), if_neg (fun z => z (by omega)), xs_within, ms_within, e3, e4]
    simp only [Option.bind_some, pv_b1]
    by_cases h2 : 0 ≤ x2.toInt ∧ x2.toInt < 4
    · rw [if_neg (fun z => z h2), if_neg (fun z => z (by omega))]
      have ex : x1 = Int32.ofNat x1.toInt.toNat := pv_nIe h1.1
      have ha := xs_an hN0 hC hT x2 h2 x1.toInt.toNat (by omega) 0 x1.toInt.toNat (by omega) (by omega) (fun d _ => Iff.rfl) 4096 (by omega)
      have hb := ms_an hN0 hC hU hO x2 h2 x1.toInt.toNat (by omega) 4096 (by omega)
      rw [Nat.add_zero, ← ex] at ha
      rw [← ex] at hb
      rw [ha, hb]
      exact pr_same hI0 rfl rfl
    · rw [if_pos h2, if_pos (by omega)]
      exact pr_same hI0 rfl rfl
  · rw [if_pos h1, if_pos (by omega)]
    exact pr_same hI0 rfl rfl
