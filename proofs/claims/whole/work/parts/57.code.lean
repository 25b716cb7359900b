/-! Promise 5: code -/
theorem pv_bb {p : Prop} [Decidable p] {g : qa_St} : ((some ((if p then 1 else 0 : Int32), g)).bind fun t => (if t.1 = 0 ∨ t.1 = 1 then some (t.1, t.2) else none)) = some ((if p then 1 else 0 : Int32), g) := by
  by_cases h : p
  · simp [h]
  · simp [h]
theorem pv_br {p q : Prop} [Decidable p] [Decidable q] (h : p ↔ q) : (if p then 1 else 0 : Int32) = (if q then 1 else 0 : Int32) := by
  by_cases hp : p
  · rw [if_pos hp, if_pos (h.mp hp)]
  · rw [if_neg hp, if_neg (fun z => hp (h.mpr z))]
theorem pv_b01 {p : Prop} [Decidable p] : (if p then 1 else 0 : Int32) = 0 ∨ (if p then 1 else 0 : Int32) = 1 := by
  by_cases h : p
  · simp [h]
  · simp [h]
theorem pv_bt {p : Prop} [Decidable p] (h : (if p then 1 else 0 : Int32) = 1) : p := by
  by_cases hp : p
  · exact hp
  · rw [if_neg hp] at h
    exact absurd h (by decide)
theorem st_fits {g h : qa_St} (x1 x2 : Int32) (hN : pr_N h) (hM : pr_M h) (r1 : g 1 0 = h 0 0) (r2 : g 1 1 = h 0 4) (hQ : pr_Q g h) (h0 : 0 ≤ x1.toInt) (h22 : x1.toInt ≤ 22) :
    ∃ b : Int32, (b = 0 ∨ b = 1) ∧ xf_Pr_operandFits g x1 x2 = some (b, g) ∧ mf_Mo_fits h x1 x2 = some (b, h) ∧ (b = 1 → pr_fit h x1.toInt x2.toInt) := by
  obtain ⟨n0, n1, n2, n3⟩ := hN
  have e0 : (0 : Int32).toInt = 0 := rfl
  have e1 : (1 : Int32).toInt = 1 := rfl
  have e3 : (3 : Int32).toInt = 3 := rfl
  have e4 : (4 : Int32).toInt = 4 := rfl
  have e5 : (5 : Int32).toInt = 5 := rfl
  have e6 : (6 : Int32).toInt = 6 := rfl
  have e19 : (19 : Int32).toInt = 19 := rfl
  have e20 : (20 : Int32).toInt = 20 := rfl
  have s1 : (h 0 0 - 1).toInt = (h 0 0).toInt - 1 := by rw [pv_sub (by rw [e1]; omega) (by rw [e1]; omega), e1]
  have s2 : (h 0 4 - 1).toInt = (h 0 4).toInt - 1 := by rw [pv_sub (by rw [e1]; omega) (by rw [e1]; omega), e1]
  have kT : mf_Mo_fits_35 h x2 = some (if 0 ≤ x2.toInt ∧ x2.toInt < (h 0 0).toInt then 1 else 0, h) := by
    unfold mf_Mo_fits_35
    rw [ms_within, pv_bb, s1, pv_br (show (0 ≤ x2.toInt ∧ x2.toInt ≤ (h 0 0).toInt - 1) ↔ (0 ≤ x2.toInt ∧ x2.toInt < (h 0 0).toInt) by omega)]
  have kL : mf_Mo_fits_62 h x2 = some (if 0 ≤ x2.toInt ∧ x2.toInt < 4 then 1 else 0, h) := by
    unfold mf_Mo_fits_62
    rw [ms_within, pv_bb, e3, pv_br (show (0 ≤ x2.toInt ∧ x2.toInt ≤ 3) ↔ (0 ≤ x2.toInt ∧ x2.toInt < 4) by omega)]
  have kJ : mf_Mo_fits_80 h x2 = some (if 0 ≤ x2.toInt ∧ x2.toInt < 20 then 1 else 0, h) := by
    unfold mf_Mo_fits_80
    rw [ms_within, pv_bb, e19, pv_br (show (0 ≤ x2.toInt ∧ x2.toInt ≤ 19) ↔ (0 ≤ x2.toInt ∧ x2.toInt < 20) by omega)]
  have kF : mf_Mo_fits_99 h x2 = some (if 0 ≤ x2.toInt ∧ x2.toInt < 6 then 1 else 0, h) := by
    unfold mf_Mo_fits_99
    rw [ms_within, pv_bb, e5, pv_br (show (0 ≤ x2.toInt ∧ x2.toInt ≤ 5) ↔ (0 ≤ x2.toInt ∧ x2.toInt < 6) by omega)]
  have jT : ((xf_Pr_isType g x2).bind fun t => (if t.1 = 0 ∨ t.1 = 1 then some (t.1, t.2) else none)) = some (if 0 ≤ x2.toInt ∧ x2.toInt < (h 0 0).toInt then 1 else 0, g) := by rw [xs_isType, pv_bb, r1]
  have jL : ((xf_Cw_within g x2 4).bind fun t => (if t.1 = 0 ∨ t.1 = 1 then some (t.1, t.2) else none)) = some (if 0 ≤ x2.toInt ∧ x2.toInt < 4 then 1 else 0, g) := by rw [xs_within, pv_bb, e4]
  have jJ : ((xf_Cw_within g x2 20).bind fun t => (if t.1 = 0 ∨ t.1 = 1 then some (t.1, t.2) else none)) = some (if 0 ≤ x2.toInt ∧ x2.toInt < 20 then 1 else 0, g) := by rw [xs_within, pv_bb, e20]
  have jF : ((xf_Cw_within g x2 6).bind fun t => (if t.1 = 0 ∨ t.1 = 1 then some (t.1, t.2) else none)) = some (if 0 ≤ x2.toInt ∧ x2.toInt < 6 then 1 else 0, g) := by rw [xs_within, pv_bb, e6]
  have hcases : x1 = 0 ∨ x1 = 1 ∨ x1 = 2 ∨ x1 = 3 ∨ x1 = 4 ∨ x1 = 5 ∨ x1 = 6 ∨ x1 = 7 ∨ x1 = 8 ∨ x1 = 9 ∨ x1 = 10 ∨ x1 = 11 ∨ x1 = 12 ∨ x1 = 13 ∨ x1 = 14 ∨ x1 = 15 ∨ x1 = 16 ∨ x1 = 17 ∨ x1 = 18 ∨ x1 = 19 ∨ x1 = 20 ∨ x1 = 21 ∨ x1 = 22 := by
    have hn : x1.toInt.toNat ≤ 22 := by omega
    have hx := pv_nIe h0
    generalize x1.toInt.toNat = n at hx hn
    match n, hn with
    | 0, _ => exact Or.inl hx
    | 1, _ => exact Or.inr (Or.inl hx)
    | 2, _ => exact Or.inr (Or.inr (Or.inl hx))
    | 3, _ => exact Or.inr (Or.inr (Or.inr (Or.inl hx)))
    | 4, _ => exact Or.inr (Or.inr (Or.inr (Or.inr (Or.inl hx))))
    | 5, _ => exact Or.inr (Or.inr (Or.inr (Or.inr (Or.inr (Or.inl hx)))))
    | 6, _ => exact Or.inr (Or.inr (Or.inr (Or.inr (Or.inr (Or.inr (Or.inl hx))))))
    | 7, _ => exact Or.inr (Or.inr (Or.inr (Or.inr (Or.inr (Or.inr (Or.inr (Or.inl hx)))))))
    | 8, _ => exact Or.inr (Or.inr (Or.inr (Or.inr (Or.inr (Or.inr (Or.inr (Or.inr (Or.inl hx))))))))
    | 9, _ => exact Or.inr (Or.inr (Or.inr (Or.inr (Or.inr (Or.inr (Or.inr (Or.inr (Or.inr (Or.inl hx)))))))))
    | 10, _ => exact Or.inr (Or.inr (Or.inr (Or.inr (Or.inr (Or.inr (Or.inr (Or.inr (Or.inr (Or.inr (Or.inl hx))))))))))
    | 11, _ => exact Or.inr (Or.inr (Or.inr (Or.inr (Or.inr (Or.inr (Or.inr (Or.inr (Or.inr (Or.inr (Or.inr (Or.inl hx)))))))))))
    | 12, _ => exact Or.inr (Or.inr (Or.inr (Or.inr (Or.inr (Or.inr (Or.inr (Or.inr (Or.inr (Or.inr (Or.inr (Or.inr (Or.inl hx))))))))))))
    | 13, _ => exact Or.inr (Or.inr (Or.inr (Or.inr (Or.inr (Or.inr (Or.inr (Or.inr (Or.inr (Or.inr (Or.inr (Or.inr (Or.inr (Or.inl hx)))))))))))))
    | 14, _ => exact Or.inr (Or.inr (Or.inr (Or.inr (Or.inr (Or.inr (Or.inr (Or.inr (Or.inr (Or.inr (Or.inr (Or.inr (Or.inr (Or.inr (Or.inl hx))))))))))))))
    | 15, _ => exact Or.inr (Or.inr (Or.inr (Or.inr (Or.inr (Or.inr (Or.inr (Or.inr (Or.inr (Or.inr (Or.inr (Or.inr (Or.inr (Or.inr (Or.inr (Or.inl hx)))))))))))))))
    | 16, _ => exact Or.inr (Or.inr (Or.inr (Or.inr (Or.inr (Or.inr (Or.inr (Or.inr (Or.inr (Or.inr (Or.inr (Or.inr (Or.inr (Or.inr (Or.inr (Or.inr (Or.inl hx))))))))))))))))
    | 17, _ => exact Or.inr (Or.inr (Or.inr (Or.inr (Or.inr (Or.inr (Or.inr (Or.inr (Or.inr (Or.inr (Or.inr (Or.inr (Or.inr (Or.inr (Or.inr (Or.inr (Or.inr (Or.inl hx)))))))))))))))))
    | 18, _ => exact Or.inr (Or.inr (Or.inr (Or.inr (Or.inr (Or.inr (Or.inr (Or.inr (Or.inr (Or.inr (Or.inr (Or.inr (Or.inr (Or.inr (Or.inr (Or.inr (Or.inr (Or.inr (Or.inl hx))))))))))))))))))
    | 19, _ => exact Or.inr (Or.inr (Or.inr (Or.inr (Or.inr (Or.inr (Or.inr (Or.inr (Or.inr (Or.inr (Or.inr (Or.inr (Or.inr (Or.inr (Or.inr (Or.inr (Or.inr (Or.inr (Or.inr (Or.inl hx)))))))))))))))))))
    | 20, _ => exact Or.inr (Or.inr (Or.inr (Or.inr (Or.inr (Or.inr (Or.inr (Or.inr (Or.inr (Or.inr (Or.inr (Or.inr (Or.inr (Or.inr (Or.inr (Or.inr (Or.inr (Or.inr (Or.inr (Or.inr (Or.inl hx))))))))))))))))))))
    | 21, _ => exact Or.inr (Or.inr (Or.inr (Or.inr (Or.inr (Or.inr (Or.inr (Or.inr (Or.inr (Or.inr (Or.inr (Or.inr (Or.inr (Or.inr (Or.inr (Or.inr (Or.inr (Or.inr (Or.inr (Or.inr (Or.inr (Or.inl hx)))))))))))))))))))))
    | 22, _ => exact Or.inr (Or.inr (Or.inr (Or.inr (Or.inr (Or.inr (Or.inr (Or.inr (Or.inr (Or.inr (Or.inr (Or.inr (Or.inr (Or.inr (Or.inr (Or.inr (Or.inr (Or.inr (Or.inr (Or.inr (Or.inr (Or.inr (hx))))))))))))))))))))))
    | z + 23, hz => exact absurd hz (by omega)
  rcases hcases with rfl | rfl | rfl | rfl | rfl | rfl | rfl | rfl | rfl | rfl | rfl | rfl | rfl | rfl | rfl | rfl | rfl | rfl | rfl | rfl | rfl | rfl | rfl
  · have ev : ((0 : Int32)).toInt = 0 := rfl
    refine ⟨1, Or.inr rfl, rfl, rfl, fun _ => ?_⟩
    rw [ev]
    exact ⟨fun z => absurd z (by decide), fun z => absurd z (by decide), fun z => absurd z (by decide), fun z => absurd z (by decide), fun z => absurd z (by decide)⟩
  · have ev : ((1 : Int32)).toInt = 1 := rfl
    refine ⟨_, pv_b01, jT, kT, fun hb => ?_⟩
    rw [ev]
    exact ⟨fun _ => pv_bt hb, fun z => absurd z (by decide), fun z => absurd z (by decide), fun z => absurd z (by decide), fun z => absurd z (by decide)⟩
  · have ev : ((2 : Int32)).toInt = 2 := rfl
    refine ⟨_, pv_b01, jL, kL, fun hb => ?_⟩
    rw [ev]
    exact ⟨fun z => absurd z (by decide), fun _ => (by have := pv_bt hb; omega), fun z => absurd z (by decide), fun z => absurd z (by decide), fun z => absurd z (by decide)⟩
  · have ev : ((3 : Int32)).toInt = 3 := rfl
    refine ⟨_, pv_b01, jL, kL, fun hb => ?_⟩
    rw [ev]
    exact ⟨fun z => absurd z (by decide), fun _ => (by have := pv_bt hb; omega), fun z => absurd z (by decide), fun z => absurd z (by decide), fun z => absurd z (by decide)⟩
  · have ev : ((4 : Int32)).toInt = 4 := rfl
    refine ⟨1, Or.inr rfl, rfl, rfl, fun _ => ?_⟩
    rw [ev]
    exact ⟨fun z => absurd z (by decide), fun z => absurd z (by decide), fun z => absurd z (by decide), fun z => absurd z (by decide), fun z => absurd z (by decide)⟩
  · have ev : ((5 : Int32)).toInt = 5 := rfl
    refine ⟨1, Or.inr rfl, rfl, rfl, fun _ => ?_⟩
    rw [ev]
    exact ⟨fun z => absurd z (by decide), fun z => absurd z (by decide), fun z => absurd z (by decide), fun z => absurd z (by decide), fun z => absurd z (by decide)⟩
  · have ev : ((6 : Int32)).toInt = 6 := rfl
    refine ⟨1, Or.inr rfl, rfl, rfl, fun _ => ?_⟩
    rw [ev]
    exact ⟨fun z => absurd z (by decide), fun z => absurd z (by decide), fun z => absurd z (by decide), fun z => absurd z (by decide), fun z => absurd z (by decide)⟩
  · have ev : ((7 : Int32)).toInt = 7 := rfl
    refine ⟨1, Or.inr rfl, rfl, rfl, fun _ => ?_⟩
    rw [ev]
    exact ⟨fun z => absurd z (by decide), fun z => absurd z (by decide), fun z => absurd z (by decide), fun z => absurd z (by decide), fun z => absurd z (by decide)⟩
  · have ev : ((8 : Int32)).toInt = 8 := rfl
    refine ⟨1, Or.inr rfl, rfl, rfl, fun _ => ?_⟩
    rw [ev]
    exact ⟨fun z => absurd z (by decide), fun z => absurd z (by decide), fun z => absurd z (by decide), fun z => absurd z (by decide), fun z => absurd z (by decide)⟩
  · have ev : ((9 : Int32)).toInt = 9 := rfl
    refine ⟨_, pv_b01, jJ, kJ, fun hb => ?_⟩
    rw [ev]
    exact ⟨fun z => absurd z (by decide), fun z => absurd z (by decide), fun _ => (by have := pv_bt hb; omega), fun z => absurd z (by decide), fun z => absurd z (by decide)⟩
  · have ev : ((10 : Int32)).toInt = 10 := rfl
    refine ⟨_, pv_b01, jJ, kJ, fun hb => ?_⟩
    rw [ev]
    exact ⟨fun z => absurd z (by decide), fun z => absurd z (by decide), fun _ => (by have := pv_bt hb; omega), fun z => absurd z (by decide), fun z => absurd z (by decide)⟩
  · have ev : ((11 : Int32)).toInt = 11 := rfl
    refine ⟨_, pv_b01, jT, kT, fun hb => ?_⟩
    rw [ev]
    exact ⟨fun _ => pv_bt hb, fun z => absurd z (by decide), fun z => absurd z (by decide), fun z => absurd z (by decide), fun z => absurd z (by decide)⟩
  · have ev : ((12 : Int32)).toInt = 12 := rfl
    refine ⟨_, pv_b01, jF, kF, fun hb => ?_⟩
    rw [ev]
    exact ⟨fun z => absurd z (by decide), fun z => absurd z (by decide), fun z => absurd z (by decide), fun _ => (by have := pv_bt hb; omega), fun z => absurd z (by decide)⟩
  · have ev : ((13 : Int32)).toInt = 13 := rfl
    refine ⟨_, pv_b01, jF, kF, fun hb => ?_⟩
    rw [ev]
    exact ⟨fun z => absurd z (by decide), fun z => absurd z (by decide), fun z => absurd z (by decide), fun _ => (by have := pv_bt hb; omega), fun z => absurd z (by decide)⟩
  · have ev : ((14 : Int32)).toInt = 14 := rfl
    refine ⟨_, pv_b01, jT, kT, fun hb => ?_⟩
    rw [ev]
    exact ⟨fun _ => pv_bt hb, fun z => absurd z (by decide), fun z => absurd z (by decide), fun z => absurd z (by decide), fun z => absurd z (by decide)⟩
  · have ev : ((15 : Int32)).toInt = 15 := rfl
    refine ⟨_, pv_b01, jT, kT, fun hb => ?_⟩
    rw [ev]
    exact ⟨fun _ => pv_bt hb, fun z => absurd z (by decide), fun z => absurd z (by decide), fun z => absurd z (by decide), fun z => absurd z (by decide)⟩
  · have ev : ((16 : Int32)).toInt = 16 := rfl
    have a1 : xf_Pr_operandFits g 16 x2 = ((xf_Pr_isPlain g x2).bind fun t => (if t.1 = 0 ∨ t.1 = 1 then some (t.1, t.2) else none)) := rfl
    have a2 : mf_Mo_fits h 16 x2 = ((mf_Mo_within h x2 (h 0 4 - 1)).bind fun t118 => (if t118.1 = 0 then (some ((0 : Int32), t118.2)) else (if x2 < 0 ∨ 10 ≤ x2.toNatClampNeg then none else (if 0 ≤ (t118.2 5 x2.toNatClampNeg) then (some ((0 : Int32), t118.2)) else (mf_Mo_fits_133 t118.2))))) := rfl
    refine ⟨if 0 ≤ x2.toInt ∧ x2.toInt < (h 0 4).toInt ∧ (h 5 x2.toInt.toNat).toInt = -1 then 1 else 0, pv_b01, ?_, ?_, fun hb => ?_⟩
    · rw [a1, xs_isPlain g x2 (by rw [r2]; exact n3), pv_bb, r2]
      congr 2
      apply pv_br
      constructor
      · intro z
        have q := (hQ x2.toInt.toNat (by omega)).2.1
        rw [q] at z
        exact z
      · intro z
        have q := (hQ x2.toInt.toNat (by omega)).2.1
        rw [q]
        exact z
    · rw [a2, ms_within, s2]
      simp only [Option.bind_some, pv_b1]
      by_cases z : 0 ≤ x2.toInt ∧ x2.toInt < (h 0 4).toInt
      · have q := hM x2.toInt.toNat (by omega)
        rw [if_neg (fun w => w (by omega)), if_neg (by rw [pv_lt, pv_cl, e0]; omega), pv_cl]
        by_cases y : (h 5 x2.toInt.toNat).toInt = -1
        · rw [if_neg (by rw [pv_le, e0]; omega), if_pos ⟨z.1, z.2, y⟩]
          rfl
        · rw [if_pos (by rw [pv_le, e0]; omega), if_neg (fun w => y w.2.2)]
      · rw [if_pos (by omega), if_neg (fun w => z ⟨w.1, w.2.1⟩)]
    · rw [ev]
      exact ⟨fun z => absurd z (by decide), fun z => absurd z (by decide), fun z => absurd z (by decide), fun z => absurd z (by decide), fun _ => pv_bt hb⟩
  · have ev : ((17 : Int32)).toInt = 17 := rfl
    refine ⟨_, pv_b01, jL, kL, fun hb => ?_⟩
    rw [ev]
    exact ⟨fun z => absurd z (by decide), fun _ => (by have := pv_bt hb; omega), fun z => absurd z (by decide), fun z => absurd z (by decide), fun z => absurd z (by decide)⟩
  · have ev : ((18 : Int32)).toInt = 18 := rfl
    refine ⟨_, pv_b01, jT, kT, fun hb => ?_⟩
    rw [ev]
    exact ⟨fun _ => pv_bt hb, fun z => absurd z (by decide), fun z => absurd z (by decide), fun z => absurd z (by decide), fun z => absurd z (by decide)⟩
  · have ev : ((19 : Int32)).toInt = 19 := rfl
    refine ⟨_, pv_b01, jT, kT, fun hb => ?_⟩
    rw [ev]
    exact ⟨fun _ => pv_bt hb, fun z => absurd z (by decide), fun z => absurd z (by decide), fun z => absurd z (by decide), fun z => absurd z (by decide)⟩
  · have ev : ((20 : Int32)).toInt = 20 := rfl
    refine ⟨1, Or.inr rfl, rfl, rfl, fun _ => ?_⟩
    rw [ev]
    exact ⟨fun z => absurd z (by decide), fun z => absurd z (by decide), fun z => absurd z (by decide), fun z => absurd z (by decide), fun z => absurd z (by decide)⟩
  · have ev : ((21 : Int32)).toInt = 21 := rfl
    refine ⟨1, Or.inr rfl, rfl, rfl, fun _ => ?_⟩
    rw [ev]
    exact ⟨fun z => absurd z (by decide), fun z => absurd z (by decide), fun z => absurd z (by decide), fun z => absurd z (by decide), fun z => absurd z (by decide)⟩
  · have ev : ((22 : Int32)).toInt = 22 := rfl
    refine ⟨1, Or.inr rfl, rfl, rfl, fun _ => ?_⟩
    rw [ev]
    exact ⟨fun z => absurd z (by decide), fun z => absurd z (by decide), fun z => absurd z (by decide), fun z => absurd z (by decide), fun z => absurd z (by decide)⟩
