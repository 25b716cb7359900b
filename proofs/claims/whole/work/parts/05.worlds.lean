def xe_len : List Nat := [0, 0, 6, 6, 6, 0, 4, 4, 4, 4, 4, 4, 10, 10, 10, 10, 0, 20, 20, 20, 20, 20, 20, 20, 20, 20, 20, 0, 20, 20, 20, 20, 20, 20, 20, 20, 20, 20, 10, 0, 3, 3, 3, 3, 3, 3, 3, 3, 3, 3, 0, 3, 3, 3, 3, 3, 3, 3, 3, 3, 3, 0, 3, 3, 3, 3, 3, 3, 3, 3, 3, 3, 0, 2000, 200, 0, 10, 0, 0, 0, 6, 6, 16, 96, 16, 0, 10, 0, 10, 0, 10, 0, 10, 0, 10, 0, 10, 0, 10, 0, 10, 0, 10, 0, 10, 0, 10]
def xe_ob (cJ cF : ClassId) (ad : Nat → Nat) (k : Nat) (w : Nat → Int32) : va_E := match k with
  | 0 => .inr (0, [.ref (ad 1), .ref (ad 72), .ref (ad 77), .ref (ad 78), .int (w 4), .int (w 5)])
  | 1 => .inr (1, [.int (w 0), .int (w 1), .ref (ad 2), .ref (ad 3), .ref (ad 4), .ref (ad 5), .ref (ad 12), .ref (ad 13), .ref (ad 14), .ref (ad 15), .ref (ad 16), .ref (ad 27), .ref (ad 38), .ref (ad 39), .ref (ad 50), .ref (ad 61)])
  | 5 => .inl (cJ, 6, .inr (.inr (.inr (.inr (fun i => some (ad (6 + i)))))))
  | 16 => .inl (cJ, 10, .inr (.inr (.inr (.inr (fun i => some (ad (17 + i)))))))
  | 27 => .inl (cJ, 10, .inr (.inr (.inr (.inr (fun i => some (ad (28 + i)))))))
  | 39 => .inl (cJ, 10, .inr (.inr (.inr (.inr (fun i => some (ad (40 + i)))))))
  | 50 => .inl (cJ, 10, .inr (.inr (.inr (.inr (fun i => some (ad (51 + i)))))))
  | 61 => .inl (cJ, 10, .inr (.inr (.inr (.inr (fun i => some (ad (62 + i)))))))
  | 72 => .inr (2, [.ref (ad 1), .ref (ad 73), .ref (ad 74), .ref (ad 75), .int (w 4), .int (w 5), .int (w 6)])
  | 77 => .inr (3, [.ref (ad 1), .ref (ad 72), .int (w 2), .int (w 3)])
  | 78 => .inr (4, [.ref (ad 1), .ref (ad 79), .ref (ad 80), .ref (ad 81), .ref (ad 82), .ref (ad 83), .ref (ad 84), .int (w 7), .int (w 8), .int (w 9), .int (w 10), .int (w 11), .int (w 12)])
  | 79 => .inl (cF, 11, .inr (.inr (.inr (.inr (fun i => some (ad (85 + 2 * i)))))))
  | _ => .inr (5, [.ref (ad (k + 1)), .int (w 1), .int (w 2)])
def xe_en (cI cJ cF : ClassId) (ad : Nat → Nat) (k : Nat) (w : Nat → Int32) : va_E := match xe_len.getD k 0 with
  | 0 => xe_ob cJ cF ad k w
  | n + 1 => .inl (cI, n + 1, .inl w)
theorem xe_arr {cI cJ cF : ClassId} {ad : Nat → Nat} {k n : Nat} (h : xe_len.getD k 0 = n + 1) : ∀ w : Nat → Int32, xe_en cI cJ cF ad k w = .inl (cI, n + 1, .inl w) := fun w => by
  simp only [xe_en, h]
def xe_F (r : Nat) : Prop := r = 75 ∨ ∃ j, j < 11 ∧ r = 85 + 2 * j
theorem xe_F75 : xe_F 75 := Or.inl rfl
theorem xe_Fof {i : Int32} (h : ¬ (i < 0 ∨ 11 ≤ i.toNatClampNeg)) : xe_F (85 + 2 * i.toNatClampNeg) := Or.inr ⟨_, qa_lt h, rfl⟩
theorem xe_Flt {r : Nat} (h : xe_F r) : r < 107 := by
  rcases h with rfl | ⟨j, hj, rfl⟩ <;> omega
theorem xe_Plt {r : Nat} (h : xe_F r) : r + 1 < 107 := by
  rcases h with rfl | ⟨j, hj, rfl⟩ <;> omega
theorem xe_Fin {r : Nat} (h : xe_F r) : r = 75 ∨ r = 85 ∨ r = 87 ∨ r = 89 ∨ r = 91 ∨ r = 93 ∨ r = 95 ∨ r = 97 ∨ r = 99 ∨ r = 101 ∨ r = 103 ∨ r = 105 := by
  rcases h with rfl | ⟨j, hj, rfl⟩ <;> omega
theorem xe_fr {cI cJ cF : ClassId} {ad : Nat → Nat} {r : Nat} (h : xe_F r) : ∀ w : Nat → Int32, xe_en cI cJ cF ad r w = .inr (5, [.ref (ad (r + 1)), .int (w 1), .int (w 2)]) := by
  intro w
  rcases xe_Fin h with rfl | rfl | rfl | rfl | rfl | rfl | rfl | rfl | rfl | rfl | rfl | rfl <;> rfl
theorem xe_pl {cI cJ cF : ClassId} {ad : Nat → Nat} {r : Nat} (h : xe_F r) : ∀ w : Nat → Int32, xe_en cI cJ cF ad (r + 1) w = .inl (cI, 10, .inl w) := by
  intro w
  rcases xe_Fin h with rfl | rfl | rfl | rfl | rfl | rfl | rfl | rfl | rfl | rfl | rfl | rfl <;> rfl
theorem xr_5 : ∀ i, i < 6 → xe_len.getD (6 + i) 0 = 4 := by decide
theorem xr_16 : ∀ i, i < 10 → xe_len.getD (17 + i) 0 = 20 := by decide
theorem xr_27 : ∀ i, i < 10 → xe_len.getD (28 + i) 0 = 20 := by decide
theorem xr_39 : ∀ i, i < 10 → xe_len.getD (40 + i) 0 = 3 := by decide
theorem xr_50 : ∀ i, i < 10 → xe_len.getD (51 + i) 0 = 3 := by decide
theorem xr_61 : ∀ i, i < 10 → xe_len.getD (62 + i) 0 = 3 := by decide
def me_len : List Nat := [0, 6, 6, 6, 10, 10, 10, 10, 200, 200, 10, 30, 30, 30, 0, 200, 2000, 10, 0, 0, 0, 10, 10, 10, 0, 0, 40, 60, 16, 96, 6, 6, 16]
def me_lez : List Nat := [0, 0, 0, 0, 0, 0, 0, 0, 0, 0, 0, 0, 0, 0, 200, 0, 0, 0, 10, 6, 6, 0, 0, 0, 10, 10, 0, 0, 0, 0, 0, 0, 0]
def me_en (cI cZ : ClassId) (ad : Nat → Nat) (k : Nat) (w : Nat → Int32) : va_E := match me_len.getD k 0 with
  | n + 1 => .inl (cI, n + 1, .inl w)
  | 0 => match me_lez.getD k 0 with
    | n + 1 => .inl (cZ, n + 1, .inl w)
    | 0 => .inr (6, [.int (w 0), .ref (ad 1), .ref (ad 2), .ref (ad 3), .int (w 4), .ref (ad 4), .ref (ad 5), .ref (ad 6), .ref (ad 7), .ref (ad 8), .ref (ad 9), .ref (ad 10), .ref (ad 11), .ref (ad 12), .ref (ad 13), .int (w 15), .ref (ad 14), .ref (ad 15), .ref (ad 16), .ref (ad 17), .int (w 20), .int (w 21), .int (w 22), .ref (ad 18), .ref (ad 19), .ref (ad 20), .int (w 26), .int (w 27), .int (w 28), .int (w 29), .int (w 30), .int (w 31), .int (w 32), .ref (ad 21), .ref (ad 22), .ref (ad 23), .ref (ad 24), .ref (ad 25), .ref (ad 26), .ref (ad 27), .int (w 40), .ref (ad 28), .ref (ad 29), .ref (ad 30), .ref (ad 31), .int (w 45), .int (w 46), .ref (ad 32)])
theorem me_arr {cI cZ : ClassId} {ad : Nat → Nat} {k n : Nat} (h : me_len.getD k 0 = n + 1) : ∀ w : Nat → Int32, me_en cI cZ ad k w = .inl (cI, n + 1, .inl w) := fun w => by
  simp only [me_en, h]
theorem me_zar {cI cZ : ClassId} {ad : Nat → Nat} {k n : Nat} (h : me_lez.getD k 0 = n + 1) (h0 : me_len.getD k 0 = 0 := by rfl) : ∀ w : Nat → Int32, me_en cI cZ ad k w = .inl (cZ, n + 1, .inl w) := fun w => by
  simp only [me_en, h0, h]
