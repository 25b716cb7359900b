/-! The check, abstractly: types, frames, the effect of an instruction -/
abbrev tc_cl (h : qa_St) (t : Int32) : Prop := 0 ≤ t.toInt ∧ t.toInt < (h 0 0).toInt
def tc_va (h : qa_St) (t : Int32) : Prop := tc_cl h t ∨ t = 8 ∨ t = 9
def tc_le (g h : qa_St) (t u : Int32) : Prop := t = u ∨ u = 8 ∨ (tc_cl h t ∧ tc_cl h u ∧ pv_bit (g 2 t.toInt.toNat) u.toInt.toNat)
def tc_lub (g h : qa_St) (a b j : Int32) : Prop := tc_le g h a j ∧ tc_le g h b j ∧ tc_va h j ∧ ∀ u, tc_va h u → tc_le g h a u → tc_le g h b u → tc_le g h j u
def tc_rk (t : Int32) : Nat := if t = 9 then 0 else if t = 8 then 6 else 5 - t.toInt.toNat
theorem tc_8 : (8 : Int32).toInt = 8 := rfl
theorem tc_9 : (9 : Int32).toInt = 9 := rfl
theorem tc_cl8 {h : qa_St} (hN : pr_N h) : ¬ tc_cl h 8 := by
  obtain ⟨n0, n1, n2, n3⟩ := hN
  unfold tc_cl
  rw [tc_8]; omega
theorem tc_cl9 {h : qa_St} (hN : pr_N h) : ¬ tc_cl h 9 := by
  obtain ⟨n0, n1, n2, n3⟩ := hN
  unfold tc_cl
  rw [tc_9]; omega
theorem tc_refl {g h : qa_St} (t : Int32) : tc_le g h t t := Or.inl rfl
theorem tc_btr {g h : qa_St} (hN : pr_N h) (hC : pr_C h) (hT : pr_T g h) : ∀ (a : Nat), (a : Int) < (h 0 0).toInt → ∀ b c : Nat, b < 10 → c < 10 → pv_bit (g 2 a) b → pv_bit (g 2 b) c → pv_bit (g 2 a) c := by
  intro a
  induction a using Nat.strongRecOn with
  | _ a ih =>
    intro ha b c hb hc h1 h2
    have q := hC a ha
    rcases (pr_bit hN hT ha b hb).mp h1 with y | y
    · rw [y] at h2; exact h2
    · exact (pr_bit hN hT ha c hc).mpr (Or.inr ⟨y.1, ih (h 1 a).toInt.toNat (by omega) (by omega) b c hb hc y.2 h2⟩)
theorem tc_tr {g h : qa_St} (hN : pr_N h) (hC : pr_C h) (hT : pr_T g h) {t u w : Int32} (h1 : tc_le g h t u) (h2 : tc_le g h u w) : tc_le g h t w := by
  rcases h1 with h1 | h1 | h1
  · rw [h1]; exact h2
  · rcases h2 with h2 | h2 | h2
    · exact Or.inr (Or.inl (h2.symm.trans h1))
    · exact Or.inr (Or.inl h2)
    · rw [h1] at h2
      exact absurd h2.1 (tc_cl8 hN)
  · rcases h2 with h2 | h2 | h2
    · rw [← h2]; exact Or.inr (Or.inr h1)
    · exact Or.inr (Or.inl h2)
    · obtain ⟨n0, n1, n2, n3⟩ := hN
      have c1 := h1.1
      have c2 := h2.1
      have c3 := h2.2.1
      exact Or.inr (Or.inr ⟨h1.1, h2.2.1, tc_btr ⟨n0, n1, n2, n3⟩ hC hT t.toInt.toNat (by omega) u.toInt.toNat w.toInt.toNat (by omega) (by omega) h1.2.2 h2.2.2⟩)
theorem tc_as {g h : qa_St} (hN : pr_N h) (hC : pr_C h) (hT : pr_T g h) {t u : Int32} (h1 : tc_le g h t u) (h2 : tc_le g h u t) : t = u := by
  rcases h1 with h1 | h1 | h1
  · exact h1
  · rcases h2 with h2 | h2 | h2
    · exact h2.symm
    · rw [h1, h2]
    · rw [h1] at h2
      exact absurd h2.1 (tc_cl8 hN)
  · rcases h2 with h2 | h2 | h2
    · exact h2.symm
    · rw [h2] at h1
      exact absurd h1.1 (tc_cl8 hN)
    · have hN0 := hN
      obtain ⟨n0, n1, n2, n3⟩ := hN
      have c1 := h1.1
      have c2 := h2.1
      have a1 := pr_bit_le hN0 hC hT t.toInt.toNat (by omega) u.toInt.toNat (by omega) h1.2.2
      have a2 := pr_bit_le hN0 hC hT u.toInt.toNat (by omega) t.toInt.toNat (by omega) h2.2.2
      rw [pv_eq]; omega
theorem tc_to9 {g h : qa_St} (hN : pr_N h) {t : Int32} (h1 : tc_le g h t 9) : t = 9 := by
  rcases h1 with h1 | h1 | h1
  · exact h1
  · exact absurd h1 (by decide)
  · exact absurd h1.2.1 (tc_cl9 hN)
theorem tc_of8 {g h : qa_St} (hN : pr_N h) {t : Int32} (h1 : tc_le g h 8 t) : t = 8 := by
  rcases h1 with h1 | h1 | h1
  · exact h1.symm
  · exact h1
  · exact absurd h1.1 (tc_cl8 hN)
theorem tc_tocl {g h : qa_St} (hN : pr_N h) {t u : Int32} (h1 : tc_le g h t u) (hu : tc_cl h u) : tc_cl h t := by
  rcases h1 with h1 | h1 | h1
  · rw [h1]; exact hu
  · rw [h1] at hu
    exact absurd hu (tc_cl8 hN)
  · exact h1.1
theorem tc_rk6 (t : Int32) : tc_rk t ≤ 6 := by
  unfold tc_rk
  split
  · omega
  · split <;> omega
theorem tc_rkle {g h : qa_St} (hN : pr_N h) (hC : pr_C h) (hT : pr_T g h) {t u : Int32} (ht : tc_va h t) (h1 : tc_le g h t u) : tc_rk t ≤ tc_rk u ∧ (t ≠ u → tc_rk t < tc_rk u) := by
  have hN0 := hN
  obtain ⟨n0, n1, n2, n3⟩ := hN
  rcases h1 with h1 | h1 | h1
  · rw [h1]; exact ⟨Nat.le_refl _, fun z => absurd rfl z⟩
  · have e : tc_rk u = 6 := by rw [h1]; rfl
    rw [e]
    refine ⟨tc_rk6 t, fun z => ?_⟩
    rcases ht with y | y | y
    · unfold tc_rk
      rw [if_neg (fun w => by rw [w] at y; exact tc_cl9 hN0 y), if_neg (fun w => by rw [w] at y; exact tc_cl8 hN0 y)]
      omega
    · exact absurd (y.trans h1.symm) z
    · rw [y]; decide
  · obtain ⟨c1, c2, c3⟩ := h1
    have a1 := pr_bit_le hN0 hC hT t.toInt.toNat (by omega) u.toInt.toNat (by omega) c3
    unfold tc_rk
    rw [if_neg (fun w => by rw [w] at c1; exact tc_cl9 hN0 c1), if_neg (fun w => by rw [w] at c1; exact tc_cl8 hN0 c1), if_neg (fun w => by rw [w] at c2; exact tc_cl9 hN0 c2), if_neg (fun w => by rw [w] at c2; exact tc_cl8 hN0 c2)]
    refine ⟨by omega, fun z => ?_⟩
    have : ¬ t.toInt = u.toInt := fun w => z (by rw [pv_eq]; exact w)
    omega
/-! fields, answers: what a class is of, it has too -/
theorem tc_fd {g h : qa_St} (hN : pr_N h) (hC : pr_C h) (hT : pr_T g h) : ∀ (a : Nat), (a : Int) < (h 0 0).toInt → ∀ b : Nat, b < 10 → pv_bit (g 2 a) b → (g 3 b).toInt ≤ (g 3 a).toInt := by
  intro a
  induction a using Nat.strongRecOn with
  | _ a ih =>
    intro ha b hb h1
    have q := hC a ha
    rcases (pr_bit hN hT ha b hb).mp h1 with y | y
    · rw [y]; omega
    · have := ih (h 1 a).toInt.toNat (by omega) (by omega) b hb y.2
      have t := (hT a ha).2.1
      rw [if_neg (by omega)] at t
      omega
theorem tc_an {g h : qa_St} (hN : pr_N h) (hC : pr_C h) (hT : pr_T g h) (s : Nat) : ∀ (a : Nat), (a : Int) < (h 0 0).toInt → ∀ b : Nat, b < 10 → pv_bit (g 2 a) b → pr_an g h s 7 b ≠ -1 → pr_an g h s 7 a ≠ -1 := by
  intro a
  induction a using Nat.strongRecOn with
  | _ a ih =>
    intro ha b hb h1 h2
    have hN0 := hN
    obtain ⟨n0, n1, n2, n3⟩ := hN
    have q := hC a ha
    rcases (pr_bit hN0 hT ha b hb).mp h1 with y | y
    · rw [← y]; exact h2
    · have := ih (h 1 a).toInt.toNat (by omega) (by omega) b hb y.2 h2
      rw [pr_an]
      by_cases ho : g (6 + a) s = -1
      · rw [if_pos ho, if_neg (by omega), pr_an_eq (g := g) hC _ _ (by omega) 6 7 (by omega) (by omega)]
        exact this
      · rw [if_neg ho]; exact ho
/-- a frame of types: the size of its stack, its places -/
abbrev tc_F := Nat × (Nat → Int32)
def tc_up (v : Nat → Int32) (i : Nat) (t : Int32) : Nat → Int32 := fun k => if k = i then t else v k
theorem tc_up_s {v : Nat → Int32} {i : Nat} {t : Int32} : tc_up v i t i = t := by unfold tc_up; rw [if_pos rfl]
theorem tc_up_n {v : Nat → Int32} {i k : Nat} {t : Int32} (h : k ≠ i) : tc_up v i t k = v k := by unfold tc_up; rw [if_neg h]
/-- take: any (0), a number (1), an object (2) -/
def tc_tk (h : qa_St) (w : Nat) (f : tc_F) : Option (Int32 × tc_F) := if f.1 = 0 then none else if (w = 1 → f.2 (3 + f.1) = 9) ∧ (w = 2 → tc_cl h (f.2 (3 + f.1))) then some (f.2 (3 + f.1), (f.1 - 1, f.2)) else none
def tc_tks (h : qa_St) : Nat → tc_F → Option tc_F
  | 0, f => some f
  | k + 1, f => (tc_tk h 1 f).bind fun q => tc_tks h k q.2
def tc_pt (t : Int32) (f : tc_F) : Option tc_F := if 6 ≤ f.1 then none else some (f.1 + 1, tc_up f.2 (4 + f.1) t)
def tc_ef (g h : qa_St) (op : Int) (a : Int32) (f : tc_F) : Option tc_F :=
  if op = 0 ∨ op = 14 then tc_pt 9 f
  else if op = 1 ∨ op = 11 then tc_pt a f
  else if op = 2 then (if f.2 a.toInt.toNat = 8 then none else tc_pt (f.2 a.toInt.toNat) f)
  else if op = 3 then (tc_tk h 0 f).bind fun q => some (q.2.1, tc_up q.2.2 a.toInt.toNat q.1)
  else if op = 4 then (tc_tk h 0 f).bind fun q => some q.2
  else if 5 ≤ op ∧ op ≤ 8 then (tc_tks h 2 f).bind fun q => tc_pt 9 q
  else if op = 9 then some f
  else if op = 10 ∨ op = 15 ∨ 20 ≤ op then tc_tks h 1 f
  else if op = 12 then (tc_tk h 2 f).bind fun q => if a.toInt < (g 3 q.1.toInt.toNat).toInt then tc_pt 9 q.2 else none
  else if op = 13 then (tc_tks h 1 f).bind fun p => (tc_tk h 2 p).bind fun q => if a.toInt < (g 3 q.1.toInt.toNat).toInt then some q.2 else none
  else if op = 16 then (tc_tks h (h 6 a.toInt.toNat).toInt.toNat f).bind fun q => tc_pt 9 q
  else if op = 17 then (tc_tks h 1 f).bind fun p => (tc_tk h 2 p).bind fun q => if pr_an g h a.toInt.toNat 7 q.1.toInt.toNat = -1 then none else tc_pt 9 q.2
  else if op = 18 then (tc_tk h 2 f).bind fun q => tc_pt a q.2
  else (tc_tk h 2 f).bind fun q => tc_pt 9 q.2
def tc_fle (g h : qa_St) (f f' : tc_F) : Prop := f.1 = f'.1 ∧ ∀ p, p < 4 + f.1 → tc_le g h (f.2 p) (f'.2 p)
def tc_ok (h : qa_St) (f : tc_F) : Prop := f.1 ≤ 6 ∧ ∀ p, p < 4 + f.1 → tc_va h (f.2 p)
theorem tc_tk_m {g h : qa_St} (hN : pr_N h) {w : Nat} {f f' : tc_F} (hf : tc_fle g h f f') {q' : Int32 × tc_F} (he : tc_tk h w f' = some q') : ∃ q, tc_tk h w f = some q ∧ tc_le g h q.1 q'.1 ∧ tc_fle g h q.2 q'.2 ∧ (w = 2 → tc_cl h q'.1 ∧ tc_cl h q.1) := by
  unfold tc_tk at he ⊢
  obtain ⟨e1, e2⟩ := hf
  by_cases h0 : f'.1 = 0
  · rw [if_pos h0] at he; cases he
  · rw [if_neg h0] at he
    rw [if_neg (by rw [e1]; exact h0)]
    by_cases hc : (w = 1 → f'.2 (3 + f'.1) = 9) ∧ (w = 2 → tc_cl h (f'.2 (3 + f'.1)))
    · rw [if_pos hc] at he
      cases he
      have hl : tc_le g h (f.2 (3 + f.1)) (f'.2 (3 + f.1)) := e2 _ (by omega)
      rw [← e1] at hc ⊢
      have hc2 : (w = 1 → f.2 (3 + f.1) = 9) ∧ (w = 2 → tc_cl h (f.2 (3 + f.1))) := ⟨fun z => tc_to9 hN (by rw [← hc.1 z]; exact hl), fun z => tc_tocl hN hl (hc.2 z)⟩
      rw [if_pos hc2]
      exact ⟨_, rfl, hl, ⟨rfl, fun p hp => e2 p (by have : p < 4 + (f.1 - 1) := hp; omega)⟩, fun z => ⟨hc.2 z, hc2.2 z⟩⟩
    · rw [if_neg hc] at he; cases he
theorem tc_tks_m {g h : qa_St} (hN : pr_N h) : ∀ (k : Nat) {f f' r' : tc_F}, tc_fle g h f f' → tc_tks h k f' = some r' → ∃ r, tc_tks h k f = some r ∧ tc_fle g h r r' := by
  intro k
  induction k with
  | zero =>
    intro f f' r' hf he
    rw [tc_tks] at he
    cases he
    exact ⟨f, rfl, hf⟩
  | succ k ih =>
    intro f f' r' hf he
    rw [tc_tks] at he ⊢
    cases hq : tc_tk h 1 f' with
    | none => rw [hq] at he; cases he
    | some q' =>
      rw [hq] at he
      obtain ⟨q, w1, w2, w3, -⟩ := tc_tk_m hN hf hq
      obtain ⟨r, v1, v2⟩ := ih w3 he
      exact ⟨r, by rw [w1]; exact v1, v2⟩
theorem tc_pt_m {g h : qa_St} {t t' : Int32} {f f' r' : tc_F} (hf : tc_fle g h f f') (ht : tc_le g h t t') (he : tc_pt t' f' = some r') : ∃ r, tc_pt t f = some r ∧ tc_fle g h r r' := by
  unfold tc_pt at he ⊢
  obtain ⟨e1, e2⟩ := hf
  by_cases h6 : 6 ≤ f'.1
  · rw [if_pos h6] at he; cases he
  · rw [if_neg h6] at he
    cases he
    rw [if_neg (by rw [e1]; exact h6)]
    refine ⟨_, rfl, by show f.1 + 1 = f'.1 + 1; rw [e1], fun p hp => ?_⟩
    have hp : p < 4 + (f.1 + 1) := hp
    show tc_le g h (tc_up f.2 (4 + f.1) t p) (tc_up f'.2 (4 + f'.1) t' p)
    rw [← e1]
    by_cases hq : p = 4 + f.1
    · rw [hq, tc_up_s, tc_up_s]; exact ht
    · rw [tc_up_n hq, tc_up_n hq]; exact e2 p (by omega)
