/-! The relation between the two states. Reference h: classes h 0 0, parent h 1, own fields h 2, first h 3, methods h 0 4, home h 4, selector h 5, wants h 6, size h 7, ops h 8, as h 9, guards h 10, from h 11, to h 12, handler h 13. Class g: typeCount g 1 0, methodCount g 1 1, kin g 2, fieldCounts g 3, initialisers g 4, ownMethods g (6+c), owners g 12, selectors g 13, inputCounts g 14, lengths g 15, ops g (17+m), operands g (28+m), guardCounts g 38, froms g (40+m), ends g (51+m), handlers g (62+m). -/
def pr_fit (h : qa_St) (op a : Int) : Prop :=
  ((op = 1 ∨ op = 11 ∨ op = 14 ∨ op = 15 ∨ op = 18 ∨ op = 19) → 0 ≤ a ∧ a < (h 0 0).toInt) ∧ ((op = 2 ∨ op = 3 ∨ op = 17) → 0 ≤ a ∧ a ≤ 3) ∧ ((op = 9 ∨ op = 10) → 0 ≤ a ∧ a ≤ 19) ∧ ((op = 12 ∨ op = 13) → 0 ≤ a ∧ a ≤ 5) ∧ (op = 16 → 0 ≤ a ∧ a < (h 0 4).toInt ∧ (h 5 a.toNat).toInt = -1)
/-- counts -/
def pr_N (h : qa_St) : Prop := 0 ≤ (h 0 0).toInt ∧ (h 0 0).toInt ≤ 6 ∧ 0 ≤ (h 0 4).toInt ∧ (h 0 4).toInt ≤ 10
/-- a class -/
def pr_C (h : qa_St) : Prop := ∀ c : Nat, (c : Int) < (h 0 0).toInt → -1 ≤ (h 1 c).toInt ∧ (h 1 c).toInt < (c : Int) ∧ 0 ≤ (h 2 c).toInt ∧ (h 2 c).toInt ≤ 6 ∧ -1 ≤ (h 3 c).toInt ∧ (h 3 c).toInt < (h 0 4).toInt ∧ (0 ≤ (h 3 c).toInt → (h 5 (h 3 c).toInt.toNat).toInt = -1 ∧ (h 6 (h 3 c).toInt.toNat).toInt = 0)
/-- a method -/
def pr_M (h : qa_St) : Prop := ∀ m : Nat, (m : Int) < (h 0 4).toInt → 0 ≤ (h 4 m).toInt ∧ (h 4 m).toInt < (h 0 0).toInt ∧ -1 ≤ (h 5 m).toInt ∧ (h 5 m).toInt ≤ 3 ∧ 0 ≤ (h 6 m).toInt ∧ (h 6 m).toInt ≤ 2 ∧ (0 ≤ (h 5 m).toInt → (h 6 m).toInt = 2) ∧ 0 ≤ (h 7 m).toInt ∧ (h 7 m).toInt ≤ 20 ∧ 0 ≤ (h 10 m).toInt ∧ (h 10 m).toInt ≤ 3
/-- no class has two methods of its own with one selector -/
def pr_U (h : qa_St) : Prop := ∀ m k : Nat, (m : Int) < (h 0 4).toInt → (k : Int) < (h 0 4).toInt → (h 4 m).toInt = (h 4 k).toInt → (h 5 m).toInt = (h 5 k).toInt → 0 ≤ (h 5 m).toInt → m = k
/-- an instruction, a guard -/
def pr_K (h : qa_St) : Prop := ∀ m i : Nat, (m : Int) < (h 0 4).toInt → (i : Int) < (h 7 m).toInt → 0 ≤ (h 8 (20 * m + i)).toInt ∧ (h 8 (20 * m + i)).toInt ≤ 22 ∧ pr_fit h (h 8 (20 * m + i)).toInt (h 9 (20 * m + i)).toInt
def pr_G (h : qa_St) : Prop := ∀ m k : Nat, (m : Int) < (h 0 4).toInt → (k : Int) < (h 10 m).toInt → 0 ≤ (h 11 (3 * m + k)).toInt ∧ (h 11 (3 * m + k)).toInt < (h 12 (3 * m + k)).toInt ∧ (h 12 (3 * m + k)).toInt ≤ 20 ∧ 0 ≤ (h 13 (3 * m + k)).toInt ∧ (h 13 (3 * m + k)).toInt ≤ 19
def pr_P (h : qa_St) : Prop := pr_N h ∧ pr_C h ∧ pr_M h ∧ pr_U h ∧ pr_K h ∧ pr_G h
/-- the class's tables of classes -/
def pr_T (g h : qa_St) : Prop := ∀ c : Nat, (c : Int) < (h 0 0).toInt →
  g 2 c = ((1 : Int32) <<< (Int32.ofNat c &&& 31)) ||| (if (h 1 c).toInt < 0 then 0 else g 2 (h 1 c).toInt.toNat) ∧ (g 3 c).toInt = (h 2 c).toInt + (if (h 1 c).toInt < 0 then 0 else (g 3 (h 1 c).toInt.toNat).toInt) ∧ 0 ≤ (g 3 c).toInt ∧ (g 3 c).toInt ≤ 6 ∧ g 4 c = h 3 c
def pr_O (g h : qa_St) : Prop := ∀ c s : Nat, (c : Int) < (h 0 0).toInt → s < 4 →
  ((g (6 + c) s).toInt = -1 ∧ ∀ m : Nat, (m : Int) < (h 0 4).toInt → ¬ ((h 4 m).toInt = (c : Int) ∧ (h 5 m).toInt = (s : Int))) ∨ (∃ m : Nat, (m : Int) < (h 0 4).toInt ∧ (g (6 + c) s).toInt = (m : Int) ∧ (h 4 m).toInt = (c : Int) ∧ (h 5 m).toInt = (s : Int))
def pr_Q (g h : qa_St) : Prop := ∀ m : Nat, (m : Int) < (h 0 4).toInt → g 12 m = h 4 m ∧ g 13 m = h 5 m ∧ g 14 m = h 6 m ∧ g 15 m = h 7 m ∧ g 38 m = h 10 m
def pr_Z (g h : qa_St) : Prop := ∀ m : Nat, (h 0 4).toInt ≤ (m : Int) → m < 10 → g 15 m = 0 ∧ g 38 m = 0
def pr_L (g h : qa_St) : Prop := ∀ m i : Nat, (m : Int) < (h 0 4).toInt → (i : Int) < (h 7 m).toInt → g (17 + m) i = h 8 (20 * m + i) ∧ g (28 + m) i = h 9 (20 * m + i)
def pr_H (g h : qa_St) : Prop := ∀ m k : Nat, (m : Int) < (h 0 4).toInt → (k : Int) < (h 10 m).toInt → g (40 + m) k = h 11 (3 * m + k) ∧ g (51 + m) k = h 12 (3 * m + k) ∧ g (62 + m) k = h 13 (3 * m + k)
def pr_R (g h : qa_St) : Prop := (g 1 0 = h 0 0 ∧ g 1 1 = h 0 4) ∧ pr_T g h ∧ pr_O g h ∧ pr_Q g h ∧ pr_Z g h ∧ pr_L g h ∧ pr_H g h
/-- closed, ran -/
def pr_F (g h : qa_St) : Prop := g 0 4 = h 0 15 ∧ (g 0 4 = 0 ∨ g 0 4 = 1) ∧ g 0 5 = h 0 26 ∧ (g 0 5 = 0 ∨ g 0 5 = 1)
def pr_I (PC PN : qa_St → qa_St → Prop) (g h : qa_St) : Prop := pr_P h ∧ pr_R g h ∧ pr_F g h ∧ (g 0 4 = 1 → PC g h) ∧ (g 0 5 = 1 → PN g h)
theorem pr_zero (PC PN : qa_St → qa_St → Prop) : pr_I PC PN (fun _ _ => 0) (fun _ _ => 0) := by
  have h0 : (0 : Int32).toInt = 0 := rfl
  refine ⟨⟨?_, ?_, ?_, ?_, ?_, ?_⟩, ⟨⟨rfl, rfl⟩, ?_, ?_, ?_, ?_, ?_, ?_⟩, ⟨rfl, Or.inl rfl, rfl, Or.inl rfl⟩, fun h => ?_, fun h => ?_⟩
  · unfold pr_N; rw [h0]; omega
  · intro c hc; rw [h0] at hc; omega
  · intro c hc; rw [h0] at hc; omega
  · intro m k hc; rw [h0] at hc; omega
  · intro m k hc; rw [h0] at hc; omega
  · intro m k hc; rw [h0] at hc; omega
  · intro c hc; rw [h0] at hc; omega
  · intro c s hc; rw [h0] at hc; omega
  · intro c hc; rw [h0] at hc; omega
  · intro m _ _; exact ⟨rfl, rfl⟩
  · intro m k hc; rw [h0] at hc; omega
  · intro m k hc; rw [h0] at hc; omega
  · exact absurd h (by decide)
  · exact absurd h (by decide)
/-- a refused call: nothing changes -/
theorem pr_same {PC PN : qa_St → qa_St → Prop} {g h : qa_St} {v : Int32} (hI : pr_I PC PN g h) {a b : qa_Re} (ha : a = some (v, g)) (hb : b = some (v, h)) : ql_st (pr_I PC PN) a b := ⟨v, g, h, ha, hb, hI⟩
/-- a change: both flags are down -/
theorem pr_new {PC PN : qa_St → qa_St → Prop} {g h : qa_St} {v : Int32} {a b : qa_Re} (ha : a = some (v, g)) (hb : b = some (v, h)) (hP : pr_P h) (hR : pr_R g h) (f1 : g 0 4 = 0) (f2 : h 0 15 = 0) (f3 : g 0 5 = 0) (f4 : h 0 26 = 0) : ql_st (pr_I PC PN) a b :=
  ⟨v, g, h, ha, hb, hP, hR, ⟨by rw [f1, f2], Or.inl f1, by rw [f3, f4], Or.inl f3⟩, fun h => by rw [f1] at h; exact absurd h (by decide), fun h => by rw [f3] at h; exact absurd h (by decide)⟩
theorem xs_reopen (g : qa_St) (x : Int32) : xf_Cw_reopenUnlessNone g x = some (x, if x = -1 then g else qa_up (qa_up g 0 4 0) 0 5 0) := by
  unfold xf_Cw_reopenUnlessNone xf_Cw_reopenUnlessNone_11 xf_Cw_reopenIf
  by_cases h : x = -1
  · simp [h]
  · simp [h]
theorem ms_changed (h : qa_St) : mf_Mo_changed h = some (0, qa_up (qa_up h 0 15 0) 0 26 0) := rfl
