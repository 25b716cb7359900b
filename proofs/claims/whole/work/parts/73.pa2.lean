theorem tc_tk_ok {h : qa_St} {w : Nat} {f : tc_F} (hf : tc_ok h f) {q : Int32 × tc_F} (he : tc_tk h w f = some q) : tc_va h q.1 ∧ tc_ok h q.2 ∧ (w = 2 → tc_cl h q.1) := by
  unfold tc_tk at he
  by_cases h0 : f.1 = 0
  · rw [if_pos h0] at he; cases he
  · rw [if_neg h0] at he
    by_cases hc : (w = 1 → f.2 (3 + f.1) = 9) ∧ (w = 2 → tc_cl h (f.2 (3 + f.1)))
    · rw [if_pos hc] at he
      cases he
      exact ⟨hf.2 _ (by omega), ⟨by have := hf.1; show f.1 - 1 ≤ 6; omega, fun p hp => hf.2 p (by have : p < 4 + (f.1 - 1) := hp; omega)⟩, hc.2⟩
    · rw [if_neg hc] at he; cases he
theorem tc_tks_ok {h : qa_St} : ∀ (k : Nat) {f r : tc_F}, tc_ok h f → tc_tks h k f = some r → tc_ok h r := by
  intro k
  induction k with
  | zero =>
    intro f r hf he
    rw [tc_tks] at he
    cases he
    exact hf
  | succ k ih =>
    intro f r hf he
    rw [tc_tks] at he
    cases hq : tc_tk h 1 f with
    | none => rw [hq] at he; cases he
    | some q =>
      rw [hq] at he
      exact ih (tc_tk_ok hf hq).2.1 he
theorem tc_pt_ok {h : qa_St} {t : Int32} {f r : tc_F} (hf : tc_ok h f) (ht : tc_va h t) (he : tc_pt t f = some r) : tc_ok h r := by
  unfold tc_pt at he
  by_cases h6 : 6 ≤ f.1
  · rw [if_pos h6] at he; cases he
  · rw [if_neg h6] at he
    cases he
    refine ⟨by show f.1 + 1 ≤ 6; omega, fun p hp => ?_⟩
    have hp : p < 4 + (f.1 + 1) := hp
    show tc_va h (tc_up f.2 (4 + f.1) t p)
    by_cases hq : p = 4 + f.1
    · rw [hq, tc_up_s]; exact ht
    · rw [tc_up_n hq]; exact hf.2 p (by omega)
theorem tc_bind {α β : Type} {o : Option α} {k : α → Option β} {r : β} (he : o.bind k = some r) : ∃ q, o = some q ∧ k q = some r := by
  cases o with
  | none => cases he
  | some q => exact ⟨q, rfl, he⟩
/-- what an instruction makes of valid types is valid -/
theorem tc_ef_ok {g h : qa_St} {op : Int} {a : Int32} (hft : pr_fit h op a.toInt) {f r : tc_F} (hf : tc_ok h f) (he : tc_ef g h op a f = some r) : tc_ok h r := by
  obtain ⟨t1, t2, t3, t4, t5⟩ := hft
  have v9 : tc_va h 9 := Or.inr (Or.inr rfl)
  unfold tc_ef at he
  by_cases o0 : op = 0 ∨ op = 14
  · rw [if_pos o0] at he; exact tc_pt_ok hf v9 he
  rw [if_neg o0] at he
  by_cases o1 : op = 1 ∨ op = 11
  · rw [if_pos o1] at he; exact tc_pt_ok hf (Or.inl (t1 (by omega))) he
  rw [if_neg o1] at he
  by_cases o2 : op = 2
  · rw [if_pos o2] at he
    have := t2 (by omega)
    by_cases o2' : f.2 a.toInt.toNat = 8
    · rw [if_pos o2'] at he; cases he
    · rw [if_neg o2'] at he
      exact tc_pt_ok hf (hf.2 _ (by omega)) he
  rw [if_neg o2] at he
  by_cases o3 : op = 3
  · rw [if_pos o3] at he
    have := t2 (by omega)
    obtain ⟨q, q1, q2⟩ := tc_bind he
    cases q2
    have w := tc_tk_ok hf q1
    refine ⟨w.2.1.1, fun p hp => ?_⟩
    show tc_va h (tc_up q.2.2 a.toInt.toNat q.1 p)
    by_cases hq : p = a.toInt.toNat
    · rw [hq, tc_up_s]; exact w.1
    · rw [tc_up_n hq]; exact w.2.1.2 p hp
  rw [if_neg o3] at he
  by_cases o4 : op = 4
  · rw [if_pos o4] at he
    obtain ⟨q, q1, q2⟩ := tc_bind he
    cases q2
    exact (tc_tk_ok hf q1).2.1
  rw [if_neg o4] at he
  by_cases o5 : 5 ≤ op ∧ op ≤ 8
  · rw [if_pos o5] at he
    obtain ⟨q, q1, q2⟩ := tc_bind he
    exact tc_pt_ok (tc_tks_ok 2 hf q1) v9 q2
  rw [if_neg o5] at he
  by_cases o9 : op = 9
  · rw [if_pos o9] at he; cases he; exact hf
  rw [if_neg o9] at he
  by_cases o10 : op = 10 ∨ op = 15 ∨ 20 ≤ op
  · rw [if_pos o10] at he; exact tc_tks_ok 1 hf he
  rw [if_neg o10] at he
  by_cases o12 : op = 12
  · rw [if_pos o12] at he
    obtain ⟨q, q1, q2⟩ := tc_bind he
    by_cases hz : a.toInt < (g 3 q.1.toInt.toNat).toInt
    · rw [if_pos hz] at q2; exact tc_pt_ok (tc_tk_ok hf q1).2.1 v9 q2
    · rw [if_neg hz] at q2; cases q2
  rw [if_neg o12] at he
  by_cases o13 : op = 13
  · rw [if_pos o13] at he
    obtain ⟨p, p1, p2⟩ := tc_bind he
    obtain ⟨q, q1, q2⟩ := tc_bind p2
    by_cases hz : a.toInt < (g 3 q.1.toInt.toNat).toInt
    · rw [if_pos hz] at q2; cases q2; exact (tc_tk_ok (tc_tks_ok 1 hf p1) q1).2.1
    · rw [if_neg hz] at q2; cases q2
  rw [if_neg o13] at he
  by_cases o16 : op = 16
  · rw [if_pos o16] at he
    obtain ⟨q, q1, q2⟩ := tc_bind he
    exact tc_pt_ok (tc_tks_ok _ hf q1) v9 q2
  rw [if_neg o16] at he
  by_cases o17 : op = 17
  · rw [if_pos o17] at he
    obtain ⟨p, p1, p2⟩ := tc_bind he
    obtain ⟨q, q1, q2⟩ := tc_bind p2
    by_cases hz : pr_an g h a.toInt.toNat 7 q.1.toInt.toNat = -1
    · rw [if_pos hz] at q2; cases q2
    · rw [if_neg hz] at q2; exact tc_pt_ok (tc_tk_ok (tc_tks_ok 1 hf p1) q1).2.1 v9 q2
  rw [if_neg o17] at he
  by_cases o18 : op = 18
  · rw [if_pos o18] at he
    obtain ⟨q, q1, q2⟩ := tc_bind he
    exact tc_pt_ok (tc_tk_ok hf q1).2.1 (Or.inl (t1 (by omega))) q2
  · rw [if_neg o18] at he
    obtain ⟨q, q1, q2⟩ := tc_bind he
    exact tc_pt_ok (tc_tk_ok hf q1).2.1 v9 q2
/-- smaller types, smaller effect -/
theorem tc_ef_m {g h : qa_St} (hN : pr_N h) (hC : pr_C h) (hT : pr_T g h) {op : Int} {a : Int32} (hft : pr_fit h op a.toInt) {f f' r' : tc_F} (hf : tc_fle g h f f') (he : tc_ef g h op a f' = some r') : ∃ r, tc_ef g h op a f = some r ∧ tc_fle g h r r' := by
  obtain ⟨t1, t2, t3, t4, t5⟩ := hft
  have hN0 := hN
  obtain ⟨n0, n1, n2, n3⟩ := hN
  have hbt : ∀ {t u : Int32}, tc_le g h t u → tc_cl h u → tc_cl h t → pv_bit (g 2 t.toInt.toNat) u.toInt.toNat := fun {t u} z1 z2 z3 => by
    rcases z1 with y | y | y
    · rw [← y]
      exact (pr_bit hN0 hT (by have := z3.2; omega) _ (by omega)).mpr (Or.inl rfl)
    · rw [y] at z2; exact absurd z2 (tc_cl8 hN0)
    · exact y.2.2
  unfold tc_ef at he ⊢
  by_cases o0 : op = 0 ∨ op = 14
  · rw [if_pos o0] at he ⊢; exact tc_pt_m hf (tc_refl _) he
  rw [if_neg o0] at he ⊢
  by_cases o1 : op = 1 ∨ op = 11
  · rw [if_pos o1] at he ⊢; exact tc_pt_m hf (tc_refl _) he
  rw [if_neg o1] at he ⊢
  by_cases o2 : op = 2
  · rw [if_pos o2] at he ⊢
    have := t2 (by omega)
    have hl := hf.2 a.toInt.toNat (by omega)
    by_cases o2' : f'.2 a.toInt.toNat = 8
    · rw [if_pos o2'] at he; cases he
    · rw [if_neg o2'] at he
      rw [if_neg (fun z => o2' (tc_of8 hN0 (by rw [z] at hl; exact hl)))]
      exact tc_pt_m hf hl he
  rw [if_neg o2] at he ⊢
  by_cases o3 : op = 3
  · rw [if_pos o3] at he ⊢
    have := t2 (by omega)
    obtain ⟨q', q1, q2⟩ := tc_bind he
    cases q2
    obtain ⟨q, w1, w2, w3, -⟩ := tc_tk_m hN0 hf q1
    rw [w1]
    refine ⟨_, rfl, w3.1, fun p hp => ?_⟩
    show tc_le g h (tc_up q.2.2 a.toInt.toNat q.1 p) (tc_up q'.2.2 a.toInt.toNat q'.1 p)
    by_cases hq : p = a.toInt.toNat
    · rw [hq, tc_up_s, tc_up_s]; exact w2
    · rw [tc_up_n hq, tc_up_n hq]; exact w3.2 p hp
  rw [if_neg o3] at he ⊢
  by_cases o4 : op = 4
  · rw [if_pos o4] at he ⊢
    obtain ⟨q', q1, q2⟩ := tc_bind he
    cases q2
    obtain ⟨q, w1, w2, w3, -⟩ := tc_tk_m hN0 hf q1
    rw [w1]
    exact ⟨_, rfl, w3⟩
  rw [if_neg o4] at he ⊢
  by_cases o5 : 5 ≤ op ∧ op ≤ 8
  · rw [if_pos o5] at he ⊢
    obtain ⟨q', q1, q2⟩ := tc_bind he
    obtain ⟨q, w1, w2⟩ := tc_tks_m hN0 2 hf q1
    rw [w1]
    exact tc_pt_m w2 (tc_refl _) q2
  rw [if_neg o5] at he ⊢
  by_cases o9 : op = 9
  · rw [if_pos o9] at he ⊢; cases he; exact ⟨f, rfl, hf⟩
  rw [if_neg o9] at he ⊢
  by_cases o10 : op = 10 ∨ op = 15 ∨ 20 ≤ op
  · rw [if_pos o10] at he ⊢; exact tc_tks_m hN0 1 hf he
  rw [if_neg o10] at he ⊢
  by_cases o12 : op = 12
  · rw [if_pos o12] at he ⊢
    obtain ⟨q', q1, q2⟩ := tc_bind he
    obtain ⟨q, w1, w2, w3, w4⟩ := tc_tk_m hN0 hf q1
    have w4 := w4 rfl
    by_cases hz : a.toInt < (g 3 q'.1.toInt.toNat).toInt
    · rw [if_pos hz] at q2
      have hfd := tc_fd hN0 hC hT q.1.toInt.toNat (by have := w4.2.2; omega) q'.1.toInt.toNat (by have := w4.1.2; omega) (hbt w2 w4.1 w4.2)
      rw [w1]
      show ∃ r, (if a.toInt < (g 3 q.1.toInt.toNat).toInt then tc_pt 9 q.2 else none) = some r ∧ _
      rw [if_pos (by omega)]
      exact tc_pt_m w3 (tc_refl _) q2
    · rw [if_neg hz] at q2; cases q2
  rw [if_neg o12] at he ⊢
  by_cases o13 : op = 13
  · rw [if_pos o13] at he ⊢
    obtain ⟨p', p1, p2⟩ := tc_bind he
    obtain ⟨p, x1, x2⟩ := tc_tks_m hN0 1 hf p1
    obtain ⟨q', q1, q2⟩ := tc_bind p2
    obtain ⟨q, w1, w2, w3, w4⟩ := tc_tk_m hN0 x2 q1
    have w4 := w4 rfl
    by_cases hz : a.toInt < (g 3 q'.1.toInt.toNat).toInt
    · rw [if_pos hz] at q2
      cases q2
      have hfd := tc_fd hN0 hC hT q.1.toInt.toNat (by have := w4.2.2; omega) q'.1.toInt.toNat (by have := w4.1.2; omega) (hbt w2 w4.1 w4.2)
      rw [x1]
      show ∃ r, ((tc_tk h 2 p).bind fun q => if a.toInt < (g 3 q.1.toInt.toNat).toInt then some q.2 else none) = some r ∧ _
      rw [w1]
      show ∃ r, (if a.toInt < (g 3 q.1.toInt.toNat).toInt then some q.2 else none) = some r ∧ _
      rw [if_pos (by omega)]
      exact ⟨_, rfl, w3⟩
    · rw [if_neg hz] at q2; cases q2
  rw [if_neg o13] at he ⊢
  by_cases o16 : op = 16
  · rw [if_pos o16] at he ⊢
    obtain ⟨q', q1, q2⟩ := tc_bind he
    obtain ⟨q, w1, w2⟩ := tc_tks_m hN0 _ hf q1
    rw [w1]
    exact tc_pt_m w2 (tc_refl _) q2
  rw [if_neg o16] at he ⊢
  by_cases o17 : op = 17
  · rw [if_pos o17] at he ⊢
    obtain ⟨p', p1, p2⟩ := tc_bind he
    obtain ⟨p, x1, x2⟩ := tc_tks_m hN0 1 hf p1
    obtain ⟨q', q1, q2⟩ := tc_bind p2
    obtain ⟨q, w1, w2, w3, w4⟩ := tc_tk_m hN0 x2 q1
    have w4 := w4 rfl
    by_cases hz : pr_an g h a.toInt.toNat 7 q'.1.toInt.toNat = -1
    · rw [if_pos hz] at q2; cases q2
    · rw [if_neg hz] at q2
      have han := tc_an hN0 hC hT a.toInt.toNat q.1.toInt.toNat (by have := w4.2.2; omega) q'.1.toInt.toNat (by have := w4.1.2; omega) (hbt w2 w4.1 w4.2) hz
      rw [x1]
      show ∃ r, ((tc_tk h 2 p).bind fun q => if pr_an g h a.toInt.toNat 7 q.1.toInt.toNat = -1 then none else tc_pt 9 q.2) = some r ∧ _
      rw [w1]
      show ∃ r, (if pr_an g h a.toInt.toNat 7 q.1.toInt.toNat = -1 then none else tc_pt 9 q.2) = some r ∧ _
      rw [if_neg han]
      exact tc_pt_m w3 (tc_refl _) q2
  rw [if_neg o17] at he ⊢
  by_cases o18 : op = 18
  · rw [if_pos o18] at he ⊢
    obtain ⟨q', q1, q2⟩ := tc_bind he
    obtain ⟨q, w1, w2, w3, -⟩ := tc_tk_m hN0 hf q1
    rw [w1]
    exact tc_pt_m w3 (tc_refl _) q2
  · rw [if_neg o18] at he ⊢
    obtain ⟨q', q1, q2⟩ := tc_bind he
    obtain ⟨q, w1, w2, w3, -⟩ := tc_tk_m hN0 hf q1
    rw [w1]
    exact tc_pt_m w3 (tc_refl _) q2
