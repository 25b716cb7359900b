/-! The frames of the class, for any frame r0 -/
theorem xs_push {g : qa_St} {r0 n : Nat} (x : Int32) (hn : n < 6) (hg : g r0 1 = Int32.ofNat n) : xf_Fr_push g r0 x = some (0, qa_up (qa_up g (r0 + 1) (4 + n) x) r0 1 (Int32.ofNat (n + 1))) := by
  have e0 : (0 : Int32).toInt = 0 := rfl
  have e4 : (4 : Int32).toInt = 4 := rfl
  have e6 : (6 : Int32).toInt = 6 := rfl
  have en : (Int32.ofNat n).toInt = (n : Int) := pv_nI (by omega)
  have e4n : ((4 : Int32) + Int32.ofNat n).toInt = 4 + (n : Int) := by rw [pv_add (by rw [e4, en]; omega) (by rw [e4, en]; omega), e4, en]
  unfold xf_Fr_push xf_Fr_push_28
  rw [hg, if_neg (by rw [pv_le, e6, en]; omega), if_neg (by rw [pv_lt, pv_cl, e4n, e0]; omega), pv_cl, e4n, show (4 + (n : Int)).toNat = 4 + n by omega, pv_nr (show r0 ≠ r0 + 1 by omega), hg]
  have : Int32.ofNat n + 1 = Int32.ofNat (n + 1) := pv_n1 n
  rw [this]
theorem xs_push6 {g : qa_St} {r0 : Nat} (x : Int32) (hg : g r0 1 = Int32.ofNat 6) : xf_Fr_push g r0 x = some (0, g) := by
  unfold xf_Fr_push
  rw [hg, if_pos (by decide)]
theorem xs_pop {g : qa_St} {r0 n : Nat} (hn : n < 6) (hg : g r0 1 = Int32.ofNat (n + 1)) : xf_Fr_pop g r0 = some (g (r0 + 1) (4 + n), qa_up g r0 1 (Int32.ofNat n)) := by
  have e0 : (0 : Int32).toInt = 0 := rfl
  have e1 : (1 : Int32).toInt = 1 := rfl
  have e4 : (4 : Int32).toInt = 4 := rfl
  have en : (Int32.ofNat n).toInt = (n : Int) := pv_nI (by omega)
  have en1 : (Int32.ofNat (n + 1)).toInt = (n : Int) + 1 := by rw [pv_nI (by omega)]; omega
  have es : Int32.ofNat (n + 1) - 1 = Int32.ofNat n := by
    rw [pv_eq, pv_sub (by rw [en1, e1]; omega) (by rw [en1, e1]; omega), en1, e1, en]; omega
  have e4n : ((4 : Int32) + Int32.ofNat n).toInt = 4 + (n : Int) := by rw [pv_add (by rw [e4, en]; omega) (by rw [e4, en]; omega), e4, en]
  unfold xf_Fr_pop
  rw [hg, es, if_neg (by rw [pv_eq, en1, e0]; omega), pv_self, if_neg (by rw [pv_lt, pv_cl, e4n, e0]; omega), pv_cl, e4n, show (4 + (n : Int)).toNat = 4 + n by omega, pv_nr (show r0 + 1 ≠ r0 by omega)]
theorem xs_pop0 {g : qa_St} {r0 : Nat} (hg : g r0 1 = Int32.ofNat 0) : xf_Fr_pop g r0 = some (8, g) := by
  unfold xf_Fr_pop
  rw [hg, if_pos (by decide)]
theorem xs_place {g : qa_St} (r0 : Nat) (x : Int32) (hx : 0 ≤ x.toInt ∧ x.toInt < 10) : xf_Fr_place g r0 x = some (g (r0 + 1) x.toInt.toNat, g) := by
  have e0 : (0 : Int32).toInt = 0 := rfl
  have e10 : (10 : Int32).toInt = 10 := rfl
  unfold xf_Fr_place
  rw [xs_within, e10]
  simp only [Option.bind_some, pv_b1]
  rw [if_neg (fun z => z hx), if_neg (by rw [pv_lt, pv_cl, e0]; omega), pv_cl]
theorem xs_setPlace {g : qa_St} (r0 : Nat) (x y : Int32) (hx : 0 ≤ x.toInt ∧ x.toInt < 10) : xf_Fr_setPlace g r0 x y = some (0, qa_up g (r0 + 1) x.toInt.toNat y) := by
  have e0 : (0 : Int32).toInt = 0 := rfl
  have e10 : (10 : Int32).toInt = 10 := rfl
  unfold xf_Fr_setPlace
  rw [xs_within, e10]
  simp only [Option.bind_some, pv_b1]
  rw [if_neg (fun z => z hx), if_neg (by rw [pv_lt, pv_cl, e0]; omega), pv_cl]
/-! The class's check of an instruction: its frame is role 75, its places role 76, whether it is sound 72 6 -/
def xo (g : qa_St) (o : Option tc_F) : Prop := (∀ f, o = some f → g 72 6 = 1 ∧ f.1 ≤ 6 ∧ g 75 1 = Int32.ofNat f.1 ∧ ∀ p, p < 4 + f.1 → g 76 p = f.2 p) ∧ (o = none → g 72 6 = 0 ∧ ∃ n, n ≤ 6 ∧ g 75 1 = Int32.ofNat n)
def xw (g g' : qa_St) : Prop := ∀ r k, r ≠ 75 → r ≠ 76 → ¬ (r = 72 ∧ k = 6) → g' r k = g r k
theorem xw_rf (g : qa_St) : xw g g := fun _ _ _ _ _ => rfl
theorem xw_tr {g g' g'' : qa_St} (h1 : xw g g') (h2 : xw g' g'') : xw g g'' := fun r k a b c => (h2 r k a b c).trans (h1 r k a b c)
theorem xw_6 (g : qa_St) (v : Int32) : xw g (qa_up g 72 6 v) := fun r k a b c => by rw [pv_get, if_neg c]
theorem xw_75 (g : qa_St) (k : Nat) (v : Int32) : xw g (qa_up g 75 k v) := fun r k a b c => pv_nr a
theorem xw_76 (g : qa_St) (k : Nat) (v : Int32) : xw g (qa_up g 76 k v) := fun r k a b c => pv_nr b
theorem xo_sz {g : qa_St} {o : Option tc_F} (ho : xo g o) : ∃ n, n ≤ 6 ∧ g 75 1 = Int32.ofNat n := by
  cases o with
  | none => exact (ho.2 rfl).2
  | some f => exact ⟨f.1, (ho.1 f rfl).2.1, (ho.1 f rfl).2.2.1⟩
theorem xo_none {g : qa_St} (h1 : g 72 6 = 0) (h2 : ∃ n, n ≤ 6 ∧ g 75 1 = Int32.ofNat n) : xo g none := ⟨fun f hf => (by cases hf), fun _ => ⟨h1, h2⟩⟩
theorem xo_some {g : qa_St} {f : tc_F} (h1 : g 72 6 = 1) (h2 : f.1 ≤ 6) (h3 : g 75 1 = Int32.ofNat f.1) (h4 : ∀ p, p < 4 + f.1 → g 76 p = f.2 p) : xo g (some f) := ⟨fun f' hf => (by cases hf; exact ⟨h1, h2, h3, h4⟩), fun z => (by cases z)⟩
theorem xs_need1 {g : qa_St} {o : Option tc_F} (ho : xo g o) : ∃ g', xf_Ch_need g 1 = some (0, g') ∧ xw g g' ∧ xo g' o := by
  unfold xf_Ch_need
  cases o with
  | none =>
    have a := ho.2 rfl
    rw [if_pos a.1]
    exact ⟨_, rfl, xw_6 _ _, xo_none pv_self (by rw [pv_nr (by decide)]; exact a.2)⟩
  | some f =>
    obtain ⟨a1, a2, a3, a4⟩ := ho.1 f rfl
    rw [if_neg (by rw [a1]; decide), if_neg (by decide)]
    exact ⟨_, rfl, xw_6 _ _, xo_some pv_self a2 (by rw [pv_nr (by decide)]; exact a3) (fun p hp => by rw [pv_nr (by decide)]; exact a4 p hp)⟩
theorem xs_need0 {g : qa_St} {o : Option tc_F} (ho : xo g o) : ∃ g', xf_Ch_need g 0 = some (0, g') ∧ xw g g' ∧ xo g' none := by
  have hs := xo_sz ho
  have e : xf_Ch_need g 0 = some (0, qa_up g 72 6 0) := by
    unfold xf_Ch_need
    rw [if_pos rfl]
    by_cases h0 : g 72 6 = 0
    · rw [if_pos h0]
    · rw [if_neg h0]
  exact ⟨_, e, xw_6 _ _, xo_none pv_self (by rw [pv_nr (by decide)]; exact hs)⟩
theorem tc_tk1 (h : qa_St) (f : tc_F) : tc_tk h 1 f = (tc_tk h 0 f).bind fun q => if q.1 = 9 then some q else none := by
  unfold tc_tk
  by_cases h0 : f.1 = 0
  · rw [if_pos h0, if_pos h0]; rfl
  · rw [if_neg h0, if_neg h0, if_pos (show ((0 : Nat) = 1 → f.2 (3 + f.1) = 9) ∧ ((0 : Nat) = 2 → tc_cl h (f.2 (3 + f.1))) from ⟨fun z => by omega, fun z => by omega⟩)]
    show _ = if f.2 (3 + f.1) = 9 then some _ else none
    by_cases h9 : f.2 (3 + f.1) = 9
    · rw [if_pos h9, if_pos ⟨fun _ => h9, fun z => by omega⟩]
    · rw [if_neg h9, if_neg (fun z => h9 (z.1 rfl))]
theorem tc_tk2 (h : qa_St) (f : tc_F) : tc_tk h 2 f = (tc_tk h 0 f).bind fun q => if tc_cl h q.1 then some q else none := by
  unfold tc_tk
  by_cases h0 : f.1 = 0
  · rw [if_pos h0, if_pos h0]; rfl
  · rw [if_neg h0, if_neg h0, if_pos (show ((0 : Nat) = 1 → f.2 (3 + f.1) = 9) ∧ ((0 : Nat) = 2 → tc_cl h (f.2 (3 + f.1))) from ⟨fun z => by omega, fun z => by omega⟩)]
    show _ = if tc_cl h (f.2 (3 + f.1)) then some _ else none
    by_cases h9 : tc_cl h (f.2 (3 + f.1))
    · rw [if_pos h9, if_pos ⟨fun z => by omega, fun _ => h9⟩]
    · rw [if_neg h9, if_neg (fun z => h9 (z.2 rfl))]
/-- what is taken: the value and the mode behind it -/
def xq (g' : qa_St) (t : Int32) (o : Option (Int32 × tc_F)) : Prop := (∀ q, o = some q → t = q.1 ∧ xo g' (some q.2)) ∧ (o = none → xo g' none)
theorem xq_o {g' : qa_St} {t : Int32} {o : Option (Int32 × tc_F)} (h : xq g' t o) : xo g' (o.bind fun q => some q.2) := by
  cases o with
  | none => exact h.2 rfl
  | some q => exact (h.1 q rfl).2
theorem xs_takeAny (h : qa_St) {g : qa_St} {o : Option tc_F} (ho : xo g o) : ∃ t g', xf_Ch_takeAny g = some (t, g') ∧ xw g g' ∧ xq g' t (o.bind (tc_tk h 0)) := by
  have e0 : (0 : Int32).toInt = 0 := rfl
  obtain ⟨n, hn, hg⟩ := xo_sz ho
  unfold xf_Ch_takeAny xf_Fr_size xf_Ch_takeAny_16
  simp only [Option.bind_some]
  rw [hg]
  have en : (Int32.ofNat n).toInt = (n : Int) := pv_nI (by omega)
  by_cases h0 : n = 0
  · rw [if_pos (by rw [pv_le, en, e0]; omega)]
    obtain ⟨g1, a1, a2, a3⟩ := xs_need0 ho
    rw [a1]
    simp only [Option.bind_some]
    have hg1 : g1 75 1 = Int32.ofNat 0 ∨ True := Or.inr trivial
    obtain ⟨n1, hn1, hg1⟩ := xo_sz a3
    have hs1 := (a3.2 rfl).1
    by_cases h1 : n1 = 0
    · rw [h1] at hg1
      rw [xs_pop0 hg1]
      refine ⟨8, g1, rfl, a2, fun q hq => ?_, fun _ => a3⟩
      cases o with
      | none => cases hq
      | some f =>
        have := (ho.1 f rfl).2.2.1
        have hf := (ho.1 f rfl).2.1
        rw [hg, h0] at this
        have : f.1 = 0 := by
          have w : (Int32.ofNat 0).toInt = (Int32.ofNat f.1).toInt := by rw [this]
          rw [pv_nI (by omega), pv_nI (by omega)] at w
          omega
        change tc_tk h 0 f = some q at hq
        unfold tc_tk at hq
        rw [if_pos this] at hq
        cases hq
    · obtain ⟨k, rfl⟩ : ∃ z, n1 = z + 1 := ⟨n1 - 1, by omega⟩
      rw [xs_pop (by omega) hg1]
      simp only [Option.bind_some]
      refine ⟨_, _, rfl, xw_tr a2 (xw_75 _ _ _), fun q hq => ?_, fun _ => xo_none (by rw [pv_nr (by decide)]; exact hs1) ⟨k, by omega, pv_self⟩⟩
      cases o with
      | none => cases hq
      | some f =>
        have := (ho.1 f rfl).2.2.1
        have hf := (ho.1 f rfl).2.1
        rw [hg, h0] at this
        have : f.1 = 0 := by
          have w : (Int32.ofNat 0).toInt = (Int32.ofNat f.1).toInt := by rw [this]
          rw [pv_nI (by omega), pv_nI (by omega)] at w
          omega
        change tc_tk h 0 f = some q at hq
        unfold tc_tk at hq
        rw [if_pos this] at hq
        cases hq
  · obtain ⟨k, rfl⟩ : ∃ z, n = z + 1 := ⟨n - 1, by omega⟩
    rw [if_neg (by rw [pv_le, en, e0]; omega)]
    obtain ⟨g1, a1, a2, a3⟩ := xs_need1 ho
    rw [a1]
    simp only [Option.bind_some]
    cases o with
    | none =>
      obtain ⟨n1, hn1, hg1⟩ := xo_sz a3
      have hs1 := (a3.2 rfl).1
      by_cases h1 : n1 = 0
      · rw [h1] at hg1
        rw [xs_pop0 hg1]
        exact ⟨8, g1, rfl, a2, fun q hq => (by cases hq), fun _ => a3⟩
      · obtain ⟨k, rfl⟩ : ∃ z, n1 = z + 1 := ⟨n1 - 1, by omega⟩
        rw [xs_pop (by omega) hg1]
        simp only [Option.bind_some]
        exact ⟨_, _, rfl, xw_tr a2 (xw_75 _ _ _), fun q hq => (by cases hq), fun _ => xo_none (by rw [pv_nr (by decide)]; exact hs1) ⟨k, by omega, pv_self⟩⟩
    | some f =>
      obtain ⟨b1, b2, b3, b4⟩ := a3.1 f rfl
      have b3' := (ho.1 f rfl).2.2.1
      have hfk : f.1 = k + 1 := by
        rw [hg] at b3'
        have w : (Int32.ofNat (k + 1)).toInt = (Int32.ofNat f.1).toInt := by rw [b3']
        rw [pv_nI (by omega), pv_nI (by omega)] at w
        omega
      rw [hfk] at b3
      rw [xs_pop (by omega) b3]
      simp only [Option.bind_some]
      have ht : tc_tk h 0 f = some (f.2 (3 + f.1), (f.1 - 1, f.2)) := by
        unfold tc_tk
        rw [if_neg (by omega), if_pos ⟨fun z => by omega, fun z => by omega⟩]
      refine ⟨_, _, rfl, xw_tr a2 (xw_75 _ _ _), fun q hq => ?_, fun hq => ?_⟩
      · change tc_tk h 0 f = some q at hq
        rw [ht] at hq
        cases hq
        refine ⟨by rw [b4 (4 + k) (by omega)]; show f.2 (4 + k) = f.2 (3 + f.1); rw [show 3 + f.1 = 4 + k by omega], xo_some (by rw [pv_nr (by decide)]; exact b1) (by show f.1 - 1 ≤ 6; omega) (by rw [pv_self]; show _ = Int32.ofNat (f.1 - 1); rw [hfk]; rfl) (fun p hp => ?_)⟩
        have hp : p < 4 + (f.1 - 1) := hp
        rw [pv_nr (by decide)]
        exact b4 p (by omega)
      · change tc_tk h 0 f = none at hq
        rw [ht] at hq
        cases hq
theorem xs_put {g : qa_St} {o : Option tc_F} (t : Int32) (ho : xo g o) : ∃ g', xf_Ch_put g t = some (0, g') ∧ xw g g' ∧ xo g' (o.bind (tc_pt t)) := by
  have e6 : (6 : Int32).toInt = 6 := rfl
  obtain ⟨n, hn, hg⟩ := xo_sz ho
  have en : (Int32.ofNat n).toInt = (n : Int) := pv_nI (by omega)
  have hany : ∀ {g1 : qa_St}, xo g1 none → ∃ g', ((xf_Fr_push g1 75 t).bind fun t26 => (some ((0 : Int32), t26.2))) = some (0, g') ∧ xw g1 g' ∧ xo g' none := fun {g1} hh => by
    obtain ⟨k, hk, hgk⟩ := xo_sz hh
    have hs := (hh.2 rfl).1
    by_cases hk6 : k = 6
    · rw [hk6] at hgk
      rw [xs_push6 t hgk]
      exact ⟨g1, rfl, xw_rf _, hh⟩
    · rw [xs_push t (by omega) hgk]
      simp only [Option.bind_some]
      exact ⟨_, rfl, xw_tr (xw_76 _ _ _) (xw_75 _ _ _), xo_none (by rw [pv_nr (by decide), pv_nr (by decide)]; exact hs) ⟨k + 1, by omega, pv_self⟩⟩
  unfold xf_Ch_put xf_Fr_size xf_Ch_put_18
  simp only [Option.bind_some]
  rw [hg]
  by_cases h6 : n = 6
  · rw [if_pos (by rw [pv_le, en, e6]; omega)]
    obtain ⟨g1, a1, a2, a3⟩ := xs_need0 ho
    rw [a1]
    simp only [Option.bind_some]
    obtain ⟨g', c1, c2, c3⟩ := hany a3
    refine ⟨g', c1, xw_tr a2 c2, ?_⟩
    cases o with
    | none => exact c3
    | some f =>
      have b3' := (ho.1 f rfl).2.2.1
      have b2 := (ho.1 f rfl).2.1
      have hfk : f.1 = 6 := by
        rw [hg] at b3'
        have w : (Int32.ofNat n).toInt = (Int32.ofNat f.1).toInt := by rw [b3']
        rw [pv_nI (by omega), pv_nI (by omega)] at w
        omega
      have : (some f).bind (tc_pt t) = none := by
        show tc_pt t f = none
        unfold tc_pt
        rw [if_pos (by omega)]
      rw [this]
      exact c3
  · rw [if_neg (by rw [pv_le, en, e6]; omega)]
    obtain ⟨g1, a1, a2, a3⟩ := xs_need1 ho
    rw [a1]
    simp only [Option.bind_some]
    cases o with
    | none =>
      obtain ⟨g', c1, c2, c3⟩ := hany a3
      exact ⟨g', c1, xw_tr a2 c2, c3⟩
    | some f =>
      obtain ⟨b1, b2, b3, b4⟩ := a3.1 f rfl
      have b3' := (ho.1 f rfl).2.2.1
      have hfk : f.1 = n := by
        rw [hg] at b3'
        have w : (Int32.ofNat n).toInt = (Int32.ofNat f.1).toInt := by rw [b3']
        rw [pv_nI (by omega), pv_nI (by omega)] at w
        omega
      rw [xs_push t (by omega) b3]
      simp only [Option.bind_some]
      have : tc_pt t f = some (f.1 + 1, tc_up f.2 (4 + f.1) t) := by
        unfold tc_pt
        rw [if_neg (by omega)]
      rw [this]
      refine ⟨_, rfl, xw_tr a2 (xw_tr (xw_76 _ _ _) (xw_75 _ _ _)), xo_some (by rw [pv_nr (by decide), pv_nr (by decide)]; exact b1) (by show f.1 + 1 ≤ 6; omega) pv_self (fun p hp => ?_)⟩
      have hp : p < 4 + (f.1 + 1) := hp
      show _ = tc_up f.2 (4 + f.1) t p
      rw [pv_nr (by decide)]
      by_cases hq : p = 4 + f.1
      · rw [hq, tc_up_s, pv_self]
      · rw [tc_up_n hq, pv_ni hq]; exact b4 p (by omega)
theorem xs_takeNs (h : qa_St) (x1 : Int32) : ∀ (d k n : Nat) {g : qa_St} {o : Option tc_F}, xo g o → (k : Int) + d = x1.toInt → d < n → ∃ g', xf_Ch_takeNumbers_2 n g x1 (Int32.ofNat k) = some (0, g') ∧ xw g g' ∧ xo g' (o.bind (tc_tks h d)) := by
  intro d
  have hb := pv_bd x1
  induction d with
  | zero =>
    intro k n g o ho hk hn
    obtain ⟨n, rfl⟩ : ∃ z, n = z + 1 := ⟨n - 1, by omega⟩
    have ek : (Int32.ofNat k).toInt = (k : Int) := pv_nI (by omega)
    refine ⟨g, ?_, xw_rf _, ?_⟩
    · rw [xf_Ch_takeNumbers_2, if_pos (by rw [pv_le, ek]; omega)]
    · cases o with
      | none => exact ho
      | some f => exact ho
  | succ d ih =>
    intro k n g o ho hk hn
    obtain ⟨n, rfl⟩ : ∃ z, n = z + 1 := ⟨n - 1, by omega⟩
    have ek : (Int32.ofNat k).toInt = (k : Int) := pv_nI (by omega)
    rw [xf_Ch_takeNumbers_2, if_neg (by rw [pv_le, ek]; omega)]
    obtain ⟨t, g1, a1, a2, a3⟩ := xs_takeAny h ho
    rw [a1]
    simp only [Option.bind_some]
    unfold xf_Ch_takeNumbers_22
    rw [pv_n1]
    have hgo : ∀ {g2 : qa_St} {o2 : Option tc_F}, xo g2 o2 → ∃ g', xf_Ch_takeNumbers_2 n g2 x1 (Int32.ofNat (k + 1)) = some (0, g') ∧ xw g2 g' ∧ xo g' (o2.bind (tc_tks h d)) := fun {g2} {o2} h2 => ih (k + 1) n h2 (by omega) (by omega)
    have hfin : ∀ {g2 : qa_St} {b : Int32} {o2 : Option tc_F}, xf_Ch_need g1 b = some (0, g2) → xw g1 g2 → xo g2 o2 → o2.bind (tc_tks h d) = o.bind (tc_tks h (d + 1)) → ∃ g', ((xf_Ch_need g1 b).bind fun t22 => (xf_Ch_takeNumbers_2 n t22.2 x1 (Int32.ofNat (k + 1)))) = some (0, g') ∧ xw g g' ∧ xo g' (o.bind (tc_tks h (d + 1))) := fun {g2} {b} {o2} h1 h2 h3 h4 => by
      obtain ⟨g', c1, c2, c3⟩ := hgo h3
      rw [h1]
      exact ⟨g', c1, xw_tr a2 (xw_tr h2 c2), by rw [← h4]; exact c3⟩
    cases o with
    | none =>
      have b1 : xo g1 none := a3.2 rfl
      by_cases h9 : t = 9
      · rw [if_pos h9]
        obtain ⟨g2, d1, d2, d3⟩ := xs_need1 b1
        exact hfin d1 d2 d3 rfl
      · rw [if_neg h9]
        obtain ⟨g2, d1, d2, d3⟩ := xs_need0 b1
        exact hfin d1 d2 d3 rfl
    | some f =>
      have hk1 : (some f).bind (tc_tks h (d + 1)) = (tc_tk h 1 f).bind fun q => tc_tks h d q.2 := rfl
      cases ht : tc_tk h 0 f with
      | none =>
        have b1 : xo g1 none := a3.2 ht
        have hk2 : (some f).bind (tc_tks h (d + 1)) = none := by rw [hk1, tc_tk1, ht]; rfl
        by_cases h9 : t = 9
        · rw [if_pos h9]
          obtain ⟨g2, d1, d2, d3⟩ := xs_need1 b1
          exact hfin d1 d2 d3 hk2.symm
        · rw [if_neg h9]
          obtain ⟨g2, d1, d2, d3⟩ := xs_need0 b1
          exact hfin d1 d2 d3 hk2.symm
      | some q =>
        obtain ⟨b0, b1⟩ := a3.1 q ht
        by_cases h9 : t = 9
        · rw [if_pos h9]
          obtain ⟨g2, d1, d2, d3⟩ := xs_need1 b1
          refine hfin d1 d2 d3 ?_
          rw [hk1, tc_tk1, ht]
          show _ = (if q.1 = 9 then some q else none).bind _
          rw [if_pos (by rw [← b0]; exact h9)]
          rfl
        · rw [if_neg h9]
          obtain ⟨g2, d1, d2, d3⟩ := xs_need0 b1
          refine hfin d1 d2 d3 ?_
          rw [hk1, tc_tk1, ht]
          show _ = (if q.1 = 9 then some q else none).bind _
          rw [if_neg (by rw [← b0]; exact h9)]
          rfl
theorem xs_takeNumbers (h : qa_St) (x1 : Int32) (k : Nat) (hk : (k : Int) = x1.toInt) (hk9 : k < 10) {g : qa_St} {o : Option tc_F} (ho : xo g o) : ∃ g', xf_Ch_takeNumbers g x1 = some (0, g') ∧ xw g g' ∧ xo g' (o.bind (tc_tks h k)) := by
  unfold xf_Ch_takeNumbers
  exact xs_takeNs h x1 k 0 4096 ho (by omega) (by omega)
theorem xs_takeObject (h : qa_St) {g : qa_St} {o : Option tc_F} (ho : xo g o) (r1 : g 1 0 = h 0 0) : ∃ t g', xf_Ch_takeObject g = some (t, g') ∧ xw g g' ∧ xq g' t (o.bind (tc_tk h 2)) := by
  unfold xf_Ch_takeObject
  obtain ⟨t, g1, a1, a2, a3⟩ := xs_takeAny h ho
  have r1' : g1 1 0 = h 0 0 := by rw [a2 1 0 (by decide) (by decide) (by decide)]; exact r1
  rw [a1]
  simp only [Option.bind_some]
  rw [xs_isType, r1']
  simp only [Option.bind_some]
  have hfin : ∀ {b : Int32}, (∃ g2, xf_Ch_need g1 b = some (0, g2) ∧ xw g1 g2 ∧ xq g2 t (o.bind (tc_tk h 2))) → ∃ t' g', ((xf_Ch_need g1 b).bind fun t14 => (some (t, t14.2))) = some (t', g') ∧ xw g g' ∧ xq g' t' (o.bind (tc_tk h 2)) := fun {b} hh => by
    obtain ⟨g2, h1, h2, h3⟩ := hh
    rw [h1]
    exact ⟨t, g2, rfl, xw_tr a2 h2, h3⟩
  by_cases hc : 0 ≤ t.toInt ∧ t.toInt < (h 0 0).toInt
  · rw [if_pos hc]
    apply hfin
    cases o with
    | none =>
      obtain ⟨g2, d1, d2, d3⟩ := xs_need1 (a3.2 rfl)
      exact ⟨g2, d1, d2, fun q hq => (by cases hq), fun _ => d3⟩
    | some f =>
      cases ht : tc_tk h 0 f with
      | none =>
        obtain ⟨g2, d1, d2, d3⟩ := xs_need1 (a3.2 ht)
        refine ⟨g2, d1, d2, fun q hq => ?_, fun _ => d3⟩
        change tc_tk h 2 f = some q at hq
        rw [tc_tk2, ht] at hq
        cases hq
      | some q =>
        obtain ⟨b0, b1⟩ := a3.1 q ht
        obtain ⟨g2, d1, d2, d3⟩ := xs_need1 b1
        have e2 : tc_tk h 2 f = some q := by
          rw [tc_tk2, ht]
          show (if tc_cl h q.1 then some q else none) = _
          rw [if_pos (by rw [← b0]; exact hc)]
        refine ⟨g2, d1, d2, fun q' hq => ?_, fun hq => ?_⟩
        · change tc_tk h 2 f = some q' at hq
          rw [e2] at hq
          cases hq
          exact ⟨b0, d3⟩
        · change tc_tk h 2 f = none at hq
          rw [e2] at hq
          cases hq
  · rw [if_neg hc]
    apply hfin
    cases o with
    | none =>
      obtain ⟨g2, d1, d2, d3⟩ := xs_need0 (a3.2 rfl)
      exact ⟨g2, d1, d2, fun q hq => (by cases hq), fun _ => d3⟩
    | some f =>
      cases ht : tc_tk h 0 f with
      | none =>
        obtain ⟨g2, d1, d2, d3⟩ := xs_need0 (a3.2 ht)
        refine ⟨g2, d1, d2, fun q hq => ?_, fun _ => d3⟩
        change tc_tk h 2 f = some q at hq
        rw [tc_tk2, ht] at hq
        cases hq
      | some q =>
        obtain ⟨b0, b1⟩ := a3.1 q ht
        obtain ⟨g2, d1, d2, d3⟩ := xs_need0 b1
        have e2 : tc_tk h 2 f = none := by
          rw [tc_tk2, ht]
          show (if tc_cl h q.1 then some q else none) = _
          rw [if_neg (by rw [← b0]; exact hc)]
        refine ⟨g2, d1, d2, fun q' hq => ?_, fun _ => d3⟩
        change tc_tk h 2 f = some q' at hq
        rw [e2] at hq
        cases hq
