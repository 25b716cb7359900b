/-! The reference: the program stays -/
def pm (h0 h : qa_St) : Prop := (∀ r k, 1 ≤ r → r < 14 → h r k = h0 r k) ∧ h 0 0 = h0 0 0 ∧ h 0 4 = h0 0 4
theorem pm_rf (h : qa_St) : pm h h := ⟨fun _ _ _ _ => rfl, rfl, rfl⟩
theorem pm_tr {h0 h h' : qa_St} (h1 : pm h0 h) (h2 : pm h h') : pm h0 h' := ⟨fun r k a b => (h2.1 r k a b).trans (h1.1 r k a b), h2.2.1.trans h1.2.1, h2.2.2.trans h1.2.2⟩
theorem pm_fn {h0 h : qa_St} (hp : pm h0 h) {r : Nat} (h1 : 1 ≤ r) (h2 : r < 14) : h r = h0 r := funext fun k => hp.1 r k h1 h2
theorem pm_P {h0 h : qa_St} (hp : pm h0 h) (hP : pr_P h0) : pr_P h := by
  have e0 := hp.2.1
  have e4 := hp.2.2
  have e1 := pm_fn hp (r := 1) (by omega) (by omega)
  have e2 := pm_fn hp (r := 2) (by omega) (by omega)
  have e3 := pm_fn hp (r := 3) (by omega) (by omega)
  have f4 := pm_fn hp (r := 4) (by omega) (by omega)
  have e5 := pm_fn hp (r := 5) (by omega) (by omega)
  have e6 := pm_fn hp (r := 6) (by omega) (by omega)
  have e7 := pm_fn hp (r := 7) (by omega) (by omega)
  have e8 := pm_fn hp (r := 8) (by omega) (by omega)
  have e9 := pm_fn hp (r := 9) (by omega) (by omega)
  have e10 := pm_fn hp (r := 10) (by omega) (by omega)
  have e11 := pm_fn hp (r := 11) (by omega) (by omega)
  have e12 := pm_fn hp (r := 12) (by omega) (by omega)
  have e13 := pm_fn hp (r := 13) (by omega) (by omega)
  unfold pr_P pr_N pr_C pr_M pr_U pr_K pr_G pr_fit at *
  rw [e0, e4, e1, e2, e3, f4, e5, e6, e7, e8, e9, e10, e11, e12, e13]
  exact hP
theorem pm_R {g h0 h : qa_St} (hp : pm h0 h) (hR : pr_R g h0) : pr_R g h := by
  have e0 := hp.2.1
  have e4 := hp.2.2
  have e1 := pm_fn hp (r := 1) (by omega) (by omega)
  have e2 := pm_fn hp (r := 2) (by omega) (by omega)
  have e3 := pm_fn hp (r := 3) (by omega) (by omega)
  have f4 := pm_fn hp (r := 4) (by omega) (by omega)
  have e5 := pm_fn hp (r := 5) (by omega) (by omega)
  have e6 := pm_fn hp (r := 6) (by omega) (by omega)
  have e7 := pm_fn hp (r := 7) (by omega) (by omega)
  have e8 := pm_fn hp (r := 8) (by omega) (by omega)
  have e9 := pm_fn hp (r := 9) (by omega) (by omega)
  have e10 := pm_fn hp (r := 10) (by omega) (by omega)
  have e11 := pm_fn hp (r := 11) (by omega) (by omega)
  have e12 := pm_fn hp (r := 12) (by omega) (by omega)
  have e13 := pm_fn hp (r := 13) (by omega) (by omega)
  unfold pr_R pr_T pr_O pr_Q pr_Z pr_L pr_H at *
  rw [e0, e4, e1, e2, e3, f4, e5, e6, e7, e8, e9, e10, e11, e12, e13]
  exact hR
theorem pm_an {g h0 h : qa_St} (hp : pm h0 h) (s : Nat) : ∀ (n c : Nat), pr_an g h s n c = pr_an g h0 s n c := by
  have e1 := pm_fn hp (r := 1) (by omega) (by omega)
  intro n
  induction n with
  | zero => intro c; rfl
  | succ n ih => intro c; rw [pr_an, pr_an, e1, ih]
theorem pm_hd {h0 h : qa_St} (hp : pm h0 h) (m : Nat) (i : Int) : ∀ (n k : Nat), pr_hd h m i n k = pr_hd h0 m i n k := by
  have e10 := pm_fn hp (r := 10) (by omega) (by omega)
  have e11 := pm_fn hp (r := 11) (by omega) (by omega)
  have e12 := pm_fn hp (r := 12) (by omega) (by omega)
  have e13 := pm_fn hp (r := 13) (by omega) (by omega)
  intro n
  induction n with
  | zero => intro k; rfl
  | succ n ih => intro k; rw [pr_hd, pr_hd, e10, e11, e12, e13, ih]
theorem pm_va {h0 h : qa_St} (hp : pm h0 h) (t : Int32) : tc_va h t ↔ tc_va h0 t := by unfold tc_va tc_cl; rw [hp.2.1]
theorem pm_lub {g h0 h : qa_St} (hp : pm h0 h) {a b j : Int32} (hl : tc_lub g h a b j) : tc_lub g h0 a b j := by
  unfold tc_lub tc_le tc_va tc_cl at *
  rw [hp.2.1] at hl
  exact hl
/-! Its frame: n is 0 20, bad 0 21, now 17 -/
def mo (h : qa_St) (o : Option tc_F) : Prop := (∀ f, o = some f → h 0 21 = 0 ∧ f.1 ≤ 6 ∧ h 0 20 = Int32.ofNat f.1 ∧ ∀ p, p < 4 + f.1 → h 17 p = f.2 p) ∧ (o = none → h 0 21 = 1 ∧ ∃ n, n ≤ 6 ∧ h 0 20 = Int32.ofNat n)
/-- after all: bad, or the frame -/
def mz (h : qa_St) (o : Option tc_F) : Prop := (∀ r, o = some r → mo h (some r)) ∧ (o = none → h 0 21 = 1)
def mw (h h' : qa_St) : Prop := ∀ r k, r ≠ 17 → ¬ (r = 0 ∧ (k = 20 ∨ k = 21)) → h' r k = h r k
theorem mw_rf (h : qa_St) : mw h h := fun _ _ _ _ => rfl
theorem mw_tr {h h' h'' : qa_St} (h1 : mw h h') (h2 : mw h' h'') : mw h h'' := fun r k a b => (h2 r k a b).trans (h1 r k a b)
theorem mw_20 (h : qa_St) (v : Int32) : mw h (qa_up h 0 20 v) := fun r k a b => by rw [pv_get, if_neg (fun z => b ⟨z.1, Or.inl z.2⟩)]
theorem mw_21 (h : qa_St) (v : Int32) : mw h (qa_up h 0 21 v) := fun r k a b => by rw [pv_get, if_neg (fun z => b ⟨z.1, Or.inr z.2⟩)]
theorem mw_17 (h : qa_St) (k : Nat) (v : Int32) : mw h (qa_up h 17 k v) := fun r k a b => pv_nr a
theorem mw_pm {h h' : qa_St} (hw : mw h h') : pm h h' := ⟨fun r k a b => hw r k (by omega) (by omega), hw 0 0 (by decide) (by decide), hw 0 4 (by decide) (by decide)⟩
theorem mo_none {h : qa_St} (h1 : h 0 21 = 1) (h2 : ∃ n, n ≤ 6 ∧ h 0 20 = Int32.ofNat n) : mo h none := ⟨fun f hf => (by cases hf), fun _ => ⟨h1, h2⟩⟩
theorem mo_some {h : qa_St} {f : tc_F} (h1 : h 0 21 = 0) (h2 : f.1 ≤ 6) (h3 : h 0 20 = Int32.ofNat f.1) (h4 : ∀ p, p < 4 + f.1 → h 17 p = f.2 p) : mo h (some f) := ⟨fun f' hf => (by cases hf; exact ⟨h1, h2, h3, h4⟩), fun z => (by cases z)⟩
theorem mo_z {h : qa_St} {o : Option tc_F} (ho : mo h o) : mz h o := ⟨fun r hr => by rw [← hr]; exact ho, fun hn => (ho.2 hn).1⟩
def mq (h' : qa_St) (t : Int32) (o : Option (Int32 × tc_F)) : Prop := (∀ q, o = some q → t = q.1 ∧ mo h' (some q.2)) ∧ (o = none → mo h' none)
/-- take: what is 8 (any), 9 (a number), 0 (an object) -/
def mk (x : Int32) : Nat := if x = 9 then 1 else if x = 0 then 2 else 0
theorem ms_take {h0 h : qa_St} (hN : pr_N h0) (hp : pm h0 h) {o : Option tc_F} (ho : mo h o) (hv : ∀ f, o = some f → tc_ok h0 f) (x : Int32) : ∃ t h', mf_Mo_take h x = some (t, h') ∧ mw h h' ∧ mq h' t (o.bind (tc_tk h0 (mk x))) := by
  have e0 : (0 : Int32).toInt = 0 := rfl
  have e1 : (1 : Int32).toInt = 1 := rfl
  have e4 : (4 : Int32).toInt = 4 := rfl
  have e8 : (8 : Int32).toInt = 8 := rfl
  obtain ⟨n, hn, hg⟩ : ∃ n, n ≤ 6 ∧ h 0 20 = Int32.ofNat n := by
    cases o with
    | none => exact (ho.2 rfl).2
    | some f => exact ⟨f.1, (ho.1 f rfl).2.1, (ho.1 f rfl).2.2.1⟩
  have hfn : ∀ f, o = some f → f.1 = n := fun f hf => by
    have w1 := (ho.1 f hf).2.2.1
    have w2 := (ho.1 f hf).2.1
    have w : (Int32.ofNat n).toInt = (Int32.ofNat f.1).toInt := by rw [← hg, w1]
    rw [pv_nI (by omega), pv_nI (by omega)] at w
    omega
  have en : (Int32.ofNat n).toInt = (n : Int) := pv_nI (by omega)
  unfold mf_Mo_take
  rw [hg]
  by_cases h0' : n = 0
  · rw [if_pos (by rw [h0']; rfl)]
    refine ⟨8, _, rfl, mw_21 _ _, fun q hq => ?_, fun _ => mo_none pv_self ⟨n, hn, by rw [pv_ni (by decide)]; exact hg⟩⟩
    cases o with
    | none => cases hq
    | some f =>
      change tc_tk h0 (mk x) f = some q at hq
      unfold tc_tk at hq
      rw [if_pos (by rw [hfn f rfl]; exact h0')] at hq
      cases hq
  · obtain ⟨k, rfl⟩ : ∃ z, n = z + 1 := ⟨n - 1, by omega⟩
    have ek : (Int32.ofNat k).toInt = (k : Int) := pv_nI (by omega)
    have es : Int32.ofNat (k + 1) - 1 = Int32.ofNat k := by
      rw [pv_eq, pv_sub (by rw [en, e1]; omega) (by rw [en, e1]; omega), en, e1, ek]; omega
    have e4k : ((4 : Int32) + Int32.ofNat k).toInt = 4 + (k : Int) := by rw [pv_add (by rw [e4, ek]; omega) (by rw [e4, ek]; omega), e4, ek]
    rw [if_neg (by rw [pv_eq, en, e0]; omega), es, pv_self, if_neg (by rw [pv_lt, pv_cl, e4k, e0]; omega), pv_cl, e4k, show (4 + (k : Int)).toNat = 4 + k by omega, pv_nr (show (17 : Nat) ≠ 0 by decide)]
    obtain ⟨t, ht⟩ : ∃ t, t = h 17 (4 + k) := ⟨_, rfl⟩
    rw [← ht]
    obtain ⟨h1, hh1⟩ : ∃ h1, h1 = qa_up h 0 20 (Int32.ofNat k) := ⟨_, rfl⟩
    rw [← hh1]
    have hbad : h1 0 21 = h 0 21 := by rw [hh1, pv_ni (by decide)]
    have h20 : h1 0 20 = Int32.ofNat k := by rw [hh1, pv_self]
    have hw1 : mw h h1 := by rw [hh1]; exact mw_20 _ _
    have h17 : ∀ p, h1 17 p = h 17 p := fun p => by rw [hh1, pv_nr (by decide)]
    -- what it says
    have hres : ∃ h', mf_Mo_take_36 h1 x t = some (t, h') ∧ ((h' = h1 ∧ (mk x = 1 → t = 9) ∧ (mk x = 2 → t.toInt < 8)) ∨ (h' = qa_up h1 0 21 1 ∧ ¬ ((mk x = 1 → t = 9) ∧ (mk x = 2 → t.toInt < 8)))) := by
      unfold mf_Mo_take_36 mf_Mo_take_49 mk
      by_cases h9 : x = 9
      · rw [if_pos h9]
        simp only [if_pos h9]
        by_cases ht9 : t = 9
        · rw [if_pos ht9, if_neg (by rw [h9]; decide)]
          exact ⟨h1, rfl, Or.inl ⟨rfl, fun _ => ht9, fun z => by omega⟩⟩
        · rw [if_neg ht9]
          exact ⟨_, rfl, Or.inr ⟨rfl, fun z => ht9 (z.1 trivial)⟩⟩
      · rw [if_neg h9]
        simp only [if_neg h9]
        by_cases hx0 : x = 0
        · rw [if_pos hx0]
          simp only [if_pos hx0]
          by_cases hlt : t < 8
          · rw [if_pos hlt]
            exact ⟨h1, rfl, Or.inl ⟨rfl, fun z => by omega, fun _ => by rw [pv_lt, e8] at hlt; exact hlt⟩⟩
          · rw [if_neg hlt]
            exact ⟨_, rfl, Or.inr ⟨rfl, fun z => hlt (by rw [pv_lt, e8]; exact z.2 trivial)⟩⟩
        · rw [if_neg hx0]
          simp only [if_neg hx0]
          exact ⟨h1, rfl, Or.inl ⟨rfl, fun z => by omega, fun z => by omega⟩⟩
    obtain ⟨h', r1, r2⟩ := hres
    rw [r1]
    refine ⟨t, h', rfl, ?_, ?_⟩
    · rcases r2 with ⟨z, -⟩ | ⟨z, -⟩
      · rw [z]; exact hw1
      · rw [z]; exact mw_tr hw1 (mw_21 _ _)
    · cases o with
      | none =>
        refine ⟨fun q hq => (by cases hq), fun _ => ?_⟩
        have hb := (ho.2 rfl).1
        rcases r2 with ⟨z, -⟩ | ⟨z, -⟩
        · rw [z]; exact mo_none (hbad.trans hb) ⟨k, by omega, h20⟩
        · rw [z]; exact mo_none pv_self ⟨k, by omega, by rw [pv_ni (by decide)]; exact h20⟩
      | some f =>
        obtain ⟨a1, a2, a3, a4⟩ := ho.1 f rfl
        have hfk := hfn f rfl
        have ht3 : f.2 (3 + f.1) = t := by rw [ht, a4 (4 + k) (by omega), show 3 + f.1 = 4 + k by omega]
        have hvt : tc_va h0 t := by rw [← ht3]; exact (hv f rfl).2 _ (by omega)
        have hcl : t.toInt < 8 ↔ tc_cl h0 t := by
          rcases hvt with y | y | y
          · obtain ⟨n0, n1, n2, n3⟩ := hN
            exact ⟨fun _ => y, fun _ => by have := y.2; omega⟩
          · rw [y]; exact ⟨fun z => absurd z (by decide), fun z => absurd z (tc_cl8 hN)⟩
          · rw [y]; exact ⟨fun z => absurd z (by decide), fun z => absurd z (tc_cl9 hN)⟩
        have htk : tc_tk h0 (mk x) f = if (mk x = 1 → t = 9) ∧ (mk x = 2 → t.toInt < 8) then some (t, (f.1 - 1, f.2)) else none := by
          unfold tc_tk
          rw [if_neg (by omega), ht3]
          by_cases hc : (mk x = 1 → t = 9) ∧ (mk x = 2 → t.toInt < 8)
          · rw [if_pos hc, if_pos ⟨hc.1, fun z => hcl.mp (hc.2 z)⟩]
          · rw [if_neg hc, if_neg (fun z => hc ⟨z.1, fun y => hcl.mpr (z.2 y)⟩)]
        have hmo : mo h1 (some (f.1 - 1, f.2)) := by
          refine mo_some (hbad.trans a1) (by show f.1 - 1 ≤ 6; omega) (by rw [h20]; show _ = Int32.ofNat (f.1 - 1); rw [hfk]; rfl) (fun p hp => ?_)
          have hp : p < 4 + (f.1 - 1) := hp
          rw [h17]; exact a4 p (by omega)
        show mq h' t (tc_tk h0 (mk x) f)
        rw [htk]
        rcases r2 with ⟨z, zc⟩ | ⟨z, zc⟩
        · rw [if_pos zc, z]
          exact ⟨fun q hq => (by cases hq; exact ⟨rfl, hmo⟩), fun hq => (by cases hq)⟩
        · rw [if_neg zc, z]
          exact ⟨fun q hq => (by cases hq), fun _ => mo_none pv_self ⟨k, by omega, by rw [pv_ni (by decide)]; exact h20⟩⟩
theorem ms_give {h : qa_St} {o : Option tc_F} (ho : mo h o) (t : Int32) : ∃ h', mf_Mo_give h t = some (0, h') ∧ mw h h' ∧ mz h' (o.bind (tc_pt t)) := by
  have e0 : (0 : Int32).toInt = 0 := rfl
  have e4 : (4 : Int32).toInt = 4 := rfl
  have e6 : (6 : Int32).toInt = 6 := rfl
  obtain ⟨n, hn, hg⟩ : ∃ n, n ≤ 6 ∧ h 0 20 = Int32.ofNat n := by
    cases o with
    | none => exact (ho.2 rfl).2
    | some f => exact ⟨f.1, (ho.1 f rfl).2.1, (ho.1 f rfl).2.2.1⟩
  have hfn : ∀ f, o = some f → f.1 = n := fun f hf => by
    have w1 := (ho.1 f hf).2.2.1
    have w2 := (ho.1 f hf).2.1
    have w : (Int32.ofNat n).toInt = (Int32.ofNat f.1).toInt := by rw [← hg, w1]
    rw [pv_nI (by omega), pv_nI (by omega)] at w
    omega
  have en : (Int32.ofNat n).toInt = (n : Int) := pv_nI (by omega)
  unfold mf_Mo_give mf_Mo_give_29
  rw [hg]
  by_cases h6 : n = 6
  · rw [if_pos (by rw [h6]; rfl)]
    refine ⟨_, rfl, mw_tr (mw_21 _ _) (mw_20 _ _), fun r hr => ?_, fun _ => by rw [pv_ni (by decide), pv_self]⟩
    cases o with
    | none => cases hr
    | some f =>
      change tc_pt t f = some r at hr
      unfold tc_pt at hr
      rw [if_pos (by rw [hfn f rfl]; omega)] at hr
      cases hr
  · have e4n : ((4 : Int32) + Int32.ofNat n).toInt = 4 + (n : Int) := by rw [pv_add (by rw [e4, en]; omega) (by rw [e4, en]; omega), e4, en]
    rw [if_neg (by rw [pv_eq, en, e6]; omega), if_neg (by rw [pv_lt, pv_cl, e4n, e0]; omega), pv_cl, e4n, show (4 + (n : Int)).toNat = 4 + n by omega, pv_nr (show (0 : Nat) ≠ 17 by decide), hg, pv_n1]
    refine ⟨_, rfl, mw_tr (mw_17 _ _ _) (mw_20 _ _), fun r hr => ?_, fun hno => ?_⟩
    · cases o with
      | none => cases hr
      | some f =>
        obtain ⟨a1, a2, a3, a4⟩ := ho.1 f rfl
        have hfk := hfn f rfl
        change tc_pt t f = some r at hr
        unfold tc_pt at hr
        rw [if_neg (by omega)] at hr
        cases hr
        refine mo_some (by rw [pv_ni (by decide), pv_nr (by decide)]; exact a1) (by show f.1 + 1 ≤ 6; omega) (by rw [pv_self]; show _ = Int32.ofNat (f.1 + 1); rw [hfk]) (fun p hp => ?_)
        have hp : p < 4 + (f.1 + 1) := hp
        show _ = tc_up f.2 (4 + f.1) t p
        rw [pv_nr (by decide), hfk]
        by_cases hq : p = 4 + n
        · rw [hq, tc_up_s, pv_self]
        · rw [tc_up_n hq, pv_ni hq]; exact a4 p (by omega)
    · rw [pv_ni (by decide), pv_nr (by decide)]
      cases o with
      | none => exact (ho.2 rfl).1
      | some f =>
        change tc_pt t f = none at hno
        unfold tc_pt at hno
        rw [if_neg (by rw [hfn f rfl]; omega)] at hno
        cases hno
