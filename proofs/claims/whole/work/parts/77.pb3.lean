/-! The program stays -/
def xp (g g' : qa_St) : Prop := ∀ r k, r < 72 → g' r k = g r k
theorem xw_p {g g' : qa_St} (hw : xw g g') : xp g g' := fun r k hr => hw r k (by omega) (by omega) (by omega)
theorem xp_R {g g' h : qa_St} (hp : xp g g') (hN : pr_N h) (hR : pr_R g h) (hC : pr_C h) : pr_R g' h := by
  obtain ⟨n0, n1, n2, n3⟩ := hN
  obtain ⟨⟨r1, r2⟩, hT, hO, hQ, hZ, hL, hH⟩ := hR
  refine ⟨⟨by rw [hp 1 0 (by omega)]; exact r1, by rw [hp 1 1 (by omega)]; exact r2⟩, fun c hc => ?_, fun c s hc hs => ?_, fun m hm => ?_, fun m hm hm' => ?_, fun m i hm hi => ?_, fun m k hm hk => ?_⟩
  · rw [hp 2 c (by omega), hp 2 _ (by omega), hp 3 c (by omega), hp 3 _ (by omega), hp 4 c (by omega)]
    exact hT c hc
  · rw [hp (6 + c) s (by omega)]
    exact hO c s hc hs
  · rw [hp 12 m (by omega), hp 13 m (by omega), hp 14 m (by omega), hp 15 m (by omega), hp 38 m (by omega)]
    exact hQ m hm
  · rw [hp 15 m (by omega), hp 38 m (by omega)]
    exact hZ m hm hm'
  · rw [hp (17 + m) i (by omega), hp (28 + m) i (by omega)]
    exact hL m i hm hi
  · rw [hp (40 + m) k (by omega), hp (51 + m) k (by omega), hp (62 + m) k (by omega)]
    exact hH m k hm hk
theorem xp_an {g g' h : qa_St} (hp : xp g g') (hN : pr_N h) (hC : pr_C h) (s : Nat) : ∀ (n c : Nat), (c : Int) < (h 0 0).toInt → pr_an g' h s n c = pr_an g h s n c := by
  intro n
  obtain ⟨n0, n1, n2, n3⟩ := hN
  induction n with
  | zero => intro c _; rfl
  | succ n ih =>
    intro c hc
    have q := hC c hc
    rw [pr_an, pr_an, hp (6 + c) s (by omega)]
    by_cases hpc : (h 1 c).toInt < 0
    · rw [if_pos hpc, if_pos hpc]
    · rw [if_neg hpc, if_neg hpc, ih _ (by omega)]
theorem xo_bind2 {g' : qa_St} {o : Option tc_F} {k k' : tc_F → Option tc_F} (h : xo g' (o.bind k)) (hk : ∀ f, k f = k' f) : xo g' (o.bind k') := by
  have : k = k' := funext hk
  rw [← this]; exact h
theorem xo_bb {α : Type} {g' : qa_St} {o : Option tc_F} {a : tc_F → Option α} {b : α → Option tc_F} {k : tc_F → Option tc_F} (h : xo g' ((o.bind a).bind b)) (hk : ∀ f, k f = (a f).bind b) : xo g' (o.bind k) := by
  have : k = fun f => (a f).bind b := funext hk
  rw [this]
  cases o with
  | none => exact h
  | some f => exact h
/-- the effect of an instruction, in the class -/
theorem xs_apply {g h : qa_St} (hP : pr_P h) (hR : pr_R g h) {o : Option tc_F} (ho : xo g o) (x1 x2 : Int32) (hx : 0 ≤ x1.toInt ∧ x1.toInt ≤ 22) (hft : pr_fit h x1.toInt x2.toInt) : ∃ g', xf_Ch_apply g x1 x2 = some (0, g') ∧ xw g g' ∧ xo g' (o.bind (tc_ef g h x1.toInt x2)) := by
  obtain ⟨hN, hC, hM, hU, hK, hG⟩ := hP
  have hR0 := hR
  obtain ⟨⟨r1, r2⟩, hT, hO, hQ, hZ, hL, hH⟩ := hR
  have hN0 := hN
  obtain ⟨n0, n1, n2, n3⟩ := hN
  obtain ⟨t1, t2, t3, t4, t5⟩ := hft
  have e0 : (0 : Int32).toInt = 0 := rfl
  have hput : ∀ (t : Int32) {g1 : qa_St} {o1 : Option tc_F}, xw g g1 → xo g1 o1 → ∃ g', ((xf_Ch_put g1 t).bind fun t111 => (some ((0 : Int32), t111.2))) = some (0, g') ∧ xw g g' ∧ xo g' (o1.bind (tc_pt t)) := fun t {g1} {o1} hw h1 => by
    obtain ⟨g', a1, a2, a3⟩ := xs_put t h1
    rw [a1]
    exact ⟨g', rfl, xw_tr hw a2, a3⟩
  have hnum : ∀ (x : Int32) (k : Nat), (k : Int) = x.toInt → k < 10 → ∃ g1, xf_Ch_takeNumbers g x = some (0, g1) ∧ xw g g1 ∧ xo g1 (o.bind (tc_tks h k)) := fun x k hk hk9 => xs_takeNumbers h x k hk hk9 ho
  have hobj : ∀ {g1 : qa_St} {o1 : Option tc_F}, xw g g1 → xo g1 o1 → ∃ t g2, xf_Ch_takeObject g1 = some (t, g2) ∧ xw g g2 ∧ xq g2 t (o1.bind (tc_tk h 2)) := fun {g1} {o1} hw h1 => by
    obtain ⟨t, g2, a1, a2, a3⟩ := xs_takeObject h h1 (by rw [hw 1 0 (by decide) (by decide) (by decide)]; exact r1)
    exact ⟨t, g2, a1, xw_tr hw a2, a3⟩
  have hex : ∃ k : Nat, k < 23 ∧ x1 = Int32.ofNat k := ⟨x1.toInt.toNat, by omega, pv_nIe hx.1⟩
  have c0 : ∀ (y : Int32) (f : tc_F → Option tc_F), (y.toInt = 0 ∨ y.toInt = 14) → xf_Ch_apply g y x2 = ((xf_Ch_put g 9).bind fun t111 => (some ((0 : Int32), t111.2))) → ∃ g', xf_Ch_apply g y x2 = some (0, g') ∧ xw g g' ∧ xo g' (o.bind (tc_ef g h y.toInt x2)) := fun y f hy he => by
    obtain ⟨g', a1, a2, a3⟩ := hput 9 (xw_rf g) ho
    exact ⟨g', he.trans a1, a2, xo_bind2 a3 (fun f => by unfold tc_ef; rw [if_pos hy])⟩
  have c1 : ∀ (y : Int32), (y.toInt = 1 ∨ y.toInt = 11) → xf_Ch_apply g y x2 = ((xf_Ch_put g x2).bind fun t111 => (some ((0 : Int32), t111.2))) → ∃ g', xf_Ch_apply g y x2 = some (0, g') ∧ xw g g' ∧ xo g' (o.bind (tc_ef g h y.toInt x2)) := fun y hy he => by
    obtain ⟨g', a1, a2, a3⟩ := hput x2 (xw_rf g) ho
    exact ⟨g', he.trans a1, a2, xo_bind2 a3 (fun f => by unfold tc_ef; rw [if_neg (by omega), if_pos hy])⟩
  have c5 : ∀ (y : Int32), (5 ≤ y.toInt ∧ y.toInt ≤ 8) → xf_Ch_apply g y x2 = ((xf_Ch_takeNumbers g 2).bind fun t187 => ((xf_Ch_put t187.2 9).bind fun t111 => (some ((0 : Int32), t111.2)))) → ∃ g', xf_Ch_apply g y x2 = some (0, g') ∧ xw g g' ∧ xo g' (o.bind (tc_ef g h y.toInt x2)) := fun y hy he => by
    obtain ⟨g1, b1, b2, b3⟩ := hnum 2 2 rfl (by omega)
    obtain ⟨g', a1, a2, a3⟩ := hput 9 b2 b3
    refine ⟨g', ?_, a2, xo_bb a3 (fun f => by unfold tc_ef; rw [if_neg (by omega), if_neg (by omega), if_neg (by omega), if_neg (by omega), if_neg (by omega), if_pos hy])⟩
    rw [he, b1]
    exact a1
  have c10 : ∀ (y : Int32), (y.toInt = 10 ∨ y.toInt = 15 ∨ 20 ≤ y.toInt) → xf_Ch_apply g y x2 = ((xf_Ch_takeNumbers g 1).bind fun t201 => (some ((0 : Int32), t201.2))) → ∃ g', xf_Ch_apply g y x2 = some (0, g') ∧ xw g g' ∧ xo g' (o.bind (tc_ef g h y.toInt x2)) := fun y hy he => by
    obtain ⟨g1, b1, b2, b3⟩ := hnum 1 1 rfl (by omega)
    refine ⟨g1, ?_, b2, xo_bind2 b3 (fun f => by unfold tc_ef; rw [if_neg (by omega), if_neg (by omega), if_neg (by omega), if_neg (by omega), if_neg (by omega), if_neg (by omega), if_neg (by omega), if_pos hy])⟩
    rw [he, b1]
    rfl
  have h69 : ∀ (s0 : Int32) {g1 : qa_St} {o1 : Option tc_F}, (s0 = 0 ∨ s0 = 1) → xw g g1 → xo g1 o1 → ∃ g', ((xf_Ch_need g1 s0).bind fun t69 => ((xf_Ch_put t69.2 9).bind fun t75 => (some ((0 : Int32), t75.2)))) = some (0, g') ∧ xw g g' ∧ (s0 = 0 → xo g' none) ∧ (s0 = 1 → xo g' (o1.bind (tc_pt 9))) := fun s0 {g1} {o1} hs hw h1 => by
    rcases hs with hs | hs
    · obtain ⟨g2, d1, d2, d3⟩ := xs_need0 h1
      obtain ⟨g', a1, a2, a3⟩ := hput 9 (xw_tr hw d2) d3
      rw [hs, d1]
      exact ⟨g', a1, a2, fun _ => a3, fun z => absurd z (by decide)⟩
    · obtain ⟨g2, d1, d2, d3⟩ := xs_need1 h1
      obtain ⟨g', a1, a2, a3⟩ := hput 9 (xw_tr hw d2) d3
      rw [hs, d1]
      exact ⟨g', a1, a2, fun z => absurd z (by decide), fun _ => a3⟩
  have h107 : ∀ (s0 : Int32) {g1 : qa_St} {o1 : Option tc_F}, (s0 = 0 ∨ s0 = 1) → xw g g1 → xo g1 o1 → ∃ g', ((xf_Ch_need g1 s0).bind fun t75 => (some ((0 : Int32), t75.2))) = some (0, g') ∧ xw g g' ∧ (s0 = 0 → xo g' none) ∧ (s0 = 1 → xo g' o1) := fun s0 {g1} {o1} hs hw h1 => by
    rcases hs with hs | hs
    · obtain ⟨g2, d1, d2, d3⟩ := xs_need0 h1
      rw [hs, d1]
      exact ⟨g2, rfl, xw_tr hw d2, fun _ => d3, fun z => absurd z (by decide)⟩
    · obtain ⟨g2, d1, d2, d3⟩ := xs_need1 h1
      rw [hs, d1]
      exact ⟨g2, rfl, xw_tr hw d2, fun z => absurd z (by decide), fun _ => d3⟩
  have hfo : ∀ (t : Int32) {g1 : qa_St}, xw g g1 → xf_Pr_fieldsOf g1 t = some (if 0 ≤ t.toInt ∧ t.toInt < (h 0 0).toInt then g 3 t.toInt.toNat else 0, g1) := fun t {g1} hw => by
    have e1 : g1 1 0 = h 0 0 := by rw [hw 1 0 (by decide) (by decide) (by decide)]; exact r1
    rw [xs_fieldsOf g1 t (by rw [e1]; omega), e1, hw 3 _ (by decide) (by decide) (fun z => by omega)]
  have htk2 : ∀ {f : tc_F} {q : Int32 × tc_F}, tc_tk h 2 f = some q → tc_cl h q.1 := fun {f} {q} hq => by
    rw [tc_tk2] at hq
    obtain ⟨p, p1, p2⟩ := tc_bind hq
    by_cases hc : tc_cl h p.1
    · rw [if_pos hc] at p2; cases p2; exact hc
    · rw [if_neg hc] at p2; cases p2
  have hnn : ∀ {g1 g' : qa_St} {s0 : Int32} {o1 : Option tc_F}, (s0 = 0 ∨ s0 = 1) → (s0 = 0 → xo g' none) → (s0 = 1 → xo g' o1) → o1 = none → xo g' none := fun {g1 g' s0 o1} hs h1 h2 h3 => by
    rcases hs with hs | hs
    · exact h1 hs
    · have := h2 hs; rw [h3] at this; exact this
  obtain ⟨k, hk, hxk⟩ := hex
  subst hxk
  have ek : (Int32.ofNat k).toInt = (k : Int) := pv_nI (by omega)
  match k, hk with
  | 0, _ => exact c0 (Int32.ofNat 0) some (Or.inl rfl) rfl
  | 1, _ => exact c1 (Int32.ofNat 1) (Or.inl rfl) rfl
  | 2, _ =>
    have ht2 := t2 (by rw [ek]; omega)
    have hp2 := xs_place (g := g) 75 x2 (by omega)
    have hgo : ∀ (s0 : Int32), (∃ g1, xf_Ch_need g s0 = some (0, g1) ∧ xw g g1 ∧ (∀ f, o = some f → f.2 x2.toInt.toNat = 8 → xo g1 none) ∧ (∀ f, o = some f → ¬ f.2 x2.toInt.toNat = 8 → xo g1 o) ∧ (o = none → xo g1 none)) → ∃ g', xf_Ch_apply_144 g x2 s0 = some (0, g') ∧ xw g g' ∧ xo g' (o.bind (tc_ef g h 2 x2)) := fun s0 hh => by
      obtain ⟨g1, d1, d2, d3, d4, d5⟩ := hh
      unfold xf_Ch_apply_144
      rw [d1]
      simp only [Option.bind_some]
      rw [xs_place 75 x2 (by omega)]
      simp only [Option.bind_some]
      have hef : ∀ f, tc_ef g h 2 x2 f = (if f.2 x2.toInt.toNat = 8 then none else tc_pt (f.2 x2.toInt.toNat) f) := fun f => rfl
      cases o with
      | none =>
        obtain ⟨g', a1, a2, a3⟩ := hput (g1 (75 + 1) x2.toInt.toNat) d2 (d5 rfl)
        exact ⟨g', a1, a2, a3⟩
      | some f =>
        show ∃ g', _ ∧ _ ∧ xo g' (tc_ef g h 2 x2 f)
        rw [hef]
        by_cases h8 : f.2 x2.toInt.toNat = 8
        · obtain ⟨g', a1, a2, a3⟩ := hput (g1 (75 + 1) x2.toInt.toNat) d2 (d3 f rfl h8)
          rw [if_pos h8]
          exact ⟨g', a1, a2, a3⟩
        · obtain ⟨g', a1, a2, a3⟩ := hput (g1 (75 + 1) x2.toInt.toNat) d2 (d4 f rfl h8)
          rw [if_neg h8]
          have : g1 (75 + 1) x2.toInt.toNat = f.2 x2.toInt.toNat := ((d4 f rfl h8).1 f rfl).2.2.2 _ (by omega)
          rw [this] at a1 a3
          refine ⟨g', ?_, a2, a3⟩
          rw [this]
          exact a1
    have he : xf_Ch_apply g (Int32.ofNat 2) x2 = ((xf_Fr_place g 75 x2).bind fun t131 => (if t131.1 = (8 : Int32) then (xf_Ch_apply_144 t131.2 x2 (0 : Int32)) else (xf_Ch_apply_144 t131.2 x2 (1 : Int32)))) := rfl
    rw [he, hp2]
    simp only [Option.bind_some]
    have hov : ∀ f, o = some f → g (75 + 1) x2.toInt.toNat = f.2 x2.toInt.toNat := fun f hf => (ho.1 f hf).2.2.2 _ (by omega)
    by_cases h8 : g (75 + 1) x2.toInt.toNat = 8
    · rw [if_pos h8]
      obtain ⟨g1, d1, d2, d3⟩ := xs_need0 ho
      exact hgo 0 ⟨g1, d1, d2, fun _ _ _ => d3, fun f hf hz => absurd ((hov f hf).symm.trans h8) hz, fun _ => d3⟩
    · rw [if_neg h8]
      obtain ⟨g1, d1, d2, d3⟩ := xs_need1 ho
      refine hgo 1 ⟨g1, d1, d2, fun f hf hz => absurd ((hov f hf).trans hz) h8, fun _ _ _ => d3, fun hn => by rw [hn] at d3; exact d3⟩
  | 3, _ =>
    have ht2 := t2 (by rw [ek]; omega)
    obtain ⟨t, g1, a1, a2, a3⟩ := xs_takeAny h ho
    have he : xf_Ch_apply g (Int32.ofNat 3) x2 = ((xf_Ch_takeAny g).bind fun t168 => ((xf_Fr_setPlace t168.2 75 x2 t168.1).bind fun t171 => (some (0, t171.2)))) := rfl
    rw [he, a1]
    simp only [Option.bind_some]
    rw [xs_setPlace 75 x2 t (by omega)]
    simp only [Option.bind_some]
    refine ⟨_, rfl, xw_tr a2 (xw_76 _ _ _), ?_⟩
    have hef : ∀ f, tc_ef g h (Int32.ofNat 3).toInt x2 f = (tc_tk h 0 f).bind fun q => some (q.2.1, tc_up q.2.2 x2.toInt.toNat q.1) := fun f => rfl
    cases o with
    | none =>
      have := (a3.2 rfl).2 rfl
      exact xo_none (by rw [pv_nr (by decide)]; exact this.1) (by rw [pv_nr (by decide)]; exact this.2)
    | some f =>
      show xo _ (tc_ef g h (Int32.ofNat 3).toInt x2 f)
      rw [hef]
      cases ht : tc_tk h 0 f with
      | none =>
        have := (a3.2 ht).2 rfl
        exact xo_none (by rw [pv_nr (by decide)]; exact this.1) (by rw [pv_nr (by decide)]; exact this.2)
      | some q =>
        obtain ⟨b0, b1⟩ := a3.1 q ht
        obtain ⟨b1, b2, b3, b4⟩ := b1.1 _ rfl
        refine xo_some (by rw [pv_nr (by decide)]; exact b1) b2 (by rw [pv_nr (by decide)]; exact b3) (fun p hp => ?_)
        show _ = tc_up q.2.2 x2.toInt.toNat q.1 p
        by_cases hq : p = x2.toInt.toNat
        · rw [hq, tc_up_s, ← b0]; exact pv_self
        · rw [tc_up_n hq, pv_ni hq]; exact b4 p hp
  | 4, _ =>
    obtain ⟨t, g1, a1, a2, a3⟩ := xs_takeAny h ho
    have he : xf_Ch_apply g (Int32.ofNat 4) x2 = ((xf_Ch_takeAny g).bind fun t178 => (some (0, t178.2))) := rfl
    rw [he, a1]
    exact ⟨g1, rfl, a2, xo_bb (a := tc_tk h 0) (b := fun q => some q.2) (xq_o a3) (fun f => rfl)⟩
  | 5, _ => exact c5 (Int32.ofNat 5) ⟨by decide, by decide⟩ rfl
  | 6, _ => exact c5 (Int32.ofNat 6) ⟨by decide, by decide⟩ rfl
  | 7, _ => exact c5 (Int32.ofNat 7) ⟨by decide, by decide⟩ rfl
  | 8, _ => exact c5 (Int32.ofNat 8) ⟨by decide, by decide⟩ rfl
  | 9, _ => exact ⟨g, rfl, xw_rf g, by cases o with
      | none => exact ho
      | some f => exact ho⟩
  | 10, _ => exact c10 (Int32.ofNat 10) (Or.inl rfl) rfl
  | 11, _ => exact c1 (Int32.ofNat 11) (Or.inr rfl) rfl
  | 12, _ =>
    obtain ⟨t, g1, a1, a2, a3⟩ := hobj (xw_rf g) ho
    have he : xf_Ch_apply g (Int32.ofNat 12) x2 = ((xf_Ch_takeObject g).bind fun t55 => ((xf_Pr_fieldsOf t55.2 t55.1).bind fun t58 => (if t58.1 ≤ x2 then (xf_Ch_applyToObject_69 t58.2 (0 : Int32)) else (xf_Ch_applyToObject_69 t58.2 (1 : Int32))))).bind fun t231 => (some (0, t231.2)) := rfl
    have hsel : ∃ s0 : Int32, (s0 = 0 ∨ s0 = 1) ∧ (s0 = 1 ↔ x2.toInt < (if 0 ≤ t.toInt ∧ t.toInt < (h 0 0).toInt then g 3 t.toInt.toNat else 0).toInt) ∧ xf_Ch_apply g (Int32.ofNat 12) x2 = ((xf_Ch_need g1 s0).bind fun t69 => ((xf_Ch_put t69.2 9).bind fun t75 => (some ((0 : Int32), t75.2)))).bind fun t231 => (some (0, t231.2)) := by
      rw [he, a1]
      simp only [Option.bind_some]
      rw [hfo t a2]
      simp only [Option.bind_some]
      by_cases hle : (if 0 ≤ t.toInt ∧ t.toInt < (h 0 0).toInt then g 3 t.toInt.toNat else 0) ≤ x2
      · rw [if_pos hle]
        exact ⟨0, Or.inl rfl, ⟨fun z => absurd z (by decide), fun z => by rw [pv_le] at hle; omega⟩, rfl⟩
      · rw [if_neg hle]
        exact ⟨1, Or.inr rfl, ⟨fun _ => by rw [pv_le] at hle; omega, fun _ => rfl⟩, rfl⟩
    obtain ⟨s0, s1, s2, s3⟩ := hsel
    have hmode : ∃ o1, xo g1 o1 ∧ (∀ q, o.bind (tc_tk h 2) = some q → o1 = some q.2 ∧ t = q.1) ∧ (o.bind (tc_tk h 2) = none → o1 = none) := by
      cases hq : o.bind (tc_tk h 2) with
      | none => exact ⟨none, a3.2 hq, fun q z => (by cases z), fun _ => rfl⟩
      | some q => exact ⟨some q.2, (a3.1 q hq).2, fun q' z => (by cases z; exact ⟨rfl, (a3.1 q hq).1⟩), fun z => (by cases z)⟩
    obtain ⟨o1, m1, m2, m3⟩ := hmode
    obtain ⟨g', d1, d2, d3, d4⟩ := h69 s0 s1 a2 m1
    refine ⟨g', by rw [s3, d1]; rfl, d2, xo_bb (a := tc_tk h 2) (b := fun q => if x2.toInt < (g 3 q.1.toInt.toNat).toInt then tc_pt 9 q.2 else none) ?_ (fun f => rfl)⟩
    cases hq : o.bind (tc_tk h 2) with
    | none =>
      have := m3 hq
      exact hnn (g1 := g) s1 d3 d4 (by rw [this]; rfl)
    | some q =>
      obtain ⟨v1, v2⟩ := m2 q hq
      have hcl : tc_cl h q.1 := by
        obtain ⟨f, f1, f2⟩ := tc_bind hq
        exact htk2 f2
      rw [v2, if_pos hcl] at s2
      show xo g' (if x2.toInt < (g 3 q.1.toInt.toNat).toInt then tc_pt 9 q.2 else none)
      rw [v1] at d4
      by_cases hlt : x2.toInt < (g 3 q.1.toInt.toNat).toInt
      · rw [if_pos hlt]; exact d4 (s2.mpr hlt)
      · rw [if_neg hlt]
        rcases s1 with z | z
        · exact d3 z
        · exact absurd (s2.mp z) hlt
  | 13, _ =>
    obtain ⟨g0, b1, b2, b3⟩ := hnum 1 1 rfl (by omega)
    obtain ⟨t, g1, a1, a2, a3⟩ := hobj b2 b3
    have he : xf_Ch_apply g (Int32.ofNat 13) x2 = ((xf_Ch_takeNumbers g (1 : Int32)).bind fun t83 => ((xf_Ch_takeObject t83.2).bind fun t93 => ((xf_Pr_fieldsOf t93.2 t93.1).bind fun t96 => (if t96.1 ≤ x2 then (xf_Ch_applyToObject_107 t96.2 (0 : Int32)) else (xf_Ch_applyToObject_107 t96.2 (1 : Int32)))))).bind fun t231 => (some (0, t231.2)) := rfl
    have hsel : ∃ s0 : Int32, (s0 = 0 ∨ s0 = 1) ∧ (s0 = 1 ↔ x2.toInt < (if 0 ≤ t.toInt ∧ t.toInt < (h 0 0).toInt then g 3 t.toInt.toNat else 0).toInt) ∧ xf_Ch_apply g (Int32.ofNat 13) x2 = ((xf_Ch_need g1 s0).bind fun t75 => (some ((0 : Int32), t75.2))).bind fun t231 => (some (0, t231.2)) := by
      rw [he, b1]
      simp only [Option.bind_some]
      rw [a1]
      simp only [Option.bind_some]
      rw [hfo t a2]
      simp only [Option.bind_some]
      by_cases hle : (if 0 ≤ t.toInt ∧ t.toInt < (h 0 0).toInt then g 3 t.toInt.toNat else 0) ≤ x2
      · rw [if_pos hle]
        exact ⟨0, Or.inl rfl, ⟨fun z => absurd z (by decide), fun z => by rw [pv_le] at hle; omega⟩, rfl⟩
      · rw [if_neg hle]
        exact ⟨1, Or.inr rfl, ⟨fun _ => by rw [pv_le] at hle; omega, fun _ => rfl⟩, rfl⟩
    obtain ⟨s0, s1, s2, s3⟩ := hsel
    have hmode : ∃ o1, xo g1 o1 ∧ (∀ q, (o.bind (tc_tks h 1)).bind (tc_tk h 2) = some q → o1 = some q.2 ∧ t = q.1) ∧ ((o.bind (tc_tks h 1)).bind (tc_tk h 2) = none → o1 = none) := by
      cases hq : (o.bind (tc_tks h 1)).bind (tc_tk h 2) with
      | none => exact ⟨none, a3.2 hq, fun q z => (by cases z), fun _ => rfl⟩
      | some q => exact ⟨some q.2, (a3.1 q hq).2, fun q' z => (by cases z; exact ⟨rfl, (a3.1 q hq).1⟩), fun z => (by cases z)⟩
    obtain ⟨o1, m1, m2, m3⟩ := hmode
    obtain ⟨g', d1, d2, d3, d4⟩ := h107 s0 s1 a2 m1
    refine ⟨g', by rw [s3, d1]; rfl, d2, xo_bb (a := tc_tks h 1) (b := fun p => (tc_tk h 2 p).bind fun q => if x2.toInt < (g 3 q.1.toInt.toNat).toInt then some q.2 else none) ?_ (fun f => rfl)⟩
    refine xo_bb (a := tc_tk h 2) (b := fun q => if x2.toInt < (g 3 q.1.toInt.toNat).toInt then some q.2 else none) ?_ (fun f => rfl)
    cases hq : (o.bind (tc_tks h 1)).bind (tc_tk h 2) with
    | none =>
      have := m3 hq
      exact hnn (g1 := g) s1 d3 d4 this
    | some q =>
      obtain ⟨v1, v2⟩ := m2 q hq
      have hcl : tc_cl h q.1 := by
        obtain ⟨f, f1, f2⟩ := tc_bind hq
        exact htk2 f2
      rw [v2, if_pos hcl] at s2
      show xo g' (if x2.toInt < (g 3 q.1.toInt.toNat).toInt then some q.2 else none)
      rw [v1] at d4
      by_cases hlt : x2.toInt < (g 3 q.1.toInt.toNat).toInt
      · rw [if_pos hlt]; exact d4 (s2.mpr hlt)
      · rw [if_neg hlt]
        rcases s1 with z | z
        · exact d3 z
        · exact absurd (s2.mp z) hlt
  | 14, _ => exact c0 (Int32.ofNat 14) some (Or.inr rfl) rfl
  | 15, _ => exact c10 (Int32.ofNat 15) (Or.inr (Or.inl rfl)) rfl
  | 16, _ =>
    have ht5 := t5 (by rw [ek]; omega)
    have hin : xf_Pr_inputsOf g x2 = some (h 6 x2.toInt.toNat, g) := by
      rw [xs_inputsOf x2 hN0 r2 hQ, if_pos ⟨ht5.1, ht5.2.1⟩]
    have q := hM x2.toInt.toNat (by omega)
    obtain ⟨g1, b1, b2, b3⟩ := hnum (h 6 x2.toInt.toNat) (h 6 x2.toInt.toNat).toInt.toNat (by omega) (by omega)
    obtain ⟨g', a1, a2, a3⟩ := hput 9 b2 b3
    have he : xf_Ch_apply g (Int32.ofNat 16) x2 = ((xf_Pr_inputsOf g x2).bind fun t213 => ((xf_Ch_takeNumbers t213.2 t213.1).bind fun t216 => ((xf_Ch_put t216.2 (9 : Int32)).bind fun t222 => (some (0, t222.2))))) := rfl
    refine ⟨g', ?_, a2, xo_bb a3 (fun f => rfl)⟩
    rw [he, hin]
    simp only [Option.bind_some]
    rw [b1]
    exact a1
  | 17, _ =>
    have ht2 := t2 (by rw [ek]; omega)
    obtain ⟨g0, b1, b2, b3⟩ := hnum 1 1 rfl (by omega)
    obtain ⟨t, g1, a1, a2, a3⟩ := hobj b2 b3
    have he : xf_Ch_apply g (Int32.ofNat 17) x2 = ((xf_Ch_takeNumbers g (1 : Int32)).bind fun t115 => ((xf_Ch_takeObject t115.2).bind fun t124 => ((xf_Pr_answering t124.2 t124.1 x2).bind fun t128 => (if t128.1 = (-1 : Int32) then (xf_Ch_applyToObject_140 t128.2 (0 : Int32)) else (xf_Ch_applyToObject_140 t128.2 (1 : Int32)))))).bind fun t231 => (some (0, t231.2)) := rfl
    have hR1 := xp_R (xw_p a2) hN0 hR0 hC
    have han : xf_Pr_answering g1 t x2 = some (if tc_cl h t then pr_an g h x2.toInt.toNat 7 t.toInt.toNat else -1, g1) := by
      rw [xs_answering hN0 hC hR1.1.1 hR1.2.1]
      by_cases hc : tc_cl h t
      · rw [if_pos hc, if_pos ⟨hc, by omega, by omega⟩, xp_an (xw_p a2) hN0 hC _ _ _ (by have := hc.1; have := hc.2; omega)]
      · rw [if_neg hc, if_neg (fun z => hc z.1)]
    have hsel : ∃ s0 : Int32, (s0 = 0 ∨ s0 = 1) ∧ (s0 = 1 ↔ ¬ (if tc_cl h t then pr_an g h x2.toInt.toNat 7 t.toInt.toNat else -1) = -1) ∧ xf_Ch_apply g (Int32.ofNat 17) x2 = ((xf_Ch_need g1 s0).bind fun t69 => ((xf_Ch_put t69.2 9).bind fun t75 => (some ((0 : Int32), t75.2)))).bind fun t231 => (some (0, t231.2)) := by
      rw [he, b1]
      simp only [Option.bind_some]
      rw [a1]
      simp only [Option.bind_some]
      rw [han]
      simp only [Option.bind_some]
      by_cases hle : (if tc_cl h t then pr_an g h x2.toInt.toNat 7 t.toInt.toNat else -1) = -1
      · rw [if_pos hle]
        exact ⟨0, Or.inl rfl, ⟨fun z => absurd z (by decide), fun z => absurd hle z⟩, rfl⟩
      · rw [if_neg hle]
        exact ⟨1, Or.inr rfl, ⟨fun _ => hle, fun _ => rfl⟩, rfl⟩
    obtain ⟨s0, s1, s2, s3⟩ := hsel
    have hmode : ∃ o1, xo g1 o1 ∧ (∀ q, (o.bind (tc_tks h 1)).bind (tc_tk h 2) = some q → o1 = some q.2 ∧ t = q.1) ∧ ((o.bind (tc_tks h 1)).bind (tc_tk h 2) = none → o1 = none) := by
      cases hq : (o.bind (tc_tks h 1)).bind (tc_tk h 2) with
      | none => exact ⟨none, a3.2 hq, fun q z => (by cases z), fun _ => rfl⟩
      | some q => exact ⟨some q.2, (a3.1 q hq).2, fun q' z => (by cases z; exact ⟨rfl, (a3.1 q hq).1⟩), fun z => (by cases z)⟩
    obtain ⟨o1, m1, m2, m3⟩ := hmode
    obtain ⟨g', d1, d2, d3, d4⟩ := h69 s0 s1 a2 m1
    refine ⟨g', by rw [s3, d1]; rfl, d2, xo_bb (a := tc_tks h 1) (b := fun p => (tc_tk h 2 p).bind fun q => if pr_an g h x2.toInt.toNat 7 q.1.toInt.toNat = -1 then none else tc_pt 9 q.2) ?_ (fun f => rfl)⟩
    refine xo_bb (a := tc_tk h 2) (b := fun q => if pr_an g h x2.toInt.toNat 7 q.1.toInt.toNat = -1 then none else tc_pt 9 q.2) ?_ (fun f => rfl)
    cases hq : (o.bind (tc_tks h 1)).bind (tc_tk h 2) with
    | none =>
      have := m3 hq
      exact hnn (g1 := g) s1 d3 d4 (by rw [this]; rfl)
    | some q =>
      obtain ⟨v1, v2⟩ := m2 q hq
      have hcl : tc_cl h q.1 := by
        obtain ⟨f, f1, f2⟩ := tc_bind hq
        exact htk2 f2
      rw [v2, if_pos hcl] at s2
      show xo g' (if pr_an g h x2.toInt.toNat 7 q.1.toInt.toNat = -1 then none else tc_pt 9 q.2)
      rw [v1] at d4
      by_cases hlt : pr_an g h x2.toInt.toNat 7 q.1.toInt.toNat = -1
      · rw [if_pos hlt]
        rcases s1 with z | z
        · exact d3 z
        · exact absurd hlt (s2.mp z)
      · rw [if_neg hlt]; exact d4 (s2.mpr hlt)
  | 18, _ =>
    obtain ⟨t, g1, a1, a2, a3⟩ := hobj (xw_rf g) ho
    obtain ⟨g', d1, d2, d3⟩ := hput x2 a2 (xq_o a3)
    have he : xf_Ch_apply g (Int32.ofNat 18) x2 = (((xf_Ch_takeObject g).bind fun t153 => ((xf_Ch_put t153.2 x2).bind fun t159 => (some ((0 : Int32), t159.2))))).bind fun t231 => (some (0, t231.2)) := rfl
    refine ⟨g', ?_, d2, xo_bb (a := tc_tk h 2) (b := fun q => tc_pt x2 q.2) ?_ (fun f => rfl)⟩
    · rw [he, a1]
      simp only [Option.bind_some]
      rw [d1]
      rfl
    · cases hq : o.bind (tc_tk h 2) with
      | none => rw [hq] at d3; exact d3
      | some q => rw [hq] at d3; exact d3
  | 19, _ =>
    obtain ⟨t, g1, a1, a2, a3⟩ := hobj (xw_rf g) ho
    obtain ⟨g', d1, d2, d3⟩ := hput 9 a2 (xq_o a3)
    have he : xf_Ch_apply g (Int32.ofNat 19) x2 = (((xf_Ch_takeObject g).bind fun t153 => ((xf_Ch_put t153.2 9).bind fun t159 => (some ((0 : Int32), t159.2))))).bind fun t231 => (some (0, t231.2)) := rfl
    refine ⟨g', ?_, d2, xo_bb (a := tc_tk h 2) (b := fun q => tc_pt 9 q.2) ?_ (fun f => rfl)⟩
    · rw [he, a1]
      simp only [Option.bind_some]
      rw [d1]
      rfl
    · cases hq : o.bind (tc_tk h 2) with
      | none => rw [hq] at d3; exact d3
      | some q => rw [hq] at d3; exact d3
  | 20, _ => exact c10 (Int32.ofNat 20) (Or.inr (Or.inr (by decide))) rfl
  | 21, _ => exact c10 (Int32.ofNat 21) (Or.inr (Or.inr (by decide))) rfl
  | 22, _ => exact c10 (Int32.ofNat 22) (Or.inr (Or.inr (by decide))) rfl
  | k + 23, hk => exact absurd hk (by omega)
