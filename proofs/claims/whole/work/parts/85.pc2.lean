/-! The reference: the effect of an instruction -/
theorem ms_wd {g h : qa_St} (hN : pr_N h) (hC : pr_C h) (hT : pr_T g h) (x : Int32) (hx : tc_cl h x) : mf_Mo_width h x = some (g 3 x.toInt.toNat, h) := by
  have hN0 := hN
  obtain ⟨n0, n1, n2, n3⟩ := hN
  have hx1 := hx.1
  have hx2 := hx.2
  have ex : x = Int32.ofNat x.toInt.toNat := pv_nIe hx.1
  have hr := ms_width hN0 hC hT x.toInt.toNat (by omega) 4095 0 (by omega)
  unfold mf_Mo_width
  have e : mf_Mo_width_4 4096 h 0 x = mf_Mo_width_4 4096 h 0 (Int32.ofNat x.toInt.toNat) := congrArg (mf_Mo_width_4 4096 h 0) ex
  refine e.trans (hr.trans ?_)
  rw [Int32.zero_add]
theorem ms_203 (h : qa_St) (x1 x2 : Int32) (hx : ¬ x1 = 16) : mf_Mo_effect_203 h x1 x2 = mf_Mo_effect_236 h x1 x2 := by
  unfold mf_Mo_effect_203
  exact Eq.trans (mf_Mo_effect_206.eq_2 h x1 x2 0 4095) (if_neg hx)
theorem ms_149b {h : qa_St} (x1 x2 t : Int32) (hb : h 0 21 = 1) : mf_Mo_effect_149 h x1 x2 t = some (0, h) := by
  unfold mf_Mo_effect_149
  rw [if_neg (by rw [hb]; decide)]
theorem ms_149 {h : qa_St} (x1 x2 t : Int32) (hb : h 0 21 = 0) (h12 : ¬ x1 = 12) (h13 : ¬ x1 = 13) (h16 : ¬ x1 = 16) (h17 : ¬ x1 = 17) : mf_Mo_effect_149 h x1 x2 t = mf_Mo_effect_236 h x1 x2 := by
  unfold mf_Mo_effect_149 mf_Mo_effect_183
  rw [if_pos hb, if_neg h12, if_neg h13, if_neg h17]
  exact ms_203 h x1 x2 h16
theorem mz_bind2 {h' : qa_St} {o : Option tc_F} {k k' : tc_F → Option tc_F} (hz : mz h' (o.bind k)) (hk : ∀ f, k f = k' f) : mz h' (o.bind k') := by
  have : k = k' := funext hk
  rw [← this]; exact hz
/-- giving, at the end -/
theorem ms_318 {h : qa_St} {f : tc_F} (ho : mo h (some f)) : ∃ h', mf_Mo_effect_318 h = some (0, h') ∧ mw h h' ∧ mz h' (tc_pt 9 f) := by
  obtain ⟨h', a1, a2, a3⟩ := ms_give ho 9
  unfold mf_Mo_effect_318
  rw [a1]
  exact ⟨h', rfl, a2, a3⟩
theorem ms_206 {h0 : qa_St} (hN : pr_N h0) (x2 : Int32) (hx : 0 ≤ x2.toInt ∧ x2.toInt < 10) (hw : 0 ≤ (h0 6 x2.toInt.toNat).toInt ∧ (h0 6 x2.toInt.toNat).toInt ≤ 2) : ∀ (d k n : Nat) (h : qa_St) (o : Option tc_F), pm h0 h → mo h o → (∀ f, o = some f → tc_ok h0 f) → (k : Int) + d = (h0 6 x2.toInt.toNat).toInt → d < n → ∃ h', mf_Mo_effect_206 n h 16 x2 (Int32.ofNat k) = mf_Mo_effect_236 h' 16 x2 ∧ mw h h' ∧ mo h' (o.bind (tc_tks h0 d)) := by
  intro d
  have e0 : (0 : Int32).toInt = 0 := rfl
  induction d with
  | zero =>
    intro k n h o hp ho hv hk hn
    obtain ⟨n, rfl⟩ : ∃ z, n = z + 1 := ⟨n - 1, by omega⟩
    have ek : (Int32.ofNat k).toInt = (k : Int) := pv_nI (by omega)
    refine ⟨h, ?_, mw_rf h, ?_⟩
    · rw [mf_Mo_effect_206, if_pos rfl, if_neg (by rw [pv_lt, pv_cl, e0]; omega), pv_cl, hp.1 6 _ (by omega) (by omega), if_pos (by rw [pv_le, ek]; omega)]
    · cases o with
      | none => exact ho
      | some f => exact ho
  | succ d ih =>
    intro k n h o hp ho hv hk hn
    obtain ⟨n, rfl⟩ : ∃ z, n = z + 1 := ⟨n - 1, by omega⟩
    have ek : (Int32.ofNat k).toInt = (k : Int) := pv_nI (by omega)
    obtain ⟨t, h1, a1, a2, a3⟩ := ms_take hN hp ho hv 9
    rw [mf_Mo_effect_206, if_pos rfl, if_neg (by rw [pv_lt, pv_cl, e0]; omega), pv_cl, hp.1 6 _ (by omega) (by omega), if_neg (by rw [pv_le, ek]; omega), a1]
    simp only [Option.bind_some]
    rw [pv_n1]
    have hm9 : mk 9 = 1 := rfl
    rw [hm9] at a3
    obtain ⟨o1, m1, m2, m3⟩ : ∃ o1, mo h1 o1 ∧ (∀ f, o1 = some f → tc_ok h0 f) ∧ o1.bind (tc_tks h0 d) = o.bind (tc_tks h0 (d + 1)) := by
      cases o with
      | none => exact ⟨none, a3.2 rfl, fun f hf => (by cases hf), rfl⟩
      | some f =>
        cases hq : tc_tk h0 1 f with
        | none => exact ⟨none, a3.2 hq, fun f hf => (by cases hf), by
            show none = (tc_tk h0 1 f).bind fun q => tc_tks h0 d q.2
            rw [hq]; rfl⟩
        | some q => exact ⟨some q.2, (a3.1 q hq).2, fun f' hf => (by cases hf; exact (tc_tk_ok (hv f rfl) hq).2.1), by
            show tc_tks h0 d q.2 = (tc_tk h0 1 f).bind fun q => tc_tks h0 d q.2
            rw [hq]; rfl⟩
    obtain ⟨h', b1, b2, b3⟩ := ih (k + 1) n h1 o1 (pm_tr hp (mw_pm a2)) m1 m2 (by omega) (by omega)
    exact ⟨h', b1, mw_tr a2 b2, by rw [← m3]; exact b3⟩
/-- with what a class answers: none, or a method -/
theorem pr_an_ge {g h : qa_St} (hN : pr_N h) (hC : pr_C h) (hO : pr_O g h) (s : Nat) (hs : s < 4) : ∀ (n c : Nat), (c : Int) < (h 0 0).toInt → pr_an g h s n c = -1 ∨ (0 ≤ (pr_an g h s n c).toInt ∧ (pr_an g h s n c).toInt < (h 0 4).toInt ∧ (h 5 (pr_an g h s n c).toInt.toNat).toInt = (s : Int)) := by
  intro n
  induction n with
  | zero => intro c _; exact Or.inl rfl
  | succ n ih =>
    intro c hc
    have q := hC c hc
    rw [pr_an]
    by_cases ho : g (6 + c) s = -1
    · rw [if_pos ho]
      by_cases hp : (h 1 c).toInt < 0
      · rw [if_pos hp]; exact Or.inl rfl
      · rw [if_neg hp]; exact ih _ (by omega)
    · rw [if_neg ho]
      right
      rcases hO c s hc hs with ⟨o1, -⟩ | ⟨m, o1, o2, o3, o4⟩
      · exact absurd (by rw [pv_eq, o1]; rfl) ho
      · rw [o2]
        exact ⟨by omega, by omega, by rw [Int.toNat_natCast]; exact o4⟩
theorem ms_effect {g h0 h : qa_St} (hP : pr_P h0) (hR : pr_R g h0) (hp : pm h0 h) {f : tc_F} (ho : mo h (some f)) (hv : tc_ok h0 f) (x1 x2 : Int32) (hx : 0 ≤ x1.toInt ∧ x1.toInt ≤ 22) (hft : pr_fit h0 x1.toInt x2.toInt) : ∃ h', mf_Mo_effect h x1 x2 = some (0, h') ∧ mw h h' ∧ mz h' (tc_ef g h0 x1.toInt x2 f) := by
  have hP0 := hP
  obtain ⟨hN, hC, hM, hU, hK, hG⟩ := hP
  have hN0 := hN
  obtain ⟨n0, n1, n2, n3⟩ := hN
  obtain ⟨t1, t2, t3, t4, t5⟩ := hft
  have e0 : (0 : Int32).toInt = 0 := rfl
  have hb := (ho.1 f rfl).1
  have hfv : ∀ f', some f = some f' → tc_ok h0 f' := fun f' hf => by cases hf; exact hv
  -- one take and then the rest
  have htk : ∀ (w : Int32) {h1 : qa_St} {f1 : tc_F}, mw h h1 → mo h1 (some f1) → tc_ok h0 f1 → ∃ t h2, mf_Mo_take h1 w = some (t, h2) ∧ mw h h2 ∧ mq h2 t (tc_tk h0 (mk w) f1) := fun w {h1 f1} hw1 h1o h1v => by
    obtain ⟨t, h2, a1, a2, a3⟩ := ms_take hN0 (pm_tr hp (mw_pm hw1)) h1o (fun f' hf => by cases hf; exact h1v) w
    exact ⟨t, h2, a1, mw_tr hw1 a2, a3⟩
  have hgv : ∀ (w : Int32) {h1 : qa_St} {f1 : tc_F}, mw h h1 → mo h1 (some f1) → ∃ h2, ((mf_Mo_give h1 w).bind fun t270 => (some ((0 : Int32), t270.2))) = some (0, h2) ∧ mw h h2 ∧ mz h2 (tc_pt w f1) := fun w {h1 f1} hw1 h1o => by
    obtain ⟨h2, a1, a2, a3⟩ := ms_give h1o w
    rw [a1]
    exact ⟨h2, rfl, mw_tr hw1 a2, a3⟩
  have h318 : ∀ {h1 : qa_St} {f1 : tc_F}, mw h h1 → mo h1 (some f1) → ∃ h2, mf_Mo_effect_318 h1 = some (0, h2) ∧ mw h h2 ∧ mz h2 (tc_pt 9 f1) := fun {h1 f1} hw1 h1o => by
    obtain ⟨h2, a1, a2, a3⟩ := ms_318 h1o
    exact ⟨h2, a1, mw_tr hw1 a2, a3⟩
  have hnone : ∀ {h1 : qa_St} (x t : Int32), mw h h1 → h1 0 21 = 1 → ∃ h2, mf_Mo_effect_149 h1 x x2 t = some (0, h2) ∧ mw h h2 ∧ mz h2 none := fun {h1} x t hw1 hb1 => ⟨h1, ms_149b x x2 t hb1, hw1, fun r hr => (by cases hr), fun _ => hb1⟩
  have c0 : ∀ (y : Int32), (y.toInt = 0 ∨ y.toInt = 14) → mf_Mo_effect h y x2 = mf_Mo_effect_149 h y x2 8 → mf_Mo_effect_236 h y x2 = mf_Mo_effect_318 h → ¬ y = 12 → ¬ y = 13 → ¬ y = 16 → ¬ y = 17 → ∃ h', mf_Mo_effect h y x2 = some (0, h') ∧ mw h h' ∧ mz h' (tc_ef g h0 y.toInt x2 f) := fun y hy he he2 y1 y2 y3 y4 => by
    obtain ⟨h', a1, a2, a3⟩ := h318 (mw_rf h) ho
    refine ⟨h', ?_, a2, ?_⟩
    · rw [he, ms_149 y x2 8 hb y1 y2 y3 y4, he2]; exact a1
    · unfold tc_ef; rw [if_pos hy]; exact a3
  have c1 : ∀ (y : Int32), (y.toInt = 1 ∨ y.toInt = 11) → mf_Mo_effect h y x2 = mf_Mo_effect_149 h y x2 8 → mf_Mo_effect_236 h y x2 = ((mf_Mo_give h x2).bind fun t270 => (some ((0 : Int32), t270.2))) → ¬ y = 12 → ¬ y = 13 → ¬ y = 16 → ¬ y = 17 → ∃ h', mf_Mo_effect h y x2 = some (0, h') ∧ mw h h' ∧ mz h' (tc_ef g h0 y.toInt x2 f) := fun y hy he he2 y1 y2 y3 y4 => by
    obtain ⟨h', a1, a2, a3⟩ := hgv x2 (mw_rf h) ho
    refine ⟨h', ?_, a2, ?_⟩
    · rw [he, ms_149 y x2 8 hb y1 y2 y3 y4, he2]; exact a1
    · unfold tc_ef; rw [if_neg (by omega), if_pos hy]; exact a3
  have c5 : ∀ (y : Int32), (5 ≤ y.toInt ∧ y.toInt ≤ 8) → mf_Mo_effect h y x2 = ((mf_Mo_take h 9).bind fun t79 => ((mf_Mo_take t79.2 9).bind fun t115 => mf_Mo_effect_149 t115.2 y x2 t115.1)) → (∀ h1, mf_Mo_effect_236 h1 y x2 = mf_Mo_effect_318 h1) → ¬ y = 12 → ¬ y = 13 → ¬ y = 16 → ¬ y = 17 → ∃ h', mf_Mo_effect h y x2 = some (0, h') ∧ mw h h' ∧ mz h' (tc_ef g h0 y.toInt x2 f) := fun y hy he he2 y1 y2 y3 y4 => by
    have hef : tc_ef g h0 y.toInt x2 f = (tc_tk h0 1 f).bind fun q => (tc_tk h0 1 q.2).bind fun q' => tc_pt 9 q'.2 := by
      unfold tc_ef
      rw [if_neg (by omega), if_neg (by omega), if_neg (by omega), if_neg (by omega), if_neg (by omega), if_pos hy]
      show ((tc_tk h0 1 f).bind fun q => (tc_tk h0 1 q.2).bind fun q' => some q'.2).bind _ = _
      cases tc_tk h0 1 f with
      | none => rfl
      | some q =>
        show ((tc_tk h0 1 q.2).bind fun q' => some q'.2).bind _ = (tc_tk h0 1 q.2).bind _
        cases tc_tk h0 1 q.2 with
        | none => rfl
        | some q' => rfl
    rw [he, hef]
    obtain ⟨ta, h1, a1, a2, a3⟩ := htk 9 (mw_rf h) ho hv
    rw [a1]
    simp only [Option.bind_some]
    have hm9 : mk 9 = 1 := rfl
    rw [hm9] at a3
    cases hq : tc_tk h0 1 f with
    | none =>
      have hn1 := a3.2 hq
      obtain ⟨tb, h2, b1, b2, b3⟩ := ms_take hN0 (pm_tr hp (mw_pm a2)) hn1 (fun f' hf => (by cases hf)) 9
      rw [b1]
      exact hnone y tb (mw_tr a2 b2) ((b3.2 rfl).2 rfl).1
    | some q =>
      obtain ⟨w1, w2⟩ := a3.1 q hq
      obtain ⟨tb, h2, b1, b2, b3⟩ := htk 9 a2 w2 (tc_tk_ok hv hq).2.1
      rw [b1]
      simp only [Option.bind_some]
      rw [hm9] at b3
      cases hq' : tc_tk h0 1 q.2 with
      | none => exact hnone y tb b2 ((b3.2 hq').2 rfl).1
      | some q' =>
        obtain ⟨v1, v2⟩ := b3.1 q' hq'
        rw [ms_149 y x2 tb (v2.1 _ rfl).1 y1 y2 y3 y4, he2]
        exact h318 b2 v2
  have c10 : ∀ (y : Int32), (y.toInt = 10 ∨ y.toInt = 15 ∨ 20 ≤ y.toInt) → mf_Mo_effect h y x2 = ((mf_Mo_take h 9).bind fun t115 => mf_Mo_effect_149 t115.2 y x2 t115.1) → (∀ h1, mf_Mo_effect_236 h1 y x2 = some (0, h1)) → ¬ y = 12 → ¬ y = 13 → ¬ y = 16 → ¬ y = 17 → ∃ h', mf_Mo_effect h y x2 = some (0, h') ∧ mw h h' ∧ mz h' (tc_ef g h0 y.toInt x2 f) := fun y hy he he2 y1 y2 y3 y4 => by
    have hef : tc_ef g h0 y.toInt x2 f = (tc_tk h0 1 f).bind fun q => some q.2 := by
      unfold tc_ef
      rw [if_neg (by omega), if_neg (by omega), if_neg (by omega), if_neg (by omega), if_neg (by omega), if_neg (by omega), if_neg (by omega), if_pos hy]
      rfl
    rw [he, hef]
    obtain ⟨ta, h1, a1, a2, a3⟩ := htk 9 (mw_rf h) ho hv
    rw [a1]
    simp only [Option.bind_some]
    have hm9 : mk 9 = 1 := rfl
    rw [hm9] at a3
    cases hq : tc_tk h0 1 f with
    | none => exact hnone y ta a2 ((a3.2 hq).2 rfl).1
    | some q =>
      obtain ⟨w1, w2⟩ := a3.1 q hq
      rw [ms_149 y x2 ta (w2.1 _ rfl).1 y1 y2 y3 y4, he2]
      exact ⟨h1, rfl, a2, mo_z w2⟩
  obtain ⟨k, hk, hxk⟩ : ∃ k : Nat, k < 23 ∧ x1 = Int32.ofNat k := ⟨x1.toInt.toNat, by omega, pv_nIe hx.1⟩
  subst hxk
  have ek : (Int32.ofNat k).toInt = (k : Int) := pv_nI (by omega)
  match k, hk with
  | 0, _ => exact c0 (Int32.ofNat 0) (Or.inl rfl) rfl rfl (by decide) (by decide) (by decide) (by decide)
  | 1, _ => exact c1 (Int32.ofNat 1) (Or.inl rfl) rfl rfl (by decide) (by decide) (by decide) (by decide)
  | 2, _ =>
    have ht2 := t2 (by rw [ek]; omega)
    have he : mf_Mo_effect h (Int32.ofNat 2) x2 = (if x2 < 0 ∨ 10 ≤ x2.toNatClampNeg then none else (if (h 17 x2.toNatClampNeg) = (8 : Int32) then (mf_Mo_effect_149 (qa_up h 0 21 (1 : Int32)) (Int32.ofNat 2) x2 (8 : Int32)) else (mf_Mo_effect_149 h (Int32.ofNat 2) x2 (8 : Int32)))) := rfl
    have hef : tc_ef g h0 (Int32.ofNat 2).toInt x2 f = (if f.2 x2.toInt.toNat = 8 then none else tc_pt (f.2 x2.toInt.toNat) f) := rfl
    have h17 : h 17 x2.toInt.toNat = f.2 x2.toInt.toNat := (ho.1 f rfl).2.2.2 _ (by omega)
    have hbx : ¬ (x2 < 0 ∨ 10 ≤ x2.toNatClampNeg) := by rw [pv_lt, pv_cl, e0]; omega
    rw [he, hef, if_neg hbx, pv_cl, h17]
    by_cases h8 : f.2 x2.toInt.toNat = 8
    · rw [if_pos h8, if_pos h8]
      exact hnone _ 8 (mw_21 _ _) pv_self
    · have he2 : mf_Mo_effect_236 h (Int32.ofNat 2) x2 = (if x2 < 0 ∨ 10 ≤ x2.toNatClampNeg then none else ((mf_Mo_give h (h 17 x2.toNatClampNeg)).bind fun t270 => (some ((0 : Int32), t270.2)))) := rfl
      rw [if_neg h8, if_neg h8, ms_149 _ x2 8 hb (by decide) (by decide) (by decide) (by decide), he2, if_neg hbx, pv_cl, h17]
      exact hgv _ (mw_rf h) ho
  | 3, _ =>
    have ht2 := t2 (by rw [ek]; omega)
    have hbx : ¬ (x2 < 0 ∨ 10 ≤ x2.toNatClampNeg) := by rw [pv_lt, pv_cl, e0]; omega
    have he : mf_Mo_effect h (Int32.ofNat 3) x2 = ((mf_Mo_take h 8).bind fun t37 => (if x2 < 0 ∨ 10 ≤ x2.toNatClampNeg then none else (mf_Mo_effect_149 (qa_up t37.2 17 x2.toNatClampNeg t37.1) (Int32.ofNat 3) x2 t37.1))) := rfl
    have hef : tc_ef g h0 (Int32.ofNat 3).toInt x2 f = (tc_tk h0 0 f).bind fun q => some (q.2.1, tc_up q.2.2 x2.toInt.toNat q.1) := rfl
    obtain ⟨ta, h1, a1, a2, a3⟩ := htk 8 (mw_rf h) ho hv
    rw [he, hef, a1]
    simp only [Option.bind_some]
    have hm8 : mk 8 = 0 := rfl
    rw [hm8] at a3
    rw [if_neg hbx, pv_cl]
    have hw2 : mw h (qa_up h1 17 x2.toInt.toNat ta) := mw_tr a2 (mw_17 _ _ _)
    cases hq : tc_tk h0 0 f with
    | none => exact hnone _ ta hw2 (by rw [pv_nr (by decide)]; exact ((a3.2 hq).2 rfl).1)
    | some q =>
      obtain ⟨w1, w2⟩ := a3.1 q hq
      obtain ⟨b1, b2, b3, b4⟩ := w2.1 _ rfl
      have hb2 : (qa_up h1 17 x2.toInt.toNat ta) 0 21 = 0 := by rw [pv_nr (by decide)]; exact b1
      rw [ms_149 _ x2 ta hb2 (by decide) (by decide) (by decide) (by decide)]
      refine ⟨_, rfl, hw2, mo_z (mo_some hb2 b2 (by rw [pv_nr (by decide)]; exact b3) (fun p hpp => ?_))⟩
      show _ = tc_up q.2.2 x2.toInt.toNat q.1 p
      by_cases hq : p = x2.toInt.toNat
      · rw [hq, tc_up_s, ← w1]; exact pv_self
      · rw [tc_up_n hq, pv_ni hq]; exact b4 p hpp
  | 4, _ =>
    have he : mf_Mo_effect h (Int32.ofNat 4) x2 = ((mf_Mo_take h 8).bind fun t37 => mf_Mo_effect_149 t37.2 (Int32.ofNat 4) x2 t37.1) := rfl
    have hef : tc_ef g h0 (Int32.ofNat 4).toInt x2 f = (tc_tk h0 0 f).bind fun q => some q.2 := rfl
    obtain ⟨ta, h1, a1, a2, a3⟩ := htk 8 (mw_rf h) ho hv
    rw [he, hef, a1]
    simp only [Option.bind_some]
    have hm8 : mk 8 = 0 := rfl
    rw [hm8] at a3
    cases hq : tc_tk h0 0 f with
    | none => exact hnone _ ta a2 ((a3.2 hq).2 rfl).1
    | some q =>
      obtain ⟨w1, w2⟩ := a3.1 q hq
      rw [ms_149 _ x2 ta (w2.1 _ rfl).1 (by decide) (by decide) (by decide) (by decide)]
      exact ⟨h1, rfl, a2, mo_z w2⟩
  | 5, _ => exact c5 (Int32.ofNat 5) ⟨by decide, by decide⟩ rfl (fun _ => rfl) (by decide) (by decide) (by decide) (by decide)
  | 6, _ => exact c5 (Int32.ofNat 6) ⟨by decide, by decide⟩ rfl (fun _ => rfl) (by decide) (by decide) (by decide) (by decide)
  | 7, _ => exact c5 (Int32.ofNat 7) ⟨by decide, by decide⟩ rfl (fun _ => rfl) (by decide) (by decide) (by decide) (by decide)
  | 8, _ => exact c5 (Int32.ofNat 8) ⟨by decide, by decide⟩ rfl (fun _ => rfl) (by decide) (by decide) (by decide) (by decide)
  | 9, _ =>
    have he : mf_Mo_effect h (Int32.ofNat 9) x2 = mf_Mo_effect_149 h (Int32.ofNat 9) x2 8 := rfl
    rw [he, ms_149 _ x2 8 hb (by decide) (by decide) (by decide) (by decide)]
    exact ⟨h, rfl, mw_rf h, mo_z ho⟩
  | 10, _ => exact c10 (Int32.ofNat 10) (Or.inl rfl) rfl (fun _ => rfl) (by decide) (by decide) (by decide) (by decide)
  | 11, _ => exact c1 (Int32.ofNat 11) (Or.inr rfl) rfl rfl (by decide) (by decide) (by decide) (by decide)
  | 12, _ =>
    have he : mf_Mo_effect h (Int32.ofNat 12) x2 = ((mf_Mo_take h 0).bind fun t37 => mf_Mo_effect_149 t37.2 (Int32.ofNat 12) x2 t37.1) := rfl
    have hef : tc_ef g h0 (Int32.ofNat 12).toInt x2 f = (tc_tk h0 2 f).bind fun q => if x2.toInt < (g 3 q.1.toInt.toNat).toInt then tc_pt 9 q.2 else none := rfl
    obtain ⟨ta, h1, a1, a2, a3⟩ := htk 0 (mw_rf h) ho hv
    rw [he, hef, a1]
    simp only [Option.bind_some]
    have hm0 : mk 0 = 2 := rfl
    rw [hm0] at a3
    cases hq : tc_tk h0 2 f with
    | none => exact hnone _ ta a2 ((a3.2 hq).2 rfl).1
    | some q =>
      obtain ⟨w1, w2⟩ := a3.1 q hq
      have hcl := tc_tk2_cl hq
      have hpm := pm_tr hp (mw_pm a2)
      have hPm := pm_P hpm hP0
      have hwd := ms_wd hPm.1 hPm.2.1 (pm_R hpm hR).2.1 ta (by rw [w1]; unfold tc_cl; rw [hpm.2.1]; exact hcl)
      rw [w1] at hwd ⊢
      simp only [Option.bind_some]
      have h149 : mf_Mo_effect_149 h1 (Int32.ofNat 12) x2 q.1 = (if x2 < g 3 q.1.toInt.toNat then mf_Mo_effect_203 h1 (Int32.ofNat 12) x2 else mf_Mo_effect_203 (qa_up h1 0 21 1) (Int32.ofNat 12) x2) := by
        unfold mf_Mo_effect_149 mf_Mo_effect_169
        rw [if_pos (w2.1 _ rfl).1, if_pos (by decide), hwd]
        rfl
      rw [h149]
      by_cases hlt : x2.toInt < (g 3 q.1.toInt.toNat).toInt
      · rw [if_pos hlt, if_pos (by rw [pv_lt]; exact hlt), ms_203 _ _ _ (by decide)]
        exact h318 a2 w2
      · rw [if_neg hlt, if_neg (by rw [pv_lt]; exact hlt), ms_203 _ _ _ (by decide)]
        have hb2 : mo (qa_up h1 0 21 1) none := mo_none pv_self (by rw [pv_ni (by decide)]; exact ⟨q.2.1, (w2.1 _ rfl).2.1, (w2.1 _ rfl).2.2.1⟩)
        obtain ⟨h2, d1, d2, d3⟩ := ms_give hb2 9
        have h236 : mf_Mo_effect_236 (qa_up h1 0 21 1) (Int32.ofNat 12) x2 = ((mf_Mo_give (qa_up h1 0 21 1) 9).bind fun t321 => (some ((0 : Int32), t321.2))) := rfl
        rw [h236, d1]
        exact ⟨h2, rfl, mw_tr (mw_tr a2 (mw_21 _ _)) d2, fun r hr => (by cases hr), fun _ => d3.2 rfl⟩
  | 13, _ =>
    have he : mf_Mo_effect h (Int32.ofNat 13) x2 = ((mf_Mo_take h 9).bind fun t37 => ((mf_Mo_take t37.2 0).bind fun t38 => mf_Mo_effect_149 t38.2 (Int32.ofNat 13) x2 t38.1)) := rfl
    have hef : tc_ef g h0 (Int32.ofNat 13).toInt x2 f = (tc_tk h0 1 f).bind fun p => (tc_tk h0 2 p.2).bind fun q => if x2.toInt < (g 3 q.1.toInt.toNat).toInt then some q.2 else none := by
      show ((tc_tk h0 1 f).bind fun p => some p.2).bind _ = _
      cases tc_tk h0 1 f with
      | none => rfl
      | some p => rfl
    obtain ⟨ta, h1, a1, a2, a3⟩ := htk 9 (mw_rf h) ho hv
    rw [he, hef, a1]
    simp only [Option.bind_some]
    have hm9 : mk 9 = 1 := rfl
    have hm0 : mk 0 = 2 := rfl
    rw [hm9] at a3
    cases hq : tc_tk h0 1 f with
    | none =>
      have hn1 := a3.2 hq
      obtain ⟨tb, h2, b1, b2, b3⟩ := ms_take hN0 (pm_tr hp (mw_pm a2)) hn1 (fun f' hf => (by cases hf)) 0
      rw [b1]
      exact hnone _ tb (mw_tr a2 b2) ((b3.2 rfl).2 rfl).1
    | some p =>
      obtain ⟨w1, w2⟩ := a3.1 p hq
      obtain ⟨tb, h2, b1, b2, b3⟩ := htk 0 a2 w2 (tc_tk_ok hv hq).2.1
      rw [b1]
      simp only [Option.bind_some]
      rw [hm0] at b3
      cases hq' : tc_tk h0 2 p.2 with
      | none => exact hnone _ tb b2 ((b3.2 hq').2 rfl).1
      | some q =>
        obtain ⟨v1, v2⟩ := b3.1 q hq'
        have hcl := tc_tk2_cl hq'
        have hpm := pm_tr hp (mw_pm b2)
        have hPm := pm_P hpm hP0
        have hwd := ms_wd hPm.1 hPm.2.1 (pm_R hpm hR).2.1 tb (by rw [v1]; unfold tc_cl; rw [hpm.2.1]; exact hcl)
        rw [v1] at hwd ⊢
        simp only [Option.bind_some]
        have h149 : mf_Mo_effect_149 h2 (Int32.ofNat 13) x2 q.1 = (if x2 < g 3 q.1.toInt.toNat then mf_Mo_effect_203 h2 (Int32.ofNat 13) x2 else mf_Mo_effect_203 (qa_up h2 0 21 1) (Int32.ofNat 13) x2) := by
          unfold mf_Mo_effect_149 mf_Mo_effect_169
          rw [if_pos (v2.1 _ rfl).1, if_neg (by decide), if_pos (by decide), hwd]
          rfl
        rw [h149]
        by_cases hlt : x2.toInt < (g 3 q.1.toInt.toNat).toInt
        · rw [if_pos hlt, if_pos (by rw [pv_lt]; exact hlt), ms_203 _ _ _ (by decide)]
          exact ⟨h2, rfl, b2, mo_z v2⟩
        · rw [if_neg hlt, if_neg (by rw [pv_lt]; exact hlt), ms_203 _ _ _ (by decide)]
          exact ⟨_, rfl, mw_tr b2 (mw_21 _ _), fun r hr => (by cases hr), fun _ => pv_self⟩
  | 14, _ => exact c0 (Int32.ofNat 14) (Or.inr rfl) rfl rfl (by decide) (by decide) (by decide) (by decide)
  | 15, _ => exact c10 (Int32.ofNat 15) (Or.inr (Or.inl rfl)) rfl (fun _ => rfl) (by decide) (by decide) (by decide) (by decide)
  | 16, _ =>
    have ht5 := t5 (by rw [ek]; omega)
    have q := hM x2.toInt.toNat (by omega)
    have he : mf_Mo_effect h (Int32.ofNat 16) x2 = mf_Mo_effect_149 h (Int32.ofNat 16) x2 8 := rfl
    have h149 : mf_Mo_effect_149 h (Int32.ofNat 16) x2 8 = mf_Mo_effect_206 4096 h 16 x2 (Int32.ofNat 0) := by
      unfold mf_Mo_effect_149 mf_Mo_effect_183 mf_Mo_effect_203
      rw [if_pos hb, if_neg (by decide), if_neg (by decide), if_neg (by decide)]
      rfl
    have hef : tc_ef g h0 (Int32.ofNat 16).toInt x2 f = (tc_tks h0 (h0 6 x2.toInt.toNat).toInt.toNat f).bind fun q => tc_pt 9 q := rfl
    obtain ⟨h1, a1, a2, a3⟩ := ms_206 hN0 x2 (by omega) (by omega) (h0 6 x2.toInt.toNat).toInt.toNat 0 4096 h (some f) hp ho hfv (by omega) (by omega)
    have h236 : mf_Mo_effect_236 h1 16 x2 = ((mf_Mo_give h1 9).bind fun t321 => (some ((0 : Int32), t321.2))) := rfl
    have a3 : mo h1 (tc_tks h0 (h0 6 x2.toInt.toNat).toInt.toNat f) := a3
    obtain ⟨h2, d1, d2, d3⟩ := ms_give a3 9
    refine ⟨h2, ?_, mw_tr a2 d2, ?_⟩
    · rw [he, h149, a1, h236, d1]; rfl
    · rw [hef]; exact d3
  | 17, _ =>
    have ht2 := t2 (by rw [ek]; omega)
    have he : mf_Mo_effect h (Int32.ofNat 17) x2 = ((mf_Mo_take h 9).bind fun t37 => ((mf_Mo_take t37.2 0).bind fun t38 => mf_Mo_effect_149 t38.2 (Int32.ofNat 17) x2 t38.1)) := rfl
    have hef : tc_ef g h0 (Int32.ofNat 17).toInt x2 f = (tc_tk h0 1 f).bind fun p => (tc_tk h0 2 p.2).bind fun q => if pr_an g h0 x2.toInt.toNat 7 q.1.toInt.toNat = -1 then none else tc_pt 9 q.2 := by
      show ((tc_tk h0 1 f).bind fun p => some p.2).bind _ = _
      cases tc_tk h0 1 f with
      | none => rfl
      | some p => rfl
    obtain ⟨ta, h1, a1, a2, a3⟩ := htk 9 (mw_rf h) ho hv
    rw [he, hef, a1]
    simp only [Option.bind_some]
    have hm9 : mk 9 = 1 := rfl
    have hm0 : mk 0 = 2 := rfl
    rw [hm9] at a3
    cases hq : tc_tk h0 1 f with
    | none =>
      have hn1 := a3.2 hq
      obtain ⟨tb, h2, b1, b2, b3⟩ := ms_take hN0 (pm_tr hp (mw_pm a2)) hn1 (fun f' hf => (by cases hf)) 0
      rw [b1]
      exact hnone _ tb (mw_tr a2 b2) ((b3.2 rfl).2 rfl).1
    | some p =>
      obtain ⟨w1, w2⟩ := a3.1 p hq
      obtain ⟨tb, h2, b1, b2, b3⟩ := htk 0 a2 w2 (tc_tk_ok hv hq).2.1
      rw [b1]
      simp only [Option.bind_some]
      rw [hm0] at b3
      cases hq' : tc_tk h0 2 p.2 with
      | none => exact hnone _ tb b2 ((b3.2 hq').2 rfl).1
      | some q =>
        obtain ⟨v1, v2⟩ := b3.1 q hq'
        have hcl := tc_tk2_cl hq'
        have hpm := pm_tr hp (mw_pm b2)
        have hPm := pm_P hpm hP0
        have hRm := pm_R hpm hR
        have han := ms_answer hPm.1 hPm.2.1 hPm.2.2.2.1 hRm.2.2.1 tb x2
        rw [hpm.2.1, v1, if_pos ⟨hcl, by omega, by omega⟩, pm_an hpm] at han
        rw [v1]
        simp only [Option.bind_some]
        have h149 : mf_Mo_effect_149 h2 (Int32.ofNat 17) x2 q.1 = (if 0 ≤ pr_an g h0 x2.toInt.toNat 7 q.1.toInt.toNat then mf_Mo_effect_203 h2 (Int32.ofNat 17) x2 else mf_Mo_effect_203 (qa_up h2 0 21 1) (Int32.ofNat 17) x2) := by
          unfold mf_Mo_effect_149 mf_Mo_effect_183
          rw [if_pos (v2.1 _ rfl).1, if_neg (by decide), if_neg (by decide), if_pos (by decide), han]
          rfl
        have hge := pr_an_ge hN0 hC hR.2.2.1 x2.toInt.toNat (by omega) 7 q.1.toInt.toNat (by have := hcl.1; have := hcl.2; omega)
        rw [h149]
        rcases hge with hge | hge
        · rw [if_pos hge, if_neg (by rw [hge]; decide), ms_203 _ _ _ (by decide)]
          have hb2 : mo (qa_up h2 0 21 1) none := mo_none pv_self (by rw [pv_ni (by decide)]; exact ⟨q.2.1, (v2.1 _ rfl).2.1, (v2.1 _ rfl).2.2.1⟩)
          obtain ⟨h3, d1, d2, d3⟩ := ms_give hb2 9
          have h236 : mf_Mo_effect_236 (qa_up h2 0 21 1) (Int32.ofNat 17) x2 = ((mf_Mo_give (qa_up h2 0 21 1) 9).bind fun t321 => (some ((0 : Int32), t321.2))) := rfl
          rw [h236, d1]
          exact ⟨h3, rfl, mw_tr (mw_tr b2 (mw_21 _ _)) d2, fun r hr => (by cases hr), fun _ => d3.2 rfl⟩
        · have hne : ¬ pr_an g h0 x2.toInt.toNat 7 q.1.toInt.toNat = -1 := fun z => by rw [z] at hge; exact absurd hge.1 (by decide)
          rw [if_neg hne, if_pos (by rw [pv_le, e0]; exact hge.1), ms_203 _ _ _ (by decide)]
          exact h318 b2 v2
  | 18, _ =>
    have he : mf_Mo_effect h (Int32.ofNat 18) x2 = ((mf_Mo_take h 0).bind fun t37 => mf_Mo_effect_149 t37.2 (Int32.ofNat 18) x2 t37.1) := rfl
    have hef : tc_ef g h0 (Int32.ofNat 18).toInt x2 f = (tc_tk h0 2 f).bind fun q => tc_pt x2 q.2 := rfl
    obtain ⟨ta, h1, a1, a2, a3⟩ := htk 0 (mw_rf h) ho hv
    rw [he, hef, a1]
    simp only [Option.bind_some]
    have hm0 : mk 0 = 2 := rfl
    rw [hm0] at a3
    cases hq : tc_tk h0 2 f with
    | none => exact hnone _ ta a2 ((a3.2 hq).2 rfl).1
    | some q =>
      obtain ⟨w1, w2⟩ := a3.1 q hq
      rw [ms_149 _ x2 ta (w2.1 _ rfl).1 (by decide) (by decide) (by decide) (by decide)]
      exact hgv x2 a2 w2
  | 19, _ =>
    have he : mf_Mo_effect h (Int32.ofNat 19) x2 = ((mf_Mo_take h 0).bind fun t37 => mf_Mo_effect_149 t37.2 (Int32.ofNat 19) x2 t37.1) := rfl
    have hef : tc_ef g h0 (Int32.ofNat 19).toInt x2 f = (tc_tk h0 2 f).bind fun q => tc_pt 9 q.2 := rfl
    obtain ⟨ta, h1, a1, a2, a3⟩ := htk 0 (mw_rf h) ho hv
    rw [he, hef, a1]
    simp only [Option.bind_some]
    have hm0 : mk 0 = 2 := rfl
    rw [hm0] at a3
    cases hq : tc_tk h0 2 f with
    | none => exact hnone _ ta a2 ((a3.2 hq).2 rfl).1
    | some q =>
      obtain ⟨w1, w2⟩ := a3.1 q hq
      rw [ms_149 _ x2 ta (w2.1 _ rfl).1 (by decide) (by decide) (by decide) (by decide)]
      exact hgv 9 a2 w2
  | 20, _ => exact c10 (Int32.ofNat 20) (Or.inr (Or.inr (by decide))) rfl (fun _ => rfl) (by decide) (by decide) (by decide) (by decide)
  | 21, _ => exact c10 (Int32.ofNat 21) (Or.inr (Or.inr (by decide))) rfl (fun _ => rfl) (by decide) (by decide) (by decide) (by decide)
  | 22, _ => exact c10 (Int32.ofNat 22) (Or.inr (Or.inr (by decide))) rfl (fun _ => rfl) (by decide) (by decide) (by decide) (by decide)
  | k + 23, hk => exact absurd hk (by omega)
