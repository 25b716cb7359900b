theorem xs_beg8 (r0 r1 : Nat) (h1 : r0 ≠ r1) (h2 : r0 ≠ r1 + 1) (h3 : r0 + 1 ≠ r1) : ∀ (j n : Nat) (g : qa_St) (s : Nat), j ≤ s → s ≤ 6 → j ≤ 2 → j < n → g r1 1 = Int32.ofNat s → ∃ g', xf_Fr_beginFrom_8 r0 r1 n g (Int32.ofNat j - 1) = some (0, g') ∧ g' r1 1 = Int32.ofNat (s - j) ∧ (∀ p, p < j → g' (r0 + 1) p = g (r1 + 1) (4 + (s - j) + p)) ∧ ∀ r k, ¬ (r = r1 ∧ k = 1) → ¬ (r = r0 + 1 ∧ k < j) → g' r k = g r k := by
  intro j
  induction j with
  | zero =>
    intro n g s hj hs hj2 hn hg
    obtain ⟨n, rfl⟩ : ∃ z, n = z + 1 := ⟨n - 1, by omega⟩
    refine ⟨g, ?_, hg, fun p hp => absurd hp (by omega), fun _ _ _ _ => rfl⟩
    rw [xf_Fr_beginFrom_8, if_pos (by decide)]
  | succ j ih =>
    intro n g s hj hs hj2 hn hg
    obtain ⟨n, rfl⟩ : ∃ z, n = z + 1 := ⟨n - 1, by omega⟩
    obtain ⟨s, rfl⟩ : ∃ z, s = z + 1 := ⟨s - 1, by omega⟩
    have e0 : (0 : Int32).toInt = 0 := rfl
    have ex : Int32.ofNat (j + 1) - 1 = Int32.ofNat j := ru_fD (by omega) (by omega)
    have ej : (Int32.ofNat j).toInt = (j : Int) := pv_nI (by omega)
    have em : Int32.ofNat j + -1 = Int32.ofNat j - 1 := by
      rcases (show j = 0 ∨ j = 1 by omega) with y | y <;> rw [y] <;> decide
    obtain ⟨g2, hg2⟩ : ∃ g2, g2 = qa_up (qa_up g r1 1 (Int32.ofNat s)) (r0 + 1) j (g (r1 + 1) (4 + s)) := ⟨_, rfl⟩
    obtain ⟨g', a1, a2, a3, a4⟩ := ih n g2 s (by omega) (by omega) (by omega) (by omega) (by rw [hg2, pv_nr (by omega), pv_self])
    refine ⟨g', ?_, by rw [a2]; congr 1; omega, ?_, ?_⟩
    · rw [ex, xf_Fr_beginFrom_8, if_neg (by rw [pv_lt, e0, ej]; omega), xs_pop (by omega) hg, Option.bind_some]
      dsimp only
      rw [xs_setPlace r0 (Int32.ofNat j) _ (by omega), Option.bind_some]
      dsimp only
      rw [em, ej, Int.toNat_natCast, ← hg2]
      exact a1
    · intro p hp
      by_cases hpj : p = j
      · rw [hpj, a4 _ _ (by omega) (by omega), hg2, pv_self]
        congr 1
        omega
      · rw [a3 p (by omega), hg2, pv_nr (by omega), pv_nr (by omega)]
        congr 1
        omega
    · intro r k z1 z2
      rw [a4 r k z1 (by omega), hg2, pv_get, if_neg (by omega), pv_get, if_neg z1]
theorem xs_begin (r0 r1 : Nat) (h1 : r0 ≠ r1) (h2 : r0 ≠ r1 + 1) (h3 : r0 + 1 ≠ r1) (w s : Nat) (g : qa_St) (hw : w ≤ s) (hs : s ≤ 6) (hw2 : w ≤ 2) (hg : g r1 1 = Int32.ofNat s) : ∃ g', xf_Fr_beginFrom g r0 r1 (Int32.ofNat w) = some (0, g') ∧ g' r1 1 = Int32.ofNat (s - w) ∧ (∀ p, p < w → g' (r0 + 1) p = g (r1 + 1) (4 + (s - w) + p)) ∧ g' r0 1 = 0 ∧ g' r0 2 = 0 ∧ ∀ r k, ¬ (r = r1 ∧ k = 1) → r ≠ r0 → r ≠ r0 + 1 → g' r k = g r k := by
  obtain ⟨gc, hgc⟩ : ∃ gc, gc = qa_up (qa_up (pv_fill g (r0 + 1) 0 10 8) r0 1 0) r0 2 0 := ⟨_, rfl⟩
  have kc : ∀ r k, r ≠ r0 → r ≠ r0 + 1 → gc r k = g r k := fun r k z1 z2 => by
    rw [hgc, pv_nr z1, pv_nr z1, pv_fill_out (Or.inl z2)]
  obtain ⟨g', a1, a2, a3, a4⟩ := xs_beg8 r0 r1 h1 h2 h3 w 4096 gc s hw hs hw2 (by omega) (by rw [kc _ _ (by omega) (by omega)]; exact hg)
  refine ⟨g', ?_, a2, fun p hp => by rw [a3 p hp, kc _ _ (by omega) (by omega)], ?_, ?_, fun r k z1 z2 z3 => by rw [a4 r k z1 (by omega), kc r k z2 z3]⟩
  · rw [xf_Fr_beginFrom, xs_clear, Option.bind_some]
    dsimp only
    rw [← hgc]
    exact a1
  · rw [a4 _ _ (by omega) (by omega), hgc, pv_ni (by decide), pv_self]
  · rw [a4 _ _ (by omega) (by omega), hgc, pv_self]
/-- a method, run -/
theorem ru_perf {g0 h0 : qa_St} (hP : pr_P h0) (hRR : pr_R g0 h0) (hall : ∀ m : Nat, (m : Int) < (h0 0 4).toInt → pc_m g0 h0 m) {arg : Int32} (P : qa_St → Int32 → Int32 → qa_Re) {D : Nat} (hD : D ≤ 9) (hcal : D + 1 ≤ 9 → ru_cal g0 h0 arg P (D + 1)) (hdeep : D + 1 = 10 → ∀ g x, P g x (Int32.ofNat 11) = some (1, qa_up g 78 12 (-5))) : ru_cal g0 h0 arg (xf_Ma_perform P) D := by
  intro g h m s w p t hm hw hws hs6 hgx hJ hs hV hF h21 h22 h23 h25 hin hbd
  have hP0 := hP
  obtain ⟨hN, hC, hM, hU, hK, hG⟩ := hP
  obtain ⟨n0, n1, n2, n3⟩ := hN
  have hN : pr_N h0 := ⟨n0, n1, n2, n3⟩
  have qm := hM m hm
  have hRg := xp_R (ru_x_xp hgx) hN hRR hC
  have e0 : (0 : Int32).toInt = 0 := rfl
  have e10 : (10 : Int32).toInt = 10 := rfl
  have eD : (Int32.ofNat (D + 1)).toInt = ((D + 1 : Nat) : Int) := pv_nI (by omega)
  have em : (Int32.ofNat m).toInt = (m : Int) := pv_nI (by omega)
  have emn : (Int32.ofNat m).toInt.toNat = m := by omega
  have hb1 := ru_bx (D := D + 1) (by omega)
  have hb0 := ru_bx (D := D) (by omega)
  have hfd : Int32.ofNat (D + 1) - 1 = Int32.ofNat D := ru_fD (by omega) (by omega)
  have ew : h0 6 m = Int32.ofNat w := by rw [pv_eq, pv_nI (by omega)]; omega
  obtain ⟨gb, a1, a2, a3, a4, a5, a6⟩ := xs_begin (85 + 2 * (D + 1)) (85 + 2 * D) (by omega) (by omega) (by omega) w s g hws hs6 (by omega) hs
  have hC' : xf_Ma_perform P g (Int32.ofNat m) (Int32.ofNat (D + 1)) = xf_Ma_perform_43 P 4096 gb (Int32.ofNat m) (Int32.ofNat (D + 1)) (85 + 2 * (D + 1)) (Int32.ofNat 0) := by
    rw [xf_Ma_perform, if_pos (by rw [Int32.le_iff_toInt_le, eD, e10]; omega), if_neg hb1.2, hfd, if_neg hb0.2, xs_inputsOf _ hN hRg.1.2 hRg.2.2.2.1, Option.bind_some]
    dsimp only
    rw [em, if_pos (by omega), Int.toNat_natCast, ew, hb1.1, hb0.1, a1, Option.bind_some]
    rfl
  rw [hC']
  have hpo := (hall m hm).1
  have hst : mN h0 m 0 = 0 := hpo.2.1.2.2.1
  have hgx' : ru_x g0 gb := fun r k hr => by rw [a6 r k (by omega) (by omega) (by omega)]; exact hgx r k hr
  have hJ' : ru_J h0 gb h := ⟨hJ.1, ru_G_w (fun r k z1 z2 _ => a6 r k (by omega) (by omega) (by omega)) (fun _ _ _ => rfl) hJ.2.1, hJ.2.2⟩
  have hF0 : ru_F g0 h0 (D + 1) (tc_st h0 m) gb h := by
    refine ⟨Nat.zero_le _, a4, h23, fun k hk => absurd hk (Nat.not_lt_zero _), fun q hq hne => ?_⟩
    have hqw : q < w := by
      by_cases y : q = 0 ∧ 0 ≤ (h0 5 m).toInt
      · have := qm.2.2.2.2.2.2.1 y.2
        omega
      · by_cases y2 : (q : Int) < (h0 6 m).toInt
        · omega
        · exact absurd (show (tc_st h0 m).2 q = 8 by unfold tc_st; dsimp only; rw [if_neg y, if_neg y2]) hne
    have := hin q hqw
    rw [show 86 + 2 * (D + 1) = 85 + 2 * (D + 1) + 1 from by omega, a3 q hqw, show 85 + 2 * D + 1 = 86 + 2 * D from by omega, show D + 1 - 1 = D from rfl]
    exact this
  have hF1 := ru_F_le hN hC hRR.2.1 (ru_at_le (j := 0) hpo.2.1) hF0
  obtain ⟨w1, w2, w3, w4, w5⟩ := hJ.2.1
  have hL := ru_loop hP0 hRR hall P (D := D + 1) (by omega) hcal hdeep hm p 2000 4096 0 gb h 0 t (by omega) (by omega) (by omega) (by omega) (by rw [hst]; decide) hgx' hJ' hV hF h21 h22 h25 hF1 a5 hbd
  exact ru_Q_tr (fun r k z1 z2 => by
    by_cases y : r = 85 + 2 * D ∧ k = 1
    · rw [y.1, y.2, a2, pv_self]
    · rw [a6 r k y (by omega) (by omega), pv_get, if_neg y]) (ru_L_rf _ h) rfl hL
theorem ru_main {g0 h0 : qa_St} (hP : pr_P h0) (hRR : pr_R g0 h0) (hall : ∀ m : Nat, (m : Int) < (h0 0 4).toInt → pc_m g0 h0 m) {arg : Int32} : ∀ (j D : Nat), D + j = 9 → ru_cal g0 h0 arg (xf_rec (j + 3)) D := by
  intro j
  induction j with
  | zero =>
    intro D hD
    have : xf_rec (0 + 3) = xf_Ma_perform (xf_rec 2) := rfl
    rw [this]
    refine ru_perf hP hRR hall (xf_rec 2) (by omega) (fun y => absurd y (by omega)) fun _ g x => ?_
    have h2 : xf_rec 2 g x (Int32.ofNat 11) = xf_Ma_perform (xf_rec 1) g x (Int32.ofNat 11) := rfl
    rw [h2, xf_Ma_perform, if_neg (by decide), xf_Ma_toss, Option.bind_some]
  | succ j ih =>
    intro D hD
    have : xf_rec (j + 1 + 3) = xf_Ma_perform (xf_rec (j + 3)) := rfl
    rw [this]
    exact ru_perf hP hRR hall (xf_rec (j + 3)) (by omega) (fun y => ih (D + 1) (by omega)) fun y => absurd y (by omega)
