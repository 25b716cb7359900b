/-- a method that was called has come to its end -/
theorem ru_called {g0 h0 g h : qa_St} (hP : pr_P h0) {arg : Int32} {D m pc p n w t : Nat} {f r : tc_F} {x1 x2 : Int32} (hpre : ru_pre g0 h0 D pc f g h) (hD9 : D ≤ 9) (hm : (m : Int) < (h0 0 4).toInt) (hi : (pc : Int) < (h0 7 m).toInt) (h21 : h 21 (D - 1) = Int32.ofNat m) (h25 : h 25 (D - 1) = 0) (hx1 : x1 = h0 8 (20 * m + pc)) (hx2 : x2 = h0 9 (20 * m + pc)) (hop : (x1.toInt = 16 ∧ (w : Int) = (h0 6 x2.toInt.toNat).toInt) ∨ (x1.toInt = 17 ∧ w = 2)) (hn : f.1 = n) (hw : w ≤ n) (hr : tc_ef g0 h0 x1.toInt x2 f = some r) (hre : r = (n - w + 1, tc_up f.2 (4 + (n - w)) 9) ∧ n - w < 6) {h' : qa_St} (hnew : ru_new D n w (h' 21 D) 0 h h') (C : qa_Re) (hq : ru_Q g0 h0 arg (D + 1) p (qa_up g (85 + 2 * D) 1 (Int32.ofNat (n - w))) h' (RR arg t h') C) {X : qa_Re} (hX : X = (C.bind fun t120 => ((xf_Ma_receive t120.2 t120.1 (85 + 2 * D)).bind fun t125 => (some (t125.1, t125.2))))) : ru_E g0 h0 arg D pc p f x1 x2 g h X (RR arg t h') := by
  have hP0 := hP
  obtain ⟨hD, hpc, p1, p2, p3, p4, p5, p6, p7⟩ := hpre
  obtain ⟨w1, w2, w3, w4, w5, w6, w7, w8, w9, w10⟩ := hnew
  obtain ⟨f1, f2, f3, f4, f5⟩ := p6
  obtain ⟨o, g', c1, c2, c3, c4⟩ := hq
  have hx22 : ¬ x1 = 22 := fun z => by
    have : x1.toInt = 22 := by rw [z]; rfl
    omega
  -- the frames of h' below D are those of h
  have hLh : ru_L D h h' := ⟨fun r k a b c => w3 r k (by omega) (by omega) (by omega), fun k hk => w9 k (by omega), fun k hk => w3 27 k (by decide) (by omega) (by decide), w2 27 (by decide), w2 31 (by decide), by rw [w2 30 (by decide)]; exact Int.le_refl _, by rw [w2 40 (by decide)]; exact Int.le_refl _, fun k _ => w3 28 k (by decide) (by omega) (by decide), fun c _ z => by rw [w3 31 c (by decide) (by omega) (by decide)]; exact z⟩
  have hlow : ∀ r k, 85 ≤ r → r < 85 + 2 * D → g' r k = g r k := fun r k a b => by rw [c3 r k a (by omega), pv_nr (by omega)]
  have hg1 : g' (85 + 2 * D) 1 = Int32.ofNat (n - w) := by rw [c3 _ 1 (by omega) (by omega), pv_self]
  have hg2 : g' (85 + 2 * D) 2 = g (85 + 2 * D) 2 := by rw [c3 _ 2 (by omega) (by omega), pv_ni (by decide)]
  have hgp : ∀ k, g' (86 + 2 * D) k = g (86 + 2 * D) k := fun k => by rw [c3 _ k (by omega) (by omega), pv_nr (by omega)]
  rw [show D + 1 - 1 = D by omega] at c4
  rcases c4 with ⟨o0, hb, t', d1, d2, d3, d4, d5, d6⟩ | ⟨o1, hb, t', d1, d2, d3, d4, d5⟩ | ⟨o2, hb, d1⟩
  · -- it answered
    have hL := ru_L_tr hLh d4
    have hlv := ms_leave_call hP0 (ru_m_pm d2.1) (D := D) (m := m) (pc := pc) (n := n) (w := w) (by omega) hm hi d3 (by rw [d5]; exact w7) (by rw [hL.1 21 _ (by omega) (by omega) (by omega)]; exact h21) (by rw [hL.1 22 _ (by omega) (by omega) (by omega)]; exact p5) (by rw [hL.1 23 _ (by omega) (by omega) (by omega), f3, hn]) ⟨hw, by omega, hre.2⟩ (by rw [← hx1, ← hx2]; exact hop) (g' 78 12)
    obtain ⟨h2, hh2⟩ : ∃ h2, h2 = qa_up (qa_up (qa_up (qa_up (qa_up hb 0 32 (Int32.ofNat D)) 23 (D - 1) (Int32.ofNat (n - w))) 27 (6 * (D - 1) + (n - w)) (g' 78 12)) 23 (D - 1) (Int32.ofNat (n - w + 1))) 22 (D - 1) (Int32.ofNat (pc + 1)) := ⟨_, rfl⟩
    rw [← hh2] at hlv
    have k2 : ∀ r k, ¬ (r = 0 ∧ k = 32) → ¬ (r = 23 ∧ k = D - 1) → ¬ (r = 27 ∧ k = 6 * (D - 1) + (n - w)) → ¬ (r = 22 ∧ k = D - 1) → h2 r k = hb r k := fun r k z1 z2 z3 z4 => by rw [hh2, pv_get, if_neg z4, pv_get, if_neg z2, pv_get, if_neg z3, pv_get, if_neg z2, pv_get, if_neg z1]
    have hpush := xs_push (g := g') (r0 := 85 + 2 * D) (n := n - w) (g' 78 12) hre.2 hg1
    obtain ⟨g2, hg2e⟩ : ∃ g2, g2 = qa_up (qa_up g' (85 + 2 * D + 1) (4 + (n - w)) (g' 78 12)) (85 + 2 * D) 1 (Int32.ofNat (n - w + 1)) := ⟨_, rfl⟩
    rw [← hg2e] at hpush
    have kg : ∀ r k, ¬ (r = 86 + 2 * D ∧ k = 4 + (n - w)) → ¬ (r = 85 + 2 * D ∧ k = 1) → g2 r k = g' r k := fun r k z1 z2 => by rw [hg2e, pv_get, if_neg z2, pv_get, if_neg (by omega)]
    have hB2 : ru_B h2 = ru_B hb := by
      unfold ru_B
      rw [show h2 31 = hb 31 from funext fun k => k2 31 k (by omega) (by omega) (by omega) (by omega)]
    have hJ2 : ru_J h0 g2 h2 := by
      refine ⟨⟨fun r k a b => by rw [k2 r k (by omega) (by omega) (by omega) (by omega)]; exact d2.1.1 r k a b, fun k hk => by rw [k2 0 k (by omega) (by omega) (by omega) (by omega)]; exact d2.1.2 k hk⟩, ?_, ⟨by rw [k2 0 28 (by omega) (by omega) (by omega) (by omega)]; exact d2.2.2.1, by rw [k2 0 29 (by omega) (by omega) (by omega) (by omega)]; exact d2.2.2.2⟩⟩
      obtain ⟨⟨m1, u1, u2, u3, u4⟩, u5, u6, u7, u8⟩ := d2.2.1
      refine ⟨⟨m1, u1, by rw [k2 0 40 (by omega) (by omega) (by omega) (by omega)]; exact u2, by rw [kg 78 8 (by omega) (by omega)]; exact u3, fun k hk => ?_⟩, fun c hc => ?_, ⟨?_, ?_⟩, ⟨?_, ?_, ?_, fun k hk => ?_⟩, ?_⟩
      · rw [kg 82 k (by omega) (by omega), k2 28 k (by omega) (by omega) (by omega) (by omega)]
        exact ⟨(u4 k hk).1, (u4 k hk).2.1, fun i hi => by rw [kg 83 _ (by omega) (by omega), k2 29 _ (by omega) (by omega) (by omega) (by omega)]; exact (u4 k hk).2.2 i hi⟩
      · rw [kg 80 c (by omega) (by omega), kg 81 c (by omega) (by omega), k2 30 c (by omega) (by omega) (by omega) (by omega), k2 31 c (by omega) (by omega) (by omega) (by omega)]; exact u5 c hc
      · rw [kg 78 7 (by omega) (by omega), k2 0 45 (by omega) (by omega) (by omega) (by omega)]; exact u6.1
      · rw [k2 0 45 (by omega) (by omega) (by omega) (by omega), hB2]; exact u6.2
      · rw [kg 78 9 (by omega) (by omega), k2 0 46 (by omega) (by omega) (by omega) (by omega)]; exact u7.1
      · rw [k2 0 46 (by omega) (by omega) (by omega) (by omega)]; exact u7.2.1
      · rw [k2 0 46 (by omega) (by omega) (by omega) (by omega), k2 0 30 (by omega) (by omega) (by omega) (by omega)]; exact u7.2.2.1
      · rw [kg 84 k (by omega) (by omega), k2 0 46 (by omega) (by omega) (by omega) (by omega), k2 32 k (by omega) (by omega) (by omega) (by omega)]; exact u7.2.2.2 k hk
      · rw [kg 78 10 (by omega) (by omega), kg 78 11 (by omega) (by omega), k2 0 30 (by omega) (by omega) (by omega) (by omega), k2 0 31 (by omega) (by omega) (by omega) (by omega)]; exact u8
    have hty : ∀ {t v : Int32}, ru_ty g0 h0 h t v → ru_ty g0 h0 h2 t v := fun {t v} hv => ru_ty_up (by rw [k2 0 40 (by omega) (by omega) (by omega) (by omega)]; exact hL.2.2.2.2.2.2.1) (fun k hk => by rw [k2 28 k (by omega) (by omega) (by omega) (by omega)]; exact hL.2.2.2.2.2.2.2.1 k hk) hv
    refine ⟨0, g2, ?_, fun r k hr => by rw [kg r k (by omega) (by omega)]; exact c2 r k hr, fun r k a b => by rw [kg r k (by omega) (by omega)]; exact hlow r k a b, Or.inl ⟨rfl, hx22, h2, t' + 1, pc + 1, r, hr, ru_sc (by omega), ?_, hJ2, by rw [hh2, pv_nr (by decide), pv_nr (by decide), pv_nr (by decide), pv_nr (by decide), pv_self], ⟨fun r k a b c => ?_, fun k hk => ?_, fun k hk => ?_, ?_, ?_, ?_, ?_, fun k hk => ?_, fun c hc z => ?_⟩, ⟨?_, ?_, ?_⟩, by rw [hh2, pv_self], ?_, ?_, by rw [k2 0 30 (by omega) (by omega) (by omega) (by omega), hB2]; omega⟩⟩
    · rw [hX, c1, Option.bind_some]
      dsimp only
      unfold xf_Ma_receive
      rw [o0, if_pos rfl, hpush]
      rfl
    · rw [d1, hlv]
      rfl
    · rw [k2 r k (by omega) (by omega) (by omega) (by omega)]; exact hL.1 r k a b (by omega)
    · rw [k2 26 k (by omega) (by omega) (by omega) (by omega)]; exact hL.2.1 k (by omega)
    · rw [k2 27 k (by omega) (by omega) (by omega) (by omega)]; exact hL.2.2.1 k (by omega)
    · rw [k2 0 27 (by omega) (by omega) (by omega) (by omega)]; exact hL.2.2.2.1
    · rw [k2 0 31 (by omega) (by omega) (by omega) (by omega)]; exact hL.2.2.2.2.1
    · rw [k2 0 30 (by omega) (by omega) (by omega) (by omega)]; exact hL.2.2.2.2.2.1
    · rw [k2 0 40 (by omega) (by omega) (by omega) (by omega)]; exact hL.2.2.2.2.2.2.1
    · rw [k2 28 k (by omega) (by omega) (by omega) (by omega)]; exact hL.2.2.2.2.2.2.2.1 k hk
    · rw [k2 31 c (by omega) (by omega) (by omega) (by omega)]; exact hL.2.2.2.2.2.2.2.2 c hc z
    · rw [k2 21 _ (by omega) (by omega) (by omega) (by omega)]; exact hL.1 21 _ (by omega) (by omega) (by omega)
    · rw [k2 24 _ (by omega) (by omega) (by omega) (by omega)]; exact hL.1 24 _ (by omega) (by omega) (by omega)
    · rw [k2 25 _ (by omega) (by omega) (by omega) (by omega), hL.1 25 _ (by omega) (by omega) (by omega)]; exact h25
    · rw [hre.1]
      refine ⟨by show n - w + 1 ≤ 6; omega, by rw [hg2e, pv_self], by rw [hh2, pv_nr (by decide), pv_self], fun k hk => ?_, fun q hq hz => ?_⟩
      · have hk : k < n - w + 1 := hk
        show _ ∧ ru_ty g0 h0 _ (tc_up f.2 (4 + (n - w)) 9 (4 + k)) _
        by_cases hkn : k = n - w
        · rw [hkn, tc_up_s]
          refine ⟨?_, ru_9 _⟩
          rw [hg2e, pv_nr (by omega), show 86 + 2 * D = 85 + 2 * D + 1 by omega, pv_self, hh2, pv_nr (by decide), pv_nr (by decide), pv_self]
        · rw [tc_up_n (by omega), kg _ _ (by omega) (by omega), hgp, k2 27 _ (by omega) (by omega) (by omega) (by omega), hL.2.2.1 _ (by omega)]
          exact ⟨(f4 k (by omega)).1, hty (f4 k (by omega)).2⟩
      · have hz : tc_up f.2 (4 + (n - w)) 9 q ≠ 8 := hz
        show _ ∧ ru_ty g0 h0 _ (tc_up f.2 (4 + (n - w)) 9 q) _
        rw [tc_up_n (by omega)] at hz ⊢
        rw [kg _ _ (by omega) (by omega), hgp, k2 26 _ (by omega) (by omega) (by omega) (by omega), hL.2.1 _ (by omega)]
        exact ⟨(f5 q hq hz).1, hty (f5 q hq hz).2⟩
    · rw [kg _ 2 (by omega) (by omega), hg2]; exact p7
  · have hL := ru_L_tr hLh d4
    refine ⟨1, g', ?_, c2, hlow, Or.inr (Or.inr (Or.inl ⟨rfl, hb, t', d1, d2, d3, ru_L_dn (by omega) hL, ⟨hL.1 21 _ (by omega) (by omega) (by omega), hL.1 22 _ (by omega) (by omega) (by omega), hL.1 24 _ (by omega) (by omega) (by omega)⟩, fun q hq hz => ?_, d5⟩))⟩
    · rw [hX, c1, Option.bind_some]
      dsimp only
      unfold xf_Ma_receive
      rw [o1, if_neg (by decide)]
      rfl
    · rw [hgp, hL.2.1 _ (by omega)]
      exact ⟨(f5 q hq hz).1, ru_ty_up hL.2.2.2.2.2.2.1 hL.2.2.2.2.2.2.2.1 (f5 q hq hz).2⟩
  · refine ⟨2, g', ?_, c2, hlow, Or.inr (Or.inr (Or.inr ⟨rfl, hb, d1⟩))⟩
    rw [hX, c1, Option.bind_some]
    dsimp only
    unfold xf_Ma_receive
    rw [o2, if_neg (by decide)]
    rfl
