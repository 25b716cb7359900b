theorem ms_run71 (arg : Int32) : ∀ (d c n : Nat) (h : qa_St), c + d = 6 → d < n → ∃ h', mf_Mo_run_71 n h arg (Int32.ofNat c) = RR arg 0 h' ∧ (∀ j, c ≤ j → j < 6 → h' 30 j = 0 ∧ h' 31 j = -1) ∧ ∀ r k, ¬ ((r = 30 ∨ r = 31) ∧ c ≤ k ∧ k < 6) → h' r k = h r k := by
  intro d
  induction d with
  | zero =>
    intro c n h hc hn
    obtain ⟨n, rfl⟩ : ∃ z, n = z + 1 := ⟨n - 1, by omega⟩
    have hc6 : c = 6 := by omega
    refine ⟨h, ?_, fun j a b => by omega, fun _ _ _ => rfl⟩
    rw [mf_Mo_run_71, hc6, if_pos (by decide)]
    unfold RR
    rfl
  | succ d ih =>
    intro c n h hc hn
    obtain ⟨n, rfl⟩ : ∃ z, n = z + 1 := ⟨n - 1, by omega⟩
    have e0 : (0 : Int32).toInt = 0 := rfl
    have e6 : (6 : Int32).toInt = 6 := rfl
    have ec : (Int32.ofNat c).toInt = (c : Int) := pv_nI (by omega)
    have en : (Int32.ofNat c).toNatClampNeg = c := by rw [pv_cl, ec]; omega
    have hb : ¬ (Int32.ofNat c < 0 ∨ 6 ≤ (Int32.ofNat c).toNatClampNeg) := by
      rw [pv_lt, e0, ec, en]; omega
    obtain ⟨h1, hh1⟩ : ∃ h1, h1 = qa_up (qa_up h 30 c 0) 31 c (-1) := ⟨_, rfl⟩
    obtain ⟨h', a1, a2, a3⟩ := ih (c + 1) n h1 (by omega) (by omega)
    refine ⟨h', ?_, fun j x y => ?_, fun r k z => ?_⟩
    · rw [mf_Mo_run_71, if_neg (by rw [pv_le, e6, ec]; omega), if_neg hb, if_neg hb, en, ← hh1, pv_n1]
      exact a1
    · by_cases hj : j = c
      · rw [hj, a3 30 c (by omega), a3 31 c (by omega), hh1, pv_nr (by decide), pv_self, pv_self]
        exact ⟨rfl, rfl⟩
      · exact a2 j (by omega) y
    · rw [a3 r k (by omega), hh1, pv_get, if_neg (by omega), pv_get, if_neg (by omega)]
theorem ms_start (h : qa_St) (x1 x2 : Int32) : ∃ h0, mf_Mo_run_39 (qa_up (qa_up (qa_up (qa_up h 0 26 1) 0 27 0) 0 28 (-1)) 0 29 0) x1 x2 = RR x1 0 h0 ∧ (∀ r k, 1 ≤ r → r < 21 → h0 r k = h r k) ∧ (∀ k, k < 26 → h0 0 k = h 0 k) ∧ h0 0 26 = 1 ∧ h0 0 27 = 0 ∧ h0 0 28 = -1 ∧ h0 0 29 = 0 ∧ h0 0 30 = 0 ∧ h0 0 31 = x2 ∧ h0 0 32 = 0 ∧ h0 0 40 = 0 ∧ h0 0 45 = 0 ∧ h0 0 46 = 0 ∧ ∀ c, c < 6 → h0 30 c = 0 ∧ h0 31 c = -1 := by
  obtain ⟨ha, hha⟩ : ∃ ha, ha = qa_up (qa_up (qa_up (qa_up h 0 26 1) 0 27 0) 0 28 (-1)) 0 29 0 := ⟨_, rfl⟩
  obtain ⟨hb, hhb⟩ : ∃ hb, hb = qa_up (qa_up (qa_up (qa_up ha 0 30 0) 0 31 x2) 0 32 0) 0 40 0 := ⟨_, rfl⟩
  obtain ⟨hc, hhc⟩ : ∃ hc, hc = qa_up (qa_up hb 0 45 0) 0 46 0 := ⟨_, rfl⟩
  obtain ⟨h0, a1, a2, a3⟩ := ms_run71 x1 6 0 4096 hc (by omega) (by omega)
  have ka : ∀ r k, ¬ (r = 0 ∧ 26 ≤ k ∧ k ≤ 29) → ha r k = h r k := fun r k z => by
    rw [hha, pv_get, if_neg (by omega), pv_get, if_neg (by omega), pv_get, if_neg (by omega), pv_get, if_neg (by omega)]
  have kb : ∀ r k, ¬ (r = 0 ∧ (k = 30 ∨ k = 31 ∨ k = 32 ∨ k = 40)) → hb r k = ha r k := fun r k z => by
    rw [hhb, pv_get, if_neg (by omega), pv_get, if_neg (by omega), pv_get, if_neg (by omega), pv_get, if_neg (by omega)]
  have kc : ∀ r k, ¬ (r = 0 ∧ (k = 45 ∨ k = 46)) → hc r k = hb r k := fun r k z => by
    rw [hhc, pv_get, if_neg (by omega), pv_get, if_neg (by omega)]
  refine ⟨h0, ?_, fun r k x y => by rw [a3 r k (by omega), kc r k (by omega), kb r k (by omega), ka r k (by omega)], fun k hk => by rw [a3 0 k (by omega), kc 0 k (by omega), kb 0 k (by omega), ka 0 k (by omega)], ?_, ?_, ?_, ?_, ?_, ?_, ?_, ?_, ?_, ?_, fun c hc => a2 c (by omega) hc⟩
  · rw [← hha]
    unfold mf_Mo_run_39 mf_Mo_run_59
    rw [← hhb, ← hhc]
    exact a1
  · rw [a3 0 26 (by omega), kc 0 26 (by omega), kb 0 26 (by omega), hha, pv_ni (by decide), pv_ni (by decide), pv_ni (by decide), pv_self]
  · rw [a3 0 27 (by omega), kc 0 27 (by omega), kb 0 27 (by omega), hha, pv_ni (by decide), pv_ni (by decide), pv_self]
  · rw [a3 0 28 (by omega), kc 0 28 (by omega), kb 0 28 (by omega), hha, pv_ni (by decide), pv_self]
  · rw [a3 0 29 (by omega), kc 0 29 (by omega), kb 0 29 (by omega), hha, pv_self]
  · rw [a3 0 30 (by omega), kc 0 30 (by omega), hhb, pv_ni (by decide), pv_ni (by decide), pv_ni (by decide), pv_self]
  · rw [a3 0 31 (by omega), kc 0 31 (by omega), hhb, pv_ni (by decide), pv_ni (by decide), pv_self]
  · rw [a3 0 32 (by omega), kc 0 32 (by omega), hhb, pv_ni (by decide), pv_self]
  · rw [a3 0 40 (by omega), kc 0 40 (by omega), hhb, pv_self]
  · rw [a3 0 45 (by omega), hhc, pv_ni (by decide), pv_self]
  · rw [a3 0 46 (by omega), hhc, pv_self]
theorem xs_start (g : qa_St) (x1 x2 : Int32) : ∃ g0, xf_Ma_start g x1 x2 = ((xf_Pr_ownerOf g0 0).bind fun t74 => ((xf_Ma_trigger (xf_rec 12) t74.2 t74.1 0).bind fun t78 => if t78.1 = 0 then ((xf_rec 12 t78.2 0 1).bind fun t89 => xf_Ma_start_93 t89.2 t89.1) else xf_Ma_start_93 t78.2 t78.1)) ∧ (∀ r k, r < 78 → g0 r k = g r k) ∧ (∀ c, c < 6 → g0 80 c = 0 ∧ g0 81 c = -1) ∧ (∀ k, k < 16 → g0 84 k = 0) ∧ g0 78 7 = 0 ∧ g0 78 8 = 0 ∧ g0 78 9 = 0 ∧ g0 78 10 = 0 ∧ g0 78 11 = x2 ∧ g0 85 1 = Int32.ofNat 1 ∧ g0 86 4 = x1 := by
  have e00 : (0 : Int32).toNatClampNeg = 0 := rfl
  have hb : ¬ ((0 : Int32) < 0 ∨ 11 ≤ (0 : Int32).toNatClampNeg) := by decide
  obtain ⟨ga, hga⟩ : ∃ ga, ga = pv_fill (pv_fill (pv_fill g 80 0 6 0) 81 0 6 (-1)) 84 0 16 0 := ⟨_, rfl⟩
  obtain ⟨gb, hgb⟩ : ∃ gb, gb = qa_up (qa_up (qa_up (qa_up ga 78 7 0) 78 8 0) 78 9 0) 78 10 0 := ⟨_, rfl⟩
  obtain ⟨gc, hgc⟩ : ∃ gc, gc = qa_up gb 78 11 x2 := ⟨_, rfl⟩
  obtain ⟨gd, hgd⟩ : ∃ gd, gd = qa_up (qa_up (pv_fill gc (85 + 1) 0 10 8) 85 1 0) 85 2 0 := ⟨_, rfl⟩
  obtain ⟨g0, hg0⟩ : ∃ g0, g0 = qa_up (qa_up gd (85 + 1) (4 + 0) x1) 85 1 (Int32.ofNat (0 + 1)) := ⟨_, rfl⟩
  have k0 : ∀ r k, r < 85 → g0 r k = gc r k := fun r k hr => by
    rw [hg0, pv_nr (by omega), pv_nr (by omega), hgd, pv_nr (by omega), pv_nr (by omega), pv_fill_out (Or.inl (by omega))]
  have kc : ∀ r k, r ≠ 78 → gc r k = ga r k := fun r k hr => by
    rw [hgc, pv_nr hr, hgb, pv_nr hr, pv_nr hr, pv_nr hr, pv_nr hr]
  have hd1 : gd 85 1 = Int32.ofNat 0 := by rw [hgd, pv_ni (by decide), pv_self]; rfl
  refine ⟨g0, ?_, fun r k hr => by rw [k0 r k (by omega), kc r k (by omega), hga, pv_fill_out (Or.inl (by omega)), pv_fill_out (Or.inl (by omega)), pv_fill_out (Or.inl (by omega))], fun c hc => ⟨?_, ?_⟩, fun k hk => ?_, ?_, ?_, ?_, ?_, ?_, ?_, ?_⟩
  · rw [xf_Ma_start, pv_Afill _ _ _ (by omega), Option.bind_some]
    dsimp only
    rw [pv_Afill _ _ _ (by omega), Option.bind_some]
    dsimp only
    rw [pv_Afill _ _ _ (by omega), Option.bind_some]
    dsimp only
    rw [← hga, ← hgb, xf_Ma_start_44, if_neg hb, e00, ← hgc, show 85 + 2 * 0 = 85 from rfl, xs_clear, Option.bind_some, if_neg (by decide)]
    dsimp only
    rw [← hgd, xs_push x1 (by omega) hd1, Option.bind_some]
    dsimp only
    rw [← hg0]
  · rw [k0 80 c (by omega), kc 80 c (by omega), hga, pv_fill_out (Or.inl (by omega)), pv_fill_out (Or.inl (by omega)), pv_fill_in (by omega) hc]
  · rw [k0 81 c (by omega), kc 81 c (by omega), hga, pv_fill_out (Or.inl (by omega)), pv_fill_in (by omega) hc]
  · rw [k0 84 k (by omega), kc 84 k (by omega), hga, pv_fill_in (by omega) hk]
  · rw [k0 78 7 (by omega), hgc, pv_ni (by decide), hgb, pv_ni (by decide), pv_ni (by decide), pv_ni (by decide), pv_self]
  · rw [k0 78 8 (by omega), hgc, pv_ni (by decide), hgb, pv_ni (by decide), pv_ni (by decide), pv_self]
  · rw [k0 78 9 (by omega), hgc, pv_ni (by decide), hgb, pv_ni (by decide), pv_self]
  · rw [k0 78 10 (by omega), hgc, pv_ni (by decide), hgb, pv_self]
  · rw [k0 78 11 (by omega), hgc, pv_self]
  · rw [hg0, pv_self]
  · rw [hg0, pv_nr (by decide), pv_self]
theorem st_run (g h : qa_St) (x1 x2 : Int32) (hI : pr_I pr_PC pr_N2 g h) : ql_st (pr_I pr_PC pr_N2) (xf_Cw_run g x1 x2) (mf_Mo_run h x1 x2) := by
  have hI0 := hI
  obtain ⟨hP, hR, hF, hPC, hPN⟩ := hI
  obtain ⟨f1, f2, f3, f4⟩ := hF
  have e0 : (0 : Int32).toInt = 0 := rfl
  have e2 : (2000 : Int32).toInt = 2000 := rfl
  by_cases hcl : g 0 4 = 0
  · refine pr_same hI0 (v := -1) ?_ ?_
    · rw [xf_Cw_run, if_pos hcl]
    · rw [mf_Mo_run, if_pos (by rw [← f1]; exact hcl)]
  · have hcl1 : g 0 4 = 1 := f2.elim (fun z => absurd z hcl) id
    have hw := ms_within h x2 2000
    rw [e2] at hw
    by_cases hx : 0 ≤ x2.toInt ∧ x2.toInt ≤ 2000
    · have hPc := hPC hcl1
      obtain ⟨h0, a1, a2, a3, a4, a5, a6, a7, a8, a9, a10, a11, a12, a13, a14⟩ := ms_start h x1 x2
      obtain ⟨g0, b1, b2, b3, b4, b5, b6, b7, b8, b9, b10, b11⟩ := xs_start (qa_up g 0 5 1) x1 x2
      have kg : ∀ r k, 1 ≤ r → r < 78 → g0 r k = g r k := fun r k p q => by rw [b2 r k q, pv_nr (by omega)]
      obtain ⟨hP0, hR0, hPC0⟩ := pr_run_keep hP hR hPc kg a2 (a3 0 (by omega)) (a3 4 (by omega))
      obtain ⟨p1, p2, p3, p4, p5, p6⟩ := hPC0
      have qm := hP0.2.2.1 0 p4
      have hN0 := hP0.1
      unfold pr_N at hN0
      obtain ⟨T, hT, hT6⟩ : ∃ T : Nat, h0 4 0 = Int32.ofNat T ∧ (T : Int) < (h0 0 0).toInt :=
        ⟨(h0 4 0).toInt.toNat, by rw [pv_eq, pv_nI (by omega)]; omega, by omega⟩
      have hB0 : ru_B h0 = 0 := by
        have : ∀ n, n ≤ 6 → tc_sum (fun c => if (h0 31 c).toInt < 0 then 0 else 1) n = 0 := by
          intro n
          induction n with
          | zero => intro _; rfl
          | succ n ih =>
            intro hn
            rw [tc_sum, ih (by omega), (a14 n (by omega)).2]
            rfl
        exact this 6 (by omega)
      have hG0 : ru_G h0 g0 h0 := by
        refine ⟨⟨0, by omega, a11, b6, fun k hk => absurd hk (Nat.not_lt_zero _)⟩, fun c hc => ?_, ⟨by rw [b5, a12], by rw [a12, hB0]; rfl⟩, ⟨by rw [b7, a13], by rw [a13]; decide, by rw [a13, a8]; decide, fun k hk => ?_⟩, by rw [b8, a8], by rw [b9, a9], by rw [a8]; decide, by rw [a8, a9, e0]; exact hx.1, by rw [a9]; exact hx.2⟩
        · rw [(b3 c hc).1, (b3 c hc).2, (a14 c hc).1, (a14 c hc).2]
          exact ⟨rfl, rfl, by decide⟩
        · rw [b4 k hk, a13, e0, if_neg (by omega)]
      have hrun := ru_run hP0 hR0 p3 p4 p5 p6 x1 hG0 ⟨a6, a7⟩ a10 a5 b10 b11 T hT hT6
      obtain ⟨o, g', h', c1, c2, c3, c4, c5, c6⟩ := hrun
      have hown : xf_Pr_ownerOf g0 0 = some (Int32.ofNat T, g0) := by
        rw [xs_ownerOf _ hP0.1 hR0.1.2 hR0.2.2.2.1, e0, if_pos (by omega)]
        show some (h0 4 0, g0) = _
        rw [hT]
      have hC : xf_Cw_run g x1 x2 = some (o, g') := by
        rw [xf_Cw_run, if_neg hcl, if_neg (by rw [pv_lt, e0]; omega), if_pos (by rw [pv_le, e2]; omega), b1, hown, Option.bind_some]
        dsimp only
        rw [c1, Option.bind_some]
      have hRf : mf_Mo_run h x1 x2 = some (o, h') := by
        rw [mf_Mo_run, if_neg (by rw [← f1]; exact hcl), hw, if_pos hx, Option.bind_some, if_neg (show ¬ (1 : Int32) = 0 by decide)]
        dsimp only
        rw [a1, c2]
      have hg : ∀ r k, 1 ≤ r → r < 78 → g' r k = g r k := fun r k p q => by rw [c3 r k q, kg r k p q]
      have hh : ∀ r k, 1 ≤ r → r < 21 → h' r k = h r k := fun r k p q => by rw [c4.1 r k p q, a2 r k p q]
      have hh0 : ∀ k, k < 26 → h' 0 k = h 0 k := fun k hk => by rw [c4.2 k (by omega), a3 k hk]
      obtain ⟨z1, z2, z3⟩ := pr_run_keep hP hR hPc hg hh (hh0 0 (by omega)) (hh0 4 (by omega))
      have g4 : g' 0 4 = g 0 4 := by rw [c3 0 4 (by omega), b2 0 4 (by omega), pv_ni (by decide)]
      have g5 : g' 0 5 = 1 := by rw [c3 0 5 (by omega), b2 0 5 (by omega), pv_self]
      have h26 : h' 0 26 = 1 := by rw [c4.2 26 (by omega), a4]
      refine ⟨o, g', h', hC, hRf, z1, z2, ⟨by rw [g4, hh0 15 (by omega)]; exact f1, by rw [g4]; exact f2, by rw [g5, h26], Or.inr g5⟩, fun _ => z3, fun _ => ?_⟩
      obtain ⟨⟨n, o1, o2, o3, o4⟩, w2, w3, w4, w5⟩ := c5
      exact ⟨c6, w5.1, w4.1, by rw [o3, o2], w4.2.2.2, fun c hc => ⟨(w2 c hc).2.1, (w2 c hc).1⟩⟩
    · refine pr_same hI0 (v := -1) ?_ ?_
      · rw [xf_Cw_run, if_neg hcl]
        by_cases y : x2 < 0
        · rw [if_pos y]
        · rw [if_neg y, if_neg (by rw [pv_lt, e0] at y; rw [pv_le, e2]; omega)]
      · rw [mf_Mo_run, if_neg (by rw [← f1]; exact hcl), hw, if_neg hx, Option.bind_some, if_pos rfl]
