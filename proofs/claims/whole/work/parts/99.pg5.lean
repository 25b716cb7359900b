theorem ru_Q_tr {g0 h0 : qa_St} {arg : Int32} {D p : Nat} {g h g' h' : qa_St} {R C : qa_Re} (hg : ∀ r k, 85 ≤ r → r < 85 + 2 * D → g' r k = g r k) (hL : ru_L (D - 1) h h') (h24 : h' 24 (D - 1) = h 24 (D - 1)) (hq : ru_Q g0 h0 arg D p g' h' R C) : ru_Q g0 h0 arg D p g h R C := by
  obtain ⟨o, g2, c1, c2, c3, c4⟩ := hq
  refine ⟨o, g2, c1, c2, fun r k a b => (c3 r k a b).trans (hg r k a b), ?_⟩
  rcases c4 with ⟨o0, hb, t, d1, d2, d3, d4, d5, d6⟩ | ⟨o1, hb, t, d1, d2, d3, d4, d5⟩ | y
  · exact Or.inl ⟨o0, hb, t, d1, d2, d3, ru_L_tr hL d4, d5.trans h24, d6⟩
  · exact Or.inr (Or.inl ⟨o1, hb, t, d1, d2, d3, ru_L_tr hL d4, d5⟩)
  · exact Or.inr (Or.inr y)
theorem ru_at_le {g0 h0 : qa_St} {m : Nat} {N : Nat → Int} {V : Nat → Nat → Int32} {j : Nat} {r : tc_F} (ha : tc_ar g0 h0 m N V (j : Int) r) : tc_fle g0 h0 r (tc_at N V j) := by
  obtain ⟨a1, a2, a3, a4⟩ := ha
  rw [Int.toNat_natCast] at a3 a4
  refine ⟨by show r.1 = (N j).toNat; omega, fun p hp => ?_⟩
  exact a4 p hp
/-- the loop of a method in the class, and the turns of the reference -/
theorem ru_loop {g0 h0 : qa_St} (hP : pr_P h0) (hRR : pr_R g0 h0) (hall : ∀ m : Nat, (m : Int) < (h0 0 4).toInt → pc_m g0 h0 m) {arg : Int32} (P : qa_St → Int32 → Int32 → qa_Re) {D : Nat} (hD : 1 ≤ D ∧ D ≤ 10) (hcal : D ≤ 9 → ru_cal g0 h0 arg P D) (hdeep : D = 10 → ∀ g x, P g x (Int32.ofNat 11) = some (1, qa_up g 78 12 (-5))) {m : Nat} (hm : (m : Int) < (h0 0 4).toInt) (p : Nat) : ∀ (s n q : Nat) (g h : qa_St) (pc t : Nat), (h 0 31).toInt - (h 0 30).toInt ≤ (s : Int) → s < n → (q : Int) ≤ (h 0 30).toInt → pc < 20 → mN h0 m pc ≠ -1 → ru_x g0 g → ru_J h0 g h → ru_V h0 (D - 1) h → h 0 32 = Int32.ofNat D → h 21 (D - 1) = Int32.ofNat m → h 22 (D - 1) = Int32.ofNat pc → h 25 (D - 1) = 0 → ru_F g0 h0 D (tc_at (mN h0 m) (mV h0 m) pc) g h → g (85 + 2 * D) 2 = Int32.ofNat pc → (t : Int) + p ≤ (h 0 30).toInt + ru_B h + 1 → ru_Q g0 h0 arg D p g h (RR arg t h) (xf_Ma_perform_43 P n g (Int32.ofNat m) (Int32.ofNat D) (85 + 2 * D) (Int32.ofNat q)) := by
  have hP0 := hP
  obtain ⟨hN, hC, hM, hU, hK, hG⟩ := hP
  have hN0 := hN
  obtain ⟨n0, n1, n2, n3⟩ := hN
  have qm := hM m hm
  have e0 : (0 : Int32).toInt = 0 := rfl
  have e1 : (1 : Int32).toInt = 1 := rfl
  have e2k : (2000 : Int32).toInt = 2000 := rfl
  have eD : (Int32.ofNat D).toInt = (D : Int) := pv_nI (by omega)
  have em : (Int32.ofNat m).toInt = (m : Int) := pv_nI (by omega)
  have emn : (Int32.ofNat m).toInt.toNat = m := by omega
  have hpo := (hall m hm).1
  intro s
  induction s with
  | zero =>
    intro n q g h pc t hs hn hq hpc hre hgx hJ hV hF h21 h22 h25 hFr hnx hbd
    obtain ⟨n, rfl⟩ : ∃ z, n = z + 1 := ⟨n - 1, by omega⟩
    obtain ⟨w1, w2, w3, w4, w5⟩ := hJ.2.1
    have hB6 := ru_B6 h
    have eq : (Int32.ofNat q).toInt = (q : Int) := pv_nI (by omega)
    have hsp : h 0 30 = h 0 31 := by rw [pv_eq]; omega
    refine ⟨2, g, ?_, hgx, fun _ _ _ _ => rfl, Or.inr (Or.inr ⟨rfl, qa_up h 0 28 2, ?_, ⟨fun r k a b => by rw [pv_nr (by omega)]; exact hJ.1.1 r k a b, fun k hk => by rw [pv_ni (by omega)]; exact hJ.1.2 k hk⟩, ?_, by rw [pv_ni (by decide)]; exact hJ.2.2.2⟩)⟩
    · rw [xf_Ma_perform_43, if_neg (by rw [pv_lt, e2k, eq]; omega), if_neg (by rw [w5.1, w5.2.1, hsp, pv_lt]; omega)]
    · rw [RR_turn arg t h (by omega) (by rw [hJ.2.2.1]; decide) (by rw [hF, eD]; omega), ms_spent hD hF h25 hsp, Option.bind_some]
      dsimp only
      rw [RR_end arg (t + 1) _ (by omega) (by rw [pv_self]; decide), pv_self]
    · obtain ⟨nn, u1, u2, u3, u4⟩ := w1
      have hB : ru_B (qa_up h 0 28 2) = ru_B h := by
        unfold ru_B
        rw [show qa_up h 0 28 2 31 = h 31 from funext fun k => pv_nr (by decide)]
      refine ⟨⟨nn, u1, by rw [pv_ni (by decide)]; exact u2, u3, fun k hk => by rw [pv_nr (by decide)]; exact ⟨(u4 k hk).1, (u4 k hk).2.1, fun i hi => by rw [pv_nr (by decide)]; exact (u4 k hk).2.2 i hi⟩⟩, fun c hc => by rw [pv_nr (by decide), pv_nr (by decide)]; exact w2 c hc, ⟨by rw [pv_ni (by decide)]; exact w3.1, by rw [pv_ni (by decide), hB]; exact w3.2⟩, ⟨by rw [pv_ni (by decide)]; exact w4.1, by rw [pv_ni (by decide)]; exact w4.2.1, by rw [pv_ni (by decide), pv_ni (by decide)]; exact w4.2.2.1, fun k hk => by rw [pv_ni (by decide), pv_nr (by decide)]; exact w4.2.2.2 k hk⟩, by rw [pv_ni (by decide), pv_ni (by decide)]; exact w5⟩
  | succ s ih =>
    intro n q g h pc t hs hn hq hpc hre hgx hJ hV hF h21 h22 h25 hFr hnx hbd
    obtain ⟨n, rfl⟩ : ∃ z, n = z + 1 := ⟨n - 1, by omega⟩
    obtain ⟨w1, w2, w3, w4, w5⟩ := hJ.2.1
    have hB6 := ru_B6 h
    have eq : (Int32.ofNat q).toInt = (q : Int) := pv_nI (by omega)
    by_cases hsp : h 0 30 = h 0 31
    · -- no step is left
      refine ⟨2, g, ?_, hgx, fun _ _ _ _ => rfl, Or.inr (Or.inr ⟨rfl, qa_up h 0 28 2, ?_, ⟨fun r k a b => by rw [pv_nr (by omega)]; exact hJ.1.1 r k a b, fun k hk => by rw [pv_ni (by omega)]; exact hJ.1.2 k hk⟩, ?_, by rw [pv_ni (by decide)]; exact hJ.2.2.2⟩)⟩
      · rw [xf_Ma_perform_43, if_neg (by rw [pv_lt, e2k, eq]; omega), if_neg (by rw [w5.1, w5.2.1, hsp, pv_lt]; omega)]
      · rw [RR_turn arg t h (by omega) (by rw [hJ.2.2.1]; decide) (by rw [hF, eD]; omega), ms_spent hD hF h25 hsp, Option.bind_some]
        dsimp only
        rw [RR_end arg (t + 1) _ (by omega) (by rw [pv_self]; decide), pv_self]
      · obtain ⟨nn, u1, u2, u3, u4⟩ := w1
        have hB : ru_B (qa_up h 0 28 2) = ru_B h := by
          unfold ru_B
          rw [show qa_up h 0 28 2 31 = h 31 from funext fun k => pv_nr (by decide)]
        refine ⟨⟨nn, u1, by rw [pv_ni (by decide)]; exact u2, u3, fun k hk => by rw [pv_nr (by decide)]; exact ⟨(u4 k hk).1, (u4 k hk).2.1, fun i hi => by rw [pv_nr (by decide)]; exact (u4 k hk).2.2 i hi⟩⟩, fun c hc => by rw [pv_nr (by decide), pv_nr (by decide)]; exact w2 c hc, ⟨by rw [pv_ni (by decide)]; exact w3.1, by rw [pv_ni (by decide), hB]; exact w3.2⟩, ⟨by rw [pv_ni (by decide)]; exact w4.1, by rw [pv_ni (by decide)]; exact w4.2.1, by rw [pv_ni (by decide), pv_ni (by decide)]; exact w4.2.2.1, fun k hk => by rw [pv_ni (by decide), pv_nr (by decide)]; exact w4.2.2.2 k hk⟩, by rw [pv_ni (by decide), pv_ni (by decide)]; exact w5⟩
    · have hspi : (h 0 30).toInt < (h 0 31).toInt := by
        have : ¬ (h 0 30).toInt = (h 0 31).toInt := fun z => hsp (by rw [pv_eq]; exact z)
        omega
      have hil : (pc : Int) < (h0 7 m).toInt := by
        rcases hpo.1 pc hpc with y | y
        · exact absurd y hre
        · exact y.1
      obtain ⟨f, hf⟩ : ∃ f, f = tc_at (mN h0 m) (mV h0 m) pc := ⟨_, rfl⟩
      rw [← hf] at hFr
      obtain ⟨r, hr, hsc, hhd⟩ := hpo.2.2 pc hpc hre
      rw [← hf] at hr hhd
      obtain ⟨x1, hx1⟩ : ∃ x, x = h0 8 (20 * m + pc) := ⟨_, rfl⟩
      obtain ⟨x2, hx2⟩ : ∃ x, x = h0 9 (20 * m + pc) := ⟨_, rfl⟩
      rw [← hx1, ← hx2] at hr hsc
      have ep : (Int32.ofNat pc).toInt = (pc : Int) := pv_nI (by omega)
      have epn : (Int32.ofNat pc).toInt.toNat = pc := by omega
      have hs1 : (h 0 30 + 1).toInt = (h 0 30).toInt + 1 := by rw [pv_add (by rw [e1]; omega) (by rw [e1]; omega), e1]
      -- fetch
      obtain ⟨g1, hg1⟩ : ∃ g1, g1 = qa_up (qa_up g 78 10 (g 78 10 + 1)) (85 + 2 * D) 2 (Int32.ofNat (pc + 1)) := ⟨_, rfl⟩
      obtain ⟨h1, hh1⟩ : ∃ h1, h1 = qa_up (qa_up h 0 30 (h 0 30 + 1)) 25 (D - 1) 0 := ⟨_, rfl⟩
      have kg : ∀ r k, ¬ (r = 78 ∧ k = 10) → ¬ (r = 85 + 2 * D ∧ k = 2) → g1 r k = g r k := fun r k z1 z2 => by rw [hg1, pv_get, if_neg z2, pv_get, if_neg z1]
      have kh : ∀ r k, ¬ (r = 0 ∧ k = 30) → h1 r k = h r k := fun r k z1 => by
        rw [hh1]
        by_cases z2 : r = 25 ∧ k = D - 1
        · rw [z2.1, z2.2, pv_self, h25]
        · rw [pv_get, if_neg z2, pv_get, if_neg z1]
      have h130 : h1 0 30 = h 0 30 + 1 := by rw [hh1, pv_nr (by decide), pv_self]
      have hgx1 : ru_x g0 g1 := fun r k hr => by rw [kg r k (by omega) (by omega)]; exact hgx r k hr
      have hm1 : ru_m h0 h1 := ⟨fun r k a b => by rw [kh r k (by omega)]; exact hJ.1.1 r k a b, fun k hk => by rw [kh 0 k (by omega)]; exact hJ.1.2 k hk⟩
      have hB1 : ru_B h1 = ru_B h := by
        unfold ru_B
        rw [show h1 31 = h 31 from funext fun k => kh 31 k (by omega)]
      have hG1 : ru_G h0 g1 h1 := by
        obtain ⟨nn, u1, u2, u3, u4⟩ := w1
        refine ⟨⟨nn, u1, by rw [kh 0 40 (by omega)]; exact u2, by rw [kg 78 8 (by omega) (by omega)]; exact u3, fun k hk => by rw [kg 82 k (by omega) (by omega), kh 28 k (by omega)]; exact ⟨(u4 k hk).1, (u4 k hk).2.1, fun i hi => by rw [kg 83 _ (by omega) (by omega), kh 29 _ (by omega)]; exact (u4 k hk).2.2 i hi⟩⟩, fun c hc => by rw [kg 80 c (by omega) (by omega), kg 81 c (by omega) (by omega), kh 30 c (by omega), kh 31 c (by omega)]; exact w2 c hc, ⟨by rw [kg 78 7 (by omega) (by omega), kh 0 45 (by omega)]; exact w3.1, by rw [kh 0 45 (by omega), hB1]; exact w3.2⟩, ⟨by rw [kg 78 9 (by omega) (by omega), kh 0 46 (by omega)]; exact w4.1, by rw [kh 0 46 (by omega)]; exact w4.2.1, by rw [kh 0 46 (by omega), h130, hs1]; have := w4.2.2.1; omega, fun k hk => by rw [kg 84 k (by omega) (by omega), kh 0 46 (by omega), kh 32 k (by omega)]; exact w4.2.2.2 k hk⟩, ⟨?_, ?_, ?_, ?_, ?_⟩⟩
        · rw [h130, hg1, pv_nr (by omega), pv_self, w5.1]
        · rw [kg 78 11 (by omega) (by omega), kh 0 31 (by omega)]; exact w5.2.1
        · rw [h130, hs1]; omega
        · rw [h130, hs1, kh 0 31 (by omega)]; omega
        · rw [kh 0 31 (by omega)]; exact w5.2.2.2.2
      have hF1 : h1 0 32 = Int32.ofNat D := by rw [kh 0 32 (by omega)]; exact hF
      have hZ1 : ru_Z h1 := ⟨by rw [kh 0 28 (by omega)]; exact hJ.2.2.1, by rw [kh 0 29 (by omega)]; exact hJ.2.2.2⟩
      have hFr1 : ru_F g0 h0 D f g1 h1 := ru_F_w (fun k => kg _ k (by omega) (by omega)) (kg _ 1 (by omega) (by omega)) (kh 23 _ (by omega)) (fun k => kh 26 k (by omega)) (fun k => kh 27 k (by omega)) (by rw [kh 0 40 (by omega)]; exact Int.le_refl _) (fun k _ => kh 28 k (by omega)) hFr
      have hpre : ru_pre g0 h0 D pc f g1 h1 := ⟨hD, hpc, hgx1, hm1, hG1, hF1, by rw [kh 22 _ (by omega)]; exact h22, hFr1, by rw [hg1, pv_self]⟩
      have hV1 : ru_V h0 D h1 := fun i hi => by
        by_cases hiD : i = D - 1
        · exact ⟨m, pc, by rw [kh 21 i (by omega), hiD]; exact h21, by rw [kh 22 i (by omega), hiD]; exact h22, hm, hpc⟩
        · obtain ⟨m1, pp, l1, l2, l3⟩ := hV i (by omega)
          exact ⟨m1, pp, by rw [kh 21 i (by omega)]; exact l1, by rw [kh 22 i (by omega)]; exact l2, l3⟩
      have hE := ru_step hP0 hRR P hcal hdeep (t := t) (p := p) hpre hZ1 hm hil (by rw [kh 21 _ (by omega)]; exact h21) (by rw [kh 25 _ (by omega)]; exact h25) hV1 hx1 hx2 (by rw [kh 0 46 (by omega), h130, hs1]; have := w4.2.2.1; omega) hr (by rw [h130, hs1, hB1]; omega)
      -- the turn
      have hin := ms_inst hP0 (ru_m_pm hJ.1) hD hm hil hF h21 h22 1 (Or.inl ⟨h25, hsp, rfl⟩)
      have hRR' : RR arg t h = (if ru_c h0 x1 x2 < 0 then ru_KK arg D x1 x2 t h1 else TK arg (ru_KK arg D x1 x2) t (mf_Mo_trigger h1 (ru_c h0 x1 x2))) := by
        rw [RR_turn arg t h (by omega) (by rw [hJ.2.2.1]; decide) (by rw [hF, eD]; omega), hin, ← hh1, ← hx1, ← hx2, ms_135]
      rw [← hRR'] at hE
      -- the class
      have hRg1 := xp_R (ru_x_xp hgx1) hN0 hRR hC
      have hop := xs_opOf (Int32.ofNat m) (Int32.ofNat pc) hN0 hM hRg1.1.2 hRg1.2.2.2.1 hRg1.2.2.2.2.2.1 (by omega)
      rw [emn, epn, if_pos (by omega), if_pos (by omega), ← hx1, ← hx2] at hop
      obtain ⟨o, g2, E1, E2, E3, E4⟩ := hE
      have hcl : xf_Ma_perform_43 P (n + 1) g (Int32.ofNat m) (Int32.ofNat D) (85 + 2 * D) (Int32.ofNat q) = (if o = (2 : Int32) then (some (o, g2)) else (if o = 0 then (if x1 = (22 : Int32) then (some (o, g2)) else (xf_Ma_perform_140 P (xf_Ma_perform_43 P n) g2 (Int32.ofNat m) (Int32.ofNat D) (85 + 2 * D) (Int32.ofNat q) (Int32.ofNat pc) o)) else (xf_Ma_perform_140 P (xf_Ma_perform_43 P n) g2 (Int32.ofNat m) (Int32.ofNat D) (85 + 2 * D) (Int32.ofNat q) (Int32.ofNat pc) o))) := by
        rw [xf_Ma_perform_43, if_neg (by rw [pv_lt, e2k, eq]; omega), if_pos (by rw [w5.1, w5.2.1, pv_lt]; exact hspi)]
        unfold xf_Fr_next xf_Fr_setNext
        rw [Option.bind_some]
        dsimp only
        rw [Option.bind_some]
        dsimp only
        rw [pv_nr (show 85 + 2 * D ≠ 78 by omega), hnx, pv_n1, ← hg1, hop.1, Option.bind_some]
        dsimp only
        rw [hop.2, Option.bind_some]
        dsimp only
        rw [E1, Option.bind_some]
      rw [hcl]
      have hlowg : ∀ r k, 85 ≤ r → r < 85 + 2 * D → g2 r k = g r k := fun r k a b => by rw [E3 r k a b, kg r k (by omega) (by omega)]
      have hLh : ru_L (D - 1) h h1 := ⟨fun r k a b c => kh r k (by omega), fun k _ => kh 26 k (by omega), fun k _ => kh 27 k (by omega), kh 0 27 (by omega), kh 0 31 (by omega), by rw [h130, hs1]; omega, by rw [kh 0 40 (by omega)]; exact Int.le_refl _, fun k _ => kh 28 k (by omega), fun c _ z => by rw [kh 31 c (by omega)]; exact z⟩
      rcases E4 with ⟨o0, z22, h2, t2, j, r', b1, b2, b3, b4, b5, b6, b7, b8, b9, b10, b11⟩ | ⟨o0, z22, h2, t2, b1, b2, b3, b4, b5, b6⟩ | ⟨o1, h2, t2, b1, b2, b3, b4, b5, b6, b7⟩ | ⟨o2, hb, b1⟩
      · -- goes on at j
        rw [o0, if_neg (by decide), if_pos rfl, if_neg z22]
        unfold xf_Ma_perform_140 xf_Ma_perform_176
        rw [if_neg (by decide), pv_n1, b3]
        rw [hr] at b1
        cases b1
        have har := hsc (j : Int) b2
        have hj20 : j < 20 := by have := har.2.1; omega
        have hNj : mN h0 m j ≠ -1 := by
          have := har.2.2.1
          rw [Int.toNat_natCast] at this
          omega
        have hL2 := ru_L_tr hLh b6
        have h30' := b6.2.2.2.2.2.1
        rw [h130, hs1] at h30'
        have h31' := hL2.2.2.2.2.1
        have hrec := ih n (q + 1) g2 h2 j t2 (by rw [h31']; omega) (by omega) (by omega) hj20 hNj E2 b4 (ru_V_L (Nat.le_refl _) hL2 hV) b5 (by rw [b7.1, kh 21 _ (by omega)]; exact h21) b8 b7.2.2 (ru_F_le hN0 hC hRR.2.1 (ru_at_le har) b9) b10 b11
        exact ru_Q_tr hlowg hL2 (by rw [b7.2.1, kh 24 _ (by omega)]) hrec
      · -- RETURN
        rw [o0, if_neg (by decide), if_pos rfl, if_pos z22]
        exact ⟨0, g2, rfl, E2, hlowg, Or.inl ⟨rfl, h2, t2, b1, b2, b3, ru_L_tr hLh b4, by rw [b5, kh 24 _ (by omega)], b6⟩⟩
      · -- thrown
        rw [o1, if_neg (by decide), if_neg (by decide)]
        have hL2 := ru_L_tr hLh b4
        have hRg2 := xp_R (ru_x_xp E2) hN0 hRR hC
        have hhdx := xs_handlerOf hN0 hM hRg2.1.2 hRg2.2.2.2.1 hRg2.2.2.2.2.2.2 (Int32.ofNat m) (Int32.ofNat pc) (by omega)
        rw [emn, ep] at hhdx
        have hge := pr_hd_ge hM hG hm (pc : Int) 4 0
        have h221 : h2 21 (D - 1) = Int32.ofNat m := by rw [b5.1, kh 21 _ (by omega)]; exact h21
        have h222 : h2 22 (D - 1) = Int32.ofNat pc := by rw [b5.2.1, kh 22 _ (by omega)]; exact h22
        have hra := ms_raise1 hP0 (ru_m_pm b2.1) hD hm b3 h221 h222 hpc 4095 (g2 78 12)
        have hra : mf_Mo_raise h2 (g2 78 12) = _ := hra
        unfold xf_Ma_perform_140
        rw [if_pos rfl, hhdx, Option.bind_some]
        dsimp only
        rcases hge with hz | hz
        · -- no handler
          rw [if_pos hz]
          have hb : (pr_hd h0 m pc 4 0).toInt < 0 := by rw [hz]; decide
          rw [if_pos hb] at hra
          obtain ⟨hb3, hhb3⟩ : ∃ hb3, hb3 = qa_up h2 0 32 (Int32.ofNat (D - 1)) := ⟨_, rfl⟩
          rw [← hhb3] at hra
          have k3 : ∀ r k, ¬ (r = 0 ∧ k = 32) → hb3 r k = h2 r k := fun r k z => by rw [hhb3, pv_get, if_neg z]
          have hm3 : ru_m h0 hb3 := ⟨fun r k a b => by rw [k3 r k (by omega)]; exact b2.1.1 r k a b, fun k hk => by rw [k3 0 k (by omega)]; exact b2.1.2 k hk⟩
          have hF3 : hb3 0 32 = Int32.ofNat (D - 1) := by rw [hhb3, pv_self]
          have hV3 : ru_V h0 (D - 1) hb3 := fun i hi => by
            obtain ⟨m1, pp, l1, l2, l3⟩ := ru_V_L (Nat.le_refl _) hL2 hV i hi
            exact ⟨m1, pp, by rw [k3 21 i (by omega)]; exact l1, by rw [k3 22 i (by omega)]; exact l2, l3⟩
          have hfu := ms_raise_fuel hP0 (D - 1) hb3 (by omega) (ru_m_pm hm3) hF3 hV3 4095 4096 (g2 78 12) (by omega) (by omega)
          have hB3 : ru_B hb3 = ru_B h2 := by
            unfold ru_B
            rw [show hb3 31 = h2 31 from funext fun k => k3 31 k (by omega)]
          refine ⟨1, g2, rfl, E2, hlowg, Or.inr (Or.inl ⟨rfl, hb3, t2, ?_, ⟨hm3, ?_, ⟨by rw [k3 0 28 (by omega)]; exact b2.2.2.1, by rw [k3 0 29 (by omega)]; exact b2.2.2.2⟩⟩, hF3, ?_, by rw [k3 0 30 (by omega), hB3]; exact b7⟩)⟩
          · rw [b1, hra, hfu]
            rfl
          · obtain ⟨⟨nn, u1, u2, u3, u4⟩, u5, u6, u7, u8⟩ := b2.2.1
            exact ⟨⟨nn, u1, by rw [k3 0 40 (by omega)]; exact u2, u3, fun k hk => by rw [k3 28 k (by omega)]; exact ⟨(u4 k hk).1, (u4 k hk).2.1, fun i hi => by rw [k3 29 _ (by omega)]; exact (u4 k hk).2.2 i hi⟩⟩, fun c hc => by rw [k3 30 c (by omega), k3 31 c (by omega)]; exact u5 c hc, ⟨by rw [k3 0 45 (by omega)]; exact u6.1, by rw [k3 0 45 (by omega), hB3]; exact u6.2⟩, ⟨by rw [k3 0 46 (by omega)]; exact u7.1, by rw [k3 0 46 (by omega)]; exact u7.2.1, by rw [k3 0 46 (by omega), k3 0 30 (by omega)]; exact u7.2.2.1, fun k hk => by rw [k3 0 46 (by omega), k3 32 k (by omega)]; exact u7.2.2.2 k hk⟩, by rw [k3 0 30 (by omega), k3 0 31 (by omega)]; exact u8⟩
          · refine ru_L_tr hL2 ⟨fun r k a b c => k3 r k (by omega), fun k _ => k3 26 k (by omega), fun k _ => k3 27 k (by omega), k3 0 27 (by omega), k3 0 31 (by omega), by rw [k3 0 30 (by omega)]; exact Int.le_refl _, by rw [k3 0 40 (by omega)]; exact Int.le_refl _, fun k _ => k3 28 k (by omega), fun c _ z => by rw [k3 31 c (by omega)]; exact z⟩
        · -- the handler
          rw [if_neg (fun z => by rw [z] at hz; exact absurd hz.1 (by decide)), xs_goOn, Option.bind_some]
          rw [if_neg (by omega)] at hra
          obtain ⟨hd, hhde⟩ : ∃ hd : Nat, hd = (pr_hd h0 m pc 4 0).toInt.toNat := ⟨_, rfl⟩
          have ehd : pr_hd h0 m pc 4 0 = Int32.ofNat hd := by rw [hhde]; exact pv_nIe hz.1
          rw [ehd] at hra ⊢
          obtain ⟨h3, hh3⟩ : ∃ h3, h3 = qa_up (qa_up (qa_up (qa_up h2 22 (D - 1) (Int32.ofNat hd)) 23 (D - 1) 1) 27 (6 * (D - 1)) (g2 78 12)) 25 (D - 1) 0 := ⟨_, rfl⟩
          rw [← hh3] at hra
          obtain ⟨g3, hg3⟩ : ∃ g3, g3 = qa_up (qa_up (qa_up (qa_up g2 (85 + 2 * D) 1 0) (85 + 2 * D + 1) 4 (g2 78 12)) (85 + 2 * D) 1 1) (85 + 2 * D) 2 (Int32.ofNat hd) := ⟨_, rfl⟩
          unfold xf_Ma_perform_176
          dsimp only
          rw [← hg3, pv_n1]
          have k3 : ∀ r k, ¬ (r = 22 ∧ k = D - 1) → ¬ (r = 23 ∧ k = D - 1) → ¬ (r = 27 ∧ k = 6 * (D - 1)) → ¬ (r = 25 ∧ k = D - 1) → h3 r k = h2 r k := fun r k z1 z2 z3 z4 => by rw [hh3, pv_get, if_neg z4, pv_get, if_neg z3, pv_get, if_neg z2, pv_get, if_neg z1]
          have kg3 : ∀ r k, ¬ (r = 85 + 2 * D) → ¬ (r = 86 + 2 * D ∧ k = 4) → g3 r k = g2 r k := fun r k z1 z2 => by rw [hg3, pv_nr z1, pv_nr z1, pv_get, if_neg (by omega), pv_nr z1]
          have hhd' := hhd hz.1
          rw [show (pr_hd h0 m pc 4 0).toInt = ((hd : Nat) : Int) by omega] at hhd'
          have hNj : mN h0 m hd ≠ -1 := by
            have := hhd'.2.2.1
            rw [Int.toNat_natCast] at this
            have e : (tc_hf f).1 = 1 := rfl
            omega
          have hB3 : ru_B h3 = ru_B h2 := by
            unfold ru_B
            rw [show h3 31 = h2 31 from funext fun k => k3 31 k (by omega) (by omega) (by omega) (by omega)]
          have hty : ∀ {t v : Int32}, ru_ty g0 h0 h2 t v → ru_ty g0 h0 h3 t v := fun {t v} hv => ru_ty_up (by rw [k3 0 40 (by omega) (by omega) (by omega) (by omega)]; exact Int.le_refl _) (fun k _ => k3 28 k (by omega) (by omega) (by omega) (by omega)) hv
          have hF3 : ru_F g0 h0 D (tc_hf f) g3 h3 := by
            refine ⟨by show 1 ≤ 6; omega, by rw [hg3, pv_ni (by decide), pv_self]; rfl, by rw [hh3, pv_nr (by decide), pv_nr (by decide), pv_self]; rfl, fun k hk => ?_, fun q hq hzz => ?_⟩
            · have hk : k < 1 := hk
              have hk0 : k = 0 := by omega
              rw [hk0]
              show _ ∧ ru_ty g0 h0 _ (tc_up f.2 4 9 4) _
              rw [tc_up_s]
              refine ⟨?_, ru_9 _⟩
              rw [hg3, pv_nr (by omega), pv_nr (by omega), show 86 + 2 * D = 85 + 2 * D + 1 by omega, pv_self, hh3, pv_nr (by decide), Nat.add_zero, pv_self]
            · have hzz : tc_up f.2 4 9 q ≠ 8 := hzz
              show _ ∧ ru_ty g0 h0 _ (tc_up f.2 4 9 q) _
              rw [tc_up_n (by omega)] at hzz ⊢
              rw [kg3 _ q (by omega) (by omega), k3 26 _ (by omega) (by omega) (by omega) (by omega)]
              exact ⟨(b6 q hq hzz).1, hty (b6 q hq hzz).2⟩
          have hL3 : ru_L (D - 1) h h3 := ru_L_tr hL2 ⟨fun r k a b c => k3 r k (by omega) (by omega) (by omega) (by omega), fun k _ => k3 26 k (by omega) (by omega) (by omega) (by omega), fun k hk => k3 27 k (by omega) (by omega) (by omega) (by omega), k3 0 27 (by omega) (by omega) (by omega) (by omega), k3 0 31 (by omega) (by omega) (by omega) (by omega), by rw [k3 0 30 (by omega) (by omega) (by omega) (by omega)]; exact Int.le_refl _, by rw [k3 0 40 (by omega) (by omega) (by omega) (by omega)]; exact Int.le_refl _, fun k _ => k3 28 k (by omega) (by omega) (by omega) (by omega), fun c _ z => by rw [k3 31 c (by omega) (by omega) (by omega) (by omega)]; exact z⟩
          have hJ3 : ru_J h0 g3 h3 := by
            refine ⟨⟨fun r k a b => by rw [k3 r k (by omega) (by omega) (by omega) (by omega)]; exact b2.1.1 r k a b, fun k hk => by rw [k3 0 k (by omega) (by omega) (by omega) (by omega)]; exact b2.1.2 k hk⟩, ?_, ⟨by rw [k3 0 28 (by omega) (by omega) (by omega) (by omega)]; exact b2.2.2.1, by rw [k3 0 29 (by omega) (by omega) (by omega) (by omega)]; exact b2.2.2.2⟩⟩
            exact ru_G_w (fun r k a b _ => kg3 r k (by omega) (by omega)) (fun r k hr => k3 r k (by omega) (by omega) (by omega) (by omega)) b2.2.1
          have h30' := b4.2.2.2.2.2.1
          rw [h130, hs1] at h30'
          have h31' := hL3.2.2.2.2.1
          have h303 : h3 0 30 = h2 0 30 := k3 0 30 (by omega) (by omega) (by omega) (by omega)
          have hrec := ih n (q + 1) g3 h3 hd (t2 + 1) (by rw [h31', h303]; omega) (by omega) (by rw [h303]; omega) (by omega) hNj (fun r k hr => by rw [kg3 r k (by omega) (by omega)]; exact E2 r k hr) hJ3 (ru_V_L (Nat.le_refl _) hL3 hV) (by rw [k3 0 32 (by omega) (by omega) (by omega) (by omega)]; exact b3) (by rw [k3 21 _ (by omega) (by omega) (by omega) (by omega)]; exact h221) (by rw [hh3, pv_nr (by decide), pv_nr (by decide), pv_nr (by decide), pv_self]) (by rw [hh3, pv_self]) (ru_F_le hN0 hC hRR.2.1 (ru_at_le hhd') hF3) (by rw [hg3, pv_self]) (by rw [h303, hB3]; omega)
          have hRe : RR arg t h = RR arg (t2 + 1) h3 := by
            rw [b1, hra]
            rfl
          rw [hRe]
          exact ru_Q_tr (fun r k a b => by rw [kg3 r k (by omega) (by omega)]; exact hlowg r k a b) hL3 (by rw [k3 24 _ (by omega) (by omega) (by omega) (by omega), b5.2.2, kh 24 _ (by omega)]) hrec
      · rw [o2, if_pos rfl]
        exact ⟨2, g2, rfl, E2, hlowg, Or.inr (Or.inr ⟨rfl, hb, b1⟩)⟩
