/-! Promise 13: run -/
theorem pr_R_1 {g g' h : qa_St} (hp : ∀ r k, 1 ≤ r → r < 72 → g' r k = g r k) (hN : pr_N h) (hR : pr_R g h) (hC : pr_C h) : pr_R g' h := by
  obtain ⟨ge, hge⟩ : ∃ ge : qa_St, ge = fun r k => if r = 0 then g r k else g' r k := ⟨_, rfl⟩
  have h1 : xp g ge := fun r k hr => by
    rw [hge]; dsimp only
    by_cases y : r = 0
    · rw [if_pos y]
    · rw [if_neg y, hp r k (by omega) hr]
  have kg : ∀ r k, r ≠ 0 → g' r k = ge r k := fun r k hr => by rw [hge]; dsimp only; rw [if_neg hr]
  obtain ⟨⟨r1, r2⟩, hT, hO, hQ, hZ, hL, hH⟩ := xp_R h1 hN hR hC
  refine ⟨⟨by rw [kg 1 0 (by decide)]; exact r1, by rw [kg 1 1 (by decide)]; exact r2⟩, fun c hc => ?_, fun c s hc hs => ?_, fun m hm => ?_, fun m hm hm' => ?_, fun m i hm hi => ?_, fun m k hm hk => ?_⟩
  · rw [kg 2 c (by omega), kg 2 _ (by omega), kg 3 c (by omega), kg 3 _ (by omega), kg 4 c (by omega)]; exact hT c hc
  · rw [kg (6 + c) s (by omega)]; exact hO c s hc hs
  · rw [kg 12 m (by omega), kg 13 m (by omega), kg 14 m (by omega), kg 15 m (by omega), kg 38 m (by omega)]; exact hQ m hm
  · rw [kg 15 m (by omega), kg 38 m (by omega)]; exact hZ m hm hm'
  · rw [kg (17 + m) i (by omega), kg (28 + m) i (by omega)]; exact hL m i hm hi
  · rw [kg (40 + m) k (by omega), kg (51 + m) k (by omega), kg (62 + m) k (by omega)]; exact hH m k hm hk
theorem pr_run_keep {g h g' h' : qa_St} (hP : pr_P h) (hR : pr_R g h) (hC : pr_PC g h) (h1 : ∀ r k, 1 ≤ r → r < 78 → g' r k = g r k) (h2 : ∀ r k, 1 ≤ r → r < 21 → h' r k = h r k) (h3 : h' 0 0 = h 0 0) (h4 : h' 0 4 = h 0 4) : pr_P h' ∧ pr_R g' h' ∧ pr_PC g' h' := by
  have hpm : pm h h' := ⟨fun r k a b => h2 r k a (by omega), h3, h4⟩
  have hPh := pm_P hpm hP
  have hRh := pr_R_1 (fun r k a b => h1 r k a (by omega)) hPh.1 (pm_R hpm hR) hPh.2.1
  refine ⟨hPh, hRh, ?_⟩
  obtain ⟨c1, c2, c3, c4, c5, c6⟩ := hC
  obtain ⟨ge, hge⟩ : ∃ ge : qa_St, ge = fun r k => if r = 0 then g r k else g' r k := ⟨_, rfl⟩
  have ka : ∀ r k, r < 78 → ge r k = g r k := fun r k hr => by
    rw [hge]; dsimp only
    by_cases y : r = 0
    · rw [if_pos y]
    · rw [if_neg y, h1 r k (by omega) hr]
  have kg : ∀ r k, r ≠ 0 → g' r k = ge r k := fun r k hr => by rw [hge]; dsimp only; rw [if_neg hr]
  have hpc : ∀ m : Nat, (m : Int) < (h' 0 4).toInt → pc_m g' h' m := fun m hm => by
    rw [h4] at hm
    refine pc_m_0 (g := ge) kg ?_
    exact pc_keep hP hR hm (fun r k hr => ka r k (by omega)) hpm (fun i _ => ⟨ka 74 _ (by decide), fun p _ => ka 73 _ (by decide)⟩) (fun i _ => ⟨h2 14 _ (by decide) (by decide), h2 15 _ (by decide) (by decide), fun p _ => h2 16 _ (by decide) (by decide)⟩) (c3 m hm)
  refine ⟨fun m i hm hi => (hpc m hm).2 i hi, ⟨fun m hm => ?_, fun c hc => ?_⟩, hpc, by rw [h4]; exact c4, by rw [h2 5 0 (by decide) (by decide)]; exact c5, by rw [h2 6 0 (by decide) (by decide)]; exact c6⟩
  · rw [h2 18 m (by decide) (by decide), h1 77 2 (by decide) (by decide)]
    rw [h4] at hm
    exact c2.1 m hm
  · rw [h2 20 c (by decide) (by decide), h1 77 3 (by decide) (by decide)]
    rw [h3] at hc
    exact c2.2 c hc
theorem ru_G_h {h0 g g' h h' : qa_St} (h1 : ∀ r k, 78 ≤ r → r < 85 → (r = 78 → k ≠ 12) → g' r k = g r k) (h2 : ∀ r k, (r = 0 ∧ k ≠ 27 ∧ k ≠ 28 ∧ k ≠ 29 ∧ k ≠ 32) ∨ 28 ≤ r → h' r k = h r k) (hG : ru_G h0 g h) : ru_G h0 g' h' := by
  obtain ⟨⟨n, o1, o2, o3, o4⟩, b1, ⟨c1, c2⟩, ⟨d1, d2, d3, d4⟩, e1, e2, e3, e4, e5⟩ := hG
  have hB : ru_B h' = ru_B h := by
    have : h' 31 = h 31 := funext fun k => h2 31 k (by omega)
    unfold ru_B
    rw [this]
  refine ⟨⟨n, o1, by rw [h2 0 40 (by omega)]; exact o2, by rw [h1 78 8 (by omega) (by omega) (by omega)]; exact o3, fun k hk => ?_⟩, fun c hc => ?_, ⟨?_, ?_⟩, ⟨?_, ?_, ?_, fun k hk => ?_⟩, ?_, ?_, ?_, ?_, ?_⟩
  · obtain ⟨w1, w2, w3⟩ := o4 k hk
    rw [h1 82 k (by omega) (by omega) (by omega), h2 28 k (by omega)]
    exact ⟨w1, w2, fun j hj => by rw [h1 83 _ (by omega) (by omega) (by omega), h2 29 _ (by omega)]; exact w3 j hj⟩
  · rw [h1 80 c (by omega) (by omega) (by omega), h1 81 c (by omega) (by omega) (by omega), h2 30 c (by omega), h2 31 c (by omega)]
    exact b1 c hc
  · rw [h1 78 7 (by omega) (by omega) (by omega), h2 0 45 (by omega)]; exact c1
  · rw [h2 0 45 (by omega), hB]; exact c2
  · rw [h1 78 9 (by omega) (by omega) (by omega), h2 0 46 (by omega)]; exact d1
  · rw [h2 0 46 (by omega)]; exact d2
  · rw [h2 0 46 (by omega), h2 0 30 (by omega)]; exact d3
  · rw [h1 84 k (by omega) (by omega) (by omega), h2 0 46 (by omega), h2 32 k (by omega)]; exact d4 k hk
  · rw [h1 78 10 (by omega) (by omega) (by omega), h2 0 30 (by omega)]; exact e1
  · rw [h1 78 11 (by omega) (by omega) (by omega), h2 0 31 (by omega)]; exact e2
  · rw [h2 0 30 (by omega)]; exact e3
  · rw [h2 0 30 (by omega), h2 0 31 (by omega)]; exact e4
  · rw [h2 0 31 (by omega)]; exact e5
/-- both have ended alike -/
def ru_fi (g0 h0 : qa_St) (C R : qa_Re) : Prop := ∃ (o : Int32) (g' h' : qa_St), C = some (o, g') ∧ R = some (o, h') ∧ ru_x g0 g' ∧ ru_m h0 h' ∧ ru_G h0 g' h' ∧ g' 78 12 = h' 0 29
theorem ru_end0 {g0 h0 g' hb : qa_St} {arg : Int32} {t : Nat} (hx : ru_x g0 g') (hJ : ru_J h0 g' hb) (hF : hb 0 32 = Int32.ofNat 1) (h27 : hb 0 27 = 1) (ht : t < 3999) : ru_fi g0 h0 (xf_Ma_start_93 g' 0) ((mf_Mo_leave hb (g' 78 12)).bind fun z => RR arg (t + 1) z.2) := by
  obtain ⟨hz, hhz⟩ : ∃ hz, hz = qa_up (qa_up (qa_up hb 0 32 0) 0 28 0) 0 29 (g' 78 12) := ⟨_, rfl⟩
  have k1 : ∀ r k, ¬ (r = 0 ∧ (k = 28 ∨ k = 29 ∨ k = 32)) → hz r k = hb r k := fun r k z => by
    rw [hhz, pv_get, if_neg (by omega), pv_get, if_neg (by omega), pv_get, if_neg (by omega)]
  have e28 : hz 0 28 = 0 := by rw [hhz, pv_ni (by decide), pv_self]
  refine ⟨0, g', hz, ?_, ?_, hx, ⟨fun r k a b => by rw [k1 r k (by omega)]; exact hJ.1.1 r k a b, fun k hk => by rw [k1 0 k (by omega)]; exact hJ.1.2 k hk⟩, ru_G_h (fun _ _ _ _ _ => rfl) (fun r k z => k1 r k (by omega)) hJ.2.1, by rw [hhz, pv_self]⟩
  · rw [xf_Ma_start_93, if_neg (by decide)]
  · rw [ms_leave_top hF (by rw [h27]; decide), Option.bind_some, ← hhz]
    dsimp only
    rw [RR_end arg (t + 1) hz (by omega) (by rw [e28]; decide), e28]
theorem ru_end1 {g0 h0 g' hb : qa_St} {arg : Int32} {t : Nat} (hx : ru_x g0 g') (hJ : ru_J h0 g' hb) (hF : hb 0 32 = Int32.ofNat 0) (ht : t < 3999) : ru_fi g0 h0 (xf_Ma_start_93 g' 1) ((mf_Mo_raise hb (g' 78 12)).bind fun z => RR arg (t + 1) z.2) := by
  obtain ⟨hz, hhz⟩ : ∃ hz, hz = qa_up (qa_up hb 0 28 1) 0 29 (g' 78 12) := ⟨_, rfl⟩
  have k1 : ∀ r k, ¬ (r = 0 ∧ (k = 28 ∨ k = 29)) → hz r k = hb r k := fun r k z => by
    rw [hhz, pv_get, if_neg (by omega), pv_get, if_neg (by omega)]
  have e28 : hz 0 28 = 1 := by rw [hhz, pv_ni (by decide), pv_self]
  refine ⟨1, g', hz, ?_, ?_, hx, ⟨fun r k a b => by rw [k1 r k (by omega)]; exact hJ.1.1 r k a b, fun k hk => by rw [k1 0 k (by omega)]; exact hJ.1.2 k hk⟩, ru_G_h (fun _ _ _ _ _ => rfl) (fun r k z => k1 r k (by omega)) hJ.2.1, by rw [hhz, pv_self]⟩
  · rw [xf_Ma_start_93, if_neg (by decide)]
  · rw [mf_Mo_raise, ms_raise0 4095 _ hF, Option.bind_some, ← hhz]
    dsimp only
    rw [RR_end arg (t + 1) hz (by omega) (by rw [e28]; decide), e28]
theorem ru_end2 {g0 h0 g' hb : qa_St} {R : qa_Re} (hx : ru_x g0 g') (hb3 : ru_b3 h0 g' hb R) : ru_fi g0 h0 (xf_Ma_start_93 g' 2) R := by
  obtain ⟨a1, a2, a3, a4⟩ := hb3
  refine ⟨2, qa_up g' 78 12 0, hb, ?_, a1, fun r k hr => by rw [pv_nr (by omega)]; exact hx r k hr, a2, ru_G_h (fun r k x y z => ?_) (fun _ _ _ => rfl) a3, by rw [pv_self, a4]⟩
  · rw [xf_Ma_start_93, if_pos rfl]
  · rw [pv_get, if_neg (by omega)]
