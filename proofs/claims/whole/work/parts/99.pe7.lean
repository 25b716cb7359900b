/-! Promise 7: close. What holds once a program is closed -/
def pr_PC (g h : qa_St) : Prop := pr_D g h ∧ pr_A g h ∧ (∀ m : Nat, (m : Int) < (h 0 4).toInt → pc_m g h m) ∧ 0 < (h 0 4).toInt ∧ (h 5 0).toInt = -1 ∧ (h 6 0).toInt = 1
theorem pr_N2_keep {g g' h h' : qa_St} (hN : pr_N2 g h) (h1 : ∀ r k, 77 < r → g' r k = g r k) (h2 : ∀ r k, 20 < r → h' r k = h r k) (h3 : ∀ k, 22 < k → h' 0 k = h 0 k) : pr_N2 g' h' := by
  obtain ⟨a1, a2, a3, a4, a5, a6⟩ := hN
  refine ⟨by rw [h1 78 12 (by omega), h3 29 (by omega)]; exact a1, by rw [h1 78 10 (by omega), h3 30 (by omega)]; exact a2, by rw [h1 78 9 (by omega), h3 46 (by omega)]; exact a3, by rw [h1 78 8 (by omega), h3 40 (by omega)]; exact a4, fun k hk => ?_, fun c hc => ?_⟩
  · rw [h1 84 k (by omega), h3 46 (by omega), h2 32 k (by omega)]; exact a5 k hk
  · rw [h1 81 c (by omega), h1 80 c (by omega), h2 31 c (by omega), h2 30 c (by omega)]; exact a6 c hc
/-- the flags of the class's own object are nothing to the check -/
theorem pc_m_0 {g g' h : qa_St} {m : Nat} (h0 : ∀ r k, r ≠ 0 → g' r k = g r k) (hc : pc_m g h m) : pc_m g' h m := by
  have e2 : g' 2 = g 2 := funext fun k => h0 2 k (by decide)
  have e3 : g' 3 = g 3 := funext fun k => h0 3 k (by decide)
  have e73 : g' 73 = g 73 := funext fun k => h0 73 k (by decide)
  have e74 : g' 74 = g 74 := funext fun k => h0 74 k (by decide)
  have ean : pr_an g' h = pr_an g h := funext fun s => funext fun n => by
    induction n with
    | zero => rfl
    | succ n ih =>
      funext c
      rw [pr_an, pr_an, h0 (6 + c) s (by omega), ih]
  have hle : tc_le g' h = tc_le g h := funext fun t => funext fun u => by unfold tc_le; rw [e2]
  have hef : tc_ef g' h = tc_ef g h := funext fun op => funext fun a => funext fun f => by unfold tc_ef; rw [e3, ean]
  have har : ∀ N V, tc_ar g' h m N V = tc_ar g h m N V := fun N V => funext fun j => funext fun f => by unfold tc_ar; rw [hle]
  have hfl : ∀ N V, tc_fl g' h m N V = tc_fl g h m N V := fun N V => funext fun i => by unfold tc_fl; rw [hef, har]
  have hpo : ∀ N V, tc_po g' h m N V = tc_po g h m N V := fun N V => by unfold tc_po; rw [har, hfl]
  unfold pc_m
  rw [hpo, e73, e74]
  exact hc
theorem st_close (g h : qa_St) (hI : pr_I pr_PC pr_N2 g h) : ql_st (pr_I pr_PC pr_N2) (xf_Cw_close g) (mf_Mo_close h) := by
  have hI0 := hI
  obtain ⟨hP, hR, hF, hPC, hPN⟩ := hI
  have hP0 := hP
  obtain ⟨hN, hC, hM, hU, hK, hG⟩ := hP
  have hN0 := hN
  obtain ⟨n0, n1, n2, n3⟩ := hN
  obtain ⟨f1, f2, f3, f4⟩ := hF
  have e0 : (0 : Int32).toInt = 0 := rfl
  have e1 : (1 : Int32).toInt = 1 := rfl
  have em : (-1 : Int32).toInt = -1 := rfl
  have e00 : (0 : Int32).toNatClampNeg = 0 := rfl
  have hb0 : ¬ ((0 : Int32) < 0 ∨ 10 ≤ (0 : Int32).toNatClampNeg) := by decide
  by_cases hcl : g 0 4 = 0
  · have hcl' : h 0 15 = 0 := by rw [← f1]; exact hcl
    -- is there a start?
    have hstart : ∃ s : Int32, (s = 0 ∨ s = 1) ∧ (s = 1 ↔ (0 < (h 0 4).toInt ∧ (h 5 0).toInt = -1 ∧ (h 6 0).toInt = 1)) ∧ xf_Pr_hasStart g = some (s, g) := by
      unfold xf_Pr_hasStart
      rw [xs_isPlain _ _ (by rw [hR.1.2]; omega), hR.1.2, e0]
      simp only [Option.bind_some, pv_b1]
      have e0n : (0 : Int).toNat = 0 := rfl
      rw [e0n]
      by_cases hm0 : 0 < (h 0 4).toInt
      · have qq := hR.2.2.2.1 0 (by omega)
        rw [qq.2.1]
        by_cases hs : (h 5 0).toInt = -1
        · rw [if_neg (fun z => z ⟨by omega, hm0, hs⟩), if_neg hb0, e00, qq.2.2.1]
          by_cases hw : h 6 0 = 1
          · rw [if_pos hw]
            exact ⟨1, Or.inr rfl, ⟨fun _ => ⟨hm0, hs, by rw [hw]; rfl⟩, fun _ => rfl⟩, rfl⟩
          · rw [if_neg hw]
            exact ⟨0, Or.inl rfl, ⟨fun z => absurd z (by decide), fun z => absurd (by rw [pv_eq, z.2.2]; rfl) hw⟩, rfl⟩
        · rw [if_pos (fun z => hs z.2.2)]
          exact ⟨0, Or.inl rfl, ⟨fun z => absurd z (by decide), fun z => absurd z.2.1 hs⟩, rfl⟩
      · rw [if_pos (fun z => hm0 z.2.1)]
        exact ⟨0, Or.inl rfl, ⟨fun z => absurd z (by decide), fun z => absurd z.1 hm0⟩, rfl⟩
    obtain ⟨s, s1, s2, s3⟩ := hstart
    by_cases hs : 0 < (h 0 4).toInt ∧ (h 5 0).toInt = -1 ∧ (h 6 0).toInt = 1
    · have hsv : s = 1 := s2.mpr hs
      have hx : xf_Cw_close g = xf_Cw_close_24 4096 g (Int32.ofNat 0) := by
        unfold xf_Cw_close
        have hs0 : ¬ s = 0 := by rw [hsv]; decide
        rw [if_pos hcl, s3, Option.bind_some]
        exact if_neg hs0
      have hy : mf_Mo_close h = mf_Mo_close_40 4096 h (Int32.ofNat 0) := by
        unfold mf_Mo_close
        rw [if_pos hcl', if_neg (by rw [pv_eq, e0]; omega), if_neg hb0, if_neg hb0, e00, if_neg (by rw [pv_le, e0]; omega), if_pos (by rw [pv_eq, e1]; exact hs.2.2)]
        rfl
      rw [hx, hy]
      rcases pc_loop hP0 hR (h 0 4).toInt.toNat 0 4096 4096 g h (by omega) (by omega) (by omega) ⟨fun _ _ _ => rfl, fun _ _ _ _ _ _ _ => rfl⟩ (fun k hk => by omega) with ⟨v, g', h', a1, a2, a3⟩ | ⟨g', h', a1, a2, a3, a4⟩
      · -- a method is not sound
        have hxp : xp g g' := fun r k hr => a3.1 r k (Or.inl hr)
        have hpm : pm h h' := ⟨fun r k a b => a3.2 r k (by omega) (by omega) (by omega) (by omega) (by omega), a3.2 0 0 (by decide) (by decide) (by decide) (by decide) (by decide), a3.2 0 4 (by decide) (by decide) (by decide) (by decide) (by decide)⟩
        have hPh := pm_P hpm hP0
        refine ⟨v, g', h', a1, a2, hPh, xp_R hxp hPh.1 (pm_R hpm hR) hPh.2.1, ?_, fun z => ?_, fun z => ?_⟩
        · unfold pr_F
          rw [a3.1 0 4 (by omega), a3.1 0 5 (by omega), a3.2 0 15 (by decide) (by decide) (by decide) (by decide) (by decide), a3.2 0 26 (by decide) (by decide) (by decide) (by decide) (by decide)]
          exact ⟨f1, f2, f3, f4⟩
        · rw [a3.1 0 4 (by omega), hcl] at z
          exact absurd z (by decide)
        · rw [a3.1 0 5 (by omega)] at z
          exact pr_N2_keep (hPN z) (fun r k hr => a3.1 r k (by omega)) (fun r k hr => a3.2 r k (by omega) (by omega) (by omega) (by omega) (by omega)) (fun k hk => a3.2 0 k (by decide) (by decide) (by decide) (by decide) (by omega))
      · -- all are sound
        have hxp : xp g g' := fun r k hr => a3.1 r k (Or.inl hr)
        obtain ⟨h1, hh1⟩ : ∃ h1, h1 = qa_up h' 0 15 1 := ⟨_, rfl⟩
        have k1 : ∀ r k, ¬ (r = 0 ∧ k = 15) → h1 r k = h' r k := fun r k hr => by rw [hh1, pv_get, if_neg hr]
        have hpm' : pm h h' := ⟨fun r k a b => a3.2 r k (by omega) (by omega) (by omega) (by omega) (by omega), a3.2 0 0 (by decide) (by decide) (by decide) (by decide) (by decide), a3.2 0 4 (by decide) (by decide) (by decide) (by decide) (by decide)⟩
        have hpm1 : pm h' h1 := ⟨fun r k a b => k1 r k (by omega), k1 0 0 (by decide), k1 0 4 (by decide)⟩
        have hPh' := pm_P hpm' hP0
        have hRh' := xp_R hxp hPh'.1 (pm_R hpm' hR) hPh'.2.1
        have hPh := pm_P hpm1 hPh'
        have hRh := pm_R hpm1 hRh'
        have hM4 : h1 0 4 = h 0 4 := by rw [hpm1.2.2, hpm'.2.2]
        have hall : ∀ m : Nat, (m : Int) < (h1 0 4).toInt → pc_m g' h1 m := fun m hm => by
          rw [hM4] at hm
          refine pc_keep hPh' hRh' (by rw [hpm'.2.2]; exact hm) (fun _ _ _ => rfl) hpm1 (fun i _ => ⟨rfl, fun _ _ => rfl⟩) (fun i _ => ⟨k1 14 _ (by omega), k1 15 _ (by omega), fun p _ => k1 16 _ (by omega)⟩) (a4 m hm)
        obtain ⟨gf, b1, b2, b3, b4⟩ := xs_find hPh hRh (by rw [hM4]; exact hs.1) hall
        obtain ⟨hf, c1, c2, c3, c4, c5⟩ := ms_spread hPh hRh (by rw [hM4]; exact hs.1) hall
        obtain ⟨d1, d2⟩ := b4 _ _ c4
        obtain ⟨d3, d4⟩ := c5 _ _ b3
        rw [b1] at a1
        rw [← hh1, c1] at a2
        obtain ⟨ge, hge⟩ : ∃ ge, ge = qa_up gf 0 4 1 := ⟨_, rfl⟩
        have kg : ∀ r k, ¬ (r = 0 ∧ k = 4) → ge r k = gf r k := fun r k hr => by rw [hge, pv_get, if_neg hr]
        have hcm := me_pm c2
        have hPf := pm_P hcm hPh
        have hMf : hf 0 4 = h 0 4 := by rw [hcm.2.2, hM4]
        -- the program does not lie in role 0
        have hRe : pr_R ge hf := by
          have hx2 : pr_R gf hf := xp_R (xe_p b2) hPf.1 (pm_R hcm hRh) hPf.2.1
          obtain ⟨⟨r1, r2⟩, hT, hO, hQ, hZ, hL, hH⟩ := hx2
          have hq := hPf.1
          obtain ⟨m0, m1, m2, m3⟩ := hq
          refine ⟨⟨by rw [kg 1 0 (by decide)]; exact r1, by rw [kg 1 1 (by decide)]; exact r2⟩, fun c hc => ?_, fun c s hc hs => ?_, fun m hm => ?_, fun m hm hm' => ?_, fun m i hm hi => ?_, fun m k hm hk => ?_⟩
          · rw [kg 2 c (by omega), kg 2 _ (by omega), kg 3 c (by omega), kg 3 _ (by omega), kg 4 c (by omega)]; exact hT c hc
          · rw [kg (6 + c) s (by omega)]; exact hO c s hc hs
          · rw [kg 12 m (by omega), kg 13 m (by omega), kg 14 m (by omega), kg 15 m (by omega), kg 38 m (by omega)]; exact hQ m hm
          · rw [kg 15 m (by omega), kg 38 m (by omega)]; exact hZ m hm hm'
          · rw [kg (17 + m) i (by omega), kg (28 + m) i (by omega)]; exact hL m i hm hi
          · rw [kg (40 + m) k (by omega), kg (51 + m) k (by omega), kg (62 + m) k (by omega)]; exact hH m k hm hk
        have hpcf : ∀ m : Nat, (m : Int) < (hf 0 4).toInt → pc_m ge hf m := fun m hm => by
          refine pc_m_0 (g := gf) (fun r k hr => kg r k (by omega)) ?_
          have hm1 : (m : Int) < (h1 0 4).toInt := by rw [hM4, ← hMf]; exact hm
          exact pc_keep hPh hRh hm1 (xe_p b2) hcm (fun i _ => ⟨b2 74 _ (by decide), fun p _ => b2 73 _ (by decide)⟩) (fun i _ => ⟨c2 14 _ (by decide) (by decide) (by decide) (by omega), c2 15 _ (by decide) (by decide) (by decide) (by omega), fun p _ => c2 16 _ (by decide) (by decide) (by decide) (by omega)⟩) (hall m hm1)
        have hfh : ∀ k, k ≠ 15 → k ≠ 20 → k ≠ 21 → k ≠ 22 → hf 0 k = h 0 k := fun k w1 w2 w3 w4 => by rw [c2 0 k (by decide) (by decide) (by decide) (by omega), k1 0 k (by omega), a3.2 0 k (by decide) (by decide) (by decide) (by decide) (by omega)]
        have hge5 : ge 0 5 = g 0 5 := by rw [kg 0 5 (by decide), b2 0 5 (by decide), a3.1 0 5 (by omega)]
        refine ⟨-1, ge, hf, by rw [a1, hge]; rfl, by rw [a2]; rfl, hPf, hRe, ?_, fun _ => ?_, fun z => ?_⟩
        · refine ⟨?_, Or.inr (by rw [hge]; exact pv_self), by rw [hge5, hfh 26 (by decide) (by decide) (by decide) (by decide)]; exact f3, by rw [hge5]; exact f4⟩
          rw [hge, pv_self, c2 0 15 (by decide) (by decide) (by decide) (by decide), hh1, pv_self]
        · refine ⟨fun m i hm hi => (hpcf m hm).2 i hi, ⟨fun m hm => ?_, fun c hc => ?_⟩, hpcf, by rw [hMf]; exact hs.1, ?_, ?_⟩
          · have hm10 : m < 10 := by rw [hMf] at hm; omega
            have ebit : pv_bit (ge 77 2) m ↔ pv_bit (gf 77 2) m := by rw [kg 77 2 (by decide)]
            rw [ebit]
            rcases c3.1 m hm10 with y | y
            · exact Or.inl ⟨y, fun w => (d1 m ⟨by omega, w⟩).2 y⟩
            · exact Or.inr ⟨y, (d3 m ⟨hm10, by rw [y]; decide⟩).2⟩
          · have hc6 : c < 6 := by rw [hcm.2.1, hpm1.2.1, hpm'.2.1] at hc; omega
            have ebit : pv_bit (ge 77 3) c ↔ pv_bit (gf 77 3) c := by rw [kg 77 3 (by decide)]
            rw [ebit]
            rcases c3.2 c hc6 with y | y
            · exact Or.inl ⟨y, fun w => (d2 c ⟨by omega, w⟩).2 y⟩
            · exact Or.inr ⟨y, (d4 c ⟨hc6, by rw [y]; decide⟩).2⟩
          · rw [hcm.1 5 0 (by omega) (by omega), hpm1.1 5 0 (by omega) (by omega), hpm'.1 5 0 (by omega) (by omega)]; exact hs.2.1
          · rw [hcm.1 6 0 (by omega) (by omega), hpm1.1 6 0 (by omega) (by omega), hpm'.1 6 0 (by omega) (by omega)]; exact hs.2.2
        · rw [hge5] at z
          refine pr_N2_keep (hPN z) (fun r k hr => by rw [kg r k (by omega), b2 r k (by omega), a3.1 r k (by omega)]) (fun r k hr => by rw [c2 r k (by omega) (by omega) (by omega) (by omega), k1 r k (by omega), a3.2 r k (by omega) (by omega) (by omega) (by omega) (by omega)]) (fun k hk => hfh k (by omega) (by omega) (by omega) (by omega))
    · have hsv : s = 0 := s1.elim id (fun z => absurd (s2.mp z) hs)
      refine pr_same hI0 (v := 10) ?_ ?_
      · unfold xf_Cw_close
        rw [if_pos hcl, s3, Option.bind_some, if_pos hsv]
      · unfold mf_Mo_close
        rw [if_pos hcl', if_neg hb0, if_neg hb0, e00]
        by_cases hm0 : h 0 4 = 0
        · rw [if_pos hm0]
        · have hm0' : 0 < (h 0 4).toInt := by
            have : ¬ (h 0 4).toInt = 0 := fun z => hm0 (by rw [pv_eq, e0]; exact z)
            omega
          have q := hM 0 (by omega)
          rw [if_neg hm0]
          by_cases hs0 : 0 ≤ h 5 0
          · rw [if_pos hs0]
          · rw [if_neg hs0]
            rw [pv_le, e0] at hs0
            rw [if_neg (fun z => hs ⟨hm0', by omega, by rw [z]; rfl⟩)]
  · have hcl' : ¬ h 0 15 = 0 := by rw [← f1]; exact hcl
    refine pr_same hI0 (v := -1) ?_ ?_
    · unfold xf_Cw_close
      rw [if_neg hcl]
    · unfold mf_Mo_close
      rw [if_neg hcl']
