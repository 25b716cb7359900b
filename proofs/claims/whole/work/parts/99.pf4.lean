/-! STATIC, SET and NEW, once their class has begun -/
theorem pv_fill83 (n : Nat) (hn : n ≤ 96) (v : Int32) : ∀ (k fu : Nat) (g : qa_St) (i : Nat), i + k = n → k < fu → xf_Ar_fill4_10 83 96 fu g (Int32.ofNat n) v (Int32.ofNat i) = some (0, pv_fill g 83 i n v) := by
  intro k
  induction k with
  | zero =>
    intro fu g i hk hf
    obtain ⟨fu, rfl⟩ : ∃ z, fu = z + 1 := ⟨fu - 1, by omega⟩
    rw [xf_Ar_fill4_10, if_pos (by rw [pv_le, pv_nI (by omega), pv_nI (by omega)]; omega), pv_fill_nil (by omega)]
  | succ k ih =>
    intro fu g i hk hf
    obtain ⟨fu, rfl⟩ : ∃ z, fu = z + 1 := ⟨fu - 1, by omega⟩
    have hi : (Int32.ofNat i).toInt = (i : Int) := pv_nI (by omega)
    have h0 : (0 : Int32).toInt = 0 := rfl
    rw [xf_Ar_fill4_10, if_neg (by rw [pv_le, pv_nI (n := n) (by omega), hi]; omega), if_neg (by rw [pv_lt, pv_cl, hi, h0]; omega), pv_n1, ih fu _ (i + 1) (by omega) (by omega), pv_cl, hi]
    rw [show ((i : Int)).toNat = i by omega, pv_fill_step (by omega)]
theorem xs_range83 (ga : qa_St) (n : Nat) (h : n < 16) : xf_Ar_rangeCheck ga (Int32.ofNat 96) (Int32.ofNat (6 * n)) (Int32.ofNat (6 * n + 6)) = some (0, ga) := by
  have e0 : (0 : Int32).toInt = 0 := rfl
  unfold xf_Ar_rangeCheck
  rw [if_pos (by rw [pv_le, pv_nI (by omega), pv_nI (by omega)]; omega), if_pos (by rw [pv_le, e0, pv_nI (by omega)]; omega), if_pos (by rw [pv_le, pv_nI (n := 6 * n + 6) (by omega), pv_nI (by omega)]; omega)]
theorem xs_fill83 (ga : qa_St) (n : Nat) (h : n < 16) : xf_Ar_fill4 ga 83 96 (Int32.ofNat (6 * n)) (Int32.ofNat (6 * n + 6)) 0 = some (0, pv_fill ga 83 (6 * n) (6 * n + 6) 0) := by
  unfold xf_Ar_fill4
  rw [xs_range83 ga n h, Option.bind_some]
  exact pv_fill83 (6 * n + 6) (by omega) 0 6 4096 ga (6 * n) (by omega) (by omega)
/-- the class's part behind the trigger -/
def ru_C (g : qa_St) (k D : Nat) (x2 : Int32) : qa_Re := if k = 11 then ((xf_Ma_makeObject g x2 (85 + 2 * D)).bind fun t84 => (some (t84.1, t84.2))) else if k = 14 then (if x2 < 0 ∨ 6 ≤ x2.toNatClampNeg then none else ((xf_Fr_push g (85 + 2 * D) (g 80 x2.toNatClampNeg)).bind fun t96 => (some ((0 : Int32), t96.2)))) else ((xf_Fr_pop g (85 + 2 * D)).bind fun t108 => (if x2 < 0 ∨ 6 ≤ x2.toNatClampNeg then none else (some ((0 : Int32), (qa_up t108.2 80 x2.toNatClampNeg t108.1)))))
theorem ms_create12 (n : Nat) (hn : n < 16) : ∀ (d j m : Nat) (h : qa_St), j + d = 6 → d < m → h 0 40 = Int32.ofNat n → ∃ h', mf_Mo_create_12 m h (Int32.ofNat j) = ((mf_Mo_push h' (Int32.ofNat n)).bind fun t44 => (some ((0 : Int32), (qa_up t44.2 0 40 ((t44.2 0 40) + (1 : Int32)))))) ∧ (∀ r k, r ≠ 29 → h' r k = h r k) ∧ (∀ k, j ≤ k → k < 6 → h' 29 (6 * n + k) = 0) ∧ ∀ k, ¬ (6 * n + j ≤ k ∧ k < 6 * n + 6) → h' 29 k = h 29 k := by
  intro d
  have e0 : (0 : Int32).toInt = 0 := rfl
  have e6 : (6 : Int32).toInt = 6 := rfl
  have en : (Int32.ofNat n).toInt = (n : Int) := pv_nI (by omega)
  have m2 : ((6 : Int32) * Int32.ofNat n).toInt = 6 * (n : Int) := by rw [pv_mul (by rw [en, e6]; omega) (by rw [en, e6]; omega), en, e6]
  induction d with
  | zero =>
    intro j m h hj hm h40
    obtain ⟨m, rfl⟩ : ∃ z, m = z + 1 := ⟨m - 1, by omega⟩
    have ej : (Int32.ofNat j).toInt = (j : Int) := pv_nI (by omega)
    refine ⟨h, ?_, fun _ _ _ => rfl, fun k h1 h2 => by omega, fun _ _ => rfl⟩
    rw [mf_Mo_create_12, if_pos (by rw [pv_le, e6, ej]; omega), h40]
  | succ d ih =>
    intro j m h hj hm h40
    obtain ⟨m, rfl⟩ : ∃ z, m = z + 1 := ⟨m - 1, by omega⟩
    have ej : (Int32.ofNat j).toInt = (j : Int) := pv_nI (by omega)
    have es : ((6 : Int32) * Int32.ofNat n + Int32.ofNat j).toInt = 6 * (n : Int) + j := by rw [pv_add (by rw [m2, ej]; omega) (by rw [m2, ej]; omega), m2, ej]
    have esn : ((6 : Int32) * Int32.ofNat n + Int32.ofNat j).toNatClampNeg = 6 * n + j := by rw [pv_cl, es]; omega
    obtain ⟨h', a1, a2, a3, a4⟩ := ih (j + 1) m (qa_up h 29 (6 * n + j) 0) (by omega) (by omega) (by rw [pv_nr (by decide)]; exact h40)
    refine ⟨h', ?_, fun r k hr => by rw [a2 r k hr, pv_nr hr], fun k h1 h2 => ?_, fun k hk => by rw [a4 k (by omega), pv_ni (by omega)]⟩
    · rw [mf_Mo_create_12, if_neg (by rw [pv_le, e6, ej]; omega), h40, if_neg (by rw [esn, pv_lt, es, e0]; omega), esn, pv_n1]
      exact a1
    · by_cases hkj : k = j
      · rw [hkj, a4 _ (by omega)]; exact pv_self
      · exact a3 k (by omega) h2
theorem ru_post {g0 h0 g h : qa_St} (hP : pr_P h0) (hRR : pr_R g0 h0) {D pc : Nat} {f r : tc_F} (hp : ru_pre g0 h0 D pc f g h) (k : Nat) (hk : k = 11 ∨ k = 14 ∨ k = 15) (x2 : Int32) (hft : pr_fit h0 (k : Int) x2.toInt) (hr : tc_ef g0 h0 (k : Int) x2 f = some r) : ru_res g0 h0 D pc (k : Int) x2.toInt r g h (ru_C g k D x2) (mf_Mo_plain h (Int32.ofNat (D - 1)) (Int32.ofNat k) x2) := by
  have hp0 := hp
  obtain ⟨hD, hpc, p1, p2, p3, p4, p5, p6, p7⟩ := hp
  have hP0 := hP
  obtain ⟨hN, hC, hM, hU, hK, hG⟩ := hP
  have hN0 := hN
  obtain ⟨n0, n1, n2, n3⟩ := hN
  have ht1 := hft.1 (by omega)
  have e0 : (0 : Int32).toInt = 0 := rfl
  have e1 : (1 : Int32).toInt = 1 := rfl
  have e6 : (6 : Int32).toInt = 6 := rfl
  have e16 : (16 : Int32).toInt = 16 := rfl
  obtain ⟨bm1, bm2⟩ := ru_b hD
  have hxb : ¬ (x2 < 0 ∨ 6 ≤ x2.toNatClampNeg) := by rw [pv_lt, pv_cl, e0]; omega
  obtain ⟨w1, w2, w3, w4, w5⟩ := p3
  have hG0 : ru_G h0 g h := ⟨w1, w2, w3, w4, w5⟩
  rcases hk with hk | hk | hk
  · subst hk
    have hef : tc_ef g0 h0 ((11 : Nat) : Int) x2 f = tc_pt x2 f := rfl
    rw [hef] at hr
    obtain ⟨n, u1, u2, u3, u4⟩ := w1
    have en : (Int32.ofNat n).toInt = (n : Int) := pv_nI (by omega)
    have enn : (Int32.ofNat n).toNatClampNeg = n := by rw [pv_cl]; omega
    have hCe : ru_C g 11 D x2 = ((xf_Ma_makeObject g x2 (85 + 2 * D)).bind fun t84 => (some (t84.1, t84.2))) := rfl
    have hMe : mf_Mo_plain h (Int32.ofNat (D - 1)) (Int32.ofNat 11) x2 = (if h 0 40 = 16 then some (-4, h) else ((mf_Mo_create h x2).bind fun t324 => (mf_Mo_plain_479 t324.2 (Int32.ofNat (D - 1)) (h 22 (D - 1) + 1)))) := by
      have hz : mf_Mo_plain h (Int32.ofNat (D - 1)) (Int32.ofNat 11) x2 = (if Int32.ofNat (D - 1) < 0 ∨ 10 ≤ (Int32.ofNat (D - 1)).toNatClampNeg then none else (if h 0 40 = 16 then some (-4, h) else ((mf_Mo_create h x2).bind fun t324 => (mf_Mo_plain_479 t324.2 (Int32.ofNat (D - 1)) ((h 22 (Int32.ofNat (D - 1)).toNatClampNeg) + (1 : Int32)))))) := rfl
      rw [hz, if_neg bm2, bm1]
    by_cases hfull : n = 16
    · refine ru_thr hp0 (ru_wx_rf D g) (ru_wm_rf D h) (fun _ => rfl) (fun _ => rfl) (-4) (by decide) ?_ ?_
      · rw [hCe]
        unfold xf_Ma_makeObject
        rw [u3, if_neg (by rw [pv_lt, en, e16]; omega)]
        rfl
      · rw [hMe, u2, if_pos (by rw [hfull]; rfl)]
    · -- a new object
      have hpt : f.1 < 6 ∧ r = (f.1 + 1, tc_up f.2 (4 + f.1) x2) := by
        unfold tc_pt at hr
        by_cases h6 : 6 ≤ f.1
        · rw [if_pos h6] at hr; cases hr
        · rw [if_neg h6] at hr; cases hr; exact ⟨by omega, rfl⟩
      obtain ⟨f1, f2, f3, f4, f5⟩ := p6
      have i1 : Int32.ofNat n * 6 = Int32.ofNat (6 * n) := by rw [pv_eq, pv_mul (by rw [en, e6]; omega) (by rw [en, e6]; omega), en, e6, pv_nI (by omega)]; omega
      have i2 : Int32.ofNat (6 * n) + 6 = Int32.ofNat (6 * n + 6) := by rw [pv_eq, pv_add (by rw [pv_nI (by omega), e6]; omega) (by rw [pv_nI (by omega), e6]; omega), pv_nI (by omega), e6, pv_nI (by omega)]; omega
      obtain ⟨ga, hga⟩ : ∃ ga, ga = pv_fill g 83 (6 * n) (6 * n + 6) 0 := ⟨_, rfl⟩
      have ka : ∀ r k, r ≠ 83 → ga r k = g r k := fun r k hr => by rw [hga, pv_fill_out (Or.inl hr)]
      obtain ⟨gb, hgb⟩ : ∃ gb, gb = qa_up ga 82 n x2 := ⟨_, rfl⟩
      have kb : ∀ r k, r ≠ 83 → ¬ (r = 82 ∧ k = n) → gb r k = g r k := fun r k h1 h2 => by rw [hgb, pv_get, if_neg h2, ka r k h1]
      obtain ⟨gc, hgc⟩ : ∃ gc, gc = qa_up (qa_up (qa_up gb (85 + 2 * D + 1) (4 + f.1) (Int32.ofNat n)) (85 + 2 * D) 1 (Int32.ofNat (f.1 + 1))) 78 8 (Int32.ofNat (n + 1)) := ⟨_, rfl⟩
      have hCx : ru_C g 11 D x2 = some (0, gc) := by
        rw [hCe]
        unfold xf_Ma_makeObject
        rw [u3, if_pos (by rw [pv_lt, en, e16]; omega), i1, i2, xs_fill83 g n (by omega), Option.bind_some, ← hga]
        show ((if ga 78 8 < 0 ∨ 16 ≤ (ga 78 8).toNatClampNeg then none else ((xf_Fr_push (qa_up ga 82 (ga 78 8).toNatClampNeg x2) (85 + 2 * D) ((qa_up ga 82 (ga 78 8).toNatClampNeg x2) 78 8)).bind fun t52 => (some ((0 : Int32), (qa_up t52.2 78 8 ((t52.2 78 8) + (1 : Int32))))))) : qa_Re).bind (fun t84 => (some (t84.1, t84.2))) = _
        rw [ka 78 8 (by decide), u3, if_neg (by rw [enn, pv_lt, en, e0]; omega), enn, ← hgb, kb 78 8 (by decide) (by omega), u3, xs_push (n := f.1) _ hpt.1 (by rw [kb _ 1 (by omega) (by omega)]; exact f2), Option.bind_some, Option.bind_some]
        dsimp only
        rw [pv_nr (by omega), pv_nr (by omega), kb 78 8 (by decide) (by omega), u3, pv_n1, ← hgc]
      -- the reference
      obtain ⟨ha, hha⟩ : ∃ ha, ha = qa_up h 28 n x2 := ⟨_, rfl⟩
      obtain ⟨hb, b1, b2, b3, b4⟩ := ms_create12 n (by omega) 6 0 4096 ha (by omega) (by omega) (by rw [hha, pv_nr (by decide)]; exact u2)
      have kh : ∀ r k, r ≠ 29 → ¬ (r = 28 ∧ k = n) → hb r k = h r k := fun r k h1 h2 => by rw [b2 r k h1, hha, pv_get, if_neg h2]
      have hpu := ms_push (h := hb) (D := D) (n := f.1) (Int32.ofNat n) hD hpt.1 (by rw [kh 0 32 (by decide) (by omega)]; exact p4) (by rw [kh 23 _ (by decide) (by omega)]; exact f3)
      obtain ⟨hc, hhc⟩ : ∃ hc, hc = qa_up (qa_up (qa_up hb 27 (6 * (D - 1) + f.1) (Int32.ofNat n)) 23 (D - 1) (Int32.ofNat (f.1 + 1))) 0 40 (Int32.ofNat (n + 1)) := ⟨_, rfl⟩
      have hMx : mf_Mo_plain h (Int32.ofNat (D - 1)) (Int32.ofNat 11) x2 = some (0, qa_up hc 22 (D - 1) (Int32.ofNat (pc + 1))) := by
        have hcr : mf_Mo_create h x2 = some (0, hc) := by
          unfold mf_Mo_create
          rw [u2, if_neg (by rw [enn, pv_lt, en, e0]; omega), enn, ← hha]
          refine Eq.trans b1 ?_
          rw [hpu, Option.bind_some]
          dsimp only
          rw [pv_nr (by decide), pv_nr (by decide), kh 0 40 (by decide) (by omega), u2, pv_n1, ← hhc]
        rw [hMe, u2, if_neg (by rw [pv_eq, en, e16]; omega), hcr, Option.bind_some]
        dsimp only
        rw [ru_479 hD, p5, pv_n1]
      obtain ⟨he, hhe⟩ : ∃ he, he = qa_up hc 22 (D - 1) (Int32.ofNat (pc + 1)) := ⟨_, rfl⟩
      rw [← hhe] at hMx
      have ke : ∀ r k, ¬ (r = 22 ∧ k = D - 1) → ¬ (r = 0 ∧ k = 40) → ¬ (r = 23 ∧ k = D - 1) → ¬ (r = 27 ∧ k = 6 * (D - 1) + f.1) → r ≠ 29 → ¬ (r = 28 ∧ k = n) → he r k = h r k := fun r k z1 z2 z3 z4 z5 z6 => by
        rw [hhe, pv_get, if_neg z1, hhc, pv_get, if_neg z2, pv_get, if_neg z3, pv_get, if_neg z4, kh r k z5 z6]
      have kg : ∀ r k, r ≠ 83 → ¬ (r = 82 ∧ k = n) → ¬ (r = 86 + 2 * D ∧ k = 4 + f.1) → ¬ (r = 85 + 2 * D ∧ k = 1) → ¬ (r = 78 ∧ k = 8) → gc r k = g r k := fun r k z1 z2 z3 z4 z5 => by
        rw [hgc, pv_get, if_neg z5, pv_get, if_neg z4, pv_get, if_neg (by omega), kb r k z1 z2]
      have he40 : he 0 40 = Int32.ofNat (n + 1) := by rw [hhe, pv_nr (by decide), hhc, pv_self]
      have en1 : (Int32.ofNat (n + 1)).toInt = (n : Int) + 1 := by rw [pv_nI (by omega)]; omega
      have he28 : he 28 n = x2 := by rw [hhe, pv_nr (by decide), hhc, pv_nr (by decide), pv_nr (by decide), pv_nr (by decide), b2 28 n (by decide), hha, pv_self]
      have hty : ∀ {t v : Int32}, ru_ty g0 h0 h t v → ru_ty g0 h0 he t v := fun {t v} hv => ru_ty_up (by rw [he40, u2, en, en1]; omega) (fun k hk => ke 28 k (by omega) (by omega) (by omega) (by omega) (by decide) (by rw [u2, en] at hk; omega)) hv
      refine ⟨gc, he, ⟨fun r k hr => kg r k (by omega) (by omega) (by omega) (by omega) (by omega), fun r k l1 l2 => kg r k (by omega) (by omega) (by omega) (by omega) (by omega)⟩, ⟨fun k k1 k2 => ke 0 k (by omega) (by omega) (by omega) (by omega) (by decide) (by omega), fun r k r1 r2 => ke r k (by omega) (by omega) (by omega) (by omega) (by omega) (by omega), fun k => ⟨ke 24 k (by omega) (by omega) (by omega) (by omega) (by decide) (by omega), ke 25 k (by omega) (by omega) (by omega) (by omega) (by decide) (by omega), ke 31 k (by omega) (by omega) (by omega) (by omega) (by decide) (by omega)⟩, fun k hk => ⟨ke 22 k (by omega) (by omega) (by omega) (by omega) (by decide) (by omega), ke 23 k (by omega) (by omega) (by omega) (by omega) (by decide) (by omega)⟩, fun k hk => ke 26 k (by omega) (by omega) (by omega) (by omega) (by decide) (by omega), fun k hk => ke 27 k (by omega) (by omega) (by omega) (by omega) (by decide) (by omega), by rw [he40, u2, en, en1]; omega, fun k hk => ke 28 k (by omega) (by omega) (by omega) (by omega) (by decide) (by rw [u2, en] at hk; omega)⟩, ?_, Or.inl ⟨hCx, hMx, ?_, pc + 1, ru_sc (by decide), ?_, ?_⟩⟩
      · refine ⟨⟨n + 1, by omega, he40, by rw [hgc, pv_self], fun k hk => ?_⟩, fun c hc => ?_, ⟨?_, ?_⟩, ?_, ?_⟩
        · by_cases hkn : k = n
          · rw [hkn, he28]
            refine ⟨by rw [hgc, pv_nr (by decide), pv_nr (by omega), pv_nr (by omega), hgb, pv_self], ht1, fun j hj => ?_⟩
            rw [hgc, pv_nr (by decide), pv_nr (by omega), pv_nr (by omega), hgb, pv_nr (by decide), hga, pv_fill_in (by omega) (by omega), hhe, pv_nr (by decide), hhc, pv_nr (by decide), pv_nr (by decide), pv_nr (by decide), b3 j (by omega) hj]
          · obtain ⟨e1, e2, e3⟩ := u4 k (by omega)
            rw [kg 82 k (by decide) (by omega) (by omega) (by omega) (by omega), ke 28 k (by omega) (by omega) (by omega) (by omega) (by decide) (by omega)]
            refine ⟨e1, e2, fun j hj => ?_⟩
            rw [hgc, pv_nr (by decide), pv_nr (by omega), pv_nr (by omega), hgb, pv_nr (by decide), hga, pv_fill_out (by omega), hhe, pv_nr (by decide), hhc, pv_nr (by decide), pv_nr (by decide), pv_nr (by decide), b4 _ (by omega), hha, pv_nr (by decide)]
            exact e3 j hj
        · rw [kg 80 c (by decide) (by omega) (by omega) (by omega) (by omega), kg 81 c (by decide) (by omega) (by omega) (by omega) (by omega), ke 30 c (by omega) (by omega) (by omega) (by omega) (by decide) (by omega), ke 31 c (by omega) (by omega) (by omega) (by omega) (by decide) (by omega)]
          exact w2 c hc
        · rw [kg 78 7 (by decide) (by omega) (by omega) (by omega) (by omega), ke 0 45 (by omega) (by omega) (by omega) (by omega) (by decide) (by omega)]; exact w3.1
        · have : ru_B he = ru_B h := by
            unfold ru_B
            rw [show he 31 = h 31 from funext fun k => ke 31 k (by omega) (by omega) (by omega) (by omega) (by decide) (by omega)]
          rw [this, ke 0 45 (by omega) (by omega) (by omega) (by omega) (by decide) (by omega)]; exact w3.2
        · rw [kg 78 9 (by decide) (by omega) (by omega) (by omega) (by omega), ke 0 46 (by omega) (by omega) (by omega) (by omega) (by decide) (by omega), ke 0 30 (by omega) (by omega) (by omega) (by omega) (by decide) (by omega)]
          exact ⟨w4.1, w4.2.1, w4.2.2.1, fun k hk => by rw [kg 84 k (by decide) (by omega) (by omega) (by omega) (by omega), ke 32 k (by omega) (by omega) (by omega) (by omega) (by decide) (by omega)]; exact w4.2.2.2 k hk⟩
        · rw [kg 78 10 (by decide) (by omega) (by omega) (by omega) (by omega), kg 78 11 (by decide) (by omega) (by omega) (by omega) (by omega), ke 0 30 (by omega) (by omega) (by omega) (by omega) (by decide) (by omega), ke 0 31 (by omega) (by omega) (by omega) (by omega) (by decide) (by omega)]; exact w5
      · rw [hpt.2]
        refine ⟨by show f.1 + 1 ≤ 6; omega, by rw [hgc, pv_nr (by omega), pv_self], by rw [hhe, pv_nr (by decide), hhc, pv_nr (by decide), pv_self], fun k hk => ?_, fun p hpp hz => ?_⟩
        · have hk : k < f.1 + 1 := hk
          show _ ∧ ru_ty g0 h0 _ (tc_up f.2 (4 + f.1) x2 (4 + k)) _
          by_cases hkn : k = f.1
          · rw [hkn, tc_up_s]
            have v1 : gc (86 + 2 * D) (4 + f.1) = Int32.ofNat n := by rw [hgc, pv_nr (by omega), pv_nr (by omega), show 86 + 2 * D = 85 + 2 * D + 1 by omega, pv_self]
            have v2 : he 27 (6 * (D - 1) + f.1) = Int32.ofNat n := by rw [hhe, pv_nr (by decide), hhc, pv_nr (by decide), pv_nr (by decide), pv_self]
            rw [v1, v2]
            refine ⟨rfl, Or.inr (Or.inr ⟨ht1, Or.inr ⟨by rw [en]; omega, by rw [he40, en1, en]; omega, ?_, ?_⟩⟩)⟩
            · rw [en, Int.toNat_natCast, he28]; exact ht1
            · rw [en, Int.toNat_natCast, he28]
              exact (pr_bit hN0 hRR.2.1 (by omega) _ (by omega)).mpr (Or.inl rfl)
          · rw [tc_up_n (by omega), kg (86 + 2 * D) (4 + k) (by omega) (by omega) (by omega) (by omega) (by omega), ke 27 _ (by omega) (by omega) (by omega) (by omega) (by decide) (by omega)]
            exact ⟨(f4 k (by omega)).1, hty (f4 k (by omega)).2⟩
        · have hz : tc_up f.2 (4 + f.1) x2 p ≠ 8 := hz
          show _ ∧ ru_ty g0 h0 _ (tc_up f.2 (4 + f.1) x2 p) _
          rw [tc_up_n (by omega)] at hz ⊢
          rw [kg (86 + 2 * D) p (by omega) (by omega) (by omega) (by omega) (by omega), ke 26 _ (by omega) (by omega) (by omega) (by omega) (by decide) (by omega)]
          exact ⟨(f5 p hpp hz).1, hty (f5 p hpp hz).2⟩
      · rw [kg (85 + 2 * D) 2 (by omega) (by omega) (by omega) (by omega) (by omega)]; exact p7
      · rw [hhe, pv_self]
  · subst hk
    have hef : tc_ef g0 h0 ((14 : Nat) : Int) x2 f = tc_pt 9 f := rfl
    rw [hef] at hr
    refine ru_op_push hp0 (ru_wx_rf D g) (ru_wm_rf D h) p6 rfl (ru_9 (h 30 x2.toInt.toNat)) hr (by decide) ?_ ?_
    · have hCe : ru_C g 14 D x2 = (if x2 < 0 ∨ 6 ≤ x2.toNatClampNeg then none else ((xf_Fr_push g (85 + 2 * D) (g 80 x2.toNatClampNeg)).bind fun t96 => (some ((0 : Int32), t96.2)))) := rfl
      rw [hCe, if_neg hxb, pv_cl, (w2 _ (by omega)).1]
    · have hMe : mf_Mo_plain h (Int32.ofNat (D - 1)) (Int32.ofNat 14) x2 = (if Int32.ofNat (D - 1) < 0 ∨ 10 ≤ (Int32.ofNat (D - 1)).toNatClampNeg then none else (if x2 < 0 ∨ 6 ≤ x2.toNatClampNeg then none else ((mf_Mo_push h (h 30 x2.toNatClampNeg)).bind fun t391 => (mf_Mo_plain_479 t391.2 (Int32.ofNat (D - 1)) ((h 22 (Int32.ofNat (D - 1)).toNatClampNeg) + (1 : Int32)))))) := rfl
      rw [hMe, if_neg bm2, if_neg hxb, bm1, pv_cl]
  · subst hk
    obtain ⟨q, q1, q2⟩ := ru_tks1 (show tc_tks h0 1 f = some r from hr)
    obtain ⟨v, g1, h1, a1, a2, a3, a4, a5, a6, a7⟩ := ru_pop hD p4 p6 q1
    rw [q2] at a6
    have hCe : ru_C g 15 D x2 = some (0, qa_up g1 80 x2.toInt.toNat v) := by
      have hz : ru_C g 15 D x2 = ((xf_Fr_pop g (85 + 2 * D)).bind fun t108 => (if x2 < 0 ∨ 6 ≤ x2.toNatClampNeg then none else (some ((0 : Int32), (qa_up t108.2 80 x2.toNatClampNeg t108.1))))) := rfl
      rw [hz, a1, Option.bind_some, if_neg hxb, pv_cl]
    have hMe : mf_Mo_plain h (Int32.ofNat (D - 1)) (Int32.ofNat 15) x2 = some (0, qa_up (qa_up h1 30 x2.toInt.toNat v) 22 (D - 1) (Int32.ofNat (pc + 1))) := by
      unfold mf_Mo_plain
      rw [if_neg bm2, if_neg (by decide), if_neg (by decide), if_neg (by decide), if_neg (by decide), bm1, a2, Option.bind_some]
      dsimp only
      unfold mf_Mo_plain_41
      rw [if_neg (by decide), if_neg (by decide)]
      unfold mf_Mo_plain_54
      rw [if_neg (by decide)]
      unfold mf_Mo_plain_68
      rw [if_neg (by decide)]
      unfold mf_Mo_plain_84
      rw [if_neg (by decide)]
      unfold mf_Mo_plain_95
      rw [if_neg (by decide)]
      unfold mf_Mo_plain_108
      rw [if_neg (by decide)]
      unfold mf_Mo_plain_126
      rw [if_neg (by decide)]
      unfold mf_Mo_plain_155
      rw [if_neg (show ¬ Int32.ofNat 15 = 0 by decide), if_neg (show ¬ Int32.ofNat 15 = 1 by decide), if_neg (show ¬ Int32.ofNat 15 = 2 by decide), if_neg (show ¬ Int32.ofNat 15 = 3 by decide), if_neg (show ¬ Int32.ofNat 15 = 5 by decide), if_neg (show ¬ Int32.ofNat 15 = 6 by decide), if_neg (show ¬ Int32.ofNat 15 = 7 by decide), if_neg (show ¬ Int32.ofNat 15 = 8 by decide), if_neg (show ¬ Int32.ofNat 15 = 9 by decide), if_neg (show ¬ Int32.ofNat 15 = 10 by decide)]
      unfold mf_Mo_plain_316
      rw [if_neg (show ¬ Int32.ofNat 15 = 11 by decide), if_neg (show ¬ Int32.ofNat 15 = 12 by decide), if_neg (show ¬ Int32.ofNat 15 = 13 by decide), if_neg (show ¬ Int32.ofNat 15 = 14 by decide), if_pos (show Int32.ofNat 15 = 15 by decide), if_neg hxb, ru_479 hD, pv_cl, p5, pv_n1]
    obtain ⟨he, hhe⟩ : ∃ he, he = qa_up (qa_up h1 30 x2.toInt.toNat v) 22 (D - 1) (Int32.ofNat (pc + 1)) := ⟨_, rfl⟩
    rw [← hhe] at hMe
    have ke : ∀ r k, ¬ (r = 22 ∧ k = D - 1) → r ≠ 30 → he r k = h1 r k := fun r k z1 z2 => by rw [hhe, pv_get, if_neg z1, pv_nr z2]
    have hwG : ru_G h0 g1 h1 := ru_G_w (fun r k a b _ => a3 r k (by omega) (by omega)) (fun r k hr => a5.1 r k (by omega) (by omega) (by omega)) hG0
    obtain ⟨⟨n, u1, u2, u3, u4⟩, v2, v3, v4, v5⟩ := hwG
    refine ⟨qa_up g1 80 x2.toInt.toNat v, he, ⟨fun r k hr => by rw [pv_nr (by omega)]; exact a3 r k (by omega) (by omega), fun r k l1 l2 => by rw [pv_nr (by omega)]; exact a3 r k (by omega) (by omega)⟩, ⟨fun k k1 k2 => by rw [ke 0 k (by omega) (by decide)]; exact a5.1 0 k (by decide) (by decide) (by decide), fun r k r1 r2 => by rw [ke r k (by omega) (by omega)]; exact a5.1 r k (by omega) (by omega) (by omega), fun k => ⟨by rw [ke 24 k (by omega) (by decide)]; exact a5.1 24 k (by decide) (by decide) (by decide), by rw [ke 25 k (by omega) (by decide)]; exact a5.1 25 k (by decide) (by decide) (by decide), by rw [ke 31 k (by omega) (by decide)]; exact a5.1 31 k (by decide) (by decide) (by decide)⟩, fun k hk => ⟨by rw [ke 22 k (by omega) (by decide)]; exact a5.1 22 k (by decide) (by decide) (by decide), by rw [ke 23 k (by omega) (by decide)]; exact a5.2.1 k hk⟩, fun k hk => by rw [ke 26 k (by omega) (by decide)]; exact a5.2.2.1 k hk, fun k hk => by rw [ke 27 k (by omega) (by decide)]; exact a5.2.2.2 k hk, by rw [ke 0 40 (by omega) (by decide), a5.1 0 40 (by decide) (by decide) (by decide)]; exact Int.le_refl _, fun k hk => by rw [ke 28 k (by omega) (by decide)]; exact a5.1 28 k (by decide) (by decide) (by decide)⟩, ?_, Or.inl ⟨hCe, hMe, ?_, pc + 1, ru_sc (by decide), ?_, ?_⟩⟩
    · refine ⟨⟨n, u1, by rw [ke 0 40 (by omega) (by decide)]; exact u2, by rw [pv_nr (by decide)]; exact u3, fun k hk => ?_⟩, fun c hc => ?_, ⟨?_, ?_⟩, ?_, ?_⟩
      · rw [pv_nr (by decide), ke 28 k (by omega) (by decide)]
        exact ⟨(u4 k hk).1, (u4 k hk).2.1, fun j hj => by rw [pv_nr (by decide), ke 29 _ (by omega) (by decide)]; exact (u4 k hk).2.2 j hj⟩
      · rw [pv_nr (show (81 : Nat) ≠ 80 by decide), ke 31 c (by omega) (by decide)]
        refine ⟨?_, (v2 c hc).2⟩
        rw [hhe, pv_nr (show (30 : Nat) ≠ 22 by decide)]
        by_cases hcx : c = x2.toInt.toNat
        · rw [hcx, pv_self, pv_self]
        · rw [pv_ni hcx, pv_ni hcx]; exact (v2 c hc).1
      · rw [pv_nr (by decide), ke 0 45 (by omega) (by decide)]; exact v3.1
      · have : ru_B he = ru_B h1 := by
          unfold ru_B
          rw [show he 31 = h1 31 from funext fun k => ke 31 k (by omega) (by decide)]
        rw [this, ke 0 45 (by omega) (by decide)]; exact v3.2
      · rw [pv_nr (by decide), ke 0 46 (by omega) (by decide), ke 0 30 (by omega) (by decide)]
        exact ⟨v4.1, v4.2.1, v4.2.2.1, fun k hk => by rw [pv_nr (by decide), ke 32 k (by omega) (by decide)]; exact v4.2.2.2 k hk⟩
      · rw [pv_nr (by decide), pv_nr (by decide), ke 0 30 (by omega) (by decide), ke 0 31 (by omega) (by decide)]; exact v5
    · exact ru_F_w (fun k => pv_nr (by omega)) (pv_nr (by omega)) (ke 23 _ (by omega) (by decide)) (fun k => ke 26 k (by omega) (by decide)) (fun k => ke 27 k (by omega) (by decide)) (by rw [ke 0 40 (by omega) (by decide)]; exact Int.le_refl _) (fun k _ => ke 28 k (by omega) (by decide)) a6
    · rw [pv_nr (by omega), a4]; exact p7
    · rw [hhe, pv_self]
