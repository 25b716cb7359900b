theorem ru_9 {g0 h0 h : qa_St} (v : Int32) : ru_ty g0 h0 h 9 v := Or.inr (Or.inl rfl)
/-- an object that is no null: its number, its class -/
theorem ru_obj {g0 h0 g h : qa_St} {t v : Int32} (hN : pr_N h0) (hG : ru_G h0 g h) (ht : tc_cl h0 t) (hv : ru_ty g0 h0 h t v) : (v = -1 ∧ xf_Ma_isNull g v = some (1, g)) ∨ (∃ n : Nat, v = Int32.ofNat n ∧ n < 16 ∧ (n : Int) < (h 0 40).toInt ∧ xf_Ma_isNull g v = some (0, g) ∧ g 82 n = h 28 n ∧ tc_cl h0 (h 28 n) ∧ pv_bit (g0 2 (h 28 n).toInt.toNat) t.toInt.toNat ∧ ∀ j, j < 6 → g 83 (6 * n + j) = h 29 (6 * n + j)) := by
  obtain ⟨n, o1, o2, o3, o4⟩ := hG.1
  have en : (Int32.ofNat n).toInt = (n : Int) := pv_nI (by omega)
  have em : (-1 : Int32).toInt = -1 := rfl
  rcases hv with hv | hv | ⟨-, hv⟩
  · rw [hv] at ht; exact absurd ht (tc_cl8 hN)
  · rw [hv] at ht; exact absurd ht (tc_cl9 hN)
  · rcases hv with hv | ⟨v1, v2, v3, v4⟩
    · left
      refine ⟨hv, ?_⟩
      unfold xf_Ma_isNull
      rw [xs_within, o3, en, hv, em]
      simp only [Option.bind_some, pv_b1]
      rw [if_pos (by omega)]
    · right
      rw [o2, en] at v2
      refine ⟨v.toInt.toNat, pv_nIe v1, by omega, by rw [o2, en]; omega, ?_, (o4 _ (by omega)).1, v3, v4, (o4 _ (by omega)).2.2⟩
      unfold xf_Ma_isNull
      rw [xs_within, o3, en]
      simp only [Option.bind_some, pv_b1]
      rw [if_neg (fun z => z ⟨v1, v2⟩)]
theorem ru_plain {g0 h0 g h : qa_St} (hP : pr_P h0) (hRR : pr_R g0 h0) {D pc : Nat} {f r : tc_F} (hp : ru_pre g0 h0 D pc f g h) (hpr : (h 0 46).toInt < (h 0 30).toInt) (P : qa_St → Int32 → Int32 → qa_Re) (k : Nat) (hk : k < 23) (hkk : ¬ (k = 11 ∨ k = 14 ∨ k = 15 ∨ k = 16 ∨ k = 17 ∨ k = 21 ∨ k = 22)) (x2 : Int32) (hft : pr_fit h0 (k : Int) x2.toInt) (hr : tc_ef g0 h0 (k : Int) x2 f = some r) : ru_res g0 h0 D pc (k : Int) x2.toInt r g h (xf_Ma_execute P g (Int32.ofNat k) x2 (Int32.ofNat D)) (mf_Mo_plain h (Int32.ofNat (D - 1)) (Int32.ofNat k) x2) := by
  have hp0 := hp
  obtain ⟨hD, hpc, p1, p2, p3, p4, p5, p6, p7⟩ := hp
  have hP0 := hP
  obtain ⟨hN, hC, hM, hU, hK, hG⟩ := hP
  have hN0 := hN
  obtain ⟨n0, n1, n2, n3⟩ := hN
  obtain ⟨t1, t2, t3, t4, t5⟩ := hft
  have e0 : (0 : Int32).toInt = 0 := rfl
  have e4 : (4 : Int32).toInt = 4 := rfl
  have e6 : (6 : Int32).toInt = 6 := rfl
  obtain ⟨bm1, bm2⟩ := ru_b hD
  obtain ⟨bx1, bx2⟩ := ru_bx hD.2
  have efi : (Int32.ofNat (D - 1)).toInt = ((D - 1 : Nat) : Int) := pv_nI (by omega)
  have hpm := ru_m_pm p2
  have hPm := pm_P hpm hP0
  have hRm := pm_R hpm hRR
  have hRg := xp_R (ru_x_xp p1) hN0 hRR hC
  have npush : ∀ {t v : Int32} {op a : Int}, ru_ty g0 h0 h t v → tc_pt t f = some r → op ≠ 9 ∧ op ≠ 21 ∧ op ≠ 22 → ∀ {C M : qa_Re}, C = ((xf_Fr_push g (85 + 2 * D) v).bind fun t => some ((0 : Int32), t.2)) → M = ((mf_Mo_push h v).bind fun t => mf_Mo_plain_479 t.2 (Int32.ofNat (D - 1)) (h 22 (D - 1) + 1)) → ru_res g0 h0 D pc op a r g h C M := fun {t v op a} hv hr ho {C M} hC hM => ru_op_push hp0 (ru_wx_rf D g) (ru_wm_rf D h) p6 rfl hv hr ho hC hM
  have hpop : ∀ {w : Nat} {q : Int32 × tc_F}, tc_tk h0 w f = some q → ∃ v g' h', xf_Fr_pop g (85 + 2 * D) = some (v, g') ∧ mf_Mo_pop h = some (v, h') ∧ ru_wx D g g' ∧ g' (85 + 2 * D) 2 = g (85 + 2 * D) 2 ∧ ru_wm D h h' ∧ ru_F g0 h0 D q.2 g' h' ∧ ru_ty g0 h0 h' q.1 v := fun {w q} hq => ru_pop hD p4 p6 hq
  have hpl : ∀ {g1 g2 : qa_St} {v : Int32}, xf_Fr_pop g1 (85 + 2 * D) = some (v, g2) → ∀ k, g2 (86 + 2 * D) k = g1 (86 + 2 * D) k := fun {g1 g2 v} he k => by
    have := xs_pop_pl he k
    rw [show 85 + 2 * D + 1 = 86 + 2 * D by omega] at this
    exact this
  have hpop2 : ∀ {w : Nat} {f1 : tc_F} {q : Int32 × tc_F} {g1 h1 : qa_St}, ru_wm D h h1 → ru_F g0 h0 D f1 g1 h1 → tc_tk h0 w f1 = some q → ∃ v g' h', xf_Fr_pop g1 (85 + 2 * D) = some (v, g') ∧ mf_Mo_pop h1 = some (v, h') ∧ ru_wx D g1 g' ∧ g' (85 + 2 * D) 2 = g1 (85 + 2 * D) 2 ∧ ru_wm D h1 h' ∧ ru_F g0 h0 D q.2 g' h' ∧ ru_ty g0 h0 h' q.1 v := fun {w f1 q g1 h1} hm hf hq => ru_pop hD (by rw [hm.1 0 32 (by decide) (by decide) (by decide)]; exact p4) hf hq
  -- two numbers, and a number of them
  have hcalc : ∀ (y : Int32) (kk : Nat) (F : Int32 → Int32 → Int32), (tc_tks h0 2 f).bind (fun q => tc_pt 9 q) = some r → (kk : Int) ≠ 9 ∧ (kk : Int) ≠ 21 ∧ (kk : Int) ≠ 22 → xf_Ma_execute P g y x2 (Int32.ofNat D) = (if Int32.ofNat D < 0 ∨ 11 ≤ (Int32.ofNat D).toNatClampNeg then none else ((xf_Fr_pop g (85 + 2 * (Int32.ofNat D).toNatClampNeg)).bind fun t1 => ((xf_Fr_pop t1.2 (85 + 2 * (Int32.ofNat D).toNatClampNeg)).bind fun t6 => ((xf_Fr_push t6.2 (85 + 2 * (Int32.ofNat D).toNatClampNeg) (F t6.1 t1.1)).bind fun t45 => (some ((0 : Int32), t45.2))))).bind fun t170 => (some (t170.1, t170.2))) → mf_Mo_plain h (Int32.ofNat (D - 1)) y x2 = (if Int32.ofNat (D - 1) < 0 ∨ 10 ≤ (Int32.ofNat (D - 1)).toNatClampNeg then none else ((mf_Mo_pop h).bind fun t34 => ((mf_Mo_pop t34.2).bind fun t61 => ((mf_Mo_push t61.2 (F t61.1 t34.1)).bind fun t233 => (mf_Mo_plain_479 t233.2 (Int32.ofNat (D - 1)) ((h 22 (Int32.ofNat (D - 1)).toNatClampNeg) + (1 : Int32))))))) → ru_res g0 h0 D pc (kk : Int) x2.toInt r g h (xf_Ma_execute P g y x2 (Int32.ofNat D)) (mf_Mo_plain h (Int32.ofNat (D - 1)) y x2) := fun y kk F hr hk9 hCe hMe => by
    obtain ⟨q, q1, q2⟩ := tc_bind hr
    obtain ⟨w, w', w1, w2, w3⟩ := ru_tks2 q1
    obtain ⟨v1, g1, h1, a1, a2, a3, a4, a5, a6, a7⟩ := hpop w1
    obtain ⟨v2, g2, h2, b1, b2, b3, b4, b5, b6, b7⟩ := hpop2 a5 a6 w2
    rw [w3] at b6
    refine ru_op_push hp0 (ru_wx_tr a3 b3) (ru_wm_tr a5 b5) b6 (b4.trans a4) (ru_9 (F v2 v1)) q2 hk9 ?_ ?_
    · rw [hCe, if_neg bx2, bx1, a1, Option.bind_some, b1, Option.bind_some]
      cases xf_Fr_push g2 (85 + 2 * D) (F v2 v1) with
      | none => rfl
      | some z => rfl
    · rw [hMe, if_neg bm2, bm1, a2, Option.bind_some, b2, Option.bind_some]
  have hGw : ∀ {g1 h1 : qa_St}, ru_wx D g g1 → ru_wm D h h1 → ru_G h0 g1 h1 := fun {g1 h1} hx hm => ru_G_w (fun r k a b _ => hx r k (by omega) (by omega)) (fun r k hr => hm.1 r k (by omega) (by omega) (by omega)) p3
  have hidx : ∀ n : Nat, n < 16 → 0 ≤ x2.toInt → x2.toInt ≤ 5 → (Int32.ofNat n * 6 + x2).toNatClampNeg = 6 * n + x2.toInt.toNat ∧ ¬ (Int32.ofNat n * 6 + x2 < 0 ∨ 96 ≤ (Int32.ofNat n * 6 + x2).toNatClampNeg) ∧ ((6 : Int32) * Int32.ofNat n + x2).toNatClampNeg = 6 * n + x2.toInt.toNat ∧ ¬ ((6 : Int32) * Int32.ofNat n + x2 < 0 ∨ 96 ≤ ((6 : Int32) * Int32.ofNat n + x2).toNatClampNeg) := fun n hn ha hb => by
    have en : (Int32.ofNat n).toInt = (n : Int) := pv_nI (by omega)
    have m1 : (Int32.ofNat n * 6).toInt = 6 * (n : Int) := by rw [pv_mul (by rw [en, e6]; omega) (by rw [en, e6]; omega), en, e6]; omega
    have m2 : ((6 : Int32) * Int32.ofNat n).toInt = 6 * (n : Int) := by rw [pv_mul (by rw [en, e6]; omega) (by rw [en, e6]; omega), en, e6]
    have s1 : (Int32.ofNat n * 6 + x2).toInt = 6 * (n : Int) + x2.toInt := by rw [pv_add (by rw [m1]; omega) (by rw [m1]; omega), m1]
    have s2 : ((6 : Int32) * Int32.ofNat n + x2).toInt = 6 * (n : Int) + x2.toInt := by rw [pv_add (by rw [m2]; omega) (by rw [m2]; omega), m2]
    have n1 : (Int32.ofNat n * 6 + x2).toNatClampNeg = 6 * n + x2.toInt.toNat := by rw [pv_cl, s1]; omega
    have n2 : ((6 : Int32) * Int32.ofNat n + x2).toNatClampNeg = 6 * n + x2.toInt.toNat := by rw [pv_cl, s2]; omega
    exact ⟨n1, by rw [n1, pv_lt, s1, e0]; omega, n2, by rw [n2, pv_lt, s2, e0]; omega⟩
  match k, hk, hkk with
  | 0, _, _ => exact npush (ru_9 x2) hr (by decide) (by show (if _ then none else _) = _; rw [if_neg bx2, bx1]; rfl) (by show (if _ then none else _) = _; rw [if_neg bm2, bm1]; rfl)
  | 1, _, _ => exact npush (t := x2) (v := -1) (Or.inr (Or.inr ⟨t1 (by omega), Or.inl rfl⟩)) hr (by decide) (by show (if _ then none else _) = _; rw [if_neg bx2, bx1]; rfl) (by show (if _ then none else _) = _; rw [if_neg bm2, bm1]; rfl)
  | 2, _, _ =>
    have ht2 := t2 (by omega)
    have hef : tc_ef g0 h0 ((2 : Nat) : Int) x2 f = (if f.2 x2.toInt.toNat = 8 then none else tc_pt (f.2 x2.toInt.toNat) f) := rfl
    rw [hef] at hr
    by_cases h8 : f.2 x2.toInt.toNat = 8
    · rw [if_pos h8] at hr; cases hr
    · rw [if_neg h8] at hr
      obtain ⟨l1, l2⟩ := p6.2.2.2.2 x2.toInt.toNat (by omega) h8
      have e4f : ((4 : Int32) * Int32.ofNat (D - 1)).toInt = 4 * ((D - 1 : Nat) : Int) := by rw [pv_mul (by rw [efi, e4]; omega) (by rw [efi, e4]; omega), efi, e4]
      have es : ((4 : Int32) * Int32.ofNat (D - 1) + x2).toInt = 4 * ((D - 1 : Nat) : Int) + x2.toInt := by rw [pv_add (by rw [e4f]; omega) (by rw [e4f]; omega), e4f]
      have esn : ((4 : Int32) * Int32.ofNat (D - 1) + x2).toNatClampNeg = 4 * (D - 1) + x2.toInt.toNat := by rw [pv_cl, es]; omega
      refine npush l2 hr (by decide) ?_ ?_
      · have hCe : xf_Ma_execute P g (Int32.ofNat 2) x2 (Int32.ofNat D) = (if Int32.ofNat D < 0 ∨ 11 ≤ (Int32.ofNat D).toNatClampNeg then none else ((xf_Fr_place g (85 + 2 * (Int32.ofNat D).toNatClampNeg) x2).bind fun t137 => ((xf_Fr_push t137.2 (85 + 2 * (Int32.ofNat D).toNatClampNeg) t137.1).bind fun t140 => (some ((0 : Int32), t140.2))))) := rfl
        rw [hCe, if_neg bx2, bx1, xs_place _ x2 (by omega), Option.bind_some, show 85 + 2 * D + 1 = 86 + 2 * D by omega, l1]
      · unfold mf_Mo_plain
        rw [if_neg bm2, if_pos (by decide)]
        unfold mf_Mo_plain_40 mf_Mo_plain_41
        rw [if_pos (by decide)]
        unfold mf_Mo_plain_54
        rw [if_neg (by decide)]
        unfold mf_Mo_plain_68
        rw [if_neg (by decide)]
        unfold mf_Mo_plain_84
        rw [if_neg (by decide)]
        unfold mf_Mo_plain_95
        rw [if_neg (by decide)]
        unfold mf_Mo_plain_108
        rw [if_neg (by decide)]
        unfold mf_Mo_plain_126
        rw [if_neg (by decide)]
        unfold mf_Mo_plain_155
        rw [if_neg (by decide), if_neg (by decide), if_pos (by decide), if_neg (by rw [esn, pv_lt, es, e0]; omega), esn, bm1]
  | 3, _, _ =>
    have ht2 := t2 (by omega)
    have hef : tc_ef g0 h0 ((3 : Nat) : Int) x2 f = (tc_tk h0 0 f).bind fun q => some (q.2.1, tc_up q.2.2 x2.toInt.toNat q.1) := rfl
    rw [hef] at hr
    obtain ⟨q, q1, q2⟩ := tc_bind hr
    cases q2
    obtain ⟨v, g1, h1, a1, a2, a3, a4, a5, a6, a7⟩ := hpop q1
    have e4f : ((4 : Int32) * Int32.ofNat (D - 1)).toInt = 4 * ((D - 1 : Nat) : Int) := by rw [pv_mul (by rw [efi, e4]; omega) (by rw [efi, e4]; omega), efi, e4]
    have es : ((4 : Int32) * Int32.ofNat (D - 1) + x2).toInt = 4 * ((D - 1 : Nat) : Int) + x2.toInt := by rw [pv_add (by rw [e4f]; omega) (by rw [e4f]; omega), e4f]
    have esn : ((4 : Int32) * Int32.ofNat (D - 1) + x2).toNatClampNeg = 4 * (D - 1) + x2.toInt.toNat := by rw [pv_cl, es]; omega
    have hw : ru_wm D h1 (qa_up h1 26 (4 * (D - 1) + x2.toInt.toNat) v) := ⟨fun r k b1 b2 b3 => pv_nr b2, fun k hk => pv_nr (by decide), fun k hk => pv_ni (by omega), fun k hk => pv_nr (by decide)⟩
    refine ru_fin hp0 (g1 := qa_up g1 (86 + 2 * D) x2.toInt.toNat v) (h1 := qa_up h1 26 (4 * (D - 1) + x2.toInt.toNat) v) (fun r k b1 b2 => by rw [pv_nr b2]; exact a3 r k b1 b2) (ru_wm_tr a5 hw) ?_ (pc + 1) (ru_sc (by decide)) (by rw [pv_nr (by omega), a4]; exact p7) ?_ ?_
    · obtain ⟨f1, f2, f3, f4, f5⟩ := a6
      refine ⟨f1, by rw [pv_nr (by omega)]; exact f2, by rw [pv_nr (by decide)]; exact f3, fun k hk => ?_, fun p hpp hz => ?_⟩
      · show _ ∧ ru_ty g0 h0 _ (tc_up q.2.2 x2.toInt.toNat q.1 (4 + k)) _
        rw [pv_ni (by omega), pv_nr (by decide), tc_up_n (by omega)]
        exact ⟨(f4 k hk).1, ru_ty_w hw (f4 k hk).2⟩
      · have hz : tc_up q.2.2 x2.toInt.toNat q.1 p ≠ 8 := hz
        show _ ∧ ru_ty g0 h0 _ (tc_up q.2.2 x2.toInt.toNat q.1 p) _
        by_cases hpa : p = x2.toInt.toNat
        · rw [hpa, tc_up_s, pv_self, pv_self]
          exact ⟨rfl, ru_ty_w hw a7⟩
        · rw [tc_up_n hpa] at hz ⊢
          rw [pv_ni hpa, pv_ni (by omega)]
          exact ⟨(f5 p hpp hz).1, ru_ty_w hw (f5 p hpp hz).2⟩
    · show (if _ then none else _) = _
      rw [if_neg bx2, bx1, a1, Option.bind_some, xs_setPlace _ x2 _ (by omega), Option.bind_some, show 85 + 2 * D + 1 = 86 + 2 * D by omega]
      rfl
    · show (if _ then none else ((mf_Mo_pop h).bind fun t34 => (if (((4 : Int32) * Int32.ofNat (D - 1)) + x2) < 0 ∨ 40 ≤ (((4 : Int32) * Int32.ofNat (D - 1)) + x2).toNatClampNeg then none else (mf_Mo_plain_479 (qa_up t34.2 26 (((4 : Int32) * Int32.ofNat (D - 1)) + x2).toNatClampNeg t34.1) (Int32.ofNat (D - 1)) ((h 22 (Int32.ofNat (D - 1)).toNatClampNeg) + (1 : Int32)))))) = _
      rw [if_neg bm2, a2, Option.bind_some, if_neg (by rw [esn, pv_lt, es, e0]; omega), esn, ru_479 hD, bm1, p5, pv_n1]
  | 4, _, _ =>
    have hef : tc_ef g0 h0 ((4 : Nat) : Int) x2 f = (tc_tk h0 0 f).bind fun q => some q.2 := rfl
    rw [hef] at hr
    obtain ⟨q, q1, q2⟩ := tc_bind hr
    cases q2
    obtain ⟨v, g1, h1, a1, a2, a3, a4, a5, a6, a7⟩ := hpop q1
    refine ru_fin hp0 a3 a5 a6 (pc + 1) (ru_sc (by decide)) (by rw [a4]; exact p7) ?_ ?_
    · show (if _ then none else _) = _
      rw [if_neg bx2, bx1, a1, Option.bind_some]
      rfl
    · show (if _ then none else ((mf_Mo_pop h).bind fun t34 => (mf_Mo_plain_479 t34.2 (Int32.ofNat (D - 1)) ((h 22 (Int32.ofNat (D - 1)).toNatClampNeg) + (1 : Int32))))) = _
      rw [if_neg bm2, a2, Option.bind_some, ru_479 hD, bm1, p5, pv_n1]
  | 5, _, _ => exact hcalc (Int32.ofNat 5) 5 (fun x y => x + y) hr (by decide) rfl rfl
  | 6, _, _ => exact hcalc (Int32.ofNat 6) 6 (fun x y => x - y) hr (by decide) rfl rfl
  | 7, _, _ => exact hcalc (Int32.ofNat 7) 7 (fun x y => x * y) hr (by decide) rfl rfl
  | 8, _, _ =>
    have hef : tc_ef g0 h0 ((8 : Nat) : Int) x2 f = (tc_tks h0 2 f).bind fun q => tc_pt 9 q := rfl
    rw [hef] at hr
    obtain ⟨q, q1, q2⟩ := tc_bind hr
    obtain ⟨w, w', w1, w2, w3⟩ := ru_tks2 q1
    obtain ⟨v1, g1, h1, a1, a2, a3, a4, a5, a6, a7⟩ := hpop w1
    obtain ⟨v2, g2, h2, b1, b2, b3, b4, b5, b6, b7⟩ := hpop2 a5 a6 w2
    rw [w3] at b6
    have hCe : xf_Ma_execute P g (Int32.ofNat 8) x2 (Int32.ofNat D) = (if v1 = 0 then some (1, qa_up g2 78 12 (-2)) else ((xf_Fr_push g2 (85 + 2 * D) (v2 / v1)).bind fun t86 => (some ((0 : Int32), t86.2)))) := by
      show (if _ then none else ((xf_Fr_pop g (85 + 2 * (Int32.ofNat D).toNatClampNeg)).bind fun t1 => ((xf_Fr_pop t1.2 (85 + 2 * (Int32.ofNat D).toNatClampNeg)).bind fun t6 => (if t1.1 = 0 then ((xf_Ma_toss t6.2 (-2 : Int32)).bind fun t77 => (some (t77.1, t77.2))) else (if t1.1 = 0 then none else ((xf_Fr_push t6.2 (85 + 2 * (Int32.ofNat D).toNatClampNeg) (t6.1 / t1.1)).bind fun t86 => (some ((0 : Int32), t86.2))))))).bind fun t170 => (some (t170.1, t170.2))) = _
      rw [if_neg bx2, bx1, a1, Option.bind_some, b1, Option.bind_some]
      by_cases hz : v1 = 0
      · rw [if_pos hz, if_pos hz]; rfl
      · rw [if_neg hz, if_neg hz, if_neg hz]
        cases xf_Fr_push g2 (85 + 2 * D) (v2 / v1) with
        | none => rfl
        | some z => rfl
    have hMe : mf_Mo_plain h (Int32.ofNat (D - 1)) (Int32.ofNat 8) x2 = (if v1 = 0 then some (-2, h2) else ((mf_Mo_push h2 (v2 / v1)).bind fun t287 => (mf_Mo_plain_479 t287.2 (Int32.ofNat (D - 1)) (h 22 (D - 1) + 1)))) := by
      show (if _ then none else ((mf_Mo_pop h).bind fun t34 => ((mf_Mo_pop t34.2).bind fun t61 => (if t34.1 = 0 then (some ((-2 : Int32), t61.2)) else (if t34.1 = 0 then none else ((mf_Mo_push t61.2 (t61.1 / t34.1)).bind fun t287 => (mf_Mo_plain_479 t287.2 (Int32.ofNat (D - 1)) ((h 22 (Int32.ofNat (D - 1)).toNatClampNeg) + (1 : Int32))))))))) = _
      rw [if_neg bm2, bm1, a2, Option.bind_some, b2, Option.bind_some]
      by_cases hz : v1 = 0
      · rw [if_pos hz, if_pos hz]
      · rw [if_neg hz, if_neg hz, if_neg hz]
    by_cases hz : v1 = 0
    · rw [if_pos hz] at hCe hMe
      exact ru_thr hp0 (ru_wx_tr a3 b3) (ru_wm_tr a5 b5) (fun k => (hpl b1 k).trans (hpl a1 k)) (fun k => (ms_pop_pl b2 k).trans (ms_pop_pl a2 k)) (-2) (by decide) hCe hMe
    · rw [if_neg hz] at hCe hMe
      exact ru_op_push hp0 (ru_wx_tr a3 b3) (ru_wm_tr a5 b5) b6 (b4.trans a4) (ru_9 _) q2 (by decide) hCe hMe
  | 9, _, _ =>
    have ht3 := t3 (by omega)
    have hef : tc_ef g0 h0 ((9 : Nat) : Int) x2 f = some f := rfl
    rw [hef] at hr
    cases hr
    have ea : x2 = Int32.ofNat x2.toInt.toNat := pv_nIe ht3.1
    refine ru_fin hp0 (g1 := qa_up g (85 + 2 * D) 2 x2) (fun r k b1 b2 => pv_nr b1) (ru_wm_rf D h) ?_ x2.toInt.toNat (Or.inr ⟨Or.inl rfl, by omega⟩) (by rw [pv_self, ← ea]) ?_ ?_
    · exact ru_F_w (fun k => pv_nr (by omega)) (pv_ni (by decide)) rfl (fun _ => rfl) (fun _ => rfl) (Int.le_refl _) (fun _ _ => rfl) p6
    · show (if _ then none else _) = _
      rw [if_neg bx2, bx1]
      rfl
    · show (if _ then none else (mf_Mo_plain_479 h (Int32.ofNat (D - 1)) x2)) = _
      rw [if_neg bm2, ru_479 hD, ← ea]
  | 10, _, _ =>
    have ht3 := t3 (by omega)
    obtain ⟨q, q1, q2⟩ := ru_tks1 (show tc_tks h0 1 f = some r from hr)
    obtain ⟨v, g1, h1, a1, a2, a3, a4, a5, a6, a7⟩ := hpop q1
    rw [q2] at a6
    have ea : x2 = Int32.ofNat x2.toInt.toNat := pv_nIe ht3.1
    have hCe : xf_Ma_execute P g (Int32.ofNat 10) x2 (Int32.ofNat D) = (if 0 < v then some (0, g1) else some (0, qa_up g1 (85 + 2 * D) 2 x2)) := by
      show (if _ then none else _) = _
      rw [if_neg bx2, bx1, a1, Option.bind_some]
      rfl
    have hMe : mf_Mo_plain h (Int32.ofNat (D - 1)) (Int32.ofNat 10) x2 = (if 0 < v then some (0, qa_up h1 22 (D - 1) (Int32.ofNat (pc + 1))) else some (0, qa_up h1 22 (D - 1) x2)) := by
      show (if _ then none else ((mf_Mo_pop h).bind fun t34 => (if 0 < t34.1 then (mf_Mo_plain_479 t34.2 (Int32.ofNat (D - 1)) ((h 22 (Int32.ofNat (D - 1)).toNatClampNeg) + (1 : Int32))) else (mf_Mo_plain_479 t34.2 (Int32.ofNat (D - 1)) x2)))) = _
      rw [if_neg bm2, a2, Option.bind_some, ru_479 hD, ru_479 hD, bm1, p5, pv_n1]
    by_cases hz : 0 < v
    · rw [if_pos hz] at hCe hMe
      exact ru_fin hp0 a3 a5 a6 (pc + 1) (Or.inl ⟨by decide, by decide, by decide, by omega⟩) (by rw [a4]; exact p7) hCe hMe
    · rw [if_neg hz] at hCe hMe
      refine ru_fin hp0 (g1 := qa_up g1 (85 + 2 * D) 2 x2) (fun r k b1 b2 => by rw [pv_nr b1]; exact a3 r k b1 b2) a5 ?_ x2.toInt.toNat (Or.inr ⟨Or.inr rfl, by omega⟩) (by rw [pv_self, ← ea]) hCe (by rw [hMe, ← ea])
      exact ru_F_w (fun k => pv_nr (by omega)) (pv_ni (by decide)) rfl (fun _ => rfl) (fun _ => rfl) (Int.le_refl _) (fun _ _ => rfl) a6
  | 12, _, _ =>
    have ht4 := t4 (by omega)
    have hef : tc_ef g0 h0 ((12 : Nat) : Int) x2 f = (tc_tk h0 2 f).bind fun q => if x2.toInt < (g0 3 q.1.toInt.toNat).toInt then tc_pt 9 q.2 else none := rfl
    rw [hef] at hr
    obtain ⟨q, q1, q2⟩ := tc_bind hr
    have hcl := tc_tk2_cl q1
    obtain ⟨v, g1, h1, a1, a2, a3, a4, a5, a6, a7⟩ := hpop q1
    have q2 : tc_pt 9 q.2 = some r := by
      by_cases hz : x2.toInt < (g0 3 q.1.toInt.toNat).toInt
      · rw [if_pos hz] at q2; exact q2
      · rw [if_neg hz] at q2; cases q2
    have hCe : xf_Ma_execute P g (Int32.ofNat 12) x2 (Int32.ofNat D) = (if Int32.ofNat D < 0 ∨ 11 ≤ (Int32.ofNat D).toNatClampNeg then none else (((xf_Fr_pop g (85 + 2 * (Int32.ofNat D).toNatClampNeg)).bind fun t17 => ((xf_Ma_isNull t17.2 t17.1).bind fun t25 => (if t25.1 = 0 then (if ((t17.1 * (6 : Int32)) + x2) < 0 ∨ 96 ≤ ((t17.1 * (6 : Int32)) + x2).toNatClampNeg then none else ((xf_Fr_push t25.2 (85 + 2 * (Int32.ofNat D).toNatClampNeg) (t25.2 83 ((t17.1 * (6 : Int32)) + x2).toNatClampNeg)).bind fun t72 => (some ((0 : Int32), t72.2)))) else ((xf_Ma_toss t25.2 (-1 : Int32)).bind fun t33 => (some (t33.1, t33.2)))))).bind fun t235 => (some (t235.1, t235.2)))) := rfl
    have hMe : mf_Mo_plain h (Int32.ofNat (D - 1)) (Int32.ofNat 12) x2 = (if Int32.ofNat (D - 1) < 0 ∨ 10 ≤ (Int32.ofNat (D - 1)).toNatClampNeg then none else ((mf_Mo_pop h).bind fun t34 => (if t34.1 < 0 then (some ((-1 : Int32), t34.2)) else (if (((6 : Int32) * t34.1) + x2) < 0 ∨ 96 ≤ (((6 : Int32) * t34.1) + x2).toNatClampNeg then none else ((mf_Mo_push t34.2 (t34.2 29 (((6 : Int32) * t34.1) + x2).toNatClampNeg)).bind fun t349 => (mf_Mo_plain_479 t349.2 (Int32.ofNat (D - 1)) ((h 22 (Int32.ofNat (D - 1)).toNatClampNeg) + (1 : Int32)))))))) := rfl
    rw [if_neg bx2, bx1, a1] at hCe
    simp only [Option.bind_some] at hCe
    rw [if_neg bm2, bm1, a2] at hMe
    simp only [Option.bind_some] at hMe
    rcases ru_obj hN0 (hGw a3 a5) hcl a7 with ⟨o1, o2⟩ | ⟨n, o1, o2, o3, o4, o5, o6, o7, o8⟩
    · rw [o2] at hCe
      simp only [Option.bind_some] at hCe
      rw [if_neg (by decide)] at hCe
      rw [if_pos (by rw [o1]; decide)] at hMe
      exact ru_thr hp0 a3 a5 (hpl a1) (ms_pop_pl a2) (-1) (by decide) hCe hMe
    · obtain ⟨i1, i2, i3, i4⟩ := hidx n o2 ht4.1 ht4.2
      have en : (Int32.ofNat n).toInt = (n : Int) := pv_nI (by omega)
      rw [o4] at hCe
      simp only [Option.bind_some] at hCe
      rw [if_pos trivial, o1, if_neg i2, i1, o8 _ (by omega)] at hCe
      rw [o1, if_neg (by rw [pv_lt, en, e0]; omega), if_neg i4, i3] at hMe
      refine ru_op_push hp0 a3 a5 a6 a4 (ru_9 _) q2 (by decide) ?_ hMe
      rw [hCe]
      cases xf_Fr_push g1 (85 + 2 * D) (h1 29 (6 * n + x2.toInt.toNat)) with
      | none => rfl
      | some z => rfl
  | 13, _, _ =>
    have ht4 := t4 (by omega)
    have hef : tc_ef g0 h0 ((13 : Nat) : Int) x2 f = (tc_tks h0 1 f).bind fun p => (tc_tk h0 2 p).bind fun q => if x2.toInt < (g0 3 q.1.toInt.toNat).toInt then some q.2 else none := rfl
    rw [hef] at hr
    obtain ⟨p, pp1, pp2⟩ := tc_bind hr
    obtain ⟨s, s1, s2⟩ := ru_tks1 pp1
    rw [← s2] at pp2
    obtain ⟨q, q1, q2⟩ := tc_bind pp2
    have hcl := tc_tk2_cl q1
    have q2 : q.2 = r := by
      by_cases hz : x2.toInt < (g0 3 q.1.toInt.toNat).toInt
      · rw [if_pos hz] at q2; cases q2; rfl
      · rw [if_neg hz] at q2; cases q2
    obtain ⟨y, g1, h1, a1, a2, a3, a4, a5, a6, a7⟩ := hpop s1
    obtain ⟨v, g2, h2, b1, b2, b3, b4, b5, b6, b7⟩ := hpop2 a5 a6 q1
    rw [q2] at b6
    have hCe : xf_Ma_execute P g (Int32.ofNat 13) x2 (Int32.ofNat D) = (if Int32.ofNat D < 0 ∨ 11 ≤ (Int32.ofNat D).toNatClampNeg then none else (((xf_Fr_pop g (85 + 2 * (Int32.ofNat D).toNatClampNeg)).bind fun t7 => ((xf_Fr_pop t7.2 (85 + 2 * (Int32.ofNat D).toNatClampNeg)).bind fun t17 => ((xf_Ma_isNull t17.2 t17.1).bind fun t25 => (if t25.1 = 0 then (if ((t17.1 * (6 : Int32)) + x2) < 0 ∨ 96 ≤ ((t17.1 * (6 : Int32)) + x2).toNatClampNeg then none else (some ((0 : Int32), (qa_up t25.2 83 ((t17.1 * (6 : Int32)) + x2).toNatClampNeg t7.1)))) else ((xf_Ma_toss t25.2 (-1 : Int32)).bind fun t33 => (some (t33.1, t33.2))))))).bind fun t235 => (some (t235.1, t235.2)))) := rfl
    have hMe : mf_Mo_plain h (Int32.ofNat (D - 1)) (Int32.ofNat 13) x2 = (if 0 ≤ v then (if (((6 : Int32) * v) + x2) < 0 ∨ 96 ≤ (((6 : Int32) * v) + x2).toNatClampNeg then none else (mf_Mo_plain_479 (qa_up h2 29 (((6 : Int32) * v) + x2).toNatClampNeg y) (Int32.ofNat (D - 1)) (h 22 (D - 1) + 1))) else (some ((-1 : Int32), h2))) := by
      unfold mf_Mo_plain
      rw [if_neg bm2, if_neg (by decide), if_neg (by decide), if_neg (by decide), if_neg (by decide), bm1, a2]
      rw [Option.bind_some]
      dsimp only
      unfold mf_Mo_plain_41
      rw [if_neg (by decide), if_neg (by decide)]
      unfold mf_Mo_plain_54
      rw [if_pos (by decide)]
      unfold mf_Mo_plain_60
      rw [b2]
      rw [Option.bind_some]
      dsimp only
      unfold mf_Mo_plain_68
      rw [if_neg (by decide)]
      unfold mf_Mo_plain_84
      rw [if_neg (by decide)]
      unfold mf_Mo_plain_95
      rw [if_pos (by decide)]
      unfold mf_Mo_plain_108
      rw [if_neg (show ¬ Int32.ofNat 13 = 11 by decide)]
      unfold mf_Mo_plain_126
      rw [if_neg (show ¬ Int32.ofNat 13 = 18 by decide)]
      unfold mf_Mo_plain_155
      rw [if_neg (show ¬ Int32.ofNat 13 = 0 by decide), if_neg (show ¬ Int32.ofNat 13 = 1 by decide), if_neg (show ¬ Int32.ofNat 13 = 2 by decide), if_neg (show ¬ Int32.ofNat 13 = 3 by decide), if_neg (show ¬ Int32.ofNat 13 = 5 by decide), if_neg (show ¬ Int32.ofNat 13 = 6 by decide), if_neg (show ¬ Int32.ofNat 13 = 7 by decide), if_neg (show ¬ Int32.ofNat 13 = 8 by decide), if_neg (show ¬ Int32.ofNat 13 = 9 by decide), if_neg (show ¬ Int32.ofNat 13 = 10 by decide)]
      unfold mf_Mo_plain_316
      rw [if_neg (show ¬ Int32.ofNat 13 = 11 by decide), if_neg (show ¬ Int32.ofNat 13 = 12 by decide), if_pos (show Int32.ofNat 13 = 13 by decide)]
    rw [if_neg bx2, bx1, a1] at hCe
    simp only [Option.bind_some] at hCe
    rw [b1] at hCe
    simp only [Option.bind_some] at hCe
    have hwx := ru_wx_tr a3 b3
    have hwm := ru_wm_tr a5 b5
    rcases ru_obj hN0 (hGw hwx hwm) hcl b7 with ⟨o1, o2⟩ | ⟨n, o1, o2, o3, o4, o5, o6, o7, o8⟩
    · rw [o2] at hCe
      simp only [Option.bind_some] at hCe
      rw [if_neg (by decide)] at hCe
      rw [if_neg (by rw [o1]; decide)] at hMe
      exact ru_thr hp0 hwx hwm (fun k => (hpl b1 k).trans (hpl a1 k)) (fun k => (ms_pop_pl b2 k).trans (ms_pop_pl a2 k)) (-1) (by decide) hCe hMe
    · obtain ⟨i1, i2, i3, i4⟩ := hidx n o2 ht4.1 ht4.2
      have en : (Int32.ofNat n).toInt = (n : Int) := pv_nI (by omega)
      rw [o4] at hCe
      simp only [Option.bind_some] at hCe
      rw [if_pos trivial, o1, if_neg i2, i1] at hCe
      simp only [Option.bind_some] at hCe
      rw [o1, if_pos (by rw [pv_le, en, e0]; omega), if_neg i4, i3, ru_479 hD, p5, pv_n1] at hMe
      have hG2 := hGw hwx hwm
      have hf2 := ru_fin (op := ((13 : Nat) : Int)) (a := x2.toInt) hp0 hwx hwm b6 (pc + 1) (ru_sc (by decide)) (by rw [b4, a4]; exact p7) (C := some (0, g2)) (M := some (0, qa_up h2 22 (D - 1) (Int32.ofNat (pc + 1)))) rfl rfl
      obtain ⟨g3, h3, c1, c2, c3, c4⟩ := hf2
      rcases c4 with ⟨d1, d2, d3, d4⟩ | ⟨x, -, d1, -⟩
      · cases d1
        cases d2
        obtain ⟨⟨nn, u1, u2, u3, u4⟩, w2, w3, w4, w5⟩ := c3
        refine ⟨qa_up g2 83 (6 * n + x2.toInt.toNat) y, qa_up (qa_up h2 22 (D - 1) (Int32.ofNat (pc + 1))) 29 (6 * n + x2.toInt.toNat) y, ⟨fun r k hr => by rw [pv_nr (by omega)]; exact c1.1 r k hr, fun r k l1 l2 => by rw [pv_nr (by omega)]; exact c1.2 r k l1 l2⟩, ?_, ?_, Or.inl ⟨hCe, ?_, ?_, ?_⟩⟩
        · obtain ⟨l1, l2, l3, l4, l5, l6, l7, l8⟩ := c2
          refine ⟨fun k k1 k2 => by rw [pv_nr (by decide)]; exact l1 k k1 k2, fun r k r1 r2 => by rw [pv_nr (by omega)]; exact l2 r k r1 r2, fun k => by rw [pv_nr (by decide), pv_nr (by decide), pv_nr (by decide)]; exact l3 k, fun k hk => by rw [pv_nr (show (22 : Nat) ≠ 29 by decide), pv_nr (show (23 : Nat) ≠ 29 by decide)]; exact l4 k hk, fun k hk => by rw [pv_nr (by decide)]; exact l5 k hk, fun k hk => by rw [pv_nr (by decide)]; exact l6 k hk, by rw [pv_nr (by decide)]; exact l7, fun k hk => by rw [pv_nr (by decide)]; exact l8 k hk⟩
        · refine ⟨⟨nn, u1, by rw [pv_nr (by decide)]; exact u2, by rw [pv_nr (by decide)]; exact u3, fun k hk => ?_⟩, ?_, ?_, ?_, ?_⟩
          · obtain ⟨e1, e2, e3⟩ := u4 k hk
            rw [pv_nr (show (82 : Nat) ≠ 83 by decide), pv_nr (show (28 : Nat) ≠ 29 by decide)]
            refine ⟨e1, e2, fun j hj => ?_⟩
            by_cases hkj : 6 * k + j = 6 * n + x2.toInt.toNat
            · rw [hkj, pv_self, pv_self]
            · rw [pv_ni hkj, pv_ni hkj]; exact e3 j hj
          · intro c hc
            rw [pv_nr (by decide), pv_nr (by decide), pv_nr (by decide), pv_nr (by decide)]; exact w2 c hc
          · have : ru_B (qa_up (qa_up h2 22 (D - 1) (Int32.ofNat (pc + 1))) 29 (6 * n + x2.toInt.toNat) y) = ru_B (qa_up h2 22 (D - 1) (Int32.ofNat (pc + 1))) := by
              unfold ru_B
              rw [show (qa_up (qa_up h2 22 (D - 1) (Int32.ofNat (pc + 1))) 29 (6 * n + x2.toInt.toNat) y) 31 = (qa_up h2 22 (D - 1) (Int32.ofNat (pc + 1))) 31 from funext fun k => pv_nr (by decide)]
            rw [this, pv_nr (by decide), pv_nr (by decide)]; exact w3
          · rw [pv_nr (by decide), pv_nr (by decide), pv_nr (by decide)]
            refine ⟨w4.1, w4.2.1, w4.2.2.1, fun k hk => ?_⟩
            rw [pv_nr (by decide), pv_nr (by decide)]; exact w4.2.2.2 k hk
          · rw [pv_nr (by decide), pv_nr (by decide), pv_nr (by decide), pv_nr (by decide)]; exact w5
        · rw [hMe]
          congr 2
          funext r k
          rw [pv_get, pv_get, pv_get, pv_get]
          by_cases z1 : r = 22 ∧ k = D - 1
          · rw [if_pos z1, if_neg (by omega), if_pos z1]
          · rw [if_neg z1]
            by_cases z2 : r = 29 ∧ k = 6 * n + x2.toInt.toNat
            · rw [if_pos z2, if_pos z2]
            · rw [if_neg z2, if_neg z2, if_neg z1]
        · exact ru_F_w (fun k => pv_nr (by omega)) (pv_nr (by omega)) (pv_nr (by decide)) (fun k => pv_nr (by decide)) (fun k => pv_nr (by decide)) (by rw [pv_nr (by decide)]; exact Int.le_refl _) (fun k _ => pv_nr (by decide)) d3
        · obtain ⟨j, j1, j2, j3⟩ := d4
          exact ⟨j, j1, by rw [pv_nr (by omega)]; exact j2, by rw [pv_nr (by decide)]; exact j3⟩
      · cases d1
  | 18, _, _ =>
    have ht1 := t1 (by omega)
    have hef : tc_ef g0 h0 ((18 : Nat) : Int) x2 f = (tc_tk h0 2 f).bind fun q => tc_pt x2 q.2 := rfl
    rw [hef] at hr
    obtain ⟨q, q1, q2⟩ := tc_bind hr
    have hcl := tc_tk2_cl q1
    obtain ⟨v, g1, h1, a1, a2, a3, a4, a5, a6, a7⟩ := hpop q1
    have hCe : xf_Ma_execute P g (Int32.ofNat 18) x2 (Int32.ofNat D) = (if Int32.ofNat D < 0 ∨ 11 ≤ (Int32.ofNat D).toNatClampNeg then none else ((xf_Ma_testType g (Int32.ofNat 18) x2 (85 + 2 * (Int32.ofNat D).toNatClampNeg)).bind fun t243 => (some (t243.1, t243.2)))) := rfl
    have hMe : mf_Mo_plain h (Int32.ofNat (D - 1)) (Int32.ofNat 18) x2 = (if Int32.ofNat (D - 1) < 0 ∨ 10 ≤ (Int32.ofNat (D - 1)).toNatClampNeg then none else ((mf_Mo_pop h).bind fun t34 => (if t34.1 < 0 then ((mf_Mo_push t34.2 t34.1).bind fun t423 => (mf_Mo_plain_479 t423.2 (Int32.ofNat (D - 1)) ((h 22 (Int32.ofNat (D - 1)).toNatClampNeg) + (1 : Int32)))) else (if t34.1 < 0 ∨ 16 ≤ t34.1.toNatClampNeg then none else ((mf_Mo_isOf t34.2 (t34.2 28 t34.1.toNatClampNeg) x2).bind fun t146 => (if t146.1 = 0 then (some ((-3 : Int32), t146.2)) else ((mf_Mo_push t146.2 t34.1).bind fun t423 => (mf_Mo_plain_479 t423.2 (Int32.ofNat (D - 1)) ((h 22 (Int32.ofNat (D - 1)).toNatClampNeg) + (1 : Int32))))))))) ) := rfl
    rw [if_neg bx2, bx1] at hCe
    rw [if_neg bm2, bm1, a2] at hMe
    simp only [Option.bind_some] at hMe
    have hpush : ∀ {t : Int32}, xf_Ma_testType g (Int32.ofNat 18) x2 (85 + 2 * D) = ((xf_Fr_push g1 (85 + 2 * D) v).bind fun t86 => (some ((0 : Int32), t86.2))) → ru_ty g0 h0 h1 x2 v → mf_Mo_plain h (Int32.ofNat (D - 1)) (Int32.ofNat 18) x2 = ((mf_Mo_push h1 v).bind fun t423 => (mf_Mo_plain_479 t423.2 (Int32.ofNat (D - 1)) (h 22 (D - 1) + 1))) → ru_res g0 h0 D pc ((18 : Nat) : Int) x2.toInt r g h (xf_Ma_execute P g (Int32.ofNat 18) x2 (Int32.ofNat D)) (mf_Mo_plain h (Int32.ofNat (D - 1)) (Int32.ofNat 18) x2) := fun {t} z1 z2 z3 => by
      refine ru_op_push hp0 a3 a5 a6 a4 z2 q2 (by decide) ?_ z3
      rw [hCe, z1]
      cases xf_Fr_push g1 (85 + 2 * D) v with
      | none => rfl
      | some z => rfl
    rcases ru_obj hN0 (hGw a3 a5) hcl a7 with ⟨o1, o2⟩ | ⟨n, o1, o2, o3, o4, o5, o6, o7, o8⟩
    · rw [if_pos (by rw [o1]; decide)] at hMe
      refine hpush (t := 0) ?_ (Or.inr (Or.inr ⟨ht1, Or.inl o1⟩)) hMe
      unfold xf_Ma_testType
      rw [a1]
      simp only [Option.bind_some]
      rw [o2]
      simp only [Option.bind_some]
      rw [if_neg (by decide)]
      unfold xf_Ma_testType_37 xf_Ma_testType_38
      rw [if_neg (by decide), o2]
      simp only [Option.bind_some]
      rw [if_neg (by decide)]
      rfl
    · have en : (Int32.ofNat n).toInt = (n : Int) := pv_nI (by omega)
      have enn : (Int32.ofNat n).toNatClampNeg = n := by rw [pv_cl]; omega
      have hnb : ¬ (v < 0 ∨ 16 ≤ v.toNatClampNeg) := by rw [o1, enn, pv_lt, en, e0]; omega
      have hpm1 : pm h0 h1 := pm_tr hpm ⟨fun r k l1 l2 => a5.1 r k (by omega) (by omega) (by omega), a5.1 0 0 (by decide) (by decide) (by decide), a5.1 0 4 (by decide) (by decide) (by decide)⟩
      have hPm1 := pm_P hpm1 hP0
      have hRm1 := pm_R hpm1 hRR
      have hxp1 : xp g0 g1 := fun r k hr => by rw [a3 r k (by omega) (by omega)]; exact p1 r k (by omega)
      have hRg1 := xp_R hxp1 hN0 hRR hC
      have o61 := o6.1
      have o62 := o6.2
      have hM1 := ms_isOf hPm1.1 hPm1.2.1 hRm1.2.1 (h1 28 n) x2 (by rw [hpm1.2.1]; exact o6) (by omega)
      have hC1 := xs_isOf hN0 hRg1.1.1 (g1 82 n) x2
      rw [o5, hxp1 2 _ (by omega)] at hC1
      have hvn : v.toNatClampNeg = n := by rw [o1, enn]
      rw [if_neg (by rw [o1, pv_lt, en, e0]; omega), if_neg hnb, hvn, hM1] at hMe
      simp only [Option.bind_some] at hMe
      simp only [pv_b1] at hMe
      by_cases hbit : pv_bit (g0 2 (h1 28 n).toInt.toNat) x2.toInt.toNat
      · rw [if_neg (fun z => z hbit)] at hMe
        refine hpush (t := 0) ?_ (Or.inr (Or.inr ⟨ht1, Or.inr ⟨by rw [o1, en]; omega, by rw [o1, en]; exact o3, ?_, ?_⟩⟩)) hMe
        · unfold xf_Ma_testType
          rw [a1]
          simp only [Option.bind_some]
          rw [o4]
          simp only [Option.bind_some]
          rw [if_pos trivial, if_neg hnb, hvn, o5, hC1]
          simp only [Option.bind_some]
          simp only [pv_b1]
          rw [if_neg (fun z => z ⟨o6, ht1, hbit⟩)]
          unfold xf_Ma_testType_38
          rw [if_neg (by decide), o4]
          simp only [Option.bind_some]
          rw [if_pos trivial, if_neg (by decide)]
          rfl
        · rw [o1, en, Int.toNat_natCast]; exact o6
        · rw [o1, en, Int.toNat_natCast]; exact hbit
      · rw [if_pos hbit] at hMe
        refine ru_thr hp0 a3 a5 (hpl a1) (ms_pop_pl a2) (-3) (by decide) ?_ hMe
        rw [hCe]
        unfold xf_Ma_testType
        rw [a1]
        simp only [Option.bind_some]
        rw [o4]
        simp only [Option.bind_some]
        rw [if_pos trivial, if_neg hnb, hvn, o5, hC1]
        simp only [Option.bind_some]
        simp only [pv_b1]
        rw [if_pos (fun z => hbit z.2.2)]
        unfold xf_Ma_testType_37 xf_Ma_testType_38
        rw [if_neg (by decide), o4]
        simp only [Option.bind_some]
        rw [if_pos trivial, if_pos trivial]
        rfl
  | 19, _, _ =>
    have ht1 := t1 (by omega)
    have hef : tc_ef g0 h0 ((19 : Nat) : Int) x2 f = (tc_tk h0 2 f).bind fun q => tc_pt 9 q.2 := rfl
    rw [hef] at hr
    obtain ⟨q, q1, q2⟩ := tc_bind hr
    have hcl := tc_tk2_cl q1
    obtain ⟨v, g1, h1, a1, a2, a3, a4, a5, a6, a7⟩ := hpop q1
    have hCe : xf_Ma_execute P g (Int32.ofNat 19) x2 (Int32.ofNat D) = (if Int32.ofNat D < 0 ∨ 11 ≤ (Int32.ofNat D).toNatClampNeg then none else ((xf_Ma_testType g (Int32.ofNat 19) x2 (85 + 2 * (Int32.ofNat D).toNatClampNeg)).bind fun t243 => (some (t243.1, t243.2)))) := rfl
    have hMe : mf_Mo_plain h (Int32.ofNat (D - 1)) (Int32.ofNat 19) x2 = (if Int32.ofNat (D - 1) < 0 ∨ 10 ≤ (Int32.ofNat (D - 1)).toNatClampNeg then none else ((mf_Mo_pop h).bind fun t34 => (if t34.1 < 0 then ((mf_Mo_push t34.2 0).bind fun t423 => (mf_Mo_plain_479 t423.2 (Int32.ofNat (D - 1)) ((h 22 (Int32.ofNat (D - 1)).toNatClampNeg) + (1 : Int32)))) else (if t34.1 < 0 ∨ 16 ≤ t34.1.toNatClampNeg then none else ((mf_Mo_isOf t34.2 (t34.2 28 t34.1.toNatClampNeg) x2).bind fun t450 => (if t450.1 = 0 then ((mf_Mo_push t450.2 0).bind fun t423 => (mf_Mo_plain_479 t423.2 (Int32.ofNat (D - 1)) ((h 22 (Int32.ofNat (D - 1)).toNatClampNeg) + (1 : Int32)))) else ((mf_Mo_push t450.2 1).bind fun t423 => (mf_Mo_plain_479 t423.2 (Int32.ofNat (D - 1)) ((h 22 (Int32.ofNat (D - 1)).toNatClampNeg) + (1 : Int32))))))))) ) := rfl
    rw [if_neg bx2, bx1] at hCe
    rw [if_neg bm2, bm1, a2] at hMe
    simp only [Option.bind_some] at hMe
    have hpush : ∀ (y : Int32), xf_Ma_testType g (Int32.ofNat 19) x2 (85 + 2 * D) = ((xf_Fr_push g1 (85 + 2 * D) y).bind fun t86 => (some ((0 : Int32), t86.2))) → mf_Mo_plain h (Int32.ofNat (D - 1)) (Int32.ofNat 19) x2 = ((mf_Mo_push h1 y).bind fun t423 => (mf_Mo_plain_479 t423.2 (Int32.ofNat (D - 1)) (h 22 (D - 1) + 1))) → ru_res g0 h0 D pc ((19 : Nat) : Int) x2.toInt r g h (xf_Ma_execute P g (Int32.ofNat 19) x2 (Int32.ofNat D)) (mf_Mo_plain h (Int32.ofNat (D - 1)) (Int32.ofNat 19) x2) := fun y z1 z3 => by
      refine ru_op_push hp0 a3 a5 a6 a4 (ru_9 y) q2 (by decide) ?_ z3
      rw [hCe, z1]
      cases xf_Fr_push g1 (85 + 2 * D) y with
      | none => rfl
      | some z => rfl
    rcases ru_obj hN0 (hGw a3 a5) hcl a7 with ⟨o1, o2⟩ | ⟨n, o1, o2, o3, o4, o5, o6, o7, o8⟩
    · rw [if_pos (by rw [o1]; decide)] at hMe
      refine hpush 0 ?_ hMe
      unfold xf_Ma_testType
      rw [a1]
      simp only [Option.bind_some]
      rw [o2]
      simp only [Option.bind_some]
      rw [if_neg (by decide)]
      unfold xf_Ma_testType_37 xf_Ma_testType_38
      rw [if_pos (by decide), if_pos rfl]
      rfl
    · have en : (Int32.ofNat n).toInt = (n : Int) := pv_nI (by omega)
      have enn : (Int32.ofNat n).toNatClampNeg = n := by rw [pv_cl]; omega
      have hnb : ¬ (v < 0 ∨ 16 ≤ v.toNatClampNeg) := by rw [o1, enn, pv_lt, en, e0]; omega
      have hpm1 : pm h0 h1 := pm_tr hpm ⟨fun r k l1 l2 => a5.1 r k (by omega) (by omega) (by omega), a5.1 0 0 (by decide) (by decide) (by decide), a5.1 0 4 (by decide) (by decide) (by decide)⟩
      have hPm1 := pm_P hpm1 hP0
      have hRm1 := pm_R hpm1 hRR
      have hxp1 : xp g0 g1 := fun r k hr => by rw [a3 r k (by omega) (by omega)]; exact p1 r k (by omega)
      have hRg1 := xp_R hxp1 hN0 hRR hC
      have o61 := o6.1
      have o62 := o6.2
      have hM1 := ms_isOf hPm1.1 hPm1.2.1 hRm1.2.1 (h1 28 n) x2 (by rw [hpm1.2.1]; exact o6) (by omega)
      have hC1 := xs_isOf hN0 hRg1.1.1 (g1 82 n) x2
      rw [o5, hxp1 2 _ (by omega)] at hC1
      have hvn : v.toNatClampNeg = n := by rw [o1, enn]
      rw [if_neg (by rw [o1, pv_lt, en, e0]; omega), if_neg hnb, hvn, hM1] at hMe
      simp only [Option.bind_some] at hMe
      simp only [pv_b1] at hMe
      by_cases hbit : pv_bit (g0 2 (h1 28 n).toInt.toNat) x2.toInt.toNat
      · rw [if_neg (fun z => z hbit)] at hMe
        refine hpush 1 ?_ hMe
        unfold xf_Ma_testType
        rw [a1]
        simp only [Option.bind_some]
        rw [o4]
        simp only [Option.bind_some]
        rw [if_pos trivial, if_neg hnb, hvn, o5, hC1]
        simp only [Option.bind_some]
        simp only [pv_b1]
        rw [if_neg (fun z => z ⟨o6, ht1, hbit⟩)]
        unfold xf_Ma_testType_38
        rw [if_pos (by decide), if_neg (by decide)]
        rfl
      · rw [if_pos hbit] at hMe
        refine hpush 0 ?_ hMe
        unfold xf_Ma_testType
        rw [a1]
        simp only [Option.bind_some]
        rw [o4]
        simp only [Option.bind_some]
        rw [if_pos trivial, if_neg hnb, hvn, o5, hC1]
        simp only [Option.bind_some]
        simp only [pv_b1]
        rw [if_pos (fun z => hbit z.2.2)]
        unfold xf_Ma_testType_37 xf_Ma_testType_38
        rw [if_pos (by decide), if_pos rfl]
        rfl
  | 20, _, _ =>
    obtain ⟨q, q1, q2⟩ := ru_tks1 (show tc_tks h0 1 f = some r from hr)
    obtain ⟨v, g1, h1, a1, a2, a3, a4, a5, a6, a7⟩ := hpop q1
    rw [q2] at a6
    have hG1 := hGw a3 a5
    obtain ⟨w1, w2, w3, ⟨d1, d2, d3, d4⟩, w5⟩ := hG1
    have e16 : (16 : Int32).toInt = 16 := rfl
    have e1 : (1 : Int32).toInt = 1 := rfl
    have hst := w5.2.2.2
    have h46 : h1 0 46 = h 0 46 := a5.1 0 46 (by decide) (by decide) (by decide)
    have h30 : h1 0 30 = h 0 30 := a5.1 0 30 (by decide) (by decide) (by decide)
    have hpr1 : (h1 0 46).toInt < (h1 0 30).toInt := by rw [h46, h30]; exact hpr
    have hcn : (h1 0 46 + 1).toInt = (h1 0 46).toInt + 1 := by rw [pv_add (by rw [e1]; omega) (by rw [e1]; omega), e1]
    obtain ⟨gp, hp1, hp2, hp3⟩ : ∃ gp, xf_Ma_print g1 v = some (0, gp) ∧ (∀ r k, ¬ (r = 78 ∧ k = 9) → r ≠ 84 → gp r k = g1 r k) ∧ gp 78 9 = h1 0 46 + 1 ∧ ∀ k, k < 16 → gp 84 k = if (k : Int) = (h1 0 46).toInt then v else g1 84 k := by
      unfold xf_Ma_print xf_Ma_print_19
      rw [d1]
      by_cases h16 : (16 : Int32) ≤ h1 0 46
      · rw [if_pos h16]
        rw [pv_le, e16] at h16
        exact ⟨_, rfl, fun r k l1 l2 => by rw [pv_get, if_neg l1], pv_self, fun k hk => by rw [pv_nr (by decide), if_neg (by omega)]⟩
      · rw [if_neg h16]
        rw [pv_le, e16] at h16
        rw [if_neg (by rw [pv_lt, pv_cl, e0]; omega), pv_nr (show (78 : Nat) ≠ 84 by decide), d1, pv_cl]
        refine ⟨_, rfl, fun r k l1 l2 => by rw [pv_get, if_neg l1, pv_nr l2], pv_self, fun k hk => ?_⟩
        rw [pv_nr (by decide), pv_get]
        by_cases hk2 : (k : Int) = (h1 0 46).toInt
        · rw [if_pos ⟨rfl, by omega⟩, if_pos hk2]
        · rw [if_neg (by omega), if_neg hk2]
    obtain ⟨hq, hq1, hq2, hq3⟩ : ∃ hq, mf_Mo_print h1 v = some (0, hq) ∧ (∀ r k, ¬ (r = 0 ∧ k = 46) → r ≠ 32 → hq r k = h1 r k) ∧ hq 0 46 = h1 0 46 + 1 ∧ ∀ k, k < 16 → hq 32 k = if (k : Int) = (h1 0 46).toInt then v else h1 32 k := by
      unfold mf_Mo_print mf_Mo_print_19
      by_cases h16 : (16 : Int32) ≤ h1 0 46
      · rw [if_pos h16]
        rw [pv_le, e16] at h16
        exact ⟨_, rfl, fun r k l1 l2 => by rw [pv_get, if_neg l1], pv_self, fun k hk => by rw [pv_nr (by decide), if_neg (by omega)]⟩
      · rw [if_neg h16]
        rw [pv_le, e16] at h16
        rw [if_neg (by rw [pv_lt, pv_cl, e0]; omega), pv_nr (show (0 : Nat) ≠ 32 by decide), pv_cl]
        refine ⟨_, rfl, fun r k l1 l2 => by rw [pv_get, if_neg l1, pv_nr l2], pv_self, fun k hk => ?_⟩
        rw [pv_nr (by decide), pv_get]
        by_cases hk2 : (k : Int) = (h1 0 46).toInt
        · rw [if_pos ⟨rfl, by omega⟩, if_pos hk2]
        · rw [if_neg (by omega), if_neg hk2]
    have hCe : xf_Ma_execute P g (Int32.ofNat 20) x2 (Int32.ofNat D) = some (0, gp) := by
      have hz : xf_Ma_execute P g (Int32.ofNat 20) x2 (Int32.ofNat D) = (if Int32.ofNat D < 0 ∨ 11 ≤ (Int32.ofNat D).toNatClampNeg then none else ((xf_Fr_pop g (85 + 2 * (Int32.ofNat D).toNatClampNeg)).bind fun t202 => ((xf_Ma_print t202.2 t202.1).bind fun t205 => (some ((0 : Int32), t205.2))))) := rfl
      rw [hz, if_neg bx2, bx1, a1, Option.bind_some, hp1, Option.bind_some]
    have hMe : mf_Mo_plain h (Int32.ofNat (D - 1)) (Int32.ofNat 20) x2 = some (0, qa_up hq 22 (D - 1) (Int32.ofNat (pc + 1))) := by
      have hz : mf_Mo_plain h (Int32.ofNat (D - 1)) (Int32.ofNat 20) x2 = (if Int32.ofNat (D - 1) < 0 ∨ 10 ≤ (Int32.ofNat (D - 1)).toNatClampNeg then none else ((mf_Mo_pop h).bind fun t34 => ((mf_Mo_print t34.2 t34.1).bind fun t476 => (mf_Mo_plain_479 t476.2 (Int32.ofNat (D - 1)) ((h 22 (Int32.ofNat (D - 1)).toNatClampNeg) + (1 : Int32)))))) := rfl
      rw [hz, if_neg bm2, bm1, a2, Option.bind_some, hq1, Option.bind_some, ru_479 hD, p5, pv_n1]
    have hqn : ∀ r k, ¬ (r = 0 ∧ k = 46) → r ≠ 32 → ¬ (r = 22 ∧ k = D - 1) → qa_up hq 22 (D - 1) (Int32.ofNat (pc + 1)) r k = h1 r k := fun r k l1 l2 l3 => by rw [pv_get, if_neg l3]; exact hq2 r k l1 l2
    refine ⟨gp, qa_up hq 22 (D - 1) (Int32.ofNat (pc + 1)), ⟨fun r k hr => by rw [hp2 r k (by omega) (by omega)]; exact a3 r k (by omega) (by omega), fun r k l1 l2 => by rw [hp2 r k (by omega) (by omega)]; exact a3 r k (by omega) (by omega)⟩, ⟨fun k k1 k2 => ?_, fun r k r1 r2 => ?_, fun k => ⟨?_, ?_, ?_⟩, fun k hk => ⟨?_, ?_⟩, fun k hk => ?_, fun k hk => ?_, ?_, fun k hk => ?_⟩, ?_, Or.inl ⟨hCe, hMe, ?_, pc + 1, ru_sc (by decide), ?_, pv_self⟩⟩
    · rw [hqn 0 k (by omega) (by decide) (by omega)]; exact a5.1 0 k (by decide) (by decide) (by decide)
    · rw [hqn r k (by omega) (by omega) (by omega)]; exact a5.1 r k (by omega) (by omega) (by omega)
    · rw [hqn 24 k (by omega) (by decide) (by omega)]; exact a5.1 24 k (by decide) (by decide) (by decide)
    · rw [hqn 25 k (by omega) (by decide) (by omega)]; exact a5.1 25 k (by decide) (by decide) (by decide)
    · rw [hqn 31 k (by omega) (by decide) (by omega)]; exact a5.1 31 k (by decide) (by decide) (by decide)
    · rw [hqn 22 k (by omega) (by decide) (by omega)]; exact a5.1 22 k (by decide) (by decide) (by decide)
    · rw [hqn 23 k (by omega) (by decide) (by omega)]; exact a5.2.1 k hk
    · rw [hqn 26 k (by omega) (by decide) (by omega)]; exact a5.2.2.1 k hk
    · rw [hqn 27 k (by omega) (by decide) (by omega)]; exact a5.2.2.2 k hk
    · rw [hqn 0 40 (by omega) (by decide) (by omega), a5.1 0 40 (by decide) (by decide) (by decide)]; exact Int.le_refl _
    · rw [hqn 28 k (by omega) (by decide) (by omega)]; exact a5.1 28 k (by decide) (by decide) (by decide)
    · obtain ⟨nn, u1, u2, u3, u4⟩ := w1
      refine ⟨⟨nn, u1, by rw [hqn 0 40 (by omega) (by decide) (by omega)]; exact u2, by rw [hp2 78 8 (by decide) (by decide)]; exact u3, fun k hk => ?_⟩, fun c hc => ?_, ⟨?_, ?_⟩, ⟨?_, ?_, ?_, fun k hk => ?_⟩, ?_⟩
      · rw [hp2 82 k (by omega) (by decide), hqn 28 k (by omega) (by decide) (by omega)]
        exact ⟨(u4 k hk).1, (u4 k hk).2.1, fun j hj => by rw [hp2 83 _ (by omega) (by decide), hqn 29 _ (by omega) (by decide) (by omega)]; exact (u4 k hk).2.2 j hj⟩
      · rw [hp2 80 c (by omega) (by decide), hp2 81 c (by omega) (by decide), hqn 30 c (by omega) (by decide) (by omega), hqn 31 c (by omega) (by decide) (by omega)]; exact w2 c hc
      · rw [hp2 78 7 (by omega) (by decide), hqn 0 45 (by omega) (by decide) (by omega)]; exact w3.1
      · have : ru_B (qa_up hq 22 (D - 1) (Int32.ofNat (pc + 1))) = ru_B h1 := by
          unfold ru_B
          rw [show (qa_up hq 22 (D - 1) (Int32.ofNat (pc + 1))) 31 = h1 31 from funext fun k => hqn 31 k (by omega) (by decide) (by omega)]
        rw [this, hqn 0 45 (by omega) (by decide) (by omega)]; exact w3.2
      · rw [hp3.1, pv_nr (by decide), hq3.1]
      · rw [pv_nr (by decide), hq3.1, hcn]; omega
      · rw [pv_nr (by decide), hq3.1, hcn, hqn 0 30 (by omega) (by decide) (by omega)]; omega
      · rw [hp3.2 k hk, pv_nr (by decide), hq3.1, hcn, pv_nr (by decide), hq3.2 k hk, d4 k hk]
        by_cases z1 : (k : Int) = (h1 0 46).toInt
        · rw [if_pos z1, if_pos (by omega), if_pos z1]
        · rw [if_neg z1]
          by_cases z2 : (k : Int) < (h1 0 46).toInt
          · rw [if_pos z2, if_pos (by omega), if_neg z1]
          · rw [if_neg z2, if_neg (by omega)]
      · rw [hp2 78 10 (by omega) (by decide), hp2 78 11 (by omega) (by decide), hqn 0 30 (by omega) (by decide) (by omega), hqn 0 31 (by omega) (by decide) (by omega)]; exact w5
    · exact ru_F_w (fun k => hp2 _ k (by omega) (by omega)) (hp2 _ 1 (by omega) (by omega)) (hqn 23 _ (by omega) (by decide) (by omega)) (fun k => hqn 26 k (by omega) (by decide) (by omega)) (fun k => hqn 27 k (by omega) (by decide) (by omega)) (by rw [hqn 0 40 (by omega) (by decide) (by omega)]; exact Int.le_refl _) (fun k _ => hqn 28 k (by omega) (by decide) (by omega)) a6
    · rw [hp2 _ 2 (by omega) (by omega), a4]; exact p7
  | 11, _, h => exact absurd (by omega) h
  | 14, _, h => exact absurd (by omega) h
  | 15, _, h => exact absurd (by omega) h
  | 16, _, h => exact absurd (by omega) h
  | 17, _, h => exact absurd (by omega) h
  | 21, _, h => exact absurd (by omega) h
  | 22, _, h => exact absurd (by omega) h
  | k + 23, h, _ => exact absurd h (by omega)
