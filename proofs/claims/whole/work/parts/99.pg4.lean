theorem pr_an_home {g h : qa_St} (hN : pr_N h) (hC : pr_C h) (hM : pr_M h) (hT : pr_T g h) (hO : pr_O g h) (s : Nat) (hs : s < 4) : ∀ (n c : Nat), (c : Int) < (h 0 0).toInt → ¬ pr_an g h s n c = -1 → pv_bit (g 2 c) (h 4 (pr_an g h s n c).toInt.toNat).toInt.toNat := by
  intro n
  have hN0 := hN
  obtain ⟨n0, n1, n2, n3⟩ := hN
  induction n with
  | zero => intro c _ hz; exact absurd rfl hz
  | succ n ih =>
    intro c hc hz
    have q := hC c hc
    rw [pr_an] at hz ⊢
    by_cases ho : g (6 + c) s = -1
    · rw [if_pos ho] at hz ⊢
      by_cases hp : (h 1 c).toInt < 0
      · rw [if_pos hp] at hz; exact absurd rfl hz
      · rw [if_neg hp] at hz ⊢
        have hr := ih (h 1 c).toInt.toNat (by omega) hz
        rcases pr_an_ge hN0 hC hO s hs n (h 1 c).toInt.toNat (by omega) with y | y
        · exact absurd y hz
        · have qm := hM (pr_an g h s n (h 1 c).toInt.toNat).toInt.toNat (by omega)
          exact (pr_bit hN0 hT hc _ (by omega)).mpr (Or.inr ⟨by omega, hr⟩)
    · rw [if_neg ho] at hz ⊢
      rcases hO c s hc hs with ⟨o1, -⟩ | ⟨m, o1, o2, o3, o4⟩
      · exact absurd (by rw [pv_eq, o1]; rfl) ho
      · rw [o2, Int.toNat_natCast, o3, Int.toNat_natCast]
        exact (pr_bit hN0 hT hc c (by omega)).mpr (Or.inl rfl)
theorem ru_idb (o : qa_Re) : (o.bind fun z => some (z.1, z.2)) = o := by
  cases o with
  | none => rfl
  | some z => rfl
theorem ru_step {g0 h0 g h : qa_St} (hP : pr_P h0) (hRR : pr_R g0 h0) {arg : Int32} (P : qa_St → Int32 → Int32 → qa_Re) {D m pc p t : Nat} {f r : tc_F} {x1 x2 : Int32} (hcal : D ≤ 9 → ru_cal g0 h0 arg P D) (hdeep : D = 10 → ∀ g x, P g x (Int32.ofNat 11) = some (1, qa_up g 78 12 (-5))) (hpre : ru_pre g0 h0 D pc f g h) (hZ : ru_Z h) (hm : (m : Int) < (h0 0 4).toInt) (hi : (pc : Int) < (h0 7 m).toInt) (h21 : h 21 (D - 1) = Int32.ofNat m) (h25 : h 25 (D - 1) = 0) (hV : ru_V h0 D h) (hx1 : x1 = h0 8 (20 * m + pc)) (hx2 : x2 = h0 9 (20 * m + pc)) (hpr : (h 0 46).toInt < (h 0 30).toInt) (hr : tc_ef g0 h0 x1.toInt x2 f = some r) (hbd : (t : Int) + 1 + p ≤ (h 0 30).toInt + ru_B h + 1) : ru_E g0 h0 arg D pc p f x1 x2 g h (xf_Ma_execute P g x1 x2 (Int32.ofNat D)) (if ru_c h0 x1 x2 < 0 then ru_KK arg D x1 x2 t h else TK arg (ru_KK arg D x1 x2) t (mf_Mo_trigger h (ru_c h0 x1 x2))) := by
  have hpre0 := hpre
  have hP0 := hP
  obtain ⟨hD, hpc, p1, p2, p3, p4, p5, p6, p7⟩ := hpre
  obtain ⟨hN, hC, hM, hU, hK, hG⟩ := hP
  have hN0 := hN
  obtain ⟨n0, n1, n2, n3⟩ := hN
  have qk := hK m pc hm hi
  rw [← hx1, ← hx2] at qk
  obtain ⟨k, hk, hxk⟩ : ∃ k : Nat, k < 23 ∧ x1 = Int32.ofNat k := ⟨x1.toInt.toNat, by omega, pv_nIe qk.1⟩
  have ek : x1.toInt = (k : Int) := by rw [hxk, pv_nI (by omega)]
  have e0 : (0 : Int32).toInt = 0 := rfl
  have hft := qk.2.2
  have hft0 := hft
  rw [ek] at hft
  obtain ⟨t1, t2, t3, t4, t5⟩ := hft
  obtain ⟨bx1, bx2⟩ := ru_bx hD.2
  have hxn : ∀ n : Nat, n < 30 → (x1 = Int32.ofNat n ↔ k = n) := fun n hn => by
    rw [pv_eq, ek, pv_nI (by omega)]; omega
  have x11 := hxn 11 (by omega)
  have x14 := hxn 14 (by omega)
  have x15 := hxn 15 (by omega)
  have x16 := hxn 16 (by omega)
  have x17 := hxn 17 (by omega)
  have x21 := hxn 21 (by omega)
  have x22 := hxn 22 (by omega)
  have f11 : x1 = 11 ↔ k = 11 := x11
  have f14 : x1 = 14 ↔ k = 14 := x14
  have f15 : x1 = 15 ↔ k = 15 := x15
  have f16 : x1 = 16 ↔ k = 16 := x16
  have f17 : x1 = 17 ↔ k = 17 := x17
  have f21 : x1 = 21 ↔ k = 21 := x21
  have f22 : x1 = 22 ↔ k = 22 := x22
  have hcm : ¬ (k = 11 ∨ k = 14 ∨ k = 15 ∨ k = 16) → ru_c h0 x1 x2 = -1 := fun hz => by
    unfold ru_c
    rw [if_neg (fun z => hz (by have := f11.mp z; omega)), if_neg (fun z => hz (by have := f14.mp z; omega)), if_neg (fun z => hz (by have := f15.mp z; omega)), if_neg (fun z => hz (by have := f16.mp z; omega))]
  by_cases hpl : ¬ (k = 11 ∨ k = 14 ∨ k = 15 ∨ k = 16 ∨ k = 17 ∨ k = 21 ∨ k = 22)
  · -- a plain one
    rw [hcm (by omega), if_pos (by decide)]
    have hres := ru_plain hP0 hRR hpre0 hpr P k hk hpl x2 (by rw [← ek]; exact hft0) (by rw [← ek]; exact hr)
    rw [← hxk, ← ek] at hres
    exact ru_E_res hpre0 hZ h25 hr hbd (fun z => hpl (by have := f22.mp z; omega)) hres (ru_KK_plain arg D t h x1 x2 (fun z => hpl (by have := f16.mp z; omega)) (fun z => hpl (by have := f17.mp z; omega)) (fun z => hpl (by have := f22.mp z; omega)) (fun z => hpl (by have := f21.mp z; omega)))
  · by_cases htr : k = 11 ∨ k = 14 ∨ k = 15
    · -- NEW, STATIC, SET
      have hcl := t1 (by omega)
      have hcx : ru_c h0 x1 x2 = x2 := by
        unfold ru_c
        rcases htr with z | z | z
        · rw [if_pos (f11.mpr z)]
        · rw [if_neg (fun y => by have := f11.mp y; omega), if_pos (f14.mpr z)]
        · rw [if_neg (fun y => by have := f11.mp y; omega), if_neg (fun y => by have := f14.mp y; omega), if_pos (f15.mpr z)]
      have ex2 : x2 = Int32.ofNat x2.toInt.toNat := pv_nIe hcl.1
      rw [hcx, if_neg (by rw [pv_lt, e0]; omega)]
      have hX : xf_Ma_execute P g x1 x2 (Int32.ofNat D) = ((xf_Ma_trigger P g x2 (Int32.ofNat D)).bind fun z => if z.1 = 0 then ru_C z.2 k D x2 else some (z.1, z.2)) := by
        rcases htr with z | z | z
        · rw [hxk, z]
          have hz : xf_Ma_execute P g (Int32.ofNat 11) x2 (Int32.ofNat D) = (if Int32.ofNat D < 0 ∨ 11 ≤ (Int32.ofNat D).toNatClampNeg then none else ((xf_Ma_executeTriggering_19 P g (Int32.ofNat 11) x2 (Int32.ofNat D) x2).bind fun t259 => (some (t259.1, t259.2)))) := rfl
          rw [hz, if_neg bx2, ru_idb]
          unfold xf_Ma_executeTriggering_19
          congr 1
          funext y
          by_cases hy : y.1 = 0
          · rw [if_pos hy, if_pos hy, if_neg bx2, if_pos (by decide), bx1]; rfl
          · rw [if_neg hy, if_neg hy]
        · rw [hxk, z]
          have hz : xf_Ma_execute P g (Int32.ofNat 14) x2 (Int32.ofNat D) = (if Int32.ofNat D < 0 ∨ 11 ≤ (Int32.ofNat D).toNatClampNeg then none else ((xf_Ma_executeTriggering_19 P g (Int32.ofNat 14) x2 (Int32.ofNat D) x2).bind fun t259 => (some (t259.1, t259.2)))) := rfl
          rw [hz, if_neg bx2, ru_idb]
          unfold xf_Ma_executeTriggering_19
          congr 1
          funext y
          by_cases hy : y.1 = 0
          · rw [if_pos hy, if_pos hy, if_neg bx2, if_neg (by decide), if_neg (by decide), if_neg (by decide), if_pos (by decide), bx1]; rfl
          · rw [if_neg hy, if_neg hy]
        · rw [hxk, z]
          have hz : xf_Ma_execute P g (Int32.ofNat 15) x2 (Int32.ofNat D) = (if Int32.ofNat D < 0 ∨ 11 ≤ (Int32.ofNat D).toNatClampNeg then none else ((xf_Ma_executeTriggering_19 P g (Int32.ofNat 15) x2 (Int32.ofNat D) x2).bind fun t259 => (some (t259.1, t259.2)))) := rfl
          rw [hz, if_neg bx2, ru_idb]
          unfold xf_Ma_executeTriggering_19
          congr 1
          funext y
          by_cases hy : y.1 = 0
          · rw [if_pos hy, if_pos hy, if_neg bx2, if_neg (by decide), if_neg (by decide), if_neg (by decide), if_neg (by decide), if_pos (by decide), bx1]; rfl
          · rw [if_neg hy, if_neg hy]
      have hmain := ru_E_trig hP0 hRR P hcal hdeep hpre0 hZ hm hi h21 h25 hV hx1 hx2 x2.toInt.toNat (by omega) (by rw [hcx]; exact ex2) hbd (fun g' => ru_C g' k D x2) (fun g' hb t' q1 q2 q3 q4 q5 q6 => by
        have hres := ru_post hP0 hRR q1 k htr x2 (by rw [← ek]; exact hft0) (by rw [← ek]; exact hr)
        rw [← hxk, ← ek] at hres
        exact ru_E_res q1 q2 q4 hr q5 (fun z => by have := f22.mp z; omega) hres (ru_KK_plain arg D t' hb x1 x2 (fun z => by have := f16.mp z; omega) (fun z => by have := f17.mp z; omega) (fun z => by have := f22.mp z; omega) (fun z => by have := f21.mp z; omega))) (X := xf_Ma_execute P g x1 x2 (Int32.ofNat D)) (by rw [hX, ← ex2])
      rw [← ex2] at hmain
      exact hmain
    · by_cases h16 : k = 16
      · -- CALL
        have ht5 := t5 (by omega)
        obtain ⟨ma, hma⟩ : ∃ ma : Nat, ma = x2.toInt.toNat := ⟨_, rfl⟩
        have ex2 : x2 = Int32.ofNat ma := by rw [hma]; exact pv_nIe ht5.1
        have qa := hM ma (by omega)
        have hcx : ru_c h0 x1 x2 = h0 4 ma := by
          unfold ru_c
          rw [if_neg (fun y => by have := f11.mp y; omega), if_neg (fun y => by have := f14.mp y; omega), if_neg (fun y => by have := f15.mp y; omega), if_pos (f16.mpr h16), hma]
        obtain ⟨T, hT⟩ : ∃ T : Nat, T = (h0 4 ma).toInt.toNat := ⟨_, rfl⟩
        have eT : h0 4 ma = Int32.ofNat T := by rw [hT]; exact pv_nIe qa.1
        rw [hcx, if_neg (by rw [pv_lt, e0]; omega), eT]
        obtain ⟨w, hw⟩ : ∃ w : Nat, w = (h0 6 ma).toInt.toNat := ⟨_, rfl⟩
        have hef : tc_ef g0 h0 ((16 : Nat) : Int) x2 f = (tc_tks h0 (h0 6 x2.toInt.toNat).toInt.toNat f).bind fun q => tc_pt 9 q := rfl
        have hr' := hr
        rw [ek, h16, hef, ← hma, ← hw] at hr'
        obtain ⟨q, q1, q2⟩ := tc_bind hr'
        obtain ⟨hwf, hqe⟩ := ru_tks_n w q1
        have hre : r = (f.1 - w + 1, tc_up f.2 (4 + (f.1 - w)) 9) ∧ f.1 - w < 6 := by
          rw [hqe] at q2
          unfold tc_pt at q2
          by_cases h6 : 6 ≤ f.1 - w
          · rw [if_pos h6] at q2; cases q2
          · rw [if_neg h6] at q2; cases q2; exact ⟨rfl, by omega⟩
        have hsel : (h0 5 ma).toInt = -1 := by rw [hma]; exact ht5.2.2
        have hX : xf_Ma_execute P g x1 x2 (Int32.ofNat D) = ((xf_Ma_trigger P g (Int32.ofNat T) (Int32.ofNat D)).bind fun z => if z.1 = 0 then ((P z.2 x2 (Int32.ofNat D + 1)).bind fun t120 => ((xf_Ma_receive t120.2 t120.1 (85 + 2 * D)).bind fun t125 => (some (t125.1, t125.2)))) else some (z.1, z.2)) := by
          rw [hxk, h16]
          have hz : xf_Ma_execute P g (Int32.ofNat 16) x2 (Int32.ofNat D) = (if Int32.ofNat D < 0 ∨ 11 ≤ (Int32.ofNat D).toNatClampNeg then none else (((xf_Pr_ownerOf g x2).bind fun t12 => (xf_Ma_executeTriggering_19 P t12.2 (Int32.ofNat 16) x2 (Int32.ofNat D) t12.1)).bind fun t259 => (some (t259.1, t259.2)))) := rfl
          have hRg := xp_R (ru_x_xp p1) hN0 hRR hC
          have how := xs_ownerOf x2 hN0 hRg.1.2 hRg.2.2.2.1
          rw [if_pos ⟨ht5.1, ht5.2.1⟩, ← hma, eT] at how
          rw [hz, if_neg bx2, ru_idb, how, Option.bind_some]
          unfold xf_Ma_executeTriggering_19
          congr 1
          funext y
          by_cases hy : y.1 = 0
          · rw [if_pos hy, if_pos hy, if_neg bx2, if_neg (by decide), if_neg (by decide), if_neg (by decide), if_neg (by decide), if_neg (by decide), if_pos (by decide), bx1]
          · rw [if_neg hy, if_neg hy]
        refine ru_E_trig hP0 hRR P hcal hdeep hpre0 hZ hm hi h21 h25 hV hx1 hx2 T (by omega) (by rw [hcx]; exact eT) hbd (fun g' => ((P g' x2 (Int32.ofNat D + 1)).bind fun t120 => ((xf_Ma_receive t120.2 t120.1 (85 + 2 * D)).bind fun t125 => (some (t125.1, t125.2))))) (fun g' hb t' z1 z2 z3 z4 z5 z6 => ?_) hX
        obtain ⟨-, -, y1, y2, y3, y4, y5, y6, y7⟩ := z1
        have hKK : ru_KK arg D x1 x2 t' hb = (((mf_Mo_call hb (Int32.ofNat (D - 1)) 16 x2).bind fun t181 => (some ((0 : Int32), t181.2))).bind fun z => RR arg (t' + 1) z.2) := by
          unfold ru_KK mf_Mo_instruct_151 mf_Mo_instruct_156 mf_Mo_instruct_176
          rw [if_neg (by decide), if_pos (f16.mpr h16), f16.mpr h16]
        have hcall := ms_call hP0 (ru_m_pm y2) (n := f.1) (w := w) hD ⟨hwf, y6.1⟩ y4 y6.2.2.1 x2 ⟨ht5.1, ht5.2.1⟩ (by rw [← hma]; omega)
        rw [hKK]
        rcases hcall with ⟨c1, c2⟩ | ⟨c1, h', c2, c3⟩
        · -- too deep
          have hP11 := hdeep c1 g' x2
          rw [show Int32.ofNat D + 1 = Int32.ofNat 11 by rw [c1, pv_n1], hP11, Option.bind_some]
          refine ⟨1, qa_up g' 78 12 (-5), rfl, fun r k hr => by rw [pv_nr (by omega)]; exact y1 r k hr, fun r k a b => pv_nr (by omega), Or.inr (Or.inr (Or.inl ⟨rfl, hb, t', ?_, ⟨y2, ?_, z2⟩, y4, ru_L_rf _ hb, ⟨rfl, rfl, rfl⟩, fun q hq hz => ?_, z5⟩))⟩
          · rw [c2, pv_self]
            cases mf_Mo_raise hb (-5) with
            | none => rfl
            | some z => rfl
          · exact ru_G_w (fun r k a b c => by rw [pv_get, if_neg (fun z => c z.1 z.2)]) (fun _ _ _ => rfl) y3
          · rw [pv_nr (by omega)]; exact y6.2.2.2.2 q hq hz
        · have hR : (((mf_Mo_call hb (Int32.ofNat (D - 1)) 16 x2).bind fun t181 => (some ((0 : Int32), t181.2))).bind fun z => RR arg (t' + 1) z.2) = RR arg (t' + 1) h' := by
            rw [c2]
            rfl
          rw [hR]
          obtain ⟨v1, v2, v3, v4, v5, v6, v7, v8, v9, v10⟩ := c3
          have hB' : ru_B h' = ru_B hb := by
            unfold ru_B
            rw [show h' 31 = hb 31 from funext fun k => v3 31 k (by decide) (by omega) (by decide)]
          have hG' : ru_G h0 g' h' := by
            obtain ⟨⟨m1, u1, u2, u3, u4⟩, u5, u6, u7, u8⟩ := y3
            refine ⟨⟨m1, u1, by rw [v2 40 (by decide)]; exact u2, u3, fun k hk => by rw [v3 28 k (by decide) (by omega) (by decide)]; exact ⟨(u4 k hk).1, (u4 k hk).2.1, fun i hi => by rw [v3 29 _ (by decide) (by omega) (by decide)]; exact (u4 k hk).2.2 i hi⟩⟩, fun c hc' => by rw [v3 30 c (by decide) (by omega) (by decide), v3 31 c (by decide) (by omega) (by decide)]; exact u5 c hc', ⟨by rw [v2 45 (by decide)]; exact u6.1, by rw [v2 45 (by decide), hB']; exact u6.2⟩, ⟨by rw [v2 46 (by decide)]; exact u7.1, by rw [v2 46 (by decide)]; exact u7.2.1, by rw [v2 46 (by decide), v2 30 (by decide)]; exact u7.2.2.1, fun k hk => by rw [v2 46 (by decide), v3 32 k (by decide) (by omega) (by decide)]; exact u7.2.2.2 k hk⟩, by rw [v2 30 (by decide), v2 31 (by decide)]; exact u8⟩
          have hV' : ru_V h0 D h' := fun i hi => by
            obtain ⟨mm, pp, l1, l2, l3⟩ := z6 i hi
            exact ⟨mm, pp, by rw [v3 21 i (by decide) (by omega) (by decide)]; exact l1, by rw [v3 22 i (by decide) (by omega) (by decide)]; exact l2, l3⟩
          have hq := hcal c1 g' h' ma f.1 w p (t' + 1) (by omega) (by omega) hwf y6.1 y1 ⟨⟨fun r k a b => by rw [v3 r k (by omega) (by omega) (by omega)]; exact y2.1 r k a b, fun k hk => by rw [v2 k (by omega)]; exact y2.2 k hk⟩, hG', ⟨by rw [v2 28 (by decide)]; exact z2.1, by rw [v2 29 (by decide)]; exact z2.2⟩⟩ y6.2.1 hV' v1 (by rw [v4, ex2]) v5 v6 v8 (fun j hj => ?_) (by rw [v2 30 (by decide), hB']; omega)
          · rw [pv_n1]
            exact ru_called hP0 ⟨hD, hpc, y1, y2, y3, y4, y5, y6, y7⟩ c1 hm hi z3 z4 hx1 hx2 (Or.inl ⟨by rw [ek, h16]; rfl, by rw [← hma]; omega⟩) rfl hwf hr hre (h' := h') (by rw [v4]; exact ⟨v1, v2, v3, v4, v5, v6, v7, v8, v9, v10⟩) _ hq (by rw [ex2])
          · have hl := y6.2.2.2.1 (f.1 - w + j) (by omega)
            rw [v10 j hj, show 6 * (D - 1) + (f.1 - w) + j = 6 * (D - 1) + (f.1 - w + j) by omega, show 4 + (f.1 - w) + j = 4 + (f.1 - w + j) by omega]
            refine ⟨hl.1, ?_⟩
            have hty : (tc_st h0 ma).2 j = 9 := by
              show (if j = 0 ∧ 0 ≤ (h0 5 ma).toInt then h0 4 ma else if (j : Int) < (h0 6 ma).toInt then 9 else 8) = 9
              rw [if_neg (by omega), if_pos (by omega)]
            rw [hty]
            exact ru_9 _
      · by_cases h17 : k = 17
        · -- SEND
          have ht2 := t2 (by omega)
          rw [hcm (by omega), if_pos (by decide)]
          have hef : tc_ef g0 h0 ((17 : Nat) : Int) x2 f = (tc_tks h0 1 f).bind fun p => (tc_tk h0 2 p).bind fun q => if pr_an g0 h0 x2.toInt.toNat 7 q.1.toInt.toNat = -1 then none else tc_pt 9 q.2 := rfl
          have hr' := hr
          rw [ek, h17, hef] at hr'
          obtain ⟨s, s1, s2⟩ := tc_bind hr'
          obtain ⟨q, q1, q2⟩ := tc_bind s2
          obtain ⟨hw1, hse⟩ := ru_tks_n 1 s1
          have hcl := tc_tk2_cl q1
          have hqe : 2 ≤ f.1 ∧ q = (f.2 (4 + (f.1 - 2)), (f.1 - 2, f.2)) := by
            unfold tc_tk at q1
            rw [hse] at q1
            by_cases h0' : f.1 - 1 = 0
            · rw [if_pos h0'] at q1; cases q1
            · rw [if_neg h0'] at q1
              split at q1
              · cases q1
                refine ⟨by omega, ?_⟩
                show (f.2 (3 + (f.1 - 1)), (f.1 - 1 - 1, f.2)) = _
                rw [show 3 + (f.1 - 1) = 4 + (f.1 - 2) by omega, show f.1 - 1 - 1 = f.1 - 2 by omega]
              · cases q1
          have hansw : ¬ pr_an g0 h0 x2.toInt.toNat 7 q.1.toInt.toNat = -1 := fun z => by rw [if_pos z] at q2; cases q2
          rw [if_neg hansw] at q2
          have hre : r = (f.1 - 2 + 1, tc_up f.2 (4 + (f.1 - 2)) 9) ∧ f.1 - 2 < 6 := by
            rw [hqe.2] at q2
            unfold tc_pt at q2
            by_cases h6 : 6 ≤ f.1 - 2
            · rw [if_pos h6] at q2; cases q2
            · rw [if_neg h6] at q2; cases q2; exact ⟨rfl, by omega⟩
          have hrv := p6.2.2.2.1 (f.1 - 2) (by omega)
          have hqt : q.1 = f.2 (4 + (f.1 - 2)) := by rw [hqe.2]
          obtain ⟨rv, hrve⟩ : ∃ rv, rv = h 27 (6 * (D - 1) + (f.1 - 2)) := ⟨_, rfl⟩
          rw [← hrve] at hrv
          have en : (Int32.ofNat f.1).toInt = (f.1 : Int) := pv_nI (by have := p6.1; omega)
          have e2' : (2 : Int32).toInt = 2 := rfl
          have e4' : (4 : Int32).toInt = 4 := rfl
          have i1 : ((4 : Int32) + Int32.ofNat f.1).toInt = 4 + (f.1 : Int) := by rw [pv_add (by rw [e4', en]; omega) (by rw [e4', en]; have := p6.1; omega), e4', en]
          have i2 : ((4 : Int32) + Int32.ofNat f.1 - 2).toInt = 2 + (f.1 : Int) := by rw [pv_sub (by rw [i1, e2']; omega) (by rw [i1, e2']; have := p6.1; omega), i1, e2']; omega
          have i2n : ((4 : Int32) + Int32.ofNat f.1 - 2).toNatClampNeg = 4 + (f.1 - 2) := by rw [pv_cl, i2]; omega
          have hsec : xf_Fr_second g (85 + 2 * D) = some (rv, g) := by
            unfold xf_Fr_second
            rw [p6.2.1, if_neg (by rw [pv_lt, en, e2']; omega), if_neg (by rw [i2n, pv_lt, i2, e0]; have := p6.1; omega), i2n, show 85 + 2 * D + 1 = 86 + 2 * D by omega, hrv.1]
          have hKK : ru_KK arg D x1 x2 t h = (((mf_Mo_call h (Int32.ofNat (D - 1)) 17 x2).bind fun t181 => (some ((0 : Int32), t181.2))).bind fun z => RR arg (t + 1) z.2) := by
            unfold ru_KK mf_Mo_instruct_151 mf_Mo_instruct_156 mf_Mo_instruct_176
            rw [if_neg (by decide), if_neg (fun y => by have := f16.mp y; omega), if_pos (f17.mpr h17), f17.mpr h17]
          have hX : xf_Ma_execute P g x1 x2 (Int32.ofNat D) = ((xf_Ma_isNull g rv).bind fun t12 => (if t12.1 = 0 then (if rv < 0 ∨ 16 ≤ rv.toNatClampNeg then none else ((xf_Pr_answering t12.2 (t12.2 82 rv.toNatClampNeg) x2).bind fun t35 => ((P t35.2 t35.1 (Int32.ofNat D + (1 : Int32))).bind fun t47 => (if Int32.ofNat D < 0 ∨ 11 ≤ (Int32.ofNat D).toNatClampNeg then none else ((xf_Ma_receive t47.2 t47.1 (85 + 2 * (Int32.ofNat D).toNatClampNeg)).bind fun t56 => (some (t56.1, t56.2))))))) else ((xf_Ma_toss t12.2 (-1 : Int32)).bind fun t20 => (some (t20.1, t20.2))))) := by
            rw [hxk, h17]
            have hz : xf_Ma_execute P g (Int32.ofNat 17) x2 (Int32.ofNat D) = (if Int32.ofNat D < 0 ∨ 11 ≤ (Int32.ofNat D).toNatClampNeg then none else ((xf_Ma_send P g x2 (Int32.ofNat D)).bind fun t251 => (some (t251.1, t251.2)))) := rfl
            rw [hz, if_neg bx2, ru_idb]
            unfold xf_Ma_send
            rw [if_neg bx2, bx1, hsec, Option.bind_some]
          have hsend := ms_send hP0 hRR (ru_m_pm p2) (n := f.1) hD ⟨hqe.1, p6.1⟩ p4 p6.2.2.1 x2 ht2
          rw [← hrve] at hsend
          have hvt : ru_ty g0 h0 h q.1 rv := by rw [hqt]; exact hrv.2
          rcases ru_obj hN0 p3 hcl hvt with ⟨o1, o2⟩ | ⟨n, o1, o2, o3, o4, o5, o6, o7, o8⟩
          · -- null
            rw [hX, o2, Option.bind_some]
            dsimp only
            rw [if_neg (show ¬ (1 : Int32) = 0 by decide), hKK, hsend.1 (by rw [o1]; decide)]
            refine ⟨1, qa_up g 78 12 (-1), rfl, fun r k hr => by rw [pv_nr (by omega)]; exact p1 r k hr, fun r k a b => pv_nr (by omega), Or.inr (Or.inr (Or.inl ⟨rfl, h, t, ?_, ⟨p2, ?_, hZ⟩, p4, ru_L_rf _ h, ⟨rfl, rfl, rfl⟩, fun q hq hz => ?_, hbd⟩))⟩
            · rw [pv_self]
              cases mf_Mo_raise h (-1) with
              | none => rfl
              | some z => rfl
            · exact ru_G_w (fun r k a b c => by rw [pv_get, if_neg (fun z => c z.1 z.2)]) (fun _ _ _ => rfl) p3
            · rw [pv_nr (by omega)]; exact p6.2.2.2.2 q hq hz
          · have eo : (Int32.ofNat n).toInt = (n : Int) := pv_nI (by omega)
            have eon : (Int32.ofNat n).toNatClampNeg = n := by rw [pv_cl]; omega
            have o61 := o6.1
            have o62 := o6.2
            have hcl1 := hcl.1
            have hcl2 := hcl.2
            have hRg := xp_R (ru_x_xp p1) hN0 hRR hC
            have hna : ¬ pr_an g0 h0 x2.toInt.toNat 7 (h 28 n).toInt.toNat = -1 := tc_an hN0 hC hRR.2.1 x2.toInt.toNat (h 28 n).toInt.toNat (by omega) q.1.toInt.toNat (by omega) o7 hansw
            obtain ⟨mm, hmm⟩ : ∃ mm : Nat, mm = (pr_an g0 h0 x2.toInt.toNat 7 (h 28 n).toInt.toNat).toInt.toNat := ⟨_, rfl⟩
            have hge := pr_an_ge hN0 hC hRR.2.2.1 x2.toInt.toNat (by omega) 7 (h 28 n).toInt.toNat (by omega)
            have hge := hge.elim (fun y => absurd y hna) id
            have emm : pr_an g0 h0 x2.toInt.toNat 7 (h 28 n).toInt.toNat = Int32.ofNat mm := by rw [hmm]; exact pv_nIe hge.1
            have hhome := pr_an_home hN0 hC hM hRR.2.1 hRR.2.2.1 x2.toInt.toNat (by omega) 7 (h 28 n).toInt.toNat (by omega) hna
            rw [← hmm] at hge hhome
            have qmm := hM mm (by omega)
            have hrvb : ¬ (rv < 0 ∨ 16 ≤ rv.toNatClampNeg) := by rw [o1, eon, pv_lt, eo, e0]; omega
            have han := xs_answering hN0 hC hRg.1.1 hRg.2.1 (h 28 n) x2
            rw [if_pos ⟨o6, by omega, by omega⟩, xp_an (ru_x_xp p1) hN0 hC _ _ _ (by omega), emm] at han
            have hXe : xf_Ma_execute P g x1 x2 (Int32.ofNat D) = ((P g (Int32.ofNat mm) (Int32.ofNat (D + 1))).bind fun t120 => ((xf_Ma_receive t120.2 t120.1 (85 + 2 * D)).bind fun t125 => (some (t125.1, t125.2)))) := by
              rw [hX, o4, Option.bind_some]
              dsimp only
              rw [if_pos (show (0 : Int32) = 0 from rfl), if_neg hrvb, o1, eon, o5, han, Option.bind_some]
              dsimp only
              rw [pv_n1]
              congr 1
              funext y
              rw [if_neg bx2, bx1]
            have hsn := hsend.2 n o2 o1 o6
            rw [emm] at hsn
            rw [hXe, hKK]
            rcases hsn with ⟨c1, c2⟩ | ⟨c1, h', c2, c3⟩
            · have hP11 := hdeep c1 g (Int32.ofNat mm)
              rw [show D + 1 = 11 by omega, hP11, Option.bind_some]
              refine ⟨1, qa_up g 78 12 (-5), rfl, fun r k hr => by rw [pv_nr (by omega)]; exact p1 r k hr, fun r k a b => pv_nr (by omega), Or.inr (Or.inr (Or.inl ⟨rfl, h, t, ?_, ⟨p2, ?_, hZ⟩, p4, ru_L_rf _ h, ⟨rfl, rfl, rfl⟩, fun q hq hz => ?_, hbd⟩))⟩
              · rw [c2, pv_self]
                cases mf_Mo_raise h (-5) with
                | none => rfl
                | some z => rfl
              · exact ru_G_w (fun r k a b c => by rw [pv_get, if_neg (fun z => c z.1 z.2)]) (fun _ _ _ => rfl) p3
              · rw [pv_nr (by omega)]; exact p6.2.2.2.2 q hq hz
            · have hR : (((mf_Mo_call h (Int32.ofNat (D - 1)) 17 x2).bind fun t181 => (some ((0 : Int32), t181.2))).bind fun z => RR arg (t + 1) z.2) = RR arg (t + 1) h' := by
                rw [c2]
                rfl
              rw [hR]
              obtain ⟨v1, v2, v3, v4, v5, v6, v7, v8, v9, v10⟩ := c3
              have hB' : ru_B h' = ru_B h := by
                unfold ru_B
                rw [show h' 31 = h 31 from funext fun k => v3 31 k (by decide) (by omega) (by decide)]
              have hG' : ru_G h0 g h' := by
                obtain ⟨⟨m1, u1, u2, u3, u4⟩, u5, u6, u7, u8⟩ := p3
                refine ⟨⟨m1, u1, by rw [v2 40 (by decide)]; exact u2, u3, fun k hk => by rw [v3 28 k (by decide) (by omega) (by decide)]; exact ⟨(u4 k hk).1, (u4 k hk).2.1, fun i hi => by rw [v3 29 _ (by decide) (by omega) (by decide)]; exact (u4 k hk).2.2 i hi⟩⟩, fun c hc' => by rw [v3 30 c (by decide) (by omega) (by decide), v3 31 c (by decide) (by omega) (by decide)]; exact u5 c hc', ⟨by rw [v2 45 (by decide)]; exact u6.1, by rw [v2 45 (by decide), hB']; exact u6.2⟩, ⟨by rw [v2 46 (by decide)]; exact u7.1, by rw [v2 46 (by decide)]; exact u7.2.1, by rw [v2 46 (by decide), v2 30 (by decide)]; exact u7.2.2.1, fun k hk => by rw [v2 46 (by decide), v3 32 k (by decide) (by omega) (by decide)]; exact u7.2.2.2 k hk⟩, by rw [v2 30 (by decide), v2 31 (by decide)]; exact u8⟩
              have hV' : ru_V h0 D h' := fun i hi => by
                obtain ⟨m1, pp, l1, l2, l3⟩ := hV i hi
                exact ⟨m1, pp, by rw [v3 21 i (by decide) (by omega) (by decide)]; exact l1, by rw [v3 22 i (by decide) (by omega) (by decide)]; exact l2, l3⟩
              have hwants : (h0 6 mm).toInt = 2 := qmm.2.2.2.2.2.2.1 (by omega)
              have hq := hcal c1 g h' mm f.1 2 p (t + 1) (by omega) (by rw [hwants]; rfl) hqe.1 p6.1 p1 ⟨⟨fun r k a b => by rw [v3 r k (by omega) (by omega) (by omega)]; exact p2.1 r k a b, fun k hk => by rw [v2 k (by omega)]; exact p2.2 k hk⟩, hG', ⟨by rw [v2 28 (by decide)]; exact hZ.1, by rw [v2 29 (by decide)]; exact hZ.2⟩⟩ p6.2.1 hV' v1 v4 v5 v6 v8 (fun j hj => ?_) (by rw [v2 30 (by decide), hB']; omega)
              · exact ru_called hP0 hpre0 c1 hm hi h21 h25 hx1 hx2 (Or.inr ⟨by rw [ek, h17]; rfl, rfl⟩) rfl hqe.1 hr hre (h' := h') (by rw [v4]; exact ⟨v1, v2, v3, v4, v5, v6, v7, v8, v9, v10⟩) _ hq rfl
              · have hl := p6.2.2.2.1 (f.1 - 2 + j) (by omega)
                rw [v10 j hj, show 6 * (D - 1) + (f.1 - 2) + j = 6 * (D - 1) + (f.1 - 2 + j) by omega, show 4 + (f.1 - 2) + j = 4 + (f.1 - 2 + j) by omega]
                refine ⟨hl.1, ?_⟩
                show ru_ty g0 h0 h' (if j = 0 ∧ 0 ≤ (h0 5 mm).toInt then h0 4 mm else if (j : Int) < (h0 6 mm).toInt then 9 else 8) _
                by_cases hj0 : j = 0
                · rw [if_pos ⟨hj0, by omega⟩, hj0, Nat.add_zero, ← hrve]
                  refine Or.inr (Or.inr ⟨⟨by omega, by omega⟩, Or.inr ⟨by rw [o1, eo]; omega, by rw [v2 40 (by decide), o1, eo]; exact o3, ?_, ?_⟩⟩)
                  · rw [v3 28 _ (by decide) (by omega) (by decide), o1, eo, Int.toNat_natCast]; exact o6
                  · rw [v3 28 _ (by decide) (by omega) (by decide), o1, eo, Int.toNat_natCast]; exact hhome
                · rw [if_neg (fun z => hj0 z.1), if_pos (by omega)]
                  exact ru_9 _
        · -- THROW, RETURN
          rw [hcm (by omega), if_pos (by decide)]
          have hefx : tc_tks h0 1 f = some r := by
            have hr' := hr
            unfold tc_ef at hr'
            rw [if_neg (by omega), if_neg (by omega), if_neg (by omega), if_neg (by omega), if_neg (by omega), if_neg (by omega), if_neg (by omega), if_pos (by omega)] at hr'
            exact hr'
          obtain ⟨q, q1, q2⟩ := ru_tks1 hefx
          obtain ⟨v, g1, h1, a1, a2, a3, a4, a5, a6, a7⟩ := ru_pop hD p4 p6 q1
          have hGw : ru_G h0 (qa_up g1 78 12 v) h1 := ru_G_w (fun r k a b c => by rw [pv_get, if_neg (fun z => c z.1 z.2)]; exact a3 r k (by omega) (by omega)) (fun r k hr => a5.1 r k (by omega) (by omega) (by omega)) p3
          have hm1 : ru_m h0 h1 := ⟨fun r k a b => by rw [a5.1 r k (by omega) (by omega) (by omega)]; exact p2.1 r k a b, fun k hk => by rw [a5.1 0 k (by decide) (by decide) (by decide)]; exact p2.2 k hk⟩
          have hZ1 : ru_Z h1 := ⟨by rw [a5.1 0 28 (by decide) (by decide) (by decide)]; exact hZ.1, by rw [a5.1 0 29 (by decide) (by decide) (by decide)]; exact hZ.2⟩
          have hF1 : h1 0 32 = Int32.ofNat D := by rw [a5.1 0 32 (by decide) (by decide) (by decide)]; exact p4
          have hL1 : ru_L (D - 1) h h1 := ⟨fun r k a b c => by
            by_cases h23 : r = 23
            · rw [h23]; exact a5.2.1 k (by omega)
            · exact a5.1 r k h23 (by omega) (by omega), a5.2.2.1, a5.2.2.2, a5.1 0 27 (by decide) (by decide) (by decide), a5.1 0 31 (by decide) (by decide) (by decide), by rw [a5.1 0 30 (by decide) (by decide) (by decide)]; exact Int.le_refl _, by rw [a5.1 0 40 (by decide) (by decide) (by decide)]; exact Int.le_refl _, fun k _ => a5.1 28 k (by decide) (by decide) (by decide), fun c _ z => by rw [a5.1 31 c (by decide) (by decide) (by decide)]; exact z⟩
          have hB1 : ru_B h1 = ru_B h := by
            unfold ru_B
            rw [show h1 31 = h 31 from funext fun k => a5.1 31 k (by decide) (by decide) (by decide)]
          have hx' : ru_x g0 (qa_up g1 78 12 v) := fun r k hr => by rw [pv_nr (by omega), a3 r k (by omega) (by omega)]; exact p1 r k hr
          have hlow : ∀ r k, 85 ≤ r → r < 85 + 2 * D → qa_up g1 78 12 v r k = g r k := fun r k a b => by rw [pv_nr (by omega)]; exact a3 r k (by omega) (by omega)
          have hbd1 : (t : Int) + 1 + p ≤ (h1 0 30).toInt + ru_B h1 + 1 := by rw [a5.1 0 30 (by decide) (by decide) (by decide), hB1]; exact hbd
          by_cases h21' : k = 21
          · have hX : xf_Ma_execute P g x1 x2 (Int32.ofNat D) = some (1, qa_up g1 78 12 v) := by
              rw [hxk, h21']
              have hz : xf_Ma_execute P g (Int32.ofNat 21) x2 (Int32.ofNat D) = (if Int32.ofNat D < 0 ∨ 11 ≤ (Int32.ofNat D).toNatClampNeg then none else ((xf_Fr_pop g (85 + 2 * (Int32.ofNat D).toNatClampNeg)).bind fun t212 => ((xf_Ma_toss t212.2 t212.1).bind fun t215 => (some (t215.1, t215.2))))) := rfl
              rw [hz, if_neg bx2, bx1, a1, Option.bind_some]
              rfl
            have hKK : ru_KK arg D x1 x2 t h = ((mf_Mo_raise h1 v).bind fun z => RR arg (t + 1) z.2) := by
              unfold ru_KK mf_Mo_instruct_151 mf_Mo_instruct_156
              rw [if_neg (by decide), if_neg (fun y => by have := f16.mp y; omega), if_neg (fun y => by have := f17.mp y; omega), if_neg (fun y => by have := f22.mp y; omega), if_pos (f21.mpr h21'), a2, Option.bind_some]
              cases mf_Mo_raise h1 v with
              | none => rfl
              | some z => rfl
            refine ⟨1, qa_up g1 78 12 v, hX, hx', hlow, Or.inr (Or.inr (Or.inl ⟨rfl, h1, t, ?_, ⟨hm1, hGw, hZ1⟩, hF1, hL1, ⟨a5.1 21 _ (by decide) (by decide) (by decide), a5.1 22 _ (by decide) (by decide) (by decide), a5.1 24 _ (by decide) (by decide) (by decide)⟩, fun q hq hz => ?_, hbd1⟩))⟩
            · rw [hKK, pv_self]
            · have hpl := xs_pop_pl a1 q
              rw [show 85 + 2 * D + 1 = 86 + 2 * D by omega] at hpl
              rw [pv_nr (by omega), hpl, ms_pop_pl a2]
              exact ⟨(p6.2.2.2.2 q hq hz).1, ru_ty_w a5 (p6.2.2.2.2 q hq hz).2⟩
          · have h22' : k = 22 := by omega
            have hX : xf_Ma_execute P g x1 x2 (Int32.ofNat D) = some (0, qa_up g1 78 12 v) := by
              rw [hxk, h22']
              have hz : xf_Ma_execute P g (Int32.ofNat 22) x2 (Int32.ofNat D) = (if Int32.ofNat D < 0 ∨ 11 ≤ (Int32.ofNat D).toNatClampNeg then none else ((xf_Fr_pop g (85 + 2 * (Int32.ofNat D).toNatClampNeg)).bind fun t222 => (some ((0 : Int32), (qa_up t222.2 78 12 t222.1))))) := rfl
              rw [hz, if_neg bx2, bx1, a1, Option.bind_some]
            have hKK : ru_KK arg D x1 x2 t h = ((mf_Mo_leave h1 v).bind fun z => RR arg (t + 1) z.2) := by
              unfold ru_KK mf_Mo_instruct_151 mf_Mo_instruct_156
              rw [if_neg (by decide), if_neg (fun y => by have := f16.mp y; omega), if_neg (fun y => by have := f17.mp y; omega), if_pos (f22.mpr h22'), a2, Option.bind_some]
              cases mf_Mo_leave h1 v with
              | none => rfl
              | some z => rfl
            refine ⟨0, qa_up g1 78 12 v, hX, hx', hlow, Or.inr (Or.inl ⟨rfl, f22.mpr h22', h1, t, ?_, ⟨hm1, hGw, hZ1⟩, hF1, hL1, a5.1 24 _ (by decide) (by decide) (by decide), hbd1⟩)⟩
            rw [hKK, pv_self]
