/-! Running a method to its end: what both sides say then -/
def ru_J (h0 g h : qa_St) : Prop := ru_m h0 h ∧ ru_G h0 g h ∧ ru_Z h
def ru_V (h0 : qa_St) (D : Nat) (h : qa_St) : Prop := ∀ k, k < D → ∃ m pc : Nat, h 21 k = Int32.ofNat m ∧ h 22 k = Int32.ofNat pc ∧ (m : Int) < (h0 0 4).toInt ∧ pc < 20
/-- the frames below E stay, objects and begun classes stay -/
def ru_L (E : Nat) (h h' : qa_St) : Prop := (∀ r k, 21 ≤ r → r ≤ 25 → k < E → h' r k = h r k) ∧ (∀ k, k < 4 * E → h' 26 k = h 26 k) ∧ (∀ k, k < 6 * E → h' 27 k = h 27 k) ∧ h' 0 27 = h 0 27 ∧ h' 0 31 = h 0 31 ∧ (h 0 30).toInt ≤ (h' 0 30).toInt ∧ (h 0 40).toInt ≤ (h' 0 40).toInt ∧ (∀ k : Nat, (k : Int) < (h 0 40).toInt → h' 28 k = h 28 k) ∧ ∀ c, c < 6 → 0 ≤ (h 31 c).toInt → 0 ≤ (h' 31 c).toInt
theorem ru_L_rf (E : Nat) (h : qa_St) : ru_L E h h := ⟨fun _ _ _ _ _ => rfl, fun _ _ => rfl, fun _ _ => rfl, rfl, rfl, Int.le_refl _, Int.le_refl _, fun _ _ => rfl, fun _ _ z => z⟩
theorem ru_L_tr {E : Nat} {h h' h'' : qa_St} (h1 : ru_L E h h') (h2 : ru_L E h' h'') : ru_L E h h'' := by
  obtain ⟨a1, a2, a3, a4, a5, a6, a7, a8, a9⟩ := h1
  obtain ⟨b1, b2, b3, b4, b5, b6, b7, b8, b9⟩ := h2
  exact ⟨fun r k x y z => (b1 r k x y z).trans (a1 r k x y z), fun k x => (b2 k x).trans (a2 k x), fun k x => (b3 k x).trans (a3 k x), b4.trans a4, b5.trans a5, by omega, by omega, fun k x => (b8 k (by omega)).trans (a8 k x), fun c x y => b9 c x (a9 c x y)⟩
theorem ru_L_dn {E E' : Nat} (hE : E' ≤ E) {h h' : qa_St} (h1 : ru_L E h h') : ru_L E' h h' := by
  obtain ⟨a1, a2, a3, a4⟩ := h1
  exact ⟨fun r k x y z => a1 r k x y (by omega), fun k x => a2 k (by omega), fun k x => a3 k (by omega), a4⟩
theorem ru_V_L {h0 h h' : qa_St} {D E : Nat} (hE : D ≤ E) (hL : ru_L E h h') (hV : ru_V h0 D h) : ru_V h0 D h' := fun k hk => by
  obtain ⟨m, pc, a, b, c⟩ := hV k hk
  exact ⟨m, pc, by rw [hL.1 21 k (by omega) (by omega) (by omega)]; exact a, by rw [hL.1 22 k (by omega) (by omega) (by omega)]; exact b, c⟩
def ru_b3 (h0 g' hb : qa_St) (R : qa_Re) : Prop := R = some (2, hb) ∧ ru_m h0 hb ∧ ru_G h0 g' hb ∧ hb 0 29 = 0
def ru_Q (g0 h0 : qa_St) (arg : Int32) (D p : Nat) (g h : qa_St) (R C : qa_Re) : Prop := ∃ (o : Int32) (g' : qa_St), C = some (o, g') ∧ ru_x g0 g' ∧ (∀ r k, 85 ≤ r → r < 85 + 2 * D → g' r k = g r k) ∧ ((o = 0 ∧ ∃ (hb : qa_St) (t : Nat), R = ((mf_Mo_leave hb (g' 78 12)).bind fun z => RR arg (t + 1) z.2) ∧ ru_J h0 g' hb ∧ hb 0 32 = Int32.ofNat D ∧ ru_L (D - 1) h hb ∧ hb 24 (D - 1) = h 24 (D - 1) ∧ (t : Int) + 1 + p ≤ (hb 0 30).toInt + ru_B hb + 1) ∨ (o = 1 ∧ ∃ (hb : qa_St) (t : Nat), R = ((mf_Mo_raise hb (g' 78 12)).bind fun z => RR arg (t + 1) z.2) ∧ ru_J h0 g' hb ∧ hb 0 32 = Int32.ofNat (D - 1) ∧ ru_L (D - 1) h hb ∧ (t : Int) + 1 + p ≤ (hb 0 30).toInt + ru_B hb + 1) ∨ (o = 2 ∧ ∃ hb, ru_b3 h0 g' hb R))
/-- a method run at depth D + 1 -/
def ru_cal (g0 h0 : qa_St) (arg : Int32) (P : qa_St → Int32 → Int32 → qa_Re) (D : Nat) : Prop := ∀ (g h : qa_St) (m s w p t : Nat), (m : Int) < (h0 0 4).toInt → (w : Int) = (h0 6 m).toInt → w ≤ s → s ≤ 6 → ru_x g0 g → ru_J h0 g h → g (85 + 2 * D) 1 = Int32.ofNat s → ru_V h0 D h → h 0 32 = Int32.ofNat (D + 1) → h 21 D = Int32.ofNat m → h 22 D = 0 → h 23 D = 0 → h 25 D = 0 → (∀ j, j < w → g (86 + 2 * D) (4 + (s - w) + j) = h 26 (4 * D + j) ∧ ru_ty g0 h0 h ((tc_st h0 m).2 j) (h 26 (4 * D + j))) → (t : Int) + p ≤ (h 0 30).toInt + ru_B h + 1 → ru_Q g0 h0 arg (D + 1) p (qa_up g (85 + 2 * D) 1 (Int32.ofNat (s - w))) h (RR arg t h) (P g (Int32.ofNat m) (Int32.ofNat (D + 1)))
def TK (arg : Int32) (KK : Nat → qa_St → qa_Re) (t : Nat) (res : qa_Re) : qa_Re := res.bind fun z => if z.1 = 0 then RR arg (t + 1) z.2 else KK t z.2
theorem ru_B6 (h : qa_St) : ru_B h ≤ 6 := by
  unfold ru_B
  have := tc_sum_bd (f := fun c => if (h 31 c).toInt < 0 then 0 else 1) (b := 1) 6 (fun k _ => by show (if (h 31 k).toInt < 0 then 0 else 1) ≤ 1; split <;> omega)
  omega
/-- what the trigger ends with -/
def ru_TQ (g0 h0 : qa_St) (arg : Int32) (KK : Nat → qa_St → qa_Re) (D T p : Nat) (g hx : qa_St) (R C : qa_Re) : Prop := ∃ (o : Int32) (g' : qa_St), C = some (o, g') ∧ ru_x g0 g' ∧ (∀ r k, 85 ≤ r → r < 87 + 2 * D → g' r k = g r k) ∧ ((o = 0 ∧ ∃ (hb : qa_St) (t : Nat), R = KK t hb ∧ ru_J h0 g' hb ∧ hb 0 32 = Int32.ofNat D ∧ ru_L D hx hb ∧ (t : Int) + 1 + p ≤ (hb 0 30).toInt + ru_B hb + 1) ∨ (o = 1 ∧ ∃ (hb : qa_St) (t : Nat) (v : Int32), R = ((mf_Mo_raise hb (g' 78 12)).bind fun z => RR arg (t + 1) z.2) ∧ ru_J h0 g' hb ∧ hb 0 32 = Int32.ofNat D ∧ ru_L D (if D = 0 then hx else qa_up hx 25 (D - 1) v) hb ∧ (t : Int) + 1 + p ≤ (hb 0 30).toInt + ru_B hb + 1) ∨ (o = 2 ∧ ∃ hb, ru_b3 h0 g' hb R))
theorem ru_trig {g0 h0 : qa_St} (hP : pr_P h0) (hRR : pr_R g0 h0) (arg : Int32) (P : qa_St → Int32 → Int32 → qa_Re) {D : Nat} (hD : D ≤ 10) (hcal : D ≤ 9 → ru_cal g0 h0 arg P D) (hdeep : D = 10 → ∀ g x, P g x (Int32.ofNat 11) = some (1, qa_up g 78 12 (-5))) (T : Nat) (hT : (T : Int) < (h0 0 0).toInt) (KK : Nat → qa_St → qa_Re) (hx : qa_St) (hres : D ≤ 9 → ∀ (hb : qa_St) (v : Int32) (t : Nat), ru_m h0 hb → ru_Z hb → hb 0 32 = Int32.ofNat (D + 1) → hb 24 D = 1 → ru_L D (if D = 0 then hx else qa_up hx 25 (D - 1) 1) hb → t + 1 < 2100 → ∃ hc, ((mf_Mo_leave hb v).bind fun z => RR arg (t + 1) z.2) = TK arg KK (t + 1) (mf_Mo_trigger hc (Int32.ofNat T)) ∧ (∀ r k, ¬ (r = 0 ∧ (k = 32 ∨ k = 28 ∨ k = 29)) → ¬ (r = 25 ∧ k = D - 1 ∧ 1 ≤ D) → hc r k = hb r k) ∧ hc 0 32 = Int32.ofNat D ∧ ru_Z hc ∧ (1 ≤ D → hc 25 (D - 1) = 0)) (hx25 : 1 ≤ D → hx 25 (D - 1) = 0) :
    ∀ (d j r nn n : Nat) (g h : qa_St) (t p : Nat), j + d = T + 1 → r ≤ j → d < n → d < nn → ru_x g0 g → ru_J h0 g h → ru_V h0 D h → h 0 32 = Int32.ofNat D → ru_L D hx h → (∃ s, s ≤ 6 ∧ g (85 + 2 * D) 1 = Int32.ofNat s) → (∀ e, e < j → pv_bit (g0 2 T) e → 0 ≤ (h 31 e).toInt) → (t : Int) + 1 + p ≤ (h 0 30).toInt + ru_B h + 1 → ru_TQ g0 h0 arg KK D T p g hx (TK arg KK t (mf_Mo_trigger_2 nn h (Int32.ofNat T) (Int32.ofNat r))) (xf_Ma_trigger_2 P n g (Int32.ofNat T) (Int32.ofNat D) (Int32.ofNat j)) := by
  have hP0 := hP
  obtain ⟨hN, hC, hM, hU, hK, hG⟩ := hP
  have hN0 := hN
  obtain ⟨n0, n1, n2, n3⟩ := hN
  have e0 : (0 : Int32).toInt = 0 := rfl
  have em : (-1 : Int32).toInt = -1 := rfl
  have e10 : (10 : Int32).toInt = 10 := rfl
  have eT : (Int32.ofNat T).toInt = (T : Int) := pv_nI (by omega)
  have eTn : (Int32.ofNat T).toInt.toNat = T := by omega
  have eD : (Int32.ofNat D).toInt = (D : Int) := pv_nI (by omega)
  intro d
  induction d with
  | zero =>
    intro j r nn n g h t p hj hr hn hnn hgx hJ hV hF hL hs hbeg hbd
    obtain ⟨n, rfl⟩ : ∃ z, n = z + 1 := ⟨n - 1, by omega⟩
    obtain ⟨nn, rfl⟩ : ∃ z, nn = z + 1 := ⟨nn - 1, by omega⟩
    have ej : (Int32.ofNat j).toInt = (j : Int) := pv_nI (by omega)
    have hpm := ru_m_pm hJ.1
    have htr := (ms_trig hP0 hRR hpm T r nn hT (by omega)).1 (fun e he hb => hbeg e (by have := pr_bit_le hN0 hC hRR.2.1 T hT e he hb; omega) hb)
    refine ⟨0, g, ?_, hgx, fun _ _ _ _ => rfl, Or.inl ⟨rfl, h, t, ?_, hJ, hF, hL, hbd⟩⟩
    · rw [xf_Ma_trigger_2, if_pos (by rw [pv_lt, eT, ej]; omega)]
    · rw [htr]
      rfl
  | succ d ih =>
    intro j r nn n g h t p hj hr hn hnn hgx hJ hV hF hL hs hbeg hbd
    obtain ⟨n, rfl⟩ : ∃ z, n = z + 1 := ⟨n - 1, by omega⟩
    have ej : (Int32.ofNat j).toInt = (j : Int) := pv_nI (by omega)
    have ejn : (Int32.ofNat j).toNatClampNeg = j := by rw [pv_cl]; omega
    have ejn' : (Int32.ofNat j).toInt.toNat = j := by omega
    have hjb : ¬ (Int32.ofNat j < 0 ∨ 6 ≤ (Int32.ofNat j).toNatClampNeg) := by rw [ejn, pv_lt, ej, e0]; omega
    have hpm := ru_m_pm hJ.1
    have hRg := xp_R (ru_x_xp hgx) hN0 hRR hC
    have hG := hJ.2.1
    have hord := hG.2.1 j (by omega)
    have hbitg : pv_bit (g 2 T) j ↔ pv_bit (g0 2 T) j := by rw [hgx 2 T (by omega)]
    have hcl : xf_Ma_trigger_2 P (n + 1) g (Int32.ofNat T) (Int32.ofNat D) (Int32.ofNat j) = (if pv_bit (g0 2 T) j ∧ (h 31 j).toInt < 0 then xf_Ma_trigger_49 P (xf_Ma_trigger_2 P n) (qa_up (qa_up g 81 j (g 78 7)) 78 7 (g 78 7 + 1)) (Int32.ofNat T) (Int32.ofNat D) (Int32.ofNat j) else xf_Ma_trigger_2 P n g (Int32.ofNat T) (Int32.ofNat D) (Int32.ofNat (j + 1))) := by
      rw [xf_Ma_trigger_2, if_neg (by rw [pv_lt, eT, ej]; omega), xs_isOf hN0 hRg.1.1, eTn, ejn']
      simp only [Option.bind_some, pv_b1]
      unfold xf_Ma_trigger_88
      rw [pv_n1]
      by_cases hb : pv_bit (g0 2 T) j
      · rw [if_neg (fun z => z ⟨by omega, by omega, hbitg.mpr hb⟩), if_neg hjb, if_neg hjb, ejn]
        by_cases ho : (h 31 j).toInt < 0
        · rw [if_pos (show g 81 j = -1 by rw [hord.2.1, pv_eq, em]; omega), pv_nr (show (78 : Nat) ≠ 81 by decide), if_pos ⟨hb, ho⟩]
        · rw [if_neg (show ¬ g 81 j = -1 by rw [hord.2.1, pv_eq, em]; omega), if_neg (fun z => ho z.2)]
      · rw [if_pos (fun z => hb (hbitg.mp z.2.2)), if_neg (fun z => hb z.1)]
    rw [hcl]
    by_cases hact : pv_bit (g0 2 T) j ∧ (h 31 j).toInt < 0
    · -- class j begins
      rw [if_pos hact]
      obtain ⟨hb, ho⟩ := hact
      obtain ⟨nn, rfl⟩ : ∃ z, nn = z + 1 := ⟨nn - 1, by omega⟩
      have htr := (ms_trig hP0 hRR hpm T r nn hT (by omega)).2 j (by omega) hb ho (fun e he hbe => hbeg e he hbe)
      have hbgd : qa_up (qa_up h 31 j (h 0 45)) 0 45 (h 0 45 + 1) = ru_bg h j := rfl
      rw [hbgd] at htr
      obtain ⟨hGb, hBb, hBlt, h31b, h45⟩ := ru_bg_G (by omega) hG ho
      obtain ⟨g1, hg1⟩ : ∃ g1, g1 = qa_up (qa_up g 81 j (g 78 7)) 78 7 (g 78 7 + 1) := ⟨_, rfl⟩
      rw [← hg1] at hGb ⊢
      obtain ⟨h1, hh1⟩ : ∃ h1, h1 = ru_bg h j := ⟨_, rfl⟩
      rw [← hh1] at hGb hBb h31b htr
      have kg : ∀ r k, ¬ (r = 81 ∧ k = j) → ¬ (r = 78 ∧ k = 7) → g1 r k = g r k := fun r k z1 z2 => by rw [hg1, pv_get, if_neg z2, pv_get, if_neg z1]
      have kh : ∀ r k, ¬ (r = 31 ∧ k = j) → ¬ (r = 0 ∧ k = 45) → h1 r k = h r k := fun r k z1 z2 => by rw [hh1]; exact ru_bg_ne z1 z2
      have hgx1 : ru_x g0 g1 := fun r k hr => by rw [kg r k (by omega) (by omega)]; exact hgx r k hr
      have hm1 : ru_m h0 h1 := ⟨fun r k a b => by rw [kh r k (by omega) (by omega)]; exact hJ.1.1 r k a b, fun k hk => by rw [kh 0 k (by omega) (by omega)]; exact hJ.1.2 k hk⟩
      have hZ1 : ru_Z h1 := ⟨by rw [kh 0 28 (by omega) (by omega)]; exact hJ.2.2.1, by rw [kh 0 29 (by omega) (by omega)]; exact hJ.2.2.2⟩
      have hJ1 : ru_J h0 g1 h1 := ⟨hm1, hGb, hZ1⟩
      have hF1 : h1 0 32 = Int32.ofNat D := by rw [kh 0 32 (by omega) (by omega)]; exact hF
      have hV1 : ru_V h0 D h1 := fun k hk => by
        obtain ⟨m, pc, a, b, c⟩ := hV k hk
        exact ⟨m, pc, by rw [kh 21 k (by omega) (by omega)]; exact a, by rw [kh 22 k (by omega) (by omega)]; exact b, c⟩
      have hL1 : ru_L D hx h1 := ru_L_tr hL ⟨fun r k a b c => kh r k (by omega) (by omega), fun k hk => kh 26 k (by omega) (by omega), fun k hk => kh 27 k (by omega) (by omega), kh 0 27 (by omega) (by omega), kh 0 31 (by omega) (by omega), by rw [kh 0 30 (by omega) (by omega)]; exact Int.le_refl _, by rw [kh 0 40 (by omega) (by omega)]; exact Int.le_refl _, fun k _ => kh 28 k (by omega) (by omega), fun c hc z => by
        by_cases hcj : c = j
        · rw [hcj, h31b]; exact h45
        · rw [kh 31 c (by omega) (by omega)]; exact z⟩
      have hbeg1 : ∀ e, e < j + 1 → pv_bit (g0 2 T) e → 0 ≤ (h1 31 e).toInt := fun e he hbe => by
        by_cases hej : e = j
        · rw [hej, h31b]; exact h45
        · rw [kh 31 e (by omega) (by omega)]; exact hbeg e (by omega) hbe
      have hs1 : ∃ s, s ≤ 6 ∧ g1 (85 + 2 * D) 1 = Int32.ofNat s := by
        obtain ⟨s, s1, s2⟩ := hs
        exact ⟨s, s1, by rw [kg _ 1 (by omega) (by omega)]; exact s2⟩
      have hlow : ∀ r k, 85 ≤ r → r < 87 + 2 * D → g1 r k = g r k := fun r k a b => kg r k (by omega) (by omega)
      have hup : ∀ {R C : qa_Re}, ru_TQ g0 h0 arg KK D T p g1 hx R C → ru_TQ g0 h0 arg KK D T p g hx R C := fun {R C} hq => by
        obtain ⟨o, g', c1, c2, c3, c4⟩ := hq
        exact ⟨o, g', c1, c2, fun r k a b => (c3 r k a b).trans (hlow r k a b), c4⟩
      have h30 : h1 0 30 = h 0 30 := kh 0 30 (by omega) (by omega)
      have hRg1 := xp_R (ru_x_xp hgx1) hN0 hRR hC
      have qj := hC j (by omega)
      have hbd1 : (t : Int) + 1 + (p + 1 : Nat) ≤ (h1 0 30).toInt + ru_B h1 + 1 := by rw [h30, hBb]; omega
      unfold xf_Ma_trigger_49
      rw [xs_initialiserOf _ hN0 hRg1.1.1 hRg1.2.1, ejn', if_pos (by omega), Option.bind_some]
      dsimp only
      rw [htr]
      unfold mf_Mo_trigger_73
      have kf3 : h1 3 j = h0 3 j := hm1.1 3 j (by omega) (by omega)
      by_cases hfi : (h0 3 j).toInt < 0
      · -- no initialiser
        rw [if_pos (show h0 3 j = -1 by rw [pv_eq, em]; omega), if_neg hjb, ejn, kf3, if_pos (show h0 3 j < 0 by rw [pv_lt, e0]; exact hfi), pv_n1]
        unfold xf_Ma_trigger_78 xf_Ma_trigger_88
        rw [if_pos rfl, pv_n1]
        exact hup (ih (j + 1) (r + 1) nn n g1 h1 t p (by omega) (by omega) (by omega) (by omega) hgx1 hJ1 hV1 hF1 hL1 hs1 hbeg1 (by rw [h30, hBb]; omega))
      · have hfi2 := qj.2.2.2.2.2.2 (by omega)
        obtain ⟨mi, hmi⟩ : ∃ mi : Nat, mi = (h0 3 j).toInt.toNat := ⟨_, rfl⟩
        have emi : h0 3 j = Int32.ofNat mi := by rw [hmi]; exact pv_nIe (by omega)
        have hmiM : (mi : Int) < (h0 0 4).toInt := by omega
        rw [if_neg (show ¬ h0 3 j = -1 by rw [pv_eq, em]; omega), if_neg hjb, ejn, kf3, if_neg (show ¬ h0 3 j < 0 by rw [pv_lt, e0]; exact hfi), hF1]
        -- the state with again
        obtain ⟨ha, hha, hha2⟩ : ∃ ha, (if Int32.ofNat D ≤ 0 then mf_Mo_trigger_101 h1 (Int32.ofNat j) else if Int32.ofNat D - 1 < 0 ∨ 10 ≤ (Int32.ofNat D - 1).toNatClampNeg then none else mf_Mo_trigger_101 (qa_up h1 25 (Int32.ofNat D - 1).toNatClampNeg 1) (Int32.ofNat j)) = mf_Mo_trigger_101 ha (Int32.ofNat j) ∧ ha = (if D = 0 then h1 else qa_up h1 25 (D - 1) 1) := by
          by_cases hD0 : D = 0
          · rw [if_pos hD0, if_pos (by rw [pv_le, eD, e0]; omega)]
            exact ⟨_, rfl, rfl⟩
          · obtain ⟨bm1, bm2⟩ := ru_b (D := D) (by omega)
            rw [if_neg hD0, if_neg (by rw [pv_le, eD, e0]; omega), ru_fD hD (by omega), if_neg bm2, bm1]
            exact ⟨_, rfl, rfl⟩
        rw [hha]
        have ka : ∀ r k, ¬ (r = 25 ∧ k = D - 1 ∧ 1 ≤ D) → ha r k = h1 r k := fun r k z => by
          rw [hha2]
          by_cases hD0 : D = 0
          · rw [if_pos hD0]
          · rw [if_neg hD0, pv_get, if_neg (by omega)]
        have hLa : ru_L D (if D = 0 then hx else qa_up hx 25 (D - 1) 1) ha := by
          obtain ⟨l1, l2, l3, l4, l5, l6, l7, l8, l9⟩ := hL1
          have hxr : ∀ r k, ¬ (r = 25 ∧ k = D - 1 ∧ 1 ≤ D) → (if D = 0 then hx else qa_up hx 25 (D - 1) 1) r k = hx r k := fun r k z => by
            by_cases hD0 : D = 0
            · rw [if_pos hD0]
            · rw [if_neg hD0, pv_get, if_neg (by omega)]
          refine ⟨fun r k a b c => ?_, fun k hk => by rw [ka 26 k (by omega), hxr 26 k (by omega)]; exact l2 k hk, fun k hk => by rw [ka 27 k (by omega), hxr 27 k (by omega)]; exact l3 k hk, by rw [ka 0 27 (by omega), hxr 0 27 (by omega)]; exact l4, by rw [ka 0 31 (by omega), hxr 0 31 (by omega)]; exact l5, by rw [ka 0 30 (by omega), hxr 0 30 (by omega)]; exact l6, by rw [ka 0 40 (by omega), hxr 0 40 (by omega)]; exact l7, fun k hk => by rw [hxr 0 40 (by omega)] at hk; rw [ka 28 k (by omega), hxr 28 k (by omega)]; exact l8 k hk, fun c hc z => by rw [hxr 31 c (by omega)] at z; rw [ka 31 c (by omega)]; exact l9 c hc z⟩
          by_cases hz : r = 25 ∧ k = D - 1 ∧ 1 ≤ D
          · have hD0 : ¬ D = 0 := by omega
            rw [hha2, if_neg hD0, if_neg hD0, hz.1, hz.2.1, pv_self, pv_self]
          · rw [ka r k hz, hxr r k hz]; exact l1 r k a b c
        have hma : ru_m h0 ha := ⟨fun r k a b => by rw [ka r k (by omega)]; exact hm1.1 r k a b, fun k hk => by rw [ka 0 k (by omega)]; exact hm1.2 k hk⟩
        have hZa : ru_Z ha := ⟨by rw [ka 0 28 (by omega)]; exact hZ1.1, by rw [ka 0 29 (by omega)]; exact hZ1.2⟩
        have hGa : ru_G h0 g1 ha := ru_G_w (fun _ _ _ _ _ => rfl) (fun r k hr => ka r k (by omega)) hGb
        have hFa : ha 0 32 = Int32.ofNat D := by rw [ka 0 32 (by omega)]; exact hF1
        have hBa : ru_B ha = ru_B h1 := by
          unfold ru_B
          rw [show ha 31 = h1 31 from funext fun k => ka 31 k (by omega)]
        have h30a : ha 0 30 = h 0 30 := by rw [ka 0 30 (by omega), h30]
        unfold mf_Mo_trigger_101
        rw [hFa]
        by_cases hD10 : D = 10
        · -- too deep
          rw [if_pos (by rw [hD10]; rfl)]
          have hP11 := hdeep hD10 g1 (h0 3 j)
          have e11 : Int32.ofNat D + 1 = Int32.ofNat 11 := by rw [hD10, pv_n1]
          rw [e11, hP11, Option.bind_some]
          unfold xf_Ma_trigger_78
          dsimp only
          rw [if_neg (show ¬ (1 : Int32) = 0 by decide)]
          refine ⟨1, _, rfl, fun r k hr => by rw [pv_nr (by omega)]; exact hgx1 r k hr, fun r k a b => by rw [pv_nr (by omega)]; exact hlow r k a b, Or.inr (Or.inl ⟨rfl, ha, t, 1, ?_, ⟨hma, ?_, hZa⟩, hFa, hLa, by rw [h30a, hBa, hBb]; omega⟩)⟩
          · rw [pv_self]
            unfold TK
            cases mf_Mo_raise ha (-5) with
            | none => rfl
            | some z => rfl
          · exact ru_G_w (fun r k a b c => by rw [pv_get, if_neg (fun z => c z.1 z.2)]) (fun _ _ _ => rfl) hGa
        · -- the initialiser runs
          rw [if_neg (by rw [pv_eq, eD, e10]; omega), if_neg hjb, ejn, hma.1 3 j (by omega) (by omega), emi]
          obtain ⟨h2, b1, b2, b3, b4, b5, b6, b7, b8, b9, b10⟩ := ms_enter (D := D) (by omega) hFa (Int32.ofNat mi) 1 (Or.inr rfl)
          have hTK : TK arg KK t ((mf_Mo_enter ha (Int32.ofNat mi) 1).bind fun t127 => some (0, t127.2)) = RR arg (t + 1) h2 := by
            rw [b1]
            rfl
          rw [hTK, pv_n1]
          obtain ⟨s, s1, s2⟩ := hs1
          have k2 : ∀ r k, ¬ (r = 0 ∧ k = 32) → ¬ (21 ≤ r ∧ r ≤ 26) → h2 r k = ha r k := fun r k z1 z2 => by
            by_cases hr0 : r = 0
            · subst hr0; exact b3 k (by omega)
            · exact b4 r k hr0 (by omega) (by omega)
          have hm2 : ru_m h0 h2 := ⟨fun r k a b => by rw [k2 r k (by omega) (by omega)]; exact hma.1 r k a b, fun k hk => by rw [k2 0 k (by omega) (by omega)]; exact hma.2 k hk⟩
          have hZ2 : ru_Z h2 := ⟨by rw [k2 0 28 (by omega) (by omega)]; exact hZa.1, by rw [k2 0 29 (by omega) (by omega)]; exact hZa.2⟩
          have hG2 : ru_G h0 g1 h2 := by
            obtain ⟨⟨m1, u1, u2, u3, u4⟩, u5, u6, u7, u8⟩ := hGa
            have hB2 : ru_B h2 = ru_B ha := by
              unfold ru_B
              rw [show h2 31 = ha 31 from funext fun k => k2 31 k (by omega) (by omega)]
            refine ⟨⟨m1, u1, by rw [k2 0 40 (by omega) (by omega)]; exact u2, u3, fun k hk => by rw [k2 28 k (by omega) (by omega)]; exact ⟨(u4 k hk).1, (u4 k hk).2.1, fun i hi => by rw [k2 29 _ (by omega) (by omega)]; exact (u4 k hk).2.2 i hi⟩⟩, fun c hc => by rw [k2 30 c (by omega) (by omega), k2 31 c (by omega) (by omega)]; exact u5 c hc, ⟨by rw [k2 0 45 (by omega) (by omega)]; exact u6.1, by rw [k2 0 45 (by omega) (by omega), hB2]; exact u6.2⟩, ⟨by rw [k2 0 46 (by omega) (by omega)]; exact u7.1, by rw [k2 0 46 (by omega) (by omega)]; exact u7.2.1, by rw [k2 0 46 (by omega) (by omega), k2 0 30 (by omega) (by omega)]; exact u7.2.2.1, fun k hk => by rw [k2 0 46 (by omega) (by omega), k2 32 k (by omega) (by omega)]; exact u7.2.2.2 k hk⟩, by rw [k2 0 30 (by omega) (by omega), k2 0 31 (by omega) (by omega)]; exact u8⟩
          have hB2 : ru_B h2 = ru_B h1 := by
            rw [← hBa]
            unfold ru_B
            rw [show h2 31 = ha 31 from funext fun k => k2 31 k (by omega) (by omega)]
          have h302 : h2 0 30 = h 0 30 := by rw [k2 0 30 (by omega) (by omega), h30a]
          have hLa2 : ru_L D ha h2 := ⟨fun r k a b c => b4 r k (by omega) (by omega) (by omega), fun k hk => b10 k (by omega), fun k hk => b4 27 k (by decide) (by omega) (by decide), k2 0 27 (by omega) (by omega), k2 0 31 (by omega) (by omega), by rw [k2 0 30 (by omega) (by omega)]; exact Int.le_refl _, by rw [k2 0 40 (by omega) (by omega)]; exact Int.le_refl _, fun k _ => k2 28 k (by omega) (by omega), fun c _ z => by rw [k2 31 c (by omega) (by omega)]; exact z⟩
          have hV2 : ru_V h0 D h2 := fun k hk => by
            obtain ⟨m, pc, a, b, c⟩ := hV1 k hk
            exact ⟨m, pc, by rw [b4 21 k (by decide) (by omega) (by decide), ka 21 k (by omega)]; exact a, by rw [b4 22 k (by decide) (by omega) (by decide), ka 22 k (by omega)]; exact b, c⟩
          have hq := hcal (by omega) g1 h2 mi s 0 (p + 1) (t + 1) hmiM (by rw [hmi]; exact hfi2.2.symm) (by omega) s1 hgx1 ⟨hm2, hG2, hZ2⟩ s2 hV2 b2 b5 b6 b7 b9 (fun i hi => by omega) (by rw [h302, hB2, hBb]; omega)
          obtain ⟨o, g', c1, c2, c3, c4⟩ := hq
          rw [c1, Option.bind_some]
          have hg's : ∀ r k, 85 ≤ r → r < 87 + 2 * D → g' r k = g1 r k := fun r k a b => by
            rw [c3 r k a (by omega), pv_get]
            by_cases hz : r = 85 + 2 * D ∧ k = 1
            · rw [if_pos hz, hz.1, hz.2, s2]; rfl
            · rw [if_neg hz]
          have hlow2 : ∀ r k, 85 ≤ r → r < 87 + 2 * D → g' r k = g r k := fun r k a b => (hg's r k a b).trans (hlow r k a b)
          unfold xf_Ma_trigger_78
          dsimp only
          rcases c4 with ⟨o0, hb', t', d1, d2, d3, d4, d5, d6⟩ | ⟨o1, hb', t', d1, d2, d3, d4, d5⟩ | ⟨o2, hb', d1⟩
          · rw [if_pos o0]
            unfold xf_Ma_trigger_88
            rw [pv_n1]
            rw [show D + 1 - 1 = D by omega] at d4 d5
            have hst30 := d2.2.1.2.2.2.2.2.2.2
            have hB6 := ru_B6 hb'
            have hLb : ru_L D (if D = 0 then hx else qa_up hx 25 (D - 1) 1) hb' := ru_L_tr hLa (ru_L_tr hLa2 d4)
            obtain ⟨hc, f1, f2, f3, f4, f5⟩ := hres (by omega) hb' (g' 78 12) t' d2.1 d2.2.2 d3 (by rw [d5]; exact b8) hLb (by omega)
            rw [d1, f1]
            have hmc : ru_m h0 hc := ⟨fun r k a b => by rw [f2 r k (by omega) (by omega)]; exact d2.1.1 r k a b, fun k hk => by rw [f2 0 k (by omega) (by omega)]; exact d2.1.2 k hk⟩
            have hGc : ru_G h0 g' hc := by
              have hG' := d2.2.1
              obtain ⟨⟨m1, u1, u2, u3, u4⟩, u5, u6, u7, u8⟩ := hG'
              have hBc : ru_B hc = ru_B hb' := by
                unfold ru_B
                rw [show hc 31 = hb' 31 from funext fun k => f2 31 k (by omega) (by omega)]
              refine ⟨⟨m1, u1, by rw [f2 0 40 (by omega) (by omega)]; exact u2, u3, fun k hk => by rw [f2 28 k (by omega) (by omega)]; exact ⟨(u4 k hk).1, (u4 k hk).2.1, fun i hi => by rw [f2 29 _ (by omega) (by omega)]; exact (u4 k hk).2.2 i hi⟩⟩, fun c hc' => by rw [f2 30 c (by omega) (by omega), f2 31 c (by omega) (by omega)]; exact u5 c hc', ⟨by rw [f2 0 45 (by omega) (by omega)]; exact u6.1, by rw [f2 0 45 (by omega) (by omega), hBc]; exact u6.2⟩, ⟨by rw [f2 0 46 (by omega) (by omega)]; exact u7.1, by rw [f2 0 46 (by omega) (by omega)]; exact u7.2.1, by rw [f2 0 46 (by omega) (by omega), f2 0 30 (by omega) (by omega)]; exact u7.2.2.1, fun k hk => by rw [f2 0 46 (by omega) (by omega), f2 32 k (by omega) (by omega)]; exact u7.2.2.2 k hk⟩, by rw [f2 0 30 (by omega) (by omega), f2 0 31 (by omega) (by omega)]; exact u8⟩
            have hBc : ru_B hc = ru_B hb' := by
              unfold ru_B
              rw [show hc 31 = hb' 31 from funext fun k => f2 31 k (by omega) (by omega)]
            have hLc : ru_L D hx hc := by
              obtain ⟨l1, l2, l3, l4, l5, l6, l7, l8, l9⟩ := hLb
              have hxr : ∀ r k, ¬ (r = 25 ∧ k = D - 1 ∧ 1 ≤ D) → (if D = 0 then hx else qa_up hx 25 (D - 1) 1) r k = hx r k := fun r k z => by
                by_cases hD0 : D = 0
                · rw [if_pos hD0]
                · rw [if_neg hD0, pv_get, if_neg (by omega)]
              rw [hxr 0 27 (by omega)] at l4
              rw [hxr 0 31 (by omega)] at l5
              rw [hxr 0 30 (by omega)] at l6
              rw [hxr 0 40 (by omega)] at l7
              refine ⟨fun r k a b c => ?_, fun k hk => by rw [f2 26 k (by omega) (by omega), l2 k hk, hxr 26 k (by omega)], fun k hk => by rw [f2 27 k (by omega) (by omega), l3 k hk, hxr 27 k (by omega)], by rw [f2 0 27 (by omega) (by omega)]; exact l4, by rw [f2 0 31 (by omega) (by omega)]; exact l5, by rw [f2 0 30 (by omega) (by omega)]; exact l6, by rw [f2 0 40 (by omega) (by omega)]; exact l7, fun k hk => by rw [f2 28 k (by omega) (by omega), l8 k (by rw [hxr 0 40 (by omega)]; exact hk), hxr 28 k (by omega)], fun c hc' z => by rw [f2 31 c (by omega) (by omega)]; exact l9 c hc' (by rw [hxr 31 c (by omega)]; exact z)⟩
              by_cases hz : r = 25 ∧ k = D - 1 ∧ 1 ≤ D
              · rw [hz.1, hz.2.1, f5 hz.2.2, hx25 hz.2.2]
              · rw [f2 r k (by omega) hz, l1 r k a b c, hxr r k hz]
            have hVc : ru_V h0 D hc := fun k hk => by
              obtain ⟨m, pc, a, b, c⟩ := ru_V_L (Nat.le_refl D) d4 hV2 k hk
              exact ⟨m, pc, by rw [f2 21 k (by omega) (by omega)]; exact a, by rw [f2 22 k (by omega) (by omega)]; exact b, c⟩
            have hbegc : ∀ e, e < j + 1 → pv_bit (g0 2 T) e → 0 ≤ (hc 31 e).toInt := fun e he hbe => by
              rw [f2 31 e (by omega) (by omega)]
              refine d4.2.2.2.2.2.2.2.2 e (by omega) ?_
              rw [k2 31 e (by omega) (by omega), ka 31 e (by omega)]
              exact hbeg1 e he hbe
            have hsc : ∃ s, s ≤ 6 ∧ g' (85 + 2 * D) 1 = Int32.ofNat s := ⟨s, s1, by rw [hg's _ 1 (by omega) (by omega)]; exact s2⟩
            have hih := ih (j + 1) 0 4096 n g' hc (t' + 1) p (by omega) (by omega) (by omega) (by omega) c2 ⟨hmc, hGc, f4⟩ hVc f3 hLc hsc hbegc (by rw [f2 0 30 (by omega) (by omega), hBc]; omega)
            obtain ⟨o', g'', i1, i2, i3, i4⟩ := hih
            exact ⟨o', g'', i1, i2, fun r k a b => (i3 r k a b).trans (hlow2 r k a b), i4⟩
          · rw [if_neg (by rw [o1]; decide)]
            rw [show D + 1 - 1 = D by omega] at d3 d4
            exact ⟨1, g', by rw [o1], c2, hlow2, Or.inr (Or.inl ⟨rfl, hb', t', 1, d1, d2, d3, ru_L_tr hLa (ru_L_tr hLa2 d4), by omega⟩)⟩
          · rw [if_neg (by rw [o2]; decide)]
            exact ⟨2, g', by rw [o2], c2, hlow2, Or.inr (Or.inr ⟨rfl, hb', d1⟩)⟩
    · rw [if_neg hact]
      refine ih (j + 1) r nn n g h t p (by omega) (by omega) (by omega) (by omega) hgx hJ hV hF hL hs (fun e he hbe => ?_) hbd
      by_cases hej : e = j
      · have : ¬ (h 31 j).toInt < 0 := fun z => hact ⟨by rw [← hej]; exact hbe, z⟩
        rw [hej]; omega
      · exact hbeg e (by omega) hbe
