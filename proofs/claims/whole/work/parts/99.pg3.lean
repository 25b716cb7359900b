/-- behind a trigger: the instruction itself -/
theorem ru_E_trig {g0 h0 g h : qa_St} (hP : pr_P h0) (hRR : pr_R g0 h0) {arg : Int32} (P : qa_St → Int32 → Int32 → qa_Re) {D m pc p t : Nat} {f : tc_F} {x1 x2 : Int32} (hcal : D ≤ 9 → ru_cal g0 h0 arg P D) (hdeep : D = 10 → ∀ g x, P g x (Int32.ofNat 11) = some (1, qa_up g 78 12 (-5))) (hpre : ru_pre g0 h0 D pc f g h) (hZ : ru_Z h) (hm : (m : Int) < (h0 0 4).toInt) (hi : (pc : Int) < (h0 7 m).toInt) (h21 : h 21 (D - 1) = Int32.ofNat m) (h25 : h 25 (D - 1) = 0) (hV : ru_V h0 D h) (hx1 : x1 = h0 8 (20 * m + pc)) (hx2 : x2 = h0 9 (20 * m + pc)) (T : Nat) (hT : (T : Int) < (h0 0 0).toInt) (hcT : ru_c h0 x1 x2 = Int32.ofNat T) (hbd : (t : Int) + 1 + p ≤ (h 0 30).toInt + ru_B h + 1) (K : qa_St → qa_Re) (hK : ∀ (g' hb : qa_St) (t' : Nat), ru_pre g0 h0 D pc f g' hb → ru_Z hb → hb 21 (D - 1) = Int32.ofNat m → hb 25 (D - 1) = 0 → (t' : Int) + 1 + p ≤ (hb 0 30).toInt + ru_B hb + 1 → ru_V h0 D hb → ru_E g0 h0 arg D pc p f x1 x2 g' hb (K g') (ru_KK arg D x1 x2 t' hb)) {X : qa_Re} (hX : X = ((xf_Ma_trigger P g (Int32.ofNat T) (Int32.ofNat D)).bind fun z => if z.1 = 0 then K z.2 else some (z.1, z.2))) : ru_E g0 h0 arg D pc p f x1 x2 g h X (TK arg (ru_KK arg D x1 x2) t (mf_Mo_trigger h (Int32.ofNat T))) := by
  have hpre0 := hpre
  obtain ⟨hD, hpc, p1, p2, p3, p4, p5, p6, p7⟩ := hpre
  have htr := ru_trig hP hRR arg P (D := D) hD.2 hcal hdeep T hT (ru_KK arg D x1 x2) h (fun hD9 => by
    have := ru_resume hP arg (D := D) (m := m) (pc := pc) (by omega) hm hi h h21 p5 T hT (by rw [← hx1, ← hx2]; exact hcT)
    rw [← hx1, ← hx2] at this
    exact this) (fun _ => h25) (T + 1) 0 0 4096 4096 g h t p (by omega) (by omega) (by have := hP.1.2.1; omega) (by have := hP.1.2.1; omega) p1 ⟨p2, p3, hZ⟩ hV p4 (ru_L_rf D h) ⟨f.1, p6.1, p6.2.1⟩ (fun e he => by omega) hbd
  have htr : ru_TQ g0 h0 arg (ru_KK arg D x1 x2) D T p g h (TK arg (ru_KK arg D x1 x2) t (mf_Mo_trigger h (Int32.ofNat T))) (xf_Ma_trigger P g (Int32.ofNat T) (Int32.ofNat D)) := htr
  obtain ⟨o, g', c1, c2, c3, c4⟩ := htr
  rw [hX, c1, Option.bind_some]
  dsimp only
  rcases c4 with ⟨o0, hb, t', d1, d2, d3, d4, d5⟩ | ⟨o1, hb, t', v, d1, d2, d3, d4, d5⟩ | ⟨o2, hb, d1⟩
  · rw [o0, if_pos rfl, d1]
    have hE := hK g' hb t' (ru_pre_L hpre0 c2 d2 d3 d4 c3) d2.2.2 (by rw [d4.1 21 _ (by omega) (by omega) (by omega)]; exact h21) (by rw [d4.1 25 _ (by omega) (by omega) (by omega)]; exact h25) d5 (ru_V_L (Nat.le_refl D) d4 hV)
    exact ru_E_dn (fun r k a b => c3 r k a (by omega)) (ru_L_dn (by omega) d4) ⟨d4.1 21 _ (by omega) (by omega) (by omega), d4.1 22 _ (by omega) (by omega) (by omega), d4.1 24 _ (by omega) (by omega) (by omega)⟩ hE
  · rw [o1, if_neg (by decide)]
    have hD0 : ¬ D = 0 := by omega
    rw [if_neg hD0] at d4
    obtain ⟨l1, l2, l3, l4, l5, l6, l7, l8, l9⟩ := d4
    have hL : ru_L (D - 1) h hb := ⟨fun r k a b c => by rw [l1 r k a b (by omega), pv_get, if_neg (by omega)], fun k hk => by rw [l2 k (by omega), pv_nr (by decide)], fun k hk => by rw [l3 k (by omega), pv_nr (by decide)], by rw [l4, pv_nr (by decide)], by rw [l5, pv_nr (by decide)], by rw [pv_nr (by decide)] at l6; exact l6, by rw [pv_nr (by decide)] at l7; exact l7, fun k hk => by rw [l8 k (by rw [pv_nr (by decide)]; exact hk), pv_nr (by decide)], fun c hc z => l9 c hc (by rw [pv_nr (by decide)]; exact z)⟩
    refine ⟨1, g', rfl, c2, fun r k a b => c3 r k a (by omega), Or.inr (Or.inr (Or.inl ⟨rfl, hb, t', d1, d2, d3, hL, ⟨by rw [l1 21 _ (by omega) (by omega) (by omega), pv_nr (by decide)], by rw [l1 22 _ (by omega) (by omega) (by omega), pv_nr (by decide)], by rw [l1 24 _ (by omega) (by omega) (by omega), pv_nr (by decide)]⟩, fun q hq hz => ?_, d5⟩))⟩
    rw [c3 _ _ (by omega) (by omega), l2 _ (by omega), pv_nr (by decide)]
    exact ⟨(p6.2.2.2.2 q hq hz).1, ru_ty_up hL.2.2.2.2.2.2.1 hL.2.2.2.2.2.2.2.1 (p6.2.2.2.2 q hq hz).2⟩
  · rw [o2, if_neg (by decide)]
    exact ⟨2, g', rfl, c2, fun r k a b => c3 r k a (by omega), Or.inr (Or.inr (Or.inr ⟨rfl, hb, d1⟩))⟩
/-- the top values of w numbers -/
theorem ru_tks_n {h0 : qa_St} : ∀ (w : Nat) {f q : tc_F}, tc_tks h0 w f = some q → w ≤ f.1 ∧ q = (f.1 - w, f.2) := by
  intro w
  induction w with
  | zero =>
    intro f q he
    rw [tc_tks] at he
    cases he
    exact ⟨by omega, by show f = (f.1 - 0, f.2); rfl⟩
  | succ w ih =>
    intro f q he
    rw [tc_tks] at he
    obtain ⟨s, s1, s2⟩ := tc_bind he
    have hs : ¬ f.1 = 0 ∧ s.2 = (f.1 - 1, f.2) := by
      unfold tc_tk at s1
      by_cases h0' : f.1 = 0
      · rw [if_pos h0'] at s1; cases s1
      · rw [if_neg h0'] at s1
        split at s1
        · cases s1; exact ⟨h0', rfl⟩
        · cases s1
    obtain ⟨a, b⟩ := ih s2
    rw [hs.2] at a b
    refine ⟨by have : w ≤ f.1 - 1 := a; omega, ?_⟩
    rw [b]
    show (f.1 - 1 - w, f.2) = (f.1 - (w + 1), f.2)
    rw [show f.1 - 1 - w = f.1 - (w + 1) by omega]
