/-! One instruction: what the class's execute and the rest of the reference's turn come to -/
def ru_E (g0 h0 : qa_St) (arg : Int32) (D pc p : Nat) (f : tc_F) (x1 x2 : Int32) (g h : qa_St) (X R : qa_Re) : Prop := ∃ (o : Int32) (g2 : qa_St), X = some (o, g2) ∧ ru_x g0 g2 ∧ (∀ r k, 85 ≤ r → r < 85 + 2 * D → g2 r k = g r k) ∧ ((o = 0 ∧ ¬ x1 = 22 ∧ ∃ (h2 : qa_St) (t2 j : Nat) (r : tc_F), tc_ef g0 h0 x1.toInt x2 f = some r ∧ tc_sc x1.toInt x2.toInt pc (j : Int) ∧ R = RR arg t2 h2 ∧ ru_J h0 g2 h2 ∧ h2 0 32 = Int32.ofNat D ∧ ru_L (D - 1) h h2 ∧ (h2 21 (D - 1) = h 21 (D - 1) ∧ h2 24 (D - 1) = h 24 (D - 1) ∧ h2 25 (D - 1) = 0) ∧ h2 22 (D - 1) = Int32.ofNat j ∧ ru_F g0 h0 D r g2 h2 ∧ g2 (85 + 2 * D) 2 = Int32.ofNat j ∧ (t2 : Int) + p ≤ (h2 0 30).toInt + ru_B h2 + 1) ∨ (o = 0 ∧ x1 = 22 ∧ ∃ (h2 : qa_St) (t2 : Nat), R = ((mf_Mo_leave h2 (g2 78 12)).bind fun z => RR arg (t2 + 1) z.2) ∧ ru_J h0 g2 h2 ∧ h2 0 32 = Int32.ofNat D ∧ ru_L (D - 1) h h2 ∧ h2 24 (D - 1) = h 24 (D - 1) ∧ (t2 : Int) + 1 + p ≤ (h2 0 30).toInt + ru_B h2 + 1) ∨ (o = 1 ∧ ∃ (h2 : qa_St) (t2 : Nat), R = ((mf_Mo_raise h2 (g2 78 12)).bind fun z => RR arg (t2 + 1) z.2) ∧ ru_J h0 g2 h2 ∧ h2 0 32 = Int32.ofNat D ∧ ru_L (D - 1) h h2 ∧ (h2 21 (D - 1) = h 21 (D - 1) ∧ h2 22 (D - 1) = h 22 (D - 1) ∧ h2 24 (D - 1) = h 24 (D - 1)) ∧ (∀ q, q < 4 → f.2 q ≠ 8 → g2 (86 + 2 * D) q = h2 26 (4 * (D - 1) + q) ∧ ru_ty g0 h0 h2 (f.2 q) (h2 26 (4 * (D - 1) + q))) ∧ (t2 : Int) + 1 + p ≤ (h2 0 30).toInt + ru_B h2 + 1) ∨ (o = 2 ∧ ∃ hb, ru_b3 h0 g2 hb R))
theorem ru_J_e {h0 h g' h' : qa_St} {D : Nat} (hm : ru_m h0 h) (hZ : ru_Z h) (he : ru_e D h h') (hG : ru_G h0 g' h') : ru_J h0 g' h' := ⟨⟨fun r k a b => by rw [he.2.1 r k a (by omega)]; exact hm.1 r k a b, fun k hk => by rw [he.1 k (by omega) (by omega)]; exact hm.2 k hk⟩, hG, by rw [he.1 28 (by decide) (by decide)]; exact hZ.1, by rw [he.1 29 (by decide) (by decide)]; exact hZ.2⟩
theorem ru_L_e {h h' : qa_St} {D : Nat} (he : ru_e D h h') : ru_L (D - 1) h h' := by
  obtain ⟨l1, l2, l3, l4, l5, l6, l7, l8⟩ := he
  refine ⟨fun r k a b c => ?_, l5, l6, l1 27 (by decide) (by decide), l1 31 (by decide) (by decide), by rw [l1 30 (by decide) (by decide)]; exact Int.le_refl _, l7, l8, fun c _ z => by rw [(l3 c).2.2]; exact z⟩
  by_cases h21 : r = 21
  · rw [h21]; exact l2 21 k (by omega) (by omega)
  · by_cases h22 : r = 22
    · rw [h22]; exact (l4 k (by omega)).1
    · by_cases h23 : r = 23
      · rw [h23]; exact (l4 k (by omega)).2
      · by_cases h24 : r = 24
        · rw [h24]; exact (l3 k).1
        · have h25 : r = 25 := by omega
          rw [h25]; exact (l3 k).2.1
/-- from a plain instruction -/
theorem ru_E_res {g0 h0 g h : qa_St} {arg : Int32} {D pc p t : Nat} {f r : tc_F} {x1 x2 : Int32} {X M : qa_Re} (hp : ru_pre g0 h0 D pc f g h) (hZ : ru_Z h) (h25 : h 25 (D - 1) = 0) (hr : tc_ef g0 h0 x1.toInt x2 f = some r) (hbd : (t : Int) + 1 + p ≤ (h 0 30).toInt + ru_B h + 1) (h22 : ¬ x1 = 22) (hres : ru_res g0 h0 D pc x1.toInt x2.toInt r g h X M) {R : qa_Re} (hR : R = ((M.bind fun t234 => (if 0 ≤ t234.1 then (some ((0 : Int32), t234.2)) else ((mf_Mo_raise t234.2 t234.1).bind fun t247 => (some ((0 : Int32), t247.2))))).bind fun z => RR arg (t + 1) z.2)) : ru_E g0 h0 arg D pc p f x1 x2 g h X R := by
  obtain ⟨hD, hpc, p1, p2, p3, p4, p5, p6, p7⟩ := hp
  obtain ⟨g', h', a1, a2, a3, a4⟩ := hres
  have e0 : (0 : Int32).toInt = 0 := rfl
  have hx' : ru_x g0 g' := fun r k hr => by rw [a1.1 r k hr]; exact p1 r k hr
  have hB : ru_B h' = ru_B h := by
    unfold ru_B
    rw [show h' 31 = h 31 from funext fun k => (a2.2.2.1 k).2.2]
  have h30 : h' 0 30 = h 0 30 := a2.1 30 (by decide) (by decide)
  rcases a4 with ⟨b1, b2, b3, j, b4, b5, b6⟩ | ⟨x, b1, b2, b3, b4, b5, b6, b7⟩
  · refine ⟨0, g', b1, hx', a1.2, Or.inl ⟨rfl, h22, h', t + 1, j, r, hr, b4, ?_, ru_J_e p2 hZ a2 a3, by rw [a2.1 32 (by decide) (by decide)]; exact p4, ru_L_e a2, ⟨a2.2.1 21 _ (by omega) (by omega), (a2.2.2.1 _).1, by rw [(a2.2.2.1 _).2.1]; exact h25⟩, b6, b3, b5, by rw [h30, hB]; omega⟩⟩
    rw [hR, b2]
    rfl
  · refine ⟨1, g', b2, hx', a1.2, Or.inr (Or.inr (Or.inl ⟨rfl, h', t, ?_, ru_J_e p2 hZ a2 a3, by rw [a2.1 32 (by decide) (by decide)]; exact p4, ru_L_e a2, ⟨a2.2.1 21 _ (by omega) (by omega), b5, (a2.2.2.1 _).1⟩, fun q hq hz => ?_, by rw [h30, hB]; omega⟩))⟩
    · rw [hR, b4, Option.bind_some]
      dsimp only
      rw [if_neg (by rw [pv_le, e0]; omega), b3]
      cases mf_Mo_raise h' x with
      | none => rfl
      | some z => rfl
    · rw [b6, b7]
      exact ⟨(p6.2.2.2.2 q hq hz).1, ru_ty_up a2.2.2.2.2.2.2.1 a2.2.2.2.2.2.2.2 (p6.2.2.2.2 q hq hz).2⟩
/-- the rest of a turn, of an instruction that is neither call nor end -/
theorem ru_KK_plain (arg : Int32) (D t : Nat) (h : qa_St) (x1 x2 : Int32) (h16 : ¬ x1 = 16) (h17 : ¬ x1 = 17) (h22 : ¬ x1 = 22) (h21 : ¬ x1 = 21) : ru_KK arg D x1 x2 t h = (((mf_Mo_plain h (Int32.ofNat (D - 1)) x1 x2).bind fun t234 => (if 0 ≤ t234.1 then (some ((0 : Int32), t234.2)) else ((mf_Mo_raise t234.2 t234.1).bind fun t247 => (some ((0 : Int32), t247.2))))).bind fun z => RR arg (t + 1) z.2) := by
  unfold ru_KK mf_Mo_instruct_151 mf_Mo_instruct_156
  rw [if_neg (by decide), if_neg h16, if_neg h17, if_neg h22, if_neg h21]
/-- the frame after deeper frames have come and gone -/
theorem ru_pre_L {g0 h0 g h g' h' : qa_St} {D pc : Nat} {f : tc_F} (hp : ru_pre g0 h0 D pc f g h) (hx : ru_x g0 g') (hJ : ru_J h0 g' h') (hF : h' 0 32 = Int32.ofNat D) (hL : ru_L D h h') (hg : ∀ r k, 85 ≤ r → r < 87 + 2 * D → g' r k = g r k) : ru_pre g0 h0 D pc f g' h' := by
  obtain ⟨hD, hpc, p1, p2, p3, p4, p5, p6, p7⟩ := hp
  obtain ⟨l1, l2, l3, l4, l5, l6, l7, l8, l9⟩ := hL
  obtain ⟨a1, a2, a3, a4, a5⟩ := p6
  refine ⟨hD, hpc, hx, hJ.1, hJ.2.1, hF, by rw [l1 22 _ (by omega) (by omega) (by omega)]; exact p5, ⟨a1, by rw [hg _ 1 (by omega) (by omega)]; exact a2, by rw [l1 23 _ (by omega) (by omega) (by omega)]; exact a3, fun k hk => ?_, fun q hq hz => ?_⟩, by rw [hg _ 2 (by omega) (by omega)]; exact p7⟩
  · rw [hg _ _ (by omega) (by omega), l3 _ (by omega)]
    exact ⟨(a4 k hk).1, ru_ty_up l7 l8 (a4 k hk).2⟩
  · rw [hg _ _ (by omega) (by omega), l2 _ (by omega)]
    exact ⟨(a5 q hq hz).1, ru_ty_up l7 l8 (a5 q hq hz).2⟩
theorem ru_E_dn {g0 h0 g h g1 h1 : qa_St} {arg : Int32} {D pc p : Nat} {f : tc_F} {x1 x2 : Int32} {X R : qa_Re} (hg : ∀ r k, 85 ≤ r → r < 85 + 2 * D → g1 r k = g r k) (hL : ru_L (D - 1) h h1) (ho : h1 21 (D - 1) = h 21 (D - 1) ∧ h1 22 (D - 1) = h 22 (D - 1) ∧ h1 24 (D - 1) = h 24 (D - 1)) (hE : ru_E g0 h0 arg D pc p f x1 x2 g1 h1 X R) : ru_E g0 h0 arg D pc p f x1 x2 g h X R := by
  obtain ⟨o, g2, e1, e2, e3, e4⟩ := hE
  refine ⟨o, g2, e1, e2, fun r k a b => (e3 r k a b).trans (hg r k a b), ?_⟩
  rcases e4 with ⟨o0, z, h2, t2, j, r, a1, a2, a3, a4, a5, a6, a7, a8⟩ | ⟨o0, z, h2, t2, a1, a2, a3, a4, a5, a6⟩ | ⟨o1, h2, t2, a1, a2, a3, a4, a5, a6⟩ | y
  · exact Or.inl ⟨o0, z, h2, t2, j, r, a1, a2, a3, a4, a5, ru_L_tr hL a6, ⟨a7.1.trans ho.1, a7.2.1.trans ho.2.2, a7.2.2⟩, a8⟩
  · exact Or.inr (Or.inl ⟨o0, z, h2, t2, a1, a2, a3, ru_L_tr hL a4, a5.trans ho.2.2, a6⟩)
  · exact Or.inr (Or.inr (Or.inl ⟨o1, h2, t2, a1, a2, a3, ru_L_tr hL a4, ⟨a5.1.trans ho.1, a5.2.1.trans ho.2.1, a5.2.2.trans ho.2.2⟩, a6⟩))
  · exact Or.inr (Or.inr (Or.inr y))
