theorem ms_tg12 {g h0 h : qa_St} (hP : pr_P h0) (hRR : pr_R g h0) (he : me h0 h) (R : Nat) (hR : R < 200) (q : Nat) (hq : q < 10) (x4 : Int32) (h4 : tc_cl h0 x4) (ha : 0 ≤ (h0 9 R).toInt ∧ (h0 9 R).toInt < 4) : ∀ (d c n : Nat) (x3 : Int32), (c : Int) + d = (h0 0 0).toInt → d < n → (x3 = 0 ∨ x3 = 1) → ∃ v, mf_Mo_target_12 n h (Int32.ofNat R) (Int32.ofNat q) x3 x4 (Int32.ofNat c) = some (v, h) ∧ (v = 0 ∨ v = 1) ∧ (v = 1 ↔ (x3 = 1 ∨ ∃ e : Nat, c ≤ e ∧ (e : Int) < (h0 0 0).toInt ∧ h 20 e ≠ 0 ∧ pv_bit (g 2 e) x4.toInt.toNat ∧ (pr_an g h0 (h0 9 R).toInt.toNat 7 e).toInt = (q : Int))) := by
  have hpm := me_pm he
  have hPm := pm_P hpm hP
  have hRm := pm_R hpm hRR
  have hN := hP.1
  obtain ⟨n0, n1, n2, n3⟩ := hN
  have e0 : (0 : Int32).toInt = 0 := rfl
  have eR : (Int32.ofNat R).toInt = (R : Int) := pv_nI (by omega)
  have eRn : (Int32.ofNat R).toNatClampNeg = R := by rw [pv_cl]; omega
  have hRb : ¬ (Int32.ofNat R < 0 ∨ 200 ≤ (Int32.ofNat R).toNatClampNeg) := by rw [eRn, pv_lt, eR, e0]; omega
  have eq : (Int32.ofNat q).toInt = (q : Int) := pv_nI (by omega)
  have h41 := h4.1
  have h42 := h4.2
  intro d
  induction d with
  | zero =>
    intro c n x3 hc hn hx
    obtain ⟨n, rfl⟩ : ∃ z, n = z + 1 := ⟨n - 1, by omega⟩
    have ec : (Int32.ofNat c).toInt = (c : Int) := pv_nI (by omega)
    refine ⟨x3, ?_, hx, ⟨Or.inl, fun z => z.elim id (fun ⟨e, e1, e2, _⟩ => by omega)⟩⟩
    rw [mf_Mo_target_12, if_pos (by rw [pv_le, hpm.2.1, ec]; omega), if_pos hx]
  | succ d ih =>
    intro c n x3 hc hn hx
    obtain ⟨n, rfl⟩ : ∃ z, n = z + 1 := ⟨n - 1, by omega⟩
    have ec : (Int32.ofNat c).toInt = (c : Int) := pv_nI (by omega)
    have ecn : (Int32.ofNat c).toNatClampNeg = c := by rw [pv_cl]; omega
    have ecn' : (Int32.ofNat c).toInt.toNat = c := by omega
    have hcb : ¬ (Int32.ofNat c < 0 ∨ 6 ≤ (Int32.ofNat c).toNatClampNeg) := by rw [ecn, pv_lt, ec, e0]; omega
    obtain ⟨s0, s1, s2, s3⟩ : ∃ s0 : Int32, (s0 = 0 ∨ s0 = 1) ∧ (s0 = 1 ↔ (x3 = 1 ∨ (h 20 c ≠ 0 ∧ pv_bit (g 2 c) x4.toInt.toNat ∧ (pr_an g h0 (h0 9 R).toInt.toNat 7 c).toInt = (q : Int)))) ∧ mf_Mo_target_12 (n + 1) h (Int32.ofNat R) (Int32.ofNat q) x3 x4 (Int32.ofNat c) = mf_Mo_target_12 n h (Int32.ofNat R) (Int32.ofNat q) s0 x4 (Int32.ofNat (c + 1)) := by
      rw [mf_Mo_target_12, if_neg (by rw [pv_le, hpm.2.1, ec]; omega)]
      unfold mf_Mo_target_66 mf_Mo_target_62 mf_Mo_target_67
      rw [pv_n1, if_neg hcb, ecn]
      rcases hx with hx | hx
      · rw [if_pos hx]
        have hx1 : ¬ x3 = 1 := by rw [hx]; decide
        by_cases h1 : h 20 c = 0
        · rw [if_pos h1]
          exact ⟨0, Or.inl rfl, ⟨fun z => absurd z (by decide), fun z => z.elim (fun y => absurd y hx1) (fun y => absurd h1 y.1)⟩, rfl⟩
        · rw [if_neg h1, ms_isOf hPm.1 hPm.2.1 hRm.2.1 _ _ (by rw [hpm.2.1]; omega) (by omega), ecn']
          simp only [Option.bind_some, pv_b1]
          by_cases h2 : pv_bit (g 2 c) x4.toInt.toNat
          · have han := ms_answer hPm.1 hPm.2.1 hPm.2.2.2.1 hRm.2.2.1 (Int32.ofNat c) (h0 9 R)
            rw [hpm.2.1, ecn', if_pos ⟨by omega, by omega, by omega⟩, pm_an hpm] at han
            rw [if_neg (fun z => z h2), if_neg hRb, eRn, hpm.1 9 R (by omega) (by omega), han]
            simp only [Option.bind_some]
            by_cases h3 : (pr_an g h0 (h0 9 R).toInt.toNat 7 c).toInt = (q : Int)
            · rw [if_pos (by rw [pv_eq, eq]; exact h3)]
              exact ⟨1, Or.inr rfl, ⟨fun _ => Or.inr ⟨h1, h2, h3⟩, fun _ => rfl⟩, rfl⟩
            · rw [if_neg (by rw [pv_eq, eq]; exact h3)]
              exact ⟨0, Or.inl rfl, ⟨fun z => absurd z (by decide), fun z => z.elim (fun y => absurd y hx1) (fun y => absurd y.2.2 h3)⟩, rfl⟩
          · rw [if_pos h2]
            exact ⟨0, Or.inl rfl, ⟨fun z => absurd z (by decide), fun z => z.elim (fun y => absurd y hx1) (fun y => absurd y.2.1 h2)⟩, rfl⟩
      · rw [if_neg (by rw [hx]; decide)]
        exact ⟨1, Or.inr rfl, ⟨fun _ => Or.inl hx, fun _ => rfl⟩, rfl⟩
    rw [s3]
    obtain ⟨v, a1, a2, a3⟩ := ih (c + 1) n s0 (by omega) (by omega) s1
    refine ⟨v, a1, a2, ?_⟩
    rw [a3, s2]
    constructor
    · rintro ((z | z) | ⟨e, e1, e2⟩)
      · exact Or.inl z
      · exact Or.inr ⟨c, by omega, by omega, z⟩
      · exact Or.inr ⟨e, by omega, e2⟩
    · rintro (z | ⟨e, e1, e2, e3⟩)
      · exact Or.inl (Or.inl z)
      · by_cases hec : e = c
        · rw [hec] at e3
          exact Or.inl (Or.inr e3)
        · exact Or.inr ⟨e, by omega, e2, e3⟩
theorem ms_target {g h0 h : qa_St} (hP : pr_P h0) (hRR : pr_R g h0) (he : me h0 h) (hall : ∀ m : Nat, (m : Int) < (h0 0 4).toInt → pc_m g h0 m) {m i : Nat} (hm : (m : Int) < (h0 0 4).toInt) (hi : (i : Int) < (h0 7 m).toInt) (hz : h0 14 (20 * m + i) ≠ 0) (ho : (h0 8 (20 * m + i)).toInt = 17) (q : Nat) (hq : q < 10) : ∃ v, mf_Mo_target h (Int32.ofNat (20 * m + i)) (Int32.ofNat q) = some (v, h) ∧ (v = 0 ∨ v = 1) ∧ (v = 1 ↔ rc_G g h0 (mKs h) m i q) := by
  have hP0 := hP
  obtain ⟨hN, hC, hM, hU, hK, hG⟩ := hP
  obtain ⟨n0, n1, n2, n3⟩ := hN
  have qm := hM m hm
  have qk := hK m i hm hi
  obtain ⟨s1, s2, s3, s4, s5, s6⟩ := rc_send (hall m hm) (by omega) hz ho
  have hpm := me_pm he
  have e0 : (0 : Int32).toInt = 0 := rfl
  have e2 : (2 : Int32).toInt = 2 := rfl
  have e10 : (10 : Int32).toInt = 10 := rfl
  have eR : (Int32.ofNat (20 * m + i)).toInt = ((20 * m + i : Nat) : Int) := pv_nI (by omega)
  have eRn : (Int32.ofNat (20 * m + i)).toNatClampNeg = 20 * m + i := by rw [pv_cl]; omega
  have hRb : ¬ (Int32.ofNat (20 * m + i) < 0 ∨ 200 ≤ (Int32.ofNat (20 * m + i)).toNatClampNeg) := by rw [eRn, pv_lt, eR, e0]; omega
  have h15 : h 15 (20 * m + i) = h0 15 (20 * m + i) := he 15 _ (by decide) (by decide) (by decide) (by omega)
  have hx : ((10 : Int32) * Int32.ofNat (20 * m + i)).toInt = 10 * ((20 * m + i : Nat) : Int) := by rw [pv_mul (by rw [eR, e10]; omega) (by rw [eR, e10]; omega), eR, e10]
  have hx4 : ((10 : Int32) * Int32.ofNat (20 * m + i) + 2).toInt = 10 * ((20 * m + i : Nat) : Int) + 2 := by rw [pv_add (by rw [hx, e2]; omega) (by rw [hx, e2]; omega), hx, e2]
  have hx5 : ((10 : Int32) * Int32.ofNat (20 * m + i) + 2 + h0 15 (20 * m + i)).toInt = 10 * ((20 * m + i : Nat) : Int) + 2 + (h0 15 (20 * m + i)).toInt := by rw [pv_add (by rw [hx4]; omega) (by rw [hx4]; omega), hx4]
  have hx5n : ((10 : Int32) * Int32.ofNat (20 * m + i) + 2 + h0 15 (20 * m + i)).toNatClampNeg = 10 * (20 * m + i) + 2 + (h0 15 (20 * m + i)).toInt.toNat := by rw [pv_cl, hx5]; omega
  obtain ⟨x3, hx3⟩ : ∃ x3, x3 = h0 16 (10 * (20 * m + i) + 2 + (h0 15 (20 * m + i)).toInt.toNat) := ⟨_, rfl⟩
  have hrec : mf_Mo_receiver h (Int32.ofNat (20 * m + i)) = some (x3, h) := by
    unfold mf_Mo_receiver
    rw [if_neg hRb, eRn, h15, if_neg (by rw [hx5n, pv_lt, hx5, e0]; omega), hx5n, he 16 _ (by decide) (by decide) (by decide) (by omega), hx3]
  have h2' := qk.2.2.2.1 (by rw [ho]; omega)
  obtain ⟨v, a1, a2, a3⟩ := ms_tg12 hP0 hRR he (20 * m + i) (by omega) q hq x3 (by rw [hx3]; exact s5) (by omega) (h0 0 0).toInt.toNat 0 4096 0 (by omega) (by omega) (Or.inl rfl)
  refine ⟨v, ?_, a2, ?_⟩
  · unfold mf_Mo_target
    rw [hrec, Option.bind_some]
    exact a1
  · rw [a3]
    unfold rc_G rc_v
    rw [← hx3]
    constructor
    · rintro (z | ⟨e, e1, e2, e3, e4⟩)
      · exact absurd z (by decide)
      · exact ⟨e, e2, ⟨by omega, e3⟩, e4⟩
    · rintro ⟨e, e2, e3, e4⟩
      exact Or.inr ⟨e, by omega, e2, e3.2, e4⟩
theorem ms_reach99 {g h0 hb0 : qa_St} (hP : pr_P h0) (hRR : pr_R g h0) (hall : ∀ m : Nat, (m : Int) < (h0 0 4).toInt → pc_m g h0 m) {m i : Nat} (hm : (m : Int) < (h0 0 4).toInt) (hi : (i : Int) < (h0 7 m).toInt) (hz : h0 14 (20 * m + i) ≠ 0) (ho : (h0 8 (20 * m + i)).toInt = 17) : ∀ (d q n : Nat) (h : qa_St), (q : Int) + d = (h0 0 4).toInt → d < n → mS h0 (fun k => k < q ∧ rc_G g h0 (mKs hb0) m i k) (fun _ => False) hb0 h → ∃ h', mf_Mo_reach_99 n h (Int32.ofNat (20 * m + i)) 17 (Int32.ofNat q) = some (0, h') ∧ mS h0 (fun k => rc_G g h0 (mKs hb0) m i k) (fun _ => False) hb0 h' := by
  have hn := hP.1
  obtain ⟨n0, n1, n2, n3⟩ := hn
  intro d
  induction d with
  | zero =>
    intro q n h hq hn hS
    obtain ⟨n, rfl⟩ : ∃ z, n = z + 1 := ⟨n - 1, by omega⟩
    have eq : (Int32.ofNat q).toInt = (q : Int) := pv_nI (by omega)
    refine ⟨h, ?_, mS_cg hS (fun k => ⟨fun z => z.2, fun z => ⟨?_, z⟩⟩) (fun k => Iff.rfl)⟩
    · rw [mf_Mo_reach_99, if_pos rfl, if_pos (by rw [pv_le, (me_pm hS.1).2.2, eq]; omega)]
    · have := rc_G_bd hP hRR hm hi ho z
      omega
  | succ d ih =>
    intro q n h hq hn hS
    obtain ⟨n, rfl⟩ : ∃ z, n = z + 1 := ⟨n - 1, by omega⟩
    have eq : (Int32.ofNat q).toInt = (q : Int) := pv_nI (by omega)
    have eqn : (Int32.ofNat q).toInt.toNat = q := by omega
    obtain ⟨v, a1, a2, a3⟩ := ms_target hP hRR hS.1 hall hm hi hz ho q (by omega)
    have hGe : ∀ k, rc_G g h0 (mKs h) m i k ↔ rc_G g h0 (mKs hb0) m i k := fun k => by
      have : mKs h = mKs hb0 := funext fun c => propext ((hS.2.2.2.2 c).trans ⟨fun z => z.elim id (fun y => y.elim), Or.inl⟩)
      rw [this]
    rw [mf_Mo_reach_99, if_pos rfl, if_neg (by rw [pv_le, (me_pm hS.1).2.2, eq]; omega), a1]
    simp only [Option.bind_some]
    unfold mf_Mo_reach_130
    rw [pv_n1]
    by_cases hv : v = 0
    · rw [if_pos hv]
      refine ih (q + 1) n h (by omega) (by omega) (mS_cg hS (fun k => ?_) (fun k => Iff.rfl))
      constructor
      · intro z; exact ⟨by omega, z.2⟩
      · intro z
        refine ⟨?_, z.2⟩
        by_cases hkq : k = q
        · rw [hkq] at z
          have := a3.mpr ((hGe q).mpr z.2)
          rw [hv] at this
          exact absurd this (by decide)
        · have := z.1
          omega
    · rw [if_neg hv]
      have hv1 : v = 1 := a2.elim (fun z => absurd z hv) id
      obtain ⟨h1, b1, b2⟩ := ms_enliven hS.1 hS.2.1 (Int32.ofNat q) (by omega)
      rw [b1]
      simp only [Option.bind_some]
      rw [eqn] at b2
      refine ih (q + 1) n h1 (by omega) (by omega) (mS_cg (mS_tr hS b2) (fun k => ?_) (fun k => ⟨fun z => z.elim id id, fun z => z.elim⟩))
      constructor
      · rintro (z | z)
        · exact ⟨by omega, z.2⟩
        · rw [z]; exact ⟨by omega, (hGe q).mp (a3.mp hv1)⟩
      · intro z
        by_cases hkq : k = q
        · exact Or.inr hkq
        · have := z.1
          exact Or.inl ⟨by omega, z.2⟩
/-- following an instruction, in the reference -/
theorem ms_reach {g h0 h : qa_St} (hP : pr_P h0) (hRR : pr_R g h0) (he : me h0 h) (hb : mb h) (hall : ∀ m : Nat, (m : Int) < (h0 0 4).toInt → pc_m g h0 m) {m i : Nat} (hm : (m : Int) < (h0 0 4).toInt) (hi : (i : Int) < (h0 7 m).toInt) (hz : h0 14 (20 * m + i) ≠ 0) : ∃ h', mf_Mo_reach h (Int32.ofNat (20 * m + i)) = some (0, h') ∧ me h0 h' ∧ mb h' ∧ mD h h' ∧ (∀ L K : Nat → Prop, (∀ k, mLs h k → L k) → (∀ k, mKs h k → K k) → rc_f g h0 L K m i → (∀ k, mLs h' k → L k) ∧ (∀ k, mKs h' k → K k)) ∧ (h' 0 22 = 0 → rc_f g h0 (mLs h) (mKs h) m i) := by
  have hP0 := hP
  obtain ⟨hN, hC, hM, hU, hK, hG⟩ := hP
  obtain ⟨n0, n1, n2, n3⟩ := hN
  have qm := hM m hm
  have qk := hK m i hm hi
  have hpm := me_pm he
  have e0 : (0 : Int32).toInt = 0 := rfl
  have eR : (Int32.ofNat (20 * m + i)).toInt = ((20 * m + i : Nat) : Int) := pv_nI (by omega)
  have eRn : (Int32.ofNat (20 * m + i)).toNatClampNeg = 20 * m + i := by rw [pv_cl]; omega
  have hRb : ¬ (Int32.ofNat (20 * m + i) < 0 ∨ 200 ≤ (Int32.ofNat (20 * m + i)).toNatClampNeg) := by rw [eRn, pv_lt, eR, e0]; omega
  obtain ⟨x1, hx1⟩ : ∃ x, x = h0 8 (20 * m + i) := ⟨_, rfl⟩
  obtain ⟨x2, hx2⟩ : ∃ x, x = h0 9 (20 * m + i) := ⟨_, rfl⟩
  have h8 : h 8 (20 * m + i) = x1 := by rw [hpm.1 8 _ (by omega) (by omega), hx1]
  have h9 : h 9 (20 * m + i) = x2 := by rw [hpm.1 9 _ (by omega) (by omega), hx2]
  have v : ∀ n : Nat, n < 30 → (x1 = Int32.ofNat n ↔ x1.toInt = (n : Int)) := fun n hn => by rw [pv_eq, pv_nI (by omega)]
  have v11 := v 11 (by omega)
  have v14 := v 14 (by omega)
  have v15 := v 15 (by omega)
  have v16 := v 16 (by omega)
  have v17 := v 17 (by omega)
  -- what it adds
  have hall17 := fun (hb0 : qa_St) (z : x1.toInt = 17) => ms_reach99 (hb0 := hb0) hP0 hRR hall hm hi hz (by rw [← hx1]; exact z)
  have hft := qk.2.2
  rw [← hx1, ← hx2] at hft
  obtain ⟨t1, t2, t3, t4, t5⟩ := hft
  have hrf : ∀ hh : qa_St, me h0 hh → mb hh → mS h0 (fun _ => False) (fun _ => False) hh hh := fun hh h1 h2 => ⟨h1, h2, mD_rf hh, fun k => ⟨Or.inl, fun z => z.elim id (fun y => y.elim)⟩, fun k => ⟨Or.inl, fun z => z.elim id (fun y => y.elim)⟩⟩
  -- the last part, for any op
  have h96 : ∀ hh : qa_St, me h0 hh → mb hh → ∃ h', mf_Mo_reach_96 hh (Int32.ofNat (20 * m + i)) x1 = some (0, h') ∧ mS h0 (fun k => x1.toInt = 17 ∧ rc_G g h0 (mKs hh) m i k) (fun _ => False) hh h' := fun hh h1 h2 => by
    unfold mf_Mo_reach_96
    by_cases h17 : x1 = 17
    · have hv := v17.mp h17
      obtain ⟨h', a1, a2⟩ := hall17 hh hv (h0 0 4).toInt.toNat 0 4096 hh (by omega) (by omega) (mS_cg (hrf hh h1 h2) (fun k => ⟨fun z => z.elim, fun z => by omega⟩) (fun k => Iff.rfl))
      refine ⟨h', ?_, mS_cg a2 (fun k => ⟨fun z => ⟨hv, z⟩, fun z => z.2⟩) (fun k => Iff.rfl)⟩
      rw [h17]
      exact a1
    · refine ⟨hh, Eq.trans (mf_Mo_reach_99.eq_2 hh (Int32.ofNat (20 * m + i)) x1 0 4095) (if_neg h17), mS_cg (hrf hh h1 h2) (fun k => ⟨fun z => z.elim, fun z => absurd (v17.mpr z.1) h17⟩) (fun k => Iff.rfl)⟩
  have h75 : ∀ hh : qa_St, me h0 hh → mb hh → ∃ h', mf_Mo_reach_75 hh (Int32.ofNat (20 * m + i)) x1 x2 = some (0, h') ∧ mS h0 (fun k => (x1.toInt = 16 ∧ (k = x2.toInt.toNat ∨ rc_T g h0 (h0 4 x2.toInt.toNat).toInt.toNat k)) ∨ (x1.toInt = 17 ∧ rc_G g h0 (mKs hh) m i k)) (fun _ => False) hh h' := fun hh h1 h2 => by
    unfold mf_Mo_reach_75
    by_cases h16 : x1 = 16
    · have hv := v16.mp h16
      have ht5 := t5 hv
      have qa := hM x2.toInt.toNat (by omega)
      rw [if_pos h16]
      obtain ⟨ha, a1, a2⟩ := ms_enliven h1 h2 x2 (by omega)
      rw [a1]
      simp only [Option.bind_some]
      rw [if_neg (by rw [pv_lt, pv_cl, e0]; omega), pv_cl, (me_pm a2.1).1 4 _ (by omega) (by omega)]
      obtain ⟨hc, c1, c2⟩ := ms_touch hP0 hRR a2.1 a2.2.1 (h0 4 x2.toInt.toNat) (by omega)
      rw [c1]
      simp only [Option.bind_some]
      obtain ⟨h', d1, d2⟩ := h96 hc c2.1 c2.2.1
      refine ⟨h', d1, mS_cg (mS_tr (mS_tr a2 c2) d2) (fun k => ?_) (fun k => ⟨fun z => z.elim (fun y => y.elim id id) id, fun z => z.elim⟩)⟩
      constructor
      · rintro ((z | z) | z)
        · exact Or.inl ⟨hv, Or.inl z⟩
        · exact Or.inl ⟨hv, Or.inr z⟩
        · omega
      · rintro (⟨-, z | z⟩ | z)
        · exact Or.inl (Or.inl z)
        · exact Or.inl (Or.inr z)
        · omega
    · rw [if_neg h16]
      obtain ⟨h', d1, d2⟩ := h96 hh h1 h2
      exact ⟨h', d1, mS_cg d2 (fun k => ⟨Or.inr, fun z => z.elim (fun y => absurd (v16.mpr y.1) h16) id⟩) (fun k => Iff.rfl)⟩
  have h52 : ∀ hh : qa_St, me h0 hh → mb hh → ∃ h', mf_Mo_reach_52 hh (Int32.ofNat (20 * m + i)) x1 x2 = some (0, h') ∧ mS h0 (fun k => ((x1.toInt = 11 ∨ x1.toInt = 14 ∨ x1.toInt = 15) ∧ rc_T g h0 x2.toInt.toNat k) ∨ (x1.toInt = 16 ∧ (k = x2.toInt.toNat ∨ rc_T g h0 (h0 4 x2.toInt.toNat).toInt.toNat k)) ∨ (x1.toInt = 17 ∧ rc_G g h0 (mKs hh) m i k)) (fun _ => False) hh h' := fun hh h1 h2 => by
    have h70 : (x1.toInt = 11 ∨ x1.toInt = 14 ∨ x1.toInt = 15) → ∃ h', mf_Mo_reach_70 hh (Int32.ofNat (20 * m + i)) x1 x2 = some (0, h') ∧ mS h0 (fun k => ((x1.toInt = 11 ∨ x1.toInt = 14 ∨ x1.toInt = 15) ∧ rc_T g h0 x2.toInt.toNat k) ∨ (x1.toInt = 16 ∧ (k = x2.toInt.toNat ∨ rc_T g h0 (h0 4 x2.toInt.toNat).toInt.toNat k)) ∨ (x1.toInt = 17 ∧ rc_G g h0 (mKs hh) m i k)) (fun _ => False) hh h' := fun hv => by
      unfold mf_Mo_reach_70
      obtain ⟨ha, a1, a2⟩ := ms_touch hP0 hRR h1 h2 x2 (t1 (by omega))
      rw [a1]
      simp only [Option.bind_some]
      obtain ⟨h', d1, d2⟩ := h75 ha a2.1 a2.2.1
      refine ⟨h', d1, mS_cg (mS_tr a2 d2) (fun k => ?_) (fun k => ⟨fun z => z.elim id id, fun z => z.elim⟩)⟩
      constructor
      · rintro (z | z | z)
        · exact Or.inl ⟨hv, z⟩
        · omega
        · omega
      · rintro (z | z | z)
        · exact Or.inl z.2
        · omega
        · omega
    unfold mf_Mo_reach_52
    by_cases h11 : x1 = 11
    · rw [if_pos h11]; exact h70 (Or.inl (v11.mp h11))
    · rw [if_neg h11]
      by_cases h14 : x1 = 14
      · rw [if_pos h14]; exact h70 (Or.inr (Or.inl (v14.mp h14)))
      · rw [if_neg h14]
        by_cases h15 : x1 = 15
        · rw [if_pos h15]; exact h70 (Or.inr (Or.inr (v15.mp h15)))
        · rw [if_neg h15]
          obtain ⟨h', d1, d2⟩ := h75 hh h1 h2
          exact ⟨h', d1, mS_cg d2 (fun k => ⟨Or.inr, fun z => z.elim (fun y => y.1.elim (fun w => absurd (v11.mpr w) h11) (fun w => w.elim (fun u => absurd (v14.mpr u) h14) (fun u => absurd (v15.mpr u) h15))) id⟩) (fun k => Iff.rfl)⟩
  have hfin : ∃ h', mf_Mo_reach h (Int32.ofNat (20 * m + i)) = some (0, h') ∧ mS h0 (fun k => ((x1.toInt = 11 ∨ x1.toInt = 14 ∨ x1.toInt = 15) ∧ rc_T g h0 x2.toInt.toNat k) ∨ (x1.toInt = 16 ∧ (k = x2.toInt.toNat ∨ rc_T g h0 (h0 4 x2.toInt.toNat).toInt.toNat k)) ∨ (x1.toInt = 17 ∧ rc_G g h0 (mKs h) m i k)) (fun k => x1.toInt = 11 ∧ k = x2.toInt.toNat) h h' := by
    unfold mf_Mo_reach
    rw [if_neg hRb, if_neg hRb, eRn, h8, h9]
    by_cases h11 : x1 = 11
    · have hv := v11.mp h11
      have hcl := t1 (by omega)
      have hxb : ¬ (x2 < 0 ∨ 6 ≤ x2.toNatClampNeg) := by rw [pv_lt, pv_cl, e0]; omega
      obtain ⟨s0, s1, s2, s3⟩ : ∃ s0 : Int32, (s0 = 0 ∨ s0 = 1) ∧ (s0 = 0 ↔ (h 0 22 = 0 ∧ h 20 x2.toInt.toNat ≠ 0)) ∧ (if x1 = (11 : Int32) then (if (h 0 22) = 0 then (if x2 < 0 ∨ 6 ≤ x2.toNatClampNeg then none else (if (h 20 x2.toNatClampNeg) = 0 then (mf_Mo_reach_37 h (Int32.ofNat (20 * m + i)) x1 x2) else (mf_Mo_reach_42 h (Int32.ofNat (20 * m + i)) x1 x2 (0 : Int32)))) else (mf_Mo_reach_37 h (Int32.ofNat (20 * m + i)) x1 x2)) else (mf_Mo_reach_52 h (Int32.ofNat (20 * m + i)) x1 x2)) = mf_Mo_reach_52 (qa_up (qa_up h 0 22 s0) 20 x2.toInt.toNat 1) (Int32.ofNat (20 * m + i)) x1 x2 := by
        unfold mf_Mo_reach_37 mf_Mo_reach_42
        rw [if_pos h11, if_pos (Or.inr rfl), if_pos (Or.inl rfl), if_neg hxb, if_neg hxb, if_neg hxb, pv_cl]
        by_cases g1 : h 0 22 = 0
        · rw [if_pos g1]
          by_cases g2 : h 20 x2.toInt.toNat = 0
          · rw [if_pos g2]
            exact ⟨1, Or.inr rfl, ⟨fun z => absurd z (by decide), fun z => absurd g2 z.2⟩, rfl⟩
          · rw [if_neg g2]
            exact ⟨0, Or.inl rfl, ⟨fun _ => ⟨g1, g2⟩, fun _ => rfl⟩, rfl⟩
        · rw [if_neg g1]
          exact ⟨1, Or.inr rfl, ⟨fun z => absurd z (by decide), fun z => absurd z.1 g1⟩, rfl⟩
      rw [s3]
      have hS1 : mS h0 (fun _ => False) (fun k => k = x2.toInt.toNat) h (qa_up (qa_up h 0 22 s0) 20 x2.toInt.toNat 1) := by
        refine ⟨fun r k a b c d => by rw [pv_nr c, pv_get, if_neg d]; exact he r k a b c d, mb_set (by decide) hb s1, mD_set (Or.inr (Or.inr ⟨rfl, by omega⟩)) s2, fun k => ?_, fun k => ?_⟩
        · unfold mLs
          rw [pv_nr (by decide), pv_nr (by decide)]
          exact ⟨Or.inl, fun z => z.elim id (fun y => y.elim)⟩
        · unfold mKs
          rw [pv_get, pv_nr (show (20 : Nat) ≠ 0 by decide)]
          by_cases hk : k = x2.toInt.toNat
          · rw [if_pos ⟨rfl, hk⟩]
            exact ⟨fun _ => Or.inr hk, fun _ => ⟨by omega, by decide⟩⟩
          · rw [if_neg (fun z => hk z.2)]
            exact ⟨Or.inl, fun z => z.elim id (fun y => absurd y hk)⟩
      obtain ⟨h', d1, d2⟩ := h52 _ hS1.1 hS1.2.1
      refine ⟨h', d1, mS_cg (mS_tr hS1 d2) (fun k => ?_) (fun k => ⟨fun z => z.elim (fun y => ⟨hv, y⟩) (fun y => y.elim), fun z => Or.inl z.2⟩)⟩
      constructor
      · rintro (z | z | z | z)
        · exact z.elim
        · exact Or.inl z
        · omega
        · omega
      · rintro (z | z | z)
        · exact Or.inr (Or.inl z)
        · omega
        · omega
    · rw [if_neg h11]
      obtain ⟨h', d1, d2⟩ := h52 h he hb
      exact ⟨h', d1, mS_cg d2 (fun k => Iff.rfl) (fun k => ⟨fun z => z.elim, fun z => absurd (v11.mpr z.1) h11⟩)⟩
  obtain ⟨h', a1, a2, a3, a4, a5, a6⟩ := hfin
  refine ⟨h', a1, a2, a3, a4, fun L K hL hKK hr => ?_, fun hz22 => ?_⟩
  · unfold rc_f at hr
    rw [← hx1, ← hx2] at hr
    refine ⟨fun k z => ?_, fun k z => ?_⟩
    · rcases (a5 k).mp z with y | ⟨y1, y2⟩ | ⟨y1, y2 | y2⟩ | ⟨y1, y2⟩
      · exact hL k y
      · exact hr.2.1 y1 k y2
      · rw [y2]; exact (hr.2.2.1 y1).1
      · exact (hr.2.2.1 y1).2 k y2
      · refine hr.2.2.2 y1 k ?_
        obtain ⟨c, c1, c2, c3⟩ := y2
        exact ⟨c, c1, hKK c c2, c3⟩
    · rcases (a6 k).mp z with y | ⟨y1, y2⟩
      · exact hKK k y
      · rw [y2]; exact hr.1 y1
  · obtain ⟨-, w2, w3⟩ := a4.2.2.2.1 hz22
    unfold rc_f
    rw [← hx1, ← hx2]
    exact ⟨fun z => w3 _ ((a6 _).mpr (Or.inr ⟨z, rfl⟩)), fun z k hk => w2 k ((a5 k).mpr (Or.inr (Or.inl ⟨z, hk⟩))), fun z => ⟨w2 _ ((a5 _).mpr (Or.inr (Or.inr (Or.inl ⟨z, Or.inl rfl⟩)))), fun k hk => w2 k ((a5 k).mpr (Or.inr (Or.inr (Or.inl ⟨z, Or.inr hk⟩))))⟩, fun z k hk => w2 k ((a5 k).mpr (Or.inr (Or.inr (Or.inr ⟨z, hk⟩))))⟩
