/-! Promise 12: targets -/
theorem pv_small {s : Int32} (hs : ∀ k, 10 ≤ k → k < 32 → ¬ pv_bit s k) : ∃ n, n < 1024 ∧ s = Int32.ofNat n := by
  refine ⟨s.toBitVec.toNat, ?_, ?_⟩
  · have : s.toBitVec.toNat < 2 ^ 10 := by
      apply Nat.lt_pow_two_of_testBit
      intro i hi
      by_cases h32 : i < 32
      · have := hs i hi h32
        rw [pv_lsb s h32] at this
        rw [BitVec.testBit_toNat]
        exact Bool.eq_false_iff.mpr this
      · rw [BitVec.testBit_toNat]
        exact BitVec.getLsbD_of_ge _ _ (by omega)
    exact this
  · apply Int32.toBitVec_inj.mp
    rw [Int32.toBitVec_ofNat']
    simp
theorem tc_countP (p : Nat → Bool) : ∀ n, (List.range n).countP p = tc_sum (fun k => if p k then 1 else 0) n := by
  intro n
  induction n with
  | zero => rfl
  | succ n ih =>
    rw [List.range_succ, List.countP_append, ih, tc_sum]
    congr 1
    rw [List.countP_cons, List.countP_nil]
    simp
theorem tc_sum_cut (f : Nat → Nat) (m : Nat) : ∀ n, m ≤ n → (∀ k, m ≤ k → k < n → f k = 0) → tc_sum f n = tc_sum f m := by
  intro n
  induction n with
  | zero =>
    intro hm _
    have : m = 0 := by omega
    rw [this]
  | succ n ih =>
    intro hm hz
    by_cases hmn : m = n + 1
    · rw [hmn]
    · rw [tc_sum, hz n (by omega) (by omega), ih (by omega) (fun k h1 h2 => hz k h1 (by omega))]
      rfl
theorem ms_tg41 {g h : qa_St} (hP : pr_P h) (hRR : pr_R g h) (hall : ∀ m : Nat, (m : Int) < (h 0 4).toInt → pc_m g h m) {m i : Nat} (hm : (m : Int) < (h 0 4).toInt) (hi : (i : Int) < (h 7 m).toInt) (hz : h 14 (20 * m + i) ≠ 0) (ho : (h 8 (20 * m + i)).toInt = 17) (s : Int32) (hs : ∀ k, k < 32 → (pv_bit s k ↔ rc_G g h (mKs h) m i k)) : ∀ (d q n : Nat), (q : Int) + d = (h 0 4).toInt → d < n → mf_Mo_targets_41 n h (Int32.ofNat m) (Int32.ofNat i) (Int32.ofNat (tc_sum (fun k => if pv_bit s k then 1 else 0) q)) (Int32.ofNat q) = some (Int32.ofNat (tc_sum (fun k => if pv_bit s k then 1 else 0) (h 0 4).toInt.toNat), h) := by
  have hM := hP.2.2.1
  have hn := hP.1
  obtain ⟨n0, n1, n2, n3⟩ := hn
  have qm := hM m hm
  have em : (Int32.ofNat m).toInt = (m : Int) := pv_nI (by omega)
  have emn : (Int32.ofNat m).toInt.toNat = m := by omega
  have ei : (Int32.ofNat i).toInt = (i : Int) := pv_nI (by omega)
  have ein : (Int32.ofNat i).toInt.toNat = i := by omega
  have er := (pr_row (h := h) (Int32.ofNat m) (Int32.ofNat i) (by omega) (by omega)).2
  rw [emn, ein] at er
  have erR : (20 : Int32) * Int32.ofNat m + Int32.ofNat i = Int32.ofNat (20 * m + i) := by rw [pv_eq, er, pv_nI (by omega)]
  intro d
  induction d with
  | zero =>
    intro q n hq hn
    obtain ⟨n, rfl⟩ : ∃ z, n = z + 1 := ⟨n - 1, by omega⟩
    have eq : (Int32.ofNat q).toInt = (q : Int) := pv_nI (by omega)
    rw [mf_Mo_targets_41, if_pos (by rw [pv_le, eq]; omega), show (h 0 4).toInt.toNat = q by omega]
  | succ d ih =>
    intro q n hq hn
    obtain ⟨n, rfl⟩ : ∃ z, n = z + 1 := ⟨n - 1, by omega⟩
    have eq : (Int32.ofNat q).toInt = (q : Int) := pv_nI (by omega)
    obtain ⟨v, a1, a2, a3⟩ := ms_target hP hRR (fun _ _ _ _ _ _ => rfl) hall hm hi hz ho q (by omega)
    have hnx := ih (q + 1) n (by omega) (by omega)
    rw [tc_sum] at hnx
    rw [mf_Mo_targets_41, if_neg (by rw [pv_le, eq]; omega), erR, a1]
    simp only [Option.bind_some]
    unfold mf_Mo_targets_71
    rw [pv_n1]
    by_cases hv : v = 0
    · have hnb : ¬ pv_bit s q := fun z => by
        have := a3.mpr ((hs q (by omega)).mp z)
        rw [hv] at this
        exact absurd this (by decide)
      rw [if_neg hnb] at hnx
      rw [if_pos hv, Int32.add_zero]
      exact hnx
    · have hv1 : v = 1 := a2.elim (fun z => absurd z hv) id
      have hb : pv_bit s q := (hs q (by omega)).mpr (a3.mp hv1)
      rw [if_pos hb] at hnx
      rw [if_neg hv, pv_n1]
      exact hnx
theorem st_targets (PN : qa_St → qa_St → Prop) (g h : qa_St) (x1 x2 : Int32) (hI : pr_I pr_PC PN g h) : ql_st (pr_I pr_PC PN) (xf_Cw_targets g x1 x2) (mf_Mo_targets h x1 x2) := by
  have hI0 := hI
  have hP0 := hI.1
  have hRR := hI.2.1
  obtain ⟨hP, hR, hF, -, -⟩ := hI
  obtain ⟨hN, hC, hM, hU, hK, hG⟩ := hP
  have hN0 := hN
  obtain ⟨n0, n1, n2, n3⟩ := hN
  obtain ⟨⟨r1, r2⟩, hT, hO, hQ, hZ, hL, hH⟩ := hR
  have e0 : (0 : Int32).toInt = 0 := rfl
  rcases pr_closed hI0 with ⟨a, b⟩ | ⟨a, b, p⟩
  · refine pr_same (v := -1) hI0 ?_ ?_
    · unfold xf_Cw_targets xf_Cw_live
      rw [if_pos a]
      rfl
    · unfold mf_Mo_targets mf_Mo_reachedAt
      rw [if_pos b]
      rfl
  · obtain ⟨hD, hA, hall, hm0, hs0, hw0⟩ := p
    unfold xf_Cw_targets mf_Mo_targets
    rw [xs_live x1 a, r2, ms_reachedAt hN0 hD b]
    simp only [Option.bind_some, pv_b1]
    by_cases hm : 0 ≤ x1.toInt ∧ x1.toInt < (h 0 4).toInt
    · obtain ⟨m, hmm⟩ : ∃ m : Nat, m = x1.toInt.toNat := ⟨_, rfl⟩
      have ex1 : x1 = Int32.ofNat m := by rw [hmm]; exact pv_nIe hm.1
      have hmi : (m : Int) < (h 0 4).toInt := by omega
      have qm := hM m hmi
      have hx1b : ¬ (x1 < 0 ∨ 10 ≤ x1.toNatClampNeg) := by rw [pv_lt, pv_cl, e0]; omega
      rw [← hmm]
      by_cases hr : (0 ≤ x2.toInt ∧ x2.toInt < 20) ∧ h 14 (20 * m + x2.toInt.toNat) = 1
      · obtain ⟨i, hii⟩ : ∃ i : Nat, i = x2.toInt.toNat := ⟨_, rfl⟩
        have ex2 : x2 = Int32.ofNat i := by rw [hii]; exact pv_nIe hr.1.1
        rw [← hii] at hr ⊢
        have hz : h 14 (20 * m + i) ≠ 0 := by rw [hr.2]; decide
        have hil : (i : Int) < (h 7 m).toInt := by
          have hn : mN h m i ≠ -1 := by
            rcases (hall m hmi).2 i (by omega) with y | y
            · exact absurd y.1 hz
            · unfold mN; rw [if_neg hz]; omega
          rcases (hall m hmi).1.1 i (by omega) with y | y
          · exact absurd y hn
          · exact y.1
        have er := pr_row (h := h) x1 x2 (by omega) hr.1
        rw [← hmm, ← hii] at er
        have ern : ((20 : Int32) * x1 + x2).toNatClampNeg = 20 * m + i := by rw [pv_cl, er.2]; omega
        have hrb : ¬ ((20 : Int32) * x1 + x2 < 0 ∨ 200 ≤ ((20 : Int32) * x1 + x2).toNatClampNeg) := by rw [ern, pv_lt, er.2, e0]; omega
        rw [if_neg (show ¬ ¬ ((0 ≤ x1.toInt ∧ x1.toInt < (h 0 4).toInt) ∧ (0 ≤ x2.toInt ∧ x2.toInt < 20) ∧ h 14 (20 * m + i) = 1) from fun z => z ⟨hm, hr.1, hr.2⟩), if_neg hx1b, pv_cl x1, ← hmm, if_neg hrb, ern]
        rcases hA.1 m hmi with ⟨y1, y2⟩ | ⟨y1, y2⟩
        · rw [if_pos (fun z => y2 z.2), if_pos y1]
          exact pr_same hI0 rfl rfl
        · rw [if_neg (fun z => z ⟨hm, y2⟩), if_neg (by rw [y1]; decide), xs_isReached hN0 r2 hD, ← hmm, ← hii]
          simp only [Option.bind_some, pv_b1]
          have hop := (xs_opOf x1 x2 hN0 hM r2 hQ hL hm).1
          rw [← hmm, ← hii, if_pos ⟨hr.1.1, by omega⟩] at hop
          rw [if_neg (fun z => z ⟨hm, hr.1, hr.2⟩), hop]
          simp only [Option.bind_some]
          by_cases h17 : h 8 (20 * m + i) = 17
          · have h17' : (h 8 (20 * m + i)).toInt = 17 := by rw [h17]; rfl
            rw [if_pos h17, if_pos h17]
            obtain ⟨s, s1, s2⟩ := xs_targetSet hP0 hRR (g := g) (fun _ _ _ => rfl) hall hmi hil hz h17'
            rw [← ex1, ← ex2] at s1
            have hs : ∀ k, k < 32 → (pv_bit s k ↔ rc_G g h (mKs h) m i k) := fun k hk => by
              rw [s2 k hk]
              constructor
              · rintro ⟨c, c1, c2, c3⟩
                refine ⟨c, c1, ⟨by omega, ?_⟩, c3⟩
                rcases hA.2 c c1 with w | w
                · exact absurd c2 w.2
                · rw [w.1]; decide
              · rintro ⟨c, c1, c2, c3⟩
                refine ⟨c, c1, ?_, c3⟩
                rcases hA.2 c c1 with w | w
                · exact absurd w.1 c2.2
                · exact w.2
            obtain ⟨n, hn, hsn⟩ := pv_small (s := s) (fun k h1 h2 z => by
              have := rc_G_bd hP0 hRR hmi hil h17' ((hs k h2).mp z)
              omega)
            have hcnt := ms_tg41 hP0 hRR hall hmi hil hz h17' s hs (h 0 4).toInt.toNat 0 4096 (by omega) (by omega)
            have hbc : pv_bc s = Int32.ofNat (tc_sum (fun k => if pv_bit s k then 1 else 0) (h 0 4).toInt.toNat) := by
              have hbd := tc_sum_bd (f := fun k => if pv_bit s k then 1 else 0) (b := 1) (h 0 4).toInt.toNat (fun k _ => by show (if pv_bit s k then 1 else 0) ≤ 1; split <;> omega)
              have hc := pv_bc_count n hn
              rw [← hsn, tc_countP] at hc
              rw [pv_eq, hc, pv_nI (by omega)]
              have hcut := tc_sum_cut (fun k => if pv_bit s k then 1 else 0) (h 0 4).toInt.toNat 10 (by omega) (fun k h1 h2 => by
                show (if pv_bit s k then 1 else 0) = 0
                rw [if_neg (fun z => by
                  have := rc_G_bd hP0 hRR hmi hil h17' ((hs k (by omega)).mp z)
                  omega)])
              rw [← hcut]
              simp
            refine pr_same hI0 (v := pv_bc s) ?_ ?_
            · rw [s1]
              simp only [Option.bind_some]
              rw [pv_bc_eq]
              rfl
            · rw [hbc, ex1, ex2]
              exact hcnt
          · rw [if_neg h17, if_neg h17]
            exact pr_same hI0 rfl rfl
      · have hr' : ¬ ((0 ≤ x1.toInt ∧ x1.toInt < (h 0 4).toInt) ∧ (0 ≤ x2.toInt ∧ x2.toInt < 20) ∧ h 14 (20 * m + x2.toInt.toNat) = 1) := fun z => hr z.2
        rw [if_pos hr']
        refine pr_same hI0 (v := -1) ?_ rfl
        by_cases hlv : pv_bit (g 77 2) m
        · rw [if_neg (fun z => z ⟨hm, hlv⟩), xs_isReached hN0 r2 hD, ← hmm]
          simp only [Option.bind_some, pv_b1]
          rw [if_pos hr']
        · rw [if_pos (fun z => hlv z.2)]
    · rw [if_pos (fun z => hm z.1), if_pos (fun z => hm z.1)]
      exact pr_same hI0 rfl rfl
