/-! The class: rounds until nothing is new -/
def rc_lt (m' i' m i : Nat) : Prop := m' < m ∨ (m' = m ∧ i' < i)
def xF (g0 h : qa_St) (gs g : qa_St) (m i : Nat) : Prop := xe g0 g ∧ (∀ k, xLs gs k → xLs g k) ∧ (∀ k, xKs gs k → xKs g k) ∧ (∀ L K : Nat → Prop, rc_c g0 h L K → (∀ k, xLs gs k → L k) → (∀ k, xKs gs k → K k) → (∀ k, xLs g k → L k) ∧ (∀ k, xKs g k → K k)) ∧ ((∀ k, xLs g k → xLs gs k) → (∀ k, xKs g k → xKs gs k) → ∀ m' i' : Nat, rc_lt m' i' m i → (m' : Int) < (h 0 4).toInt → (i' : Int) < (h 7 m').toInt → h 14 (20 * m' + i') ≠ 0 → xLs gs m' → rc_f g0 h (xLs gs) (xKs gs) m' i')
theorem xs_fl15 {g0 h gs : qa_St} (hP : pr_P h) (hRR : pr_R g0 h) (hall : ∀ m : Nat, (m : Int) < (h 0 4).toInt → pc_m g0 h m) (k2 : qa_St → Int32 → qa_Re) {m : Nat} (hm : (m : Int) < (h 0 4).toInt) : ∀ (d i n : Nat) (g : qa_St), (i : Int) + d = (h 7 m).toInt → d < n → xF g0 h gs g m i → ∃ g', xf_Re_followLive_15 k2 n g (Int32.ofNat m) (Int32.ofNat i) = k2 g' (Int32.ofNat (m + 1)) ∧ xF g0 h gs g' (m + 1) 0 := by
  have hP0 := hP
  obtain ⟨hN, hC, hM, hU, hK, hG⟩ := hP
  have hN0 := hN
  obtain ⟨n0, n1, n2, n3⟩ := hN
  have q := hM m hm
  have em : (Int32.ofNat m).toInt = (m : Int) := pv_nI (by omega)
  have emn : (Int32.ofNat m).toInt.toNat = m := by omega
  intro d
  induction d with
  | zero =>
    intro i n g hi hn hF
    obtain ⟨n, rfl⟩ : ∃ z, n = z + 1 := ⟨n - 1, by omega⟩
    have ei : (Int32.ofNat i).toInt = (i : Int) := pv_nI (by omega)
    obtain ⟨f1, f2, f3, f4, f5⟩ := hF
    have hRg := xp_R (xe_p f1) hN0 hRR hC
    refine ⟨g, ?_, f1, f2, f3, f4, fun h1 h2 m' i' hlt hm' hi' => ?_⟩
    · rw [xf_Re_followLive_15, xs_lengthOf _ hN0 hRg.1.2 hRg.2.2.2.1, emn, if_pos (by omega)]
      simp only [Option.bind_some]
      rw [if_pos (by rw [pv_le, ei]; omega), pv_n1]
    · refine f5 h1 h2 m' i' ?_ hm' hi'
      rcases hlt with z | ⟨z1, z2⟩
      · by_cases hmm : m' = m
        · rw [hmm] at hi'
          exact Or.inr ⟨hmm, by omega⟩
        · exact Or.inl (by omega)
      · omega
  | succ d ih =>
    intro i n g hi hn hF
    obtain ⟨n, rfl⟩ : ∃ z, n = z + 1 := ⟨n - 1, by omega⟩
    have ei : (Int32.ofNat i).toInt = (i : Int) := pv_nI (by omega)
    have ein : (Int32.ofNat i).toInt.toNat = i := by omega
    have hF0 := hF
    obtain ⟨f1, f2, f3, f4, f5⟩ := hF
    have hRg := xp_R (xe_p f1) hN0 hRR hC
    have hD : pr_D g h := fun m' i' hm' hi' => by
      rw [f1 74 _ (by decide)]
      rcases (hall m' hm').2 i' hi' with y | ⟨y1, y2, y3, y4, y5⟩
      · exact Or.inl y
      · exact Or.inr ⟨y1, y2, y3, y4, fun p hp => by rw [f1 73 _ (by decide)]; exact y5 p hp⟩
    -- nothing to do here
    have hskip : (¬ xLs g m ∨ h 14 (20 * m + i) = 0) → xF g0 h gs g m (i + 1) := fun hs => by
      refine ⟨f1, f2, f3, f4, fun h1 h2 m' i' hlt hm' hi' hz hL => ?_⟩
      by_cases hmi : m' = m ∧ i' = i
      · rw [hmi.1] at hL
        rw [hmi.1, hmi.2] at hz
        rcases hs with y | y
        · exact absurd (f2 _ hL) y
        · exact absurd y hz
      · refine f5 h1 h2 m' i' ?_ hm' hi' hz hL
        unfold rc_lt at hlt ⊢
        omega
    have hlive : xf_Re_isLive g (Int32.ofNat m) = some (if pv_bit (g 77 2) m then 1 else 0, g) := by
      unfold xf_Re_isLive
      rw [xs_isMethod, hRg.1.2]
      simp only [Option.bind_some, pv_b1]
      rw [if_neg (fun z => z (by omega)), xs_has _ _ _ (by omega), emn]
      simp only [Option.bind_some, pv_b1]
      by_cases hb : pv_bit (g 77 2) m
      · rw [if_neg (fun z => z hb), if_pos hb]
      · rw [if_pos hb, if_neg hb]
    rw [xf_Re_followLive_15, xs_lengthOf _ hN0 hRg.1.2 hRg.2.2.2.1, emn, if_pos (by omega)]
    simp only [Option.bind_some]
    rw [if_neg (by rw [pv_le, ei]; omega), hlive]
    simp only [Option.bind_some, pv_b1]
    unfold xf_Re_followLive_53
    rw [pv_n1]
    by_cases hb : pv_bit (g 77 2) m
    · rw [if_neg (fun z => z hb), xs_isReached hN0 hRg.1.2 hD, emn, ein]
      simp only [Option.bind_some, pv_b1]
      by_cases hz : h 14 (20 * m + i) = 1
      · rw [if_neg (fun z => z ⟨by omega, by omega, hz⟩)]
        obtain ⟨g1, a1, a2, a3, a4, a5, a6⟩ := xs_follow hP0 hRR f1 hall hm (show (i : Int) < (h 7 m).toInt by omega) (by rw [hz]; decide)
        rw [a1]
        simp only [Option.bind_some]
        refine ih (i + 1) n g1 (by omega) (by omega) ⟨a2, fun k z => a3 k (f2 k z), fun k z => a4 k (f3 k z), fun L K hc h1 h2 => ?_, fun h1 h2 m' i' hlt hm' hi' hz' hL => ?_⟩
        · obtain ⟨w1, w2⟩ := f4 L K hc h1 h2
          exact a5 L K w1 w2 (hc.2.2 m i hm (by omega) (by rw [hz]; decide) (w1 m ⟨by omega, hb⟩))
        · have hg1 : ∀ k, xLs g k → xLs gs k := fun k z => h1 k (a3 k z)
          have hg2 : ∀ k, xKs g k → xKs gs k := fun k z => h2 k (a4 k z)
          by_cases hmi : m' = m ∧ i' = i
          · have hr := a6 (fun k z => f2 k (h1 k z)) (fun k z => f3 k (h2 k z))
            have e1 : xLs g = xLs gs := funext fun k => propext ⟨hg1 k, f2 k⟩
            have e2 : xKs g = xKs gs := funext fun k => propext ⟨hg2 k, f3 k⟩
            rw [e1, e2] at hr
            rw [hmi.1, hmi.2]
            exact hr
          · refine f5 hg1 hg2 m' i' ?_ hm' hi' hz' hL
            unfold rc_lt at hlt ⊢
            omega
      · rw [if_pos (fun z => hz z.2.2)]
        have hz0 : h 14 (20 * m + i) = 0 := by
          rcases (hall m hm).2 i (by omega) with y | y
          · exact y.1
          · exact absurd y.1 hz
        exact ih (i + 1) n g (by omega) (by omega) (hskip (Or.inr hz0))
    · rw [if_pos hb]
      exact ih (i + 1) n g (by omega) (by omega) (hskip (Or.inl (fun z => hb z.2)))
theorem xs_fl2 {g0 h gs : qa_St} (hP : pr_P h) (hRR : pr_R g0 h) (hall : ∀ m : Nat, (m : Int) < (h 0 4).toInt → pc_m g0 h m) : ∀ (d m n : Nat) (g : qa_St), (m : Int) + d = (h 0 4).toInt → d < n → xF g0 h gs g m 0 → ∃ g', xf_Re_followLive_2 n g (Int32.ofNat m) = some (0, g') ∧ xF g0 h gs g' (h 0 4).toInt.toNat 0 := by
  have hP0 := hP
  obtain ⟨hN, hC, hM, hU, hK, hG⟩ := hP
  have hN0 := hN
  obtain ⟨n0, n1, n2, n3⟩ := hN
  intro d
  induction d with
  | zero =>
    intro m n g hm hn hF
    obtain ⟨n, rfl⟩ : ∃ z, n = z + 1 := ⟨n - 1, by omega⟩
    have em : (Int32.ofNat m).toInt = (m : Int) := pv_nI (by omega)
    have hRg := xp_R (xe_p hF.1) hN0 hRR hC
    refine ⟨g, ?_, ?_⟩
    · rw [xf_Re_followLive_2]
      unfold xf_Pr_methodCount
      simp only [Option.bind_some]
      rw [if_pos (by rw [pv_le, hRg.1.2, em]; omega)]
    · rw [show (h 0 4).toInt.toNat = m by omega]; exact hF
  | succ d ih =>
    intro m n g hm hn hF
    obtain ⟨n, rfl⟩ : ∃ z, n = z + 1 := ⟨n - 1, by omega⟩
    have em : (Int32.ofNat m).toInt = (m : Int) := pv_nI (by omega)
    have hRg := xp_R (xe_p hF.1) hN0 hRR hC
    have q := hM m (by omega)
    obtain ⟨g1, a1, a2⟩ := xs_fl15 hP0 hRR hall (xf_Re_followLive_2 n) (m := m) (by omega) (h 7 m).toInt.toNat 0 4096 g (by omega) (by omega) hF
    obtain ⟨g', b1, b2⟩ := ih (m + 1) n g1 (by omega) (by omega) a2
    refine ⟨g', ?_, b2⟩
    rw [xf_Re_followLive_2]
    unfold xf_Pr_methodCount
    simp only [Option.bind_some]
    rw [if_neg (by rw [pv_le, hRg.1.2, em]; omega)]
    exact a1.trans b1
/-- how many there are -/
def xcn (g : qa_St) : Nat := tc_sum (fun k => if pv_bit (g 77 2) k then 1 else 0) 10 + tc_sum (fun k => if pv_bit (g 77 3) k then 1 else 0) 6
theorem xcn_bd (g : qa_St) : xcn g ≤ 16 := by
  unfold xcn
  have a := tc_sum_bd (f := fun k => if pv_bit (g 77 2) k then 1 else 0) (b := 1) 10 (fun k _ => by show (if pv_bit (g 77 2) k then 1 else 0) ≤ 1; split <;> omega)
  have b := tc_sum_bd (f := fun k => if pv_bit (g 77 3) k then 1 else 0) (b := 1) 6 (fun k _ => by show (if pv_bit (g 77 3) k then 1 else 0) ≤ 1; split <;> omega)
  omega
theorem tc_ifle {p q : Prop} [Decidable p] [Decidable q] (h : p → q) : (if p then 1 else 0) ≤ (if q then 1 else 0) := by
  by_cases hp : p
  · rw [if_pos hp, if_pos (h hp)]; exact Nat.le_refl _
  · rw [if_neg hp]; omega
theorem xcn_lt {g g' : qa_St} (h1 : ∀ k, xLs g k → xLs g' k) (h2 : ∀ k, xKs g k → xKs g' k) (hn : (∃ k, k < 10 ∧ xLs g' k ∧ ¬ xLs g k) ∨ ∃ k, k < 6 ∧ xKs g' k ∧ ¬ xKs g k) : xcn g < xcn g' := by
  have l1 : ∀ k, k < 10 → (fun k => if pv_bit (g 77 2) k then 1 else 0) k ≤ (fun k => if pv_bit (g' 77 2) k then 1 else 0) k := fun k hk => tc_ifle (fun z => (h1 k ⟨by omega, z⟩).2)
  have l2 : ∀ k, k < 6 → (fun k => if pv_bit (g 77 3) k then 1 else 0) k ≤ (fun k => if pv_bit (g' 77 3) k then 1 else 0) k := fun k hk => tc_ifle (fun z => (h2 k ⟨by omega, z⟩).2)
  have a := tc_sum_le 10 l1
  have b := tc_sum_le 6 l2
  unfold xcn
  rcases hn with ⟨k, k1, k2, k3⟩ | ⟨k, k1, k2, k3⟩
  · have := tc_sum_lt 10 l1 k k1 (by show (if pv_bit (g 77 2) k then 1 else 0) < (if pv_bit (g' 77 2) k then 1 else 0); rw [if_pos k2.2, if_neg (fun z => k3 ⟨by omega, z⟩)]; omega)
    omega
  · have := tc_sum_lt 6 l2 k k1 (by show (if pv_bit (g 77 3) k then 1 else 0) < (if pv_bit (g' 77 3) k then 1 else 0); rw [if_pos k2.2, if_neg (fun z => k3 ⟨by omega, z⟩)]; omega)
    omega
/-- all methods and all classes are closed -/
theorem rc_full {g h : qa_St} (hP : pr_P h) (hRR : pr_R g h) (h0 : 0 < (h 0 4).toInt) : rc_c g h (fun k => (k : Int) < (h 0 4).toInt) (fun c => (c : Int) < (h 0 0).toInt) := by
  have hP0 := hP
  obtain ⟨hN, hC, hM, hU, hK, hG⟩ := hP
  have q0 := hM 0 (by omega)
  refine ⟨by omega, fun k hk => rc_T_bd hP0 hRR (by omega) hk, fun m i hm hi hz _ => ?_⟩
  have qk := hK m i hm hi
  obtain ⟨t1, t2, t3, t4, t5⟩ := qk.2.2
  refine ⟨fun z => ?_, fun z k hk => ?_, fun z => ?_, fun z k hk => rc_G_bd hP0 hRR hm hi z hk⟩
  · have := t1 (by omega)
    show (((h 9 (20 * m + i)).toInt.toNat : Nat) : Int) < (h 0 0).toInt
    omega
  · have := t1 (by omega)
    exact rc_T_bd hP0 hRR (by omega) hk
  · have := t5 z
    have q := hM (h 9 (20 * m + i)).toInt.toNat (by omega)
    refine ⟨?_, fun k hk => rc_T_bd hP0 hRR (by omega) hk⟩
    show (((h 9 (20 * m + i)).toInt.toNat : Nat) : Int) < (h 0 4).toInt
    omega
theorem xs_find19 {g0 h : qa_St} (hP : pr_P h) (hRR : pr_R g0 h) (h0 : 0 < (h 0 4).toInt) (hall : ∀ m : Nat, (m : Int) < (h 0 4).toInt → pc_m g0 h m) : ∀ (d t n : Nat) (g : qa_St), 16 ≤ xcn g + d → t + d ≤ 16 → d + 1 < n → xe g0 g → xLs g 0 → (∀ k, rc_T g0 h (h 4 0).toInt.toNat k → xLs g k) → (∀ L K : Nat → Prop, rc_c g0 h L K → (∀ k, xLs g k → L k) ∧ (∀ k, xKs g k → K k)) → ∃ g', xf_Re_find_19 n g 1 (Int32.ofNat t) = some (0, g') ∧ xe g0 g' ∧ rc_c g0 h (xLs g') (xKs g') ∧ (∀ L K : Nat → Prop, rc_c g0 h L K → (∀ k, xLs g' k → L k) ∧ (∀ k, xKs g' k → K k)) := by
  have hn4 := hP.1
  obtain ⟨n0, n1, n2, n3⟩ := hn4
  have e16 : (16 : Int32).toInt = 16 := rfl
  have hround : ∀ g, xe g0 g → (∀ L K : Nat → Prop, rc_c g0 h L K → (∀ k, xLs g k → L k) ∧ (∀ k, xKs g k → K k)) → ∃ g', xf_Re_followLive g = some (0, g') ∧ xF g0 h g g' (h 0 4).toInt.toNat 0 ∧ (∀ L K : Nat → Prop, rc_c g0 h L K → (∀ k, xLs g' k → L k) ∧ (∀ k, xKs g' k → K k)) := fun g he hl => by
    obtain ⟨g', a1, a2⟩ := xs_fl2 hP hRR hall (gs := g) (h 0 4).toInt.toNat 0 4096 g (by omega) (by omega) ⟨he, fun _ z => z, fun _ z => z, fun L K _ h1 h2 => ⟨h1, h2⟩, fun _ _ m' i' hlt => by unfold rc_lt at hlt; omega⟩
    refine ⟨g', a1, a2, fun L K hc => ?_⟩
    obtain ⟨w1, w2⟩ := hl L K hc
    exact a2.2.2.2.1 L K hc w1 w2
  have hclosed : ∀ g g', xF g0 h g g' (h 0 4).toInt.toNat 0 → xLs g 0 → (∀ k, rc_T g0 h (h 4 0).toInt.toNat k → xLs g k) → g' 77 2 = g 77 2 → g' 77 3 = g 77 3 → rc_c g0 h (xLs g') (xKs g') := fun g g' hF hl0 hT0 e2 e3 => by
    have x2 : xLs g' = xLs g := funext fun k => by unfold xLs; rw [e2]
    have x3 : xKs g' = xKs g := funext fun k => by unfold xKs; rw [e3]
    rw [x2, x3]
    refine ⟨hl0, hT0, fun m i hm hi hz hL => ?_⟩
    exact hF.2.2.2.2 (fun k z => by rw [← x2]; exact z) (fun k z => by rw [← x3]; exact z) m i (Or.inl (by omega)) hm hi hz hL
  have hgrow : ∀ g g', xF g0 h g g' (h 0 4).toInt.toNat 0 → (∀ L K : Nat → Prop, rc_c g0 h L K → (∀ k, xLs g' k → L k) ∧ (∀ k, xKs g' k → K k)) → ¬ (g' 77 2 = g 77 2 ∧ g' 77 3 = g 77 3) → xcn g < xcn g' := fun g g' hF hl hne => by
    obtain ⟨b1, b2⟩ := hl _ _ (rc_full hP hRR h0)
    refine xcn_lt hF.2.1 hF.2.2.1 (Classical.byContradiction fun hc => hne ⟨pv_ext fun k hk => ⟨fun z => ?_, fun z => (hF.2.1 k ⟨hk, z⟩).2⟩, pv_ext fun k hk => ⟨fun z => ?_, fun z => (hF.2.2.1 k ⟨hk, z⟩).2⟩⟩)
    · refine Classical.byContradiction fun w => hc (Or.inl ⟨k, ?_, ⟨hk, z⟩, fun y => w y.2⟩)
      have := b1 k ⟨hk, z⟩
      omega
    · refine Classical.byContradiction fun w => hc (Or.inr ⟨k, ?_, ⟨hk, z⟩, fun y => w y.2⟩)
      have := b2 k ⟨hk, z⟩
      omega
  intro d
  induction d with
  | zero =>
    intro t n g hd ht hn he hl0 hT0 hl
    obtain ⟨n, rfl⟩ : ∃ z, n = z + 1 := ⟨n - 1, by omega⟩
    obtain ⟨n, rfl⟩ : ∃ z, n = z + 1 := ⟨n - 1, by omega⟩
    have et : (Int32.ofNat t).toInt = (t : Int) := pv_nI (by omega)
    obtain ⟨g', a1, a2, a3⟩ := hround g he hl
    have hsame : g' 77 2 = g 77 2 ∧ g' 77 3 = g 77 3 := Classical.byContradiction fun hc => by
      have := hgrow g g' a2 a3 hc
      have := xcn_bd g'
      omega
    refine ⟨g', ?_, a2.1, hclosed g g' a2 hl0 hT0 hsame.1 hsame.2, a3⟩
    rw [xf_Re_find_19, if_neg (by rw [pv_lt, e16, et]; omega), if_neg (by decide), a1]
    simp only [Option.bind_some]
    rw [if_pos hsame.1, if_pos hsame.2]
    unfold xf_Re_find_66
    rw [xf_Re_find_19, if_pos rfl]
    split <;> rfl
  | succ d ih =>
    intro t n g hd ht hn he hl0 hT0 hl
    obtain ⟨n, rfl⟩ : ∃ z, n = z + 1 := ⟨n - 1, by omega⟩
    have et : (Int32.ofNat t).toInt = (t : Int) := pv_nI (by omega)
    obtain ⟨g1, a1, a2, a3⟩ := hround g he hl
    have hst : xf_Re_find_19 (n + 1) g 1 (Int32.ofNat t) = (if g1 77 2 = g 77 2 then (if g1 77 3 = g 77 3 then xf_Re_find_19 n g1 0 (Int32.ofNat (t + 1)) else xf_Re_find_19 n g1 1 (Int32.ofNat (t + 1))) else xf_Re_find_19 n g1 1 (Int32.ofNat (t + 1))) := by
      rw [xf_Re_find_19, if_neg (by rw [pv_lt, e16, et]; omega), if_neg (by decide), a1]
      simp only [Option.bind_some]
      unfold xf_Re_find_66 xf_Re_find_61 xf_Re_find_66
      rw [pv_n1]
    by_cases hsame : g1 77 2 = g 77 2 ∧ g1 77 3 = g 77 3
    · refine ⟨g1, ?_, a2.1, hclosed g g1 a2 hl0 hT0 hsame.1 hsame.2, a3⟩
      obtain ⟨n, rfl⟩ : ∃ z, n = z + 1 := ⟨n - 1, by omega⟩
      rw [hst, if_pos hsame.1, if_pos hsame.2, xf_Re_find_19, if_pos rfl]
      split <;> rfl
    · have hgr := hgrow g g1 a2 a3 hsame
      obtain ⟨g', b1, b2⟩ := ih (t + 1) n g1 (by omega) (by omega) (by omega) a2.1 (a2.2.1 0 hl0) (fun k z => a2.2.1 k (hT0 k z)) a3
      refine ⟨g', ?_, b2⟩
      rw [hst]
      by_cases e2 : g1 77 2 = g 77 2
      · rw [if_pos e2, if_neg (fun z => hsame ⟨e2, z⟩)]; exact b1
      · rw [if_neg e2]; exact b1
/-- the class finds the least closed sets -/
theorem xs_find {g h : qa_St} (hP : pr_P h) (hRR : pr_R g h) (h0 : 0 < (h 0 4).toInt) (hall : ∀ m : Nat, (m : Int) < (h 0 4).toInt → pc_m g h m) : ∃ g', xf_Re_find g = some (0, g') ∧ xe g g' ∧ rc_c g h (xLs g') (xKs g') ∧ (∀ L K : Nat → Prop, rc_c g h L K → (∀ k, xLs g' k → L k) ∧ (∀ k, xKs g' k → K k)) := by
  have hP0 := hP
  obtain ⟨hN, hC, hM, hU, hK, hG⟩ := hP
  have hN0 := hN
  obtain ⟨n0, n1, n2, n3⟩ := hN
  have q0 := hM 0 (by omega)
  obtain ⟨g1, hg1⟩ : ∃ g1, g1 = qa_up (qa_up g 77 2 0) 77 3 0 := ⟨_, rfl⟩
  obtain ⟨g2, hg2⟩ : ∃ g2, g2 = qa_up g1 77 2 ((g1 77 2) ||| ((1 : Int32) <<< ((0 : Int32) &&& 31))) := ⟨_, rfl⟩
  have k12 : g1 77 2 = 0 := by rw [hg1, pv_ni (by decide), pv_self]
  have k13 : g1 77 3 = 0 := by rw [hg1, pv_self]
  have he2 : xe g g2 := fun r k hr => by rw [hg2, pv_nr hr, hg1, pv_nr hr, pv_nr hr]
  have hR2 := xp_R (xe_p he2) hN0 hRR hC
  have how := xs_ownerOf 0 hN0 hR2.1.2 hR2.2.2.2.1
  have e00 : (0 : Int32).toInt = 0 := rfl
  rw [e00, if_pos (by omega)] at how
  have e0n : (0 : Int).toNat = 0 := rfl
  rw [e0n] at how
  obtain ⟨g3, a1, a2, a3⟩ := xs_touch hP0 hRR (h 4 0) (by omega) he2
  have k2 : ∀ k, k < 32 → (pv_bit (g2 77 2) k ↔ k = 0) := fun k hk => by
    rw [hg2, pv_self, k12, pv_bit_or]
    have := pv_bit_one32 0 (by omega) k hk
    have e : ((1 : Int32) <<< ((0 : Int32) &&& 31)) = ((1 : Int32) <<< (Int32.ofNat 0 &&& 31)) := rfl
    rw [e, this]
    exact ⟨fun z => z.elim (fun y => absurd y (pv_bit_z32 k hk)) (fun y => y.symm), fun z => Or.inr z.symm⟩
  have he3 : xe g g3 := fun r k hr => by rw [a2 r k (by omega)]; exact he2 r k hr
  have hl3 : ∀ k, xLs g3 k ↔ (k = 0 ∨ rc_T g h (h 4 0).toInt.toNat k) := fun k => by
    unfold xLs
    constructor
    · rintro ⟨z1, z2⟩
      exact ((a3 k z1).mp z2).elim (fun y => Or.inl ((k2 k z1).mp y)) Or.inr
    · rintro (z | z)
      · exact ⟨by omega, (a3 k (by omega)).mpr (Or.inl ((k2 k (by omega)).mpr z))⟩
      · have := rc_T_bd hP0 hRR (by omega) z
        exact ⟨by omega, (a3 k (by omega)).mpr (Or.inr z)⟩
  have hk3 : ∀ k, ¬ xKs g3 k := fun k z => by
    have := z.2
    rw [a2 77 3 (by decide), hg2, pv_ni (by decide), k13] at this
    exact pv_bit_z32 k z.1 this
  obtain ⟨g', b1, b2, b3, b4⟩ := xs_find19 hP0 hRR h0 hall 16 0 4096 g3 (by omega) (by omega) (by omega) he3 ((hl3 0).mpr (Or.inl rfl)) (fun k z => (hl3 k).mpr (Or.inr z)) (fun L K hc => ⟨fun k z => ((hl3 k).mp z).elim (fun y => by rw [y]; exact hc.1) (hc.2.1 k), fun k z => absurd z (hk3 k)⟩)
  refine ⟨g', ?_, b2, b3, b4⟩
  unfold xf_Re_find xf_Re_reachCall
  rw [← hg1, ← hg2, how, Option.bind_some]
  rw [a1, Option.bind_some, Option.bind_some]
  exact b1
