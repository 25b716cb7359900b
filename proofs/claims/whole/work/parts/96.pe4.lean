/-! The reference: the same, by its own means -/
def me (h0 h : qa_St) : Prop := ∀ r k, r ≠ 18 → r ≠ 19 → r ≠ 20 → ¬ (r = 0 ∧ k = 22) → h r k = h0 r k
theorem me_pm {h0 h : qa_St} (he : me h0 h) : pm h0 h := ⟨fun r k a b => he r k (by omega) (by omega) (by omega) (by omega), he 0 0 (by decide) (by decide) (by decide) (by decide), he 0 4 (by decide) (by decide) (by decide) (by decide)⟩
def mLs (h : qa_St) (k : Nat) : Prop := k < 10 ∧ h 18 k ≠ 0
def mKs (h : qa_St) (k : Nat) : Prop := k < 6 ∧ h 20 k ≠ 0
def mTs (h : qa_St) (k : Nat) : Prop := k < 6 ∧ h 19 k ≠ 0
def mb (h : qa_St) : Prop := (∀ k, k < 10 → h 18 k = 0 ∨ h 18 k = 1) ∧ (∀ k, k < 6 → h 20 k = 0 ∨ h 20 k = 1)
def mcn (h : qa_St) : Nat := tc_sum (fun k => if h 18 k = 0 then 0 else 1) 10 + tc_sum (fun k => if h 20 k = 0 then 0 else 1) 6 + tc_sum (fun k => if h 19 k = 0 then 0 else 1) 6
def mD (h h' : qa_St) : Prop := (∀ k, mLs h k → mLs h' k) ∧ (∀ k, mKs h k → mKs h' k) ∧ (∀ k, mTs h k → mTs h' k) ∧ (h' 0 22 = 0 → h 0 22 = 0 ∧ (∀ k, mLs h' k → mLs h k) ∧ (∀ k, mKs h' k → mKs h k)) ∧ mcn h ≤ mcn h' ∧ (h 0 22 = 0 → h' 0 22 ≠ 0 → mcn h < mcn h')
theorem mD_rf (h : qa_St) : mD h h := ⟨fun _ z => z, fun _ z => z, fun _ z => z, fun z => ⟨z, fun _ y => y, fun _ y => y⟩, Nat.le_refl _, fun z1 z2 => absurd z1 z2⟩
theorem mD_tr {h h' h'' : qa_St} (h1 : mD h h') (h2 : mD h' h'') : mD h h'' := by
  obtain ⟨a1, a2, a3, a4, a5, a6⟩ := h1
  obtain ⟨b1, b2, b3, b4, b5, b6⟩ := h2
  refine ⟨fun k z => b1 k (a1 k z), fun k z => b2 k (a2 k z), fun k z => b3 k (a3 k z), fun z => ?_, Nat.le_trans a5 b5, fun z1 z2 => ?_⟩
  · obtain ⟨c1, c2, c3⟩ := b4 z
    obtain ⟨d1, d2, d3⟩ := a4 c1
    exact ⟨d1, fun k y => d2 k (c2 k y), fun k y => d3 k (c3 k y)⟩
  · by_cases hz : h' 0 22 = 0
    · exact Nat.lt_of_le_of_lt a5 (b6 hz z2)
    · exact Nat.lt_of_lt_of_le (a6 z1 hz) b5
theorem mcn_bd (h : qa_St) : mcn h ≤ 22 := by
  unfold mcn
  have a := tc_sum_bd (f := fun k => if h 18 k = 0 then 0 else 1) (b := 1) 10 (fun k _ => by show (if h 18 k = 0 then 0 else 1) ≤ 1; split <;> omega)
  have b := tc_sum_bd (f := fun k => if h 20 k = 0 then 0 else 1) (b := 1) 6 (fun k _ => by show (if h 20 k = 0 then 0 else 1) ≤ 1; split <;> omega)
  have c := tc_sum_bd (f := fun k => if h 19 k = 0 then 0 else 1) (b := 1) 6 (fun k _ => by show (if h 19 k = 0 then 0 else 1) ≤ 1; split <;> omega)
  omega
/-- a bit set to one in the array r, with more where it was not -/
theorem mD_set {h : qa_St} {r k : Nat} {s0 : Int32} (hr : (r = 18 ∧ k < 10) ∨ (r = 19 ∧ k < 6) ∨ (r = 20 ∧ k < 6)) (hs : s0 = 0 ↔ (h 0 22 = 0 ∧ h r k ≠ 0)) : mD h (qa_up (qa_up h 0 22 s0) r k 1) := by
  obtain ⟨h', hh⟩ : ∃ h', h' = qa_up (qa_up h 0 22 s0) r k 1 := ⟨_, rfl⟩
  rw [← hh]
  have hr0 : r ≠ 0 := by omega
  have k22 : h' 0 22 = s0 := by rw [hh, pv_nr (Ne.symm hr0), pv_self]
  have kx : ∀ r' k', r' ≠ 0 → h' r' k' = if r' = r ∧ k' = k then 1 else h r' k' := fun r' k' hn => by
    rw [hh, pv_get, pv_nr hn]
  have hup : ∀ r' k', r' ≠ 0 → h r' k' ≠ 0 → h' r' k' ≠ 0 := fun r' k' hn hz => by
    rw [kx r' k' hn]
    by_cases hc : r' = r ∧ k' = k
    · rw [if_pos hc]; decide
    · rw [if_neg hc]; exact hz
  have hdn : s0 = 0 → ∀ r' k', r' ≠ 0 → h' r' k' ≠ 0 → h r' k' ≠ 0 := fun hz0 r' k' hn hz => by
    rw [kx r' k' hn] at hz
    by_cases hc : r' = r ∧ k' = k
    · rw [hc.1, hc.2]; exact (hs.mp hz0).2
    · rw [if_neg hc] at hz; exact hz
  have hle : ∀ r', r' ≠ 0 → ∀ j, (fun k => if h r' k = 0 then 0 else 1) j ≤ (fun k => if h' r' k = 0 then 0 else 1) j := fun r' hn j => by
    show (if h r' j = 0 then 0 else 1) ≤ (if h' r' j = 0 then 0 else 1)
    by_cases hz : h r' j = 0
    · rw [if_pos hz]; omega
    · rw [if_neg hz, if_neg (hup r' j hn hz)]; exact Nat.le_refl _
  have a := tc_sum_le 10 (fun j _ => hle 18 (by decide) j)
  have b := tc_sum_le 6 (fun j _ => hle 20 (by decide) j)
  have c := tc_sum_le 6 (fun j _ => hle 19 (by decide) j)
  refine ⟨fun j z => ⟨z.1, hup 18 j (by decide) z.2⟩, fun j z => ⟨z.1, hup 20 j (by decide) z.2⟩, fun j z => ⟨z.1, hup 19 j (by decide) z.2⟩, fun z => ?_, by unfold mcn; omega, fun z1 z2 => ?_⟩
  · rw [k22] at z
    exact ⟨(hs.mp z).1, fun j y => ⟨y.1, hdn z 18 j (by decide) y.2⟩, fun j y => ⟨y.1, hdn z 20 j (by decide) y.2⟩⟩
  · rw [k22] at z2
    have hz0 : h r k = 0 := Classical.byContradiction fun w => z2 (hs.mpr ⟨z1, w⟩)
    have hz1 : h' r k = 1 := by rw [kx r k hr0, if_pos ⟨rfl, rfl⟩]
    have hlt : (fun k => if h r k = 0 then 0 else 1) k < (fun k => if h' r k = 0 then 0 else 1) k := by
      show (if h r k = 0 then 0 else 1) < (if h' r k = 0 then 0 else 1)
      rw [if_pos hz0, if_neg (by rw [hz1]; decide)]; omega
    unfold mcn
    rcases hr with ⟨e, hk⟩ | ⟨e, hk⟩ | ⟨e, hk⟩
    · subst e
      have := tc_sum_lt 10 (fun j _ => hle 18 (by decide) j) k hk hlt
      omega
    · subst e
      have := tc_sum_lt 6 (fun j _ => hle 19 (by decide) j) k hk hlt
      omega
    · subst e
      have := tc_sum_lt 6 (fun j _ => hle 20 (by decide) j) k hk hlt
      omega
theorem mb_set {h : qa_St} {r k : Nat} {s0 : Int32} (hr : r ≠ 0) (hb : mb h) (hs : s0 = 0 ∨ s0 = 1) : mb (qa_up (qa_up h 0 22 s0) r k 1) := by
  have kx : ∀ r' k', r' ≠ 0 → qa_up (qa_up h 0 22 s0) r k 1 r' k' = if r' = r ∧ k' = k then 1 else h r' k' := fun r' k' hn => by rw [pv_get, pv_nr hn]
  refine ⟨fun j hj => ?_, fun j hj => ?_⟩
  · rw [kx 18 j (by decide)]
    split
    · exact Or.inr rfl
    · exact hb.1 j hj
  · rw [kx 20 j (by decide)]
    split
    · exact Or.inr rfl
    · exact hb.2 j hj
/-- what a step of the reference does to its sets: it adds A to the methods and B to the classes -/
def mS (h0 : qa_St) (A B : Nat → Prop) (h h' : qa_St) : Prop := me h0 h' ∧ mb h' ∧ mD h h' ∧ (∀ k, mLs h' k ↔ (mLs h k ∨ A k)) ∧ (∀ k, mKs h' k ↔ (mKs h k ∨ B k))
theorem mS_tr {h0 : qa_St} {A B A' B' : Nat → Prop} {h h' h'' : qa_St} (h1 : mS h0 A B h h') (h2 : mS h0 A' B' h' h'') : mS h0 (fun k => A k ∨ A' k) (fun k => B k ∨ B' k) h h'' := by
  obtain ⟨a1, a2, a3, a4, a5⟩ := h1
  obtain ⟨b1, b2, b3, b4, b5⟩ := h2
  refine ⟨b1, b2, mD_tr a3 b3, fun k => ?_, fun k => ?_⟩
  · rw [b4, a4, or_assoc]
  · rw [b5, a5, or_assoc]
theorem mS_cg {h0 : qa_St} {A B A' B' : Nat → Prop} {h h' : qa_St} (h1 : mS h0 A B h h') (ha : ∀ k, A k ↔ A' k) (hb : ∀ k, B k ↔ B' k) : mS h0 A' B' h h' := by
  have e1 : A = A' := funext fun k => propext (ha k)
  have e2 : B = B' := funext fun k => propext (hb k)
  rw [← e1, ← e2]; exact h1
theorem ms_enliven {h0 h : qa_St} (he : me h0 h) (hb : mb h) (x : Int32) (hx : 0 ≤ x.toInt ∧ x.toInt < 10) : ∃ h', mf_Mo_enliven h x = some (0, h') ∧ mS h0 (fun k => k = x.toInt.toNat) (fun _ => False) h h' := by
  have e0 : (0 : Int32).toInt = 0 := rfl
  have hxb : ¬ (x < 0 ∨ 10 ≤ x.toNatClampNeg) := by rw [pv_lt, pv_cl, e0]; omega
  obtain ⟨s0, s1, s2, s3⟩ : ∃ s0 : Int32, (s0 = 0 ∨ s0 = 1) ∧ (s0 = 0 ↔ (h 0 22 = 0 ∧ h 18 x.toInt.toNat ≠ 0)) ∧ mf_Mo_enliven h x = some (0, qa_up (qa_up h 0 22 s0) 18 x.toInt.toNat 1) := by
    unfold mf_Mo_enliven mf_Mo_enliven_17 mf_Mo_enliven_22
    rw [if_pos (Or.inr rfl), if_pos (Or.inl rfl), if_neg hxb, if_neg hxb, if_neg hxb, pv_cl]
    by_cases h1 : h 0 22 = 0
    · rw [if_pos h1]
      by_cases h2 : h 18 x.toInt.toNat = 0
      · rw [if_pos h2]
        exact ⟨1, Or.inr rfl, ⟨fun z => absurd z (by decide), fun z => absurd h2 z.2⟩, rfl⟩
      · rw [if_neg h2]
        exact ⟨0, Or.inl rfl, ⟨fun _ => ⟨h1, h2⟩, fun _ => rfl⟩, rfl⟩
    · rw [if_neg h1]
      exact ⟨1, Or.inr rfl, ⟨fun z => absurd z (by decide), fun z => absurd z.1 h1⟩, rfl⟩
  refine ⟨_, s3, fun r k a b c d => by rw [pv_nr a, pv_get, if_neg d]; exact he r k a b c d, mb_set (by decide) hb s1, mD_set (Or.inl ⟨rfl, by omega⟩) s2, fun k => ?_, fun k => ?_⟩
  · unfold mLs
    rw [pv_get, pv_nr (show (18 : Nat) ≠ 0 by decide)]
    by_cases hk : k = x.toInt.toNat
    · rw [if_pos ⟨rfl, hk⟩]
      exact ⟨fun _ => Or.inr hk, fun _ => ⟨by omega, by decide⟩⟩
    · rw [if_neg (fun z => hk z.2)]
      exact ⟨Or.inl, fun z => z.elim id (fun y => absurd y hk)⟩
  · unfold mKs
    rw [pv_nr (by decide), pv_nr (by decide)]
    exact ⟨Or.inl, fun z => z.elim id (fun y => y.elim)⟩
theorem ms_touch2 {g h0 : qa_St} (hP : pr_P h0) (hRR : pr_R g h0) : ∀ (c : Nat), (c : Int) < (h0 0 0).toInt → ∀ (n : Nat) (h : qa_St), c + 1 < n → me h0 h → mb h → ∃ h', mf_Mo_touch_2 n h (Int32.ofNat c) = some (0, h') ∧ mS h0 (rc_T g h0 c) (fun _ => False) h h' := by
  have hP0 := hP
  obtain ⟨hN, hC, hM, hU, hK, hG⟩ := hP
  have hN0 := hN
  obtain ⟨n0, n1, n2, n3⟩ := hN
  have e0 : (0 : Int32).toInt = 0 := rfl
  intro c
  induction c using Nat.strongRecOn with
  | _ c ih =>
    intro hc n h hn he hb
    obtain ⟨n, rfl⟩ : ∃ z, n = z + 1 := ⟨n - 1, by omega⟩
    have ec : (Int32.ofNat c).toInt = (c : Int) := pv_nI (by omega)
    have ecn : (Int32.ofNat c).toNatClampNeg = c := by rw [pv_cl]; omega
    have hcb : ¬ (Int32.ofNat c < 0 ∨ 6 ≤ (Int32.ofNat c).toNatClampNeg) := by rw [ecn, pv_lt, ec, e0]; omega
    have q := hC c hc
    -- touched
    obtain ⟨s0, s1, s2, s3⟩ : ∃ s0 : Int32, (s0 = 0 ∨ s0 = 1) ∧ (s0 = 0 ↔ (h 0 22 = 0 ∧ h 19 c ≠ 0)) ∧ mf_Mo_touch_2 (n + 1) h (Int32.ofNat c) = mf_Mo_touch_44 (mf_Mo_touch_2 n) (qa_up (qa_up h 0 22 s0) 19 c 1) (Int32.ofNat c) ((qa_up (qa_up h 0 22 s0) 19 c 1) 3 c) := by
      rw [mf_Mo_touch_2, if_neg (by rw [pv_lt, ec, e0]; omega)]
      unfold mf_Mo_touch_23 mf_Mo_touch_28
      rw [if_pos (Or.inr rfl), if_pos (Or.inl rfl), if_neg hcb, if_neg hcb, if_neg hcb, if_neg hcb, if_neg hcb, ecn]
      by_cases h1 : h 0 22 = 0
      · rw [if_pos h1]
        by_cases h2 : h 19 c = 0
        · rw [if_pos h2]
          exact ⟨1, Or.inr rfl, ⟨fun z => absurd z (by decide), fun z => absurd h2 z.2⟩, rfl⟩
        · rw [if_neg h2]
          exact ⟨0, Or.inl rfl, ⟨fun _ => ⟨h1, h2⟩, fun _ => rfl⟩, rfl⟩
      · rw [if_neg h1]
        exact ⟨1, Or.inr rfl, ⟨fun z => absurd z (by decide), fun z => absurd z.1 h1⟩, rfl⟩
    rw [s3]
    obtain ⟨h1, hh1⟩ : ∃ h1, h1 = qa_up (qa_up h 0 22 s0) 19 c 1 := ⟨_, rfl⟩
    rw [← hh1]
    have hS1 : mS h0 (fun _ => False) (fun _ => False) h h1 := by
      rw [hh1]
      refine ⟨fun r k a b c d => by rw [pv_nr b, pv_get, if_neg d]; exact he r k a b c d, mb_set (by decide) hb s1, mD_set (Or.inr (Or.inl ⟨rfl, by omega⟩)) s2, fun k => ?_, fun k => ?_⟩
      · unfold mLs
        rw [pv_nr (by decide), pv_nr (by decide)]
        exact ⟨Or.inl, fun z => z.elim id (fun y => y.elim)⟩
      · unfold mKs
        rw [pv_nr (by decide), pv_nr (by decide)]
        exact ⟨Or.inl, fun z => z.elim id (fun y => y.elim)⟩
    have h13 : h1 3 c = h0 3 c := hS1.1 3 c (by decide) (by decide) (by decide) (by omega)
    rw [h13]
    -- its own method
    obtain ⟨h2, a1, a2⟩ : ∃ h2, mf_Mo_touch_44 (mf_Mo_touch_2 n) h1 (Int32.ofNat c) (h0 3 c) = mf_Mo_touch_57 (mf_Mo_touch_2 n) h2 (Int32.ofNat c) ∧ mS h0 (fun k => (h0 3 c).toInt = (k : Int)) (fun _ => False) h h2 := by
      unfold mf_Mo_touch_44
      by_cases hf : (h0 3 c).toInt < 0
      · rw [if_pos (by rw [pv_lt, e0]; exact hf)]
        exact ⟨h1, rfl, mS_cg hS1 (fun k => ⟨fun z => z.elim, fun z => by omega⟩) (fun k => Iff.rfl)⟩
      · rw [if_neg (by rw [pv_lt, e0]; exact hf), if_neg hcb, ecn, h13]
        obtain ⟨h2, b1, b2⟩ := ms_enliven hS1.1 hS1.2.1 (h0 3 c) (by omega)
        rw [b1]
        refine ⟨h2, rfl, mS_cg (mS_tr hS1 b2) (fun k => ?_) (fun k => ?_)⟩
        · exact ⟨fun z => z.elim (fun y => y.elim) (fun y => by omega), fun z => Or.inr (by omega)⟩
        · exact ⟨fun z => z.elim id id, fun z => z.elim⟩
    rw [a1]
    unfold mf_Mo_touch_57
    rw [if_neg hcb, ecn, a2.1 1 c (by decide) (by decide) (by decide) (by omega)]
    have hbit : ∀ d, d < 10 → (pv_bit (g 2 c) d ↔ (d = c ∨ (0 ≤ (h0 1 c).toInt ∧ pv_bit (g 2 (h0 1 c).toInt.toNat) d))) := fun d hd => pr_bit hN0 hRR.2.1 hc d hd
    by_cases hp : (h0 1 c).toInt < 0
    · obtain ⟨n, rfl⟩ : ∃ z, n = z + 1 := ⟨n - 1, by omega⟩
      refine ⟨h2, by rw [mf_Mo_touch_2, if_pos (by rw [pv_lt, e0]; exact hp)], mS_cg a2 (fun k => ?_) (fun k => Iff.rfl)⟩
      constructor
      · intro z
        exact ⟨c, by omega, (hbit c (by omega)).mpr (Or.inl rfl), z⟩
      · rintro ⟨d, d1, d2, d3⟩
        rcases (hbit d d1).mp d2 with y | y
        · rw [y] at d3; exact d3
        · omega
    · have e1 : h0 1 c = Int32.ofNat (h0 1 c).toInt.toNat := pv_nIe (by omega)
      obtain ⟨h', b1, b2⟩ := ih (h0 1 c).toInt.toNat (by omega) (by omega) n h2 (by omega) a2.1 a2.2.1
      rw [← e1] at b1
      refine ⟨h', b1, mS_cg (mS_tr a2 b2) (fun k => ?_) (fun k => ⟨fun z => z.elim id id, fun z => z.elim⟩)⟩
      constructor
      · rintro (z | ⟨d, d1, d2, d3⟩)
        · exact ⟨c, by omega, (hbit c (by omega)).mpr (Or.inl rfl), z⟩
        · exact ⟨d, d1, (hbit d d1).mpr (Or.inr ⟨by omega, d2⟩), d3⟩
      · rintro ⟨d, d1, d2, d3⟩
        rcases (hbit d d1).mp d2 with y | y
        · rw [y] at d3; exact Or.inl d3
        · exact Or.inr ⟨d, d1, y.2, d3⟩
theorem ms_touch {g h0 h : qa_St} (hP : pr_P h0) (hRR : pr_R g h0) (he : me h0 h) (hb : mb h) (x : Int32) (hx : tc_cl h0 x) : ∃ h', mf_Mo_touch h x = some (0, h') ∧ mS h0 (rc_T g h0 x.toInt.toNat) (fun _ => False) h h' := by
  have hN := hP.1
  obtain ⟨n0, n1, n2, n3⟩ := hN
  have hx1 := hx.1
  have hx2 := hx.2
  have ex : x = Int32.ofNat x.toInt.toNat := pv_nIe hx.1
  obtain ⟨h', a1, a2⟩ := ms_touch2 hP hRR x.toInt.toNat (by omega) 4096 h (by omega) he hb
  refine ⟨h', ?_, a2⟩
  unfold mf_Mo_touch
  exact (congrArg (mf_Mo_touch_2 4096 h) ex).trans a1
