/-! What is live, what is made: least closed sets -/
/-- method k begins a class that c is of -/
def rc_T (g h : qa_St) (c k : Nat) : Prop := ∃ d, d < 10 ∧ pv_bit (g 2 c) d ∧ (h 3 d).toInt = (k : Int)
/-- the type of the receiver -/
def rc_v (h : qa_St) (m i : Nat) : Nat := (h 16 (10 * (20 * m + i) + 2 + (h 15 (20 * m + i)).toInt.toNat)).toInt.toNat
def rc_G (g h : qa_St) (K : Nat → Prop) (m i k : Nat) : Prop := ∃ c : Nat, (c : Int) < (h 0 0).toInt ∧ K c ∧ pv_bit (g 2 c) (rc_v h m i) ∧ (pr_an g h (h 9 (20 * m + i)).toInt.toNat 7 c).toInt = (k : Int)
def rc_f (g h : qa_St) (L K : Nat → Prop) (m i : Nat) : Prop :=
  ((h 8 (20 * m + i)).toInt = 11 → K (h 9 (20 * m + i)).toInt.toNat) ∧ (((h 8 (20 * m + i)).toInt = 11 ∨ (h 8 (20 * m + i)).toInt = 14 ∨ (h 8 (20 * m + i)).toInt = 15) → ∀ k, rc_T g h (h 9 (20 * m + i)).toInt.toNat k → L k) ∧ ((h 8 (20 * m + i)).toInt = 16 → L (h 9 (20 * m + i)).toInt.toNat ∧ ∀ k, rc_T g h (h 4 (h 9 (20 * m + i)).toInt.toNat).toInt.toNat k → L k) ∧ ((h 8 (20 * m + i)).toInt = 17 → ∀ k, rc_G g h K m i k → L k)
def rc_c (g h : qa_St) (L K : Nat → Prop) : Prop := L 0 ∧ (∀ k, rc_T g h (h 4 0).toInt.toNat k → L k) ∧ ∀ m i : Nat, (m : Int) < (h 0 4).toInt → (i : Int) < (h 7 m).toInt → h 14 (20 * m + i) ≠ 0 → L m → rc_f g h L K m i
/-- a SEND that is reached: there is a receiver, and it is of a class -/
theorem rc_send {g h : qa_St} {m i : Nat} (hc : pc_m g h m) (hi : i < 20) (hz : h 14 (20 * m + i) ≠ 0) (ho : (h 8 (20 * m + i)).toInt = 17) : 2 ≤ (h 15 (20 * m + i)).toInt ∧ (h 15 (20 * m + i)).toInt ≤ 6 ∧ g 74 (20 * m + i) = h 15 (20 * m + i) ∧ g 73 (10 * (20 * m + i) + 2 + (h 15 (20 * m + i)).toInt.toNat) = h 16 (10 * (20 * m + i) + 2 + (h 15 (20 * m + i)).toInt.toNat) ∧ tc_cl h (h 16 (10 * (20 * m + i) + 2 + (h 15 (20 * m + i)).toInt.toNat)) ∧ pr_an g h (h 9 (20 * m + i)).toInt.toNat 7 (rc_v h m i) ≠ -1 := by
  obtain ⟨c1, c2⟩ := hc
  rcases c2 i hi with y | ⟨y1, y2, y3, y4, y5⟩
  · exact absurd y.1 hz
  · have hn : mN h m i = (h 15 (20 * m + i)).toInt := by unfold mN; rw [if_neg hz]
    obtain ⟨r, r1, -, -⟩ := c1.2.2 i hi (by rw [hn]; omega)
    unfold tc_ef at r1
    rw [ho, if_neg (by omega), if_neg (by omega), if_neg (by omega), if_neg (by omega), if_neg (by omega), if_neg (by omega), if_neg (by omega), if_neg (by omega), if_neg (by omega), if_neg (by omega), if_neg (by omega), if_pos rfl] at r1
    obtain ⟨p, p1, p2⟩ := tc_bind r1
    obtain ⟨q, q1, q2⟩ := tc_bind p2
    have p1 : ((tc_tk h 1 (tc_at (mN h m) (mV h m) i)).bind fun q => some q.2) = some p := p1
    obtain ⟨s, s1, s2⟩ := tc_bind p1
    cases s2
    have hs : s.2.1 = (h 15 (20 * m + i)).toInt.toNat - 1 ∧ s.2.2 = mV h m i ∧ ¬ (h 15 (20 * m + i)).toInt.toNat = 0 := by
      unfold tc_tk tc_at at s1
      rw [hn] at s1
      by_cases h0 : (h 15 (20 * m + i)).toInt.toNat = 0
      · rw [if_pos h0] at s1; cases s1
      · rw [if_neg h0] at s1
        split at s1
        · cases s1; exact ⟨rfl, rfl, h0⟩
        · cases s1
    have hcl := tc_tk2_cl q1
    have hq : ¬ s.2.1 = 0 ∧ q.1 = s.2.2 (3 + s.2.1) := by
      unfold tc_tk at q1
      by_cases h0 : s.2.1 = 0
      · rw [if_pos h0] at q1; cases q1
      · rw [if_neg h0] at q1
        split at q1
        · cases q1; exact ⟨h0, rfl⟩
        · cases q1
    obtain ⟨hs1, hs2, hs3⟩ := hs
    have h2 : 2 ≤ (h 15 (20 * m + i)).toInt := by omega
    have hqv : q.1 = h 16 (10 * (20 * m + i) + 2 + (h 15 (20 * m + i)).toInt.toNat) := by
      rw [hq.2, hs2]
      unfold mV
      rw [hs1, show 10 * (20 * m + i) + (3 + ((h 15 (20 * m + i)).toInt.toNat - 1)) = 10 * (20 * m + i) + 2 + (h 15 (20 * m + i)).toInt.toNat by omega]
    refine ⟨h2, y4, y2, ?_, by rw [← hqv]; exact hcl, fun hz2 => ?_⟩
    · have := y5 (2 + (h 15 (20 * m + i)).toInt.toNat) (by omega)
      rw [show 10 * (20 * m + i) + (2 + (h 15 (20 * m + i)).toInt.toNat) = 10 * (20 * m + i) + 2 + (h 15 (20 * m + i)).toInt.toNat by omega] at this
      exact this
    · unfold rc_v at hz2
      rw [← hqv] at hz2
      rw [if_pos hz2] at q2
      cases q2
/-! The class -/
def xe (g0 g : qa_St) : Prop := ∀ r k, r ≠ 77 → g r k = g0 r k
theorem xe_p {g0 g : qa_St} (he : xe g0 g) : xp g0 g := fun r k hr => he r k (by omega)
/-- its sets hold methods and classes alone -/
def xb (h g : qa_St) : Prop := (∀ k, k < 32 → pv_bit (g 77 2) k → (k : Int) < (h 0 4).toInt) ∧ ∀ k, k < 32 → pv_bit (g 77 3) k → (k : Int) < (h 0 0).toInt
theorem pv_bit_one32 : ∀ j, j < 10 → ∀ k, k < 32 → (pv_bit ((1 : Int32) <<< (Int32.ofNat j &&& 31)) k ↔ j = k) := by decide +kernel
theorem pv_ext {x y : Int32} (h : ∀ k, k < 32 → (pv_bit x k ↔ pv_bit y k)) : x = y := by
  apply Int32.toBitVec_inj.mp
  apply BitVec.eq_of_getLsbD_eq
  intro i hi
  have := h i hi
  rw [pv_lsb x hi, pv_lsb y hi] at this
  cases hx : x.toBitVec.getLsbD i <;> cases hy : y.toBitVec.getLsbD i
  · rfl
  · exact absurd (this.mpr hy) (by rw [hx]; decide)
  · exact absurd (this.mp hx) (by rw [hy]; decide)
  · rfl
theorem xs_touch2 {g0 h : qa_St} (hP : pr_P h) (hRR : pr_R g0 h) (c : Nat) (hc : (c : Int) < (h 0 0).toInt) : ∀ (d j n : Nat) (g : qa_St), j + d = c + 1 → d < n → xe g0 g → ∃ g', xf_Re_touch_2 n g (Int32.ofNat c) (Int32.ofNat j) = some (0, g') ∧ (∀ r k, ¬ (r = 77 ∧ k = 2) → g' r k = g r k) ∧ ∀ k, k < 32 → (pv_bit (g' 77 2) k ↔ (pv_bit (g 77 2) k ∨ ∃ e, j ≤ e ∧ e < 10 ∧ pv_bit (g0 2 c) e ∧ (h 3 e).toInt = (k : Int))) := by
  have hP0 := hP
  obtain ⟨hN, hC, hM, hU, hK, hG⟩ := hP
  have hN0 := hN
  obtain ⟨n0, n1, n2, n3⟩ := hN
  have ec : (Int32.ofNat c).toInt = (c : Int) := pv_nI (by omega)
  have ecn : (Int32.ofNat c).toInt.toNat = c := by omega
  have em : (-1 : Int32).toInt = -1 := rfl
  intro d
  induction d with
  | zero =>
    intro j n g hj hn he
    obtain ⟨n, rfl⟩ : ∃ z, n = z + 1 := ⟨n - 1, by omega⟩
    have ej : (Int32.ofNat j).toInt = (j : Int) := pv_nI (by omega)
    refine ⟨g, ?_, fun _ _ _ => rfl, fun k hk => ⟨Or.inl, fun z => z.elim id (fun ⟨e, e1, e2, e3, e4⟩ => ?_)⟩⟩
    · rw [xf_Re_touch_2, if_pos (by rw [pv_lt, ec, ej]; omega)]
    · have := pr_bit_le hN0 hC hRR.2.1 c hc e e2 e3
      omega
  | succ d ih =>
    intro j n g hj hn he
    obtain ⟨n, rfl⟩ : ∃ z, n = z + 1 := ⟨n - 1, by omega⟩
    have ej : (Int32.ofNat j).toInt = (j : Int) := pv_nI (by omega)
    have ejn : (Int32.ofNat j).toInt.toNat = j := by omega
    have hRg := xp_R (xe_p he) hN0 hRR hC
    have q := hC j (by omega)
    have hbits : pv_bit (g 2 c) j ↔ pv_bit (g0 2 c) j := by rw [he 2 c (by decide)]
    obtain ⟨gn, w1, w2, w3⟩ : ∃ gn, xf_Re_touch_2 (n + 1) g (Int32.ofNat c) (Int32.ofNat j) = xf_Re_touch_2 n gn (Int32.ofNat c) (Int32.ofNat (j + 1)) ∧ (∀ r k, ¬ (r = 77 ∧ k = 2) → gn r k = g r k) ∧ ∀ k, k < 32 → (pv_bit (gn 77 2) k ↔ (pv_bit (g 77 2) k ∨ (pv_bit (g0 2 c) j ∧ (h 3 j).toInt = (k : Int)))) := by
      rw [xf_Re_touch_2, if_neg (by rw [pv_lt, ec, ej]; omega), xs_initialiserOf _ hN0 hRg.1.1 hRg.2.1, ejn, if_pos (by omega)]
      simp only [Option.bind_some]
      rw [xs_isOf hN0 hRg.1.1, ecn, ejn]
      simp only [Option.bind_some, pv_b1]
      unfold xf_Re_touch_45
      rw [pv_n1]
      by_cases hb : pv_bit (g0 2 c) j
      · rw [if_neg (fun z => z ⟨by omega, by omega, hbits.mpr hb⟩)]
        by_cases hf : h 3 j = -1
        · rw [if_pos hf]
          refine ⟨g, rfl, fun _ _ _ => rfl, fun k hk => ⟨Or.inl, fun z => z.elim id (fun y => ?_)⟩⟩
          rw [hf, em] at y
          omega
        · rw [if_neg hf]
          have hf0 : 0 ≤ (h 3 j).toInt := by
            have : ¬ (h 3 j).toInt = -1 := fun z => hf (by rw [pv_eq, em]; exact z)
            omega
          obtain ⟨s, hs⟩ : ∃ s : Nat, s = (h 3 j).toInt.toNat := ⟨_, rfl⟩
          have es : h 3 j = Int32.ofNat s := by rw [hs]; exact pv_nIe hf0
          refine ⟨_, rfl, fun r k hr => by rw [pv_get, if_neg hr], fun k hk => ?_⟩
          rw [pv_self, pv_bit_or, es, pv_bit_one32 s (by omega) k hk, pv_nI (by omega)]
          exact ⟨fun z => z.elim Or.inl (fun y => Or.inr ⟨hb, by omega⟩), fun z => z.elim Or.inl (fun y => Or.inr (by omega))⟩
      · rw [if_pos (fun z => hb (hbits.mp z.2.2))]
        exact ⟨g, rfl, fun _ _ _ => rfl, fun k hk => ⟨Or.inl, fun z => z.elim id (fun y => absurd y.1 hb)⟩⟩
    rw [w1]
    obtain ⟨g', a1, a2, a3⟩ := ih (j + 1) n gn (by omega) (by omega) (fun r k hr => by rw [w2 r k (by omega)]; exact he r k hr)
    refine ⟨g', a1, fun r k hr => by rw [a2 r k hr, w2 r k hr], fun k hk => ?_⟩
    rw [a3 k hk, w3 k hk]
    constructor
    · rintro ((z | z) | ⟨e, e1, e2, e3, e4⟩)
      · exact Or.inl z
      · exact Or.inr ⟨j, by omega, by omega, z.1, z.2⟩
      · exact Or.inr ⟨e, by omega, e2, e3, e4⟩
    · rintro (z | ⟨e, e1, e2, e3, e4⟩)
      · exact Or.inl (Or.inl z)
      · by_cases hej : e = j
        · rw [hej] at e3 e4
          exact Or.inl (Or.inr ⟨e3, e4⟩)
        · exact Or.inr ⟨e, by omega, e2, e3, e4⟩
theorem xs_touch {g0 h : qa_St} (hP : pr_P h) (hRR : pr_R g0 h) (x : Int32) (hx : tc_cl h x) {g : qa_St} (he : xe g0 g) : ∃ g', xf_Re_touch g x = some (0, g') ∧ (∀ r k, ¬ (r = 77 ∧ k = 2) → g' r k = g r k) ∧ ∀ k, k < 32 → (pv_bit (g' 77 2) k ↔ (pv_bit (g 77 2) k ∨ rc_T g0 h x.toInt.toNat k)) := by
  have hN := hP.1
  obtain ⟨n0, n1, n2, n3⟩ := hN
  have hx1 := hx.1
  have hx2 := hx.2
  obtain ⟨g', a1, a2, a3⟩ := xs_touch2 hP hRR x.toInt.toNat (by omega) (x.toInt.toNat + 1) 0 4096 g (by omega) (by omega) he
  have ex : x = Int32.ofNat x.toInt.toNat := pv_nIe hx.1
  refine ⟨g', ?_, a2, fun k hk => ?_⟩
  · unfold xf_Re_touch
    have e : xf_Re_touch_2 4096 g x 0 = xf_Re_touch_2 4096 g (Int32.ofNat x.toInt.toNat) (Int32.ofNat 0) := congrFun (congrArg (xf_Re_touch_2 4096 g) ex) _
    exact e.trans a1
  · rw [a3 k hk]
    constructor
    · rintro (z | ⟨e, e1, e2, e3, e4⟩)
      · exact Or.inl z
      · exact Or.inr ⟨e, e2, e3, e4⟩
    · rintro (z | ⟨e, e2, e3, e4⟩)
      · exact Or.inl z
      · exact Or.inr ⟨e, by omega, e2, e3, e4⟩
