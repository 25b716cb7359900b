theorem xs_ts27 {g0 h : qa_St} (hP : pr_P h) (hRR : pr_R g0 h) {g : qa_St} (he : xe g0 g) (x3 x4 : Int32) (h3 : tc_cl h x3) (h4 : 0 ≤ x4.toInt ∧ x4.toInt < 4) : ∀ (d c n : Nat) (x5 : Int32), (c : Int) + d = (h 0 0).toInt → d < n → ∃ s, xf_Re_targetSet_27 n g x3 x4 x5 (Int32.ofNat c) = some (s, g) ∧ ∀ k, k < 32 → (pv_bit s k ↔ (pv_bit x5 k ∨ ∃ e : Nat, c ≤ e ∧ (e : Int) < (h 0 0).toInt ∧ pv_bit (g 77 3) e ∧ pv_bit (g0 2 e) x3.toInt.toNat ∧ (pr_an g0 h x4.toInt.toNat 7 e).toInt = (k : Int))) := by
  have hP0 := hP
  obtain ⟨hN, hC, hM, hU, hK, hG⟩ := hP
  have hN0 := hN
  obtain ⟨n0, n1, n2, n3⟩ := hN
  have em : (-1 : Int32).toInt = -1 := rfl
  have hRg := xp_R (xe_p he) hN0 hRR hC
  have hx1 := h3.1
  have hx2 := h3.2
  intro d
  induction d with
  | zero =>
    intro c n x5 hc hn
    obtain ⟨n, rfl⟩ : ∃ z, n = z + 1 := ⟨n - 1, by omega⟩
    have ec : (Int32.ofNat c).toInt = (c : Int) := pv_nI (by omega)
    refine ⟨x5, ?_, fun k hk => ⟨Or.inl, fun z => z.elim id (fun ⟨e, e1, e2, _⟩ => by omega)⟩⟩
    rw [xf_Re_targetSet_27]
    unfold xf_Pr_typeCount
    simp only [Option.bind_some]
    rw [if_pos (by rw [pv_le, hRg.1.1, ec]; omega)]
  | succ d ih =>
    intro c n x5 hc hn
    obtain ⟨n, rfl⟩ : ∃ z, n = z + 1 := ⟨n - 1, by omega⟩
    have ec : (Int32.ofNat c).toInt = (c : Int) := pv_nI (by omega)
    have ecn : (Int32.ofNat c).toInt.toNat = c := by omega
    have hbits : pv_bit (g 2 c) x3.toInt.toNat ↔ pv_bit (g0 2 c) x3.toInt.toNat := by rw [he 2 c (by decide)]
    have hge := pr_an_ge hN0 hC hRR.2.2.1 x4.toInt.toNat (by omega) 7 c (by omega)
    obtain ⟨s', w1, w2⟩ : ∃ s', xf_Re_targetSet_27 (n + 1) g x3 x4 x5 (Int32.ofNat c) = xf_Re_targetSet_27 n g x3 x4 s' (Int32.ofNat (c + 1)) ∧ ∀ k, k < 32 → (pv_bit s' k ↔ (pv_bit x5 k ∨ (pv_bit (g 77 3) c ∧ pv_bit (g0 2 c) x3.toInt.toNat ∧ (pr_an g0 h x4.toInt.toNat 7 c).toInt = (k : Int)))) := by
      rw [xf_Re_targetSet_27]
      unfold xf_Pr_typeCount
      simp only [Option.bind_some]
      rw [if_neg (by rw [pv_le, hRg.1.1, ec]; omega), xs_answering hN0 hC hRg.1.1 hRg.2.1, ecn, if_pos (by omega), xp_an (xe_p he) hN0 hC _ _ _ (by omega)]
      simp only [Option.bind_some]
      rw [xs_has _ _ _ (by omega), ecn]
      simp only [Option.bind_some, pv_b1]
      unfold xf_Re_targetSet_92
      rw [pv_n1]
      by_cases h1 : pv_bit (g 77 3) c
      · rw [if_neg (fun z => z h1), xs_isOf hN0 hRg.1.1, ecn]
        simp only [Option.bind_some, pv_b1]
        by_cases h2 : pv_bit (g0 2 c) x3.toInt.toNat
        · rw [if_neg (fun z => z ⟨by omega, h3, hbits.mpr h2⟩)]
          rcases hge with hz | ⟨hz1, hz2, -⟩
          · rw [if_pos hz]
            refine ⟨x5, rfl, fun k hk => ⟨Or.inl, fun z => z.elim id (fun y => ?_)⟩⟩
            rw [hz, em] at y
            omega
          · rw [if_neg (fun z => by rw [z] at hz1; exact absurd hz1 (by decide))]
            obtain ⟨t, ht⟩ : ∃ t : Nat, t = (pr_an g0 h x4.toInt.toNat 7 c).toInt.toNat := ⟨_, rfl⟩
            have et : pr_an g0 h x4.toInt.toNat 7 c = Int32.ofNat t := by rw [ht]; exact pv_nIe hz1
            refine ⟨_, rfl, fun k hk => ?_⟩
            rw [pv_bit_or, et, pv_bit_one32 t (by omega) k hk, pv_nI (by omega)]
            exact ⟨fun z => z.elim Or.inl (fun y => Or.inr ⟨h1, h2, by omega⟩), fun z => z.elim Or.inl (fun y => Or.inr (by omega))⟩
        · rw [if_pos (fun z => h2 (hbits.mp z.2.2))]
          exact ⟨x5, rfl, fun k hk => ⟨Or.inl, fun z => z.elim id (fun y => absurd y.2.1 h2)⟩⟩
      · rw [if_pos h1]
        exact ⟨x5, rfl, fun k hk => ⟨Or.inl, fun z => z.elim id (fun y => absurd y.1 h1)⟩⟩
    rw [w1]
    obtain ⟨s, a1, a2⟩ := ih (c + 1) n s' (by omega) (by omega)
    refine ⟨s, a1, fun k hk => ?_⟩
    rw [a2 k hk, w2 k hk]
    constructor
    · rintro ((z | z) | ⟨e, e1, e2⟩)
      · exact Or.inl z
      · exact Or.inr ⟨c, by omega, by omega, z⟩
      · exact Or.inr ⟨e, by omega, e2⟩
    · rintro (z | ⟨e, e1, e2, e3⟩)
      · exact Or.inl (Or.inl z)
      · by_cases hec : e = c
        · rw [hec] at e3
          exact Or.inl (Or.inr e3)
        · exact Or.inr ⟨e, by omega, e2, e3⟩
/-- the class's set of targets -/
theorem xs_targetSet {g0 h : qa_St} (hP : pr_P h) (hRR : pr_R g0 h) {g : qa_St} (he : xe g0 g) (hall : ∀ m : Nat, (m : Int) < (h 0 4).toInt → pc_m g0 h m) {m i : Nat} (hm : (m : Int) < (h 0 4).toInt) (hi : (i : Int) < (h 7 m).toInt) (hz : h 14 (20 * m + i) ≠ 0) (ho : (h 8 (20 * m + i)).toInt = 17) : ∃ s, xf_Re_targetSet g (Int32.ofNat m) (Int32.ofNat i) = some (s, g) ∧ ∀ k, k < 32 → (pv_bit s k ↔ rc_G g0 h (fun c => pv_bit (g 77 3) c) m i k) := by
  have hP0 := hP
  obtain ⟨hN, hC, hM, hU, hK, hG⟩ := hP
  have hN0 := hN
  obtain ⟨n0, n1, n2, n3⟩ := hN
  have q := hM m hm
  have qk := hK m i hm hi
  have e0 : (0 : Int32).toInt = 0 := rfl
  have e2 : (2 : Int32).toInt = 2 := rfl
  have e4 : (4 : Int32).toInt = 4 := rfl
  have e10 : (10 : Int32).toInt = 10 := rfl
  have em : (Int32.ofNat m).toInt = (m : Int) := pv_nI (by omega)
  have emn : (Int32.ofNat m).toInt.toNat = m := by omega
  have ei : (Int32.ofNat i).toInt = (i : Int) := pv_nI (by omega)
  have ein : (Int32.ofNat i).toInt.toNat = i := by omega
  have hRg := xp_R (xe_p he) hN0 hRR hC
  obtain ⟨s1, s2, s3, s4, s5, s6⟩ := rc_send (hall m hm) (by omega) hz ho
  have hD : pr_D g h := fun m' i' hm' hi' => by
    rw [he 74 _ (by decide)]
    have := (hall m' hm').2 i' hi'
    rcases this with y | ⟨y1, y2, y3, y4, y5⟩
    · exact Or.inl y
    · exact Or.inr ⟨y1, y2, y3, y4, fun p hp => by rw [he 73 _ (by decide)]; exact y5 p hp⟩
  have h14 : h 14 (20 * m + i) = 1 := by
    rcases (hall m hm).2 i (by omega) with y | y
    · exact absurd y.1 hz
    · exact y.1
  have er := (pr_row (h := h) (Int32.ofNat m) (Int32.ofNat i) (by omega) (by omega)).1
  rw [emn, ein] at er
  have erR : Int32.ofNat m * 20 + Int32.ofNat i = Int32.ofNat (20 * m + i) := by rw [pv_eq, er, pv_nI (by omega)]
  have eR : (Int32.ofNat (20 * m + i)).toInt = ((20 * m + i : Nat) : Int) := pv_nI (by omega)
  have eRn : (Int32.ofNat (20 * m + i)).toNatClampNeg = 20 * m + i := by rw [pv_cl]; omega
  have hRb : ¬ (Int32.ofNat (20 * m + i) < 0 ∨ 200 ≤ (Int32.ofNat (20 * m + i)).toNatClampNeg) := by rw [eRn, pv_lt, eR, e0]; omega
  have g74 : g 74 (20 * m + i) = h 15 (20 * m + i) := by rw [he 74 _ (by decide)]; exact s3
  have hx : (Int32.ofNat (20 * m + i) * 10).toInt = 10 * ((20 * m + i : Nat) : Int) := by rw [pv_mul (by rw [eR, e10]; omega) (by rw [eR, e10]; omega), eR, e10]; omega
  have hx4 : (Int32.ofNat (20 * m + i) * 10 + 4).toInt = 10 * ((20 * m + i : Nat) : Int) + 4 := by rw [pv_add (by rw [hx, e4]; omega) (by rw [hx, e4]; omega), hx, e4]
  have hx5 : (Int32.ofNat (20 * m + i) * 10 + 4 + h 15 (20 * m + i)).toInt = 10 * ((20 * m + i : Nat) : Int) + 4 + (h 15 (20 * m + i)).toInt := by rw [pv_add (by rw [hx4]; omega) (by rw [hx4]; omega), hx4]
  have hx6 : (Int32.ofNat (20 * m + i) * 10 + 4 + h 15 (20 * m + i) - 2).toInt = 10 * ((20 * m + i : Nat) : Int) + 2 + (h 15 (20 * m + i)).toInt := by rw [pv_sub (by rw [hx5, e2]; omega) (by rw [hx5, e2]; omega), hx5, e2]; omega
  have hx6n : (Int32.ofNat (20 * m + i) * 10 + 4 + h 15 (20 * m + i) - 2).toNatClampNeg = 10 * (20 * m + i) + 2 + (h 15 (20 * m + i)).toInt.toNat := by rw [pv_cl, hx6]; omega
  obtain ⟨x3, hx3⟩ : ∃ x3, x3 = h 16 (10 * (20 * m + i) + 2 + (h 15 (20 * m + i)).toInt.toNat) := ⟨_, rfl⟩
  have hrec : xf_Ch_receiverAt g (Int32.ofNat m) (Int32.ofNat i) = some (x3, g) := by
    unfold xf_Ch_receiverAt xf_Ch_rowOf xf_Ch_receiverAt_44
    rw [xs_isReached hN0 hRg.1.2 hD, emn, ein, if_pos ⟨by omega, by omega, h14⟩]
    simp only [Option.bind_some]
    rw [if_neg (by decide), erR, if_neg hRb, if_neg hRb, eRn, g74, if_neg (by rw [pv_lt, e2]; omega), if_neg (by rw [hx6n, pv_lt, hx6, e0]; omega), hx6n, he 73 _ (by decide), s4, hx3]
  have hop := (xs_opOf (Int32.ofNat m) (Int32.ofNat i) hN0 hM hRg.1.2 hRg.2.2.2.1 hRg.2.2.2.2.2.1 (by omega)).2
  rw [emn, ein, if_pos (by omega)] at hop
  have h2' := qk.2.2.2.1 (by rw [ho]; omega)
  obtain ⟨s, a1, a2⟩ := xs_ts27 hP0 hRR he x3 (h 9 (20 * m + i)) (by rw [hx3]; exact s5) (by omega) (h 0 0).toInt.toNat 0 4096 0 (by omega) (by omega)
  refine ⟨s, ?_, fun k hk => ?_⟩
  · unfold xf_Re_targetSet
    rw [hrec, Option.bind_some]
    rw [hop, Option.bind_some]
    exact a1
  · rw [a2 k hk]
    unfold rc_G rc_v
    rw [← hx3]
    constructor
    · rintro (z | ⟨e, e1, e2, e3, e4, e5⟩)
      · exact absurd z (pv_bit_z32 k hk)
      · exact ⟨e, e2, e3, e4, e5⟩
    · rintro ⟨e, e2, e3, e4, e5⟩
      exact Or.inr ⟨e, by omega, e2, e3, e4, e5⟩
/-- the sets of the class -/
def xLs (g : qa_St) (k : Nat) : Prop := k < 32 ∧ pv_bit (g 77 2) k
def xKs (g : qa_St) (k : Nat) : Prop := k < 32 ∧ pv_bit (g 77 3) k
theorem rc_G_bd {g h : qa_St} (hP : pr_P h) (hRR : pr_R g h) {K : Nat → Prop} {m i k : Nat} (hm : (m : Int) < (h 0 4).toInt) (hi : (i : Int) < (h 7 m).toInt) (ho : (h 8 (20 * m + i)).toInt = 17) (hg : rc_G g h K m i k) : (k : Int) < (h 0 4).toInt := by
  obtain ⟨hN, hC, hM, hU, hK, hG⟩ := hP
  have qk := hK m i hm hi
  have h2' := qk.2.2.2.1 (by rw [ho]; omega)
  obtain ⟨c, c1, c2, c3, c4⟩ := hg
  rcases pr_an_ge hN hC hRR.2.2.1 (h 9 (20 * m + i)).toInt.toNat (by omega) 7 c c1 with y | y
  · rw [y] at c4
    have em : (-1 : Int32).toInt = -1 := rfl
    omega
  · omega
theorem rc_T_bd {g h : qa_St} (hP : pr_P h) (hRR : pr_R g h) {c k : Nat} (hc : (c : Int) < (h 0 0).toInt) (ht : rc_T g h c k) : (k : Int) < (h 0 4).toInt := by
  obtain ⟨hN, hC, hM, hU, hK, hG⟩ := hP
  obtain ⟨d, d1, d2, d3⟩ := ht
  have := pr_bit_le hN hC hRR.2.1 c hc d d1 d2
  have := hC d (by omega)
  omega
/-- following an instruction, in the class -/
theorem xs_follow {g0 h : qa_St} (hP : pr_P h) (hRR : pr_R g0 h) {g : qa_St} (he : xe g0 g) (hall : ∀ m : Nat, (m : Int) < (h 0 4).toInt → pc_m g0 h m) {m i : Nat} (hm : (m : Int) < (h 0 4).toInt) (hi : (i : Int) < (h 7 m).toInt) (hz : h 14 (20 * m + i) ≠ 0) :
    ∃ g', xf_Re_follow g (Int32.ofNat m) (Int32.ofNat i) = some (0, g') ∧ xe g0 g' ∧ (∀ k, xLs g k → xLs g' k) ∧ (∀ k, xKs g k → xKs g' k) ∧ (∀ L K : Nat → Prop, (∀ k, xLs g k → L k) → (∀ k, xKs g k → K k) → rc_f g0 h L K m i → (∀ k, xLs g' k → L k) ∧ (∀ k, xKs g' k → K k)) ∧ ((∀ k, xLs g' k → xLs g k) → (∀ k, xKs g' k → xKs g k) → rc_f g0 h (xLs g) (xKs g) m i) := by
  have hP0 := hP
  obtain ⟨hN, hC, hM, hU, hK, hG⟩ := hP
  have hN0 := hN
  obtain ⟨n0, n1, n2, n3⟩ := hN
  have q := hM m hm
  have qk := hK m i hm hi
  have em : (Int32.ofNat m).toInt = (m : Int) := pv_nI (by omega)
  have emn : (Int32.ofNat m).toInt.toNat = m := by omega
  have ei : (Int32.ofNat i).toInt = (i : Int) := pv_nI (by omega)
  have ein : (Int32.ofNat i).toInt.toNat = i := by omega
  have hRg := xp_R (xe_p he) hN0 hRR hC
  have hop := xs_opOf (Int32.ofNat m) (Int32.ofNat i) hN0 hM hRg.1.2 hRg.2.2.2.1 hRg.2.2.2.2.2.1 (by omega)
  rw [emn, ein, if_pos (by omega), if_pos (by omega)] at hop
  obtain ⟨x1, hx1⟩ : ∃ x, x = h 8 (20 * m + i) := ⟨_, rfl⟩
  obtain ⟨x2, hx2⟩ : ∃ x, x = h 9 (20 * m + i) := ⟨_, rfl⟩
  have hts : x1.toInt = 17 → ∃ s, xf_Re_targetSet g (Int32.ofNat m) (Int32.ofNat i) = some (s, g) ∧ ∀ k, k < 32 → (pv_bit s k ↔ rc_G g0 h (fun c => pv_bit (g 77 3) c) m i k) := fun z => xs_targetSet hP0 hRR he hall hm hi hz (by rw [← hx1]; exact z)
  unfold rc_f
  rw [← hx1, ← hx2] at hop qk ⊢
  obtain ⟨t1, t2, t3, t4, t5⟩ := qk.2.2
  have hf : xf_Re_follow g (Int32.ofNat m) (Int32.ofNat i) = (if x1 = 11 then ((xf_Re_touch (qa_up g 77 3 ((g 77 3) ||| ((1 : Int32) <<< (x2 &&& 31)))) x2).bind fun t74 => (some (0, t74.2))) else (if x1 = 12 then (some (0, g)) else (if x1 = 13 then (some (0, g)) else (if x1 = 14 then ((xf_Re_touch g x2).bind fun t82 => (some (0, t82.2))) else (if x1 = 15 then ((xf_Re_touch g x2).bind fun t82 => (some (0, t82.2))) else (if x1 = 16 then ((xf_Re_reachCall g x2).bind fun t90 => (some (0, t90.2))) else (if x1 = 17 then ((xf_Re_targetSet g (Int32.ofNat m) (Int32.ofNat i)).bind fun t104 => (some (0, (qa_up t104.2 77 2 ((g 77 2) ||| t104.1))))) else (some (0, g))))))))) := by
    unfold xf_Re_follow
    rw [hop.2]
    simp only [Option.bind_some]
    rw [hop.1]
    simp only [Option.bind_some]
  have v : ∀ n : Nat, n < 30 → (x1 = Int32.ofNat n ↔ x1.toInt = (n : Int)) := fun n hn => by rw [pv_eq, pv_nI (by omega)]
  have v11 := v 11 (by omega)
  have v12 := v 12 (by omega)
  have v13 := v 13 (by omega)
  have v14 := v 14 (by omega)
  have v15 := v 15 (by omega)
  have v16 := v 16 (by omega)
  have v17 := v 17 (by omega)
  have hidle : (¬ x1.toInt = 11 ∧ ¬ x1.toInt = 14 ∧ ¬ x1.toInt = 15 ∧ ¬ x1.toInt = 16 ∧ ¬ x1.toInt = 17) → ∃ g', some ((0 : Int32), g) = some (0, g') ∧ xe g0 g' ∧ (∀ k, xLs g k → xLs g' k) ∧ (∀ k, xKs g k → xKs g' k) ∧ (∀ L K : Nat → Prop, (∀ k, xLs g k → L k) → (∀ k, xKs g k → K k) → ((x1.toInt = 11 → K x2.toInt.toNat) ∧ ((x1.toInt = 11 ∨ x1.toInt = 14 ∨ x1.toInt = 15) → ∀ k, rc_T g0 h x2.toInt.toNat k → L k) ∧ (x1.toInt = 16 → L x2.toInt.toNat ∧ ∀ k, rc_T g0 h (h 4 x2.toInt.toNat).toInt.toNat k → L k) ∧ (x1.toInt = 17 → ∀ k, rc_G g0 h K m i k → L k)) → (∀ k, xLs g' k → L k) ∧ (∀ k, xKs g' k → K k)) ∧ ((∀ k, xLs g' k → xLs g k) → (∀ k, xKs g' k → xKs g k) → ((x1.toInt = 11 → xKs g x2.toInt.toNat) ∧ ((x1.toInt = 11 ∨ x1.toInt = 14 ∨ x1.toInt = 15) → ∀ k, rc_T g0 h x2.toInt.toNat k → xLs g k) ∧ (x1.toInt = 16 → xLs g x2.toInt.toNat ∧ ∀ k, rc_T g0 h (h 4 x2.toInt.toNat).toInt.toNat k → xLs g k) ∧ (x1.toInt = 17 → ∀ k, rc_G g0 h (xKs g) m i k → xLs g k))) := fun hx => ⟨g, rfl, he, fun _ z => z, fun _ z => z, fun L K h1 h2 _ => ⟨h1, h2⟩, fun _ _ => ⟨fun z => by omega, fun z => by omega, fun z => by omega, fun z => by omega⟩⟩
  rw [hf]
  by_cases h11 : x1 = 11
  · rw [if_pos h11]
    have hv := v11.mp h11
    have hcl := t1 (by omega)
    obtain ⟨a, ha⟩ : ∃ a : Nat, a = x2.toInt.toNat := ⟨_, rfl⟩
    have ea : x2 = Int32.ofNat a := by rw [ha]; exact pv_nIe hcl.1
    obtain ⟨g1, hg1⟩ : ∃ g1, g1 = qa_up g 77 3 ((g 77 3) ||| ((1 : Int32) <<< (x2 &&& 31))) := ⟨_, rfl⟩
    rw [← hg1]
    have k3 : ∀ k, k < 32 → (pv_bit (g1 77 3) k ↔ (pv_bit (g 77 3) k ∨ k = a)) := fun k hk => by
      rw [hg1, pv_self, pv_bit_or, ea, pv_bit_one32 a (by omega) k hk]
      exact ⟨fun z => z.elim Or.inl (fun y => Or.inr y.symm), fun z => z.elim Or.inl (fun y => Or.inr y.symm)⟩
    have k2 : g1 77 2 = g 77 2 := by rw [hg1, pv_ni (by decide)]
    obtain ⟨g', a1, a2, a3⟩ := xs_touch hP0 hRR x2 hcl (g := g1) (fun r k hr => by rw [hg1, pv_nr hr]; exact he r k hr)
    rw [a1]
    have k3' : ∀ k, xKs g' k ↔ (xKs g k ∨ k = a) := fun k => by
      unfold xKs
      rw [a2 77 3 (by decide)]
      constructor
      · rintro ⟨z1, z2⟩
        exact ((k3 k z1).mp z2).elim (fun y => Or.inl ⟨z1, y⟩) Or.inr
      · rintro (⟨z1, z2⟩ | z)
        · exact ⟨z1, (k3 k z1).mpr (Or.inl z2)⟩
        · exact ⟨by omega, (k3 k (by omega)).mpr (Or.inr z)⟩
    have k2' : ∀ k, xLs g' k ↔ (xLs g k ∨ rc_T g0 h x2.toInt.toNat k) := fun k => by
      unfold xLs
      constructor
      · rintro ⟨z1, z2⟩
        have := (a3 k z1).mp z2
        rw [k2] at this
        exact this.elim (fun y => Or.inl ⟨z1, y⟩) Or.inr
      · rintro (⟨z1, z2⟩ | z)
        · exact ⟨z1, (a3 k z1).mpr (Or.inl (by rw [k2]; exact z2))⟩
        · have := rc_T_bd hP0 hRR (by omega) z
          exact ⟨by omega, (a3 k (by omega)).mpr (Or.inr z)⟩
    refine ⟨g', rfl, fun r k hr => by rw [a2 r k (by omega), hg1, pv_nr hr]; exact he r k hr, fun k z => (k2' k).mpr (Or.inl z), fun k z => (k3' k).mpr (Or.inl z), fun L K h1 h2 hr => ⟨fun k z => ((k2' k).mp z).elim (h1 k) (hr.2.1 (Or.inl hv) k), fun k z => ((k3' k).mp z).elim (h2 k) (fun y => by rw [y, ha]; exact hr.1 hv)⟩, fun h1 h2 => ⟨fun _ => h2 _ ((k3' _).mpr (Or.inr ha.symm)), fun _ k z => h1 k ((k2' k).mpr (Or.inr z)), fun z => by omega, fun z => by omega⟩⟩
  · rw [if_neg h11]
    by_cases h12 : x1 = 12
    · rw [if_pos h12]
      have hv := v12.mp h12
      exact hidle (by omega)
    · rw [if_neg h12]
      by_cases h13 : x1 = 13
      · rw [if_pos h13]
        have hv := v13.mp h13
        exact hidle (by omega)
      · rw [if_neg h13]
        have htouch : (x1.toInt = 14 ∨ x1.toInt = 15) → ∃ g', ((xf_Re_touch g x2).bind fun t82 => (some ((0 : Int32), t82.2))) = some (0, g') ∧ xe g0 g' ∧ (∀ k, xLs g k → xLs g' k) ∧ (∀ k, xKs g k → xKs g' k) ∧ (∀ L K : Nat → Prop, (∀ k, xLs g k → L k) → (∀ k, xKs g k → K k) → ((x1.toInt = 11 → K x2.toInt.toNat) ∧ ((x1.toInt = 11 ∨ x1.toInt = 14 ∨ x1.toInt = 15) → ∀ k, rc_T g0 h x2.toInt.toNat k → L k) ∧ (x1.toInt = 16 → L x2.toInt.toNat ∧ ∀ k, rc_T g0 h (h 4 x2.toInt.toNat).toInt.toNat k → L k) ∧ (x1.toInt = 17 → ∀ k, rc_G g0 h K m i k → L k)) → (∀ k, xLs g' k → L k) ∧ (∀ k, xKs g' k → K k)) ∧ ((∀ k, xLs g' k → xLs g k) → (∀ k, xKs g' k → xKs g k) → ((x1.toInt = 11 → xKs g x2.toInt.toNat) ∧ ((x1.toInt = 11 ∨ x1.toInt = 14 ∨ x1.toInt = 15) → ∀ k, rc_T g0 h x2.toInt.toNat k → xLs g k) ∧ (x1.toInt = 16 → xLs g x2.toInt.toNat ∧ ∀ k, rc_T g0 h (h 4 x2.toInt.toNat).toInt.toNat k → xLs g k) ∧ (x1.toInt = 17 → ∀ k, rc_G g0 h (xKs g) m i k → xLs g k))) := fun hv => by
          have hcl := t1 (by omega)
          obtain ⟨g', a1, a2, a3⟩ := xs_touch hP0 hRR x2 hcl he
          rw [a1]
          have k2' : ∀ k, xLs g' k ↔ (xLs g k ∨ rc_T g0 h x2.toInt.toNat k) := fun k => by
            unfold xLs
            constructor
            · rintro ⟨z1, z2⟩
              exact ((a3 k z1).mp z2).elim (fun y => Or.inl ⟨z1, y⟩) Or.inr
            · rintro (⟨z1, z2⟩ | z)
              · exact ⟨z1, (a3 k z1).mpr (Or.inl z2)⟩
              · have := rc_T_bd hP0 hRR (by omega) z
                exact ⟨by omega, (a3 k (by omega)).mpr (Or.inr z)⟩
          have k3' : ∀ k, xKs g' k ↔ xKs g k := fun k => by unfold xKs; rw [a2 77 3 (by decide)]
          exact ⟨g', rfl, fun r k hr => by rw [a2 r k (by omega)]; exact he r k hr, fun k z => (k2' k).mpr (Or.inl z), fun k z => (k3' k).mpr z, fun L K h1 h2 hr => ⟨fun k z => ((k2' k).mp z).elim (h1 k) (hr.2.1 (Or.inr hv) k), fun k z => h2 k ((k3' k).mp z)⟩, fun h1 h2 => ⟨fun z => by omega, fun _ k z => h1 k ((k2' k).mpr (Or.inr z)), fun z => by omega, fun z => by omega⟩⟩
        by_cases h14 : x1 = 14
        · rw [if_pos h14]
          have hv := v14.mp h14
          exact htouch (Or.inl hv)
        · rw [if_neg h14]
          by_cases h15 : x1 = 15
          · rw [if_pos h15]
            have hv := v15.mp h15
            exact htouch (Or.inr hv)
          · rw [if_neg h15]
            by_cases h16 : x1 = 16
            · rw [if_pos h16]
              have hv := v16.mp h16
              have ht5 := t5 hv
              have qa := hM x2.toInt.toNat (by omega)
              obtain ⟨a, ha⟩ : ∃ a : Nat, a = x2.toInt.toNat := ⟨_, rfl⟩
              have ea : x2 = Int32.ofNat a := by rw [ha]; exact pv_nIe ht5.1
              obtain ⟨g1, hg1⟩ : ∃ g1, g1 = qa_up g 77 2 ((g 77 2) ||| ((1 : Int32) <<< (x2 &&& 31))) := ⟨_, rfl⟩
              have he1 : xe g0 g1 := fun r k hr => by rw [hg1, pv_nr hr]; exact he r k hr
              have hR1 := xp_R (xe_p he1) hN0 hRR hC
              have how := xs_ownerOf x2 hN0 hR1.1.2 hR1.2.2.2.1
              rw [if_pos ⟨ht5.1, ht5.2.1⟩] at how
              obtain ⟨g', a1, a2, a3⟩ := xs_touch hP0 hRR (h 4 x2.toInt.toNat) (by omega) he1
              unfold xf_Re_reachCall
              rw [← hg1, how]
              simp only [Option.bind_some]
              rw [a1]
              have k2 : ∀ k, k < 32 → (pv_bit (g1 77 2) k ↔ (pv_bit (g 77 2) k ∨ k = a)) := fun k hk => by
                rw [hg1, pv_self, pv_bit_or, ea, pv_bit_one32 a (by omega) k hk]
                exact ⟨fun z => z.elim Or.inl (fun y => Or.inr y.symm), fun z => z.elim Or.inl (fun y => Or.inr y.symm)⟩
              have k2' : ∀ k, xLs g' k ↔ ((xLs g k ∨ k = a) ∨ rc_T g0 h (h 4 x2.toInt.toNat).toInt.toNat k) := fun k => by
                unfold xLs
                constructor
                · rintro ⟨z1, z2⟩
                  rcases (a3 k z1).mp z2 with y | y
                  · exact Or.inl (((k2 k z1).mp y).elim (fun w => Or.inl ⟨z1, w⟩) Or.inr)
                  · exact Or.inr y
                · rintro ((⟨z1, z2⟩ | z) | z)
                  · exact ⟨z1, (a3 k z1).mpr (Or.inl ((k2 k z1).mpr (Or.inl z2)))⟩
                  · exact ⟨by omega, (a3 k (by omega)).mpr (Or.inl ((k2 k (by omega)).mpr (Or.inr z)))⟩
                  · have := rc_T_bd hP0 hRR (by omega) z
                    exact ⟨by omega, (a3 k (by omega)).mpr (Or.inr z)⟩
              have k3' : ∀ k, xKs g' k ↔ xKs g k := fun k => by unfold xKs; rw [a2 77 3 (by decide), hg1, pv_ni (by decide)]
              exact ⟨g', rfl, fun r k hr => by rw [a2 r k (by omega)]; exact he1 r k hr, fun k z => (k2' k).mpr (Or.inl (Or.inl z)), fun k z => (k3' k).mpr z, fun L K h1 h2 hr => ⟨fun k z => ((k2' k).mp z).elim (fun y => y.elim (h1 k) (fun w => by rw [w, ha]; exact (hr.2.2.1 hv).1)) ((hr.2.2.1 hv).2 k), fun k z => h2 k ((k3' k).mp z)⟩, fun h1 h2 => ⟨fun z => by omega, fun z => by omega, fun _ => ⟨h1 _ ((k2' _).mpr (Or.inl (Or.inr ha.symm))), fun k z => h1 k ((k2' k).mpr (Or.inr z))⟩, fun z => by omega⟩⟩
            · rw [if_neg h16]
              by_cases h17 : x1 = 17
              · rw [if_pos h17]
                have hv := v17.mp h17
                obtain ⟨s, a1, a2⟩ := hts hv
                rw [a1]
                have hGe : ∀ k, rc_G g0 h (fun c => pv_bit (g 77 3) c) m i k ↔ rc_G g0 h (xKs g) m i k := fun k => by
                  constructor
                  · rintro ⟨c, c1, c2, c3⟩
                    exact ⟨c, c1, ⟨by omega, c2⟩, c3⟩
                  · rintro ⟨c, c1, c2, c3⟩
                    exact ⟨c, c1, c2.2, c3⟩
                obtain ⟨g', hg'⟩ : ∃ g', g' = qa_up g 77 2 ((g 77 2) ||| s) := ⟨_, rfl⟩
                have k2' : ∀ k, xLs g' k ↔ (xLs g k ∨ rc_G g0 h (xKs g) m i k) := fun k => by
                  unfold xLs
                  rw [hg', pv_self, pv_bit_or]
                  constructor
                  · rintro ⟨z1, z2 | z2⟩
                    · exact Or.inl ⟨z1, z2⟩
                    · exact Or.inr ((hGe k).mp ((a2 k z1).mp z2))
                  · rintro (⟨z1, z2⟩ | z)
                    · exact ⟨z1, Or.inl z2⟩
                    · have := rc_G_bd hP0 hRR hm hi (by rw [← hx1]; exact hv) z
                      exact ⟨by omega, Or.inr ((a2 k (by omega)).mpr ((hGe k).mpr z))⟩
                have k3' : ∀ k, xKs g' k ↔ xKs g k := fun k => by unfold xKs; rw [hg', pv_ni (by decide)]
                refine ⟨g', by rw [hg']; rfl, fun r k hr => by rw [hg', pv_nr hr]; exact he r k hr, fun k z => (k2' k).mpr (Or.inl z), fun k z => (k3' k).mpr z, fun L K h1 h2 hr => ⟨fun k z => ((k2' k).mp z).elim (h1 k) (fun y => hr.2.2.2 hv k ?_), fun k z => h2 k ((k3' k).mp z)⟩, fun h1 h2 => ⟨fun z => by omega, fun z => by omega, fun z => by omega, fun _ k z => h1 k ((k2' k).mpr (Or.inr z))⟩⟩
                obtain ⟨c, c1, c2, c3⟩ := y
                exact ⟨c, c1, h2 c c2, c3⟩
              · rw [if_neg h17]
                refine hidle ⟨fun z => h11 (v11.mpr z), fun z => h14 (v14.mpr z), fun z => h15 (v15.mpr z), fun z => h16 (v16.mpr z), fun z => h17 (v17.mpr z)⟩
