/-! The class: arriving at an instruction -/
theorem tc_lub_cg {g g0 h : qa_St} (hp : xp g0 g) {a b j : Int32} (hl : tc_lub g h a b j) : tc_lub g0 h a b j := by
  have e : g 2 = g0 2 := funext fun k => hp 2 k (by omega)
  unfold tc_lub tc_le at *
  rw [e] at hl
  exact hl
theorem tc_tk2_cl {h : qa_St} {f : tc_F} {q : Int32 × tc_F} (hq : tc_tk h 2 f = some q) : tc_cl h q.1 := by
  rw [tc_tk2] at hq
  obtain ⟨p, p1, p2⟩ := tc_bind hq
  by_cases hc : tc_cl h p.1
  · rw [if_pos hc] at p2; cases p2; exact hc
  · rw [if_neg hc] at p2; cases p2
theorem tc_ef_cg {g g0 h : qa_St} (hp : xp g0 g) (hN : pr_N h) (hC : pr_C h) (op : Int) (a : Int32) (f : tc_F) : tc_ef g h op a f = tc_ef g0 h op a f := by
  have e : g 3 = g0 3 := funext fun k => hp 3 k (by omega)
  have e17 : ((tc_tks h 1 f).bind fun p => (tc_tk h 2 p).bind fun q => if pr_an g h a.toInt.toNat 7 q.1.toInt.toNat = -1 then none else tc_pt 9 q.2) = ((tc_tks h 1 f).bind fun p => (tc_tk h 2 p).bind fun q => if pr_an g0 h a.toInt.toNat 7 q.1.toInt.toNat = -1 then none else tc_pt 9 q.2) := by
    cases tc_tks h 1 f with
    | none => rfl
    | some p =>
      show ((tc_tk h 2 p).bind fun q => if pr_an g h a.toInt.toNat 7 q.1.toInt.toNat = -1 then none else tc_pt 9 q.2) = _
      cases ht : tc_tk h 2 p with
      | none => show _ = ((tc_tk h 2 p).bind _); rw [ht]; rfl
      | some q =>
        have hc := tc_tk2_cl ht
        show (if pr_an g h a.toInt.toNat 7 q.1.toInt.toNat = -1 then none else tc_pt 9 q.2) = ((tc_tk h 2 p).bind _)
        rw [ht, xp_an hp hN hC _ _ _ (by have := hc.1; have := hc.2; omega)]
        rfl
  unfold tc_ef
  rw [e, e17]
theorem xs_arr106 {g0 h : qa_St} (hP : pr_P h) (hRR : pr_R g0 h) (R k : Nat) (hR : R < 200) (hk : k ≤ 6) (x1 x3 : Int32) : ∀ (d p n : Nat) (g : qa_St), xp g0 g → p + d = 4 + k → d < n → g 74 R = Int32.ofNat k → ∃ g', xf_Ch_arriveAt_106 n g x1 (Int32.ofNat R) x3 (Int32.ofNat p) = some (0, g') ∧ (∀ r q, r ≠ 73 → ¬ (r = 72 ∧ q = 5) → g' r q = g r q) ∧ (∀ q, ¬ (10 * R + p ≤ q ∧ q < 10 * R + 4 + k) → g' 73 q = g 73 q) ∧ (∀ q, p ≤ q → q < 4 + k → (x3 ≠ 0 → g' 73 (10 * R + q) = g 76 q) ∧ (x3 = 0 → tc_va h (g 73 (10 * R + q)) → tc_va h (g 76 q) → tc_lub g0 h (g 73 (10 * R + q)) (g 76 q) (g' 73 (10 * R + q)))) ∧ ((g' 72 5 = g 72 5 ∧ ∀ q, p ≤ q → q < 4 + k → g' 73 (10 * R + q) = g 73 (10 * R + q)) ∨ (g' 72 5 = g 72 5 ||| ((1 : Int32) <<< (x1 &&& 31)) ∧ ∃ q, p ≤ q ∧ q < 4 + k ∧ g' 73 (10 * R + q) ≠ g 73 (10 * R + q))) := by
  intro d
  obtain ⟨hN, hC, hM, hU, hK, hG⟩ := hP
  have hN0 := hN
  obtain ⟨n0, n1, n2, n3⟩ := hN
  have e0 : (0 : Int32).toInt = 0 := rfl
  have e4 : (4 : Int32).toInt = 4 := rfl
  have e10 : (10 : Int32).toInt = 10 := rfl
  have eR : (Int32.ofNat R).toInt = (R : Int) := pv_nI (by omega)
  have eRn : (Int32.ofNat R).toInt.toNat = R := by omega
  have ek : (Int32.ofNat k).toInt = (k : Int) := pv_nI (by omega)
  have e4k : ((4 : Int32) + Int32.ofNat k).toInt = 4 + (k : Int) := by rw [pv_add (by rw [e4, ek]; omega) (by rw [e4, ek]; omega), e4, ek]
  have e10R : (Int32.ofNat R * 10).toInt = 10 * (R : Int) := by rw [pv_mul (by rw [eR, e10]; omega) (by rw [eR, e10]; omega), eR, e10]; omega
  induction d with
  | zero =>
    intro p n g hp hpd hn hg
    obtain ⟨n, rfl⟩ : ∃ z, n = z + 1 := ⟨n - 1, by omega⟩
    have ep : (Int32.ofNat p).toInt = (p : Int) := pv_nI (by omega)
    refine ⟨g, ?_, fun _ _ _ _ => rfl, fun _ _ => rfl, fun q h1 h2 => by omega, Or.inl ⟨rfl, fun _ _ _ => rfl⟩⟩
    rw [xf_Ch_arriveAt_106, if_neg (by rw [pv_lt, pv_cl, eR, e0]; omega), pv_cl, eRn, hg, if_pos (by rw [pv_le, e4k, ep]; omega)]
  | succ d ih =>
    intro p n g hp hpd hn hg
    obtain ⟨n, rfl⟩ : ∃ z, n = z + 1 := ⟨n - 1, by omega⟩
    have ep : (Int32.ofNat p).toInt = (p : Int) := pv_nI (by omega)
    have epn : (Int32.ofNat p).toInt.toNat = p := by omega
    have eRp : (Int32.ofNat R * 10 + Int32.ofNat p).toInt = 10 * (R : Int) + p := by rw [pv_add (by rw [e10R, ep]; omega) (by rw [e10R, ep]; omega), e10R, ep]
    have eRpn : (Int32.ofNat R * 10 + Int32.ofNat p).toNatClampNeg = 10 * R + p := by rw [pv_cl, eRp]; omega
    have hb : ¬ (Int32.ofNat R * 10 + Int32.ofNat p < 0 ∨ 2000 ≤ (Int32.ofNat R * 10 + Int32.ofNat p).toNatClampNeg) := by rw [eRpn, pv_lt, eRp, e0]; omega
    have hnew : ∃ t, xf_Ch_arriveAt_106 (n + 1) g x1 (Int32.ofNat R) x3 (Int32.ofNat p) = xf_Ch_arriveAt_164 (xf_Ch_arriveAt_106 n) g x1 (Int32.ofNat R) x3 (Int32.ofNat p) (g 73 (10 * R + p)) t ∧ (x3 ≠ 0 → t = g 76 p) ∧ (x3 = 0 → tc_va h (g 73 (10 * R + p)) → tc_va h (g 76 p) → tc_lub g0 h (g 73 (10 * R + p)) (g 76 p) t) := by
      rw [xf_Ch_arriveAt_106, if_neg (by rw [pv_lt, pv_cl, eR, e0]; omega), pv_cl (Int32.ofNat R), eRn, hg, if_neg (by rw [pv_le, e4k, ep]; omega), if_neg hb, xs_place 75 (Int32.ofNat p) (by omega), epn, eRpn]
      simp only [Option.bind_some]
      by_cases h3 : x3 = 0
      · have hRg := xp_R hp hN0 hRR hC
        obtain ⟨j, j1, j2⟩ := xs_join hN0 hC hRg.2.1 hRg.1.1 (g 73 (10 * R + p)) (g (75 + 1) p)
        rw [if_pos h3, j1]
        exact ⟨j, rfl, fun z => absurd h3 z, fun _ v1 v2 => tc_lub_cg hp (j2 v1 v2)⟩
      · rw [if_neg h3]
        exact ⟨_, rfl, fun _ => rfl, fun z => absurd z h3⟩
    obtain ⟨t, t1, t2, t3⟩ := hnew
    rw [t1]
    unfold xf_Ch_arriveAt_164
    by_cases hch : t = g 73 (10 * R + p)
    · rw [if_pos hch]
      unfold xf_Ch_arriveAt_199
      rw [pv_n1]
      obtain ⟨g', a1, a2, a3, a4, a5⟩ := ih (p + 1) n g hp (by omega) (by omega) hg
      have hpp : g' 73 (10 * R + p) = g 73 (10 * R + p) := a3 _ (by omega)
      refine ⟨g', a1, a2, fun q hq => a3 q (by omega), fun q q1 q2 => ?_, ?_⟩
      · by_cases hqp : q = p
        · rw [hqp, hpp]
          exact ⟨fun z => by rw [← hch]; exact t2 z, fun z v1 v2 => by have := t3 z v1 v2; rw [hch] at this; exact this⟩
        · exact a4 q (by omega) q2
      · rcases a5 with ⟨b1, b2⟩ | ⟨b1, q, b2, b3, b4⟩
        · refine Or.inl ⟨b1, fun q q1 q2 => ?_⟩
          by_cases hqp : q = p
          · rw [hqp]; exact hpp
          · exact b2 q (by omega) q2
        · exact Or.inr ⟨b1, q, by omega, b3, b4⟩
    · rw [if_neg hch, if_neg hb]
      unfold xf_Ch_arriveAt_196 xf_Ch_arriveAt_199
      rw [eRpn, pv_n1, pv_nr (show (72 : Nat) ≠ 73 by decide)]
      obtain ⟨gn, hgn⟩ : ∃ gn, gn = qa_up (qa_up g 73 (10 * R + p) t) 72 5 (g 72 5 ||| ((1 : Int32) <<< (x1 &&& 31))) := ⟨_, rfl⟩
      rw [← hgn]
      have k1 : ∀ r q, r ≠ 73 → ¬ (r = 72 ∧ q = 5) → gn r q = g r q := fun r q h1 h2 => by rw [hgn, pv_get, if_neg h2, pv_nr h1]
      have k2 : ∀ q, gn 73 q = if q = 10 * R + p then t else g 73 q := fun q => by
        rw [hgn, pv_nr (show (73 : Nat) ≠ 72 by decide), pv_get]
        by_cases hq : q = 10 * R + p
        · rw [if_pos ⟨rfl, hq⟩, if_pos hq]
        · rw [if_neg (fun z => hq z.2), if_neg hq]
      have k3 : gn 72 5 = g 72 5 ||| ((1 : Int32) <<< (x1 &&& 31)) := by rw [hgn]; exact pv_self
      obtain ⟨g', a1, a2, a3, a4, a5⟩ := ih (p + 1) n gn (fun r q hr => by rw [k1 r q (by omega) (by omega)]; exact hp r q hr) (by omega) (by omega) (by rw [k1 74 R (by decide) (by omega)]; exact hg)
      have hpp : g' 73 (10 * R + p) = t := by rw [a3 _ (by omega), k2, if_pos rfl]
      have k76 : ∀ q, gn 76 q = g 76 q := fun q => k1 76 q (by decide) (by omega)
      refine ⟨g', a1, fun r q h1 h2 => by rw [a2 r q h1 h2, k1 r q h1 h2], fun q hq => by rw [a3 q (by omega), k2, if_neg (by omega)], fun q q1 q2 => ?_, Or.inr ⟨?_, p, by omega, by omega, by rw [hpp]; exact hch⟩⟩
      · by_cases hqp : q = p
        · rw [hqp, hpp]; exact ⟨t2, t3⟩
        · have := a4 q (by omega) q2
          rw [k76, k2, if_neg (by omega)] at this
          exact this
      · rcases a5 with ⟨b1, b2⟩ | ⟨b1, b2⟩
        · rw [b1, k3]
        · rw [b1, k3, Int32.or_assoc, Int32.or_self]

def xN (g : qa_St) (m i : Nat) : Int := (g 74 (20 * m + i)).toInt
def xV (g : qa_St) (m i p : Nat) : Int32 := g 73 (10 * (20 * m + i) + p)
def xh (g0 : qa_St) (m : Nat) (g : qa_St) : Prop := xp g0 g ∧ g 72 4 = Int32.ofNat m ∧ ∀ r, 20 * m ≤ r → r < 20 * m + 20 → g 74 r = -1 ∨ ∃ n, n ≤ 6 ∧ g 74 r = Int32.ofNat n
theorem pv_bit_one20 : ∀ j, j < 20 → ∀ k, k < 32 → (pv_bit ((1 : Int32) <<< (Int32.ofNat j &&& 31)) k ↔ j = k) := by decide +kernel
/-- an arrival is good: the place is there, and the sizes agree -/
def xgd (h : qa_St) (m : Nat) (g : qa_St) (o : Option tc_F) (x1 : Int32) : Prop := ∃ f, o = some f ∧ 0 ≤ x1.toInt ∧ x1.toInt < (h 7 m).toInt ∧ (xN g m x1.toInt.toNat = -1 ∨ xN g m x1.toInt.toNat = (f.1 : Int))
theorem xo_cg {g g' : qa_St} {o : Option tc_F} (ho : xo g o) (h1 : g' 72 6 = g 72 6) (h2 : g' 75 1 = g 75 1) (h3 : ∀ p, g' 76 p = g 76 p) : xo g' o := by
  refine ⟨fun f hf => ?_, fun hn => ?_⟩
  · obtain ⟨a1, a2, a3, a4⟩ := ho.1 f hf
    exact ⟨h1.trans a1, a2, h2.trans a3, fun p hp => (h3 p).trans (a4 p hp)⟩
  · obtain ⟨a1, n, a2, a3⟩ := ho.2 hn
    exact ⟨h1.trans a1, n, a2, h2.trans a3⟩
theorem xs_arrive {g0 h g : qa_St} (hP : pr_P h) (hRR : pr_R g0 h) {m : Nat} (hm : (m : Int) < (h 0 4).toInt) (hh : xh g0 m g) {o : Option tc_F} (ho : xo g o) (x1 : Int32) :
    ∃ g', xf_Ch_arriveAt g x1 = some (0, g') ∧ xh g0 m g' ∧ (∀ r k, r ≠ 72 → r ≠ 73 → r ≠ 74 → r ≠ 75 → r ≠ 76 → g' r k = g r k) ∧ (∀ r, (r < 20 * m ∨ 20 * m + 20 ≤ r) → g' 74 r = g 74 r ∧ ∀ p, p < 10 → g' 73 (10 * r + p) = g 73 (10 * r + p)) ∧ (∀ r, g 74 r ≠ -1 → g' 74 r = g 74 r) ∧
      (xgd h m g o x1 → xo g' o ∧ ∀ f, o = some f → (tc_gd h m (xN g m) (xV g m) → tc_ok h f → tc_ss g0 h (xN g m) (xV g m) x1.toInt.toNat f (xN g' m) (xV g' m)) ∧ ∀ k, k < 32 → (pv_bit (g' 72 5) k ↔ (pv_bit (g 72 5) k ∨ (k = x1.toInt.toNat ∧ (xN g m x1.toInt.toNat = -1 ∨ ∃ p, p < 4 + f.1 ∧ xV g' m x1.toInt.toNat p ≠ xV g m x1.toInt.toNat p))))) ∧
      (¬ xgd h m g o x1 → xo g' none) := by
  have hP0 := hP
  obtain ⟨hN, hC, hM, hU, hK, hG⟩ := hP
  have hN0 := hN
  obtain ⟨n0, n1, n2, n3⟩ := hN
  obtain ⟨hp, h4, hsz⟩ := hh
  have hRg := xp_R hp hN0 hRR hC
  obtain ⟨⟨r1, r2⟩, hT, hO, hQ, hZ, hL, hH⟩ := hRg
  have em : (Int32.ofNat m).toInt = (m : Int) := pv_nI (by omega)
  have emn : (Int32.ofNat m).toInt.toNat = m := by omega
  have e0 : (0 : Int32).toInt = 0 := rfl
  have e1 : (-1 : Int32).toInt = -1 := rfl
  have q := hM m hm
  unfold xf_Ch_arriveAt
  rw [h4, xs_lengthOf _ hN0 r2 hQ, emn, if_pos (by omega)]
  simp only [Option.bind_some]
  rw [xs_within]
  simp only [Option.bind_some, pv_b1]
  by_cases hin : 0 ≤ x1.toInt ∧ x1.toInt < (h 7 m).toInt
  · rw [if_neg (fun z => z hin)]
    unfold xf_Ch_rowOf
    simp only [Option.bind_some]
    obtain ⟨j, hj⟩ : ∃ j : Nat, j = x1.toInt.toNat := ⟨_, rfl⟩
    obtain ⟨R, hRe⟩ : ∃ R : Nat, R = 20 * m + j := ⟨_, rfl⟩
    have erow := (pr_row (h := h) (Int32.ofNat m) x1 (by omega) (by omega)).1
    rw [emn, ← hj, ← hRe] at erow
    have erR : g 72 4 * 20 + x1 = Int32.ofNat R := by rw [h4, pv_eq, erow, pv_nI (by omega)]
    have erR' : Int32.ofNat m * 20 + x1 = Int32.ofNat R := by rw [pv_eq, erow, pv_nI (by omega)]
    have eR : (Int32.ofNat R).toInt = (R : Int) := pv_nI (by omega)
    have eRn : (Int32.ofNat R).toNatClampNeg = R := by rw [pv_cl]; omega
    have hRb : ¬ (Int32.ofNat R < 0 ∨ 200 ≤ (Int32.ofNat R).toNatClampNeg) := by rw [pv_lt, eRn, eR, e0]; omega
    have exj : x1 = Int32.ofNat j := by rw [hj]; exact pv_nIe hin.1
    rw [h4, erR', if_neg hRb, eRn]
    obtain ⟨s, hs6, hs⟩ := xo_sz ho
    -- the loop and what comes before it
    have hloop : ∀ (gb : qa_St) (x3 : Int32) (k : Nat), xp g0 gb → k ≤ 6 → gb 74 R = Int32.ofNat k → ∃ g', xf_Ch_arriveAt_106 4096 gb x1 (Int32.ofNat R) x3 0 = some (0, g') ∧ (∀ r q, r ≠ 73 → ¬ (r = 72 ∧ q = 5) → g' r q = gb r q) ∧ (∀ q, ¬ (10 * R ≤ q ∧ q < 10 * R + 4 + k) → g' 73 q = gb 73 q) ∧ (∀ q, q < 4 + k → (x3 ≠ 0 → g' 73 (10 * R + q) = gb 76 q) ∧ (x3 = 0 → tc_va h (gb 73 (10 * R + q)) → tc_va h (gb 76 q) → tc_lub g0 h (gb 73 (10 * R + q)) (gb 76 q) (g' 73 (10 * R + q)))) ∧ ((g' 72 5 = gb 72 5 ∧ ∀ q, q < 4 + k → g' 73 (10 * R + q) = gb 73 (10 * R + q)) ∨ (g' 72 5 = gb 72 5 ||| ((1 : Int32) <<< (x1 &&& 31)) ∧ ∃ q, q < 4 + k ∧ g' 73 (10 * R + q) ≠ gb 73 (10 * R + q))) := fun gb x3 k hpb hk hgk => by
      obtain ⟨g', a1, a2, a3, a4, a5⟩ := xs_arr106 hP0 hRR R k (by omega) hk x1 x3 (4 + k) 0 4096 gb hpb (by omega) (by omega) hgk
      refine ⟨g', a1, a2, fun q hq => a3 q (by omega), fun q hq => a4 q (by omega) hq, ?_⟩
      rcases a5 with ⟨b1, b2⟩ | ⟨b1, q, b2, b3, b4⟩
      · exact Or.inl ⟨b1, fun q hq => b2 q (by omega) hq⟩
      · exact Or.inr ⟨b1, q, b3, b4⟩
    have hxN : xN g m j = (g 74 R).toInt := by unfold xN; rw [hRe]
    rcases hsz R (by omega) (by omega) with hfirst | ⟨k, hk6, hk⟩
    · -- first
      rw [if_pos hfirst]
      unfold xf_Ch_arriveAt_48 xf_Fr_size
      rw [if_neg (show ¬ (1 : Int32) = 0 by decide)]
      simp only [Option.bind_some]
      rw [if_neg hRb]
      unfold xf_Ch_arriveAt_75 xf_Ch_arriveAt_78 xf_Fr_size xf_Ch_arriveAt_100
      rw [eRn, pv_nr (show (72 : Nat) ≠ 74 by decide)]
      simp only [Option.bind_some]
      obtain ⟨gn, hgn⟩ : ∃ gn, gn = qa_up (qa_up g 74 R (g 75 1)) 72 5 (g 72 5 ||| ((1 : Int32) <<< (x1 &&& 31))) := ⟨_, rfl⟩
      rw [← hgn, if_neg (by rw [pv_lt, eR, e0]; omega)]
      have k1 : ∀ r q, r ≠ 74 → ¬ (r = 72 ∧ q = 5) → gn r q = g r q := fun r q h1 h2 => by rw [hgn, pv_get, if_neg h2, pv_nr h1]
      have k2 : ∀ r, gn 74 r = if r = R then g 75 1 else g 74 r := fun r => by
        rw [hgn, pv_nr (show (74 : Nat) ≠ 72 by decide), pv_get]
        by_cases hq : r = R
        · rw [if_pos ⟨rfl, hq⟩, if_pos hq]
        · rw [if_neg (fun z => hq z.2), if_neg hq]
      have k3 : gn 72 5 = g 72 5 ||| ((1 : Int32) <<< (x1 &&& 31)) := by rw [hgn]; exact pv_self
      have hpn : xp g0 gn := fun r q hr => by rw [k1 r q (by omega) (by omega)]; exact hp r q hr
      rw [k2, if_pos rfl, k1 75 1 (by decide) (by decide), if_pos rfl]
      have hon : xo gn o := xo_cg ho (k1 72 6 (by decide) (by decide)) (k1 75 1 (by decide) (by decide)) (fun p => k1 76 p (by decide) (by omega))
      obtain ⟨gb, b1, b2, b3⟩ := xs_need1 hon
      rw [b1]
      simp only [Option.bind_some]
      have hpb : xp g0 gb := fun r q hr => by rw [xw_p b2 r q hr]; exact hpn r q hr
      have hgbR : gb 74 R = Int32.ofNat s := by rw [b2 74 R (by decide) (by decide) (by omega), k2, if_pos rfl]; exact hs
      obtain ⟨g', c1, c2, c3, c4, c5⟩ := hloop gb 1 s hpb hs6 hgbR
      have c74 : ∀ r, g' 74 r = if r = R then g 75 1 else g 74 r := fun r => by rw [c2 74 r (by decide) (by omega), b2 74 r (by decide) (by decide) (by omega), k2]
      have cb73 : ∀ q, gb 73 q = g 73 q := fun q => by rw [b2 73 q (by decide) (by decide) (by omega), k1 73 q (by decide) (by omega)]
      have hsf : ∀ f, o = some f → s = f.1 := fun f hf => by
        have w1 := (ho.1 f hf).2.2.1
        have w2 := (ho.1 f hf).2.1
        have w : (Int32.ofNat s).toInt = (Int32.ofNat f.1).toInt := by rw [← hs, w1]
        rw [pv_nI (by omega), pv_nI (by omega)] at w
        omega
      have hN1 : xN g m j = -1 := by rw [hxN, hfirst]; rfl
      refine ⟨g', c1, ⟨fun r q hr => by rw [c2 r q (by omega) (by omega)]; exact hpb r q hr, ?_, fun r hr hr' => ?_⟩, fun r k h1 h2 h3 h4 h5 => ?_, fun r hr => ⟨?_, fun p hp10 => ?_⟩, fun r hr => by rw [c74, if_neg (fun z => hr (by rw [z]; exact hfirst))], fun hgood => ⟨?_, fun f hf => ⟨fun hgd hok => ⟨?_, ?_, fun p hp => ⟨fun _ => ?_, fun z => ?_⟩, fun i hi hij => ⟨?_, fun p hp => ?_⟩⟩, fun k hk => ?_⟩⟩, fun hbad => ?_⟩
      · rw [c2 72 4 (by decide) (by decide), b2 72 4 (by decide) (by decide) (by decide), k1 72 4 (by decide) (by decide)]; exact h4
      · rw [c74]
        by_cases hrR : r = R
        · rw [if_pos hrR]; exact Or.inr ⟨s, hs6, hs⟩
        · rw [if_neg hrR]; exact hsz r hr hr'
      · rw [c2 r k h2 (fun z => h1 z.1), b2 r k h4 h5 (fun z => h1 z.1), k1 r k h3 (fun z => h1 z.1)]
      · rw [c74, if_neg (by omega)]
      · rw [c3 _ (by omega), cb73]
      · exact xo_cg b3 (c2 72 6 (by decide) (by decide)) (c2 75 1 (by decide) (by decide)) (fun p => c2 76 p (by decide) (by omega))
      · unfold xN
        rw [← hj, ← hRe, c74, if_pos rfl, hs, pv_nI (by omega), hsf f hf]
      · rw [← hj]; exact Or.inl hN1
      · unfold xV
        rw [← hj, ← hRe, (c4 p (by rw [hsf f hf]; exact hp)).1 (by decide)]
        exact (b3.1 f hf).2.2.2 p hp
      · rw [← hj] at z; exact absurd hN1 z
      · unfold xN
        rw [c74, if_neg (by omega)]
      · unfold xV
        rw [c3 _ (by omega), cb73]
      · have hW : g' 72 5 = g 72 5 ||| ((1 : Int32) <<< (x1 &&& 31)) := by
          have hb5 : gb 72 5 = g 72 5 ||| ((1 : Int32) <<< (x1 &&& 31)) := by rw [b2 72 5 (by decide) (by decide) (by decide), k3]
          rcases c5 with ⟨d1, -⟩ | ⟨d1, -⟩
          · rw [d1, hb5]
          · rw [d1, hb5, Int32.or_assoc, Int32.or_self]
        rw [hW, pv_bit_or, exj, pv_bit_one20 j (by omega) k hk, ← exj, ← hj]
        exact ⟨fun z => z.elim Or.inl (fun y => Or.inr ⟨y.symm, Or.inl hN1⟩), fun z => z.elim Or.inl (fun y => Or.inr y.1.symm)⟩
      · cases o with
        | none => exact xo_cg b3 (c2 72 6 (by decide) (by decide)) (c2 75 1 (by decide) (by decide)) (fun p => c2 76 p (by decide) (by omega))
        | some f => exact absurd ⟨f, rfl, hin.1, hin.2, by rw [← hj]; exact Or.inl hN1⟩ hbad
    · -- not first
      have ek : (Int32.ofNat k).toInt = (k : Int) := pv_nI (by omega)
      rw [if_neg (by rw [hk, pv_eq, ek, e1]; omega)]
      unfold xf_Ch_arriveAt_48
      rw [if_pos rfl]
      unfold xf_Ch_arriveAt_78 xf_Fr_size xf_Ch_arriveAt_100
      simp only [Option.bind_some]
      rw [if_neg hRb, eRn, hk, hs]
      have hN1 : xN g m j = (k : Int) := by rw [hxN, hk, ek]
      have hNj : ¬ xN g m j = -1 := by omega
      have es : (Int32.ofNat s).toInt = (s : Int) := pv_nI (by omega)
      have hsf : ∀ f, o = some f → s = f.1 := fun f hf => by
        have w1 := (ho.1 f hf).2.2.1
        have w2 := (ho.1 f hf).2.1
        have w : (Int32.ofNat s).toInt = (Int32.ofNat f.1).toInt := by rw [← hs, w1]
        rw [pv_nI (by omega), pv_nI (by omega)] at w
        omega
      have hgen : ∀ (s0 : Int32) (gb : qa_St), xf_Ch_need g s0 = some (0, gb) → xw g gb → ∃ g', ((xf_Ch_need g s0).bind fun t100 => (xf_Ch_arriveAt_106 4096 t100.2 x1 (Int32.ofNat R) 0 (0 : Int32))) = some (0, g') ∧ xh g0 m g' ∧ (∀ r k, r ≠ 72 → r ≠ 73 → r ≠ 74 → r ≠ 75 → r ≠ 76 → g' r k = g r k) ∧ (∀ r, (r < 20 * m ∨ 20 * m + 20 ≤ r) → g' 74 r = g 74 r ∧ ∀ p, p < 10 → g' 73 (10 * r + p) = g 73 (10 * r + p)) ∧ (∀ r, g 74 r ≠ -1 → g' 74 r = g 74 r) ∧ (∀ o', xo gb o' → xo g' o') ∧ (∀ f, o = some f → k = f.1 → xo gb o → (tc_gd h m (xN g m) (xV g m) → tc_ok h f → tc_ss g0 h (xN g m) (xV g m) x1.toInt.toNat f (xN g' m) (xV g' m)) ∧ ∀ k, k < 32 → (pv_bit (g' 72 5) k ↔ (pv_bit (g 72 5) k ∨ (k = x1.toInt.toNat ∧ (xN g m x1.toInt.toNat = -1 ∨ ∃ p, p < 4 + f.1 ∧ xV g' m x1.toInt.toNat p ≠ xV g m x1.toInt.toNat p))))) := fun s0 gb b1 b2 => by
        have hpb : xp g0 gb := fun r q hr => by rw [xw_p b2 r q hr]; exact hp r q hr
        have hgbR : gb 74 R = Int32.ofNat k := by rw [b2 74 R (by decide) (by decide) (by omega)]; exact hk
        obtain ⟨g', c1, c2, c3, c4, c5⟩ := hloop gb 0 k hpb hk6 hgbR
        have c74 : ∀ r, g' 74 r = g 74 r := fun r => by rw [c2 74 r (by decide) (by omega), b2 74 r (by decide) (by decide) (by omega)]
        have cb73 : ∀ q, gb 73 q = g 73 q := fun q => by rw [b2 73 q (by decide) (by decide) (by omega)]
        rw [b1]
        refine ⟨g', c1, ⟨fun r q hr => by rw [c2 r q (by omega) (by omega)]; exact hpb r q hr, ?_, fun r hr hr' => ?_⟩, fun r k h1 h2 h3 h4 h5 => ?_, fun r hr => ⟨?_, fun p hp10 => ?_⟩, fun r _ => c74 r, fun o' ho' => ?_, fun f hf hkf hob => ⟨fun hgd hok => ⟨?_, ?_, fun p hp => ⟨fun z => ?_, fun _ => ?_⟩, fun i hi hij => ⟨?_, fun p hp => ?_⟩⟩, fun k' hk' => ?_⟩⟩
        · rw [c2 72 4 (by decide) (by decide), b2 72 4 (by decide) (by decide) (by decide)]; exact h4
        · rw [c74]; exact hsz r hr hr'
        · rw [c2 r k h2 (fun z => h1 z.1), b2 r k h4 h5 (fun z => h1 z.1)]
        · rw [c74]
        · rw [c3 _ (by omega), cb73]
        · exact xo_cg ho' (c2 72 6 (by decide) (by decide)) (c2 75 1 (by decide) (by decide)) (fun p => c2 76 p (by decide) (by omega))
        · unfold xN
          rw [← hj, ← hRe, c74, hk, ek, hkf]
        · rw [← hj, hN1, hkf]; exact Or.inr rfl
        · rw [← hj] at z; exact absurd z hNj
        · have hva : tc_va h (g 73 (10 * R + p)) := by
            rcases hgd j (by omega) with y | ⟨y1, y2, y3⟩
            · exact absurd y hNj
            · have := y3.2 p (by show p < 4 + (xN g m j).toNat; rw [hN1]; omega)
              rw [hRe]
              exact this
          have h76 : gb 76 p = f.2 p := (hob.1 f hf).2.2.2 p hp
          have := (c4 p (by omega)).2 rfl (by rw [cb73]; exact hva) (by rw [h76]; exact hok.2 p hp)
          rw [cb73, h76] at this
          unfold xV
          rw [← hj, ← hRe]
          exact this
        · unfold xN
          rw [c74]
        · unfold xV
          rw [c3 _ (by omega), cb73]
        · rw [← hj]
          have hb5 : gb 72 5 = g 72 5 := b2 72 5 (by decide) (by decide) (by decide)
          rcases c5 with ⟨d1, d2⟩ | ⟨d1, p, d2, d3⟩
          · rw [d1, hb5]
            refine ⟨Or.inl, fun z => ?_⟩
            rcases z with z | ⟨-, z | ⟨p, z1, z2⟩⟩
            · exact z
            · exact absurd z hNj
            · unfold xV at z2
              rw [← hRe, d2 p (by omega), cb73] at z2
              exact absurd rfl z2
          · rw [d1, hb5, pv_bit_or, exj, pv_bit_one20 j (by omega) k' hk']
            refine ⟨fun z => z.elim Or.inl (fun y => Or.inr ⟨y.symm, Or.inr ⟨p, by omega, ?_⟩⟩), fun z => z.elim Or.inl (fun y => Or.inr y.1.symm)⟩
            unfold xV
            rw [← hRe, ← cb73 (10 * R + p)]
            exact d3
      by_cases hks : k = s
      · rw [if_pos (by rw [hks])]
        obtain ⟨gb, b1, b2, b3⟩ := xs_need1 ho
        obtain ⟨g', c1, c2, c3, c4, c4', c5, c6⟩ := hgen 1 gb b1 b2
        refine ⟨g', c1, c2, c3, c4, c4', fun hgood => ⟨c5 o b3, fun f hf => c6 f hf (by rw [hks]; exact hsf f hf) b3⟩, fun hbad => ?_⟩
        cases o with
        | none => exact c5 none b3
        | some f => exact absurd ⟨f, rfl, hin.1, hin.2, by rw [← hj, hN1, hks, hsf f rfl]; exact Or.inr rfl⟩ hbad
      · rw [if_neg (by rw [pv_eq, ek, es]; omega)]
        obtain ⟨gb, b1, b2, b3⟩ := xs_need0 ho
        obtain ⟨g', c1, c2, c3, c4, c4', c5, c6⟩ := hgen 0 gb b1 b2
        refine ⟨g', c1, c2, c3, c4, c4', fun hgood => ?_, fun _ => c5 none b3⟩
        obtain ⟨f, f1, f2, f3, f4⟩ := hgood
        rw [← hj, hN1] at f4
        have := hsf f f1
        omega
  · rw [if_pos hin]
    refine ⟨_, rfl, ⟨fun r q hr => by rw [pv_nr (by omega)]; exact hp r q hr, by rw [pv_ni (by decide)]; exact h4, fun r hr hr' => by rw [pv_nr (by decide)]; exact hsz r hr hr'⟩, fun r k h1 h2 h3 h4 h5 => pv_nr h1, fun r _ => ⟨pv_nr (by decide), fun p _ => pv_nr (by decide)⟩, fun r _ => pv_nr (by decide), fun hg => ?_, fun _ => ?_⟩
    · obtain ⟨f, f1, f2, f3, f4⟩ := hg
      exact absurd ⟨f2, f3⟩ hin
    · exact xo_none pv_self (by rw [pv_nr (by decide)]; exact xo_sz ho)
