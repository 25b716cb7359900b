/-! The class: a visit -/
/-- what an arrival or a visit leaves alone -/
def xr (m : Nat) (g g' : qa_St) : Prop := (∀ r k, r ≠ 72 → r ≠ 73 → r ≠ 74 → r ≠ 75 → r ≠ 76 → g' r k = g r k) ∧ (∀ r, (r < 20 * m ∨ 20 * m + 20 ≤ r) → g' 74 r = g 74 r ∧ ∀ p, p < 10 → g' 73 (10 * r + p) = g 73 (10 * r + p)) ∧ ∀ r, g 74 r ≠ -1 → g' 74 r = g 74 r
theorem xr_tr {m : Nat} {g g' g'' : qa_St} (h1 : xr m g g') (h2 : xr m g' g'') : xr m g g'' := ⟨fun r k a b c d e => (h2.1 r k a b c d e).trans (h1.1 r k a b c d e), fun r hr => ⟨(h2.2.1 r hr).1.trans (h1.2.1 r hr).1, fun p hp => ((h2.2.1 r hr).2 p hp).trans ((h1.2.1 r hr).2 p hp)⟩, fun r hr => (h2.2.2 r (by rw [h1.2.2 r hr]; exact hr)).trans (h1.2.2 r hr)⟩
theorem xr_w {m : Nat} {g g' : qa_St} (hw : xw g g') : xr m g g' := ⟨fun r k a b c d e => hw r k d e (fun z => a z.1), fun r hr => ⟨hw 74 r (by decide) (by decide) (by omega), fun p hp => hw 73 _ (by decide) (by decide) (by omega)⟩, fun r _ => hw 74 r (by decide) (by decide) (by omega)⟩
def xM (m : Nat) (g : qa_St) : Nat := tc_sum (fun k => (61 - tc_ph (xN g m) (xV g m) k) + (if pv_bit (g 72 5) k then 1 else 0)) 20
/-- the state has risen; what is not waiting has not changed; the measure has not grown -/
def xC (g0 h : qa_St) (m : Nat) (g g' : qa_St) : Prop := tc_sle g0 h (xN g m) (xV g m) (xN g' m) (xV g' m) ∧ tc_gd h m (xN g' m) (xV g' m) ∧ (∀ k, k < 20 → pv_bit (g 72 5) k → pv_bit (g' 72 5) k) ∧ (∀ k, k < 20 → ¬ pv_bit (g' 72 5) k → xN g' m k = xN g m k ∧ ∀ p, p < 4 + (xN g m k).toNat → xV g' m k p = xV g m k p) ∧ xM m g' ≤ xM m g ∧ (∀ k, 20 ≤ k → k < 32 → pv_bit (g' 72 5) k → pv_bit (g 72 5) k) ∧ ∀ k, k < 20 → pv_bit (g' 72 5) k → pv_bit (g 72 5) k ∨ xN g' m k ≠ -1
theorem xC_same {g0 h : qa_St} {m : Nat} {g g' : qa_St} (hg : tc_gd h m (xN g m) (xV g m)) (h1 : ∀ k, g' 74 k = g 74 k) (h2 : ∀ k, g' 73 k = g 73 k) (h3 : g' 72 5 = g 72 5) : xC g0 h m g g' := by
  have e1 : xN g' m = xN g m := funext fun i => by unfold xN; rw [h1]
  have e2 : xV g' m = xV g m := funext fun i => funext fun p => by unfold xV; rw [h2]
  refine ⟨by rw [e1, e2]; exact tc_sle_rf _ _, by rw [e1, e2]; exact hg, fun k _ hk => by rw [h3]; exact hk, fun k _ _ => ⟨by rw [e1], fun p _ => by rw [e2]⟩, ?_, fun k _ _ z => by rw [← h3]; exact z, fun k _ z => Or.inl (by rw [← h3]; exact z)⟩
  unfold xM
  rw [e1, e2, h3]
  exact Nat.le_refl _
theorem xC_tr {g0 h : qa_St} (hN : pr_N h) (hC : pr_C h) (hT : pr_T g0 h) {m : Nat} {g g' g'' : qa_St} (h1 : xC g0 h m g g') (h2 : xC g0 h m g' g'') : xC g0 h m g g'' := by
  obtain ⟨a1, a2, a3, a4, a5, a6, a7⟩ := h1
  obtain ⟨b1, b2, b3, b4, b5, b6, b7⟩ := h2
  refine ⟨tc_sle_tr hN hC hT a1 b1, b2, fun k hk z => b3 k hk (a3 k hk z), fun k hk z => ?_, Nat.le_trans b5 a5, fun k h1 h2 z => a6 k h1 h2 (b6 k h1 h2 z), fun k hk z => (b7 k hk z).elim (fun y => (a7 k hk y).elim Or.inl (fun w => Or.inr (by rw [(b1 k hk w).1]; exact w))) Or.inr⟩
  have w := b4 k hk z
  have v := a4 k hk (fun y => z (b3 k hk y))
  exact ⟨w.1.trans v.1, fun p hp => (w.2 p (by rw [v.1]; exact hp)).trans (v.2 p hp)⟩
theorem xs_arr {g0 h g : qa_St} (hP : pr_P h) (hRR : pr_R g0 h) {m : Nat} (hm : (m : Int) < (h 0 4).toInt) (hh : xh g0 m g) {o : Option tc_F} (ho : xo g o) (hok : ∀ f, o = some f → tc_gd h m (xN g m) (xV g m) ∧ tc_ok h f) (x1 : Int32) :
    ∃ g', xf_Ch_arriveAt g x1 = some (0, g') ∧ xh g0 m g' ∧ xr m g g' ∧ ((∃ f, o = some f ∧ xo g' (some f) ∧ xC g0 h m g g' ∧ tc_ar g0 h m (xN g' m) (xV g' m) x1.toInt f) ∨ xo g' none) ∧ ∀ NP VP, tc_po g0 h m NP VP → ∀ f, o = some f → tc_sle g0 h (xN g m) (xV g m) NP VP → tc_ar g0 h m NP VP x1.toInt f → xo g' (some f) ∧ tc_sle g0 h (xN g' m) (xV g' m) NP VP := by
  obtain ⟨g', a1, a2, a3, a4, a4', a5, a6⟩ := xs_arrive hP hRR hm hh ho x1
  obtain ⟨hN, hC, hM, hU, hK, hG⟩ := hP
  have hT := hRR.2.1
  have q := hM m hm
  have hgd : xgd h m g o x1 → ∀ f, o = some f → xo g' (some f) ∧ tc_ss g0 h (xN g m) (xV g m) x1.toInt.toNat f (xN g' m) (xV g' m) ∧ xC g0 h m g g' ∧ tc_ar g0 h m (xN g' m) (xV g' m) x1.toInt f := fun hgood f hf => by
    obtain ⟨b1, b2⟩ := a5 hgood
    obtain ⟨b3, b4⟩ := b2 f hf
    obtain ⟨c1, c2⟩ := hok f hf
    have hss := b3 c1 c2
    obtain ⟨f', f1, f2, f3, f4⟩ := hgood
    have hj20 : x1.toInt.toNat < 20 := by omega
    have hjn : ((x1.toInt.toNat : Nat) : Int) = x1.toInt := by omega
    have hph := tc_ss_ph hN hC hT c1 hss hj20
    have hgd' := tc_ss_gd c1 hss (by omega) c2
    refine ⟨by rw [← hf]; exact b1, hss, ⟨tc_ss_le c1 hss, hgd', fun k hk z => (b4 k (by omega)).mpr (Or.inl z), fun k hk z => ?_, ?_, fun k h1 h2 z => ((b4 k h2).mp z).elim id (fun y => absurd y.1 (by omega)), fun k hk z => ((b4 k (by omega)).mp z).elim Or.inl (fun y => Or.inr (by rw [y.1, hss.1]; omega))⟩, ?_⟩
    · by_cases hkj : k = x1.toInt.toNat
      · have hnc : ¬ (xN g m x1.toInt.toNat = -1 ∨ ∃ p, p < 4 + f.1 ∧ xV g' m x1.toInt.toNat p ≠ xV g m x1.toInt.toNat p) := fun y => z ((b4 k (by omega)).mpr (Or.inr ⟨hkj, y⟩))
        have hn1 : ¬ xN g m x1.toInt.toNat = -1 := fun y => hnc (Or.inl y)
        have hs2 := hss.2.1
        have hs1 := hss.1
        rw [hkj]
        refine ⟨by omega, fun p hp => ?_⟩
        by_cases hv : xV g' m x1.toInt.toNat p = xV g m x1.toInt.toNat p
        · exact hv
        · exact absurd (Or.inr ⟨p, by omega, hv⟩) hnc
      · have w := hss.2.2.2 k hk hkj
        refine ⟨w.1, fun p hp => ?_⟩
        rcases c1 k hk with y | ⟨y1, y2, y3⟩
        · exact w.2 p (by omega)
        · have h6 : (xN g m k).toNat ≤ 6 := y3.1
          exact w.2 p (by omega)
    · unfold xM
      refine tc_sum_le 20 (fun k hk => ?_)
      show (61 - tc_ph (xN g' m) (xV g' m) k) + (if pv_bit (g' 72 5) k then 1 else 0) ≤ (61 - tc_ph (xN g m) (xV g m) k) + (if pv_bit (g 72 5) k then 1 else 0)
      by_cases hkj : k = x1.toInt.toNat
      · have hb := tc_ph_bd hgd' hk
        by_cases hch : (xN g m x1.toInt.toNat = -1 ∨ ∃ p, p < 4 + f.1 ∧ xV g' m x1.toInt.toNat p ≠ xV g m x1.toInt.toNat p)
        · have := hph.2.2 hch
          rw [← hkj] at this
          have w1 : (if pv_bit (g' 72 5) k then 1 else 0) ≤ 1 := by split <;> omega
          omega
        · have := hph.2.1
          rw [← hkj] at this
          have hbb : pv_bit (g' 72 5) k ↔ pv_bit (g 72 5) k := (b4 k (by omega)).trans ⟨fun y => y.elim id (fun w => absurd w.2 hch), Or.inl⟩
          by_cases hw : pv_bit (g 72 5) k
          · rw [if_pos hw, if_pos (hbb.mpr hw)]; omega
          · rw [if_neg hw, if_neg (fun y => hw (hbb.mp y))]; omega
      · have := hph.1 k hk hkj
        rw [this]
        have hbb : pv_bit (g' 72 5) k ↔ pv_bit (g 72 5) k := (b4 k (by omega)).trans ⟨fun y => y.elim id (fun w => absurd w.1 hkj), Or.inl⟩
        by_cases hw : pv_bit (g 72 5) k
        · rw [if_pos hw, if_pos (hbb.mpr hw)]; omega
        · rw [if_neg hw, if_neg (fun y => hw (hbb.mp y))]; omega
    · have := tc_ss_ar (m := m) hss (by omega)
      rw [hjn] at this
      exact this
  refine ⟨g', a1, a2, ⟨a3, a4, a4'⟩, ?_, fun NP VP hpo f hf hb ha => ?_⟩
  · by_cases hx : xgd h m g o x1
    · obtain ⟨f, f1, f2⟩ := hx
      have w := hgd ⟨f, f1, f2⟩ f f1
      exact Or.inl ⟨f, f1, w.1, w.2.2.1, w.2.2.2⟩
    · exact Or.inr (a6 hx)
  · have ha' := ha
    obtain ⟨p1, p2, p3, p4⟩ := ha
    have hj20 : x1.toInt.toNat < 20 := by omega
    have hjn : ((x1.toInt.toNat : Nat) : Int) = x1.toInt := by omega
    have hac : tc_ar g0 h m NP VP ((x1.toInt.toNat : Nat) : Int) f := by rw [hjn]; exact ha'
    have hx : xgd h m g o x1 := ⟨f, hf, p1, p2, tc_ss_nb hj20 hb hac⟩
    have w := hgd hx f hf
    exact ⟨w.1, tc_ss_bd (hok f hf).1 hpo.1 hj20 hb hac w.2.1⟩
/-! recall -/
theorem xs_recall24 (R k : Nat) (hR : R < 200) (hk : k ≤ 6) : ∀ (d p n : Nat) (g : qa_St), p + d = 4 + k → d < n → g 74 R = Int32.ofNat k → ∃ g', xf_Ch_recall_24 n g (Int32.ofNat R) (Int32.ofNat p) = some (0, g') ∧ (∀ r q, r ≠ 76 → g' r q = g r q) ∧ (∀ q, q < p → g' 76 q = g 76 q) ∧ ∀ q, p ≤ q → q < 4 + k → g' 76 q = g 73 (10 * R + q) := by
  intro d
  have e0 : (0 : Int32).toInt = 0 := rfl
  have e4 : (4 : Int32).toInt = 4 := rfl
  have e10 : (10 : Int32).toInt = 10 := rfl
  have eR : (Int32.ofNat R).toInt = (R : Int) := pv_nI (by omega)
  have eRn : (Int32.ofNat R).toInt.toNat = R := by omega
  have ek : (Int32.ofNat k).toInt = (k : Int) := pv_nI (by omega)
  have e4k : ((4 : Int32) + Int32.ofNat k).toInt = 4 + (k : Int) := by rw [pv_add (by rw [e4, ek]; omega) (by rw [e4, ek]; omega), e4, ek]
  have e10R : (Int32.ofNat R * 10).toInt = 10 * (R : Int) := by rw [pv_mul (by rw [eR, e10]; omega) (by rw [eR, e10]; omega), eR, e10]; omega
  induction d with
  | zero =>
    intro p n g hpd hn hg
    obtain ⟨n, rfl⟩ : ∃ z, n = z + 1 := ⟨n - 1, by omega⟩
    have ep : (Int32.ofNat p).toInt = (p : Int) := pv_nI (by omega)
    refine ⟨g, ?_, fun _ _ _ => rfl, fun _ _ => rfl, fun q h1 h2 => by omega⟩
    rw [xf_Ch_recall_24, if_neg (by rw [pv_lt, pv_cl, eR, e0]; omega), pv_cl, eRn, hg, if_pos (by rw [pv_le, e4k, ep]; omega)]
  | succ d ih =>
    intro p n g hpd hn hg
    obtain ⟨n, rfl⟩ : ∃ z, n = z + 1 := ⟨n - 1, by omega⟩
    have ep : (Int32.ofNat p).toInt = (p : Int) := pv_nI (by omega)
    have epn : (Int32.ofNat p).toInt.toNat = p := by omega
    have eRp : (Int32.ofNat R * 10 + Int32.ofNat p).toInt = 10 * (R : Int) + p := by rw [pv_add (by rw [e10R, ep]; omega) (by rw [e10R, ep]; omega), e10R, ep]
    have eRpn : (Int32.ofNat R * 10 + Int32.ofNat p).toNatClampNeg = 10 * R + p := by rw [pv_cl, eRp]; omega
    have hb : ¬ (Int32.ofNat R * 10 + Int32.ofNat p < 0 ∨ 2000 ≤ (Int32.ofNat R * 10 + Int32.ofNat p).toNatClampNeg) := by rw [eRpn, pv_lt, eRp, e0]; omega
    rw [xf_Ch_recall_24, if_neg (by rw [pv_lt, pv_cl, eR, e0]; omega), pv_cl (Int32.ofNat R), eRn, hg, if_neg (by rw [pv_le, e4k, ep]; omega), if_neg hb, xs_setPlace 75 (Int32.ofNat p) _ (by omega), epn, eRpn]
    simp only [Option.bind_some]
    rw [pv_n1]
    obtain ⟨g', a1, a2, a3, a4⟩ := ih (p + 1) n (qa_up g (75 + 1) p (g 73 (10 * R + p))) (by omega) (by omega) (by rw [pv_nr (by decide)]; exact hg)
    refine ⟨g', a1, fun r q hr => by rw [a2 r q hr, pv_nr hr], fun q hq => by rw [a3 q (by omega), pv_ni (by omega)], fun q h1 h2 => ?_⟩
    by_cases hqp : q = p
    · rw [hqp, a3 p (by omega)]; exact pv_self
    · rw [a4 q (by omega) h2, pv_nr (by decide)]
theorem xs_recall {g : qa_St} {m i k : Nat} (hm : m < 10) (hi : i < 20) (hk : k ≤ 6) (h4 : g 72 4 = Int32.ofNat m) (hg : g 74 (20 * m + i) = Int32.ofNat k) : ∃ g', xf_Ch_recall g (Int32.ofNat i) = some (0, g') ∧ (∀ r q, r ≠ 75 → r ≠ 76 → g' r q = g r q) ∧ g' 75 1 = Int32.ofNat k ∧ ∀ q, q < 4 + k → g' 76 q = xV g m i q := by
  have em : (Int32.ofNat m).toInt = (m : Int) := pv_nI (by omega)
  have ei : (Int32.ofNat i).toInt = (i : Int) := pv_nI (by omega)
  have e0 : (0 : Int32).toInt = 0 := rfl
  have er := (pr_row (h := g) (Int32.ofNat m) (Int32.ofNat i) (by omega) (by omega)).1
  have erR : Int32.ofNat m * 20 + Int32.ofNat i = Int32.ofNat (20 * m + i) := by rw [pv_eq, er, pv_nI (n := 20 * m + i) (by omega)]; omega
  have eR : (Int32.ofNat (20 * m + i)).toInt = ((20 * m + i : Nat) : Int) := pv_nI (by omega)
  have eRn : (Int32.ofNat (20 * m + i)).toNatClampNeg = 20 * m + i := by rw [pv_cl]; omega
  unfold xf_Ch_recall xf_Ch_rowOf xf_Fr_setSize
  simp only [Option.bind_some]
  rw [h4, erR, if_neg (by rw [pv_lt, eRn, eR, e0]; omega), eRn, hg]
  obtain ⟨g', a1, a2, a3, a4⟩ := xs_recall24 (20 * m + i) k (by omega) hk (4 + k) 0 4096 (qa_up g 75 1 (Int32.ofNat k)) (by omega) (by omega) (by rw [pv_nr (by decide)]; exact hg)
  refine ⟨g', a1, fun r q h1 h2 => by rw [a2 r q h2, pv_nr h1], by rw [a2 75 1 (by decide)]; exact pv_self, fun q hq => ?_⟩
  rw [a4 q (by omega) hq, pv_nr (by decide)]
  rfl
theorem xs_goOn {g : qa_St} (x1 x2 : Int32) (r0 : Nat) : xf_Fr_goOnWith g r0 x1 x2 = some (0, qa_up (qa_up (qa_up (qa_up g r0 1 0) (r0 + 1) 4 x2) r0 1 1) r0 2 x1) := by
  unfold xf_Fr_goOnWith
  have := xs_push (g := qa_up g r0 1 0) (r0 := r0) (n := 0) x2 (by omega) (by rw [pv_self]; rfl)
  rw [this]
  rfl
theorem pr_hd_ge {h : qa_St} (hM : pr_M h) (hG : pr_G h) {m : Nat} (hm : (m : Int) < (h 0 4).toInt) (i : Int) : ∀ (n k : Nat), pr_hd h m i n k = -1 ∨ (0 ≤ (pr_hd h m i n k).toInt ∧ (pr_hd h m i n k).toInt ≤ 19) := by
  intro n
  induction n with
  | zero => intro k; exact Or.inl rfl
  | succ n ih =>
    intro k
    rw [pr_hd]
    by_cases h1 : (h 10 m).toInt ≤ (k : Int)
    · rw [if_pos h1]; exact Or.inl rfl
    · rw [if_neg h1]
      split
      · exact ih (k + 1)
      · have := hG m k hm (by omega)
        exact Or.inr (by omega)
