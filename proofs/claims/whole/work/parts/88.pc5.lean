def mP (m : Nat) (h : qa_St) : Nat := tc_sum (tc_ph (mN h m) (mV h m)) 20
def mC (g h0 : qa_St) (m : Nat) (h h' : qa_St) : Prop := tc_sle g h0 (mN h m) (mV h m) (mN h' m) (mV h' m) ∧ (h' 0 22 = 0 → h 0 22 = 0 ∧ ∀ k, k < 20 → mN h' m k = mN h m k ∧ ∀ p, p < 4 + (mN h m k).toNat → mV h' m k p = mV h m k p) ∧ mP m h ≤ mP m h' ∧ (h 0 22 = 0 → h' 0 22 ≠ 0 → mP m h < mP m h')
theorem mC_tr {g h0 : qa_St} (hN : pr_N h0) (hC : pr_C h0) (hT : pr_T g h0) {m : Nat} {h h' h'' : qa_St} (h1 : mC g h0 m h h') (h2 : mC g h0 m h' h'') : mC g h0 m h h'' := by
  obtain ⟨a1, a2, a3, a4⟩ := h1
  obtain ⟨b1, b2, b3, b4⟩ := h2
  refine ⟨tc_sle_tr hN hC hT a1 b1, fun z => ?_, Nat.le_trans a3 b3, fun z1 z2 => ?_⟩
  · obtain ⟨w1, w2⟩ := b2 z
    obtain ⟨v1, v2⟩ := a2 w1
    refine ⟨v1, fun k hk => ⟨(w2 k hk).1.trans (v2 k hk).1, fun p hp => ?_⟩⟩
    exact ((w2 k hk).2 p (by rw [(v2 k hk).1]; exact hp)).trans ((v2 k hk).2 p hp)
  · by_cases hz : h' 0 22 = 0
    · exact Nat.lt_of_le_of_lt a3 (b4 hz z2)
    · exact Nat.lt_of_lt_of_le (a4 z1 hz) b3
theorem mC_same {g h0 : qa_St} {m : Nat} {h h' : qa_St} (h1 : ∀ k, h' 14 k = h 14 k) (h2 : ∀ k, h' 15 k = h 15 k) (h3 : ∀ k, h' 16 k = h 16 k) (h4 : h' 0 22 = h 0 22) : mC g h0 m h h' ∧ mN h' m = mN h m ∧ mV h' m = mV h m := by
  have e1 : mN h' m = mN h m := funext fun i => by unfold mN; rw [h1, h2]
  have e2 : mV h' m = mV h m := funext fun i => funext fun p => by unfold mV; rw [h3]
  refine ⟨⟨by rw [e1, e2]; exact tc_sle_rf _ _, fun z => ⟨by rw [← h4]; exact z, fun k _ => ⟨by rw [e1], fun p _ => by rw [e2]⟩⟩, by unfold mP; rw [e1, e2]; exact Nat.le_refl _, fun z1 z2 => absurd (h4.trans z1) z2⟩, e1, e2⟩
theorem ms_arr {g h0 h : qa_St} (hP : pr_P h0) (hRR : pr_R g h0) {m : Nat} (hm : (m : Int) < (h0 0 4).toInt) (hg : mg h0 m h) {f : tc_F} (hf : mf h f) (hv : tc_ok h0 f) (x2 : Int32) (hx2 : 0 ≤ x2.toInt) :
    ∃ h', mf_Mo_arrive h (Int32.ofNat m) x2 = some (0, h') ∧ mr m h h' ∧ mg h0 m h' ∧ mf h' f ∧ ((h' 0 21 = h 0 21 ∧ mC g h0 m h h' ∧ tc_ar g h0 m (mN h' m) (mV h' m) x2.toInt f) ∨ h' 0 21 = 1) ∧ ∀ NP VP, tc_po g h0 m NP VP → tc_sle g h0 (mN h m) (mV h m) NP VP → tc_ar g h0 m NP VP x2.toInt f → h' 0 21 = h 0 21 ∧ tc_sle g h0 (mN h' m) (mV h' m) NP VP := by
  obtain ⟨h', a1, a2, a3, a4, a5⟩ := ms_arrive hP hRR hm hg hf hv x2 hx2
  obtain ⟨hN, hC, hM, hU, hK, hG⟩ := hP
  have hT := hRR.2.1
  have q := hM m hm
  have hjn : ((x2.toInt.toNat : Nat) : Int) = x2.toInt := by omega
  refine ⟨h', a1, a2, a3, a4, ?_, fun NP VP hpo hb ha => ?_⟩
  · rcases a5 with ⟨b1, b2, b3, b4⟩ | ⟨b1, b2⟩
    · left
      have hj20 : x2.toInt.toNat < 20 := by omega
      have hph := tc_ss_ph hN hC hT hg.2.1 b3 hj20
      have hle : ∀ k, k < 20 → tc_ph (mN h m) (mV h m) k ≤ tc_ph (mN h' m) (mV h' m) k := fun k hk => by
        by_cases hkj : k = x2.toInt.toNat
        · rw [hkj]; exact hph.2.1
        · rw [hph.1 k hk hkj]; exact Nat.le_refl _
      refine ⟨b1, ⟨tc_ss_le hg.2.1 b3, fun z => ?_, tc_sum_le 20 hle, fun z1 z2 => ?_⟩, ?_⟩
      · obtain ⟨c1, c2, c3⟩ := b4.mp z
        refine ⟨c1, fun k hk => ?_⟩
        by_cases hkj : k = x2.toInt.toNat
        · rw [hkj]
          have := b3.1
          have := b3.2.1
          exact ⟨by omega, fun p hp => c3 p (by omega)⟩
        · have w := b3.2.2.2 k hk hkj
          refine ⟨w.1, fun p hp => w.2 p ?_⟩
          rcases hg.2.1 k hk with y | ⟨y1, y2, y3⟩
          · omega
          · have h6 : (mN h m k).toNat ≤ 6 := y3.1
            omega
      · refine tc_sum_lt 20 hle x2.toInt.toNat hj20 (hph.2.2 ?_)
        refine Classical.byContradiction fun hc => z2 (b4.mpr ⟨z1, fun w => hc (Or.inl w), fun p hp => ?_⟩)
        exact Classical.byContradiction fun w => hc (Or.inr ⟨p, hp, w⟩)
      · have := tc_ss_ar (m := m) b3 (by omega)
        rw [hjn] at this
        exact this
    · exact Or.inr b1
  · have hac : tc_ar g h0 m NP VP ((x2.toInt.toNat : Nat) : Int) f := by rw [hjn]; exact ha
    obtain ⟨p1, p2, p3, p4⟩ := ha
    have hj20 : x2.toInt.toNat < 20 := by omega
    have hnb := tc_ss_nb hj20 hb hac
    rcases a5 with ⟨b1, b2, b3, b4⟩ | ⟨b1, b2⟩
    · exact ⟨b1, tc_ss_bd hg.2.1 hpo.1 hj20 hb hac b3⟩
    · exact absurd ⟨p2, hnb⟩ b2
def mQ (g h0 : qa_St) (m : Nat) (f : tc_F) (S : Int → Prop) (h h' : qa_St) : Prop := mr m h h' ∧ mg h0 m h' ∧ mf h' f ∧ (h' 0 21 = 1 ∨ (h' 0 21 = 0 ∧ mC g h0 m h h' ∧ ∀ j, S j → tc_ar g h0 m (mN h' m) (mV h' m) j f)) ∧ ∀ NP VP, tc_po g h0 m NP VP → tc_sle g h0 (mN h m) (mV h m) NP VP → (∀ j, S j → tc_ar g h0 m NP VP j f) → h' 0 21 = 0 ∧ tc_sle g h0 (mN h' m) (mV h' m) NP VP
theorem mQ_0 {g h0 h : qa_St} {m : Nat} (hg : mg h0 m h) {f : tc_F} (hf : mf h f) (hb : h 0 21 = 0) : mQ g h0 m f (fun _ => False) h h :=
  ⟨mr_rf m h, hg, hf, Or.inr ⟨hb, (mC_same (fun _ => rfl) (fun _ => rfl) (fun _ => rfl) rfl).1, fun j hj => hj.elim⟩, fun NP VP _ hs _ => ⟨hb, hs⟩⟩
theorem mQ_S {g h0 h h' : qa_St} {m : Nat} {f : tc_F} {S S' : Int → Prop} (hQ : mQ g h0 m f S h h') (hS : ∀ j, S j ↔ S' j) : mQ g h0 m f S' h h' := by
  have : S = S' := funext fun j => propext (hS j)
  rw [← this]; exact hQ
theorem mQ_step {g h0 h h' : qa_St} (hP : pr_P h0) (hRR : pr_R g h0) {m : Nat} (hm : (m : Int) < (h0 0 4).toInt) {f : tc_F} {S : Int → Prop} (hv : tc_ok h0 f) (hQ : mQ g h0 m f S h h') (x2 : Int32) (hx2 : 0 ≤ x2.toInt) : ∃ h'', mf_Mo_arrive h' (Int32.ofNat m) x2 = some (0, h'') ∧ mQ g h0 m f (fun j => S j ∨ j = x2.toInt) h h'' := by
  obtain ⟨q1, q2, q3, q4, q5⟩ := hQ
  obtain ⟨h'', a1, a2, a3, a4, a5, a6⟩ := ms_arr hP hRR hm q2 q3 hv x2 hx2
  obtain ⟨hN, hC, hM, hU, hK, hG⟩ := hP
  have hT := hRR.2.1
  refine ⟨h'', a1, mr_tr q1 a2, a3, a4, ?_, fun NP VP hpo hs hS => ?_⟩
  · rcases a5 with ⟨b1, b2, b3⟩ | b1
    · rcases q4 with q4 | ⟨q4, c1, c2⟩
      · exact Or.inl (b1.trans q4)
      · refine Or.inr ⟨b1.trans q4, mC_tr hN hC hT c1 b2, fun j hj => ?_⟩
        rcases hj with hj | hj
        · exact tc_ar_up hN hC hM hT hm b2.1 (c2 j hj)
        · rw [hj]; exact b3
    · exact Or.inl b1
  · obtain ⟨w1, w2⟩ := q5 NP VP hpo hs (fun j hj => hS j (Or.inl hj))
    obtain ⟨v1, v2⟩ := a6 NP VP hpo w2 (hS _ (Or.inr rfl))
    exact ⟨v1.trans w1, v2⟩
/-! load -/
theorem ms_load12 (R k : Nat) (hR : R < 200) (hk : k ≤ 6) : ∀ (d p n : Nat) (h : qa_St), p + d = 4 + k → d < n → h 0 20 = Int32.ofNat k → ∃ h', mf_Mo_load_12 n h (Int32.ofNat R) (Int32.ofNat p) = some (0, h') ∧ (∀ r q, r ≠ 17 → h' r q = h r q) ∧ (∀ q, q < p → h' 17 q = h 17 q) ∧ ∀ q, p ≤ q → q < 4 + k → h' 17 q = h 16 (10 * R + q) := by
  intro d
  have e0 : (0 : Int32).toInt = 0 := rfl
  have e4 : (4 : Int32).toInt = 4 := rfl
  have e10 : (10 : Int32).toInt = 10 := rfl
  have eR : (Int32.ofNat R).toInt = (R : Int) := pv_nI (by omega)
  have ek : (Int32.ofNat k).toInt = (k : Int) := pv_nI (by omega)
  have e4k : ((4 : Int32) + Int32.ofNat k).toInt = 4 + (k : Int) := by rw [pv_add (by rw [e4, ek]; omega) (by rw [e4, ek]; omega), e4, ek]
  have e10R : ((10 : Int32) * Int32.ofNat R).toInt = 10 * (R : Int) := by rw [pv_mul (by rw [eR, e10]; omega) (by rw [eR, e10]; omega), eR, e10]
  induction d with
  | zero =>
    intro p n h hpd hn hg
    obtain ⟨n, rfl⟩ : ∃ z, n = z + 1 := ⟨n - 1, by omega⟩
    have ep : (Int32.ofNat p).toInt = (p : Int) := pv_nI (by omega)
    refine ⟨h, ?_, fun _ _ _ => rfl, fun _ _ => rfl, fun q h1 h2 => by omega⟩
    rw [mf_Mo_load_12, hg, if_pos (by rw [pv_le, e4k, ep]; omega)]
  | succ d ih =>
    intro p n h hpd hn hg
    obtain ⟨n, rfl⟩ : ∃ z, n = z + 1 := ⟨n - 1, by omega⟩
    have ep : (Int32.ofNat p).toInt = (p : Int) := pv_nI (by omega)
    have epn : (Int32.ofNat p).toNatClampNeg = p := by rw [pv_cl]; omega
    have eRp : ((10 : Int32) * Int32.ofNat R + Int32.ofNat p).toInt = 10 * (R : Int) + p := by rw [pv_add (by rw [e10R, ep]; omega) (by rw [e10R, ep]; omega), e10R, ep]
    have eRpn : ((10 : Int32) * Int32.ofNat R + Int32.ofNat p).toNatClampNeg = 10 * R + p := by rw [pv_cl, eRp]; omega
    have hb : ¬ ((10 : Int32) * Int32.ofNat R + Int32.ofNat p < 0 ∨ 2000 ≤ ((10 : Int32) * Int32.ofNat R + Int32.ofNat p).toNatClampNeg) := by rw [eRpn, pv_lt, eRp, e0]; omega
    have hpb : ¬ (Int32.ofNat p < 0 ∨ 10 ≤ (Int32.ofNat p).toNatClampNeg) := by rw [epn, pv_lt, ep, e0]; omega
    rw [mf_Mo_load_12, hg, if_neg (by rw [pv_le, e4k, ep]; omega), if_neg hb, if_neg hpb, eRpn, epn, pv_n1]
    obtain ⟨h', a1, a2, a3, a4⟩ := ih (p + 1) n (qa_up h 17 p (h 16 (10 * R + p))) (by omega) (by omega) (by rw [pv_nr (by decide)]; exact hg)
    refine ⟨h', a1, fun r q hr => by rw [a2 r q hr, pv_nr hr], fun q hq => by rw [a3 q (by omega), pv_ni (by omega)], fun q h1 h2 => ?_⟩
    by_cases hqp : q = p
    · rw [hqp, a3 p (by omega)]; exact pv_self
    · rw [a4 q (by omega) h2, pv_nr (by decide)]
theorem ms_load {h : qa_St} {m i k : Nat} (hm : m < 10) (hi : i < 20) (hk : k ≤ 6) (hg : h 15 (20 * m + i) = Int32.ofNat k) : ∃ h', mf_Mo_load h (Int32.ofNat (20 * m + i)) = some (0, h') ∧ (∀ r q, r ≠ 17 → ¬ (r = 0 ∧ q = 20) → h' r q = h r q) ∧ mf h' (k, mV h m i) := by
  have e0 : (0 : Int32).toInt = 0 := rfl
  have eR : (Int32.ofNat (20 * m + i)).toInt = ((20 * m + i : Nat) : Int) := pv_nI (by omega)
  have eRn : (Int32.ofNat (20 * m + i)).toNatClampNeg = 20 * m + i := by rw [pv_cl]; omega
  obtain ⟨h', a1, a2, a3, a4⟩ := ms_load12 (20 * m + i) k (by omega) hk (4 + k) 0 4096 (qa_up h 0 20 (Int32.ofNat k)) (by omega) (by omega) pv_self
  refine ⟨h', ?_, fun r q h1 h2 => by rw [a2 r q h1, pv_get, if_neg h2], hk, by rw [a2 0 20 (by decide)]; exact pv_self, fun p hp => ?_⟩
  · unfold mf_Mo_load
    rw [if_neg (by rw [eRn, pv_lt, eR, e0]; omega), eRn, hg]
    exact a1
  · have hp : p < 4 + k := hp
    rw [a4 p (by omega) hp, pv_nr (by decide)]
    rfl
