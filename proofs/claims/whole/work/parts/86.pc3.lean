/-! The reference: arriving -/
def mN (h : qa_St) (m i : Nat) : Int := if h 14 (20 * m + i) = 0 then -1 else (h 15 (20 * m + i)).toInt
def mV (h : qa_St) (m i p : Nat) : Int32 := h 16 (10 * (20 * m + i) + p)
def mf (h : qa_St) (f : tc_F) : Prop := f.1 ≤ 6 ∧ h 0 20 = Int32.ofNat f.1 ∧ ∀ p, p < 4 + f.1 → h 17 p = f.2 p
def mr (m : Nat) (h h' : qa_St) : Prop := (∀ r k, r ≠ 14 → r ≠ 15 → r ≠ 16 → r ≠ 17 → ¬ (r = 0 ∧ (k = 20 ∨ k = 21 ∨ k = 22)) → h' r k = h r k) ∧ ∀ r, (r < 20 * m ∨ 20 * m + 20 ≤ r) → h' 14 r = h 14 r ∧ h' 15 r = h 15 r ∧ ∀ p, p < 10 → h' 16 (10 * r + p) = h 16 (10 * r + p)
theorem mr_rf (m : Nat) (h : qa_St) : mr m h h := ⟨fun _ _ _ _ _ _ _ => rfl, fun _ _ => ⟨rfl, rfl, fun _ _ => rfl⟩⟩
theorem mr_tr {m : Nat} {h h' h'' : qa_St} (h1 : mr m h h') (h2 : mr m h' h'') : mr m h h'' := ⟨fun r k a b c d e => (h2.1 r k a b c d e).trans (h1.1 r k a b c d e), fun r hr => ⟨(h2.2 r hr).1.trans (h1.2 r hr).1, (h2.2 r hr).2.1.trans (h1.2 r hr).2.1, fun p hp => ((h2.2 r hr).2.2 p hp).trans ((h1.2 r hr).2.2 p hp)⟩⟩
theorem mr_w {m : Nat} {h h' : qa_St} (hw : mw h h') : mr m h h' := ⟨fun r k a b c d e => hw r k d (fun z => e ⟨z.1, by omega⟩), fun r hr => ⟨hw 14 r (by decide) (by omega), hw 15 r (by decide) (by omega), fun p hp => hw 16 _ (by decide) (by omega)⟩⟩
theorem mr_pm {m : Nat} {h h' : qa_St} (hr : mr m h h') : pm h h' := ⟨fun r k a b => hr.1 r k (by omega) (by omega) (by omega) (by omega) (by omega), hr.1 0 0 (by decide) (by decide) (by decide) (by decide) (by decide), hr.1 0 4 (by decide) (by decide) (by decide) (by decide) (by decide)⟩
theorem ms_arr54 {g h0 : qa_St} (hP : pr_P h0) (hRR : pr_R g h0) (R k : Nat) (hR : R < 200) (hk : k ≤ 6) : ∀ (d p n : Nat) (h : qa_St), pm h0 h → p + d = 4 + k → d < n → h 0 20 = Int32.ofNat k → (h 14 R = 0 ∨ h 14 R = 1) → (h 0 22 = 0 ∨ h 0 22 = 1) → (∀ q, q < 4 + k → tc_va h0 (h 17 q)) → (h 14 R ≠ 0 → ∀ q, q < 4 + k → tc_va h0 (h 16 (10 * R + q))) → ∃ h', mf_Mo_arrive_54 n h (Int32.ofNat R) (Int32.ofNat p) = some (0, h') ∧ (∀ r q, r ≠ 16 → ¬ (r = 0 ∧ q = 22) → ¬ (r = 14 ∧ q = R) → ¬ (r = 15 ∧ q = R) → h' r q = h r q) ∧ h' 14 R = 1 ∧ h' 15 R = Int32.ofNat k ∧ (∀ q, ¬ (10 * R + p ≤ q ∧ q < 10 * R + 4 + k) → h' 16 q = h 16 q) ∧ (∀ q, p ≤ q → q < 4 + k → (h 14 R = 0 → h' 16 (10 * R + q) = h 17 q) ∧ (h 14 R ≠ 0 → tc_lub g h0 (h 16 (10 * R + q)) (h 17 q) (h' 16 (10 * R + q)))) ∧ (h' 0 22 = 0 ∨ h' 0 22 = 1) ∧ (h' 0 22 = 0 ↔ (h 0 22 = 0 ∧ ∀ q, p ≤ q → q < 4 + k → (h 14 R ≠ 0 ∧ h' 16 (10 * R + q) = h 16 (10 * R + q)))) := by
  intro d
  have e0 : (0 : Int32).toInt = 0 := rfl
  have e4 : (4 : Int32).toInt = 4 := rfl
  have e10 : (10 : Int32).toInt = 10 := rfl
  have eR : (Int32.ofNat R).toInt = (R : Int) := pv_nI (by omega)
  have eRn : (Int32.ofNat R).toNatClampNeg = R := by rw [pv_cl]; omega
  have ek : (Int32.ofNat k).toInt = (k : Int) := pv_nI (by omega)
  have e4k : ((4 : Int32) + Int32.ofNat k).toInt = 4 + (k : Int) := by rw [pv_add (by rw [e4, ek]; omega) (by rw [e4, ek]; omega), e4, ek]
  have e10R : ((10 : Int32) * Int32.ofNat R).toInt = 10 * (R : Int) := by rw [pv_mul (by rw [eR, e10]; omega) (by rw [eR, e10]; omega), eR, e10]
  have hRb : ¬ (Int32.ofNat R < 0 ∨ 200 ≤ (Int32.ofNat R).toNatClampNeg) := by rw [eRn, pv_lt, eR, e0]; omega
  induction d with
  | zero =>
    intro p n h hp hpd hn hg h14 h22 hv17 hv16
    obtain ⟨n, rfl⟩ : ∃ z, n = z + 1 := ⟨n - 1, by omega⟩
    have ep : (Int32.ofNat p).toInt = (p : Int) := pv_nI (by omega)
    refine ⟨qa_up (qa_up h 14 R 1) 15 R (Int32.ofNat k), ?_, ?_, ?_, ?_, ?_, ?_, ?_, ?_⟩
    · rw [mf_Mo_arrive_54, hg, if_pos (by rw [pv_le, e4k, ep]; omega), if_neg hRb, if_neg hRb, eRn, pv_nr (by decide), hg]
    · intro r q h1 h2 h3 h4
      rw [pv_get, if_neg h4, pv_get, if_neg h3]
    · rw [pv_nr (by decide), pv_self]
    · exact pv_self
    · intro q _
      rw [pv_nr (by decide), pv_nr (by decide)]
    · intro q h1 h2
      omega
    · rw [pv_nr (by decide), pv_nr (by decide)]; exact h22
    · rw [pv_nr (by decide), pv_nr (by decide)]
      exact ⟨fun z => ⟨z, fun q h1 h2 => by omega⟩, fun z => z.1⟩
  | succ d ih =>
    intro p n h hp hpd hn hg h14 h22 hv17 hv16
    obtain ⟨n, rfl⟩ : ∃ z, n = z + 1 := ⟨n - 1, by omega⟩
    have ep : (Int32.ofNat p).toInt = (p : Int) := pv_nI (by omega)
    have epn : (Int32.ofNat p).toNatClampNeg = p := by rw [pv_cl]; omega
    have eRp : ((10 : Int32) * Int32.ofNat R + Int32.ofNat p).toInt = 10 * (R : Int) + p := by rw [pv_add (by rw [e10R, ep]; omega) (by rw [e10R, ep]; omega), e10R, ep]
    have eRpn : ((10 : Int32) * Int32.ofNat R + Int32.ofNat p).toNatClampNeg = 10 * R + p := by rw [pv_cl, eRp]; omega
    have hb : ¬ ((10 : Int32) * Int32.ofNat R + Int32.ofNat p < 0 ∨ 2000 ≤ ((10 : Int32) * Int32.ofNat R + Int32.ofNat p).toNatClampNeg) := by rw [eRpn, pv_lt, eRp, e0]; omega
    have hpb : ¬ (Int32.ofNat p < 0 ∨ 10 ≤ (Int32.ofNat p).toNatClampNeg) := by rw [epn, pv_lt, ep, e0]; omega
    have hPm := pm_P hp hP
    have hRm := pm_R hp hRR
    -- the new type
    have hnew : ∃ t, mf_Mo_arrive_54 (n + 1) h (Int32.ofNat R) (Int32.ofNat p) = mf_Mo_arrive_107 (mf_Mo_arrive_54 n) h (Int32.ofNat R) (Int32.ofNat p) t ∧ (h 14 R = 0 → t = h 17 p) ∧ (h 14 R ≠ 0 → tc_lub g h0 (h 16 (10 * R + p)) (h 17 p) t) := by
      rw [mf_Mo_arrive_54, hg, if_neg (by rw [pv_le, e4k, ep]; omega), if_neg hRb, eRn, if_neg hb, if_neg hpb, if_neg hpb, eRpn, epn]
      by_cases h3 : h 14 R = 0
      · rw [if_pos h3]
        exact ⟨_, rfl, fun _ => rfl, fun z => absurd h3 z⟩
      · rw [if_neg h3]
        obtain ⟨j, j1, j2⟩ := ms_join hPm.1 hPm.2.1 hRm.2.1 (h 16 (10 * R + p)) (h 17 p) ((pm_va hp _).mpr (hv16 h3 p (by omega))) ((pm_va hp _).mpr (hv17 p (by omega)))
        rw [j1]
        exact ⟨j, rfl, fun z => absurd z h3, fun _ => pm_lub hp j2⟩
    obtain ⟨t, t1, t2, t3⟩ := hnew
    -- the state behind this place
    have hst : ∃ s0 : Int32, (s0 = 0 ∨ s0 = 1) ∧ (s0 = 0 ↔ (h 0 22 = 0 ∧ h 14 R ≠ 0 ∧ t = h 16 (10 * R + p))) ∧ mf_Mo_arrive_54 (n + 1) h (Int32.ofNat R) (Int32.ofNat p) = mf_Mo_arrive_54 n (qa_up (qa_up h 0 22 s0) 16 (10 * R + p) t) (Int32.ofNat R) (Int32.ofNat (p + 1)) := by
      have h148 : ∀ s0 : Int32, (s0 = 0 ∨ s0 = 1) → mf_Mo_arrive_148 (mf_Mo_arrive_54 n) h (Int32.ofNat R) (Int32.ofNat p) t s0 = mf_Mo_arrive_54 n (qa_up (qa_up h 0 22 s0) 16 (10 * R + p) t) (Int32.ofNat R) (Int32.ofNat (p + 1)) := fun s0 hs => by
        unfold mf_Mo_arrive_148
        rw [if_pos hs, if_neg hb, eRpn, pv_n1]
      rw [t1]
      unfold mf_Mo_arrive_107 mf_Mo_arrive_143
      rw [h148 1 (Or.inr rfl), h148 0 (Or.inl rfl), if_neg hRb, if_neg hb, eRn, eRpn]
      by_cases a1 : h 0 22 = 0
      · rw [if_pos a1]
        by_cases a2 : h 14 R = 0
        · rw [if_pos a2]
          exact ⟨1, Or.inr rfl, ⟨fun z => absurd z (by decide), fun z => absurd a2 z.2.1⟩, rfl⟩
        · rw [if_neg a2]
          by_cases a3 : t = h 16 (10 * R + p)
          · rw [if_pos a3]
            exact ⟨0, Or.inl rfl, ⟨fun _ => ⟨a1, a2, a3⟩, fun _ => rfl⟩, rfl⟩
          · rw [if_neg a3]
            exact ⟨1, Or.inr rfl, ⟨fun z => absurd z (by decide), fun z => absurd z.2.2 a3⟩, rfl⟩
      · rw [if_neg a1]
        exact ⟨1, Or.inr rfl, ⟨fun z => absurd z (by decide), fun z => absurd z.1 a1⟩, rfl⟩
    obtain ⟨s0, s1, s2, s3⟩ := hst
    rw [s3]
    obtain ⟨hn', hhn⟩ : ∃ z, z = qa_up (qa_up h 0 22 s0) 16 (10 * R + p) t := ⟨_, rfl⟩
    rw [← hhn]
    have k1 : ∀ r q, r ≠ 16 → ¬ (r = 0 ∧ q = 22) → hn' r q = h r q := fun r q h1 h2 => by rw [hhn, pv_nr h1, pv_get, if_neg h2]
    have k16 : ∀ q, hn' 16 q = if q = 10 * R + p then t else h 16 q := fun q => by
      rw [hhn, pv_get]
      by_cases hq : q = 10 * R + p
      · rw [if_pos ⟨rfl, hq⟩, if_pos hq]
      · rw [if_neg (fun z => hq z.2), if_neg hq, pv_nr (by decide)]
    have k22 : hn' 0 22 = s0 := by rw [hhn, pv_nr (by decide), pv_self]
    have k14 : hn' 14 R = h 14 R := k1 14 R (by decide) (by omega)
    have k17 : ∀ q, hn' 17 q = h 17 q := fun q => k1 17 q (by decide) (by omega)
    have hpn : pm h0 hn' := ⟨fun r q a b => by rw [k1 r q (by omega) (by omega)]; exact hp.1 r q a b, by rw [k1 0 0 (by decide) (by decide)]; exact hp.2.1, by rw [k1 0 4 (by decide) (by decide)]; exact hp.2.2⟩
    obtain ⟨h', a1, a2, a3, a4, a5, a6, a7, a8⟩ := ih (p + 1) n hn' hpn (by omega) (by omega) (by rw [k1 0 20 (by decide) (by decide)]; exact hg) (by rw [k14]; exact h14) (by rw [k22]; exact s1) (fun q hq => by rw [k17]; exact hv17 q hq) (fun hz q hq => by
      rw [k16]
      by_cases hqp : q = p
      · rw [if_pos (by omega)]; exact (t3 (by rw [← k14]; exact hz)).2.2.1
      · rw [if_neg (by omega)]; exact hv16 (by rw [← k14]; exact hz) q hq)
    have hpp : h' 16 (10 * R + p) = t := by rw [a5 _ (by omega), k16, if_pos rfl]
    refine ⟨h', a1, fun r q h1 h2 h3 h4 => by rw [a2 r q h1 h2 h3 h4, k1 r q h1 h2], a3, a4, fun q hq => by rw [a5 q (by omega), k16, if_neg (by omega)], fun q q1 q2 => ?_, a7, ?_⟩
    · by_cases hqp : q = p
      · rw [hqp, hpp]; exact ⟨t2, t3⟩
      · have := a6 q (by omega) q2
        rw [k14, k17, k16, if_neg (by omega)] at this
        exact this
    · rw [a8, k22, s2, k14]
      constructor
      · rintro ⟨⟨b1, b2, b3⟩, b4⟩
        refine ⟨b1, fun q q1 q2 => ⟨b2, ?_⟩⟩
        by_cases hqp : q = p
        · rw [hqp, hpp]; exact b3
        · have := (b4 q (by omega) q2).2
          rw [k16, if_neg (by omega)] at this
          exact this
      · rintro ⟨b1, b2⟩
        have b3 := b2 p (by omega) (by omega)
        refine ⟨⟨b1, b3.1, by rw [← hpp]; exact b3.2⟩, fun q q1 q2 => ⟨b3.1, ?_⟩⟩
        rw [k16, if_neg (by omega)]
        exact (b2 q (by omega) q2).2
