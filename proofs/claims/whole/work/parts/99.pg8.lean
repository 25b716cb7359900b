def ru_K0 (arg : Int32) : Nat → qa_St → qa_Re := fun t h => (mf_Mo_enter (qa_up h 0 27 1) 0 0).bind fun z => RR arg (t + 1) (qa_up z.2 26 0 arg)
theorem ms_begin {h : qa_St} (arg : Int32) (t T : Nat) (ht : t < 2100) (h28 : (h 0 28).toInt < 0) (h32 : (h 0 32).toInt ≤ 0) (hT : h 4 0 = Int32.ofNat T) : RR arg t h = TK arg (ru_K0 arg) t (mf_Mo_trigger h (Int32.ofNat T)) := by
  have e00 : (0 : Int32).toNatClampNeg = 0 := rfl
  rw [RR_begin arg t h ht h28 h32, mf_Mo_begin, if_neg (by decide), e00, hT]
  unfold TK ru_K0
  generalize mf_Mo_trigger h (Int32.ofNat T) = X
  cases X with
  | none => rfl
  | some z =>
    rw [Option.bind_some, Option.bind_some]
    by_cases hz : z.1 = 0
    · rw [if_pos hz, if_pos hz, Option.bind_some]
    · rw [if_neg hz, if_neg hz]
      generalize mf_Mo_enter (qa_up z.2 0 27 1) 0 0 = Y
      cases Y with
      | none => rfl
      | some y =>
        rw [Option.bind_some, Option.bind_some, if_neg (by decide), Option.bind_some]
theorem ru_run {g0 h0 : qa_St} (hP : pr_P h0) (hRR : pr_R g0 h0) (hall : ∀ m : Nat, (m : Int) < (h0 0 4).toInt → pc_m g0 h0 m) (hm0 : 0 < (h0 0 4).toInt) (h5 : (h0 5 0).toInt = -1) (h6 : (h0 6 0).toInt = 1) (arg : Int32) (hG : ru_G h0 g0 h0) (hZ : ru_Z h0) (h32 : h0 0 32 = Int32.ofNat 0) (h27 : h0 0 27 = 0) (hs : g0 85 1 = Int32.ofNat 1) (ha : g0 86 4 = arg) (T : Nat) (hT : h0 4 0 = Int32.ofNat T) (hT6 : (T : Int) < (h0 0 0).toInt) : ru_fi g0 h0 ((xf_Ma_trigger (xf_rec 12) g0 (Int32.ofNat T) 0).bind fun t78 => if t78.1 = 0 then ((xf_rec 12 t78.2 0 1).bind fun t89 => xf_Ma_start_93 t89.2 t89.1) else xf_Ma_start_93 t78.2 t78.1) (RR arg 0 h0) := by
  have hmain : ru_cal g0 h0 arg (xf_rec 12) 0 := ru_main hP hRR hall 9 0 (by omega)
  have hJ0 : ru_J h0 g0 h0 := ⟨⟨fun _ _ _ _ => rfl, fun _ _ => rfl⟩, hG, hZ⟩
  have e32 : (h0 0 32).toInt ≤ 0 := by rw [h32]; decide
  obtain ⟨n0, n1, n2, n3⟩ := hP.1
  have hB0 := ru_B6 h0
  have hst : 0 ≤ (h0 0 30).toInt := hG.2.2.2.2.2.2.1
  have htr := ru_trig hP hRR arg (xf_rec 12) (D := 0) (by omega) (fun _ => hmain) (fun y => absurd y (by decide)) T hT6 (ru_K0 arg) h0 (fun _ hb v t hm hz hF h24 hL ht => by
    obtain ⟨hc, hhc⟩ : ∃ hc, hc = qa_up (qa_up (qa_up hb 0 32 0) 0 28 (-1)) 0 29 0 := ⟨_, rfl⟩
    have k1 : ∀ r k, ¬ (r = 0 ∧ (k = 32 ∨ k = 28 ∨ k = 29)) → hc r k = hb r k := fun r k z => by
      rw [hhc, pv_get, if_neg (by omega), pv_get, if_neg (by omega), pv_get, if_neg (by omega)]
    have e28 : hc 0 28 = -1 := by rw [hhc, pv_ni (by decide), pv_self]
    have e32 : hc 0 32 = 0 := by rw [hhc, pv_ni (by decide), pv_ni (by decide), pv_self]
    rw [if_pos rfl] at hL
    have e27 : hb 0 27 = 0 := by rw [hL.2.2.2.1]; exact h27
    refine ⟨hc, ?_, fun r k z _ => k1 r k z, e32, ⟨e28, by rw [hhc, pv_self]⟩, fun y => absurd y (by decide)⟩
    rw [ms_leave_init (D := 0) (by omega) hF h24, if_pos rfl, if_pos e27, Option.bind_some, ← hhc]
    dsimp only
    exact ms_begin arg (t + 1) T ht (by rw [e28]; decide) (by rw [e32]; decide) (by rw [k1 4 0 (by decide), hm.1 4 0 (by decide) (by decide)]; exact hT)) (fun y => absurd y (by decide)) (T + 1) 0 0 4096 4096 g0 h0 0 0 (by omega) (by omega) (by omega) (by omega) (fun _ _ _ => rfl) hJ0 (fun k hk => absurd hk (Nat.not_lt_zero _)) h32 (ru_L_rf 0 h0) ⟨1, by decide, hs⟩ (fun e he => absurd he (Nat.not_lt_zero _)) (by omega)
  have hR0 := ms_begin arg 0 T (by omega) (by rw [hZ.1]; decide) e32 hT
  have hR1 : mf_Mo_trigger h0 (Int32.ofNat T) = mf_Mo_trigger_2 4096 h0 (Int32.ofNat T) (Int32.ofNat 0) := by
    unfold mf_Mo_trigger
    rfl
  have hC1 : xf_Ma_trigger (xf_rec 12) g0 (Int32.ofNat T) 0 = xf_Ma_trigger_2 (xf_rec 12) 4096 g0 (Int32.ofNat T) (Int32.ofNat 0) (Int32.ofNat 0) := by
    unfold xf_Ma_trigger
    rfl
  rw [hR0, hR1, hC1]
  obtain ⟨o, g1, c1, c2, c3, c4⟩ := htr
  rw [c1, Option.bind_some]
  dsimp only
  rcases c4 with ⟨o0, hb, t, d1, d2, d3, d4, d5⟩ | ⟨o1, hb, t, v, d1, d2, d3, d4, d5⟩ | ⟨o2, hb, d1⟩
  · rw [o0, if_pos rfl, d1]
    obtain ⟨he, a1, a2, a3, a4, a5, a6, a7, a8, a9, a10⟩ := ms_enter (h := qa_up hb 0 27 1) (D := 0) (by omega) (by rw [pv_ni (by decide)]; exact d3) 0 0 (Or.inl rfl)
    obtain ⟨hd, hhd⟩ : ∃ hd, hd = qa_up he 26 0 arg := ⟨_, rfl⟩
    have hK : ru_K0 arg t hb = RR arg (t + 1) hd := by
      unfold ru_K0
      rw [a1, Option.bind_some, hhd]
    have k0 : ∀ k, k ≠ 32 → k ≠ 27 → hd 0 k = hb 0 k := fun k z1 z2 => by rw [hhd, pv_nr (by decide), a3 k z1, pv_ni z2]
    have k1 : ∀ r k, r ≠ 0 → ¬ (21 ≤ r ∧ r ≤ 25 ∧ k = 0) → r ≠ 26 → hd r k = hb r k := fun r k z1 z2 z3 => by rw [hhd, pv_nr z3, a4 r k z1 z2 z3, pv_nr z1]
    have hBd : ru_B hd = ru_B hb := by
      unfold ru_B
      rw [show hd 31 = hb 31 from funext fun k => k1 31 k (by decide) (by omega) (by decide)]
    have hJd : ru_J h0 g1 hd := ⟨⟨fun r k x y => by rw [k1 r k (by omega) (by omega) (by omega)]; exact d2.1.1 r k x y, fun k hk => by rw [k0 k (by omega) (by omega)]; exact d2.1.2 k hk⟩, ru_G_h (fun _ _ _ _ _ => rfl) (fun r k z => by
      rcases z with z | z
      · rw [z.1]; exact k0 k z.2.2.2.2 z.2.1
      · exact k1 r k (by omega) (by omega) (by omega)) d2.2.1, by rw [k0 28 (by decide) (by decide)]; exact d2.2.2.1, by rw [k0 29 (by decide) (by decide)]; exact d2.2.2.2⟩
    have hd27 : hd 0 27 = 1 := by rw [hhd, pv_nr (by decide), a3 27 (by decide), pv_self]
    have hq := hmain g1 hd 0 1 1 0 (t + 1) hm0 (by rw [h6]; rfl) (by omega) (by omega) c2 hJd (by rw [c3 85 1 (by omega) (by omega)]; exact hs) (fun k hk => absurd hk (Nat.not_lt_zero _)) (by rw [hhd, pv_nr (by decide)]; exact a2) (by rw [hhd, pv_nr (by decide)]; exact a5) (by rw [hhd, pv_nr (by decide)]; exact a6) (by rw [hhd, pv_nr (by decide)]; exact a7) (by rw [hhd, pv_nr (by decide)]; exact a9) (fun j hj => by
        have hj0 : j = 0 := by omega
        rw [hj0]
        refine ⟨?_, ?_⟩
        · show g1 86 4 = hd 26 0
          rw [c3 86 4 (by omega) (by omega), ha, hhd, pv_self]
        · have : (tc_st h0 0).2 0 = 9 := by
            unfold tc_st
            dsimp only
            rw [if_neg (by omega), if_pos (by omega)]
          rw [this]
          exact ru_9 _) (by rw [hBd, k0 30 (by decide) (by decide)]; omega)
    rw [hK]
    obtain ⟨o', g2, q1, q2, q3, q4⟩ := hq
    have q1' : xf_rec 12 g1 0 1 = some (o', g2) := q1
    rw [q1', Option.bind_some]
    dsimp only
    rcases q4 with ⟨o0, hb2, t2, f1, f2, f3, f4, f5, f6⟩ | ⟨o1, hb2, t2, f1, f2, f3, f4, f5⟩ | ⟨o2, hb2, f1⟩
    · rw [o0, f1]
      have := ru_B6 hb2
      have w5 := f2.2.1.2.2.2.2
      exact ru_end0 q2 f2 f3 (by rw [f4.2.2.2.1]; exact hd27) (by omega)
    · rw [o1, f1]
      have := ru_B6 hb2
      have w5 := f2.2.1.2.2.2.2
      exact ru_end1 q2 f2 f3 (by omega)
    · rw [o2]
      exact ru_end2 q2 f1
  · rw [o1, if_neg (by decide), d1]
    have := ru_B6 hb
    have w5 := d2.2.1.2.2.2.2
    exact ru_end1 c2 d2 d3 (by omega)
  · rw [o2, if_neg (by decide)]
    exact ru_end2 c2 d1
