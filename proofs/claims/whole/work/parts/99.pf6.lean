theorem ms_leave_top {h : qa_St} (hF : h 0 32 = Int32.ofNat 1) (h27 : ¬ h 0 27 = 0) (v : Int32) : mf_Mo_leave h v = some (0, qa_up (qa_up (qa_up h 0 32 0) 0 28 0) 0 29 v) := by
  have hf : Int32.ofNat 1 - 1 = 0 := by decide
  unfold mf_Mo_leave mf_Mo_leave_30
  rw [hF, hf, pv_self, if_pos rfl, pv_ni (show (27 : Nat) ≠ 32 by decide), if_neg h27, pv_ni (show (27 : Nat) ≠ 28 by decide), pv_ni (show (27 : Nat) ≠ 32 by decide), if_neg h27]
/-- leaving a method that was called: its frame is D, the caller's D - 1 -/
theorem ms_leave_call {h0 h : qa_St} (hP : pr_P h0) (hp : pm h0 h) {D m pc n w : Nat} (hD : 1 ≤ D ∧ D ≤ 9) (hm : (m : Int) < (h0 0 4).toInt) (hi : (pc : Int) < (h0 7 m).toInt) (hF : h 0 32 = Int32.ofNat (D + 1)) (h24 : h 24 D = 0) (h21 : h 21 (D - 1) = Int32.ofNat m) (h22 : h 22 (D - 1) = Int32.ofNat pc) (h23 : h 23 (D - 1) = Int32.ofNat n) (hn : w ≤ n ∧ n ≤ 6 ∧ n - w < 6) (hop : ((h0 8 (20 * m + pc)).toInt = 16 ∧ (w : Int) = (h0 6 (h0 9 (20 * m + pc)).toInt.toNat).toInt) ∨ ((h0 8 (20 * m + pc)).toInt = 17 ∧ w = 2)) (v : Int32) : mf_Mo_leave h v = some (0, qa_up (qa_up (qa_up (qa_up (qa_up h 0 32 (Int32.ofNat D)) 23 (D - 1) (Int32.ofNat (n - w))) 27 (6 * (D - 1) + (n - w)) v) 23 (D - 1) (Int32.ofNat (n - w + 1))) 22 (D - 1) (Int32.ofNat (pc + 1))) := by
  have hP0 := hP
  obtain ⟨hN, hC, hM, hU, hK, hG⟩ := hP
  obtain ⟨n0, n1, n2, n3⟩ := hN
  have q := hM m hm
  have qk := hK m pc hm hi
  have e0 : (0 : Int32).toInt = 0 := rfl
  have eD : (Int32.ofNat D).toInt = (D : Int) := pv_nI (by omega)
  have eDn : (Int32.ofNat D).toNatClampNeg = D := by rw [pv_cl]; omega
  have hf := ru_fD (D := D + 1) (by omega) (by omega)
  rw [show D + 1 - 1 = D by omega] at hf
  have hf2 := ru_fD (D := D) (by omega) (by omega)
  obtain ⟨bm1, bm2⟩ := ru_b (D := D) (by omega)
  have em : (Int32.ofNat m).toInt = (m : Int) := pv_nI (by omega)
  have emn : (Int32.ofNat m).toInt.toNat = m := by omega
  have ep : (Int32.ofNat pc).toInt = (pc : Int) := pv_nI (by omega)
  have epn : (Int32.ofNat pc).toInt.toNat = pc := by omega
  have er := (pr_row (h := h) (Int32.ofNat m) (Int32.ofNat pc) (by omega) (by omega)).2
  rw [emn, epn] at er
  have erR : (20 : Int32) * Int32.ofNat m + Int32.ofNat pc = Int32.ofNat (20 * m + pc) := by rw [pv_eq, er, pv_nI (by omega)]
  have eR : (Int32.ofNat (20 * m + pc)).toInt = ((20 * m + pc : Nat) : Int) := pv_nI (by omega)
  have eRn : (Int32.ofNat (20 * m + pc)).toNatClampNeg = 20 * m + pc := by rw [pv_cl]; omega
  have hRb : ¬ (Int32.ofNat (20 * m + pc) < 0 ∨ 200 ≤ (Int32.ofNat (20 * m + pc)).toNatClampNeg) := by rw [eRn, pv_lt, eR, e0]; omega
  obtain ⟨h1, hh1⟩ : ∃ h1, h1 = qa_up h 0 32 (Int32.ofNat D) := ⟨_, rfl⟩
  have k1 : ∀ r k, ¬ (r = 0 ∧ k = 32) → h1 r k = h r k := fun r k hr => by rw [hh1, pv_get, if_neg hr]
  have en : (Int32.ofNat n).toInt = (n : Int) := pv_nI (by omega)
  have h120 : ∀ s0 : Int32, s0.toInt = (w : Int) → mf_Mo_leave_120 h1 v (Int32.ofNat (D - 1)) s0 (Int32.ofNat n) (Int32.ofNat (D - 1)) = some (0, qa_up (qa_up (qa_up (qa_up h1 23 (D - 1) (Int32.ofNat (n - w))) 27 (6 * (D - 1) + (n - w)) v) 23 (D - 1) (Int32.ofNat (n - w + 1))) 22 (D - 1) (Int32.ofNat (pc + 1))) := fun s0 hs => by
    have hsub : Int32.ofNat n - s0 = Int32.ofNat (n - w) := by rw [pv_eq, pv_sub (by rw [en, hs]; omega) (by rw [en, hs]; omega), en, hs, pv_nI (by omega)]; omega
    unfold mf_Mo_leave_120
    rw [if_neg bm2, hsub, bm1, ms_push (D := D) (n := n - w) v (by omega) (by omega) (by rw [pv_nr (by decide), hh1]; exact pv_self) pv_self, Option.bind_some]
    dsimp only
    rw [if_neg (by rw [pv_lt, pv_nI (by omega), e0]; omega), if_neg (by rw [pv_lt, pv_nI (by omega), e0]; omega), pv_nr (show (22 : Nat) ≠ 23 by decide), pv_nr (show (22 : Nat) ≠ 27 by decide), pv_nr (show (22 : Nat) ≠ 23 by decide), k1 22 _ (by omega), h22, pv_n1]
  unfold mf_Mo_leave
  rw [hF, hf, pv_self, ← hh1, if_neg (by rw [pv_eq, eD, e0]; omega), if_neg (by rw [eDn, pv_lt, eD, e0]; omega), eDn, hf2, k1 24 D (by omega), h24]
  unfold mf_Mo_leave_66
  rw [if_pos rfl, if_neg bm2, if_neg bm2, if_neg bm2, bm1, k1 21 _ (by omega), k1 22 _ (by omega), k1 23 _ (by omega), h21, h22, h23, erR, if_neg hRb, eRn, k1 8 _ (by omega), hp.1 8 _ (by omega) (by omega)]
  unfold mf_Mo_leave_100
  rcases hop with ⟨o1, o2⟩ | ⟨o1, o2⟩
  · have ht5 := qk.2.2.2.2.2.2 o1
    rw [if_pos (by rw [pv_eq, o1]; rfl), if_neg hRb, eRn, k1 9 _ (by omega), hp.1 9 _ (by omega) (by omega), if_neg (by rw [pv_lt, pv_cl, e0]; omega), pv_cl, k1 6 _ (by omega), hp.1 6 _ (by omega) (by omega)]
    exact h120 _ (by rw [← o2])
  · rw [if_neg (by rw [pv_eq, o1]; decide)]
    exact h120 2 (by rw [o2]; rfl)
/-- the inputs of a call -/
theorem ms_call126 (D n w : Nat) (hD : 1 ≤ D ∧ D ≤ 9) (hn : w ≤ n ∧ n ≤ 6) (hw : w ≤ 2) : ∀ (d k m : Nat) (h : qa_St), k + d = w → d < m → ∃ h', mf_Mo_call_126 m h (Int32.ofNat (D - 1)) (Int32.ofNat w) (Int32.ofNat (6 * (D - 1) + (n - w))) (Int32.ofNat k) = some (0, h') ∧ (∀ r j, r ≠ 26 → h' r j = h r j) ∧ (∀ j, k ≤ j → j < w → h' 26 (4 * D + j) = h 27 (6 * (D - 1) + (n - w) + j)) ∧ ∀ j, ¬ (4 * D + k ≤ j ∧ j < 4 * D + w) → h' 26 j = h 26 j := by
  intro d
  have e0 : (0 : Int32).toInt = 0 := rfl
  have e4 : (4 : Int32).toInt = 4 := rfl
  have ew : (Int32.ofNat w).toInt = (w : Int) := pv_nI (by omega)
  have efi : (Int32.ofNat (D - 1)).toInt = ((D - 1 : Nat) : Int) := pv_nI (by omega)
  have el : (Int32.ofNat (6 * (D - 1) + (n - w))).toInt = ((6 * (D - 1) + (n - w) : Nat) : Int) := pv_nI (by omega)
  have m4 : ((4 : Int32) * Int32.ofNat (D - 1)).toInt = 4 * ((D - 1 : Nat) : Int) := by rw [pv_mul (by rw [efi, e4]; omega) (by rw [efi, e4]; omega), efi, e4]
  have m44 : ((4 : Int32) * Int32.ofNat (D - 1) + 4).toInt = 4 * ((D - 1 : Nat) : Int) + 4 := by rw [pv_add (by rw [m4, e4]; omega) (by rw [m4, e4]; omega), m4, e4]
  induction d with
  | zero =>
    intro k m h hk hm
    obtain ⟨m, rfl⟩ : ∃ z, m = z + 1 := ⟨m - 1, by omega⟩
    have ek : (Int32.ofNat k).toInt = (k : Int) := pv_nI (by omega)
    refine ⟨h, ?_, fun _ _ _ => rfl, fun j h1 h2 => by omega, fun _ _ => rfl⟩
    rw [mf_Mo_call_126, if_pos (by rw [pv_le, ew, ek]; omega)]
  | succ d ih =>
    intro k m h hk hm
    obtain ⟨m, rfl⟩ : ∃ z, m = z + 1 := ⟨m - 1, by omega⟩
    have ek : (Int32.ofNat k).toInt = (k : Int) := pv_nI (by omega)
    have s1 : (Int32.ofNat (6 * (D - 1) + (n - w)) + Int32.ofNat k).toInt = ((6 * (D - 1) + (n - w) : Nat) : Int) + k := by rw [pv_add (by rw [el, ek]; omega) (by rw [el, ek]; omega), el, ek]
    have s1n : (Int32.ofNat (6 * (D - 1) + (n - w)) + Int32.ofNat k).toNatClampNeg = 6 * (D - 1) + (n - w) + k := by rw [pv_cl, s1]; omega
    have s2 : ((4 : Int32) * Int32.ofNat (D - 1) + 4 + Int32.ofNat k).toInt = 4 * ((D - 1 : Nat) : Int) + 4 + k := by rw [pv_add (by rw [m44, ek]; omega) (by rw [m44, ek]; omega), m44, ek]
    have s2n : ((4 : Int32) * Int32.ofNat (D - 1) + 4 + Int32.ofNat k).toNatClampNeg = 4 * D + k := by rw [pv_cl, s2]; omega
    obtain ⟨h', a1, a2, a3, a4⟩ := ih (k + 1) m (qa_up h 26 (4 * D + k) (h 27 (6 * (D - 1) + (n - w) + k))) (by omega) (by omega)
    refine ⟨h', ?_, fun r j hr => by rw [a2 r j hr, pv_nr hr], fun j h1 h2 => ?_, fun j hj => by rw [a4 j (by omega), pv_ni (by omega)]⟩
    · rw [mf_Mo_call_126, if_neg (by rw [pv_le, ew, ek]; omega), if_neg (by rw [s1n, pv_lt, s1, e0]; omega), if_neg (by rw [s2n, pv_lt, s2, e0]; omega), s1n, s2n]
      unfold mf_Mo_call_156
      rw [pv_n1]
      exact a1
    · by_cases hjk : j = k
      · rw [hjk, a4 _ (by omega)]; exact pv_self
      · rw [a3 j (by omega) h2, pv_nr (by decide)]
/-- a new frame with its inputs -/
def ru_new (D n w : Nat) (x1 x2 : Int32) (h h' : qa_St) : Prop := h' 0 32 = Int32.ofNat (D + 1) ∧ (∀ k, k ≠ 32 → h' 0 k = h 0 k) ∧ (∀ r k, r ≠ 0 → ¬ (21 ≤ r ∧ r ≤ 25 ∧ k = D) → r ≠ 26 → h' r k = h r k) ∧ h' 21 D = x1 ∧ h' 22 D = 0 ∧ h' 23 D = 0 ∧ h' 24 D = x2 ∧ h' 25 D = 0 ∧ (∀ j, ¬ (4 * D ≤ j ∧ j < 4 * D + 4) → h' 26 j = h 26 j) ∧ ∀ j, j < w → h' 26 (4 * D + j) = h 27 (6 * (D - 1) + (n - w) + j)
theorem ms_call114 {h : qa_St} {D n w : Nat} (hD : 1 ≤ D ∧ D ≤ 9) (hn : w ≤ n ∧ n ≤ 6) (hw : w ≤ 2) (hF : h 0 32 = Int32.ofNat D) (x1 : Int32) : ∃ h', mf_Mo_call_114 h (Int32.ofNat (D - 1)) (Int32.ofNat w) (Int32.ofNat (6 * (D - 1) + (n - w))) x1 = some (0, h') ∧ ru_new D n w x1 0 h h' := by
  obtain ⟨h1, a1, a2, a3, a4, a5, a6, a7, a8, a9, a10⟩ := ms_enter (D := D) (by omega) hF x1 0 (Or.inl rfl)
  obtain ⟨h2, b1, b2, b3, b4⟩ := ms_call126 D n w hD hn hw w 0 4096 h1 (by omega) (by omega)
  refine ⟨h2, ?_, by rw [b2 0 32 (by decide)]; exact a2, fun k hk => by rw [b2 0 k (by decide)]; exact a3 k hk, fun r k z1 z2 z3 => by rw [b2 r k z3]; exact a4 r k z1 z2 z3, by rw [b2 21 D (by decide)]; exact a5, by rw [b2 22 D (by decide)]; exact a6, by rw [b2 23 D (by decide)]; exact a7, by rw [b2 24 D (by decide)]; exact a8, by rw [b2 25 D (by decide)]; exact a9, fun j hj => by rw [b4 j (by omega)]; exact a10 j hj, fun j hj => ?_⟩
  · unfold mf_Mo_call_114
    rw [a1, Option.bind_some]
    exact b1
  · rw [b3 j (by omega) hj, a4 27 _ (by decide) (by omega) (by decide)]
theorem ms_call {h0 h : qa_St} (hP : pr_P h0) (hp : pm h0 h) {D n w : Nat} (hD : 1 ≤ D ∧ D ≤ 10) (hn : w ≤ n ∧ n ≤ 6) (hF : h 0 32 = Int32.ofNat D) (h23 : h 23 (D - 1) = Int32.ofNat n) (x3 : Int32) (hx : 0 ≤ x3.toInt ∧ x3.toInt < (h0 0 4).toInt) (hw : (w : Int) = (h0 6 x3.toInt.toNat).toInt) : (D = 10 ∧ mf_Mo_call h (Int32.ofNat (D - 1)) 16 x3 = (mf_Mo_raise h (-5)).bind fun t83 => some ((0 : Int32), t83.2)) ∨ (D ≤ 9 ∧ ∃ h', mf_Mo_call h (Int32.ofNat (D - 1)) 16 x3 = some (0, h') ∧ ru_new D n w x3 0 h h') := by
  have hP0 := hP
  obtain ⟨hN, hC, hM, hU, hK, hG⟩ := hP
  obtain ⟨n0, n1, n2, n3⟩ := hN
  have q := hM x3.toInt.toNat (by omega)
  have e0 : (0 : Int32).toInt = 0 := rfl
  have e6 : (6 : Int32).toInt = 6 := rfl
  have e10 : (10 : Int32).toInt = 10 := rfl
  have eD : (Int32.ofNat D).toInt = (D : Int) := pv_nI (by omega)
  have en : (Int32.ofNat n).toInt = (n : Int) := pv_nI (by omega)
  have ew : (Int32.ofNat w).toInt = (w : Int) := pv_nI (by omega)
  obtain ⟨bm1, bm2⟩ := ru_b hD
  have efi : (Int32.ofNat (D - 1)).toInt = ((D - 1 : Nat) : Int) := pv_nI (by omega)
  have e6f : ((6 : Int32) * Int32.ofNat (D - 1)).toInt = 6 * ((D - 1 : Nat) : Int) := by rw [pv_mul (by rw [efi, e6]; omega) (by rw [efi, e6]; omega), efi, e6]
  have e6n : ((6 : Int32) * Int32.ofNat (D - 1) + Int32.ofNat n).toInt = 6 * ((D - 1 : Nat) : Int) + n := by rw [pv_add (by rw [e6f, en]; omega) (by rw [e6f, en]; omega), e6f, en]
  have hlow : (6 : Int32) * Int32.ofNat (D - 1) + Int32.ofNat n - Int32.ofNat w = Int32.ofNat (6 * (D - 1) + (n - w)) := by rw [pv_eq, pv_sub (by rw [e6n, ew]; omega) (by rw [e6n, ew]; omega), e6n, ew, pv_nI (by omega)]; omega
  have hwe : h 6 x3.toInt.toNat = Int32.ofNat w := by rw [hp.1 6 _ (by omega) (by omega), pv_eq, ew, hw]
  have hc : mf_Mo_call h (Int32.ofNat (D - 1)) 16 x3 = (if h 0 32 = 10 then mf_Mo_call_71 h 0 else mf_Mo_call_114 h (Int32.ofNat (D - 1)) (Int32.ofNat w) (Int32.ofNat (6 * (D - 1) + (n - w))) x3) := by
    unfold mf_Mo_call
    rw [if_pos rfl, if_neg (by rw [pv_lt, pv_cl, e0]; omega), pv_cl, hwe]
    unfold mf_Mo_call_16
    rw [if_neg bm2, if_neg (by decide), bm1, h23, hlow]
    unfold mf_Mo_call_54 mf_Mo_call_55
    rw [if_pos rfl, if_pos rfl]
  rw [hc, hF]
  by_cases h10 : D = 10
  · left
    refine ⟨h10, ?_⟩
    rw [if_pos (by rw [h10]; rfl)]
    unfold mf_Mo_call_71 mf_Mo_call_83
    rw [if_pos rfl]
  · right
    refine ⟨by omega, ?_⟩
    rw [if_neg (by rw [pv_eq, eD, e10]; omega)]
    exact ms_call114 (by omega) hn (by omega) hF x3
/-- SEND: to nothing, to an object -/
theorem ms_send {g h0 h : qa_St} (hP : pr_P h0) (hRR : pr_R g h0) (hp : pm h0 h) {D n : Nat} (hD : 1 ≤ D ∧ D ≤ 10) (hn : 2 ≤ n ∧ n ≤ 6) (hF : h 0 32 = Int32.ofNat D) (h23 : h 23 (D - 1) = Int32.ofNat n) (x3 : Int32) (hx : 0 ≤ x3.toInt ∧ x3.toInt ≤ 3) : ((h 27 (6 * (D - 1) + (n - 2))).toInt < 0 → mf_Mo_call h (Int32.ofNat (D - 1)) 17 x3 = (mf_Mo_raise h (-1)).bind fun t83 => some ((0 : Int32), t83.2)) ∧ ∀ o : Nat, o < 16 → h 27 (6 * (D - 1) + (n - 2)) = Int32.ofNat o → tc_cl h0 (h 28 o) → ((D = 10 ∧ mf_Mo_call h (Int32.ofNat (D - 1)) 17 x3 = (mf_Mo_raise h (-5)).bind fun t83 => some ((0 : Int32), t83.2)) ∨ (D ≤ 9 ∧ ∃ h', mf_Mo_call h (Int32.ofNat (D - 1)) 17 x3 = some (0, h') ∧ ru_new D n 2 (pr_an g h0 x3.toInt.toNat 7 (h 28 o).toInt.toNat) 0 h h')) := by
  have hP0 := hP
  have hPm := pm_P hp hP
  have hRm := pm_R hp hRR
  obtain ⟨hN, hC, hM, hU, hK, hG⟩ := hP
  obtain ⟨n0, n1, n2, n3⟩ := hN
  have e0 : (0 : Int32).toInt = 0 := rfl
  have e2 : (2 : Int32).toInt = 2 := rfl
  have e6 : (6 : Int32).toInt = 6 := rfl
  have e10 : (10 : Int32).toInt = 10 := rfl
  have eD : (Int32.ofNat D).toInt = (D : Int) := pv_nI (by omega)
  have en : (Int32.ofNat n).toInt = (n : Int) := pv_nI (by omega)
  obtain ⟨bm1, bm2⟩ := ru_b hD
  have efi : (Int32.ofNat (D - 1)).toInt = ((D - 1 : Nat) : Int) := pv_nI (by omega)
  have e6f : ((6 : Int32) * Int32.ofNat (D - 1)).toInt = 6 * ((D - 1 : Nat) : Int) := by rw [pv_mul (by rw [efi, e6]; omega) (by rw [efi, e6]; omega), efi, e6]
  have e6n : ((6 : Int32) * Int32.ofNat (D - 1) + Int32.ofNat n).toInt = 6 * ((D - 1 : Nat) : Int) + n := by rw [pv_add (by rw [e6f, en]; omega) (by rw [e6f, en]; omega), e6f, en]
  have hlow : (6 : Int32) * Int32.ofNat (D - 1) + Int32.ofNat n - 2 = Int32.ofNat (6 * (D - 1) + (n - 2)) := by rw [pv_eq, pv_sub (by rw [e6n, e2]; omega) (by rw [e6n, e2]; omega), e6n, e2, pv_nI (by omega)]; omega
  have el : (Int32.ofNat (6 * (D - 1) + (n - 2))).toInt = ((6 * (D - 1) + (n - 2) : Nat) : Int) := pv_nI (by omega)
  have eln : (Int32.ofNat (6 * (D - 1) + (n - 2))).toNatClampNeg = 6 * (D - 1) + (n - 2) := by rw [pv_cl]; omega
  have hlb : ¬ (Int32.ofNat (6 * (D - 1) + (n - 2)) < 0 ∨ 60 ≤ (Int32.ofNat (6 * (D - 1) + (n - 2))).toNatClampNeg) := by rw [eln, pv_lt, el, e0]; omega
  have hc : mf_Mo_call h (Int32.ofNat (D - 1)) 17 x3 = mf_Mo_call_47 h (Int32.ofNat (D - 1)) 17 x3 2 (Int32.ofNat (6 * (D - 1) + (n - 2))) (h 27 (6 * (D - 1) + (n - 2))) := by
    unfold mf_Mo_call
    rw [if_neg (by decide)]
    unfold mf_Mo_call_16
    rw [if_neg bm2, if_pos rfl, bm1, h23, hlow, if_neg hlb, eln]
  refine ⟨fun hz => ?_, fun o ho hob hcl => ?_⟩
  · rw [hc]
    unfold mf_Mo_call_47
    rw [if_neg (by rw [pv_le, e0]; omega)]
    unfold mf_Mo_call_55
    rw [if_neg (by decide)]
    unfold mf_Mo_call_71 mf_Mo_call_83
    rw [if_neg (by decide)]
  · have eo : (Int32.ofNat o).toInt = (o : Int) := pv_nI (by omega)
    have eon : (Int32.ofNat o).toNatClampNeg = o := by rw [pv_cl]; omega
    have han := ms_answer hPm.1 hPm.2.1 hPm.2.2.2.1 hRm.2.2.1 (h 28 o) x3
    rw [hp.2.1, if_pos ⟨hcl, by omega, by omega⟩, pm_an hp] at han
    rw [hc, hob]
    unfold mf_Mo_call_47
    rw [if_pos (by rw [pv_le, eo, e0]; omega)]
    unfold mf_Mo_call_54 mf_Mo_call_55
    rw [if_pos rfl, hF]
    by_cases h10 : D = 10
    · left
      refine ⟨h10, ?_⟩
      rw [if_pos (by rw [h10]; rfl)]
      unfold mf_Mo_call_71 mf_Mo_call_83
      rw [if_pos rfl]
    · right
      refine ⟨by omega, ?_⟩
      rw [if_neg (by rw [pv_eq, eD, e10]; omega), if_neg (by decide), if_neg hlb, eln, hob, if_neg (by rw [eon, pv_lt, eo, e0]; omega), eon, han, Option.bind_some]
      exact ms_call114 (n := n) (w := 2) (by omega) (by omega) (by omega) hF _
