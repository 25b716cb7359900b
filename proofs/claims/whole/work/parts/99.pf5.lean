/-! The turns of the reference -/
def RR (arg : Int32) (t : Nat) (h : qa_St) : qa_Re := mf_Mo_run_99 (4096 - t) h arg (Int32.ofNat t)
theorem RR_end (arg : Int32) (t : Nat) (h : qa_St) (ht : t < 4000) (h28 : 0 ≤ (h 0 28).toInt) : RR arg t h = some (h 0 28, h) := by
  have e0 : (0 : Int32).toInt = 0 := rfl
  unfold RR
  obtain ⟨n, hn⟩ : ∃ n, 4096 - t = n + 1 := ⟨4095 - t, by omega⟩
  rw [hn, mf_Mo_run_99]
  by_cases h1 : (2100 : Int32) ≤ Int32.ofNat t
  · rw [if_pos h1]
  · rw [if_neg h1, if_pos (by rw [pv_le, e0]; exact h28)]
theorem RR_turn (arg : Int32) (t : Nat) (h : qa_St) (ht : t < 2100) (h28 : (h 0 28).toInt < 0) (h32 : 0 < (h 0 32).toInt) : RR arg t h = (mf_Mo_instruct h).bind fun z => RR arg (t + 1) z.2 := by
  have e0 : (0 : Int32).toInt = 0 := rfl
  have e2 : (2100 : Int32).toInt = 2100 := rfl
  have et : (Int32.ofNat t).toInt = (t : Int) := pv_nI (by omega)
  unfold RR
  obtain ⟨n, hn⟩ : ∃ n, 4096 - t = n + 1 := ⟨4095 - t, by omega⟩
  rw [hn, mf_Mo_run_99, if_neg (by rw [pv_le, e2, et]; omega), if_neg (by rw [pv_le, e0]; omega), if_neg (by rw [pv_le, e0]; omega), show 4096 - (t + 1) = n by omega]
  unfold mf_Mo_run_132
  rw [pv_n1]
theorem RR_begin (arg : Int32) (t : Nat) (h : qa_St) (ht : t < 2100) (h28 : (h 0 28).toInt < 0) (h32 : (h 0 32).toInt ≤ 0) : RR arg t h = (mf_Mo_begin h arg).bind fun z => RR arg (t + 1) z.2 := by
  have e0 : (0 : Int32).toInt = 0 := rfl
  have e2 : (2100 : Int32).toInt = 2100 := rfl
  have et : (Int32.ofNat t).toInt = (t : Int) := pv_nI (by omega)
  unfold RR
  obtain ⟨n, hn⟩ : ∃ n, 4096 - t = n + 1 := ⟨4095 - t, by omega⟩
  rw [hn, mf_Mo_run_99, if_neg (by rw [pv_le, e2, et]; omega), if_neg (by rw [pv_le, e0]; omega), if_pos (by rw [pv_le, e0]; exact h32), show 4096 - (t + 1) = n by omega]
  unfold mf_Mo_run_132
  rw [pv_n1]
theorem ru_fD {D : Nat} (hD : D ≤ 10) (h1 : 1 ≤ D) : Int32.ofNat D - 1 = Int32.ofNat (D - 1) := by
  have e1 : (1 : Int32).toInt = 1 := rfl
  have eD : (Int32.ofNat D).toInt = (D : Int) := pv_nI (by omega)
  rw [pv_eq, pv_sub (by rw [eD, e1]; omega) (by rw [eD, e1]; omega), eD, e1, pv_nI (by omega)]; omega
/-- where a thrown number goes -/
theorem ms_raise0 {h : qa_St} (n : Nat) (x : Int32) (hF : h 0 32 = Int32.ofNat 0) : mf_Mo_raise_0 (n + 1) h x = some (0, qa_up (qa_up h 0 28 1) 0 29 x) := by
  rw [mf_Mo_raise_0, hF, if_pos (by decide)]
theorem ms_raise1 {h0 h : qa_St} (hP : pr_P h0) (hp : pm h0 h) {D m pc : Nat} (hD : 1 ≤ D ∧ D ≤ 10) (hm : (m : Int) < (h0 0 4).toInt) (hF : h 0 32 = Int32.ofNat D) (h21 : h 21 (D - 1) = Int32.ofNat m) (h22 : h 22 (D - 1) = Int32.ofNat pc) (hpc : pc < 20) (n : Nat) (x : Int32) : mf_Mo_raise_0 (n + 1) h x = if (pr_hd h0 m pc 4 0).toInt < 0 then mf_Mo_raise_0 n (qa_up h 0 32 (Int32.ofNat (D - 1))) x else some (0, qa_up (qa_up (qa_up (qa_up h 22 (D - 1) (pr_hd h0 m pc 4 0)) 23 (D - 1) 1) 27 (6 * (D - 1)) x) 25 (D - 1) 0) := by
  have hPm := pm_P hp hP
  have hN := hP.1
  obtain ⟨n0, n1, n2, n3⟩ := hN
  have e0 : (0 : Int32).toInt = 0 := rfl
  have e6 : (6 : Int32).toInt = 6 := rfl
  have em : (Int32.ofNat m).toInt = (m : Int) := pv_nI (by omega)
  have emn : (Int32.ofNat m).toInt.toNat = m := by omega
  have ep : (Int32.ofNat pc).toInt = (pc : Int) := pv_nI (by omega)
  have eD : (Int32.ofNat D).toInt = (D : Int) := pv_nI (by omega)
  obtain ⟨bm1, bm2⟩ := ru_b hD
  have efi : (Int32.ofNat (D - 1)).toInt = ((D - 1 : Nat) : Int) := pv_nI (by omega)
  have e6f : ((6 : Int32) * Int32.ofNat (D - 1)).toInt = 6 * ((D - 1 : Nat) : Int) := by rw [pv_mul (by rw [efi, e6]; omega) (by rw [efi, e6]; omega), efi, e6]
  have e6n : ((6 : Int32) * Int32.ofNat (D - 1)).toNatClampNeg = 6 * (D - 1) := by rw [pv_cl, e6f]; omega
  have hgu := ms_guarded hPm.1 hPm.2.2.1 (Int32.ofNat m) (Int32.ofNat pc) (by rw [hp.2.2]; omega)
  rw [emn, ep, pm_hd hp] at hgu
  rw [mf_Mo_raise_0, hF, if_neg (by rw [pv_le, eD, e0]; omega), ru_fD hD.2 hD.1, if_neg bm2, if_neg bm2, bm1, h21, h22, hgu, Option.bind_some]
  dsimp only
  by_cases hh : (pr_hd h0 m pc 4 0).toInt < 0
  · rw [if_pos (by rw [pv_lt, e0]; exact hh), if_pos hh, hF, ru_fD hD.2 hD.1]
  · have bm3 : ¬ (Int32.ofNat (D - 1) < 0 ∨ 10 ≤ D - 1) := by rw [pv_lt, efi, e0]; omega
    rw [if_neg (by rw [pv_lt, e0]; exact hh), if_neg hh, if_neg bm3, if_neg bm3]
    unfold mf_Mo_raise_49
    rw [if_neg (by rw [e6n, pv_lt, e6f, e0]; omega), if_neg bm2, e6n, bm1]
theorem ms_raise_fuel {h0 : qa_St} (hP : pr_P h0) : ∀ (D : Nat) (h : qa_St), D ≤ 10 → pm h0 h → h 0 32 = Int32.ofNat D → (∀ k, k < D → ∃ m pc : Nat, h 21 k = Int32.ofNat m ∧ h 22 k = Int32.ofNat pc ∧ (m : Int) < (h0 0 4).toInt ∧ pc < 20) → ∀ (n n' : Nat) (x : Int32), D < n → D < n' → mf_Mo_raise_0 n h x = mf_Mo_raise_0 n' h x := by
  intro D
  induction D with
  | zero =>
    intro h hD hp hF hk n n' x hn hn'
    obtain ⟨n, rfl⟩ : ∃ z, n = z + 1 := ⟨n - 1, by omega⟩
    obtain ⟨n', rfl⟩ : ∃ z, n' = z + 1 := ⟨n' - 1, by omega⟩
    rw [ms_raise0 n x hF, ms_raise0 n' x hF]
  | succ D ih =>
    intro h hD hp hF hk n n' x hn hn'
    obtain ⟨n, rfl⟩ : ∃ z, n = z + 1 := ⟨n - 1, by omega⟩
    obtain ⟨n', rfl⟩ : ∃ z, n' = z + 1 := ⟨n' - 1, by omega⟩
    obtain ⟨m, pc, k1, k2, k3, k4⟩ := hk D (by omega)
    rw [ms_raise1 hP hp (D := D + 1) (by omega) k3 hF k1 k2 k4 n x, ms_raise1 hP hp (D := D + 1) (by omega) k3 hF k1 k2 k4 n' x]
    have hp' : pm h0 (qa_up h 0 32 (Int32.ofNat D)) := ⟨fun r k a b => by rw [pv_nr (by omega)]; exact hp.1 r k a b, by rw [pv_ni (by decide)]; exact hp.2.1, by rw [pv_ni (by decide)]; exact hp.2.2⟩
    have := ih (qa_up h 0 32 (Int32.ofNat D)) (by omega) hp' pv_self (fun k hkk => by rw [pv_nr (by decide), pv_nr (by decide)]; exact hk k (by omega)) n n' x (by omega) (by omega)
    rw [show D + 1 - 1 = D by omega, this]
/-- a new frame -/
theorem ms_enter52 (D : Nat) (hD : D < 10) : ∀ (d k n : Nat) (h : qa_St), k + d = 4 → d < n → h 0 32 = Int32.ofNat D → ∃ h', mf_Mo_enter_52 n h (Int32.ofNat k) = some (0, qa_up h' 0 32 (Int32.ofNat (D + 1))) ∧ (∀ r j, r ≠ 26 → h' r j = h r j) ∧ (∀ j, ¬ (4 * D + k ≤ j ∧ j < 4 * D + 4) → h' 26 j = h 26 j) := by
  intro d
  have e0 : (0 : Int32).toInt = 0 := rfl
  have e4 : (4 : Int32).toInt = 4 := rfl
  have eD : (Int32.ofNat D).toInt = (D : Int) := pv_nI (by omega)
  have m4 : ((4 : Int32) * Int32.ofNat D).toInt = 4 * (D : Int) := by rw [pv_mul (by rw [eD, e4]; omega) (by rw [eD, e4]; omega), eD, e4]
  induction d with
  | zero =>
    intro k n h hk hn hF
    obtain ⟨n, rfl⟩ : ∃ z, n = z + 1 := ⟨n - 1, by omega⟩
    have ek : (Int32.ofNat k).toInt = (k : Int) := pv_nI (by omega)
    refine ⟨h, ?_, fun _ _ _ => rfl, fun _ _ => rfl⟩
    rw [mf_Mo_enter_52, if_pos (by rw [pv_le, e4, ek]; omega), hF, pv_n1]
  | succ d ih =>
    intro k n h hk hn hF
    obtain ⟨n, rfl⟩ : ∃ z, n = z + 1 := ⟨n - 1, by omega⟩
    have ek : (Int32.ofNat k).toInt = (k : Int) := pv_nI (by omega)
    have es : ((4 : Int32) * Int32.ofNat D + Int32.ofNat k).toInt = 4 * (D : Int) + k := by rw [pv_add (by rw [m4, ek]; omega) (by rw [m4, ek]; omega), m4, ek]
    have esn : ((4 : Int32) * Int32.ofNat D + Int32.ofNat k).toNatClampNeg = 4 * D + k := by rw [pv_cl, es]; omega
    obtain ⟨h', a1, a2, a3⟩ := ih (k + 1) n (qa_up h 26 (4 * D + k) 0) (by omega) (by omega) (by rw [pv_nr (by decide)]; exact hF)
    refine ⟨h', ?_, fun r j hr => by rw [a2 r j hr, pv_nr hr], fun j hj => by rw [a3 j (by omega), pv_ni (by omega)]⟩
    rw [mf_Mo_enter_52, if_neg (by rw [pv_le, e4, ek]; omega), hF, if_neg (by rw [esn, pv_lt, es, e0]; omega), esn, pv_n1]
    exact a1
theorem ms_enter {h : qa_St} {D : Nat} (hD : D < 10) (hF : h 0 32 = Int32.ofNat D) (x1 x2 : Int32) (hx : x2 = 0 ∨ x2 = 1) : ∃ h', mf_Mo_enter h x1 x2 = some (0, h') ∧ h' 0 32 = Int32.ofNat (D + 1) ∧ (∀ k, k ≠ 32 → h' 0 k = h 0 k) ∧ (∀ r k, r ≠ 0 → ¬ (21 ≤ r ∧ r ≤ 25 ∧ k = D) → r ≠ 26 → h' r k = h r k) ∧ h' 21 D = x1 ∧ h' 22 D = 0 ∧ h' 23 D = 0 ∧ h' 24 D = x2 ∧ h' 25 D = 0 ∧ ∀ j, ¬ (4 * D ≤ j ∧ j < 4 * D + 4) → h' 26 j = h 26 j := by
  have e0 : (0 : Int32).toInt = 0 := rfl
  have eD : (Int32.ofNat D).toInt = (D : Int) := pv_nI (by omega)
  have eDn : (Int32.ofNat D).toNatClampNeg = D := by rw [pv_cl]; omega
  have hb : ¬ (Int32.ofNat D < 0 ∨ 10 ≤ (Int32.ofNat D).toNatClampNeg) := by rw [eDn, pv_lt, eD, e0]; omega
  obtain ⟨ha, hha⟩ : ∃ ha, ha = qa_up (qa_up (qa_up (qa_up (qa_up h 21 D x1) 22 D 0) 23 D 0) 24 D x2) 25 D 0 := ⟨_, rfl⟩
  have hF' : ha 0 32 = Int32.ofNat D := by rw [hha, pv_nr (by decide), pv_nr (by decide), pv_nr (by decide), pv_nr (by decide), pv_nr (by decide)]; exact hF
  obtain ⟨h', a1, a2, a3⟩ := ms_enter52 D hD 4 0 4096 ha (by omega) (by omega) hF'
  refine ⟨qa_up h' 0 32 (Int32.ofNat (D + 1)), ?_, pv_self, fun k hk => ?_, fun r k h1 h2 h3 => ?_, ?_, ?_, ?_, ?_, ?_, fun j hj => ?_⟩
  · unfold mf_Mo_enter mf_Mo_enter_20 mf_Mo_enter_40
    rw [hF, if_neg hb, eDn, pv_nr (show (0 : Nat) ≠ 21 by decide), hF, if_neg hb, eDn, pv_nr (show (0 : Nat) ≠ 22 by decide), pv_nr (show (0 : Nat) ≠ 21 by decide), hF, if_neg hb, if_pos hx, eDn, pv_nr (show (0 : Nat) ≠ 23 by decide), pv_nr (show (0 : Nat) ≠ 22 by decide), pv_nr (show (0 : Nat) ≠ 21 by decide), hF, if_neg hb, eDn, pv_nr (show (0 : Nat) ≠ 24 by decide), pv_nr (show (0 : Nat) ≠ 23 by decide), pv_nr (show (0 : Nat) ≠ 22 by decide), pv_nr (show (0 : Nat) ≠ 21 by decide), hF, if_neg hb, eDn, ← hha]
    exact a1
  · rw [pv_ni hk, a2 0 k (by decide), hha, pv_nr (by decide), pv_nr (by decide), pv_nr (by decide), pv_nr (by decide), pv_nr (by decide)]
  · rw [pv_nr h1, a2 r k h3, hha, pv_get, if_neg (by omega), pv_get, if_neg (by omega), pv_get, if_neg (by omega), pv_get, if_neg (by omega), pv_get, if_neg (by omega)]
  · rw [pv_nr (by decide), a2 21 D (by decide), hha, pv_nr (by decide), pv_nr (by decide), pv_nr (by decide), pv_nr (by decide), pv_self]
  · rw [pv_nr (by decide), a2 22 D (by decide), hha, pv_nr (by decide), pv_nr (by decide), pv_nr (by decide), pv_self]
  · rw [pv_nr (by decide), a2 23 D (by decide), hha, pv_nr (by decide), pv_nr (by decide), pv_self]
  · rw [pv_nr (by decide), a2 24 D (by decide), hha, pv_nr (by decide), pv_self]
  · rw [pv_nr (by decide), a2 25 D (by decide), hha, pv_self]
  · rw [pv_nr (by decide), a3 j (by omega), hha, pv_nr (by decide), pv_nr (by decide), pv_nr (by decide), pv_nr (by decide), pv_nr (by decide)]
/-- leaving an initialiser -/
theorem ms_leave_init {h : qa_St} {D : Nat} (hD : D ≤ 9) (hF : h 0 32 = Int32.ofNat (D + 1)) (h24 : h 24 D = 1) (v : Int32) : mf_Mo_leave h v = if D = 0 then (if h 0 27 = 0 then some (0, qa_up (qa_up (qa_up h 0 32 0) 0 28 (-1)) 0 29 0) else some (0, qa_up (qa_up (qa_up h 0 32 0) 0 28 0) 0 29 v)) else some (0, qa_up h 0 32 (Int32.ofNat D)) := by
  have e0 : (0 : Int32).toInt = 0 := rfl
  have eD : (Int32.ofNat D).toInt = (D : Int) := pv_nI (by omega)
  have eDn : (Int32.ofNat D).toNatClampNeg = D := by rw [pv_cl]; omega
  have hf := ru_fD (D := D + 1) (by omega) (by omega)
  rw [show D + 1 - 1 = D by omega] at hf
  unfold mf_Mo_leave
  rw [hF, hf, pv_self, pv_ni (show (27 : Nat) ≠ 32 by decide), pv_nr (show (24 : Nat) ≠ 0 by decide), eDn, h24]
  by_cases hz : D = 0
  · rw [if_pos (by rw [hz]; rfl), if_pos hz]
    have e00 : Int32.ofNat D = 0 := by rw [hz]; rfl
    unfold mf_Mo_leave_30
    rw [e00, pv_ni (show (27 : Nat) ≠ 28 by decide), pv_ni (show (27 : Nat) ≠ 32 by decide)]
    by_cases h27 : h 0 27 = 0
    · rw [if_pos h27, if_pos h27, if_pos h27]
    · rw [if_neg h27, if_neg h27, pv_ni (show (27 : Nat) ≠ 28 by decide), pv_ni (show (27 : Nat) ≠ 32 by decide), if_neg h27]
  · rw [if_neg (by rw [pv_eq, eD, e0]; omega), if_neg hz, if_neg (by rw [pv_lt, eD, e0]; omega)]
    unfold mf_Mo_leave_66
    rw [if_neg (by decide)]
