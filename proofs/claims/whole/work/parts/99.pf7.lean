/-! Beginning classes, in the reference -/
def ms_tf (k2 : qa_St → Int32 → Int32 → qa_Re) (h : qa_St) (x1 x2 acc : Int32) : qa_Re := (if 0 ≤ acc then (if acc < 0 ∨ 6 ≤ acc.toNatClampNeg then none else (mf_Mo_trigger_73 k2 (qa_up (qa_up h 31 acc.toNatClampNeg (h 0 45)) 0 45 (((qa_up h 31 acc.toNatClampNeg (h 0 45)) 0 45) + (1 : Int32))) x1 x2 acc)) else (some ((1 : Int32), h)))
theorem ms_t13 {g h0 h : qa_St} (hP : pr_P h0) (hRR : pr_R g h0) (hp : pm h0 h) (k2 : qa_St → Int32 → Int32 → qa_Re) (x1 x2 : Int32) : ∀ (c : Nat), (c : Int) < (h0 0 0).toInt → ∀ (n : Nat) (x3 : Int32), c + 1 < n → (∃ j : Nat, mf_Mo_trigger_13 k2 n h x1 x2 x3 (Int32.ofNat c) = ms_tf k2 h x1 x2 (Int32.ofNat j) ∧ j ≤ c ∧ pv_bit (g 2 c) j ∧ (h 31 j).toInt < 0 ∧ ∀ e, e < 10 → pv_bit (g 2 c) e → (h 31 e).toInt < 0 → j ≤ e) ∨ (mf_Mo_trigger_13 k2 n h x1 x2 x3 (Int32.ofNat c) = ms_tf k2 h x1 x2 x3 ∧ ∀ e, e < 10 → pv_bit (g 2 c) e → 0 ≤ (h 31 e).toInt) := by
  have hP0 := hP
  obtain ⟨hN, hC, hM, hU, hK, hG⟩ := hP
  have hN0 := hN
  obtain ⟨n0, n1, n2, n3⟩ := hN
  have e0 : (0 : Int32).toInt = 0 := rfl
  intro c
  induction c using Nat.strongRecOn with
  | _ c ih =>
    intro hc n x3 hn
    obtain ⟨n, rfl⟩ : ∃ z, n = z + 1 := ⟨n - 1, by omega⟩
    have ec : (Int32.ofNat c).toInt = (c : Int) := pv_nI (by omega)
    have ecn : (Int32.ofNat c).toNatClampNeg = c := by rw [pv_cl]; omega
    have hcb : ¬ (Int32.ofNat c < 0 ∨ 6 ≤ (Int32.ofNat c).toNatClampNeg) := by rw [ecn, pv_lt, ec, e0]; omega
    have q := hC c hc
    have hbit : ∀ e, e < 10 → (pv_bit (g 2 c) e ↔ (e = c ∨ (0 ≤ (h0 1 c).toInt ∧ pv_bit (g 2 (h0 1 c).toInt.toNat) e))) := fun e he => pr_bit hN0 hRR.2.1 hc e he
    have hst : mf_Mo_trigger_13 k2 (n + 1) h x1 x2 x3 (Int32.ofNat c) = mf_Mo_trigger_13 k2 n h x1 x2 (if 0 ≤ (h 31 c).toInt then x3 else Int32.ofNat c) (h0 1 c) := by
      rw [mf_Mo_trigger_13, if_neg (by rw [pv_lt, ec, e0]; omega), if_neg hcb, ecn]
      unfold mf_Mo_trigger_34
      rw [if_neg hcb, ecn, hp.1 1 c (by omega) (by omega)]
      by_cases ho : 0 ≤ (h 31 c).toInt
      · rw [if_pos ho, if_pos (by rw [pv_le, e0]; exact ho)]
      · rw [if_neg ho, if_neg (by rw [pv_le, e0]; exact ho), if_neg (by rw [pv_lt, ec, e0]; omega)]
    rw [hst]
    by_cases hpar : (h0 1 c).toInt < 0
    · obtain ⟨n, rfl⟩ : ∃ z, n = z + 1 := ⟨n - 1, by omega⟩
      have hend : ∀ acc : Int32, mf_Mo_trigger_13 k2 (n + 1) h x1 x2 acc (h0 1 c) = ms_tf k2 h x1 x2 acc := fun acc => by
        rw [mf_Mo_trigger_13, if_pos (by rw [pv_lt, e0]; exact hpar)]
        rfl
      rw [hend]
      by_cases ho : 0 ≤ (h 31 c).toInt
      · right
        rw [if_pos ho]
        refine ⟨rfl, fun e he hb => ?_⟩
        rcases (hbit e he).mp hb with y | y
        · rw [y]; exact ho
        · omega
      · left
        rw [if_neg ho]
        refine ⟨c, rfl, by omega, (hbit c (by omega)).mpr (Or.inl rfl), by omega, fun e he hb _ => ?_⟩
        rcases (hbit e he).mp hb with y | y
        · omega
        · omega
    · have e1 : h0 1 c = Int32.ofNat (h0 1 c).toInt.toNat := pv_nIe (by omega)
      have hrec := ih (h0 1 c).toInt.toNat (by omega) (by omega) n (if 0 ≤ (h 31 c).toInt then x3 else Int32.ofNat c) (by omega)
      rw [← e1] at hrec
      rcases hrec with ⟨j, a1, a2, a3, a4, a5⟩ | ⟨a1, a2⟩
      · left
        refine ⟨j, a1, by omega, (hbit j (by omega)).mpr (Or.inr ⟨by omega, a3⟩), a4, fun e he hb ho => ?_⟩
        rcases (hbit e he).mp hb with y | y
        · omega
        · exact a5 e he y.2 ho
      · by_cases ho : 0 ≤ (h 31 c).toInt
        · right
          rw [if_pos ho] at a1
          rw [if_pos ho]
          refine ⟨a1, fun e he hb => ?_⟩
          rcases (hbit e he).mp hb with y | y
          · rw [y]; exact ho
          · exact a2 e he y.2
        · left
          rw [if_neg ho] at a1
          rw [if_neg ho]
          refine ⟨c, a1, by omega, (hbit c (by omega)).mpr (Or.inl rfl), by omega, fun e he hb hoe => ?_⟩
          rcases (hbit e he).mp hb with y | y
          · omega
          · have := a2 e he y.2
            omega
/-- a round of the reference's trigger, for the smallest class that has not begun -/
theorem ms_trig {g h0 h : qa_St} (hP : pr_P h0) (hRR : pr_R g h0) (hp : pm h0 h) (T r n : Nat) (hT : (T : Int) < (h0 0 0).toInt) (hr : r < 7) : ((∀ e, e < 10 → pv_bit (g 2 T) e → 0 ≤ (h 31 e).toInt) → mf_Mo_trigger_2 (n + 1) h (Int32.ofNat T) (Int32.ofNat r) = some (1, h)) ∧ ∀ j : Nat, j ≤ T → pv_bit (g 2 T) j → (h 31 j).toInt < 0 → (∀ e, e < j → pv_bit (g 2 T) e → 0 ≤ (h 31 e).toInt) → mf_Mo_trigger_2 (n + 1) h (Int32.ofNat T) (Int32.ofNat r) = mf_Mo_trigger_73 (mf_Mo_trigger_2 n) (qa_up (qa_up h 31 j (h 0 45)) 0 45 (h 0 45 + 1)) (Int32.ofNat T) (Int32.ofNat r) (Int32.ofNat j) := by
  have hN := hP.1
  obtain ⟨n0, n1, n2, n3⟩ := hN
  have e0 : (0 : Int32).toInt = 0 := rfl
  have e7 : (7 : Int32).toInt = 7 := rfl
  have er : (Int32.ofNat r).toInt = (r : Int) := pv_nI (by omega)
  have hst : mf_Mo_trigger_2 (n + 1) h (Int32.ofNat T) (Int32.ofNat r) = mf_Mo_trigger_13 (mf_Mo_trigger_2 n) 4096 h (Int32.ofNat T) (Int32.ofNat r) (-1) (Int32.ofNat T) := by
    rw [mf_Mo_trigger_2, if_neg (by rw [pv_le, e7, er]; omega)]
  have h13 := ms_t13 hP hRR hp (mf_Mo_trigger_2 n) (Int32.ofNat T) (Int32.ofNat r) T hT 4096 (-1) (by omega)
  rw [hst]
  refine ⟨fun hall => ?_, fun j hj hb ho hmin => ?_⟩
  · rcases h13 with ⟨j, a1, a2, a3, a4, a5⟩ | ⟨a1, a2⟩
    · have := hall j (by omega) a3
      omega
    · rw [a1]
      unfold ms_tf
      rw [if_neg (by decide)]
  · rcases h13 with ⟨j', a1, a2, a3, a4, a5⟩ | ⟨a1, a2⟩
    · have hjj : j' = j := by
        have b1 := a5 j (by omega) hb ho
        by_cases hlt : j' < j
        · have := hmin j' hlt a3
          omega
        · omega
      rw [a1, hjj]
      have ej : (Int32.ofNat j).toInt = (j : Int) := pv_nI (by omega)
      have ejn : (Int32.ofNat j).toNatClampNeg = j := by rw [pv_cl]; omega
      unfold ms_tf
      rw [if_pos (by rw [pv_le, ej, e0]; omega), if_neg (by rw [ejn, pv_lt, ej, e0]; omega), ejn, pv_nr (show (0 : Nat) ≠ 31 by decide)]
    · have := a2 j (by omega) hb
      omega
/-- the state once class j has begun -/
def ru_bg (h : qa_St) (j : Nat) : qa_St := qa_up (qa_up h 31 j (h 0 45)) 0 45 (h 0 45 + 1)
theorem ru_bg_ne {h : qa_St} {j r k : Nat} (h1 : ¬ (r = 31 ∧ k = j)) (h2 : ¬ (r = 0 ∧ k = 45)) : ru_bg h j r k = h r k := by
  unfold ru_bg
  rw [pv_get, if_neg h2, pv_get, if_neg h1]
theorem ru_bg_G {h0 g h : qa_St} {j : Nat} (hj : j < 6) (hG : ru_G h0 g h) (ho : (h 31 j).toInt < 0) : ru_G h0 (qa_up (qa_up g 81 j (g 78 7)) 78 7 (g 78 7 + 1)) (ru_bg h j) ∧ ru_B (ru_bg h j) = ru_B h + 1 ∧ ru_B h < 6 ∧ ru_bg h j 31 j = h 0 45 ∧ 0 ≤ (h 0 45).toInt := by
  obtain ⟨⟨n, o1, o2, o3, o4⟩, b1, ⟨c1, c2⟩, d, e⟩ := hG
  have e1 : (1 : Int32).toInt = 1 := rfl
  have h31 : ru_bg h j 31 j = h 0 45 := by unfold ru_bg; rw [pv_nr (by decide), pv_self]
  have h31' : ∀ k, k ≠ j → ru_bg h j 31 k = h 31 k := fun k hk => ru_bg_ne (by omega) (by omega)
  have hlt : ru_B h < 6 := by
    unfold ru_B
    have := tc_sum_lt (f := fun c => if (h 31 c).toInt < 0 then 0 else 1) (f' := fun _ => 1) 6 (fun i _ => by show (if (h 31 i).toInt < 0 then 0 else 1) ≤ 1; split <;> omega) j hj (by show (if (h 31 j).toInt < 0 then 0 else 1) < 1; rw [if_pos ho]; omega)
    have h6 : tc_sum (fun _ => 1) 6 = 6 := rfl
    omega
  have hB : ru_B (ru_bg h j) = ru_B h + 1 := by
    unfold ru_B
    have hgen : ∀ n, tc_sum (fun c => if (ru_bg h j 31 c).toInt < 0 then 0 else 1) n = tc_sum (fun c => if (h 31 c).toInt < 0 then 0 else 1) n + (if j < n then 1 else 0) := by
      intro n
      induction n with
      | zero => rfl
      | succ n ih =>
        rw [tc_sum, tc_sum, ih]
        by_cases hnj : n = j
        · rw [hnj, h31, if_neg (by omega), if_pos ho, if_neg (by omega), if_pos (by omega)]
        · rw [h31' n hnj]
          by_cases hlt2 : j < n
          · rw [if_pos hlt2, if_pos (show j < n + 1 by omega)]; omega
          · rw [if_neg hlt2, if_neg (show ¬ j < n + 1 by omega)]; rfl
    rw [hgen 6, if_pos hj]
  have hs : (h 0 45 + 1).toInt = (h 0 45).toInt + 1 := by rw [pv_add (by rw [e1]; omega) (by rw [e1]; omega), e1]
  refine ⟨⟨⟨n, o1, by rw [ru_bg_ne (by omega) (by omega)]; exact o2, by rw [pv_ni (by decide), pv_nr (by decide)]; exact o3, fun k hk => ?_⟩, fun c hc => ?_, ⟨?_, ?_⟩, ?_, ?_⟩, hB, hlt, h31, by omega⟩
  · rw [pv_nr (by decide), pv_nr (by decide), ru_bg_ne (by omega) (by omega)]
    exact ⟨(o4 k hk).1, (o4 k hk).2.1, fun i hi => by rw [pv_nr (by decide), pv_nr (by decide), ru_bg_ne (by omega) (by omega)]; exact (o4 k hk).2.2 i hi⟩
  · rw [pv_nr (by decide), pv_nr (by decide), ru_bg_ne (r := 30) (by omega) (by omega)]
    refine ⟨(b1 c hc).1, ?_⟩
    rw [pv_nr (by decide)]
    by_cases hcj : c = j
    · rw [hcj, pv_self, h31]
      exact ⟨c1, by omega⟩
    · rw [pv_ni hcj, h31' c hcj]; exact (b1 c hc).2
  · unfold ru_bg
    rw [pv_self, pv_self, c1]
  · have : ru_bg h j 0 45 = h 0 45 + 1 := by unfold ru_bg; rw [pv_self]
    rw [this, hB, hs, c2]; omega
  · rw [pv_ni (by decide), pv_nr (by decide), ru_bg_ne (r := 0) (k := 46) (by omega) (by omega), ru_bg_ne (r := 0) (k := 30) (by omega) (by omega)]
    exact ⟨d.1, d.2.1, d.2.2.1, fun k hk => by rw [pv_nr (by decide), pv_nr (by decide), ru_bg_ne (by omega) (by omega)]; exact d.2.2.2 k hk⟩
  · rw [pv_ni (by decide), pv_nr (by decide), pv_ni (by decide), pv_nr (by decide), ru_bg_ne (r := 0) (k := 30) (by omega) (by omega), ru_bg_ne (r := 0) (k := 31) (by omega) (by omega)]
    exact e
