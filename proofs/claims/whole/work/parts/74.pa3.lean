/-! The states of a check: N i the size of the stack at instruction i, -1 where it is not reached, V i the types there -/
def tc_at (N : Nat → Int) (V : Nat → Nat → Int32) (i : Nat) : tc_F := ((N i).toNat, V i)
def tc_ar (g h : qa_St) (m : Nat) (N : Nat → Int) (V : Nat → Nat → Int32) (j : Int) (f : tc_F) : Prop := 0 ≤ j ∧ j < (h 7 m).toInt ∧ N j.toNat = (f.1 : Int) ∧ ∀ p, p < 4 + f.1 → tc_le g h (f.2 p) (V j.toNat p)
def tc_st (h : qa_St) (m : Nat) : tc_F := (0, fun p => if p = 0 ∧ 0 ≤ (h 5 m).toInt then h 4 m else if (p : Int) < (h 6 m).toInt then 9 else 8)
def tc_sc (op a : Int) (i : Nat) (j : Int) : Prop := (op ≠ 9 ∧ op ≠ 21 ∧ op ≠ 22 ∧ j = (i : Int) + 1) ∨ ((op = 9 ∨ op = 10) ∧ j = a)
def tc_hf (f : tc_F) : tc_F := (1, tc_up f.2 4 9)
def tc_fl (g h : qa_St) (m : Nat) (N : Nat → Int) (V : Nat → Nat → Int32) (i : Nat) : Prop := ∃ r, tc_ef g h (h 8 (20 * m + i)).toInt (h 9 (20 * m + i)) (tc_at N V i) = some r ∧ (∀ j, tc_sc (h 8 (20 * m + i)).toInt (h 9 (20 * m + i)).toInt i j → tc_ar g h m N V j r) ∧ (0 ≤ (pr_hd h m i 4 0).toInt → tc_ar g h m N V (pr_hd h m i 4 0).toInt (tc_hf (tc_at N V i)))
def tc_gd (h : qa_St) (m : Nat) (N : Nat → Int) (V : Nat → Nat → Int32) : Prop := ∀ i, i < 20 → N i = -1 ∨ ((i : Int) < (h 7 m).toInt ∧ 0 ≤ N i ∧ tc_ok h (tc_at N V i))
/-- sound types: they hold at the start and are kept by every instruction -/
def tc_po (g h : qa_St) (m : Nat) (N : Nat → Int) (V : Nat → Nat → Int32) : Prop := tc_gd h m N V ∧ tc_ar g h m N V 0 (tc_st h m) ∧ ∀ i, i < 20 → N i ≠ -1 → tc_fl g h m N V i
def tc_sle (g h : qa_St) (N : Nat → Int) (V : Nat → Nat → Int32) (N' : Nat → Int) (V' : Nat → Nat → Int32) : Prop := ∀ i, i < 20 → N i ≠ -1 → N' i = N i ∧ ∀ p, p < 4 + (N i).toNat → tc_le g h (V i p) (V' i p)
/-- an arrival -/
def tc_ss (g h : qa_St) (N : Nat → Int) (V : Nat → Nat → Int32) (j : Nat) (f : tc_F) (N' : Nat → Int) (V' : Nat → Nat → Int32) : Prop := N' j = (f.1 : Int) ∧ (N j = -1 ∨ N j = (f.1 : Int)) ∧ (∀ p, p < 4 + f.1 → (N j = -1 → V' j p = f.2 p) ∧ (N j ≠ -1 → tc_lub g h (V j p) (f.2 p) (V' j p))) ∧ ∀ i, i < 20 → i ≠ j → N' i = N i ∧ ∀ p, p < 10 → V' i p = V i p
theorem tc_hf_ok {h : qa_St} {f : tc_F} (hf : tc_ok h f) : tc_ok h (tc_hf f) := by
  refine ⟨by show 1 ≤ 6; omega, fun p hp => ?_⟩
  have hp : p < 4 + 1 := hp
  show tc_va h (tc_up f.2 4 9 p)
  by_cases hq : p = 4
  · rw [hq, tc_up_s]; exact Or.inr (Or.inr rfl)
  · rw [tc_up_n hq]; exact hf.2 p (by omega)
theorem tc_hf_m {g h : qa_St} {f f' : tc_F} (hf : tc_fle g h f f') : tc_fle g h (tc_hf f) (tc_hf f') := by
  refine ⟨rfl, fun p hp => ?_⟩
  have hp : p < 4 + 1 := hp
  show tc_le g h (tc_up f.2 4 9 p) (tc_up f'.2 4 9 p)
  by_cases hq : p = 4
  · rw [hq, tc_up_s, tc_up_s]; exact tc_refl _
  · rw [tc_up_n hq, tc_up_n hq]; exact hf.2 p (by omega)
theorem tc_st_ok {h : qa_St} (hM : pr_M h) {m : Nat} (hm : (m : Int) < (h 0 4).toInt) : tc_ok h (tc_st h m) := by
  refine ⟨by show 0 ≤ 6; omega, fun p hp => ?_⟩
  have q := hM m hm
  show tc_va h (if p = 0 ∧ 0 ≤ (h 5 m).toInt then h 4 m else if (p : Int) < (h 6 m).toInt then 9 else 8)
  split
  · exact Or.inl ⟨by omega, by omega⟩
  · split
    · exact Or.inr (Or.inr rfl)
    · exact Or.inr (Or.inl rfl)
theorem tc_ar_up {g h : qa_St} (hN : pr_N h) (hC : pr_C h) (hM : pr_M h) (hT : pr_T g h) {m : Nat} (hm : (m : Int) < (h 0 4).toInt) {N N' : Nat → Int} {V V' : Nat → Nat → Int32} (hs : tc_sle g h N V N' V') {j : Int} {f : tc_F} (ha : tc_ar g h m N V j f) : tc_ar g h m N' V' j f := by
  obtain ⟨a1, a2, a3, a4⟩ := ha
  have q := hM m hm
  have w := hs j.toNat (by omega) (by omega)
  refine ⟨a1, a2, by rw [w.1, a3], fun p hp => tc_tr hN hC hT (a4 p hp) (w.2 p (by omega))⟩
theorem tc_ar_dn {g h : qa_St} (hN : pr_N h) (hC : pr_C h) (hT : pr_T g h) {m : Nat} {N : Nat → Int} {V : Nat → Nat → Int32} {j : Int} {f f' : tc_F} (hf : tc_fle g h f f') (ha : tc_ar g h m N V j f') : tc_ar g h m N V j f := by
  obtain ⟨a1, a2, a3, a4⟩ := ha
  exact ⟨a1, a2, by rw [a3, hf.1], fun p hp => tc_tr hN hC hT (hf.2 p hp) (a4 p (by rw [← hf.1]; exact hp))⟩
theorem tc_sle_rf {g h : qa_St} (N : Nat → Int) (V : Nat → Nat → Int32) : tc_sle g h N V N V := fun i _ _ => ⟨rfl, fun p _ => tc_refl _⟩
theorem tc_sle_tr {g h : qa_St} (hN : pr_N h) (hC : pr_C h) (hT : pr_T g h) {N N' N'' : Nat → Int} {V V' V'' : Nat → Nat → Int32} (h1 : tc_sle g h N V N' V') (h2 : tc_sle g h N' V' N'' V'') : tc_sle g h N V N'' V'' := fun i hi hn => by
  have a := h1 i hi hn
  have b := h2 i hi (by rw [a.1]; exact hn)
  exact ⟨b.1.trans a.1, fun p hp => tc_tr hN hC hT (a.2 p hp) (b.2 p (by rw [a.1]; exact hp))⟩
/-- equal places, no change -/
theorem tc_sle_eq {g h : qa_St} {N N' : Nat → Int} {V V' : Nat → Nat → Int32} (h1 : ∀ i, i < 20 → N' i = N i) (h2 : ∀ i p, i < 20 → p < 4 + (N i).toNat → V' i p = V i p) : tc_sle g h N V N' V' := fun i hi _ => ⟨h1 i hi, fun p hp => by rw [h2 i p hi hp]; exact tc_refl _⟩
theorem tc_fle_at {g h : qa_St} {N N' : Nat → Int} {V V' : Nat → Nat → Int32} (hs : tc_sle g h N V N' V') {i : Nat} (hi : i < 20) (hn : N i ≠ -1) : tc_fle g h (tc_at N V i) (tc_at N' V' i) := by
  have w := hs i hi hn
  exact ⟨by show (N i).toNat = (N' i).toNat; rw [w.1], fun p hp => w.2 p hp⟩
theorem tc_ss_gd {g h : qa_St} {m : Nat} {N N' : Nat → Int} {V V' : Nat → Nat → Int32} {j : Nat} {f : tc_F} (hg : tc_gd h m N V) (hs : tc_ss g h N V j f N' V') (hj : (j : Int) < (h 7 m).toInt) (hf : tc_ok h f) : tc_gd h m N' V' := fun i hi => by
  obtain ⟨s1, s2, s3, s4⟩ := hs
  by_cases hij : i = j
  · right
    rw [hij]
    refine ⟨hj, by omega, by show (N' j).toNat ≤ 6; have := hf.1; omega, fun p hp => ?_⟩
    have hp : p < 4 + (N' j).toNat := hp
    have hp' : p < 4 + f.1 := by omega
    show tc_va h (V' j p)
    by_cases hn : N j = -1
    · rw [(s3 p hp').1 hn]; exact hf.2 p hp'
    · exact ((s3 p hp').2 hn).2.2.1
  · have w := s4 i hi hij
    rcases hg i hi with y | ⟨y1, y2, y3⟩
    · left; rw [w.1]; exact y
    · right
      refine ⟨y1, by rw [w.1]; exact y2, ?_, fun p hp => ?_⟩
      · show (N' i).toNat ≤ 6
        rw [w.1]; exact y3.1
      · have hp : p < 4 + (N' i).toNat := hp
        have h6 : (N i).toNat ≤ 6 := y3.1
        rw [w.1] at hp
        show tc_va h (V' i p)
        rw [w.2 p (by omega)]
        exact y3.2 p hp
theorem tc_ss_le {g h : qa_St} {m : Nat} {N N' : Nat → Int} {V V' : Nat → Nat → Int32} {j : Nat} {f : tc_F} (hg : tc_gd h m N V) (hs : tc_ss g h N V j f N' V') : tc_sle g h N V N' V' := fun i hi hn => by
  obtain ⟨s1, s2, s3, s4⟩ := hs
  by_cases hij : i = j
  · rw [hij] at hn ⊢
    refine ⟨by omega, fun p hp => ((s3 p (by omega)).2 hn).1⟩
  · have w := s4 i hi hij
    rcases hg i hi with y | ⟨y1, y2, y3⟩
    · exact absurd y hn
    · have h6 : (N i).toNat ≤ 6 := y3.1
      exact ⟨w.1, fun p hp => by rw [w.2 p (by omega)]; exact tc_refl _⟩
theorem tc_ss_ar {g h : qa_St} {m : Nat} {N N' : Nat → Int} {V V' : Nat → Nat → Int32} {j : Nat} {f : tc_F} (hs : tc_ss g h N V j f N' V') (hj : (j : Int) < (h 7 m).toInt) : tc_ar g h m N' V' (j : Int) f := by
  obtain ⟨s1, s2, s3, s4⟩ := hs
  refine ⟨by omega, hj, by rw [Int.toNat_natCast]; exact s1, fun p hp => ?_⟩
  rw [Int.toNat_natCast]
  by_cases hn : N j = -1
  · rw [(s3 p hp).1 hn]; exact tc_refl _
  · exact ((s3 p hp).2 hn).2.1
/-- below sound types: an arrival is not bad, and stays below -/
theorem tc_ss_nb {g h : qa_St} {m : Nat} {N NP : Nat → Int} {V VP : Nat → Nat → Int32} {j : Nat} {f : tc_F} (hj : j < 20) (hb : tc_sle g h N V NP VP) (ha : tc_ar g h m NP VP (j : Int) f) : N j = -1 ∨ N j = (f.1 : Int) := by
  obtain ⟨a1, a2, a3, a4⟩ := ha
  rw [Int.toNat_natCast] at a3
  by_cases hn : N j = -1
  · exact Or.inl hn
  · right
    rw [← (hb j hj hn).1, a3]
theorem tc_ss_bd {g h : qa_St} {m : Nat} {N N' NP : Nat → Int} {V V' VP : Nat → Nat → Int32} {j : Nat} {f : tc_F} (hg : tc_gd h m N V) (hgP : tc_gd h m NP VP) (hj : j < 20) (hb : tc_sle g h N V NP VP) (ha : tc_ar g h m NP VP (j : Int) f) (hs : tc_ss g h N V j f N' V') : tc_sle g h N' V' NP VP := fun i hi hn => by
  obtain ⟨s1, s2, s3, s4⟩ := hs
  obtain ⟨a1, a2, a3, a4⟩ := ha
  rw [Int.toNat_natCast] at a3
  by_cases hij : i = j
  · rw [hij] at hn ⊢
    refine ⟨by omega, fun p hp => ?_⟩
    have hp' : p < 4 + f.1 := by omega
    have a4' := a4 p hp'
    rw [Int.toNat_natCast] at a4'
    by_cases hnj : N j = -1
    · rw [(s3 p hp').1 hnj]; exact a4'
    · have hu : tc_va h (VP j p) := by
        rcases hgP j hj with y | ⟨y1, y2, y3⟩
        · omega
        · exact y3.2 p (by show p < 4 + (NP j).toNat; omega)
      exact ((s3 p hp').2 hnj).2.2.2 _ hu ((hb j hj hnj).2 p (by omega)) a4'
  · have w := s4 i hi hij
    rw [w.1] at hn ⊢
    have b := hb i hi hn
    rcases hg i hi with y | ⟨y1, y2, y3⟩
    · exact absurd y hn
    · have h6 : (N i).toNat ≤ 6 := y3.1
      exact ⟨b.1, fun p hp => by rw [w.2 p (by omega)]; exact b.2 p hp⟩
theorem tc_fl_dn {g h : qa_St} (hN : pr_N h) (hC : pr_C h) (hT : pr_T g h) {m : Nat} {N NP : Nat → Int} {V VP : Nat → Nat → Int32} {i : Nat} (hi : i < 20) (hft : pr_fit h (h 8 (20 * m + i)).toInt (h 9 (20 * m + i)).toInt) (hb : tc_sle g h N V NP VP) (hn : N i ≠ -1) (hf : tc_fl g h m NP VP i) : ∃ r, tc_ef g h (h 8 (20 * m + i)).toInt (h 9 (20 * m + i)) (tc_at N V i) = some r ∧ (∀ j, tc_sc (h 8 (20 * m + i)).toInt (h 9 (20 * m + i)).toInt i j → tc_ar g h m NP VP j r) ∧ (0 ≤ (pr_hd h m i 4 0).toInt → tc_ar g h m NP VP (pr_hd h m i 4 0).toInt (tc_hf (tc_at N V i))) := by
  obtain ⟨r', r1, r2, r3⟩ := hf
  have hl := tc_fle_at hb hi hn
  obtain ⟨r, e1, e2⟩ := tc_ef_m hN hC hT hft hl r1
  exact ⟨r, e1, fun j hj => tc_ar_dn hN hC hT e2 (r2 j hj), fun z => tc_ar_dn hN hC hT (tc_hf_m hl) (r3 z)⟩
theorem tc_sle_as {g h : qa_St} (hN : pr_N h) (hC : pr_C h) (hT : pr_T g h) {N N' : Nat → Int} {V V' : Nat → Nat → Int32} (h1 : tc_sle g h N V N' V') (h2 : tc_sle g h N' V' N V) : ∀ i, i < 20 → N' i = N i ∧ (N i ≠ -1 → ∀ p, p < 4 + (N i).toNat → V i p = V' i p) := fun i hi => by
  by_cases hn : N i = -1
  · refine ⟨?_, fun z => absurd hn z⟩
    by_cases hn' : N' i = -1
    · rw [hn, hn']
    · exact (h2 i hi hn').1.symm
  · have a := h1 i hi hn
    refine ⟨a.1, fun _ p hp => tc_as hN hC hT (a.2 p hp) ((h2 i hi (by rw [a.1]; exact hn)).2 p (by rw [a.1]; exact hp))⟩
/-! How high a state stands -/
def tc_sum (f : Nat → Nat) : Nat → Nat
  | 0 => 0
  | n + 1 => tc_sum f n + f n
theorem tc_sum_le {f f' : Nat → Nat} : ∀ (n : Nat), (∀ i, i < n → f i ≤ f' i) → tc_sum f n ≤ tc_sum f' n := by
  intro n
  induction n with
  | zero => intro _; exact Nat.le_refl _
  | succ n ih =>
    intro hf
    rw [tc_sum, tc_sum]
    have := ih (fun i hi => hf i (by omega))
    have := hf n (by omega)
    omega
theorem tc_sum_lt {f f' : Nat → Nat} : ∀ (n : Nat), (∀ i, i < n → f i ≤ f' i) → ∀ k, k < n → f k < f' k → tc_sum f n < tc_sum f' n := by
  intro n
  induction n with
  | zero => intro _ k hk; omega
  | succ n ih =>
    intro hf k hk hlt
    rw [tc_sum, tc_sum]
    have h1 := tc_sum_le n (fun i hi => hf i (by omega))
    have h2 := hf n (by omega)
    by_cases hkn : k = n
    · rw [hkn] at hlt; omega
    · have := ih (fun i hi => hf i (by omega)) k (by omega) hlt
      omega
theorem tc_sum_bd {f : Nat → Nat} {b : Nat} : ∀ (n : Nat), (∀ i, i < n → f i ≤ b) → tc_sum f n ≤ n * b := by
  intro n
  induction n with
  | zero => intro _; rw [tc_sum]; omega
  | succ n ih =>
    intro hf
    rw [tc_sum, Nat.succ_mul]
    have := ih (fun i hi => hf i (by omega))
    have := hf n (by omega)
    omega
def tc_ph (N : Nat → Int) (V : Nat → Nat → Int32) (i : Nat) : Nat := if N i = -1 then 0 else 1 + tc_sum (fun p => tc_rk (V i p)) (4 + (N i).toNat)
theorem tc_ph_bd {h : qa_St} {m : Nat} {N : Nat → Int} {V : Nat → Nat → Int32} (hg : tc_gd h m N V) {i : Nat} (hi : i < 20) : tc_ph N V i ≤ 61 := by
  unfold tc_ph
  by_cases hn : N i = -1
  · rw [if_pos hn]; omega
  · rw [if_neg hn]
    rcases hg i hi with y | ⟨y1, y2, y3⟩
    · exact absurd y hn
    · have h6 : (N i).toNat ≤ 6 := y3.1
      have h1 := tc_sum_bd (f := fun p => tc_rk (V i p)) (b := 6) (4 + (N i).toNat) (fun p _ => tc_rk6 _)
      have : (4 + (N i).toNat) * 6 ≤ 10 * 6 := Nat.mul_le_mul_right 6 (by omega)
      omega
theorem tc_ss_ph {g h : qa_St} (hN : pr_N h) (hC : pr_C h) (hT : pr_T g h) {m : Nat} {N N' : Nat → Int} {V V' : Nat → Nat → Int32} {j : Nat} {f : tc_F} (hg : tc_gd h m N V) (hs : tc_ss g h N V j f N' V') (hj : j < 20) : (∀ i, i < 20 → i ≠ j → tc_ph N' V' i = tc_ph N V i) ∧ tc_ph N V j ≤ tc_ph N' V' j ∧ ((N j = -1 ∨ ∃ p, p < 4 + f.1 ∧ V' j p ≠ V j p) → tc_ph N V j < tc_ph N' V' j) := by
  obtain ⟨s1, s2, s3, s4⟩ := hs
  refine ⟨fun i hi hij => ?_, ?_⟩
  · have w := s4 i hi hij
    unfold tc_ph
    rw [w.1]
    by_cases hn : N i = -1
    · rw [if_pos hn, if_pos hn]
    · rw [if_neg hn, if_neg hn]
      rcases hg i hi with y | ⟨y1, y2, y3⟩
      · exact absurd y hn
      · have h6 : (N i).toNat ≤ 6 := y3.1
        have a := tc_sum_le (f := fun p => tc_rk (V' i p)) (f' := fun p => tc_rk (V i p)) (4 + (N i).toNat) (fun p hp => by show tc_rk (V' i p) ≤ tc_rk (V i p); rw [w.2 p (by omega)]; exact Nat.le_refl _)
        have b := tc_sum_le (f := fun p => tc_rk (V i p)) (f' := fun p => tc_rk (V' i p)) (4 + (N i).toNat) (fun p hp => by show tc_rk (V i p) ≤ tc_rk (V' i p); rw [w.2 p (by omega)]; exact Nat.le_refl _)
        omega
  · have hn' : ¬ N' j = -1 := by omega
    unfold tc_ph
    rw [if_neg hn']
    by_cases hn : N j = -1
    · rw [if_pos hn]
      exact ⟨by omega, fun _ => by omega⟩
    · rw [if_neg hn]
      have hNN : N' j = N j := by omega
      rw [hNN]
      have hv : ∀ p, p < 4 + (N j).toNat → tc_va h (V j p) := by
        rcases hg j hj with y | ⟨y1, y2, y3⟩
        · exact absurd y hn
        · exact y3.2
      have hle : ∀ p, p < 4 + (N j).toNat → tc_rk (V j p) ≤ tc_rk (V' j p) := fun p hp => (tc_rkle hN hC hT (hv p hp) ((s3 p (by omega)).2 hn).1).1
      have a := tc_sum_le (f := fun p => tc_rk (V j p)) (f' := fun p => tc_rk (V' j p)) (4 + (N j).toNat) hle
      refine ⟨by omega, fun z => ?_⟩
      rcases z with z | ⟨p, z1, z2⟩
      · exact absurd z hn
      · have := tc_sum_lt (f := fun p => tc_rk (V j p)) (f' := fun p => tc_rk (V' j p)) (4 + (N j).toNat) hle p (by omega) ((tc_rkle hN hC hT (hv p (by omega)) ((s3 p z1).2 hn).1).2 (Ne.symm z2))
        omega
