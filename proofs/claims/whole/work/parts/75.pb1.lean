/-! The joins of both -/
theorem pv_and1 (p : Int32) : (p &&& 1 = 0) ↔ p.toBitVec.getLsbD 0 = false := by
  constructor
  · intro hz
    have : (p &&& 1).toBitVec.getLsbD 0 = false := by rw [hz]; rfl
    rw [Int32.toBitVec_and, BitVec.getLsbD_and] at this
    have e : (1 : Int32).toBitVec.getLsbD 0 = true := rfl
    rw [e, Bool.and_true] at this
    exact this
  · intro hz
    apply Int32.toBitVec_inj.mp
    apply BitVec.eq_of_getLsbD_eq
    intro i hi
    rw [Int32.toBitVec_and, BitVec.getLsbD_and]
    have e0 : (0 : Int32).toBitVec.getLsbD i = false := by simp
    rw [e0]
    by_cases h0 : i = 0
    · rw [h0, hz]; rfl
    · have e1 : (1 : Int32).toBitVec.getLsbD i = false := by
        have : (1 : Int32).toBitVec = 1#32 := rfl
        rw [this]
        simp [BitVec.getLsbD_one, h0]
      rw [e1, Bool.and_false]
theorem pv_bit_and (a b : Int32) (k : Nat) : pv_bit (a &&& b) k ↔ (pv_bit a k ∧ pv_bit b k) := by
  unfold pv_bit
  rw [Int32.shiftRight_and, pv_and1, pv_and1, pv_and1, Int32.toBitVec_and, BitVec.getLsbD_and]
  cases (a >>> (Int32.ofNat k &&& 31)).toBitVec.getLsbD 0 <;> cases (b >>> (Int32.ofNat k &&& 31)).toBitVec.getLsbD 0 <;> simp
theorem xs_near (g : qa_St) (x3 : Int32) : ∀ (k n : Nat), k ≤ 6 → k < n → ∃ j, xf_Pr_nearestCommon_15 n g x3 (Int32.ofNat k + -1) = some (j, g) ∧ ((j = -1 ∧ ∀ i, i < k → ¬ pv_bit x3 i) ∨ ∃ i, i < k ∧ j = Int32.ofNat i ∧ pv_bit x3 i ∧ ∀ i', i < i' → i' < k → ¬ pv_bit x3 i') := by
  intro k
  have e0 : (0 : Int32).toInt = 0 := rfl
  have em : (-1 : Int32).toInt = -1 := rfl
  induction k with
  | zero =>
    intro n hk hn
    obtain ⟨n, rfl⟩ : ∃ z, n = z + 1 := ⟨n - 1, by omega⟩
    refine ⟨-1, ?_, Or.inl ⟨rfl, fun i hi => by omega⟩⟩
    rw [xf_Pr_nearestCommon_15, if_pos (by decide)]
  | succ k ih =>
    intro n hk hn
    obtain ⟨n, rfl⟩ : ∃ z, n = z + 1 := ⟨n - 1, by omega⟩
    have ek : (Int32.ofNat k).toInt = (k : Int) := pv_nI (by omega)
    have ekn : (Int32.ofNat k).toInt.toNat = k := by omega
    have es : Int32.ofNat (k + 1) + -1 = Int32.ofNat k := by
      rw [pv_eq, pv_add (by rw [pv_nI (by omega), em]; omega) (by rw [pv_nI (by omega), em]; omega), pv_nI (by omega), pv_nI (by omega), em]
      omega
    rw [es, xf_Pr_nearestCommon_15, if_neg (by rw [pv_lt, ek, e0]; omega), xs_has _ _ _ (by omega), ekn]
    simp only [Option.bind_some, pv_b1]
    by_cases hb : pv_bit x3 k
    · rw [if_neg (fun z => z hb)]
      exact ⟨_, rfl, Or.inr ⟨k, by omega, rfl, hb, fun i' h1 h2 => by omega⟩⟩
    · rw [if_pos hb]
      obtain ⟨j, j1, j2⟩ := ih n (by omega) (by omega)
      refine ⟨j, j1, ?_⟩
      rcases j2 with ⟨a, b⟩ | ⟨i, a, b, c, d⟩
      · refine Or.inl ⟨a, fun i hi => ?_⟩
        by_cases hik : i = k
        · rw [hik]; exact hb
        · exact b i (by omega)
      · refine Or.inr ⟨i, by omega, b, c, fun i' h1 h2 => ?_⟩
        by_cases hik : i' = k
        · rw [hik]; exact hb
        · exact d i' h1 (by omega)
/-- the classes that a type is of, none if it is no class -/
def tc_kn (g : qa_St) (a : Int32) : Int32 := if 0 ≤ a.toInt ∧ a.toInt < (g 1 0).toInt then g 2 a.toInt.toNat else 0
theorem xs_nc (g : qa_St) (hg : (g 1 0).toInt ≤ 6) (a b : Int32) : ∃ j, xf_Pr_nearestCommon g a b = some (j, g) ∧ ((j = -1 ∧ ∀ i, i < 6 → ¬ pv_bit (tc_kn g a &&& tc_kn g b) i) ∨ ∃ i, i < 6 ∧ j = Int32.ofNat i ∧ pv_bit (tc_kn g a &&& tc_kn g b) i ∧ ∀ i', i < i' → i' < 6 → ¬ pv_bit (tc_kn g a &&& tc_kn g b) i') := by
  obtain ⟨j, j1, j2⟩ := xs_near g (tc_kn g a &&& tc_kn g b) 6 4096 (by omega) (by omega)
  refine ⟨j, ?_, j2⟩
  have ka : xf_Pr_kinOf g a = some (tc_kn g a, g) := xs_kinOf g a hg
  have kb : xf_Pr_kinOf g b = some (tc_kn g b, g) := xs_kinOf g b hg
  have e5 : (5 : Int32) = Int32.ofNat 6 + -1 := by decide
  unfold xf_Pr_nearestCommon
  rw [ka, Option.bind_some, kb, Option.bind_some]
  exact (congrArg (xf_Pr_nearestCommon_15 4096 g (tc_kn g a &&& tc_kn g b)) e5).trans j1
theorem tc_lub_rf {g h : qa_St} {a : Int32} (ha : tc_va h a) : tc_lub g h a a a := ⟨tc_refl _, tc_refl _, ha, fun u _ h1 _ => h1⟩
/-- not both of one kind, not equal: only UNSET is above both -/
theorem tc_lub_no {g h : qa_St} (hN : pr_N h) {a b : Int32} (ha : tc_va h a) (hb : tc_va h b) (hab : ¬ a = b) (hn : ∀ u, tc_cl h u → tc_cl h a → tc_cl h b → pv_bit (g 2 a.toInt.toNat) u.toInt.toNat → pv_bit (g 2 b.toInt.toNat) u.toInt.toNat → False) (hr : ∀ c, tc_cl h c → pv_bit (g 2 c.toInt.toNat) c.toInt.toNat) : tc_lub g h a b 8 := by
  refine ⟨Or.inr (Or.inl rfl), Or.inr (Or.inl rfl), Or.inr (Or.inl rfl), fun u hu h1 h2 => ?_⟩
  by_cases h8 : u = 8
  · rw [h8]; exact tc_refl _
  · exfalso
    have hub : ∀ c, tc_le g h c u → tc_cl h u → tc_cl h c ∧ pv_bit (g 2 c.toInt.toNat) u.toInt.toNat := fun c z w => by
      rcases z with z | z | z
      · rw [z]; exact ⟨w, hr u w⟩
      · exact absurd z h8
      · exact ⟨z.1, z.2.2⟩
    rcases hu with hu | hu | hu
    · have a1 := hub a h1 hu
      have b1 := hub b h2 hu
      exact hn u hu a1.1 b1.1 a1.2 b1.2
    · exact h8 hu
    · rw [hu] at h1 h2
      exact hab ((tc_to9 hN h1).trans (tc_to9 hN h2).symm)
theorem xs_join {g h : qa_St} (hN : pr_N h) (hC : pr_C h) (hT : pr_T g h) (r1 : g 1 0 = h 0 0) (a b : Int32) : ∃ j, xf_Ch_join g a b = some (j, g) ∧ (tc_va h a → tc_va h b → tc_lub g h a b j) := by
  have hN0 := hN
  obtain ⟨n0, n1, n2, n3⟩ := hN
  have em : (-1 : Int32).toInt = -1 := rfl
  unfold xf_Ch_join
  by_cases hab : a = b
  · rw [if_pos hab]
    exact ⟨a, rfl, fun ha _ => by rw [← hab]; exact tc_lub_rf ha⟩
  · rw [if_neg hab]
    obtain ⟨j, j1, j2⟩ := xs_nc g (by rw [r1]; omega) a b
    rw [j1, Option.bind_some]
    have hbz : ∀ (c : Int32) (i : Nat), i < 10 → (pv_bit (tc_kn g c) i ↔ (tc_cl h c ∧ pv_bit (g 2 c.toInt.toNat) i)) := fun c i hi => by
      unfold tc_kn tc_cl
      rw [r1]
      by_cases hc : 0 ≤ c.toInt ∧ c.toInt < (h 0 0).toInt
      · rw [if_pos hc]; exact ⟨fun z => ⟨hc, z⟩, fun z => z.2⟩
      · rw [if_neg hc]; exact ⟨fun z => absurd z (pv_bit_zero i hi), fun z => absurd z.1 hc⟩
    have hr : ∀ c, tc_cl h c → pv_bit (g 2 c.toInt.toNat) c.toInt.toNat := fun c hc => (pr_bit hN0 hT (by have := hc.2; have := hc.1; omega) _ (by have := hc.2; omega)).mpr (Or.inl rfl)
    rcases j2 with ⟨w1, w2⟩ | ⟨i, w1, w2, w3, w4⟩
    · rw [if_pos w1]
      refine ⟨8, rfl, fun ha hb => tc_lub_no hN0 ha hb hab (fun u hu ca cb ba bb => ?_) hr⟩
      have hu1 := hu.1
      have hu2 := hu.2
      refine w2 u.toInt.toNat (by omega) ?_
      rw [pv_bit_and, hbz a _ (by omega), hbz b _ (by omega)]
      exact ⟨⟨ca, ba⟩, cb, bb⟩
    · rw [pv_bit_and, hbz a _ (by omega), hbz b _ (by omega)] at w3
      obtain ⟨⟨ca, ba⟩, cb, bb⟩ := w3
      have ei : (Int32.ofNat i).toInt = (i : Int) := pv_nI (by omega)
      have hia := pr_bit_le hN0 hC hT a.toInt.toNat (by have := ca.2; have := ca.1; omega) i (by omega) ba
      have hci : tc_cl h (Int32.ofNat i) := ⟨by omega, by have := ca.2; have := ca.1; omega⟩
      have hin : (Int32.ofNat i).toInt.toNat = i := by omega
      rw [if_neg (by rw [w2, pv_eq, ei, em]; omega), w2]
      refine ⟨_, rfl, fun ha hb => ⟨Or.inr (Or.inr ⟨ca, hci, by rw [hin]; exact ba⟩), Or.inr (Or.inr ⟨cb, hci, by rw [hin]; exact bb⟩), Or.inl hci, fun u hu h1 h2 => ?_⟩⟩
      by_cases h8 : u = 8
      · exact Or.inr (Or.inl h8)
      · have hub : ∀ c, tc_cl h c → tc_le g h c u → tc_cl h u ∧ pv_bit (g 2 c.toInt.toNat) u.toInt.toNat := fun c w z => by
          rcases z with z | z | z
          · rw [← z]; exact ⟨w, hr c w⟩
          · exact absurd z h8
          · exact ⟨z.2.1, z.2.2⟩
        have a1 := hub a ca h1
        have b1 := hub b cb h2
        have hu1 := a1.1.1
        have hu2 := a1.1.2
        refine Or.inr (Or.inr ⟨hci, a1.1, ?_⟩)
        rw [hin]
        refine ps_chain hN0 hC hT a.toInt.toNat (by have := ca.2; have := ca.1; omega) i u.toInt.toNat ?_ (by omega) ba a1.2
        apply Nat.not_lt.mp
        intro hlt
        refine w4 u.toInt.toNat hlt (by omega) ?_
        rw [pv_bit_and, hbz a _ (by omega), hbz b _ (by omega)]
        exact ⟨⟨ca, a1.2⟩, cb, b1.2⟩
theorem ms_join27 {g h : qa_St} (hN : pr_N h) (hC : pr_C h) (hT : pr_T g h) (b : Nat) (hb : (b : Int) < (h 0 0).toInt) : ∀ (c : Nat), (c : Int) < (h 0 0).toInt → ∀ (far n : Nat), far + c ≤ 5 → c + 1 < n → ∃ j, mf_Mo_join_27 n h (Int32.ofNat b) (Int32.ofNat c) (Int32.ofNat far) = some (j, h) ∧ ((∃ i : Nat, j = Int32.ofNat i ∧ (i : Int) < (h 0 0).toInt ∧ pv_bit (g 2 c) i ∧ pv_bit (g 2 b) i ∧ ∀ i', i' < 10 → pv_bit (g 2 c) i' → pv_bit (g 2 b) i' → pv_bit (g 2 i) i') ∨ (j = 8 ∧ ∀ i', i' < 10 → pv_bit (g 2 c) i' → ¬ pv_bit (g 2 b) i')) := by
  intro c
  have hN0 := hN
  obtain ⟨n0, n1, n2, n3⟩ := hN
  have e0 : (0 : Int32).toInt = 0 := rfl
  have e6 : (6 : Int32).toInt = 6 := rfl
  have eb : (Int32.ofNat b).toInt = (b : Int) := pv_nI (by omega)
  have ebn : (Int32.ofNat b).toInt.toNat = b := by omega
  induction c using Nat.strongRecOn with
  | _ c ih =>
    intro hc far n hf hn
    obtain ⟨n, rfl⟩ : ∃ z, n = z + 1 := ⟨n - 1, by omega⟩
    have ec : (Int32.ofNat c).toInt = (c : Int) := pv_nI (by omega)
    have ecn : (Int32.ofNat c).toInt.toNat = c := by omega
    have ef : (Int32.ofNat far).toInt = (far : Int) := pv_nI (by omega)
    have q := hC c hc
    have hcc : pv_bit (g 2 c) c := (pr_bit hN0 hT hc c (by omega)).mpr (Or.inl rfl)
    rw [mf_Mo_join_27, if_neg (by rw [pv_le, e6, ef]; omega), if_neg (by rw [pv_lt, ec, e0]; omega), ms_isOf hN0 hC hT _ _ (by omega) (by omega), ebn, ecn]
    simp only [Option.bind_some, pv_b1]
    by_cases hbc : pv_bit (g 2 b) c
    · rw [if_neg (fun z => z hbc)]
      unfold mf_Mo_join_60
      rw [if_pos (by rw [pv_le, ec, e0]; omega)]
      exact ⟨_, rfl, Or.inl ⟨c, rfl, hc, hcc, hbc, fun i' _ z _ => z⟩⟩
    · rw [if_pos hbc, if_neg (by rw [pv_lt, pv_cl, ec, e0]; omega), pv_cl, ecn, pv_n1]
      by_cases hp : (h 1 c).toInt < 0
      · obtain ⟨n, rfl⟩ : ∃ z, n = z + 1 := ⟨n - 1, by omega⟩
        refine ⟨8, ?_, Or.inr ⟨rfl, fun i' hi' z => ?_⟩⟩
        · rw [mf_Mo_join_27]
          unfold mf_Mo_join_60
          rw [if_neg (show ¬ (0 : Int32) ≤ h 1 c by rw [pv_le, e0]; omega), if_pos (show h 1 c < 0 by rw [pv_lt, e0]; exact hp)]
          by_cases h6 : (6 : Int32) ≤ Int32.ofNat (far + 1)
          · rw [if_pos h6]
          · rw [if_neg h6]
        · rcases (pr_bit hN0 hT hc i' hi').mp z with y | y
          · rw [y]; exact hbc
          · omega
      · have e1 : h 1 c = Int32.ofNat (h 1 c).toInt.toNat := pv_nIe (by omega)
        obtain ⟨j, j1, j2⟩ := ih (h 1 c).toInt.toNat (by omega) (by omega) (far + 1) n (by omega) (by omega)
        rw [← e1] at j1
        refine ⟨j, j1, ?_⟩
        have hdn : ∀ i', i' < 10 → pv_bit (g 2 c) i' → pv_bit (g 2 b) i' → pv_bit (g 2 (h 1 c).toInt.toNat) i' := fun i' hi' z w => by
          rcases (pr_bit hN0 hT hc i' hi').mp z with y | y
          · rw [y] at w; exact absurd w hbc
          · exact y.2
        rcases j2 with ⟨i, w1, w2, w3, w4, w5⟩ | ⟨w1, w2⟩
        · exact Or.inl ⟨i, w1, w2, (pr_bit hN0 hT hc i (by omega)).mpr (Or.inr ⟨by omega, w3⟩), w4, fun i' hi' z w => w5 i' hi' (hdn i' hi' z w) w⟩
        · exact Or.inr ⟨w1, fun i' hi' z w => w2 i' hi' (hdn i' hi' z w) w⟩
theorem ms_join {g h : qa_St} (hN : pr_N h) (hC : pr_C h) (hT : pr_T g h) (a b : Int32) (ha : tc_va h a) (hb : tc_va h b) : ∃ j, mf_Mo_join h a b = some (j, h) ∧ tc_lub g h a b j := by
  have hN0 := hN
  obtain ⟨n0, n1, n2, n3⟩ := hN
  have e8 : (8 : Int32).toInt = 8 := rfl
  have hr : ∀ c, tc_cl h c → pv_bit (g 2 c.toInt.toNat) c.toInt.toNat := fun c hc => (pr_bit hN0 hT (by have := hc.2; have := hc.1; omega) _ (by have := hc.2; omega)).mpr (Or.inl rfl)
  have hlt : ∀ c, tc_va h c → (c < 8 ↔ tc_cl h c) := fun c hc => by
    rw [pv_lt, e8]
    rcases hc with z | z | z
    · exact ⟨fun _ => z, fun _ => by have := z.2; omega⟩
    · rw [z]; exact ⟨fun w => absurd w (by decide), fun w => absurd w (tc_cl8 hN0)⟩
    · rw [z]; exact ⟨fun w => absurd w (by decide), fun w => absurd w (tc_cl9 hN0)⟩
  unfold mf_Mo_join
  by_cases hab : a = b
  · rw [if_pos hab]
    exact ⟨a, rfl, by rw [← hab]; exact tc_lub_rf ha⟩
  · rw [if_neg hab]
    by_cases h1 : (8 : Int32) ≤ a
    · rw [if_pos h1]
      refine ⟨8, rfl, tc_lub_no hN0 ha hb hab (fun u hu ca cb _ _ => ?_) hr⟩
      have := (hlt a ha).mpr ca
      rw [pv_le] at h1
      rw [pv_lt] at this
      omega
    · have ca : tc_cl h a := (hlt a ha).mp (by rw [pv_le] at h1; rw [pv_lt]; omega)
      rw [if_neg h1]
      by_cases h2 : b < 8
      · have cb : tc_cl h b := (hlt b hb).mp h2
        rw [if_pos h2]
        have ea : a = Int32.ofNat a.toInt.toNat := pv_nIe ca.1
        have eb : b = Int32.ofNat b.toInt.toNat := pv_nIe cb.1
        obtain ⟨j, j1, j2⟩ := ms_join27 hN0 hC hT b.toInt.toNat (by have := cb.1; have := cb.2; omega) a.toInt.toNat (by have := ca.1; have := ca.2; omega) 0 4096 (by have := ca.2; omega) (by have := ca.2; omega)
        have j1' : mf_Mo_join_27 4096 h b a 0 = some (j, h) := by
          have e : mf_Mo_join_27 4096 h b a 0 = mf_Mo_join_27 4096 h (Int32.ofNat b.toInt.toNat) (Int32.ofNat a.toInt.toNat) (Int32.ofNat 0) := congrFun (congr (congrArg (mf_Mo_join_27 4096 h) eb) ea) _
          exact e.trans j1
        refine ⟨j, j1', ?_⟩
        rcases j2 with ⟨i, w1, w2, w3, w4, w5⟩ | ⟨w1, w2⟩
        · have ei : (Int32.ofNat i).toInt = (i : Int) := pv_nI (by omega)
          have hci : tc_cl h (Int32.ofNat i) := ⟨by omega, by omega⟩
          have hin : (Int32.ofNat i).toInt.toNat = i := by omega
          rw [w1]
          refine ⟨Or.inr (Or.inr ⟨ca, hci, by rw [hin]; exact w3⟩), Or.inr (Or.inr ⟨cb, hci, by rw [hin]; exact w4⟩), Or.inl hci, fun u hu h1 h2 => ?_⟩
          by_cases h8 : u = 8
          · exact Or.inr (Or.inl h8)
          · have hub : ∀ c, tc_cl h c → tc_le g h c u → tc_cl h u ∧ pv_bit (g 2 c.toInt.toNat) u.toInt.toNat := fun c w z => by
              rcases z with z | z | z
              · rw [← z]; exact ⟨w, hr c w⟩
              · exact absurd z h8
              · exact ⟨z.2.1, z.2.2⟩
            have a1 := hub a ca h1
            have b1 := hub b cb h2
            exact Or.inr (Or.inr ⟨hci, a1.1, by rw [hin]; exact w5 _ (by have := a1.1.2; omega) a1.2 b1.2⟩)
        · rw [w1]
          exact tc_lub_no hN0 ha hb hab (fun u hu _ _ ba bb => w2 u.toInt.toNat (by have := hu.2; omega) ba bb) hr
      · rw [if_neg h2]
        exact ⟨8, rfl, tc_lub_no hN0 ha hb hab (fun u hu _ cb _ _ => h2 ((hlt b hb).mpr cb)) hr⟩
