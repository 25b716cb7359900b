/-! Promise 10: slot -/
theorem pv_n1 (n : Nat) : Int32.ofNat n + 1 = Int32.ofNat (n + 1) := nI_1 n
/-- method k stands in the table of class a -/
def ps_tb (g h : qa_St) (a k : Nat) : Prop := (k : Int) < (h 0 4).toInt ∧ 0 ≤ (h 5 k).toInt ∧ pv_bit (g 2 a) (h 4 k).toInt.toNat
/-- method k stands before place j of class c -/
def ps_lx (h : qa_St) (k c j : Nat) : Prop := (h 4 k).toInt < (c : Int) ∨ ((h 4 k).toInt = (c : Int) ∧ k < j)
def ps_bf (g h : qa_St) (a c j s : Nat) : Prop := ∃ k, ps_tb g h a k ∧ (h 5 k).toInt = (s : Int) ∧ ps_lx h k c j
def ps_mk (g h : qa_St) (a m : Nat) (s : Int) : Prop := ps_tb g h a m ∧ (h 5 m).toInt = s ∧ ∀ k, ps_tb g h a k → (h 5 k).toInt = s → (h 4 m).toInt ≤ (h 4 k).toInt
theorem ps_or : ∀ n, n < 16 → ∀ s, s < 4 → Int32.ofNat n ||| ((1 : Int32) <<< (Int32.ofNat s &&& 31)) = Int32.ofNat (n ||| (1 <<< s)) ∧ n ||| (1 <<< s) < 16 := by decide +kernel
theorem ps_bc : ∀ n, n < 16 → pv_bc (Int32.ofNat n) = (if pv_bit (Int32.ofNat n) 0 then 1 else 0) + (if pv_bit (Int32.ofNat n) 1 then 1 else 0) + (if pv_bit (Int32.ofNat n) 2 then 1 else 0) + (if pv_bit (Int32.ofNat n) 3 then 1 else 0) := by decide +kernel
theorem xs_slot24 {g h : qa_St} (hN : pr_N h) (hM : pr_M h) (r2 : g 1 1 = h 0 4) (hQ : pr_Q g h) (k15 : qa_St → Int32 → Int32 → Int32 → Int32 → qa_Re) (a : Nat) (ha : (a : Int) < (h 0 0).toInt) (x2 : Int32) (c : Nat) (hc : c ≤ a) : ∀ (d j B n : Nat), (j : Int) + d = (h 0 4).toInt → d < n → B < 16 → (∀ s, s < 4 → (pv_bit (Int32.ofNat B) s ↔ ps_bf g h a c j s)) → (∀ k, ps_tb g h a k → ps_lx h k c j → (h 5 k).toInt ≠ x2.toInt) →
    (∃ m B', xf_Pr_slotOf_24 k15 n g (Int32.ofNat a) x2 (Int32.ofNat B) (Int32.ofNat c) (Int32.ofNat j) = some (pv_bc (Int32.ofNat B'), g) ∧ B' < 16 ∧ ps_tb g h a m ∧ (h 5 m).toInt = x2.toInt ∧ (h 4 m).toInt = (c : Int) ∧ (∀ s, s < 4 → (pv_bit (Int32.ofNat B') s ↔ ps_bf g h a c m s)) ∧ ∀ k, ps_tb g h a k → ps_lx h k c m → (h 5 k).toInt ≠ x2.toInt) ∨
    (∃ B', xf_Pr_slotOf_24 k15 n g (Int32.ofNat a) x2 (Int32.ofNat B) (Int32.ofNat c) (Int32.ofNat j) = k15 g (Int32.ofNat a) x2 (Int32.ofNat B') (Int32.ofNat (c + 1)) ∧ B' < 16 ∧ (∀ s, s < 4 → (pv_bit (Int32.ofNat B') s ↔ ps_bf g h a (c + 1) 0 s)) ∧ ∀ k, ps_tb g h a k → ps_lx h k (c + 1) 0 → (h 5 k).toInt ≠ x2.toInt) := by
  intro d
  obtain ⟨n0, n1, n2, n3⟩ := hN
  have e0 : (0 : Int32).toInt = 0 := rfl
  have em : (-1 : Int32).toInt = -1 := rfl
  have ea : (Int32.ofNat a).toInt = (a : Int) := pv_nI (by omega)
  have ean : (Int32.ofNat a).toInt.toNat = a := by omega
  have ec : (Int32.ofNat c).toInt = (c : Int) := pv_nI (by omega)
  have ecn : (Int32.ofNat c).toInt.toNat = c := by omega
  induction d with
  | zero =>
    intro j B n hj hn hB hb hno
    obtain ⟨n, rfl⟩ : ∃ z, n = z + 1 := ⟨n - 1, by omega⟩
    right
    have ej : (Int32.ofNat j).toInt = (j : Int) := pv_nI (by omega)
    have el : ∀ k, ps_tb g h a k → (ps_lx h k (c + 1) 0 ↔ ps_lx h k c j) := fun k hk => by
      have := hk.1
      unfold ps_lx
      omega
    refine ⟨B, ?_, hB, fun s hs => ?_, fun k hk hl => hno k hk ((el k hk).mp hl)⟩
    · rw [xf_Pr_slotOf_24, if_pos (by rw [pv_le, r2, ej]; omega), pv_n1]
    · rw [hb s hs]
      constructor
      · rintro ⟨k, q1, q2, q3⟩
        exact ⟨k, q1, q2, (el k q1).mpr q3⟩
      · rintro ⟨k, q1, q2, q3⟩
        exact ⟨k, q1, q2, (el k q1).mp q3⟩
  | succ d ih =>
    intro j B n hj hn hB hb hno
    obtain ⟨n, rfl⟩ : ∃ z, n = z + 1 := ⟨n - 1, by omega⟩
    have ej : (Int32.ofNat j).toInt = (j : Int) := pv_nI (by omega)
    have ejn : (Int32.ofNat j).toInt.toNat = j := by omega
    have q := hM j (by omega)
    have qq := hQ j (by omega)
    have hjn : ¬ (Int32.ofNat j < 0 ∨ 10 ≤ (Int32.ofNat j).toNatClampNeg) := by rw [pv_lt, pv_cl, ej, e0]; omega
    have hst : xf_Pr_slotOf_24 k15 (n + 1) g (Int32.ofNat a) x2 (Int32.ofNat B) (Int32.ofNat c) (Int32.ofNat j) = (if 0 ≤ (h 5 j).toInt ∧ (h 4 j).toInt = (c : Int) ∧ pv_bit (g 2 a) c then (if (h 5 j).toInt = x2.toInt then some (pv_bc (Int32.ofNat B), g) else xf_Pr_slotOf_24 k15 n g (Int32.ofNat a) x2 (Int32.ofNat B ||| ((1 : Int32) <<< (h 5 j &&& 31))) (Int32.ofNat c) (Int32.ofNat (j + 1))) else xf_Pr_slotOf_24 k15 n g (Int32.ofNat a) x2 (Int32.ofNat B) (Int32.ofNat c) (Int32.ofNat (j + 1))) := by
      have h74 : xf_Pr_slotOf_74 k15 (xf_Pr_slotOf_24 k15 n) g (Int32.ofNat a) x2 (Int32.ofNat B) (Int32.ofNat c) (Int32.ofNat j) = xf_Pr_slotOf_24 k15 n g (Int32.ofNat a) x2 (Int32.ofNat B) (Int32.ofNat c) (Int32.ofNat (j + 1)) := by
        unfold xf_Pr_slotOf_74 xf_Pr_slotOf_75 xf_Pr_slotOf_98 xf_Pr_slotOf_115
        rw [if_pos rfl, if_pos rfl, pv_n1]
      rw [xf_Pr_slotOf_24, h74, if_neg (by rw [pv_le, r2, ej]; omega), if_neg hjn, pv_cl (Int32.ofNat j), ejn, qq.2.1, qq.1]
      by_cases h1 : h 5 j = -1
      · rw [if_pos h1, if_neg (by rw [h1, em]; omega)]
      · have h1' : 0 ≤ (h 5 j).toInt := by
          have : ¬ (h 5 j).toInt = -1 := fun z => h1 (by rw [pv_eq, em]; exact z)
          omega
        rw [if_neg h1, if_neg (by rw [pv_lt, ej, e0]; omega)]
        by_cases h2 : (h 4 j).toInt = (c : Int)
        · rw [if_pos (by rw [pv_eq, ec]; exact h2), if_neg (by rw [pv_lt, pv_cl, ea, e0]; omega), xs_has _ _ _ (by omega), ecn, pv_cl, ean]
          simp only [Option.bind_some, pv_b1]
          by_cases h3 : pv_bit (g 2 a) c
          · rw [if_neg (fun z => z h3), if_pos ⟨h1', h2, h3⟩]
            unfold xf_Pr_slotOf_75 xf_Pr_slotOf_98 xf_Pr_slotOf_115
            rw [if_neg (by decide), if_neg hjn, pv_bc_eq, pv_cl (Int32.ofNat j), ejn, qq.2.1, pv_n1]
            by_cases h4 : (h 5 j).toInt = x2.toInt
            · rw [if_pos h4, if_pos (by rw [pv_eq]; exact h4)]
              rfl
            · rw [if_neg h4, if_neg (by rw [pv_eq]; exact h4), if_neg (by decide), if_neg (by rw [pv_lt, ej, e0]; omega)]
          · rw [if_pos h3, if_neg (fun z => h3 z.2.2), h74]
        · rw [if_neg (by rw [pv_eq, ec]; exact h2), if_neg (fun z => h2 z.2.1)]
    rw [hst]
    by_cases ht : 0 ≤ (h 5 j).toInt ∧ (h 4 j).toInt = (c : Int) ∧ pv_bit (g 2 a) c
    · have htb : ps_tb g h a j := ⟨by omega, ht.1, by rw [ht.2.1, Int.toNat_natCast]; exact ht.2.2⟩
      rw [if_pos ht]
      by_cases h4 : (h 5 j).toInt = x2.toInt
      · left
        rw [if_pos h4]
        exact ⟨j, B, rfl, hB, htb, h4, ht.2.1, hb, hno⟩
      · rw [if_neg h4]
        obtain ⟨s, hs⟩ : ∃ s : Nat, s = (h 5 j).toInt.toNat := ⟨_, rfl⟩
        have es : h 5 j = Int32.ofNat s := by rw [hs]; exact pv_nIe ht.1
        have hor := ps_or B hB s (by omega)
        rw [es, hor.1]
        refine ih (j + 1) _ n (by omega) (by omega) hor.2 (fun t htt => ?_) (fun k hk hl => ?_)
        · rw [← hor.1, pv_bit_or, hb t htt, pv_bit_one s (by omega) t (by omega)]
          constructor
          · rintro (⟨k, q1, q2, q3⟩ | q1)
            · exact ⟨k, q1, q2, by unfold ps_lx at q3 ⊢; omega⟩
            · exact ⟨j, htb, by omega, Or.inr ⟨ht.2.1, by omega⟩⟩
          · rintro ⟨k, q1, q2, q3⟩
            by_cases hkj : k = j
            · right
              rw [hkj] at q2
              omega
            · left
              exact ⟨k, q1, q2, by unfold ps_lx at q3 ⊢; omega⟩
        · by_cases hkj : k = j
          · rw [hkj]; exact h4
          · exact hno k hk (by unfold ps_lx at hl ⊢; omega)
    · rw [if_neg ht]
      have hnt : ∀ k, ps_tb g h a k → (ps_lx h k c (j + 1) ↔ ps_lx h k c j) := fun k hk => by
        by_cases hkj : k = j
        · constructor
          · intro z
            rcases z with z | z
            · exact Or.inl z
            · exfalso
              apply ht
              obtain ⟨k1, k2, k3⟩ := hk
              rw [hkj] at z k1 k2 k3
              rw [z.1, Int.toNat_natCast] at k3
              exact ⟨k2, z.1, k3⟩
          · intro z
            unfold ps_lx at z ⊢
            omega
        · unfold ps_lx
          omega
      refine ih (j + 1) B n (by omega) (by omega) hB (fun t htt => ?_) (fun k hk hl => hno k hk ((hnt k hk).mp hl))
      rw [hb t htt]
      constructor
      · rintro ⟨k, q1, q2, q3⟩
        exact ⟨k, q1, q2, (hnt k q1).mpr q3⟩
      · rintro ⟨k, q1, q2, q3⟩
        exact ⟨k, q1, q2, (hnt k q1).mp q3⟩
/-- the class's slot: none, or the number of the selectors before -/
theorem xs_slot15 {g h : qa_St} (hN : pr_N h) (hC : pr_C h) (hT : pr_T g h) (hM : pr_M h) (r2 : g 1 1 = h 0 4) (hQ : pr_Q g h) (a : Nat) (ha : (a : Int) < (h 0 0).toInt) (x2 : Int32) : ∀ (d c B n : Nat), c + d = a + 1 → d < n → B < 16 → (∀ s, s < 4 → (pv_bit (Int32.ofNat B) s ↔ ps_bf g h a c 0 s)) → (∀ k, ps_tb g h a k → ps_lx h k c 0 → (h 5 k).toInt ≠ x2.toInt) →
    (∃ m B', xf_Pr_slotOf_15 n g (Int32.ofNat a) x2 (Int32.ofNat B) (Int32.ofNat c) = some (pv_bc (Int32.ofNat B'), g) ∧ B' < 16 ∧ ps_mk g h a m x2.toInt ∧ ∀ s, s < 4 → (pv_bit (Int32.ofNat B') s ↔ ps_bf g h a (h 4 m).toInt.toNat m s)) ∨ (xf_Pr_slotOf_15 n g (Int32.ofNat a) x2 (Int32.ofNat B) (Int32.ofNat c) = some (-1, g) ∧ ∀ k, ps_tb g h a k → (h 5 k).toInt ≠ x2.toInt) := by
  intro d
  have hN0 := hN
  obtain ⟨n0, n1, n2, n3⟩ := hN
  have ea : (Int32.ofNat a).toInt = (a : Int) := pv_nI (by omega)
  induction d with
  | zero =>
    intro c B n hc hn hB hb hno
    obtain ⟨n, rfl⟩ : ∃ z, n = z + 1 := ⟨n - 1, by omega⟩
    right
    have ec : (Int32.ofNat c).toInt = (c : Int) := pv_nI (by omega)
    refine ⟨?_, fun k hk => hno k hk ?_⟩
    · rw [xf_Pr_slotOf_15, if_pos (by rw [pv_lt, ea, ec]; omega)]
    · have q := hM k hk.1
      have := pr_bit_le hN0 hC hT a ha _ (by omega) hk.2.2
      left
      omega
  | succ d ih =>
    intro c B n hc hn hB hb hno
    obtain ⟨n, rfl⟩ : ∃ z, n = z + 1 := ⟨n - 1, by omega⟩
    have ec : (Int32.ofNat c).toInt = (c : Int) := pv_nI (by omega)
    rw [xf_Pr_slotOf_15, if_neg (by rw [pv_lt, ea, ec]; omega)]
    rcases xs_slot24 hN0 hM r2 hQ (xf_Pr_slotOf_15 n) a ha x2 c (by omega) (h 0 4).toInt.toNat 0 B 4096 (by omega) (by omega) hB hb hno with ⟨m, B', w1, w2, w3, w4, w5, w6, w7⟩ | ⟨B', w1, w2, w3, w4⟩
    · left
      refine ⟨m, B', w1, w2, ⟨w3, w4, fun k hk hs => ?_⟩, ?_⟩
      · rw [w5]
        refine Int.not_lt.mp (fun z => w7 k hk (Or.inl z) hs)
      · rw [w5, Int.toNat_natCast]
        exact w6
    · have := ih (c + 1) B' n (by omega) (by omega) w2 w3 w4
      rw [← w1] at this
      exact this
/-- the reference's maker: the farthest class's own method -/
theorem ms_maker5 {g h : qa_St} (hN : pr_N h) (hC : pr_C h) (hT : pr_T g h) (hM : pr_M h) (hU : pr_U h) (hO : pr_O g h) (x2 : Int32) (h2 : 0 ≤ x2.toInt ∧ x2.toInt < 4) : ∀ (c : Nat), (c : Int) < (h 0 0).toInt → ∀ (x3 : Int32) (n : Nat), c + 1 < n → (∃ m : Nat, mf_Mo_maker_5 n h x2 x3 (Int32.ofNat c) = some (Int32.ofNat m, h) ∧ ps_mk g h c m x2.toInt) ∨ (mf_Mo_maker_5 n h x2 x3 (Int32.ofNat c) = some (x3, h) ∧ ∀ k, ps_tb g h c k → (h 5 k).toInt ≠ x2.toInt) := by
  intro c
  have hN0 := hN
  obtain ⟨n0, n1, n2, n3⟩ := hN
  have e0 : (0 : Int32).toInt = 0 := rfl
  have em : (-1 : Int32).toInt = -1 := rfl
  induction c using Nat.strongRecOn with
  | _ c ih =>
    intro hc x3 n hn
    obtain ⟨n, rfl⟩ : ∃ z, n = z + 1 := ⟨n - 1, by omega⟩
    have ec : (Int32.ofNat c).toInt = (c : Int) := pv_nI (by omega)
    have ecn : (Int32.ofNat c).toInt.toNat = c := by omega
    have q := hC c hc
    have e1 : 0 ≤ (h 1 c).toInt → h 1 c = Int32.ofNat (h 1 c).toInt.toNat := fun z => pv_nIe z
    have hst : mf_Mo_maker_5 (n + 1) h x2 x3 (Int32.ofNat c) = mf_Mo_maker_5 n h x2 (if (g (6 + c) x2.toInt.toNat).toInt < 0 then x3 else g (6 + c) x2.toInt.toNat) (h 1 c) := by
      rw [mf_Mo_maker_5, if_neg (by rw [pv_lt, ec, e0]; omega), ms_own hN0 hU hO (Int32.ofNat c) x2 (by omega) h2, ecn]
      simp only [Option.bind_some]
      unfold mf_Mo_maker_30
      have hcb : ¬ (Int32.ofNat c < 0 ∨ 6 ≤ (Int32.ofNat c).toNatClampNeg) := by rw [pv_lt, pv_cl, ec, e0]; omega
      rw [if_neg hcb, if_neg hcb, pv_cl, ecn]
      by_cases h3 : (g (6 + c) x2.toInt.toNat).toInt < 0
      · rw [if_pos h3, if_pos (by rw [pv_lt, e0]; exact h3)]
      · rw [if_neg h3, if_neg (by rw [pv_lt, e0]; exact h3)]
    rw [hst]
    have hlast : ∀ x3, (h 1 c).toInt < 0 → mf_Mo_maker_5 n h x2 x3 (h 1 c) = some (x3, h) := fun x3 z => by
      obtain ⟨n, rfl⟩ : ∃ z, n = z + 1 := ⟨n - 1, by omega⟩
      rw [mf_Mo_maker_5, if_pos (by rw [pv_lt, e0]; exact z)]
    have hbit : ∀ k : Nat, (k : Int) < (h 0 4).toInt → (pv_bit (g 2 c) (h 4 k).toInt.toNat ↔ ((h 4 k).toInt.toNat = c ∨ (0 ≤ (h 1 c).toInt ∧ pv_bit (g 2 (h 1 c).toInt.toNat) (h 4 k).toInt.toNat))) := fun k hk => by
      have := hM k hk
      exact pr_bit hN0 hT hc _ (by omega)
    have hup : ∀ k, 0 ≤ (h 1 c).toInt → ps_tb g h (h 1 c).toInt.toNat k → ps_tb g h c k ∧ (h 4 k).toInt < (c : Int) := fun k z w => by
      refine ⟨⟨w.1, w.2.1, (hbit k w.1).mpr (Or.inr ⟨z, w.2.2⟩)⟩, ?_⟩
      have := hM k w.1
      have := pr_bit_le hN0 hC hT _ (by omega) _ (by omega) w.2.2
      omega
    rcases hO c x2.toInt.toNat hc (by omega) with ⟨o1, o2⟩ | ⟨m, o1, o2, o3, o4⟩
    · rw [if_pos (by omega)]
      by_cases hp : (h 1 c).toInt < 0
      · rw [hlast _ hp]
        refine Or.inr ⟨rfl, fun k hk z => ?_⟩
        have := hM k hk.1
        rcases (hbit k hk.1).mp hk.2.2 with y | y
        · exact o2 k hk.1 ⟨by omega, by omega⟩
        · omega
      · have hdn : ∀ k, ps_tb g h c k → (h 5 k).toInt = x2.toInt → ps_tb g h (h 1 c).toInt.toNat k := fun k hk z => by
          have := hM k hk.1
          rcases (hbit k hk.1).mp hk.2.2 with y | y
          · exact absurd ⟨by omega, by omega⟩ (o2 k hk.1)
          · exact ⟨hk.1, hk.2.1, y.2⟩
        have hr := ih (h 1 c).toInt.toNat (by omega) (by omega) x3 n (by omega)
        rw [← e1 (by omega)] at hr
        rcases hr with ⟨m, w1, w2⟩ | ⟨w1, w2⟩
        · exact Or.inl ⟨m, w1, (hup m (by omega) w2.1).1, w2.2.1, fun k hk z => w2.2.2 k (hdn k hk z) z⟩
        · exact Or.inr ⟨w1, fun k hk z => w2 k (hdn k hk z) z⟩
    · rw [if_neg (by omega)]
      have eo : g (6 + c) x2.toInt.toNat = Int32.ofNat m := by rw [pv_eq, o2, pv_nI (by omega)]
      have htb : ps_tb g h c m := ⟨o1, by omega, (hbit m o1).mpr (Or.inl (by omega))⟩
      rw [eo]
      by_cases hp : (h 1 c).toInt < 0
      · rw [hlast _ hp]
        refine Or.inl ⟨m, rfl, htb, by omega, fun k hk z => ?_⟩
        have := hM k hk.1
        rcases (hbit k hk.1).mp hk.2.2 with y | y
        · omega
        · omega
      · have hr := ih (h 1 c).toInt.toNat (by omega) (by omega) (Int32.ofNat m) n (by omega)
        rw [← e1 (by omega)] at hr
        rcases hr with ⟨m', w1, w2⟩ | ⟨w1, w2⟩
        · have hm' := hup m' (by omega) w2.1
          refine Or.inl ⟨m', w1, hm'.1, w2.2.1, fun k hk z => ?_⟩
          have := hM k hk.1
          rcases (hbit k hk.1).mp hk.2.2 with y | y
          · omega
          · exact w2.2.2 k ⟨hk.1, hk.2.1, y.2⟩ z
        · refine Or.inl ⟨m, w1, htb, by omega, fun k hk z => ?_⟩
          have := hM k hk.1
          rcases (hbit k hk.1).mp hk.2.2 with y | y
          · omega
          · exact absurd z (w2 k ⟨hk.1, hk.2.1, y.2⟩)
/-- of two classes that one class is of, the nearer is of the farther -/
theorem ps_chain {g h : qa_St} (hN : pr_N h) (hC : pr_C h) (hT : pr_T g h) : ∀ (a : Nat), (a : Int) < (h 0 0).toInt → ∀ c d, d ≤ c → c < 10 → pv_bit (g 2 a) c → pv_bit (g 2 a) d → pv_bit (g 2 c) d := by
  intro a
  induction a using Nat.strongRecOn with
  | _ a ih =>
    intro ha c d hd hc h1 h2
    have q := hC a ha
    rcases (pr_bit hN hT ha c hc).mp h1 with y | y
    · rw [y]; exact h2
    · rcases (pr_bit hN hT ha d (by omega)).mp h2 with w | w
      · have := pr_bit_le hN hC hT _ (by omega) _ hc y.2
        omega
      · exact ih (h 1 a).toInt.toNat (by omega) (by omega) c d hd hc y.2 w.2
theorem ms_before5 {g h : qa_St} (hN : pr_N h) (hC : pr_C h) (hT : pr_T g h) (hM : pr_M h) (hU : pr_U h) (hO : pr_O g h) (a : Nat) (ha : (a : Int) < (h 0 0).toInt) (m : Nat) (hm : ps_tb g h a m) (B : Int32) (hB : ∀ s, s < 4 → (pv_bit B s ↔ ps_bf g h a (h 4 m).toInt.toNat m s)) (s : Nat) (hs : s < 4) (x3 : Int32) (n : Nat) : mf_Mo_before_5 (n + 1) h (Int32.ofNat a) (Int32.ofNat m) x3 (Int32.ofNat s) = mf_Mo_before_5 n h (Int32.ofNat a) (Int32.ofNat m) (x3 + (if pv_bit B s then 1 else 0)) (Int32.ofNat (s + 1)) := by
  have hN0 := hN
  obtain ⟨n0, n1, n2, n3⟩ := hN
  have e0 : (0 : Int32).toInt = 0 := rfl
  have e4 : (4 : Int32).toInt = 4 := rfl
  have em : (-1 : Int32).toInt = -1 := rfl
  have hm1 := hm.1
  have es : (Int32.ofNat s).toInt = (s : Int) := pv_nI (by omega)
  have emm : (Int32.ofNat m).toInt = (m : Int) := pv_nI (by omega)
  have emn : (Int32.ofNat m).toInt.toNat = m := by omega
  have qm := hM m hm.1
  have hmb : ¬ (Int32.ofNat m < 0 ∨ 10 ≤ (Int32.ofNat m).toNatClampNeg) := by rw [pv_lt, pv_cl, emm, e0]; omega
  rw [mf_Mo_before_5, if_neg (by rw [pv_le, es, e4]; omega)]
  have hmk := ms_maker5 hN0 hC hT hM hU hO (Int32.ofNat s) (by omega) a ha (-1) 4096 (by omega)
  rw [es] at hmk
  unfold mf_Mo_maker
  rcases hmk with ⟨q, w1, w2⟩ | ⟨w1, w2⟩
  · have hq1 := w2.1.1
    have eq : (Int32.ofNat q).toInt = (q : Int) := pv_nI (by omega)
    have eqn : (Int32.ofNat q).toInt.toNat = q := by omega
    have qq := hM q hq1
    have hqb : ¬ (Int32.ofNat q < 0 ∨ 10 ≤ (Int32.ofNat q).toNatClampNeg) := by rw [pv_lt, pv_cl, eq, e0]; omega
    have hbf : pv_bit B s ↔ ps_lx h q (h 4 m).toInt.toNat m := by
      rw [hB s hs]
      constructor
      · rintro ⟨k, k1, k2, k3⟩
        have hk := w2.2.2 k k1 k2
        have qk := hM k k1.1
        unfold ps_lx at k3 ⊢
        rcases k3 with k3 | ⟨k3, k4⟩
        · left; omega
        · by_cases hlt : (h 4 q).toInt < (h 4 m).toInt
          · left; omega
          · right
            have := hU q k hq1 k1.1 (by omega) (by rw [w2.2.1, k2]) w2.1.2.1
            omega
      · intro z
        exact ⟨q, w2.1, w2.2.1, z⟩
    rw [w1]
    simp only [Option.bind_some]
    rw [if_neg (by rw [pv_lt, eq, e0]; omega), if_neg hqb, if_neg hmb, pv_cl (Int32.ofNat q), pv_cl (Int32.ofNat m), eqn, emn]
    have h106 : ∀ x, mf_Mo_before_106 (mf_Mo_before_5 n) h (Int32.ofNat a) (Int32.ofNat m) (Int32.ofNat s) x x3 = mf_Mo_before_5 n h (Int32.ofNat a) (Int32.ofNat m) (x3 + x) (Int32.ofNat (s + 1)) := fun x => by
      unfold mf_Mo_before_106
      rw [pv_n1]
    by_cases hh : h 4 q = h 4 m
    · have hh' : (h 4 q).toInt = (h 4 m).toInt := by rw [hh]
      rw [if_pos hh]
      unfold mf_Mo_before_65 mf_Mo_before_66 mf_Mo_before_105 mf_Mo_before_101
      rw [if_pos rfl, if_neg (by rw [pv_lt, eq, e0]; omega), if_neg hqb, if_neg hmb, pv_cl (Int32.ofNat q), pv_cl (Int32.ofNat m), eqn, emn, if_pos hh, h106, h106]
      by_cases hlt : m ≤ q
      · rw [if_pos (by rw [pv_le, eq, emm]; omega), if_neg (by rw [hbf]; unfold ps_lx; omega)]
      · rw [if_neg (by rw [pv_le, eq, emm]; omega), if_pos (by rw [hbf]; unfold ps_lx; omega)]
    · have hh' : ¬ (h 4 q).toInt = (h 4 m).toInt := fun z => hh (by rw [pv_eq]; exact z)
      rw [if_neg hh, if_neg (by rw [pv_lt, emm, e0]; omega), if_neg (by rw [pv_lt, eq, e0]; omega), ms_isOf hN0 hC hT _ _ (by omega) (by omega)]
      simp only [Option.bind_some, pv_b1]
      by_cases hlt : (h 4 q).toInt < (h 4 m).toInt
      · have := ps_chain hN0 hC hT a ha (h 4 m).toInt.toNat (h 4 q).toInt.toNat (by omega) (by omega) hm.2.2 w2.1.2.2
        unfold mf_Mo_before_66 mf_Mo_before_101
        rw [if_neg (fun z => z this), if_neg (by decide), h106, if_pos (by rw [hbf]; unfold ps_lx; omega)]
      · unfold mf_Mo_before_65 mf_Mo_before_66 mf_Mo_before_105 mf_Mo_before_101
        rw [if_pos (fun z => by
          have := pr_bit_le hN0 hC hT _ (by omega) _ (by omega) z
          omega), if_pos rfl, if_neg (by rw [pv_lt, eq, e0]; omega), if_neg hqb, if_neg hmb, pv_cl (Int32.ofNat q), pv_cl (Int32.ofNat m), eqn, emn, if_neg hh, h106, if_neg (by rw [hbf]; unfold ps_lx; omega)]
  · rw [w1]
    simp only [Option.bind_some]
    unfold mf_Mo_before_65 mf_Mo_before_66 mf_Mo_before_105 mf_Mo_before_106
    rw [if_pos (by decide), if_pos rfl, if_pos (by decide), pv_n1, if_neg (by
      rw [hB s hs]
      rintro ⟨k, k1, k2, k3⟩
      exact w2 k k1 k2)]
theorem st_slot (PC PN : qa_St → qa_St → Prop) (g h : qa_St) (x1 x2 : Int32) (hI : pr_I PC PN g h) : ql_st (pr_I PC PN) (xf_Cw_slot g x1 x2) (mf_Mo_slot h x1 x2) := by
  have hI0 := hI
  obtain ⟨⟨hN, hC, hM, hU, hK, hG⟩, ⟨⟨r1, r2⟩, hT, hO, hQ, hZ, hL, hH⟩, hF, -, -⟩ := hI
  have hN0 := hN
  obtain ⟨n0, n1, n2, n3⟩ := hN
  have e0 : (0 : Int32).toInt = 0 := rfl
  have e1 : (1 : Int32).toInt = 1 := rfl
  have e3 : (3 : Int32).toInt = 3 := rfl
  have s1 : (h 0 0 - 1).toInt = (h 0 0).toInt - 1 := by rw [pv_sub (by rw [e1]; omega) (by rw [e1]; omega), e1]
  unfold xf_Cw_slot xf_Pr_slotOf mf_Mo_slot
  rw [xs_isType, r1, ms_within, s1]
  simp only [Option.bind_some, pv_b1]
  by_cases h1 : 0 ≤ x1.toInt ∧ x1.toInt < (h 0 0).toInt
  · rw [if_neg (fun z => z h1), if_neg (fun z => z (by omega)), ms_within, e3]
    obtain ⟨a, hae⟩ : ∃ a : Nat, a = x1.toInt.toNat := ⟨_, rfl⟩
    have ex : x1 = Int32.ofNat a := by rw [hae]; exact pv_nIe h1.1
    have ha : (a : Int) < (h 0 0).toInt := by omega
    have hnob : ∀ s, s < 4 → (pv_bit (Int32.ofNat 0) s ↔ ps_bf g h a 0 0 s) := fun s hs => by
      refine ⟨fun z => absurd z (pv_bit_zero s (by omega)), ?_⟩
      rintro ⟨k, k1, k2, k3⟩
      have := hM k k1.1
      unfold ps_lx at k3
      omega
    have hx := xs_slot15 hN0 hC hT hM r2 hQ a ha x2 (a + 1) 0 0 4096 (by omega) (by omega) (by omega) hnob (fun k k1 k3 => by
      have := hM k k1.1
      unfold ps_lx at k3
      omega)
    simp only [Option.bind_some, pv_b1]
    rw [ex]
    have hx' : (∃ m B', xf_Pr_slotOf_15 4096 g (Int32.ofNat a) x2 0 0 = some (pv_bc (Int32.ofNat B'), g) ∧ B' < 16 ∧ ps_mk g h a m x2.toInt ∧ ∀ s, s < 4 → (pv_bit (Int32.ofNat B') s ↔ ps_bf g h a (h 4 m).toInt.toNat m s)) ∨ (xf_Pr_slotOf_15 4096 g (Int32.ofNat a) x2 0 0 = some (-1, g) ∧ ∀ k, ps_tb g h a k → (h 5 k).toInt ≠ x2.toInt) := hx
    by_cases h2 : 0 ≤ x2.toInt ∧ x2.toInt ≤ 3
    · rw [if_neg (fun z => z h2)]
      have hmk := ms_maker5 hN0 hC hT hM hU hO x2 (by omega) a ha (-1) 4096 (by omega)
      unfold mf_Mo_maker
      rcases hmk with ⟨q, w1, w2⟩ | ⟨w1, w2⟩
      · rcases hx' with ⟨m, B, v1, v2, v3, v4⟩ | ⟨v1, v2⟩
        · have hmq : m = q := by
            have a1 := v3.2.2 q w2.1 w2.2.1
            have a2 := w2.2.2 m v3.1 v3.2.1
            exact hU m q v3.1.1 w2.1.1 (by omega) (by rw [v3.2.1, w2.2.1]) v3.1.2.1
          subst hmq
          have hm1 := v3.1.1
          have emm : (Int32.ofNat m).toInt = (m : Int) := pv_nI (by omega)
          refine pr_same hI0 (v := pv_bc (Int32.ofNat B)) ?_ ?_
          · rw [v1]; rfl
          · rw [w1]
            simp only [Option.bind_some]
            rw [if_pos (by rw [pv_le, emm, e0]; omega)]
            have hb : mf_Mo_before h (Int32.ofNat a) (Int32.ofNat m) = some (pv_bc (Int32.ofNat B), h) := by
              unfold mf_Mo_before
              have hb := ms_before5 hN0 hC hT hM hU hO a ha m v3.1 (Int32.ofNat B) v4
              refine (hb 0 (by omega) 0 4095).trans ?_
              refine (hb 1 (by omega) _ 4094).trans ?_
              refine (hb 2 (by omega) _ 4093).trans ?_
              refine (hb 3 (by omega) _ 4092).trans ?_
              refine Eq.trans (mf_Mo_before_5.eq_2 h (Int32.ofNat a) (Int32.ofNat m) _ _ 4091) ?_
              rw [if_pos (by decide), ps_bc B v2, Int32.zero_add]
            rw [hb]
            rfl
        · exact absurd w2.2.1 (v2 q w2.1)
      · rcases hx' with ⟨m, B, v1, v2, v3, v4⟩ | ⟨v1, v2⟩
        · exact absurd v3.2.1 (w2 m v3.1)
        · refine pr_same hI0 (v := -1) ?_ ?_
          · rw [v1]; rfl
          · rw [w1]
            simp only [Option.bind_some]
            rw [if_neg (by decide)]
    · rw [if_pos h2]
      rcases hx' with ⟨m, B, v1, v2, v3, v4⟩ | ⟨v1, v2⟩
      · have := hM m v3.1.1
        have := v3.2.1
        have := v3.1.2.1
        omega
      · refine pr_same hI0 (v := -1) ?_ rfl
        rw [v1]; rfl
  · rw [if_pos h1, if_pos (by omega)]
    exact pr_same hI0 rfl rfl
