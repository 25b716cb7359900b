/-! Promise 3: method -/
theorem ms_own_none {h : qa_St} (hN : pr_N h) (x1 x2 : Int32) : ∀ (d n j : Nat), (j : Int) + d = (h 0 4).toInt → d < n → (∀ i : Nat, j ≤ i → (i : Int) < (h 0 4).toInt → ¬ ((h 4 i).toInt = x1.toInt ∧ (h 5 i).toInt = x2.toInt)) → mf_Mo_ownMethod_2 n h x1 x2 (Int32.ofNat j) = some (-1, h) := by
  intro d
  obtain ⟨n0, n1, n2, n3⟩ := hN
  have e0 : (0 : Int32).toInt = 0 := rfl
  induction d with
  | zero =>
    intro n j hj hn hno
    obtain ⟨n, rfl⟩ : ∃ z, n = z + 1 := ⟨n - 1, by omega⟩
    rw [mf_Mo_ownMethod_2, if_pos (by rw [pv_le, pv_nI (by omega)]; omega)]
  | succ d ih =>
    intro n j hj hn hno
    obtain ⟨n, rfl⟩ : ∃ z, n = z + 1 := ⟨n - 1, by omega⟩
    have ej : (Int32.ofNat j).toInt = (j : Int) := pv_nI (by omega)
    have hq := hno j (Nat.le_refl _) (by omega)
    have es : Int32.ofNat j + 1 = Int32.ofNat (j + 1) := nI_1 j
    have hr : mf_Mo_ownMethod_32 (mf_Mo_ownMethod_2 n) h x1 x2 (Int32.ofNat j) = some (-1, h) := by
      unfold mf_Mo_ownMethod_32
      rw [es]
      exact ih n (j + 1) (by omega) (by omega) (fun i hi => hno i (by omega))
    rw [mf_Mo_ownMethod_2, if_neg (by rw [pv_le, ej]; omega), if_neg (by rw [pv_lt, pv_cl, ej, e0]; omega), hr, pv_cl, ej, show ((j : Int)).toNat = j by omega]
    by_cases h1 : (h 4 j).toInt = x1.toInt
    · rw [if_pos (by rw [pv_eq]; exact h1), if_neg (by rw [pv_lt, ej, e0]; omega), if_neg (by rw [pv_eq]; exact fun z => hq ⟨h1, z⟩)]
    · rw [if_neg (by rw [pv_eq]; exact h1)]
theorem ms_own_some {h : qa_St} (hN : pr_N h) (x1 x2 : Int32) (m : Nat) (hm : (m : Int) < (h 0 4).toInt) (hm1 : (h 4 m).toInt = x1.toInt) (hm2 : (h 5 m).toInt = x2.toInt) : ∀ (d n j : Nat), j + d = m → d < n → (∀ i : Nat, j ≤ i → i < m → ¬ ((h 4 i).toInt = x1.toInt ∧ (h 5 i).toInt = x2.toInt)) → mf_Mo_ownMethod_2 n h x1 x2 (Int32.ofNat j) = some (Int32.ofNat m, h) := by
  intro d
  obtain ⟨n0, n1, n2, n3⟩ := hN
  have e0 : (0 : Int32).toInt = 0 := rfl
  induction d with
  | zero =>
    intro n j hj hn hno
    obtain ⟨n, rfl⟩ : ∃ z, n = z + 1 := ⟨n - 1, by omega⟩
    have hjm : j = m := by omega
    subst hjm
    have ej : (Int32.ofNat j).toInt = (j : Int) := pv_nI (by omega)
    rw [mf_Mo_ownMethod_2, if_neg (by rw [pv_le, ej]; omega), if_neg (by rw [pv_lt, pv_cl, ej, e0]; omega), pv_cl, ej, show ((j : Int)).toNat = j by omega, if_pos (by rw [pv_eq]; exact hm1), if_neg (by rw [pv_lt, ej, e0]; omega), if_pos (by rw [pv_eq]; exact hm2)]
  | succ d ih =>
    intro n j hj hn hno
    obtain ⟨n, rfl⟩ : ∃ z, n = z + 1 := ⟨n - 1, by omega⟩
    have ej : (Int32.ofNat j).toInt = (j : Int) := pv_nI (by omega)
    have hq := hno j (Nat.le_refl _) (by omega)
    have es : Int32.ofNat j + 1 = Int32.ofNat (j + 1) := nI_1 j
    have hr : mf_Mo_ownMethod_32 (mf_Mo_ownMethod_2 n) h x1 x2 (Int32.ofNat j) = some (Int32.ofNat m, h) := by
      unfold mf_Mo_ownMethod_32
      rw [es]
      exact ih n (j + 1) (by omega) (by omega) (fun i hi => hno i (by omega))
    rw [mf_Mo_ownMethod_2, if_neg (by rw [pv_le, ej]; omega), if_neg (by rw [pv_lt, pv_cl, ej, e0]; omega), hr, pv_cl, ej, show ((j : Int)).toNat = j by omega]
    by_cases h1 : (h 4 j).toInt = x1.toInt
    · rw [if_pos (by rw [pv_eq]; exact h1), if_neg (by rw [pv_lt, ej, e0]; omega), if_neg (by rw [pv_eq]; exact fun z => hq ⟨h1, z⟩)]
    · rw [if_neg (by rw [pv_eq]; exact h1)]
/-- the reference's search finds what the class's table holds -/
theorem ms_own {g h : qa_St} (hN : pr_N h) (hU : pr_U h) (hO : pr_O g h) (x1 x2 : Int32) (h1 : 0 ≤ x1.toInt ∧ x1.toInt < (h 0 0).toInt) (h2 : 0 ≤ x2.toInt ∧ x2.toInt < 4) : mf_Mo_ownMethod h x1 x2 = some (g (6 + x1.toInt.toNat) x2.toInt.toNat, h) := by
  have hN0 := hN
  obtain ⟨n0, n1, n2, n3⟩ := hN
  unfold mf_Mo_ownMethod
  rcases hO x1.toInt.toNat x2.toInt.toNat (by omega) (by omega) with ⟨o1, o2⟩ | ⟨m, o1, o2, o3, o4⟩
  · have e : g (6 + x1.toInt.toNat) x2.toInt.toNat = -1 := by
      rw [pv_eq, o1]
      rfl
    rw [e]
    refine ms_own_none hN0 x1 x2 (h 0 4).toInt.toNat 4096 0 (by omega) (by omega) (fun i _ hi hq => o2 i hi ?_)
    omega
  · have e : g (6 + x1.toInt.toNat) x2.toInt.toNat = Int32.ofNat m := by
      rw [pv_eq, o2, pv_nI (by omega)]
    rw [e]
    refine ms_own_some hN0 x1 x2 m o1 (by omega) (by omega) m 4096 0 (by omega) (by omega) (fun i _ hi hq => ?_)
    have := hU i m (by omega) o1 (by omega) (by omega) (by omega)
    omega
/-- the relation behind a new method -/
theorem pr_addM {g h g' h' : qa_St} {x1 x2 w : Int32} {m : Nat} (hP : pr_P h) (hR : pr_R g h) (hmI : (h 0 4).toInt = (m : Int)) (hm9 : m < 10) (k1 : 0 ≤ x1.toInt ∧ x1.toInt < (h 0 0).toInt) (k2 : -1 ≤ x2.toInt ∧ x2.toInt ≤ 3) (k3 : 0 ≤ w.toInt ∧ w.toInt ≤ 2) (k4 : 0 ≤ x2.toInt → w.toInt = 2)
    (k5 : 0 ≤ x2.toInt → ∀ j : Nat, (j : Int) < (h 0 4).toInt → ¬ ((h 4 j).toInt = x1.toInt ∧ (h 5 j).toInt = x2.toInt))
    (c0 : h' 0 0 = h 0 0) (c4 : (h' 0 4).toInt = (m : Int) + 1) (cr : ∀ r i, (1 ≤ r ∧ r < 4 ∨ r = 8 ∨ r = 9 ∨ 11 ≤ r ∧ r < 14) → h' r i = h r i) (cj : ∀ r j, 4 ≤ r → r < 11 → j ≠ m → h' r j = h r j) (cm : h' 4 m = x1 ∧ h' 5 m = x2 ∧ h' 6 m = w ∧ h' 7 m = 0 ∧ h' 10 m = 0)
    (d0 : g' 1 0 = g 1 0) (d1 : g' 1 1 = h' 0 4) (dr : ∀ r i, (2 ≤ r ∧ r < 5 ∨ 15 ≤ r) → g' r i = g r i) (dj : ∀ r j, 12 ≤ r → r < 15 → j ≠ m → g' r j = g r j) (dm : g' 12 m = x1 ∧ g' 13 m = x2 ∧ g' 14 m = w)
    (d6 : ∀ c s : Nat, c < 6 → s < 4 → ((0 ≤ x2.toInt ∧ (c : Int) = x1.toInt ∧ (s : Int) = x2.toInt) → (g' (6 + c) s).toInt = (m : Int)) ∧ (¬ (0 ≤ x2.toInt ∧ (c : Int) = x1.toInt ∧ (s : Int) = x2.toInt) → g' (6 + c) s = g (6 + c) s)) : pr_P h' ∧ pr_R g' h' := by
  obtain ⟨⟨n0, n1, n2, n3⟩, hC, hM, hU, hK, hG⟩ := hP
  obtain ⟨⟨r1, r2⟩, hT, hO, hQ, hZ, hL, hH⟩ := hR
  have e0 : (0 : Int32).toInt = 0 := rfl
  refine ⟨⟨?_, ?_, ?_, ?_, ?_, ?_⟩, ⟨?_, ?_⟩, ?_, ?_, ?_, ?_, ?_, ?_⟩
  · unfold pr_N
    rw [c0, c4]
    omega
  · intro c hc
    rw [c0] at hc
    have q := hC c hc
    rw [c4, cr 1 _ (by omega), cr 2 _ (by omega), cr 3 _ (by omega)]
    refine ⟨q.1, q.2.1, q.2.2.1, q.2.2.2.1, q.2.2.2.2.1, by omega, fun hz => ?_⟩
    rw [cj 5 _ (by omega) (by omega) (by omega), cj 6 _ (by omega) (by omega) (by omega)]
    exact q.2.2.2.2.2.2 hz
  · intro j hj
    rw [c4] at hj
    rw [c0]
    by_cases hjm : j = m
    · subst hjm
      rw [cm.1, cm.2.1, cm.2.2.1, cm.2.2.2.1, cm.2.2.2.2, e0]
      exact ⟨k1.1, k1.2, k2.1, k2.2, k3.1, k3.2, k4, by omega, by omega, by omega, by omega⟩
    · rw [cj 4 _ (by omega) (by omega) hjm, cj 5 _ (by omega) (by omega) hjm, cj 6 _ (by omega) (by omega) hjm, cj 7 _ (by omega) (by omega) hjm, cj 10 _ (by omega) (by omega) hjm]
      exact hM j (by omega)
  · intro a b ha hb h4 h5 hp
    rw [c4] at ha hb
    by_cases ham : a = m
    · by_cases hbm : b = m
      · omega
      · subst ham
        rw [cm.1, cj 4 b (by omega) (by omega) hbm] at h4
        rw [cm.2.1, cj 5 b (by omega) (by omega) hbm] at h5
        rw [cm.2.1] at hp
        exact absurd ⟨h4.symm, h5.symm⟩ (k5 hp b (by omega))
    · by_cases hbm : b = m
      · subst hbm
        rw [cm.1, cj 4 a (by omega) (by omega) ham] at h4
        rw [cm.2.1, cj 5 a (by omega) (by omega) ham] at h5
        rw [cj 5 a (by omega) (by omega) ham] at hp
        exact absurd ⟨h4, h5⟩ (k5 (by omega) a (by omega))
      · rw [cj 4 a (by omega) (by omega) ham, cj 4 b (by omega) (by omega) hbm] at h4
        rw [cj 5 a (by omega) (by omega) ham, cj 5 b (by omega) (by omega) hbm] at h5
        rw [cj 5 a (by omega) (by omega) ham] at hp
        exact hU a b (by omega) (by omega) h4 h5 hp
  · intro a i ha hi
    rw [c4] at ha
    by_cases ham : a = m
    · subst ham
      rw [cm.2.2.2.1, e0] at hi
      omega
    · rw [cj 7 a (by omega) (by omega) ham] at hi
      rw [cr 8 _ (by omega), cr 9 _ (by omega)]
      obtain ⟨q1, q2, q3, q4⟩ := hK a i (by omega) hi
      refine ⟨q1, q2, fun ho => ?_, q4.1, q4.2.1, q4.2.2.1, fun ho => ?_⟩
      · rw [c0]
        exact q3 ho
      · have q := q4.2.2.2 ho
        rw [c4, cj 5 _ (by omega) (by omega) (by omega)]
        exact ⟨q.1, by omega, q.2.2⟩
  · intro a i ha hi
    rw [c4] at ha
    by_cases ham : a = m
    · subst ham
      rw [cm.2.2.2.2, e0] at hi
      omega
    · rw [cj 10 a (by omega) (by omega) ham] at hi
      rw [cr 11 _ (by omega), cr 12 _ (by omega), cr 13 _ (by omega)]
      exact hG a i (by omega) hi
  · rw [d0, c0, r1]
  · exact d1
  · intro c hc
    rw [c0] at hc
    rw [cr 1 _ (by omega), cr 2 _ (by omega), cr 3 _ (by omega), dr 2 _ (by omega), dr 2 _ (by omega), dr 3 _ (by omega), dr 3 _ (by omega), dr 4 _ (by omega)]
    exact hT c hc
  · intro c s hc hs
    rw [c0] at hc
    rw [c4]
    have hd := d6 c s (by omega) hs
    by_cases hq : 0 ≤ x2.toInt ∧ (c : Int) = x1.toInt ∧ (s : Int) = x2.toInt
    · right
      exact ⟨m, by omega, hd.1 hq, by rw [cm.1]; omega, by rw [cm.2.1]; omega⟩
    · rw [hd.2 hq]
      rcases hO c s hc hs with ⟨o1, o2⟩ | ⟨j, o1, o2, o3, o4⟩
      · left
        refine ⟨o1, fun j hj hz => ?_⟩
        by_cases hjm : j = m
        · subst hjm
          rw [cm.1, cm.2.1] at hz
          omega
        · rw [cj 4 j (by omega) (by omega) hjm, cj 5 j (by omega) (by omega) hjm] at hz
          exact o2 j (by omega) hz
      · right
        have hjm : j ≠ m := by omega
        exact ⟨j, by omega, o2, by rw [cj 4 j (by omega) (by omega) hjm]; exact o3, by rw [cj 5 j (by omega) (by omega) hjm]; exact o4⟩
  · intro j hj
    rw [c4] at hj
    rw [dr 15 _ (by omega), dr 38 _ (by omega)]
    by_cases hjm : j = m
    · subst hjm
      rw [cm.1, cm.2.1, cm.2.2.1, cm.2.2.2.1, cm.2.2.2.2, dm.1, dm.2.1, dm.2.2]
      have z := hZ j (by omega) hm9
      exact ⟨rfl, rfl, rfl, z.1, z.2⟩
    · rw [cj 4 _ (by omega) (by omega) hjm, cj 5 _ (by omega) (by omega) hjm, cj 6 _ (by omega) (by omega) hjm, cj 7 _ (by omega) (by omega) hjm, cj 10 _ (by omega) (by omega) hjm, dj 12 _ (by omega) (by omega) hjm, dj 13 _ (by omega) (by omega) hjm, dj 14 _ (by omega) (by omega) hjm]
      exact hQ j (by omega)
  · intro j hj h10
    rw [c4] at hj
    rw [dr 15 _ (by omega), dr 38 _ (by omega)]
    exact hZ j (by omega) h10
  · intro a i ha hi
    rw [c4] at ha
    by_cases ham : a = m
    · subst ham
      rw [cm.2.2.2.1, e0] at hi
      omega
    · rw [cj 7 a (by omega) (by omega) ham] at hi
      rw [cr 8 _ (by omega), cr 9 _ (by omega), dr _ _ (by omega), dr _ _ (by omega)]
      exact hL a i (by omega) hi
  · intro a i ha hi
    rw [c4] at ha
    by_cases ham : a = m
    · subst ham
      rw [cm.2.2.2.2, e0] at hi
      omega
    · rw [cj 10 a (by omega) (by omega) ham] at hi
      rw [cr 11 _ (by omega), cr 12 _ (by omega), cr 13 _ (by omega), dr _ _ (by omega), dr _ _ (by omega), dr _ _ (by omega)]
      exact hH a i (by omega) hi
