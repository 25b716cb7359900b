theorem xo_ex {g : qa_St} {f : tc_F} (h1 : xo g none) (h2 : xo g (some f)) : False := by
  have a := (h1.2 rfl).1
  have b := (h2.1 f rfl).1
  rw [a] at b
  exact absurd b (by decide)
/-- after arrivals at the places S -/
def xQ (g0 h : qa_St) (m : Nat) (o : Option tc_F) (S : Int → Prop) (g g' : qa_St) : Prop := xh g0 m g' ∧ xr m g g' ∧ (xo g' none ∨ ∃ r, o = some r ∧ xo g' (some r) ∧ xC g0 h m g g' ∧ ∀ j, S j → tc_ar g0 h m (xN g' m) (xV g' m) j r) ∧ ∀ NP VP, tc_po g0 h m NP VP → ∀ r, o = some r → tc_sle g0 h (xN g m) (xV g m) NP VP → (∀ j, S j → tc_ar g0 h m NP VP j r) → xo g' (some r) ∧ tc_sle g0 h (xN g' m) (xV g' m) NP VP
theorem xQ_0 {g0 h g : qa_St} {m : Nat} (hh : xh g0 m g) {o : Option tc_F} (ho : xo g o) (hok : ∀ f, o = some f → tc_gd h m (xN g m) (xV g m) ∧ tc_ok h f) : xQ g0 h m o (fun _ => False) g g := by
  refine ⟨hh, xr_w (xw_rf g), ?_, fun NP VP _ r hr hb _ => ⟨by rw [← hr]; exact ho, hb⟩⟩
  cases o with
  | none => exact Or.inl ho
  | some r => exact Or.inr ⟨r, rfl, ho, xC_same (hok r rfl).1 (fun _ => rfl) (fun _ => rfl) rfl, fun j hj => hj.elim⟩
theorem xQ_step {g0 h g g' : qa_St} (hP : pr_P h) (hRR : pr_R g0 h) {m : Nat} (hm : (m : Int) < (h 0 4).toInt) {o : Option tc_F} {S : Int → Prop} (hok : ∀ f, o = some f → tc_ok h f) (hQ : xQ g0 h m o S g g') (x1 : Int32) : ∃ g'', xf_Ch_arriveAt g' x1 = some (0, g'') ∧ xQ g0 h m o (fun j => S j ∨ j = x1.toInt) g g'' := by
  have hP0 := hP
  obtain ⟨hN, hC, hM, hU, hK, hG⟩ := hP
  have hT := hRR.2.1
  obtain ⟨q1, q2, q3, q4⟩ := hQ
  rcases q3 with q3 | ⟨r, r1, r2, r3, r4⟩
  · obtain ⟨g'', a1, a2, a3, a4, a5⟩ := xs_arr hP0 hRR hm q1 q3 (fun f hf => by cases hf) x1
    refine ⟨g'', a1, a2, xr_tr q2 a3, Or.inl ?_, fun NP VP hpo r hr hb hS => ?_⟩
    · rcases a4 with ⟨f, f1, -⟩ | a4
      · cases f1
      · exact a4
    · have := (q4 NP VP hpo r hr hb (fun j hj => hS j (Or.inl hj))).1
      exact (xo_ex q3 this).elim
  · obtain ⟨g'', a1, a2, a3, a4, a5⟩ := xs_arr hP0 hRR hm q1 r2 (fun f hf => by cases hf; exact ⟨r3.2.1, hok r r1⟩) x1
    refine ⟨g'', a1, a2, xr_tr q2 a3, ?_, fun NP VP hpo r' hr hb hS => ?_⟩
    · rcases a4 with ⟨f, f1, f2, f3, f4⟩ | a4
      · cases f1
        refine Or.inr ⟨r, r1, f2, xC_tr hN hC hT r3 f3, fun j hj => ?_⟩
        rcases hj with hj | hj
        · exact tc_ar_up hN hC hM hT hm f3.1 (r4 j hj)
        · rw [hj]; exact f4
      · exact Or.inl a4
    · rw [r1] at hr
      cases hr
      obtain ⟨b1, b2⟩ := q4 NP VP hpo r r1 hb (fun j hj => hS j (Or.inl hj))
      exact a5 NP VP hpo r rfl b2 (hS _ (Or.inr rfl))
theorem xQ_S {g0 h g g' : qa_St} {m : Nat} {o : Option tc_F} {S S' : Int → Prop} (hQ : xQ g0 h m o S g g') (hS : ∀ j, S j ↔ S' j) : xQ g0 h m o S' g g' := by
  have : S = S' := funext fun j => propext (hS j)
  rw [← this]; exact hQ
/-- the second part of a visit: the effect, and where it goes -/
theorem xs_v52 {g0 h g : qa_St} (hP : pr_P h) (hRR : pr_R g0 h) {m : Nat} (hm : (m : Int) < (h 0 4).toInt) (hh : xh g0 m g) {i k : Nat} (hi : (i : Int) < (h 7 m).toInt) (hk : k ≤ 6) (hgk : g 74 (20 * m + i) = Int32.ofNat k) (hs : g 72 6 = 0 ∨ (g 72 6 = 1 ∧ tc_gd h m (xN g m) (xV g m))) :
    ∃ g', xf_Ch_visit_52 g (Int32.ofNat i) = some (0, g') ∧ xh g0 m g' ∧ xr m g g' ∧ ((∃ n, n ≤ 6 ∧ g' 75 1 = Int32.ofNat n) ∧ (g' 72 6 = 0 ∨ (g 72 6 = 1 ∧ g' 72 6 = 1 ∧ xC g0 h m g g' ∧ ∃ r, tc_ef g0 h (h 8 (20 * m + i)).toInt (h 9 (20 * m + i)) (tc_at (xN g m) (xV g m) i) = some r ∧ ∀ j, tc_sc (h 8 (20 * m + i)).toInt (h 9 (20 * m + i)).toInt i j → tc_ar g0 h m (xN g' m) (xV g' m) j r))) ∧
      ∀ NP VP, tc_po g0 h m NP VP → g 72 6 = 1 → tc_sle g0 h (xN g m) (xV g m) NP VP → g' 72 6 = 1 ∧ tc_sle g0 h (xN g' m) (xV g' m) NP VP := by
  have hP0 := hP
  obtain ⟨hN, hC, hM, hU, hK, hG⟩ := hP
  have hT := hRR.2.1
  have hN0 := hN
  obtain ⟨n0, n1, n2, n3⟩ := hN
  have q := hM m hm
  have qk := hK m i hm hi
  have em : (Int32.ofNat m).toInt = (m : Int) := pv_nI (by omega)
  have emn : (Int32.ofNat m).toInt.toNat = m := by omega
  have ei : (Int32.ofNat i).toInt = (i : Int) := pv_nI (by omega)
  have ein : (Int32.ofNat i).toInt.toNat = i := by omega
  have ek : (Int32.ofNat k).toInt = (k : Int) := pv_nI (by omega)
  obtain ⟨x1, hx1⟩ : ∃ x, x = h 8 (20 * m + i) := ⟨_, rfl⟩
  obtain ⟨x2, hx2⟩ : ∃ x, x = h 9 (20 * m + i) := ⟨_, rfl⟩
  rw [← hx1, ← hx2] at qk ⊢
  obtain ⟨g1, a1, a2, a3, a4⟩ := xs_recall (m := m) (i := i) (by omega) (by omega) hk hh.2.1 hgk
  have hw1 : xw g g1 := fun r k h1 h2 _ => a2 r k h1 h2
  have hat : tc_at (xN g m) (xV g m) i = (k, xV g m i) := by
    unfold tc_at xN
    rw [hgk, ek]
    rfl
  have hh1 : xh g0 m g1 := ⟨fun r q hr => by rw [xw_p hw1 r q hr]; exact hh.1 r q hr, by rw [a2 72 4 (by decide) (by decide)]; exact hh.2.1, fun r hr hr' => by rw [a2 74 r (by decide) (by decide)]; exact hh.2.2 r hr hr'⟩
  have hR1 := xp_R hh1.1 hN0 hRR hC
  obtain ⟨⟨r1, r2⟩, hT1, hO1, hQ1, hZ1, hL1, hH1⟩ := hR1
  have hop := xs_opOf (Int32.ofNat m) (Int32.ofNat i) hN0 hM r2 hQ1 hL1 (by omega)
  rw [emn, ein, if_pos (by omega), ← hx1, if_pos (by omega), ← hx2] at hop
  have e8 : (8 : Int32).toInt = 8 := rfl
  obtain ⟨o, hoe, ho1⟩ : ∃ o, (g 72 6 = 1 → o = some (tc_at (xN g m) (xV g m) i)) ∧ xo g1 o ∧ (g 72 6 = 0 → o = none) := by
    rcases hs with z | ⟨z, -⟩
    · exact ⟨none, fun y => absurd (z.symm.trans y) (by decide), xo_none (by rw [a2 72 6 (by decide) (by decide)]; exact z) ⟨k, hk, a3⟩, fun _ => rfl⟩
    · refine ⟨some (tc_at (xN g m) (xV g m) i), fun _ => rfl, ?_, fun y => absurd (y.symm.trans z) (by decide)⟩
      rw [hat]
      exact xo_some (by rw [a2 72 6 (by decide) (by decide)]; exact z) hk a3 a4
  obtain ⟨ho1, ho0⟩ := ho1
  have hoc : ∀ f, o = some f → g 72 6 = 1 ∧ f = tc_at (xN g m) (xV g m) i ∧ tc_gd h m (xN g m) (xV g m) := fun f hf => by
    rcases hs with z | ⟨z, zg⟩
    · rw [ho0 z] at hf; cases hf
    · have := hoe z
      rw [this] at hf
      cases hf
      exact ⟨z, rfl, zg⟩
  obtain ⟨g2, b1, b2, b3⟩ := xs_apply hP0 ⟨⟨r1, r2⟩, hT1, hO1, hQ1, hZ1, hL1, hH1⟩ ho1 x1 x2 ⟨qk.1, qk.2.1⟩ qk.2.2
  have hefe : tc_ef g1 h x1.toInt x2 = tc_ef g0 h x1.toInt x2 := funext fun f => tc_ef_cg hh1.1 hN0 hC _ _ _
  rw [hefe] at b3
  obtain ⟨o2, ho2⟩ : ∃ o2, o2 = o.bind (tc_ef g0 h x1.toInt x2) := ⟨_, rfl⟩
  rw [← ho2] at b3
  have hw2 : xw g g2 := xw_tr hw1 b2
  have hh2 : xh g0 m g2 := ⟨fun r q hr => by rw [xw_p hw2 r q hr]; exact hh.1 r q hr, by rw [hw2 72 4 (by decide) (by decide) (by decide)]; exact hh.2.1, fun r hr hr' => by rw [hw2 74 r (by decide) (by decide) (by omega)]; exact hh.2.2 r hr hr'⟩
  have eN : xN g2 m = xN g m := funext fun j => by unfold xN; rw [hw2 74 _ (by decide) (by decide) (by omega)]
  have eV : xV g2 m = xV g m := funext fun j => funext fun p => by unfold xV; rw [hw2 73 _ (by decide) (by decide) (by omega)]
  have hr2 : ∀ r, o2 = some r → g 72 6 = 1 ∧ tc_ef g0 h x1.toInt x2 (tc_at (xN g m) (xV g m) i) = some r ∧ tc_gd h m (xN g m) (xV g m) ∧ tc_ok h r := fun r hr => by
    rw [ho2] at hr
    obtain ⟨f, f1, f2⟩ := tc_bind hr
    obtain ⟨c1, c2, c3⟩ := hoc f f1
    rw [c2] at f2
    refine ⟨c1, f2, c3, tc_ef_ok qk.2.2 ?_ f2⟩
    rcases c3 i (by omega) with y | ⟨y1, y2, y3⟩
    · unfold xN at y; rw [hgk, ek] at y; omega
    · exact y3
  have hQ0 : xQ g0 h m o2 (fun _ => False) g2 g2 := xQ_0 hh2 b3 (fun f hf => by rw [eN, eV]; exact ⟨(hr2 f hf).2.2.1, (hr2 f hf).2.2.2⟩)
  have hok2 : ∀ f, o2 = some f → tc_ok h f := fun f hf => (hr2 f hf).2.2.2
  -- it is enough to have a state after all arrivals
  have hen : ∀ g', xf_Ch_visit_52 g (Int32.ofNat i) = some (0, g') → xQ g0 h m o2 (tc_sc x1.toInt x2.toInt i) g2 g' → ∃ g', xf_Ch_visit_52 g (Int32.ofNat i) = some (0, g') ∧ xh g0 m g' ∧ xr m g g' ∧ ((∃ n, n ≤ 6 ∧ g' 75 1 = Int32.ofNat n) ∧ (g' 72 6 = 0 ∨ (g 72 6 = 1 ∧ g' 72 6 = 1 ∧ xC g0 h m g g' ∧ ∃ r, tc_ef g0 h x1.toInt x2 (tc_at (xN g m) (xV g m) i) = some r ∧ ∀ j, tc_sc x1.toInt x2.toInt i j → tc_ar g0 h m (xN g' m) (xV g' m) j r))) ∧ ∀ NP VP, tc_po g0 h m NP VP → g 72 6 = 1 → tc_sle g0 h (xN g m) (xV g m) NP VP → g' 72 6 = 1 ∧ tc_sle g0 h (xN g' m) (xV g' m) NP VP := fun g' he hQ => by
    obtain ⟨c1, c2, c3, c4⟩ := hQ
    refine ⟨g', he, c1, xr_tr (xr_w hw2) c2, ⟨?_, ?_⟩, fun NP VP hpo hs1 hb => ?_⟩
    · rcases c3 with c3 | ⟨r, -, d2, -, -⟩
      · exact xo_sz c3
      · exact xo_sz d2
    · rcases c3 with c3 | ⟨r, d1, d2, d3, d4⟩
      · exact Or.inl (c3.2 rfl).1
      · obtain ⟨w1, w2, w3, w4⟩ := hr2 r d1
        refine Or.inr ⟨w1, (d2.1 r rfl).1, ?_, r, w2, d4⟩
        exact xC_tr hN0 hC hT (xC_same w3 (fun k => hw2 74 k (by decide) (by decide) (by omega)) (fun k => hw2 73 k (by decide) (by decide) (by omega)) (hw2 72 5 (by decide) (by decide) (by decide))) d3
    · have hn : xN g m i ≠ -1 := by unfold xN; rw [hgk, ek]; omega
      obtain ⟨r, e1, e2, e3⟩ := tc_fl_dn hN0 hC hT (by omega) (by rw [← hx1, ← hx2]; exact qk.2.2) hb hn (hpo.2.2 i (by omega) (by rw [(hb i (by omega) hn).1]; exact hn))
      rw [← hx1, ← hx2] at e1 e2
      have ho2r : o2 = some r := by rw [ho2, hoe hs1]; exact e1
      rw [eN, eV] at c4
      have := c4 NP VP hpo r ho2r hb e2
      exact ⟨(this.1.1 r rfl).1, this.2⟩
  have hvis : xf_Ch_visit_52 g (Int32.ofNat i) = (if x1 = (9 : Int32) then (xf_Ch_visit_103 g2 (Int32.ofNat i) x1 x2) else (if x1 = (10 : Int32) then (xf_Ch_visit_103 g2 (Int32.ofNat i) x1 x2) else (xf_Ch_visit_109 g2 (Int32.ofNat i) x1))) := by
    unfold xf_Ch_visit_52
    rw [a1]
    simp only [Option.bind_some]
    rw [hh1.2.1, hop.1]
    simp only [Option.bind_some]
    rw [hh1.2.1, hop.2]
    simp only [Option.bind_some]
    rw [b1]
    rfl
  have v9 : x1 = 9 ↔ x1.toInt = 9 := by rw [pv_eq]; rfl
  have v10 : x1 = 10 ↔ x1.toInt = 10 := by rw [pv_eq]; rfl
  have v21 : x1 = 21 ↔ x1.toInt = 21 := by rw [pv_eq]; rfl
  have v22 : x1 = 22 ↔ x1.toInt = 22 := by rw [pv_eq]; rfl
  have esu : (Int32.ofNat i + 1).toInt = (i : Int) + 1 := by rw [pv_n1, pv_nI (by omega)]; omega
  have h109 : ∀ {S : Int → Prop} {g3 : qa_St}, xQ g0 h m o2 S g2 g3 → ∃ g', xf_Ch_visit_109 g3 (Int32.ofNat i) x1 = some (0, g') ∧ xQ g0 h m o2 (fun j => S j ∨ (x1.toInt ≠ 9 ∧ x1.toInt ≠ 21 ∧ x1.toInt ≠ 22 ∧ j = (i : Int) + 1)) g2 g' := fun {S g3} hq => by
    unfold xf_Ch_visit_109
    by_cases h9 : x1 = 9
    · rw [if_pos h9]
      exact ⟨g3, rfl, xQ_S hq (fun j => ⟨Or.inl, fun z => z.elim id (fun y => absurd (v9.mp h9) y.1)⟩)⟩
    · rw [if_neg h9]
      by_cases h21 : x1 = 21
      · rw [if_pos h21]
        exact ⟨g3, rfl, xQ_S hq (fun j => ⟨Or.inl, fun z => z.elim id (fun y => absurd (v21.mp h21) y.2.1)⟩)⟩
      · rw [if_neg h21]
        by_cases h22 : x1 = 22
        · rw [if_pos h22]
          exact ⟨g3, rfl, xQ_S hq (fun j => ⟨Or.inl, fun z => z.elim id (fun y => absurd (v22.mp h22) y.2.2.1)⟩)⟩
        · rw [if_neg h22]
          obtain ⟨g', d1, d2⟩ := xQ_step hP0 hRR hm hok2 hq (Int32.ofNat i + 1)
          rw [d1]
          refine ⟨g', rfl, xQ_S d2 (fun j => ?_)⟩
          rw [esu]
          exact ⟨fun z => z.elim Or.inl (fun y => Or.inr ⟨fun w => h9 (v9.mpr w), fun w => h21 (v21.mpr w), fun w => h22 (v22.mpr w), y⟩), fun z => z.elim Or.inl (fun y => Or.inr y.2.2.2)⟩
  have h103 : ∃ g', xf_Ch_visit_103 g2 (Int32.ofNat i) x1 x2 = some (0, g') ∧ xQ g0 h m o2 (fun j => (False ∨ j = x2.toInt) ∨ (x1.toInt ≠ 9 ∧ x1.toInt ≠ 21 ∧ x1.toInt ≠ 22 ∧ j = (i : Int) + 1)) g2 g' := by
    unfold xf_Ch_visit_103
    obtain ⟨g3, d1, d2⟩ := xQ_step hP0 hRR hm hok2 hQ0 x2
    rw [d1]
    exact h109 d2
  rw [hvis] at hen ⊢
  by_cases h9 : x1 = 9
  · rw [if_pos h9] at hen ⊢
    obtain ⟨g', d1, d2⟩ := h103
    refine hen g' d1 (xQ_S d2 (fun j => ?_))
    show ((False ∨ j = x2.toInt) ∨ (x1.toInt ≠ 9 ∧ x1.toInt ≠ 21 ∧ x1.toInt ≠ 22 ∧ j = (i : Int) + 1)) ↔ _
    rw [false_or]
    unfold tc_sc
    have := v9.mp h9
    omega
  · rw [if_neg h9] at hen ⊢
    by_cases h10 : x1 = 10
    · rw [if_pos h10] at hen ⊢
      obtain ⟨g', d1, d2⟩ := h103
      refine hen g' d1 (xQ_S d2 (fun j => ?_))
      show ((False ∨ j = x2.toInt) ∨ (x1.toInt ≠ 9 ∧ x1.toInt ≠ 21 ∧ x1.toInt ≠ 22 ∧ j = (i : Int) + 1)) ↔ _
      rw [false_or]
      unfold tc_sc
      have := v10.mp h10
      omega
    · rw [if_neg h10] at hen ⊢
      obtain ⟨g', d1, d2⟩ := h109 hQ0
      refine hen g' d1 (xQ_S d2 (fun j => ?_))
      show (False ∨ (x1.toInt ≠ 9 ∧ x1.toInt ≠ 21 ∧ x1.toInt ≠ 22 ∧ j = (i : Int) + 1)) ↔ _
      rw [false_or]
      unfold tc_sc
      have a9 : ¬ x1.toInt = 9 := fun w => h9 (v9.mpr w)
      have a10 : ¬ x1.toInt = 10 := fun w => h10 (v10.mpr w)
      omega
