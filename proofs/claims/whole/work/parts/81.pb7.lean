/-! The set of instructions that wait -/
theorem pv_sh : ∀ k, k < 32 → ((Int32.ofNat k &&& 31).toBitVec.smod 32).toNat = k := by decide +kernel
theorem pv_lsb (x : Int32) {k : Nat} (hk : k < 32) : pv_bit x k ↔ x.toBitVec.getLsbD k = true := by
  unfold pv_bit
  rw [pv_and1, Int32.toBitVec_shiftRight, BitVec.sshiftRight', pv_sh k hk, BitVec.getLsbD_sshiftRight]
  simp [hk]
theorem pv_nobit {x : Int32} (hx : ∀ k, k < 32 → ¬ pv_bit x k) : x = 0 := by
  apply Int32.toBitVec_inj.mp
  apply BitVec.eq_of_getLsbD_eq
  intro i hi
  have := hx i hi
  rw [pv_lsb x hi] at this
  have e0 : (0 : Int32).toBitVec.getLsbD i = false := by simp
  rw [e0]
  exact Bool.eq_false_iff.mpr this
theorem pv_not_one : ∀ j, j < 20 → ∀ k, k < 32 → (pv_bit (((1 : Int32) <<< (Int32.ofNat j &&& 31)) ^^^ -1) k ↔ k ≠ j) := by decide +kernel
theorem pv_bit_z32 : ∀ k, k < 32 → ¬ pv_bit 0 k := by decide +kernel
/-- a visit -/
theorem xs_visit {g0 h g : qa_St} (hP : pr_P h) (hRR : pr_R g0 h) {m : Nat} (hm : (m : Int) < (h 0 4).toInt) (hh : xh g0 m g) {i : Nat} (hi : i < 20) (hs : g 72 6 = 1) (hgd : tc_gd h m (xN g m) (xV g m)) (hn : xN g m i ≠ -1) (hW : pv_bit (g 72 5) i) :
    ∃ g', xf_Ch_visit g (Int32.ofNat i) = some (0, g') ∧ xh g0 m g' ∧ xr m g g' ∧ (g' 72 6 = 0 ∨ (g' 72 6 = 1 ∧ tc_sle g0 h (xN g m) (xV g m) (xN g' m) (xV g' m) ∧ tc_gd h m (xN g' m) (xV g' m) ∧ (∀ k, k < 20 → k ≠ i → pv_bit (g 72 5) k → pv_bit (g' 72 5) k) ∧ (∀ k, k < 20 → ¬ pv_bit (g' 72 5) k → xN g' m k = xN g m k ∧ ∀ p, p < 4 + (xN g m k).toNat → xV g' m k p = xV g m k p) ∧ xM m g' < xM m g ∧ (∀ k, 20 ≤ k → k < 32 → pv_bit (g' 72 5) k → pv_bit (g 72 5) k) ∧ (∀ k, k < 20 → pv_bit (g' 72 5) k → pv_bit (g 72 5) k ∨ xN g' m k ≠ -1) ∧ (¬ pv_bit (g' 72 5) i → tc_fl g0 h m (xN g' m) (xV g' m) i))) ∧
      ∀ NP VP, tc_po g0 h m NP VP → tc_sle g0 h (xN g m) (xV g m) NP VP → g' 72 6 = 1 ∧ tc_sle g0 h (xN g' m) (xV g' m) NP VP := by
  have hP0 := hP
  obtain ⟨hN, hC, hM, hU, hK, hG⟩ := hP
  have hT := hRR.2.1
  have hN0 := hN
  obtain ⟨n0, n1, n2, n3⟩ := hN
  have q := hM m hm
  have em : (Int32.ofNat m).toInt = (m : Int) := pv_nI (by omega)
  have emn : (Int32.ofNat m).toInt.toNat = m := by omega
  have ei : (Int32.ofNat i).toInt = (i : Int) := pv_nI (by omega)
  have ein : (Int32.ofNat i).toInt.toNat = i := by omega
  have hil : (i : Int) < (h 7 m).toInt := by
    rcases hgd i hi with y | y
    · exact absurd y hn
    · exact y.1
  have qk := hK m i hm hil
  obtain ⟨k, hk, hgk⟩ : ∃ k, k ≤ 6 ∧ g 74 (20 * m + i) = Int32.ofNat k := by
    rcases hh.2.2 (20 * m + i) (by omega) (by omega) with y | y
    · unfold xN at hn; rw [y] at hn; exact absurd rfl hn
    · exact y
  have ek : (Int32.ofNat k).toInt = (k : Int) := pv_nI (by omega)
  obtain ⟨g1, hg1⟩ : ∃ g1, g1 = qa_up g 72 5 ((g 72 5) &&& (((1 : Int32) <<< (Int32.ofNat i &&& 31)) ^^^ (-1 : Int32))) := ⟨_, rfl⟩
  have k1 : ∀ r p, ¬ (r = 72 ∧ p = 5) → g1 r p = g r p := fun r p hr => by rw [hg1, pv_get, if_neg hr]
  have k5 : ∀ k, k < 32 → (pv_bit (g1 72 5) k ↔ (pv_bit (g 72 5) k ∧ k ≠ i)) := fun k hk => by
    rw [hg1, pv_self, pv_bit_and, pv_not_one i hi k hk]
  have eN : xN g1 m = xN g m := funext fun j => by unfold xN; rw [k1 74 _ (by omega)]
  have eV : xV g1 m = xV g m := funext fun j => funext fun p => by unfold xV; rw [k1 73 _ (by omega)]
  have hh1 : xh g0 m g1 := ⟨fun r p hr => by rw [k1 r p (by omega)]; exact hh.1 r p hr, by rw [k1 72 4 (by decide)]; exact hh.2.1, fun r hr hr' => by rw [k1 74 r (by omega)]; exact hh.2.2 r hr hr'⟩
  have hs1 : g1 72 6 = 1 := by rw [k1 72 6 (by decide)]; exact hs
  have hgd1 : tc_gd h m (xN g1 m) (xV g1 m) := by rw [eN, eV]; exact hgd
  have hgk1 : g1 74 (20 * m + i) = Int32.ofNat k := by rw [k1 74 _ (by omega)]; exact hgk
  have hM1 : xM m g1 < xM m g := by
    unfold xM
    refine tc_sum_lt 20 (fun j hj => ?_) i hi ?_
    · show (61 - tc_ph (xN g1 m) (xV g1 m) j) + (if pv_bit (g1 72 5) j then 1 else 0) ≤ (61 - tc_ph (xN g m) (xV g m) j) + (if pv_bit (g 72 5) j then 1 else 0)
      rw [eN, eV]
      by_cases hw : pv_bit (g 72 5) j
      · rw [if_pos hw]
        have : (if pv_bit (g1 72 5) j then 1 else 0) ≤ 1 := by split <;> omega
        omega
      · rw [if_neg hw, if_neg (fun z => hw ((k5 j (by omega)).mp z).1)]; omega
    · show (61 - tc_ph (xN g1 m) (xV g1 m) i) + (if pv_bit (g1 72 5) i then 1 else 0) < (61 - tc_ph (xN g m) (xV g m) i) + (if pv_bit (g 72 5) i then 1 else 0)
      rw [eN, eV, if_pos hW, if_neg (fun z => ((k5 i (by omega)).mp z).2 rfl)]; omega
  have hr1 : xr m g g1 := ⟨fun r p a b c d e => k1 r p (by omega), fun r _ => ⟨k1 74 r (by omega), fun p _ => k1 73 _ (by omega)⟩, fun r _ => k1 74 r (by omega)⟩
  have hR1 := xp_R hh1.1 hN0 hRR hC
  obtain ⟨⟨r1, r2⟩, hT1, hO1, hQ1, hZ1, hL1, hH1⟩ := hR1
  have hhd := xs_handlerOf hN0 hM r2 hQ1 hH1 (Int32.ofNat m) (Int32.ofNat i) (by omega)
  rw [emn, ei] at hhd
  have hge := pr_hd_ge hM hG hm (i : Int) 4 0
  -- the end, from the state g4 before the second part
  have hend : ∀ g4 : qa_St, xf_Ch_visit g (Int32.ofNat i) = xf_Ch_visit_52 g4 (Int32.ofNat i) → xh g0 m g4 → xr m g1 g4 → (g4 72 6 = 0 ∨ (g4 72 6 = 1 ∧ xC g0 h m g1 g4 ∧ (0 ≤ (pr_hd h m i 4 0).toInt → tc_ar g0 h m (xN g4 m) (xV g4 m) (pr_hd h m i 4 0).toInt (tc_hf (tc_at (xN g m) (xV g m) i))))) → (∀ NP VP, tc_po g0 h m NP VP → tc_sle g0 h (xN g m) (xV g m) NP VP → g4 72 6 = 1 ∧ tc_sle g0 h (xN g4 m) (xV g4 m) NP VP) → ∃ g', xf_Ch_visit g (Int32.ofNat i) = some (0, g') ∧ xh g0 m g' ∧ xr m g g' ∧ (g' 72 6 = 0 ∨ (g' 72 6 = 1 ∧ tc_sle g0 h (xN g m) (xV g m) (xN g' m) (xV g' m) ∧ tc_gd h m (xN g' m) (xV g' m) ∧ (∀ k, k < 20 → k ≠ i → pv_bit (g 72 5) k → pv_bit (g' 72 5) k) ∧ (∀ k, k < 20 → ¬ pv_bit (g' 72 5) k → xN g' m k = xN g m k ∧ ∀ p, p < 4 + (xN g m k).toNat → xV g' m k p = xV g m k p) ∧ xM m g' < xM m g ∧ (∀ k, 20 ≤ k → k < 32 → pv_bit (g' 72 5) k → pv_bit (g 72 5) k) ∧ (∀ k, k < 20 → pv_bit (g' 72 5) k → pv_bit (g 72 5) k ∨ xN g' m k ≠ -1) ∧ (¬ pv_bit (g' 72 5) i → tc_fl g0 h m (xN g' m) (xV g' m) i))) ∧ ∀ NP VP, tc_po g0 h m NP VP → tc_sle g0 h (xN g m) (xV g m) NP VP → g' 72 6 = 1 ∧ tc_sle g0 h (xN g' m) (xV g' m) NP VP := fun g4 he hh4 hr4 hm4 hP4 => by
    have hgk4 : g4 74 (20 * m + i) = Int32.ofNat k := by
      rw [hr4.2.2 _ (by rw [hgk1, Ne, pv_eq, ek]; show ¬ (k : Int) = -1; omega)]; exact hgk1
    obtain ⟨g', a1, a2, a3, ⟨-, a4⟩, a5⟩ := xs_v52 hP0 hRR hm hh4 hil hk hgk4 (hm4.elim Or.inl (fun z => Or.inr ⟨z.1, z.2.1.2.1⟩))
    refine ⟨g', he.trans a1, a2, xr_tr hr1 (xr_tr hr4 a3), ?_, fun NP VP hpo hb => ?_⟩
    · rcases a4 with a4 | ⟨b1, b2, b3, r, b4, b5⟩
      · exact Or.inl a4
      · right
        rcases hm4 with z | ⟨z1, z2, z3⟩
        · rw [z] at b1; exact absurd b1 (by decide)
        · obtain ⟨c1, c2, c3, c4, c5, c6, c7⟩ := xC_tr hN0 hC hT z2 b3
          rw [eN, eV] at c1 c4
          refine ⟨b2, c1, c2, fun j hj hji hw => c3 j hj ((k5 j (by omega)).mpr ⟨hw, hji⟩), c4, by omega, fun j h1 h2 hw => ((k5 j h2).mp (c6 j h1 h2 hw)).1, fun j hj hw => (c7 j hj hw).elim (fun y => Or.inl ((k5 j (by omega)).mp y).1) Or.inr, fun hnw => ?_⟩
          -- the flow of i
          have hu := c4 i hi hnw
          have hu4 := b3.2.2.2.1 i hi hnw
          have hf4 : tc_fle g0 h (tc_at (xN g' m) (xV g' m) i) (tc_at (xN g4 m) (xV g4 m) i) := ⟨by show (xN g' m i).toNat = (xN g4 m i).toNat; rw [hu4.1], fun p hp => by
            have hp : p < 4 + (xN g' m i).toNat := hp
            rw [hu4.1] at hp
            show tc_le g0 h (xV g' m i p) (xV g4 m i p)
            rw [hu4.2 p hp]; exact tc_refl _⟩
          have hf1 : tc_fle g0 h (tc_at (xN g' m) (xV g' m) i) (tc_at (xN g m) (xV g m) i) := ⟨by show (xN g' m i).toNat = (xN g m i).toNat; rw [hu.1], fun p hp => by
            have hp : p < 4 + (xN g' m i).toNat := hp
            rw [hu.1] at hp
            show tc_le g0 h (xV g' m i p) (xV g m i p)
            rw [hu.2 p hp]; exact tc_refl _⟩
          obtain ⟨r', e1, e2⟩ := tc_ef_m hN0 hC hT qk.2.2 hf4 b4
          exact ⟨r', e1, fun j hj => tc_ar_dn hN0 hC hT e2 (b5 j hj), fun hz => tc_ar_dn hN0 hC hT (tc_hf_m hf1) (tc_ar_up hN0 hC hM hT hm b3.1 (z3 hz))⟩
    · obtain ⟨w1, w2⟩ := hP4 NP VP hpo hb
      exact a5 NP VP hpo w1 w2
  have hv : xf_Ch_visit g (Int32.ofNat i) = (if pr_hd h m i 4 0 = (-1 : Int32) then (xf_Ch_visit_52 g1 (Int32.ofNat i)) else ((xf_Ch_recall g1 (Int32.ofNat i)).bind fun t34 => ((xf_Fr_goOnWith t34.2 75 (pr_hd h m i 4 0) (9 : Int32)).bind fun t44 => ((xf_Ch_arriveAt t44.2 (pr_hd h m i 4 0)).bind fun t49 => (xf_Ch_visit_52 t49.2 (Int32.ofNat i)))))) := by
    unfold xf_Ch_visit xf_Ch_visit_22
    rw [← hg1, hh1.2.1, hhd]
    rfl
  rcases hge with hge | hge
  · rw [if_pos hge] at hv
    refine hend g1 hv hh1 (xr_w (xw_rf g1)) (Or.inr ⟨hs1, xC_same hgd1 (fun _ => rfl) (fun _ => rfl) rfl, fun z => ?_⟩) (fun NP VP _ hb => ⟨hs1, by rw [eN, eV]; exact hb⟩)
    rw [hge] at z
    exact absurd z (by decide)
  · rw [if_neg (fun z => by rw [z] at hge; exact absurd hge.1 (by decide))] at hv
    obtain ⟨g2, a1, a2, a3, a4⟩ := xs_recall (m := m) (i := i) (by omega) hi hk hh1.2.1 hgk1
    rw [a1] at hv
    simp only [Option.bind_some] at hv
    rw [xs_goOn] at hv
    simp only [Option.bind_some] at hv
    obtain ⟨g3, hg3⟩ : ∃ g3, g3 = qa_up (qa_up (qa_up (qa_up g2 75 1 0) (75 + 1) 4 9) 75 1 1) 75 2 (pr_hd h m i 4 0) := ⟨_, rfl⟩
    rw [← hg3] at hv
    have j1 : ∀ r p, r ≠ 75 → r ≠ 76 → g3 r p = g1 r p := fun r p h1 h2 => by rw [hg3, pv_nr h1, pv_nr h1, pv_nr h2, pv_nr h1, a2 r p h1 h2]
    have hw3 : xw g1 g3 := fun r p h1 h2 _ => j1 r p h1 h2
    have hh3 : xh g0 m g3 := ⟨fun r p hr => by rw [xw_p hw3 r p hr]; exact hh1.1 r p hr, by rw [j1 72 4 (by decide) (by decide)]; exact hh1.2.1, fun r hr hr' => by rw [j1 74 r (by decide) (by decide)]; exact hh1.2.2 r hr hr'⟩
    have hat : tc_at (xN g m) (xV g m) i = (k, xV g m i) := by
      unfold tc_at xN
      rw [hgk, ek]
      rfl
    have ho3 : xo g3 (some (tc_hf (tc_at (xN g m) (xV g m) i))) := by
      refine xo_some (by rw [j1 72 6 (by decide) (by decide)]; exact hs1) (by show 1 ≤ 6; omega) (by rw [hg3, pv_ni (by decide), pv_self]; rfl) (fun p hp => ?_)
      have hp : p < 4 + 1 := hp
      show g3 76 p = tc_up (tc_at (xN g m) (xV g m) i).2 4 9 p
      rw [hat, hg3, pv_nr (by decide), pv_nr (by decide)]
      by_cases hp4 : p = 4
      · rw [hp4, tc_up_s]; exact pv_self
      · rw [tc_up_n hp4, pv_ni hp4, pv_nr (by decide), a4 p (by omega), eV]
    have eN3 : xN g3 m = xN g m := by rw [← eN]; exact funext fun j => by unfold xN; rw [j1 74 _ (by decide) (by decide)]
    have eV3 : xV g3 m = xV g m := by rw [← eV]; exact funext fun j => funext fun p => by unfold xV; rw [j1 73 _ (by decide) (by decide)]
    have hokf : tc_ok h (tc_at (xN g m) (xV g m) i) := by
      rcases hgd i hi with y | y
      · exact absurd y hn
      · exact y.2.2
    obtain ⟨g4, b1, b2, b3, b4, b5⟩ := xs_arr hP0 hRR hm hh3 ho3 (fun f hf => by cases hf; exact ⟨by rw [eN3, eV3]; exact hgd, tc_hf_ok hokf⟩) (pr_hd h m i 4 0)
    rw [b1] at hv
    refine hend g4 hv b2 (xr_tr (xr_w hw3) b3) ?_ (fun NP VP hpo hb => ?_)
    · rcases b4 with ⟨f, f1, f2, f3, f4⟩ | b4
      · cases f1
        refine Or.inr ⟨(f2.1 _ rfl).1, xC_tr hN0 hC hT (xC_same hgd1 (fun j => j1 74 j (by decide) (by decide)) (fun j => j1 73 j (by decide) (by decide)) (j1 72 5 (by decide) (by decide))) f3, fun _ => f4⟩
      · exact Or.inl (b4.2 rfl).1
    · have hb3 : tc_sle g0 h (xN g3 m) (xV g3 m) NP VP := by rw [eN3, eV3]; exact hb
      obtain ⟨r, e1, e2, e3⟩ := tc_fl_dn hN0 hC hT hi qk.2.2 hb hn (hpo.2.2 i hi (by rw [(hb i hi hn).1]; exact hn))
      have := b5 NP VP hpo _ rfl hb3 (e3 hge.1)
      exact ⟨(this.1.1 _ rfl).1, this.2⟩
