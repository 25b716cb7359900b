/-! The class: is a method sound -/
theorem xs_first {g : qa_St} (hw : ∃ k, k < 20 ∧ pv_bit (g 72 5) k) : ∃ i, i < 20 ∧ pv_bit (g 72 5) i ∧ xf_Ch_firstWaiting g = some (Int32.ofNat i, g) := by
  have e19 : (19 : Int32).toInt = 19 := rfl
  have hl : ∀ (d j n : Nat), j + d = 19 → d < n → (∀ k, k < j → ¬ pv_bit (g 72 5) k) → ∃ i, i < 20 ∧ pv_bit (g 72 5) i ∧ xf_Ch_firstWaiting_2 n g (Int32.ofNat j) = some (Int32.ofNat i, g) := by
    intro d
    induction d with
    | zero =>
      intro j n hj hn hno
      obtain ⟨n, rfl⟩ : ∃ z, n = z + 1 := ⟨n - 1, by omega⟩
      have ej : (Int32.ofNat j).toInt = (j : Int) := pv_nI (by omega)
      refine ⟨j, by omega, ?_, ?_⟩
      · obtain ⟨k, k1, k2⟩ := hw
        by_cases hkj : k = j
        · rw [← hkj]; exact k2
        · exact absurd k2 (hno k (by omega))
      · rw [xf_Ch_firstWaiting_2, if_pos (by rw [pv_le, e19, ej]; omega)]
    | succ d ih =>
      intro j n hj hn hno
      obtain ⟨n, rfl⟩ : ∃ z, n = z + 1 := ⟨n - 1, by omega⟩
      have ej : (Int32.ofNat j).toInt = (j : Int) := pv_nI (by omega)
      have ejn : (Int32.ofNat j).toInt.toNat = j := by omega
      rw [xf_Ch_firstWaiting_2, if_neg (by rw [pv_le, e19, ej]; omega), xs_has _ _ _ (by omega), ejn]
      simp only [Option.bind_some, pv_b1]
      by_cases hb : pv_bit (g 72 5) j
      · rw [if_neg (fun z => z hb)]
        exact ⟨j, by omega, hb, rfl⟩
      · rw [if_pos hb, pv_n1]
        refine ih (j + 1) n (by omega) (by omega) (fun k hk => ?_)
        by_cases hkj : k = j
        · rw [hkj]; exact hb
        · exact hno k (by omega)
  exact hl 19 0 4096 (by omega) (by omega) (fun k hk => by omega)
/-- what holds before each round -/
def xL (g0 h : qa_St) (m : Nat) (g : qa_St) : Prop := xh g0 m g ∧ (g 72 6 = 0 ∨ (g 72 6 = 1 ∧ tc_gd h m (xN g m) (xV g m) ∧ tc_ar g0 h m (xN g m) (xV g m) 0 (tc_st h m) ∧ (∀ k, k < 20 → pv_bit (g 72 5) k → xN g m k ≠ -1) ∧ (∀ k, k < 20 → xN g m k ≠ -1 → ¬ pv_bit (g 72 5) k → tc_fl g0 h m (xN g m) (xV g m) k) ∧ ∀ k, 20 ≤ k → k < 32 → ¬ pv_bit (g 72 5) k))
theorem tc_fl_cg {g h : qa_St} (hN : pr_N h) (hC : pr_C h) (hM : pr_M h) (hT : pr_T g h) {m : Nat} (hm : (m : Int) < (h 0 4).toInt) {N N' : Nat → Int} {V V' : Nat → Nat → Int32} {i : Nat} (hft : pr_fit h (h 8 (20 * m + i)).toInt (h 9 (20 * m + i)).toInt) (hs : tc_sle g h N V N' V') (h1 : N' i = N i) (h2 : ∀ p, p < 4 + (N i).toNat → V' i p = V i p) (hf : tc_fl g h m N V i) : tc_fl g h m N' V' i := by
  obtain ⟨r, r1, r2, r3⟩ := hf
  have hl : tc_fle g h (tc_at N' V' i) (tc_at N V i) := ⟨by show (N' i).toNat = (N i).toNat; rw [h1], fun p hp => by
    have hp : p < 4 + (N' i).toNat := hp
    rw [h1] at hp
    show tc_le g h (V' i p) (V i p)
    rw [h2 p hp]; exact tc_refl _⟩
  obtain ⟨r', e1, e2⟩ := tc_ef_m hN hC hT hft hl r1
  exact ⟨r', e1, fun j hj => tc_ar_dn hN hC hT e2 (tc_ar_up hN hC hM hT hm hs (r2 j hj)), fun z => tc_ar_dn hN hC hT (tc_hf_m hl) (tc_ar_up hN hC hM hT hm hs (r3 z))⟩
theorem xs_loop {g0 h : qa_St} (hP : pr_P h) (hRR : pr_R g0 h) {m : Nat} (hm : (m : Int) < (h 0 4).toInt) : ∀ (d t n : Nat) (g : qa_St), xL g0 h m g → xM m g ≤ d → t + d < 2000 → d < n → ∃ v g', xf_Ch_isSound_40 n g (Int32.ofNat t) = some (v, g') ∧ xh g0 m g' ∧ xr m g g' ∧ (v = 0 ∨ (v = 1 ∧ g 72 6 = 1 ∧ tc_po g0 h m (xN g' m) (xV g' m))) ∧ ∀ NP VP, tc_po g0 h m NP VP → g 72 6 = 1 → tc_sle g0 h (xN g m) (xV g m) NP VP → v = 1 ∧ tc_sle g0 h (xN g' m) (xV g' m) NP VP := by
  have hP0 := hP
  obtain ⟨hN, hC, hM, hU, hK, hG⟩ := hP
  have hT := hRR.2.1
  have e2k : (2000 : Int32).toInt = 2000 := rfl
  intro d
  induction d with
  | zero =>
    intro t n g hL hMd ht hn
    obtain ⟨n, rfl⟩ : ∃ z, n = z + 1 := ⟨n - 1, by omega⟩
    have et : (Int32.ofNat t).toInt = (t : Int) := pv_nI (by omega)
    rw [xf_Ch_isSound_40, if_neg (by rw [pv_le, e2k, et]; omega)]
    obtain ⟨l1, l2⟩ := hL
    rcases l2 with l2 | ⟨l2, l3, l4, l5, l6, l7⟩
    · rw [if_pos l2, if_pos (Or.inl l2), l2]
      exact ⟨0, g, rfl, l1, xr_w (xw_rf g), Or.inl rfl, fun NP VP _ hs _ => absurd hs (by decide)⟩
    · have hno : ∀ k, k < 20 → ¬ pv_bit (g 72 5) k := fun k hk hw => by
        have : 0 < xM m g := by
          unfold xM
          have := tc_sum_lt (f := fun _ => 0) (f' := fun k => (61 - tc_ph (xN g m) (xV g m) k) + (if pv_bit (g 72 5) k then 1 else 0)) 20 (fun i _ => Nat.zero_le _) k hk (by show 0 < _ + (if pv_bit (g 72 5) k then 1 else 0); rw [if_pos hw]; omega)
          omega
        omega
      have hz : g 72 5 = 0 := pv_nobit (fun k hk => if h20 : k < 20 then hno k h20 else l7 k (by omega) hk)
      rw [if_neg (by rw [l2]; decide), if_pos hz, if_pos (Or.inr l2), l2]
      exact ⟨1, g, rfl, l1, xr_w (xw_rf g), Or.inr ⟨rfl, rfl, l3, l4, fun i hi hn => l6 i hi hn (hno i hi)⟩, fun NP VP _ _ hb => ⟨rfl, hb⟩⟩
  | succ d ih =>
    intro t n g hL hMd ht hn
    obtain ⟨n, rfl⟩ : ∃ z, n = z + 1 := ⟨n - 1, by omega⟩
    have et : (Int32.ofNat t).toInt = (t : Int) := pv_nI (by omega)
    rw [xf_Ch_isSound_40, if_neg (by rw [pv_le, e2k, et]; omega)]
    obtain ⟨l1, l2⟩ := hL
    rcases l2 with l2 | ⟨l2, l3, l4, l5, l6, l7⟩
    · rw [if_pos l2, if_pos (Or.inl l2), l2]
      exact ⟨0, g, rfl, l1, xr_w (xw_rf g), Or.inl rfl, fun NP VP _ hs _ => absurd hs (by decide)⟩
    · rw [if_neg (by rw [l2]; decide)]
      by_cases hz : g 72 5 = 0
      · have hno : ∀ k, k < 20 → ¬ pv_bit (g 72 5) k := fun k hk => by rw [hz]; exact pv_bit_z32 k (by omega)
        rw [if_pos hz, if_pos (Or.inr l2), l2]
        exact ⟨1, g, rfl, l1, xr_w (xw_rf g), Or.inr ⟨rfl, rfl, l3, l4, fun i hi hn => l6 i hi hn (hno i hi)⟩, fun NP VP _ _ hb => ⟨rfl, hb⟩⟩
      · rw [if_neg hz]
        have hw : ∃ k, k < 20 ∧ pv_bit (g 72 5) k := Classical.byContradiction fun hc => hz (pv_nobit (fun k hk hb => if h20 : k < 20 then hc ⟨k, h20, hb⟩ else l7 k (by omega) hk hb))
        obtain ⟨i, i1, i2, i3⟩ := xs_first hw
        rw [i3]
        simp only [Option.bind_some]
        obtain ⟨g1, a1, a2, a3, a4, a5⟩ := xs_visit hP0 hRR hm l1 i1 l2 l3 (l5 i i1 i2) i2
        rw [a1]
        simp only [Option.bind_some]
        rw [pv_n1]
        rcases a4 with a4 | ⟨b1, b2, b3, b4, b5, b6, b7, b9, b8⟩
        · -- not sound: the next round ends it
          obtain ⟨n, rfl⟩ : ∃ z, n = z + 1 := ⟨n - 1, by omega⟩
          have et1 : (Int32.ofNat (t + 1)).toInt = (t : Int) + 1 := by rw [pv_nI (by omega)]; omega
          have he : xf_Ch_isSound_40 (n + 1) g1 (Int32.ofNat (t + 1)) = some (0, g1) := by
            rw [xf_Ch_isSound_40, if_neg (by rw [pv_le, e2k, et1]; omega), if_pos a4, if_pos (Or.inl a4), a4]
          exact ⟨0, g1, he, a2, a3, Or.inl rfl, fun NP VP hpo _ hb => by
            have := (a5 NP VP hpo hb).1
            rw [a4] at this
            exact absurd this (by decide)⟩
        · have hL1 : xL g0 h m g1 := by
            refine ⟨a2, Or.inr ⟨b1, b3, tc_ar_up hN hC hM hT hm b2 l4, fun k hk hw => ?_, fun k hk hn hw => ?_, fun k h1 h2 hw => l7 k h1 h2 (b7 k h1 h2 hw)⟩⟩
            · -- what waits is reached
              rcases b9 k hk hw with y | y
              · have := l5 k hk y
                rw [(b2 k hk this).1]; exact this
              · exact y
            · by_cases hki : k = i
              · rw [hki] at hw ⊢; exact b8 hw
              · have hu := b5 k hk hw
                have hq := hM m hm
                have hkl : (k : Int) < (h 7 m).toInt := by
                  rcases b3 k hk with y | y
                  · exact absurd y hn
                  · exact y.1
                exact tc_fl_cg hN hC hM hT hm (hK m k hm hkl).2.2 b2 hu.1 hu.2 (l6 k hk (by rw [← hu.1]; exact hn) (fun z => hw (b4 k hk hki z)))
          obtain ⟨v, g', c1, c2, c3, c4, c5⟩ := ih (t + 1) n g1 hL1 (by omega) (by omega) (by omega)
          refine ⟨v, g', c1, c2, xr_tr a3 c3, ?_, fun NP VP hpo _ hb => ?_⟩
          · rcases c4 with c4 | ⟨c4, c6, c7⟩
            · exact Or.inl c4
            · exact Or.inr ⟨c4, l2, c7⟩
          · obtain ⟨w1, w2⟩ := a5 NP VP hpo hb
            exact c5 NP VP hpo w1 w2
