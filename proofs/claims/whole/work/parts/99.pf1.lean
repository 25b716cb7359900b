/-! Running. A frame of depth D: in the class role 85 + 2 D and its places 86 + 2 D, in the reference place D - 1 of its arrays -/
/-- value v is of type t -/
def ru_ty (g0 h0 h : qa_St) (t v : Int32) : Prop := t = 8 ∨ t = 9 ∨ (tc_cl h0 t ∧ (v = -1 ∨ (0 ≤ v.toInt ∧ v.toInt < (h 0 40).toInt ∧ tc_cl h0 (h 28 v.toInt.toNat) ∧ pv_bit (g0 2 (h 28 v.toInt.toNat).toInt.toNat) t.toInt.toNat)))
/-- the program and its types stay -/
def ru_x (g0 g : qa_St) : Prop := ∀ r k, r < 78 → g r k = g0 r k
def ru_m (h0 h : qa_St) : Prop := (∀ r k, 1 ≤ r → r < 21 → h r k = h0 r k) ∧ ∀ k, k < 27 → h 0 k = h0 0 k
theorem ru_m_pm {h0 h : qa_St} (hm : ru_m h0 h) : pm h0 h := ⟨fun r k a b => hm.1 r k a (by omega), hm.2 0 (by omega), hm.2 4 (by omega)⟩
theorem ru_x_xp {g0 g : qa_St} (hx : ru_x g0 g) : xp g0 g := fun r k hr => hx r k (by omega)
/-- what both share: objects, statics, orders, prints, steps -/
def ru_O (h0 g h : qa_St) : Prop := ∃ n : Nat, n ≤ 16 ∧ h 0 40 = Int32.ofNat n ∧ g 78 8 = Int32.ofNat n ∧ ∀ k, k < n → g 82 k = h 28 k ∧ tc_cl h0 (h 28 k) ∧ ∀ j, j < 6 → g 83 (6 * k + j) = h 29 (6 * k + j)
def ru_B (h : qa_St) : Nat := tc_sum (fun c => if (h 31 c).toInt < 0 then 0 else 1) 6
def ru_G (h0 g h : qa_St) : Prop := ru_O h0 g h ∧ (∀ c, c < 6 → g 80 c = h 30 c ∧ g 81 c = h 31 c ∧ -1 ≤ (h 31 c).toInt) ∧ (g 78 7 = h 0 45 ∧ (h 0 45).toInt = (ru_B h : Int)) ∧ (g 78 9 = h 0 46 ∧ 0 ≤ (h 0 46).toInt ∧ (h 0 46).toInt ≤ (h 0 30).toInt ∧ ∀ k, k < 16 → g 84 k = if (k : Int) < (h 0 46).toInt then h 32 k else 0) ∧ (g 78 10 = h 0 30 ∧ g 78 11 = h 0 31 ∧ 0 ≤ (h 0 30).toInt ∧ (h 0 30).toInt ≤ (h 0 31).toInt ∧ (h 0 31).toInt ≤ 2000)
/-- the frame holds values of the types f -/
def ru_F (g0 h0 : qa_St) (D : Nat) (f : tc_F) (g h : qa_St) : Prop := f.1 ≤ 6 ∧ g (85 + 2 * D) 1 = Int32.ofNat f.1 ∧ h 23 (D - 1) = Int32.ofNat f.1 ∧ (∀ k, k < f.1 → g (86 + 2 * D) (4 + k) = h 27 (6 * (D - 1) + k) ∧ ru_ty g0 h0 h (f.2 (4 + k)) (h 27 (6 * (D - 1) + k))) ∧ ∀ p, p < 4 → f.2 p ≠ 8 → g (86 + 2 * D) p = h 26 (4 * (D - 1) + p) ∧ ru_ty g0 h0 h (f.2 p) (h 26 (4 * (D - 1) + p))
theorem ru_ty_le {g0 h0 h : qa_St} (hN : pr_N h0) (hC : pr_C h0) (hT : pr_T g0 h0) {t u v : Int32} (hl : tc_le g0 h0 t u) (hv : ru_ty g0 h0 h t v) : ru_ty g0 h0 h u v := by
  rcases hl with hl | hl | ⟨c1, c2, c3⟩
  · rw [← hl]; exact hv
  · exact Or.inl hl
  · rcases hv with hv | hv | ⟨-, hv⟩
    · rw [hv] at c1; exact absurd c1 (tc_cl8 hN)
    · rw [hv] at c1; exact absurd c1 (tc_cl9 hN)
    · refine Or.inr (Or.inr ⟨c2, ?_⟩)
      rcases hv with hv | ⟨v1, v2, v3, v4⟩
      · exact Or.inl hv
      · have hN0 := hN
        obtain ⟨n0, n1, n2, n3⟩ := hN
        have a1 := v3.1
        have a2 := v3.2
        have b1 := c1.1
        have b2 := c1.2
        have d1 := c2.1
        have d2 := c2.2
        exact Or.inr ⟨v1, v2, v3, tc_btr hN0 hC hT _ (by omega) _ _ (by omega) (by omega) v4 c3⟩
/-- more objects: a value keeps its type -/
theorem ru_ty_up {g0 h0 h h' : qa_St} {t v : Int32} (h1 : (h 0 40).toInt ≤ (h' 0 40).toInt) (h2 : ∀ k : Nat, (k : Int) < (h 0 40).toInt → h' 28 k = h 28 k) (hv : ru_ty g0 h0 h t v) : ru_ty g0 h0 h' t v := by
  rcases hv with hv | hv | ⟨c, hv⟩
  · exact Or.inl hv
  · exact Or.inr (Or.inl hv)
  · refine Or.inr (Or.inr ⟨c, ?_⟩)
    rcases hv with hv | ⟨v1, v2, v3, v4⟩
    · exact Or.inl hv
    · have e := h2 v.toInt.toNat (by omega)
      exact Or.inr ⟨v1, by omega, by rw [e]; exact v3, by rw [e]; exact v4⟩
/-- wider types -/
theorem ru_F_le {g0 h0 : qa_St} (hN : pr_N h0) (hC : pr_C h0) (hT : pr_T g0 h0) {D : Nat} {f f' : tc_F} {g h : qa_St} (hl : tc_fle g0 h0 f f') (hF : ru_F g0 h0 D f g h) : ru_F g0 h0 D f' g h := by
  obtain ⟨a1, a2, a3, a4, a5⟩ := hF
  obtain ⟨l1, l2⟩ := hl
  refine ⟨by omega, by rw [← l1]; exact a2, by rw [← l1]; exact a3, fun k hk => ⟨(a4 k (by omega)).1, ru_ty_le hN hC hT (l2 (4 + k) (by omega)) (a4 k (by omega)).2⟩, fun p hp hz => ?_⟩
  have hz0 : f.2 p ≠ 8 := fun z => by
    have := l2 p (by omega)
    rw [z] at this
    exact hz (tc_of8 hN this)
  exact ⟨(a5 p hp hz0).1, ru_ty_le hN hC hT (l2 p (by omega)) (a5 p hp hz0).2⟩
/-! push and pop, in the reference -/
theorem ms_push {h : qa_St} {D n : Nat} (x : Int32) (hD : 1 ≤ D ∧ D ≤ 10) (hn : n < 6) (hF : h 0 32 = Int32.ofNat D) (ht : h 23 (D - 1) = Int32.ofNat n) : mf_Mo_push h x = some (0, qa_up (qa_up h 27 (6 * (D - 1) + n) x) 23 (D - 1) (Int32.ofNat (n + 1))) := by
  have e0 : (0 : Int32).toInt = 0 := rfl
  have e1 : (1 : Int32).toInt = 1 := rfl
  have e6 : (6 : Int32).toInt = 6 := rfl
  have eD : (Int32.ofNat D).toInt = (D : Int) := pv_nI (by omega)
  have en : (Int32.ofNat n).toInt = (n : Int) := pv_nI (by omega)
  have ef : Int32.ofNat D - 1 = Int32.ofNat (D - 1) := by
    rw [pv_eq, pv_sub (by rw [eD, e1]; omega) (by rw [eD, e1]; omega), eD, e1, pv_nI (by omega)]; omega
  have efi : (Int32.ofNat (D - 1)).toInt = ((D - 1 : Nat) : Int) := pv_nI (by omega)
  have efn : (Int32.ofNat (D - 1)).toNatClampNeg = D - 1 := by rw [pv_cl]; omega
  have hfb : ¬ (Int32.ofNat (D - 1) < 0 ∨ 10 ≤ (Int32.ofNat (D - 1)).toNatClampNeg) := by rw [efn, pv_lt, efi, e0]; omega
  have e6f : ((6 : Int32) * Int32.ofNat (D - 1)).toInt = 6 * ((D - 1 : Nat) : Int) := by rw [pv_mul (by rw [efi, e6]; omega) (by rw [efi, e6]; omega), efi, e6]
  have es : ((6 : Int32) * Int32.ofNat (D - 1) + Int32.ofNat n).toInt = 6 * ((D - 1 : Nat) : Int) + n := by rw [pv_add (by rw [e6f, en]; omega) (by rw [e6f, en]; omega), e6f, en]
  have esn : ((6 : Int32) * Int32.ofNat (D - 1) + Int32.ofNat n).toNatClampNeg = 6 * (D - 1) + n := by rw [pv_cl, es]; omega
  unfold mf_Mo_push mf_Mo_push_22
  rw [hF, ef, if_neg hfb, if_neg hfb, if_neg hfb, efn, ht, if_neg (by rw [esn, pv_lt, es, e0]; omega), esn, pv_nr (show (23 : Nat) ≠ 27 by decide), ht, pv_n1]
theorem ms_pop {h : qa_St} {D n : Nat} (hD : 1 ≤ D ∧ D ≤ 10) (hn : n < 6) (hF : h 0 32 = Int32.ofNat D) (ht : h 23 (D - 1) = Int32.ofNat (n + 1)) : mf_Mo_pop h = some (h 27 (6 * (D - 1) + n), qa_up h 23 (D - 1) (Int32.ofNat n)) := by
  have e0 : (0 : Int32).toInt = 0 := rfl
  have e1 : (1 : Int32).toInt = 1 := rfl
  have e6 : (6 : Int32).toInt = 6 := rfl
  have eD : (Int32.ofNat D).toInt = (D : Int) := pv_nI (by omega)
  have en : (Int32.ofNat n).toInt = (n : Int) := pv_nI (by omega)
  have en1 : (Int32.ofNat (n + 1)).toInt = (n : Int) + 1 := by rw [pv_nI (by omega)]; omega
  have ef : Int32.ofNat D - 1 = Int32.ofNat (D - 1) := by
    rw [pv_eq, pv_sub (by rw [eD, e1]; omega) (by rw [eD, e1]; omega), eD, e1, pv_nI (by omega)]; omega
  have en2 : Int32.ofNat (n + 1) - 1 = Int32.ofNat n := by
    rw [pv_eq, pv_sub (by rw [en1, e1]; omega) (by rw [en1, e1]; omega), en1, e1, en]; omega
  have efi : (Int32.ofNat (D - 1)).toInt = ((D - 1 : Nat) : Int) := pv_nI (by omega)
  have efn : (Int32.ofNat (D - 1)).toNatClampNeg = D - 1 := by rw [pv_cl]; omega
  have hfb : ¬ (Int32.ofNat (D - 1) < 0 ∨ 10 ≤ (Int32.ofNat (D - 1)).toNatClampNeg) := by rw [efn, pv_lt, efi, e0]; omega
  have e6f : ((6 : Int32) * Int32.ofNat (D - 1)).toInt = 6 * ((D - 1 : Nat) : Int) := by rw [pv_mul (by rw [efi, e6]; omega) (by rw [efi, e6]; omega), efi, e6]
  have es : ((6 : Int32) * Int32.ofNat (D - 1) + Int32.ofNat n).toInt = 6 * ((D - 1 : Nat) : Int) + n := by rw [pv_add (by rw [e6f, en]; omega) (by rw [e6f, en]; omega), e6f, en]
  have esn : ((6 : Int32) * Int32.ofNat (D - 1) + Int32.ofNat n).toNatClampNeg = 6 * (D - 1) + n := by rw [pv_cl, es]; omega
  unfold mf_Mo_pop mf_Mo_pop_17
  rw [hF, ef, if_neg hfb, if_neg hfb, if_neg hfb, efn, ht, en2, pv_self, if_neg (by rw [esn, pv_lt, es, e0]; omega), esn, pv_nr (show (27 : Nat) ≠ 23 by decide)]
/-! push and pop of both, with their types -/
/-- what an instruction of the frame D leaves alone -/
def ru_wx (D : Nat) (g g' : qa_St) : Prop := ∀ r k, r ≠ 85 + 2 * D → r ≠ 86 + 2 * D → g' r k = g r k
def ru_wm (D : Nat) (h h' : qa_St) : Prop := (∀ r k, r ≠ 23 → r ≠ 26 → r ≠ 27 → h' r k = h r k) ∧ (∀ k, k ≠ D - 1 → h' 23 k = h 23 k) ∧ (∀ k, k < 4 * (D - 1) → h' 26 k = h 26 k) ∧ ∀ k, k < 6 * (D - 1) → h' 27 k = h 27 k
theorem ru_wx_tr {D : Nat} {g g' g'' : qa_St} (h1 : ru_wx D g g') (h2 : ru_wx D g' g'') : ru_wx D g g'' := fun r k a b => (h2 r k a b).trans (h1 r k a b)
theorem ru_wm_tr {D : Nat} {h h' h'' : qa_St} (h1 : ru_wm D h h') (h2 : ru_wm D h' h'') : ru_wm D h h'' := ⟨fun r k a b c => (h2.1 r k a b c).trans (h1.1 r k a b c), fun k hk => (h2.2.1 k hk).trans (h1.2.1 k hk), fun k hk => (h2.2.2.1 k hk).trans (h1.2.2.1 k hk), fun k hk => (h2.2.2.2 k hk).trans (h1.2.2.2 k hk)⟩
theorem ru_wx_rf (D : Nat) (g : qa_St) : ru_wx D g g := fun _ _ _ _ => rfl
theorem ru_wm_rf (D : Nat) (h : qa_St) : ru_wm D h h := ⟨fun _ _ _ _ _ => rfl, fun _ _ => rfl, fun _ _ => rfl, fun _ _ => rfl⟩
theorem ru_ty_w {g0 h0 h h' : qa_St} {D : Nat} (hw : ru_wm D h h') {t v : Int32} (hv : ru_ty g0 h0 h t v) : ru_ty g0 h0 h' t v := by
  refine ru_ty_up (by rw [hw.1 0 40 (by decide) (by decide) (by decide)]; exact Int.le_refl _) (fun k _ => hw.1 28 k (by decide) (by decide) (by decide)) hv
theorem ru_push {g0 h0 g h : qa_St} {D : Nat} {f r : tc_F} {t v : Int32} (hD : 1 ≤ D ∧ D ≤ 10) (hF : h 0 32 = Int32.ofNat D) (hf : ru_F g0 h0 D f g h) (hv : ru_ty g0 h0 h t v) (hr : tc_pt t f = some r) : ∃ g' h', xf_Fr_push g (85 + 2 * D) v = some (0, g') ∧ mf_Mo_push h v = some (0, h') ∧ ru_wx D g g' ∧ g' (85 + 2 * D) 2 = g (85 + 2 * D) 2 ∧ ru_wm D h h' ∧ ru_F g0 h0 D r g' h' := by
  obtain ⟨a1, a2, a3, a4, a5⟩ := hf
  unfold tc_pt at hr
  by_cases h6 : 6 ≤ f.1
  · rw [if_pos h6] at hr; cases hr
  · rw [if_neg h6] at hr
    cases hr
    have hw : ru_wm D h (qa_up (qa_up h 27 (6 * (D - 1) + f.1) v) 23 (D - 1) (Int32.ofNat (f.1 + 1))) := ⟨fun r k b1 b2 b3 => by rw [pv_nr b1, pv_nr b3], fun k hk => by rw [pv_ni hk, pv_nr (by decide)], fun k hk => by rw [pv_nr (by decide), pv_nr (by decide)], fun k hk => by rw [pv_nr (by decide), pv_ni (by omega)]⟩
    refine ⟨_, _, xs_push v (by omega) a2, ms_push v hD (by omega) hF a3, fun r k b1 b2 => by rw [pv_nr b1, pv_nr (by omega)], by rw [pv_ni (by decide), pv_nr (by omega)], hw, by show f.1 + 1 ≤ 6; omega, pv_self, pv_self, fun k hk => ?_, fun p hp hz => ?_⟩
    · have hk : k < f.1 + 1 := hk
      show _ ∧ ru_ty g0 h0 _ (tc_up f.2 (4 + f.1) t (4 + k)) _
      rw [pv_nr (show 86 + 2 * D ≠ 85 + 2 * D by omega), show 86 + 2 * D = 85 + 2 * D + 1 by omega, pv_nr (show (27 : Nat) ≠ 23 by decide)]
      by_cases hkn : k = f.1
      · rw [hkn, tc_up_s, pv_self, pv_self]
        exact ⟨rfl, ru_ty_w hw hv⟩
      · rw [tc_up_n (by omega), pv_ni (by omega), pv_ni (by omega)]
        have := a4 k (by omega)
        rw [show 86 + 2 * D = 85 + 2 * D + 1 by omega] at this
        exact ⟨this.1, ru_ty_w hw this.2⟩
    · have hz : tc_up f.2 (4 + f.1) t p ≠ 8 := hz
      show _ ∧ ru_ty g0 h0 _ (tc_up f.2 (4 + f.1) t p) _
      rw [tc_up_n (by omega)] at hz ⊢
      rw [pv_nr (show 86 + 2 * D ≠ 85 + 2 * D by omega), show 86 + 2 * D = 85 + 2 * D + 1 by omega, pv_ni (by omega), pv_nr (show (26 : Nat) ≠ 23 by decide), pv_nr (show (26 : Nat) ≠ 27 by decide)]
      have := a5 p hp hz
      rw [show 86 + 2 * D = 85 + 2 * D + 1 by omega] at this
      exact ⟨this.1, ru_ty_w hw this.2⟩
theorem ru_pop {g0 h0 g h : qa_St} {D w : Nat} {f : tc_F} {q : Int32 × tc_F} (hD : 1 ≤ D ∧ D ≤ 10) (hF : h 0 32 = Int32.ofNat D) (hf : ru_F g0 h0 D f g h) (hq : tc_tk h0 w f = some q) : ∃ v g' h', xf_Fr_pop g (85 + 2 * D) = some (v, g') ∧ mf_Mo_pop h = some (v, h') ∧ ru_wx D g g' ∧ g' (85 + 2 * D) 2 = g (85 + 2 * D) 2 ∧ ru_wm D h h' ∧ ru_F g0 h0 D q.2 g' h' ∧ ru_ty g0 h0 h' q.1 v := by
  obtain ⟨a1, a2, a3, a4, a5⟩ := hf
  have hqe : ¬ f.1 = 0 ∧ q = (f.2 (3 + f.1), (f.1 - 1, f.2)) := by
    unfold tc_tk at hq
    by_cases h0' : f.1 = 0
    · rw [if_pos h0'] at hq; cases hq
    · rw [if_neg h0'] at hq
      split at hq
      · cases hq; exact ⟨h0', rfl⟩
      · cases hq
  obtain ⟨n, hn⟩ : ∃ n, f.1 = n + 1 := ⟨f.1 - 1, by omega⟩
  have hw : ru_wm D h (qa_up h 23 (D - 1) (Int32.ofNat n)) := ⟨fun r k b1 b2 b3 => pv_nr b1, fun k hk => pv_ni hk, fun k hk => pv_nr (by decide), fun k hk => pv_nr (by decide)⟩
  have h4 := a4 n (by omega)
  rw [hqe.2]
  have e1 : xf_Fr_pop g (85 + 2 * D) = some (h 27 (6 * (D - 1) + n), qa_up g (85 + 2 * D) 1 (Int32.ofNat n)) := by
    rw [xs_pop (n := n) (by omega) (by rw [a2, hn])]
    rw [show 85 + 2 * D + 1 = 86 + 2 * D by omega, h4.1]
  refine ⟨_, _, _, e1, ms_pop hD (n := n) (by omega) hF (by rw [a3, hn]), fun r k b1 b2 => pv_nr b1, pv_ni (by decide), hw, ⟨by show f.1 - 1 ≤ 6; omega, by rw [pv_self]; show _ = Int32.ofNat (f.1 - 1); rw [hn]; rfl, by rw [pv_self]; show _ = Int32.ofNat (f.1 - 1); rw [hn]; rfl, fun k hk => ?_, fun p hp hz => ?_⟩, ?_⟩
  · have hk : k < f.1 - 1 := hk
    rw [pv_nr (show 86 + 2 * D ≠ 85 + 2 * D by omega), pv_nr (show (27 : Nat) ≠ 23 by decide)]
    exact ⟨(a4 k (by omega)).1, ru_ty_w hw (a4 k (by omega)).2⟩
  · rw [pv_nr (show 86 + 2 * D ≠ 85 + 2 * D by omega), pv_nr (show (26 : Nat) ≠ 23 by decide)]
    exact ⟨(a5 p hp hz).1, ru_ty_w hw (a5 p hp hz).2⟩
  · show ru_ty g0 h0 _ (f.2 (3 + f.1)) _
    rw [show 3 + f.1 = 4 + n by omega]
    exact ru_ty_w hw h4.2
