/-! Instructions that stay in their frame -/
def ru_Z (h : qa_St) : Prop := h 0 28 = -1 ∧ h 0 29 = 0
/-- what a plain instruction leaves alone in the reference -/
def ru_e (D : Nat) (h h' : qa_St) : Prop := (∀ k, k ≠ 40 → k ≠ 46 → h' 0 k = h 0 k) ∧ (∀ r k, 1 ≤ r → r < 22 → h' r k = h r k) ∧ (∀ k, h' 24 k = h 24 k ∧ h' 25 k = h 25 k ∧ h' 31 k = h 31 k) ∧ (∀ k, k ≠ D - 1 → h' 22 k = h 22 k ∧ h' 23 k = h 23 k) ∧ (∀ k, k < 4 * (D - 1) → h' 26 k = h 26 k) ∧ (∀ k, k < 6 * (D - 1) → h' 27 k = h 27 k) ∧ (h 0 40).toInt ≤ (h' 0 40).toInt ∧ ∀ k : Nat, (k : Int) < (h 0 40).toInt → h' 28 k = h 28 k
def ru_ex (D : Nat) (g g' : qa_St) : Prop := (∀ r k, r < 78 → g' r k = g r k) ∧ ∀ r k, 85 ≤ r → r < 85 + 2 * D → g' r k = g r k
def ru_res (g0 h0 : qa_St) (D : Nat) (pc : Nat) (op a : Int) (r : tc_F) (g h : qa_St) (C M : qa_Re) : Prop := ∃ g' h', ru_ex D g g' ∧ ru_e D h h' ∧ ru_G h0 g' h' ∧ ((C = some (0, g') ∧ M = some (0, h') ∧ ru_F g0 h0 D r g' h' ∧ ∃ j : Nat, tc_sc op a pc (j : Int) ∧ g' (85 + 2 * D) 2 = Int32.ofNat j ∧ h' 22 (D - 1) = Int32.ofNat j) ∨ ∃ x : Int32, x.toInt < 0 ∧ C = some (1, g') ∧ g' 78 12 = x ∧ M = some (x, h') ∧ h' 22 (D - 1) = h 22 (D - 1) ∧ (∀ k, g' (86 + 2 * D) k = g (86 + 2 * D) k) ∧ ∀ k, h' 26 k = h 26 k)
/-- the states before the instruction -/
def ru_pre (g0 h0 : qa_St) (D pc : Nat) (f : tc_F) (g h : qa_St) : Prop := (1 ≤ D ∧ D ≤ 10) ∧ pc < 20 ∧ ru_x g0 g ∧ ru_m h0 h ∧ ru_G h0 g h ∧ h 0 32 = Int32.ofNat D ∧ h 22 (D - 1) = Int32.ofNat pc ∧ ru_F g0 h0 D f g h ∧ g (85 + 2 * D) 2 = Int32.ofNat (pc + 1)
theorem ru_G_w {h0 g g' h h' : qa_St} (h1 : ∀ r k, 78 ≤ r → r < 85 → (r = 78 → k ≠ 12) → g' r k = g r k) (h2 : ∀ r k, r = 0 ∨ 28 ≤ r → h' r k = h r k) (hG : ru_G h0 g h) : ru_G h0 g' h' := by
  obtain ⟨⟨n, o1, o2, o3, o4⟩, b1, ⟨c1, c2⟩, ⟨d1, d2, d3, d4⟩, e1, e2, e3, e4, e5⟩ := hG
  have hB : ru_B h' = ru_B h := by
    have : h' 31 = h 31 := funext fun k => h2 31 k (by omega)
    unfold ru_B
    rw [this]
  refine ⟨⟨n, o1, by rw [h2 0 40 (by omega)]; exact o2, by rw [h1 78 8 (by omega) (by omega) (by omega)]; exact o3, fun k hk => ?_⟩, fun c hc => ?_, ⟨?_, ?_⟩, ⟨?_, ?_, ?_, fun k hk => ?_⟩, ?_, ?_, ?_, ?_, ?_⟩
  · obtain ⟨w1, w2, w3⟩ := o4 k hk
    rw [h1 82 k (by omega) (by omega) (by omega), h2 28 k (by omega)]
    exact ⟨w1, w2, fun j hj => by rw [h1 83 _ (by omega) (by omega) (by omega), h2 29 _ (by omega)]; exact w3 j hj⟩
  · rw [h1 80 c (by omega) (by omega) (by omega), h1 81 c (by omega) (by omega) (by omega), h2 30 c (by omega), h2 31 c (by omega)]
    exact b1 c hc
  · rw [h1 78 7 (by omega) (by omega) (by omega), h2 0 45 (by omega)]; exact c1
  · rw [h2 0 45 (by omega), hB]; exact c2
  · rw [h1 78 9 (by omega) (by omega) (by omega), h2 0 46 (by omega)]; exact d1
  · rw [h2 0 46 (by omega)]; exact d2
  · rw [h2 0 46 (by omega), h2 0 30 (by omega)]; exact d3
  · rw [h1 84 k (by omega) (by omega) (by omega), h2 0 46 (by omega), h2 32 k (by omega)]; exact d4 k hk
  · rw [h1 78 10 (by omega) (by omega) (by omega), h2 0 30 (by omega)]; exact e1
  · rw [h1 78 11 (by omega) (by omega) (by omega), h2 0 31 (by omega)]; exact e2
  · rw [h2 0 30 (by omega)]; exact e3
  · rw [h2 0 30 (by omega), h2 0 31 (by omega)]; exact e4
  · rw [h2 0 31 (by omega)]; exact e5
theorem ru_F_w {g0 h0 g g' h h' : qa_St} {D : Nat} {f : tc_F} (h1 : ∀ k, g' (86 + 2 * D) k = g (86 + 2 * D) k) (h1' : g' (85 + 2 * D) 1 = g (85 + 2 * D) 1) (h2 : h' 23 (D - 1) = h 23 (D - 1)) (h3 : ∀ k, h' 26 k = h 26 k) (h4 : ∀ k, h' 27 k = h 27 k) (h5 : (h 0 40).toInt ≤ (h' 0 40).toInt) (h6 : ∀ k : Nat, (k : Int) < (h 0 40).toInt → h' 28 k = h 28 k) (hF : ru_F g0 h0 D f g h) : ru_F g0 h0 D f g' h' := by
  obtain ⟨a1, a2, a3, a4, a5⟩ := hF
  refine ⟨a1, by rw [h1']; exact a2, by rw [h2]; exact a3, fun k hk => ?_, fun p hp hz => ?_⟩
  · rw [h1, h4]
    exact ⟨(a4 k hk).1, ru_ty_up h5 h6 (a4 k hk).2⟩
  · rw [h1, h3]
    exact ⟨(a5 p hp hz).1, ru_ty_up h5 h6 (a5 p hp hz).2⟩
/-- the end of an instruction that only worked on its frame -/
theorem ru_fin {g0 h0 g h g1 h1 : qa_St} {D pc : Nat} {f r : tc_F} {op a : Int} (hp : ru_pre g0 h0 D pc f g h) (hx : ru_wx D g g1) (hm : ru_wm D h h1) (hF : ru_F g0 h0 D r g1 h1) (j : Nat) (hj : tc_sc op a pc (j : Int)) (hn : g1 (85 + 2 * D) 2 = Int32.ofNat j) {C M : qa_Re} (hC : C = some (0, g1)) (hM : M = some (0, qa_up h1 22 (D - 1) (Int32.ofNat j))) : ru_res g0 h0 D pc op a r g h C M := by
  obtain ⟨hD, hpc, p1, p2, p3, p4, p5, p6, p7⟩ := hp
  have hx' : ∀ r k, 78 ≤ r → r < 85 → g1 r k = g r k := fun r k a b => hx r k (by omega) (by omega)
  refine ⟨g1, _, ⟨fun r k hr => hx r k (by omega) (by omega), fun r k a b => hx r k (by omega) (by omega)⟩, ⟨fun k _ _ => ?_, fun r k a b => ?_, fun k => ?_, fun k hk => ?_, fun k hk => ?_, fun k hk => ?_, ?_, fun k _ => ?_⟩, ?_, Or.inl ⟨hC, hM, ?_, j, hj, hn, pv_self⟩⟩
  · rw [pv_nr (by decide), hm.1 0 k (by decide) (by decide) (by decide)]
  · rw [pv_nr (by omega), hm.1 r k (by omega) (by omega) (by omega)]
  · rw [pv_nr (by decide), pv_nr (by decide), pv_nr (by decide), hm.1 24 k (by decide) (by decide) (by decide), hm.1 25 k (by decide) (by decide) (by decide), hm.1 31 k (by decide) (by decide) (by decide)]
    exact ⟨rfl, rfl, rfl⟩
  · rw [pv_ni hk, pv_nr (by decide), hm.1 22 k (by decide) (by decide) (by decide), hm.2.1 k hk]
    exact ⟨rfl, rfl⟩
  · rw [pv_nr (by decide)]; exact hm.2.2.1 k hk
  · rw [pv_nr (by decide)]; exact hm.2.2.2 k hk
  · rw [pv_nr (by decide), hm.1 0 40 (by decide) (by decide) (by decide)]; exact Int.le_refl _
  · rw [pv_nr (by decide), hm.1 28 k (by decide) (by decide) (by decide)]
  · refine ru_G_w (fun r k a b _ => hx' r k a b) (fun r k hr => ?_) p3
    rw [pv_nr (by omega), hm.1 r k (by omega) (by omega) (by omega)]
  · exact ru_F_w (fun _ => rfl) rfl (pv_nr (by decide)) (fun k => pv_nr (by decide)) (fun k => pv_nr (by decide)) (by rw [pv_nr (by decide)]; exact Int.le_refl _) (fun k _ => pv_nr (by decide)) hF
/-- an instruction that throws -/
theorem ru_thr {g0 h0 g h g1 h1 : qa_St} {D pc : Nat} {f r : tc_F} {op a : Int} (hp : ru_pre g0 h0 D pc f g h) (hx : ru_wx D g g1) (hm : ru_wm D h h1) (hl1 : ∀ k, g1 (86 + 2 * D) k = g (86 + 2 * D) k) (hl2 : ∀ k, h1 26 k = h 26 k) (x : Int32) (hxn : x.toInt < 0) {C M : qa_Re} (hC : C = some (1, qa_up g1 78 12 x)) (hM : M = some (x, h1)) : ru_res g0 h0 D pc op a r g h C M := by
  obtain ⟨hD, hpc, p1, p2, p3, p4, p5, p6, p7⟩ := hp
  refine ⟨_, h1, ⟨fun r k hr => by rw [pv_nr (by omega)]; exact hx r k (by omega) (by omega), fun r k a b => by rw [pv_nr (by omega)]; exact hx r k (by omega) (by omega)⟩, ⟨fun k _ _ => hm.1 0 k (by decide) (by decide) (by decide), fun r k a b => hm.1 r k (by omega) (by omega) (by omega), fun k => ⟨hm.1 24 k (by decide) (by decide) (by decide), hm.1 25 k (by decide) (by decide) (by decide), hm.1 31 k (by decide) (by decide) (by decide)⟩, fun k hk => ⟨hm.1 22 k (by decide) (by decide) (by decide), hm.2.1 k hk⟩, fun k hk => hm.2.2.1 k hk, fun k hk => hm.2.2.2 k hk, by rw [hm.1 0 40 (by decide) (by decide) (by decide)]; exact Int.le_refl _, fun k _ => hm.1 28 k (by decide) (by decide) (by decide)⟩, ?_, Or.inr ⟨x, hxn, hC, pv_self, hM, hm.1 22 _ (by decide) (by decide) (by decide), fun k => by rw [pv_nr (by omega)]; exact hl1 k, hl2⟩⟩
  refine ru_G_w (fun r k a b c => ?_) (fun r k hr => hm.1 r k (by omega) (by omega) (by omega)) p3
  rw [pv_get, if_neg (fun z => c z.1 z.2)]
  exact hx r k (by omega) (by omega)
theorem xs_pop_pl {g g' : qa_St} {r0 : Nat} {v : Int32} (he : xf_Fr_pop g r0 = some (v, g')) : ∀ k, g' (r0 + 1) k = g (r0 + 1) k := by
  unfold xf_Fr_pop at he
  intro k
  by_cases h1 : g r0 1 = 0
  · rw [if_pos h1] at he
    cases he
    rfl
  · rw [if_neg h1] at he
    split at he
    · cases he
    · cases he
      exact pv_nr (by omega)
theorem ms_pop_pl {h h' : qa_St} {v : Int32} (he : mf_Mo_pop h = some (v, h')) : ∀ k, h' 26 k = h 26 k := by
  unfold mf_Mo_pop mf_Mo_pop_17 at he
  intro k
  split at he
  · cases he
  · split at he
    · cases he
    · cases he
      exact pv_nr (by decide)
theorem ru_b {D : Nat} (hD : 1 ≤ D ∧ D ≤ 10) : (Int32.ofNat (D - 1)).toNatClampNeg = D - 1 ∧ ¬ (Int32.ofNat (D - 1) < 0 ∨ 10 ≤ (Int32.ofNat (D - 1)).toNatClampNeg) := by
  have e0 : (0 : Int32).toInt = 0 := rfl
  have efi : (Int32.ofNat (D - 1)).toInt = ((D - 1 : Nat) : Int) := pv_nI (by omega)
  have efn : (Int32.ofNat (D - 1)).toNatClampNeg = D - 1 := by rw [pv_cl]; omega
  exact ⟨efn, by rw [efn, pv_lt, efi, e0]; omega⟩
theorem ru_bx {D : Nat} (hD : D ≤ 10) : (Int32.ofNat D).toNatClampNeg = D ∧ ¬ (Int32.ofNat D < 0 ∨ 11 ≤ (Int32.ofNat D).toNatClampNeg) := by
  have e0 : (0 : Int32).toInt = 0 := rfl
  have efi : (Int32.ofNat D).toInt = (D : Int) := pv_nI (by omega)
  have efn : (Int32.ofNat D).toNatClampNeg = D := by rw [pv_cl]; omega
  exact ⟨efn, by rw [efn, pv_lt, efi, e0]; omega⟩
theorem ru_479 {h : qa_St} {D : Nat} (hD : 1 ≤ D ∧ D ≤ 10) (x : Int32) : mf_Mo_plain_479 h (Int32.ofNat (D - 1)) x = some (0, qa_up h 22 (D - 1) x) := by
  unfold mf_Mo_plain_479
  rw [if_neg (ru_b hD).2, (ru_b hD).1]
theorem ru_sc {op a : Int} {i : Nat} (h : op ≠ 9 ∧ op ≠ 21 ∧ op ≠ 22) : tc_sc op a i ((i + 1 : Nat) : Int) := Or.inl ⟨h.1, h.2.1, h.2.2, by omega⟩
/-- an instruction that pushes a value -/
theorem ru_op_push {g0 h0 g h g1 h1 : qa_St} {D pc : Nat} {f f1 r : tc_F} {op a : Int} {t v : Int32} (hp : ru_pre g0 h0 D pc f g h) (hx : ru_wx D g g1) (hm : ru_wm D h h1) (hF : ru_F g0 h0 D f1 g1 h1) (hn : g1 (85 + 2 * D) 2 = g (85 + 2 * D) 2) (hv : ru_ty g0 h0 h1 t v) (hr : tc_pt t f1 = some r) (ho : op ≠ 9 ∧ op ≠ 21 ∧ op ≠ 22) {C M : qa_Re} (hC : C = (xf_Fr_push g1 (85 + 2 * D) v).bind fun t => some ((0 : Int32), t.2)) (hM : M = (mf_Mo_push h1 v).bind fun t => mf_Mo_plain_479 t.2 (Int32.ofNat (D - 1)) (h 22 (D - 1) + 1)) : ru_res g0 h0 D pc op a r g h C M := by
  have hp0 := hp
  obtain ⟨hD, hpc, p1, p2, p3, p4, p5, p6, p7⟩ := hp
  obtain ⟨g2, h2, a1, a2, a3, a4, a5, a6⟩ := ru_push hD (by rw [hm.1 0 32 (by decide) (by decide) (by decide)]; exact p4) hF hv hr
  refine ru_fin hp0 (ru_wx_tr hx a3) (ru_wm_tr hm a5) a6 (pc + 1) (ru_sc ho) (by rw [a4, hn]; exact p7) (by rw [hC, a1]; rfl) ?_
  rw [hM, a2, Option.bind_some, ru_479 hD, p5, pv_n1]
theorem ru_tk_bind {h0 : qa_St} {w : Nat} {f : tc_F} {α : Type} {k : Int32 × tc_F → Option α} {r : α} (he : (tc_tk h0 w f).bind k = some r) : ∃ q, tc_tk h0 w f = some q ∧ k q = some r := tc_bind he
theorem ru_tks1 {h0 : qa_St} {f r : tc_F} (he : tc_tks h0 1 f = some r) : ∃ q, tc_tk h0 1 f = some q ∧ q.2 = r := by
  have he : ((tc_tk h0 1 f).bind fun q => some q.2) = some r := he
  obtain ⟨q, q1, q2⟩ := tc_bind he
  exact ⟨q, q1, by cases q2; rfl⟩
theorem ru_tks2 {h0 : qa_St} {f r : tc_F} (he : tc_tks h0 2 f = some r) : ∃ q q', tc_tk h0 1 f = some q ∧ tc_tk h0 1 q.2 = some q' ∧ q'.2 = r := by
  have he : ((tc_tk h0 1 f).bind fun q => (tc_tk h0 1 q.2).bind fun q' => some q'.2) = some r := he
  obtain ⟨q, q1, q2⟩ := tc_bind he
  obtain ⟨q', q3, q4⟩ := tc_bind q2
  exact ⟨q, q', q1, q3, by cases q4; rfl⟩
