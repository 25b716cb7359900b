/-! Two worlds side by side: a call on the one leaves the other -/
def ql_S (s : State) (N1 N2 : Nat) (ad bd : Nat → Nat) : Prop := (∀ i j, i < N1 → j < N1 → ad i = ad j → i = j) ∧ (∀ i j, i < N2 → j < N2 → bd i = bd j → i = j) ∧ (∀ i j, i < N1 → j < N2 → ad i ≠ bd j) ∧ (∀ i, i < N1 → s.heap.size ≤ ad i) ∧ (∀ j, j < N2 → s.heap.size ≤ bd j)
def ql_O (D : va_G) (N1 : Nat) (ad : Nat → Nat) (e1 : Nat → (Nat → Int32) → va_E) (N2 : Nat) (bd : Nat → Nat) (e2 : Nat → (Nat → Int32) → va_E) (s : State) (g1 g2 : qa_St) (H : Heap) (locs : List Loc) : Prop :=
  va_P D qa_cl (qa_wl N1 ad e1 g1) H ∧ va_P D qa_cl (qa_wl N2 bd e2 g2) H ∧ va_S (fun q => s.heap.size ≤ q) s.heap H locs
def ql_st (Inv : qa_St → qa_St → Prop) (a b : qa_Re) : Prop := ∃ (v : Int32) (gx gm : qa_St), a = some (v, gx) ∧ b = some (v, gm) ∧ Inv gx gm
theorem ql_inj {N : Nat} {ad : Nat → Nat} {en : Nat → (Nat → Int32) → va_E} {g : qa_St} (h : ∀ i j, i < N → j < N → ad i = ad j → i = j) : va_D (fun _ => True) (qa_wl N ad en g) := by
  refine ⟨fun i j x y hi hj hxy => ?_, fun _ _ _ => trivial⟩
  by_cases h1 : i < N
  · by_cases h2 : j < N
    · rw [qa_wl_get h1] at hi
      rw [qa_wl_get h2] at hj
      cases hi
      cases hj
      exact h i j h1 h2 hxy
    · rw [qa_wl_none h2] at hj
      cases hj
  · rw [qa_wl_none h1] at hi
    cases hi
section QL
variable {p : Program} {l : Launch} {e : Env} {R : Room} {s : State} {m : MethodId} {args : Array Value} {below : List Frame} {meth : Method} {c : Code} {H : Heap} {locs : List Loc} {Q : State → Prop} {cells slots : Nat}
variable {cc : ByteArray} {pc nL N1 N2 : Nat} {ls : Array Slot} {D : va_G} {tys : List (ClassId × FieldType)} {ad bd : Nat → Nat} {e1 e2 : Nat → (Nat → Int32) → va_E} {g1 g2 : qa_St} {own : String}
variable {y : MethodName} {bytes : ByteArray} {maxL n index F L : Nat} {ret : Option FieldType} {f : qa_Re} {T : Int32 × qa_St}
theorem ql_sub {w : Cond} (h : w ∈ qa_G) : w ∈ lw_tbl := (List.mem_filter.mp h).1
theorem ql_cwV (S : CallFix p m c cc nL s args lw_tbl own) (hy : qa_yV y bytes maxL ret n) (hl : Cond.methodLink own index y ∈ qa_G) (hR : F + 1 ≤ R.frames ∧ 8 + (maxL + 11) + L ≤ R.locals) : CallW R s args own y.cls index y bytes maxL ret (qa_ws y bytes maxL ret) (qa_rm F L) 0 0 n := by
  obtain ⟨⟨h1, h2, h3, h4⟩, h5⟩ := hy
  refine cwV n S.2.2.2.2 ?_ rfl rfl rfl ⟨rfl, h5⟩ hR
  unfold wsV
  intro w hw
  have hg : w ∈ qa_G := by
    rcases List.mem_append.mp hw with h | h
    · revert w
      exact fun w _ h => (List.forall_mem_cons.mpr ⟨hl, List.forall_mem_cons.mpr ⟨h1, List.forall_mem_cons.mpr ⟨h2, List.forall_mem_cons.mpr ⟨h3, fun _ h => by cases h⟩⟩⟩⟩ : ∀ w ∈ ([.methodLink own index y, .instanceMethod y, .selects y.cls y y, .initialized y.cls] : List Cond), w ∈ qa_G) w h
    · rcases List.mem_cons.mp h with rfl | h
      · exact h4
      · exact h
  exact ⟨ql_sub hg, good_of_word (List.mem_filter.mp hg).2⟩
theorem ql_Vi (S : CallFix p m c cc nL s args lw_tbl own) (hK : va_K D qa_cl tys s) (hN : qa_N s) (hS : ql_S s N1 N2 ad bd) (hO : ql_O D N1 ad e1 N2 bd e2 s g1 g2 H locs) {As rest st0 : List Value} {r : Nat} (hM : qa_Mi l y (qa_ws y bytes maxL ret) (qa_rm F L) D tys N1 ad e1 (.ref (ad r) :: As) g1 f) (hf : f = some T) (hy : qa_yV y bytes maxL ret n) (hl : Cond.methodLink own index y ∈ qa_G) (hR : F + 1 ≤ R.frames ∧ 8 + (maxL + 11) + L ≤ R.locals) (hcs : cells ≤ R.cells ∧ slots ≤ R.slots) (hr : r < N1) {ci : Nat} {fs : List Value} {q : vw_C} (he : e1 r (g1 r) = .inr (ci, fs)) (hc : qa_cl[ci]? = some q) (hq : q.1 = y.cls) (hn : As.length = n) (hls : ls.size = nL) (hst : st0 = As.reverse ++ .ref (ad r) :: rest) (hW : (rest.map fun v => v.category).sum ≤ 8) (hd : decode cc pc = .ok (.invokevirtual index, 3))
    (kk : ∀ (H : Heap) (locs : List Loc), ql_O D N1 ad e1 N2 bd e2 s T.2 g2 H locs → W p l e R s m args below meth c H locs cells slots Q (F0 m (pc + 3) ls (.int T.1 :: rest))) : W p l e R s m args below meth c H locs cells slots Q (F0 m pc ls st0) := by
  have hup : ∀ q, qa_A N1 ad H.size q → s.heap.size ≤ q := fun q hq => by
    rcases hq with ⟨k, hk, rfl⟩ | h
    · exact hS.2.2.2.1 k hk
    · exact Nat.le_trans hO.2.2.1 h
  refine va_calli (va_runV (As := As) (rest := rest) (C := y.cls) S (hM T H.size hf) (ql_cwV S hy hl hR) ⟨qa_blind, by rw [← hq]; exact va_recv hK hO.1 hc (by rw [qa_wl_get hr, he]), fun U hU hW => ⟨rfl, by rw [hU], by rw [hU]; exact hO.1, va_K.moved hW.alike hK, ql_inj hS.1, hN.moved hW⟩⟩ rfl hn hls hst (lv_room hW) hd ⟨hcs.1, hcs.2⟩) hO.2.2 (fun q _ h => hup q h) hup (fun r u t H1 locs1 ht _ hp hB _ hk1 hS1 => ?_)
  subst hp
  refine kk H1 locs1 ⟨by rw [← ht]; exact hB, hO.2.1.kept (fun k x hx => hk1 x.1 ((hO.2.1 k x hx).lt) (fun hq => ?_)), hS1⟩
  by_cases hkN : k < N2
  · rw [qa_wl_get hkN] at hx
    cases hx
    rcases hq with ⟨i, hi, h⟩ | h
    · exact hS.2.2.1 i k hi hkN h.symm
    · have := (hO.2.1 k _ (qa_wl_get hkN)).lt
      exact absurd h (Nat.not_le.mpr this)
  · rw [qa_wl_none hkN] at hx
    cases hx
theorem ql_Wi (S : CallFix p m c cc nL s args lw_tbl own) (hK : va_K D qa_cl tys s) (hN : qa_N s) (hS : ql_S s N1 N2 ad bd) (hO : ql_O D N1 ad e1 N2 bd e2 s g1 g2 H locs) {As rest st0 : List Value} {r : Nat} (hM : qa_Mi l y (qa_ws y bytes maxL ret) (qa_rm F L) D tys N2 bd e2 (.ref (bd r) :: As) g2 f) (hf : f = some T) (hy : qa_yV y bytes maxL ret n) (hl : Cond.methodLink own index y ∈ qa_G) (hR : F + 1 ≤ R.frames ∧ 8 + (maxL + 11) + L ≤ R.locals) (hcs : cells ≤ R.cells ∧ slots ≤ R.slots) (hr : r < N2) {ci : Nat} {fs : List Value} {q : vw_C} (he : e2 r (g2 r) = .inr (ci, fs)) (hc : qa_cl[ci]? = some q) (hq : q.1 = y.cls) (hn : As.length = n) (hls : ls.size = nL) (hst : st0 = As.reverse ++ .ref (bd r) :: rest) (hW : (rest.map fun v => v.category).sum ≤ 8) (hd : decode cc pc = .ok (.invokevirtual index, 3))
    (kk : ∀ (H : Heap) (locs : List Loc), ql_O D N1 ad e1 N2 bd e2 s g1 T.2 H locs → W p l e R s m args below meth c H locs cells slots Q (F0 m (pc + 3) ls (.int T.1 :: rest))) : W p l e R s m args below meth c H locs cells slots Q (F0 m pc ls st0) :=
  ql_Vi (N1 := N2) (N2 := N1) (ad := bd) (bd := ad) (e1 := e2) (e2 := e1) (g2 := g1) S hK hN ⟨hS.2.1, hS.1, fun i j hi hj h => hS.2.2.1 j i hj hi h.symm, hS.2.2.2.2, hS.2.2.2.1⟩ ⟨hO.2.1, hO.1, hO.2.2⟩ hM hf hy hl hR hcs hr he hc hq hn hls hst hW hd (fun H locs h => kk H locs ⟨h.2.1, h.1, h.2.2⟩)
end QL
theorem ql_in {L k : Nat} {i : Int32} (hL : L ≤ 2560) (hi : i = Int32.ofNat (5 * k)) (hk : 5 * k ≤ L + 5) (h : ¬ (Int32.ofNat L - 5 < i)) : 5 * k + 5 ≤ L ∧ vp_in i L ∧ vp_in (i + 1) L ∧ vp_in (i + 2) L ∧ vp_in (i + 3) L ∧ vp_in (i + 4) L := by
  have hi0 : i = nI (5 * k) := hi
  have hit : i.toInt = ((5 * k : Nat) : Int) := by rw [hi0]; exact nI_toInt (by omega)
  have key : 5 * k + 5 ≤ L := by
    by_cases h5 : 5 ≤ L
    · have e : Int32.ofNat L - 5 = nI (L - 5) := by
        have e2 : Int32.ofNat L = nI (L - 5) + 5 := by
          show nI L = nI (L - 5) + nI 5
          rw [nI_add]
          congr 1
          omega
        rw [e2]
        exact Int32.add_sub_cancel _ _
      rw [e, hi0, nI_ltI (by omega) (by omega)] at h
      omega
    · exfalso
      apply h
      rw [Int32.lt_iff_toInt_lt, hit]
      rcases (show L = 0 ∨ L = 1 ∨ L = 2 ∨ L = 3 ∨ L = 4 by omega) with rfl | rfl | rfl | rfl | rfl
      · have : (Int32.ofNat 0 - 5).toInt = -5 := by decide
        omega
      · have : (Int32.ofNat 1 - 5).toInt = -4 := by decide
        omega
      · have : (Int32.ofNat 2 - 5).toInt = -3 := by decide
        omega
      · have : (Int32.ofNat 3 - 5).toInt = -2 := by decide
        omega
      · have : (Int32.ofNat 4 - 5).toInt = -1 := by decide
        omega
  have hj : ∀ j : Nat, j < 5 → vp_in (i + nI j) L := fun j h => by
    rw [hi0, nI_add]
    exact nI_in (by omega) (by omega)
  refine ⟨key, ?_, hj 1 (by omega), hj 2 (by omega), hj 3 (by omega), hj 4 (by omega)⟩
  rw [hi0]
  exact nI_in (by omega) (by omega)
