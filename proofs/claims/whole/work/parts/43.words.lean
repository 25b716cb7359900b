theorem li_Cw : Cond.instantiable R_Cw 6 ∈ qa_G := qa_ini 11 (by decide +kernel) rfl
theorem lj_Cw : Cond.initialized R_Cw ∈ qa_G := qa_ini 1 (by decide +kernel) rfl
theorem li_Mo : Cond.instantiable R_Mo 48 ∈ qa_G := qa_ini 692 (by decide +kernel) rfl
theorem lj_Mo : Cond.initialized R_Mo ∈ qa_G := qa_ini 7 (by decide +kernel) rfl
theorem lk_La_7 : Cond.classLink R_law 7 R_Cw ∈ qa_G := qa_ini 10 (by decide +kernel) rfl
theorem lm_La_9 : Cond.methodLink R_law 9 y_Cw_init ∈ qa_G := qa_ini 12 (by decide +kernel) rfl
theorem lwc_Cw_init : Cond.code y_Cw_init b_Cw_init 3 none ∈ qa_G := qa_ini 14 (by decide +kernel) rfl
theorem lwi_Cw_init : Cond.instanceMethod y_Cw_init ∈ qa_G := qa_ini 13 (by decide +kernel) rfl
theorem lk_La_10 : Cond.classLink R_law 10 R_Mo ∈ qa_G := qa_ini 691 (by decide +kernel) rfl
theorem lm_La_12 : Cond.methodLink R_law 12 y_Mo_init ∈ qa_G := qa_ini 693 (by decide +kernel) rfl
theorem lwc_Mo_init : Cond.code y_Mo_init b_Mo_init 1 none ∈ qa_G := qa_ini 695 (by decide +kernel) rfl
theorem lwi_Mo_init : Cond.instanceMethod y_Mo_init ∈ qa_G := qa_ini 694 (by decide +kernel) rfl
theorem lo_J : Cond.arrayOver (.array .int) ∈ lw_tbl := List.mem_append_right _ (List.mem_of_getElem? (i := 25) (by decide +kernel))
theorem lo_F : Cond.arrayOver (.object "ClosedWorld$Frame") ∈ lw_tbl := List.mem_append_right _ (List.mem_of_getElem? (i := 146) (by decide +kernel))
theorem lo_N : ∀ q ∈ qa_nw, qa_nn q ∈ lw_tbl := by
  intro q hq
  obtain ⟨k, hk⟩ := List.getElem?_of_mem hq
  have hlt : k < 10 := (List.getElem?_eq_some_iff.mp hk).1
  match k, hlt with
  | 0, _ => obtain rfl := Option.some.inj hk; exact List.mem_append_right _ (List.mem_of_getElem? (i := 20) (by decide +kernel))
  | 1, _ => obtain rfl := Option.some.inj hk; exact List.mem_append_right _ (List.mem_of_getElem? (i := 84) (by decide +kernel))
  | 2, _ => obtain rfl := Option.some.inj hk; exact List.mem_append_right _ (List.mem_of_getElem? (i := 147) (by decide +kernel))
  | 3, _ => obtain rfl := Option.some.inj hk; exact List.mem_append_right _ (List.mem_of_getElem? (i := 246) (by decide +kernel))
  | 4, _ => obtain rfl := Option.some.inj hk; exact List.mem_append_right _ (List.mem_of_getElem? (i := 327) (by decide +kernel))
  | 5, _ => obtain rfl := Option.some.inj hk; exact List.mem_append_right _ (List.mem_of_getElem? (i := 341) (by decide +kernel))
  | 6, _ => obtain rfl := Option.some.inj hk; exact List.mem_append_right _ (List.mem_of_getElem? (i := 362) (by decide +kernel))
  | 7, _ => obtain rfl := Option.some.inj hk; exact List.mem_append_right _ (List.mem_of_getElem? (i := 369) (by decide +kernel))
  | 8, _ => obtain rfl := Option.some.inj hk; exact List.mem_append_right _ (List.mem_of_getElem? (i := 470) (by decide +kernel))
  | 9, _ => obtain rfl := Option.some.inj hk; exact List.mem_append_right _ (List.mem_of_getElem? (i := 605) (by decide +kernel))
  | n + 10, h => exact absurd h (by omega)
theorem ql_good {c1 : Cond} (h : c1 ∈ qa_G) : GoodIn lw_tbl (c1 :: qa_G) := by
  intro w hw
  have hw1 : w ∈ qa_G := by
    rcases List.mem_cons.mp hw with rfl | h2
    · exact h
    · exact h2
  exact ⟨ql_sub hw1, good_of_word (List.mem_filter.mp hw1).2⟩
theorem ql_wl {N : Nat} {ad : Nat → Nat} {en : Nat → (Nat → Int32) → va_E} : qn_w 0 N ad en = qa_wl N ad en (fun _ _ => 0) := by
  unfold qn_w qa_wl
  apply List.map_congr_left
  intro k _
  rw [Nat.zero_add]
/-- what the tables say of the classes and of the arrays -/
theorem ql_K {s : State} {args : Array Value} (hts : ∀ w ∈ lw_tbl, w.before args s = true) : ∃ (D : va_G) (cI cJ cF cZ : ClassId), va_K D qa_cl (qa_ty cI cJ cF cZ) s := by
  have hg : ∀ w ∈ qa_G, w.before args s = true := fun w h => hts w (ql_sub h)
  obtain ⟨c0, d0, k0⟩ := u_known hg hi_Cw (hg _ li_Cw)
  obtain ⟨c1, d1, k1⟩ := u_known hg hi_Pr (hg _ li_Pr)
  obtain ⟨c2, d2, k2⟩ := u_known hg hi_Ch (hg _ li_Ch)
  obtain ⟨c3, d3, k3⟩ := u_known hg hi_Re (hg _ li_Re)
  obtain ⟨c4, d4, k4⟩ := u_known hg hi_Ma (hg _ li_Ma)
  obtain ⟨c5, d5, k5⟩ := u_known hg hi_Fr (hg _ li_Fr)
  obtain ⟨c6, d6, k6⟩ := u_known hg hi_Mo (hg _ li_Mo)
  obtain ⟨cI, kI, oI, i1, i2, i3⟩ := Cond.arrayClass_spec (hg _ lw_arI)
  obtain ⟨cZ, kZ, oZ, z1, z2, z3⟩ := Cond.arrayClass_spec (hg _ lw_arZ)
  obtain ⟨pJ, cJ, kJ, -, -, j2, j3, j1⟩ := arrayOverA_spec (hts _ lo_J)
  obtain ⟨pF, cF, kF, f0, -, f2, f3, f1⟩ := Cond.arrayOver_spec (hts _ lo_F)
  refine ⟨(fun i => ([c0, c1, c2, c3, c4, c5, c6] : List ClassId).getD i c0, fun i => ([d0, d1, d2, d3, d4, d5, d6] : List (Nat → Nat)).getD i d0), cI, cJ, cF, cZ, fun c q hq => ?_, fun k q hq => ?_⟩
  · have hlt : c < 7 := (List.getElem?_eq_some_iff.mp hq).1
    match c, hlt with
    | 0, _ => obtain rfl := Option.some.inj hq; exact k0
    | 1, _ => obtain rfl := Option.some.inj hq; exact k1
    | 2, _ => obtain rfl := Option.some.inj hq; exact k2
    | 3, _ => obtain rfl := Option.some.inj hq; exact k3
    | 4, _ => obtain rfl := Option.some.inj hq; exact k4
    | 5, _ => obtain rfl := Option.some.inj hq; exact k5
    | 6, _ => obtain rfl := Option.some.inj hq; exact k6
    | n + 7, h => exact absurd h (by omega)
  · have hlt : k < 4 := (List.getElem?_eq_some_iff.mp hq).1
    match k, hlt with
    | 0, _ => obtain rfl := Option.some.inj hq; exact ⟨fun n z => ⟨(fun k h => by cases h), kI, i2, oI, i3⟩, i1⟩
    | 1, _ => obtain rfl := Option.some.inj hq; exact ⟨fun n z => ⟨(fun k h => by cases h), kJ, j2, pJ, j3⟩, j1⟩
    | 2, _ => obtain rfl := Option.some.inj hq; exact ⟨fun n z => ⟨(fun k h => by cases h), kF, f2, pF, f3⟩, kF, pF, f2, f3, f0, f1⟩
    | 3, _ => obtain rfl := Option.some.inj hq; exact ⟨fun n z => ⟨(fun k h => by cases h), kZ, z2, oZ, z3⟩, z1⟩
    | n + 4, h => exact absurd h (by omega)
