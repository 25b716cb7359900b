set_option maxHeartbeats 4000000 in
set_option maxRecDepth 100000 in
theorem ql_open (Inv : qa_St → qa_St → Prop) (h0 : Inv (fun _ _ => 0) (fun _ _ => 0)) (s_type : ∀ (gx gm : qa_St) (x1 x2 : Int32), Inv gx gm → ql_st Inv (xf_Cw_type gx x1 x2) (mf_Mo_type gm x1 x2)) (s_method : ∀ (gx gm : qa_St) (x1 x2 x3 : Int32), Inv gx gm → ql_st Inv (xf_Cw_method gx x1 x2 x3) (mf_Mo_method gm x1 x2 x3)) (s_initialiser : ∀ (gx gm : qa_St) (x1 x2 : Int32), Inv gx gm → ql_st Inv (xf_Cw_initialiser gx x1 x2) (mf_Mo_initialiser gm x1 x2)) (s_code : ∀ (gx gm : qa_St) (x1 x2 x3 : Int32), Inv gx gm → ql_st Inv (xf_Cw_code gx x1 x2 x3) (mf_Mo_code gm x1 x2 x3)) (s_guard : ∀ (gx gm : qa_St) (x1 x2 x3 x4 : Int32), Inv gx gm → ql_st Inv (xf_Cw_guard gx x1 x2 x3 x4) (mf_Mo_guard gm x1 x2 x3 x4)) (s_close : ∀ (gx gm : qa_St), Inv gx gm → ql_st Inv (xf_Cw_close gx) (mf_Mo_close gm)) (s_typeAt : ∀ (gx gm : qa_St) (x1 x2 x3 : Int32), Inv gx gm → ql_st Inv (xf_Cw_typeAt gx x1 x2 x3) (mf_Mo_typeAt gm x1 x2 x3)) (s_answer : ∀ (gx gm : qa_St) (x1 x2 : Int32), Inv gx gm → ql_st Inv (xf_Cw_answer gx x1 x2) (mf_Mo_answer gm x1 x2)) (s_slot : ∀ (gx gm : qa_St) (x1 x2 : Int32), Inv gx gm → ql_st Inv (xf_Cw_slot gx x1 x2) (mf_Mo_slot gm x1 x2)) (s_live : ∀ (gx gm : qa_St) (x1 : Int32), Inv gx gm → ql_st Inv (xf_Cw_live gx x1) (mf_Mo_live gm x1)) (s_targets : ∀ (gx gm : qa_St) (x1 x2 : Int32), Inv gx gm → ql_st Inv (xf_Cw_targets gx x1 x2) (mf_Mo_targets gm x1 x2)) (s_run : ∀ (gx gm : qa_St) (x1 x2 : Int32), Inv gx gm → ql_st Inv (xf_Cw_run gx x1 x2) (mf_Mo_run gm x1 x2)) (s_result : ∀ (gx gm : qa_St), Inv gx gm → ql_st Inv (xf_Cw_result gx) (mf_Mo_result gm)) (s_steps : ∀ (gx gm : qa_St), Inv gx gm → ql_st Inv (xf_Cw_steps gx) (mf_Mo_steps gm)) (s_prints : ∀ (gx gm : qa_St), Inv gx gm → ql_st Inv (xf_Cw_prints gx) (mf_Mo_prints gm)) (s_printed : ∀ (gx gm : qa_St) (x1 : Int32), Inv gx gm → ql_st Inv (xf_Cw_printed gx x1) (mf_Mo_printed gm x1)) (s_begun : ∀ (gx gm : qa_St) (x1 : Int32), Inv gx gm → ql_st Inv (xf_Cw_begun gx x1) (mf_Mo_begun gm x1)) (s_objects : ∀ (gx gm : qa_St), Inv gx gm → ql_st Inv (xf_Cw_objects gx) (mf_Mo_objects gm)) (s_kept : ∀ (gx gm : qa_St) (x1 : Int32), Inv gx gm → ql_st Inv (xf_Cw_kept gx x1) (mf_Mo_kept gm x1)) {p : Program} {e : Env} {s : State} {m : MethodId} {below : List Frame} {meth : Method} {c : Code} (l : Launch) {b L : Nat} {xs : Nat → Int32} (hL : L ≤ 2560) (C0 : lw_At p s m meth c b L xs) : W p l e room_1 s m #[Value.ref b] below meth c s.heap [] 0 0 (lw_Z below #[Value.ref b] s) (entryFrame m ([Value.ref b] : List Value).toArray 4) := by
  have C1 := C0
  obtain ⟨hx, hb, hret, hml, hown, hts, hX, hbl, hlocks, -⟩ := C0
  have S : CallFix p m c code 4 s #[Value.ref b] lw_tbl R_law := ⟨hx, hb, hml, hown, hts⟩
  have hN : qa_N s := fun q hq => va_Nw.of rfl (hts _ (lo_N q hq))
  have hE : qn_E s := ⟨hN, va_AO.of (hts _ lo_F), hts _ lo_J⟩
  obtain ⟨D, cI, cJ, cF, cZ, hK⟩ := ql_K hts
  obtain ⟨A, hAe⟩ : ∃ A : Nat → Prop, A = fun q => s.heap.size ≤ q := ⟨_, rfl⟩
  have hA : ∀ q, s.heap.size ≤ q → A q := fun q h => by rw [hAe]; exact h
  have hP : va_P D qa_cl [] s.heap := fun k q h => by cases h
  have hD : va_D A [] := ⟨(fun i j x y h => by cases h), (fun k q h => by cases h)⟩
  have hS : va_S A s.heap s.heap [] := va_S.rf
  have hl := lv_entry ([Value.ref b]) (n := 4) (Nat.le_of_ble_eq_true rfl)
  rw [lg_entry_eq]
  generalize (lg_sl [Value.ref b] ++ List.replicate (4 - (lg_sl [Value.ref b]).length) Slot.unset).toArray = ls at hl ⊢
  have hl : lv_has ls 4 [(0, .ref b)] := hl
  refine qn_new S (fun w h => ql_sub h) hK hP hD hS hA hi_Cw t_Cw t_Cw_ok lk_La_7 li_Cw lj_Cw (ci := 0) rfl (fs := [.null, .null, .null, .null, .int 0, .int 0]) nd_Cw (by decide) (by decide) dl_0 (fun q1 H hP hD hS => ?_)
  refine W.widen (k := 1) (n := 6) (by decide) (by decide) ?_
  refine lv_dup hx hb dl_3 rfl ?_
  refine qn_callv hP hD hS hA (va_runI (As := []) (rest := [.ref q1]) S (nc_Cw l D cI cJ cF cZ q1 H.size) (cwI 0 S.2.2.2.2 (ql_good lwc_Cw_init) rfl rfl rfl (hts _ (ql_sub lj_Cw)) (hts _ (ql_sub lm_La_9)) (hts _ (ql_sub lwi_Cw_init)) rfl (by decide +kernel) ⟨by decide, by decide⟩) ⟨qn_blind, fun U hU hW => ⟨rfl, qn_pre hK hE hP hU hW⟩⟩ rfl rfl hl.1 rfl (lv_room (Nat.le_of_ble_eq_true rfl)) dl_4 ⟨by decide, by decide⟩) (fun u1 H locs hu1 hP hD hS => ?_)
  refine W.widen (k := 107) (n := 3191) (by decide) (by decide) ?_
  refine lv_astore_n (lv' := [(1, .ref q1), (0, .ref b)]) hx hb dl_7 rfl hl (by decide) rfl (fun ls hl => ?_)
  refine qn_new S (fun w h => ql_sub h) hK hP hD hS hA hi_Mo t_Mo t_Mo_ok lk_La_10 li_Mo lj_Mo (ci := 6) rfl (fs := [.int 0, .null, .null, .null, .int 0, .null, .null, .null, .null, .null, .null, .null, .null, .null, .null, .int 0, .null, .null, .null, .null, .int 0, .int 0, .int 0, .null, .null, .null, .int 0, .int 0, .int 0, .int 0, .int 0, .int 0, .int 0, .null, .null, .null, .null, .null, .null, .null, .int 0, .null, .null, .null, .null, .int 0, .int 0, .null]) nd_Mo (by decide) (by decide) dl_8 (fun q2 H hP hD hS => ?_)
  refine W.widen (k := 108) (n := 3239) (by decide) (by decide) ?_
  refine lv_dup hx hb dl_11 rfl ?_
  refine qn_callv hP hD hS hA (va_runI (As := []) (rest := [.ref q2]) S (nc_Mo l D cI cJ cF cZ q2 H.size) (cwI 0 S.2.2.2.2 (ql_good lwc_Mo_init) rfl rfl rfl (hts _ (ql_sub lj_Mo)) (hts _ (ql_sub lm_La_12)) (hts _ (ql_sub lwi_Mo_init)) rfl (by decide +kernel) ⟨by decide, by decide⟩) ⟨qn_blind, fun U hU hW => ⟨rfl, qn_pre hK hE hP hU hW⟩⟩ rfl rfl hl.1 rfl (lv_room (Nat.le_of_ble_eq_true rfl)) dl_12 ⟨by decide, by decide⟩) (fun u2 H locs hu2 hP hD hS => ?_)
  refine W.widen (k := 140) (n := 6519) (by decide) (by decide) ?_
  refine lv_astore_n (lv' := [(2, .ref q2), (1, .ref q1), (0, .ref b)]) hx hb dl_15 rfl hl (by decide) rfl (fun ls hl => ?_)
  refine lv_iconst (v := 0) hx hb dl_16 (by decide) ?_
  refine lv_istore_n (lv' := [(3, .int 0), (2, .ref q2), (1, .ref q1), (0, .ref b)]) hx hb dl_17 rfl hl (by decide) rfl (fun ls hl => ?_)
  have hl : lv_has ls 4 [(3, .int 0), (2, .ref (u2 0)), (1, .ref (u1 0)), (0, .ref b)] := by rw [hu1, hu2]; exact hl
  have hD : va_D A (qn_w 0 107 u1 (xe_en cI cJ cF u1) ++ qn_w 0 33 u2 (me_en cI cZ u2)) := hD
  have hP : va_P D qa_cl (qn_w 0 107 u1 (xe_en cI cJ cF u1) ++ qn_w 0 33 u2 (me_en cI cZ u2)) H := hP
  have len1 : (qn_w 0 107 u1 (xe_en cI cJ cF u1)).length = 107 := by simp [qn_w]
  have g1 : ∀ i, i < 107 → (qn_w 0 107 u1 (xe_en cI cJ cF u1) ++ qn_w 0 33 u2 (me_en cI cZ u2))[i]? = some (u1 i, xe_en cI cJ cF u1 i (fun _ => 0)) := fun i hi => by
    rw [List.getElem?_append_left (by rw [len1]; exact hi), qn_w_get hi, Nat.zero_add]
  have g2 : ∀ j, j < 33 → (qn_w 0 107 u1 (xe_en cI cJ cF u1) ++ qn_w 0 33 u2 (me_en cI cZ u2))[107 + j]? = some (u2 j, me_en cI cZ u2 j (fun _ => 0)) := fun j hj => by
    rw [List.getElem?_append_right (by rw [len1]; omega), len1, Nat.add_sub_cancel_left, qn_w_get hj, Nat.zero_add]
  have hSS : ql_S s 107 33 u1 u2 := by
    refine ⟨fun i j hi hj h => hD.1 i j _ _ (g1 i hi) (g1 j hj) h, fun i j hi hj h => ?_, fun i j hi hj h => ?_, fun i hi => ?_, fun j hj => ?_⟩
    · have := hD.1 _ _ _ _ (g2 i hi) (g2 j hj) h
      omega
    · have := hD.1 _ _ _ _ (g1 i hi) (g2 j hj) h
      omega
    · have := hD.2 _ _ (g1 i hi)
      rw [hAe] at this
      exact this
    · have := hD.2 _ _ (g2 j hj)
      rw [hAe] at this
      exact this
  have p1 := qn_left hP
  have p2 := qn_right hP
  rw [ql_wl] at p1 p2
  rw [hAe] at hS
  exact ql_loop Inv s_type s_method s_initialiser s_code s_guard s_close s_typeAt s_answer s_slot s_live s_targets s_run s_result s_steps s_prints s_printed s_begun s_objects s_kept l hL C1 D cI cJ cF cZ u1 u2 hK hN hSS 140 6519 (by decide) 512 0 0 _ _ H locs ls (by omega) (by omega) rfl h0 ⟨p1, p2, hS⟩ hl
