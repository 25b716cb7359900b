def nu_Cw (h0 : Nat) (q1 : Nat) (u1 : Nat → Nat) (q2 : Nat) (u2 : Nat → Nat) (q3 : Nat) (u3 : Nat → Nat) (q4 : Nat) (u4 : Nat → Nat) : Nat → Nat := fun j => if j = 0 then h0 else if j < 72 then u1 j else if j < 77 then u2 j else if j < 78 then u3 j else u4 j
set_option maxHeartbeats 4000000 in
set_option maxRecDepth 100000 in
theorem nc_Cw (l : Launch) (D : va_G) (cI cJ cF cZ : ClassId) (h0 : Nat) (sz : Nat) : Met l y_Cw_init (qa_ws y_Cw_init b_Cw_init 3 none) { frames := 3, cells := 106, slots := 3185, locals := 54 } (va_Pc [.ref h0] (qn_Pre D (qa_ty cI cJ cF cZ) [(h0, .inr (0, [.null, .null, .null, .null, .int 0, .int 0]))] sz)) (va_Qv (fun u => u 0 = h0) (fun u t => va_P D qa_cl (qn_w 0 107 u (xe_en cI cJ cF u)) t.heap ∧ va_D (va_A [(h0, .inr (0, [.null, .null, .null, .null, .int 0, .int 0]))] sz) (qn_w 0 107 u (xe_en cI cJ cF u))) (va_A [(h0, .inr (0, [.null, .null, .null, .null, .int 0, .int 0]))] sz)) 106 3185 (va_A [(h0, .inr (0, [.null, .null, .null, .null, .int 0, .int 0]))] sz) := by
  refine qn_met (post := fun u => u 0 = h0) (wf := fun u => qn_w 0 107 u (xe_en cI cJ cF u)) (by decide) rfl (Nat.le_of_ble_eq_true rfl) ?_ sz
  intro p e s m args below meth c Q A S hnm hK hE hA ret ls hl hP hD hS
  have hx := S.1
  have hb := S.2.1
  have hl : lv_has ls 3 [(0, .ref h0)] := hl
  obtain ⟨H, hH⟩ : ∃ H : Heap, H = s.heap := ⟨_, rfl⟩
  have hS : va_S A s.heap H [] := by rw [hH]; exact hS
  have hP : va_P D qa_cl [(h0, .inr (0, [.null, .null, .null, .null, .int 0, .int 0]))] H := by rw [hH]; exact hP
  rw [← hH]
  rw [← hH] at hA ret hS
  obtain ⟨X0, hX0⟩ : ∃ X : va_W, X = [] := ⟨_, rfl⟩
  have hP : va_P D qa_cl ((h0, .inr (0, [.null, .null, .null, .null, .int 0, .int 0])) :: X0) H := by rw [hX0]; exact hP
  have hD : va_D A ((h0, .inr (0, [.null, .null, .null, .null, .int 0, .int 0])) :: X0) := by rw [hX0]; exact hD
  refine lv_aload_n hx hb d_Cw_init_0 rfl (lv_at hl 0 rfl) ?_
  refine qn_obj S lm_Cw_3 lw_obi lw_obc hl.1 d_Cw_init_1 (by decide) (by decide) ?_
  refine qn_new S (fun w h => List.mem_cons_of_mem _ h) hK hP hD hS hA hi_Pr t_Pr t_Pr_ok lk_Cw_9 li_Pr lj_Pr (ci := 1) rfl (fs := [.int 0, .int 0, .null, .null, .null, .null, .null, .null, .null, .null, .null, .null, .null, .null, .null, .null]) nd_Pr (by decide) (by decide) d_Cw_init_4 (fun q1 H hP hD hS => ?_)
  have hP : va_P D qa_cl (((h0, .inr (0, [.null, .null, .null, .null, .int 0, .int 0])) :: X0) ++ [(q1, .inr (1, [.int 0, .int 0, .null, .null, .null, .null, .null, .null, .null, .null, .null, .null, .null, .null, .null, .null]))]) H := hP
  have hD : va_D A (((h0, .inr (0, [.null, .null, .null, .null, .int 0, .int 0])) :: X0) ++ [(q1, .inr (1, [.int 0, .int 0, .null, .null, .null, .null, .null, .null, .null, .null, .null, .null, .null, .null, .null, .null]))]) := hD
  refine W.widen (k := 1) (n := 16) (by decide) (by decide) ?_
  refine lv_dup hx hb d_Cw_init_7 rfl ?_
  refine qn_callv hP hD hS hA (va_runIN (host := "ClosedWorld") (As := []) (rest := [.ref q1]) S (nc_Pr l D cI cJ cF cZ q1 H.size) ⟨va_cnB 0 S.2.2.2.2 (qa_good lwc_Pr_init) rfl rfl rfl (hE.1 _ ln_Cw_11) (S.2.2.2.2 _ (List.mem_cons_of_mem _ lj_Pr)) (by decide +kernel) ⟨by decide, by decide⟩, rfl, (S.2.2.2.2 _ (List.mem_cons_of_mem _ lwi_Pr_init))⟩ ⟨qn_blind, fun U hU hW => ⟨rfl, qn_pre hK hE hP hU hW⟩⟩ rfl rfl hl.1 rfl (lv_room (Nat.le_of_ble_eq_true rfl)) d_Cw_init_8 ⟨by decide, by decide⟩) (fun u1 H locs hu1 hP hD hS => ?_)
  have hP : va_P D qa_cl (((h0, .inr (0, [.null, .null, .null, .null, .int 0, .int 0])) :: X0) ++ (qn_w 1 71 u1 (xe_en cI cJ cF u1))) H := hP
  have hD : va_D A (((h0, .inr (0, [.null, .null, .null, .null, .int 0, .int 0])) :: X0) ++ (qn_w 1 71 u1 (xe_en cI cJ cF u1))) := hD
  refine W.widen (k := 71) (n := 654) (by decide) (by decide) ?_
  obtain ⟨X1, hX1⟩ : ∃ X : va_W, X = X0 ++ qn_w 1 71 u1 (xe_en cI cJ cF u1) := ⟨_, rfl⟩
  have hP : va_P D qa_cl ((h0, .inr (0, [.null, .null, .null, .null, .int 0, .int 0])) :: X1) H := by rw [hX1]; exact hP
  have hD : va_D A ((h0, .inr (0, [.null, .null, .null, .null, .int 0, .int 0])) :: X1) := by rw [hX1]; exact hD
  refine lv_astore_n (lv' := [(1, .ref q1), (0, .ref h0)]) hx hb d_Cw_init_11 rfl hl (by decide) rfl (fun ls hl => ?_)
  refine qn_new S (fun w h => List.mem_cons_of_mem _ h) hK hP hD hS hA hi_Ch t_Ch t_Ch_ok lk_Cw_12 li_Ch lj_Ch (ci := 2) rfl (fs := [.null, .null, .null, .null, .int 0, .int 0, .int 0]) nd_Ch (by decide) (by decide) d_Cw_init_12 (fun q2 H hP hD hS => ?_)
  have hP : va_P D qa_cl (((h0, .inr (0, [.null, .null, .null, .null, .int 0, .int 0])) :: X1) ++ [(q2, .inr (2, [.null, .null, .null, .null, .int 0, .int 0, .int 0]))]) H := hP
  have hD : va_D A (((h0, .inr (0, [.null, .null, .null, .null, .int 0, .int 0])) :: X1) ++ [(q2, .inr (2, [.null, .null, .null, .null, .int 0, .int 0, .int 0]))]) := hD
  refine W.widen (k := 72) (n := 661) (by decide) (by decide) ?_
  refine lv_dup hx hb d_Cw_init_15 rfl ?_
  refine lv_aload_n hx hb d_Cw_init_16 rfl (lv_at hl 0 rfl) ?_
  refine qn_callv hP hD hS hA (va_runI (As := [.ref q1]) (rest := [.ref q2]) S (nc_Ch l D cI cJ cF cZ q2 q1 H.size) (cwI 1 S.2.2.2.2 (qa_good lwc_Ch_init) rfl rfl rfl (S.2.2.2.2 _ (List.mem_cons_of_mem _ lj_Ch)) (S.2.2.2.2 _ (List.mem_cons_of_mem _ lm_Cw_14)) (S.2.2.2.2 _ (List.mem_cons_of_mem _ lwi_Ch_init)) rfl (by decide +kernel) ⟨by decide, by decide⟩) ⟨qn_blind, fun U hU hW => ⟨rfl, qn_pre hK hE hP hU hW⟩⟩ rfl rfl hl.1 rfl (lv_room (Nat.le_of_ble_eq_true rfl)) d_Cw_init_17 ⟨by decide, by decide⟩) (fun u2 H locs hu2 hP hD hS => ?_)
  have hP : va_P D qa_cl (((h0, .inr (0, [.null, .null, .null, .null, .int 0, .int 0])) :: X1) ++ (qn_w 72 5 u2 (xe_en cI cJ cF u2))) H := hP
  have hD : va_D A (((h0, .inr (0, [.null, .null, .null, .null, .int 0, .int 0])) :: X1) ++ (qn_w 72 5 u2 (xe_en cI cJ cF u2))) := hD
  refine W.widen (k := 76) (n := 2874) (by decide) (by decide) ?_
  obtain ⟨X2, hX2⟩ : ∃ X : va_W, X = X1 ++ qn_w 72 5 u2 (xe_en cI cJ cF u2) := ⟨_, rfl⟩
  have hP : va_P D qa_cl ((h0, .inr (0, [.null, .null, .null, .null, .int 0, .int 0])) :: X2) H := by rw [hX2]; exact hP
  have hD : va_D A ((h0, .inr (0, [.null, .null, .null, .null, .int 0, .int 0])) :: X2) := by rw [hX2]; exact hD
  refine lv_astore_n (lv' := [(2, .ref q2), (1, .ref q1), (0, .ref h0)]) hx hb d_Cw_init_20 rfl hl (by decide) rfl (fun ls hl => ?_)
  refine lv_aload_n hx hb d_Cw_init_21 rfl (lv_at hl 2 rfl) ?_
  refine lv_aload_n hx hb d_Cw_init_22 rfl (lv_at hl 1 rfl) ?_
  refine qn_putF S hnm hK hP hD hS hi_Cw t_Cw t_Cw_ok n_Cw rfl rfl 0 (by decide) lf_Cw_17 rfl rfl rfl (ty := (.object "ClosedWorld$Program")) (by decide +kernel) rfl rfl (Nat.le_of_ble_eq_true rfl) d_Cw_init_23 (fun H locs hP hD hS => ?_)
  have hP : va_P D qa_cl ((h0, .inr (0, [.ref q1, .null, .null, .null, .int 0, .int 0])) :: X2) H := hP
  have hD : va_D A ((h0, .inr (0, [.ref q1, .null, .null, .null, .int 0, .int 0])) :: X2) := hD
  refine lv_aload_n hx hb d_Cw_init_26 rfl (lv_at hl 2 rfl) ?_
  refine lv_aload_n hx hb d_Cw_init_27 rfl (lv_at hl 0 rfl) ?_
  refine qn_putF S hnm hK hP hD hS hi_Cw t_Cw t_Cw_ok n_Cw rfl rfl 1 (by decide) lf_Cw_21 rfl rfl rfl (ty := (.object "ClosedWorld$Checker")) (by decide +kernel) rfl rfl (Nat.le_of_ble_eq_true rfl) d_Cw_init_28 (fun H locs hP hD hS => ?_)
  have hP : va_P D qa_cl ((h0, .inr (0, [.ref q1, .ref q2, .null, .null, .int 0, .int 0])) :: X2) H := hP
  have hD : va_D A ((h0, .inr (0, [.ref q1, .ref q2, .null, .null, .int 0, .int 0])) :: X2) := hD
  refine lv_aload_n hx hb d_Cw_init_31 rfl (lv_at hl 2 rfl) ?_
  refine qn_new S (fun w h => List.mem_cons_of_mem _ h) hK hP hD hS hA hi_Re t_Re t_Re_ok lk_Cw_25 li_Re lj_Re (ci := 3) rfl (fs := [.null, .null, .int 0, .int 0]) nd_Re (by decide) (by decide) d_Cw_init_32 (fun q3 H hP hD hS => ?_)
  have hP : va_P D qa_cl (((h0, .inr (0, [.ref q1, .ref q2, .null, .null, .int 0, .int 0])) :: X2) ++ [(q3, .inr (3, [.null, .null, .int 0, .int 0]))]) H := hP
  have hD : va_D A (((h0, .inr (0, [.ref q1, .ref q2, .null, .null, .int 0, .int 0])) :: X2) ++ [(q3, .inr (3, [.null, .null, .int 0, .int 0]))]) := hD
  refine W.widen (k := 77) (n := 2878) (by decide) (by decide) ?_
  refine lv_dup hx hb d_Cw_init_35 rfl ?_
  refine lv_aload_n hx hb d_Cw_init_36 rfl (lv_at hl 1 rfl) ?_
  refine lv_aload_n hx hb d_Cw_init_37 rfl (lv_at hl 0 rfl) ?_
  refine qn_callv hP hD hS hA (va_runI (As := [.ref q1, .ref q2]) (rest := [.ref q3, .ref h0]) S (nc_Re l D cI cJ cF cZ q3 q1 q2 H.size) (cwI 2 S.2.2.2.2 (qa_good lwc_Re_init) rfl rfl rfl (S.2.2.2.2 _ (List.mem_cons_of_mem _ lj_Re)) (S.2.2.2.2 _ (List.mem_cons_of_mem _ lm_Cw_27)) (S.2.2.2.2 _ (List.mem_cons_of_mem _ lwi_Re_init)) rfl (by decide +kernel) ⟨by decide, by decide⟩) ⟨qn_blind, fun U hU hW => ⟨rfl, qn_pre hK hE hP hU hW⟩⟩ rfl rfl hl.1 rfl (lv_room (Nat.le_of_ble_eq_true rfl)) d_Cw_init_38 ⟨by decide, by decide⟩) (fun u3 H locs hu3 hP hD hS => ?_)
  have hP : va_P D qa_cl (((h0, .inr (0, [.ref q1, .ref q2, .null, .null, .int 0, .int 0])) :: X2) ++ (qn_w 77 1 u3 (xe_en cI cJ cF u3))) H := hP
  have hD : va_D A (((h0, .inr (0, [.ref q1, .ref q2, .null, .null, .int 0, .int 0])) :: X2) ++ (qn_w 77 1 u3 (xe_en cI cJ cF u3))) := hD
  refine W.widen (k := 77) (n := 2878) (by decide) (by decide) ?_
  obtain ⟨X3, hX3⟩ : ∃ X : va_W, X = X2 ++ qn_w 77 1 u3 (xe_en cI cJ cF u3) := ⟨_, rfl⟩
  have hP : va_P D qa_cl ((h0, .inr (0, [.ref q1, .ref q2, .null, .null, .int 0, .int 0])) :: X3) H := by rw [hX3]; exact hP
  have hD : va_D A ((h0, .inr (0, [.ref q1, .ref q2, .null, .null, .int 0, .int 0])) :: X3) := by rw [hX3]; exact hD
  refine qn_putF S hnm hK hP hD hS hi_Cw t_Cw t_Cw_ok n_Cw rfl rfl 2 (by decide) lf_Cw_30 rfl rfl rfl (ty := (.object "ClosedWorld$Reach")) (by decide +kernel) rfl rfl (Nat.le_of_ble_eq_true rfl) d_Cw_init_41 (fun H locs hP hD hS => ?_)
  have hP : va_P D qa_cl ((h0, .inr (0, [.ref q1, .ref q2, .ref q3, .null, .int 0, .int 0])) :: X3) H := hP
  have hD : va_D A ((h0, .inr (0, [.ref q1, .ref q2, .ref q3, .null, .int 0, .int 0])) :: X3) := hD
  refine lv_aload_n hx hb d_Cw_init_44 rfl (lv_at hl 2 rfl) ?_
  refine qn_new S (fun w h => List.mem_cons_of_mem _ h) hK hP hD hS hA hi_Ma t_Ma t_Ma_ok lk_Cw_34 li_Ma lj_Ma (ci := 4) rfl (fs := [.null, .null, .null, .null, .null, .null, .null, .int 0, .int 0, .int 0, .int 0, .int 0, .int 0]) nd_Ma (by decide) (by decide) d_Cw_init_45 (fun q4 H hP hD hS => ?_)
  have hP : va_P D qa_cl (((h0, .inr (0, [.ref q1, .ref q2, .ref q3, .null, .int 0, .int 0])) :: X3) ++ [(q4, .inr (4, [.null, .null, .null, .null, .null, .null, .null, .int 0, .int 0, .int 0, .int 0, .int 0, .int 0]))]) H := hP
  have hD : va_D A (((h0, .inr (0, [.ref q1, .ref q2, .ref q3, .null, .int 0, .int 0])) :: X3) ++ [(q4, .inr (4, [.null, .null, .null, .null, .null, .null, .null, .int 0, .int 0, .int 0, .int 0, .int 0, .int 0]))]) := hD
  refine W.widen (k := 78) (n := 2891) (by decide) (by decide) ?_
  refine lv_dup hx hb d_Cw_init_48 rfl ?_
  refine lv_aload_n hx hb d_Cw_init_49 rfl (lv_at hl 1 rfl) ?_
  refine qn_callv hP hD hS hA (va_runI (As := [.ref q1]) (rest := [.ref q4, .ref h0]) S (nc_Ma l D cI cJ cF cZ q4 q1 H.size) (cwI 1 S.2.2.2.2 (qa_good lwc_Ma_init) rfl rfl rfl (S.2.2.2.2 _ (List.mem_cons_of_mem _ lj_Ma)) (S.2.2.2.2 _ (List.mem_cons_of_mem _ lm_Cw_36)) (S.2.2.2.2 _ (List.mem_cons_of_mem _ lwi_Ma_init)) rfl (by decide +kernel) ⟨by decide, by decide⟩) ⟨qn_blind, fun U hU hW => ⟨rfl, qn_pre hK hE hP hU hW⟩⟩ rfl rfl hl.1 rfl (lv_room (Nat.le_of_ble_eq_true rfl)) d_Cw_init_50 ⟨by decide, by decide⟩) (fun u4 H locs hu4 hP hD hS => ?_)
  have hP : va_P D qa_cl (((h0, .inr (0, [.ref q1, .ref q2, .ref q3, .null, .int 0, .int 0])) :: X3) ++ (qn_w 78 29 u4 (xe_en cI cJ cF u4))) H := hP
  have hD : va_D A (((h0, .inr (0, [.ref q1, .ref q2, .ref q3, .null, .int 0, .int 0])) :: X3) ++ (qn_w 78 29 u4 (xe_en cI cJ cF u4))) := hD
  refine W.widen (k := 106) (n := 3185) (by decide) (by decide) ?_
  obtain ⟨X4, hX4⟩ : ∃ X : va_W, X = X3 ++ qn_w 78 29 u4 (xe_en cI cJ cF u4) := ⟨_, rfl⟩
  have hP : va_P D qa_cl ((h0, .inr (0, [.ref q1, .ref q2, .ref q3, .null, .int 0, .int 0])) :: X4) H := by rw [hX4]; exact hP
  have hD : va_D A ((h0, .inr (0, [.ref q1, .ref q2, .ref q3, .null, .int 0, .int 0])) :: X4) := by rw [hX4]; exact hD
  refine qn_putF S hnm hK hP hD hS hi_Cw t_Cw t_Cw_ok n_Cw rfl rfl 3 (by decide) lf_Cw_37 rfl rfl rfl (ty := (.object "ClosedWorld$Machine")) (by decide +kernel) rfl rfl (Nat.le_of_ble_eq_true rfl) d_Cw_init_53 (fun H locs hP hD hS => ?_)
  have hP : va_P D qa_cl ((h0, .inr (0, [.ref q1, .ref q2, .ref q3, .ref q4, .int 0, .int 0])) :: X4) H := hP
  have hD : va_D A ((h0, .inr (0, [.ref q1, .ref q2, .ref q3, .ref q4, .int 0, .int 0])) :: X4) := hD
  refine lv_aload_n hx hb d_Cw_init_56 rfl (lv_at hl 2 rfl) ?_
  refine lv_iconst (v := 0) hx hb d_Cw_init_57 (by decide) ?_
  refine qn_putI S hK hP hD hS hi_Cw t_Cw t_Cw_ok n_Cw rfl rfl 4 (by decide) lf_Cw_41 rfl rfl (ty := .boolean) (by decide +kernel) rfl rfl (Nat.le_of_ble_eq_true rfl) d_Cw_init_58 (fun H locs hP hD hS => ?_)
  have hP : va_P D qa_cl ((h0, .inr (0, [.ref q1, .ref q2, .ref q3, .ref q4, .int 0, .int 0])) :: X4) H := hP
  have hD : va_D A ((h0, .inr (0, [.ref q1, .ref q2, .ref q3, .ref q4, .int 0, .int 0])) :: X4) := hD
  refine lv_aload_n hx hb d_Cw_init_61 rfl (lv_at hl 2 rfl) ?_
  refine lv_iconst (v := 0) hx hb d_Cw_init_62 (by decide) ?_
  refine qn_putI S hK hP hD hS hi_Cw t_Cw t_Cw_ok n_Cw rfl rfl 5 (by decide) lf_Cw_45 rfl rfl (ty := .boolean) (by decide +kernel) rfl rfl (Nat.le_of_ble_eq_true rfl) d_Cw_init_63 (fun H locs hP hD hS => ?_)
  have hP : va_P D qa_cl ((h0, .inr (0, [.ref q1, .ref q2, .ref q3, .ref q4, .int 0, .int 0])) :: X4) H := hP
  have hD : va_D A ((h0, .inr (0, [.ref q1, .ref q2, .ref q3, .ref q4, .int 0, .int 0])) :: X4) := hD
  obtain ⟨e21, e22⟩ := hu2
  obtain ⟨e31, e32, e33⟩ := hu3
  obtain ⟨e41, e42⟩ := hu4
  have m4 : va_P D qa_cl (((h0, .inr (0, [.ref q1, .ref q2, .ref q3, .ref q4, .int 0, .int 0])) :: X3) ++ qn_w 78 29 u4 (xe_en cI cJ cF u4)) H := by rw [hX4] at hP; exact hP
  have p4 := qn_right m4
  have l3 := qn_left m4
  have m3 : va_P D qa_cl (((h0, .inr (0, [.ref q1, .ref q2, .ref q3, .ref q4, .int 0, .int 0])) :: X2) ++ qn_w 77 1 u3 (xe_en cI cJ cF u3)) H := by rw [hX3] at l3; exact l3
  have p3 := qn_right m3
  have l2 := qn_left m3
  have m2 : va_P D qa_cl (((h0, .inr (0, [.ref q1, .ref q2, .ref q3, .ref q4, .int 0, .int 0])) :: X1) ++ qn_w 72 5 u2 (xe_en cI cJ cF u2)) H := by rw [hX2] at l2; exact l2
  have p2 := qn_right m2
  have l1 := qn_left m2
  have m1 : va_P D qa_cl (((h0, .inr (0, [.ref q1, .ref q2, .ref q3, .ref q4, .int 0, .int 0])) :: X0) ++ qn_w 1 71 u1 (xe_en cI cJ cF u1)) H := by rw [hX1] at l1; exact l1
  have p1 := qn_right m1
  have l0 := qn_left m1
  rw [hX0] at l0
  have p0 := l0
  have a1 : ∀ k, 1 ≤ k → k < 72 → va_at D qa_cl (u1 k, xe_en cI cJ cF u1 k (fun _ => 0)) H := fun k h1 h2 => by
    have := p1 (k - 1) _ (qn_w_get (by omega))
    rw [show 1 + (k - 1) = k by omega] at this
    exact this
  have a2 : ∀ k, 72 ≤ k → k < 77 → va_at D qa_cl (u2 k, xe_en cI cJ cF u2 k (fun _ => 0)) H := fun k h1 h2 => by
    have := p2 (k - 72) _ (qn_w_get (by omega))
    rw [show 72 + (k - 72) = k by omega] at this
    exact this
  have a3 : va_at D qa_cl (u3 77, xe_en cI cJ cF u3 77 (fun _ => 0)) H := p3 0 _ (qn_w_get (by omega))
  have a4 : ∀ k, 78 ≤ k → k < 107 → va_at D qa_cl (u4 k, xe_en cI cJ cF u4 k (fun _ => 0)) H := fun k h1 h2 => by
    have := p4 (k - 78) _ (qn_w_get (by omega))
    rw [show 78 + (k - 78) = k by omega] at this
    exact this
  have c0 : va_at D qa_cl (h0, .inr (0, [.ref (u1 1), .ref (u2 72), .ref (u3 77), .ref (u4 78), .int 0, .int 0])) H := by
    rw [hu1, e21, e31, e41]
    exact p0 0 _ rfl
  have c72 : va_at D qa_cl (u2 72, .inr (2, [.ref (u1 1), .ref (u2 73), .ref (u2 74), .ref (u2 75), .int 0, .int 0, .int 0])) H := by
    rw [hu1, ← e22]
    exact a2 72 (by omega) (by omega)
  have c77 : va_at D qa_cl (u3 77, .inr (3, [.ref (u1 1), .ref (u2 72), .int 0, .int 0])) H := by
    rw [hu1, e21, ← e32, ← e33]
    exact a3
  have c78 : va_at D qa_cl (u4 78, .inr (4, [.ref (u1 1), .ref (u4 79), .ref (u4 80), .ref (u4 81), .ref (u4 82), .ref (u4 83), .ref (u4 84), .int 0, .int 0, .int 0, .int 0, .int 0, .int 0])) H := by
    rw [hu1, ← e42]
    exact a4 78 (by omega) (by omega)
  have f1 : ∀ k, 1 ≤ k → k < 72 → (nu_Cw h0 q1 u1 q2 u2 q3 u3 q4 u4) k = u1 k := fun k h1 h2 => by
    unfold nu_Cw
    rw [if_neg (by omega), if_pos (by omega)]
  have f2 : ∀ k, 72 ≤ k → k < 77 → (nu_Cw h0 q1 u1 q2 u2 q3 u3 q4 u4) k = u2 k := fun k h1 h2 => by
    unfold nu_Cw
    rw [if_neg (by omega), if_neg (by omega), if_pos (by omega)]
  have f3 : (nu_Cw h0 q1 u1 q2 u2 q3 u3 q4 u4) 77 = u3 77 := rfl
  have f4 : ∀ k, 78 ≤ k → (nu_Cw h0 q1 u1 q2 u2 q3 u3 q4 u4) k = u4 k := fun k h1 => by
    unfold nu_Cw
    rw [if_neg (by omega), if_neg (by omega), if_neg (by omega), if_neg (by omega)]
  have hP9 : va_P D qa_cl (qn_w 0 107 (nu_Cw h0 q1 u1 q2 u2 q3 u3 q4 u4) (xe_en cI cJ cF (nu_Cw h0 q1 u1 q2 u2 q3 u3 q4 u4))) H := by
    intro k x hx
    have hk : k < 107 := qn_w_lt hx
    rw [qn_w_get hk, Nat.zero_add] at hx
    obtain rfl := Option.some.inj hx
    cases hl : xe_len.getD k 0 with
    | succ n =>
      rw [xe_arr hl]
      by_cases h1 : k < 72
      · have h0 : 1 ≤ k := by
          rcases Nat.eq_zero_or_pos k with rfl | h
          · cases hl
          · exact h
        have := a1 k h0 h1
        rw [xe_arr hl] at this
        rw [f1 k h0 h1]
        exact this
      · by_cases h2 : k < 77
        · have := a2 k (by omega) h2
          rw [xe_arr hl] at this
          rw [f2 k (by omega) h2]
          exact this
        · by_cases h3 : k = 77
          · subst h3
            cases hl
          · have := a4 k (by omega) hk
            rw [xe_arr hl] at this
            rw [f4 k (by omega)]
            exact this
    | zero =>
      have hsp := xe_spec k hk hl
      simp only [List.mem_cons, List.not_mem_nil, or_false] at hsp
      rcases hsp with rfl | rfl | rfl | rfl | rfl | rfl | rfl | rfl | rfl | rfl | rfl | rfl | rfl | rfl | rfl | rfl | rfl | rfl | rfl | rfl | rfl | rfl | rfl | rfl
      · exact c0
      · exact a1 1 (by omega) (by omega)
      · exact qn_ext (f := fun i => some (u1 (6 + i))) (a1 5 (by omega) (by omega)) (fun i hi => by rw [← f1 (6 + i) (by omega) (by omega)])
      · exact qn_ext (f := fun i => some (u1 (17 + i))) (a1 16 (by omega) (by omega)) (fun i hi => by rw [← f1 (17 + i) (by omega) (by omega)])
      · exact qn_ext (f := fun i => some (u1 (28 + i))) (a1 27 (by omega) (by omega)) (fun i hi => by rw [← f1 (28 + i) (by omega) (by omega)])
      · exact qn_ext (f := fun i => some (u1 (40 + i))) (a1 39 (by omega) (by omega)) (fun i hi => by rw [← f1 (40 + i) (by omega) (by omega)])
      · exact qn_ext (f := fun i => some (u1 (51 + i))) (a1 50 (by omega) (by omega)) (fun i hi => by rw [← f1 (51 + i) (by omega) (by omega)])
      · exact qn_ext (f := fun i => some (u1 (62 + i))) (a1 61 (by omega) (by omega)) (fun i hi => by rw [← f1 (62 + i) (by omega) (by omega)])
      · exact c72
      · exact a2 75 (by omega) (by omega)
      · exact c77
      · exact c78
      · exact qn_ext (f := fun i => some (u4 (85 + 2 * i))) (a4 79 (by omega) (by omega)) (fun i hi => by rw [← f4 (85 + 2 * i) (by omega)])
      · exact a4 85 (by omega) (by omega)
      · exact a4 87 (by omega) (by omega)
      · exact a4 89 (by omega) (by omega)
      · exact a4 91 (by omega) (by omega)
      · exact a4 93 (by omega) (by omega)
      · exact a4 95 (by omega) (by omega)
      · exact a4 97 (by omega) (by omega)
      · exact a4 99 (by omega) (by omega)
      · exact a4 101 (by omega) (by omega)
      · exact a4 103 (by omega) (by omega)
      · exact a4 105 (by omega) (by omega)
  have g0 : ∀ k, k < 107 → (nu_Cw h0 q1 u1 q2 u2 q3 u3 q4 u4) k = (nu_Cw h0 q1 u1 q2 u2 q3 u3 q4 u4) k := fun _ _ => rfl
  have hD9 : va_D A (qn_w 0 107 (nu_Cw h0 q1 u1 q2 u2 q3 u3 q4 u4) (xe_en cI cJ cF (nu_Cw h0 q1 u1 q2 u2 q3 u3 q4 u4))) := by
    have hD : va_D A (((([(h0, .inr (0, [.ref q1, .ref q2, .ref q3, .ref q4, .int 0, .int 0]))] ++ qn_w 1 71 u1 (xe_en cI cJ cF u1)) ++ qn_w 72 5 u2 (xe_en cI cJ cF u2)) ++ qn_w 77 1 u3 (xe_en cI cJ cF u3)) ++ qn_w 78 29 u4 (xe_en cI cJ cF u4)) := by
      subst hX0 hX1 hX2 hX3 hX4
      exact hD
    refine qn_D hD ?_
    simp only [List.map_append]
    have s1 : (qn_w 1 71 u1 (xe_en cI cJ cF u1)).map (fun x => x.1) = (qn_w 1 71 (nu_Cw h0 q1 u1 q2 u2 q3 u3 q4 u4) (xe_en cI cJ cF (nu_Cw h0 q1 u1 q2 u2 q3 u3 q4 u4))).map (fun x => x.1) := qn_wm (fun k hk => (f1 (1 + k) (by omega) (by omega)).symm)
    have s2 : (qn_w 72 5 u2 (xe_en cI cJ cF u2)).map (fun x => x.1) = (qn_w 72 5 (nu_Cw h0 q1 u1 q2 u2 q3 u3 q4 u4) (xe_en cI cJ cF (nu_Cw h0 q1 u1 q2 u2 q3 u3 q4 u4))).map (fun x => x.1) := qn_wm (fun k hk => (f2 (72 + k) (by omega) (by omega)).symm)
    have s3 : (qn_w 77 1 u3 (xe_en cI cJ cF u3)).map (fun x => x.1) = (qn_w 77 1 (nu_Cw h0 q1 u1 q2 u2 q3 u3 q4 u4) (xe_en cI cJ cF (nu_Cw h0 q1 u1 q2 u2 q3 u3 q4 u4))).map (fun x => x.1) := qn_wm (fun k hk => by rw [show k = 0 by omega]; exact f3.symm)
    have s4 : (qn_w 78 29 u4 (xe_en cI cJ cF u4)).map (fun x => x.1) = (qn_w 78 29 (nu_Cw h0 q1 u1 q2 u2 q3 u3 q4 u4) (xe_en cI cJ cF (nu_Cw h0 q1 u1 q2 u2 q3 u3 q4 u4))).map (fun x => x.1) := qn_wm (fun k hk => (f4 (78 + k) (by omega)).symm)
    rw [s1, s2, s3, s4, ← List.map_append, ← List.map_append, ← List.map_append, ← List.map_append]
    have t0 : [(h0, .inr (0, [.ref q1, .ref q2, .ref q3, .ref q4, .int 0, .int 0]))].map (fun x : Nat × va_E => x.1) = (qn_w 0 1 (nu_Cw h0 q1 u1 q2 u2 q3 u3 q4 u4) (xe_en cI cJ cF (nu_Cw h0 q1 u1 q2 u2 q3 u3 q4 u4))).map (fun x => x.1) := rfl
    rw [List.map_append, List.map_append, List.map_append, List.map_append, t0, ← List.map_append, ← List.map_append, ← List.map_append, ← List.map_append]
    rw [← qn_wa 0 1 71, ← qn_wa 0 72 5, ← qn_wa 0 77 1, ← qn_wa 0 78 29]
  exact ret (u := (nu_Cw h0 q1 u1 q2 u2 q3 u3 q4 u4)) rfl hP9 hD9 hS d_Cw_init_66
