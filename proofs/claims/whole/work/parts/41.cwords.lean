theorem nd_Cw : ∀ j, j < 6 → defaultValue (t_Cw j) = vp_V [.null, .null, .null, .null, .int 0, .int 0] j := by
  intro j hj
  match j, hj with
  | 0, _ => rfl
  | 1, _ => rfl
  | 2, _ => rfl
  | 3, _ => rfl
  | 4, _ => rfl
  | 5, _ => rfl
  | n + 6, h => exact absurd h (by omega)
theorem nd_Pr : ∀ j, j < 16 → defaultValue (t_Pr j) = vp_V [.int 0, .int 0, .null, .null, .null, .null, .null, .null, .null, .null, .null, .null, .null, .null, .null, .null] j := by
  intro j hj
  match j, hj with
  | 0, _ => rfl
  | 1, _ => rfl
  | 2, _ => rfl
  | 3, _ => rfl
  | 4, _ => rfl
  | 5, _ => rfl
  | 6, _ => rfl
  | 7, _ => rfl
  | 8, _ => rfl
  | 9, _ => rfl
  | 10, _ => rfl
  | 11, _ => rfl
  | 12, _ => rfl
  | 13, _ => rfl
  | 14, _ => rfl
  | 15, _ => rfl
  | n + 16, h => exact absurd h (by omega)
theorem nd_Ch : ∀ j, j < 7 → defaultValue (t_Ch j) = vp_V [.null, .null, .null, .null, .int 0, .int 0, .int 0] j := by
  intro j hj
  match j, hj with
  | 0, _ => rfl
  | 1, _ => rfl
  | 2, _ => rfl
  | 3, _ => rfl
  | 4, _ => rfl
  | 5, _ => rfl
  | 6, _ => rfl
  | n + 7, h => exact absurd h (by omega)
theorem nd_Re : ∀ j, j < 4 → defaultValue (t_Re j) = vp_V [.null, .null, .int 0, .int 0] j := by
  intro j hj
  match j, hj with
  | 0, _ => rfl
  | 1, _ => rfl
  | 2, _ => rfl
  | 3, _ => rfl
  | n + 4, h => exact absurd h (by omega)
theorem nd_Ma : ∀ j, j < 13 → defaultValue (t_Ma j) = vp_V [.null, .null, .null, .null, .null, .null, .null, .int 0, .int 0, .int 0, .int 0, .int 0, .int 0] j := by
  intro j hj
  match j, hj with
  | 0, _ => rfl
  | 1, _ => rfl
  | 2, _ => rfl
  | 3, _ => rfl
  | 4, _ => rfl
  | 5, _ => rfl
  | 6, _ => rfl
  | 7, _ => rfl
  | 8, _ => rfl
  | 9, _ => rfl
  | 10, _ => rfl
  | 11, _ => rfl
  | 12, _ => rfl
  | n + 13, h => exact absurd h (by omega)
theorem nd_Fr : ∀ j, j < 3 → defaultValue (t_Fr j) = vp_V [.null, .int 0, .int 0] j := by
  intro j hj
  match j, hj with
  | 0, _ => rfl
  | 1, _ => rfl
  | 2, _ => rfl
  | n + 3, h => exact absurd h (by omega)
theorem nd_Mo : ∀ j, j < 48 → defaultValue (t_Mo j) = vp_V [.int 0, .null, .null, .null, .int 0, .null, .null, .null, .null, .null, .null, .null, .null, .null, .null, .int 0, .null, .null, .null, .null, .int 0, .int 0, .int 0, .null, .null, .null, .int 0, .int 0, .int 0, .int 0, .int 0, .int 0, .int 0, .null, .null, .null, .null, .null, .null, .null, .int 0, .null, .null, .null, .null, .int 0, .int 0, .null] j := by
  intro j hj
  match j, hj with
  | 0, _ => rfl
  | 1, _ => rfl
  | 2, _ => rfl
  | 3, _ => rfl
  | 4, _ => rfl
  | 5, _ => rfl
  | 6, _ => rfl
  | 7, _ => rfl
  | 8, _ => rfl
  | 9, _ => rfl
  | 10, _ => rfl
  | 11, _ => rfl
  | 12, _ => rfl
  | 13, _ => rfl
  | 14, _ => rfl
  | 15, _ => rfl
  | 16, _ => rfl
  | 17, _ => rfl
  | 18, _ => rfl
  | 19, _ => rfl
  | 20, _ => rfl
  | 21, _ => rfl
  | 22, _ => rfl
  | 23, _ => rfl
  | 24, _ => rfl
  | 25, _ => rfl
  | 26, _ => rfl
  | 27, _ => rfl
  | 28, _ => rfl
  | 29, _ => rfl
  | 30, _ => rfl
  | 31, _ => rfl
  | 32, _ => rfl
  | 33, _ => rfl
  | 34, _ => rfl
  | 35, _ => rfl
  | 36, _ => rfl
  | 37, _ => rfl
  | 38, _ => rfl
  | 39, _ => rfl
  | 40, _ => rfl
  | 41, _ => rfl
  | 42, _ => rfl
  | 43, _ => rfl
  | 44, _ => rfl
  | 45, _ => rfl
  | 46, _ => rfl
  | 47, _ => rfl
  | n + 48, h => exact absurd h (by omega)
theorem qn_mid {α : Type} {A B : List α} {x : α} : (A ++ x :: B)[A.length]? = some x := by
  rw [List.getElem?_append_right (Nat.le_refl _), Nat.sub_self]
  rfl
theorem qn_w_get {a n k : Nat} {ad : Nat → Nat} {en : Nat → (Nat → Int32) → va_E} (h : k < n) : (qn_w a n ad en)[k]? = some (ad (a + k), en (a + k) (fun _ => 0)) := by
  simp [qn_w, h]
theorem qn_w_lt {a n k : Nat} {ad : Nat → Nat} {en : Nat → (Nat → Int32) → va_E} {x : Nat × va_E} (h : (qn_w a n ad en)[k]? = some x) : k < n := by
  have := (List.getElem?_eq_some_iff.mp h).1
  simpa [qn_w] using this
theorem qn_left {D : va_G} {cl : List vw_C} {a b : va_W} {H : Heap} (h : va_P D cl (a ++ b) H) : va_P D cl a H := fun k x hk => h k x (by rw [List.getElem?_append_left (List.getElem?_eq_some_iff.mp hk).1]; exact hk)
theorem qn_right {D : va_G} {cl : List vw_C} {a b : va_W} {H : Heap} (h : va_P D cl (a ++ b) H) : va_P D cl b H := fun k x hk => h (a.length + k) x (by rw [List.getElem?_append_right (Nat.le_add_right _ _), Nat.add_sub_cancel_left]; exact hk)
theorem qn_wm {a n : Nat} {u v : Nat → Nat} {e1 e2 : Nat → (Nat → Int32) → va_E} (h : ∀ k, k < n → u (a + k) = v (a + k)) : (qn_w a n u e1).map (fun x => x.1) = (qn_w a n v e2).map (fun x => x.1) := by
  unfold qn_w
  rw [List.map_map, List.map_map]
  apply List.map_congr_left
  intro k hk
  exact h k (List.mem_range.mp hk)
theorem qn_wa (a n m : Nat) {u : Nat → Nat} {en : Nat → (Nat → Int32) → va_E} : qn_w a (n + m) u en = qn_w a n u en ++ qn_w (a + n) m u en := by
  unfold qn_w
  rw [List.range_add, List.map_append, List.map_map]
  congr 1
  apply List.map_congr_left
  intro k _
  show (u (a + (n + k)), en (a + (n + k)) _) = (u (a + n + k), en (a + n + k) _)
  rw [Nat.add_assoc]
theorem xe_spec : ∀ k, k < 107 → xe_len.getD k 0 = 0 → k ∈ ([0, 1, 5, 16, 27, 39, 50, 61, 72, 75, 77, 78, 79, 85, 87, 89, 91, 93, 95, 97, 99, 101, 103, 105] : List Nat) := by decide
theorem lw_obi : Cond.instanceMethod y_Ob_init ∈ qa_G := qa_ini 16 (by decide +kernel) rfl
theorem lw_obc : Cond.code y_Ob_init b_Ob_init 1 none ∈ qa_G := qa_ini 17 (by decide +kernel) rfl
theorem lw_arI : Cond.arrayClass .int ∈ qa_G := qa_ini 75 (by decide +kernel) rfl
theorem lw_arZ : Cond.arrayClass .boolean ∈ qa_G := qa_ini 842 (by decide +kernel) rfl
theorem lm_Fr_3 : Cond.methodLink R_Fr 3 y_Ob_init ∈ qa_G := qa_ini 87 (by decide +kernel) rfl
theorem lm_Pr_3 : Cond.methodLink R_Pr 3 y_Ob_init ∈ qa_G := qa_ini 23 (by decide +kernel) rfl
theorem lk_Pr_21 : Cond.classLink R_Pr 21 "[[I" ∈ qa_G := qa_ini 24 (by decide +kernel) rfl
theorem lm_Ch_3 : Cond.methodLink R_Ch 3 y_Ob_init ∈ qa_G := qa_ini 81 (by decide +kernel) rfl
theorem lk_Ch_18 : Cond.classLink R_Ch 18 R_Fr ∈ qa_G := qa_ini 82 (by decide +kernel) rfl
theorem li_Fr : Cond.instantiable R_Fr 3 ∈ qa_G := qa_ini 83 (by decide +kernel) rfl
theorem lj_Fr : Cond.initialized R_Fr ∈ qa_G := qa_ini 4 (by decide +kernel) rfl
theorem lwc_Fr_init : Cond.code y_Fr_init b_Fr_init 1 none ∈ qa_G := qa_ini 86 (by decide +kernel) rfl
theorem lwi_Fr_init : Cond.instanceMethod y_Fr_init ∈ qa_G := qa_ini 85 (by decide +kernel) rfl
theorem lm_Re_3 : Cond.methodLink R_Re 3 y_Ob_init ∈ qa_G := qa_ini 125 (by decide +kernel) rfl
theorem lm_Ma_3 : Cond.methodLink R_Ma 3 y_Ob_init ∈ qa_G := qa_ini 144 (by decide +kernel) rfl
theorem lk_Ma_9 : Cond.classLink R_Ma 9 "ClosedWorld$Frame" ∈ qa_G := qa_ini 145 (by decide +kernel) rfl
theorem lm_Cw_3 : Cond.methodLink R_Cw 3 y_Ob_init ∈ qa_G := qa_ini 15 (by decide +kernel) rfl
theorem lk_Cw_9 : Cond.classLink R_Cw 9 R_Pr ∈ qa_G := qa_ini 18 (by decide +kernel) rfl
theorem li_Pr : Cond.instantiable R_Pr 16 ∈ qa_G := qa_ini 19 (by decide +kernel) rfl
theorem lj_Pr : Cond.initialized R_Pr ∈ qa_G := qa_ini 2 (by decide +kernel) rfl
theorem lwc_Pr_init : Cond.code y_Pr_init b_Pr_init 1 none ∈ qa_G := qa_ini 22 (by decide +kernel) rfl
theorem lwi_Pr_init : Cond.instanceMethod y_Pr_init ∈ qa_G := qa_ini 21 (by decide +kernel) rfl
theorem lk_Cw_12 : Cond.classLink R_Cw 12 R_Ch ∈ qa_G := qa_ini 76 (by decide +kernel) rfl
theorem li_Ch : Cond.instantiable R_Ch 7 ∈ qa_G := qa_ini 77 (by decide +kernel) rfl
theorem lj_Ch : Cond.initialized R_Ch ∈ qa_G := qa_ini 3 (by decide +kernel) rfl
theorem lwc_Ch_init : Cond.code y_Ch_init b_Ch_init 2 none ∈ qa_G := qa_ini 80 (by decide +kernel) rfl
theorem lwi_Ch_init : Cond.instanceMethod y_Ch_init ∈ qa_G := qa_ini 79 (by decide +kernel) rfl
theorem lm_Cw_14 : Cond.methodLink R_Cw 14 y_Ch_init ∈ qa_G := qa_ini 78 (by decide +kernel) rfl
theorem lk_Cw_25 : Cond.classLink R_Cw 25 R_Re ∈ qa_G := qa_ini 120 (by decide +kernel) rfl
theorem li_Re : Cond.instantiable R_Re 4 ∈ qa_G := qa_ini 121 (by decide +kernel) rfl
theorem lj_Re : Cond.initialized R_Re ∈ qa_G := qa_ini 5 (by decide +kernel) rfl
theorem lwc_Re_init : Cond.code y_Re_init b_Re_init 3 none ∈ qa_G := qa_ini 124 (by decide +kernel) rfl
theorem lwi_Re_init : Cond.instanceMethod y_Re_init ∈ qa_G := qa_ini 123 (by decide +kernel) rfl
theorem lm_Cw_27 : Cond.methodLink R_Cw 27 y_Re_init ∈ qa_G := qa_ini 122 (by decide +kernel) rfl
theorem lk_Cw_34 : Cond.classLink R_Cw 34 R_Ma ∈ qa_G := qa_ini 139 (by decide +kernel) rfl
theorem li_Ma : Cond.instantiable R_Ma 13 ∈ qa_G := qa_ini 140 (by decide +kernel) rfl
theorem lj_Ma : Cond.initialized R_Ma ∈ qa_G := qa_ini 6 (by decide +kernel) rfl
theorem lwc_Ma_init : Cond.code y_Ma_init b_Ma_init 3 none ∈ qa_G := qa_ini 143 (by decide +kernel) rfl
theorem lwi_Ma_init : Cond.instanceMethod y_Ma_init ∈ qa_G := qa_ini 142 (by decide +kernel) rfl
theorem lm_Cw_36 : Cond.methodLink R_Cw 36 y_Ma_init ∈ qa_G := qa_ini 141 (by decide +kernel) rfl
theorem lm_Mo_1 : Cond.methodLink R_Mo 1 y_Ob_init ∈ qa_G := qa_ini 696 (by decide +kernel) rfl
theorem qn_cr {D : va_G} {cl : List vw_C} {c : Nat × va_E} {X Y : va_W} {H : Heap} (h : va_P D cl (c :: (X ++ Y)) H) : va_P D cl Y H ∧ va_P D cl (c :: X) H := by
  have h1 : va_P D cl ((c :: X) ++ Y) H := h
  exact ⟨qn_right h1, qn_left h1⟩
theorem qn_arrF {p : Program} {l : Launch} {e : Env} {R : Room} {s : State} {m : MethodId} {args : Array Value} {below : List Frame} {meth : Method} {c : Code} {H : Heap} {locs : List Loc} {Q : State → Prop} {cells slots : Nat} {cc : ByteArray} {pc nL : Nat} {ls : Array Slot} {rest : List Value} {D : va_G} {A : Nat → Prop} {H0 : Heap} {own : String} {c0 : Cond} {cI cJ cF cZ : ClassId} {X : va_W} {a ci : Nat} {fs : List Value} (S : CallFix p m c cc nL s args (c0 :: qa_G) own) (hnm0 : meth.name = "<init>") (harr : Cond.arrayClass .int ∈ qa_G) (hK : va_K D qa_cl (qa_ty cI cJ cF cZ) s) (hP : va_P D qa_cl ((a, .inr (ci, fs)) :: X) H) (hD : va_D A ((a, .inr (ci, fs)) :: X)) (hS : va_S A H0 H locs) (hA : ∀ q, H0.size ≤ q → A q) {n : Int32} {N' : Nat} (hn : ¬ n < 0) (hN : n.toNatClampNeg = N') (hb : N' * componentBytes .int ≤ 536870912) (hcells : cells + 1 ≤ R.cells) (hslots : slots + N' ≤ R.slots) {ref C : String} {F : u_T} {fn index : Nat} (hin : ∀ w ∈ u_ws C F fn, w ∈ qa_G) (ty0 : Nat → FieldType) (hty : ∀ k, k < fn → parseFieldDescriptor (F k).2.2.1 = some (ty0 k)) (hnm : ∀ a, a < fn → ∀ b, b < fn → a ≠ b → (F a).2.1 ≠ (F b).2.1) (hc : qa_cl[ci]? = some (C, F, fn)) (k : Nat) (hk : k < fn) (hlink : Cond.fieldLink own index ref (F k).2.1 (F k).2.2.1 ∈ qa_G) (href : ref = (F k).1) (hfin : (F k).2.2.2 = true) (hdecl : (F k).1 = own) (hpd : parseFieldDescriptor (F k).2.2.1 = some (.array .int)) (fs2 : Nat → List Value) (hfs : ∀ q, fs.set k (.ref q) = fs2 q) (hl : k < fs.length) (hd1 : decode cc pc = .ok (.newarray .int, 2)) (hd2 : decode cc (pc + 2) = .ok (.putfield index, 3))
    (kk : ∀ (q : Nat) (H1 : Heap) (locs1 : List Loc), va_P D qa_cl ((a, .inr (ci, fs2 q)) :: (X ++ [(q, .inl (cI, N', .inl (fun _ => 0)))])) H1 → va_D A ((a, .inr (ci, fs2 q)) :: (X ++ [(q, .inl (cI, N', .inl (fun _ => 0)))])) → va_S A H0 H1 locs1 → W p l e R s m args below meth c H1 locs1 (cells + 1) (slots + N') Q (F0 m (pc + 2 + 3) ls rest)) : W p l e R s m args below meth c H locs cells slots Q (F0 m pc ls (.int n :: .ref a :: rest)) := by
  refine qn_newi S harr hK hP hD hS hA hn hN hb hcells hslots hd1 (fun q H hP hD hS => ?_)
  exact qn_putF S hnm0 hK hP hD hS hin ty0 hty hnm rfl hc k hk hlink href hfin hdecl hpd rfl rfl hl hd2 (fun H locs hP hD hS => kk q H locs (by rw [← hfs q]; exact hP) (by rw [← hfs q]; exact hD) hS)
theorem qn_arrZ {p : Program} {l : Launch} {e : Env} {R : Room} {s : State} {m : MethodId} {args : Array Value} {below : List Frame} {meth : Method} {c : Code} {H : Heap} {locs : List Loc} {Q : State → Prop} {cells slots : Nat} {cc : ByteArray} {pc nL : Nat} {ls : Array Slot} {rest : List Value} {D : va_G} {A : Nat → Prop} {H0 : Heap} {own : String} {c0 : Cond} {cI cJ cF cZ : ClassId} {X : va_W} {a ci : Nat} {fs : List Value} (S : CallFix p m c cc nL s args (c0 :: qa_G) own) (hnm0 : meth.name = "<init>") (harr : Cond.arrayClass .boolean ∈ qa_G) (hK : va_K D qa_cl (qa_ty cI cJ cF cZ) s) (hP : va_P D qa_cl ((a, .inr (ci, fs)) :: X) H) (hD : va_D A ((a, .inr (ci, fs)) :: X)) (hS : va_S A H0 H locs) (hA : ∀ q, H0.size ≤ q → A q) {n : Int32} {N' : Nat} (hn : ¬ n < 0) (hN : n.toNatClampNeg = N') (hb : N' * componentBytes .boolean ≤ 536870912) (hcells : cells + 1 ≤ R.cells) (hslots : slots + N' ≤ R.slots) {ref C : String} {F : u_T} {fn index : Nat} (hin : ∀ w ∈ u_ws C F fn, w ∈ qa_G) (ty0 : Nat → FieldType) (hty : ∀ k, k < fn → parseFieldDescriptor (F k).2.2.1 = some (ty0 k)) (hnm : ∀ a, a < fn → ∀ b, b < fn → a ≠ b → (F a).2.1 ≠ (F b).2.1) (hc : qa_cl[ci]? = some (C, F, fn)) (k : Nat) (hk : k < fn) (hlink : Cond.fieldLink own index ref (F k).2.1 (F k).2.2.1 ∈ qa_G) (href : ref = (F k).1) (hfin : (F k).2.2.2 = true) (hdecl : (F k).1 = own) (hpd : parseFieldDescriptor (F k).2.2.1 = some (.array .boolean)) (fs2 : Nat → List Value) (hfs : ∀ q, fs.set k (.ref q) = fs2 q) (hl : k < fs.length) (hd1 : decode cc pc = .ok (.newarray .boolean, 2)) (hd2 : decode cc (pc + 2) = .ok (.putfield index, 3))
    (kk : ∀ (q : Nat) (H1 : Heap) (locs1 : List Loc), va_P D qa_cl ((a, .inr (ci, fs2 q)) :: (X ++ [(q, .inl (cZ, N', .inl (fun _ => 0)))])) H1 → va_D A ((a, .inr (ci, fs2 q)) :: (X ++ [(q, .inl (cZ, N', .inl (fun _ => 0)))])) → va_S A H0 H1 locs1 → W p l e R s m args below meth c H1 locs1 (cells + 1) (slots + N') Q (F0 m (pc + 2 + 3) ls rest)) : W p l e R s m args below meth c H locs cells slots Q (F0 m pc ls (.int n :: .ref a :: rest)) := by
  refine qn_newz S harr hK hP hD hS hA hn hN hb hcells hslots hd1 (fun q H hP hD hS => ?_)
  exact qn_putF S hnm0 hK hP hD hS hin ty0 hty hnm rfl hc k hk hlink href hfin hdecl hpd rfl rfl hl hd2 (fun H locs hP hD hS => kk q H locs (by rw [← hfs q]; exact hP) (by rw [← hfs q]; exact hD) hS)
