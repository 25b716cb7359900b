def mf_Mo_targets_71 (k41 : qa_St → Int32 → Int32 → Int32 → Int32 → qa_Re) (g : qa_St) (x1 : Int32) (x2 : Int32) (x4 : Int32) (s0 : Int32) (s1 : Int32) : qa_Re := (k41 g x1 x2 (s1 + s0) (x4 + 1))
def mf_Mo_targets_41 : Nat → qa_St → Int32 → Int32 → Int32 → Int32 → qa_Re
  | 0, _, _, _, _, _ => none
  | n + 1, g, x1, x2, x3, x4 => (if (g 0 4) ≤ x4 then (some (x3, g)) else ((mf_Mo_target g (((20 : Int32) * x1) + x2) x4).bind fun t60 => (if t60.1 = 0 then (mf_Mo_targets_71 (mf_Mo_targets_41 n) t60.2 x1 x2 x4 (0 : Int32) x3) else (mf_Mo_targets_71 (mf_Mo_targets_41 n) t60.2 x1 x2 x4 (1 : Int32) x3))))
def mf_Mo_targets (g : qa_St) (x1 : Int32) (x2 : Int32) : qa_Re := ((mf_Mo_reachedAt g x1 x2).bind fun t3 => (if t3.1 = 0 then (some ((-1 : Int32), t3.2)) else (if x1 < 0 ∨ 10 ≤ x1.toNatClampNeg then none else (if (t3.2 18 x1.toNatClampNeg) = 0 then (some ((-1 : Int32), t3.2)) else (if (((20 : Int32) * x1) + x2) < 0 ∨ 200 ≤ (((20 : Int32) * x1) + x2).toNatClampNeg then none else (if (t3.2 8 (((20 : Int32) * x1) + x2).toNatClampNeg) = (17 : Int32) then (mf_Mo_targets_41 4096 t3.2 x1 x2 (0 : Int32) (0 : Int32)) else (some ((-1 : Int32), t3.2))))))))
set_option maxHeartbeats 4000000 in
set_option maxRecDepth 100000 in
theorem mc_Mo_targets (l : Launch) (D : va_G) (cI cJ cF cZ : ClassId) (ad : Nat → Nat) (g : qa_St) (x1 : Int32) (x2 : Int32) : qa_Mi l y_Mo_targets (qa_ws y_Mo_targets b_Mo_targets 5 (some .int)) (qa_rm 3 72) D (qa_ty cI cJ cF cZ) 33 ad (me_en cI cZ ad) [.ref (ad 0), .int x1, .int x2] g (mf_Mo_targets g x1 x2) := by
  refine qa_meti (by decide) (Nat.le_of_ble_eq_true rfl) ?_
  intro p e s m args below meth c Q A T S hK hN hA hT ret ls hl hO
  have hx := S.1
  have hb := S.2.1
  have hl : lv_has ls 5 [(0, .ref (ad 0)), (1, .int x1), (2, .int x2)] := hl
  have b71 : ∀ (k41 : qa_St → Int32 → Int32 → Int32 → Int32 → qa_Re) (hk41 : ∀ (g : qa_St) (x1 : Int32) (x2 : Int32) (x3 : Int32) (x4 : Int32) (ls : Array Slot) (H : Heap) (locs : List Loc), lv_has ls 5 [(0, .ref (ad 0)), (1, .int x1), (2, .int x2), (3, .int x3), (4, .int x4)] → qa_O D 33 ad (me_en cI cZ ad) A s.heap g H locs → k41 g x1 x2 x3 x4 = some T → W p l e (qa_rm 3 72) s m args below meth c H locs 0 0 Q (F0 m 41 ls [])), ∀ (g : qa_St) (x1 : Int32) (x2 : Int32) (x4 : Int32) (s0 : Int32) (s1 : Int32) (ls : Array Slot) (H : Heap) (locs : List Loc), lv_has ls 5 [(0, .ref (ad 0)), (1, .int x1), (2, .int x2), (4, .int x4)] → qa_O D 33 ad (me_en cI cZ ad) A s.heap g H locs → mf_Mo_targets_71 k41 g x1 x2 x4 s0 s1 = some T → W p l e (qa_rm 3 72) s m args below meth c H locs 0 0 Q (F0 m 71 ls [.int s0, .int s1]) := by
    intro k41 hk41
    intro g x1 x2 x4 s0 s1 ls H locs hl hO hT
    unfold mf_Mo_targets_71 at hT
    refine lv_iadd hx hb d_Mo_targets_71 ?_
    refine lv_istore_n (lv' := [(3, .int (s1 + s0)), (0, .ref (ad 0)), (1, .int x1), (2, .int x2), (4, .int x4)]) hx hb d_Mo_targets_72 rfl hl (by decide) rfl (fun ls hl => ?_)
    refine lv_iinc (lv' := [(4, .int (x4 + 1)), (3, .int (s1 + s0)), (0, .ref (ad 0)), (1, .int x1), (2, .int x2)]) hx hb d_Mo_targets_73 hl (k := 4) rfl (qa_o1 _) (by decide) rfl (fun ls hl => ?_)
    refine lv_goto (tgt := 41) hx hb d_Mo_targets_76 (by decide) ?_
    exact hk41 g x1 x2 (s1 + s0) (x4 + 1) _ _ _ (lv_sub hl [2, 3, 4, 1, 0] rfl) hO hT
  have b41 : ∀ (n : Nat), ∀ (g : qa_St) (x1 : Int32) (x2 : Int32) (x3 : Int32) (x4 : Int32) (ls : Array Slot) (H : Heap) (locs : List Loc), lv_has ls 5 [(0, .ref (ad 0)), (1, .int x1), (2, .int x2), (3, .int x3), (4, .int x4)] → qa_O D 33 ad (me_en cI cZ ad) A s.heap g H locs → mf_Mo_targets_41 n g x1 x2 x3 x4 = some T → W p l e (qa_rm 3 72) s m args below meth c H locs 0 0 Q (F0 m 41 ls []) := by
    intro n
    induction n with
    | zero => intro g x1 x2 x3 x4 ls H locs hl hO hT; rw [mf_Mo_targets_41] at hT; cases hT
    | succ n ih =>
      intro g x1 x2 x3 x4 ls H locs hl hO hT
      rw [mf_Mo_targets_41] at hT
      refine lv_iload hx hb d_Mo_targets_41 (lv_at hl 4 rfl) ?_
      refine lv_aload_n hx hb d_Mo_targets_43 rfl (lv_at hl 0 rfl) ?_
      refine qa_get S hK hO hi_Mo 0 (by decide) rfl rfl 4 (by decide) lf_Mo_129 rfl rfl d_Mo_targets_44 ?_
      refine lv_icmp_ge (tgt := 79) hx hb d_Mo_targets_47 (by decide) (fun h => ?_) (fun h => ?_)
      · have hT := qa_t hT h
        refine lv_iload_n hx hb d_Mo_targets_79 rfl (lv_at hl 3 rfl) ?_
        exact ret hT hO d_Mo_targets_80
      · have hT := qa_f hT h
        refine lv_iload_n hx hb d_Mo_targets_50 rfl (lv_at hl 3 rfl) ?_
        refine lv_aload_n hx hb d_Mo_targets_51 rfl (lv_at hl 0 rfl) ?_
        refine lv_bipush (v := 20) hx hb d_Mo_targets_52 (by decide) ?_
        refine lv_iload_n hx hb d_Mo_targets_54 rfl (lv_at hl 1 rfl) ?_
        refine lv_imul hx hb d_Mo_targets_55 ?_
        refine lv_iload_n hx hb d_Mo_targets_56 rfl (lv_at hl 2 rfl) ?_
        refine lv_iadd hx hb d_Mo_targets_57 ?_
        refine lv_iload hx hb d_Mo_targets_58 (lv_at hl 4 rfl) ?_
        obtain ⟨t60, ht60, hT⟩ := qa_b hT
        refine qa_Vi (As := [.int (((20 : Int32) * x1) + x2), .int x4]) (rest := [.int x3]) (r := 0) S hK hN hA hO (mc_Mo_target l D cI cJ cF cZ ad g (((20 : Int32) * x1) + x2) x4) ht60 qy_Mo_target lm_Mo_208 ⟨by decide, by decide⟩ (by decide) rfl rfl rfl rfl hl.1 rfl (Nat.le_of_ble_eq_true rfl) d_Mo_targets_60 (fun H locs hO => ?_)
        refine lv_if_eq (tgt := 70) hx hb d_Mo_targets_63 (by decide) (fun h => ?_) (fun h => ?_)
        · have hT := qa_t hT h
          refine lv_iconst (v := 0) hx hb d_Mo_targets_70 (by decide) ?_
          exact b71 (mf_Mo_targets_41 n) ih t60.2 x1 x2 x4 (0 : Int32) x3 _ _ _ (lv_sub hl [0, 1, 2, 4] rfl) hO hT
        · have hT := qa_f hT h
          refine lv_iconst (v := 1) hx hb d_Mo_targets_66 (by decide) ?_
          refine lv_goto (tgt := 71) hx hb d_Mo_targets_67 (by decide) ?_
          exact b71 (mf_Mo_targets_41 n) ih t60.2 x1 x2 x4 (1 : Int32) x3 _ _ _ (lv_sub hl [0, 1, 2, 4] rfl) hO hT
  unfold mf_Mo_targets at hT
  refine lv_aload_n hx hb d_Mo_targets_0 rfl (lv_at hl 0 rfl) ?_
  refine lv_iload_n hx hb d_Mo_targets_1 rfl (lv_at hl 1 rfl) ?_
  refine lv_iload_n hx hb d_Mo_targets_2 rfl (lv_at hl 2 rfl) ?_
  obtain ⟨t3, ht3, hT⟩ := qa_b hT
  refine qa_Vi (As := [.int x1, .int x2]) (rest := []) (r := 0) S hK hN hA hO (mc_Mo_reachedAt l D cI cJ cF cZ ad g x1 x2) ht3 qy_Mo_reachedAt lm_Mo_193 ⟨by decide, by decide⟩ (by decide) rfl rfl rfl rfl hl.1 rfl (Nat.le_of_ble_eq_true rfl) d_Mo_targets_3 (fun H locs hO => ?_)
  refine lv_if_eq (tgt := 34) hx hb d_Mo_targets_6 (by decide) (fun h => ?_) (fun h => ?_)
  · have hT := qa_t hT h
    refine lv_iconst (v := -1) hx hb d_Mo_targets_34 (by decide) ?_
    exact ret hT hO d_Mo_targets_35
  · have hT := qa_f hT h
    refine lv_aload_n hx hb d_Mo_targets_9 rfl (lv_at hl 0 rfl) ?_
    refine qa_get S hK hO hi_Mo 0 (by decide) rfl rfl 23 (by decide) lf_Mo_62 rfl rfl d_Mo_targets_10 ?_
    refine lv_iload_n hx hb d_Mo_targets_13 rfl (lv_at hl 1 rfl) ?_
    obtain ⟨hi14, hT⟩ := qa_c hT
    refine qa_zald (n := 10) S hK hO 18 (by decide) 3 (me_zar rfl) rfl hi14 d_Mo_targets_14 ?_
    refine lv_if_eq (tgt := 34) hx hb d_Mo_targets_15 (by decide) (fun h => ?_) (fun h => ?_)
    · have hT := qa_t hT h
      refine lv_iconst (v := -1) hx hb d_Mo_targets_34 (by decide) ?_
      exact ret hT hO d_Mo_targets_35
    · have hT := qa_f hT h
      refine lv_aload_n hx hb d_Mo_targets_18 rfl (lv_at hl 0 rfl) ?_
      refine qa_get S hK hO hi_Mo 0 (by decide) rfl rfl 9 (by decide) lf_Mo_31 rfl rfl d_Mo_targets_19 ?_
      refine lv_bipush (v := 20) hx hb d_Mo_targets_22 (by decide) ?_
      refine lv_iload_n hx hb d_Mo_targets_24 rfl (lv_at hl 1 rfl) ?_
      refine lv_imul hx hb d_Mo_targets_25 ?_
      refine lv_iload_n hx hb d_Mo_targets_26 rfl (lv_at hl 2 rfl) ?_
      refine lv_iadd hx hb d_Mo_targets_27 ?_
      obtain ⟨hi28, hT⟩ := qa_c hT
      refine qa_iald (n := 200) S hK hO 8 (by decide) 0 (me_arr rfl) rfl hi28 d_Mo_targets_28 ?_
      refine lv_bipush (v := 17) hx hb d_Mo_targets_29 (by decide) ?_
      refine lv_icmp_eq (tgt := 36) hx hb d_Mo_targets_31 (by decide) (fun h => ?_) (fun h => ?_)
      · have hT := qa_t hT h
        refine lv_iconst (v := 0) hx hb d_Mo_targets_36 (by decide) ?_
        refine lv_istore_n (lv' := [(3, .int (0 : Int32)), (0, .ref (ad 0)), (1, .int x1), (2, .int x2)]) hx hb d_Mo_targets_37 rfl hl (by decide) rfl (fun ls hl => ?_)
        refine lv_iconst (v := 0) hx hb d_Mo_targets_38 (by decide) ?_
        refine lv_istore (lv' := [(4, .int (0 : Int32)), (3, .int (0 : Int32)), (0, .ref (ad 0)), (1, .int x1), (2, .int x2)]) hx hb d_Mo_targets_39 hl (by decide) rfl (fun ls hl => ?_)
        exact b41 4096 t3.2 x1 x2 (0 : Int32) (0 : Int32) _ _ _ (lv_sub hl [2, 3, 4, 1, 0] rfl) hO hT
      · have hT := qa_f hT h
        refine lv_iconst (v := -1) hx hb d_Mo_targets_34 (by decide) ?_
        exact ret hT hO d_Mo_targets_35
def mf_Mo_raise_49 (g : qa_St) (x1 : Int32) (x2 : Int32) : qa_Re := (if ((6 : Int32) * x2) < 0 ∨ 60 ≤ ((6 : Int32) * x2).toNatClampNeg then none else (if x2 < 0 ∨ 10 ≤ x2.toNatClampNeg then none else (some (0, (qa_up (qa_up g 27 ((6 : Int32) * x2).toNatClampNeg x1) 25 x2.toNatClampNeg (0 : Int32))))))
def mf_Mo_raise_0 : Nat → qa_St → Int32 → qa_Re
  | 0, _, _ => none
  | n + 1, g, x1 => (if (g 0 32) ≤ 0 then (some (0, (qa_up (qa_up g 0 28 (1 : Int32)) 0 29 x1))) else (if ((g 0 32) - (1 : Int32)) < 0 ∨ 10 ≤ ((g 0 32) - (1 : Int32)).toNatClampNeg then none else (if ((g 0 32) - (1 : Int32)) < 0 ∨ 10 ≤ ((g 0 32) - (1 : Int32)).toNatClampNeg then none else ((mf_Mo_guarded g (g 21 ((g 0 32) - (1 : Int32)).toNatClampNeg) (g 22 ((g 0 32) - (1 : Int32)).toNatClampNeg)).bind fun t27 => (if t27.1 < 0 then ((mf_Mo_raise_0 n) (qa_up t27.2 0 32 ((t27.2 0 32) - (1 : Int32))) x1) else (if ((g 0 32) - (1 : Int32)) < 0 ∨ 10 ≤ ((g 0 32) - (1 : Int32)).toNatClampNeg then none else (if ((g 0 32) - (1 : Int32)) < 0 ∨ 10 ≤ ((g 0 32) - (1 : Int32)).toNatClampNeg then none else (mf_Mo_raise_49 (qa_up (qa_up t27.2 22 ((g 0 32) - (1 : Int32)).toNatClampNeg t27.1) 23 ((g 0 32) - (1 : Int32)).toNatClampNeg (1 : Int32)) x1 ((g 0 32) - (1 : Int32))))))))))
def mf_Mo_raise (g : qa_St) (x1 : Int32) : qa_Re := (mf_Mo_raise_0 4096 g x1)
set_option maxHeartbeats 4000000 in
set_option maxRecDepth 100000 in
theorem mc_Mo_raise (l : Launch) (D : va_G) (cI cJ cF cZ : ClassId) (ad : Nat → Nat) (g : qa_St) (x1 : Int32) : qa_Mv l y_Mo_raise (qa_ws y_Mo_raise b_Mo_raise 4 none) (qa_rm 1 23) D (qa_ty cI cJ cF cZ) 33 ad (me_en cI cZ ad) [.ref (ad 0), .int x1] g (mf_Mo_raise g x1) := by
  refine qa_metv (by decide) (Nat.le_of_ble_eq_true rfl) ?_
  intro p e s m args below meth c Q A T S hK hN hA hT ret ls hl hO
  have hx := S.1
  have hb := S.2.1
  have hl : lv_has ls 4 [(0, .ref (ad 0)), (1, .int x1)] := hl
  have b49 : ∀ (g : qa_St) (x1 : Int32) (x2 : Int32) (ls : Array Slot) (H : Heap) (locs : List Loc), lv_has ls 4 [(0, .ref (ad 0)), (1, .int x1), (2, .int x2)] → qa_O D 33 ad (me_en cI cZ ad) A s.heap g H locs → mf_Mo_raise_49 g x1 x2 = some T → W p l e (qa_rm 1 23) s m args below meth c H locs 0 0 Q (F0 m 49 ls []) := by
    intro g x1 x2 ls H locs hl hO hT
    unfold mf_Mo_raise_49 at hT
    refine lv_aload_n hx hb d_Mo_raise_49 rfl (lv_at hl 0 rfl) ?_
    refine qa_get S hK hO hi_Mo 0 (by decide) rfl rfl 39 (by decide) lf_Mo_89 rfl rfl d_Mo_raise_50 ?_
    refine lv_bipush (v := 6) hx hb d_Mo_raise_53 (by decide) ?_
    refine lv_iload_n hx hb d_Mo_raise_55 rfl (lv_at hl 2 rfl) ?_
    refine lv_imul hx hb d_Mo_raise_56 ?_
    refine lv_iload_n hx hb d_Mo_raise_57 rfl (lv_at hl 1 rfl) ?_
    obtain ⟨hi58, hT⟩ := qa_c hT
    refine qa_iast (n := 60) S hK hO 27 (by decide) 0 (me_arr rfl) rfl hi58 d_Mo_raise_58 (fun H locs hO => ?_)
    refine lv_aload_n hx hb d_Mo_raise_59 rfl (lv_at hl 0 rfl) ?_
    refine qa_get S hK hO hi_Mo 0 (by decide) rfl rfl 37 (by decide) lf_Mo_83 rfl rfl d_Mo_raise_60 ?_
    refine lv_iload_n hx hb d_Mo_raise_63 rfl (lv_at hl 2 rfl) ?_
    refine lv_iconst (v := 0) hx hb d_Mo_raise_64 (by decide) ?_
    obtain ⟨hi65, hT⟩ := qa_c hT
    refine qa_zast (n := 10) S hK hO 25 (by decide) 3 (me_zar rfl) rfl hi65 rfl d_Mo_raise_65 (fun H locs hO => ?_)
    exact ret hT hO d_Mo_raise_66
  have b0 : ∀ (n : Nat), ∀ (g : qa_St) (x1 : Int32) (ls : Array Slot) (H : Heap) (locs : List Loc), lv_has ls 4 [(0, .ref (ad 0)), (1, .int x1)] → qa_O D 33 ad (me_en cI cZ ad) A s.heap g H locs → mf_Mo_raise_0 n g x1 = some T → W p l e (qa_rm 1 23) s m args below meth c H locs 0 0 Q (F0 m 0 ls []) := by
    intro n
    induction n with
    | zero => intro g x1 ls H locs hl hO hT; rw [mf_Mo_raise_0] at hT; cases hT
    | succ n ih =>
      intro g x1 ls H locs hl hO hT
      rw [mf_Mo_raise_0] at hT
      refine lv_aload_n hx hb d_Mo_raise_0 rfl (lv_at hl 0 rfl) ?_
      refine qa_get S hK hO hi_Mo 0 (by decide) rfl rfl 32 (by decide) lf_Mo_226 rfl rfl d_Mo_raise_1 ?_
      refine lv_if_le (tgt := 80) hx hb d_Mo_raise_4 (by decide) (fun h => ?_) (fun h => ?_)
      · have hT := qa_t hT h
        refine lv_aload_n hx hb d_Mo_raise_80 rfl (lv_at hl 0 rfl) ?_
        refine lv_iconst (v := 1) hx hb d_Mo_raise_81 (by decide) ?_
        refine qa_put S hK hO hi_Mo t_Mo t_Mo_ok n_Mo 0 (by decide) rfl rfl 28 (by decide) lf_Mo_214 rfl rfl (ty := .int) (by decide +kernel) rfl rfl (Nat.le_of_ble_eq_true rfl) rfl d_Mo_raise_82 (fun H locs hO => ?_)
        refine lv_aload_n hx hb d_Mo_raise_85 rfl (lv_at hl 0 rfl) ?_
        refine lv_iload_n hx hb d_Mo_raise_86 rfl (lv_at hl 1 rfl) ?_
        refine qa_put S hK hO hi_Mo t_Mo t_Mo_ok n_Mo 0 (by decide) rfl rfl 29 (by decide) lf_Mo_217 rfl rfl (ty := .int) (by decide +kernel) rfl rfl (Nat.le_of_ble_eq_true rfl) rfl d_Mo_raise_87 (fun H locs hO => ?_)
        exact ret hT hO d_Mo_raise_90
      · have hT := qa_f hT h
        refine lv_aload_n hx hb d_Mo_raise_7 rfl (lv_at hl 0 rfl) ?_
        refine qa_get S hK hO hi_Mo 0 (by decide) rfl rfl 32 (by decide) lf_Mo_226 rfl rfl d_Mo_raise_8 ?_
        refine lv_iconst (v := 1) hx hb d_Mo_raise_11 (by decide) ?_
        refine lv_isub hx hb d_Mo_raise_12 ?_
        refine lv_istore_n (lv' := [(2, .int ((g 0 32) - (1 : Int32))), (0, .ref (ad 0)), (1, .int x1)]) hx hb d_Mo_raise_13 rfl hl (by decide) rfl (fun ls hl => ?_)
        refine lv_aload_n hx hb d_Mo_raise_14 rfl (lv_at hl 1 rfl) ?_
        refine lv_aload_n hx hb d_Mo_raise_15 rfl (lv_at hl 1 rfl) ?_
        refine qa_get S hK hO hi_Mo 0 (by decide) rfl rfl 33 (by decide) lf_Mo_71 rfl rfl d_Mo_raise_16 ?_
        refine lv_iload_n hx hb d_Mo_raise_19 rfl (lv_at hl 0 rfl) ?_
        obtain ⟨hi20, hT⟩ := qa_c hT
        refine qa_iald (n := 10) S hK hO 21 (by decide) 0 (me_arr rfl) rfl hi20 d_Mo_raise_20 ?_
        refine lv_aload_n hx hb d_Mo_raise_21 rfl (lv_at hl 1 rfl) ?_
        refine qa_get S hK hO hi_Mo 0 (by decide) rfl rfl 34 (by decide) lf_Mo_74 rfl rfl d_Mo_raise_22 ?_
        refine lv_iload_n hx hb d_Mo_raise_25 rfl (lv_at hl 0 rfl) ?_
        obtain ⟨hi26, hT⟩ := qa_c hT
        refine qa_iald (n := 10) S hK hO 22 (by decide) 0 (me_arr rfl) rfl hi26 d_Mo_raise_26 ?_
        obtain ⟨t27, ht27, hT⟩ := qa_b hT
        refine qa_Vi (As := [.int (g 21 ((g 0 32) - (1 : Int32)).toNatClampNeg), .int (g 22 ((g 0 32) - (1 : Int32)).toNatClampNeg)]) (rest := []) (r := 0) S hK hN hA hO (mc_Mo_guarded l D cI cJ cF cZ ad g (g 21 ((g 0 32) - (1 : Int32)).toNatClampNeg) (g 22 ((g 0 32) - (1 : Int32)).toNatClampNeg)) ht27 qy_Mo_guarded lm_Mo_171 ⟨by decide, by decide⟩ (by decide) rfl rfl rfl rfl hl.1 rfl (Nat.le_of_ble_eq_true rfl) d_Mo_raise_27 (fun H locs hO => ?_)
        refine lv_istore_n (lv' := [(3, .int t27.1), (2, .int ((g 0 32) - (1 : Int32))), (0, .ref (ad 0)), (1, .int x1)]) hx hb d_Mo_raise_30 rfl hl (by decide) rfl (fun ls hl => ?_)
        refine lv_iload_n hx hb d_Mo_raise_31 rfl (lv_at hl 0 rfl) ?_
        refine lv_if_lt (tgt := 67) hx hb d_Mo_raise_32 (by decide) (fun h => ?_) (fun h => ?_)
        · have hT := qa_t hT h
          refine lv_aload_n hx hb d_Mo_raise_67 rfl (lv_at hl 2 rfl) ?_
          refine lv_dup hx hb d_Mo_raise_68 rfl ?_
          refine qa_get S hK hO hi_Mo 0 (by decide) rfl rfl 32 (by decide) lf_Mo_226 rfl rfl d_Mo_raise_69 ?_
          refine lv_iconst (v := 1) hx hb d_Mo_raise_72 (by decide) ?_
          refine lv_isub hx hb d_Mo_raise_73 ?_
          refine qa_put S hK hO hi_Mo t_Mo t_Mo_ok n_Mo 0 (by decide) rfl rfl 32 (by decide) lf_Mo_226 rfl rfl (ty := .int) (by decide +kernel) rfl rfl (Nat.le_of_ble_eq_true rfl) rfl d_Mo_raise_74 (fun H locs hO => ?_)
          refine lv_goto (tgt := 0) hx hb d_Mo_raise_77 (by decide) ?_
          exact ih (qa_up t27.2 0 32 ((t27.2 0 32) - (1 : Int32))) x1 _ _ _ (lv_sub hl [2, 3] rfl) hO hT
        · have hT := qa_f hT h
          refine lv_aload_n hx hb d_Mo_raise_35 rfl (lv_at hl 2 rfl) ?_
          refine qa_get S hK hO hi_Mo 0 (by decide) rfl rfl 34 (by decide) lf_Mo_74 rfl rfl d_Mo_raise_36 ?_
          refine lv_iload_n hx hb d_Mo_raise_39 rfl (lv_at hl 1 rfl) ?_
          refine lv_iload_n hx hb d_Mo_raise_40 rfl (lv_at hl 0 rfl) ?_
          obtain ⟨hi41, hT⟩ := qa_c hT
          refine qa_iast (n := 10) S hK hO 22 (by decide) 0 (me_arr rfl) rfl hi41 d_Mo_raise_41 (fun H locs hO => ?_)
          refine lv_aload_n hx hb d_Mo_raise_42 rfl (lv_at hl 2 rfl) ?_
          refine qa_get S hK hO hi_Mo 0 (by decide) rfl rfl 35 (by decide) lf_Mo_77 rfl rfl d_Mo_raise_43 ?_
          refine lv_iload_n hx hb d_Mo_raise_46 rfl (lv_at hl 1 rfl) ?_
          refine lv_iconst (v := 1) hx hb d_Mo_raise_47 (by decide) ?_
          obtain ⟨hi48, hT⟩ := qa_c hT
          refine qa_iast (n := 10) S hK hO 23 (by decide) 0 (me_arr rfl) rfl hi48 d_Mo_raise_48 (fun H locs hO => ?_)
          exact b49 (qa_up (qa_up t27.2 22 ((g 0 32) - (1 : Int32)).toNatClampNeg t27.1) 23 ((g 0 32) - (1 : Int32)).toNatClampNeg (1 : Int32)) x1 ((g 0 32) - (1 : Int32)) _ _ _ (lv_sub hl [2, 3, 1] rfl) hO hT
  unfold mf_Mo_raise at hT
  exact b0 4096 g x1 _ _ _ (lv_sub hl [0, 1] rfl) hO hT
def mf_Mo_enter_52 : Nat → qa_St → Int32 → qa_Re
  | 0, _, _ => none
  | n + 1, g, x3 => (if (4 : Int32) ≤ x3 then (some (0, (qa_up g 0 32 ((g 0 32) + (1 : Int32))))) else (if (((4 : Int32) * (g 0 32)) + x3) < 0 ∨ 40 ≤ (((4 : Int32) * (g 0 32)) + x3).toNatClampNeg then none else ((mf_Mo_enter_52 n) (qa_up g 26 (((4 : Int32) * (g 0 32)) + x3).toNatClampNeg (0 : Int32)) (x3 + 1))))
def mf_Mo_enter_40 (g : qa_St) : qa_Re := (if (g 0 32) < 0 ∨ 10 ≤ (g 0 32).toNatClampNeg then none else (mf_Mo_enter_52 4096 (qa_up g 25 (g 0 32).toNatClampNeg (0 : Int32)) (0 : Int32)))
def mf_Mo_enter_20 (g : qa_St) (x2 : Int32) : qa_Re := (if (g 0 32) < 0 ∨ 10 ≤ (g 0 32).toNatClampNeg then none else (if x2 = 0 ∨ x2 = 1 then (if ((qa_up g 23 (g 0 32).toNatClampNeg (0 : Int32)) 0 32) < 0 ∨ 10 ≤ ((qa_up g 23 (g 0 32).toNatClampNeg (0 : Int32)) 0 32).toNatClampNeg then none else (mf_Mo_enter_40 (qa_up (qa_up g 23 (g 0 32).toNatClampNeg (0 : Int32)) 24 ((qa_up g 23 (g 0 32).toNatClampNeg (0 : Int32)) 0 32).toNatClampNeg x2))) else none))
def mf_Mo_enter (g : qa_St) (x1 : Int32) (x2 : Int32) : qa_Re := (if (g 0 32) < 0 ∨ 10 ≤ (g 0 32).toNatClampNeg then none else (if ((qa_up g 21 (g 0 32).toNatClampNeg x1) 0 32) < 0 ∨ 10 ≤ ((qa_up g 21 (g 0 32).toNatClampNeg x1) 0 32).toNatClampNeg then none else (mf_Mo_enter_20 (qa_up (qa_up g 21 (g 0 32).toNatClampNeg x1) 22 ((qa_up g 21 (g 0 32).toNatClampNeg x1) 0 32).toNatClampNeg (0 : Int32)) x2)))
set_option maxHeartbeats 4000000 in
set_option maxRecDepth 100000 in
theorem mc_Mo_enter (l : Launch) (D : va_G) (cI cJ cF cZ : ClassId) (ad : Nat → Nat) (g : qa_St) (x1 : Int32) (x2 : Int32) : qa_Mv l y_Mo_enter (qa_ws y_Mo_enter b_Mo_enter 4 none) (qa_rm 0 0) D (qa_ty cI cJ cF cZ) 33 ad (me_en cI cZ ad) [.ref (ad 0), .int x1, .int x2] g (mf_Mo_enter g x1 x2) := by
  refine qa_metv (by decide) (Nat.le_of_ble_eq_true rfl) ?_
  intro p e s m args below meth c Q A T S hK hN hA hT ret ls hl hO
  have hx := S.1
  have hb := S.2.1
  have hl : lv_has ls 4 [(0, .ref (ad 0)), (1, .int x1), (2, .int x2)] := hl
  have b52 : ∀ (n : Nat), ∀ (g : qa_St) (x3 : Int32) (ls : Array Slot) (H : Heap) (locs : List Loc), lv_has ls 4 [(0, .ref (ad 0)), (3, .int x3)] → qa_O D 33 ad (me_en cI cZ ad) A s.heap g H locs → mf_Mo_enter_52 n g x3 = some T → W p l e (qa_rm 0 0) s m args below meth c H locs 0 0 Q (F0 m 52 ls []) := by
    intro n
    induction n with
    | zero => intro g x3 ls H locs hl hO hT; rw [mf_Mo_enter_52] at hT; cases hT
    | succ n ih =>
      intro g x3 ls H locs hl hO hT
      rw [mf_Mo_enter_52] at hT
      refine lv_iload_n hx hb d_Mo_enter_52 rfl (lv_at hl 1 rfl) ?_
      refine lv_iconst (v := 4) hx hb d_Mo_enter_53 (by decide) ?_
      refine lv_icmp_ge (tgt := 77) hx hb d_Mo_enter_54 (by decide) (fun h => ?_) (fun h => ?_)
      · have hT := qa_t hT h
        refine lv_aload_n hx hb d_Mo_enter_77 rfl (lv_at hl 0 rfl) ?_
        refine lv_dup hx hb d_Mo_enter_78 rfl ?_
        refine qa_get S hK hO hi_Mo 0 (by decide) rfl rfl 32 (by decide) lf_Mo_226 rfl rfl d_Mo_enter_79 ?_
        refine lv_iconst (v := 1) hx hb d_Mo_enter_82 (by decide) ?_
        refine lv_iadd hx hb d_Mo_enter_83 ?_
        refine qa_put S hK hO hi_Mo t_Mo t_Mo_ok n_Mo 0 (by decide) rfl rfl 32 (by decide) lf_Mo_226 rfl rfl (ty := .int) (by decide +kernel) rfl rfl (Nat.le_of_ble_eq_true rfl) rfl d_Mo_enter_84 (fun H locs hO => ?_)
        exact ret hT hO d_Mo_enter_87
      · have hT := qa_f hT h
        refine lv_aload_n hx hb d_Mo_enter_57 rfl (lv_at hl 0 rfl) ?_
        refine qa_get S hK hO hi_Mo 0 (by decide) rfl rfl 38 (by decide) lf_Mo_86 rfl rfl d_Mo_enter_58 ?_
        refine lv_iconst (v := 4) hx hb d_Mo_enter_61 (by decide) ?_
        refine lv_aload_n hx hb d_Mo_enter_62 rfl (lv_at hl 0 rfl) ?_
        refine qa_get S hK hO hi_Mo 0 (by decide) rfl rfl 32 (by decide) lf_Mo_226 rfl rfl d_Mo_enter_63 ?_
        refine lv_imul hx hb d_Mo_enter_66 ?_
        refine lv_iload_n hx hb d_Mo_enter_67 rfl (lv_at hl 1 rfl) ?_
        refine lv_iadd hx hb d_Mo_enter_68 ?_
        refine lv_iconst (v := 0) hx hb d_Mo_enter_69 (by decide) ?_
        obtain ⟨hi70, hT⟩ := qa_c hT
        refine qa_iast (n := 40) S hK hO 26 (by decide) 0 (me_arr rfl) rfl hi70 d_Mo_enter_70 (fun H locs hO => ?_)
        refine lv_iinc (lv' := [(3, .int (x3 + 1)), (0, .ref (ad 0))]) hx hb d_Mo_enter_71 hl (k := 1) rfl (qa_o1 _) (by decide) rfl (fun ls hl => ?_)
        refine lv_goto (tgt := 52) hx hb d_Mo_enter_74 (by decide) ?_
        exact ih (qa_up g 26 (((4 : Int32) * (g 0 32)) + x3).toNatClampNeg (0 : Int32)) (x3 + 1) _ _ _ (lv_sub hl [1, 0] rfl) hO hT
  have b40 : ∀ (g : qa_St) (ls : Array Slot) (H : Heap) (locs : List Loc), lv_has ls 4 [(0, .ref (ad 0))] → qa_O D 33 ad (me_en cI cZ ad) A s.heap g H locs → mf_Mo_enter_40 g = some T → W p l e (qa_rm 0 0) s m args below meth c H locs 0 0 Q (F0 m 40 ls []) := by
    intro g ls H locs hl hO hT
    unfold mf_Mo_enter_40 at hT
    refine lv_aload_n hx hb d_Mo_enter_40 rfl (lv_at hl 0 rfl) ?_
    refine qa_get S hK hO hi_Mo 0 (by decide) rfl rfl 37 (by decide) lf_Mo_83 rfl rfl d_Mo_enter_41 ?_
    refine lv_aload_n hx hb d_Mo_enter_44 rfl (lv_at hl 0 rfl) ?_
    refine qa_get S hK hO hi_Mo 0 (by decide) rfl rfl 32 (by decide) lf_Mo_226 rfl rfl d_Mo_enter_45 ?_
    refine lv_iconst (v := 0) hx hb d_Mo_enter_48 (by decide) ?_
    obtain ⟨hi49, hT⟩ := qa_c hT
    refine qa_zast (n := 10) S hK hO 25 (by decide) 3 (me_zar rfl) rfl hi49 rfl d_Mo_enter_49 (fun H locs hO => ?_)
    refine lv_iconst (v := 0) hx hb d_Mo_enter_50 (by decide) ?_
    refine lv_istore_n (lv' := [(3, .int (0 : Int32)), (0, .ref (ad 0))]) hx hb d_Mo_enter_51 rfl hl (by decide) rfl (fun ls hl => ?_)
    exact b52 4096 (qa_up g 25 (g 0 32).toNatClampNeg (0 : Int32)) (0 : Int32) _ _ _ (lv_sub hl [1, 0] rfl) hO hT
  have b20 : ∀ (g : qa_St) (x2 : Int32) (ls : Array Slot) (H : Heap) (locs : List Loc), lv_has ls 4 [(0, .ref (ad 0)), (2, .int x2)] → qa_O D 33 ad (me_en cI cZ ad) A s.heap g H locs → mf_Mo_enter_20 g x2 = some T → W p l e (qa_rm 0 0) s m args below meth c H locs 0 0 Q (F0 m 20 ls []) := by
    intro g x2 ls H locs hl hO hT
    unfold mf_Mo_enter_20 at hT
    refine lv_aload_n hx hb d_Mo_enter_20 rfl (lv_at hl 0 rfl) ?_
    refine qa_get S hK hO hi_Mo 0 (by decide) rfl rfl 35 (by decide) lf_Mo_77 rfl rfl d_Mo_enter_21 ?_
    refine lv_aload_n hx hb d_Mo_enter_24 rfl (lv_at hl 0 rfl) ?_
    refine qa_get S hK hO hi_Mo 0 (by decide) rfl rfl 32 (by decide) lf_Mo_226 rfl rfl d_Mo_enter_25 ?_
    refine lv_iconst (v := 0) hx hb d_Mo_enter_28 (by decide) ?_
    obtain ⟨hi29, hT⟩ := qa_c hT
    refine qa_iast (n := 10) S hK hO 23 (by decide) 0 (me_arr rfl) rfl hi29 d_Mo_enter_29 (fun H locs hO => ?_)
    refine lv_aload_n hx hb d_Mo_enter_30 rfl (lv_at hl 0 rfl) ?_
    refine qa_get S hK hO hi_Mo 0 (by decide) rfl rfl 36 (by decide) lf_Mo_80 rfl rfl d_Mo_enter_31 ?_
    refine lv_aload_n hx hb d_Mo_enter_34 rfl (lv_at hl 0 rfl) ?_
    refine qa_get S hK hO hi_Mo 0 (by decide) rfl rfl 32 (by decide) lf_Mo_226 rfl rfl d_Mo_enter_35 ?_
    refine lv_iload_n hx hb d_Mo_enter_38 rfl (lv_at hl 1 rfl) ?_
    obtain ⟨hz39, hT⟩ := qa_k hT
    obtain ⟨hi39, hT⟩ := qa_c hT
    refine qa_zast (n := 10) S hK hO 24 (by decide) 3 (me_zar rfl) rfl hi39 (qa_vz hz39) d_Mo_enter_39 (fun H locs hO => ?_)
    exact b40 (qa_up (qa_up g 23 (g 0 32).toNatClampNeg (0 : Int32)) 24 ((qa_up g 23 (g 0 32).toNatClampNeg (0 : Int32)) 0 32).toNatClampNeg x2) _ _ _ (lv_sub hl [0] rfl) hO hT
  unfold mf_Mo_enter at hT
  refine lv_aload_n hx hb d_Mo_enter_0 rfl (lv_at hl 0 rfl) ?_
  refine qa_get S hK hO hi_Mo 0 (by decide) rfl rfl 33 (by decide) lf_Mo_71 rfl rfl d_Mo_enter_1 ?_
  refine lv_aload_n hx hb d_Mo_enter_4 rfl (lv_at hl 0 rfl) ?_
  refine qa_get S hK hO hi_Mo 0 (by decide) rfl rfl 32 (by decide) lf_Mo_226 rfl rfl d_Mo_enter_5 ?_
  refine lv_iload_n hx hb d_Mo_enter_8 rfl (lv_at hl 1 rfl) ?_
  obtain ⟨hi9, hT⟩ := qa_c hT
  refine qa_iast (n := 10) S hK hO 21 (by decide) 0 (me_arr rfl) rfl hi9 d_Mo_enter_9 (fun H locs hO => ?_)
  refine lv_aload_n hx hb d_Mo_enter_10 rfl (lv_at hl 0 rfl) ?_
  refine qa_get S hK hO hi_Mo 0 (by decide) rfl rfl 34 (by decide) lf_Mo_74 rfl rfl d_Mo_enter_11 ?_
  refine lv_aload_n hx hb d_Mo_enter_14 rfl (lv_at hl 0 rfl) ?_
  refine qa_get S hK hO hi_Mo 0 (by decide) rfl rfl 32 (by decide) lf_Mo_226 rfl rfl d_Mo_enter_15 ?_
  refine lv_iconst (v := 0) hx hb d_Mo_enter_18 (by decide) ?_
  obtain ⟨hi19, hT⟩ := qa_c hT
  refine qa_iast (n := 10) S hK hO 22 (by decide) 0 (me_arr rfl) rfl hi19 d_Mo_enter_19 (fun H locs hO => ?_)
  exact b20 (qa_up (qa_up g 21 (g 0 32).toNatClampNeg x1) 22 ((qa_up g 21 (g 0 32).toNatClampNeg x1) 0 32).toNatClampNeg (0 : Int32)) x2 _ _ _ (lv_sub hl [0, 2] rfl) hO hT
def mf_Mo_trigger_101 (g : qa_St) (x3 : Int32) : qa_Re := (if (g 0 32) = (10 : Int32) then ((mf_Mo_raise g (-5 : Int32)).bind fun t113 => (some ((0 : Int32), t113.2))) else (if x3 < 0 ∨ 6 ≤ x3.toNatClampNeg then none else ((mf_Mo_enter g (g 3 x3.toNatClampNeg) (1 : Int32)).bind fun t127 => (some ((0 : Int32), t127.2)))))
def mf_Mo_trigger_73 (k2 : qa_St → Int32 → Int32 → qa_Re) (g : qa_St) (x1 : Int32) (x2 : Int32) (x3 : Int32) : qa_Re := (if x3 < 0 ∨ 6 ≤ x3.toNatClampNeg then none else (if (g 3 x3.toNatClampNeg) < 0 then (k2 g x1 (x2 + 1)) else (if (g 0 32) ≤ 0 then (mf_Mo_trigger_101 g x3) else (if ((g 0 32) - (1 : Int32)) < 0 ∨ 10 ≤ ((g 0 32) - (1 : Int32)).toNatClampNeg then none else (mf_Mo_trigger_101 (qa_up g 25 ((g 0 32) - (1 : Int32)).toNatClampNeg (1 : Int32)) x3)))))
def mf_Mo_trigger_34 (k2 : qa_St → Int32 → Int32 → qa_Re) (k13 : qa_St → Int32 → Int32 → Int32 → Int32 → qa_Re) (g : qa_St) (x1 : Int32) (x2 : Int32) (x4 : Int32) (s0 : Int32) : qa_Re := (if x4 < 0 ∨ 6 ≤ x4.toNatClampNeg then none else (k13 g x1 x2 s0 (g 1 x4.toNatClampNeg)))
def mf_Mo_trigger_13 (k2 : qa_St → Int32 → Int32 → qa_Re) : Nat → qa_St → Int32 → Int32 → Int32 → Int32 → qa_Re
  | 0, _, _, _, _, _ => none
  | n + 1, g, x1, x2, x3, x4 => (if x4 < 0 then (if 0 ≤ x3 then (if x3 < 0 ∨ 6 ≤ x3.toNatClampNeg then none else (mf_Mo_trigger_73 k2 (qa_up (qa_up g 31 x3.toNatClampNeg (g 0 45)) 0 45 (((qa_up g 31 x3.toNatClampNeg (g 0 45)) 0 45) + (1 : Int32))) x1 x2 x3)) else (some ((1 : Int32), g))) else (if x4 < 0 ∨ 6 ≤ x4.toNatClampNeg then none else (if 0 ≤ (g 31 x4.toNatClampNeg) then (mf_Mo_trigger_34 k2 (mf_Mo_trigger_13 k2 n) g x1 x2 x4 x3) else (mf_Mo_trigger_34 k2 (mf_Mo_trigger_13 k2 n) g x1 x2 x4 x4))))
def mf_Mo_trigger_2 : Nat → qa_St → Int32 → Int32 → qa_Re
  | 0, _, _, _ => none
  | n + 1, g, x1, x2 => (if (7 : Int32) ≤ x2 then (some ((0 : Int32), g)) else (mf_Mo_trigger_13 (mf_Mo_trigger_2 n) 4096 g x1 x2 (-1 : Int32) x1))
def mf_Mo_trigger (g : qa_St) (x1 : Int32) : qa_Re := (mf_Mo_trigger_2 4096 g x1 (0 : Int32))
set_option maxHeartbeats 4000000 in
set_option maxRecDepth 100000 in
theorem mc_Mo_trigger (l : Launch) (D : va_G) (cI cJ cF cZ : ClassId) (ad : Nat → Nat) (g : qa_St) (x1 : Int32) : qa_Mi l y_Mo_trigger (qa_ws y_Mo_trigger b_Mo_trigger 5 (some .boolean)) (qa_rm 2 46) D (qa_ty cI cJ cF cZ) 33 ad (me_en cI cZ ad) [.ref (ad 0), .int x1] g (mf_Mo_trigger g x1) := by
  refine qa_metz (by decide) (Nat.le_of_ble_eq_true rfl) ?_
  intro p e s m args below meth c Q A T S hK hN hA hT ret ls hl hO
  have hx := S.1
  have hb := S.2.1
  have hl : lv_has ls 5 [(0, .ref (ad 0)), (1, .int x1)] := hl
  have b101 : ∀ (g : qa_St) (x3 : Int32) (ls : Array Slot) (H : Heap) (locs : List Loc), lv_has ls 5 [(0, .ref (ad 0)), (3, .int x3)] → qa_O D 33 ad (me_en cI cZ ad) A s.heap g H locs → mf_Mo_trigger_101 g x3 = some T → W p l e (qa_rm 2 46) s m args below meth c H locs 0 0 Q (F0 m 101 ls []) := by
    intro g x3 ls H locs hl hO hT
    unfold mf_Mo_trigger_101 at hT
    refine lv_aload_n hx hb d_Mo_trigger_101 rfl (lv_at hl 0 rfl) ?_
    refine qa_get S hK hO hi_Mo 0 (by decide) rfl rfl 32 (by decide) lf_Mo_226 rfl rfl d_Mo_trigger_102 ?_
    refine lv_bipush (v := 10) hx hb d_Mo_trigger_105 (by decide) ?_
    refine lv_icmp_ne (tgt := 119) hx hb d_Mo_trigger_107 (by decide) (fun h => ?_) (fun h => ?_)
    · have hT := qa_f hT h
      refine lv_aload_n hx hb d_Mo_trigger_119 rfl (lv_at hl 0 rfl) ?_
      refine lv_aload_n hx hb d_Mo_trigger_120 rfl (lv_at hl 0 rfl) ?_
      refine qa_get S hK hO hi_Mo 0 (by decide) rfl rfl 3 (by decide) lf_Mo_16 rfl rfl d_Mo_trigger_121 ?_
      refine lv_iload_n hx hb d_Mo_trigger_124 rfl (lv_at hl 1 rfl) ?_
      obtain ⟨hi125, hT⟩ := qa_c hT
      refine qa_iald (n := 6) S hK hO 3 (by decide) 0 (me_arr rfl) rfl hi125 d_Mo_trigger_125 ?_
      refine lv_iconst (v := 1) hx hb d_Mo_trigger_126 (by decide) ?_
      obtain ⟨t127, ht127, hT⟩ := qa_b hT
      refine qa_Vv (As := [.int (g 3 x3.toNatClampNeg), .int (1 : Int32)]) (rest := []) (r := 0) S hK hN hA hO (mc_Mo_enter l D cI cJ cF cZ ad g (g 3 x3.toNatClampNeg) (1 : Int32)) ht127 qy_Mo_enter lm_Mo_247 ⟨by decide, by decide⟩ (by decide) rfl rfl rfl rfl hl.1 rfl (Nat.le_of_ble_eq_true rfl) d_Mo_trigger_127 (fun H locs hO => ?_)
      refine lv_iconst (v := 0) hx hb d_Mo_trigger_130 (by decide) ?_
      exact ret (by decide) hT hO d_Mo_trigger_131
    · have hT := qa_t hT h
      refine lv_aload_n hx hb d_Mo_trigger_110 rfl (lv_at hl 0 rfl) ?_
      refine lv_bipush (v := -5) hx hb d_Mo_trigger_111 (by decide) ?_
      obtain ⟨t113, ht113, hT⟩ := qa_b hT
      refine qa_Vv (As := [.int (-5 : Int32)]) (rest := []) (r := 0) S hK hN hA hO (mc_Mo_raise l D cI cJ cF cZ ad g (-5 : Int32)) ht113 qy_Mo_raise lm_Mo_251 ⟨by decide, by decide⟩ (by decide) rfl rfl rfl rfl hl.1 rfl (Nat.le_of_ble_eq_true rfl) d_Mo_trigger_113 (fun H locs hO => ?_)
      refine lv_goto (tgt := 130) hx hb d_Mo_trigger_116 (by decide) ?_
      refine lv_iconst (v := 0) hx hb d_Mo_trigger_130 (by decide) ?_
      exact ret (by decide) hT hO d_Mo_trigger_131
  have b73 : ∀ (k2 : qa_St → Int32 → Int32 → qa_Re) (hk2 : ∀ (g : qa_St) (x1 : Int32) (x2 : Int32) (ls : Array Slot) (H : Heap) (locs : List Loc), lv_has ls 5 [(0, .ref (ad 0)), (1, .int x1), (2, .int x2)] → qa_O D 33 ad (me_en cI cZ ad) A s.heap g H locs → k2 g x1 x2 = some T → W p l e (qa_rm 2 46) s m args below meth c H locs 0 0 Q (F0 m 2 ls [])), ∀ (g : qa_St) (x1 : Int32) (x2 : Int32) (x3 : Int32) (ls : Array Slot) (H : Heap) (locs : List Loc), lv_has ls 5 [(0, .ref (ad 0)), (1, .int x1), (2, .int x2), (3, .int x3)] → qa_O D 33 ad (me_en cI cZ ad) A s.heap g H locs → mf_Mo_trigger_73 k2 g x1 x2 x3 = some T → W p l e (qa_rm 2 46) s m args below meth c H locs 0 0 Q (F0 m 73 ls []) := by
    intro k2 hk2
    intro g x1 x2 x3 ls H locs hl hO hT
    unfold mf_Mo_trigger_73 at hT
    refine lv_aload_n hx hb d_Mo_trigger_73 rfl (lv_at hl 0 rfl) ?_
    refine qa_get S hK hO hi_Mo 0 (by decide) rfl rfl 3 (by decide) lf_Mo_16 rfl rfl d_Mo_trigger_74 ?_
    refine lv_iload_n hx hb d_Mo_trigger_77 rfl (lv_at hl 3 rfl) ?_
    obtain ⟨hi78, hT⟩ := qa_c hT
    refine qa_iald (n := 6) S hK hO 3 (by decide) 0 (me_arr rfl) rfl hi78 d_Mo_trigger_78 ?_
    refine lv_if_lt (tgt := 132) hx hb d_Mo_trigger_79 (by decide) (fun h => ?_) (fun h => ?_)
    · have hT := qa_t hT h
      refine lv_iinc (lv' := [(2, .int (x2 + 1)), (0, .ref (ad 0)), (1, .int x1), (3, .int x3)]) hx hb d_Mo_trigger_132 hl (k := 2) rfl (qa_o1 _) (by decide) rfl (fun ls hl => ?_)
      refine lv_goto (tgt := 2) hx hb d_Mo_trigger_135 (by decide) ?_
      exact hk2 g x1 (x2 + 1) _ _ _ (lv_sub hl [1, 2, 0] rfl) hO hT
    · have hT := qa_f hT h
      refine lv_aload_n hx hb d_Mo_trigger_82 rfl (lv_at hl 0 rfl) ?_
      refine qa_get S hK hO hi_Mo 0 (by decide) rfl rfl 32 (by decide) lf_Mo_226 rfl rfl d_Mo_trigger_83 ?_
      refine lv_if_le (tgt := 101) hx hb d_Mo_trigger_86 (by decide) (fun h => ?_) (fun h => ?_)
      · have hT := qa_t hT h
        exact b101 g x3 _ _ _ (lv_sub hl [0, 3] rfl) hO hT
      · have hT := qa_f hT h
        refine lv_aload_n hx hb d_Mo_trigger_89 rfl (lv_at hl 0 rfl) ?_
        refine qa_get S hK hO hi_Mo 0 (by decide) rfl rfl 37 (by decide) lf_Mo_83 rfl rfl d_Mo_trigger_90 ?_
        refine lv_aload_n hx hb d_Mo_trigger_93 rfl (lv_at hl 0 rfl) ?_
        refine qa_get S hK hO hi_Mo 0 (by decide) rfl rfl 32 (by decide) lf_Mo_226 rfl rfl d_Mo_trigger_94 ?_
        refine lv_iconst (v := 1) hx hb d_Mo_trigger_97 (by decide) ?_
        refine lv_isub hx hb d_Mo_trigger_98 ?_
        refine lv_iconst (v := 1) hx hb d_Mo_trigger_99 (by decide) ?_
        obtain ⟨hi100, hT⟩ := qa_c hT
        refine qa_zast (n := 10) S hK hO 25 (by decide) 3 (me_zar rfl) rfl hi100 rfl d_Mo_trigger_100 (fun H locs hO => ?_)
        exact b101 (qa_up g 25 ((g 0 32) - (1 : Int32)).toNatClampNeg (1 : Int32)) x3 _ _ _ (lv_sub hl [0, 3] rfl) hO hT
  have b34 : ∀ (k2 : qa_St → Int32 → Int32 → qa_Re) (hk2 : ∀ (g : qa_St) (x1 : Int32) (x2 : Int32) (ls : Array Slot) (H : Heap) (locs : List Loc), lv_has ls 5 [(0, .ref (ad 0)), (1, .int x1), (2, .int x2)] → qa_O D 33 ad (me_en cI cZ ad) A s.heap g H locs → k2 g x1 x2 = some T → W p l e (qa_rm 2 46) s m args below meth c H locs 0 0 Q (F0 m 2 ls [])) (k13 : qa_St → Int32 → Int32 → Int32 → Int32 → qa_Re) (hk13 : ∀ (g : qa_St) (x1 : Int32) (x2 : Int32) (x3 : Int32) (x4 : Int32) (ls : Array Slot) (H : Heap) (locs : List Loc), lv_has ls 5 [(0, .ref (ad 0)), (1, .int x1), (2, .int x2), (3, .int x3), (4, .int x4)] → qa_O D 33 ad (me_en cI cZ ad) A s.heap g H locs → k13 g x1 x2 x3 x4 = some T → W p l e (qa_rm 2 46) s m args below meth c H locs 0 0 Q (F0 m 13 ls [])), ∀ (g : qa_St) (x1 : Int32) (x2 : Int32) (x4 : Int32) (s0 : Int32) (ls : Array Slot) (H : Heap) (locs : List Loc), lv_has ls 5 [(0, .ref (ad 0)), (1, .int x1), (2, .int x2), (4, .int x4)] → qa_O D 33 ad (me_en cI cZ ad) A s.heap g H locs → mf_Mo_trigger_34 k2 k13 g x1 x2 x4 s0 = some T → W p l e (qa_rm 2 46) s m args below meth c H locs 0 0 Q (F0 m 34 ls [.int s0]) := by
    intro k2 hk2 k13 hk13
    intro g x1 x2 x4 s0 ls H locs hl hO hT
    unfold mf_Mo_trigger_34 at hT
    refine lv_istore_n (lv' := [(3, .int s0), (0, .ref (ad 0)), (1, .int x1), (2, .int x2), (4, .int x4)]) hx hb d_Mo_trigger_34 rfl hl (by decide) rfl (fun ls hl => ?_)
    refine lv_aload_n hx hb d_Mo_trigger_35 rfl (lv_at hl 1 rfl) ?_
    refine qa_get S hK hO hi_Mo 0 (by decide) rfl rfl 1 (by decide) lf_Mo_7 rfl rfl d_Mo_trigger_36 ?_
    refine lv_iload hx hb d_Mo_trigger_39 (lv_at hl 4 rfl) ?_
    obtain ⟨hi41, hT⟩ := qa_c hT
    refine qa_iald (n := 6) S hK hO 1 (by decide) 0 (me_arr rfl) rfl hi41 d_Mo_trigger_41 ?_
    refine lv_istore (lv' := [(4, .int (g 1 x4.toNatClampNeg)), (3, .int s0), (0, .ref (ad 0)), (1, .int x1), (2, .int x2)]) hx hb d_Mo_trigger_42 hl (by decide) rfl (fun ls hl => ?_)
    refine lv_goto (tgt := 13) hx hb d_Mo_trigger_44 (by decide) ?_
    exact hk13 g x1 x2 s0 (g 1 x4.toNatClampNeg) _ _ _ (lv_sub hl [2, 3, 4, 1, 0] rfl) hO hT
  have b13 : ∀ (k2 : qa_St → Int32 → Int32 → qa_Re) (hk2 : ∀ (g : qa_St) (x1 : Int32) (x2 : Int32) (ls : Array Slot) (H : Heap) (locs : List Loc), lv_has ls 5 [(0, .ref (ad 0)), (1, .int x1), (2, .int x2)] → qa_O D 33 ad (me_en cI cZ ad) A s.heap g H locs → k2 g x1 x2 = some T → W p l e (qa_rm 2 46) s m args below meth c H locs 0 0 Q (F0 m 2 ls [])), ∀ (n : Nat), ∀ (g : qa_St) (x1 : Int32) (x2 : Int32) (x3 : Int32) (x4 : Int32) (ls : Array Slot) (H : Heap) (locs : List Loc), lv_has ls 5 [(0, .ref (ad 0)), (1, .int x1), (2, .int x2), (3, .int x3), (4, .int x4)] → qa_O D 33 ad (me_en cI cZ ad) A s.heap g H locs → mf_Mo_trigger_13 k2 n g x1 x2 x3 x4 = some T → W p l e (qa_rm 2 46) s m args below meth c H locs 0 0 Q (F0 m 13 ls []) := by
    intro k2 hk2
    intro n
    induction n with
    | zero => intro g x1 x2 x3 x4 ls H locs hl hO hT; rw [mf_Mo_trigger_13] at hT; cases hT
    | succ n ih =>
      intro g x1 x2 x3 x4 ls H locs hl hO hT
      rw [mf_Mo_trigger_13] at hT
      refine lv_iload hx hb d_Mo_trigger_13 (lv_at hl 4 rfl) ?_
      refine lv_if_lt (tgt := 47) hx hb d_Mo_trigger_15 (by decide) (fun h => ?_) (fun h => ?_)
      · have hT := qa_t hT h
        refine lv_iload_n hx hb d_Mo_trigger_47 rfl (lv_at hl 3 rfl) ?_
        refine lv_if_ge (tgt := 53) hx hb d_Mo_trigger_48 (by decide) (fun h => ?_) (fun h => ?_)
        · have hT := qa_t hT h
          refine lv_aload_n hx hb d_Mo_trigger_53 rfl (lv_at hl 0 rfl) ?_
          refine qa_get S hK hO hi_Mo 0 (by decide) rfl rfl 44 (by decide) lf_Mo_101 rfl rfl d_Mo_trigger_54 ?_
          refine lv_iload_n hx hb d_Mo_trigger_57 rfl (lv_at hl 3 rfl) ?_
          refine lv_aload_n hx hb d_Mo_trigger_58 rfl (lv_at hl 0 rfl) ?_
          refine qa_get S hK hO hi_Mo 0 (by decide) rfl rfl 45 (by decide) lf_Mo_232 rfl rfl d_Mo_trigger_59 ?_
          obtain ⟨hi62, hT⟩ := qa_c hT
          refine qa_iast (n := 6) S hK hO 31 (by decide) 0 (me_arr rfl) rfl hi62 d_Mo_trigger_62 (fun H locs hO => ?_)
          refine lv_aload_n hx hb d_Mo_trigger_63 rfl (lv_at hl 0 rfl) ?_
          refine lv_dup hx hb d_Mo_trigger_64 rfl ?_
          refine qa_get S hK hO hi_Mo 0 (by decide) rfl rfl 45 (by decide) lf_Mo_232 rfl rfl d_Mo_trigger_65 ?_
          refine lv_iconst (v := 1) hx hb d_Mo_trigger_68 (by decide) ?_
          refine lv_iadd hx hb d_Mo_trigger_69 ?_
          refine qa_put S hK hO hi_Mo t_Mo t_Mo_ok n_Mo 0 (by decide) rfl rfl 45 (by decide) lf_Mo_232 rfl rfl (ty := .int) (by decide +kernel) rfl rfl (Nat.le_of_ble_eq_true rfl) rfl d_Mo_trigger_70 (fun H locs hO => ?_)
          exact b73 k2 hk2 (qa_up (qa_up g 31 x3.toNatClampNeg (g 0 45)) 0 45 (((qa_up g 31 x3.toNatClampNeg (g 0 45)) 0 45) + (1 : Int32))) x1 x2 x3 _ _ _ (lv_sub hl [0, 1, 2, 3] rfl) hO hT
        · have hT := qa_f hT h
          refine lv_iconst (v := 1) hx hb d_Mo_trigger_51 (by decide) ?_
          exact ret (by decide) hT hO d_Mo_trigger_52
      · have hT := qa_f hT h
        refine lv_aload_n hx hb d_Mo_trigger_18 rfl (lv_at hl 0 rfl) ?_
        refine qa_get S hK hO hi_Mo 0 (by decide) rfl rfl 44 (by decide) lf_Mo_101 rfl rfl d_Mo_trigger_19 ?_
        refine lv_iload hx hb d_Mo_trigger_22 (lv_at hl 4 rfl) ?_
        obtain ⟨hi24, hT⟩ := qa_c hT
        refine qa_iald (n := 6) S hK hO 31 (by decide) 0 (me_arr rfl) rfl hi24 d_Mo_trigger_24 ?_
        refine lv_if_ge (tgt := 33) hx hb d_Mo_trigger_25 (by decide) (fun h => ?_) (fun h => ?_)
        · have hT := qa_t hT h
          refine lv_iload_n hx hb d_Mo_trigger_33 rfl (lv_at hl 3 rfl) ?_
          exact b34 k2 hk2 (mf_Mo_trigger_13 k2 n) ih g x1 x2 x4 x3 _ _ _ (lv_sub hl [0, 1, 2, 4] rfl) hO hT
        · have hT := qa_f hT h
          refine lv_iload hx hb d_Mo_trigger_28 (lv_at hl 4 rfl) ?_
          refine lv_goto (tgt := 34) hx hb d_Mo_trigger_30 (by decide) ?_
          exact b34 k2 hk2 (mf_Mo_trigger_13 k2 n) ih g x1 x2 x4 x4 _ _ _ (lv_sub hl [0, 1, 2, 4] rfl) hO hT
  have b2 : ∀ (n : Nat), ∀ (g : qa_St) (x1 : Int32) (x2 : Int32) (ls : Array Slot) (H : Heap) (locs : List Loc), lv_has ls 5 [(0, .ref (ad 0)), (1, .int x1), (2, .int x2)] → qa_O D 33 ad (me_en cI cZ ad) A s.heap g H locs → mf_Mo_trigger_2 n g x1 x2 = some T → W p l e (qa_rm 2 46) s m args below meth c H locs 0 0 Q (F0 m 2 ls []) := by
    intro n
    induction n with
    | zero => intro g x1 x2 ls H locs hl hO hT; rw [mf_Mo_trigger_2] at hT; cases hT
    | succ n ih =>
      intro g x1 x2 ls H locs hl hO hT
      rw [mf_Mo_trigger_2] at hT
      refine lv_iload_n hx hb d_Mo_trigger_2 rfl (lv_at hl 2 rfl) ?_
      refine lv_bipush (v := 7) hx hb d_Mo_trigger_3 (by decide) ?_
      refine lv_icmp_ge (tgt := 138) hx hb d_Mo_trigger_5 (by decide) (fun h => ?_) (fun h => ?_)
      · have hT := qa_t hT h
        refine lv_iconst (v := 0) hx hb d_Mo_trigger_138 (by decide) ?_
        exact ret (by decide) hT hO d_Mo_trigger_139
      · have hT := qa_f hT h
        refine lv_iconst (v := -1) hx hb d_Mo_trigger_8 (by decide) ?_
        refine lv_istore_n (lv' := [(3, .int (-1 : Int32)), (0, .ref (ad 0)), (1, .int x1), (2, .int x2)]) hx hb d_Mo_trigger_9 rfl hl (by decide) rfl (fun ls hl => ?_)
        refine lv_iload_n hx hb d_Mo_trigger_10 rfl (lv_at hl 2 rfl) ?_
        refine lv_istore (lv' := [(4, .int x1), (3, .int (-1 : Int32)), (0, .ref (ad 0)), (1, .int x1), (2, .int x2)]) hx hb d_Mo_trigger_11 hl (by decide) rfl (fun ls hl => ?_)
        exact b13 (mf_Mo_trigger_2 n) ih 4096 g x1 x2 (-1 : Int32) x1 _ _ _ (lv_sub hl [2, 3, 4, 1, 0] rfl) hO hT
  unfold mf_Mo_trigger at hT
  refine lv_iconst (v := 0) hx hb d_Mo_trigger_0 (by decide) ?_
  refine lv_istore_n (lv' := [(2, .int (0 : Int32)), (0, .ref (ad 0)), (1, .int x1)]) hx hb d_Mo_trigger_1 rfl hl (by decide) rfl (fun ls hl => ?_)
  exact b2 4096 g x1 (0 : Int32) _ _ _ (lv_sub hl [1, 2, 0] rfl) hO hT
