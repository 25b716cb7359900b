def mf_Mo_join_60 (g : qa_St) (x3 : Int32) : qa_Re := (if 0 ≤ x3 then (some (x3, g)) else (some ((8 : Int32), g)))
def mf_Mo_join_27 : Nat → qa_St → Int32 → Int32 → Int32 → qa_Re
  | 0, _, _, _, _ => none
  | n + 1, g, x2, x3, x4 => (if (6 : Int32) ≤ x4 then (mf_Mo_join_60 g x3) else (if x3 < 0 then (mf_Mo_join_60 g x3) else ((mf_Mo_isOf g x2 x3).bind fun t41 => (if t41.1 = 0 then (if x3 < 0 ∨ 6 ≤ x3.toNatClampNeg then none else ((mf_Mo_join_27 n) t41.2 x2 (t41.2 1 x3.toNatClampNeg) (x4 + 1))) else (mf_Mo_join_60 t41.2 x3)))))
def mf_Mo_join (g : qa_St) (x1 : Int32) (x2 : Int32) : qa_Re := (if x1 = x2 then (some (x1, g)) else (if (8 : Int32) ≤ x1 then (some ((8 : Int32), g)) else (if x2 < (8 : Int32) then (mf_Mo_join_27 4096 g x2 x1 (0 : Int32)) else (some ((8 : Int32), g)))))
set_option maxHeartbeats 4000000 in
set_option maxRecDepth 100000 in
theorem mc_Mo_join (l : Launch) (D : va_G) (cI cJ cF cZ : ClassId) (ad : Nat → Nat) (g : qa_St) (x1 : Int32) (x2 : Int32) : qa_Mi l y_Mo_join (qa_ws y_Mo_join b_Mo_join 5 (some .int)) (qa_rm 1 24) D (qa_ty cI cJ cF cZ) 33 ad (me_en cI cZ ad) [.ref (ad 0), .int x1, .int x2] g (mf_Mo_join g x1 x2) := by
  refine qa_meti (by decide) (Nat.le_of_ble_eq_true rfl) ?_
  intro p e s m args below meth c Q A T S hK hN hA hT ret ls hl hO
  have hx := S.1
  have hb := S.2.1
  have hl : lv_has ls 5 [(0, .ref (ad 0)), (1, .int x1), (2, .int x2)] := hl
  have b60 : ∀ (g : qa_St) (x3 : Int32) (ls : Array Slot) (H : Heap) (locs : List Loc), lv_has ls 5 [(3, .int x3)] → qa_O D 33 ad (me_en cI cZ ad) A s.heap g H locs → mf_Mo_join_60 g x3 = some T → W p l e (qa_rm 1 24) s m args below meth c H locs 0 0 Q (F0 m 60 ls []) := by
    intro g x3 ls H locs hl hO hT
    unfold mf_Mo_join_60 at hT
    refine lv_iload_n hx hb d_Mo_join_60 rfl (lv_at hl 0 rfl) ?_
    refine lv_if_ge (tgt := 69) hx hb d_Mo_join_61 (by decide) (fun h => ?_) (fun h => ?_)
    · have hT := qa_t hT h
      refine lv_iload_n hx hb d_Mo_join_69 rfl (lv_at hl 0 rfl) ?_
      exact ret hT hO d_Mo_join_70
    · have hT := qa_f hT h
      refine lv_bipush (v := 8) hx hb d_Mo_join_64 (by decide) ?_
      refine lv_goto (tgt := 70) hx hb d_Mo_join_66 (by decide) ?_
      exact ret hT hO d_Mo_join_70
  have b27 : ∀ (n : Nat), ∀ (g : qa_St) (x2 : Int32) (x3 : Int32) (x4 : Int32) (ls : Array Slot) (H : Heap) (locs : List Loc), lv_has ls 5 [(0, .ref (ad 0)), (2, .int x2), (3, .int x3), (4, .int x4)] → qa_O D 33 ad (me_en cI cZ ad) A s.heap g H locs → mf_Mo_join_27 n g x2 x3 x4 = some T → W p l e (qa_rm 1 24) s m args below meth c H locs 0 0 Q (F0 m 27 ls []) := by
    intro n
    induction n with
    | zero => intro g x2 x3 x4 ls H locs hl hO hT; rw [mf_Mo_join_27] at hT; cases hT
    | succ n ih =>
      intro g x2 x3 x4 ls H locs hl hO hT
      rw [mf_Mo_join_27] at hT
      refine lv_iload hx hb d_Mo_join_27 (lv_at hl 3 rfl) ?_
      refine lv_bipush (v := 6) hx hb d_Mo_join_29 (by decide) ?_
      refine lv_icmp_ge (tgt := 60) hx hb d_Mo_join_31 (by decide) (fun h => ?_) (fun h => ?_)
      · have hT := qa_t hT h
        exact b60 g x3 _ _ _ (lv_sub hl [2] rfl) hO hT
      · have hT := qa_f hT h
        refine lv_iload_n hx hb d_Mo_join_34 rfl (lv_at hl 2 rfl) ?_
        refine lv_if_lt (tgt := 60) hx hb d_Mo_join_35 (by decide) (fun h => ?_) (fun h => ?_)
        · have hT := qa_t hT h
          exact b60 g x3 _ _ _ (lv_sub hl [2] rfl) hO hT
        · have hT := qa_f hT h
          refine lv_aload_n hx hb d_Mo_join_38 rfl (lv_at hl 0 rfl) ?_
          refine lv_iload_n hx hb d_Mo_join_39 rfl (lv_at hl 1 rfl) ?_
          refine lv_iload_n hx hb d_Mo_join_40 rfl (lv_at hl 2 rfl) ?_
          obtain ⟨t41, ht41, hT⟩ := qa_b hT
          refine qa_Vi (As := [.int x2, .int x3]) (rest := []) (r := 0) S hK hN hA hO (mc_Mo_isOf l D cI cJ cF cZ ad g x2 x3) ht41 qy_Mo_isOf lm_Mo_142 ⟨by decide, by decide⟩ (by decide) rfl rfl rfl rfl hl.1 rfl (Nat.le_of_ble_eq_true rfl) d_Mo_join_41 (fun H locs hO => ?_)
          refine lv_if_ne (tgt := 60) hx hb d_Mo_join_44 (by decide) (fun h => ?_) (fun h => ?_)
          · have hT := qa_f hT h
            exact b60 t41.2 x3 _ _ _ (lv_sub hl [2] rfl) hO hT
          · have hT := qa_t hT h
            refine lv_aload_n hx hb d_Mo_join_47 rfl (lv_at hl 0 rfl) ?_
            refine qa_get S hK hO hi_Mo 0 (by decide) rfl rfl 1 (by decide) lf_Mo_7 rfl rfl d_Mo_join_48 ?_
            refine lv_iload_n hx hb d_Mo_join_51 rfl (lv_at hl 2 rfl) ?_
            obtain ⟨hi52, hT⟩ := qa_c hT
            refine qa_iald (n := 6) S hK hO 1 (by decide) 0 (me_arr rfl) rfl hi52 d_Mo_join_52 ?_
            refine lv_istore_n (lv' := [(3, .int (t41.2 1 x3.toNatClampNeg)), (0, .ref (ad 0)), (2, .int x2), (4, .int x4)]) hx hb d_Mo_join_53 rfl hl (by decide) rfl (fun ls hl => ?_)
            refine lv_iinc (lv' := [(4, .int (x4 + 1)), (3, .int (t41.2 1 x3.toNatClampNeg)), (0, .ref (ad 0)), (2, .int x2)]) hx hb d_Mo_join_54 hl (k := 3) rfl (qa_o1 _) (by decide) rfl (fun ls hl => ?_)
            refine lv_goto (tgt := 27) hx hb d_Mo_join_57 (by decide) ?_
            exact ih t41.2 x2 (t41.2 1 x3.toNatClampNeg) (x4 + 1) _ _ _ (lv_sub hl [2, 3, 1, 0] rfl) hO hT
  unfold mf_Mo_join at hT
  refine lv_iload_n hx hb d_Mo_join_0 rfl (lv_at hl 1 rfl) ?_
  refine lv_iload_n hx hb d_Mo_join_1 rfl (lv_at hl 2 rfl) ?_
  refine lv_icmp_ne (tgt := 7) hx hb d_Mo_join_2 (by decide) (fun h => ?_) (fun h => ?_)
  · have hT := qa_f hT h
    refine lv_iload_n hx hb d_Mo_join_7 rfl (lv_at hl 1 rfl) ?_
    refine lv_bipush (v := 8) hx hb d_Mo_join_8 (by decide) ?_
    refine lv_icmp_ge (tgt := 19) hx hb d_Mo_join_10 (by decide) (fun h => ?_) (fun h => ?_)
    · have hT := qa_t hT h
      refine lv_bipush (v := 8) hx hb d_Mo_join_19 (by decide) ?_
      exact ret hT hO d_Mo_join_21
    · have hT := qa_f hT h
      refine lv_iload_n hx hb d_Mo_join_13 rfl (lv_at hl 2 rfl) ?_
      refine lv_bipush (v := 8) hx hb d_Mo_join_14 (by decide) ?_
      refine lv_icmp_lt (tgt := 22) hx hb d_Mo_join_16 (by decide) (fun h => ?_) (fun h => ?_)
      · have hT := qa_t hT h
        refine lv_iload_n hx hb d_Mo_join_22 rfl (lv_at hl 1 rfl) ?_
        refine lv_istore_n (lv' := [(3, .int x1), (0, .ref (ad 0)), (1, .int x1), (2, .int x2)]) hx hb d_Mo_join_23 rfl hl (by decide) rfl (fun ls hl => ?_)
        refine lv_iconst (v := 0) hx hb d_Mo_join_24 (by decide) ?_
        refine lv_istore (lv' := [(4, .int (0 : Int32)), (3, .int x1), (0, .ref (ad 0)), (1, .int x1), (2, .int x2)]) hx hb d_Mo_join_25 hl (by decide) rfl (fun ls hl => ?_)
        exact b27 4096 g x2 x1 (0 : Int32) _ _ _ (lv_sub hl [2, 4, 1, 0] rfl) hO hT
      · have hT := qa_f hT h
        refine lv_bipush (v := 8) hx hb d_Mo_join_19 (by decide) ?_
        exact ret hT hO d_Mo_join_21
  · have hT := qa_t hT h
    refine lv_iload_n hx hb d_Mo_join_5 rfl (lv_at hl 1 rfl) ?_
    exact ret hT hO d_Mo_join_6
def mf_Mo_arrive_148 (k54 : qa_St → Int32 → Int32 → qa_Re) (g : qa_St) (x3 : Int32) (x4 : Int32) (x5 : Int32) (s0 : Int32) : qa_Re := (if s0 = 0 ∨ s0 = 1 then (if (((10 : Int32) * x3) + x4) < 0 ∨ 2000 ≤ (((10 : Int32) * x3) + x4).toNatClampNeg then none else (k54 (qa_up (qa_up g 0 22 s0) 16 (((10 : Int32) * x3) + x4).toNatClampNeg x5) x3 (x4 + 1))) else none)
def mf_Mo_arrive_143 (k54 : qa_St → Int32 → Int32 → qa_Re) (g : qa_St) (x3 : Int32) (x4 : Int32) (x5 : Int32) : qa_Re := (mf_Mo_arrive_148 k54 g x3 x4 x5 (1 : Int32))
def mf_Mo_arrive_107 (k54 : qa_St → Int32 → Int32 → qa_Re) (g : qa_St) (x3 : Int32) (x4 : Int32) (s0 : Int32) : qa_Re := (if (g 0 22) = 0 then (if x3 < 0 ∨ 200 ≤ x3.toNatClampNeg then none else (if (g 14 x3.toNatClampNeg) = 0 then (mf_Mo_arrive_143 k54 g x3 x4 s0) else (if (((10 : Int32) * x3) + x4) < 0 ∨ 2000 ≤ (((10 : Int32) * x3) + x4).toNatClampNeg then none else (if s0 = (g 16 (((10 : Int32) * x3) + x4).toNatClampNeg) then (mf_Mo_arrive_148 k54 g x3 x4 s0 (0 : Int32)) else (mf_Mo_arrive_143 k54 g x3 x4 s0))))) else (mf_Mo_arrive_143 k54 g x3 x4 s0))
def mf_Mo_arrive_54 : Nat → qa_St → Int32 → Int32 → qa_Re
  | 0, _, _, _ => none
  | n + 1, g, x3, x4 => (if ((4 : Int32) + (g 0 20)) ≤ x4 then (if x3 < 0 ∨ 200 ≤ x3.toNatClampNeg then none else (if x3 < 0 ∨ 200 ≤ x3.toNatClampNeg then none else (some (0, (qa_up (qa_up g 14 x3.toNatClampNeg (1 : Int32)) 15 x3.toNatClampNeg ((qa_up g 14 x3.toNatClampNeg (1 : Int32)) 0 20)))))) else (if x3 < 0 ∨ 200 ≤ x3.toNatClampNeg then none else (if (g 14 x3.toNatClampNeg) = 0 then (if x4 < 0 ∨ 10 ≤ x4.toNatClampNeg then none else (mf_Mo_arrive_107 (mf_Mo_arrive_54 n) g x3 x4 (g 17 x4.toNatClampNeg))) else (if (((10 : Int32) * x3) + x4) < 0 ∨ 2000 ≤ (((10 : Int32) * x3) + x4).toNatClampNeg then none else (if x4 < 0 ∨ 10 ≤ x4.toNatClampNeg then none else ((mf_Mo_join g (g 16 (((10 : Int32) * x3) + x4).toNatClampNeg) (g 17 x4.toNatClampNeg)).bind fun t94 => (mf_Mo_arrive_107 (mf_Mo_arrive_54 n) t94.2 x3 x4 t94.1)))))))
def mf_Mo_arrive_51 (g : qa_St) (x3 : Int32) : qa_Re := (mf_Mo_arrive_54 4096 g x3 (0 : Int32))
def mf_Mo_arrive (g : qa_St) (x1 : Int32) (x2 : Int32) : qa_Re := (if x1 < 0 ∨ 10 ≤ x1.toNatClampNeg then none else (if x2 < (g 7 x1.toNatClampNeg) then (if (((20 : Int32) * x1) + x2) < 0 ∨ 200 ≤ (((20 : Int32) * x1) + x2).toNatClampNeg then none else (if (g 14 (((20 : Int32) * x1) + x2).toNatClampNeg) = 0 then (mf_Mo_arrive_51 g (((20 : Int32) * x1) + x2)) else (if (((20 : Int32) * x1) + x2) < 0 ∨ 200 ≤ (((20 : Int32) * x1) + x2).toNatClampNeg then none else (if (g 15 (((20 : Int32) * x1) + x2).toNatClampNeg) = (g 0 20) then (mf_Mo_arrive_51 g (((20 : Int32) * x1) + x2)) else (some (0, (qa_up g 0 21 (1 : Int32)))))))) else (some (0, (qa_up g 0 21 (1 : Int32))))))
set_option maxHeartbeats 4000000 in
set_option maxRecDepth 100000 in
theorem mc_Mo_arrive (l : Launch) (D : va_G) (cI cJ cF cZ : ClassId) (ad : Nat → Nat) (g : qa_St) (x1 : Int32) (x2 : Int32) : qa_Mv l y_Mo_arrive (qa_ws y_Mo_arrive b_Mo_arrive 6 none) (qa_rm 2 48) D (qa_ty cI cJ cF cZ) 33 ad (me_en cI cZ ad) [.ref (ad 0), .int x1, .int x2] g (mf_Mo_arrive g x1 x2) := by
  refine qa_metv (by decide) (Nat.le_of_ble_eq_true rfl) ?_
  intro p e s m args below meth c Q A T S hK hN hA hT ret ls hl hO
  have hx := S.1
  have hb := S.2.1
  have hl : lv_has ls 6 [(0, .ref (ad 0)), (1, .int x1), (2, .int x2)] := hl
  have b148 : ∀ (k54 : qa_St → Int32 → Int32 → qa_Re) (hk54 : ∀ (g : qa_St) (x3 : Int32) (x4 : Int32) (ls : Array Slot) (H : Heap) (locs : List Loc), lv_has ls 6 [(0, .ref (ad 0)), (3, .int x3), (4, .int x4)] → qa_O D 33 ad (me_en cI cZ ad) A s.heap g H locs → k54 g x3 x4 = some T → W p l e (qa_rm 2 48) s m args below meth c H locs 0 0 Q (F0 m 54 ls [])), ∀ (g : qa_St) (x3 : Int32) (x4 : Int32) (x5 : Int32) (s0 : Int32) (ls : Array Slot) (H : Heap) (locs : List Loc), lv_has ls 6 [(0, .ref (ad 0)), (3, .int x3), (4, .int x4), (5, .int x5)] → qa_O D 33 ad (me_en cI cZ ad) A s.heap g H locs → mf_Mo_arrive_148 k54 g x3 x4 x5 s0 = some T → W p l e (qa_rm 2 48) s m args below meth c H locs 0 0 Q (F0 m 148 ls [.int s0, .ref (ad 0)]) := by
    intro k54 hk54
    intro g x3 x4 x5 s0 ls H locs hl hO hT
    unfold mf_Mo_arrive_148 at hT
    obtain ⟨hz148, hT⟩ := qa_k hT
    refine qa_put S hK hO hi_Mo t_Mo t_Mo_ok n_Mo 0 (by decide) rfl rfl 22 (by decide) lf_Mo_157 rfl rfl (ty := .boolean) (by decide +kernel) (qa_nz hz148) (qa_fz hz148) (Nat.le_of_ble_eq_true rfl) rfl d_Mo_arrive_148 (fun H locs hO => ?_)
    refine lv_aload_n hx hb d_Mo_arrive_151 rfl (lv_at hl 0 rfl) ?_
    refine qa_get S hK hO hi_Mo 0 (by decide) rfl rfl 18 (by decide) lf_Mo_56 rfl rfl d_Mo_arrive_152 ?_
    refine lv_bipush (v := 10) hx hb d_Mo_arrive_155 (by decide) ?_
    refine lv_iload_n hx hb d_Mo_arrive_157 rfl (lv_at hl 1 rfl) ?_
    refine lv_imul hx hb d_Mo_arrive_158 ?_
    refine lv_iload hx hb d_Mo_arrive_159 (lv_at hl 2 rfl) ?_
    refine lv_iadd hx hb d_Mo_arrive_161 ?_
    refine lv_iload hx hb d_Mo_arrive_162 (lv_at hl 3 rfl) ?_
    obtain ⟨hi164, hT⟩ := qa_c hT
    refine qa_iast (n := 2000) S hK hO 16 (by decide) 0 (me_arr rfl) rfl hi164 d_Mo_arrive_164 (fun H locs hO => ?_)
    refine lv_iinc (lv' := [(4, .int (x4 + 1)), (0, .ref (ad 0)), (3, .int x3), (5, .int x5)]) hx hb d_Mo_arrive_165 hl (k := 2) rfl (qa_o1 _) (by decide) rfl (fun ls hl => ?_)
    refine lv_goto (tgt := 54) hx hb d_Mo_arrive_168 (by decide) ?_
    exact hk54 (qa_up (qa_up g 0 22 s0) 16 (((10 : Int32) * x3) + x4).toNatClampNeg x5) x3 (x4 + 1) _ _ _ (lv_sub hl [1, 2, 0] rfl) hO hT
  have b143 : ∀ (k54 : qa_St → Int32 → Int32 → qa_Re) (hk54 : ∀ (g : qa_St) (x3 : Int32) (x4 : Int32) (ls : Array Slot) (H : Heap) (locs : List Loc), lv_has ls 6 [(0, .ref (ad 0)), (3, .int x3), (4, .int x4)] → qa_O D 33 ad (me_en cI cZ ad) A s.heap g H locs → k54 g x3 x4 = some T → W p l e (qa_rm 2 48) s m args below meth c H locs 0 0 Q (F0 m 54 ls [])), ∀ (g : qa_St) (x3 : Int32) (x4 : Int32) (x5 : Int32) (ls : Array Slot) (H : Heap) (locs : List Loc), lv_has ls 6 [(0, .ref (ad 0)), (3, .int x3), (4, .int x4), (5, .int x5)] → qa_O D 33 ad (me_en cI cZ ad) A s.heap g H locs → mf_Mo_arrive_143 k54 g x3 x4 x5 = some T → W p l e (qa_rm 2 48) s m args below meth c H locs 0 0 Q (F0 m 143 ls [.ref (ad 0)]) := by
    intro k54 hk54
    intro g x3 x4 x5 ls H locs hl hO hT
    unfold mf_Mo_arrive_143 at hT
    refine lv_iconst (v := 1) hx hb d_Mo_arrive_143 (by decide) ?_
    refine lv_goto (tgt := 148) hx hb d_Mo_arrive_144 (by decide) ?_
    exact b148 k54 hk54 g x3 x4 x5 (1 : Int32) _ _ _ (lv_sub hl [0, 1, 2, 3] rfl) hO hT
  have b107 : ∀ (k54 : qa_St → Int32 → Int32 → qa_Re) (hk54 : ∀ (g : qa_St) (x3 : Int32) (x4 : Int32) (ls : Array Slot) (H : Heap) (locs : List Loc), lv_has ls 6 [(0, .ref (ad 0)), (3, .int x3), (4, .int x4)] → qa_O D 33 ad (me_en cI cZ ad) A s.heap g H locs → k54 g x3 x4 = some T → W p l e (qa_rm 2 48) s m args below meth c H locs 0 0 Q (F0 m 54 ls [])), ∀ (g : qa_St) (x3 : Int32) (x4 : Int32) (s0 : Int32) (ls : Array Slot) (H : Heap) (locs : List Loc), lv_has ls 6 [(0, .ref (ad 0)), (3, .int x3), (4, .int x4)] → qa_O D 33 ad (me_en cI cZ ad) A s.heap g H locs → mf_Mo_arrive_107 k54 g x3 x4 s0 = some T → W p l e (qa_rm 2 48) s m args below meth c H locs 0 0 Q (F0 m 107 ls [.int s0]) := by
    intro k54 hk54
    intro g x3 x4 s0 ls H locs hl hO hT
    unfold mf_Mo_arrive_107 at hT
    refine lv_istore (lv' := [(5, .int s0), (0, .ref (ad 0)), (3, .int x3), (4, .int x4)]) hx hb d_Mo_arrive_107 hl (by decide) rfl (fun ls hl => ?_)
    refine lv_aload_n hx hb d_Mo_arrive_109 rfl (lv_at hl 1 rfl) ?_
    refine lv_aload_n hx hb d_Mo_arrive_110 rfl (lv_at hl 1 rfl) ?_
    refine qa_get S hK hO hi_Mo 0 (by decide) rfl rfl 22 (by decide) lf_Mo_157 rfl rfl d_Mo_arrive_111 ?_
    refine lv_if_ne (tgt := 143) hx hb d_Mo_arrive_114 (by decide) (fun h => ?_) (fun h => ?_)
    · have hT := qa_f hT h
      exact b143 k54 hk54 g x3 x4 s0 _ _ _ (lv_sub hl [1, 2, 3, 0] rfl) hO hT
    · have hT := qa_t hT h
      refine lv_aload_n hx hb d_Mo_arrive_117 rfl (lv_at hl 1 rfl) ?_
      refine qa_get S hK hO hi_Mo 0 (by decide) rfl rfl 16 (by decide) lf_Mo_49 rfl rfl d_Mo_arrive_118 ?_
      refine lv_iload_n hx hb d_Mo_arrive_121 rfl (lv_at hl 2 rfl) ?_
      obtain ⟨hi122, hT⟩ := qa_c hT
      refine qa_zald (n := 200) S hK hO 14 (by decide) 3 (me_zar rfl) rfl hi122 d_Mo_arrive_122 ?_
      refine lv_if_eq (tgt := 143) hx hb d_Mo_arrive_123 (by decide) (fun h => ?_) (fun h => ?_)
      · have hT := qa_t hT h
        exact b143 k54 hk54 g x3 x4 s0 _ _ _ (lv_sub hl [1, 2, 3, 0] rfl) hO hT
      · have hT := qa_f hT h
        refine lv_iload hx hb d_Mo_arrive_126 (lv_at hl 0 rfl) ?_
        refine lv_aload_n hx hb d_Mo_arrive_128 rfl (lv_at hl 1 rfl) ?_
        refine qa_get S hK hO hi_Mo 0 (by decide) rfl rfl 18 (by decide) lf_Mo_56 rfl rfl d_Mo_arrive_129 ?_
        refine lv_bipush (v := 10) hx hb d_Mo_arrive_132 (by decide) ?_
        refine lv_iload_n hx hb d_Mo_arrive_134 rfl (lv_at hl 2 rfl) ?_
        refine lv_imul hx hb d_Mo_arrive_135 ?_
        refine lv_iload hx hb d_Mo_arrive_136 (lv_at hl 3 rfl) ?_
        refine lv_iadd hx hb d_Mo_arrive_138 ?_
        obtain ⟨hi139, hT⟩ := qa_c hT
        refine qa_iald (n := 2000) S hK hO 16 (by decide) 0 (me_arr rfl) rfl hi139 d_Mo_arrive_139 ?_
        refine lv_icmp_eq (tgt := 147) hx hb d_Mo_arrive_140 (by decide) (fun h => ?_) (fun h => ?_)
        · have hT := qa_t hT h
          refine lv_iconst (v := 0) hx hb d_Mo_arrive_147 (by decide) ?_
          exact b148 k54 hk54 g x3 x4 s0 (0 : Int32) _ _ _ (lv_sub hl [1, 2, 3, 0] rfl) hO hT
        · have hT := qa_f hT h
          exact b143 k54 hk54 g x3 x4 s0 _ _ _ (lv_sub hl [1, 2, 3, 0] rfl) hO hT
  have b54 : ∀ (n : Nat), ∀ (g : qa_St) (x3 : Int32) (x4 : Int32) (ls : Array Slot) (H : Heap) (locs : List Loc), lv_has ls 6 [(0, .ref (ad 0)), (3, .int x3), (4, .int x4)] → qa_O D 33 ad (me_en cI cZ ad) A s.heap g H locs → mf_Mo_arrive_54 n g x3 x4 = some T → W p l e (qa_rm 2 48) s m args below meth c H locs 0 0 Q (F0 m 54 ls []) := by
    intro n
    induction n with
    | zero => intro g x3 x4 ls H locs hl hO hT; rw [mf_Mo_arrive_54] at hT; cases hT
    | succ n ih =>
      intro g x3 x4 ls H locs hl hO hT
      rw [mf_Mo_arrive_54] at hT
      refine lv_iload hx hb d_Mo_arrive_54 (lv_at hl 2 rfl) ?_
      refine lv_iconst (v := 4) hx hb d_Mo_arrive_56 (by decide) ?_
      refine lv_aload_n hx hb d_Mo_arrive_57 rfl (lv_at hl 0 rfl) ?_
      refine qa_get S hK hO hi_Mo 0 (by decide) rfl rfl 20 (by decide) lf_Mo_151 rfl rfl d_Mo_arrive_58 ?_
      refine lv_iadd hx hb d_Mo_arrive_61 ?_
      refine lv_icmp_ge (tgt := 171) hx hb d_Mo_arrive_62 (by decide) (fun h => ?_) (fun h => ?_)
      · have hT := qa_t hT h
        refine lv_aload_n hx hb d_Mo_arrive_171 rfl (lv_at hl 0 rfl) ?_
        refine qa_get S hK hO hi_Mo 0 (by decide) rfl rfl 16 (by decide) lf_Mo_49 rfl rfl d_Mo_arrive_172 ?_
        refine lv_iload_n hx hb d_Mo_arrive_175 rfl (lv_at hl 1 rfl) ?_
        refine lv_iconst (v := 1) hx hb d_Mo_arrive_176 (by decide) ?_
        obtain ⟨hi177, hT⟩ := qa_c hT
        refine qa_zast (n := 200) S hK hO 14 (by decide) 3 (me_zar rfl) rfl hi177 rfl d_Mo_arrive_177 (fun H locs hO => ?_)
        refine lv_aload_n hx hb d_Mo_arrive_178 rfl (lv_at hl 0 rfl) ?_
        refine qa_get S hK hO hi_Mo 0 (by decide) rfl rfl 17 (by decide) lf_Mo_53 rfl rfl d_Mo_arrive_179 ?_
        refine lv_iload_n hx hb d_Mo_arrive_182 rfl (lv_at hl 1 rfl) ?_
        refine lv_aload_n hx hb d_Mo_arrive_183 rfl (lv_at hl 0 rfl) ?_
        refine qa_get S hK hO hi_Mo 0 (by decide) rfl rfl 20 (by decide) lf_Mo_151 rfl rfl d_Mo_arrive_184 ?_
        obtain ⟨hi187, hT⟩ := qa_c hT
        refine qa_iast (n := 200) S hK hO 15 (by decide) 0 (me_arr rfl) rfl hi187 d_Mo_arrive_187 (fun H locs hO => ?_)
        exact ret hT hO d_Mo_arrive_188
      · have hT := qa_f hT h
        refine lv_aload_n hx hb d_Mo_arrive_65 rfl (lv_at hl 0 rfl) ?_
        refine qa_get S hK hO hi_Mo 0 (by decide) rfl rfl 16 (by decide) lf_Mo_49 rfl rfl d_Mo_arrive_66 ?_
        refine lv_iload_n hx hb d_Mo_arrive_69 rfl (lv_at hl 1 rfl) ?_
        obtain ⟨hi70, hT⟩ := qa_c hT
        refine qa_zald (n := 200) S hK hO 14 (by decide) 3 (me_zar rfl) rfl hi70 d_Mo_arrive_70 ?_
        refine lv_if_eq (tgt := 100) hx hb d_Mo_arrive_71 (by decide) (fun h => ?_) (fun h => ?_)
        · have hT := qa_t hT h
          refine lv_aload_n hx hb d_Mo_arrive_100 rfl (lv_at hl 0 rfl) ?_
          refine qa_get S hK hO hi_Mo 0 (by decide) rfl rfl 19 (by decide) lf_Mo_59 rfl rfl d_Mo_arrive_101 ?_
          refine lv_iload hx hb d_Mo_arrive_104 (lv_at hl 2 rfl) ?_
          obtain ⟨hi106, hT⟩ := qa_c hT
          refine qa_iald (n := 10) S hK hO 17 (by decide) 0 (me_arr rfl) rfl hi106 d_Mo_arrive_106 ?_
          exact b107 (mf_Mo_arrive_54 n) ih g x3 x4 (g 17 x4.toNatClampNeg) _ _ _ (lv_sub hl [0, 1, 2] rfl) hO hT
        · have hT := qa_f hT h
          refine lv_aload_n hx hb d_Mo_arrive_74 rfl (lv_at hl 0 rfl) ?_
          refine lv_aload_n hx hb d_Mo_arrive_75 rfl (lv_at hl 0 rfl) ?_
          refine qa_get S hK hO hi_Mo 0 (by decide) rfl rfl 18 (by decide) lf_Mo_56 rfl rfl d_Mo_arrive_76 ?_
          refine lv_bipush (v := 10) hx hb d_Mo_arrive_79 (by decide) ?_
          refine lv_iload_n hx hb d_Mo_arrive_81 rfl (lv_at hl 1 rfl) ?_
          refine lv_imul hx hb d_Mo_arrive_82 ?_
          refine lv_iload hx hb d_Mo_arrive_83 (lv_at hl 2 rfl) ?_
          refine lv_iadd hx hb d_Mo_arrive_85 ?_
          obtain ⟨hi86, hT⟩ := qa_c hT
          refine qa_iald (n := 2000) S hK hO 16 (by decide) 0 (me_arr rfl) rfl hi86 d_Mo_arrive_86 ?_
          refine lv_aload_n hx hb d_Mo_arrive_87 rfl (lv_at hl 0 rfl) ?_
          refine qa_get S hK hO hi_Mo 0 (by decide) rfl rfl 19 (by decide) lf_Mo_59 rfl rfl d_Mo_arrive_88 ?_
          refine lv_iload hx hb d_Mo_arrive_91 (lv_at hl 2 rfl) ?_
          obtain ⟨hi93, hT⟩ := qa_c hT
          refine qa_iald (n := 10) S hK hO 17 (by decide) 0 (me_arr rfl) rfl hi93 d_Mo_arrive_93 ?_
          obtain ⟨t94, ht94, hT⟩ := qa_b hT
          refine qa_Vi (As := [.int (g 16 (((10 : Int32) * x3) + x4).toNatClampNeg), .int (g 17 x4.toNatClampNeg)]) (rest := []) (r := 0) S hK hN hA hO (mc_Mo_join l D cI cJ cF cZ ad g (g 16 (((10 : Int32) * x3) + x4).toNatClampNeg) (g 17 x4.toNatClampNeg)) ht94 qy_Mo_join lm_Mo_154 ⟨by decide, by decide⟩ (by decide) rfl rfl rfl rfl hl.1 rfl (Nat.le_of_ble_eq_true rfl) d_Mo_arrive_94 (fun H locs hO => ?_)
          refine lv_goto (tgt := 107) hx hb d_Mo_arrive_97 (by decide) ?_
          exact b107 (mf_Mo_arrive_54 n) ih t94.2 x3 x4 t94.1 _ _ _ (lv_sub hl [0, 1, 2] rfl) hO hT
  have b51 : ∀ (g : qa_St) (x3 : Int32) (ls : Array Slot) (H : Heap) (locs : List Loc), lv_has ls 6 [(0, .ref (ad 0)), (3, .int x3)] → qa_O D 33 ad (me_en cI cZ ad) A s.heap g H locs → mf_Mo_arrive_51 g x3 = some T → W p l e (qa_rm 2 48) s m args below meth c H locs 0 0 Q (F0 m 51 ls []) := by
    intro g x3 ls H locs hl hO hT
    unfold mf_Mo_arrive_51 at hT
    refine lv_iconst (v := 0) hx hb d_Mo_arrive_51 (by decide) ?_
    refine lv_istore (lv' := [(4, .int (0 : Int32)), (0, .ref (ad 0)), (3, .int x3)]) hx hb d_Mo_arrive_52 hl (by decide) rfl (fun ls hl => ?_)
    exact b54 4096 g x3 (0 : Int32) _ _ _ (lv_sub hl [1, 2, 0] rfl) hO hT
  unfold mf_Mo_arrive at hT
  refine lv_iload_n hx hb d_Mo_arrive_0 rfl (lv_at hl 2 rfl) ?_
  refine lv_aload_n hx hb d_Mo_arrive_1 rfl (lv_at hl 0 rfl) ?_
  refine qa_get S hK hO hi_Mo 0 (by decide) rfl rfl 8 (by decide) lf_Mo_28 rfl rfl d_Mo_arrive_2 ?_
  refine lv_iload_n hx hb d_Mo_arrive_5 rfl (lv_at hl 1 rfl) ?_
  obtain ⟨hi6, hT⟩ := qa_c hT
  refine qa_iald (n := 10) S hK hO 7 (by decide) 0 (me_arr rfl) rfl hi6 d_Mo_arrive_6 ?_
  refine lv_icmp_lt (tgt := 16) hx hb d_Mo_arrive_7 (by decide) (fun h => ?_) (fun h => ?_)
  · have hT := qa_t hT h
    refine lv_bipush (v := 20) hx hb d_Mo_arrive_16 (by decide) ?_
    refine lv_iload_n hx hb d_Mo_arrive_18 rfl (lv_at hl 1 rfl) ?_
    refine lv_imul hx hb d_Mo_arrive_19 ?_
    refine lv_iload_n hx hb d_Mo_arrive_20 rfl (lv_at hl 2 rfl) ?_
    refine lv_iadd hx hb d_Mo_arrive_21 ?_
    refine lv_istore_n (lv' := [(3, .int (((20 : Int32) * x1) + x2)), (0, .ref (ad 0)), (1, .int x1), (2, .int x2)]) hx hb d_Mo_arrive_22 rfl hl (by decide) rfl (fun ls hl => ?_)
    refine lv_aload_n hx hb d_Mo_arrive_23 rfl (lv_at hl 1 rfl) ?_
    refine qa_get S hK hO hi_Mo 0 (by decide) rfl rfl 16 (by decide) lf_Mo_49 rfl rfl d_Mo_arrive_24 ?_
    refine lv_iload_n hx hb d_Mo_arrive_27 rfl (lv_at hl 0 rfl) ?_
    obtain ⟨hi28, hT⟩ := qa_c hT
    refine qa_zald (n := 200) S hK hO 14 (by decide) 3 (me_zar rfl) rfl hi28 d_Mo_arrive_28 ?_
    refine lv_if_eq (tgt := 51) hx hb d_Mo_arrive_29 (by decide) (fun h => ?_) (fun h => ?_)
    · have hT := qa_t hT h
      exact b51 g (((20 : Int32) * x1) + x2) _ _ _ (lv_sub hl [1, 0] rfl) hO hT
    · have hT := qa_f hT h
      refine lv_aload_n hx hb d_Mo_arrive_32 rfl (lv_at hl 1 rfl) ?_
      refine qa_get S hK hO hi_Mo 0 (by decide) rfl rfl 17 (by decide) lf_Mo_53 rfl rfl d_Mo_arrive_33 ?_
      refine lv_iload_n hx hb d_Mo_arrive_36 rfl (lv_at hl 0 rfl) ?_
      obtain ⟨hi37, hT⟩ := qa_c hT
      refine qa_iald (n := 200) S hK hO 15 (by decide) 0 (me_arr rfl) rfl hi37 d_Mo_arrive_37 ?_
      refine lv_aload_n hx hb d_Mo_arrive_38 rfl (lv_at hl 1 rfl) ?_
      refine qa_get S hK hO hi_Mo 0 (by decide) rfl rfl 20 (by decide) lf_Mo_151 rfl rfl d_Mo_arrive_39 ?_
      refine lv_icmp_eq (tgt := 51) hx hb d_Mo_arrive_42 (by decide) (fun h => ?_) (fun h => ?_)
      · have hT := qa_t hT h
        exact b51 g (((20 : Int32) * x1) + x2) _ _ _ (lv_sub hl [1, 0] rfl) hO hT
      · have hT := qa_f hT h
        refine lv_aload_n hx hb d_Mo_arrive_45 rfl (lv_at hl 1 rfl) ?_
        refine lv_iconst (v := 1) hx hb d_Mo_arrive_46 (by decide) ?_
        refine qa_put S hK hO hi_Mo t_Mo t_Mo_ok n_Mo 0 (by decide) rfl rfl 21 (by decide) lf_Mo_148 rfl rfl (ty := .boolean) (by decide +kernel) rfl rfl (Nat.le_of_ble_eq_true rfl) rfl d_Mo_arrive_47 (fun H locs hO => ?_)
        exact ret hT hO d_Mo_arrive_50
  · have hT := qa_f hT h
    refine lv_aload_n hx hb d_Mo_arrive_10 rfl (lv_at hl 0 rfl) ?_
    refine lv_iconst (v := 1) hx hb d_Mo_arrive_11 (by decide) ?_
    refine qa_put S hK hO hi_Mo t_Mo t_Mo_ok n_Mo 0 (by decide) rfl rfl 21 (by decide) lf_Mo_148 rfl rfl (ty := .boolean) (by decide +kernel) rfl rfl (Nat.le_of_ble_eq_true rfl) rfl d_Mo_arrive_12 (fun H locs hO => ?_)
    exact ret hT hO d_Mo_arrive_15
def mf_Mo_load_12 : Nat → qa_St → Int32 → Int32 → qa_Re
  | 0, _, _, _ => none
  | n + 1, g, x1, x2 => (if ((4 : Int32) + (g 0 20)) ≤ x2 then (some (0, g)) else (if (((10 : Int32) * x1) + x2) < 0 ∨ 2000 ≤ (((10 : Int32) * x1) + x2).toNatClampNeg then none else (if x2 < 0 ∨ 10 ≤ x2.toNatClampNeg then none else ((mf_Mo_load_12 n) (qa_up g 17 x2.toNatClampNeg (g 16 (((10 : Int32) * x1) + x2).toNatClampNeg)) x1 (x2 + 1)))))
def mf_Mo_load (g : qa_St) (x1 : Int32) : qa_Re := (if x1 < 0 ∨ 200 ≤ x1.toNatClampNeg then none else (mf_Mo_load_12 4096 (qa_up g 0 20 (g 15 x1.toNatClampNeg)) x1 (0 : Int32)))
set_option maxHeartbeats 4000000 in
set_option maxRecDepth 100000 in
theorem mc_Mo_load (l : Launch) (D : va_G) (cI cJ cF cZ : ClassId) (ad : Nat → Nat) (g : qa_St) (x1 : Int32) : qa_Mv l y_Mo_load (qa_ws y_Mo_load b_Mo_load 3 none) (qa_rm 0 0) D (qa_ty cI cJ cF cZ) 33 ad (me_en cI cZ ad) [.ref (ad 0), .int x1] g (mf_Mo_load g x1) := by
  refine qa_metv (by decide) (Nat.le_of_ble_eq_true rfl) ?_
  intro p e s m args below meth c Q A T S hK hN hA hT ret ls hl hO
  have hx := S.1
  have hb := S.2.1
  have hl : lv_has ls 3 [(0, .ref (ad 0)), (1, .int x1)] := hl
  have b12 : ∀ (n : Nat), ∀ (g : qa_St) (x1 : Int32) (x2 : Int32) (ls : Array Slot) (H : Heap) (locs : List Loc), lv_has ls 3 [(0, .ref (ad 0)), (1, .int x1), (2, .int x2)] → qa_O D 33 ad (me_en cI cZ ad) A s.heap g H locs → mf_Mo_load_12 n g x1 x2 = some T → W p l e (qa_rm 0 0) s m args below meth c H locs 0 0 Q (F0 m 12 ls []) := by
    intro n
    induction n with
    | zero => intro g x1 x2 ls H locs hl hO hT; rw [mf_Mo_load_12] at hT; cases hT
    | succ n ih =>
      intro g x1 x2 ls H locs hl hO hT
      rw [mf_Mo_load_12] at hT
      refine lv_iload_n hx hb d_Mo_load_12 rfl (lv_at hl 2 rfl) ?_
      refine lv_iconst (v := 4) hx hb d_Mo_load_13 (by decide) ?_
      refine lv_aload_n hx hb d_Mo_load_14 rfl (lv_at hl 0 rfl) ?_
      refine qa_get S hK hO hi_Mo 0 (by decide) rfl rfl 20 (by decide) lf_Mo_151 rfl rfl d_Mo_load_15 ?_
      refine lv_iadd hx hb d_Mo_load_18 ?_
      refine lv_icmp_ge (tgt := 45) hx hb d_Mo_load_19 (by decide) (fun h => ?_) (fun h => ?_)
      · have hT := qa_t hT h
        exact ret hT hO d_Mo_load_45
      · have hT := qa_f hT h
        refine lv_aload_n hx hb d_Mo_load_22 rfl (lv_at hl 0 rfl) ?_
        refine qa_get S hK hO hi_Mo 0 (by decide) rfl rfl 19 (by decide) lf_Mo_59 rfl rfl d_Mo_load_23 ?_
        refine lv_iload_n hx hb d_Mo_load_26 rfl (lv_at hl 2 rfl) ?_
        refine lv_aload_n hx hb d_Mo_load_27 rfl (lv_at hl 0 rfl) ?_
        refine qa_get S hK hO hi_Mo 0 (by decide) rfl rfl 18 (by decide) lf_Mo_56 rfl rfl d_Mo_load_28 ?_
        refine lv_bipush (v := 10) hx hb d_Mo_load_31 (by decide) ?_
        refine lv_iload_n hx hb d_Mo_load_33 rfl (lv_at hl 1 rfl) ?_
        refine lv_imul hx hb d_Mo_load_34 ?_
        refine lv_iload_n hx hb d_Mo_load_35 rfl (lv_at hl 2 rfl) ?_
        refine lv_iadd hx hb d_Mo_load_36 ?_
        obtain ⟨hi37, hT⟩ := qa_c hT
        refine qa_iald (n := 2000) S hK hO 16 (by decide) 0 (me_arr rfl) rfl hi37 d_Mo_load_37 ?_
        obtain ⟨hi38, hT⟩ := qa_c hT
        refine qa_iast (n := 10) S hK hO 17 (by decide) 0 (me_arr rfl) rfl hi38 d_Mo_load_38 (fun H locs hO => ?_)
        refine lv_iinc (lv' := [(2, .int (x2 + 1)), (0, .ref (ad 0)), (1, .int x1)]) hx hb d_Mo_load_39 hl (k := 2) rfl (qa_o1 _) (by decide) rfl (fun ls hl => ?_)
        refine lv_goto (tgt := 12) hx hb d_Mo_load_42 (by decide) ?_
        exact ih (qa_up g 17 x2.toNatClampNeg (g 16 (((10 : Int32) * x1) + x2).toNatClampNeg)) x1 (x2 + 1) _ _ _ (lv_sub hl [1, 2, 0] rfl) hO hT
  unfold mf_Mo_load at hT
  refine lv_aload_n hx hb d_Mo_load_0 rfl (lv_at hl 0 rfl) ?_
  refine lv_aload_n hx hb d_Mo_load_1 rfl (lv_at hl 0 rfl) ?_
  refine qa_get S hK hO hi_Mo 0 (by decide) rfl rfl 17 (by decide) lf_Mo_53 rfl rfl d_Mo_load_2 ?_
  refine lv_iload_n hx hb d_Mo_load_5 rfl (lv_at hl 1 rfl) ?_
  obtain ⟨hi6, hT⟩ := qa_c hT
  refine qa_iald (n := 200) S hK hO 15 (by decide) 0 (me_arr rfl) rfl hi6 d_Mo_load_6 ?_
  refine qa_put S hK hO hi_Mo t_Mo t_Mo_ok n_Mo 0 (by decide) rfl rfl 20 (by decide) lf_Mo_151 rfl rfl (ty := .int) (by decide +kernel) rfl rfl (Nat.le_of_ble_eq_true rfl) rfl d_Mo_load_7 (fun H locs hO => ?_)
  refine lv_iconst (v := 0) hx hb d_Mo_load_10 (by decide) ?_
  refine lv_istore_n (lv' := [(2, .int (0 : Int32)), (0, .ref (ad 0)), (1, .int x1)]) hx hb d_Mo_load_11 rfl hl (by decide) rfl (fun ls hl => ?_)
  exact b12 4096 (qa_up g 0 20 (g 15 x1.toNatClampNeg)) x1 (0 : Int32) _ _ _ (lv_sub hl [1, 2, 0] rfl) hO hT
def mf_Mo_take_49 (g : qa_St) (x1 : Int32) (x2 : Int32) : qa_Re := (if x1 = 0 then (if x2 < (8 : Int32) then (some (x2, g)) else (some (x2, (qa_up g 0 21 (1 : Int32))))) else (some (x2, g)))
def mf_Mo_take_36 (g : qa_St) (x1 : Int32) (s0 : Int32) : qa_Re := (if x1 = (9 : Int32) then (if s0 = (9 : Int32) then (mf_Mo_take_49 g x1 s0) else (some (s0, (qa_up g 0 21 (1 : Int32))))) else (mf_Mo_take_49 g x1 s0))
def mf_Mo_take (g : qa_St) (x1 : Int32) : qa_Re := (if (g 0 20) = 0 then (some ((8 : Int32), (qa_up g 0 21 (1 : Int32)))) else (if ((4 : Int32) + ((qa_up g 0 20 ((g 0 20) - (1 : Int32))) 0 20)) < 0 ∨ 10 ≤ ((4 : Int32) + ((qa_up g 0 20 ((g 0 20) - (1 : Int32))) 0 20)).toNatClampNeg then none else (mf_Mo_take_36 (qa_up g 0 20 ((g 0 20) - (1 : Int32))) x1 ((qa_up g 0 20 ((g 0 20) - (1 : Int32))) 17 ((4 : Int32) + ((qa_up g 0 20 ((g 0 20) - (1 : Int32))) 0 20)).toNatClampNeg))))
set_option maxHeartbeats 4000000 in
set_option maxRecDepth 100000 in
theorem mc_Mo_take (l : Launch) (D : va_G) (cI cJ cF cZ : ClassId) (ad : Nat → Nat) (g : qa_St) (x1 : Int32) : qa_Mi l y_Mo_take (qa_ws y_Mo_take b_Mo_take 3 (some .int)) (qa_rm 0 0) D (qa_ty cI cJ cF cZ) 33 ad (me_en cI cZ ad) [.ref (ad 0), .int x1] g (mf_Mo_take g x1) := by
  refine qa_meti (by decide) (Nat.le_of_ble_eq_true rfl) ?_
  intro p e s m args below meth c Q A T S hK hN hA hT ret ls hl hO
  have hx := S.1
  have hb := S.2.1
  have hl : lv_has ls 3 [(0, .ref (ad 0)), (1, .int x1)] := hl
  have b49 : ∀ (g : qa_St) (x1 : Int32) (x2 : Int32) (ls : Array Slot) (H : Heap) (locs : List Loc), lv_has ls 3 [(0, .ref (ad 0)), (1, .int x1), (2, .int x2)] → qa_O D 33 ad (me_en cI cZ ad) A s.heap g H locs → mf_Mo_take_49 g x1 x2 = some T → W p l e (qa_rm 0 0) s m args below meth c H locs 0 0 Q (F0 m 49 ls []) := by
    intro g x1 x2 ls H locs hl hO hT
    unfold mf_Mo_take_49 at hT
    refine lv_iload_n hx hb d_Mo_take_49 rfl (lv_at hl 1 rfl) ?_
    refine lv_if_ne (tgt := 64) hx hb d_Mo_take_50 (by decide) (fun h => ?_) (fun h => ?_)
    · have hT := qa_f hT h
      refine lv_iload_n hx hb d_Mo_take_64 rfl (lv_at hl 2 rfl) ?_
      exact ret hT hO d_Mo_take_65
    · have hT := qa_t hT h
      refine lv_iload_n hx hb d_Mo_take_53 rfl (lv_at hl 2 rfl) ?_
      refine lv_bipush (v := 8) hx hb d_Mo_take_54 (by decide) ?_
      refine lv_icmp_lt (tgt := 64) hx hb d_Mo_take_56 (by decide) (fun h => ?_) (fun h => ?_)
      · have hT := qa_t hT h
        refine lv_iload_n hx hb d_Mo_take_64 rfl (lv_at hl 2 rfl) ?_
        exact ret hT hO d_Mo_take_65
      · have hT := qa_f hT h
        refine lv_aload_n hx hb d_Mo_take_59 rfl (lv_at hl 0 rfl) ?_
        refine lv_iconst (v := 1) hx hb d_Mo_take_60 (by decide) ?_
        refine qa_put S hK hO hi_Mo t_Mo t_Mo_ok n_Mo 0 (by decide) rfl rfl 21 (by decide) lf_Mo_148 rfl rfl (ty := .boolean) (by decide +kernel) rfl rfl (Nat.le_of_ble_eq_true rfl) rfl d_Mo_take_61 (fun H locs hO => ?_)
        refine lv_iload_n hx hb d_Mo_take_64 rfl (lv_at hl 2 rfl) ?_
        exact ret hT hO d_Mo_take_65
  have b36 : ∀ (g : qa_St) (x1 : Int32) (s0 : Int32) (ls : Array Slot) (H : Heap) (locs : List Loc), lv_has ls 3 [(0, .ref (ad 0)), (1, .int x1)] → qa_O D 33 ad (me_en cI cZ ad) A s.heap g H locs → mf_Mo_take_36 g x1 s0 = some T → W p l e (qa_rm 0 0) s m args below meth c H locs 0 0 Q (F0 m 36 ls [.int s0]) := by
    intro g x1 s0 ls H locs hl hO hT
    unfold mf_Mo_take_36 at hT
    refine lv_istore_n (lv' := [(2, .int s0), (0, .ref (ad 0)), (1, .int x1)]) hx hb d_Mo_take_36 rfl hl (by decide) rfl (fun ls hl => ?_)
    refine lv_iload_n hx hb d_Mo_take_37 rfl (lv_at hl 2 rfl) ?_
    refine lv_bipush (v := 9) hx hb d_Mo_take_38 (by decide) ?_
    refine lv_icmp_ne (tgt := 49) hx hb d_Mo_take_40 (by decide) (fun h => ?_) (fun h => ?_)
    · have hT := qa_f hT h
      exact b49 g x1 s0 _ _ _ (lv_sub hl [1, 2, 0] rfl) hO hT
    · have hT := qa_t hT h
      refine lv_iload_n hx hb d_Mo_take_43 rfl (lv_at hl 0 rfl) ?_
      refine lv_bipush (v := 9) hx hb d_Mo_take_44 (by decide) ?_
      refine lv_icmp_ne (tgt := 59) hx hb d_Mo_take_46 (by decide) (fun h => ?_) (fun h => ?_)
      · have hT := qa_f hT h
        refine lv_aload_n hx hb d_Mo_take_59 rfl (lv_at hl 1 rfl) ?_
        refine lv_iconst (v := 1) hx hb d_Mo_take_60 (by decide) ?_
        refine qa_put S hK hO hi_Mo t_Mo t_Mo_ok n_Mo 0 (by decide) rfl rfl 21 (by decide) lf_Mo_148 rfl rfl (ty := .boolean) (by decide +kernel) rfl rfl (Nat.le_of_ble_eq_true rfl) rfl d_Mo_take_61 (fun H locs hO => ?_)
        refine lv_iload_n hx hb d_Mo_take_64 rfl (lv_at hl 0 rfl) ?_
        exact ret hT hO d_Mo_take_65
      · have hT := qa_t hT h
        exact b49 g x1 s0 _ _ _ (lv_sub hl [1, 2, 0] rfl) hO hT
  unfold mf_Mo_take at hT
  refine lv_aload_n hx hb d_Mo_take_0 rfl (lv_at hl 0 rfl) ?_
  refine qa_get S hK hO hi_Mo 0 (by decide) rfl rfl 20 (by decide) lf_Mo_151 rfl rfl d_Mo_take_1 ?_
  refine lv_if_ne (tgt := 15) hx hb d_Mo_take_4 (by decide) (fun h => ?_) (fun h => ?_)
  · have hT := qa_f hT h
    refine lv_aload_n hx hb d_Mo_take_15 rfl (lv_at hl 0 rfl) ?_
    refine lv_dup hx hb d_Mo_take_16 rfl ?_
    refine qa_get S hK hO hi_Mo 0 (by decide) rfl rfl 20 (by decide) lf_Mo_151 rfl rfl d_Mo_take_17 ?_
    refine lv_iconst (v := 1) hx hb d_Mo_take_20 (by decide) ?_
    refine lv_isub hx hb d_Mo_take_21 ?_
    refine qa_put S hK hO hi_Mo t_Mo t_Mo_ok n_Mo 0 (by decide) rfl rfl 20 (by decide) lf_Mo_151 rfl rfl (ty := .int) (by decide +kernel) rfl rfl (Nat.le_of_ble_eq_true rfl) rfl d_Mo_take_22 (fun H locs hO => ?_)
    refine lv_aload_n hx hb d_Mo_take_25 rfl (lv_at hl 0 rfl) ?_
    refine qa_get S hK hO hi_Mo 0 (by decide) rfl rfl 19 (by decide) lf_Mo_59 rfl rfl d_Mo_take_26 ?_
    refine lv_iconst (v := 4) hx hb d_Mo_take_29 (by decide) ?_
    refine lv_aload_n hx hb d_Mo_take_30 rfl (lv_at hl 0 rfl) ?_
    refine qa_get S hK hO hi_Mo 0 (by decide) rfl rfl 20 (by decide) lf_Mo_151 rfl rfl d_Mo_take_31 ?_
    refine lv_iadd hx hb d_Mo_take_34 ?_
    obtain ⟨hi35, hT⟩ := qa_c hT
    refine qa_iald (n := 10) S hK hO 17 (by decide) 0 (me_arr rfl) rfl hi35 d_Mo_take_35 ?_
    exact b36 (qa_up g 0 20 ((g 0 20) - (1 : Int32))) x1 ((qa_up g 0 20 ((g 0 20) - (1 : Int32))) 17 ((4 : Int32) + ((qa_up g 0 20 ((g 0 20) - (1 : Int32))) 0 20)).toNatClampNeg) _ _ _ (lv_sub hl [0, 1] rfl) hO hT
  · have hT := qa_t hT h
    refine lv_aload_n hx hb d_Mo_take_7 rfl (lv_at hl 0 rfl) ?_
    refine lv_iconst (v := 1) hx hb d_Mo_take_8 (by decide) ?_
    refine qa_put S hK hO hi_Mo t_Mo t_Mo_ok n_Mo 0 (by decide) rfl rfl 21 (by decide) lf_Mo_148 rfl rfl (ty := .boolean) (by decide +kernel) rfl rfl (Nat.le_of_ble_eq_true rfl) rfl d_Mo_take_9 (fun H locs hO => ?_)
    refine lv_bipush (v := 8) hx hb d_Mo_take_12 (by decide) ?_
    exact ret hT hO d_Mo_take_14
def mf_Mo_give_29 (g : qa_St) : qa_Re := (some (0, (qa_up g 0 20 ((g 0 20) + (1 : Int32)))))
def mf_Mo_give (g : qa_St) (x1 : Int32) : qa_Re := (if (g 0 20) = (6 : Int32) then (mf_Mo_give_29 (qa_up g 0 21 (1 : Int32))) else (if ((4 : Int32) + (g 0 20)) < 0 ∨ 10 ≤ ((4 : Int32) + (g 0 20)).toNatClampNeg then none else (mf_Mo_give_29 (qa_up g 17 ((4 : Int32) + (g 0 20)).toNatClampNeg x1))))
set_option maxHeartbeats 4000000 in
set_option maxRecDepth 100000 in
theorem mc_Mo_give (l : Launch) (D : va_G) (cI cJ cF cZ : ClassId) (ad : Nat → Nat) (g : qa_St) (x1 : Int32) : qa_Mv l y_Mo_give (qa_ws y_Mo_give b_Mo_give 2 none) (qa_rm 0 0) D (qa_ty cI cJ cF cZ) 33 ad (me_en cI cZ ad) [.ref (ad 0), .int x1] g (mf_Mo_give g x1) := by
  refine qa_metv (by decide) (Nat.le_of_ble_eq_true rfl) ?_
  intro p e s m args below meth c Q A T S hK hN hA hT ret ls hl hO
  have hx := S.1
  have hb := S.2.1
  have hl : lv_has ls 2 [(0, .ref (ad 0)), (1, .int x1)] := hl
  have b29 : ∀ (g : qa_St) (ls : Array Slot) (H : Heap) (locs : List Loc), lv_has ls 2 [(0, .ref (ad 0))] → qa_O D 33 ad (me_en cI cZ ad) A s.heap g H locs → mf_Mo_give_29 g = some T → W p l e (qa_rm 0 0) s m args below meth c H locs 0 0 Q (F0 m 29 ls []) := by
    intro g ls H locs hl hO hT
    unfold mf_Mo_give_29 at hT
    refine lv_aload_n hx hb d_Mo_give_29 rfl (lv_at hl 0 rfl) ?_
    refine lv_dup hx hb d_Mo_give_30 rfl ?_
    refine qa_get S hK hO hi_Mo 0 (by decide) rfl rfl 20 (by decide) lf_Mo_151 rfl rfl d_Mo_give_31 ?_
    refine lv_iconst (v := 1) hx hb d_Mo_give_34 (by decide) ?_
    refine lv_iadd hx hb d_Mo_give_35 ?_
    refine qa_put S hK hO hi_Mo t_Mo t_Mo_ok n_Mo 0 (by decide) rfl rfl 20 (by decide) lf_Mo_151 rfl rfl (ty := .int) (by decide +kernel) rfl rfl (Nat.le_of_ble_eq_true rfl) rfl d_Mo_give_36 (fun H locs hO => ?_)
    exact ret hT hO d_Mo_give_39
  unfold mf_Mo_give at hT
  refine lv_aload_n hx hb d_Mo_give_0 rfl (lv_at hl 0 rfl) ?_
  refine qa_get S hK hO hi_Mo 0 (by decide) rfl rfl 20 (by decide) lf_Mo_151 rfl rfl d_Mo_give_1 ?_
  refine lv_bipush (v := 6) hx hb d_Mo_give_4 (by decide) ?_
  refine lv_icmp_ne (tgt := 17) hx hb d_Mo_give_6 (by decide) (fun h => ?_) (fun h => ?_)
  · have hT := qa_f hT h
    refine lv_aload_n hx hb d_Mo_give_17 rfl (lv_at hl 0 rfl) ?_
    refine qa_get S hK hO hi_Mo 0 (by decide) rfl rfl 19 (by decide) lf_Mo_59 rfl rfl d_Mo_give_18 ?_
    refine lv_iconst (v := 4) hx hb d_Mo_give_21 (by decide) ?_
    refine lv_aload_n hx hb d_Mo_give_22 rfl (lv_at hl 0 rfl) ?_
    refine qa_get S hK hO hi_Mo 0 (by decide) rfl rfl 20 (by decide) lf_Mo_151 rfl rfl d_Mo_give_23 ?_
    refine lv_iadd hx hb d_Mo_give_26 ?_
    refine lv_iload_n hx hb d_Mo_give_27 rfl (lv_at hl 1 rfl) ?_
    obtain ⟨hi28, hT⟩ := qa_c hT
    refine qa_iast (n := 10) S hK hO 17 (by decide) 0 (me_arr rfl) rfl hi28 d_Mo_give_28 (fun H locs hO => ?_)
    exact b29 (qa_up g 17 ((4 : Int32) + (g 0 20)).toNatClampNeg x1) _ _ _ (lv_sub hl [0] rfl) hO hT
  · have hT := qa_t hT h
    refine lv_aload_n hx hb d_Mo_give_9 rfl (lv_at hl 0 rfl) ?_
    refine lv_iconst (v := 1) hx hb d_Mo_give_10 (by decide) ?_
    refine qa_put S hK hO hi_Mo t_Mo t_Mo_ok n_Mo 0 (by decide) rfl rfl 21 (by decide) lf_Mo_148 rfl rfl (ty := .boolean) (by decide +kernel) rfl rfl (Nat.le_of_ble_eq_true rfl) rfl d_Mo_give_11 (fun H locs hO => ?_)
    refine lv_goto (tgt := 29) hx hb d_Mo_give_14 (by decide) ?_
    exact b29 (qa_up g 0 21 (1 : Int32)) _ _ _ (lv_sub hl [0] rfl) hO hT
