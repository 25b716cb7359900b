def xf_Cw_run (g : qa_St) (x1 : Int32) (x2 : Int32) : qa_Re := (if (g 0 4) = 0 then (some ((-1 : Int32), g)) else (if x2 < 0 then (some ((-1 : Int32), g)) else (if x2 ≤ (2000 : Int32) then ((xf_Ma_start (qa_up g 0 5 (1 : Int32)) x1 x2).bind fun t31 => (some (t31.1, t31.2))) else (some ((-1 : Int32), g)))))
set_option maxHeartbeats 4000000 in
set_option maxRecDepth 100000 in
theorem xc_Cw_run (l : Launch) (D : va_G) (cI cJ cF cZ : ClassId) (ad : Nat → Nat) (g : qa_St) (x1 : Int32) (x2 : Int32) : qa_Mi l y_Cw_run (qa_ws y_Cw_run b_Cw_run 3 (some .int)) (qa_rm 64 1507) D (qa_ty cI cJ cF cZ) 107 ad (xe_en cI cJ cF ad) [.ref (ad 0), .int x1, .int x2] g (xf_Cw_run g x1 x2) := by
  refine qa_meti (by decide) (Nat.le_of_ble_eq_true rfl) ?_
  intro p e s m args below meth c Q A T S hK hN hA hT ret ls hl hO
  have hx := S.1
  have hb := S.2.1
  have hl : lv_has ls 3 [(0, .ref (ad 0)), (1, .int x1), (2, .int x2)] := hl
  unfold xf_Cw_run at hT
  refine lv_aload_n hx hb d_Cw_run_0 rfl (lv_at hl 0 rfl) ?_
  refine qa_get S hK hO hi_Cw 0 (by decide) rfl rfl 4 (by decide) lf_Cw_41 rfl rfl d_Cw_run_1 ?_
  refine lv_if_eq (tgt := 18) hx hb d_Cw_run_4 (by decide) (fun h => ?_) (fun h => ?_)
  · have hT := qa_t hT h
    refine lv_iconst (v := -1) hx hb d_Cw_run_18 (by decide) ?_
    exact ret hT hO d_Cw_run_19
  · have hT := qa_f hT h
    refine lv_iload_n hx hb d_Cw_run_7 rfl (lv_at hl 2 rfl) ?_
    refine lv_if_lt (tgt := 18) hx hb d_Cw_run_8 (by decide) (fun h => ?_) (fun h => ?_)
    · have hT := qa_t hT h
      refine lv_iconst (v := -1) hx hb d_Cw_run_18 (by decide) ?_
      exact ret hT hO d_Cw_run_19
    · have hT := qa_f hT h
      refine lv_iload_n hx hb d_Cw_run_11 rfl (lv_at hl 2 rfl) ?_
      refine lv_sipush (v := 2000) hx hb d_Cw_run_12 (by decide) ?_
      refine lv_icmp_le (tgt := 20) hx hb d_Cw_run_15 (by decide) (fun h => ?_) (fun h => ?_)
      · have hT := qa_t hT h
        refine lv_aload_n hx hb d_Cw_run_20 rfl (lv_at hl 0 rfl) ?_
        refine lv_iconst (v := 1) hx hb d_Cw_run_21 (by decide) ?_
        refine qa_put S hK hO hi_Cw t_Cw t_Cw_ok n_Cw 0 (by decide) rfl rfl 5 (by decide) lf_Cw_45 rfl rfl (ty := .boolean) (by decide +kernel) rfl rfl (Nat.le_of_ble_eq_true rfl) rfl d_Cw_run_22 (fun H locs hO => ?_)
        refine lv_aload_n hx hb d_Cw_run_25 rfl (lv_at hl 0 rfl) ?_
        refine qa_get S hK hO hi_Cw 0 (by decide) rfl rfl 3 (by decide) lf_Cw_37 rfl rfl d_Cw_run_26 ?_
        refine lv_iload_n hx hb d_Cw_run_29 rfl (lv_at hl 1 rfl) ?_
        refine lv_iload_n hx hb d_Cw_run_30 rfl (lv_at hl 2 rfl) ?_
        obtain ⟨t31, ht31, hT⟩ := qa_b hT
        refine qa_Vi (As := [.int x1, .int x2]) (rest := []) (r := 78) S hK hN hA hO (xc_Ma_start l D cI cJ cF cZ ad (qa_up g 0 5 (1 : Int32)) x1 x2) ht31 qy_Ma_start lm_Cw_124 ⟨by decide, by decide⟩ (by decide) rfl rfl rfl rfl hl.1 rfl (Nat.le_of_ble_eq_true rfl) d_Cw_run_31 (fun H locs hO => ?_)
        exact ret hT hO d_Cw_run_34
      · have hT := qa_f hT h
        refine lv_iconst (v := -1) hx hb d_Cw_run_18 (by decide) ?_
        exact ret hT hO d_Cw_run_19
