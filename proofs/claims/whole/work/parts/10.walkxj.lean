def xf_Ma_execute (P : qa_St → Int32 → Int32 → qa_Re) (g : qa_St) (x1 : Int32) (x2 : Int32) (x3 : Int32) : qa_Re := (if x3 < 0 ∨ 11 ≤ x3.toNatClampNeg then none else (if x1 = 0 then ((xf_Fr_push g (85 + 2 * x3.toNatClampNeg) x2).bind fun t119 => (some ((0 : Int32), t119.2))) else (if x1 = 1 then ((xf_Fr_push g (85 + 2 * x3.toNatClampNeg) (-1 : Int32)).bind fun t127 => (some ((0 : Int32), t127.2))) else (if x1 = 2 then ((xf_Fr_place g (85 + 2 * x3.toNatClampNeg) x2).bind fun t137 => ((xf_Fr_push t137.2 (85 + 2 * x3.toNatClampNeg) t137.1).bind fun t140 => (some ((0 : Int32), t140.2)))) else (if x1 = 3 then ((xf_Fr_pop g (85 + 2 * x3.toNatClampNeg)).bind fun t150 => ((xf_Fr_setPlace t150.2 (85 + 2 * x3.toNatClampNeg) x2 t150.1).bind fun t153 => (some ((0 : Int32), t153.2)))) else (if x1 = 4 then ((xf_Fr_pop g (85 + 2 * x3.toNatClampNeg)).bind fun t160 => (some ((0 : Int32), t160.2))) else (if x1 = 5 then ((xf_Ma_calculate g x1 (85 + 2 * x3.toNatClampNeg)).bind fun t170 => (some (t170.1, t170.2))) else (if x1 = 6 then ((xf_Ma_calculate g x1 (85 + 2 * x3.toNatClampNeg)).bind fun t170 => (some (t170.1, t170.2))) else (if x1 = 7 then ((xf_Ma_calculate g x1 (85 + 2 * x3.toNatClampNeg)).bind fun t170 => (some (t170.1, t170.2))) else (if x1 = 8 then ((xf_Ma_calculate g x1 (85 + 2 * x3.toNatClampNeg)).bind fun t170 => (some (t170.1, t170.2))) else (if x1 = 9 then ((xf_Fr_setNext g (85 + 2 * x3.toNatClampNeg) x2).bind fun t177 => (some ((0 : Int32), t177.2))) else (if x1 = 10 then ((xf_Fr_pop g (85 + 2 * x3.toNatClampNeg)).bind fun t184 => (if 0 < t184.1 then (some ((0 : Int32), t184.2)) else ((xf_Fr_setNext t184.2 (85 + 2 * x3.toNatClampNeg) x2).bind fun t193 => (some ((0 : Int32), t193.2))))) else (if x1 = 11 then ((xf_Ma_executeTriggering P g x1 x2 x3).bind fun t259 => (some (t259.1, t259.2))) else (if x1 = 12 then ((xf_Ma_accessField g x1 x2 (85 + 2 * x3.toNatClampNeg)).bind fun t235 => (some (t235.1, t235.2))) else (if x1 = 13 then ((xf_Ma_accessField g x1 x2 (85 + 2 * x3.toNatClampNeg)).bind fun t235 => (some (t235.1, t235.2))) else (if x1 = 14 then ((xf_Ma_executeTriggering P g x1 x2 x3).bind fun t259 => (some (t259.1, t259.2))) else (if x1 = 15 then ((xf_Ma_executeTriggering P g x1 x2 x3).bind fun t259 => (some (t259.1, t259.2))) else (if x1 = 16 then ((xf_Ma_executeTriggering P g x1 x2 x3).bind fun t259 => (some (t259.1, t259.2))) else (if x1 = 17 then ((xf_Ma_send P g x2 x3).bind fun t251 => (some (t251.1, t251.2))) else (if x1 = 18 then ((xf_Ma_testType g x1 x2 (85 + 2 * x3.toNatClampNeg)).bind fun t244 => (some (t244.1, t244.2))) else (if x1 = 19 then ((xf_Ma_testType g x1 x2 (85 + 2 * x3.toNatClampNeg)).bind fun t244 => (some (t244.1, t244.2))) else (if x1 = 20 then ((xf_Fr_pop g (85 + 2 * x3.toNatClampNeg)).bind fun t201 => ((xf_Ma_print t201.2 t201.1).bind fun t204 => (some ((0 : Int32), t204.2)))) else (if x1 = 21 then ((xf_Fr_pop g (85 + 2 * x3.toNatClampNeg)).bind fun t212 => ((xf_Ma_toss t212.2 t212.1).bind fun t215 => (some (t215.1, t215.2)))) else (if x1 = 22 then ((xf_Fr_pop g (85 + 2 * x3.toNatClampNeg)).bind fun t222 => (some ((0 : Int32), (qa_up t222.2 78 12 t222.1)))) else ((xf_Ma_executeTriggering P g x1 x2 x3).bind fun t259 => (some (t259.1, t259.2)))))))))))))))))))))))))))
set_option maxHeartbeats 4000000 in
set_option maxRecDepth 100000 in
theorem xc_Ma_execute (l : Launch) (D : va_G) (cI cJ cF cZ : ClassId) (ad : Nat → Nat) (P : qa_St → Int32 → Int32 → qa_Re) (FP LP : Nat) (hP : ∀ (g : qa_St) (x1 x2 : Int32), qa_Mi l y_Ma_perform (qa_ws y_Ma_perform b_Ma_perform 9 (some .int)) (qa_rm FP LP) D (qa_ty cI cJ cF cZ) 107 ad (xe_en cI cJ cF ad) [.ref (ad 78), .int x1, .int x2] g (P g x1 x2)) (g : qa_St) (x1 : Int32) (x2 : Int32) (x3 : Int32) : qa_Mi l y_Ma_execute (qa_ws y_Ma_execute b_Ma_execute 5 (some .int)) (qa_rm (FP + 4) (LP + 94)) D (qa_ty cI cJ cF cZ) 107 ad (xe_en cI cJ cF ad) [.ref (ad 78), .int x1, .int x2, .int x3] g (xf_Ma_execute P g x1 x2 x3) := by
  refine qa_meti (by decide) (Nat.le_of_ble_eq_true rfl) ?_
  intro p e s m args below meth c Q A T S hK hN hA hT ret ls hl hO
  have hx := S.1
  have hb := S.2.1
  have hl : lv_has ls 5 [(0, .ref (ad 78)), (1, .int x1), (2, .int x2), (3, .int x3)] := hl
  unfold xf_Ma_execute at hT
  refine lv_aload_n hx hb d_Ma_execute_0 rfl (lv_at hl 0 rfl) ?_
  refine qa_get S hK hO hi_Ma 78 (by decide) rfl rfl 1 (by decide) lf_Ma_11 rfl rfl d_Ma_execute_1 ?_
  refine lv_iload_n hx hb d_Ma_execute_4 rfl (lv_at hl 3 rfl) ?_
  obtain ⟨hi5, hT⟩ := qa_c hT
  refine qa_aald (n := 11) S hK hO 79 (by decide) 2 rfl rfl rfl hi5 rfl d_Ma_execute_5 ?_
  refine lv_astore (lv' := [(4, .ref (ad (85 + 2 * x3.toNatClampNeg))), (0, .ref (ad 78)), (1, .int x1), (2, .int x2), (3, .int x3)]) hx hb d_Ma_execute_6 hl (by decide) rfl (fun ls hl => ?_)
  refine lv_iload_n hx hb d_Ma_execute_8 rfl (lv_at hl 2 rfl) ?_
  by_cases h9_0 : x1 = 0
  · have hT := qa_t hT h9_0
    refine lv_tableIn (off := 107) (tgt := 116) hx hb d_Ma_execute_9 (by rw [h9_0]; decide) (by rw [h9_0]; decide) (by rw [h9_0]; rfl) (by decide) ?_
    refine lv_aload hx hb d_Ma_execute_116 (lv_at hl 0 rfl) ?_
    refine lv_iload_n hx hb d_Ma_execute_118 rfl (lv_at hl 3 rfl) ?_
    obtain ⟨t119, ht119, hT⟩ := qa_b hT
    refine qa_Vv (As := [.int x2]) (rest := []) (r := (85 + 2 * x3.toNatClampNeg)) S hK hN hA hO (xc_Fr_push l D cI cJ cF cZ ad g (85 + 2 * x3.toNatClampNeg) x2 (xe_Fof hi5)) ht119 qy_Fr_push lm_Ma_63 ⟨by omega, by omega⟩ (xe_Flt (xe_Fof hi5)) (xe_fr (xe_Fof hi5) _) rfl rfl rfl hl.1 rfl (Nat.le_of_ble_eq_true rfl) d_Ma_execute_119 (fun H locs hO => ?_)
    refine lv_iconst (v := 0) hx hb d_Ma_execute_122 (by decide) ?_
    exact ret hT hO d_Ma_execute_123
  have hT := qa_f hT h9_0
  by_cases h9_1 : x1 = 1
  · have hT := qa_t hT h9_1
    refine lv_tableIn (off := 115) (tgt := 124) hx hb d_Ma_execute_9 (by rw [h9_1]; decide) (by rw [h9_1]; decide) (by rw [h9_1]; rfl) (by decide) ?_
    refine lv_aload hx hb d_Ma_execute_124 (lv_at hl 0 rfl) ?_
    refine lv_iconst (v := -1) hx hb d_Ma_execute_126 (by decide) ?_
    obtain ⟨t127, ht127, hT⟩ := qa_b hT
    refine qa_Vv (As := [.int (-1 : Int32)]) (rest := []) (r := (85 + 2 * x3.toNatClampNeg)) S hK hN hA hO (xc_Fr_push l D cI cJ cF cZ ad g (85 + 2 * x3.toNatClampNeg) (-1 : Int32) (xe_Fof hi5)) ht127 qy_Fr_push lm_Ma_63 ⟨by omega, by omega⟩ (xe_Flt (xe_Fof hi5)) (xe_fr (xe_Fof hi5) _) rfl rfl rfl hl.1 rfl (Nat.le_of_ble_eq_true rfl) d_Ma_execute_127 (fun H locs hO => ?_)
    refine lv_iconst (v := 0) hx hb d_Ma_execute_130 (by decide) ?_
    exact ret hT hO d_Ma_execute_131
  have hT := qa_f hT h9_1
  by_cases h9_2 : x1 = 2
  · have hT := qa_t hT h9_2
    refine lv_tableIn (off := 123) (tgt := 132) hx hb d_Ma_execute_9 (by rw [h9_2]; decide) (by rw [h9_2]; decide) (by rw [h9_2]; rfl) (by decide) ?_
    refine lv_aload hx hb d_Ma_execute_132 (lv_at hl 0 rfl) ?_
    refine lv_aload hx hb d_Ma_execute_134 (lv_at hl 0 rfl) ?_
    refine lv_iload_n hx hb d_Ma_execute_136 rfl (lv_at hl 3 rfl) ?_
    obtain ⟨t137, ht137, hT⟩ := qa_b hT
    refine qa_Vi (As := [.int x2]) (rest := [.ref (ad (85 + 2 * x3.toNatClampNeg))]) (r := (85 + 2 * x3.toNatClampNeg)) S hK hN hA hO (xc_Fr_place l D cI cJ cF cZ ad g (85 + 2 * x3.toNatClampNeg) x2 (xe_Fof hi5)) ht137 qy_Fr_place lm_Ma_123 ⟨by omega, by omega⟩ (xe_Flt (xe_Fof hi5)) (xe_fr (xe_Fof hi5) _) rfl rfl rfl hl.1 rfl (Nat.le_of_ble_eq_true rfl) d_Ma_execute_137 (fun H locs hO => ?_)
    obtain ⟨t140, ht140, hT⟩ := qa_b hT
    refine qa_Vv (As := [.int t137.1]) (rest := []) (r := (85 + 2 * x3.toNatClampNeg)) S hK hN hA hO (xc_Fr_push l D cI cJ cF cZ ad t137.2 (85 + 2 * x3.toNatClampNeg) t137.1 (xe_Fof hi5)) ht140 qy_Fr_push lm_Ma_63 ⟨by omega, by omega⟩ (xe_Flt (xe_Fof hi5)) (xe_fr (xe_Fof hi5) _) rfl rfl rfl hl.1 rfl (Nat.le_of_ble_eq_true rfl) d_Ma_execute_140 (fun H locs hO => ?_)
    refine lv_iconst (v := 0) hx hb d_Ma_execute_143 (by decide) ?_
    exact ret hT hO d_Ma_execute_144
  have hT := qa_f hT h9_2
  by_cases h9_3 : x1 = 3
  · have hT := qa_t hT h9_3
    refine lv_tableIn (off := 136) (tgt := 145) hx hb d_Ma_execute_9 (by rw [h9_3]; decide) (by rw [h9_3]; decide) (by rw [h9_3]; rfl) (by decide) ?_
    refine lv_aload hx hb d_Ma_execute_145 (lv_at hl 0 rfl) ?_
    refine lv_iload_n hx hb d_Ma_execute_147 rfl (lv_at hl 3 rfl) ?_
    refine lv_aload hx hb d_Ma_execute_148 (lv_at hl 0 rfl) ?_
    obtain ⟨t150, ht150, hT⟩ := qa_b hT
    refine qa_Vi (As := []) (rest := [.int x2, .ref (ad (85 + 2 * x3.toNatClampNeg))]) (r := (85 + 2 * x3.toNatClampNeg)) S hK hN hA hO (xc_Fr_pop l D cI cJ cF cZ ad g (85 + 2 * x3.toNatClampNeg) (xe_Fof hi5)) ht150 qy_Fr_pop lm_Ma_126 ⟨by omega, by omega⟩ (xe_Flt (xe_Fof hi5)) (xe_fr (xe_Fof hi5) _) rfl rfl rfl hl.1 rfl (Nat.le_of_ble_eq_true rfl) d_Ma_execute_150 (fun H locs hO => ?_)
    obtain ⟨t153, ht153, hT⟩ := qa_b hT
    refine qa_Vv (As := [.int x2, .int t150.1]) (rest := []) (r := (85 + 2 * x3.toNatClampNeg)) S hK hN hA hO (xc_Fr_setPlace l D cI cJ cF cZ ad t150.2 (85 + 2 * x3.toNatClampNeg) x2 t150.1 (xe_Fof hi5)) ht153 qy_Fr_setPlace lm_Ma_129 ⟨by omega, by omega⟩ (xe_Flt (xe_Fof hi5)) (xe_fr (xe_Fof hi5) _) rfl rfl rfl hl.1 rfl (Nat.le_of_ble_eq_true rfl) d_Ma_execute_153 (fun H locs hO => ?_)
    refine lv_iconst (v := 0) hx hb d_Ma_execute_156 (by decide) ?_
    exact ret hT hO d_Ma_execute_157
  have hT := qa_f hT h9_3
  by_cases h9_4 : x1 = 4
  · have hT := qa_t hT h9_4
    refine lv_tableIn (off := 149) (tgt := 158) hx hb d_Ma_execute_9 (by rw [h9_4]; decide) (by rw [h9_4]; decide) (by rw [h9_4]; rfl) (by decide) ?_
    refine lv_aload hx hb d_Ma_execute_158 (lv_at hl 0 rfl) ?_
    obtain ⟨t160, ht160, hT⟩ := qa_b hT
    refine qa_Vi (As := []) (rest := []) (r := (85 + 2 * x3.toNatClampNeg)) S hK hN hA hO (xc_Fr_pop l D cI cJ cF cZ ad g (85 + 2 * x3.toNatClampNeg) (xe_Fof hi5)) ht160 qy_Fr_pop lm_Ma_126 ⟨by omega, by omega⟩ (xe_Flt (xe_Fof hi5)) (xe_fr (xe_Fof hi5) _) rfl rfl rfl hl.1 rfl (Nat.le_of_ble_eq_true rfl) d_Ma_execute_160 (fun H locs hO => ?_)
    refine lv_pop hx hb d_Ma_execute_163 rfl ?_
    refine lv_iconst (v := 0) hx hb d_Ma_execute_164 (by decide) ?_
    exact ret hT hO d_Ma_execute_165
  have hT := qa_f hT h9_4
  by_cases h9_5 : x1 = 5
  · have hT := qa_t hT h9_5
    refine lv_tableIn (off := 157) (tgt := 166) hx hb d_Ma_execute_9 (by rw [h9_5]; decide) (by rw [h9_5]; decide) (by rw [h9_5]; rfl) (by decide) ?_
    refine lv_aload_n hx hb d_Ma_execute_166 rfl (lv_at hl 1 rfl) ?_
    refine lv_iload_n hx hb d_Ma_execute_167 rfl (lv_at hl 2 rfl) ?_
    refine lv_aload hx hb d_Ma_execute_168 (lv_at hl 0 rfl) ?_
    obtain ⟨t170, ht170, hT⟩ := qa_b hT
    refine qa_Vi (As := [.int x1, .ref (ad (85 + 2 * x3.toNatClampNeg))]) (rest := []) (r := 78) S hK hN hA hO (xc_Ma_calculate l D cI cJ cF cZ ad g x1 (85 + 2 * x3.toNatClampNeg) (xe_Fof hi5)) ht170 qy_Ma_calculate lm_Ma_132 ⟨by omega, by omega⟩ (by decide) rfl rfl rfl rfl hl.1 rfl (Nat.le_of_ble_eq_true rfl) d_Ma_execute_170 (fun H locs hO => ?_)
    exact ret hT hO d_Ma_execute_173
  have hT := qa_f hT h9_5
  by_cases h9_6 : x1 = 6
  · have hT := qa_t hT h9_6
    refine lv_tableIn (off := 157) (tgt := 166) hx hb d_Ma_execute_9 (by rw [h9_6]; decide) (by rw [h9_6]; decide) (by rw [h9_6]; rfl) (by decide) ?_
    refine lv_aload_n hx hb d_Ma_execute_166 rfl (lv_at hl 1 rfl) ?_
    refine lv_iload_n hx hb d_Ma_execute_167 rfl (lv_at hl 2 rfl) ?_
    refine lv_aload hx hb d_Ma_execute_168 (lv_at hl 0 rfl) ?_
    obtain ⟨t170, ht170, hT⟩ := qa_b hT
    refine qa_Vi (As := [.int x1, .ref (ad (85 + 2 * x3.toNatClampNeg))]) (rest := []) (r := 78) S hK hN hA hO (xc_Ma_calculate l D cI cJ cF cZ ad g x1 (85 + 2 * x3.toNatClampNeg) (xe_Fof hi5)) ht170 qy_Ma_calculate lm_Ma_132 ⟨by omega, by omega⟩ (by decide) rfl rfl rfl rfl hl.1 rfl (Nat.le_of_ble_eq_true rfl) d_Ma_execute_170 (fun H locs hO => ?_)
    exact ret hT hO d_Ma_execute_173
  have hT := qa_f hT h9_6
  by_cases h9_7 : x1 = 7
  · have hT := qa_t hT h9_7
    refine lv_tableIn (off := 157) (tgt := 166) hx hb d_Ma_execute_9 (by rw [h9_7]; decide) (by rw [h9_7]; decide) (by rw [h9_7]; rfl) (by decide) ?_
    refine lv_aload_n hx hb d_Ma_execute_166 rfl (lv_at hl 1 rfl) ?_
    refine lv_iload_n hx hb d_Ma_execute_167 rfl (lv_at hl 2 rfl) ?_
    refine lv_aload hx hb d_Ma_execute_168 (lv_at hl 0 rfl) ?_
    obtain ⟨t170, ht170, hT⟩ := qa_b hT
    refine qa_Vi (As := [.int x1, .ref (ad (85 + 2 * x3.toNatClampNeg))]) (rest := []) (r := 78) S hK hN hA hO (xc_Ma_calculate l D cI cJ cF cZ ad g x1 (85 + 2 * x3.toNatClampNeg) (xe_Fof hi5)) ht170 qy_Ma_calculate lm_Ma_132 ⟨by omega, by omega⟩ (by decide) rfl rfl rfl rfl hl.1 rfl (Nat.le_of_ble_eq_true rfl) d_Ma_execute_170 (fun H locs hO => ?_)
    exact ret hT hO d_Ma_execute_173
  have hT := qa_f hT h9_7
  by_cases h9_8 : x1 = 8
  · have hT := qa_t hT h9_8
    refine lv_tableIn (off := 157) (tgt := 166) hx hb d_Ma_execute_9 (by rw [h9_8]; decide) (by rw [h9_8]; decide) (by rw [h9_8]; rfl) (by decide) ?_
    refine lv_aload_n hx hb d_Ma_execute_166 rfl (lv_at hl 1 rfl) ?_
    refine lv_iload_n hx hb d_Ma_execute_167 rfl (lv_at hl 2 rfl) ?_
    refine lv_aload hx hb d_Ma_execute_168 (lv_at hl 0 rfl) ?_
    obtain ⟨t170, ht170, hT⟩ := qa_b hT
    refine qa_Vi (As := [.int x1, .ref (ad (85 + 2 * x3.toNatClampNeg))]) (rest := []) (r := 78) S hK hN hA hO (xc_Ma_calculate l D cI cJ cF cZ ad g x1 (85 + 2 * x3.toNatClampNeg) (xe_Fof hi5)) ht170 qy_Ma_calculate lm_Ma_132 ⟨by omega, by omega⟩ (by decide) rfl rfl rfl rfl hl.1 rfl (Nat.le_of_ble_eq_true rfl) d_Ma_execute_170 (fun H locs hO => ?_)
    exact ret hT hO d_Ma_execute_173
  have hT := qa_f hT h9_8
  by_cases h9_9 : x1 = 9
  · have hT := qa_t hT h9_9
    refine lv_tableIn (off := 165) (tgt := 174) hx hb d_Ma_execute_9 (by rw [h9_9]; decide) (by rw [h9_9]; decide) (by rw [h9_9]; rfl) (by decide) ?_
    refine lv_aload hx hb d_Ma_execute_174 (lv_at hl 0 rfl) ?_
    refine lv_iload_n hx hb d_Ma_execute_176 rfl (lv_at hl 3 rfl) ?_
    obtain ⟨t177, ht177, hT⟩ := qa_b hT
    refine qa_Vv (As := [.int x2]) (rest := []) (r := (85 + 2 * x3.toNatClampNeg)) S hK hN hA hO (xc_Fr_setNext l D cI cJ cF cZ ad g (85 + 2 * x3.toNatClampNeg) x2 (xe_Fof hi5)) ht177 qy_Fr_setNext lm_Ma_101 ⟨by omega, by omega⟩ (xe_Flt (xe_Fof hi5)) (xe_fr (xe_Fof hi5) _) rfl rfl rfl hl.1 rfl (Nat.le_of_ble_eq_true rfl) d_Ma_execute_177 (fun H locs hO => ?_)
    refine lv_iconst (v := 0) hx hb d_Ma_execute_180 (by decide) ?_
    exact ret hT hO d_Ma_execute_181
  have hT := qa_f hT h9_9
  by_cases h9_10 : x1 = 10
  · have hT := qa_t hT h9_10
    refine lv_tableIn (off := 173) (tgt := 182) hx hb d_Ma_execute_9 (by rw [h9_10]; decide) (by rw [h9_10]; decide) (by rw [h9_10]; rfl) (by decide) ?_
    refine lv_aload hx hb d_Ma_execute_182 (lv_at hl 0 rfl) ?_
    obtain ⟨t184, ht184, hT⟩ := qa_b hT
    refine qa_Vi (As := []) (rest := []) (r := (85 + 2 * x3.toNatClampNeg)) S hK hN hA hO (xc_Fr_pop l D cI cJ cF cZ ad g (85 + 2 * x3.toNatClampNeg) (xe_Fof hi5)) ht184 qy_Fr_pop lm_Ma_126 ⟨by omega, by omega⟩ (xe_Flt (xe_Fof hi5)) (xe_fr (xe_Fof hi5) _) rfl rfl rfl hl.1 rfl (Nat.le_of_ble_eq_true rfl) d_Ma_execute_184 (fun H locs hO => ?_)
    refine lv_if_gt (tgt := 196) hx hb d_Ma_execute_187 (by decide) (fun h => ?_) (fun h => ?_)
    · have hT := qa_t hT h
      refine lv_iconst (v := 0) hx hb d_Ma_execute_196 (by decide) ?_
      exact ret hT hO d_Ma_execute_197
    · have hT := qa_f hT h
      refine lv_aload hx hb d_Ma_execute_190 (lv_at hl 0 rfl) ?_
      refine lv_iload_n hx hb d_Ma_execute_192 rfl (lv_at hl 3 rfl) ?_
      obtain ⟨t193, ht193, hT⟩ := qa_b hT
      refine qa_Vv (As := [.int x2]) (rest := []) (r := (85 + 2 * x3.toNatClampNeg)) S hK hN hA hO (xc_Fr_setNext l D cI cJ cF cZ ad t184.2 (85 + 2 * x3.toNatClampNeg) x2 (xe_Fof hi5)) ht193 qy_Fr_setNext lm_Ma_101 ⟨by omega, by omega⟩ (xe_Flt (xe_Fof hi5)) (xe_fr (xe_Fof hi5) _) rfl rfl rfl hl.1 rfl (Nat.le_of_ble_eq_true rfl) d_Ma_execute_193 (fun H locs hO => ?_)
      refine lv_iconst (v := 0) hx hb d_Ma_execute_196 (by decide) ?_
      exact ret hT hO d_Ma_execute_197
  have hT := qa_f hT h9_10
  by_cases h9_11 : x1 = 11
  · have hT := qa_t hT h9_11
    refine lv_tableIn (off := 246) (tgt := 255) hx hb d_Ma_execute_9 (by rw [h9_11]; decide) (by rw [h9_11]; decide) (by rw [h9_11]; rfl) (by decide) ?_
    refine lv_aload_n hx hb d_Ma_execute_255 rfl (lv_at hl 1 rfl) ?_
    refine lv_iload_n hx hb d_Ma_execute_256 rfl (lv_at hl 2 rfl) ?_
    refine lv_iload_n hx hb d_Ma_execute_257 rfl (lv_at hl 3 rfl) ?_
    refine lv_iload_n hx hb d_Ma_execute_258 rfl (lv_at hl 4 rfl) ?_
    obtain ⟨t259, ht259, hT⟩ := qa_b hT
    refine qa_Vi (As := [.int x1, .int x2, .int x3]) (rest := []) (r := 78) S hK hN hA hO (xc_Ma_executeTriggering l D cI cJ cF cZ ad P FP LP hP g x1 x2 x3) ht259 qy_Ma_executeTriggering lm_Ma_149 ⟨by omega, by omega⟩ (by decide) rfl rfl rfl rfl hl.1 rfl (Nat.le_of_ble_eq_true rfl) d_Ma_execute_259 (fun H locs hO => ?_)
    exact ret hT hO d_Ma_execute_262
  have hT := qa_f hT h9_11
  by_cases h9_12 : x1 = 12
  · have hT := qa_t hT h9_12
    refine lv_tableIn (off := 221) (tgt := 230) hx hb d_Ma_execute_9 (by rw [h9_12]; decide) (by rw [h9_12]; decide) (by rw [h9_12]; rfl) (by decide) ?_
    refine lv_aload_n hx hb d_Ma_execute_230 rfl (lv_at hl 1 rfl) ?_
    refine lv_iload_n hx hb d_Ma_execute_231 rfl (lv_at hl 2 rfl) ?_
    refine lv_iload_n hx hb d_Ma_execute_232 rfl (lv_at hl 3 rfl) ?_
    refine lv_aload hx hb d_Ma_execute_233 (lv_at hl 0 rfl) ?_
    obtain ⟨t235, ht235, hT⟩ := qa_b hT
    refine qa_Vi (As := [.int x1, .int x2, .ref (ad (85 + 2 * x3.toNatClampNeg))]) (rest := []) (r := 78) S hK hN hA hO (xc_Ma_accessField l D cI cJ cF cZ ad g x1 x2 (85 + 2 * x3.toNatClampNeg) (xe_Fof hi5)) ht235 qy_Ma_accessField lm_Ma_139 ⟨by omega, by omega⟩ (by decide) rfl rfl rfl rfl hl.1 rfl (Nat.le_of_ble_eq_true rfl) d_Ma_execute_235 (fun H locs hO => ?_)
    exact ret hT hO d_Ma_execute_238
  have hT := qa_f hT h9_12
  by_cases h9_13 : x1 = 13
  · have hT := qa_t hT h9_13
    refine lv_tableIn (off := 221) (tgt := 230) hx hb d_Ma_execute_9 (by rw [h9_13]; decide) (by rw [h9_13]; decide) (by rw [h9_13]; rfl) (by decide) ?_
    refine lv_aload_n hx hb d_Ma_execute_230 rfl (lv_at hl 1 rfl) ?_
    refine lv_iload_n hx hb d_Ma_execute_231 rfl (lv_at hl 2 rfl) ?_
    refine lv_iload_n hx hb d_Ma_execute_232 rfl (lv_at hl 3 rfl) ?_
    refine lv_aload hx hb d_Ma_execute_233 (lv_at hl 0 rfl) ?_
    obtain ⟨t235, ht235, hT⟩ := qa_b hT
    refine qa_Vi (As := [.int x1, .int x2, .ref (ad (85 + 2 * x3.toNatClampNeg))]) (rest := []) (r := 78) S hK hN hA hO (xc_Ma_accessField l D cI cJ cF cZ ad g x1 x2 (85 + 2 * x3.toNatClampNeg) (xe_Fof hi5)) ht235 qy_Ma_accessField lm_Ma_139 ⟨by omega, by omega⟩ (by decide) rfl rfl rfl rfl hl.1 rfl (Nat.le_of_ble_eq_true rfl) d_Ma_execute_235 (fun H locs hO => ?_)
    exact ret hT hO d_Ma_execute_238
  have hT := qa_f hT h9_13
  by_cases h9_14 : x1 = 14
  · have hT := qa_t hT h9_14
    refine lv_tableIn (off := 246) (tgt := 255) hx hb d_Ma_execute_9 (by rw [h9_14]; decide) (by rw [h9_14]; decide) (by rw [h9_14]; rfl) (by decide) ?_
    refine lv_aload_n hx hb d_Ma_execute_255 rfl (lv_at hl 1 rfl) ?_
    refine lv_iload_n hx hb d_Ma_execute_256 rfl (lv_at hl 2 rfl) ?_
    refine lv_iload_n hx hb d_Ma_execute_257 rfl (lv_at hl 3 rfl) ?_
    refine lv_iload_n hx hb d_Ma_execute_258 rfl (lv_at hl 4 rfl) ?_
    obtain ⟨t259, ht259, hT⟩ := qa_b hT
    refine qa_Vi (As := [.int x1, .int x2, .int x3]) (rest := []) (r := 78) S hK hN hA hO (xc_Ma_executeTriggering l D cI cJ cF cZ ad P FP LP hP g x1 x2 x3) ht259 qy_Ma_executeTriggering lm_Ma_149 ⟨by omega, by omega⟩ (by decide) rfl rfl rfl rfl hl.1 rfl (Nat.le_of_ble_eq_true rfl) d_Ma_execute_259 (fun H locs hO => ?_)
    exact ret hT hO d_Ma_execute_262
  have hT := qa_f hT h9_14
  by_cases h9_15 : x1 = 15
  · have hT := qa_t hT h9_15
    refine lv_tableIn (off := 246) (tgt := 255) hx hb d_Ma_execute_9 (by rw [h9_15]; decide) (by rw [h9_15]; decide) (by rw [h9_15]; rfl) (by decide) ?_
    refine lv_aload_n hx hb d_Ma_execute_255 rfl (lv_at hl 1 rfl) ?_
    refine lv_iload_n hx hb d_Ma_execute_256 rfl (lv_at hl 2 rfl) ?_
    refine lv_iload_n hx hb d_Ma_execute_257 rfl (lv_at hl 3 rfl) ?_
    refine lv_iload_n hx hb d_Ma_execute_258 rfl (lv_at hl 4 rfl) ?_
    obtain ⟨t259, ht259, hT⟩ := qa_b hT
    refine qa_Vi (As := [.int x1, .int x2, .int x3]) (rest := []) (r := 78) S hK hN hA hO (xc_Ma_executeTriggering l D cI cJ cF cZ ad P FP LP hP g x1 x2 x3) ht259 qy_Ma_executeTriggering lm_Ma_149 ⟨by omega, by omega⟩ (by decide) rfl rfl rfl rfl hl.1 rfl (Nat.le_of_ble_eq_true rfl) d_Ma_execute_259 (fun H locs hO => ?_)
    exact ret hT hO d_Ma_execute_262
  have hT := qa_f hT h9_15
  by_cases h9_16 : x1 = 16
  · have hT := qa_t hT h9_16
    refine lv_tableIn (off := 246) (tgt := 255) hx hb d_Ma_execute_9 (by rw [h9_16]; decide) (by rw [h9_16]; decide) (by rw [h9_16]; rfl) (by decide) ?_
    refine lv_aload_n hx hb d_Ma_execute_255 rfl (lv_at hl 1 rfl) ?_
    refine lv_iload_n hx hb d_Ma_execute_256 rfl (lv_at hl 2 rfl) ?_
    refine lv_iload_n hx hb d_Ma_execute_257 rfl (lv_at hl 3 rfl) ?_
    refine lv_iload_n hx hb d_Ma_execute_258 rfl (lv_at hl 4 rfl) ?_
    obtain ⟨t259, ht259, hT⟩ := qa_b hT
    refine qa_Vi (As := [.int x1, .int x2, .int x3]) (rest := []) (r := 78) S hK hN hA hO (xc_Ma_executeTriggering l D cI cJ cF cZ ad P FP LP hP g x1 x2 x3) ht259 qy_Ma_executeTriggering lm_Ma_149 ⟨by omega, by omega⟩ (by decide) rfl rfl rfl rfl hl.1 rfl (Nat.le_of_ble_eq_true rfl) d_Ma_execute_259 (fun H locs hO => ?_)
    exact ret hT hO d_Ma_execute_262
  have hT := qa_f hT h9_16
  by_cases h9_17 : x1 = 17
  · have hT := qa_t hT h9_17
    refine lv_tableIn (off := 239) (tgt := 248) hx hb d_Ma_execute_9 (by rw [h9_17]; decide) (by rw [h9_17]; decide) (by rw [h9_17]; rfl) (by decide) ?_
    refine lv_aload_n hx hb d_Ma_execute_248 rfl (lv_at hl 1 rfl) ?_
    refine lv_iload_n hx hb d_Ma_execute_249 rfl (lv_at hl 3 rfl) ?_
    refine lv_iload_n hx hb d_Ma_execute_250 rfl (lv_at hl 4 rfl) ?_
    obtain ⟨t251, ht251, hT⟩ := qa_b hT
    refine qa_Vi (As := [.int x2, .int x3]) (rest := []) (r := 78) S hK hN hA hO (xc_Ma_send l D cI cJ cF cZ ad P FP LP hP g x2 x3) ht251 qy_Ma_send lm_Ma_146 ⟨by omega, by omega⟩ (by decide) rfl rfl rfl rfl hl.1 rfl (Nat.le_of_ble_eq_true rfl) d_Ma_execute_251 (fun H locs hO => ?_)
    exact ret hT hO d_Ma_execute_254
  have hT := qa_f hT h9_17
  by_cases h9_18 : x1 = 18
  · have hT := qa_t hT h9_18
    refine lv_tableIn (off := 230) (tgt := 239) hx hb d_Ma_execute_9 (by rw [h9_18]; decide) (by rw [h9_18]; decide) (by rw [h9_18]; rfl) (by decide) ?_
    refine lv_aload_n hx hb d_Ma_execute_239 rfl (lv_at hl 1 rfl) ?_
    refine lv_iload_n hx hb d_Ma_execute_240 rfl (lv_at hl 2 rfl) ?_
    refine lv_iload_n hx hb d_Ma_execute_241 rfl (lv_at hl 3 rfl) ?_
    refine lv_aload hx hb d_Ma_execute_242 (lv_at hl 0 rfl) ?_
    obtain ⟨t244, ht244, hT⟩ := qa_b hT
    refine qa_Vi (As := [.int x1, .int x2, .ref (ad (85 + 2 * x3.toNatClampNeg))]) (rest := []) (r := 78) S hK hN hA hO (xc_Ma_testType l D cI cJ cF cZ ad g x1 x2 (85 + 2 * x3.toNatClampNeg) (xe_Fof hi5)) ht244 qy_Ma_testType lm_Ma_143 ⟨by omega, by omega⟩ (by decide) rfl rfl rfl rfl hl.1 rfl (Nat.le_of_ble_eq_true rfl) d_Ma_execute_244 (fun H locs hO => ?_)
    exact ret hT hO d_Ma_execute_247
  have hT := qa_f hT h9_18
  by_cases h9_19 : x1 = 19
  · have hT := qa_t hT h9_19
    refine lv_tableIn (off := 230) (tgt := 239) hx hb d_Ma_execute_9 (by rw [h9_19]; decide) (by rw [h9_19]; decide) (by rw [h9_19]; rfl) (by decide) ?_
    refine lv_aload_n hx hb d_Ma_execute_239 rfl (lv_at hl 1 rfl) ?_
    refine lv_iload_n hx hb d_Ma_execute_240 rfl (lv_at hl 2 rfl) ?_
    refine lv_iload_n hx hb d_Ma_execute_241 rfl (lv_at hl 3 rfl) ?_
    refine lv_aload hx hb d_Ma_execute_242 (lv_at hl 0 rfl) ?_
    obtain ⟨t244, ht244, hT⟩ := qa_b hT
    refine qa_Vi (As := [.int x1, .int x2, .ref (ad (85 + 2 * x3.toNatClampNeg))]) (rest := []) (r := 78) S hK hN hA hO (xc_Ma_testType l D cI cJ cF cZ ad g x1 x2 (85 + 2 * x3.toNatClampNeg) (xe_Fof hi5)) ht244 qy_Ma_testType lm_Ma_143 ⟨by omega, by omega⟩ (by decide) rfl rfl rfl rfl hl.1 rfl (Nat.le_of_ble_eq_true rfl) d_Ma_execute_244 (fun H locs hO => ?_)
    exact ret hT hO d_Ma_execute_247
  have hT := qa_f hT h9_19
  by_cases h9_20 : x1 = 20
  · have hT := qa_t hT h9_20
    refine lv_tableIn (off := 189) (tgt := 198) hx hb d_Ma_execute_9 (by rw [h9_20]; decide) (by rw [h9_20]; decide) (by rw [h9_20]; rfl) (by decide) ?_
    refine lv_aload_n hx hb d_Ma_execute_198 rfl (lv_at hl 1 rfl) ?_
    refine lv_aload hx hb d_Ma_execute_199 (lv_at hl 0 rfl) ?_
    obtain ⟨t201, ht201, hT⟩ := qa_b hT
    refine qa_Vi (As := []) (rest := [.ref (ad 78)]) (r := (85 + 2 * x3.toNatClampNeg)) S hK hN hA hO (xc_Fr_pop l D cI cJ cF cZ ad g (85 + 2 * x3.toNatClampNeg) (xe_Fof hi5)) ht201 qy_Fr_pop lm_Ma_126 ⟨by omega, by omega⟩ (xe_Flt (xe_Fof hi5)) (xe_fr (xe_Fof hi5) _) rfl rfl rfl hl.1 rfl (Nat.le_of_ble_eq_true rfl) d_Ma_execute_201 (fun H locs hO => ?_)
    obtain ⟨t204, ht204, hT⟩ := qa_b hT
    refine qa_Vv (As := [.int t201.1]) (rest := []) (r := 78) S hK hN hA hO (xc_Ma_print l D cI cJ cF cZ ad t201.2 t201.1) ht204 qy_Ma_print lm_Ma_136 ⟨by omega, by omega⟩ (by decide) rfl rfl rfl rfl hl.1 rfl (Nat.le_of_ble_eq_true rfl) d_Ma_execute_204 (fun H locs hO => ?_)
    refine lv_iconst (v := 0) hx hb d_Ma_execute_207 (by decide) ?_
    exact ret hT hO d_Ma_execute_208
  have hT := qa_f hT h9_20
  by_cases h9_21 : x1 = 21
  · have hT := qa_t hT h9_21
    refine lv_tableIn (off := 200) (tgt := 209) hx hb d_Ma_execute_9 (by rw [h9_21]; decide) (by rw [h9_21]; decide) (by rw [h9_21]; rfl) (by decide) ?_
    refine lv_aload_n hx hb d_Ma_execute_209 rfl (lv_at hl 1 rfl) ?_
    refine lv_aload hx hb d_Ma_execute_210 (lv_at hl 0 rfl) ?_
    obtain ⟨t212, ht212, hT⟩ := qa_b hT
    refine qa_Vi (As := []) (rest := [.ref (ad 78)]) (r := (85 + 2 * x3.toNatClampNeg)) S hK hN hA hO (xc_Fr_pop l D cI cJ cF cZ ad g (85 + 2 * x3.toNatClampNeg) (xe_Fof hi5)) ht212 qy_Fr_pop lm_Ma_126 ⟨by omega, by omega⟩ (xe_Flt (xe_Fof hi5)) (xe_fr (xe_Fof hi5) _) rfl rfl rfl hl.1 rfl (Nat.le_of_ble_eq_true rfl) d_Ma_execute_212 (fun H locs hO => ?_)
    obtain ⟨t215, ht215, hT⟩ := qa_b hT
    refine qa_Vi (As := [.int t212.1]) (rest := []) (r := 78) S hK hN hA hO (xc_Ma_toss l D cI cJ cF cZ ad t212.2 t212.1) ht215 qy_Ma_toss lm_Ma_87 ⟨by omega, by omega⟩ (by decide) rfl rfl rfl rfl hl.1 rfl (Nat.le_of_ble_eq_true rfl) d_Ma_execute_215 (fun H locs hO => ?_)
    exact ret hT hO d_Ma_execute_218
  have hT := qa_f hT h9_21
  by_cases h9_22 : x1 = 22
  · have hT := qa_t hT h9_22
    refine lv_tableIn (off := 210) (tgt := 219) hx hb d_Ma_execute_9 (by rw [h9_22]; decide) (by rw [h9_22]; decide) (by rw [h9_22]; rfl) (by decide) ?_
    refine lv_aload_n hx hb d_Ma_execute_219 rfl (lv_at hl 1 rfl) ?_
    refine lv_aload hx hb d_Ma_execute_220 (lv_at hl 0 rfl) ?_
    obtain ⟨t222, ht222, hT⟩ := qa_b hT
    refine qa_Vi (As := []) (rest := [.ref (ad 78)]) (r := (85 + 2 * x3.toNatClampNeg)) S hK hN hA hO (xc_Fr_pop l D cI cJ cF cZ ad g (85 + 2 * x3.toNatClampNeg) (xe_Fof hi5)) ht222 qy_Fr_pop lm_Ma_126 ⟨by omega, by omega⟩ (xe_Flt (xe_Fof hi5)) (xe_fr (xe_Fof hi5) _) rfl rfl rfl hl.1 rfl (Nat.le_of_ble_eq_true rfl) d_Ma_execute_222 (fun H locs hO => ?_)
    refine qa_put S hK hO hi_Ma t_Ma t_Ma_ok n_Ma 78 (by decide) rfl rfl 12 (by decide) lf_Ma_80 rfl rfl (ty := .int) (by decide +kernel) rfl rfl (Nat.le_of_ble_eq_true rfl) rfl d_Ma_execute_225 (fun H locs hO => ?_)
    refine lv_iconst (v := 0) hx hb d_Ma_execute_228 (by decide) ?_
    exact ret hT hO d_Ma_execute_229
  have hT := qa_f hT h9_22
  have z0 : x1.toInt ≠ 0 := qa_ne h9_0 (by decide)
  have z1 : x1.toInt ≠ 1 := qa_ne h9_1 (by decide)
  have z2 : x1.toInt ≠ 2 := qa_ne h9_2 (by decide)
  have z3 : x1.toInt ≠ 3 := qa_ne h9_3 (by decide)
  have z4 : x1.toInt ≠ 4 := qa_ne h9_4 (by decide)
  have z5 : x1.toInt ≠ 5 := qa_ne h9_5 (by decide)
  have z6 : x1.toInt ≠ 6 := qa_ne h9_6 (by decide)
  have z7 : x1.toInt ≠ 7 := qa_ne h9_7 (by decide)
  have z8 : x1.toInt ≠ 8 := qa_ne h9_8 (by decide)
  have z9 : x1.toInt ≠ 9 := qa_ne h9_9 (by decide)
  have z10 : x1.toInt ≠ 10 := qa_ne h9_10 (by decide)
  have z11 : x1.toInt ≠ 11 := qa_ne h9_11 (by decide)
  have z12 : x1.toInt ≠ 12 := qa_ne h9_12 (by decide)
  have z13 : x1.toInt ≠ 13 := qa_ne h9_13 (by decide)
  have z14 : x1.toInt ≠ 14 := qa_ne h9_14 (by decide)
  have z15 : x1.toInt ≠ 15 := qa_ne h9_15 (by decide)
  have z16 : x1.toInt ≠ 16 := qa_ne h9_16 (by decide)
  have z17 : x1.toInt ≠ 17 := qa_ne h9_17 (by decide)
  have z18 : x1.toInt ≠ 18 := qa_ne h9_18 (by decide)
  have z19 : x1.toInt ≠ 19 := qa_ne h9_19 (by decide)
  have z20 : x1.toInt ≠ 20 := qa_ne h9_20 (by decide)
  have z21 : x1.toInt ≠ 21 := qa_ne h9_21 (by decide)
  have z22 : x1.toInt ≠ 22 := qa_ne h9_22 (by decide)
  refine lv_tableOut (tgt := 255) hx hb d_Ma_execute_9 (by omega) (by decide) ?_
  refine lv_aload_n hx hb d_Ma_execute_255 rfl (lv_at hl 1 rfl) ?_
  refine lv_iload_n hx hb d_Ma_execute_256 rfl (lv_at hl 2 rfl) ?_
  refine lv_iload_n hx hb d_Ma_execute_257 rfl (lv_at hl 3 rfl) ?_
  refine lv_iload_n hx hb d_Ma_execute_258 rfl (lv_at hl 4 rfl) ?_
  obtain ⟨t259, ht259, hT⟩ := qa_b hT
  refine qa_Vi (As := [.int x1, .int x2, .int x3]) (rest := []) (r := 78) S hK hN hA hO (xc_Ma_executeTriggering l D cI cJ cF cZ ad P FP LP hP g x1 x2 x3) ht259 qy_Ma_executeTriggering lm_Ma_149 ⟨by omega, by omega⟩ (by decide) rfl rfl rfl rfl hl.1 rfl (Nat.le_of_ble_eq_true rfl) d_Ma_execute_259 (fun H locs hO => ?_)
  exact ret hT hO d_Ma_execute_262
def xf_Ma_perform_176 (P : qa_St → Int32 → Int32 → qa_Re) (k43 : qa_St → Int32 → Int32 → Nat → Int32 → qa_Re) (g : qa_St) (x1 : Int32) (x2 : Int32) (r3 : Nat) (x4 : Int32) : qa_Re := (k43 g x1 x2 r3 (x4 + 1))
def xf_Ma_perform_140 (P : qa_St → Int32 → Int32 → qa_Re) (k43 : qa_St → Int32 → Int32 → Nat → Int32 → qa_Re) (g : qa_St) (x1 : Int32) (x2 : Int32) (r3 : Nat) (x4 : Int32) (x5 : Int32) (x7 : Int32) : qa_Re := (if x7 = (1 : Int32) then ((xf_Pr_handlerOf g x1 x5).bind fun t153 => (if t153.1 = (-1 : Int32) then (some ((1 : Int32), t153.2)) else ((xf_Fr_goOnWith t153.2 r3 t153.1 (t153.2 78 12)).bind fun t173 => (xf_Ma_perform_176 P k43 t173.2 x1 x2 r3 x4)))) else (xf_Ma_perform_176 P k43 g x1 x2 r3 x4))
def xf_Ma_perform_43 (P : qa_St → Int32 → Int32 → qa_Re) : Nat → qa_St → Int32 → Int32 → Nat → Int32 → qa_Re
  | 0, _, _, _, _, _ => none
  | n + 1, g, x1, x2, r3, x4 => (if (2000 : Int32) < x4 then (some ((2 : Int32), g)) else (if (g 78 10) < (g 78 11) then ((xf_Fr_next (qa_up g 78 10 ((g 78 10) + (1 : Int32))) r3).bind fun t75 => ((xf_Fr_setNext t75.2 r3 (t75.1 + (1 : Int32))).bind fun t85 => ((xf_Pr_opOf t85.2 x1 t75.1).bind fun t95 => ((xf_Pr_operandOf t95.2 x1 t75.1).bind fun t110 => ((xf_Ma_execute P t110.2 t95.1 t110.1 x2).bind fun t114 => (if t114.1 = (2 : Int32) then (some (t114.1, t114.2)) else (if t114.1 = 0 then (if t95.1 = (22 : Int32) then (some (t114.1, t114.2)) else (xf_Ma_perform_140 P (xf_Ma_perform_43 P n) t114.2 x1 x2 r3 x4 t75.1 t114.1)) else (xf_Ma_perform_140 P (xf_Ma_perform_43 P n) t114.2 x1 x2 r3 x4 t75.1 t114.1)))))))) else (some ((2 : Int32), g))))
def xf_Ma_perform (P : qa_St → Int32 → Int32 → qa_Re) (g : qa_St) (x1 : Int32) (x2 : Int32) : qa_Re := (if x2 ≤ (10 : Int32) then (if x2 < 0 ∨ 11 ≤ x2.toNatClampNeg then none else (if (x2 - (1 : Int32)) < 0 ∨ 11 ≤ (x2 - (1 : Int32)).toNatClampNeg then none else ((xf_Pr_inputsOf g x1).bind fun t34 => ((xf_Fr_beginFrom t34.2 (85 + 2 * x2.toNatClampNeg) (85 + 2 * (x2 - (1 : Int32)).toNatClampNeg) t34.1).bind fun t37 => (xf_Ma_perform_43 P 4096 t37.2 x1 x2 (85 + 2 * x2.toNatClampNeg) (0 : Int32)))))) else ((xf_Ma_toss g (-5 : Int32)).bind fun t9 => (some (t9.1, t9.2))))
set_option maxHeartbeats 4000000 in
set_option maxRecDepth 100000 in
theorem xc_Ma_perform (l : Launch) (D : va_G) (cI cJ cF cZ : ClassId) (ad : Nat → Nat) (P : qa_St → Int32 → Int32 → qa_Re) (FP LP : Nat) (hP : ∀ (g : qa_St) (x1 x2 : Int32), qa_Mi l y_Ma_perform (qa_ws y_Ma_perform b_Ma_perform 9 (some .int)) (qa_rm FP LP) D (qa_ty cI cJ cF cZ) 107 ad (xe_en cI cJ cF ad) [.ref (ad 78), .int x1, .int x2] g (P g x1 x2)) (g : qa_St) (x1 : Int32) (x2 : Int32) : qa_Mi l y_Ma_perform (qa_ws y_Ma_perform b_Ma_perform 9 (some .int)) (qa_rm (FP + 5) (LP + 118)) D (qa_ty cI cJ cF cZ) 107 ad (xe_en cI cJ cF ad) [.ref (ad 78), .int x1, .int x2] g (xf_Ma_perform P g x1 x2) := by
  refine qa_meti (by decide) (Nat.le_of_ble_eq_true rfl) ?_
  intro p e s m args below meth c Q A T S hK hN hA hT ret ls hl hO
  have hx := S.1
  have hb := S.2.1
  have hl : lv_has ls 9 [(0, .ref (ad 78)), (1, .int x1), (2, .int x2)] := hl
  have b176 : ∀ (k43 : qa_St → Int32 → Int32 → Nat → Int32 → qa_Re) (hk43 : ∀ (g : qa_St) (x1 : Int32) (x2 : Int32) (r3 : Nat) (x4 : Int32) (_ : xe_F r3) (ls : Array Slot) (H : Heap) (locs : List Loc), lv_has ls 9 [(0, .ref (ad 78)), (1, .int x1), (2, .int x2), (3, .ref (ad r3)), (4, .int x4)] → qa_O D 107 ad (xe_en cI cJ cF ad) A s.heap g H locs → k43 g x1 x2 r3 x4 = some T → W p l e (qa_rm (FP + 5) (LP + 118)) s m args below meth c H locs 0 0 Q (F0 m 43 ls [])), ∀ (g : qa_St) (x1 : Int32) (x2 : Int32) (r3 : Nat) (x4 : Int32) (_ : xe_F r3) (ls : Array Slot) (H : Heap) (locs : List Loc), lv_has ls 9 [(0, .ref (ad 78)), (1, .int x1), (2, .int x2), (3, .ref (ad r3)), (4, .int x4)] → qa_O D 107 ad (xe_en cI cJ cF ad) A s.heap g H locs → xf_Ma_perform_176 P k43 g x1 x2 r3 x4 = some T → W p l e (qa_rm (FP + 5) (LP + 118)) s m args below meth c H locs 0 0 Q (F0 m 176 ls []) := by
    intro k43 hk43
    intro g x1 x2 r3 x4 hf3 ls H locs hl hO hT
    unfold xf_Ma_perform_176 at hT
    refine lv_iinc (lv' := [(4, .int (x4 + 1)), (0, .ref (ad 78)), (1, .int x1), (2, .int x2), (3, .ref (ad r3))]) hx hb d_Ma_perform_176 hl (k := 4) rfl (qa_o1 _) (by decide) rfl (fun ls hl => ?_)
    refine lv_goto (tgt := 43) hx hb d_Ma_perform_179 (by decide) ?_
    exact hk43 g x1 x2 r3 (x4 + 1) hf3 _ _ _ (lv_sub hl [1, 2, 3, 4, 0] rfl) hO hT
  have b140 : ∀ (k43 : qa_St → Int32 → Int32 → Nat → Int32 → qa_Re) (hk43 : ∀ (g : qa_St) (x1 : Int32) (x2 : Int32) (r3 : Nat) (x4 : Int32) (_ : xe_F r3) (ls : Array Slot) (H : Heap) (locs : List Loc), lv_has ls 9 [(0, .ref (ad 78)), (1, .int x1), (2, .int x2), (3, .ref (ad r3)), (4, .int x4)] → qa_O D 107 ad (xe_en cI cJ cF ad) A s.heap g H locs → k43 g x1 x2 r3 x4 = some T → W p l e (qa_rm (FP + 5) (LP + 118)) s m args below meth c H locs 0 0 Q (F0 m 43 ls [])), ∀ (g : qa_St) (x1 : Int32) (x2 : Int32) (r3 : Nat) (x4 : Int32) (x5 : Int32) (x7 : Int32) (_ : xe_F r3) (ls : Array Slot) (H : Heap) (locs : List Loc), lv_has ls 9 [(0, .ref (ad 78)), (1, .int x1), (2, .int x2), (3, .ref (ad r3)), (4, .int x4), (5, .int x5), (7, .int x7)] → qa_O D 107 ad (xe_en cI cJ cF ad) A s.heap g H locs → xf_Ma_perform_140 P k43 g x1 x2 r3 x4 x5 x7 = some T → W p l e (qa_rm (FP + 5) (LP + 118)) s m args below meth c H locs 0 0 Q (F0 m 140 ls []) := by
    intro k43 hk43
    intro g x1 x2 r3 x4 x5 x7 hf3 ls H locs hl hO hT
    unfold xf_Ma_perform_140 at hT
    refine lv_iload hx hb d_Ma_perform_140 (lv_at hl 6 rfl) ?_
    refine lv_iconst (v := 1) hx hb d_Ma_perform_142 (by decide) ?_
    refine lv_icmp_ne (tgt := 176) hx hb d_Ma_perform_143 (by decide) (fun h => ?_) (fun h => ?_)
    · have hT := qa_f hT h
      exact b176 k43 hk43 g x1 x2 r3 x4 hf3 _ _ _ (lv_sub hl [0, 1, 2, 3, 4] rfl) hO hT
    · have hT := qa_t hT h
      refine lv_aload_n hx hb d_Ma_perform_146 rfl (lv_at hl 0 rfl) ?_
      refine qa_get S hK hO hi_Ma 78 (by decide) rfl rfl 0 (by decide) lf_Ma_33 rfl rfl d_Ma_perform_147 ?_
      refine lv_iload_n hx hb d_Ma_perform_150 rfl (lv_at hl 1 rfl) ?_
      refine lv_iload hx hb d_Ma_perform_151 (lv_at hl 5 rfl) ?_
      obtain ⟨t153, ht153, hT⟩ := qa_b hT
      refine qa_Vi (As := [.int x1, .int x5]) (rest := []) (r := 1) S hK hN hA hO (xc_Pr_handlerOf l D cI cJ cF cZ ad g x1 x5) ht153 qy_Pr_handlerOf lm_Ma_116 ⟨by omega, by omega⟩ (by decide) rfl rfl rfl rfl hl.1 rfl (Nat.le_of_ble_eq_true rfl) d_Ma_perform_153 (fun H locs hO => ?_)
      refine lv_istore (lv' := [(8, .int t153.1), (0, .ref (ad 78)), (1, .int x1), (2, .int x2), (3, .ref (ad r3)), (4, .int x4), (5, .int x5), (7, .int x7)]) hx hb d_Ma_perform_156 hl (by decide) rfl (fun ls hl => ?_)
      refine lv_iload hx hb d_Ma_perform_158 (lv_at hl 0 rfl) ?_
      refine lv_iconst (v := -1) hx hb d_Ma_perform_160 (by decide) ?_
      refine lv_icmp_ne (tgt := 166) hx hb d_Ma_perform_161 (by decide) (fun h => ?_) (fun h => ?_)
      · have hT := qa_f hT h
        refine lv_aload_n hx hb d_Ma_perform_166 rfl (lv_at hl 4 rfl) ?_
        refine lv_iload hx hb d_Ma_perform_167 (lv_at hl 0 rfl) ?_
        refine lv_aload_n hx hb d_Ma_perform_169 rfl (lv_at hl 1 rfl) ?_
        refine qa_get S hK hO hi_Ma 78 (by decide) rfl rfl 12 (by decide) lf_Ma_80 rfl rfl d_Ma_perform_170 ?_
        obtain ⟨t173, ht173, hT⟩ := qa_b hT
        refine qa_Vv (As := [.int t153.1, .int (t153.2 78 12)]) (rest := []) (r := r3) S hK hN hA hO (xc_Fr_goOnWith l D cI cJ cF cZ ad t153.2 r3 t153.1 (t153.2 78 12) hf3) ht173 qy_Fr_goOnWith lm_Ma_119 ⟨by omega, by omega⟩ (xe_Flt hf3) (xe_fr hf3 _) rfl rfl rfl hl.1 rfl (Nat.le_of_ble_eq_true rfl) d_Ma_perform_173 (fun H locs hO => ?_)
        exact b176 k43 hk43 t173.2 x1 x2 r3 x4 hf3 _ _ _ (lv_sub hl [1, 2, 3, 4, 5] rfl) hO hT
      · have hT := qa_t hT h
        refine lv_iconst (v := 1) hx hb d_Ma_perform_164 (by decide) ?_
        exact ret hT hO d_Ma_perform_165
  have b43 : ∀ (n : Nat), ∀ (g : qa_St) (x1 : Int32) (x2 : Int32) (r3 : Nat) (x4 : Int32) (_ : xe_F r3) (ls : Array Slot) (H : Heap) (locs : List Loc), lv_has ls 9 [(0, .ref (ad 78)), (1, .int x1), (2, .int x2), (3, .ref (ad r3)), (4, .int x4)] → qa_O D 107 ad (xe_en cI cJ cF ad) A s.heap g H locs → xf_Ma_perform_43 P n g x1 x2 r3 x4 = some T → W p l e (qa_rm (FP + 5) (LP + 118)) s m args below meth c H locs 0 0 Q (F0 m 43 ls []) := by
    intro n
    induction n with
    | zero => intro g x1 x2 r3 x4 hf3 ls H locs hl hO hT; rw [xf_Ma_perform_43] at hT; cases hT
    | succ n ih =>
      intro g x1 x2 r3 x4 hf3 ls H locs hl hO hT
      rw [xf_Ma_perform_43] at hT
      refine lv_iload hx hb d_Ma_perform_43 (lv_at hl 4 rfl) ?_
      refine lv_sipush (v := 2000) hx hb d_Ma_perform_45 (by decide) ?_
      refine lv_icmp_gt (tgt := 182) hx hb d_Ma_perform_48 (by decide) (fun h => ?_) (fun h => ?_)
      · have hT := qa_t hT h
        refine lv_iconst (v := 2) hx hb d_Ma_perform_182 (by decide) ?_
        exact ret hT hO d_Ma_perform_183
      · have hT := qa_f hT h
        refine lv_aload_n hx hb d_Ma_perform_51 rfl (lv_at hl 0 rfl) ?_
        refine qa_get S hK hO hi_Ma 78 (by decide) rfl rfl 10 (by decide) lf_Ma_54 rfl rfl d_Ma_perform_52 ?_
        refine lv_aload_n hx hb d_Ma_perform_55 rfl (lv_at hl 0 rfl) ?_
        refine qa_get S hK hO hi_Ma 78 (by decide) rfl rfl 11 (by decide) lf_Ma_57 rfl rfl d_Ma_perform_56 ?_
        refine lv_icmp_lt (tgt := 64) hx hb d_Ma_perform_59 (by decide) (fun h => ?_) (fun h => ?_)
        · have hT := qa_t hT h
          refine lv_aload_n hx hb d_Ma_perform_64 rfl (lv_at hl 0 rfl) ?_
          refine lv_dup hx hb d_Ma_perform_65 rfl ?_
          refine qa_get S hK hO hi_Ma 78 (by decide) rfl rfl 10 (by decide) lf_Ma_54 rfl rfl d_Ma_perform_66 ?_
          refine lv_iconst (v := 1) hx hb d_Ma_perform_69 (by decide) ?_
          refine lv_iadd hx hb d_Ma_perform_70 ?_
          refine qa_put S hK hO hi_Ma t_Ma t_Ma_ok n_Ma 78 (by decide) rfl rfl 10 (by decide) lf_Ma_54 rfl rfl (ty := .int) (by decide +kernel) rfl rfl (Nat.le_of_ble_eq_true rfl) rfl d_Ma_perform_71 (fun H locs hO => ?_)
          refine lv_aload_n hx hb d_Ma_perform_74 rfl (lv_at hl 3 rfl) ?_
          obtain ⟨t75, ht75, hT⟩ := qa_b hT
          refine qa_Vi (As := []) (rest := []) (r := r3) S hK hN hA hO (xc_Fr_next l D cI cJ cF cZ ad (qa_up g 78 10 ((g 78 10) + (1 : Int32))) r3 hf3) ht75 qy_Fr_next lm_Ma_97 ⟨by omega, by omega⟩ (xe_Flt hf3) (xe_fr hf3 _) rfl rfl rfl hl.1 rfl (Nat.le_of_ble_eq_true rfl) d_Ma_perform_75 (fun H locs hO => ?_)
          refine lv_istore (lv' := [(5, .int t75.1), (0, .ref (ad 78)), (1, .int x1), (2, .int x2), (3, .ref (ad r3)), (4, .int x4)]) hx hb d_Ma_perform_78 hl (by decide) rfl (fun ls hl => ?_)
          refine lv_aload_n hx hb d_Ma_perform_80 rfl (lv_at hl 4 rfl) ?_
          refine lv_iload hx hb d_Ma_perform_81 (lv_at hl 0 rfl) ?_
          refine lv_iconst (v := 1) hx hb d_Ma_perform_83 (by decide) ?_
          refine lv_iadd hx hb d_Ma_perform_84 ?_
          obtain ⟨t85, ht85, hT⟩ := qa_b hT
          refine qa_Vv (As := [.int (t75.1 + (1 : Int32))]) (rest := []) (r := r3) S hK hN hA hO (xc_Fr_setNext l D cI cJ cF cZ ad t75.2 r3 (t75.1 + (1 : Int32)) hf3) ht85 qy_Fr_setNext lm_Ma_101 ⟨by omega, by omega⟩ (xe_Flt hf3) (xe_fr hf3 _) rfl rfl rfl hl.1 rfl (Nat.le_of_ble_eq_true rfl) d_Ma_perform_85 (fun H locs hO => ?_)
          refine lv_aload_n hx hb d_Ma_perform_88 rfl (lv_at hl 1 rfl) ?_
          refine qa_get S hK hO hi_Ma 78 (by decide) rfl rfl 0 (by decide) lf_Ma_33 rfl rfl d_Ma_perform_89 ?_
          refine lv_iload_n hx hb d_Ma_perform_92 rfl (lv_at hl 2 rfl) ?_
          refine lv_iload hx hb d_Ma_perform_93 (lv_at hl 0 rfl) ?_
          obtain ⟨t95, ht95, hT⟩ := qa_b hT
          refine qa_Vi (As := [.int x1, .int t75.1]) (rest := []) (r := 1) S hK hN hA hO (xc_Pr_opOf l D cI cJ cF cZ ad t85.2 x1 t75.1) ht95 qy_Pr_opOf lm_Ma_104 ⟨by omega, by omega⟩ (by decide) rfl rfl rfl rfl hl.1 rfl (Nat.le_of_ble_eq_true rfl) d_Ma_perform_95 (fun H locs hO => ?_)
          refine lv_istore (lv' := [(6, .int t95.1), (5, .int t75.1), (0, .ref (ad 78)), (1, .int x1), (2, .int x2), (3, .ref (ad r3)), (4, .int x4)]) hx hb d_Ma_perform_98 hl (by decide) rfl (fun ls hl => ?_)
          refine lv_aload_n hx hb d_Ma_perform_100 rfl (lv_at hl 2 rfl) ?_
          refine lv_iload hx hb d_Ma_perform_101 (lv_at hl 0 rfl) ?_
          refine lv_aload_n hx hb d_Ma_perform_103 rfl (lv_at hl 2 rfl) ?_
          refine qa_get S hK hO hi_Ma 78 (by decide) rfl rfl 0 (by decide) lf_Ma_33 rfl rfl d_Ma_perform_104 ?_
          refine lv_iload_n hx hb d_Ma_perform_107 rfl (lv_at hl 3 rfl) ?_
          refine lv_iload hx hb d_Ma_perform_108 (lv_at hl 1 rfl) ?_
          obtain ⟨t110, ht110, hT⟩ := qa_b hT
          refine qa_Vi (As := [.int x1, .int t75.1]) (rest := [.int t95.1, .ref (ad 78)]) (r := 1) S hK hN hA hO (xc_Pr_operandOf l D cI cJ cF cZ ad t95.2 x1 t75.1) ht110 qy_Pr_operandOf lm_Ma_107 ⟨by omega, by omega⟩ (by decide) rfl rfl rfl rfl hl.1 rfl (Nat.le_of_ble_eq_true rfl) d_Ma_perform_110 (fun H locs hO => ?_)
          refine lv_iload_n hx hb d_Ma_perform_113 rfl (lv_at hl 4 rfl) ?_
          obtain ⟨t114, ht114, hT⟩ := qa_b hT
          refine qa_Vi (As := [.int t95.1, .int t110.1, .int x2]) (rest := []) (r := 78) S hK hN hA hO (xc_Ma_execute l D cI cJ cF cZ ad P FP LP hP t110.2 t95.1 t110.1 x2) ht114 qy_Ma_execute lm_Ma_110 ⟨by omega, by omega⟩ (by decide) rfl rfl rfl rfl hl.1 rfl (Nat.le_of_ble_eq_true rfl) d_Ma_perform_114 (fun H locs hO => ?_)
          refine lv_istore (lv' := [(7, .int t114.1), (6, .int t95.1), (5, .int t75.1), (0, .ref (ad 78)), (1, .int x1), (2, .int x2), (3, .ref (ad r3)), (4, .int x4)]) hx hb d_Ma_perform_117 hl (by decide) rfl (fun ls hl => ?_)
          refine lv_iload hx hb d_Ma_perform_119 (lv_at hl 0 rfl) ?_
          refine lv_iconst (v := 2) hx hb d_Ma_perform_121 (by decide) ?_
          refine lv_icmp_eq (tgt := 137) hx hb d_Ma_perform_122 (by decide) (fun h => ?_) (fun h => ?_)
          · have hT := qa_t hT h
            refine lv_iload hx hb d_Ma_perform_137 (lv_at hl 0 rfl) ?_
            exact ret hT hO d_Ma_perform_139
          · have hT := qa_f hT h
            refine lv_iload hx hb d_Ma_perform_125 (lv_at hl 0 rfl) ?_
            refine lv_if_ne (tgt := 140) hx hb d_Ma_perform_127 (by decide) (fun h => ?_) (fun h => ?_)
            · have hT := qa_f hT h
              exact b140 (xf_Ma_perform_43 P n) ih t114.2 x1 x2 r3 x4 t75.1 t114.1 hf3 _ _ _ (lv_sub hl [3, 4, 5, 6, 7, 2, 0] rfl) hO hT
            · have hT := qa_t hT h
              refine lv_iload hx hb d_Ma_perform_130 (lv_at hl 1 rfl) ?_
              refine lv_bipush (v := 22) hx hb d_Ma_perform_132 (by decide) ?_
              refine lv_icmp_ne (tgt := 140) hx hb d_Ma_perform_134 (by decide) (fun h => ?_) (fun h => ?_)
              · have hT := qa_f hT h
                exact b140 (xf_Ma_perform_43 P n) ih t114.2 x1 x2 r3 x4 t75.1 t114.1 hf3 _ _ _ (lv_sub hl [3, 4, 5, 6, 7, 2, 0] rfl) hO hT
              · have hT := qa_t hT h
                refine lv_iload hx hb d_Ma_perform_137 (lv_at hl 0 rfl) ?_
                exact ret hT hO d_Ma_perform_139
        · have hT := qa_f hT h
          refine lv_iconst (v := 2) hx hb d_Ma_perform_62 (by decide) ?_
          exact ret hT hO d_Ma_perform_63
  unfold xf_Ma_perform at hT
  refine lv_iload_n hx hb d_Ma_perform_0 rfl (lv_at hl 2 rfl) ?_
  refine lv_bipush (v := 10) hx hb d_Ma_perform_1 (by decide) ?_
  refine lv_icmp_le (tgt := 13) hx hb d_Ma_perform_3 (by decide) (fun h => ?_) (fun h => ?_)
  · have hT := qa_t hT h
    refine lv_aload_n hx hb d_Ma_perform_13 rfl (lv_at hl 0 rfl) ?_
    refine qa_get S hK hO hi_Ma 78 (by decide) rfl rfl 1 (by decide) lf_Ma_11 rfl rfl d_Ma_perform_14 ?_
    refine lv_iload_n hx hb d_Ma_perform_17 rfl (lv_at hl 2 rfl) ?_
    obtain ⟨hi18, hT⟩ := qa_c hT
    refine qa_aald (n := 11) S hK hO 79 (by decide) 2 rfl rfl rfl hi18 rfl d_Ma_perform_18 ?_
    refine lv_astore_n (lv' := [(3, .ref (ad (85 + 2 * x2.toNatClampNeg))), (0, .ref (ad 78)), (1, .int x1), (2, .int x2)]) hx hb d_Ma_perform_19 rfl hl (by decide) rfl (fun ls hl => ?_)
    refine lv_aload_n hx hb d_Ma_perform_20 rfl (lv_at hl 0 rfl) ?_
    refine lv_aload_n hx hb d_Ma_perform_21 rfl (lv_at hl 1 rfl) ?_
    refine qa_get S hK hO hi_Ma 78 (by decide) rfl rfl 1 (by decide) lf_Ma_11 rfl rfl d_Ma_perform_22 ?_
    refine lv_iload_n hx hb d_Ma_perform_25 rfl (lv_at hl 3 rfl) ?_
    refine lv_iconst (v := 1) hx hb d_Ma_perform_26 (by decide) ?_
    refine lv_isub hx hb d_Ma_perform_27 ?_
    obtain ⟨hi28, hT⟩ := qa_c hT
    refine qa_aald (n := 11) S hK hO 79 (by decide) 2 rfl rfl rfl hi28 rfl d_Ma_perform_28 ?_
    refine lv_aload_n hx hb d_Ma_perform_29 rfl (lv_at hl 1 rfl) ?_
    refine qa_get S hK hO hi_Ma 78 (by decide) rfl rfl 0 (by decide) lf_Ma_33 rfl rfl d_Ma_perform_30 ?_
    refine lv_iload_n hx hb d_Ma_perform_33 rfl (lv_at hl 2 rfl) ?_
    obtain ⟨t34, ht34, hT⟩ := qa_b hT
    refine qa_Vi (As := [.int x1]) (rest := [.ref (ad (85 + 2 * (x2 - (1 : Int32)).toNatClampNeg)), .ref (ad (85 + 2 * x2.toNatClampNeg))]) (r := 1) S hK hN hA hO (xc_Pr_inputsOf l D cI cJ cF cZ ad g x1) ht34 qy_Pr_inputsOf lm_Ma_90 ⟨by omega, by omega⟩ (by decide) rfl rfl rfl rfl hl.1 rfl (Nat.le_of_ble_eq_true rfl) d_Ma_perform_34 (fun H locs hO => ?_)
    obtain ⟨t37, ht37, hT⟩ := qa_b hT
    refine qa_Vv (As := [.ref (ad (85 + 2 * (x2 - (1 : Int32)).toNatClampNeg)), .int t34.1]) (rest := []) (r := (85 + 2 * x2.toNatClampNeg)) S hK hN hA hO (xc_Fr_beginFrom l D cI cJ cF cZ ad t34.2 (85 + 2 * x2.toNatClampNeg) (85 + 2 * (x2 - (1 : Int32)).toNatClampNeg) t34.1 (xe_Fof hi18) (xe_Fof hi28)) ht37 qy_Fr_beginFrom lm_Ma_93 ⟨by omega, by omega⟩ (xe_Flt (xe_Fof hi18)) (xe_fr (xe_Fof hi18) _) rfl rfl rfl hl.1 rfl (Nat.le_of_ble_eq_true rfl) d_Ma_perform_37 (fun H locs hO => ?_)
    refine lv_iconst (v := 0) hx hb d_Ma_perform_40 (by decide) ?_
    refine lv_istore (lv' := [(4, .int (0 : Int32)), (3, .ref (ad (85 + 2 * x2.toNatClampNeg))), (0, .ref (ad 78)), (1, .int x1), (2, .int x2)]) hx hb d_Ma_perform_41 hl (by decide) rfl (fun ls hl => ?_)
    exact b43 4096 t37.2 x1 x2 (85 + 2 * x2.toNatClampNeg) (0 : Int32) (xe_Fof hi18) _ _ _ (lv_sub hl [2, 3, 4, 1, 0] rfl) hO hT
  · have hT := qa_f hT h
    refine lv_aload_n hx hb d_Ma_perform_6 rfl (lv_at hl 0 rfl) ?_
    refine lv_bipush (v := -5) hx hb d_Ma_perform_7 (by decide) ?_
    obtain ⟨t9, ht9, hT⟩ := qa_b hT
    refine qa_Vi (As := [.int (-5 : Int32)]) (rest := []) (r := 78) S hK hN hA hO (xc_Ma_toss l D cI cJ cF cZ ad g (-5 : Int32)) ht9 qy_Ma_toss lm_Ma_87 ⟨by omega, by omega⟩ (by decide) rfl rfl rfl rfl hl.1 rfl (Nat.le_of_ble_eq_true rfl) d_Ma_perform_9 (fun H locs hO => ?_)
    exact ret hT hO d_Ma_perform_12
def xf_rec : Nat → qa_St → Int32 → Int32 → qa_Re
  | 0, _, _, _ => none
  | k + 1, g, x1, x2 => xf_Ma_perform (xf_rec k) g x1 x2
theorem xc_rec (l : Launch) (D : va_G) (cI cJ cF cZ : ClassId) (ad : Nat → Nat) (k : Nat) : ∀ (g : qa_St) (x1 x2 : Int32), qa_Mi l y_Ma_perform (qa_ws y_Ma_perform b_Ma_perform 9 (some .int)) (qa_rm (k * 5) (k * 118)) D (qa_ty cI cJ cF cZ) 107 ad (xe_en cI cJ cF ad) [.ref (ad 78), .int x1, .int x2] g (xf_rec k g x1 x2) := by
  induction k with
  | zero => intro g x1 x2 T sz h; cases h
  | succ k ih =>
    intro g x1 x2
    rw [Nat.succ_mul, Nat.succ_mul]
    exact xc_Ma_perform l D cI cJ cF cZ ad (xf_rec k) _ _ ih g x1 x2
def xf_Ma_start_93 (g : qa_St) (x3 : Int32) : qa_Re := (if x3 = (2 : Int32) then (some (x3, (qa_up g 78 12 (0 : Int32)))) else (some (x3, g)))
def xf_Ma_start_44 (g : qa_St) (x1 : Int32) (x2 : Int32) : qa_Re := (if (0 : Int32) < 0 ∨ 11 ≤ (0 : Int32).toNatClampNeg then none else ((xf_Fr_clear (qa_up g 78 11 x2) (85 + 2 * (0 : Int32).toNatClampNeg)).bind fun t55 => (if (0 : Int32) < 0 ∨ 11 ≤ (0 : Int32).toNatClampNeg then none else ((xf_Fr_push t55.2 (85 + 2 * (0 : Int32).toNatClampNeg) x1).bind fun t65 => ((xf_Pr_ownerOf t65.2 (0 : Int32)).bind fun t74 => ((xf_Ma_trigger (xf_rec 12) t74.2 t74.1 (0 : Int32)).bind fun t78 => (if t78.1 = 0 then ((xf_rec 12 t78.2 (0 : Int32) (1 : Int32)).bind fun t89 => (xf_Ma_start_93 t89.2 t89.1)) else (xf_Ma_start_93 t78.2 t78.1))))))))
def xf_Ma_start (g : qa_St) (x1 : Int32) (x2 : Int32) : qa_Re := ((xf_Ar_fill g 80 6 (0 : Int32)).bind fun t5 => ((xf_Ar_fill t5.2 81 6 (-1 : Int32)).bind fun t13 => ((xf_Ar_fill t13.2 84 16 (0 : Int32)).bind fun t21 => (xf_Ma_start_44 (qa_up (qa_up (qa_up (qa_up t21.2 78 7 (0 : Int32)) 78 8 (0 : Int32)) 78 9 (0 : Int32)) 78 10 (0 : Int32)) x1 x2))))
set_option maxHeartbeats 4000000 in
set_option maxRecDepth 100000 in
theorem xc_Ma_start (l : Launch) (D : va_G) (cI cJ cF cZ : ClassId) (ad : Nat → Nat) (g : qa_St) (x1 : Int32) (x2 : Int32) : qa_Mi l y_Ma_start (qa_ws y_Ma_start b_Ma_start 4 (some .int)) (qa_rm 63 1484) D (qa_ty cI cJ cF cZ) 107 ad (xe_en cI cJ cF ad) [.ref (ad 78), .int x1, .int x2] g (xf_Ma_start g x1 x2) := by
  refine qa_meti (by decide) (Nat.le_of_ble_eq_true rfl) ?_
  intro p e s m args below meth c Q A T S hK hN hA hT ret ls hl hO
  have hx := S.1
  have hb := S.2.1
  have hl : lv_has ls 4 [(0, .ref (ad 78)), (1, .int x1), (2, .int x2)] := hl
  have b93 : ∀ (g : qa_St) (x3 : Int32) (ls : Array Slot) (H : Heap) (locs : List Loc), lv_has ls 4 [(0, .ref (ad 78)), (3, .int x3)] → qa_O D 107 ad (xe_en cI cJ cF ad) A s.heap g H locs → xf_Ma_start_93 g x3 = some T → W p l e (qa_rm 63 1484) s m args below meth c H locs 0 0 Q (F0 m 93 ls []) := by
    intro g x3 ls H locs hl hO hT
    unfold xf_Ma_start_93 at hT
    refine lv_iload_n hx hb d_Ma_start_93 rfl (lv_at hl 1 rfl) ?_
    refine lv_iconst (v := 2) hx hb d_Ma_start_94 (by decide) ?_
    refine lv_icmp_ne (tgt := 103) hx hb d_Ma_start_95 (by decide) (fun h => ?_) (fun h => ?_)
    · have hT := qa_f hT h
      refine lv_iload_n hx hb d_Ma_start_103 rfl (lv_at hl 1 rfl) ?_
      exact ret hT hO d_Ma_start_104
    · have hT := qa_t hT h
      refine lv_aload_n hx hb d_Ma_start_98 rfl (lv_at hl 0 rfl) ?_
      refine lv_iconst (v := 0) hx hb d_Ma_start_99 (by decide) ?_
      refine qa_put S hK hO hi_Ma t_Ma t_Ma_ok n_Ma 78 (by decide) rfl rfl 12 (by decide) lf_Ma_80 rfl rfl (ty := .int) (by decide +kernel) rfl rfl (Nat.le_of_ble_eq_true rfl) rfl d_Ma_start_100 (fun H locs hO => ?_)
      refine lv_iload_n hx hb d_Ma_start_103 rfl (lv_at hl 1 rfl) ?_
      exact ret hT hO d_Ma_start_104
  have b44 : ∀ (g : qa_St) (x1 : Int32) (x2 : Int32) (ls : Array Slot) (H : Heap) (locs : List Loc), lv_has ls 4 [(0, .ref (ad 78)), (1, .int x1), (2, .int x2)] → qa_O D 107 ad (xe_en cI cJ cF ad) A s.heap g H locs → xf_Ma_start_44 g x1 x2 = some T → W p l e (qa_rm 63 1484) s m args below meth c H locs 0 0 Q (F0 m 44 ls []) := by
    intro g x1 x2 ls H locs hl hO hT
    unfold xf_Ma_start_44 at hT
    refine lv_aload_n hx hb d_Ma_start_44 rfl (lv_at hl 0 rfl) ?_
    refine lv_iload_n hx hb d_Ma_start_45 rfl (lv_at hl 2 rfl) ?_
    refine qa_put S hK hO hi_Ma t_Ma t_Ma_ok n_Ma 78 (by decide) rfl rfl 11 (by decide) lf_Ma_57 rfl rfl (ty := .int) (by decide +kernel) rfl rfl (Nat.le_of_ble_eq_true rfl) rfl d_Ma_start_46 (fun H locs hO => ?_)
    refine lv_aload_n hx hb d_Ma_start_49 rfl (lv_at hl 0 rfl) ?_
    refine qa_get S hK hO hi_Ma 78 (by decide) rfl rfl 1 (by decide) lf_Ma_11 rfl rfl d_Ma_start_50 ?_
    refine lv_iconst (v := 0) hx hb d_Ma_start_53 (by decide) ?_
    obtain ⟨hi54, hT⟩ := qa_c hT
    refine qa_aald (n := 11) S hK hO 79 (by decide) 2 rfl rfl rfl hi54 rfl d_Ma_start_54 ?_
    obtain ⟨t55, ht55, hT⟩ := qa_b hT
    refine qa_Vv (As := []) (rest := []) (r := (85 + 2 * (0 : Int32).toNatClampNeg)) S hK hN hA hO (xc_Fr_clear l D cI cJ cF cZ ad (qa_up g 78 11 x2) (85 + 2 * (0 : Int32).toNatClampNeg) (xe_Fof hi54)) ht55 qy_Fr_clear lm_Ma_60 ⟨by decide, by decide⟩ (xe_Flt (xe_Fof hi54)) (xe_fr (xe_Fof hi54) _) rfl rfl rfl hl.1 rfl (Nat.le_of_ble_eq_true rfl) d_Ma_start_55 (fun H locs hO => ?_)
    refine lv_aload_n hx hb d_Ma_start_58 rfl (lv_at hl 0 rfl) ?_
    refine qa_get S hK hO hi_Ma 78 (by decide) rfl rfl 1 (by decide) lf_Ma_11 rfl rfl d_Ma_start_59 ?_
    refine lv_iconst (v := 0) hx hb d_Ma_start_62 (by decide) ?_
    obtain ⟨hi63, hT⟩ := qa_c hT
    refine qa_aald (n := 11) S hK hO 79 (by decide) 2 rfl rfl rfl hi63 rfl d_Ma_start_63 ?_
    refine lv_iload_n hx hb d_Ma_start_64 rfl (lv_at hl 1 rfl) ?_
    obtain ⟨t65, ht65, hT⟩ := qa_b hT
    refine qa_Vv (As := [.int x1]) (rest := []) (r := (85 + 2 * (0 : Int32).toNatClampNeg)) S hK hN hA hO (xc_Fr_push l D cI cJ cF cZ ad t55.2 (85 + 2 * (0 : Int32).toNatClampNeg) x1 (xe_Fof hi63)) ht65 qy_Fr_push lm_Ma_63 ⟨by decide, by decide⟩ (xe_Flt (xe_Fof hi63)) (xe_fr (xe_Fof hi63) _) rfl rfl rfl hl.1 rfl (Nat.le_of_ble_eq_true rfl) d_Ma_start_65 (fun H locs hO => ?_)
    refine lv_aload_n hx hb d_Ma_start_68 rfl (lv_at hl 0 rfl) ?_
    refine lv_aload_n hx hb d_Ma_start_69 rfl (lv_at hl 0 rfl) ?_
    refine qa_get S hK hO hi_Ma 78 (by decide) rfl rfl 0 (by decide) lf_Ma_33 rfl rfl d_Ma_start_70 ?_
    refine lv_iconst (v := 0) hx hb d_Ma_start_73 (by decide) ?_
    obtain ⟨t74, ht74, hT⟩ := qa_b hT
    refine qa_Vi (As := [.int (0 : Int32)]) (rest := [.ref (ad 78)]) (r := 1) S hK hN hA hO (xc_Pr_ownerOf l D cI cJ cF cZ ad t65.2 (0 : Int32)) ht74 qy_Pr_ownerOf lm_Ma_67 ⟨by decide, by decide⟩ (by decide) rfl rfl rfl rfl hl.1 rfl (Nat.le_of_ble_eq_true rfl) d_Ma_start_74 (fun H locs hO => ?_)
    refine lv_iconst (v := 0) hx hb d_Ma_start_77 (by decide) ?_
    obtain ⟨t78, ht78, hT⟩ := qa_b hT
    refine qa_Vi (As := [.int t74.1, .int (0 : Int32)]) (rest := []) (r := 78) S hK hN hA hO (xc_Ma_trigger l D cI cJ cF cZ ad (xf_rec 12) _ _ (xc_rec l D cI cJ cF cZ ad 12) t74.2 t74.1 (0 : Int32)) ht78 qy_Ma_trigger lm_Ma_73 ⟨by decide, by decide⟩ (by decide) rfl rfl rfl rfl hl.1 rfl (Nat.le_of_ble_eq_true rfl) d_Ma_start_78 (fun H locs hO => ?_)
    refine lv_istore_n (lv' := [(3, .int t78.1), (0, .ref (ad 78)), (1, .int x1), (2, .int x2)]) hx hb d_Ma_start_81 rfl hl (by decide) rfl (fun ls hl => ?_)
    refine lv_iload_n hx hb d_Ma_start_82 rfl (lv_at hl 0 rfl) ?_
    refine lv_if_ne (tgt := 93) hx hb d_Ma_start_83 (by decide) (fun h => ?_) (fun h => ?_)
    · have hT := qa_f hT h
      exact b93 t78.2 t78.1 _ _ _ (lv_sub hl [1, 0] rfl) hO hT
    · have hT := qa_t hT h
      refine lv_aload_n hx hb d_Ma_start_86 rfl (lv_at hl 1 rfl) ?_
      refine lv_iconst (v := 0) hx hb d_Ma_start_87 (by decide) ?_
      refine lv_iconst (v := 1) hx hb d_Ma_start_88 (by decide) ?_
      obtain ⟨t89, ht89, hT⟩ := qa_b hT
      refine qa_Vi (As := [.int (0 : Int32), .int (1 : Int32)]) (rest := []) (r := 78) S hK hN hA hO (xc_rec l D cI cJ cF cZ ad 12 t78.2 (0 : Int32) (1 : Int32)) ht89 qy_Ma_perform lm_Ma_77 ⟨by decide, by decide⟩ (by decide) rfl rfl rfl rfl hl.1 rfl (Nat.le_of_ble_eq_true rfl) d_Ma_start_89 (fun H locs hO => ?_)
      refine lv_istore_n (lv' := [(3, .int t89.1), (0, .ref (ad 78)), (1, .int x1), (2, .int x2)]) hx hb d_Ma_start_92 rfl hl (by decide) rfl (fun ls hl => ?_)
      exact b93 t89.2 t89.1 _ _ _ (lv_sub hl [1, 0] rfl) hO hT
  unfold xf_Ma_start at hT
  refine lv_aload_n hx hb d_Ma_start_0 rfl (lv_at hl 0 rfl) ?_
  refine qa_get S hK hO hi_Ma 78 (by decide) rfl rfl 2 (by decide) lf_Ma_17 rfl rfl d_Ma_start_1 ?_
  refine lv_iconst (v := 0) hx hb d_Ma_start_4 (by decide) ?_
  obtain ⟨t5, ht5, hT⟩ := qa_b hT
  refine qa_Sv (As := [.ref (ad 80), .int (0 : Int32)]) (rest := []) S hK hN hA hO (xc_Ar_fill l D cI cJ cF cZ ad g 80 6 (0 : Int32) (by decide) (xe_arr rfl)) ht5 qy_Ar_fill lm_Ma_38 ⟨by decide, by decide⟩ rfl hl.1 rfl (Nat.le_of_ble_eq_true rfl) d_Ma_start_5 (fun H locs hO => ?_)
  refine lv_aload_n hx hb d_Ma_start_8 rfl (lv_at hl 0 rfl) ?_
  refine qa_get S hK hO hi_Ma 78 (by decide) rfl rfl 3 (by decide) lf_Ma_21 rfl rfl d_Ma_start_9 ?_
  refine lv_iconst (v := -1) hx hb d_Ma_start_12 (by decide) ?_
  obtain ⟨t13, ht13, hT⟩ := qa_b hT
  refine qa_Sv (As := [.ref (ad 81), .int (-1 : Int32)]) (rest := []) S hK hN hA hO (xc_Ar_fill l D cI cJ cF cZ ad t5.2 81 6 (-1 : Int32) (by decide) (xe_arr rfl)) ht13 qy_Ar_fill lm_Ma_38 ⟨by decide, by decide⟩ rfl hl.1 rfl (Nat.le_of_ble_eq_true rfl) d_Ma_start_13 (fun H locs hO => ?_)
  refine lv_aload_n hx hb d_Ma_start_16 rfl (lv_at hl 0 rfl) ?_
  refine qa_get S hK hO hi_Ma 78 (by decide) rfl rfl 6 (by decide) lf_Ma_30 rfl rfl d_Ma_start_17 ?_
  refine lv_iconst (v := 0) hx hb d_Ma_start_20 (by decide) ?_
  obtain ⟨t21, ht21, hT⟩ := qa_b hT
  refine qa_Sv (As := [.ref (ad 84), .int (0 : Int32)]) (rest := []) S hK hN hA hO (xc_Ar_fill l D cI cJ cF cZ ad t13.2 84 16 (0 : Int32) (by decide) (xe_arr rfl)) ht21 qy_Ar_fill lm_Ma_38 ⟨by decide, by decide⟩ rfl hl.1 rfl (Nat.le_of_ble_eq_true rfl) d_Ma_start_21 (fun H locs hO => ?_)
  refine lv_aload_n hx hb d_Ma_start_24 rfl (lv_at hl 0 rfl) ?_
  refine lv_iconst (v := 0) hx hb d_Ma_start_25 (by decide) ?_
  refine qa_put S hK hO hi_Ma t_Ma t_Ma_ok n_Ma 78 (by decide) rfl rfl 7 (by decide) lf_Ma_44 rfl rfl (ty := .int) (by decide +kernel) rfl rfl (Nat.le_of_ble_eq_true rfl) rfl d_Ma_start_26 (fun H locs hO => ?_)
  refine lv_aload_n hx hb d_Ma_start_29 rfl (lv_at hl 0 rfl) ?_
  refine lv_iconst (v := 0) hx hb d_Ma_start_30 (by decide) ?_
  refine qa_put S hK hO hi_Ma t_Ma t_Ma_ok n_Ma 78 (by decide) rfl rfl 8 (by decide) lf_Ma_48 rfl rfl (ty := .int) (by decide +kernel) rfl rfl (Nat.le_of_ble_eq_true rfl) rfl d_Ma_start_31 (fun H locs hO => ?_)
  refine lv_aload_n hx hb d_Ma_start_34 rfl (lv_at hl 0 rfl) ?_
  refine lv_iconst (v := 0) hx hb d_Ma_start_35 (by decide) ?_
  refine qa_put S hK hO hi_Ma t_Ma t_Ma_ok n_Ma 78 (by decide) rfl rfl 9 (by decide) lf_Ma_51 rfl rfl (ty := .int) (by decide +kernel) rfl rfl (Nat.le_of_ble_eq_true rfl) rfl d_Ma_start_36 (fun H locs hO => ?_)
  refine lv_aload_n hx hb d_Ma_start_39 rfl (lv_at hl 0 rfl) ?_
  refine lv_iconst (v := 0) hx hb d_Ma_start_40 (by decide) ?_
  refine qa_put S hK hO hi_Ma t_Ma t_Ma_ok n_Ma 78 (by decide) rfl rfl 10 (by decide) lf_Ma_54 rfl rfl (ty := .int) (by decide +kernel) rfl rfl (Nat.le_of_ble_eq_true rfl) rfl d_Ma_start_41 (fun H locs hO => ?_)
  exact b44 (qa_up (qa_up (qa_up (qa_up t21.2 78 7 (0 : Int32)) 78 8 (0 : Int32)) 78 9 (0 : Int32)) 78 10 (0 : Int32)) x1 x2 _ _ _ (lv_sub hl [0, 1, 2] rfl) hO hT
