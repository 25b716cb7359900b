set_option maxHeartbeats 4000000 in
set_option maxRecDepth 100000 in
theorem ql_loop (Inv : qa_St → qa_St → Prop) (s_type : ∀ (gx gm : qa_St) (x1 x2 : Int32), Inv gx gm → ql_st Inv (xf_Cw_type gx x1 x2) (mf_Mo_type gm x1 x2)) (s_method : ∀ (gx gm : qa_St) (x1 x2 x3 : Int32), Inv gx gm → ql_st Inv (xf_Cw_method gx x1 x2 x3) (mf_Mo_method gm x1 x2 x3)) (s_initialiser : ∀ (gx gm : qa_St) (x1 x2 : Int32), Inv gx gm → ql_st Inv (xf_Cw_initialiser gx x1 x2) (mf_Mo_initialiser gm x1 x2)) (s_code : ∀ (gx gm : qa_St) (x1 x2 x3 : Int32), Inv gx gm → ql_st Inv (xf_Cw_code gx x1 x2 x3) (mf_Mo_code gm x1 x2 x3)) (s_guard : ∀ (gx gm : qa_St) (x1 x2 x3 x4 : Int32), Inv gx gm → ql_st Inv (xf_Cw_guard gx x1 x2 x3 x4) (mf_Mo_guard gm x1 x2 x3 x4)) (s_close : ∀ (gx gm : qa_St), Inv gx gm → ql_st Inv (xf_Cw_close gx) (mf_Mo_close gm)) (s_typeAt : ∀ (gx gm : qa_St) (x1 x2 x3 : Int32), Inv gx gm → ql_st Inv (xf_Cw_typeAt gx x1 x2 x3) (mf_Mo_typeAt gm x1 x2 x3)) (s_answer : ∀ (gx gm : qa_St) (x1 x2 : Int32), Inv gx gm → ql_st Inv (xf_Cw_answer gx x1 x2) (mf_Mo_answer gm x1 x2)) (s_slot : ∀ (gx gm : qa_St) (x1 x2 : Int32), Inv gx gm → ql_st Inv (xf_Cw_slot gx x1 x2) (mf_Mo_slot gm x1 x2)) (s_live : ∀ (gx gm : qa_St) (x1 : Int32), Inv gx gm → ql_st Inv (xf_Cw_live gx x1) (mf_Mo_live gm x1)) (s_targets : ∀ (gx gm : qa_St) (x1 x2 : Int32), Inv gx gm → ql_st Inv (xf_Cw_targets gx x1 x2) (mf_Mo_targets gm x1 x2)) (s_run : ∀ (gx gm : qa_St) (x1 x2 : Int32), Inv gx gm → ql_st Inv (xf_Cw_run gx x1 x2) (mf_Mo_run gm x1 x2)) (s_result : ∀ (gx gm : qa_St), Inv gx gm → ql_st Inv (xf_Cw_result gx) (mf_Mo_result gm)) (s_steps : ∀ (gx gm : qa_St), Inv gx gm → ql_st Inv (xf_Cw_steps gx) (mf_Mo_steps gm)) (s_prints : ∀ (gx gm : qa_St), Inv gx gm → ql_st Inv (xf_Cw_prints gx) (mf_Mo_prints gm)) (s_printed : ∀ (gx gm : qa_St) (x1 : Int32), Inv gx gm → ql_st Inv (xf_Cw_printed gx x1) (mf_Mo_printed gm x1)) (s_begun : ∀ (gx gm : qa_St) (x1 : Int32), Inv gx gm → ql_st Inv (xf_Cw_begun gx x1) (mf_Mo_begun gm x1)) (s_objects : ∀ (gx gm : qa_St), Inv gx gm → ql_st Inv (xf_Cw_objects gx) (mf_Mo_objects gm)) (s_kept : ∀ (gx gm : qa_St) (x1 : Int32), Inv gx gm → ql_st Inv (xf_Cw_kept gx x1) (mf_Mo_kept gm x1)) {p : Program} {e : Env} {s : State} {m : MethodId} {below : List Frame} {meth : Method} {c : Code} (l : Launch) {b L : Nat} {xs : Nat → Int32} (hL : L ≤ 2560) (C0 : lw_At p s m meth c b L xs) (D : va_G) (cI cJ cF cZ : ClassId) (ad bd : Nat → Nat) (hK : va_K D qa_cl (qa_ty cI cJ cF cZ) s) (hN : qa_N s) (hS : ql_S s 107 33 ad bd) (cells slots : Nat) (hcs : cells ≤ 600000 ∧ slots ≤ 7302250) : ∀ (n k : Nat) (i : Int32) (gx gm : qa_St) (H : Heap) (locs : List Loc) (ls : Array Slot), L ≤ 5 * k + 5 * n → 5 * k ≤ L + 5 → i = Int32.ofNat (5 * k) → Inv gx gm → ql_O D 107 ad (xe_en cI cJ cF ad) 33 bd (me_en cI cZ bd) s gx gm H locs → lv_has ls 4 [(3, .int i), (2, .ref (bd 0)), (1, .ref (ad 0)), (0, .ref b)] → W p l e room_1 s m #[Value.ref b] below meth c H locs cells slots (lw_Z below #[Value.ref b] s) (F0 m 18 ls []) := by
  obtain ⟨hx, hb, hret, hml, hown, hts, hX, hbl, hlocks, -⟩ := C0
  have S : CallFix p m c code 4 s #[Value.ref b] lw_tbl R_law := ⟨hx, hb, hml, hown, hts⟩
  have hbA : ¬ s.heap.size ≤ b := Nat.not_le.mpr hbl
  intro n
  induction n with
  | zero =>
    intro k i gx gm H locs ls hn hk hi hI hO hl
    refine lv_iload_n hx hb dl_18 rfl (lv_at hl 0 rfl) ?_
    refine lv_aload_n hx hb dl_19 rfl (lv_at hl 3 rfl) ?_
    refine va_slen hx hb hX hbl hbA hO.2.2 dl_20 ?_
    refine lv_iconst (v := 5) hx hb dl_21 (by decide) ?_
    refine lv_isub hx hb dl_22 ?_
    refine lv_icmp_gt (tgt := 667) hx hb dl_23 (by decide) (fun h => ?_) (fun h => ?_)
    · refine lv_iconst (v := 1) hx hb dl_667 (by decide) ?_
      refine va_forget (fun q hq => hO.2.2.2.2 q hq) ?_
      refine W.widen (k := 600000) (n := 7302250) hcs.1 hcs.2 ?_
      exact lw_ret hx hb hret hlocks dl_668
    obtain ⟨hlt, hi0, hi1, hi2, hi3, hi4⟩ := ql_in hL hi hk h
    exact absurd hn (by omega)
  | succ n ih =>
    intro k i gx gm H locs ls hn hk hi hI hO hl
    refine lv_iload_n hx hb dl_18 rfl (lv_at hl 0 rfl) ?_
    refine lv_aload_n hx hb dl_19 rfl (lv_at hl 3 rfl) ?_
    refine va_slen hx hb hX hbl hbA hO.2.2 dl_20 ?_
    refine lv_iconst (v := 5) hx hb dl_21 (by decide) ?_
    refine lv_isub hx hb dl_22 ?_
    refine lv_icmp_gt (tgt := 667) hx hb dl_23 (by decide) (fun h => ?_) (fun h => ?_)
    · refine lv_iconst (v := 1) hx hb dl_667 (by decide) ?_
      refine va_forget (fun q hq => hO.2.2.2.2 q hq) ?_
      refine W.widen (k := 600000) (n := 7302250) hcs.1 hcs.2 ?_
      exact lw_ret hx hb hret hlocks dl_668
    obtain ⟨hlt, hi0, hi1, hi2, hi3, hi4⟩ := ql_in hL hi hk h
    have next : ∀ (gx gm : qa_St) (H : Heap) (locs : List Loc), Inv gx gm → ql_O D 107 ad (xe_en cI cJ cF ad) 33 bd (me_en cI cZ bd) s gx gm H locs → W p l e room_1 s m #[Value.ref b] below meth c H locs cells slots (lw_Z below #[Value.ref b] s) (F0 m 661 ls []) := by
      intro gx gm H locs hI hO
      refine lv_iinc (lv' := [(3, .int (i + 5)), (2, .ref (bd 0)), (1, .ref (ad 0)), (0, .ref b)]) hx hb dl_661 hl (k := 0) rfl rfl (by decide) rfl (fun ls hl => ?_)
      refine lv_goto (tgt := 18) hx hb dl_664 (by decide) ?_
      refine ih (k + 1) (i + 5) gx gm H locs ls (by omega) (by omega) ?_ hI hO hl
      rw [hi]
      show nI (5 * k) + nI 5 = nI (5 * (k + 1))
      rw [nI_add]
      congr 1
    refine lv_aload_n hx hb dl_26 rfl (lv_at hl 3 rfl) ?_
    refine lv_iload_n hx hb dl_27 rfl (lv_at hl 0 rfl) ?_
    refine va_sld hx hb hX hbl hbA hO.2.2 hi0 dl_28 ?_
    refine lv_bipush (v := 31) hx hb dl_29 (by decide) ?_
    refine lv_iand hx hb dl_31 ?_
    by_cases h32_0 : (xs i.toNatClampNeg &&& 31) = 0
    · refine lv_tableIn (off := 92) (tgt := 124) hx hb dl_32 (by rw [h32_0]; decide) (by rw [h32_0]; decide) (by rw [h32_0]; rfl) (by decide) ?_
      obtain ⟨v, gx1, gm1, e1, e2, hI1⟩ := s_type gx gm (xs (i + 1).toNatClampNeg) (xs (i + 2).toNatClampNeg) hI
      refine lv_aload_n hx hb dl_124 rfl (lv_at hl 2 rfl) ?_
      refine lv_aload_n hx hb dl_125 rfl (lv_at hl 3 rfl) ?_
      refine lv_iload_n hx hb dl_126 rfl (lv_at hl 0 rfl) ?_
      refine lv_iconst (v := 1) hx hb dl_127 (by decide) ?_
      refine lv_iadd hx hb dl_128 ?_
      refine va_sld hx hb hX hbl hbA hO.2.2 hi1 dl_129 ?_
      refine lv_aload_n hx hb dl_130 rfl (lv_at hl 3 rfl) ?_
      refine lv_iload_n hx hb dl_131 rfl (lv_at hl 0 rfl) ?_
      refine lv_iconst (v := 2) hx hb dl_132 (by decide) ?_
      refine lv_iadd hx hb dl_133 ?_
      refine va_sld hx hb hX hbl hbA hO.2.2 hi2 dl_134 ?_
      refine ql_Vi (As := [.int (xs (i + 1).toNatClampNeg), .int (xs (i + 2).toNatClampNeg)]) (rest := []) (r := 0) S hK hN hS hO (xc_Cw_type l D cI cJ cF cZ ad gx (xs (i + 1).toNatClampNeg) (xs (i + 2).toNatClampNeg)) e1 qy_Cw_type lm_La_13 ⟨by decide, by decide⟩ hcs (by decide) rfl rfl rfl rfl hl.1 rfl (Nat.le_of_ble_eq_true rfl) dl_135 (fun H locs hO => ?_)
      refine lv_aload_n hx hb dl_138 rfl (lv_at hl 1 rfl) ?_
      refine lv_aload_n hx hb dl_139 rfl (lv_at hl 3 rfl) ?_
      refine lv_iload_n hx hb dl_140 rfl (lv_at hl 0 rfl) ?_
      refine lv_iconst (v := 1) hx hb dl_141 (by decide) ?_
      refine lv_iadd hx hb dl_142 ?_
      refine va_sld hx hb hX hbl hbA hO.2.2 hi1 dl_143 ?_
      refine lv_aload_n hx hb dl_144 rfl (lv_at hl 3 rfl) ?_
      refine lv_iload_n hx hb dl_145 rfl (lv_at hl 0 rfl) ?_
      refine lv_iconst (v := 2) hx hb dl_146 (by decide) ?_
      refine lv_iadd hx hb dl_147 ?_
      refine va_sld hx hb hX hbl hbA hO.2.2 hi2 dl_148 ?_
      refine ql_Wi (As := [.int (xs (i + 1).toNatClampNeg), .int (xs (i + 2).toNatClampNeg)]) (rest := [.int v]) (r := 0) S hK hN hS hO (mc_Mo_type l D cI cJ cF cZ bd gm (xs (i + 1).toNatClampNeg) (xs (i + 2).toNatClampNeg)) e2 qy_Mo_type lm_La_17 ⟨by decide, by decide⟩ hcs (by decide) rfl rfl rfl rfl hl.1 rfl (Nat.le_of_ble_eq_true rfl) dl_149 (fun H locs hO => ?_)
      refine lv_icmp_eq (tgt := 661) hx hb dl_152 (by decide) (fun _ => ?_) (fun h => absurd rfl h)
      exact next gx1 gm1 H locs hI1 hO
    by_cases h32_1 : (xs i.toNatClampNeg &&& 31) = 1
    · refine lv_tableIn (off := 125) (tgt := 157) hx hb dl_32 (by rw [h32_1]; decide) (by rw [h32_1]; decide) (by rw [h32_1]; rfl) (by decide) ?_
      obtain ⟨v, gx1, gm1, e1, e2, hI1⟩ := s_method gx gm (xs (i + 1).toNatClampNeg) (xs (i + 2).toNatClampNeg) (xs (i + 3).toNatClampNeg) hI
      refine lv_aload_n hx hb dl_157 rfl (lv_at hl 2 rfl) ?_
      refine lv_aload_n hx hb dl_158 rfl (lv_at hl 3 rfl) ?_
      refine lv_iload_n hx hb dl_159 rfl (lv_at hl 0 rfl) ?_
      refine lv_iconst (v := 1) hx hb dl_160 (by decide) ?_
      refine lv_iadd hx hb dl_161 ?_
      refine va_sld hx hb hX hbl hbA hO.2.2 hi1 dl_162 ?_
      refine lv_aload_n hx hb dl_163 rfl (lv_at hl 3 rfl) ?_
      refine lv_iload_n hx hb dl_164 rfl (lv_at hl 0 rfl) ?_
      refine lv_iconst (v := 2) hx hb dl_165 (by decide) ?_
      refine lv_iadd hx hb dl_166 ?_
      refine va_sld hx hb hX hbl hbA hO.2.2 hi2 dl_167 ?_
      refine lv_aload_n hx hb dl_168 rfl (lv_at hl 3 rfl) ?_
      refine lv_iload_n hx hb dl_169 rfl (lv_at hl 0 rfl) ?_
      refine lv_iconst (v := 3) hx hb dl_170 (by decide) ?_
      refine lv_iadd hx hb dl_171 ?_
      refine va_sld hx hb hX hbl hbA hO.2.2 hi3 dl_172 ?_
      refine ql_Vi (As := [.int (xs (i + 1).toNatClampNeg), .int (xs (i + 2).toNatClampNeg), .int (xs (i + 3).toNatClampNeg)]) (rest := []) (r := 0) S hK hN hS hO (xc_Cw_method l D cI cJ cF cZ ad gx (xs (i + 1).toNatClampNeg) (xs (i + 2).toNatClampNeg) (xs (i + 3).toNatClampNeg)) e1 qy_Cw_method lm_La_18 ⟨by decide, by decide⟩ hcs (by decide) rfl rfl rfl rfl hl.1 rfl (Nat.le_of_ble_eq_true rfl) dl_173 (fun H locs hO => ?_)
      refine lv_aload_n hx hb dl_176 rfl (lv_at hl 1 rfl) ?_
      refine lv_aload_n hx hb dl_177 rfl (lv_at hl 3 rfl) ?_
      refine lv_iload_n hx hb dl_178 rfl (lv_at hl 0 rfl) ?_
      refine lv_iconst (v := 1) hx hb dl_179 (by decide) ?_
      refine lv_iadd hx hb dl_180 ?_
      refine va_sld hx hb hX hbl hbA hO.2.2 hi1 dl_181 ?_
      refine lv_aload_n hx hb dl_182 rfl (lv_at hl 3 rfl) ?_
      refine lv_iload_n hx hb dl_183 rfl (lv_at hl 0 rfl) ?_
      refine lv_iconst (v := 2) hx hb dl_184 (by decide) ?_
      refine lv_iadd hx hb dl_185 ?_
      refine va_sld hx hb hX hbl hbA hO.2.2 hi2 dl_186 ?_
      refine lv_aload_n hx hb dl_187 rfl (lv_at hl 3 rfl) ?_
      refine lv_iload_n hx hb dl_188 rfl (lv_at hl 0 rfl) ?_
      refine lv_iconst (v := 3) hx hb dl_189 (by decide) ?_
      refine lv_iadd hx hb dl_190 ?_
      refine va_sld hx hb hX hbl hbA hO.2.2 hi3 dl_191 ?_
      refine ql_Wi (As := [.int (xs (i + 1).toNatClampNeg), .int (xs (i + 2).toNatClampNeg), .int (xs (i + 3).toNatClampNeg)]) (rest := [.int v]) (r := 0) S hK hN hS hO (mc_Mo_method l D cI cJ cF cZ bd gm (xs (i + 1).toNatClampNeg) (xs (i + 2).toNatClampNeg) (xs (i + 3).toNatClampNeg)) e2 qy_Mo_method lm_La_22 ⟨by decide, by decide⟩ hcs (by decide) rfl rfl rfl rfl hl.1 rfl (Nat.le_of_ble_eq_true rfl) dl_192 (fun H locs hO => ?_)
      refine lv_icmp_eq (tgt := 661) hx hb dl_195 (by decide) (fun _ => ?_) (fun h => absurd rfl h)
      exact next gx1 gm1 H locs hI1 hO
    by_cases h32_2 : (xs i.toNatClampNeg &&& 31) = 2
    · refine lv_tableIn (off := 168) (tgt := 200) hx hb dl_32 (by rw [h32_2]; decide) (by rw [h32_2]; decide) (by rw [h32_2]; rfl) (by decide) ?_
      obtain ⟨v, gx1, gm1, e1, e2, hI1⟩ := s_initialiser gx gm (xs (i + 1).toNatClampNeg) (xs (i + 2).toNatClampNeg) hI
      refine lv_aload_n hx hb dl_200 rfl (lv_at hl 2 rfl) ?_
      refine lv_aload_n hx hb dl_201 rfl (lv_at hl 3 rfl) ?_
      refine lv_iload_n hx hb dl_202 rfl (lv_at hl 0 rfl) ?_
      refine lv_iconst (v := 1) hx hb dl_203 (by decide) ?_
      refine lv_iadd hx hb dl_204 ?_
      refine va_sld hx hb hX hbl hbA hO.2.2 hi1 dl_205 ?_
      refine lv_aload_n hx hb dl_206 rfl (lv_at hl 3 rfl) ?_
      refine lv_iload_n hx hb dl_207 rfl (lv_at hl 0 rfl) ?_
      refine lv_iconst (v := 2) hx hb dl_208 (by decide) ?_
      refine lv_iadd hx hb dl_209 ?_
      refine va_sld hx hb hX hbl hbA hO.2.2 hi2 dl_210 ?_
      refine ql_Vi (As := [.int (xs (i + 1).toNatClampNeg), .int (xs (i + 2).toNatClampNeg)]) (rest := []) (r := 0) S hK hN hS hO (xc_Cw_initialiser l D cI cJ cF cZ ad gx (xs (i + 1).toNatClampNeg) (xs (i + 2).toNatClampNeg)) e1 qy_Cw_initialiser lm_La_23 ⟨by decide, by decide⟩ hcs (by decide) rfl rfl rfl rfl hl.1 rfl (Nat.le_of_ble_eq_true rfl) dl_211 (fun H locs hO => ?_)
      refine lv_aload_n hx hb dl_214 rfl (lv_at hl 1 rfl) ?_
      refine lv_aload_n hx hb dl_215 rfl (lv_at hl 3 rfl) ?_
      refine lv_iload_n hx hb dl_216 rfl (lv_at hl 0 rfl) ?_
      refine lv_iconst (v := 1) hx hb dl_217 (by decide) ?_
      refine lv_iadd hx hb dl_218 ?_
      refine va_sld hx hb hX hbl hbA hO.2.2 hi1 dl_219 ?_
      refine lv_aload_n hx hb dl_220 rfl (lv_at hl 3 rfl) ?_
      refine lv_iload_n hx hb dl_221 rfl (lv_at hl 0 rfl) ?_
      refine lv_iconst (v := 2) hx hb dl_222 (by decide) ?_
      refine lv_iadd hx hb dl_223 ?_
      refine va_sld hx hb hX hbl hbA hO.2.2 hi2 dl_224 ?_
      refine ql_Wi (As := [.int (xs (i + 1).toNatClampNeg), .int (xs (i + 2).toNatClampNeg)]) (rest := [.int v]) (r := 0) S hK hN hS hO (mc_Mo_initialiser l D cI cJ cF cZ bd gm (xs (i + 1).toNatClampNeg) (xs (i + 2).toNatClampNeg)) e2 qy_Mo_initialiser lm_La_27 ⟨by decide, by decide⟩ hcs (by decide) rfl rfl rfl rfl hl.1 rfl (Nat.le_of_ble_eq_true rfl) dl_225 (fun H locs hO => ?_)
      refine lv_icmp_eq (tgt := 661) hx hb dl_228 (by decide) (fun _ => ?_) (fun h => absurd rfl h)
      exact next gx1 gm1 H locs hI1 hO
    by_cases h32_3 : (xs i.toNatClampNeg &&& 31) = 3
    · refine lv_tableIn (off := 201) (tgt := 233) hx hb dl_32 (by rw [h32_3]; decide) (by rw [h32_3]; decide) (by rw [h32_3]; rfl) (by decide) ?_
      obtain ⟨v, gx1, gm1, e1, e2, hI1⟩ := s_code gx gm (xs (i + 1).toNatClampNeg) (xs (i + 2).toNatClampNeg) (xs (i + 3).toNatClampNeg) hI
      refine lv_aload_n hx hb dl_233 rfl (lv_at hl 2 rfl) ?_
      refine lv_aload_n hx hb dl_234 rfl (lv_at hl 3 rfl) ?_
      refine lv_iload_n hx hb dl_235 rfl (lv_at hl 0 rfl) ?_
      refine lv_iconst (v := 1) hx hb dl_236 (by decide) ?_
      refine lv_iadd hx hb dl_237 ?_
      refine va_sld hx hb hX hbl hbA hO.2.2 hi1 dl_238 ?_
      refine lv_aload_n hx hb dl_239 rfl (lv_at hl 3 rfl) ?_
      refine lv_iload_n hx hb dl_240 rfl (lv_at hl 0 rfl) ?_
      refine lv_iconst (v := 2) hx hb dl_241 (by decide) ?_
      refine lv_iadd hx hb dl_242 ?_
      refine va_sld hx hb hX hbl hbA hO.2.2 hi2 dl_243 ?_
      refine lv_aload_n hx hb dl_244 rfl (lv_at hl 3 rfl) ?_
      refine lv_iload_n hx hb dl_245 rfl (lv_at hl 0 rfl) ?_
      refine lv_iconst (v := 3) hx hb dl_246 (by decide) ?_
      refine lv_iadd hx hb dl_247 ?_
      refine va_sld hx hb hX hbl hbA hO.2.2 hi3 dl_248 ?_
      refine ql_Vi (As := [.int (xs (i + 1).toNatClampNeg), .int (xs (i + 2).toNatClampNeg), .int (xs (i + 3).toNatClampNeg)]) (rest := []) (r := 0) S hK hN hS hO (xc_Cw_code l D cI cJ cF cZ ad gx (xs (i + 1).toNatClampNeg) (xs (i + 2).toNatClampNeg) (xs (i + 3).toNatClampNeg)) e1 qy_Cw_code lm_La_28 ⟨by decide, by decide⟩ hcs (by decide) rfl rfl rfl rfl hl.1 rfl (Nat.le_of_ble_eq_true rfl) dl_249 (fun H locs hO => ?_)
      refine lv_aload_n hx hb dl_252 rfl (lv_at hl 1 rfl) ?_
      refine lv_aload_n hx hb dl_253 rfl (lv_at hl 3 rfl) ?_
      refine lv_iload_n hx hb dl_254 rfl (lv_at hl 0 rfl) ?_
      refine lv_iconst (v := 1) hx hb dl_255 (by decide) ?_
      refine lv_iadd hx hb dl_256 ?_
      refine va_sld hx hb hX hbl hbA hO.2.2 hi1 dl_257 ?_
      refine lv_aload_n hx hb dl_258 rfl (lv_at hl 3 rfl) ?_
      refine lv_iload_n hx hb dl_259 rfl (lv_at hl 0 rfl) ?_
      refine lv_iconst (v := 2) hx hb dl_260 (by decide) ?_
      refine lv_iadd hx hb dl_261 ?_
      refine va_sld hx hb hX hbl hbA hO.2.2 hi2 dl_262 ?_
      refine lv_aload_n hx hb dl_263 rfl (lv_at hl 3 rfl) ?_
      refine lv_iload_n hx hb dl_264 rfl (lv_at hl 0 rfl) ?_
      refine lv_iconst (v := 3) hx hb dl_265 (by decide) ?_
      refine lv_iadd hx hb dl_266 ?_
      refine va_sld hx hb hX hbl hbA hO.2.2 hi3 dl_267 ?_
      refine ql_Wi (As := [.int (xs (i + 1).toNatClampNeg), .int (xs (i + 2).toNatClampNeg), .int (xs (i + 3).toNatClampNeg)]) (rest := [.int v]) (r := 0) S hK hN hS hO (mc_Mo_code l D cI cJ cF cZ bd gm (xs (i + 1).toNatClampNeg) (xs (i + 2).toNatClampNeg) (xs (i + 3).toNatClampNeg)) e2 qy_Mo_code lm_La_31 ⟨by decide, by decide⟩ hcs (by decide) rfl rfl rfl rfl hl.1 rfl (Nat.le_of_ble_eq_true rfl) dl_268 (fun H locs hO => ?_)
      refine lv_icmp_eq (tgt := 661) hx hb dl_271 (by decide) (fun _ => ?_) (fun h => absurd rfl h)
      exact next gx1 gm1 H locs hI1 hO
    by_cases h32_4 : (xs i.toNatClampNeg &&& 31) = 4
    · refine lv_tableIn (off := 244) (tgt := 276) hx hb dl_32 (by rw [h32_4]; decide) (by rw [h32_4]; decide) (by rw [h32_4]; rfl) (by decide) ?_
      obtain ⟨v, gx1, gm1, e1, e2, hI1⟩ := s_guard gx gm (xs (i + 1).toNatClampNeg) (xs (i + 2).toNatClampNeg) (xs (i + 3).toNatClampNeg) (xs (i + 4).toNatClampNeg) hI
      refine lv_aload_n hx hb dl_276 rfl (lv_at hl 2 rfl) ?_
      refine lv_aload_n hx hb dl_277 rfl (lv_at hl 3 rfl) ?_
      refine lv_iload_n hx hb dl_278 rfl (lv_at hl 0 rfl) ?_
      refine lv_iconst (v := 1) hx hb dl_279 (by decide) ?_
      refine lv_iadd hx hb dl_280 ?_
      refine va_sld hx hb hX hbl hbA hO.2.2 hi1 dl_281 ?_
      refine lv_aload_n hx hb dl_282 rfl (lv_at hl 3 rfl) ?_
      refine lv_iload_n hx hb dl_283 rfl (lv_at hl 0 rfl) ?_
      refine lv_iconst (v := 2) hx hb dl_284 (by decide) ?_
      refine lv_iadd hx hb dl_285 ?_
      refine va_sld hx hb hX hbl hbA hO.2.2 hi2 dl_286 ?_
      refine lv_aload_n hx hb dl_287 rfl (lv_at hl 3 rfl) ?_
      refine lv_iload_n hx hb dl_288 rfl (lv_at hl 0 rfl) ?_
      refine lv_iconst (v := 3) hx hb dl_289 (by decide) ?_
      refine lv_iadd hx hb dl_290 ?_
      refine va_sld hx hb hX hbl hbA hO.2.2 hi3 dl_291 ?_
      refine lv_aload_n hx hb dl_292 rfl (lv_at hl 3 rfl) ?_
      refine lv_iload_n hx hb dl_293 rfl (lv_at hl 0 rfl) ?_
      refine lv_iconst (v := 4) hx hb dl_294 (by decide) ?_
      refine lv_iadd hx hb dl_295 ?_
      refine va_sld hx hb hX hbl hbA hO.2.2 hi4 dl_296 ?_
      refine ql_Vi (As := [.int (xs (i + 1).toNatClampNeg), .int (xs (i + 2).toNatClampNeg), .int (xs (i + 3).toNatClampNeg), .int (xs (i + 4).toNatClampNeg)]) (rest := []) (r := 0) S hK hN hS hO (xc_Cw_guard l D cI cJ cF cZ ad gx (xs (i + 1).toNatClampNeg) (xs (i + 2).toNatClampNeg) (xs (i + 3).toNatClampNeg) (xs (i + 4).toNatClampNeg)) e1 qy_Cw_guard lm_La_32 ⟨by decide, by decide⟩ hcs (by decide) rfl rfl rfl rfl hl.1 rfl (Nat.le_of_ble_eq_true rfl) dl_297 (fun H locs hO => ?_)
      refine lv_aload_n hx hb dl_300 rfl (lv_at hl 1 rfl) ?_
      refine lv_aload_n hx hb dl_301 rfl (lv_at hl 3 rfl) ?_
      refine lv_iload_n hx hb dl_302 rfl (lv_at hl 0 rfl) ?_
      refine lv_iconst (v := 1) hx hb dl_303 (by decide) ?_
      refine lv_iadd hx hb dl_304 ?_
      refine va_sld hx hb hX hbl hbA hO.2.2 hi1 dl_305 ?_
      refine lv_aload_n hx hb dl_306 rfl (lv_at hl 3 rfl) ?_
      refine lv_iload_n hx hb dl_307 rfl (lv_at hl 0 rfl) ?_
      refine lv_iconst (v := 2) hx hb dl_308 (by decide) ?_
      refine lv_iadd hx hb dl_309 ?_
      refine va_sld hx hb hX hbl hbA hO.2.2 hi2 dl_310 ?_
      refine lv_aload_n hx hb dl_311 rfl (lv_at hl 3 rfl) ?_
      refine lv_iload_n hx hb dl_312 rfl (lv_at hl 0 rfl) ?_
      refine lv_iconst (v := 3) hx hb dl_313 (by decide) ?_
      refine lv_iadd hx hb dl_314 ?_
      refine va_sld hx hb hX hbl hbA hO.2.2 hi3 dl_315 ?_
      refine lv_aload_n hx hb dl_316 rfl (lv_at hl 3 rfl) ?_
      refine lv_iload_n hx hb dl_317 rfl (lv_at hl 0 rfl) ?_
      refine lv_iconst (v := 4) hx hb dl_318 (by decide) ?_
      refine lv_iadd hx hb dl_319 ?_
      refine va_sld hx hb hX hbl hbA hO.2.2 hi4 dl_320 ?_
      refine ql_Wi (As := [.int (xs (i + 1).toNatClampNeg), .int (xs (i + 2).toNatClampNeg), .int (xs (i + 3).toNatClampNeg), .int (xs (i + 4).toNatClampNeg)]) (rest := [.int v]) (r := 0) S hK hN hS hO (mc_Mo_guard l D cI cJ cF cZ bd gm (xs (i + 1).toNatClampNeg) (xs (i + 2).toNatClampNeg) (xs (i + 3).toNatClampNeg) (xs (i + 4).toNatClampNeg)) e2 qy_Mo_guard lm_La_36 ⟨by decide, by decide⟩ hcs (by decide) rfl rfl rfl rfl hl.1 rfl (Nat.le_of_ble_eq_true rfl) dl_321 (fun H locs hO => ?_)
      refine lv_icmp_eq (tgt := 661) hx hb dl_324 (by decide) (fun _ => ?_) (fun h => absurd rfl h)
      exact next gx1 gm1 H locs hI1 hO
    by_cases h32_5 : (xs i.toNatClampNeg &&& 31) = 5
    · refine lv_tableIn (off := 297) (tgt := 329) hx hb dl_32 (by rw [h32_5]; decide) (by rw [h32_5]; decide) (by rw [h32_5]; rfl) (by decide) ?_
      obtain ⟨v, gx1, gm1, e1, e2, hI1⟩ := s_close gx gm hI
      refine lv_aload_n hx hb dl_329 rfl (lv_at hl 2 rfl) ?_
      refine ql_Vi (As := []) (rest := []) (r := 0) S hK hN hS hO (xc_Cw_close l D cI cJ cF cZ ad gx) e1 qy_Cw_close lm_La_37 ⟨by decide, by decide⟩ hcs (by decide) rfl rfl rfl rfl hl.1 rfl (Nat.le_of_ble_eq_true rfl) dl_330 (fun H locs hO => ?_)
      refine lv_aload_n hx hb dl_333 rfl (lv_at hl 1 rfl) ?_
      refine ql_Wi (As := []) (rest := [.int v]) (r := 0) S hK hN hS hO (mc_Mo_close l D cI cJ cF cZ bd gm) e2 qy_Mo_close lm_La_41 ⟨by decide, by decide⟩ hcs (by decide) rfl rfl rfl rfl hl.1 rfl (Nat.le_of_ble_eq_true rfl) dl_334 (fun H locs hO => ?_)
      refine lv_icmp_eq (tgt := 661) hx hb dl_337 (by decide) (fun _ => ?_) (fun h => absurd rfl h)
      exact next gx1 gm1 H locs hI1 hO
    by_cases h32_6 : (xs i.toNatClampNeg &&& 31) = 6
    · refine lv_tableIn (off := 310) (tgt := 342) hx hb dl_32 (by rw [h32_6]; decide) (by rw [h32_6]; decide) (by rw [h32_6]; rfl) (by decide) ?_
      obtain ⟨v, gx1, gm1, e1, e2, hI1⟩ := s_typeAt gx gm (xs (i + 1).toNatClampNeg) (xs (i + 2).toNatClampNeg) (xs (i + 3).toNatClampNeg) hI
      refine lv_aload_n hx hb dl_342 rfl (lv_at hl 2 rfl) ?_
      refine lv_aload_n hx hb dl_343 rfl (lv_at hl 3 rfl) ?_
      refine lv_iload_n hx hb dl_344 rfl (lv_at hl 0 rfl) ?_
      refine lv_iconst (v := 1) hx hb dl_345 (by decide) ?_
      refine lv_iadd hx hb dl_346 ?_
      refine va_sld hx hb hX hbl hbA hO.2.2 hi1 dl_347 ?_
      refine lv_aload_n hx hb dl_348 rfl (lv_at hl 3 rfl) ?_
      refine lv_iload_n hx hb dl_349 rfl (lv_at hl 0 rfl) ?_
      refine lv_iconst (v := 2) hx hb dl_350 (by decide) ?_
      refine lv_iadd hx hb dl_351 ?_
      refine va_sld hx hb hX hbl hbA hO.2.2 hi2 dl_352 ?_
      refine lv_aload_n hx hb dl_353 rfl (lv_at hl 3 rfl) ?_
      refine lv_iload_n hx hb dl_354 rfl (lv_at hl 0 rfl) ?_
      refine lv_iconst (v := 3) hx hb dl_355 (by decide) ?_
      refine lv_iadd hx hb dl_356 ?_
      refine va_sld hx hb hX hbl hbA hO.2.2 hi3 dl_357 ?_
      refine ql_Vi (As := [.int (xs (i + 1).toNatClampNeg), .int (xs (i + 2).toNatClampNeg), .int (xs (i + 3).toNatClampNeg)]) (rest := []) (r := 0) S hK hN hS hO (xc_Cw_typeAt l D cI cJ cF cZ ad gx (xs (i + 1).toNatClampNeg) (xs (i + 2).toNatClampNeg) (xs (i + 3).toNatClampNeg)) e1 qy_Cw_typeAt lm_La_42 ⟨by decide, by decide⟩ hcs (by decide) rfl rfl rfl rfl hl.1 rfl (Nat.le_of_ble_eq_true rfl) dl_358 (fun H locs hO => ?_)
      refine lv_aload_n hx hb dl_361 rfl (lv_at hl 1 rfl) ?_
      refine lv_aload_n hx hb dl_362 rfl (lv_at hl 3 rfl) ?_
      refine lv_iload_n hx hb dl_363 rfl (lv_at hl 0 rfl) ?_
      refine lv_iconst (v := 1) hx hb dl_364 (by decide) ?_
      refine lv_iadd hx hb dl_365 ?_
      refine va_sld hx hb hX hbl hbA hO.2.2 hi1 dl_366 ?_
      refine lv_aload_n hx hb dl_367 rfl (lv_at hl 3 rfl) ?_
      refine lv_iload_n hx hb dl_368 rfl (lv_at hl 0 rfl) ?_
      refine lv_iconst (v := 2) hx hb dl_369 (by decide) ?_
      refine lv_iadd hx hb dl_370 ?_
      refine va_sld hx hb hX hbl hbA hO.2.2 hi2 dl_371 ?_
      refine lv_aload_n hx hb dl_372 rfl (lv_at hl 3 rfl) ?_
      refine lv_iload_n hx hb dl_373 rfl (lv_at hl 0 rfl) ?_
      refine lv_iconst (v := 3) hx hb dl_374 (by decide) ?_
      refine lv_iadd hx hb dl_375 ?_
      refine va_sld hx hb hX hbl hbA hO.2.2 hi3 dl_376 ?_
      refine ql_Wi (As := [.int (xs (i + 1).toNatClampNeg), .int (xs (i + 2).toNatClampNeg), .int (xs (i + 3).toNatClampNeg)]) (rest := [.int v]) (r := 0) S hK hN hS hO (mc_Mo_typeAt l D cI cJ cF cZ bd gm (xs (i + 1).toNatClampNeg) (xs (i + 2).toNatClampNeg) (xs (i + 3).toNatClampNeg)) e2 qy_Mo_typeAt lm_La_45 ⟨by decide, by decide⟩ hcs (by decide) rfl rfl rfl rfl hl.1 rfl (Nat.le_of_ble_eq_true rfl) dl_377 (fun H locs hO => ?_)
      refine lv_icmp_eq (tgt := 661) hx hb dl_380 (by decide) (fun _ => ?_) (fun h => absurd rfl h)
      exact next gx1 gm1 H locs hI1 hO
    by_cases h32_7 : (xs i.toNatClampNeg &&& 31) = 7
    · refine lv_tableIn (off := 353) (tgt := 385) hx hb dl_32 (by rw [h32_7]; decide) (by rw [h32_7]; decide) (by rw [h32_7]; rfl) (by decide) ?_
      obtain ⟨v, gx1, gm1, e1, e2, hI1⟩ := s_answer gx gm (xs (i + 1).toNatClampNeg) (xs (i + 2).toNatClampNeg) hI
      refine lv_aload_n hx hb dl_385 rfl (lv_at hl 2 rfl) ?_
      refine lv_aload_n hx hb dl_386 rfl (lv_at hl 3 rfl) ?_
      refine lv_iload_n hx hb dl_387 rfl (lv_at hl 0 rfl) ?_
      refine lv_iconst (v := 1) hx hb dl_388 (by decide) ?_
      refine lv_iadd hx hb dl_389 ?_
      refine va_sld hx hb hX hbl hbA hO.2.2 hi1 dl_390 ?_
      refine lv_aload_n hx hb dl_391 rfl (lv_at hl 3 rfl) ?_
      refine lv_iload_n hx hb dl_392 rfl (lv_at hl 0 rfl) ?_
      refine lv_iconst (v := 2) hx hb dl_393 (by decide) ?_
      refine lv_iadd hx hb dl_394 ?_
      refine va_sld hx hb hX hbl hbA hO.2.2 hi2 dl_395 ?_
      refine ql_Vi (As := [.int (xs (i + 1).toNatClampNeg), .int (xs (i + 2).toNatClampNeg)]) (rest := []) (r := 0) S hK hN hS hO (xc_Cw_answer l D cI cJ cF cZ ad gx (xs (i + 1).toNatClampNeg) (xs (i + 2).toNatClampNeg)) e1 qy_Cw_answer lm_La_46 ⟨by decide, by decide⟩ hcs (by decide) rfl rfl rfl rfl hl.1 rfl (Nat.le_of_ble_eq_true rfl) dl_396 (fun H locs hO => ?_)
      refine lv_aload_n hx hb dl_399 rfl (lv_at hl 1 rfl) ?_
      refine lv_aload_n hx hb dl_400 rfl (lv_at hl 3 rfl) ?_
      refine lv_iload_n hx hb dl_401 rfl (lv_at hl 0 rfl) ?_
      refine lv_iconst (v := 1) hx hb dl_402 (by decide) ?_
      refine lv_iadd hx hb dl_403 ?_
      refine va_sld hx hb hX hbl hbA hO.2.2 hi1 dl_404 ?_
      refine lv_aload_n hx hb dl_405 rfl (lv_at hl 3 rfl) ?_
      refine lv_iload_n hx hb dl_406 rfl (lv_at hl 0 rfl) ?_
      refine lv_iconst (v := 2) hx hb dl_407 (by decide) ?_
      refine lv_iadd hx hb dl_408 ?_
      refine va_sld hx hb hX hbl hbA hO.2.2 hi2 dl_409 ?_
      refine ql_Wi (As := [.int (xs (i + 1).toNatClampNeg), .int (xs (i + 2).toNatClampNeg)]) (rest := [.int v]) (r := 0) S hK hN hS hO (mc_Mo_answer l D cI cJ cF cZ bd gm (xs (i + 1).toNatClampNeg) (xs (i + 2).toNatClampNeg)) e2 qy_Mo_answer lm_La_49 ⟨by decide, by decide⟩ hcs (by decide) rfl rfl rfl rfl hl.1 rfl (Nat.le_of_ble_eq_true rfl) dl_410 (fun H locs hO => ?_)
      refine lv_icmp_eq (tgt := 661) hx hb dl_413 (by decide) (fun _ => ?_) (fun h => absurd rfl h)
      exact next gx1 gm1 H locs hI1 hO
    by_cases h32_8 : (xs i.toNatClampNeg &&& 31) = 8
    · refine lv_tableIn (off := 386) (tgt := 418) hx hb dl_32 (by rw [h32_8]; decide) (by rw [h32_8]; decide) (by rw [h32_8]; rfl) (by decide) ?_
      obtain ⟨v, gx1, gm1, e1, e2, hI1⟩ := s_slot gx gm (xs (i + 1).toNatClampNeg) (xs (i + 2).toNatClampNeg) hI
      refine lv_aload_n hx hb dl_418 rfl (lv_at hl 2 rfl) ?_
      refine lv_aload_n hx hb dl_419 rfl (lv_at hl 3 rfl) ?_
      refine lv_iload_n hx hb dl_420 rfl (lv_at hl 0 rfl) ?_
      refine lv_iconst (v := 1) hx hb dl_421 (by decide) ?_
      refine lv_iadd hx hb dl_422 ?_
      refine va_sld hx hb hX hbl hbA hO.2.2 hi1 dl_423 ?_
      refine lv_aload_n hx hb dl_424 rfl (lv_at hl 3 rfl) ?_
      refine lv_iload_n hx hb dl_425 rfl (lv_at hl 0 rfl) ?_
      refine lv_iconst (v := 2) hx hb dl_426 (by decide) ?_
      refine lv_iadd hx hb dl_427 ?_
      refine va_sld hx hb hX hbl hbA hO.2.2 hi2 dl_428 ?_
      refine ql_Vi (As := [.int (xs (i + 1).toNatClampNeg), .int (xs (i + 2).toNatClampNeg)]) (rest := []) (r := 0) S hK hN hS hO (xc_Cw_slot l D cI cJ cF cZ ad gx (xs (i + 1).toNatClampNeg) (xs (i + 2).toNatClampNeg)) e1 qy_Cw_slot lm_La_50 ⟨by decide, by decide⟩ hcs (by decide) rfl rfl rfl rfl hl.1 rfl (Nat.le_of_ble_eq_true rfl) dl_429 (fun H locs hO => ?_)
      refine lv_aload_n hx hb dl_432 rfl (lv_at hl 1 rfl) ?_
      refine lv_aload_n hx hb dl_433 rfl (lv_at hl 3 rfl) ?_
      refine lv_iload_n hx hb dl_434 rfl (lv_at hl 0 rfl) ?_
      refine lv_iconst (v := 1) hx hb dl_435 (by decide) ?_
      refine lv_iadd hx hb dl_436 ?_
      refine va_sld hx hb hX hbl hbA hO.2.2 hi1 dl_437 ?_
      refine lv_aload_n hx hb dl_438 rfl (lv_at hl 3 rfl) ?_
      refine lv_iload_n hx hb dl_439 rfl (lv_at hl 0 rfl) ?_
      refine lv_iconst (v := 2) hx hb dl_440 (by decide) ?_
      refine lv_iadd hx hb dl_441 ?_
      refine va_sld hx hb hX hbl hbA hO.2.2 hi2 dl_442 ?_
      refine ql_Wi (As := [.int (xs (i + 1).toNatClampNeg), .int (xs (i + 2).toNatClampNeg)]) (rest := [.int v]) (r := 0) S hK hN hS hO (mc_Mo_slot l D cI cJ cF cZ bd gm (xs (i + 1).toNatClampNeg) (xs (i + 2).toNatClampNeg)) e2 qy_Mo_slot lm_La_53 ⟨by decide, by decide⟩ hcs (by decide) rfl rfl rfl rfl hl.1 rfl (Nat.le_of_ble_eq_true rfl) dl_443 (fun H locs hO => ?_)
      refine lv_icmp_eq (tgt := 661) hx hb dl_446 (by decide) (fun _ => ?_) (fun h => absurd rfl h)
      exact next gx1 gm1 H locs hI1 hO
    by_cases h32_9 : (xs i.toNatClampNeg &&& 31) = 9
    · refine lv_tableIn (off := 419) (tgt := 451) hx hb dl_32 (by rw [h32_9]; decide) (by rw [h32_9]; decide) (by rw [h32_9]; rfl) (by decide) ?_
      obtain ⟨v, gx1, gm1, e1, e2, hI1⟩ := s_live gx gm (xs (i + 1).toNatClampNeg) hI
      refine lv_aload_n hx hb dl_451 rfl (lv_at hl 2 rfl) ?_
      refine lv_aload_n hx hb dl_452 rfl (lv_at hl 3 rfl) ?_
      refine lv_iload_n hx hb dl_453 rfl (lv_at hl 0 rfl) ?_
      refine lv_iconst (v := 1) hx hb dl_454 (by decide) ?_
      refine lv_iadd hx hb dl_455 ?_
      refine va_sld hx hb hX hbl hbA hO.2.2 hi1 dl_456 ?_
      refine ql_Vi (As := [.int (xs (i + 1).toNatClampNeg)]) (rest := []) (r := 0) S hK hN hS hO (xc_Cw_live l D cI cJ cF cZ ad gx (xs (i + 1).toNatClampNeg)) e1 qy_Cw_live lm_La_54 ⟨by decide, by decide⟩ hcs (by decide) rfl rfl rfl rfl hl.1 rfl (Nat.le_of_ble_eq_true rfl) dl_457 (fun H locs hO => ?_)
      refine lv_aload_n hx hb dl_460 rfl (lv_at hl 1 rfl) ?_
      refine lv_aload_n hx hb dl_461 rfl (lv_at hl 3 rfl) ?_
      refine lv_iload_n hx hb dl_462 rfl (lv_at hl 0 rfl) ?_
      refine lv_iconst (v := 1) hx hb dl_463 (by decide) ?_
      refine lv_iadd hx hb dl_464 ?_
      refine va_sld hx hb hX hbl hbA hO.2.2 hi1 dl_465 ?_
      refine ql_Wi (As := [.int (xs (i + 1).toNatClampNeg)]) (rest := [.int v]) (r := 0) S hK hN hS hO (mc_Mo_live l D cI cJ cF cZ bd gm (xs (i + 1).toNatClampNeg)) e2 qy_Mo_live lm_La_58 ⟨by decide, by decide⟩ hcs (by decide) rfl rfl rfl rfl hl.1 rfl (Nat.le_of_ble_eq_true rfl) dl_466 (fun H locs hO => ?_)
      refine lv_icmp_eq (tgt := 661) hx hb dl_469 (by decide) (fun _ => ?_) (fun h => absurd rfl h)
      exact next gx1 gm1 H locs hI1 hO
    by_cases h32_10 : (xs i.toNatClampNeg &&& 31) = 10
    · refine lv_tableIn (off := 442) (tgt := 474) hx hb dl_32 (by rw [h32_10]; decide) (by rw [h32_10]; decide) (by rw [h32_10]; rfl) (by decide) ?_
      obtain ⟨v, gx1, gm1, e1, e2, hI1⟩ := s_targets gx gm (xs (i + 1).toNatClampNeg) (xs (i + 2).toNatClampNeg) hI
      refine lv_aload_n hx hb dl_474 rfl (lv_at hl 2 rfl) ?_
      refine lv_aload_n hx hb dl_475 rfl (lv_at hl 3 rfl) ?_
      refine lv_iload_n hx hb dl_476 rfl (lv_at hl 0 rfl) ?_
      refine lv_iconst (v := 1) hx hb dl_477 (by decide) ?_
      refine lv_iadd hx hb dl_478 ?_
      refine va_sld hx hb hX hbl hbA hO.2.2 hi1 dl_479 ?_
      refine lv_aload_n hx hb dl_480 rfl (lv_at hl 3 rfl) ?_
      refine lv_iload_n hx hb dl_481 rfl (lv_at hl 0 rfl) ?_
      refine lv_iconst (v := 2) hx hb dl_482 (by decide) ?_
      refine lv_iadd hx hb dl_483 ?_
      refine va_sld hx hb hX hbl hbA hO.2.2 hi2 dl_484 ?_
      refine ql_Vi (As := [.int (xs (i + 1).toNatClampNeg), .int (xs (i + 2).toNatClampNeg)]) (rest := []) (r := 0) S hK hN hS hO (xc_Cw_targets l D cI cJ cF cZ ad gx (xs (i + 1).toNatClampNeg) (xs (i + 2).toNatClampNeg)) e1 qy_Cw_targets lm_La_59 ⟨by decide, by decide⟩ hcs (by decide) rfl rfl rfl rfl hl.1 rfl (Nat.le_of_ble_eq_true rfl) dl_485 (fun H locs hO => ?_)
      refine lv_aload_n hx hb dl_488 rfl (lv_at hl 1 rfl) ?_
      refine lv_aload_n hx hb dl_489 rfl (lv_at hl 3 rfl) ?_
      refine lv_iload_n hx hb dl_490 rfl (lv_at hl 0 rfl) ?_
      refine lv_iconst (v := 1) hx hb dl_491 (by decide) ?_
      refine lv_iadd hx hb dl_492 ?_
      refine va_sld hx hb hX hbl hbA hO.2.2 hi1 dl_493 ?_
      refine lv_aload_n hx hb dl_494 rfl (lv_at hl 3 rfl) ?_
      refine lv_iload_n hx hb dl_495 rfl (lv_at hl 0 rfl) ?_
      refine lv_iconst (v := 2) hx hb dl_496 (by decide) ?_
      refine lv_iadd hx hb dl_497 ?_
      refine va_sld hx hb hX hbl hbA hO.2.2 hi2 dl_498 ?_
      refine ql_Wi (As := [.int (xs (i + 1).toNatClampNeg), .int (xs (i + 2).toNatClampNeg)]) (rest := [.int v]) (r := 0) S hK hN hS hO (mc_Mo_targets l D cI cJ cF cZ bd gm (xs (i + 1).toNatClampNeg) (xs (i + 2).toNatClampNeg)) e2 qy_Mo_targets lm_La_62 ⟨by decide, by decide⟩ hcs (by decide) rfl rfl rfl rfl hl.1 rfl (Nat.le_of_ble_eq_true rfl) dl_499 (fun H locs hO => ?_)
      refine lv_icmp_eq (tgt := 661) hx hb dl_502 (by decide) (fun _ => ?_) (fun h => absurd rfl h)
      exact next gx1 gm1 H locs hI1 hO
    by_cases h32_11 : (xs i.toNatClampNeg &&& 31) = 11
    · refine lv_tableIn (off := 475) (tgt := 507) hx hb dl_32 (by rw [h32_11]; decide) (by rw [h32_11]; decide) (by rw [h32_11]; rfl) (by decide) ?_
      obtain ⟨v, gx1, gm1, e1, e2, hI1⟩ := s_run gx gm (xs (i + 1).toNatClampNeg) (xs (i + 2).toNatClampNeg) hI
      refine lv_aload_n hx hb dl_507 rfl (lv_at hl 2 rfl) ?_
      refine lv_aload_n hx hb dl_508 rfl (lv_at hl 3 rfl) ?_
      refine lv_iload_n hx hb dl_509 rfl (lv_at hl 0 rfl) ?_
      refine lv_iconst (v := 1) hx hb dl_510 (by decide) ?_
      refine lv_iadd hx hb dl_511 ?_
      refine va_sld hx hb hX hbl hbA hO.2.2 hi1 dl_512 ?_
      refine lv_aload_n hx hb dl_513 rfl (lv_at hl 3 rfl) ?_
      refine lv_iload_n hx hb dl_514 rfl (lv_at hl 0 rfl) ?_
      refine lv_iconst (v := 2) hx hb dl_515 (by decide) ?_
      refine lv_iadd hx hb dl_516 ?_
      refine va_sld hx hb hX hbl hbA hO.2.2 hi2 dl_517 ?_
      refine ql_Vi (As := [.int (xs (i + 1).toNatClampNeg), .int (xs (i + 2).toNatClampNeg)]) (rest := []) (r := 0) S hK hN hS hO (xc_Cw_run l D cI cJ cF cZ ad gx (xs (i + 1).toNatClampNeg) (xs (i + 2).toNatClampNeg)) e1 qy_Cw_run lm_La_63 ⟨by decide, by decide⟩ hcs (by decide) rfl rfl rfl rfl hl.1 rfl (Nat.le_of_ble_eq_true rfl) dl_518 (fun H locs hO => ?_)
      refine lv_aload_n hx hb dl_521 rfl (lv_at hl 1 rfl) ?_
      refine lv_aload_n hx hb dl_522 rfl (lv_at hl 3 rfl) ?_
      refine lv_iload_n hx hb dl_523 rfl (lv_at hl 0 rfl) ?_
      refine lv_iconst (v := 1) hx hb dl_524 (by decide) ?_
      refine lv_iadd hx hb dl_525 ?_
      refine va_sld hx hb hX hbl hbA hO.2.2 hi1 dl_526 ?_
      refine lv_aload_n hx hb dl_527 rfl (lv_at hl 3 rfl) ?_
      refine lv_iload_n hx hb dl_528 rfl (lv_at hl 0 rfl) ?_
      refine lv_iconst (v := 2) hx hb dl_529 (by decide) ?_
      refine lv_iadd hx hb dl_530 ?_
      refine va_sld hx hb hX hbl hbA hO.2.2 hi2 dl_531 ?_
      refine ql_Wi (As := [.int (xs (i + 1).toNatClampNeg), .int (xs (i + 2).toNatClampNeg)]) (rest := [.int v]) (r := 0) S hK hN hS hO (mc_Mo_run l D cI cJ cF cZ bd gm (xs (i + 1).toNatClampNeg) (xs (i + 2).toNatClampNeg)) e2 qy_Mo_run lm_La_66 ⟨by decide, by decide⟩ hcs (by decide) rfl rfl rfl rfl hl.1 rfl (Nat.le_of_ble_eq_true rfl) dl_532 (fun H locs hO => ?_)
      refine lv_icmp_eq (tgt := 661) hx hb dl_535 (by decide) (fun _ => ?_) (fun h => absurd rfl h)
      exact next gx1 gm1 H locs hI1 hO
    by_cases h32_12 : (xs i.toNatClampNeg &&& 31) = 12
    · refine lv_tableIn (off := 508) (tgt := 540) hx hb dl_32 (by rw [h32_12]; decide) (by rw [h32_12]; decide) (by rw [h32_12]; rfl) (by decide) ?_
      obtain ⟨v, gx1, gm1, e1, e2, hI1⟩ := s_result gx gm hI
      refine lv_aload_n hx hb dl_540 rfl (lv_at hl 2 rfl) ?_
      refine ql_Vi (As := []) (rest := []) (r := 0) S hK hN hS hO (xc_Cw_result l D cI cJ cF cZ ad gx) e1 qy_Cw_result lm_La_67 ⟨by decide, by decide⟩ hcs (by decide) rfl rfl rfl rfl hl.1 rfl (Nat.le_of_ble_eq_true rfl) dl_541 (fun H locs hO => ?_)
      refine lv_aload_n hx hb dl_544 rfl (lv_at hl 1 rfl) ?_
      refine ql_Wi (As := []) (rest := [.int v]) (r := 0) S hK hN hS hO (mc_Mo_result l D cI cJ cF cZ bd gm) e2 qy_Mo_result lm_La_70 ⟨by decide, by decide⟩ hcs (by decide) rfl rfl rfl rfl hl.1 rfl (Nat.le_of_ble_eq_true rfl) dl_545 (fun H locs hO => ?_)
      refine lv_icmp_eq (tgt := 661) hx hb dl_548 (by decide) (fun _ => ?_) (fun h => absurd rfl h)
      exact next gx1 gm1 H locs hI1 hO
    by_cases h32_13 : (xs i.toNatClampNeg &&& 31) = 13
    · refine lv_tableIn (off := 521) (tgt := 553) hx hb dl_32 (by rw [h32_13]; decide) (by rw [h32_13]; decide) (by rw [h32_13]; rfl) (by decide) ?_
      obtain ⟨v, gx1, gm1, e1, e2, hI1⟩ := s_steps gx gm hI
      refine lv_aload_n hx hb dl_553 rfl (lv_at hl 2 rfl) ?_
      refine ql_Vi (As := []) (rest := []) (r := 0) S hK hN hS hO (xc_Cw_steps l D cI cJ cF cZ ad gx) e1 qy_Cw_steps lm_La_71 ⟨by decide, by decide⟩ hcs (by decide) rfl rfl rfl rfl hl.1 rfl (Nat.le_of_ble_eq_true rfl) dl_554 (fun H locs hO => ?_)
      refine lv_aload_n hx hb dl_557 rfl (lv_at hl 1 rfl) ?_
      refine ql_Wi (As := []) (rest := [.int v]) (r := 0) S hK hN hS hO (mc_Mo_steps l D cI cJ cF cZ bd gm) e2 qy_Mo_steps lm_La_74 ⟨by decide, by decide⟩ hcs (by decide) rfl rfl rfl rfl hl.1 rfl (Nat.le_of_ble_eq_true rfl) dl_558 (fun H locs hO => ?_)
      refine lv_icmp_eq (tgt := 661) hx hb dl_561 (by decide) (fun _ => ?_) (fun h => absurd rfl h)
      exact next gx1 gm1 H locs hI1 hO
    by_cases h32_14 : (xs i.toNatClampNeg &&& 31) = 14
    · refine lv_tableIn (off := 534) (tgt := 566) hx hb dl_32 (by rw [h32_14]; decide) (by rw [h32_14]; decide) (by rw [h32_14]; rfl) (by decide) ?_
      obtain ⟨v, gx1, gm1, e1, e2, hI1⟩ := s_prints gx gm hI
      refine lv_aload_n hx hb dl_566 rfl (lv_at hl 2 rfl) ?_
      refine ql_Vi (As := []) (rest := []) (r := 0) S hK hN hS hO (xc_Cw_prints l D cI cJ cF cZ ad gx) e1 qy_Cw_prints lm_La_75 ⟨by decide, by decide⟩ hcs (by decide) rfl rfl rfl rfl hl.1 rfl (Nat.le_of_ble_eq_true rfl) dl_567 (fun H locs hO => ?_)
      refine lv_aload_n hx hb dl_570 rfl (lv_at hl 1 rfl) ?_
      refine ql_Wi (As := []) (rest := [.int v]) (r := 0) S hK hN hS hO (mc_Mo_prints l D cI cJ cF cZ bd gm) e2 qy_Mo_prints lm_La_78 ⟨by decide, by decide⟩ hcs (by decide) rfl rfl rfl rfl hl.1 rfl (Nat.le_of_ble_eq_true rfl) dl_571 (fun H locs hO => ?_)
      refine lv_icmp_eq (tgt := 661) hx hb dl_574 (by decide) (fun _ => ?_) (fun h => absurd rfl h)
      exact next gx1 gm1 H locs hI1 hO
    by_cases h32_15 : (xs i.toNatClampNeg &&& 31) = 15
    · refine lv_tableIn (off := 547) (tgt := 579) hx hb dl_32 (by rw [h32_15]; decide) (by rw [h32_15]; decide) (by rw [h32_15]; rfl) (by decide) ?_
      obtain ⟨v, gx1, gm1, e1, e2, hI1⟩ := s_printed gx gm (xs (i + 1).toNatClampNeg) hI
      refine lv_aload_n hx hb dl_579 rfl (lv_at hl 2 rfl) ?_
      refine lv_aload_n hx hb dl_580 rfl (lv_at hl 3 rfl) ?_
      refine lv_iload_n hx hb dl_581 rfl (lv_at hl 0 rfl) ?_
      refine lv_iconst (v := 1) hx hb dl_582 (by decide) ?_
      refine lv_iadd hx hb dl_583 ?_
      refine va_sld hx hb hX hbl hbA hO.2.2 hi1 dl_584 ?_
      refine ql_Vi (As := [.int (xs (i + 1).toNatClampNeg)]) (rest := []) (r := 0) S hK hN hS hO (xc_Cw_printed l D cI cJ cF cZ ad gx (xs (i + 1).toNatClampNeg)) e1 qy_Cw_printed lm_La_79 ⟨by decide, by decide⟩ hcs (by decide) rfl rfl rfl rfl hl.1 rfl (Nat.le_of_ble_eq_true rfl) dl_585 (fun H locs hO => ?_)
      refine lv_aload_n hx hb dl_588 rfl (lv_at hl 1 rfl) ?_
      refine lv_aload_n hx hb dl_589 rfl (lv_at hl 3 rfl) ?_
      refine lv_iload_n hx hb dl_590 rfl (lv_at hl 0 rfl) ?_
      refine lv_iconst (v := 1) hx hb dl_591 (by decide) ?_
      refine lv_iadd hx hb dl_592 ?_
      refine va_sld hx hb hX hbl hbA hO.2.2 hi1 dl_593 ?_
      refine ql_Wi (As := [.int (xs (i + 1).toNatClampNeg)]) (rest := [.int v]) (r := 0) S hK hN hS hO (mc_Mo_printed l D cI cJ cF cZ bd gm (xs (i + 1).toNatClampNeg)) e2 qy_Mo_printed lm_La_83 ⟨by decide, by decide⟩ hcs (by decide) rfl rfl rfl rfl hl.1 rfl (Nat.le_of_ble_eq_true rfl) dl_594 (fun H locs hO => ?_)
      refine lv_icmp_eq (tgt := 661) hx hb dl_597 (by decide) (fun _ => ?_) (fun h => absurd rfl h)
      exact next gx1 gm1 H locs hI1 hO
    by_cases h32_16 : (xs i.toNatClampNeg &&& 31) = 16
    · refine lv_tableIn (off := 570) (tgt := 602) hx hb dl_32 (by rw [h32_16]; decide) (by rw [h32_16]; decide) (by rw [h32_16]; rfl) (by decide) ?_
      obtain ⟨v, gx1, gm1, e1, e2, hI1⟩ := s_begun gx gm (xs (i + 1).toNatClampNeg) hI
      refine lv_aload_n hx hb dl_602 rfl (lv_at hl 2 rfl) ?_
      refine lv_aload_n hx hb dl_603 rfl (lv_at hl 3 rfl) ?_
      refine lv_iload_n hx hb dl_604 rfl (lv_at hl 0 rfl) ?_
      refine lv_iconst (v := 1) hx hb dl_605 (by decide) ?_
      refine lv_iadd hx hb dl_606 ?_
      refine va_sld hx hb hX hbl hbA hO.2.2 hi1 dl_607 ?_
      refine ql_Vi (As := [.int (xs (i + 1).toNatClampNeg)]) (rest := []) (r := 0) S hK hN hS hO (xc_Cw_begun l D cI cJ cF cZ ad gx (xs (i + 1).toNatClampNeg)) e1 qy_Cw_begun lm_La_84 ⟨by decide, by decide⟩ hcs (by decide) rfl rfl rfl rfl hl.1 rfl (Nat.le_of_ble_eq_true rfl) dl_608 (fun H locs hO => ?_)
      refine lv_aload_n hx hb dl_611 rfl (lv_at hl 1 rfl) ?_
      refine lv_aload_n hx hb dl_612 rfl (lv_at hl 3 rfl) ?_
      refine lv_iload_n hx hb dl_613 rfl (lv_at hl 0 rfl) ?_
      refine lv_iconst (v := 1) hx hb dl_614 (by decide) ?_
      refine lv_iadd hx hb dl_615 ?_
      refine va_sld hx hb hX hbl hbA hO.2.2 hi1 dl_616 ?_
      refine ql_Wi (As := [.int (xs (i + 1).toNatClampNeg)]) (rest := [.int v]) (r := 0) S hK hN hS hO (mc_Mo_begun l D cI cJ cF cZ bd gm (xs (i + 1).toNatClampNeg)) e2 qy_Mo_begun lm_La_87 ⟨by decide, by decide⟩ hcs (by decide) rfl rfl rfl rfl hl.1 rfl (Nat.le_of_ble_eq_true rfl) dl_617 (fun H locs hO => ?_)
      refine lv_icmp_eq (tgt := 661) hx hb dl_620 (by decide) (fun _ => ?_) (fun h => absurd rfl h)
      exact next gx1 gm1 H locs hI1 hO
    by_cases h32_17 : (xs i.toNatClampNeg &&& 31) = 17
    · refine lv_tableIn (off := 593) (tgt := 625) hx hb dl_32 (by rw [h32_17]; decide) (by rw [h32_17]; decide) (by rw [h32_17]; rfl) (by decide) ?_
      obtain ⟨v, gx1, gm1, e1, e2, hI1⟩ := s_objects gx gm hI
      refine lv_aload_n hx hb dl_625 rfl (lv_at hl 2 rfl) ?_
      refine ql_Vi (As := []) (rest := []) (r := 0) S hK hN hS hO (xc_Cw_objects l D cI cJ cF cZ ad gx) e1 qy_Cw_objects lm_La_88 ⟨by decide, by decide⟩ hcs (by decide) rfl rfl rfl rfl hl.1 rfl (Nat.le_of_ble_eq_true rfl) dl_626 (fun H locs hO => ?_)
      refine lv_aload_n hx hb dl_629 rfl (lv_at hl 1 rfl) ?_
      refine ql_Wi (As := []) (rest := [.int v]) (r := 0) S hK hN hS hO (mc_Mo_objects l D cI cJ cF cZ bd gm) e2 qy_Mo_objects lm_La_91 ⟨by decide, by decide⟩ hcs (by decide) rfl rfl rfl rfl hl.1 rfl (Nat.le_of_ble_eq_true rfl) dl_630 (fun H locs hO => ?_)
      refine lv_icmp_eq (tgt := 661) hx hb dl_633 (by decide) (fun _ => ?_) (fun h => absurd rfl h)
      exact next gx1 gm1 H locs hI1 hO
    by_cases h32_18 : (xs i.toNatClampNeg &&& 31) = 18
    · refine lv_tableIn (off := 606) (tgt := 638) hx hb dl_32 (by rw [h32_18]; decide) (by rw [h32_18]; decide) (by rw [h32_18]; rfl) (by decide) ?_
      obtain ⟨v, gx1, gm1, e1, e2, hI1⟩ := s_kept gx gm (xs (i + 1).toNatClampNeg) hI
      refine lv_aload_n hx hb dl_638 rfl (lv_at hl 2 rfl) ?_
      refine lv_aload_n hx hb dl_639 rfl (lv_at hl 3 rfl) ?_
      refine lv_iload_n hx hb dl_640 rfl (lv_at hl 0 rfl) ?_
      refine lv_iconst (v := 1) hx hb dl_641 (by decide) ?_
      refine lv_iadd hx hb dl_642 ?_
      refine va_sld hx hb hX hbl hbA hO.2.2 hi1 dl_643 ?_
      refine ql_Vi (As := [.int (xs (i + 1).toNatClampNeg)]) (rest := []) (r := 0) S hK hN hS hO (xc_Cw_kept l D cI cJ cF cZ ad gx (xs (i + 1).toNatClampNeg)) e1 qy_Cw_kept lm_La_92 ⟨by decide, by decide⟩ hcs (by decide) rfl rfl rfl rfl hl.1 rfl (Nat.le_of_ble_eq_true rfl) dl_644 (fun H locs hO => ?_)
      refine lv_aload_n hx hb dl_647 rfl (lv_at hl 1 rfl) ?_
      refine lv_aload_n hx hb dl_648 rfl (lv_at hl 3 rfl) ?_
      refine lv_iload_n hx hb dl_649 rfl (lv_at hl 0 rfl) ?_
      refine lv_iconst (v := 1) hx hb dl_650 (by decide) ?_
      refine lv_iadd hx hb dl_651 ?_
      refine va_sld hx hb hX hbl hbA hO.2.2 hi1 dl_652 ?_
      refine ql_Wi (As := [.int (xs (i + 1).toNatClampNeg)]) (rest := [.int v]) (r := 0) S hK hN hS hO (mc_Mo_kept l D cI cJ cF cZ bd gm (xs (i + 1).toNatClampNeg)) e2 qy_Mo_kept lm_La_95 ⟨by decide, by decide⟩ hcs (by decide) rfl rfl rfl rfl hl.1 rfl (Nat.le_of_ble_eq_true rfl) dl_653 (fun H locs hO => ?_)
      refine lv_icmp_eq (tgt := 661) hx hb dl_656 (by decide) (fun _ => ?_) (fun h => absurd rfl h)
      exact next gx1 gm1 H locs hI1 hO
    have z0 : (xs i.toNatClampNeg &&& 31).toInt ≠ 0 := qa_ne h32_0 (by decide)
    have z1 : (xs i.toNatClampNeg &&& 31).toInt ≠ 1 := qa_ne h32_1 (by decide)
    have z2 : (xs i.toNatClampNeg &&& 31).toInt ≠ 2 := qa_ne h32_2 (by decide)
    have z3 : (xs i.toNatClampNeg &&& 31).toInt ≠ 3 := qa_ne h32_3 (by decide)
    have z4 : (xs i.toNatClampNeg &&& 31).toInt ≠ 4 := qa_ne h32_4 (by decide)
    have z5 : (xs i.toNatClampNeg &&& 31).toInt ≠ 5 := qa_ne h32_5 (by decide)
    have z6 : (xs i.toNatClampNeg &&& 31).toInt ≠ 6 := qa_ne h32_6 (by decide)
    have z7 : (xs i.toNatClampNeg &&& 31).toInt ≠ 7 := qa_ne h32_7 (by decide)
    have z8 : (xs i.toNatClampNeg &&& 31).toInt ≠ 8 := qa_ne h32_8 (by decide)
    have z9 : (xs i.toNatClampNeg &&& 31).toInt ≠ 9 := qa_ne h32_9 (by decide)
    have z10 : (xs i.toNatClampNeg &&& 31).toInt ≠ 10 := qa_ne h32_10 (by decide)
    have z11 : (xs i.toNatClampNeg &&& 31).toInt ≠ 11 := qa_ne h32_11 (by decide)
    have z12 : (xs i.toNatClampNeg &&& 31).toInt ≠ 12 := qa_ne h32_12 (by decide)
    have z13 : (xs i.toNatClampNeg &&& 31).toInt ≠ 13 := qa_ne h32_13 (by decide)
    have z14 : (xs i.toNatClampNeg &&& 31).toInt ≠ 14 := qa_ne h32_14 (by decide)
    have z15 : (xs i.toNatClampNeg &&& 31).toInt ≠ 15 := qa_ne h32_15 (by decide)
    have z16 : (xs i.toNatClampNeg &&& 31).toInt ≠ 16 := qa_ne h32_16 (by decide)
    have z17 : (xs i.toNatClampNeg &&& 31).toInt ≠ 17 := qa_ne h32_17 (by decide)
    have z18 : (xs i.toNatClampNeg &&& 31).toInt ≠ 18 := qa_ne h32_18 (by decide)
    refine lv_tableOut (tgt := 661) hx hb dl_32 (by omega) (by decide) ?_
    exact next gx gm H locs hI hO
