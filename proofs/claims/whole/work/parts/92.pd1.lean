/-! The check of all methods -/
theorem tc_po_eq {g h : qa_St} (hP : pr_P h) (hRR : pr_R g h) {m : Nat} (hm : (m : Int) < (h 0 4).toInt) {N N' : Nat → Int} {V V' : Nat → Nat → Int32} (he : ∀ i, i < 20 → N' i = N i ∧ (N i ≠ -1 → ∀ p, p < 4 + (N i).toNat → V' i p = V i p)) (hpo : tc_po g h m N V) : tc_po g h m N' V' := by
  obtain ⟨hN, hC, hM, hU, hK, hG⟩ := hP
  have hT := hRR.2.1
  have q := hM m hm
  obtain ⟨p1, p2, p3⟩ := hpo
  have hs : tc_sle g h N V N' V' := fun i hi hn => ⟨(he i hi).1, fun p hp => by rw [(he i hi).2 hn p hp]; exact tc_refl _⟩
  refine ⟨fun i hi => ?_, tc_ar_up hN hC hM hT hm hs p2, fun i hi hn => ?_⟩
  · rcases p1 i hi with y | ⟨y1, y2, y3⟩
    · left; rw [(he i hi).1]; exact y
    · right
      refine ⟨y1, by rw [(he i hi).1]; exact y2, by show (N' i).toNat ≤ 6; rw [(he i hi).1]; exact y3.1, fun p hp => ?_⟩
      have hp : p < 4 + (N' i).toNat := hp
      rw [(he i hi).1] at hp
      show tc_va h (V' i p)
      rw [(he i hi).2 (by omega) p hp]
      exact y3.2 p hp
  · have hn0 : N i ≠ -1 := by rw [← (he i hi).1]; exact hn
    have hil : (i : Int) < (h 7 m).toInt := by
      rcases p1 i hi with y | y
      · exact absurd y hn0
      · exact y.1
    exact tc_fl_cg hN hC hM hT hm (hK m i hm hil).2.2 hs (he i hi).1 ((he i hi).2 hn0) (p3 i hi hn0)
theorem tc_tk_pm {h h' : qa_St} (hp : pm h h') (w : Nat) (f : tc_F) : tc_tk h' w f = tc_tk h w f := by
  have hc : ∀ t, tc_cl h' t ↔ tc_cl h t := fun t => by
    have e := hp.2.1
    constructor
    · intro z; exact ⟨z.1, by rw [← e]; exact z.2⟩
    · intro z; exact ⟨z.1, by rw [e]; exact z.2⟩
  unfold tc_tk
  by_cases h0 : f.1 = 0
  · rw [if_pos h0, if_pos h0]
  · rw [if_neg h0, if_neg h0]
    by_cases h1 : (w = 1 → f.2 (3 + f.1) = 9) ∧ (w = 2 → tc_cl h (f.2 (3 + f.1)))
    · rw [if_pos h1, if_pos ⟨h1.1, fun z => (hc _).mpr (h1.2 z)⟩]
    · rw [if_neg h1, if_neg (fun z => h1 ⟨z.1, fun y => (hc _).mp (z.2 y)⟩)]
theorem tc_tks_pm {h h' : qa_St} (hp : pm h h') : ∀ (k : Nat) (f : tc_F), tc_tks h' k f = tc_tks h k f := by
  intro k
  induction k with
  | zero => intro f; rfl
  | succ k ih =>
    intro f
    have hf : (fun q : Int32 × tc_F => tc_tks h' k q.2) = fun q => tc_tks h k q.2 := funext fun q => ih q.2
    rw [tc_tks, tc_tks, tc_tk_pm hp, hf]
theorem tc_ef_pm {g h h' : qa_St} (hp : pm h h') (op : Int) (a : Int32) (f : tc_F) : tc_ef g h' op a f = tc_ef g h op a f := by
  have e1 : tc_tk h' = tc_tk h := funext fun w => funext fun f => tc_tk_pm hp w f
  have e2 : tc_tks h' = tc_tks h := funext fun w => funext fun f => tc_tks_pm hp w f
  have e3 : pr_an g h' = pr_an g h := funext fun s => funext fun n => funext fun c => pm_an hp s n c
  have e6 : h' 6 = h 6 := pm_fn hp (by omega) (by omega)
  unfold tc_ef
  rw [e1, e2, e3, e6]
theorem tc_po_cg {g g' h h' : qa_St} (hp : xp g g') (hm : pm h h') (hN : pr_N h) (hC : pr_C h) {m : Nat} {N : Nat → Int} {V : Nat → Nat → Int32} (hpo : tc_po g h m N V) : tc_po g' h' m N V := by
  have e2 : g' 2 = g 2 := funext fun k => hp 2 k (by omega)
  have hle : tc_le g' h' = tc_le g h := funext fun t => funext fun u => by unfold tc_le tc_cl; rw [e2, hm.2.1]
  have hef : tc_ef g' h' = tc_ef g h := funext fun op => funext fun a => funext fun f => by rw [tc_ef_pm hm, tc_ef_cg hp hN hC]
  have h7 : h' 7 = h 7 := pm_fn hm (by omega) (by omega)
  have h8 : h' 8 = h 8 := pm_fn hm (by omega) (by omega)
  have h9 : h' 9 = h 9 := pm_fn hm (by omega) (by omega)
  have h4 : h' 4 = h 4 := pm_fn hm (by omega) (by omega)
  have h5 : h' 5 = h 5 := pm_fn hm (by omega) (by omega)
  have h6 : h' 6 = h 6 := pm_fn hm (by omega) (by omega)
  have har : tc_ar g' h' m N V = tc_ar g h m N V := funext fun j => funext fun f => by unfold tc_ar; rw [hle, h7]
  have hva : tc_va h' = tc_va h := funext fun t => by unfold tc_va tc_cl; rw [hm.2.1]
  have hok : tc_ok h' = tc_ok h := funext fun f => by unfold tc_ok; rw [hva]
  have hgd : tc_gd h' m N V = tc_gd h m N V := by unfold tc_gd; rw [h7, hok]
  have hst : tc_st h' m = tc_st h m := by unfold tc_st; rw [h4, h5, h6]
  have hhd : ∀ i : Nat, pr_hd h' m i 4 0 = pr_hd h m i 4 0 := fun i => pm_hd hm m i 4 0
  have hfl : tc_fl g' h' m N V = tc_fl g h m N V := funext fun i => by unfold tc_fl; rw [hef, har, h8, h9, hhd i]
  unfold tc_po
  rw [hgd, har, hst, hfl]
  exact hpo
/-- what the check of a method leaves: both hold the same, and it is sound -/
def pc_m (g h : qa_St) (m : Nat) : Prop := tc_po g h m (mN h m) (mV h m) ∧ ∀ i, i < 20 → (h 14 (20 * m + i) = 0 ∧ g 74 (20 * m + i) = -1) ∨ (h 14 (20 * m + i) = 1 ∧ g 74 (20 * m + i) = h 15 (20 * m + i) ∧ 0 ≤ (h 15 (20 * m + i)).toInt ∧ (h 15 (20 * m + i)).toInt ≤ 6 ∧ ∀ p : Nat, (p : Int) < 4 + (h 15 (20 * m + i)).toInt → g 73 (10 * (20 * m + i) + p) = h 16 (10 * (20 * m + i) + p))
theorem pc_both {g h : qa_St} (hP : pr_P h) (hRR : pr_R g h) {m : Nat} (hm : (m : Int) < (h 0 4).toInt) :
    ∃ v g' h', xf_Ch_isSound g (Int32.ofNat m) = some (v, g') ∧ mf_Mo_sound h (Int32.ofNat m) = some (v, h') ∧ (∀ r k, r < 72 ∨ 76 < r → g' r k = g r k) ∧ (∀ r, (r < 20 * m ∨ 20 * m + 20 ≤ r) → g' 74 r = g 74 r ∧ ∀ p, p < 10 → g' 73 (10 * r + p) = g 73 (10 * r + p)) ∧ mr m h h' ∧ (v = 0 ∨ (v = 1 ∧ pc_m g' h' m)) := by
  obtain ⟨v, g', h', a1, a2, a3, a4, a5, a6⟩ := tc_both hP hRR hm
  refine ⟨v, g', h', a1, a2, a3, a4, a5, ?_⟩
  rcases a6 with y | ⟨y1, y2, y3, y4⟩
  · exact Or.inl y
  · right
    have hxp : xp g g' := fun r k hr => a3 r k (Or.inl hr)
    refine ⟨y1, tc_po_cg hxp (mr_pm a5) hP.1 hP.2.1 y3, fun i hi => ?_⟩
    have e := y4 i hi
    obtain ⟨b1, b2⟩ := y2.2.2.1 i hi
    have hx1 : xN g' m i = (g' 74 (20 * m + i)).toInt := rfl
    rcases b1 with z | z
    · left
      have hn : mN h' m i = -1 := by unfold mN; rw [if_pos z]
      rw [hn, hx1] at e
      exact ⟨z, by rw [pv_eq, e.1]; rfl⟩
    · right
      have hz : ¬ h' 14 (20 * m + i) = 0 := by rw [z]; decide
      have hn : mN h' m i = (h' 15 (20 * m + i)).toInt := by unfold mN; rw [if_neg hz]
      have hp := b2 hz
      have h6 : (h' 15 (20 * m + i)).toInt ≤ 6 := by
        rcases y3.1 i hi with w | ⟨w1, w2, w3⟩
        · rw [hn] at w; omega
        · have : (mN h' m i).toNat ≤ 6 := w3.1
          omega
      refine ⟨z, by rw [pv_eq, ← hx1, e.1, hn], hp, h6, fun p hpp => ?_⟩
      exact e.2 (by rw [hn]; omega) p (by rw [hn]; omega)
/-- a later state of both, where nothing of the method has changed -/
theorem pc_keep {g g' h h' : qa_St} (hP : pr_P h) (hRR : pr_R g h) {m : Nat} (hm : (m : Int) < (h 0 4).toInt) (hp : xp g g') (hq : pm h h') (h1 : ∀ i, i < 20 → g' 74 (20 * m + i) = g 74 (20 * m + i) ∧ ∀ p, p < 10 → g' 73 (10 * (20 * m + i) + p) = g 73 (10 * (20 * m + i) + p)) (h2 : ∀ i, i < 20 → h' 14 (20 * m + i) = h 14 (20 * m + i) ∧ h' 15 (20 * m + i) = h 15 (20 * m + i) ∧ ∀ p, p < 10 → h' 16 (10 * (20 * m + i) + p) = h 16 (10 * (20 * m + i) + p)) (hc : pc_m g h m) : pc_m g' h' m := by
  obtain ⟨c1, c2⟩ := hc
  refine ⟨?_, fun i hi => ?_⟩
  · refine tc_po_cg hp hq hP.1 hP.2.1 (tc_po_eq hP hRR hm (N := mN h m) (V := mV h m) (fun i hi => ⟨?_, fun hn p hpp => ?_⟩) c1)
    · unfold mN
      rw [(h2 i hi).1, (h2 i hi).2.1]
    · unfold mV
      refine (h2 i hi).2.2 p ?_
      rcases c1.1 i hi with y | ⟨y1, y2, y3⟩
      · exact absurd y hn
      · have : (mN h m i).toNat ≤ 6 := y3.1
        omega
  · rw [(h1 i hi).1, (h2 i hi).1, (h2 i hi).2.1]
    rcases c2 i hi with y | ⟨y1, y2, y3, y4, y5⟩
    · exact Or.inl y
    · refine Or.inr ⟨y1, y2, y3, y4, fun p hpp => ?_⟩
      rw [(h1 i hi).2 p (by omega), (h2 i hi).2.2 p (by omega)]
      exact y5 p hpp
/-- the loops of close: both stop at the same method, or come to the end with all checked -/
def pc_fr (g0 h0 g h : qa_St) : Prop := (∀ r k, r < 72 ∨ 76 < r → g r k = g0 r k) ∧ ∀ r k, r ≠ 14 → r ≠ 15 → r ≠ 16 → r ≠ 17 → ¬ (r = 0 ∧ (k = 20 ∨ k = 21 ∨ k = 22)) → h r k = h0 r k
theorem pc_loop {g0 h0 : qa_St} (hP : pr_P h0) (hRR : pr_R g0 h0) : ∀ (d m n n' : Nat) (g h : qa_St), (m : Int) + d = (h0 0 4).toInt → d < n → d < n' → pc_fr g0 h0 g h → (∀ k, k < m → pc_m g h k) →
    (∃ v g' h', xf_Cw_close_24 n g (Int32.ofNat m) = some (v, g') ∧ mf_Mo_close_40 n' h (Int32.ofNat m) = some (v, h') ∧ pc_fr g0 h0 g' h') ∨ (∃ g' h', xf_Cw_close_24 n g (Int32.ofNat m) = ((xf_Re_find g').bind fun t58 => (some ((-1 : Int32), (qa_up t58.2 0 4 (1 : Int32))))) ∧ mf_Mo_close_40 n' h (Int32.ofNat m) = ((mf_Mo_spread (qa_up h' 0 15 (1 : Int32))).bind fun t70 => (some ((-1 : Int32), t70.2))) ∧ pc_fr g0 h0 g' h' ∧ ∀ k : Nat, (k : Int) < (h0 0 4).toInt → pc_m g' h' k) := by
  have hn := hP.1
  obtain ⟨n0, n1, n2, n3⟩ := hn
  intro d
  induction d with
  | zero =>
    intro m n n' g h hd hn hn' hf hk
    obtain ⟨n, rfl⟩ : ∃ z, n = z + 1 := ⟨n - 1, by omega⟩
    obtain ⟨n', rfl⟩ : ∃ z, n' = z + 1 := ⟨n' - 1, by omega⟩
    have em : (Int32.ofNat m).toInt = (m : Int) := pv_nI (by omega)
    right
    refine ⟨g, h, ?_, ?_, hf, fun k hkk => hk k (by omega)⟩
    · rw [xf_Cw_close_24]
      unfold xf_Pr_methodCount
      simp only [Option.bind_some]
      rw [if_pos (by rw [pv_le, hf.1 1 1 (by omega), hRR.1.2, em]; omega)]
    · rw [mf_Mo_close_40, if_pos (by rw [pv_le, hf.2 0 4 (by decide) (by decide) (by decide) (by decide) (by decide), em]; omega)]
  | succ d ih =>
    intro m n n' g h hd hn hn' hf hk
    obtain ⟨n, rfl⟩ : ∃ z, n = z + 1 := ⟨n - 1, by omega⟩
    obtain ⟨n', rfl⟩ : ∃ z, n' = z + 1 := ⟨n' - 1, by omega⟩
    have em : (Int32.ofNat m).toInt = (m : Int) := pv_nI (by omega)
    have hxp : xp g0 g := fun r k hr => hf.1 r k (Or.inl hr)
    have hpm : pm h0 h := ⟨fun r k a b => hf.2 r k (by omega) (by omega) (by omega) (by omega) (by omega), hf.2 0 0 (by decide) (by decide) (by decide) (by decide) (by decide), hf.2 0 4 (by decide) (by decide) (by decide) (by decide) (by decide)⟩
    have hPh := pm_P hpm hP
    have hRh := xp_R hxp hPh.1 (pm_R hpm hRR) hPh.2.1
    have hmh : (m : Int) < (h 0 4).toInt := by rw [hpm.2.2]; omega
    obtain ⟨v, g', h', a1, a2, a3, a4, a5, a6⟩ := pc_both hPh hRh hmh
    have hf' : pc_fr g0 h0 g' h' := ⟨fun r k hr => by rw [a3 r k hr]; exact hf.1 r k hr, fun r k c1 c2 c3 c4 c5 => by rw [a5.1 r k c1 c2 c3 c4 c5]; exact hf.2 r k c1 c2 c3 c4 c5⟩
    have hx1 : xf_Cw_close_24 (n + 1) g (Int32.ofNat m) = (if v = 0 then some (Int32.ofNat m, g') else xf_Cw_close_24 n g' (Int32.ofNat (m + 1))) := by
      rw [xf_Cw_close_24]
      unfold xf_Pr_methodCount
      simp only [Option.bind_some]
      rw [if_neg (by rw [pv_le, hf.1 1 1 (by omega), hRR.1.2, em]; omega), a1]
      simp only [Option.bind_some]
      rw [pv_n1]
    have hm1 : mf_Mo_close_40 (n' + 1) h (Int32.ofNat m) = (if v = 0 then some (Int32.ofNat m, h') else mf_Mo_close_40 n' h' (Int32.ofNat (m + 1))) := by
      rw [mf_Mo_close_40, if_neg (by rw [pv_le, hpm.2.2, em]; omega), a2]
      simp only [Option.bind_some]
      rw [pv_n1]
    rcases a6 with y | ⟨y1, y2⟩
    · left
      rw [if_pos y] at hx1 hm1
      exact ⟨_, g', h', hx1, hm1, hf'⟩
    · rw [if_neg (by rw [y1]; decide)] at hx1 hm1
      rw [hx1, hm1]
      refine ih (m + 1) n n' g' h' (by omega) (by omega) (by omega) hf' (fun k hkm => ?_)
      by_cases hkm' : k = m
      · rw [hkm']; exact y2
      · refine pc_keep hPh hRh (m := k) (by omega) (fun r k hr => a3 r k (Or.inl hr)) (mr_pm a5) (fun i hi => ?_) (fun i hi => ?_) (hk k (by omega))
        · exact a4 (20 * k + i) (by omega)
        · exact a5.2 (20 * k + i) (by omega)
