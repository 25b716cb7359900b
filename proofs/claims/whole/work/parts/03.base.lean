/-! The base: the state of a system of fixed cells is one function of numbers; a world made of it; rows for its instructions and calls; contracts by a pure function that may say none. -/
abbrev qa_St : Type := Nat → Nat → Int32
abbrev qa_Re : Type := Option (Int32 × qa_St)
def qa_up (g : qa_St) (r i : Nat) (v : Int32) : qa_St := fun a => if a = r then upd (g a) i v else g a
def qa_wl (N : Nat) (ad : Nat → Nat) (en : Nat → (Nat → Int32) → va_E) (g : qa_St) : va_W := (List.range N).map fun k => (ad k, en k (g k))
theorem qa_wl_len {N : Nat} {ad : Nat → Nat} {en : Nat → (Nat → Int32) → va_E} {g : qa_St} : (qa_wl N ad en g).length = N := by simp [qa_wl]
theorem qa_wl_get {N : Nat} {ad : Nat → Nat} {en : Nat → (Nat → Int32) → va_E} {g : qa_St} {k : Nat} (h : k < N) : (qa_wl N ad en g)[k]? = some (ad k, en k (g k)) := by
  simp [qa_wl, h]
theorem qa_wl_none {N : Nat} {ad : Nat → Nat} {en : Nat → (Nat → Int32) → va_E} {g : qa_St} {k : Nat} (h : ¬ k < N) : (qa_wl N ad en g)[k]? = none := by
  apply List.getElem?_eq_none
  rw [qa_wl_len]
  omega
theorem qa_up_self {g : qa_St} {r i : Nat} {v : Int32} : qa_up g r i v r = upd (g r) i v := by simp [qa_up]
theorem qa_up_ne {g : qa_St} {r i k : Nat} {v : Int32} (h : k ≠ r) : qa_up g r i v k = g k := by simp [qa_up, h]
theorem qa_wl_set {N : Nat} {ad : Nat → Nat} {en : Nat → (Nat → Int32) → va_E} {g : qa_St} {r i : Nat} {v : Int32} {x : va_E} (he : en r (upd (g r) i v) = x) : (qa_wl N ad en g).set r (ad r, x) = qa_wl N ad en (qa_up g r i v) := by
  subst he
  apply List.ext_getElem?
  intro k
  by_cases hk : k = r
  · subst hk
    by_cases h : k < N
    · rw [List.getElem?_set_self (by rw [qa_wl_len]; exact h), qa_wl_get h, qa_up_self]
    · rw [qa_wl_none h, List.getElem?_eq_none]
      rw [List.length_set, qa_wl_len]
      omega
  · rw [List.getElem?_set_ne (Ne.symm hk)]
    by_cases h : k < N
    · rw [qa_wl_get h, qa_wl_get h, qa_up_ne hk]
    · rw [qa_wl_none h, qa_wl_none h]
/-- the words that all methods share: those of the tables that last -/
def qa_G : List Cond := lw_tbl.filter goodWord
theorem qa_in {w : Cond} (h : w ∈ lw_tbl) (hg : goodWord w = true) : w ∈ qa_G := List.mem_filter.mpr ⟨h, hg⟩
theorem qa_ini {w : Cond} (i : Nat) (h : tables_1[i]? = some w) (hg : goodWord w = true) : w ∈ qa_G := qa_in (List.mem_append_right _ (List.mem_of_getElem? h)) hg
theorem qa_ins {w : Cond} (i : Nat) (h : (k2_sels lw_privs)[i]? = some w) (hg : goodWord w = true) : w ∈ qa_G := qa_in (List.mem_append_left _ (List.mem_of_getElem? h)) hg
theorem qa_good {c0 c1 : Cond} (h : c1 ∈ qa_G) : GoodIn (c0 :: qa_G) (c1 :: qa_G) := by
  intro w hw
  have hw1 : w ∈ qa_G := by
    rcases List.mem_cons.mp hw with rfl | h2
    · exact h
    · exact h2
  exact ⟨List.mem_cons_of_mem _ hw1, good_of_word (List.mem_filter.mp hw1).2⟩
theorem qa_goodA {c0 c1 : Cond} {xs : List Cond} (hx : ∀ w ∈ xs, w ∈ qa_G) (h : c1 ∈ qa_G) : GoodIn (c0 :: qa_G) (xs ++ (c1 :: qa_G)) := by
  intro w hw
  rcases List.mem_append.mp hw with h1 | h1
  · exact ⟨List.mem_cons_of_mem _ (hx w h1), good_of_word (List.mem_filter.mp (hx w h1)).2⟩
  · exact qa_good h w h1
abbrev qa_ws (y : MethodName) (b : ByteArray) (n : Nat) (r : Option FieldType) : List Cond := Cond.code y b n r :: qa_G
/-- what a walk carries: the cells, that they are apart, that nothing else has changed -/
def qa_O (D : va_G) (N : Nat) (ad : Nat → Nat) (en : Nat → (Nat → Int32) → va_E) (A : Nat → Prop) (H0 : Heap) (g : qa_St) (H : Heap) (locs : List Loc) : Prop :=
  va_P D qa_cl (qa_wl N ad en g) H ∧ va_D A (qa_wl N ad en g) ∧ va_S A H0 H locs
def qa_A (N : Nat) (ad : Nat → Nat) (sz : Nat) : Nat → Prop := fun q => (∃ k, k < N ∧ q = ad k) ∨ sz ≤ q
abbrev qa_nn (q : String × Nat × MethodName × String) : Cond := .methodLinkNest q.1 q.2.1 q.2.2.1 q.2.2.2
def qa_N (U : State) : Prop := ∀ q ∈ qa_nw, va_Nw (qa_nn q) U
theorem qa_N.moved {s U : State} (h : qa_N s) (hW : s.WarmedH U.vm) : qa_N U := fun q hq => va_Nw.warmM hW (h q hq)
theorem qa_N.same {u U : State} (h : qa_N u) (e : u.vm = U.vm) : qa_N U := fun q hq => va_Nw.same rfl e (h q hq)
def qa_Pre (D : va_G) (tys : List (ClassId × FieldType)) (N : Nat) (ad : Nat → Nat) (en : Nat → (Nat → Int32) → va_E) (g : qa_St) (sz : Nat) : State → Prop :=
  fun U => U.heap.size = sz ∧ va_P D qa_cl (qa_wl N ad en g) U.heap ∧ va_K D qa_cl tys U ∧ va_D (fun _ => True) (qa_wl N ad en g) ∧ qa_N U
abbrev qa_Q (D : va_G) (N : Nat) (ad : Nat → Nat) (en : Nat → (Nat → Int32) → va_E) : qa_St → State → Prop := fun u t => va_P D qa_cl (qa_wl N ad en u) t.heap
/-- a contract with an int for an answer: where the pure function f says some, that is the answer, and the state behind it -/
def qa_Mi (l : Launch) (y : MethodName) (ws : List Cond) (rm : Room) (D : va_G) (tys : List (ClassId × FieldType)) (N : Nat) (ad : Nat → Nat) (en : Nat → (Nat → Int32) → va_E) (av : List Value) (g : qa_St) (f : qa_Re) : Prop :=
  ∀ (T : Int32 × qa_St) (sz : Nat), f = some T → Met l y ws rm (va_Pc av (qa_Pre D tys N ad en g sz)) (va_Qi (fun v u => (v, u) = T) (qa_Q D N ad en) (qa_A N ad sz)) 0 0 (qa_A N ad sz)
def qa_Mv (l : Launch) (y : MethodName) (ws : List Cond) (rm : Room) (D : va_G) (tys : List (ClassId × FieldType)) (N : Nat) (ad : Nat → Nat) (en : Nat → (Nat → Int32) → va_E) (av : List Value) (g : qa_St) (f : qa_Re) : Prop :=
  ∀ (T : Int32 × qa_St) (sz : Nat), f = some T → Met l y ws rm (va_Pc av (qa_Pre D tys N ad en g sz)) (va_Qv (fun u => u = T.2) (qa_Q D N ad en) (qa_A N ad sz)) 0 0 (qa_A N ad sz)
theorem qa_D_any {A : Nat → Prop} {N : Nat} {ad : Nat → Nat} {en : Nat → (Nat → Int32) → va_E} {g u : qa_St} (h : va_D A (qa_wl N ad en g)) : va_D A (qa_wl N ad en u) := by
  have key : ∀ (k : Nat) (q : Nat × va_E), (qa_wl N ad en u)[k]? = some q → ∃ q0, (qa_wl N ad en g)[k]? = some q0 ∧ q0.1 = q.1 := by
    intro k q hk
    by_cases hN : k < N
    · rw [qa_wl_get hN] at hk
      cases hk
      exact ⟨_, qa_wl_get hN, rfl⟩
    · rw [qa_wl_none hN] at hk
      cases hk
  refine ⟨fun i j x y hi hj hxy => ?_, fun k q hk => ?_⟩
  · obtain ⟨x0, h1, h2⟩ := key i x hi
    obtain ⟨y0, h3, h4⟩ := key j y hj
    exact h.1 i j x0 y0 h1 h3 (h2.trans (hxy.trans h4.symm))
  · obtain ⟨q0, h1, h2⟩ := key k q hk
    rw [← h2]
    exact h.2 k q0 h1
theorem qa_D_A {N sz : Nat} {ad : Nat → Nat} {en : Nat → (Nat → Int32) → va_E} {g : qa_St} {A : Nat → Prop} (h : va_D A (qa_wl N ad en g)) : va_D (qa_A N ad sz) (qa_wl N ad en g) := by
  refine ⟨h.1, fun k q hk => ?_⟩
  by_cases hN : k < N
  · rw [qa_wl_get hN] at hk
    cases hk
    exact Or.inl ⟨k, hN, rfl⟩
  · rw [qa_wl_none hN] at hk
    cases hk
theorem qa_A_up {N a b : Nat} {ad : Nat → Nat} (h : a ≤ b) : ∀ q, qa_A N ad b q → qa_A N ad a q := fun q hq => by
  rcases hq with h1 | h1
  · exact Or.inl h1
  · exact Or.inr (Nat.le_trans h h1)
/-! steps of the pure function -/
theorem qa_t {α : Type} {P : Prop} [Decidable P] {a b c : α} (hT : (if P then a else b) = c) (h : P) : a = c := by
  rw [if_pos h] at hT
  exact hT
theorem qa_f {α : Type} {P : Prop} [Decidable P] {a b c : α} (hT : (if P then a else b) = c) (h : ¬ P) : b = c := by
  rw [if_neg h] at hT
  exact hT
theorem qa_c {α : Type} {P : Prop} [Decidable P] {a : Option α} {c : α} (hT : (if P then none else a) = some c) : ¬ P ∧ a = some c := by
  by_cases h : P
  · rw [if_pos h] at hT
    cases hT
  · rw [if_neg h] at hT
    exact ⟨h, hT⟩
theorem qa_k {α : Type} {P : Prop} [Decidable P] {a : Option α} {c : α} (hT : (if P then a else none) = some c) : P ∧ a = some c := by
  by_cases h : P
  · rw [if_pos h] at hT
    exact ⟨h, hT⟩
  · rw [if_neg h] at hT
    cases hT
theorem qa_b {α β : Type} {o : Option α} {f : α → Option β} {t : β} (h : o.bind f = some t) : ∃ a, o = some a ∧ f a = some t := Option.bind_eq_some_iff.mp h
theorem qa_ne {x k : Int32} {n : Int} (h : ¬ x = k) (hk : k.toInt = n) : x.toInt ≠ n := fun e => h (Int32.toInt_inj.mp (e.trans hk.symm))
theorem qa_lt {i : Int32} {n : Nat} (h : ¬ (i < 0 ∨ n ≤ i.toNatClampNeg)) : i.toNatClampNeg < n := Nat.not_le.mp fun q => h (Or.inr q)
theorem qa_rowlt {i : Int32} {n b N : Nat} (h : ¬ (i < 0 ∨ n ≤ i.toNatClampNeg)) (hb : b + n ≤ N) : b + i.toNatClampNeg < N := Nat.lt_of_lt_of_le (Nat.add_lt_add_left (qa_lt h) b) hb
theorem qa_nz {x : Int32} (h : x = 0 ∨ x = 1) : narrow .boolean (.int x) = .int x := by rcases h with rfl | rfl <;> rfl
theorem qa_vz {x : Int32} (h : x = 0 ∨ x = 1) : vp_nar .boolean x = x := by rcases h with rfl | rfl <;> rfl
def qa_ushr (x y : Int32) : Int32 := (x.toUInt32 >>> (y.toUInt32 &&& Int32.toUInt32 31)).toInt32
theorem qa_o1 (x : Int32) : x + Int32.ofInt 1 = x + 1 := rfl
theorem qa_om (x : Int32) : x + Int32.ofInt (-1) = x + -1 := rfl
section QA
variable {p : Program} {l : Launch} {e : Env} {R : Room} {s : State} {m : MethodId} {args : Array Value} {below : List Frame} {meth : Method} {c : Code} {H : Heap} {locs : List Loc} {Q : State → Prop}
variable {cc : ByteArray} {pc nL N : Nat} {ls : Array Slot} {rest : List Value} {D : va_G} {A : Nat → Prop} {tys : List (ClassId × FieldType)} {H0 : Heap} {ad : Nat → Nat} {en : Nat → (Nat → Int32) → va_E} {g : qa_St} {own : String} {Ts : List Cond} {c0 : Cond}
theorem qa_get (S : CallFix p m c cc nL s args (c0 :: qa_G) own) (hK : va_K D qa_cl tys s) (hO : qa_O D N ad en A H0 g H locs) {ref C : String} {F : u_T} {n ci index : Nat} (hin : ∀ w ∈ u_ws C F n, w ∈ qa_G) (r : Nat) (hr : r < N) {fs : List Value} (he : en r (g r) = .inr (ci, fs)) (hc : qa_cl[ci]? = some (C, F, n)) (k : Nat) (hk : k < n) (hlink : Cond.fieldLink own index ref (F k).2.1 (F k).2.2.1 ∈ qa_G) (href : ref = (F k).1) {v : Value} (hv : fs[k]? = some v) (hd : decode cc pc = .ok (.getfield index, 3))
    (kk : W p l e R s m args below meth c H locs 0 0 Q (F0 m (pc + 3) ls (v :: rest))) : W p l e R s m args below meth c H locs 0 0 Q (F0 m pc ls (.ref (ad r) :: rest)) :=
  va_get S.1 S.2.1 S.2.2.2.2 (fun w h => List.mem_cons_of_mem _ (hin w h)) S.2.2.2.1 hK hO.1 r (by rw [qa_wl_get hr, he]) hc k hk (S.2.2.2.2 _ (List.mem_cons_of_mem _ hlink)) (fun x h => by rw [href]; exact h) hv hd kk
theorem qa_put (S : CallFix p m c cc nL s args (c0 :: qa_G) own) (hK : va_K D qa_cl tys s) (hO : qa_O D N ad en A H0 g H locs) {ref C : String} {F : u_T} {n ci index : Nat} (hin : ∀ w ∈ u_ws C F n, w ∈ qa_G) (ty0 : Nat → FieldType) (hty : ∀ k, k < n → parseFieldDescriptor (F k).2.2.1 = some (ty0 k)) (hnm : ∀ a, a < n → ∀ b, b < n → a ≠ b → (F a).2.1 ≠ (F b).2.1) (r : Nat) (hr : r < N) {fs : List Value} (he : en r (g r) = .inr (ci, fs)) (hc : qa_cl[ci]? = some (C, F, n)) (k : Nat) (hk : k < n) (hlink : Cond.fieldLink own index ref (F k).2.1 (F k).2.2.1 ∈ qa_G) (href : ref = (F k).1) (hfin : (F k).2.2.2 = false) {ty : FieldType} {x : Int32} (hpd : parseFieldDescriptor (F k).2.2.1 = some ty) (hn : narrow ty (.int x) = .int x) (hfit : fits ty (.int x) = true) (hl : k < fs.length) (he2 : en r (upd (g r) k x) = .inr (ci, fs.set k (.int x))) (hd : decode cc pc = .ok (.putfield index, 3))
    (kk : ∀ (H : Heap) (locs : List Loc), qa_O D N ad en A H0 (qa_up g r k x) H locs → W p l e R s m args below meth c H locs 0 0 Q (F0 m (pc + 3) ls rest)) : W p l e R s m args below meth c H locs 0 0 Q (F0 m pc ls (.int x :: .ref (ad r) :: rest)) :=
  va_put S.1 S.2.1 S.2.2.2.2 (fun w h => List.mem_cons_of_mem _ (hin w h)) ty0 hty hnm S.2.2.2.1 hK hO.1 hO.2.1 hO.2.2 r (by rw [qa_wl_get hr, he]) hc k hk (S.2.2.2.2 _ (List.mem_cons_of_mem _ hlink)) (fun x h => by rw [href]; exact h) hfin hpd hn hfit hl hd (fun H1 locs1 hP hD hS => kk H1 locs1 (by rw [qa_wl_set he2] at hP hD; exact ⟨hP, hD, hS⟩))
theorem qa_iald (S : CallFix p m c cc nL s args Ts own) (hK : va_K D qa_cl tys s) (hO : qa_O D N ad en A H0 g H locs) (r : Nat) (hr : r < N) (t0 : Nat) {cA : ClassId} {n : Nat} (he : ∀ w, en r w = .inl (cA, n, .inl w)) (ht : tys[t0]? = some (cA, .int)) {i : Int32} (hi : ¬ (i < 0 ∨ n ≤ i.toNatClampNeg)) (hd : decode cc pc = .ok (.iaload, 1))
    (kk : W p l e R s m args below meth c H locs 0 0 Q (F0 m (pc + 1) ls (.int (g r i.toNatClampNeg) :: rest))) : W p l e R s m args below meth c H locs 0 0 Q (F0 m pc ls (.int i :: .ref (ad r) :: rest)) :=
  va_iald S.1 S.2.1 hK hO.1 r t0 (by rw [qa_wl_get hr, he]) ht hi hd kk
theorem qa_zald (S : CallFix p m c cc nL s args Ts own) (hK : va_K D qa_cl tys s) (hO : qa_O D N ad en A H0 g H locs) (r : Nat) (hr : r < N) (t0 : Nat) {cA : ClassId} {n : Nat} (he : ∀ w, en r w = .inl (cA, n, .inl w)) (ht : tys[t0]? = some (cA, .boolean)) {i : Int32} (hi : ¬ (i < 0 ∨ n ≤ i.toNatClampNeg)) (hd : decode cc pc = .ok (.baload, 1))
    (kk : W p l e R s m args below meth c H locs 0 0 Q (F0 m (pc + 1) ls (.int (g r i.toNatClampNeg) :: rest))) : W p l e R s m args below meth c H locs 0 0 Q (F0 m pc ls (.int i :: .ref (ad r) :: rest)) :=
  va_zald S.1 S.2.1 hK hO.1 r t0 (by rw [qa_wl_get hr, he]) ht hi hd kk
theorem qa_iast (S : CallFix p m c cc nL s args Ts own) (hK : va_K D qa_cl tys s) (hO : qa_O D N ad en A H0 g H locs) (r : Nat) (hr : r < N) (t0 : Nat) {cA : ClassId} {n : Nat} (he : ∀ w, en r w = .inl (cA, n, .inl w)) (ht : tys[t0]? = some (cA, .int)) {i x : Int32} (hi : ¬ (i < 0 ∨ n ≤ i.toNatClampNeg)) (hd : decode cc pc = .ok (.iastore, 1))
    (kk : ∀ (H : Heap) (locs : List Loc), qa_O D N ad en A H0 (qa_up g r i.toNatClampNeg x) H locs → W p l e R s m args below meth c H locs 0 0 Q (F0 m (pc + 1) ls rest)) : W p l e R s m args below meth c H locs 0 0 Q (F0 m pc ls (.int x :: .int i :: .ref (ad r) :: rest)) :=
  va_iast S.1 S.2.1 hK hO.1 hO.2.1 hO.2.2 r t0 (by rw [qa_wl_get hr, he]) ht hi hd (fun H1 locs1 hP hD hS => kk H1 locs1 (by rw [qa_wl_set (he _)] at hP hD; exact ⟨hP, hD, hS⟩))
theorem qa_zast (S : CallFix p m c cc nL s args Ts own) (hK : va_K D qa_cl tys s) (hO : qa_O D N ad en A H0 g H locs) (r : Nat) (hr : r < N) (t0 : Nat) {cA : ClassId} {n : Nat} (he : ∀ w, en r w = .inl (cA, n, .inl w)) (ht : tys[t0]? = some (cA, .boolean)) {i x : Int32} (hi : ¬ (i < 0 ∨ n ≤ i.toNatClampNeg)) (hx : vp_nar .boolean x = x) (hd : decode cc pc = .ok (.bastore, 1))
    (kk : ∀ (H : Heap) (locs : List Loc), qa_O D N ad en A H0 (qa_up g r i.toNatClampNeg x) H locs → W p l e R s m args below meth c H locs 0 0 Q (F0 m (pc + 1) ls rest)) : W p l e R s m args below meth c H locs 0 0 Q (F0 m pc ls (.int x :: .int i :: .ref (ad r) :: rest)) :=
  va_zast S.1 S.2.1 hK hO.1 hO.2.1 hO.2.2 r t0 (by rw [qa_wl_get hr, he]) ht hi hd (fun H1 locs1 hP hD hS => kk H1 locs1 (by rw [hx, qa_wl_set (he _)] at hP hD; exact ⟨hP, hD, hS⟩))
/-- a row of an array of arrays, or of objects -/
theorem qa_aald (S : CallFix p m c cc nL s args Ts own) (hK : va_K D qa_cl tys s) (hO : qa_O D N ad en A H0 g H locs) (r : Nat) (hr : r < N) (t0 : Nat) {cA : ClassId} {n : Nat} {f : Nat → Option Nat} {ty : FieldType} (he : en r (g r) = .inl (cA, n, .inr (.inr (.inr (.inr f))))) (ht : tys[t0]? = some (cA, ty)) (hty : ty.isReference = true) {i : Int32} (hi : ¬ (i < 0 ∨ n ≤ i.toNatClampNeg)) {v : Nat} (hv : f i.toNatClampNeg = some v) (hd : decode cc pc = .ok (.aaload, 1))
    (kk : W p l e R s m args below meth c H locs 0 0 Q (F0 m (pc + 1) ls (.ref v :: rest))) : W p l e R s m args below meth c H locs 0 0 Q (F0 m pc ls (.int i :: .ref (ad r) :: rest)) := by
  have hlt : i.toNatClampNeg < n := Nat.not_le.mp fun q => hi (Or.inr q)
  have ha : (qa_wl N ad en g)[r]? = some (ad r, .inl (cA, n, .inr (.inr (.inr (.inr f))))) := by rw [qa_wl_get hr, he]
  refine W.aald (v := .ref v) (ty := ty) S.1 S.2.1 (hO.1 r _ ha) ((hK.2 t0 _ ht).1 n (fun j => va_rf (f j))) hty (fun q => by cases q) (by show ¬ (i < 0 ∨ (arrV _ _ _).slots.size ≤ _); rw [arrV_size]; exact hi) (by show (arrV _ _ _).slots[_]? = _; rw [arrV_read _ _ hlt, hv]; rfl) rfl rfl hd kk
theorem qa_alen (S : CallFix p m c cc nL s args Ts own) (hK : va_K D qa_cl tys s) (hO : qa_O D N ad en A H0 g H locs) (r : Nat) (hr : r < N) (t0 : Nat) {cA : ClassId} {n : Nat} {ty : FieldType} (he : ∀ w, en r w = .inl (cA, n, .inl w)) (ht : tys[t0]? = some (cA, ty)) {v : Int32} (hv : Int32.ofNat n = v) (hd : decode cc pc = .ok (.arraylength, 1))
    (kk : W p l e R s m args below meth c H locs 0 0 Q (F0 m (pc + 1) ls (.int v :: rest))) : W p l e R s m args below meth c H locs 0 0 Q (F0 m pc ls (.ref (ad r) :: rest)) :=
  va_alen S.1 S.2.1 hK hO.1 r t0 (by rw [qa_wl_get hr, he]) ht hv hd kk
theorem qa_blind {av : List Value} {D : va_G} {tys : List (ClassId × FieldType)} {sz : Nat} : FrameBlind (va_Pc av (qa_Pre D tys N ad en g sz)) := fun a U g1 mk q => by
  obtain ⟨q0, q1, qP, qK, qD, qN⟩ := q
  exact ⟨q0, q1, qP, va_K.moved (u := U) (U := U.calling g1 mk a) (Vm.Alike.refl U.vm) qK, qD, qN.same rfl⟩
theorem qa_pre (hK : va_K D qa_cl tys s) (hN : qa_N s) (hO : qa_O D N ad en A H0 g H locs) {U : State} (hU : U.heap = H) (hW : s.WarmedH U.vm) : qa_Pre D tys N ad en g H.size U :=
  ⟨by rw [hU], by rw [hU]; exact hO.1, va_K.moved hW.alike hK, hO.2.1.weaken (fun _ _ _ _ => trivial), hN.moved hW⟩
theorem qa_calli (hA : A = qa_A N ad H0.size) (hO : qa_O D N ad en A H0 g H locs) {T : Int32 × qa_St} {st0 : List Value} {a : Array Value} (hr : va_Run p l e R s m args below meth c H locs 0 0 0 0 (F0 m pc ls st0) rest (va_Qi (fun v u => (v, u) = T) (qa_Q D N ad en) (qa_A N ad H.size) a) (qa_A N ad H.size))
    (kk : ∀ (H : Heap) (locs : List Loc), qa_O D N ad en A H0 T.2 H locs → W p l e R s m args below meth c H locs 0 0 Q (F0 m (pc + 3) ls (.int T.1 :: rest))) : W p l e R s m args below meth c H locs 0 0 Q (F0 m pc ls st0) := by
  have hup : ∀ q, qa_A N ad H.size q → A q := by
    rw [hA]
    exact qa_A_up hO.2.2.1
  refine va_calli hr hO.2.2 (fun q _ h => hup q h) hup (fun r u t H1 locs1 ht _ hp hB _ _ hS => ?_)
  subst hp
  refine kk H1 locs1 ⟨?_, qa_D_any hO.2.1, hS⟩
  rw [← ht]
  exact hB
theorem qa_callv (hA : A = qa_A N ad H0.size) (hO : qa_O D N ad en A H0 g H locs) {T : Int32 × qa_St} {st0 : List Value} {a : Array Value} (hr : va_Run p l e R s m args below meth c H locs 0 0 0 0 (F0 m pc ls st0) rest (va_Qv (fun u => u = T.2) (qa_Q D N ad en) (qa_A N ad H.size) a) (qa_A N ad H.size))
    (kk : ∀ (H : Heap) (locs : List Loc), qa_O D N ad en A H0 T.2 H locs → W p l e R s m args below meth c H locs 0 0 Q (F0 m (pc + 3) ls rest)) : W p l e R s m args below meth c H locs 0 0 Q (F0 m pc ls st0) := by
  have hup : ∀ q, qa_A N ad H.size q → A q := by
    rw [hA]
    exact qa_A_up hO.2.2.1
  refine va_callv hr hO.2.2 (fun q _ h => hup q h) hup (fun u t H1 locs1 ht _ hp hB _ _ hS => ?_)
  subst hp
  refine kk H1 locs1 ⟨?_, qa_D_any hO.2.1, hS⟩
  rw [← ht]
  exact hB
end QA
abbrev qa_rm (f n : Nat) : Room := { frames := f, cells := 0, slots := 0, locals := n }
/-- what the tables say of a method that is called on an object; of one that is called without -/
def qa_yV (y : MethodName) (b : ByteArray) (maxL : Nat) (ret : Option FieldType) (n : Nat) : Prop :=
  (Cond.instanceMethod y ∈ qa_G ∧ Cond.selects y.cls y y ∈ qa_G ∧ Cond.initialized y.cls ∈ qa_G ∧ Cond.code y b maxL ret ∈ qa_G) ∧ (y.cls ≠ "java/lang/invoke/MethodHandle" ∧ y.cls ≠ "java/lang/invoke/VarHandle" ∧ (parseMethodDescriptor y.desc).map (fun d => d.parameters.length) = some n)
def qa_yS (y : MethodName) (b : ByteArray) (maxL : Nat) (ret : Option FieldType) (n : Nat) : Prop :=
  (Cond.static y ∈ qa_G ∧ Cond.initialized y.cls ∈ qa_G ∧ Cond.code y b maxL ret ∈ qa_G) ∧ (y.cls ≠ "java/lang/invoke/MethodHandle" ∧ y.cls ≠ "java/lang/invoke/VarHandle" ∧ (parseMethodDescriptor y.desc).map (fun d => d.parameters.length) = some n)
section QB
variable {p : Program} {l : Launch} {e : Env} {s : State} {m : MethodId} {args : Array Value} {below : List Frame} {meth : Method} {c : Code} {H : Heap} {locs : List Loc} {Q : State → Prop}
variable {cc : ByteArray} {pc nL N : Nat} {ls : Array Slot} {D : va_G} {A : Nat → Prop} {tys : List (ClassId × FieldType)} {ad : Nat → Nat} {en : Nat → (Nat → Int32) → va_E} {g : qa_St} {own : String} {c0 : Cond}
variable {y : MethodName} {bytes : ByteArray} {maxL n index F L F' L' : Nat} {ret : Option FieldType} {f : qa_Re} {T : Int32 × qa_St}
theorem qa_cwV (S : CallFix p m c cc nL s args (c0 :: qa_G) own) (hy : qa_yV y bytes maxL ret n) (hl : Cond.methodLink own index y ∈ qa_G) (hR : F + 1 ≤ F' ∧ 8 + (maxL + 11) + L ≤ L') : CallW (qa_rm F' L') s args own y.cls index y bytes maxL ret (qa_ws y bytes maxL ret) (qa_rm F L) 0 0 n := by
  obtain ⟨⟨h1, h2, h3, h4⟩, h5⟩ := hy
  refine cwV n S.2.2.2.2 ?_ rfl rfl rfl ⟨rfl, h5⟩ hR
  unfold wsV
  exact qa_goodA (List.forall_mem_cons.mpr ⟨hl, List.forall_mem_cons.mpr ⟨h1, List.forall_mem_cons.mpr ⟨h2, List.forall_mem_cons.mpr ⟨h3, fun _ h => by cases h⟩⟩⟩⟩) h4
theorem qa_cwS (S : CallFix p m c cc nL s args (c0 :: qa_G) own) (hy : qa_yS y bytes maxL ret n) (hl : Cond.methodLink own index y ∈ qa_G) (hR : F + 1 ≤ F' ∧ 8 + (maxL + 11) + L ≤ L') : CallB (qa_rm F' L') s args own index y bytes maxL ret (qa_ws y bytes maxL ret) (qa_rm F L) 0 0 n ∧ (Cond.static y).before args s = true := by
  obtain ⟨⟨h1, h3, h4⟩, h5⟩ := hy
  exact ⟨callB_of n S.2.2.2.2 (qa_good h4) rfl rfl rfl (S.2.2.2.2 _ (List.mem_cons_of_mem _ h3)) (S.2.2.2.2 _ (List.mem_cons_of_mem _ hl)) h5 hR, S.2.2.2.2 _ (List.mem_cons_of_mem _ h1)⟩
theorem qa_cwSN {host : String} (S : CallFix p m c cc nL s args (c0 :: qa_G) own) (hN : qa_N s) (hy : qa_yS y bytes maxL ret n) (hl : (own, index, y, host) ∈ qa_nw) (hR : F + 1 ≤ F' ∧ 8 + (maxL + 11) + L ≤ L') : va_CN (qa_rm F' L') s args own index y host bytes maxL ret (qa_ws y bytes maxL ret) (qa_rm F L) 0 0 n ∧ (Cond.static y).before args s = true ∧ True := by
  obtain ⟨⟨h1, h3, h4⟩, h5⟩ := hy
  exact ⟨va_cnB n S.2.2.2.2 (qa_good h4) rfl rfl rfl (hN _ hl) (S.2.2.2.2 _ (List.mem_cons_of_mem _ h3)) h5 hR, S.2.2.2.2 _ (List.mem_cons_of_mem _ h1), trivial⟩
theorem qa_Vi (S : CallFix p m c cc nL s args (c0 :: qa_G) own) (hK : va_K D qa_cl tys s) (hN : qa_N s) (hA : A = qa_A N ad s.heap.size) (hO : qa_O D N ad en A s.heap g H locs) {As rest st0 : List Value} {r : Nat} (hM : qa_Mi l y (qa_ws y bytes maxL ret) (qa_rm F L) D tys N ad en (.ref (ad r) :: As) g f) (hf : f = some T) (hy : qa_yV y bytes maxL ret n) (hl : Cond.methodLink own index y ∈ qa_G) (hR : F + 1 ≤ F' ∧ 8 + (maxL + 11) + L ≤ L') (hr : r < N) {ci : Nat} {fs : List Value} {q : vw_C} (he : en r (g r) = .inr (ci, fs)) (hc : qa_cl[ci]? = some q) (hq : q.1 = y.cls) (hn : As.length = n) (hls : ls.size = nL) (hst : st0 = As.reverse ++ .ref (ad r) :: rest) (hW : (rest.map fun v => v.category).sum ≤ 8) (hd : decode cc pc = .ok (.invokevirtual index, 3))
    (kk : ∀ (H : Heap) (locs : List Loc), qa_O D N ad en A s.heap T.2 H locs → W p l e (qa_rm F' L') s m args below meth c H locs 0 0 Q (F0 m (pc + 3) ls (.int T.1 :: rest))) : W p l e (qa_rm F' L') s m args below meth c H locs 0 0 Q (F0 m pc ls st0) :=
  qa_calli hA hO (va_runV (As := As) (rest := rest) (C := y.cls) S (hM T H.size hf) (qa_cwV S hy hl hR) ⟨qa_blind, by rw [← hq]; exact va_recv hK hO.1 hc (by rw [qa_wl_get hr, he]), fun U hU hW => ⟨rfl, qa_pre hK hN hO hU hW⟩⟩ rfl hn hls hst (lv_room hW) hd ⟨Nat.zero_le _, Nat.zero_le _⟩) kk
theorem qa_Vv (S : CallFix p m c cc nL s args (c0 :: qa_G) own) (hK : va_K D qa_cl tys s) (hN : qa_N s) (hA : A = qa_A N ad s.heap.size) (hO : qa_O D N ad en A s.heap g H locs) {As rest st0 : List Value} {r : Nat} (hM : qa_Mv l y (qa_ws y bytes maxL ret) (qa_rm F L) D tys N ad en (.ref (ad r) :: As) g f) (hf : f = some T) (hy : qa_yV y bytes maxL ret n) (hl : Cond.methodLink own index y ∈ qa_G) (hR : F + 1 ≤ F' ∧ 8 + (maxL + 11) + L ≤ L') (hr : r < N) {ci : Nat} {fs : List Value} {q : vw_C} (he : en r (g r) = .inr (ci, fs)) (hc : qa_cl[ci]? = some q) (hq : q.1 = y.cls) (hn : As.length = n) (hls : ls.size = nL) (hst : st0 = As.reverse ++ .ref (ad r) :: rest) (hW : (rest.map fun v => v.category).sum ≤ 8) (hd : decode cc pc = .ok (.invokevirtual index, 3))
    (kk : ∀ (H : Heap) (locs : List Loc), qa_O D N ad en A s.heap T.2 H locs → W p l e (qa_rm F' L') s m args below meth c H locs 0 0 Q (F0 m (pc + 3) ls rest)) : W p l e (qa_rm F' L') s m args below meth c H locs 0 0 Q (F0 m pc ls st0) :=
  qa_callv hA hO (va_runV (As := As) (rest := rest) (C := y.cls) S (hM T H.size hf) (qa_cwV S hy hl hR) ⟨qa_blind, by rw [← hq]; exact va_recv hK hO.1 hc (by rw [qa_wl_get hr, he]), fun U hU hW => ⟨rfl, qa_pre hK hN hO hU hW⟩⟩ rfl hn hls hst (lv_room hW) hd ⟨Nat.zero_le _, Nat.zero_le _⟩) kk
theorem qa_Si (S : CallFix p m c cc nL s args (c0 :: qa_G) own) (hK : va_K D qa_cl tys s) (hN : qa_N s) (hA : A = qa_A N ad s.heap.size) (hO : qa_O D N ad en A s.heap g H locs) {As rest st0 : List Value} (hM : qa_Mi l y (qa_ws y bytes maxL ret) (qa_rm F L) D tys N ad en As g f) (hf : f = some T) (hy : qa_yS y bytes maxL ret n) (hl : Cond.methodLink own index y ∈ qa_G) (hR : F + 1 ≤ F' ∧ 8 + (maxL + 11) + L ≤ L') (hn : As.length = n) (hls : ls.size = nL) (hst : st0 = As.reverse ++ rest) (hW : (rest.map fun v => v.category).sum ≤ 8) (hd : decode cc pc = .ok (.invokestatic index, 3))
    (kk : ∀ (H : Heap) (locs : List Loc), qa_O D N ad en A s.heap T.2 H locs → W p l e (qa_rm F' L') s m args below meth c H locs 0 0 Q (F0 m (pc + 3) ls (.int T.1 :: rest))) : W p l e (qa_rm F' L') s m args below meth c H locs 0 0 Q (F0 m pc ls st0) :=
  qa_calli hA hO (va_runS (As := As) (rest := rest) S (hM T H.size hf) (qa_cwS S hy hl hR) ⟨qa_blind, fun U hU hW => ⟨rfl, qa_pre hK hN hO hU hW⟩⟩ rfl hn hls hst (lv_room hW) hd ⟨Nat.zero_le _, Nat.zero_le _⟩) kk
theorem qa_Sv (S : CallFix p m c cc nL s args (c0 :: qa_G) own) (hK : va_K D qa_cl tys s) (hN : qa_N s) (hA : A = qa_A N ad s.heap.size) (hO : qa_O D N ad en A s.heap g H locs) {As rest st0 : List Value} (hM : qa_Mv l y (qa_ws y bytes maxL ret) (qa_rm F L) D tys N ad en As g f) (hf : f = some T) (hy : qa_yS y bytes maxL ret n) (hl : Cond.methodLink own index y ∈ qa_G) (hR : F + 1 ≤ F' ∧ 8 + (maxL + 11) + L ≤ L') (hn : As.length = n) (hls : ls.size = nL) (hst : st0 = As.reverse ++ rest) (hW : (rest.map fun v => v.category).sum ≤ 8) (hd : decode cc pc = .ok (.invokestatic index, 3))
    (kk : ∀ (H : Heap) (locs : List Loc), qa_O D N ad en A s.heap T.2 H locs → W p l e (qa_rm F' L') s m args below meth c H locs 0 0 Q (F0 m (pc + 3) ls rest)) : W p l e (qa_rm F' L') s m args below meth c H locs 0 0 Q (F0 m pc ls st0) :=
  qa_callv hA hO (va_runS (As := As) (rest := rest) S (hM T H.size hf) (qa_cwS S hy hl hR) ⟨qa_blind, fun U hU hW => ⟨rfl, qa_pre hK hN hO hU hW⟩⟩ rfl hn hls hst (lv_room hW) hd ⟨Nat.zero_le _, Nat.zero_le _⟩) kk
theorem qa_SNi {host : String} (S : CallFix p m c cc nL s args (c0 :: qa_G) own) (hK : va_K D qa_cl tys s) (hN : qa_N s) (hA : A = qa_A N ad s.heap.size) (hO : qa_O D N ad en A s.heap g H locs) {As rest st0 : List Value} (hM : qa_Mi l y (qa_ws y bytes maxL ret) (qa_rm F L) D tys N ad en As g f) (hf : f = some T) (hy : qa_yS y bytes maxL ret n) (hl : (own, index, y, host) ∈ qa_nw) (hR : F + 1 ≤ F' ∧ 8 + (maxL + 11) + L ≤ L') (hn : As.length = n) (hls : ls.size = nL) (hst : st0 = As.reverse ++ rest) (hW : (rest.map fun v => v.category).sum ≤ 8) (hd : decode cc pc = .ok (.invokestatic index, 3))
    (kk : ∀ (H : Heap) (locs : List Loc), qa_O D N ad en A s.heap T.2 H locs → W p l e (qa_rm F' L') s m args below meth c H locs 0 0 Q (F0 m (pc + 3) ls (.int T.1 :: rest))) : W p l e (qa_rm F' L') s m args below meth c H locs 0 0 Q (F0 m pc ls st0) :=
  qa_calli hA hO (va_runSN (As := As) (rest := rest) S (hM T H.size hf) (qa_cwSN S hN hy hl hR) ⟨qa_blind, fun U hU hW => ⟨rfl, qa_pre hK hN hO hU hW⟩⟩ rfl hn hls hst (lv_room hW) hd ⟨Nat.zero_le _, Nat.zero_le _⟩) kk
end QB
/-! a contract out of a walk -/
section QM
variable {l : Launch} {y : MethodName} {cc : ByteArray} {maxL F L N : Nat} {D : va_G} {tys : List (ClassId × FieldType)} {ad : Nat → Nat} {en : Nat → (Nat → Int32) → va_E} {g : qa_St} {av : List Value} {f : qa_Re}
theorem qa_meti (hy : plainName y.cls = true) (hav : (lg_sl av).length ≤ maxL)
    (body : ∀ (p : Program) (e : Env) (s : State) (m : MethodId) (args : Array Value) (below : List Frame) (meth : Method) (c : Code) (Q : State → Prop) (A : Nat → Prop) (T : Int32 × qa_St), CallFix p m c cc maxL s args (qa_ws y cc maxL (some .int)) y.cls → va_K D qa_cl tys s → qa_N s → A = qa_A N ad s.heap.size → f = some T →
      (∀ {v : Int32} {g : qa_St} {H : Heap} {locs : List Loc} {pc : Nat} {ls : Array Slot}, some (v, g) = some T → qa_O D N ad en A s.heap g H locs → decode cc pc = .ok (.ireturn, 1) → W p l e (qa_rm F L) s m args below meth c H locs 0 0 Q (F0 m pc ls [.int v])) →
      ∀ ls, lv_has ls maxL (lv_args 0 av) → qa_O D N ad en A s.heap g s.heap [] → W p l e (qa_rm F L) s m args below meth c s.heap [] 0 0 Q (F0 m 0 ls [])) :
    qa_Mi l y (qa_ws y cc maxL (some .int)) (qa_rm F L) D tys N ad en av g f := by
  intro T sz hT
  refine Met.ofW (cc := cc) (maxL := maxL) (ret := some .int) hy rfl ?_
  intro p e s m args below meth c s₁ B hml hv
  obtain ⟨rfl, hsz, hP, hK, hD0, hN⟩ := hv
  subst hsz
  have hlocks := B.notSynchronized
  have hl := lv_entry av (n := maxL) hav
  rw [lg_entry_eq]
  refine body p e s m av.toArray below meth c _ (qa_A N ad s.heap.size) T ⟨B.exec, B.bytes, hml, findClass_of_methodNamed B.named, atoms_spec (ws := qa_ws y cc maxL (some .int)) B.pre⟩ hK hN rfl hT ?_ _ hl ⟨hP, qa_D_A hD0, va_S.rf⟩
  intro v g1 H locs pc ls hv hO hd
  exact W.iret (v := v) B.exec B.bytes B.returns (fun t ht hW => ⟨⟨v, g1, rfl, Option.some.inj hv, by show va_P _ _ _ t.heap; rw [ht]; exact hO.1⟩, hO.2.2.F ht⟩) hO.2.2.2.2 hd
theorem qa_metz (hy : plainName y.cls = true) (hav : (lg_sl av).length ≤ maxL)
    (body : ∀ (p : Program) (e : Env) (s : State) (m : MethodId) (args : Array Value) (below : List Frame) (meth : Method) (c : Code) (Q : State → Prop) (A : Nat → Prop) (T : Int32 × qa_St), CallFix p m c cc maxL s args (qa_ws y cc maxL (some .boolean)) y.cls → va_K D qa_cl tys s → qa_N s → A = qa_A N ad s.heap.size → f = some T →
      (∀ {v : Int32} {g : qa_St} {H : Heap} {locs : List Loc} {pc : Nat} {ls : Array Slot}, (v = 0 ∨ v = 1) → some (v, g) = some T → qa_O D N ad en A s.heap g H locs → decode cc pc = .ok (.ireturn, 1) → W p l e (qa_rm F L) s m args below meth c H locs 0 0 Q (F0 m pc ls [.int v])) →
      ∀ ls, lv_has ls maxL (lv_args 0 av) → qa_O D N ad en A s.heap g s.heap [] → W p l e (qa_rm F L) s m args below meth c s.heap [] 0 0 Q (F0 m 0 ls [])) :
    qa_Mi l y (qa_ws y cc maxL (some .boolean)) (qa_rm F L) D tys N ad en av g f := by
  intro T sz hT
  refine Met.ofW (cc := cc) (maxL := maxL) (ret := some .boolean) hy rfl ?_
  intro p e s m args below meth c s₁ B hml hv
  obtain ⟨rfl, hsz, hP, hK, hD0, hN⟩ := hv
  subst hsz
  have hlocks := B.notSynchronized
  have hl := lv_entry av (n := maxL) hav
  rw [lg_entry_eq]
  refine body p e s m av.toArray below meth c _ (qa_A N ad s.heap.size) T ⟨B.exec, B.bytes, hml, findClass_of_methodNamed B.named, atoms_spec (ws := qa_ws y cc maxL (some .boolean)) B.pre⟩ hK hN rfl hT ?_ _ hl ⟨hP, qa_D_A hD0, va_S.rf⟩
  intro v g1 H locs pc ls h01 hv hO hd
  exact W.zret (v := v) (ty := .boolean) B.exec B.bytes B.returns (by rcases h01 with rfl | rfl <;> rfl) (fun t ht hW => ⟨⟨v, g1, rfl, Option.some.inj hv, by show va_P _ _ _ t.heap; rw [ht]; exact hO.1⟩, hO.2.2.F ht⟩) hO.2.2.2.2 hd
theorem qa_metv (hy : plainName y.cls = true) (hav : (lg_sl av).length ≤ maxL)
    (body : ∀ (p : Program) (e : Env) (s : State) (m : MethodId) (args : Array Value) (below : List Frame) (meth : Method) (c : Code) (Q : State → Prop) (A : Nat → Prop) (T : Int32 × qa_St), CallFix p m c cc maxL s args (qa_ws y cc maxL none) y.cls → va_K D qa_cl tys s → qa_N s → A = qa_A N ad s.heap.size → f = some T →
      (∀ {v : Int32} {g : qa_St} {H : Heap} {locs : List Loc} {pc : Nat} {ls : Array Slot}, some (v, g) = some T → qa_O D N ad en A s.heap g H locs → decode cc pc = .ok (.return_, 1) → W p l e (qa_rm F L) s m args below meth c H locs 0 0 Q (F0 m pc ls [])) →
      ∀ ls, lv_has ls maxL (lv_args 0 av) → qa_O D N ad en A s.heap g s.heap [] → W p l e (qa_rm F L) s m args below meth c s.heap [] 0 0 Q (F0 m 0 ls [])) :
    qa_Mv l y (qa_ws y cc maxL none) (qa_rm F L) D tys N ad en av g f := by
  intro T sz hT
  refine Met.ofW (cc := cc) (maxL := maxL) (ret := none) hy rfl ?_
  intro p e s m args below meth c s₁ B hml hv
  obtain ⟨rfl, hsz, hP, hK, hD0, hN⟩ := hv
  subst hsz
  have hlocks := B.notSynchronized
  have hl := lv_entry av (n := maxL) hav
  rw [lg_entry_eq]
  refine body p e s m av.toArray below meth c _ (qa_A N ad s.heap.size) T ⟨B.exec, B.bytes, hml, findClass_of_methodNamed B.named, atoms_spec (ws := qa_ws y cc maxL none) B.pre⟩ hK hN rfl hT ?_ _ hl ⟨hP, qa_D_A hD0, va_S.rf⟩
  intro v g1 H locs pc ls hv hO hd
  exact W.vret B.exec B.bytes B.returns (fun t ht hW => ⟨⟨g1, rfl, congrArg Prod.snd (Option.some.inj hv), by show va_P _ _ _ t.heap; rw [ht]; exact hO.1⟩, hO.2.2.F ht⟩) hO.2.2.2.2 hd
end QM
