/-! Constructors: worlds that grow -/
def qn_AOA (U : State) : Prop := (Cond.arrayOver (.array .int)).before #[] U = true
theorem qn_AOA.moved {u U : State} (hvm : u.vm.Alike U.vm) (h : qn_AOA u) : qn_AOA U := by
  obtain ⟨comp, c, k, h1, h2, h3, h4, h5⟩ := arrayOverA_spec h
  obtain ⟨k', hk', he⟩ := hvm.2.2 _ _ h3
  have hi := (hvm.findIdx?_eq _ (fun _ => rfl)).trans h2
  have hkind : k'.kind = .array comp (.array .int) := by rw [he]; exact h4
  have f1 : U.vm.findClass (FieldType.array .int).toString = some comp := by rw [hvm.findClass]; exact h1
  have f2 : U.vm.findClass ("[" ++ (FieldType.array .int).toString) = some c := by rw [hvm.findClass]; exact h5
  unfold qn_AOA Cond.before Cond.holds
  simp only [Cond.value]
  rw [f1, Option.bind_some]
  refine (congrArg (fun o : Option Nat => (o.bind (fun c => (U.vm.classes[c]?).map fun (k : Class) => match k.kind with | .array _ ty => decide (ty = FieldType.array .int) && decide (U.vm.findClass ("[" ++ (FieldType.array .int).toString) = some c) | _ => false) == some true)) hi).trans ?_
  simp [hk', hkind, f2]
def qn_E (U : State) : Prop := qa_N U ∧ va_AO "ClosedWorld$Frame" U ∧ qn_AOA U
theorem qn_E.moved {s U : State} (h : qn_E s) (hW : s.WarmedH U.vm) : qn_E U := ⟨h.1.moved hW, h.2.1.moved hW.alike, h.2.2.moved hW.alike⟩
theorem qn_E.same {u U : State} (h : qn_E u) (e : u.vm = U.vm) : qn_E U := ⟨h.1.same e, h.2.1.moved (by rw [e]; exact Vm.Alike.refl _), h.2.2.moved (by rw [e]; exact Vm.Alike.refl _)⟩
def qn_Pre (D : va_G) (tys : List (ClassId × FieldType)) (ws : va_W) (sz : Nat) : State → Prop := fun U => U.heap.size = sz ∧ va_P D qa_cl ws U.heap ∧ va_K D qa_cl tys U ∧ va_D (fun _ => True) ws ∧ qn_E U
def qn_w (a n : Nat) (ad : Nat → Nat) (en : Nat → (Nat → Int32) → va_E) : va_W := (List.range n).map fun k => (ad (a + k), en (a + k) (fun _ => 0))
def qn_mn (cI cJ : ClassId) (q : Nat) (r : Nat → Nat) (n k : Nat) : va_W := (q, .inl (cJ, n, .inr (.inr (.inr (.inr (fun i => some (r i))))))) :: (List.range n).map fun i => (r i, .inl (cI, k, .inl (fun _ => 0)))
def qn_fr (cI : ClassId) (u : Nat → Nat) : va_W := [(u 0, .inr (5, [.ref (u 1), .int 0, .int 0])), (u 1, .inl (cI, 10, .inl (fun _ => 0)))]
theorem qn_i {D : va_G} {cl : List vw_C} {H : Heap} {o : Option (Nat × va_E)} {x y : Nat × va_E} (hx : o = some x) (e : o = some y) (h : va_at D cl y H) : va_at D cl x H := by
  rw [e] at hx
  cases hx
  exact h
theorem qn_arrV {cA : ClassId} {n : Nat} {f f' : Nat → Value} (h : ∀ i, i < n → f i = f' i) : arrV cA n f = arrV cA n f' := by
  unfold arrV
  congr 1
  apply Array.ext
  · simp
  · intro i h1 h2
    simp only [Array.getElem_ofFn]
    exact h i (by simpa using h1)
theorem qn_outer (c : ClassId) (N h0 : Nat) : ∀ i : Nat, Jvm.Free.Multi.outerC c N h0 i = arrV c N (fun j => va_rf (if j < i then some (h0 + 1 + j) else none))
  | 0 => by
    show ({ cls := c, slots := Array.replicate N .null, vm := .none } : Cell) = _
    rw [arrV_new]
    exact qn_arrV (fun j _ => by simp [va_rf])
  | i + 1 => by
    show (Jvm.Free.Multi.outerC c N h0 i).setSlot i (.ref (h0 + 1 + i)) = _
    rw [qn_outer c N h0 i, arrV_store]
    refine qn_arrV (fun j _ => ?_)
    by_cases e : j = i
    · subst e
      simp [updV, va_rf]
    · by_cases h : j < i
      · simp [updV, e, h, Nat.lt_succ_of_lt h]
      · simp [updV, e, h, show ¬ j < i + 1 by omega]
theorem qn_ext {D : va_G} {cl : List vw_C} {H : Heap} {a : Nat} {cA : ClassId} {n : Nat} {f f' : Nat → Option Nat} (h : va_at D cl (a, .inl (cA, n, .inr (.inr (.inr (.inr f))))) H) (he : ∀ i, i < n → f i = f' i) : va_at D cl (a, .inl (cA, n, .inr (.inr (.inr (.inr f'))))) H := by
  show H[a]? = some (vp_cell cA (n, .inr (.inr (.inr (.inr f')))))
  have h1 : H[a]? = some (vp_cell cA (n, .inr (.inr (.inr (.inr f))))) := h
  rw [h1]
  congr 1
  rw [vp_cell_q, vp_cell_q]
  exact qn_arrV (fun i hi => by rw [he i hi])
theorem qn_D {A : Nat → Prop} {ws ws' : va_W} (h : va_D A ws) (e : ws.map (fun x => x.1) = ws'.map (fun x => x.1)) : va_D A ws' := by
  have key : ∀ (k : Nat) (q : Nat × va_E), ws'[k]? = some q → ∃ q0, ws[k]? = some q0 ∧ q0.1 = q.1 := by
    intro k q hk
    have h1 : (ws'.map (fun x => x.1))[k]? = some q.1 := by rw [List.getElem?_map, hk]; rfl
    rw [← e, List.getElem?_map] at h1
    cases hw : ws[k]? with
    | none => rw [hw] at h1; cases h1
    | some q0 => rw [hw] at h1; exact ⟨q0, rfl, Option.some.inj h1⟩
  refine ⟨fun i j x y hi hj hxy => ?_, fun k q hk => ?_⟩
  · obtain ⟨x0, h1, h2⟩ := key i x hi
    obtain ⟨y0, h3, h4⟩ := key j y hj
    exact h.1 i j x0 y0 h1 h3 (h2.trans (hxy.trans h4.symm))
  · obtain ⟨q0, h1, h2⟩ := key k q hk
    rw [← h2]
    exact h.2 k q0 h1
section QN
variable {p : Program} {l : Launch} {e : Env} {R : Room} {s : State} {m : MethodId} {args : Array Value} {below : List Frame} {meth : Method} {c : Code} {H : Heap} {locs : List Loc} {Q : State → Prop} {cells slots : Nat}
variable {cc : ByteArray} {pc nL : Nat} {ls : Array Slot} {rest : List Value} {D : va_G} {A : Nat → Prop} {H0 : Heap} {own : String} {c0 : Cond} {cI cJ cF cZ : ClassId} {ws : va_W}
theorem qn_cI {cA : ClassId} (h : va_K D qa_cl (qa_ty cI cJ cF cZ ++ [(cA, .int)]) s) : cA = cI := by
  have h0 : s.vm.findClass ("[" ++ FieldType.int.toString) = some cI := (h.2 0 (cI, .int) rfl).2
  have h4 : s.vm.findClass ("[" ++ FieldType.int.toString) = some cA := (h.2 4 (cA, .int) rfl).2
  exact Option.some.inj (h4.symm.trans h0)
theorem qn_cZ {cA : ClassId} (h : va_K D qa_cl (qa_ty cI cJ cF cZ ++ [(cA, .boolean)]) s) : cA = cZ := by
  have h0 : s.vm.findClass ("[" ++ FieldType.boolean.toString) = some cZ := (h.2 3 (cZ, .boolean) rfl).2
  have h4 : s.vm.findClass ("[" ++ FieldType.boolean.toString) = some cA := (h.2 4 (cA, .boolean) rfl).2
  exact Option.some.inj (h4.symm.trans h0)
theorem qn_cF {cA : ClassId} (h : va_K D qa_cl (qa_ty cI cJ cF cZ ++ [(cA, .object "ClosedWorld$Frame")]) s) : cA = cF := by
  obtain ⟨_, _, _, _, _, h0⟩ := (h.2 2 (cF, .object "ClosedWorld$Frame") rfl).2
  obtain ⟨_, _, _, _, _, h4⟩ := (h.2 4 (cA, .object "ClosedWorld$Frame") rfl).2
  exact Option.some.inj (h4.symm.trans h0)
theorem qn_obj (S : CallFix p m c cc nL s args (c0 :: qa_G) own) {idx : Nat} (hl : Cond.methodLink own idx y_Ob_init ∈ qa_G) (hi : Cond.instanceMethod y_Ob_init ∈ qa_G) (hc : Cond.code y_Ob_init b_Ob_init 1 none ∈ qa_G) (hls : ls.size = nL) {a : Nat} (hd : decode cc pc = .ok (.invokespecial idx, 3)) (hf : 1 ≤ R.frames) (hlo : (rest.map fun v => v.category).sum + 12 ≤ R.locals)
    (kk : W p l e R s m args below meth c H locs cells slots Q (F0 m (pc + 3) ls rest)) : W p l e R s m args below meth c H locs cells slots Q (F0 m pc ls (.ref a :: rest)) :=
  W.objInit S.1 S.2.1 S.2.2.2.1 (S.2.2.2.2 _ (List.mem_cons_of_mem _ hl)) (S.2.2.2.2 _ (List.mem_cons_of_mem _ hi)) (S.2.2.2.2 _ (List.mem_cons_of_mem _ hc)) rfl (hls.trans S.2.2.1.symm) rfl hd hf (by show 2 * 0 + _ + 12 ≤ _; omega) kk
theorem qn_newi (S : CallFix p m c cc nL s args (c0 :: qa_G) own) (harr : Cond.arrayClass .int ∈ qa_G) (hK : va_K D qa_cl (qa_ty cI cJ cF cZ) s) (hP : va_P D qa_cl ws H) (hD : va_D A ws) (hS : va_S A H0 H locs) (hA : ∀ q, H0.size ≤ q → A q) {n : Int32} {N' : Nat} (hn : ¬ n < 0) (hN : n.toNatClampNeg = N') (hb : N' * 4 ≤ 536870912) (hcells : cells + 1 ≤ R.cells) (hslots : slots + N' ≤ R.slots) (hd : decode cc pc = .ok (.newarray .int, 2))
    (kk : ∀ (q : Nat) (H1 : Heap), va_P D qa_cl (ws ++ [(q, .inl (cI, N', .inl (fun _ => 0)))]) H1 → va_D A (ws ++ [(q, .inl (cI, N', .inl (fun _ => 0)))]) → va_S A H0 H1 locs → W p l e R s m args below meth c H1 locs (cells + 1) (slots + N') Q (F0 m (pc + 2) ls (.ref q :: rest))) : W p l e R s m args below meth c H locs cells slots Q (F0 m pc ls (.int n :: rest)) :=
  va_newa (atype := .int) (ty := .int) (a0 := (N', .inl (fun _ => 0))) S.1 S.2.1 (S.2.2.2.2 _ (List.mem_cons_of_mem _ harr)) rfl hK hP hD hS hA (fun _ => rfl) hn hN hb hcells hslots hd (fun q cA H1 hK1 hP1 hD1 hS1 => by
    have := qn_cI hK1
    subst this
    exact kk q H1 hP1 hD1 hS1)
theorem qn_newz (S : CallFix p m c cc nL s args (c0 :: qa_G) own) (harr : Cond.arrayClass .boolean ∈ qa_G) (hK : va_K D qa_cl (qa_ty cI cJ cF cZ) s) (hP : va_P D qa_cl ws H) (hD : va_D A ws) (hS : va_S A H0 H locs) (hA : ∀ q, H0.size ≤ q → A q) {n : Int32} {N' : Nat} (hn : ¬ n < 0) (hN : n.toNatClampNeg = N') (hb : N' * componentBytes .boolean ≤ 536870912) (hcells : cells + 1 ≤ R.cells) (hslots : slots + N' ≤ R.slots) (hd : decode cc pc = .ok (.newarray .boolean, 2))
    (kk : ∀ (q : Nat) (H1 : Heap), va_P D qa_cl (ws ++ [(q, .inl (cZ, N', .inl (fun _ => 0)))]) H1 → va_D A (ws ++ [(q, .inl (cZ, N', .inl (fun _ => 0)))]) → va_S A H0 H1 locs → W p l e R s m args below meth c H1 locs (cells + 1) (slots + N') Q (F0 m (pc + 2) ls (.ref q :: rest))) : W p l e R s m args below meth c H locs cells slots Q (F0 m pc ls (.int n :: rest)) :=
  va_newa (atype := .boolean) (ty := .boolean) (a0 := (N', .inl (fun _ => 0))) S.1 S.2.1 (S.2.2.2.2 _ (List.mem_cons_of_mem _ harr)) rfl hK hP hD hS hA (fun _ => rfl) hn hN hb hcells hslots hd (fun q cA H1 hK1 hP1 hD1 hS1 => by
    have := qn_cZ hK1
    subst this
    exact kk q H1 hP1 hD1 hS1)
theorem qn_newf (S : CallFix p m c cc nL s args (c0 :: qa_G) own) {index : Nat} (hlk : Cond.classLink own index "ClosedWorld$Frame" ∈ qa_G) (hE : qn_E s) (hK : va_K D qa_cl (qa_ty cI cJ cF cZ) s) (hP : va_P D qa_cl ws H) (hD : va_D A ws) (hS : va_S A H0 H locs) (hA : ∀ q, H0.size ≤ q → A q) {n : Int32} {N' : Nat} (hn : ¬ n < 0) (hN : n.toNatClampNeg = N') (hb : N' * 4 ≤ 536870912) (hcells : cells + 1 ≤ R.cells) (hslots : slots + N' ≤ R.slots) (hd : decode cc pc = .ok (.anewarray index, 3))
    (kk : ∀ (q : Nat) (H1 : Heap), va_P D qa_cl (ws ++ [(q, .inl (cF, N', .inr (.inr (.inr (.inr (fun _ => none))))))]) H1 → va_D A (ws ++ [(q, .inl (cF, N', .inr (.inr (.inr (.inr (fun _ => none))))))]) → va_S A H0 H1 locs → W p l e R s m args below meth c H1 locs (cells + 1) (slots + N') Q (F0 m (pc + 3) ls (.ref q :: rest))) : W p l e R s m args below meth c H locs cells slots Q (F0 m pc ls (.int n :: rest)) :=
  va_newq S.1 S.2.1 S.2.2.2.1 (S.2.2.2.2 _ (List.mem_cons_of_mem _ hlk)) hE.2.1 hK hP hD hS hA hn hN hb hcells hslots hd (fun q cA H1 hK1 hP1 hD1 hS1 => by
    have := qn_cF hK1
    subst this
    exact kk q H1 hP1 hD1 hS1)
theorem qn_putF (S : CallFix p m c cc nL s args (c0 :: qa_G) own) (hnm0 : meth.name = "<init>") (hK : va_K D qa_cl (qa_ty cI cJ cF cZ) s) (hP : va_P D qa_cl ws H) (hD : va_D A ws) (hS : va_S A H0 H locs) {ref C : String} {F : u_T} {n ci index : Nat} (hin : ∀ w ∈ u_ws C F n, w ∈ qa_G) (ty0 : Nat → FieldType) (hty : ∀ k, k < n → parseFieldDescriptor (F k).2.2.1 = some (ty0 k)) (hnm : ∀ a, a < n → ∀ b, b < n → a ≠ b → (F a).2.1 ≠ (F b).2.1) {a : Nat} {fs : List Value} (he : ws[0]? = some (a, .inr (ci, fs))) (hc : qa_cl[ci]? = some (C, F, n)) (k : Nat) (hk : k < n) (hlink : Cond.fieldLink own index ref (F k).2.1 (F k).2.2.1 ∈ qa_G) (href : ref = (F k).1) (hfin : (F k).2.2.2 = true) (hdecl : (F k).1 = own) {ty : FieldType} {v : Nat} (hpd : parseFieldDescriptor (F k).2.2.1 = some ty) (hn : narrow ty (.ref v) = .ref v) (hfit : fits ty (.ref v) = true) (hl : k < fs.length) (hd : decode cc pc = .ok (.putfield index, 3))
    (kk : ∀ (H1 : Heap) (locs1 : List Loc), va_P D qa_cl (ws.set 0 (a, .inr (ci, fs.set k (.ref v)))) H1 → va_D A (ws.set 0 (a, .inr (ci, fs.set k (.ref v)))) → va_S A H0 H1 locs1 → W p l e R s m args below meth c H1 locs1 cells slots Q (F0 m (pc + 3) ls rest)) : W p l e R s m args below meth c H locs cells slots Q (F0 m pc ls (.ref v :: .ref a :: rest)) :=
  va_putF S.1 S.2.1 S.2.2.2.2 (fun w h => List.mem_cons_of_mem _ (hin w h)) ty0 hty hnm S.2.2.2.1 hK hP hD hS 0 he hc k hk (S.2.2.2.2 _ (List.mem_cons_of_mem _ hlink)) (fun x h => by rw [href]; exact h) hfin hnm0 hdecl hpd hn hfit hl hd kk
theorem qn_putI (S : CallFix p m c cc nL s args (c0 :: qa_G) own) (hK : va_K D qa_cl (qa_ty cI cJ cF cZ) s) (hP : va_P D qa_cl ws H) (hD : va_D A ws) (hS : va_S A H0 H locs) {ref C : String} {F : u_T} {n ci index : Nat} (hin : ∀ w ∈ u_ws C F n, w ∈ qa_G) (ty0 : Nat → FieldType) (hty : ∀ k, k < n → parseFieldDescriptor (F k).2.2.1 = some (ty0 k)) (hnm : ∀ a, a < n → ∀ b, b < n → a ≠ b → (F a).2.1 ≠ (F b).2.1) {a : Nat} {fs : List Value} (he : ws[0]? = some (a, .inr (ci, fs))) (hc : qa_cl[ci]? = some (C, F, n)) (k : Nat) (hk : k < n) (hlink : Cond.fieldLink own index ref (F k).2.1 (F k).2.2.1 ∈ qa_G) (href : ref = (F k).1) (hfin : (F k).2.2.2 = false) {ty : FieldType} {v : Value} (hpd : parseFieldDescriptor (F k).2.2.1 = some ty) (hn : narrow ty v = v) (hfit : fits ty v = true) (hl : k < fs.length) (hd : decode cc pc = .ok (.putfield index, 3))
    (kk : ∀ (H1 : Heap) (locs1 : List Loc), va_P D qa_cl (ws.set 0 (a, .inr (ci, fs.set k v))) H1 → va_D A (ws.set 0 (a, .inr (ci, fs.set k v))) → va_S A H0 H1 locs1 → W p l e R s m args below meth c H1 locs1 cells slots Q (F0 m (pc + 3) ls rest)) : W p l e R s m args below meth c H locs cells slots Q (F0 m pc ls (v :: .ref a :: rest)) :=
  va_put S.1 S.2.1 S.2.2.2.2 (fun w h => List.mem_cons_of_mem _ (hin w h)) ty0 hty hnm S.2.2.2.1 hK hP hD hS 0 he hc k hk (S.2.2.2.2 _ (List.mem_cons_of_mem _ hlink)) (fun x h => by rw [href]; exact h) hfin hpd hn hfit hl hd kk
theorem qn_new {Ts : List Cond} (S : CallFix p m c cc nL s args Ts own) (hG : ∀ w ∈ qa_G, w ∈ Ts) (hK : va_K D qa_cl (qa_ty cI cJ cF cZ) s) (hP : va_P D qa_cl ws H) (hD : va_D A ws) (hS : va_S A H0 H locs) (hA : ∀ q, H0.size ≤ q → A q) {C : String} {F : u_T} {n ci index : Nat} (hin : ∀ w ∈ u_ws C F n, w ∈ qa_G) (ty0 : Nat → FieldType) (hty : ∀ k, k < n → parseFieldDescriptor (F k).2.2.1 = some (ty0 k)) (hlk : Cond.classLink own index C ∈ qa_G) (hinst : Cond.instantiable C n ∈ qa_G) (hini : Cond.initialized C ∈ qa_G) (hc : qa_cl[ci]? = some (C, F, n)) {fs : List Value} (hfs : ∀ j, j < n → defaultValue (ty0 j) = vp_V fs j) (hcells : cells + 1 ≤ R.cells) (hslots : slots + n ≤ R.slots) (hd : decode cc pc = .ok (.new index, 3))
    (kk : ∀ (q : Nat) (H1 : Heap), va_P D qa_cl (ws ++ [(q, .inr (ci, fs))]) H1 → va_D A (ws ++ [(q, .inr (ci, fs))]) → va_S A H0 H1 locs → W p l e R s m args below meth c H1 locs (cells + 1) (slots + n) Q (F0 m (pc + 3) ls (.ref q :: rest))) : W p l e R s m args below meth c H locs cells slots Q (F0 m pc ls rest) :=
  va_new S.1 S.2.1 S.2.2.2.2 (fun w h => hG w (hin w h)) ty0 hty S.2.2.2.1 (S.2.2.2.2 _ (hG _ hlk)) (S.2.2.2.2 _ (hG _ hinst)) (S.2.2.2.2 _ (hG _ hini)) hK hP hD hS hA hc hfs hcells hslots hd kk
theorem qn_callv {q : Nat} {x : va_E} {post : (Nat → Nat) → Prop} {wf : (Nat → Nat) → va_W} {mc ms : Nat} {st0 : List Value} {a : Array Value} (hP : va_P D qa_cl (ws ++ [(q, x)]) H) (hD : va_D A (ws ++ [(q, x)])) (hS : va_S A H0 H locs) (hA : ∀ q, H0.size ≤ q → A q) (hr : va_Run p l e R s m args below meth c H locs cells slots mc ms (F0 m pc ls st0) rest (va_Qv post (fun u t => va_P D qa_cl (wf u) t.heap ∧ va_D (va_A [(q, x)] H.size) (wf u)) (va_A [(q, x)] H.size) a) (va_A [(q, x)] H.size))
    (kk : ∀ (u : Nat → Nat) (H : Heap) (locs : List Loc), post u → va_P D qa_cl (ws ++ wf u) H → va_D A (ws ++ wf u) → va_S A H0 H locs → W p l e R s m args below meth c H locs (cells + mc) (slots + ms) Q (F0 m (pc + 3) ls rest)) : W p l e R s m args below meth c H locs cells slots Q (F0 m pc ls st0) := by
  have hlen : (ws ++ [(q, x)])[ws.length]? = some (q, x) := by simp
  have hAq : ∀ z, va_A [(q, x)] H.size z → z = q ∨ H.size ≤ z := fun z hz => by
    rcases hz with ⟨k, e, hk⟩ | h
    · have h0 : k < 1 := (List.getElem?_eq_some_iff.mp hk).1
      rw [show k = 0 by omega] at hk
      cases hk
      exact Or.inl rfl
    · exact Or.inr h
  have hup : ∀ z, va_A [(q, x)] H.size z → A z := fun z hz => by
    rcases hAq z hz with rfl | h
    · exact hD.2 _ _ hlen
    · exact hA z (Nat.le_trans hS.1 h)
  have hin : ∀ (k : Nat) (y : Nat × va_E), ws[k]? = some y → (ws ++ [(q, x)])[k]? = some y := fun k y hk => by
    rw [List.getElem?_append_left (List.getElem?_eq_some_iff.mp hk).1]
    exact hk
  have hno : ∀ (k : Nat) (y : Nat × va_E), ws[k]? = some y → ¬ va_A [(q, x)] H.size y.1 := fun k y hk hz => by
    have hlt : k < ws.length := (List.getElem?_eq_some_iff.mp hk).1
    rcases hAq _ hz with h | h
    · have := hD.1 k ws.length y (q, x) (hin k y hk) hlen h
      omega
    · exact absurd h (Nat.not_le.mpr (hP k y (hin k y hk)).lt)
  refine va_callv hr hS (fun z _ h => hup z h) hup (fun u t H1 locs1 ht _ hp hB _ hk1 hS1 => ?_)
  refine kk u H1 locs1 hp ?_ ?_ hS1
  · have h1 : va_P D qa_cl ws H1 := fun k y hk => (hP k y (hin k y hk)).kept (hk1 y.1 (hP k y (hin k y hk)).lt (hno k y hk))
    exact h1.app (by rw [← ht]; exact hB.1)
  · refine va_D.app ⟨fun i j y z hi hj => hD.1 i j y z (hin i y hi) (hin j z hj), fun k y hk => hD.2 k y (hin k y hk)⟩ (hB.2.weaken (fun _ _ _ h => hup _ h)) (fun i j y z hi hj hyz => ?_)
    exact hno i y hi (by rw [hyz]; exact hB.2.2 j z hj)
theorem qn_blind {av : List Value} {tys : List (ClassId × FieldType)} {sz : Nat} : FrameBlind (va_Pc av (qn_Pre D tys ws sz)) := fun a U g1 mk q => by
  obtain ⟨q0, q1, qP, qK, qD, qN⟩ := q
  exact ⟨q0, q1, qP, va_K.moved (u := U) (U := U.calling g1 mk a) (Vm.Alike.refl U.vm) qK, qD, qN.same rfl⟩
theorem qn_pre {q : Nat} {x : va_E} {tys : List (ClassId × FieldType)} (hK : va_K D qa_cl tys s) (hE : qn_E s) (hP : va_P D qa_cl (ws ++ [(q, x)]) H) {U : State} (hU : U.heap = H) (hW : s.WarmedH U.vm) : qn_Pre D tys [(q, x)] H.size U := by
  have hlen : (ws ++ [(q, x)])[ws.length]? = some (q, x) := by simp
  refine ⟨by rw [hU], ?_, va_K.moved hW.alike hK, ⟨fun i j y z hi hj _ => ?_, fun _ _ _ => trivial⟩, hE.moved hW⟩
  · intro k y hk
    have h0 : k < 1 := (List.getElem?_eq_some_iff.mp hk).1
    rw [show k = 0 by omega] at hk
    cases hk
    rw [hU]
    exact hP _ _ hlen
  · have h1 : i < 1 := (List.getElem?_eq_some_iff.mp hi).1
    have h2 : j < 1 := (List.getElem?_eq_some_iff.mp hj).1
    omega
theorem qn_mna (S : CallFix p m c cc nL s args (c0 :: qa_G) own) {index : Nat} (hlk : Cond.classLink own index "[[I" ∈ qa_G) (harr : Cond.arrayClass .int ∈ qa_G) (hE : qn_E s) (hK : va_K D qa_cl (qa_ty cI cJ cF cZ) s) (hP : va_P D qa_cl ws H) (hD : va_D A ws) (hS : va_S A H0 H locs) (hA : ∀ q, H0.size ≤ q → A q) {n k : Int32} {N' K' : Nat} (hn : ¬ n < 0) (hk : ¬ k < 0) (hN : n.toNatClampNeg = N') (hM : k.toNatClampNeg = K') (hb1 : N' * 4 ≤ 536870912) (hb2 : K' * 4 ≤ 536870912) (hcells : cells + (1 + N') ≤ R.cells) (hslots : slots + (N' + N' * K') ≤ R.slots) (hd : decode cc pc = .ok (.multianewarray index 2, 4))
    (kk : ∀ (q : Nat) (r : Nat → Nat) (H1 : Heap), va_P D qa_cl (ws ++ qn_mn cI cJ q r N' K') H1 → va_D A (ws ++ qn_mn cI cJ q r N' K') → va_S A H0 H1 locs → W p l e R s m args below meth c H1 locs (cells + 1 + N') (slots + N' + N' * K') Q (F0 m (pc + 4) ls (.ref q :: rest))) : W p l e R s m args below meth c H locs cells slots Q (F0 m pc ls (.int k :: .int n :: rest)) := by
  subst hN
  subst hM
  intro T hT Xs
  have hclink : (Cond.classLink own index ("[" ++ (FieldType.array .int).toString)).before args s = true := S.2.2.2.2 _ (List.mem_cons_of_mem _ hlk)
  obtain ⟨vm₁, cA, comp, -, fA, fC, hO, -, X', step⟩ := Xs.multianewarray2F S.1 S.2.2.2.1 hclink (ty := .int) hE.2.2 (S.2.2.2.2 _ (List.mem_cons_of_mem _ harr)) (g := F0 m pc ls (.int k :: .int n :: rest)) rfl (by rw [S.2.1]; exact hd) rfl hn hk hb1 hb2 (by omega) rfl rfl hcells hslots
  have e1 : s.vm.findClass ("[" ++ (FieldType.array .int).toString) = some cJ := (hK.2 1 (cJ, .array .int) rfl).2
  have e2 : s.vm.findClass ("[" ++ FieldType.int.toString) = some cI := (hK.2 0 (cI, .int) rfl).2
  have ec : cA = cJ := Option.some.inj (fA.symm.trans e1)
  have ed : comp = cI := Option.some.inj (fC.symm.trans e2)
  subst ec
  subst ed
  generalize hF : Jvm.Free.Multi.fill (T.setVm vm₁) cA comp n.toNatClampNeg k.toNatClampNeg (defaultValue .int) n.toNatClampNeg = F at X' step
  have hTh : (T.setVm vm₁).heap = H := hT
  obtain ⟨f1, f2, -, -⟩ := Jvm.Free.Multi.fill_facts (T.setVm vm₁) cA comp n.toNatClampNeg k.toNatClampNeg (defaultValue .int) n.toNatClampNeg
  rw [hF, hTh] at f1 f2
  have hold : ∀ x : Nat, x < H.size → F.heap[x]? = H[x]? := fun x hx => by
    have := Jvm.Free.Multi.fill_old (T.setVm vm₁) cA comp n.toNatClampNeg k.toNatClampNeg (defaultValue .int) (a := x) (by rw [hTh]; exact hx) n.toNatClampNeg
    rw [hF, hTh] at this
    exact this
  have hrow : ∀ j : Nat, j < n.toNatClampNeg → F.heap[H.size + 1 + j]? = some (vp_cell comp (k.toNatClampNeg, .inl (fun _ => 0))) := fun j hj => by
    have := Jvm.Free.Multi.fill_inner (T.setVm vm₁) cA comp n.toNatClampNeg k.toNatClampNeg (defaultValue .int) n.toNatClampNeg j hj
    rw [hF, hTh] at this
    rw [this]
    congr 1
    exact arrV_new _ _ _
  have hout : F.heap[H.size]? = some (vp_cell cA (n.toNatClampNeg, .inr (.inr (.inr (.inr (fun i => some (H.size + 1 + i))))))) := by
    rw [f2]
    congr 1
    rw [vp_cell_q]
    rw [qn_outer]
    exact qn_arrV (fun i hi => by rw [if_pos hi])
  have hP0 : va_P D qa_cl ws F.heap := hP.kept (fun k9 x hx => hold x.1 ((hP k9 x hx).lt))
  have hget : ∀ (k9 : Nat) (x : Nat × va_E), (qn_mn comp cA H.size (fun i => H.size + 1 + i) n.toNatClampNeg k.toNatClampNeg)[k9]? = some x → va_at D qa_cl x F.heap ∧ x.1 = H.size + k9 := fun k9 x hx => by
    cases k9 with
    | zero =>
      have : x = (H.size, .inl (cA, n.toNatClampNeg, .inr (.inr (.inr (.inr (fun i => some (H.size + 1 + i))))))) := (Option.some.inj hx).symm
      subst this
      exact ⟨hout, rfl⟩
    | succ j =>
      have hx2 : ((List.range n.toNatClampNeg).map fun i => ((H.size + 1 + i, .inl (comp, k.toNatClampNeg, .inl (fun _ => 0))) : Nat × va_E))[j]? = some x := hx
      rw [List.getElem?_map] at hx2
      by_cases h9 : j < n.toNatClampNeg
      · rw [List.getElem?_range h9] at hx2
        have := (Option.some.inj hx2).symm
        subst this
        exact ⟨hrow j h9, by show H.size + 1 + j = H.size + (j + 1); omega⟩
      · rw [List.getElem?_eq_none (by rw [List.length_range]; omega)] at hx2
        cases hx2
  have hP2 : va_P D qa_cl (ws ++ qn_mn comp cA H.size (fun i => H.size + 1 + i) n.toNatClampNeg k.toNatClampNeg) F.heap := hP0.app (fun k9 x hx => (hget k9 x hx).1)
  have hD2 : va_D A (ws ++ qn_mn comp cA H.size (fun i => H.size + 1 + i) n.toNatClampNeg k.toNatClampNeg) := by
    refine va_D.app hD ⟨fun i j x y hi hj hxy => ?_, fun k9 x hx => ?_⟩ (fun i j x y hi hj hxy => ?_)
    · have h1 := (hget i x hi).2
      have h2 := (hget j y hj).2
      omega
    · have h1 := (hget k9 x hx).2
      exact hA _ (by have := hS.1; omega)
    · have h1 := (hP i x hi).lt
      have h2 := (hget j y hj).2
      omega
  obtain ⟨t, a1, b1⟩ := kk H.size (fun i => H.size + 1 + i) F.heap hP2 hD2 ⟨by rw [f1]; have := hS.1; omega, fun x h1 h2 => (hold x (Nat.lt_of_lt_of_le h1 hS.1)).trans (hS.2.1 x h1 h2), hS.2.2⟩ F rfl X'
  refine ⟨t, step t ?_, b1⟩
  have e : T.heap.size = H.size := by rw [hT]
  rw [e]
  exact a1
end QN
theorem qn_met {l : Launch} {y : MethodName} {cc : ByteArray} {maxL : Nat} {rm : Room} {D : va_G} {tys : List (ClassId × FieldType)} {ws : va_W} {av : List Value} {mc ms : Nat} {post : (Nat → Nat) → Prop} {wf : (Nat → Nat) → va_W} (hy : plainName y.cls = true) (hyn : y.name = "<init>") (hav : (lg_sl av).length ≤ maxL)
    (body : ∀ (p : Program) (e : Env) (s : State) (m : MethodId) (args : Array Value) (below : List Frame) (meth : Method) (c : Code) (Q : State → Prop) (A : Nat → Prop), CallFix p m c cc maxL s args (qa_ws y cc maxL none) y.cls → meth.name = "<init>" → va_K D qa_cl tys s → qn_E s → (∀ q, s.heap.size ≤ q → A q) →
      (∀ {u : Nat → Nat} {H : Heap} {locs : List Loc} {pc : Nat} {ls : Array Slot}, post u → va_P D qa_cl (wf u) H → va_D A (wf u) → va_S A s.heap H locs → decode cc pc = .ok (.return_, 1) → W p l e rm s m args below meth c H locs mc ms Q (F0 m pc ls [])) →
      ∀ ls, lv_has ls maxL (lv_args 0 av) → va_P D qa_cl ws s.heap → va_D A ws → va_S A s.heap s.heap [] → W p l e rm s m args below meth c s.heap [] 0 0 Q (F0 m 0 ls [])) (sz : Nat) :
    Met l y (qa_ws y cc maxL none) rm (va_Pc av (qn_Pre D tys ws sz)) (va_Qv post (fun u t => va_P D qa_cl (wf u) t.heap ∧ va_D (va_A ws sz) (wf u)) (va_A ws sz)) mc ms (va_A ws sz) := by
  refine Met.ofW (cc := cc) (maxL := maxL) (ret := none) hy rfl ?_
  intro p e s m args below meth c s₁ B hml hv
  obtain ⟨rfl, hsz, hP, hK, hD0, hE⟩ := hv
  subst hsz
  have hlocks := B.notSynchronized
  have hl := lv_entry av (n := maxL) hav
  rw [lg_entry_eq]
  refine body p e s m av.toArray below meth c _ (va_A ws s.heap.size) ⟨B.exec, B.bytes, hml, findClass_of_methodNamed B.named, atoms_spec (ws := qa_ws y cc maxL none) B.pre⟩ ((name_of_methodNamed B.named B.method).1.trans hyn) hK hE (fun q h => Or.inr h) ?_ _ hl hP (hD0.self) va_S.rf
  intro u H locs pc ls hp hP1 hD1 hS1 hd
  exact W.vret B.exec B.bytes B.returns (fun t ht hW => ⟨⟨u, rfl, hp, by rw [ht]; exact hP1, hD1⟩, hS1.F ht⟩) hS1.2.2 hd
