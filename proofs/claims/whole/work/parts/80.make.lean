/-! new objects: worlds by list, the one that is made first -/
def z0 : Nat → Int32 := fun _ => 0
abbrev ar (cy : ClassId) (n : Nat) (f : Nat → Int32) : va_E := .inl (cy, n, .inl f)
theorem tw66 : Cond.arrayClass .int ∈ lw_good := lw_t1 (i := 66) (by decide +kernel) (by decide +kernel)
def kI (D : va_G) (cy : ClassId) (U : State) : Prop := va_K D vwC [(cy, .int)] U ∧ ∀ w ∈ lw_nest, va_Nw w U
theorem kI.warm {D : va_G} {cy : ClassId} {u U : State} (h : kI D cy u) (hW : u.WarmedH U.vm) : kI D cy U := by
  refine ⟨va_K.moved hW.alike h.1, fun w hw => ?_⟩
  obtain ⟨a, i, x, b, rfl⟩ := z_nestw hw
  exact (h.2 _ hw).warmM hW
theorem kI.blind {D : va_G} {cy : ClassId} {U : State} (g : JFrame) (mk : MethodId) (a : Array Value) (h : kI D cy U) : kI D cy (U.calling g mk a) := by
  refine ⟨va_K.moved (u := U) (U := U.calling g mk a) (Vm.Alike.refl U.vm) h.1, fun w hw => ?_⟩
  obtain ⟨x1, x2, x3, x4, rfl⟩ := z_nestw hw
  exact va_Nw.same rfl (u := U) rfl (h.2 _ hw)
abbrev i_rm (f t mc ms : Nat) : Room := { frames := f, cells := mc, slots := ms, locals := t }
abbrev i_A (h0 ci : Nat) (fs0 : List Value) (sz : Nat) : Nat → Prop := va_A [(h0, .inr (ci, fs0))] sz
/-- an object is made: its cell stands, fs0 in its fields; R: the world behind it -/
def z_In (l : Launch) (y : MethodName) (cc : ByteArray) (f t mc ms : Nat) (D : va_G) (cy : ClassId) (ci : Nat) (fs0 : List Value) (R : Nat → va_W → Prop) : Prop :=
  ∀ (h0 sz : Nat), Met l y (Cond.code y cc 1 none :: lw_good) (i_rm f t mc ms) (va_Pc [.ref h0] (fun U => U.heap.size = sz ∧ va_P D vwC [(h0, .inr (ci, fs0))] U.heap ∧ kI D cy U)) (va_Qv (R h0) (fun w1 t => va_P D vwC w1 t.heap ∧ va_D (i_A h0 ci fs0 sz) w1) (i_A h0 ci fs0 sz)) mc ms (i_A h0 ci fs0 sz)
theorem z_inStart {l : Launch} {y : MethodName} {cc : ByteArray} {f t mc ms : Nat} {D : va_G} {cy : ClassId} {ci : Nat} {fs0 : List Value} {R : Nat → va_W → Prop} (hy : plainName y.cls = true) (hnm : y.name = "<init>")
    (body : ∀ (p : Program) (e : Env) (s : State) (m : MethodId) (below : List Frame) (meth : Method) (c : Code) (ls : Array Slot) (h0 : Nat) (A : Nat → Prop), CallFix p m c cc 1 s #[Value.ref h0] lw_good y.cls → meth.sig.returnType = none → meth.locks = false → meth.name = "<init>" → kI D cy s → va_P D vwC [(h0, .inr (ci, fs0))] s.heap → va_D A [(h0, .inr (ci, fs0))] → va_S A s.heap s.heap [] → (∀ q, s.heap.size ≤ q → A q) → lv_has ls 1 [(0, .ref h0)] →
      W p l e (i_rm f t mc ms) s m #[Value.ref h0] below meth c s.heap [] 0 0 (MQ below (va_Qv (R h0) (fun w1 t => va_P D vwC w1 t.heap ∧ va_D A w1) A) #[Value.ref h0] s mc ms A) (F0 m 0 ls [])) : z_In l y cc f t mc ms D cy ci fs0 R := by
  intro h0 sz
  refine Met.ofW (cc := cc) (maxL := 1) (ret := none) hy rfl ?_
  intro p e s m args below meth c s₁ B hml hv
  obtain ⟨rfl, rfl, hP, hK⟩ := hv
  have hts := atoms_spec (ws := Cond.code y cc 1 none :: lw_good) B.pre
  have hl := lv_entry ([.ref h0]) (n := 1) (Nat.le_of_ble_eq_true rfl)
  have hin : meth.name = "<init>" := (name_of_methodNamed B.named B.method).1.trans hnm
  rw [lg_entry_eq]
  refine body p e s m below meth c _ h0 _ ⟨B.exec, B.bytes, hml, findClass_of_methodNamed B.named, fun w h => hts w (List.mem_cons_of_mem _ h)⟩ B.returns B.notSynchronized hin hK hP ?_ va_S.rf (fun q h => Or.inr h) hl
  refine ⟨fun i j x y hi hj _ => ?_, fun k q hk => va_A.in hk⟩
  have h1 : i < 1 := (List.getElem?_eq_some_iff.mp hi).1
  have h2 : j < 1 := (List.getElem?_eq_some_iff.mp hj).1
  omega
section IR
variable {p : Program} {l : Launch} {e : Env} {R : Room} {s : State} {m : MethodId} {args : Array Value} {below : List Frame} {meth : Method} {c : Code} {H : Heap} {locs : List Loc} {cells slots : Nat} {Q : State → Prop}
variable {cc : ByteArray} {nL pc : Nat} {ls : Array Slot} {rest : List Value} {own : String} {D : va_G} {cy : ClassId} {A : Nat → Prop} {h0 ci : Nat} {fs : List Value} {tl : va_W} {C : String} {T : u_T} {N : Nat}
theorem z_iObj (E : CallFix p m c cc nL s args lw_good own) (hl : lv_has ls nL [(0, .ref h0)]) {idx : Nat} (hlink : Cond.methodLink own idx objectInit ∈ lw_good) (d0 : decode cc 0 = .ok (.aload_n 0, 1)) (d1 : decode cc 1 = .ok (.invokespecial idx, 3)) (hf : 1 ≤ R.frames) (hlo : 12 ≤ R.locals) (kk : W p l e R s m args below meth c H locs cells slots Q (F0 m 4 ls [])) : W p l e R s m args below meth c H locs cells slots Q (F0 m 0 ls []) := by
  refine lv_aload_n E.1 E.2.1 d0 rfl (lv_at hl 0 rfl) ?_
  refine W.objInit E.1 E.2.1 E.2.2.2.1 (E.2.2.2.2 _ hlink) (E.2.2.2.2 _ tw25) (E.2.2.2.2 _ tw26) rfl (by rw [E.2.2.1]; exact hl.1) rfl d1 hf (by show 2 * (F0 m 1 ls []).monitorRoom + 0 + 12 ≤ R.locals; have := lv_room (m := m) (pc := 1) (ls := ls) (rest := []) (st := []) (by decide); exact Nat.le_trans (by show 2 * 0 + 0 + 12 ≤ 12; omega) hlo) ?_
  exact W.eq (g2 := F0 m 4 ls []) rfl kk
/-- a field of the one that is made -/
theorem z_iInt (E : CallFix p m c cc nL s args lw_good own) (hI : kI D cy s) (hP : va_P D vwC ((h0, .inr (ci, fs)) :: tl) H) (hD : va_D A ((h0, .inr (ci, fs)) :: tl)) (hS : va_S A s.heap H locs) (hin : ∀ w ∈ u_ws C T N, w ∈ lw_good) (ty0 : Nat → FieldType) (hty : ∀ k, k < N → parseFieldDescriptor (T k).2.2.1 = some (ty0 k)) (hnm : ∀ a, a < N → ∀ b, b < N → a ≠ b → (T a).2.1 ≠ (T b).2.1) (hc : vwC[ci]? = some (C, T, N)) (k : Nat) (hk : k < N) {index : Nat} {v : Int32} {ty : FieldType} (hfin : (T k).2.2.2 = false) (hd : parseFieldDescriptor (T k).2.2.1 = some ty) (hn : narrow ty (.int v) = .int v) (hfit : fits ty (.int v) = true) (hl : k < fs.length) (hlink : Cond.fieldLink own index (T k).1 (T k).2.1 (T k).2.2.1 ∈ lw_good) (hdg : decode cc pc = .ok (.putfield index, 3))
    (kk : ∀ (H1 : Heap) (locs1 : List Loc), va_P D vwC ((h0, .inr (ci, fs.set k (.int v))) :: tl) H1 → va_D A ((h0, .inr (ci, fs.set k (.int v))) :: tl) → va_S A s.heap H1 locs1 → W p l e R s m args below meth c H1 locs1 cells slots Q (F0 m (pc + 3) ls rest)) : W p l e R s m args below meth c H locs cells slots Q (F0 m pc ls (.int v :: .ref h0 :: rest)) :=
  va_put E.1 E.2.1 E.2.2.2.2 hin ty0 hty hnm E.2.2.2.1 hI.1 hP hD hS 0 rfl hc k hk (E.2.2.2.2 _ hlink) (fun _ h9 => h9) hfin hd hn hfit hl hdg kk
theorem z_iRefF (E : CallFix p m c cc nL s args lw_good own) (hinit : meth.name = "<init>") (hI : kI D cy s) (hP : va_P D vwC ((h0, .inr (ci, fs)) :: tl) H) (hD : va_D A ((h0, .inr (ci, fs)) :: tl)) (hS : va_S A s.heap H locs) (hin : ∀ w ∈ u_ws C T N, w ∈ lw_good) (ty0 : Nat → FieldType) (hty : ∀ k, k < N → parseFieldDescriptor (T k).2.2.1 = some (ty0 k)) (hnm : ∀ a, a < N → ∀ b, b < N → a ≠ b → (T a).2.1 ≠ (T b).2.1) (hc : vwC[ci]? = some (C, T, N)) (k : Nat) (hk : k < N) {index q : Nat} {ty : FieldType} (hfin : (T k).2.2.2 = true ∧ (T k).1 = own) (hd : parseFieldDescriptor (T k).2.2.1 = some ty) (hn : narrow ty (.ref q) = .ref q) (hfit : fits ty (.ref q) = true) (hl : k < fs.length) (hlink : Cond.fieldLink own index (T k).1 (T k).2.1 (T k).2.2.1 ∈ lw_good) (hdg : decode cc pc = .ok (.putfield index, 3))
    (kk : ∀ (H1 : Heap) (locs1 : List Loc), va_P D vwC ((h0, .inr (ci, fs.set k (.ref q))) :: tl) H1 → va_D A ((h0, .inr (ci, fs.set k (.ref q))) :: tl) → va_S A s.heap H1 locs1 → W p l e R s m args below meth c H1 locs1 cells slots Q (F0 m (pc + 3) ls rest)) : W p l e R s m args below meth c H locs cells slots Q (F0 m pc ls (.ref q :: .ref h0 :: rest)) :=
  va_putF E.1 E.2.1 E.2.2.2.2 hin ty0 hty hnm E.2.2.2.1 hI.1 hP hD hS 0 rfl hc k hk (E.2.2.2.2 _ hlink) (fun _ h9 => h9) hfin.1 hinit hfin.2 hd hn hfit hl hdg kk
theorem z_iRefV (E : CallFix p m c cc nL s args lw_good own) (hI : kI D cy s) (hP : va_P D vwC ((h0, .inr (ci, fs)) :: tl) H) (hD : va_D A ((h0, .inr (ci, fs)) :: tl)) (hS : va_S A s.heap H locs) (hin : ∀ w ∈ u_ws C T N, w ∈ lw_good) (ty0 : Nat → FieldType) (hty : ∀ k, k < N → parseFieldDescriptor (T k).2.2.1 = some (ty0 k)) (hnm : ∀ a, a < N → ∀ b, b < N → a ≠ b → (T a).2.1 ≠ (T b).2.1) (hc : vwC[ci]? = some (C, T, N)) (k : Nat) (hk : k < N) {index q : Nat} {ty : FieldType} (hfin : (T k).2.2.2 = false) (hd : parseFieldDescriptor (T k).2.2.1 = some ty) (hn : narrow ty (.ref q) = .ref q) (hfit : fits ty (.ref q) = true) (hl : k < fs.length) (hlink : Cond.fieldLink own index (T k).1 (T k).2.1 (T k).2.2.1 ∈ lw_good) (hdg : decode cc pc = .ok (.putfield index, 3))
    (kk : ∀ (H1 : Heap) (locs1 : List Loc), va_P D vwC ((h0, .inr (ci, fs.set k (.ref q))) :: tl) H1 → va_D A ((h0, .inr (ci, fs.set k (.ref q))) :: tl) → va_S A s.heap H1 locs1 → W p l e R s m args below meth c H1 locs1 cells slots Q (F0 m (pc + 3) ls rest)) : W p l e R s m args below meth c H locs cells slots Q (F0 m pc ls (.ref q :: .ref h0 :: rest)) :=
  va_put E.1 E.2.1 E.2.2.2.2 hin ty0 hty hnm E.2.2.2.1 hI.1 hP hD hS 0 rfl hc k hk (E.2.2.2.2 _ hlink) (fun _ h9 => h9) hfin hd hn hfit hl hdg kk
/-- a new row -/
theorem z_iArr (E : CallFix p m c cc nL s args lw_good own) (hI : kI D cy s) {ws : va_W} (hP : va_P D vwC ws H) (hD : va_D A ws) (hS : va_S A s.heap H locs) (hA : ∀ q, s.heap.size ≤ q → A q) {n : Int32} (N' : Nat) (hn0 : ¬ n < 0) (hN : n.toNatClampNeg = N') (hb : N' * 4 ≤ 536870912) (hcells : cells + 1 ≤ R.cells) (hslots : slots + N' ≤ R.slots) (hdg : decode cc pc = .ok (.newarray .int, 2))
    (kk : ∀ (q : Nat) (H1 : Heap), va_P D vwC (ws ++ [(q, ar cy N' z0)]) H1 → va_D A (ws ++ [(q, ar cy N' z0)]) → va_S A s.heap H1 locs → W p l e R s m args below meth c H1 locs (cells + 1) (slots + N') Q (F0 m (pc + 2) ls (.ref q :: rest))) : W p l e R s m args below meth c H locs cells slots Q (F0 m pc ls (.int n :: rest)) := by
  refine va_newa (atype := .int) (ty := .int) (a0 := (N', .inl z0)) E.1 E.2.1 (E.2.2.2.2 _ tw66) rfl hI.1 hP hD hS hA (fun _ => rfl) hn0 hN hb hcells hslots hdg (fun q cA H1 hK1 hP1 hD1 hS1 => ?_)
  have e1 : s.vm.findClass ("[" ++ (FieldType.int).toString) = some cA := (hK1.2 1 (cA, .int) rfl).2
  have e2 : s.vm.findClass ("[" ++ (FieldType.int).toString) = some cy := (hI.1.2 0 (cy, .int) rfl).2
  have e : cA = cy := Option.some.inj (e1.symm.trans e2)
  subst e
  exact kk q H1 hP1 hD1 hS1
theorem q_rng {w1 w2 : va_W} : (List.range w1.length).map (fun i => (w1 ++ w2)[i]?) = w1.map some := by
  apply List.ext_getElem?
  intro i
  rw [List.getElem?_map, List.getElem?_map]
  by_cases h : i < w1.length
  · rw [List.getElem?_range h]
    show some ((w1 ++ w2)[i]?) = _
    rw [List.getElem?_append_left h, List.getElem?_eq_getElem h]; rfl
  · rw [List.getElem?_eq_none (by simpa using h), List.getElem?_eq_none (by simpa using h)]; rfl
theorem q_ndr : ∀ (n k : Nat), va_nd (List.range' k n) = true
  | 0, _ => rfl
  | n + 1, k => by
    show (decide (k ∉ List.range' (k + 1) n) && va_nd (List.range' (k + 1) n)) = true
    rw [q_ndr n (k + 1), Bool.and_true, decide_eq_true_eq]
    intro h
    have := (List.mem_range'_1.mp h).1
    omega
/-- the callee's world behind its making -/
theorem z_join {ws wc w1 : va_W} {H1 : Heap} {q cj : Nat} {fj : List Value} (hwc : wc = [(q, .inr (cj, fj))]) (hP : va_P D vwC (ws ++ wc) H) (hD : va_D A (ws ++ wc)) (hk : ∀ x : Nat, x < H.size → ¬ va_A wc H.size x → H1[x]? = H[x]?) (hF : ∀ x, va_A wc H.size x → A x) (hP1 : va_P D vwC w1 H1) (hD1 : va_D (va_A wc H.size) w1) : va_P D vwC (ws ++ w1) H1 ∧ va_D A (ws ++ w1) := by
  subst hwc
  refine va_join hP hD [ws.length] (List.range ws.length) ?_ q_rng ?_ ?_ hk hF hP1 hD1
  · show [(ws ++ [(q, .inr (cj, fj))])[ws.length]?] = [some _]
    rw [List.getElem?_append_right (Nat.le_refl _), Nat.sub_self]
    rfl
  · rw [List.range_eq_range']
    exact q_ndr _ _
  · intro i hi
    have := List.mem_range.mp hi
    simp
    omega
/-- a new object, made by its own method (nest: a nest mate's) -/
theorem z_iNewN (E : CallFix p m c cc nL s args lw_good own) (hI : kI D cy s) {ws : va_W} (hP : va_P D vwC ws H) (hD : va_D A ws) (hS : va_S A s.heap H locs) (hA : ∀ q, s.heap.size ≤ q → A q) (hls : ls.size = nL) {yc : MethodName} {bc : ByteArray} {f t mc ms cj : Nat} {fj : List Value} {Rj : Nat → va_W → Prop} (hM : z_In l yc bc f t mc ms D cy cj fj Rj) {Cj : String} {Tj : u_T} {Nj idx i2 : Nat} {host : String} (hin : ∀ w ∈ u_ws Cj Tj Nj, w ∈ lw_good) (tyj : Nat → FieldType) (htyj : ∀ k, k < Nj → parseFieldDescriptor (Tj k).2.2.1 = some (tyj k)) (hcj : vwC[cj]? = some (Cj, Tj, Nj)) (hcl : Cond.classLink own idx Cj ∈ lw_good) (hinst : Cond.instantiable Cj Nj ∈ lw_good) (hini : Cond.initialized Cj ∈ lw_good) (hinim : Cond.instanceMethod yc ∈ lw_good) (hco : Cond.code yc bc 1 none ∈ lw_good) (hyc : yc.name = "<init>" ∧ yc.cls = Cj) (hdsc : yc.cls ≠ "java/lang/invoke/MethodHandle" ∧ yc.cls ≠ "java/lang/invoke/VarHandle" ∧ (parseMethodDescriptor yc.desc).map (fun d => d.parameters.length) = some 0) (hfs : ∀ j, j < Nj → defaultValue (tyj j) = vp_V fj j)
    (hlk : Cond.methodLinkNest own i2 yc host ∈ lw_nest) (hR : f + 1 ≤ R.frames ∧ 8 + (1 + 11) + t ≤ R.locals) (hcells : cells + 1 + mc ≤ R.cells) (hslots : slots + Nj + ms ≤ R.slots) (hrest : (rest.map fun v => v.category).sum ≤ 6) (d1 : decode cc pc = .ok (.new idx, 3)) (d2 : decode cc (pc + 3) = .ok (.dup, 1)) (d3 : decode cc (pc + 4) = .ok (.invokespecial i2, 3))
    (kk : ∀ (q : Nat) (w1 : va_W) (H1 : Heap) (locs1 : List Loc), Rj q w1 → va_P D vwC (ws ++ w1) H1 → va_D A (ws ++ w1) → va_S A s.heap H1 locs1 → W p l e R s m args below meth c H1 locs1 (cells + 1 + mc) (slots + Nj + ms) Q (F0 m (pc + 7) ls (.ref q :: rest))) : W p l e R s m args below meth c H locs cells slots Q (F0 m pc ls rest) := by
  have ht := E.2.2.2.2
  refine va_new (ci := cj) (fs := fj) (C := Cj) (T := Tj) (N := Nj) E.1 E.2.1 ht hin tyj htyj E.2.2.2.1 (ht _ hcl) (ht _ hinst) (ht _ hini) hI.1 hP hD hS hA hcj hfs (by omega) (by omega) d1 (fun q H2 hP2 hD2 hS2 => ?_)
  refine lv_dup E.1 E.2.1 d2 rfl ?_
  have hFc := va_free (wc := [(q, .inr (cj, fj))]) hD2 hS2 hA [ws.length] (by
    show [(ws ++ [(q, .inr (cj, fj))])[ws.length]?] = [some _]
    rw [List.getElem?_append_right (Nat.le_refl _), Nat.sub_self]
    rfl)
  have hPc : va_P D vwC [(q, .inr (cj, fj))] H2 := fun k x hx => by
    have h1 : k < 1 := (List.getElem?_eq_some_iff.mp hx).1
    refine hP2 (ws.length + k) x ?_
    rw [List.getElem?_append_right (by omega), Nat.add_sub_cancel_left]
    exact hx
  refine va_callv (va_runIN (As := []) (rest := .ref q :: rest) E (hM q H2.size) ⟨va_cnB (host := host) 0 ht (z_goodIn hco) rfl rfl rfl (hI.2 _ hlk) (by rw [hyc.2]; exact ht _ hini) hdsc hR, hyc.1, ht _ hinim⟩ ⟨fun a U g mk h => ⟨h.1, h.2.1, h.2.2.1, h.2.2.2.blind g mk a⟩, fun U hU hW => ⟨rfl, by rw [hU], by rw [hU]; exact hPc, hI.warm hW⟩⟩ rfl rfl hls rfl (lv_room (by show 1 + (rest.map fun v => v.category).sum ≤ 8; omega)) d3 ⟨hcells, hslots⟩) hS2 (fun x _ h => hFc x h) hFc (fun w1 t1 H1 locs1 ht1 hvm hw hB hz1 hk1 hS1 => ?_)
  obtain ⟨hP1, hD1⟩ := hB
  rw [ht1] at hP1
  obtain ⟨hP3, hD3⟩ := z_join rfl hP2 hD2 hk1 hFc hP1 hD1
  exact kk q w1 H1 locs1 hw hP3 hD3 hS1
theorem z_iNewM (E : CallFix p m c cc nL s args lw_good own) (hI : kI D cy s) {ws : va_W} (hP : va_P D vwC ws H) (hD : va_D A ws) (hS : va_S A s.heap H locs) (hA : ∀ q, s.heap.size ≤ q → A q) (hls : ls.size = nL) {yc : MethodName} {bc : ByteArray} {f t mc ms cj : Nat} {fj : List Value} {Rj : Nat → va_W → Prop} (hM : z_In l yc bc f t mc ms D cy cj fj Rj) {Cj : String} {Tj : u_T} {Nj idx i2 : Nat} (hin : ∀ w ∈ u_ws Cj Tj Nj, w ∈ lw_good) (tyj : Nat → FieldType) (htyj : ∀ k, k < Nj → parseFieldDescriptor (Tj k).2.2.1 = some (tyj k)) (hcj : vwC[cj]? = some (Cj, Tj, Nj)) (hcl : Cond.classLink own idx Cj ∈ lw_good) (hinst : Cond.instantiable Cj Nj ∈ lw_good) (hini : Cond.initialized Cj ∈ lw_good) (hinim : Cond.instanceMethod yc ∈ lw_good) (hco : Cond.code yc bc 1 none ∈ lw_good) (hyc : yc.name = "<init>" ∧ yc.cls = Cj) (hdsc : yc.cls ≠ "java/lang/invoke/MethodHandle" ∧ yc.cls ≠ "java/lang/invoke/VarHandle" ∧ (parseMethodDescriptor yc.desc).map (fun d => d.parameters.length) = some 0) (hfs : ∀ j, j < Nj → defaultValue (tyj j) = vp_V fj j)
    (hlk : Cond.methodLink own i2 yc ∈ lw_good) (hR : f + 1 ≤ R.frames ∧ 8 + (1 + 11) + t ≤ R.locals) (hcells : cells + 1 + mc ≤ R.cells) (hslots : slots + Nj + ms ≤ R.slots) (hrest : (rest.map fun v => v.category).sum ≤ 6) (d1 : decode cc pc = .ok (.new idx, 3)) (d2 : decode cc (pc + 3) = .ok (.dup, 1)) (d3 : decode cc (pc + 4) = .ok (.invokespecial i2, 3))
    (kk : ∀ (q : Nat) (w1 : va_W) (H1 : Heap) (locs1 : List Loc), Rj q w1 → va_P D vwC (ws ++ w1) H1 → va_D A (ws ++ w1) → va_S A s.heap H1 locs1 → W p l e R s m args below meth c H1 locs1 (cells + 1 + mc) (slots + Nj + ms) Q (F0 m (pc + 7) ls (.ref q :: rest))) : W p l e R s m args below meth c H locs cells slots Q (F0 m pc ls rest) := by
  have ht := E.2.2.2.2
  refine va_new (ci := cj) (fs := fj) (C := Cj) (T := Tj) (N := Nj) E.1 E.2.1 ht hin tyj htyj E.2.2.2.1 (ht _ hcl) (ht _ hinst) (ht _ hini) hI.1 hP hD hS hA hcj hfs (by omega) (by omega) d1 (fun q H2 hP2 hD2 hS2 => ?_)
  refine lv_dup E.1 E.2.1 d2 rfl ?_
  have hFc := va_free (wc := [(q, .inr (cj, fj))]) hD2 hS2 hA [ws.length] (by
    show [(ws ++ [(q, .inr (cj, fj))])[ws.length]?] = [some _]
    rw [List.getElem?_append_right (Nat.le_refl _), Nat.sub_self]
    rfl)
  have hPc : va_P D vwC [(q, .inr (cj, fj))] H2 := fun k x hx => by
    have h1 : k < 1 := (List.getElem?_eq_some_iff.mp hx).1
    refine hP2 (ws.length + k) x ?_
    rw [List.getElem?_append_right (by omega), Nat.add_sub_cancel_left]
    exact hx
  refine va_callv (va_runI (As := []) (rest := .ref q :: rest) E (hM q H2.size) ⟨callB_of 0 ht (z_goodIn hco) rfl rfl rfl (by rw [hyc.2]; exact ht _ hini) (ht _ hlk) hdsc hR, hyc.1, ht _ hinim⟩ ⟨fun a U g mk h => ⟨h.1, h.2.1, h.2.2.1, h.2.2.2.blind g mk a⟩, fun U hU hW => ⟨rfl, by rw [hU], by rw [hU]; exact hPc, hI.warm hW⟩⟩ rfl rfl hls rfl (lv_room (by show 1 + (rest.map fun v => v.category).sum ≤ 8; omega)) d3 ⟨hcells, hslots⟩) hS2 (fun x _ h => hFc x h) hFc (fun w1 t1 H1 locs1 ht1 hvm hw hB hz1 hk1 hS1 => ?_)
  obtain ⟨hP1, hD1⟩ := hB
  rw [ht1] at hP1
  obtain ⟨hP3, hD3⟩ := z_join rfl hP2 hD2 hk1 hFc hP1 hD1
  exact kk q w1 H1 locs1 hw hP3 hD3 hS1
/-- the end -/
theorem z_iRet {Rf : va_W → Prop} {mc ms : Nat} {ws : va_W} {as : Array Value} (E : CallFix p m c cc nL s args lw_good own) (hr : meth.sig.returnType = none) (hlk : meth.locks = false) (hP : va_P D vwC ws H) (hD : va_D A ws) (hS : va_S A s.heap H locs) (hRf : Rf ws) (hdg : decode cc pc = .ok (.return_, 1)) : W p l e R s m as below meth c H locs mc ms (MQ below (va_Qv Rf (fun w1 t => va_P D vwC w1 t.heap ∧ va_D A w1) A) as s mc ms A) (F0 m pc ls []) :=
  W.vret E.1 E.2.1 hr (fun t ht _ => ⟨⟨ws, rfl, hRf, by rw [ht]; exact hP, hD⟩, hS.F ht⟩) hS.2.2 hdg hlk
end IR
