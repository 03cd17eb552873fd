/-! what a method may take as given beside the pool; contracts; rows over the pool -/
def z_lens : List Nat := [2, 3, 3, 2, 1, 3, 0]
def z_byts : List (List Int32) := [[49, 50], [49, 50, 51], [118, 49, 50], [118, 49], [49], [49, 118, 50], []]
def z_six : List Nat := [97, 99, 101, 103, 105, 107, 109]
def z_stx : List String := ["12", "123", "v12", "v1", "1", "1v2", ""]
def z_sW (G : Cx) (U : State) (H : Heap) : Prop := vk_S 7 z_lens z_byts G.2.2.2.1 G.2.2.2.2 (z_Aq (gq G)) U H ∧ va_Z "java/lang/String" "COMPACT_STRINGS" "Z" (.int 1) (z_Aq (gq G)) U H ∧ va_Zq "jdk/internal/util/Preconditions" "SIOOBE_FORMATTER" "Ljava/util/function/BiFunction;" (z_Aq (gq G)) U H
def z_kW (G : Cx) (U : State) : Prop := va_K G.1 vwC [(gy G, .int)] U ∧ (∀ w ∈ lw_nest, va_Nw w U) ∧ z_sW G U U.heap ∧ ∀ i, i < 7 → vk_R RX3 (z_six.getD i 0) (z_stx.getD i "") (G.2.2.2.1 i) U
def z_isN : Cond → Bool
  | .methodLinkNest _ _ _ _ => true
  | _ => false
theorem z_nestw {w : Cond} (h : w ∈ lw_nest) : ∃ a i x b, w = .methodLinkNest a i x b := by
  have h1 := List.all_eq_true.mp (by decide +kernel : lw_nest.all z_isN = true) w h
  cases w <;> first | exact ⟨_, _, _, _, rfl⟩ | cases h1
theorem z_sW.step {G : Cx} {u U : State} {H H1 : Heap} (h : z_sW G u H) (hv : u.vm.Alike U.vm) (hq : ∀ a : Nat, a < H.size → ¬ z_Aq (gq G) a → H1[a]? = H[a]?) : z_sW G U H1 := by
  refine ⟨(vk_S.moved hv h.1).kept hq, (va_Z.moved hv h.2.1).kept hq, ?_⟩
  rcases h.2.2 with h3 | ⟨t, h3⟩
  · exact Or.inl ((va_Z.moved hv h3).kept hq)
  · exact Or.inr ⟨t, (va_Z.moved hv h3).kept hq⟩
/-- behind a step of a method whose start was u -/
theorem z_kW.warm {G : Cx} {u U : State} {locs : List Loc} (h : z_kW G u) (hW : u.WarmedH U.vm) (hS : va_S (z_Aq (gq G)) u.heap U.heap locs) : z_kW G U := by
  refine ⟨va_K.moved hW.alike h.1, fun w hw => ?_, h.2.2.1.step hW.alike hS.2.1, fun i hi => (h.2.2.2 i hi).warm hW⟩
  obtain ⟨a, i, x, b, rfl⟩ := z_nestw hw
  exact (h.2.1 _ hw).warmM hW
theorem z_kW.blind {G : Cx} {U : State} (g : JFrame) (mk : MethodId) (a : Array Value) (h : z_kW G U) : z_kW G (U.calling g mk a) := by
  refine ⟨va_K.moved (u := U) (U := U.calling g mk a) (Vm.Alike.refl U.vm) h.1, fun w hw => ?_, h.2.2.1.step (U := U.calling g mk a) (Vm.Alike.refl U.vm) (fun _ _ _ => rfl), fun i hi => vk_R.same (u := U) rfl (h.2.2.2 i hi)⟩
  obtain ⟨x1, x2, x3, x4, rfl⟩ := z_nestw hw
  exact va_Nw.same rfl (u := U) rfl (h.2.1 _ hw)
abbrev z_P (G : Cx) (X M : St) (H : Heap) : Prop := va_P G.1 vwC (z_wd (gq G) (gy G) (z_cb X M)) H
abbrev z_S (G : Cx) (H0 H : Heap) (locs : List Loc) : Prop := va_S (z_Aq (gq G)) H0 H locs
def z_pre (G : Cx) (X M : St) : State → Prop := fun U => z_P G X M U.heap ∧ z_kW G U
theorem z_blind {G : Cx} {X M : St} {as : List Value} : FrameBlind (va_Pc as (z_pre G X M)) := fun a U g mk h => ⟨h.1, h.2.1, h.2.2.blind g mk a⟩
abbrev z_rm (f t : Nat) : Room := { frames := f, cells := 0, slots := 0, locals := t }
abbrev z_QI (G : Cx) (X M : St) (r : Int32) : Array Value → State → Outcome → State → Prop := va_Qi (fun x (_ : Unit) => x = r) (fun _ t => z_P G X M t.heap) (z_Aq (gq G))
abbrev z_QL (G : Cx) (X M : St) (r : Int64) : Array Value → State → Outcome → State → Prop := va_Ql (fun x (_ : Unit) => x = r) (fun _ t => z_P G X M t.heap) (z_Aq (gq G))
abbrev z_QV (G : Cx) (X M : St) : Array Value → State → Outcome → State → Prop := va_Qv (fun (_ : Unit) => True) (fun _ t => z_P G X M t.heap) (z_Aq (gq G))
abbrev z_QR (G : Cx) (X M : St) (r : Nat) : Array Value → State → Outcome → State → Prop := va_Qr (fun (_ : Unit) => True) (fun _ a t => a = r ∧ z_P G X M t.heap) (z_Aq (gq G))
/-- a contract over the pool: from (X, M) with these arguments, Q -/
def z_Ct (l : Launch) (y : MethodName) (cc : ByteArray) (n : Nat) (rt : Option FieldType) (f t : Nat) (G : Cx) (X M : St) (as : List Value) (Q : Array Value → State → Outcome → State → Prop) : Prop :=
  Met l y (Cond.code y cc n rt :: lw_good) (z_rm f t) (va_Pc as (z_pre G X M)) Q 0 0 (z_Aq (gq G))
theorem z_start {l : Launch} {y : MethodName} {cc : ByteArray} {n : Nat} {rt : Option FieldType} {f t : Nat} {G : Cx} {X M : St} {as : List Value} {Q : Array Value → State → Outcome → State → Prop} (hy : plainName y.cls = true) (hn : (lg_sl as).length ≤ n)
    (body : ∀ (p : Program) (e : Env) (s : State) (m : MethodId) (below : List Frame) (meth : Method) (c : Code) (ls : Array Slot), CallFix p m c cc n s as.toArray lw_good y.cls → meth.sig.returnType = rt → meth.locks = false → z_kW G s → z_P G X M s.heap → z_S G s.heap s.heap [] → lv_has ls n (lv_args 0 as) →
      W p l e (z_rm f t) s m as.toArray below meth c s.heap [] 0 0 (MQ below Q as.toArray s 0 0 (z_Aq (gq G))) (F0 m 0 ls [])) : z_Ct l y cc n rt f t G X M as Q := by
  refine Met.ofW (cc := cc) (maxL := n) (ret := rt) hy rfl ?_
  intro p e s m args below meth c s₁ B hml hv
  obtain ⟨rfl, hP, hK⟩ := hv
  have hts := atoms_spec (ws := Cond.code y cc n rt :: lw_good) B.pre
  have hl := lv_entry as (n := n) hn
  rw [lg_entry_eq]
  exact body p e s m below meth c _ ⟨B.exec, B.bytes, hml, findClass_of_methodNamed B.named, fun w h => hts w (List.mem_cons_of_mem _ h)⟩ B.returns B.notSynchronized hK hP va_S.rf hl
theorem z_goodIn {y : MethodName} {bytes : ByteArray} {maxL : Nat} {rt : Option FieldType} (h : Cond.code y bytes maxL rt ∈ lw_good) : GoodIn lw_good (Cond.code y bytes maxL rt :: lw_good) := by
  intro w hw
  have hm : w ∈ lw_good := by
    rcases List.mem_cons.mp hw with e | e
    · rw [e]; exact h
    · exact e
  exact ⟨hm, good_of_word (List.mem_filter.mp hm).2⟩
/-- what the tables say of a callee -/
def z_cv (y : MethodName) (bytes : ByteArray) (maxL : Nat) (rt : Option FieldType) (C : String) (n : Nat) : Prop := (Cond.instanceMethod y ∈ lw_good ∧ Cond.selects C y y ∈ lw_good) ∧ Cond.code y bytes maxL rt ∈ lw_good ∧ Cond.initialized y.cls ∈ lw_good ∧ (y.cls ≠ "java/lang/invoke/MethodHandle" ∧ y.cls ≠ "java/lang/invoke/VarHandle" ∧ (parseMethodDescriptor y.desc).map (fun d => d.parameters.length) = some n)
def z_cs (y : MethodName) (bytes : ByteArray) (maxL : Nat) (rt : Option FieldType) (n : Nat) : Prop := Cond.static y ∈ lw_good ∧ Cond.code y bytes maxL rt ∈ lw_good ∧ Cond.initialized y.cls ∈ lw_good ∧ (y.cls ≠ "java/lang/invoke/MethodHandle" ∧ y.cls ≠ "java/lang/invoke/VarHandle" ∧ (parseMethodDescriptor y.desc).map (fun d => d.parameters.length) = some n)
section ZR
variable {p : Program} {l : Launch} {e : Env} {R : Room} {s : State} {m : MethodId} {args : Array Value} {below : List Frame} {meth : Method} {c : Code} {H : Heap} {locs : List Loc} {cells slots : Nat} {Q : State → Prop}
variable {cc : ByteArray} {nL pc : Nat} {ls : Array Slot} {rest : List Value} {G : Cx} {X M X' M' : St} {own : String} {H0 : Heap}
/-- a call's run, by its kind -/
theorem z_runV (E : CallFix p m c cc nL s args lw_good own) (hK : z_kW G s) (hP : z_P G X M H) (hS : z_S G s.heap H locs) {y : MethodName} {bytes : ByteArray} {maxL n f t index ci o : Nat} {rt : Option FieldType} {C : String} {T : u_T} {N : Nat} {As : List Value} {Qc : Array Value → State → Outcome → State → Prop}
    (hM : z_Ct l y bytes maxL rt f t G X M (.ref (gq G o) :: As) Qc) (hv : z_cv y bytes maxL rt C n) (hlink : Cond.methodLink own index y ∈ lw_good) (ho : z_kd o = ci) (hlt : ci < 11) (hc : vwC[ci]? = some (C, T, N)) (hn : As.length = n) (hR : f + 1 ≤ R.frames ∧ 8 + (maxL + 11) + t ≤ R.locals) (hf : cells + 0 ≤ R.cells ∧ slots + 0 ≤ R.slots) (hls : ls.size = nL) (hrest : (rest.map fun v => v.category).sum ≤ 8) {st0 : List Value} (hst : st0 = As.reverse ++ .ref (gq G o) :: rest) (hdg : decode cc pc = .ok (.invokevirtual index, 3)) :
    va_Run p l e R s m args below meth c H locs cells slots 0 0 (F0 m pc ls st0) rest (Qc (Value.ref (gq G o) :: As).toArray) (z_Aq (gq G)) := by
  obtain ⟨⟨hi, hse⟩, hco, hini, hd⟩ := hv
  have ht := E.2.2.2.2
  refine va_runV E hM ⟨callB_of n ht (z_goodIn hco) rfl rfl rfl (ht _ hini) (ht _ hlink) hd hR, ht _ hi, ht _ hse⟩ ⟨z_blind, va_recv hK.1 hP hc (q0 := o) (by rw [z_get (z_kd_lt (by omega)), z_en_r ho hlt]), fun U hU hW => ⟨rfl, by rw [hU]; exact hP, hK.warm (locs := locs) hW (by rw [hU]; exact hS)⟩⟩ rfl hn hls (by rw [← hst]) (lv_room hrest) hdg hf
theorem z_runS (E : CallFix p m c cc nL s args lw_good own) (hK : z_kW G s) (hP : z_P G X M H) (hS : z_S G s.heap H locs) {y : MethodName} {bytes : ByteArray} {maxL n f t index : Nat} {rt : Option FieldType} {As : List Value} {Qc : Array Value → State → Outcome → State → Prop}
    (hM : z_Ct l y bytes maxL rt f t G X M As Qc) (hv : z_cs y bytes maxL rt n) (hlink : Cond.methodLink own index y ∈ lw_good) (hn : As.length = n) (hR : f + 1 ≤ R.frames ∧ 8 + (maxL + 11) + t ≤ R.locals) (hf : cells + 0 ≤ R.cells ∧ slots + 0 ≤ R.slots) (hls : ls.size = nL) (hrest : (rest.map fun v => v.category).sum ≤ 8) {st0 : List Value} (hst : st0 = As.reverse ++ rest) (hdg : decode cc pc = .ok (.invokestatic index, 3)) :
    va_Run p l e R s m args below meth c H locs cells slots 0 0 (F0 m pc ls st0) rest (Qc As.toArray) (z_Aq (gq G)) := by
  obtain ⟨hi, hco, hini, hd⟩ := hv
  have ht := E.2.2.2.2
  refine va_runS E hM ⟨callB_of n ht (z_goodIn hco) rfl rfl rfl (ht _ hini) (ht _ hlink) hd hR, ht _ hi⟩ ⟨z_blind, fun U hU hW => ⟨rfl, by rw [hU]; exact hP, hK.warm (locs := locs) hW (by rw [hU]; exact hS)⟩⟩ rfl hn hls (by rw [← hst]) (lv_room hrest) hdg hf
theorem z_runSN (E : CallFix p m c cc nL s args lw_good own) (hK : z_kW G s) (hP : z_P G X M H) (hS : z_S G s.heap H locs) {y : MethodName} {bytes : ByteArray} {maxL n f t index : Nat} {rt : Option FieldType} {As : List Value} {Qc : Array Value → State → Outcome → State → Prop} {host : String}
    (hM : z_Ct l y bytes maxL rt f t G X M As Qc) (hv : z_cs y bytes maxL rt n) (hlink : Cond.methodLinkNest own index y host ∈ lw_nest) (hn : As.length = n) (hR : f + 1 ≤ R.frames ∧ 8 + (maxL + 11) + t ≤ R.locals) (hf : cells + 0 ≤ R.cells ∧ slots + 0 ≤ R.slots) (hls : ls.size = nL) (hrest : (rest.map fun v => v.category).sum ≤ 8) {st0 : List Value} (hst : st0 = As.reverse ++ rest) (hdg : decode cc pc = .ok (.invokestatic index, 3)) :
    va_Run p l e R s m args below meth c H locs cells slots 0 0 (F0 m pc ls st0) rest (Qc As.toArray) (z_Aq (gq G)) := by
  obtain ⟨hi, hco, hini, hd⟩ := hv
  have ht := E.2.2.2.2
  refine va_runSN E hM ⟨va_cnB (host := host) n ht (z_goodIn hco) rfl rfl rfl (hK.2.1 _ hlink) (ht _ hini) hd hR, ht _ hi, trivial⟩ ⟨z_blind, fun U hU hW => ⟨rfl, by rw [hU]; exact hP, hK.warm (locs := locs) hW (by rw [hU]; exact hS)⟩⟩ rfl hn hls (by rw [← hst]) (lv_room hrest) hdg hf
/-- behind a call, by its answer's kind -/
theorem z_ci {st0 : List Value} {a : Array Value} {r : Int32} (hr : va_Run p l e R s m args below meth c H locs cells slots 0 0 (F0 m pc ls st0) rest (z_QI G X' M' r a) (z_Aq (gq G))) (hS : z_S G s.heap H locs) (kk : ∀ (H1 : Heap) (locs1 : List Loc), z_P G X' M' H1 → z_S G s.heap H1 locs1 → W p l e R s m args below meth c H1 locs1 cells slots Q (F0 m (pc + 3) ls (.int r :: rest))) : W p l e R s m args below meth c H locs cells slots Q (F0 m pc ls st0) :=
  va_calli hr hS (fun _ _ h => h) (fun _ h => h) (fun r' _ t H1 locs1 ht _ hp hB _ _ hS1 => by subst hp; subst ht; exact kk _ _ hB hS1)
theorem z_cl {st0 : List Value} {a : Array Value} {r : Int64} (hr : va_Run p l e R s m args below meth c H locs cells slots 0 0 (F0 m pc ls st0) rest (z_QL G X' M' r a) (z_Aq (gq G))) (hS : z_S G s.heap H locs) (kk : ∀ (H1 : Heap) (locs1 : List Loc), z_P G X' M' H1 → z_S G s.heap H1 locs1 → W p l e R s m args below meth c H1 locs1 cells slots Q (F0 m (pc + 3) ls (.long r :: rest))) : W p l e R s m args below meth c H locs cells slots Q (F0 m pc ls st0) :=
  va_calll hr hS (fun _ _ h => h) (fun _ h => h) (fun r' _ t H1 locs1 ht _ hp hB _ _ hS1 => by subst hp; subst ht; exact kk _ _ hB hS1)
theorem z_cvo {st0 : List Value} {a : Array Value} (hr : va_Run p l e R s m args below meth c H locs cells slots 0 0 (F0 m pc ls st0) rest (z_QV G X' M' a) (z_Aq (gq G))) (hS : z_S G s.heap H locs) (kk : ∀ (H1 : Heap) (locs1 : List Loc), z_P G X' M' H1 → z_S G s.heap H1 locs1 → W p l e R s m args below meth c H1 locs1 cells slots Q (F0 m (pc + 3) ls rest)) : W p l e R s m args below meth c H locs cells slots Q (F0 m pc ls st0) :=
  va_callv hr hS (fun _ _ h => h) (fun _ h => h) (fun _ t H1 locs1 ht _ hp hB _ _ hS1 => by subst ht; exact kk _ _ hB hS1)
theorem z_cr {st0 : List Value} {a : Array Value} {r : Nat} (hr : va_Run p l e R s m args below meth c H locs cells slots 0 0 (F0 m pc ls st0) rest (z_QR G X' M' r a) (z_Aq (gq G))) (hS : z_S G s.heap H locs) (kk : ∀ (H1 : Heap) (locs1 : List Loc), z_P G X' M' H1 → z_S G s.heap H1 locs1 → W p l e R s m args below meth c H1 locs1 cells slots Q (F0 m (pc + 3) ls (.ref r :: rest))) : W p l e R s m args below meth c H locs cells slots Q (F0 m pc ls st0) :=
  va_callr hr hS (fun _ _ h => h) (fun _ h => h) (fun _ ra t H1 locs1 ht _ hp hB _ _ hS1 => by obtain ⟨rfl, hB⟩ := hB; subst ht; exact kk _ _ hB hS1)
/-- ends -/
theorem z_reti {r : Int32} {as : Array Value} (hx : p.tables.exec = Jvm.exec) (hb : c.code = cc) (hr : meth.sig.returnType = some .int) (hlk : meth.locks = false) (hP : z_P G X M H) (hS : z_S G s.heap H locs) (hdg : decode cc pc = .ok (.ireturn, 1)) : W p l e R s m as below meth c H locs 0 0 (MQ below (z_QI G X M r) as s 0 0 (z_Aq (gq G))) (F0 m pc ls [.int r]) :=
  W.iret hx hb hr (fun t ht _ => ⟨⟨r, (), rfl, rfl, by show z_P G X M t.heap; rw [ht]; exact hP⟩, hS.F ht⟩) hS.2.2 hdg hlk
theorem z_retz {r : Int32} {as : Array Value} {ty : FieldType} (hx : p.tables.exec = Jvm.exec) (hb : c.code = cc) (hr : meth.sig.returnType = some ty) (hlk : meth.locks = false) (hn : narrow ty (.int r) = .int r) (hP : z_P G X M H) (hS : z_S G s.heap H locs) (hdg : decode cc pc = .ok (.ireturn, 1)) : W p l e R s m as below meth c H locs 0 0 (MQ below (z_QI G X M r) as s 0 0 (z_Aq (gq G))) (F0 m pc ls [.int r]) :=
  W.zret hx hb hr hn (fun t ht _ => ⟨⟨r, (), rfl, rfl, by show z_P G X M t.heap; rw [ht]; exact hP⟩, hS.F ht⟩) hS.2.2 hdg hlk
theorem z_retl {r : Int64} {as : Array Value} (hx : p.tables.exec = Jvm.exec) (hb : c.code = cc) (hr : meth.sig.returnType = some .long) (hlk : meth.locks = false) (hP : z_P G X M H) (hS : z_S G s.heap H locs) (hdg : decode cc pc = .ok (.lreturn, 1)) : W p l e R s m as below meth c H locs 0 0 (MQ below (z_QL G X M r) as s 0 0 (z_Aq (gq G))) (F0 m pc ls [.long r]) :=
  W.lret hx hb hr (fun t ht _ => ⟨⟨r, (), rfl, rfl, by show z_P G X M t.heap; rw [ht]; exact hP⟩, hS.F ht⟩) hS.2.2 hdg hlk
theorem z_retv {as : Array Value} (hx : p.tables.exec = Jvm.exec) (hb : c.code = cc) (hr : meth.sig.returnType = none) (hlk : meth.locks = false) (hP : z_P G X M H) (hS : z_S G s.heap H locs) (hdg : decode cc pc = .ok (.return_, 1)) : W p l e R s m as below meth c H locs 0 0 (MQ below (z_QV G X M) as s 0 0 (z_Aq (gq G))) (F0 m pc ls []) :=
  W.vret hx hb hr (fun t ht _ => ⟨⟨(), rfl, trivial, by show z_P G X M t.heap; rw [ht]; exact hP⟩, hS.F ht⟩) hS.2.2 hdg hlk
theorem z_retr {a : Nat} {as : Array Value} {nm : String} (hx : p.tables.exec = Jvm.exec) (hb : c.code = cc) (hr : meth.sig.returnType = some (.object nm)) (hlk : meth.locks = false) (hP : z_P G X M H) (hS : z_S G s.heap H locs) (hdg : decode cc pc = .ok (.areturn, 1)) : W p l e R s m as below meth c H locs 0 0 (MQ below (z_QR G X M a) as s 0 0 (z_Aq (gq G))) (F0 m pc ls [.ref a]) :=
  W.aret hx hb hr (Or.inl ⟨_, rfl⟩) (Or.inr ⟨_, rfl⟩) (fun t ht _ => ⟨⟨(), a, rfl, trivial, rfl, by show z_P G X M t.heap; rw [ht]; exact hP⟩, hS.F ht⟩) hS.2.2 hdg hlk
/-- fields -/
theorem z_getI (E : CallFix p m c cc nL s args lw_good own) (hK : z_kW G s) {S : St} (hP : va_P G.1 vwC (z_wd (gq G) (gy G) S) H) {C : String} {T : u_T} {N ci k o index : Nat} (hin : ∀ w ∈ u_ws C T N, w ∈ lw_good) (hc : vwC[ci]? = some (C, T, N)) (hN : z_nf ci = N) (hlt : ci < 11) (hk : k < N) (hi : z_isR ci k = false) (ho : z_kd o = ci) (hlink : Cond.fieldLink own index (T k).1 (T k).2.1 (T k).2.2.1 ∈ lw_good) (hdg : decode cc pc = .ok (.getfield index, 3))
    (kk : W p l e R s m args below meth c H locs cells slots Q (F0 m (pc + 3) ls (.int (S o k) :: rest))) : W p l e R s m args below meth c H locs cells slots Q (F0 m pc ls (.ref (gq G o) :: rest)) := by
  refine va_get E.1 E.2.1 E.2.2.2.2 hin E.2.2.2.1 hK.1 hP o (by rw [z_get (z_kd_lt (by omega)), z_en_r ho hlt]) hc k hk (E.2.2.2.2 _ hlink) (fun _ h9 => h9) (v := .int (S o k)) ?_ hdg kk
  rw [hN, z_fld hk]
  simp [z_fv, ho, hi]
theorem z_getR (E : CallFix p m c cc nL s args lw_good own) (hK : z_kW G s) {S : St} (hP : va_P G.1 vwC (z_wd (gq G) (gy G) S) H) {C : String} {T : u_T} {N ci k o index : Nat} (t : Nat) (hin : ∀ w ∈ u_ws C T N, w ∈ lw_good) (hc : vwC[ci]? = some (C, T, N)) (hN : z_nf ci = N) (hlt : ci < 11) (hk : k < N) (hi : z_isR ci k = true) (ho : z_kd o = ci) (ht : z_rf S o k = t) (hlink : Cond.fieldLink own index (T k).1 (T k).2.1 (T k).2.2.1 ∈ lw_good) (hdg : decode cc pc = .ok (.getfield index, 3))
    (kk : W p l e R s m args below meth c H locs cells slots Q (F0 m (pc + 3) ls (.ref (gq G t) :: rest))) : W p l e R s m args below meth c H locs cells slots Q (F0 m pc ls (.ref (gq G o) :: rest)) := by
  refine va_get E.1 E.2.1 E.2.2.2.2 hin E.2.2.2.1 hK.1 hP o (by rw [z_get (z_kd_lt (by omega)), z_en_r ho hlt]) hc k hk (E.2.2.2.2 _ hlink) (fun _ h9 => h9) (v := .ref (gq G t)) ?_ hdg kk
  rw [hN, z_fld hk]
  simp [z_fv, ho, hi, ht]
theorem z_fv_wr {q : Nat → Nat} {S : St} {o k j : Nat} {v : Int32} (hi : z_isR (z_kd o) k = false) (h : j ≠ k) : z_fv q (z_wr S o k v) o j = z_fv q S o j := by
  unfold z_fv z_rf
  rw [z_wr_k h]
  by_cases h29 : o = 29
  · subst h29
    have h6 : (6 : Nat) ≠ k := by intro e; subst e; revert hi; decide
    rw [z_wr_k h6]
  · rw [if_neg h29, if_neg h29]
theorem z_putI (E : CallFix p m c cc nL s args lw_good own) (hK : z_kW G s) (hq : z_inj (gq G)) {S : St} (hP : va_P G.1 vwC (z_wd (gq G) (gy G) S) H) (hS : z_S G s.heap H locs) {C : String} {T : u_T} {N ci k o index : Nat} {v : Int32} {ty : FieldType} (hin : ∀ w ∈ u_ws C T N, w ∈ lw_good) (ty0 : Nat → FieldType) (hty : ∀ k, k < N → parseFieldDescriptor (T k).2.2.1 = some (ty0 k)) (hnm : ∀ a, a < N → ∀ b, b < N → a ≠ b → (T a).2.1 ≠ (T b).2.1) (hc : vwC[ci]? = some (C, T, N)) (hN : z_nf ci = N) (hlt : ci < 11) (hk : k < N) (hi : z_isR ci k = false) (ho : z_kd o = ci) (hfin : (T k).2.2.2 = false) (hd : parseFieldDescriptor (T k).2.2.1 = some ty) (hn : narrow ty (.int v) = .int v) (hfit : fits ty (.int v) = true) (hlink : Cond.fieldLink own index (T k).1 (T k).2.1 (T k).2.2.1 ∈ lw_good) (hdg : decode cc pc = .ok (.putfield index, 3))
    (kk : ∀ (H1 : Heap) (locs1 : List Loc), va_P G.1 vwC (z_wd (gq G) (gy G) (z_wr S o k v)) H1 → z_S G s.heap H1 locs1 → W p l e R s m args below meth c H1 locs1 cells slots Q (F0 m (pc + 3) ls rest)) : W p l e R s m args below meth c H locs cells slots Q (F0 m pc ls (.int v :: .ref (gq G o) :: rest)) := by
  refine va_put E.1 E.2.1 E.2.2.2.2 hin ty0 hty hnm E.2.2.2.1 hK.1 hP (z_D hq) hS o (by rw [z_get (z_kd_lt (by omega)), z_en_r ho hlt]) hc k hk (E.2.2.2.2 _ hlink) (fun _ h9 => h9) hfin hd hn hfit (by simp; omega) hdg (fun H1 locs1 hP1 _ hS1 => kk H1 locs1 ?_ hS1)
  rw [z_set (S' := z_wr S o k v) (z_kd_lt (by omega)) ?_ (fun a ha => z_en_o ha)] at hP1
  · exact hP1
  · rw [z_en_r ho hlt, z_fset (S' := z_wr S o k v) (by omega) ?_ (fun j hj => z_fv_wr (by rw [ho]; exact hi) hj)]
    simp [z_fv, ho, hi, z_wr_s]
/-- the machine takes up the situation's program -/
theorem z_putP (E : CallFix p m c cc nL s args lw_good own) (hK : z_kW G s) (hq : z_inj (gq G)) {S : St} (hP : va_P G.1 vwC (z_wd (gq G) (gy G) S) H) (hS : z_S G s.heap H locs) {index : Nat} (hlink : Cond.fieldLink own index (TX4 6).1 (TX4 6).2.1 (TX4 6).2.2.1 ∈ lw_good) (hdg : decode cc pc = .ok (.putfield index, 3))
    (kk : ∀ (H1 : Heap) (locs1 : List Loc), va_P G.1 vwC (z_wd (gq G) (gy G) (z_wr S 29 6 1)) H1 → z_S G s.heap H1 locs1 → W p l e R s m args below meth c H1 locs1 cells slots Q (F0 m (pc + 3) ls rest)) : W p l e R s m args below meth c H locs cells slots Q (F0 m pc ls (.ref (gq G 2) :: .ref (gq G 29) :: rest)) := by
  have ho : z_kd 29 = 4 := by decide
  refine va_put (C := RX4) (T := TX4) (N := 13) (ci := 4) (ty := .object "ClosuresThatBounce$Program") E.1 E.2.1 E.2.2.2.2 iwX4 tyX4 tyX4_ok nmX4 E.2.2.2.1 hK.1 hP (z_D hq) hS 29 (by rw [z_get (by decide), z_en_r ho (by decide)]) rfl 6 (by decide) (E.2.2.2.2 _ hlink) (fun _ h9 => h9) rfl (by decide +kernel) rfl rfl (by simp [z_nf, z_nfL]) hdg (fun H1 locs1 hP1 _ hS1 => kk H1 locs1 ?_ hS1)
  rw [z_set (S' := z_wr S 29 6 1) (by decide) ?_ (fun a ha => z_en_o ha)] at hP1
  · exact hP1
  · rw [z_en_r ho (by decide), z_fset (S' := z_wr S 29 6 1) (by decide) ?_ ?_]
    · simp [z_fv, ho, z_rf, z_wr_s]
      decide
    · intro j hj
      unfold z_fv z_rf
      rw [z_wr_k hj]
      simp [hj]
/-- arrays of ints -/
theorem z_ald (E : CallFix p m c cc nL s args lw_good own) (hK : z_kW G s) {S : St} (hP : va_P G.1 vwC (z_wd (gq G) (gy G) S) H) {o : Nat} {i : Int32} (ho : z_kd o = 11) (hin : vp_in i (z_ln o)) (hdg : decode cc pc = .ok (.iaload, 1))
    (kk : W p l e R s m args below meth c H locs cells slots Q (F0 m (pc + 1) ls (.int (S o i.toNatClampNeg) :: rest))) : W p l e R s m args below meth c H locs cells slots Q (F0 m pc ls (.int i :: .ref (gq G o) :: rest)) :=
  va_iald E.1 E.2.1 hK.1 hP o 0 (by rw [z_get (z_kd_lt (by omega)), z_en_l ho]) rfl hin hdg kk
theorem z_ast (E : CallFix p m c cc nL s args lw_good own) (hK : z_kW G s) (hq : z_inj (gq G)) {S : St} (hP : va_P G.1 vwC (z_wd (gq G) (gy G) S) H) (hS : z_S G s.heap H locs) {o : Nat} {i x : Int32} (ho : z_kd o = 11) (hin : vp_in i (z_ln o)) (hdg : decode cc pc = .ok (.iastore, 1))
    (kk : ∀ (H1 : Heap) (locs1 : List Loc), va_P G.1 vwC (z_wd (gq G) (gy G) (z_wr S o i.toNatClampNeg x)) H1 → z_S G s.heap H1 locs1 → W p l e R s m args below meth c H1 locs1 cells slots Q (F0 m (pc + 1) ls rest)) : W p l e R s m args below meth c H locs cells slots Q (F0 m pc ls (.int x :: .int i :: .ref (gq G o) :: rest)) := by
  refine va_iast E.1 E.2.1 hK.1 hP (z_D hq) hS o 0 (by rw [z_get (z_kd_lt (by omega)), z_en_l ho]) rfl hin hdg (fun H1 locs1 hP1 _ hS1 => kk H1 locs1 ?_ hS1)
  rw [z_set (S' := z_wr S o i.toNatClampNeg x) (z_kd_lt (by omega)) ?_ (fun a ha => z_en_o ha)] at hP1
  · exact hP1
  · rw [z_en_l ho]
    congr 4
    funext j
    simp [z_wr, upd]
theorem z_aln (E : CallFix p m c cc nL s args lw_good own) (hK : z_kW G s) {S : St} (hP : va_P G.1 vwC (z_wd (gq G) (gy G) S) H) {o : Nat} (ho : z_kd o = 11) (hdg : decode cc pc = .ok (.arraylength, 1))
    (kk : W p l e R s m args below meth c H locs cells slots Q (F0 m (pc + 1) ls (.int (nI (z_ln o)) :: rest))) : W p l e R s m args below meth c H locs cells slots Q (F0 m pc ls (.ref (gq G o) :: rest)) :=
  va_alen E.1 E.2.1 hK.1 hP o 0 (x := (z_ln o, .inl (S o))) (by rw [z_get (z_kd_lt (by omega)), z_en_l ho]) rfl rfl hdg kk
end ZR
