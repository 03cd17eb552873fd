/-! THE CLAIM OUT OF ONE WALK OF THE LAW'S BODY. Your part is whole_start (and what it stands on); all else here is the same for every law, but numbers. -/
def R_law : String := "ClosuresThatBounceLaw"
def lw_P (b : Addr) (xs : List Int32) (args : Array Value) (s : State) : Prop := args = #[.ref b] ∧ s.IntsAt b xs ∧ xs.length ≤ 2048 ∧ (Jvm.Cond.and given_1 narrow_1).before args s = true
def lw_Q (_ : Array Value) (s : State) (o : Outcome) (t : State) : Prop := o = .returned (some (.int 1)) ∧ Framed s o t [] 102 26091
def lw_Z (below : List Frame) (a : Array Value) (s : State) : State → Prop := fun t => ∃ o, t.status = .running ∧ Ended t below o ∧ lw_Q a s o t
/-- the law's own end, with 1 on the stack, nothing written that was there before, its room as the claim has it -/
theorem lw_ret {p : Program} {l : Launch} {e : Env} {s : State} {m : MethodId} {below : List Frame} {meth : Method} {c : Code} {b : Nat} (hx : p.tables.exec = Jvm.exec) (hb : c.code = code) (hr : meth.sig.returnType = ret) (hlocks : meth.locks = false) {pc : Nat} {H : Heap} {ls : Array Slot} (hdg : decode code pc = .ok (.ireturn, 1)) : W p l e room_1 s m #[Value.ref b] below meth c H [] 102 26091 (lw_Z below #[Value.ref b] s) (F0 m pc ls [.int 1]) := by
  intro T hT X
  obtain ⟨fs, hret, hrun, hended, hW, hframe⟩ := X.leave (v := some (.int 1)) (hlocks := hlocks) (fun h => by rw [hr] at h; cases h)
  have hmeth' : T.vm.method? m = some meth := X.method'
  refine ⟨T.setFrames fs, ?_, .returned (some (.int 1)), hrun, hended, rfl, ⟨_, rfl⟩, hW, hframe⟩
  jvm_step X.here [X.here.top, hx, hb, hdg, hmeth', hr, ret, narrow_b1]
  (try refine ⟨rfl, ?_⟩); (try refine ⟨rfl, ?_⟩)
  first | (intro acts; rw [hret _ acts rfl rfl rfl]) | rw [hret _ _ rfl rfl rfl]
  exact Steps.refl _
/-- what holds at the law's entry: the machine, the code, the tables' words (any of lw_tbl by 'hts w (by decide +kernel)'), the script of L ints xs at the cell b, what the Statement gives of the start (any of its parts by flat_of_before) -/
def lw_At (p : Program) (s : State) (m : MethodId) (meth : Method) (c : Code) (b L : Nat) (xs : Nat → Int32) : Prop :=
  p.tables.exec = Jvm.exec ∧ c.code = code ∧ meth.sig.returnType = ret ∧ c.maxLocals = 4 ∧ s.vm.findClass R_law = some m.cls ∧ (∀ w ∈ lw_tbl, w.before #[Value.ref b] s = true) ∧ va_X b L xs s s.heap ∧ b < s.heap.size ∧ meth.locks = false ∧ (Jvm.Cond.and given_1 narrow_1).before #[Value.ref b] s = true
/-! the law's calls, one by one -/
abbrev lwL (G : Cx) (b i : Nat) : List (Nat × Value) := [(0, .ref b), (1, .ref (gq G 0)), (2, .ref (gq G 65)), (3, .int (nI i))]
theorem lg_cmp_self (r : Int64) : lg_cmp r r = 0 := by simp [lg_cmp]
section LW
variable {p : Program} {l : Launch} {e : Env} {s : State} {m : MethodId} {args : Array Value} {below : List Frame} {meth : Method} {c : Code} {H : Heap} {locs : List Loc} {Q : State → Prop} {ls : Array Slot} {rest : List Value} {G : Cx} {X M : St} {b L i pc : Nat} {xs : Nat → Int32}
theorem lw_arg (E : CallFix p m c cL_law 4 s args lw_good RL) (hX : va_X b L xs s s.heap) (hbl : b < s.heap.size) (hbA : ¬ z_Aq (gq G) b) (hL : L ≤ 2048) (hS : z_S G s.heap H locs) (hl : lv_has ls 4 (lwL G b i)) (k : Nat) (hk : i + k < L) {n : Int} (hn : Int32.ofInt n = nI k) (d0 : decode cL_law pc = .ok (.aload_n 0, 1)) (d1 : decode cL_law (pc + 1) = .ok (.iload_n 3, 1)) (d2 : decode cL_law (pc + 2) = .ok (.iconst n, 1)) (d3 : decode cL_law (pc + 3) = .ok (.iadd, 1)) (d4 : decode cL_law (pc + 4) = .ok (.iaload, 1))
    (kk : W p l e room_1 s m args below meth c H locs 102 26091 Q (F0 m (pc + 5) ls (.int (xs (i + k)) :: rest))) : W p l e room_1 s m args below meth c H locs 102 26091 Q (F0 m pc ls rest) := by
  refine lv_aload_n E.1 E.2.1 d0 rfl (lv_at hl 0 rfl) ?_
  refine lv_iload_n E.1 E.2.1 d1 rfl (lv_at hl 3 rfl) ?_
  refine lv_iconst (v := nI k) E.1 E.2.1 d2 hn ?_
  refine lv_iadd E.1 E.2.1 d3 ?_
  rw [nI_add]
  refine va_sld E.1 E.2.1 hX hbl hbA hS (nI_in hk (by omega)) d4 ?_
  rw [nI_clamp (by omega)]
  exact kk
set_option maxRecDepth 20000 in
theorem lc_letter (E : CallFix p m c cL_law 4 s args lw_good RL) (hK : z_kW G s) (hq : z_inj (gq G)) (hX : va_X b L xs s s.heap) (hbl : b < s.heap.size) (hbA : ¬ z_Aq (gq G) b) (hL : L ≤ 2048) (hi : i + 4 ≤ L) (hR : Rel X M) (hP : z_P G X M H) (hS : z_S G s.heap H locs) (hl : lv_has ls 4 (lwL G b i))
    (kk : ∀ (X' M' : St) (H1 : Heap) (locs1 : List Loc), Rel X' M' → z_P G X' M' H1 → z_S G s.heap H1 locs1 → W p l e room_1 s m args below meth c H1 locs1 102 26091 Q (F0 m 755 ls [])) : W p l e room_1 s m args below meth c H locs 102 26091 Q (F0 m 148 ls []) := by
  obtain ⟨r, X', M', h1, h2, h3⟩ : PB (f_X9_letter 5000 (xs (i + 1)) X) (f_X10_letter 5000 (xs (i + 1)) M) := p_letter hR
  refine lv_aload_n E.1 E.2.1 dL_law_148 rfl (lv_at hl 1 rfl) ?_
  refine lw_arg E hX hbl hbA hL hS hl 1 (by omega) (by decide) dL_law_149 dL_law_150 dL_law_151 dL_law_152 dL_law_153 ?_
  refine z_ci (z_runV (o := 0) (ci := 9) E hK hP hS (c_X9_letter hq h1) cv_X9_letter tw326 rfl (by decide) rfl rfl ⟨(Nat.le_of_ble_eq_true rfl), (Nat.le_of_ble_eq_true rfl)⟩ ⟨(Nat.le_of_ble_eq_true rfl), (Nat.le_of_ble_eq_true rfl)⟩ hl.1 (Nat.le_of_ble_eq_true rfl) rfl dL_law_154) hS (fun H locs hP hS => ?_)
  refine lv_aload_n E.1 E.2.1 dL_law_157 rfl (lv_at hl 2 rfl) ?_
  refine lw_arg E hX hbl hbA hL hS hl 1 (by omega) (by decide) dL_law_158 dL_law_159 dL_law_160 dL_law_161 dL_law_162 ?_
  refine z_ci (z_runV (o := 65) (ci := 10) E hK hP hS (c_X10_letter hq h2) cv_X10_letter tw1178 rfl (by decide) rfl rfl ⟨(Nat.le_of_ble_eq_true rfl), (Nat.le_of_ble_eq_true rfl)⟩ ⟨(Nat.le_of_ble_eq_true rfl), (Nat.le_of_ble_eq_true rfl)⟩ hl.1 (Nat.le_of_ble_eq_true rfl) rfl dL_law_163) hS (fun H locs hP hS => ?_)
  exact lv_icmp_eq (tgt := 755) E.1 E.2.1 dL_law_166 (by decide) (fun _ => kk _ _ _ _ h3 hP hS) (fun h => absurd rfl h)
set_option maxRecDepth 20000 in
theorem lc_program (E : CallFix p m c cL_law 4 s args lw_good RL) (hK : z_kW G s) (hq : z_inj (gq G)) (hX : va_X b L xs s s.heap) (hbl : b < s.heap.size) (hbA : ¬ z_Aq (gq G) b) (hL : L ≤ 2048) (hi : i + 4 ≤ L) (hR : Rel X M) (hP : z_P G X M H) (hS : z_S G s.heap H locs) (hl : lv_has ls 4 (lwL G b i))
    (kk : ∀ (X' M' : St) (H1 : Heap) (locs1 : List Loc), Rel X' M' → z_P G X' M' H1 → z_S G s.heap H1 locs1 → W p l e room_1 s m args below meth c H1 locs1 102 26091 Q (F0 m 755 ls [])) : W p l e room_1 s m args below meth c H locs 102 26091 Q (F0 m 171 ls []) := by
  obtain ⟨r, X', M', h1, h2, h3⟩ : PB (f_X9_program 5000  X) (f_X10_program 5000  M) := p_program (Nat.le_refl 5000) hR
  refine lv_aload_n E.1 E.2.1 dL_law_171 rfl (lv_at hl 1 rfl) ?_
  refine z_ci (z_runV (o := 0) (ci := 9) E hK hP hS (c_X9_program hq h1) cv_X9_program tw349 rfl (by decide) rfl rfl ⟨(Nat.le_of_ble_eq_true rfl), (Nat.le_of_ble_eq_true rfl)⟩ ⟨(Nat.le_of_ble_eq_true rfl), (Nat.le_of_ble_eq_true rfl)⟩ hl.1 (Nat.le_of_ble_eq_true rfl) rfl dL_law_172) hS (fun H locs hP hS => ?_)
  refine lv_aload_n E.1 E.2.1 dL_law_175 rfl (lv_at hl 2 rfl) ?_
  refine z_ci (z_runV (o := 65) (ci := 10) E hK hP hS (c_X10_program hq h2) cv_X10_program tw1189 rfl (by decide) rfl rfl ⟨(Nat.le_of_ble_eq_true rfl), (Nat.le_of_ble_eq_true rfl)⟩ ⟨(Nat.le_of_ble_eq_true rfl), (Nat.le_of_ble_eq_true rfl)⟩ hl.1 (Nat.le_of_ble_eq_true rfl) rfl dL_law_176) hS (fun H locs hP hS => ?_)
  exact lv_icmp_eq (tgt := 755) E.1 E.2.1 dL_law_179 (by decide) (fun _ => kk _ _ _ _ h3 hP hS) (fun h => absurd rfl h)
set_option maxRecDepth 20000 in
theorem lc_global (E : CallFix p m c cL_law 4 s args lw_good RL) (hK : z_kW G s) (hq : z_inj (gq G)) (hX : va_X b L xs s s.heap) (hbl : b < s.heap.size) (hbA : ¬ z_Aq (gq G) b) (hL : L ≤ 2048) (hi : i + 4 ≤ L) (hR : Rel X M) (hP : z_P G X M H) (hS : z_S G s.heap H locs) (hl : lv_has ls 4 (lwL G b i))
    (kk : ∀ (X' M' : St) (H1 : Heap) (locs1 : List Loc), Rel X' M' → z_P G X' M' H1 → z_S G s.heap H1 locs1 → W p l e room_1 s m args below meth c H1 locs1 102 26091 Q (F0 m 755 ls [])) : W p l e room_1 s m args below meth c H locs 102 26091 Q (F0 m 184 ls []) := by
  obtain ⟨r, X', M', h1, h2, h3⟩ : PB (f_X9_global 5000 (xs (i + 1)) X) (f_X10_global 5000 (xs (i + 1)) M) := p_global hR
  refine lv_aload_n E.1 E.2.1 dL_law_184 rfl (lv_at hl 1 rfl) ?_
  refine lw_arg E hX hbl hbA hL hS hl 1 (by omega) (by decide) dL_law_185 dL_law_186 dL_law_187 dL_law_188 dL_law_189 ?_
  refine z_ci (z_runV (o := 0) (ci := 9) E hK hP hS (c_X9_global hq h1) cv_X9_global tw489 rfl (by decide) rfl rfl ⟨(Nat.le_of_ble_eq_true rfl), (Nat.le_of_ble_eq_true rfl)⟩ ⟨(Nat.le_of_ble_eq_true rfl), (Nat.le_of_ble_eq_true rfl)⟩ hl.1 (Nat.le_of_ble_eq_true rfl) rfl dL_law_190) hS (fun H locs hP hS => ?_)
  refine lv_aload_n E.1 E.2.1 dL_law_193 rfl (lv_at hl 2 rfl) ?_
  refine lw_arg E hX hbl hbA hL hS hl 1 (by omega) (by decide) dL_law_194 dL_law_195 dL_law_196 dL_law_197 dL_law_198 ?_
  refine z_ci (z_runV (o := 65) (ci := 10) E hK hP hS (c_X10_global hq h2) cv_X10_global tw1340 rfl (by decide) rfl rfl ⟨(Nat.le_of_ble_eq_true rfl), (Nat.le_of_ble_eq_true rfl)⟩ ⟨(Nat.le_of_ble_eq_true rfl), (Nat.le_of_ble_eq_true rfl)⟩ hl.1 (Nat.le_of_ble_eq_true rfl) rfl dL_law_199) hS (fun H locs hP hS => ?_)
  exact lv_icmp_eq (tgt := 755) E.1 E.2.1 dL_law_202 (by decide) (fun _ => kk _ _ _ _ h3 hP hS) (fun h => absurd rfl h)
set_option maxRecDepth 20000 in
theorem lc_sets (E : CallFix p m c cL_law 4 s args lw_good RL) (hK : z_kW G s) (hq : z_inj (gq G)) (hX : va_X b L xs s s.heap) (hbl : b < s.heap.size) (hbA : ¬ z_Aq (gq G) b) (hL : L ≤ 2048) (hi : i + 4 ≤ L) (hR : Rel X M) (hP : z_P G X M H) (hS : z_S G s.heap H locs) (hl : lv_has ls 4 (lwL G b i))
    (kk : ∀ (X' M' : St) (H1 : Heap) (locs1 : List Loc), Rel X' M' → z_P G X' M' H1 → z_S G s.heap H1 locs1 → W p l e room_1 s m args below meth c H1 locs1 102 26091 Q (F0 m 755 ls [])) : W p l e room_1 s m args below meth c H locs 102 26091 Q (F0 m 207 ls []) := by
  obtain ⟨r, X', M', h1, h2, h3⟩ : PB (f_X9_sets 5000 (xs (i + 1)) (xs (i + 2)) X) (f_X10_sets 5000 (xs (i + 1)) (xs (i + 2)) M) := p_sets hR
  refine lv_aload_n E.1 E.2.1 dL_law_207 rfl (lv_at hl 1 rfl) ?_
  refine lw_arg E hX hbl hbA hL hS hl 1 (by omega) (by decide) dL_law_208 dL_law_209 dL_law_210 dL_law_211 dL_law_212 ?_
  refine lw_arg E hX hbl hbA hL hS hl 2 (by omega) (by decide) dL_law_213 dL_law_214 dL_law_215 dL_law_216 dL_law_217 ?_
  refine z_ci (z_runV (o := 0) (ci := 9) E hK hP hS (c_X9_sets hq h1) cv_X9_sets tw501 rfl (by decide) rfl rfl ⟨(Nat.le_of_ble_eq_true rfl), (Nat.le_of_ble_eq_true rfl)⟩ ⟨(Nat.le_of_ble_eq_true rfl), (Nat.le_of_ble_eq_true rfl)⟩ hl.1 (Nat.le_of_ble_eq_true rfl) rfl dL_law_218) hS (fun H locs hP hS => ?_)
  refine lv_aload_n E.1 E.2.1 dL_law_221 rfl (lv_at hl 2 rfl) ?_
  refine lw_arg E hX hbl hbA hL hS hl 1 (by omega) (by decide) dL_law_222 dL_law_223 dL_law_224 dL_law_225 dL_law_226 ?_
  refine lw_arg E hX hbl hbA hL hS hl 2 (by omega) (by decide) dL_law_227 dL_law_228 dL_law_229 dL_law_230 dL_law_231 ?_
  refine z_ci (z_runV (o := 65) (ci := 10) E hK hP hS (c_X10_sets hq h2) cv_X10_sets tw1347 rfl (by decide) rfl rfl ⟨(Nat.le_of_ble_eq_true rfl), (Nat.le_of_ble_eq_true rfl)⟩ ⟨(Nat.le_of_ble_eq_true rfl), (Nat.le_of_ble_eq_true rfl)⟩ hl.1 (Nat.le_of_ble_eq_true rfl) rfl dL_law_232) hS (fun H locs hP hS => ?_)
  exact lv_icmp_eq (tgt := 755) E.1 E.2.1 dL_law_235 (by decide) (fun _ => kk _ _ _ _ h3 hP hS) (fun h => absurd rfl h)
set_option maxRecDepth 20000 in
theorem lc_run (E : CallFix p m c cL_law 4 s args lw_good RL) (hK : z_kW G s) (hq : z_inj (gq G)) (hX : va_X b L xs s s.heap) (hbl : b < s.heap.size) (hbA : ¬ z_Aq (gq G) b) (hL : L ≤ 2048) (hi : i + 4 ≤ L) (hR : Rel X M) (hP : z_P G X M H) (hS : z_S G s.heap H locs) (hl : lv_has ls 4 (lwL G b i))
    (kk : ∀ (X' M' : St) (H1 : Heap) (locs1 : List Loc), Rel X' M' → z_P G X' M' H1 → z_S G s.heap H1 locs1 → W p l e room_1 s m args below meth c H1 locs1 102 26091 Q (F0 m 755 ls [])) : W p l e room_1 s m args below meth c H locs 102 26091 Q (F0 m 240 ls []) := by
  obtain ⟨r, X', M', h1, h2, h3⟩ : PB (f_X9_run 5000  X) (f_X10_run 5000  M) := p_run (Nat.le_refl 5000) hR
  refine lv_aload_n E.1 E.2.1 dL_law_240 rfl (lv_at hl 1 rfl) ?_
  refine z_ci (z_runV (o := 0) (ci := 9) E hK hP hS (c_X9_run hq h1) cv_X9_run tw508 rfl (by decide) rfl rfl ⟨(Nat.le_of_ble_eq_true rfl), (Nat.le_of_ble_eq_true rfl)⟩ ⟨(Nat.le_of_ble_eq_true rfl), (Nat.le_of_ble_eq_true rfl)⟩ hl.1 (Nat.le_of_ble_eq_true rfl) rfl dL_law_241) hS (fun H locs hP hS => ?_)
  refine lv_aload_n E.1 E.2.1 dL_law_244 rfl (lv_at hl 2 rfl) ?_
  refine z_ci (z_runV (o := 65) (ci := 10) E hK hP hS (c_X10_run hq h2) cv_X10_run tw1209 rfl (by decide) rfl rfl ⟨(Nat.le_of_ble_eq_true rfl), (Nat.le_of_ble_eq_true rfl)⟩ ⟨(Nat.le_of_ble_eq_true rfl), (Nat.le_of_ble_eq_true rfl)⟩ hl.1 (Nat.le_of_ble_eq_true rfl) rfl dL_law_245) hS (fun H locs hP hS => ?_)
  exact lv_icmp_eq (tgt := 755) E.1 E.2.1 dL_law_248 (by decide) (fun _ => kk _ _ _ _ h3 hP hS) (fun h => absurd rfl h)
set_option maxRecDepth 20000 in
theorem lc_ended (E : CallFix p m c cL_law 4 s args lw_good RL) (hK : z_kW G s) (hq : z_inj (gq G)) (hX : va_X b L xs s s.heap) (hbl : b < s.heap.size) (hbA : ¬ z_Aq (gq G) b) (hL : L ≤ 2048) (hi : i + 4 ≤ L) (hR : Rel X M) (hP : z_P G X M H) (hS : z_S G s.heap H locs) (hl : lv_has ls 4 (lwL G b i))
    (kk : ∀ (X' M' : St) (H1 : Heap) (locs1 : List Loc), Rel X' M' → z_P G X' M' H1 → z_S G s.heap H1 locs1 → W p l e room_1 s m args below meth c H1 locs1 102 26091 Q (F0 m 755 ls [])) : W p l e room_1 s m args below meth c H locs 102 26091 Q (F0 m 253 ls []) := by
  obtain ⟨r, X', M', h1, h2, h3⟩ : PB (f_X9_ended 5000 (xs (i + 1)) X) (f_X10_ended 5000 (xs (i + 1)) M) := p_ended hR
  refine lv_aload_n E.1 E.2.1 dL_law_253 rfl (lv_at hl 1 rfl) ?_
  refine lw_arg E hX hbl hbA hL hS hl 1 (by omega) (by decide) dL_law_254 dL_law_255 dL_law_256 dL_law_257 dL_law_258 ?_
  refine z_ci (z_runV (o := 0) (ci := 9) E hK hP hS (c_X9_ended hq h1) cv_X9_ended tw767 rfl (by decide) rfl rfl ⟨(Nat.le_of_ble_eq_true rfl), (Nat.le_of_ble_eq_true rfl)⟩ ⟨(Nat.le_of_ble_eq_true rfl), (Nat.le_of_ble_eq_true rfl)⟩ hl.1 (Nat.le_of_ble_eq_true rfl) rfl dL_law_259) hS (fun H locs hP hS => ?_)
  refine lv_aload_n E.1 E.2.1 dL_law_262 rfl (lv_at hl 2 rfl) ?_
  refine lw_arg E hX hbl hbA hL hS hl 1 (by omega) (by decide) dL_law_263 dL_law_264 dL_law_265 dL_law_266 dL_law_267 ?_
  refine z_ci (z_runV (o := 65) (ci := 10) E hK hP hS (c_X10_ended hq h2) cv_X10_ended tw1327 rfl (by decide) rfl rfl ⟨(Nat.le_of_ble_eq_true rfl), (Nat.le_of_ble_eq_true rfl)⟩ ⟨(Nat.le_of_ble_eq_true rfl), (Nat.le_of_ble_eq_true rfl)⟩ hl.1 (Nat.le_of_ble_eq_true rfl) rfl dL_law_268) hS (fun H locs hP hS => ?_)
  exact lv_icmp_eq (tgt := 755) E.1 E.2.1 dL_law_271 (by decide) (fun _ => kk _ _ _ _ h3 hP hS) (fun h => absurd rfl h)
set_option maxRecDepth 20000 in
theorem lc_code (E : CallFix p m c cL_law 4 s args lw_good RL) (hK : z_kW G s) (hq : z_inj (gq G)) (hX : va_X b L xs s s.heap) (hbl : b < s.heap.size) (hbA : ¬ z_Aq (gq G) b) (hL : L ≤ 2048) (hi : i + 4 ≤ L) (hR : Rel X M) (hP : z_P G X M H) (hS : z_S G s.heap H locs) (hl : lv_has ls 4 (lwL G b i))
    (kk : ∀ (X' M' : St) (H1 : Heap) (locs1 : List Loc), Rel X' M' → z_P G X' M' H1 → z_S G s.heap H1 locs1 → W p l e room_1 s m args below meth c H1 locs1 102 26091 Q (F0 m 755 ls [])) : W p l e room_1 s m args below meth c H locs 102 26091 Q (F0 m 276 ls []) := by
  obtain ⟨r, X', M', h1, h2, h3⟩ : PB (f_X9_code 5000 (xs (i + 1)) X) (f_X10_code 5000 (xs (i + 1)) M) := p_code hR
  refine lv_aload_n E.1 E.2.1 dL_law_276 rfl (lv_at hl 1 rfl) ?_
  refine lw_arg E hX hbl hbA hL hS hl 1 (by omega) (by decide) dL_law_277 dL_law_278 dL_law_279 dL_law_280 dL_law_281 ?_
  refine z_ci (z_runV (o := 0) (ci := 9) E hK hP hS (c_X9_code hq h1) cv_X9_code tw778 rfl (by decide) rfl rfl ⟨(Nat.le_of_ble_eq_true rfl), (Nat.le_of_ble_eq_true rfl)⟩ ⟨(Nat.le_of_ble_eq_true rfl), (Nat.le_of_ble_eq_true rfl)⟩ hl.1 (Nat.le_of_ble_eq_true rfl) rfl dL_law_282) hS (fun H locs hP hS => ?_)
  refine lv_aload_n E.1 E.2.1 dL_law_285 rfl (lv_at hl 2 rfl) ?_
  refine lw_arg E hX hbl hbA hL hS hl 1 (by omega) (by decide) dL_law_286 dL_law_287 dL_law_288 dL_law_289 dL_law_290 ?_
  refine z_ci (z_runV (o := 65) (ci := 10) E hK hP hS (c_X10_code hq h2) cv_X10_code tw1336 rfl (by decide) rfl rfl ⟨(Nat.le_of_ble_eq_true rfl), (Nat.le_of_ble_eq_true rfl)⟩ ⟨(Nat.le_of_ble_eq_true rfl), (Nat.le_of_ble_eq_true rfl)⟩ hl.1 (Nat.le_of_ble_eq_true rfl) rfl dL_law_291) hS (fun H locs hP hS => ?_)
  exact lv_icmp_eq (tgt := 755) E.1 E.2.1 dL_law_294 (by decide) (fun _ => kk _ _ _ _ h3 hP hS) (fun h => absurd rfl h)
set_option maxRecDepth 20000 in
theorem lc_cache (E : CallFix p m c cL_law 4 s args lw_good RL) (hK : z_kW G s) (hq : z_inj (gq G)) (hX : va_X b L xs s s.heap) (hbl : b < s.heap.size) (hbA : ¬ z_Aq (gq G) b) (hL : L ≤ 2048) (hi : i + 4 ≤ L) (hR : Rel X M) (hP : z_P G X M H) (hS : z_S G s.heap H locs) (hl : lv_has ls 4 (lwL G b i))
    (kk : ∀ (X' M' : St) (H1 : Heap) (locs1 : List Loc), Rel X' M' → z_P G X' M' H1 → z_S G s.heap H1 locs1 → W p l e room_1 s m args below meth c H1 locs1 102 26091 Q (F0 m 755 ls [])) : W p l e room_1 s m args below meth c H locs 102 26091 Q (F0 m 299 ls []) := by
  obtain ⟨r, X', M', h1, h2, h3⟩ : PB (f_X9_cache 5000 (xs (i + 1)) (xs (i + 2)) X) (f_X10_cache 5000 (xs (i + 1)) (xs (i + 2)) M) := p_cache (Nat.le_refl 5000) hR
  refine lv_aload_n E.1 E.2.1 dL_law_299 rfl (lv_at hl 1 rfl) ?_
  refine lw_arg E hX hbl hbA hL hS hl 1 (by omega) (by decide) dL_law_300 dL_law_301 dL_law_302 dL_law_303 dL_law_304 ?_
  refine lw_arg E hX hbl hbA hL hS hl 2 (by omega) (by decide) dL_law_305 dL_law_306 dL_law_307 dL_law_308 dL_law_309 ?_
  refine z_ci (z_runV (o := 0) (ci := 9) E hK hP hS (c_X9_cache hq h1) cv_X9_cache tw783 rfl (by decide) rfl rfl ⟨(Nat.le_of_ble_eq_true rfl), (Nat.le_of_ble_eq_true rfl)⟩ ⟨(Nat.le_of_ble_eq_true rfl), (Nat.le_of_ble_eq_true rfl)⟩ hl.1 (Nat.le_of_ble_eq_true rfl) rfl dL_law_310) hS (fun H locs hP hS => ?_)
  refine lv_aload_n E.1 E.2.1 dL_law_313 rfl (lv_at hl 2 rfl) ?_
  refine lw_arg E hX hbl hbA hL hS hl 1 (by omega) (by decide) dL_law_314 dL_law_315 dL_law_316 dL_law_317 dL_law_318 ?_
  refine lw_arg E hX hbl hbA hL hS hl 2 (by omega) (by decide) dL_law_319 dL_law_320 dL_law_321 dL_law_322 dL_law_323 ?_
  refine z_ci (z_runV (o := 65) (ci := 10) E hK hP hS (c_X10_cache hq h2) cv_X10_cache tw1351 rfl (by decide) rfl rfl ⟨(Nat.le_of_ble_eq_true rfl), (Nat.le_of_ble_eq_true rfl)⟩ ⟨(Nat.le_of_ble_eq_true rfl), (Nat.le_of_ble_eq_true rfl)⟩ hl.1 (Nat.le_of_ble_eq_true rfl) rfl dL_law_324) hS (fun H locs hP hS => ?_)
  exact lv_icmp_eq (tgt := 755) E.1 E.2.1 dL_law_327 (by decide) (fun _ => kk _ _ _ _ h3 hP hS) (fun h => absurd rfl h)
set_option maxRecDepth 20000 in
theorem lc_thinks (E : CallFix p m c cL_law 4 s args lw_good RL) (hK : z_kW G s) (hq : z_inj (gq G)) (hX : va_X b L xs s s.heap) (hbl : b < s.heap.size) (hbA : ¬ z_Aq (gq G) b) (hL : L ≤ 2048) (hi : i + 4 ≤ L) (hR : Rel X M) (hP : z_P G X M H) (hS : z_S G s.heap H locs) (hl : lv_has ls 4 (lwL G b i))
    (kk : ∀ (X' M' : St) (H1 : Heap) (locs1 : List Loc), Rel X' M' → z_P G X' M' H1 → z_S G s.heap H1 locs1 → W p l e room_1 s m args below meth c H1 locs1 102 26091 Q (F0 m 755 ls [])) : W p l e room_1 s m args below meth c H locs 102 26091 Q (F0 m 332 ls []) := by
  obtain ⟨r, X', M', h1, h2, h3⟩ : PB (f_X9_thinks 5000 (xs (i + 1)) X) (f_X10_thinks 5000 (xs (i + 1)) M) := p_thinks (Nat.le_refl 5000) hR
  refine lv_aload_n E.1 E.2.1 dL_law_332 rfl (lv_at hl 1 rfl) ?_
  refine lw_arg E hX hbl hbA hL hS hl 1 (by omega) (by decide) dL_law_333 dL_law_334 dL_law_335 dL_law_336 dL_law_337 ?_
  refine z_ci (z_runV (o := 0) (ci := 9) E hK hP hS (c_X9_thinks hq h1) cv_X9_thinks tw796 rfl (by decide) rfl rfl ⟨(Nat.le_of_ble_eq_true rfl), (Nat.le_of_ble_eq_true rfl)⟩ ⟨(Nat.le_of_ble_eq_true rfl), (Nat.le_of_ble_eq_true rfl)⟩ hl.1 (Nat.le_of_ble_eq_true rfl) rfl dL_law_338) hS (fun H locs hP hS => ?_)
  refine lv_aload_n E.1 E.2.1 dL_law_341 rfl (lv_at hl 2 rfl) ?_
  refine lw_arg E hX hbl hbA hL hS hl 1 (by omega) (by decide) dL_law_342 dL_law_343 dL_law_344 dL_law_345 dL_law_346 ?_
  refine z_ci (z_runV (o := 65) (ci := 10) E hK hP hS (c_X10_thinks hq h2) cv_X10_thinks tw1359 rfl (by decide) rfl rfl ⟨(Nat.le_of_ble_eq_true rfl), (Nat.le_of_ble_eq_true rfl)⟩ ⟨(Nat.le_of_ble_eq_true rfl), (Nat.le_of_ble_eq_true rfl)⟩ hl.1 (Nat.le_of_ble_eq_true rfl) rfl dL_law_347) hS (fun H locs hP hS => ?_)
  exact lv_icmp_eq (tgt := 755) E.1 E.2.1 dL_law_350 (by decide) (fun _ => kk _ _ _ _ h3 hP hS) (fun h => absurd rfl h)
set_option maxRecDepth 20000 in
theorem lc_with (E : CallFix p m c cL_law 4 s args lw_good RL) (hK : z_kW G s) (hq : z_inj (gq G)) (hX : va_X b L xs s s.heap) (hbl : b < s.heap.size) (hbA : ¬ z_Aq (gq G) b) (hL : L ≤ 2048) (hi : i + 4 ≤ L) (hR : Rel X M) (hP : z_P G X M H) (hS : z_S G s.heap H locs) (hl : lv_has ls 4 (lwL G b i))
    (kk : ∀ (X' M' : St) (H1 : Heap) (locs1 : List Loc), Rel X' M' → z_P G X' M' H1 → z_S G s.heap H1 locs1 → W p l e room_1 s m args below meth c H1 locs1 102 26091 Q (F0 m 755 ls [])) : W p l e room_1 s m args below meth c H locs 102 26091 Q (F0 m 355 ls []) := by
  obtain ⟨r, X', M', h1, h2, h3⟩ : PB (f_X9_with 5000 (xs (i + 1)) (xs (i + 2)) (xs (i + 3)) X) (f_X10_with 5000 (xs (i + 1)) (xs (i + 2)) (xs (i + 3)) M) := p_with (Nat.le_refl 5000) hR
  refine lv_aload_n E.1 E.2.1 dL_law_355 rfl (lv_at hl 1 rfl) ?_
  refine lw_arg E hX hbl hbA hL hS hl 1 (by omega) (by decide) dL_law_356 dL_law_357 dL_law_358 dL_law_359 dL_law_360 ?_
  refine lw_arg E hX hbl hbA hL hS hl 2 (by omega) (by decide) dL_law_361 dL_law_362 dL_law_363 dL_law_364 dL_law_365 ?_
  refine lw_arg E hX hbl hbA hL hS hl 3 (by omega) (by decide) dL_law_366 dL_law_367 dL_law_368 dL_law_369 dL_law_370 ?_
  refine z_ci (z_runV (o := 0) (ci := 9) E hK hP hS (c_X9_with hq h1) cv_X9_with tw800 rfl (by decide) rfl rfl ⟨(Nat.le_of_ble_eq_true rfl), (Nat.le_of_ble_eq_true rfl)⟩ ⟨(Nat.le_of_ble_eq_true rfl), (Nat.le_of_ble_eq_true rfl)⟩ hl.1 (Nat.le_of_ble_eq_true rfl) rfl dL_law_371) hS (fun H locs hP hS => ?_)
  refine lv_aload_n E.1 E.2.1 dL_law_374 rfl (lv_at hl 2 rfl) ?_
  refine lw_arg E hX hbl hbA hL hS hl 1 (by omega) (by decide) dL_law_375 dL_law_376 dL_law_377 dL_law_378 dL_law_379 ?_
  refine lw_arg E hX hbl hbA hL hS hl 2 (by omega) (by decide) dL_law_380 dL_law_381 dL_law_382 dL_law_383 dL_law_384 ?_
  refine lw_arg E hX hbl hbA hL hS hl 3 (by omega) (by decide) dL_law_385 dL_law_386 dL_law_387 dL_law_388 dL_law_389 ?_
  refine z_ci (z_runV (o := 65) (ci := 10) E hK hP hS (c_X10_with hq h2) cv_X10_with tw1379 rfl (by decide) rfl rfl ⟨(Nat.le_of_ble_eq_true rfl), (Nat.le_of_ble_eq_true rfl)⟩ ⟨(Nat.le_of_ble_eq_true rfl), (Nat.le_of_ble_eq_true rfl)⟩ hl.1 (Nat.le_of_ble_eq_true rfl) rfl dL_law_390) hS (fun H locs hP hS => ?_)
  exact lv_icmp_eq (tgt := 755) E.1 E.2.1 dL_law_393 (by decide) (fun _ => kk _ _ _ _ h3 hP hS) (fun h => absurd rfl h)
set_option maxRecDepth 20000 in
theorem lc_solve (E : CallFix p m c cL_law 4 s args lw_good RL) (hK : z_kW G s) (hq : z_inj (gq G)) (hX : va_X b L xs s s.heap) (hbl : b < s.heap.size) (hbA : ¬ z_Aq (gq G) b) (hL : L ≤ 2048) (hi : i + 4 ≤ L) (hR : Rel X M) (hP : z_P G X M H) (hS : z_S G s.heap H locs) (hl : lv_has ls 4 (lwL G b i))
    (kk : ∀ (X' M' : St) (H1 : Heap) (locs1 : List Loc), Rel X' M' → z_P G X' M' H1 → z_S G s.heap H1 locs1 → W p l e room_1 s m args below meth c H1 locs1 102 26091 Q (F0 m 755 ls [])) : W p l e room_1 s m args below meth c H locs 102 26091 Q (F0 m 398 ls []) := by
  obtain ⟨r, X', M', h1, h2, h3⟩ : PB (f_X9_solve 5000 (xs (i + 1)) (xs (i + 2)) X) (f_X10_solve 5000 (xs (i + 1)) (xs (i + 2)) M) := p_solve (Nat.le_refl 5000) hR
  refine lv_aload_n E.1 E.2.1 dL_law_398 rfl (lv_at hl 1 rfl) ?_
  refine lw_arg E hX hbl hbA hL hS hl 1 (by omega) (by decide) dL_law_399 dL_law_400 dL_law_401 dL_law_402 dL_law_403 ?_
  refine lw_arg E hX hbl hbA hL hS hl 2 (by omega) (by decide) dL_law_404 dL_law_405 dL_law_406 dL_law_407 dL_law_408 ?_
  refine z_ci (z_runV (o := 0) (ci := 9) E hK hP hS (c_X9_solve hq h1) cv_X9_solve tw808 rfl (by decide) rfl rfl ⟨(Nat.le_of_ble_eq_true rfl), (Nat.le_of_ble_eq_true rfl)⟩ ⟨(Nat.le_of_ble_eq_true rfl), (Nat.le_of_ble_eq_true rfl)⟩ hl.1 (Nat.le_of_ble_eq_true rfl) rfl dL_law_409) hS (fun H locs hP hS => ?_)
  refine lv_aload_n E.1 E.2.1 dL_law_412 rfl (lv_at hl 2 rfl) ?_
  refine lw_arg E hX hbl hbA hL hS hl 1 (by omega) (by decide) dL_law_413 dL_law_414 dL_law_415 dL_law_416 dL_law_417 ?_
  refine lw_arg E hX hbl hbA hL hS hl 2 (by omega) (by decide) dL_law_418 dL_law_419 dL_law_420 dL_law_421 dL_law_422 ?_
  refine z_ci (z_runV (o := 65) (ci := 10) E hK hP hS (c_X10_solve hq h2) cv_X10_solve tw1383 rfl (by decide) rfl rfl ⟨(Nat.le_of_ble_eq_true rfl), (Nat.le_of_ble_eq_true rfl)⟩ ⟨(Nat.le_of_ble_eq_true rfl), (Nat.le_of_ble_eq_true rfl)⟩ hl.1 (Nat.le_of_ble_eq_true rfl) rfl dL_law_423) hS (fun H locs hP hS => ?_)
  exact lv_icmp_eq (tgt := 755) E.1 E.2.1 dL_law_426 (by decide) (fun _ => kk _ _ _ _ h3 hP hS) (fun h => absurd rfl h)
set_option maxRecDepth 20000 in
theorem lc_fewest (E : CallFix p m c cL_law 4 s args lw_good RL) (hK : z_kW G s) (hq : z_inj (gq G)) (hX : va_X b L xs s s.heap) (hbl : b < s.heap.size) (hbA : ¬ z_Aq (gq G) b) (hL : L ≤ 2048) (hi : i + 4 ≤ L) (hR : Rel X M) (hP : z_P G X M H) (hS : z_S G s.heap H locs) (hl : lv_has ls 4 (lwL G b i))
    (kk : ∀ (X' M' : St) (H1 : Heap) (locs1 : List Loc), Rel X' M' → z_P G X' M' H1 → z_S G s.heap H1 locs1 → W p l e room_1 s m args below meth c H1 locs1 102 26091 Q (F0 m 755 ls [])) : W p l e room_1 s m args below meth c H locs 102 26091 Q (F0 m 431 ls []) := by
  obtain ⟨r, X', M', h1, h2, h3⟩ : PB (f_X9_fewest 5000 (xs (i + 1)) (xs (i + 2)) X) (f_X10_fewest 5000 (xs (i + 1)) (xs (i + 2)) M) := p_fewest (Nat.le_refl 5000) hR
  refine lv_aload_n E.1 E.2.1 dL_law_431 rfl (lv_at hl 1 rfl) ?_
  refine lw_arg E hX hbl hbA hL hS hl 1 (by omega) (by decide) dL_law_432 dL_law_433 dL_law_434 dL_law_435 dL_law_436 ?_
  refine lw_arg E hX hbl hbA hL hS hl 2 (by omega) (by decide) dL_law_437 dL_law_438 dL_law_439 dL_law_440 dL_law_441 ?_
  refine z_ci (z_runV (o := 0) (ci := 9) E hK hP hS (c_X9_fewest hq h1) cv_X9_fewest tw817 rfl (by decide) rfl rfl ⟨(Nat.le_of_ble_eq_true rfl), (Nat.le_of_ble_eq_true rfl)⟩ ⟨(Nat.le_of_ble_eq_true rfl), (Nat.le_of_ble_eq_true rfl)⟩ hl.1 (Nat.le_of_ble_eq_true rfl) rfl dL_law_442) hS (fun H locs hP hS => ?_)
  refine lv_aload_n E.1 E.2.1 dL_law_445 rfl (lv_at hl 2 rfl) ?_
  refine lw_arg E hX hbl hbA hL hS hl 1 (by omega) (by decide) dL_law_446 dL_law_447 dL_law_448 dL_law_449 dL_law_450 ?_
  refine lw_arg E hX hbl hbA hL hS hl 2 (by omega) (by decide) dL_law_451 dL_law_452 dL_law_453 dL_law_454 dL_law_455 ?_
  refine z_ci (z_runV (o := 65) (ci := 10) E hK hP hS (c_X10_fewest hq h2) cv_X10_fewest tw1388 rfl (by decide) rfl rfl ⟨(Nat.le_of_ble_eq_true rfl), (Nat.le_of_ble_eq_true rfl)⟩ ⟨(Nat.le_of_ble_eq_true rfl), (Nat.le_of_ble_eq_true rfl)⟩ hl.1 (Nat.le_of_ble_eq_true rfl) rfl dL_law_456) hS (fun H locs hP hS => ?_)
  exact lv_icmp_eq (tgt := 755) E.1 E.2.1 dL_law_459 (by decide) (fun _ => kk _ _ _ _ h3 hP hS) (fun h => absurd rfl h)
set_option maxRecDepth 20000 in
theorem lc_pure (E : CallFix p m c cL_law 4 s args lw_good RL) (hK : z_kW G s) (hq : z_inj (gq G)) (hX : va_X b L xs s s.heap) (hbl : b < s.heap.size) (hbA : ¬ z_Aq (gq G) b) (hL : L ≤ 2048) (hi : i + 4 ≤ L) (hR : Rel X M) (hP : z_P G X M H) (hS : z_S G s.heap H locs) (hl : lv_has ls 4 (lwL G b i))
    (kk : ∀ (X' M' : St) (H1 : Heap) (locs1 : List Loc), Rel X' M' → z_P G X' M' H1 → z_S G s.heap H1 locs1 → W p l e room_1 s m args below meth c H1 locs1 102 26091 Q (F0 m 755 ls [])) : W p l e room_1 s m args below meth c H locs 102 26091 Q (F0 m 464 ls []) := by
  obtain ⟨r, X', M', h1, h2, h3⟩ : PB (f_X9_pure 5000  X) (f_X10_pure 5000  M) := p_pure (Nat.le_refl 5000) hR
  refine lv_aload_n E.1 E.2.1 dL_law_464 rfl (lv_at hl 1 rfl) ?_
  refine z_ci (z_runV (o := 0) (ci := 9) E hK hP hS (c_X9_pure hq h1) cv_X9_pure tw821 rfl (by decide) rfl rfl ⟨(Nat.le_of_ble_eq_true rfl), (Nat.le_of_ble_eq_true rfl)⟩ ⟨(Nat.le_of_ble_eq_true rfl), (Nat.le_of_ble_eq_true rfl)⟩ hl.1 (Nat.le_of_ble_eq_true rfl) rfl dL_law_465) hS (fun H locs hP hS => ?_)
  refine lv_aload_n E.1 E.2.1 dL_law_468 rfl (lv_at hl 2 rfl) ?_
  refine z_ci (z_runV (o := 65) (ci := 10) E hK hP hS (c_X10_pure hq h2) cv_X10_pure tw1392 rfl (by decide) rfl rfl ⟨(Nat.le_of_ble_eq_true rfl), (Nat.le_of_ble_eq_true rfl)⟩ ⟨(Nat.le_of_ble_eq_true rfl), (Nat.le_of_ble_eq_true rfl)⟩ hl.1 (Nat.le_of_ble_eq_true rfl) rfl dL_law_469) hS (fun H locs hP hS => ?_)
  exact lv_icmp_eq (tgt := 755) E.1 E.2.1 dL_law_472 (by decide) (fun _ => kk _ _ _ _ h3 hP hS) (fun h => absurd rfl h)
set_option maxRecDepth 20000 in
theorem lc_changes (E : CallFix p m c cL_law 4 s args lw_good RL) (hK : z_kW G s) (hq : z_inj (gq G)) (hX : va_X b L xs s s.heap) (hbl : b < s.heap.size) (hbA : ¬ z_Aq (gq G) b) (hL : L ≤ 2048) (hi : i + 4 ≤ L) (hR : Rel X M) (hP : z_P G X M H) (hS : z_S G s.heap H locs) (hl : lv_has ls 4 (lwL G b i))
    (kk : ∀ (X' M' : St) (H1 : Heap) (locs1 : List Loc), Rel X' M' → z_P G X' M' H1 → z_S G s.heap H1 locs1 → W p l e room_1 s m args below meth c H1 locs1 102 26091 Q (F0 m 755 ls [])) : W p l e room_1 s m args below meth c H locs 102 26091 Q (F0 m 477 ls []) := by
  obtain ⟨r, X', M', h1, h2, h3⟩ : PB (f_X9_changes 5000  X) (f_X10_changes 5000  M) := p_changes (Nat.le_refl 5000) hR
  refine lv_aload_n E.1 E.2.1 dL_law_477 rfl (lv_at hl 1 rfl) ?_
  refine z_ci (z_runV (o := 0) (ci := 9) E hK hP hS (c_X9_changes hq h1) cv_X9_changes tw828 rfl (by decide) rfl rfl ⟨(Nat.le_of_ble_eq_true rfl), (Nat.le_of_ble_eq_true rfl)⟩ ⟨(Nat.le_of_ble_eq_true rfl), (Nat.le_of_ble_eq_true rfl)⟩ hl.1 (Nat.le_of_ble_eq_true rfl) rfl dL_law_478) hS (fun H locs hP hS => ?_)
  refine lv_aload_n E.1 E.2.1 dL_law_481 rfl (lv_at hl 2 rfl) ?_
  refine z_ci (z_runV (o := 65) (ci := 10) E hK hP hS (c_X10_changes hq h2) cv_X10_changes tw1396 rfl (by decide) rfl rfl ⟨(Nat.le_of_ble_eq_true rfl), (Nat.le_of_ble_eq_true rfl)⟩ ⟨(Nat.le_of_ble_eq_true rfl), (Nat.le_of_ble_eq_true rfl)⟩ hl.1 (Nat.le_of_ble_eq_true rfl) rfl dL_law_482) hS (fun H locs hP hS => ?_)
  exact lv_icmp_eq (tgt := 755) E.1 E.2.1 dL_law_485 (by decide) (fun _ => kk _ _ _ _ h3 hP hS) (fun h => absurd rfl h)
set_option maxRecDepth 20000 in
theorem lc_again (E : CallFix p m c cL_law 4 s args lw_good RL) (hK : z_kW G s) (hq : z_inj (gq G)) (hX : va_X b L xs s s.heap) (hbl : b < s.heap.size) (hbA : ¬ z_Aq (gq G) b) (hL : L ≤ 2048) (hi : i + 4 ≤ L) (hR : Rel X M) (hP : z_P G X M H) (hS : z_S G s.heap H locs) (hl : lv_has ls 4 (lwL G b i))
    (kk : ∀ (X' M' : St) (H1 : Heap) (locs1 : List Loc), Rel X' M' → z_P G X' M' H1 → z_S G s.heap H1 locs1 → W p l e room_1 s m args below meth c H1 locs1 102 26091 Q (F0 m 755 ls [])) : W p l e room_1 s m args below meth c H locs 102 26091 Q (F0 m 490 ls []) := by
  obtain ⟨r, X', M', h1, h2, h3⟩ : PB (f_X9_again 5000 (xs (i + 1)) (xs (i + 2)) X) (f_X10_again 5000 (xs (i + 1)) (xs (i + 2)) M) := p_again (Nat.le_refl 5000) hR
  refine lv_aload_n E.1 E.2.1 dL_law_490 rfl (lv_at hl 1 rfl) ?_
  refine lw_arg E hX hbl hbA hL hS hl 1 (by omega) (by decide) dL_law_491 dL_law_492 dL_law_493 dL_law_494 dL_law_495 ?_
  refine lw_arg E hX hbl hbA hL hS hl 2 (by omega) (by decide) dL_law_496 dL_law_497 dL_law_498 dL_law_499 dL_law_500 ?_
  refine z_ci (z_runV (o := 0) (ci := 9) E hK hP hS (c_X9_again hq h1) cv_X9_again tw833 rfl (by decide) rfl rfl ⟨(Nat.le_of_ble_eq_true rfl), (Nat.le_of_ble_eq_true rfl)⟩ ⟨(Nat.le_of_ble_eq_true rfl), (Nat.le_of_ble_eq_true rfl)⟩ hl.1 (Nat.le_of_ble_eq_true rfl) rfl dL_law_501) hS (fun H locs hP hS => ?_)
  refine lv_aload_n E.1 E.2.1 dL_law_504 rfl (lv_at hl 2 rfl) ?_
  refine lw_arg E hX hbl hbA hL hS hl 1 (by omega) (by decide) dL_law_505 dL_law_506 dL_law_507 dL_law_508 dL_law_509 ?_
  refine lw_arg E hX hbl hbA hL hS hl 2 (by omega) (by decide) dL_law_510 dL_law_511 dL_law_512 dL_law_513 dL_law_514 ?_
  refine z_ci (z_runV (o := 65) (ci := 10) E hK hP hS (c_X10_again hq h2) cv_X10_again tw1400 rfl (by decide) rfl rfl ⟨(Nat.le_of_ble_eq_true rfl), (Nat.le_of_ble_eq_true rfl)⟩ ⟨(Nat.le_of_ble_eq_true rfl), (Nat.le_of_ble_eq_true rfl)⟩ hl.1 (Nat.le_of_ble_eq_true rfl) rfl dL_law_515) hS (fun H locs hP hS => ?_)
  exact lv_icmp_eq (tgt := 755) E.1 E.2.1 dL_law_518 (by decide) (fun _ => kk _ _ _ _ h3 hP hS) (fun h => absurd rfl h)
set_option maxRecDepth 20000 in
theorem lc_likely (E : CallFix p m c cL_law 4 s args lw_good RL) (hK : z_kW G s) (hq : z_inj (gq G)) (hX : va_X b L xs s s.heap) (hbl : b < s.heap.size) (hbA : ¬ z_Aq (gq G) b) (hL : L ≤ 2048) (hi : i + 4 ≤ L) (hR : Rel X M) (hP : z_P G X M H) (hS : z_S G s.heap H locs) (hl : lv_has ls 4 (lwL G b i))
    (kk : ∀ (X' M' : St) (H1 : Heap) (locs1 : List Loc), Rel X' M' → z_P G X' M' H1 → z_S G s.heap H1 locs1 → W p l e room_1 s m args below meth c H1 locs1 102 26091 Q (F0 m 755 ls [])) : W p l e room_1 s m args below meth c H locs 102 26091 Q (F0 m 523 ls []) := by
  obtain ⟨r, X', M', h1, h2, h3⟩ : PB (f_X9_likely 5000 (xs (i + 1)) (xs (i + 2)) X) (f_X10_likely 5000 (xs (i + 1)) (xs (i + 2)) M) := p_likely (Nat.le_refl 5000) hR
  refine lv_aload_n E.1 E.2.1 dL_law_523 rfl (lv_at hl 1 rfl) ?_
  refine lw_arg E hX hbl hbA hL hS hl 1 (by omega) (by decide) dL_law_524 dL_law_525 dL_law_526 dL_law_527 dL_law_528 ?_
  refine lw_arg E hX hbl hbA hL hS hl 2 (by omega) (by decide) dL_law_529 dL_law_530 dL_law_531 dL_law_532 dL_law_533 ?_
  refine z_cl (z_runV (o := 0) (ci := 9) E hK hP hS (c_X9_likely hq h1) cv_X9_likely tw840 rfl (by decide) rfl rfl ⟨(Nat.le_of_ble_eq_true rfl), (Nat.le_of_ble_eq_true rfl)⟩ ⟨(Nat.le_of_ble_eq_true rfl), (Nat.le_of_ble_eq_true rfl)⟩ hl.1 (Nat.le_of_ble_eq_true rfl) rfl dL_law_534) hS (fun H locs hP hS => ?_)
  refine lv_aload_n E.1 E.2.1 dL_law_537 rfl (lv_at hl 2 rfl) ?_
  refine lw_arg E hX hbl hbA hL hS hl 1 (by omega) (by decide) dL_law_538 dL_law_539 dL_law_540 dL_law_541 dL_law_542 ?_
  refine lw_arg E hX hbl hbA hL hS hl 2 (by omega) (by decide) dL_law_543 dL_law_544 dL_law_545 dL_law_546 dL_law_547 ?_
  refine z_cl (z_runV (o := 65) (ci := 10) E hK hP hS (c_X10_likely hq h2) cv_X10_likely tw1404 rfl (by decide) rfl rfl ⟨(Nat.le_of_ble_eq_true rfl), (Nat.le_of_ble_eq_true rfl)⟩ ⟨(Nat.le_of_ble_eq_true rfl), (Nat.le_of_ble_eq_true rfl)⟩ hl.1 (Nat.le_of_ble_eq_true rfl) rfl dL_law_548) hS (fun H locs hP hS => ?_)
  refine W.lcmp E.1 E.2.1 dL_law_551 ?_
  exact lv_if_eq (tgt := 755) E.1 E.2.1 dL_law_552 (by decide) (fun _ => kk _ _ _ _ h3 hP hS) (fun h => absurd (lg_cmp_self r) h)
set_option maxRecDepth 20000 in
theorem lc_mean (E : CallFix p m c cL_law 4 s args lw_good RL) (hK : z_kW G s) (hq : z_inj (gq G)) (hX : va_X b L xs s s.heap) (hbl : b < s.heap.size) (hbA : ¬ z_Aq (gq G) b) (hL : L ≤ 2048) (hi : i + 4 ≤ L) (hR : Rel X M) (hP : z_P G X M H) (hS : z_S G s.heap H locs) (hl : lv_has ls 4 (lwL G b i))
    (kk : ∀ (X' M' : St) (H1 : Heap) (locs1 : List Loc), Rel X' M' → z_P G X' M' H1 → z_S G s.heap H1 locs1 → W p l e room_1 s m args below meth c H1 locs1 102 26091 Q (F0 m 755 ls [])) : W p l e room_1 s m args below meth c H locs 102 26091 Q (F0 m 557 ls []) := by
  obtain ⟨r, X', M', h1, h2, h3⟩ : PB (f_X9_mean 5000 (xs (i + 1)) (xs (i + 2)) X) (f_X10_mean 5000 (xs (i + 1)) (xs (i + 2)) M) := p_mean (Nat.le_refl 5000) hR
  refine lv_aload_n E.1 E.2.1 dL_law_557 rfl (lv_at hl 1 rfl) ?_
  refine lw_arg E hX hbl hbA hL hS hl 1 (by omega) (by decide) dL_law_558 dL_law_559 dL_law_560 dL_law_561 dL_law_562 ?_
  refine lw_arg E hX hbl hbA hL hS hl 2 (by omega) (by decide) dL_law_563 dL_law_564 dL_law_565 dL_law_566 dL_law_567 ?_
  refine z_cl (z_runV (o := 0) (ci := 9) E hK hP hS (c_X9_mean hq h1) cv_X9_mean tw855 rfl (by decide) rfl rfl ⟨(Nat.le_of_ble_eq_true rfl), (Nat.le_of_ble_eq_true rfl)⟩ ⟨(Nat.le_of_ble_eq_true rfl), (Nat.le_of_ble_eq_true rfl)⟩ hl.1 (Nat.le_of_ble_eq_true rfl) rfl dL_law_568) hS (fun H locs hP hS => ?_)
  refine lv_aload_n E.1 E.2.1 dL_law_571 rfl (lv_at hl 2 rfl) ?_
  refine lw_arg E hX hbl hbA hL hS hl 1 (by omega) (by decide) dL_law_572 dL_law_573 dL_law_574 dL_law_575 dL_law_576 ?_
  refine lw_arg E hX hbl hbA hL hS hl 2 (by omega) (by decide) dL_law_577 dL_law_578 dL_law_579 dL_law_580 dL_law_581 ?_
  refine z_cl (z_runV (o := 65) (ci := 10) E hK hP hS (c_X10_mean hq h2) cv_X10_mean tw1419 rfl (by decide) rfl rfl ⟨(Nat.le_of_ble_eq_true rfl), (Nat.le_of_ble_eq_true rfl)⟩ ⟨(Nat.le_of_ble_eq_true rfl), (Nat.le_of_ble_eq_true rfl)⟩ hl.1 (Nat.le_of_ble_eq_true rfl) rfl dL_law_582) hS (fun H locs hP hS => ?_)
  refine W.lcmp E.1 E.2.1 dL_law_585 ?_
  exact lv_if_eq (tgt := 755) E.1 E.2.1 dL_law_586 (by decide) (fun _ => kk _ _ _ _ h3 hP hS) (fun h => absurd (lg_cmp_self r) h)
set_option maxRecDepth 20000 in
theorem lc_whatIs (E : CallFix p m c cL_law 4 s args lw_good RL) (hK : z_kW G s) (hq : z_inj (gq G)) (hX : va_X b L xs s s.heap) (hbl : b < s.heap.size) (hbA : ¬ z_Aq (gq G) b) (hL : L ≤ 2048) (hi : i + 4 ≤ L) (hR : Rel X M) (hP : z_P G X M H) (hS : z_S G s.heap H locs) (hl : lv_has ls 4 (lwL G b i))
    (kk : ∀ (X' M' : St) (H1 : Heap) (locs1 : List Loc), Rel X' M' → z_P G X' M' H1 → z_S G s.heap H1 locs1 → W p l e room_1 s m args below meth c H1 locs1 102 26091 Q (F0 m 755 ls [])) : W p l e room_1 s m args below meth c H locs 102 26091 Q (F0 m 591 ls []) := by
  obtain ⟨r, X', M', h1, h2, h3⟩ : PB (f_X9_whatIs 5000 (xs (i + 1)) X) (f_X10_whatIs 5000 (xs (i + 1)) M) := p_whatIs (Nat.le_refl 5000) hR
  refine lv_aload_n E.1 E.2.1 dL_law_591 rfl (lv_at hl 1 rfl) ?_
  refine lw_arg E hX hbl hbA hL hS hl 1 (by omega) (by decide) dL_law_592 dL_law_593 dL_law_594 dL_law_595 dL_law_596 ?_
  refine z_ci (z_runV (o := 0) (ci := 9) E hK hP hS (c_X9_whatIs hq h1) cv_X9_whatIs tw860 rfl (by decide) rfl rfl ⟨(Nat.le_of_ble_eq_true rfl), (Nat.le_of_ble_eq_true rfl)⟩ ⟨(Nat.le_of_ble_eq_true rfl), (Nat.le_of_ble_eq_true rfl)⟩ hl.1 (Nat.le_of_ble_eq_true rfl) rfl dL_law_597) hS (fun H locs hP hS => ?_)
  refine lv_aload_n E.1 E.2.1 dL_law_600 rfl (lv_at hl 2 rfl) ?_
  refine lw_arg E hX hbl hbA hL hS hl 1 (by omega) (by decide) dL_law_601 dL_law_602 dL_law_603 dL_law_604 dL_law_605 ?_
  refine z_ci (z_runV (o := 65) (ci := 10) E hK hP hS (c_X10_whatIs hq h2) cv_X10_whatIs tw1424 rfl (by decide) rfl rfl ⟨(Nat.le_of_ble_eq_true rfl), (Nat.le_of_ble_eq_true rfl)⟩ ⟨(Nat.le_of_ble_eq_true rfl), (Nat.le_of_ble_eq_true rfl)⟩ hl.1 (Nat.le_of_ble_eq_true rfl) rfl dL_law_606) hS (fun H locs hP hS => ?_)
  exact lv_icmp_eq (tgt := 755) E.1 E.2.1 dL_law_609 (by decide) (fun _ => kk _ _ _ _ h3 hP hS) (fun h => absurd rfl h)
set_option maxRecDepth 20000 in
theorem lc_row (E : CallFix p m c cL_law 4 s args lw_good RL) (hK : z_kW G s) (hq : z_inj (gq G)) (hX : va_X b L xs s s.heap) (hbl : b < s.heap.size) (hbA : ¬ z_Aq (gq G) b) (hL : L ≤ 2048) (hi : i + 4 ≤ L) (hR : Rel X M) (hP : z_P G X M H) (hS : z_S G s.heap H locs) (hl : lv_has ls 4 (lwL G b i))
    (kk : ∀ (X' M' : St) (H1 : Heap) (locs1 : List Loc), Rel X' M' → z_P G X' M' H1 → z_S G s.heap H1 locs1 → W p l e room_1 s m args below meth c H1 locs1 102 26091 Q (F0 m 755 ls [])) : W p l e room_1 s m args below meth c H locs 102 26091 Q (F0 m 614 ls []) := by
  obtain ⟨r, X', M', h1, h2, h3⟩ : PB (f_X9_row 5000 (xs (i + 1)) X) (f_X10_row 5000 (xs (i + 1)) M) := p_row hR
  refine lv_aload_n E.1 E.2.1 dL_law_614 rfl (lv_at hl 1 rfl) ?_
  refine lw_arg E hX hbl hbA hL hS hl 1 (by omega) (by decide) dL_law_615 dL_law_616 dL_law_617 dL_law_618 dL_law_619 ?_
  refine z_ci (z_runV (o := 0) (ci := 9) E hK hP hS (c_X9_row hq h1) cv_X9_row tw868 rfl (by decide) rfl rfl ⟨(Nat.le_of_ble_eq_true rfl), (Nat.le_of_ble_eq_true rfl)⟩ ⟨(Nat.le_of_ble_eq_true rfl), (Nat.le_of_ble_eq_true rfl)⟩ hl.1 (Nat.le_of_ble_eq_true rfl) rfl dL_law_620) hS (fun H locs hP hS => ?_)
  refine lv_aload_n E.1 E.2.1 dL_law_623 rfl (lv_at hl 2 rfl) ?_
  refine lw_arg E hX hbl hbA hL hS hl 1 (by omega) (by decide) dL_law_624 dL_law_625 dL_law_626 dL_law_627 dL_law_628 ?_
  refine z_ci (z_runV (o := 65) (ci := 10) E hK hP hS (c_X10_row hq h2) cv_X10_row tw1432 rfl (by decide) rfl rfl ⟨(Nat.le_of_ble_eq_true rfl), (Nat.le_of_ble_eq_true rfl)⟩ ⟨(Nat.le_of_ble_eq_true rfl), (Nat.le_of_ble_eq_true rfl)⟩ hl.1 (Nat.le_of_ble_eq_true rfl) rfl dL_law_629) hS (fun H locs hP hS => ?_)
  exact lv_icmp_eq (tgt := 755) E.1 E.2.1 dL_law_632 (by decide) (fun _ => kk _ _ _ _ h3 hP hS) (fun h => absurd rfl h)
set_option maxRecDepth 20000 in
theorem lc_judge (E : CallFix p m c cL_law 4 s args lw_good RL) (hK : z_kW G s) (hq : z_inj (gq G)) (hX : va_X b L xs s s.heap) (hbl : b < s.heap.size) (hbA : ¬ z_Aq (gq G) b) (hL : L ≤ 2048) (hi : i + 4 ≤ L) (hR : Rel X M) (hP : z_P G X M H) (hS : z_S G s.heap H locs) (hl : lv_has ls 4 (lwL G b i))
    (kk : ∀ (X' M' : St) (H1 : Heap) (locs1 : List Loc), Rel X' M' → z_P G X' M' H1 → z_S G s.heap H1 locs1 → W p l e room_1 s m args below meth c H1 locs1 102 26091 Q (F0 m 755 ls [])) : W p l e room_1 s m args below meth c H locs 102 26091 Q (F0 m 637 ls []) := by
  obtain ⟨r, X', M', h1, h2, h3⟩ : PB (f_X9_judge 5000  X) (f_X10_judge 5000  M) := p_judge (Nat.le_refl 5000) hR
  refine lv_aload_n E.1 E.2.1 dL_law_637 rfl (lv_at hl 1 rfl) ?_
  refine z_ci (z_runV (o := 0) (ci := 9) E hK hP hS (c_X9_judge hq h1) cv_X9_judge tw872 rfl (by decide) rfl rfl ⟨(Nat.le_of_ble_eq_true rfl), (Nat.le_of_ble_eq_true rfl)⟩ ⟨(Nat.le_of_ble_eq_true rfl), (Nat.le_of_ble_eq_true rfl)⟩ hl.1 (Nat.le_of_ble_eq_true rfl) rfl dL_law_638) hS (fun H locs hP hS => ?_)
  refine lv_aload_n E.1 E.2.1 dL_law_641 rfl (lv_at hl 2 rfl) ?_
  refine z_ci (z_runV (o := 65) (ci := 10) E hK hP hS (c_X10_judge hq h2) cv_X10_judge tw1436 rfl (by decide) rfl rfl ⟨(Nat.le_of_ble_eq_true rfl), (Nat.le_of_ble_eq_true rfl)⟩ ⟨(Nat.le_of_ble_eq_true rfl), (Nat.le_of_ble_eq_true rfl)⟩ hl.1 (Nat.le_of_ble_eq_true rfl) rfl dL_law_642) hS (fun H locs hP hS => ?_)
  exact lv_icmp_eq (tgt := 755) E.1 E.2.1 dL_law_645 (by decide) (fun _ => kk _ _ _ _ h3 hP hS) (fun h => absurd rfl h)
set_option maxRecDepth 20000 in
theorem lc_clear (E : CallFix p m c cL_law 4 s args lw_good RL) (hK : z_kW G s) (hq : z_inj (gq G)) (hX : va_X b L xs s s.heap) (hbl : b < s.heap.size) (hbA : ¬ z_Aq (gq G) b) (hL : L ≤ 2048) (hi : i + 4 ≤ L) (hR : Rel X M) (hP : z_P G X M H) (hS : z_S G s.heap H locs) (hl : lv_has ls 4 (lwL G b i))
    (kk : ∀ (X' M' : St) (H1 : Heap) (locs1 : List Loc), Rel X' M' → z_P G X' M' H1 → z_S G s.heap H1 locs1 → W p l e room_1 s m args below meth c H1 locs1 102 26091 Q (F0 m 755 ls [])) : W p l e room_1 s m args below meth c H locs 102 26091 Q (F0 m 650 ls []) := by
  obtain ⟨r, X', M', h1, h2, h3⟩ : PB (f_X9_clear 5000  X) (f_X10_clear 5000  M) := p_clear hR
  refine lv_aload_n E.1 E.2.1 dL_law_650 rfl (lv_at hl 1 rfl) ?_
  refine z_ci (z_runV (o := 0) (ci := 9) E hK hP hS (c_X9_clear hq h1) cv_X9_clear tw876 rfl (by decide) rfl rfl ⟨(Nat.le_of_ble_eq_true rfl), (Nat.le_of_ble_eq_true rfl)⟩ ⟨(Nat.le_of_ble_eq_true rfl), (Nat.le_of_ble_eq_true rfl)⟩ hl.1 (Nat.le_of_ble_eq_true rfl) rfl dL_law_651) hS (fun H locs hP hS => ?_)
  refine lv_aload_n E.1 E.2.1 dL_law_654 rfl (lv_at hl 2 rfl) ?_
  refine z_ci (z_runV (o := 65) (ci := 10) E hK hP hS (c_X10_clear hq h2) cv_X10_clear tw1440 rfl (by decide) rfl rfl ⟨(Nat.le_of_ble_eq_true rfl), (Nat.le_of_ble_eq_true rfl)⟩ ⟨(Nat.le_of_ble_eq_true rfl), (Nat.le_of_ble_eq_true rfl)⟩ hl.1 (Nat.le_of_ble_eq_true rfl) rfl dL_law_655) hS (fun H locs hP hS => ?_)
  exact lv_icmp_eq (tgt := 755) E.1 E.2.1 dL_law_658 (by decide) (fun _ => kk _ _ _ _ h3 hP hS) (fun h => absurd rfl h)
set_option maxRecDepth 20000 in
theorem lc_lots (E : CallFix p m c cL_law 4 s args lw_good RL) (hK : z_kW G s) (hq : z_inj (gq G)) (hX : va_X b L xs s s.heap) (hbl : b < s.heap.size) (hbA : ¬ z_Aq (gq G) b) (hL : L ≤ 2048) (hi : i + 4 ≤ L) (hR : Rel X M) (hP : z_P G X M H) (hS : z_S G s.heap H locs) (hl : lv_has ls 4 (lwL G b i))
    (kk : ∀ (X' M' : St) (H1 : Heap) (locs1 : List Loc), Rel X' M' → z_P G X' M' H1 → z_S G s.heap H1 locs1 → W p l e room_1 s m args below meth c H1 locs1 102 26091 Q (F0 m 755 ls [])) : W p l e room_1 s m args below meth c H locs 102 26091 Q (F0 m 663 ls []) := by
  obtain ⟨r, X', M', h1, h2, h3⟩ : PB (f_X9_lots 5000 (xs (i + 1)) (xs (i + 2)) (xs (i + 3)) X) (f_X10_lots 5000 (xs (i + 1)) (xs (i + 2)) (xs (i + 3)) M) := p_lots (Nat.le_refl 5000) hR
  refine lv_aload_n E.1 E.2.1 dL_law_663 rfl (lv_at hl 1 rfl) ?_
  refine lw_arg E hX hbl hbA hL hS hl 1 (by omega) (by decide) dL_law_664 dL_law_665 dL_law_666 dL_law_667 dL_law_668 ?_
  refine lw_arg E hX hbl hbA hL hS hl 2 (by omega) (by decide) dL_law_669 dL_law_670 dL_law_671 dL_law_672 dL_law_673 ?_
  refine lw_arg E hX hbl hbA hL hS hl 3 (by omega) (by decide) dL_law_674 dL_law_675 dL_law_676 dL_law_677 dL_law_678 ?_
  refine z_ci (z_runV (o := 0) (ci := 9) E hK hP hS (c_X9_lots hq h1) cv_X9_lots tw880 rfl (by decide) rfl rfl ⟨(Nat.le_of_ble_eq_true rfl), (Nat.le_of_ble_eq_true rfl)⟩ ⟨(Nat.le_of_ble_eq_true rfl), (Nat.le_of_ble_eq_true rfl)⟩ hl.1 (Nat.le_of_ble_eq_true rfl) rfl dL_law_679) hS (fun H locs hP hS => ?_)
  refine lv_aload_n E.1 E.2.1 dL_law_682 rfl (lv_at hl 2 rfl) ?_
  refine lw_arg E hX hbl hbA hL hS hl 1 (by omega) (by decide) dL_law_683 dL_law_684 dL_law_685 dL_law_686 dL_law_687 ?_
  refine lw_arg E hX hbl hbA hL hS hl 2 (by omega) (by decide) dL_law_688 dL_law_689 dL_law_690 dL_law_691 dL_law_692 ?_
  refine lw_arg E hX hbl hbA hL hS hl 3 (by omega) (by decide) dL_law_693 dL_law_694 dL_law_695 dL_law_696 dL_law_697 ?_
  refine z_ci (z_runV (o := 65) (ci := 10) E hK hP hS (c_X10_lots hq h2) cv_X10_lots tw1444 rfl (by decide) rfl rfl ⟨(Nat.le_of_ble_eq_true rfl), (Nat.le_of_ble_eq_true rfl)⟩ ⟨(Nat.le_of_ble_eq_true rfl), (Nat.le_of_ble_eq_true rfl)⟩ hl.1 (Nat.le_of_ble_eq_true rfl) rfl dL_law_698) hS (fun H locs hP hS => ?_)
  exact lv_icmp_eq (tgt := 755) E.1 E.2.1 dL_law_701 (by decide) (fun _ => kk _ _ _ _ h3 hP hS) (fun h => absurd rfl h)
set_option maxRecDepth 20000 in
theorem lc_image (E : CallFix p m c cL_law 4 s args lw_good RL) (hK : z_kW G s) (hq : z_inj (gq G)) (hX : va_X b L xs s s.heap) (hbl : b < s.heap.size) (hbA : ¬ z_Aq (gq G) b) (hL : L ≤ 2048) (hi : i + 4 ≤ L) (hR : Rel X M) (hP : z_P G X M H) (hS : z_S G s.heap H locs) (hl : lv_has ls 4 (lwL G b i))
    (kk : ∀ (X' M' : St) (H1 : Heap) (locs1 : List Loc), Rel X' M' → z_P G X' M' H1 → z_S G s.heap H1 locs1 → W p l e room_1 s m args below meth c H1 locs1 102 26091 Q (F0 m 755 ls [])) : W p l e room_1 s m args below meth c H locs 102 26091 Q (F0 m 706 ls []) := by
  obtain ⟨r, X', M', h1, h2, h3⟩ : PB (f_X9_image 5000  X) (f_X10_image 5000  M) := p_image (Nat.le_refl 5000) hR
  refine lv_aload_n E.1 E.2.1 dL_law_706 rfl (lv_at hl 1 rfl) ?_
  refine z_ci (z_runV (o := 0) (ci := 9) E hK hP hS (c_X9_image hq h1) cv_X9_image tw893 rfl (by decide) rfl rfl ⟨(Nat.le_of_ble_eq_true rfl), (Nat.le_of_ble_eq_true rfl)⟩ ⟨(Nat.le_of_ble_eq_true rfl), (Nat.le_of_ble_eq_true rfl)⟩ hl.1 (Nat.le_of_ble_eq_true rfl) rfl dL_law_707) hS (fun H locs hP hS => ?_)
  refine lv_aload_n E.1 E.2.1 dL_law_710 rfl (lv_at hl 2 rfl) ?_
  refine z_ci (z_runV (o := 65) (ci := 10) E hK hP hS (c_X10_image hq h2) cv_X10_image tw1455 rfl (by decide) rfl rfl ⟨(Nat.le_of_ble_eq_true rfl), (Nat.le_of_ble_eq_true rfl)⟩ ⟨(Nat.le_of_ble_eq_true rfl), (Nat.le_of_ble_eq_true rfl)⟩ hl.1 (Nat.le_of_ble_eq_true rfl) rfl dL_law_711) hS (fun H locs hP hS => ?_)
  exact lv_icmp_eq (tgt := 755) E.1 E.2.1 dL_law_714 (by decide) (fun _ => kk _ _ _ _ h3 hP hS) (fun h => absurd rfl h)
set_option maxRecDepth 20000 in
theorem lc_on (E : CallFix p m c cL_law 4 s args lw_good RL) (hK : z_kW G s) (hq : z_inj (gq G)) (hX : va_X b L xs s s.heap) (hbl : b < s.heap.size) (hbA : ¬ z_Aq (gq G) b) (hL : L ≤ 2048) (hi : i + 4 ≤ L) (hR : Rel X M) (hP : z_P G X M H) (hS : z_S G s.heap H locs) (hl : lv_has ls 4 (lwL G b i))
    (kk : ∀ (X' M' : St) (H1 : Heap) (locs1 : List Loc), Rel X' M' → z_P G X' M' H1 → z_S G s.heap H1 locs1 → W p l e room_1 s m args below meth c H1 locs1 102 26091 Q (F0 m 755 ls [])) : W p l e room_1 s m args below meth c H locs 102 26091 Q (F0 m 719 ls []) := by
  obtain ⟨r, X', M', h1, h2, h3⟩ : PB (f_X9_on 5000  X) (f_X10_on 5000  M) := p_on (Nat.le_refl 5000) hR
  refine lv_aload_n E.1 E.2.1 dL_law_719 rfl (lv_at hl 1 rfl) ?_
  refine z_ci (z_runV (o := 0) (ci := 9) E hK hP hS (c_X9_on hq h1) cv_X9_on tw906 rfl (by decide) rfl rfl ⟨(Nat.le_of_ble_eq_true rfl), (Nat.le_of_ble_eq_true rfl)⟩ ⟨(Nat.le_of_ble_eq_true rfl), (Nat.le_of_ble_eq_true rfl)⟩ hl.1 (Nat.le_of_ble_eq_true rfl) rfl dL_law_720) hS (fun H locs hP hS => ?_)
  refine lv_aload_n E.1 E.2.1 dL_law_723 rfl (lv_at hl 2 rfl) ?_
  refine z_ci (z_runV (o := 65) (ci := 10) E hK hP hS (c_X10_on hq h2) cv_X10_on tw1471 rfl (by decide) rfl rfl ⟨(Nat.le_of_ble_eq_true rfl), (Nat.le_of_ble_eq_true rfl)⟩ ⟨(Nat.le_of_ble_eq_true rfl), (Nat.le_of_ble_eq_true rfl)⟩ hl.1 (Nat.le_of_ble_eq_true rfl) rfl dL_law_724) hS (fun H locs hP hS => ?_)
  exact lv_icmp_eq (tgt := 755) E.1 E.2.1 dL_law_727 (by decide) (fun _ => kk _ _ _ _ h3 hP hS) (fun h => absurd rfl h)
set_option maxRecDepth 20000 in
theorem lc_count (E : CallFix p m c cL_law 4 s args lw_good RL) (hK : z_kW G s) (hq : z_inj (gq G)) (hX : va_X b L xs s s.heap) (hbl : b < s.heap.size) (hbA : ¬ z_Aq (gq G) b) (hL : L ≤ 2048) (hi : i + 4 ≤ L) (hR : Rel X M) (hP : z_P G X M H) (hS : z_S G s.heap H locs) (hl : lv_has ls 4 (lwL G b i))
    (kk : ∀ (X' M' : St) (H1 : Heap) (locs1 : List Loc), Rel X' M' → z_P G X' M' H1 → z_S G s.heap H1 locs1 → W p l e room_1 s m args below meth c H1 locs1 102 26091 Q (F0 m 755 ls [])) : W p l e room_1 s m args below meth c H locs 102 26091 Q (F0 m 732 ls []) := by
  obtain ⟨r, X', M', h1, h2, h3⟩ : PB (f_X9_count 5000 (xs (i + 1)) X) (f_X10_count 5000 (xs (i + 1)) M) := p_count (Nat.le_refl 5000) hR
  refine lv_aload_n E.1 E.2.1 dL_law_732 rfl (lv_at hl 1 rfl) ?_
  refine lw_arg E hX hbl hbA hL hS hl 1 (by omega) (by decide) dL_law_733 dL_law_734 dL_law_735 dL_law_736 dL_law_737 ?_
  refine z_ci (z_runV (o := 0) (ci := 9) E hK hP hS (c_X9_count hq h1) cv_X9_count tw910 rfl (by decide) rfl rfl ⟨(Nat.le_of_ble_eq_true rfl), (Nat.le_of_ble_eq_true rfl)⟩ ⟨(Nat.le_of_ble_eq_true rfl), (Nat.le_of_ble_eq_true rfl)⟩ hl.1 (Nat.le_of_ble_eq_true rfl) rfl dL_law_738) hS (fun H locs hP hS => ?_)
  refine lv_aload_n E.1 E.2.1 dL_law_741 rfl (lv_at hl 2 rfl) ?_
  refine lw_arg E hX hbl hbA hL hS hl 1 (by omega) (by decide) dL_law_742 dL_law_743 dL_law_744 dL_law_745 dL_law_746 ?_
  refine z_ci (z_runV (o := 65) (ci := 10) E hK hP hS (c_X10_count hq h2) cv_X10_count tw1475 rfl (by decide) rfl rfl ⟨(Nat.le_of_ble_eq_true rfl), (Nat.le_of_ble_eq_true rfl)⟩ ⟨(Nat.le_of_ble_eq_true rfl), (Nat.le_of_ble_eq_true rfl)⟩ hl.1 (Nat.le_of_ble_eq_true rfl) rfl dL_law_747) hS (fun H locs hP hS => ?_)
  exact lv_icmp_eq (tgt := 755) E.1 E.2.1 dL_law_750 (by decide) (fun _ => kk _ _ _ _ h3 hP hS) (fun h => absurd rfl h)
end LW
