/-! rows of the class's half (x_) and of the reference's half (m_) -/
def z_pr (X : St) : Nat := if X 29 6 = 0 then 49 else 2
theorem z_pr_kd {X : St} : z_kd (z_pr X) = 5 := by unfold z_pr; split <;> decide
theorem z_pr_65 {X : St} : z_pr X < 65 := by unfold z_pr; split <;> decide
theorem z_rf_pr {X M : St} : z_rf (z_cb X M) 29 6 = z_pr X := rfl
theorem z_bz {v : Int32} (h : v = 0 ∨ v = 1) : narrow .boolean (.int v) = .int v ∧ fits .boolean (.int v) = true := by
  rcases h with rfl | rfl <;> exact ⟨rfl, rfl⟩
/-- what a function answers -/
def z_bd {α β : Type} (x : Option (α × St)) (k : α → St → Option β) : Option β := match x with
  | none => none
  | some (a, S) => k a S
def z_bv {β : Type} (x : Option St) (k : St → Option β) : Option β := match x with
  | none => none
  | some S => k S
theorem z_bd_some {α β : Type} {x : Option (α × St)} {k : α → St → Option β} {y : β} (h : z_bd x k = some y) : ∃ a S, x = some (a, S) ∧ k a S = some y := by
  cases x with
  | none => cases h
  | some z => exact ⟨z.1, z.2, rfl, h⟩
theorem z_bv_some {β : Type} {x : Option St} {k : St → Option β} {y : β} (h : z_bv x k = some y) : ∃ S, x = some S ∧ k S = some y := by
  cases x with
  | none => cases h
  | some z => exact ⟨z, rfl, h⟩
/-- a guard: else the function has no answer -/
def z_gd {β : Type} (c : Prop) [Decidable c] (k : Option β) : Option β := if c then k else none
theorem z_gd_some {β : Type} {c : Prop} [Decidable c] {k : Option β} {y : β} (h : z_gd c k = some y) : c ∧ k = some y := by
  unfold z_gd at h
  by_cases hc : c
  · rw [if_pos hc] at h; exact ⟨hc, h⟩
  · rw [if_neg hc] at h; cases h
/-- an index in its row -/
abbrev z_in (i : Int32) (n : Nat) : Prop := 0 ≤ i ∧ i.toNatClampNeg < n
theorem z_in_vp {i : Int32} {n : Nat} (h : z_in i n) : vp_in i n := by
  intro q
  rcases q with q | q
  · exact absurd h.1 (Int32.not_le.mpr q)
  · exact absurd h.2 (Nat.not_lt.mpr q)
/-- a new state gets a name -/
def z_lt {β : Type} (S : St) (k : St → Option β) : Option β := k S
theorem z_ltX {β : Type} {G : Cx} {S M : St} {H : Heap} {k : St → Option β} {y : β} (hf : z_lt S k = some y) (hP : z_P G S M H) : ∃ S1, k S1 = some y ∧ z_P G S1 M H := ⟨S, hf, hP⟩
theorem z_ltM {β : Type} {G : Cx} {X S : St} {H : Heap} {k : St → Option β} {y : β} (hf : z_lt S k = some y) (hP : z_P G X S H) : ∃ S1, k S1 = some y ∧ z_P G X S1 H := ⟨S, hf, hP⟩
theorem z_ifp {β : Type} {c : Prop} {i : Decidable c} {A B : Option β} {y : β} (h : @ite _ c i A B = some y) (hc : c) : A = some y := by rw [if_pos hc] at h; exact h
theorem z_ifn {β : Type} {c : Prop} {i : Decidable c} {A B : Option β} {y : β} (h : @ite _ c i A B = some y) (hc : ¬ c) : B = some y := by rw [if_neg hc] at h; exact h
theorem z_no {β : Type} {A : Prop} {x : Option β} {y : β} (h : x = some y) (h2 : x = none) : A := by rw [h2] at h; cases h
/-- n ints of cell a over those of cell b -/
def z_cp (S : St) (a b n : Nat) : St := fun o k => if o = b then (if k < n then S a k else S b k) else S o k
section ZXM
variable {p : Program} {l : Launch} {e : Env} {R : Room} {s : State} {m : MethodId} {args : Array Value} {below : List Frame} {meth : Method} {c : Code} {H : Heap} {locs : List Loc} {cells slots : Nat} {Q : State → Prop}
variable {cc : ByteArray} {nL pc : Nat} {ls : Array Slot} {rest : List Value} {G : Cx} {X M X' M' : St} {own : String} {H0 : Heap}
theorem x_getI (E : CallFix p m c cc nL s args lw_good own) (hK : z_kW G s) (hP : z_P G X M H) {C : String} {T : u_T} {N ci k o index : Nat} (hin : ∀ w ∈ u_ws C T N, w ∈ lw_good) (hc : vwC[ci]? = some (C, T, N)) (hN : z_nf ci = N) (hlt : ci < 11) (hk : k < N) (hi : z_isR ci k = false) (ho : z_kd o = ci) (h65 : o < 65) (hlink : Cond.fieldLink own index (T k).1 (T k).2.1 (T k).2.2.1 ∈ lw_good) (hdg : decode cc pc = .ok (.getfield index, 3))
    (kk : W p l e R s m args below meth c H locs cells slots Q (F0 m (pc + 3) ls (.int (X o k) :: rest))) : W p l e R s m args below meth c H locs cells slots Q (F0 m pc ls (.ref (gq G o) :: rest)) :=
  z_getI E hK hP hin hc hN hlt hk hi ho hlink hdg (by rw [z_cbX h65]; exact kk)
theorem x_putI (E : CallFix p m c cc nL s args lw_good own) (hK : z_kW G s) (hq : z_inj (gq G)) (hP : z_P G X M H) (hS : z_S G s.heap H locs) {C : String} {T : u_T} {N ci k o index : Nat} {v : Int32} {ty : FieldType} (hin : ∀ w ∈ u_ws C T N, w ∈ lw_good) (ty0 : Nat → FieldType) (hty : ∀ k, k < N → parseFieldDescriptor (T k).2.2.1 = some (ty0 k)) (hnm : ∀ a, a < N → ∀ b, b < N → a ≠ b → (T a).2.1 ≠ (T b).2.1) (hc : vwC[ci]? = some (C, T, N)) (hN : z_nf ci = N) (hlt : ci < 11) (hk : k < N) (hi : z_isR ci k = false) (ho : z_kd o = ci) (h65 : o < 65) (hfin : (T k).2.2.2 = false) (hd : parseFieldDescriptor (T k).2.2.1 = some ty) (hnf : narrow ty (.int v) = .int v ∧ fits ty (.int v) = true) (hlink : Cond.fieldLink own index (T k).1 (T k).2.1 (T k).2.2.1 ∈ lw_good) (hdg : decode cc pc = .ok (.putfield index, 3))
    (kk : ∀ (H1 : Heap) (locs1 : List Loc), z_P G (z_wr X o k v) M H1 → z_S G s.heap H1 locs1 → W p l e R s m args below meth c H1 locs1 cells slots Q (F0 m (pc + 3) ls rest)) : W p l e R s m args below meth c H locs cells slots Q (F0 m pc ls (.int v :: .ref (gq G o) :: rest)) :=
  z_putI E hK hq hP hS hin ty0 hty hnm hc hN hlt hk hi ho hfin hd hnf.1 hnf.2 hlink hdg (fun H1 locs1 hP1 hS1 => kk H1 locs1 (by rw [z_cbwX h65] at hP1; exact hP1) hS1)
theorem x_ald (E : CallFix p m c cc nL s args lw_good own) (hK : z_kW G s) (hP : z_P G X M H) {o : Nat} {i : Int32} (ho : z_kd o = 11) (h65 : o < 65) (hin : z_in i (z_ln o)) (hdg : decode cc pc = .ok (.iaload, 1))
    (kk : W p l e R s m args below meth c H locs cells slots Q (F0 m (pc + 1) ls (.int (X o i.toNatClampNeg) :: rest))) : W p l e R s m args below meth c H locs cells slots Q (F0 m pc ls (.int i :: .ref (gq G o) :: rest)) :=
  z_ald E hK hP ho (z_in_vp hin) hdg (by rw [z_cbX h65]; exact kk)
theorem x_ast (E : CallFix p m c cc nL s args lw_good own) (hK : z_kW G s) (hq : z_inj (gq G)) (hP : z_P G X M H) (hS : z_S G s.heap H locs) {o : Nat} {i v : Int32} (ho : z_kd o = 11) (h65 : o < 65) (hin : z_in i (z_ln o)) (hdg : decode cc pc = .ok (.iastore, 1))
    (kk : ∀ (H1 : Heap) (locs1 : List Loc), z_P G (z_wr X o i.toNatClampNeg v) M H1 → z_S G s.heap H1 locs1 → W p l e R s m args below meth c H1 locs1 cells slots Q (F0 m (pc + 1) ls rest)) : W p l e R s m args below meth c H locs cells slots Q (F0 m pc ls (.int v :: .int i :: .ref (gq G o) :: rest)) :=
  z_ast E hK hq hP hS ho (z_in_vp hin) hdg (fun H1 locs1 hP1 hS1 => kk H1 locs1 (by rw [z_cbwX h65] at hP1; exact hP1) hS1)
theorem m_getI (E : CallFix p m c cc nL s args lw_good own) (hK : z_kW G s) (hP : z_P G X M H) {C : String} {T : u_T} {N ci k o index : Nat} (hin : ∀ w ∈ u_ws C T N, w ∈ lw_good) (hc : vwC[ci]? = some (C, T, N)) (hN : z_nf ci = N) (hlt : ci < 11) (hk : k < N) (hi : z_isR ci k = false) (ho : z_kd o = ci) (h65 : 65 ≤ o) (hlink : Cond.fieldLink own index (T k).1 (T k).2.1 (T k).2.2.1 ∈ lw_good) (hdg : decode cc pc = .ok (.getfield index, 3))
    (kk : W p l e R s m args below meth c H locs cells slots Q (F0 m (pc + 3) ls (.int (M o k) :: rest))) : W p l e R s m args below meth c H locs cells slots Q (F0 m pc ls (.ref (gq G o) :: rest)) :=
  z_getI E hK hP hin hc hN hlt hk hi ho hlink hdg (by rw [z_cbM h65]; exact kk)
theorem m_putI (E : CallFix p m c cc nL s args lw_good own) (hK : z_kW G s) (hq : z_inj (gq G)) (hP : z_P G X M H) (hS : z_S G s.heap H locs) {C : String} {T : u_T} {N ci k o index : Nat} {v : Int32} {ty : FieldType} (hin : ∀ w ∈ u_ws C T N, w ∈ lw_good) (ty0 : Nat → FieldType) (hty : ∀ k, k < N → parseFieldDescriptor (T k).2.2.1 = some (ty0 k)) (hnm : ∀ a, a < N → ∀ b, b < N → a ≠ b → (T a).2.1 ≠ (T b).2.1) (hc : vwC[ci]? = some (C, T, N)) (hN : z_nf ci = N) (hlt : ci < 11) (hk : k < N) (hi : z_isR ci k = false) (ho : z_kd o = ci) (h65 : 65 ≤ o) (hfin : (T k).2.2.2 = false) (hd : parseFieldDescriptor (T k).2.2.1 = some ty) (hnf : narrow ty (.int v) = .int v ∧ fits ty (.int v) = true) (hlink : Cond.fieldLink own index (T k).1 (T k).2.1 (T k).2.2.1 ∈ lw_good) (hdg : decode cc pc = .ok (.putfield index, 3))
    (kk : ∀ (H1 : Heap) (locs1 : List Loc), z_P G X (z_wr M o k v) H1 → z_S G s.heap H1 locs1 → W p l e R s m args below meth c H1 locs1 cells slots Q (F0 m (pc + 3) ls rest)) : W p l e R s m args below meth c H locs cells slots Q (F0 m pc ls (.int v :: .ref (gq G o) :: rest)) :=
  z_putI E hK hq hP hS hin ty0 hty hnm hc hN hlt hk hi ho hfin hd hnf.1 hnf.2 hlink hdg (fun H1 locs1 hP1 hS1 => kk H1 locs1 (by rw [z_cbwM h65] at hP1; exact hP1) hS1)
theorem m_ald (E : CallFix p m c cc nL s args lw_good own) (hK : z_kW G s) (hP : z_P G X M H) {o : Nat} {i : Int32} (ho : z_kd o = 11) (h65 : 65 ≤ o) (hin : z_in i (z_ln o)) (hdg : decode cc pc = .ok (.iaload, 1))
    (kk : W p l e R s m args below meth c H locs cells slots Q (F0 m (pc + 1) ls (.int (M o i.toNatClampNeg) :: rest))) : W p l e R s m args below meth c H locs cells slots Q (F0 m pc ls (.int i :: .ref (gq G o) :: rest)) :=
  z_ald E hK hP ho (z_in_vp hin) hdg (by rw [z_cbM h65]; exact kk)
theorem m_ast (E : CallFix p m c cc nL s args lw_good own) (hK : z_kW G s) (hq : z_inj (gq G)) (hP : z_P G X M H) (hS : z_S G s.heap H locs) {o : Nat} {i v : Int32} (ho : z_kd o = 11) (h65 : 65 ≤ o) (hin : z_in i (z_ln o)) (hdg : decode cc pc = .ok (.iastore, 1))
    (kk : ∀ (H1 : Heap) (locs1 : List Loc), z_P G X (z_wr M o i.toNatClampNeg v) H1 → z_S G s.heap H1 locs1 → W p l e R s m args below meth c H1 locs1 cells slots Q (F0 m (pc + 1) ls rest)) : W p l e R s m args below meth c H locs cells slots Q (F0 m pc ls (.int v :: .int i :: .ref (gq G o) :: rest)) :=
  z_ast E hK hq hP hS ho (z_in_vp hin) hdg (fun H1 locs1 hP1 hS1 => kk H1 locs1 (by rw [z_cbwM h65] at hP1; exact hP1) hS1)
theorem x_putP (E : CallFix p m c cc nL s args lw_good own) (hK : z_kW G s) (hq : z_inj (gq G)) (hP : z_P G X M H) (hS : z_S G s.heap H locs) {index : Nat} (hlink : Cond.fieldLink own index (TX4 6).1 (TX4 6).2.1 (TX4 6).2.2.1 ∈ lw_good) (hdg : decode cc pc = .ok (.putfield index, 3))
    (kk : ∀ (H1 : Heap) (locs1 : List Loc), z_P G (z_wr X 29 6 1) M H1 → z_S G s.heap H1 locs1 → W p l e R s m args below meth c H1 locs1 cells slots Q (F0 m (pc + 3) ls rest)) : W p l e R s m args below meth c H locs cells slots Q (F0 m pc ls (.ref (gq G 2) :: .ref (gq G 29) :: rest)) :=
  z_putP E hK hq hP hS hlink hdg (fun H1 locs1 hP1 hS1 => kk H1 locs1 (by rw [z_cbwX (by decide)] at hP1; exact hP1) hS1)
theorem z_en_cp {q : Nat → Nat} {cy : ClassId} {S : St} {a b n o : Nat} (h : o ≠ b) (hb : z_kd b = 11) : z_en q cy (z_cp S a b n) o = z_en q cy S o := by
  have e : ∀ j, j ≠ b → z_cp S a b n j = S j := fun j hj => by funext k; simp [z_cp, hj]
  have hf : ∀ j, z_fv q (z_cp S a b n) o j = z_fv q S o j := by
    intro j
    unfold z_fv z_rf
    rw [e o h, e 29 (by intro z; subst z; revert hb; decide)]
  unfold z_en
  rw [e o h, funext hf]
theorem x_cpy (E : CallFix p m c cc nL s args lw_good own) (hls : ls.size = nL) (hK : z_kW G s) (hq : z_inj (gq G)) (hP : z_P G X M H) (hS : z_S G s.heap H locs) {index a b : Nat} {n : Int32} (ha : z_kd a = 11) (hb : z_kd b = 11) (ha5 : a < 65) (hb5 : b < 65) (hn : ¬ n < 0 ∧ n.toNatClampNeg ≤ z_ln a ∧ n.toNatClampNeg ≤ z_ln b) (hlink : Cond.methodLink own index arraycopyName ∈ lw_good) (hnat : Cond.native arraycopyName ∈ lw_good) (hstat : Cond.static arraycopyName ∈ lw_good) (hini : Cond.initialized "java/lang/System" ∈ lw_good) (hfr : 1 ≤ R.frames) (hlo : (rest.map fun v => v.category).sum + (nativeFrameWords "java/lang/System" "arraycopy" 5 + 11) ≤ R.locals) (hdg : decode cc pc = .ok (.invokestatic index, 3))
    (kk : ∀ (H1 : Heap) (locs1 : List Loc), z_P G (z_cp X a b n.toNatClampNeg) M H1 → z_S G s.heap H1 locs1 → W p l e R s m args below meth c H1 locs1 cells slots Q (F0 m (pc + 3) ls rest)) : W p l e R s m args below meth c H locs cells slots Q (F0 m pc ls (.int n :: .int 0 :: .ref (gq G b) :: .int 0 :: .ref (gq G a) :: rest)) := by
  have ht := E.2.2.2.2
  refine va_copyi E.1 E.2.1 (by rw [hls]; exact E.2.2.1) E.2.2.2.1 (ht _ hlink) (ht _ hnat) (ht _ hstat) (ht _ hini) hK.1 hP (z_D hq) hS a b 0 0 (by rw [z_get (z_kd_lt (by omega)), z_en_l ha]) (by rw [z_get (z_kd_lt (by omega)), z_en_l hb]) rfl rfl rfl (by decide) (by decide) hn.1 (by have e : (0 : Int32).toNatClampNeg = 0 := rfl; rw [e, Nat.zero_add]; exact hn.2.1) (by have e : (0 : Int32).toNatClampNeg = 0 := rfl; rw [e, Nat.zero_add]; exact hn.2.2) (fun _ _ => rfl) hfr hlo hdg (fun H1 locs1 hP1 _ hS1 => kk H1 locs1 ?_ hS1)
  have e : z_cp (z_cb X M) a b n.toNatClampNeg = z_cb (z_cp X a b n.toNatClampNeg) M := by
    funext o k
    by_cases h : o = b
    · subst h; simp [z_cp, z_cb, ha5, hb5]
    · have e1 : z_cp X a b n.toNatClampNeg o = X o := by funext j; simp [z_cp, h]
      have e2 : z_cp (z_cb X M) a b n.toNatClampNeg o = z_cb X M o := by funext j; simp [z_cp, h]
      rw [e2]
      unfold z_cb
      rw [e1]
  rw [z_set (S' := z_cp (z_cb X M) a b n.toNatClampNeg) (z_kd_lt (by omega)) ?_ (fun o ho => z_en_cp ho hb), e] at hP1
  · exact hP1
  · rw [z_en_l hb]
    congr 4
    funext j
    simp [z_cp, va_cpy]
/-- ends that take the function's answer -/
theorem x_reti {r r0 : Int32} {S : St} {as : Array Value} (hx : p.tables.exec = Jvm.exec) (hb : c.code = cc) (hr : meth.sig.returnType = some .int) (hlk : meth.locks = false) (hf : (some (r0, S) : Option (Int32 × St)) = some (r, X')) (hP : z_P G S M H) (hS : z_S G s.heap H locs) (hdg : decode cc pc = .ok (.ireturn, 1)) : W p l e R s m as below meth c H locs 0 0 (MQ below (z_QI G X' M r) as s 0 0 (z_Aq (gq G))) (F0 m pc ls [.int r0]) := by
  cases hf; exact z_reti hx hb hr hlk hP hS hdg
theorem x_retz {r r0 : Int32} {S : St} {as : Array Value} {ty : FieldType} (hx : p.tables.exec = Jvm.exec) (hb : c.code = cc) (hr : meth.sig.returnType = some ty) (hlk : meth.locks = false) (hn : narrow ty (.int r0) = .int r0) (hf : (some (r0, S) : Option (Int32 × St)) = some (r, X')) (hP : z_P G S M H) (hS : z_S G s.heap H locs) (hdg : decode cc pc = .ok (.ireturn, 1)) : W p l e R s m as below meth c H locs 0 0 (MQ below (z_QI G X' M r) as s 0 0 (z_Aq (gq G))) (F0 m pc ls [.int r0]) := by
  cases hf; exact z_retz hx hb hr hlk hn hP hS hdg
theorem x_retl {r r0 : Int64} {S : St} {as : Array Value} (hx : p.tables.exec = Jvm.exec) (hb : c.code = cc) (hr : meth.sig.returnType = some .long) (hlk : meth.locks = false) (hf : (some (r0, S) : Option (Int64 × St)) = some (r, X')) (hP : z_P G S M H) (hS : z_S G s.heap H locs) (hdg : decode cc pc = .ok (.lreturn, 1)) : W p l e R s m as below meth c H locs 0 0 (MQ below (z_QL G X' M r) as s 0 0 (z_Aq (gq G))) (F0 m pc ls [.long r0]) := by
  cases hf; exact z_retl hx hb hr hlk hP hS hdg
theorem x_retv {S : St} {as : Array Value} (hx : p.tables.exec = Jvm.exec) (hb : c.code = cc) (hr : meth.sig.returnType = none) (hlk : meth.locks = false) (hf : (some S : Option St) = some X') (hP : z_P G S M H) (hS : z_S G s.heap H locs) (hdg : decode cc pc = .ok (.return_, 1)) : W p l e R s m as below meth c H locs 0 0 (MQ below (z_QV G X' M) as s 0 0 (z_Aq (gq G))) (F0 m pc ls []) := by
  cases hf; exact z_retv hx hb hr hlk hP hS hdg
theorem x_retr {S : St} {a : Nat} {as : Array Value} {nm : String} (hx : p.tables.exec = Jvm.exec) (hb : c.code = cc) (hr : meth.sig.returnType = some (.object nm)) (hlk : meth.locks = false) (hf : (some S : Option St) = some X') (hP : z_P G S M H) (hS : z_S G s.heap H locs) (hdg : decode cc pc = .ok (.areturn, 1)) : W p l e R s m as below meth c H locs 0 0 (MQ below (z_QR G X' M a) as s 0 0 (z_Aq (gq G))) (F0 m pc ls [.ref a]) := by
  cases hf; exact z_retr hx hb hr hlk hP hS hdg
theorem x_rets {S : St} {i i0 : Nat} {as : Array Value} {nm : String} (hx : p.tables.exec = Jvm.exec) (hb : c.code = cc) (hr : meth.sig.returnType = some (.object nm)) (hlk : meth.locks = false) (hf : (some (i0, S) : Option (Nat × St)) = some (i, X')) (hP : z_P G S M H) (hS : z_S G s.heap H locs) (hdg : decode cc pc = .ok (.areturn, 1)) : W p l e R s m as below meth c H locs 0 0 (MQ below (z_QR G X' M (G.2.2.2.1 i)) as s 0 0 (z_Aq (gq G))) (F0 m pc ls [.ref (G.2.2.2.1 i0)]) := by
  cases hf; exact z_retr hx hb hr hlk hP hS hdg
theorem m_reti {r r0 : Int32} {S : St} {as : Array Value} (hx : p.tables.exec = Jvm.exec) (hb : c.code = cc) (hr : meth.sig.returnType = some .int) (hlk : meth.locks = false) (hf : (some (r0, S) : Option (Int32 × St)) = some (r, M')) (hP : z_P G X S H) (hS : z_S G s.heap H locs) (hdg : decode cc pc = .ok (.ireturn, 1)) : W p l e R s m as below meth c H locs 0 0 (MQ below (z_QI G X M' r) as s 0 0 (z_Aq (gq G))) (F0 m pc ls [.int r0]) := by
  cases hf; exact z_reti hx hb hr hlk hP hS hdg
theorem m_retz {r r0 : Int32} {S : St} {as : Array Value} {ty : FieldType} (hx : p.tables.exec = Jvm.exec) (hb : c.code = cc) (hr : meth.sig.returnType = some ty) (hlk : meth.locks = false) (hn : narrow ty (.int r0) = .int r0) (hf : (some (r0, S) : Option (Int32 × St)) = some (r, M')) (hP : z_P G X S H) (hS : z_S G s.heap H locs) (hdg : decode cc pc = .ok (.ireturn, 1)) : W p l e R s m as below meth c H locs 0 0 (MQ below (z_QI G X M' r) as s 0 0 (z_Aq (gq G))) (F0 m pc ls [.int r0]) := by
  cases hf; exact z_retz hx hb hr hlk hn hP hS hdg
theorem m_retl {r r0 : Int64} {S : St} {as : Array Value} (hx : p.tables.exec = Jvm.exec) (hb : c.code = cc) (hr : meth.sig.returnType = some .long) (hlk : meth.locks = false) (hf : (some (r0, S) : Option (Int64 × St)) = some (r, M')) (hP : z_P G X S H) (hS : z_S G s.heap H locs) (hdg : decode cc pc = .ok (.lreturn, 1)) : W p l e R s m as below meth c H locs 0 0 (MQ below (z_QL G X M' r) as s 0 0 (z_Aq (gq G))) (F0 m pc ls [.long r0]) := by
  cases hf; exact z_retl hx hb hr hlk hP hS hdg
theorem m_retv {S : St} {as : Array Value} (hx : p.tables.exec = Jvm.exec) (hb : c.code = cc) (hr : meth.sig.returnType = none) (hlk : meth.locks = false) (hf : (some S : Option St) = some M') (hP : z_P G X S H) (hS : z_S G s.heap H locs) (hdg : decode cc pc = .ok (.return_, 1)) : W p l e R s m as below meth c H locs 0 0 (MQ below (z_QV G X M') as s 0 0 (z_Aq (gq G))) (F0 m pc ls []) := by
  cases hf; exact z_retv hx hb hr hlk hP hS hdg
end ZXM
