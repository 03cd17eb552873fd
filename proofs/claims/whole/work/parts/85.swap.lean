/-! worlds in another order; the world of the reference -/
theorem P_perm {D : va_G} {cl : List vw_C} {ws ws' : va_W} {H : Heap} (σ : Nat → Nat) (h : ∀ (k : Nat) (x : Nat × va_E), ws'[k]? = some x → ws[σ k]? = some x) (hP : va_P D cl ws H) : va_P D cl ws' H := fun k x hx => hP (σ k) x (h k x hx)
theorem D_perm {A : Nat → Prop} {ws ws' : va_W} (σ : Nat → Nat) (hσ : ∀ i j, i < ws'.length → j < ws'.length → σ i = σ j → i = j) (h : ∀ (k : Nat) (x : Nat × va_E), ws'[k]? = some x → ws[σ k]? = some x) (hD : va_D A ws) : va_D A ws' :=
  ⟨fun i j p q hi hj e => hσ i j (List.getElem?_eq_some_iff.mp hi).1 (List.getElem?_eq_some_iff.mp hj).1 (hD.1 _ _ p q (h i p hi) (h j q hj) e), fun k q hk => hD.2 _ q (h k q hk)⟩
def s_in (n k : Nat) : Nat := if k < n then k + 1 else if k = n then 0 else k
def s_fr (n k : Nat) : Nat := if k = 0 then n else k - 1
theorem s_in_inj {n i j : Nat} (h : s_in n i = s_in n j) : i = j := by
  unfold s_in at h
  split at h <;> split at h <;> (try split at h) <;> (try split at h) <;> omega
theorem s_in_at {tw as : va_W} {a : Nat × va_E} (k : Nat) (x : Nat × va_E) (h : (tw ++ a :: as)[k]? = some x) : (a :: (tw ++ as))[s_in tw.length k]? = some x := by
  unfold s_in
  by_cases h1 : k < tw.length
  · rw [if_pos h1, List.getElem?_cons_succ, List.getElem?_append_left h1]
    rw [List.getElem?_append_left h1] at h
    exact h
  · rw [if_neg h1]
    rw [List.getElem?_append_right (by omega)] at h
    by_cases h2 : k = tw.length
    · rw [if_pos h2]
      rw [h2, Nat.sub_self] at h
      exact h
    · rw [if_neg h2]
      obtain ⟨j, rfl⟩ : ∃ j, k = tw.length + j + 1 := ⟨k - tw.length - 1, by omega⟩
      rw [show tw.length + j + 1 - tw.length = j + 1 by omega, List.getElem?_cons_succ] at h
      rw [List.getElem?_cons_succ, List.getElem?_append_right (by omega), show tw.length + j - tw.length = j by omega]
      exact h
theorem P_in {D : va_G} {cl : List vw_C} {tw as : va_W} {a : Nat × va_E} {H : Heap} (hP : va_P D cl (a :: (tw ++ as)) H) : va_P D cl (tw ++ a :: as) H := P_perm (s_in tw.length) s_in_at hP
theorem D_in {A : Nat → Prop} {tw as : va_W} {a : Nat × va_E} (hD : va_D A (a :: (tw ++ as))) : va_D A (tw ++ a :: as) := D_perm (s_in tw.length) (fun _ _ _ _ h => s_in_inj h) s_in_at hD
theorem s_fr_at {tw : va_W} {a : Nat × va_E} (k : Nat) (x : Nat × va_E) (h : (a :: tw)[k]? = some x) : (tw ++ [a])[s_fr tw.length k]? = some x := by
  unfold s_fr
  cases k with
  | zero =>
    rw [if_pos rfl, List.getElem?_append_right (Nat.le_refl _), Nat.sub_self]
    exact h
  | succ k =>
    rw [List.getElem?_cons_succ] at h
    rw [if_neg (by omega), Nat.add_sub_cancel, List.getElem?_append_left (List.getElem?_eq_some_iff.mp h).1]
    exact h
theorem P_fr {D : va_G} {cl : List vw_C} {tw : va_W} {a : Nat × va_E} {H : Heap} (hP : va_P D cl (tw ++ [a]) H) : va_P D cl (a :: tw) H := P_perm (s_fr tw.length) s_fr_at hP
theorem D_fr {A : Nat → Prop} {tw : va_W} {a : Nat × va_E} (hD : va_D A (tw ++ [a])) : va_D A (a :: tw) := D_perm (s_fr tw.length) (fun i j hi hj h => by
  unfold s_fr at h
  rw [List.length_cons] at hi hj
  split at h <;> split at h <;> omega) s_fr_at hD
theorem q_at65 {a : Nat × va_E} {tw as : va_W} (h : tw.length = 65) (j : Nat) : (a :: (tw ++ as))[65 + j + 1]? = as[j]? := by
  rw [List.getElem?_cons_succ, List.getElem?_append_right (by omega), h, Nat.add_sub_cancel_left]
theorem q_set65 {a x : Nat × va_E} {tw as : va_W} (h : tw.length = 65) (j : Nat) : (a :: (tw ++ as)).set (65 + j + 1) x = a :: (tw ++ as.set j x) := by
  rw [List.set_cons_succ, List.set_append_right _ _ (by omega), h, Nat.add_sub_cancel_left]
theorem wX_len {qx : Nat → Nat} {cy : ClassId} : (wX qx cy).length = 65 := by simp [wX]
section IG
variable {p : Program} {l : Launch} {e : Env} {R : Room} {s : State} {m : MethodId} {args : Array Value} {below : List Frame} {meth : Method} {c : Code} {H : Heap} {locs : List Loc} {cells slots : Nat} {Q : State → Prop}
variable {cc : ByteArray} {nL pc : Nat} {ls : Array Slot} {rest : List Value} {own : String} {D : va_G} {cy : ClassId} {A : Nat → Prop} {h0 ci : Nat} {fs : List Value} {tl : va_W} {C : String} {T : u_T} {N : Nat}
theorem z_iAG (E : CallFix p m c cc nL s args lw_good own) (hinit : meth.name = "<init>") (hI : kI D cy s) (hP : va_P D vwC ((h0, .inr (ci, fs)) :: tl) H) (hD : va_D A ((h0, .inr (ci, fs)) :: tl)) (hS : va_S A s.heap H locs) (hA : ∀ q, s.heap.size ≤ q → A q) (hin : ∀ w ∈ u_ws C T N, w ∈ lw_good) (ty0 : Nat → FieldType) (hty : ∀ k, k < N → parseFieldDescriptor (T k).2.2.1 = some (ty0 k)) (hnm : ∀ a, a < N → ∀ b, b < N → a ≠ b → (T a).2.1 ≠ (T b).2.1) (hc : vwC[ci]? = some (C, T, N)) (k : Nat) (hk : k < N) {index : Nat} (hfin : (T k).2.2.2 = true ∧ (T k).1 = own) (hd : parseFieldDescriptor (T k).2.2.1 = some (.array .int)) (hl : k < fs.length) (hlink : Cond.fieldLink own index (T k).1 (T k).2.1 (T k).2.2.1 ∈ lw_good) {n : Int32} (N' : Nat) (hn0 : ¬ n < 0) (hN : n.toNatClampNeg = N') (hb : N' * 4 ≤ 536870912) (hcells : cells + 1 ≤ R.cells) (hslots : slots + N' ≤ R.slots) (d1 : decode cc pc = .ok (.newarray .int, 2)) (d2 : decode cc (pc + 2) = .ok (.putfield index, 3))
    (kk : ∀ (q : Nat) (H1 : Heap) (locs1 : List Loc) (tl1 : va_W), tl1 = tl ++ [(q, ar cy N' z0)] → va_P D vwC ((h0, .inr (ci, fs.set k (.ref q))) :: tl1) H1 → va_D A ((h0, .inr (ci, fs.set k (.ref q))) :: tl1) → va_S A s.heap H1 locs1 → W p l e R s m args below meth c H1 locs1 (cells + 1) (slots + N') Q (F0 m (pc + 5) ls rest)) : W p l e R s m args below meth c H locs cells slots Q (F0 m pc ls (.int n :: .ref h0 :: rest)) :=
  z_iAF E hinit hI hP hD hS hA hin ty0 hty hnm hc k hk hfin hd hl hlink N' hn0 hN hb hcells hslots d1 d2 (fun q H1 locs1 hP1 hD1 hS1 => kk q H1 locs1 _ rfl hP1 hD1 hS1)
end IG
theorem z_rfX : ∀ o, o < 65 → ∀ k, k < 13 → z_isR (z_kd o) k = true → z_rf X0 o k < 65 := by decide +kernel
theorem z_nfX : ∀ o, o < 65 → z_kd o ≠ 11 → z_nf (z_kd o) ≤ 13 := by decide +kernel
theorem z_ceX {q qx : Nat → Nat} {cy : ClassId} {M : St} (hq : ∀ i, i < 65 → q i = qx i) {o : Nat} (ho : o < 65) : z_ce q cy (z_cb X0 M) o = z_ce qx cy X0 o := by
  have e : z_cb X0 M o = X0 o := z_cbX ho
  have hr : ∀ k, z_rf (z_cb X0 M) o k = z_rf X0 o k := fun k => by
    unfold z_rf
    rw [show z_cb X0 M 29 = X0 29 from z_cbX (by omega)]
  unfold z_ce
  rw [hq o ho]
  congr 1
  unfold z_en
  rw [e]
  by_cases h : z_kd o = 11
  · rw [if_pos h, if_pos h]
  · rw [if_neg h, if_neg h]
    congr 2
    apply List.map_congr_left
    intro k hk
    have hk : k < 13 := Nat.lt_of_lt_of_le (List.mem_range.mp hk) (z_nfX o ho h)
    unfold z_fv
    rw [hr k, e]
    by_cases g : z_isR (z_kd o) k = true
    · rw [if_pos g, if_pos g, hq _ (z_rfX o ho k hk g)]
    · rw [if_neg g, if_neg g]
theorem z_ceM {q : Nat → Nat} {cy : ClassId} {X M : St} {o : Nat} (ho : 65 ≤ o) : z_ce q cy (z_cb X M) o = z_ce q cy M o := by
  have e : z_cb X M o = M o := z_cbM ho
  have hr : ∀ k, z_rf (z_cb X M) o k = z_rf M o k := fun k => by
    unfold z_rf
    rw [if_neg (by omega), if_neg (by omega)]
  have hf : z_fv q (z_cb X M) o = z_fv q M o := by
    funext k
    unfold z_fv
    rw [hr k, e]
  unfold z_ce z_en
  rw [e, hf]
theorem z_wd_cut {q qx : Nat → Nat} {cy : ClassId} {M : St} (hq : ∀ i, i < 65 → q i = qx i) : z_wd q cy (z_cb X0 M) = wX qx cy ++ (List.range' 65 37).map (z_ce q cy M) := by
  have e : List.range 102 = List.range 65 ++ List.range' 65 37 := by decide +kernel
  show (List.range 102).map (z_ce q cy (z_cb X0 M)) = _
  have e1 : (List.range 65).map (z_ce q cy (z_cb X0 M)) = wX qx cy := List.map_congr_left (fun o ho => z_ceX hq (List.mem_range.mp ho))
  have e2 : (List.range' 65 37).map (z_ce q cy (z_cb X0 M)) = (List.range' 65 37).map (z_ce q cy M) := List.map_congr_left (fun o ho => z_ceM (List.mem_range'_1.mp ho).1)
  rw [e, List.map_append, e1, e2]
set_option maxHeartbeats 4000000 in
set_option maxRecDepth 100000 in
theorem w10 {qx : Nat → Nat} {cy : ClassId} {h0 q1 q2 q3 q4 q5 q6 q7 q8 q9 q10 q11 q12 q13 q14 q15 q16 q17 q18 q19 q20 q21 q22 q23 q24 q25 q26 q27 q28 q29 q30 q31 q32 q33 q34 q35 q36 : Nat} : (List.range' 65 37).map (z_ce (fun i => if i < 65 then qx i else if i = 65 then h0 else ([q1, q2, q3, q4, q5, q6, q7, q8, q9, q10, q11, q12, q13, q14, q15, q16, q17, q18, q19, q20, q21, q22, q23, q24, q25, q26, q27, q28, q29, q30, q31, q32, q33, q34, q35, q36] : List Nat).getD (i - 66) 0) cy M1) = (h0, .inr (10, [.ref q1, .ref q2, .ref q3, .ref q4, .ref q5, .ref q6, .int 1, .int 0, .int 0, .ref q7, .ref q8, .ref q9, .ref q10, .ref q11, .ref q12, .int 0, .int 1, .int 0, .int 0, .int 0, .int 0, .int 0, .int 0, .int 0, .ref q13, .ref q14, .ref q15, .ref q16, .ref q17, .int (-9), .int 0, .int 0, .int 0, .int 0, .int 0, .int 0, .ref q18, .ref q19, .ref q20, .ref q21, .ref q22, .ref q23, .ref q24, .ref q25, .ref q26, .ref q27, .int 0, .int 0, .int 0, .int 0, .ref q28, .ref q29, .ref q30, .ref q31, .ref q32, .int 0, .int 0, .int 0, .int 0, .int 0, .int 0, .int 0, .int 0, .int 0, .int 0, .int 0, .ref q33, .ref q34, .ref q35, .int 0, .int 0, .ref q36, .int 0, .int 0, .int 0])) :: [(q1, ar cy 7 z0), (q2, ar cy 41 z0), (q3, ar cy 41 z0), (q4, ar cy 41 z0), (q5, ar cy 41 z0), (q6, ar cy 41 z0), (q7, ar cy 96 z0), (q8, ar cy 96 sg0), (q9, ar cy 96 z0), (q10, ar cy 96 z0), (q11, ar cy 300 z0), (q12, ar cy 100 z0), (q13, ar cy 6 z0), (q14, ar cy 10 z0), (q15, ar cy 10 z0), (q16, ar cy 10 z0), (q17, ar cy 460 z0), (q18, ar cy 2000 z0), (q19, ar cy 2000 z0), (q20, ar cy 2000 z0), (q21, ar cy 2000 z0), (q22, ar cy 1000 z0), (q23, ar cy 1000 z0), (q24, ar cy 1000 z0), (q25, ar cy 1000 z0), (q26, ar cy 1000 z0), (q27, ar cy 1000 z0), (q28, ar cy 800 z0), (q29, ar cy 800 z0), (q30, ar cy 800 z0), (q31, ar cy 800 z0), (q32, ar cy 800 z0), (q33, ar cy 6 z0), (q34, ar cy 36 z0), (q35, ar cy 16 z0), (q36, ar cy 800 z0)] := rfl
