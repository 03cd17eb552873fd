/-! the pool: 102 cells, 0..64 the class, 65..101 the reference; a state gives the int at (cell, place) -/
abbrev St : Type := Nat → Nat → Int32
def z_kdL : List Nat := [9, 6, 5, 11, 11, 11, 11, 11, 11, 11, 0, 11, 11, 11, 2, 6, 5, 11, 11, 11, 11, 11, 11, 11, 0, 11, 11, 11, 2, 4, 11, 0, 11, 11, 11, 2, 1, 11, 11, 11, 7, 11, 11, 11, 8, 11, 11, 11, 11, 5, 11, 11, 11, 11, 11, 11, 3, 11, 11, 11, 11, 11, 11, 11, 11, 10, 11, 11, 11, 11, 11, 11, 11, 11, 11, 11, 11, 11, 11, 11, 11, 11, 11, 11, 11, 11, 11, 11, 11, 11, 11, 11, 11, 11, 11, 11, 11, 11, 11, 11, 11, 11]
def z_lnL : List Nat := [0, 0, 0, 40, 40, 40, 40, 40, 40, 6, 0, 10, 10, 10, 0, 0, 0, 40, 40, 40, 40, 40, 40, 6, 0, 10, 10, 10, 0, 0, 6, 0, 10, 10, 10, 0, 0, 400, 400, 400, 0, 400, 400, 400, 0, 400, 400, 400, 400, 0, 40, 40, 40, 40, 40, 40, 0, 96, 96, 96, 193, 193, 16, 7, 32, 0, 7, 41, 41, 41, 41, 41, 96, 96, 96, 96, 300, 100, 6, 10, 10, 10, 460, 2000, 2000, 2000, 2000, 1000, 1000, 1000, 1000, 1000, 1000, 800, 800, 800, 800, 800, 6, 36, 16, 800]
def z_rfL : List (List Nat) := [[1, 15, 29, 56, 62, 63, 64, 0, 0], [2, 9, 10, 14, 0, 0], [3, 4, 5, 6, 7, 8, 0, 0], [], [], [], [], [], [], [], [11, 12, 13], [], [], [], [0, 0, 0, 0, 0, 0, 0], [16, 23, 24, 28, 0, 0], [17, 18, 19, 20, 21, 22, 0, 0], [], [], [], [], [], [], [], [25, 26, 27], [], [], [], [0, 0, 0, 0, 0, 0, 0], [30, 31, 35, 36, 40, 44, 49, 0, 0, 0, 0, 0, 0], [], [32, 33, 34], [], [], [], [0, 0, 0, 0, 0, 0, 0], [37, 38, 39, 0], [], [], [], [41, 42, 43, 0], [], [], [], [45, 46, 47, 48, 0], [], [], [], [], [50, 51, 52, 53, 54, 55, 0, 0], [], [], [], [], [], [], [57, 58, 59, 60, 61, 0, 0, 0], [], [], [], [], [], [], [], [], [66, 67, 68, 69, 70, 71, 0, 0, 0, 72, 73, 74, 75, 76, 77, 0, 0, 0, 0, 0, 0, 0, 0, 0, 78, 79, 80, 81, 82, 0, 0, 0, 0, 0, 0, 0, 83, 84, 85, 86, 87, 88, 89, 90, 91, 92, 0, 0, 0, 0, 93, 94, 95, 96, 97, 0, 0, 0, 0, 0, 0, 0, 0, 0, 0, 0, 98, 99, 100, 0, 0, 101, 0, 0, 0], [], [], [], [], [], [], [], [], [], [], [], [], [], [], [], [], [], [], [], [], [], [], [], [], [], [], [], [], [], [], [], [], [], [], [], []]
def z_irL : List (List Bool) := [[true, true, true], [true, true, true, false], [false, false, false, false, false, false, false], [true, true, true, true, true, false, false, false], [true, true, true, true, true, true, true, false, false, false, false, false, false], [true, true, true, true, true, true, false, false], [true, true, true, true, false, false], [true, true, true, false], [true, true, true, true, false], [true, true, true, true, true, true, true, false, false], [true, true, true, true, true, true, false, false, false, true, true, true, true, true, true, false, false, false, false, false, false, false, false, false, true, true, true, true, true, false, false, false, false, false, false, false, true, true, true, true, true, true, true, true, true, true, false, false, false, false, true, true, true, true, true, false, false, false, false, false, false, false, false, false, false, false, true, true, true, false, false, true, false, false, false]]
def z_nfL : List Nat := [3, 4, 7, 8, 13, 8, 6, 4, 5, 9, 75]
def z_kd (o : Nat) : Nat := z_kdL.getD o 99
def z_ln (o : Nat) : Nat := z_lnL.getD o 0
def z_nf (c : Nat) : Nat := z_nfL.getD c 0
def z_isR (c k : Nat) : Bool := (z_irL.getD c []).getD k false
def z_rfS (o k : Nat) : Nat := (z_rfL.getD o []).getD k 0
/-- where a reference field points: fixed, but for the machine's program (0: its own, else the situation's) -/
def z_rf (S : St) (o k : Nat) : Nat := if o = 29 then (if k = 6 then (if S 29 6 = 0 then 49 else 2) else z_rfS o k) else z_rfS o k
def z_wr (S : St) (o k : Nat) (v : Int32) : St := fun a b => if a = o then (if b = k then v else S a b) else S a b
def z_cb (X M : St) : St := fun o => if o < 65 then X o else M o
def z_fv (q : Nat → Nat) (S : St) (o k : Nat) : Value := if z_isR (z_kd o) k = true then .ref (q (z_rf S o k)) else .int (S o k)
def z_en (q : Nat → Nat) (cy : ClassId) (S : St) (o : Nat) : va_E := if z_kd o = 11 then .inl (cy, z_ln o, .inl (S o)) else .inr (z_kd o, (List.range (z_nf (z_kd o))).map (z_fv q S o))
def z_ce (q : Nat → Nat) (cy : ClassId) (S : St) (o : Nat) : Nat × va_E := (q o, z_en q cy S o)
def z_wd (q : Nat → Nat) (cy : ClassId) (S : St) : va_W := (List.range 102).map (z_ce q cy S)
def z_inj (q : Nat → Nat) : Prop := ∀ i j, i < 102 → j < 102 → q i = q j → i = j
def z_Aq (q : Nat → Nat) : Nat → Prop := fun a => ∃ k, k < 102 ∧ q k = a
theorem z_wr_s {S : St} {o k : Nat} {v : Int32} : z_wr S o k v o k = v := by simp [z_wr]
theorem z_wr_k {S : St} {o k b : Nat} {v : Int32} (h : b ≠ k) : z_wr S o k v o b = S o b := by simp [z_wr, h]
theorem z_wr_o {S : St} {o k a : Nat} {v : Int32} (h : a ≠ o) : z_wr S o k v a = S a := by funext b; simp [z_wr, h]
theorem z_cbX {X M : St} {o : Nat} (h : o < 65) : z_cb X M o = X o := if_pos h
theorem z_cbM {X M : St} {o : Nat} (h : 65 ≤ o) : z_cb X M o = M o := if_neg (by omega)
theorem z_cbwX {X M : St} {o k : Nat} {v : Int32} (h : o < 65) : z_wr (z_cb X M) o k v = z_cb (z_wr X o k v) M := by
  funext a b
  by_cases ha : a = o
  · subst ha; simp [z_wr, z_cb, h]
  · rw [z_wr_o ha]; unfold z_cb; rw [z_wr_o ha]
theorem z_cbwM {X M : St} {o k : Nat} {v : Int32} (h : 65 ≤ o) : z_wr (z_cb X M) o k v = z_cb X (z_wr M o k v) := by
  have h2 : ¬ o < 65 := by omega
  funext a b
  by_cases ha : a = o
  · subst ha; simp [z_wr, z_cb, h2]
  · rw [z_wr_o ha]; unfold z_cb; rw [z_wr_o ha]
theorem z_get {q : Nat → Nat} {cy : ClassId} {S : St} {o : Nat} (h : o < 102) : (z_wd q cy S)[o]? = some (q o, z_en q cy S o) := by
  simp [z_wd, z_ce, List.getElem?_map, List.getElem?_range h]
theorem z_len {q : Nat → Nat} {cy : ClassId} {S : St} : (z_wd q cy S).length = 102 := by simp [z_wd]
theorem z_none {q : Nat → Nat} {cy : ClassId} {S : St} {o : Nat} (h : ¬ o < 102) : (z_wd q cy S)[o]? = none := by
  apply List.getElem?_eq_none
  rw [z_len]; omega
theorem z_set {q : Nat → Nat} {cy : ClassId} {S S' : St} {o : Nat} {x : va_E} (ho : o < 102) (hx : x = z_en q cy S' o) (hn : ∀ a, a ≠ o → z_en q cy S' a = z_en q cy S a) : (z_wd q cy S).set o (q o, x) = z_wd q cy S' := by
  subst hx
  apply List.ext_getElem?
  intro i
  by_cases hi : i < 102
  · rw [z_get hi, List.getElem?_set]
    by_cases h : o = i
    · subst h
      rw [if_pos rfl, z_len, if_pos ho]
    · rw [if_neg h, z_get hi, hn i (fun e => h e.symm)]
  · rw [z_none hi, List.getElem?_set, z_none hi, z_len]
    rw [if_neg (by omega)]
theorem z_en_o {q : Nat → Nat} {cy : ClassId} {S : St} {o k a : Nat} {v : Int32} (h : a ≠ o) : z_en q cy (z_wr S o k v) a = z_en q cy S a := by
  have hf : ∀ j, z_fv q (z_wr S o k v) a j = z_fv q S a j := by
    intro j
    unfold z_fv z_rf
    by_cases ha : a = 29
    · subst ha; rw [z_wr_o h]
    · rw [if_neg ha, if_neg ha, z_wr_o h]
  unfold z_en
  rw [z_wr_o h, funext hf]
theorem z_D {q : Nat → Nat} {cy : ClassId} {S : St} (h : z_inj q) : va_D (z_Aq q) (z_wd q cy S) := by
  refine ⟨fun i j x y hi hj e => ?_, fun k x hk => ?_⟩
  · by_cases h1 : i < 102
    · by_cases h2 : j < 102
      · rw [z_get h1] at hi
        rw [z_get h2] at hj
        cases hi; cases hj
        exact h i j h1 h2 e
      · rw [z_none h2] at hj; cases hj
    · rw [z_none h1] at hi; cases hi
  · by_cases h1 : k < 102
    · rw [z_get h1] at hk
      cases hk
      exact ⟨k, h1, rfl⟩
    · rw [z_none h1] at hk; cases hk
theorem z_kd_lt {o : Nat} (h : z_kd o < 99) : o < 102 := by
  by_cases h2 : o < 102
  · exact h2
  · have e : z_kd o = 99 := by
      have hl : z_kdL.length = 102 := by decide +kernel
      have e : z_kdL[o]? = none := List.getElem?_eq_none (by omega)
      unfold z_kd
      simp [List.getD, e]
    omega
theorem z_dec {P : Nat → Prop} {c : Nat} (d : ∀ o, o < 102 → z_kd o = c → P o) (hc : c < 99) {o : Nat} (h : z_kd o = c) : P o := d o (z_kd_lt (by omega)) h
theorem z_x65 {o : Nat} (h : z_kd o < 10) : o < 65 := by
  have d : ∀ o, o < 102 → z_kd o < 10 → o < 65 := by decide +kernel
  exact d o (z_kd_lt (by omega)) h
theorem z_rf_S {S : St} {o k : Nat} (h : z_kd o ≠ 4) : z_rf S o k = z_rfS o k := by
  unfold z_rf
  rw [if_neg]
  intro e; subst e; exact h (by decide)
/-- an object's row of fields -/
theorem z_en_r {q : Nat → Nat} {cy : ClassId} {S : St} {o c : Nat} (h : z_kd o = c) (hc : c < 11) : z_en q cy S o = .inr (c, (List.range (z_nf c)).map (z_fv q S o)) := by
  unfold z_en
  rw [if_neg (by omega), h]
theorem z_en_l {q : Nat → Nat} {cy : ClassId} {S : St} {o : Nat} (h : z_kd o = 11) : z_en q cy S o = .inl (cy, z_ln o, .inl (S o)) := by
  unfold z_en
  rw [if_pos h]
theorem z_fld {q : Nat → Nat} {S : St} {o N k : Nat} (h : k < N) : ((List.range N).map (z_fv q S o))[k]? = some (z_fv q S o k) := by
  simp [List.getElem?_map, List.getElem?_range h]
theorem z_fset {q : Nat → Nat} {S S' : St} {o N k : Nat} {x : Value} (h : k < N) (hx : x = z_fv q S' o k) (hn : ∀ j, j ≠ k → z_fv q S' o j = z_fv q S o j) : ((List.range N).map (z_fv q S o)).set k x = (List.range N).map (z_fv q S' o) := by
  subst hx
  apply List.ext_getElem?
  intro i
  rw [List.getElem?_set]
  by_cases hi : i < N
  · rw [z_fld hi]
    by_cases e : k = i
    · subst e; simp [h]
    · rw [if_neg e, z_fld hi, hn i (fun z => e z.symm)]
  · have h1 : ((List.range N).map (z_fv q S o))[i]? = none := by apply List.getElem?_eq_none; simp; omega
    have h2 : ((List.range N).map (z_fv q S' o))[i]? = none := by apply List.getElem?_eq_none; simp; omega
    rw [h1, h2, if_neg (by omega)]
/-! the context: tables' numbers, addresses, the class of int arrays, the texts -/
abbrev Cx : Type := va_G × (Nat → Nat) × ClassId × (Nat → Nat) × (Nat → Nat)
abbrev gq (G : Cx) : Nat → Nat := G.2.1
abbrev gy (G : Cx) : ClassId := G.2.2.1
