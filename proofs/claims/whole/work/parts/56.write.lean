/-! the class writes the letters into its program -/
def exq (tx : Nat → Int32) (p : Nat) : Prop := ∃ y r, sk tx p = y :: r ∧ y.2 ≠ 118
theorem exq_lt {tx : Nat → Int32} {p q : Nat} (h : exq tx p) (hq : p < q) : ne tx p < ne tx q := by
  obtain ⟨y, r, hs, hb⟩ := h
  have e := (sk_e hs hb).2.1
  have := ne_mono (tx := tx) (j := p + 1) (k := q) (by omega)
  omega
/-- whose part an item is -/
theorem sk_own {tx : Nat → Int32} : ∀ k, ∀ x ∈ sk tx k, x = (0, 49) ∨ ∃ p, p < k ∧ exq tx p ∧ ne tx p + 1 = x.1 ∧ x.2 ∈ prt (tx p)
  | 0 => fun x hx => Or.inl (List.mem_singleton.mp hx)
  | k + 1 => by
    intro x hx
    have ih := sk_own (tx := tx) k
    have up : (x = (0, 49) ∨ ∃ p, p < k ∧ exq tx p ∧ ne tx p + 1 = x.1 ∧ x.2 ∈ prt (tx p)) → x = (0, 49) ∨ ∃ p, p < k + 1 ∧ exq tx p ∧ ne tx p + 1 = x.1 ∧ x.2 ∈ prt (tx p) := by
      rintro (h | ⟨p, h1, h2⟩)
      · exact Or.inl h
      · exact Or.inr ⟨p, by omega, h2⟩
    cases h : sk tx k with
    | nil =>
      have e : sk tx (k + 1) = [] := by
        show (nx tx k (sq tx k)).2 = []
        have e : (sq tx k).2 = [] := h
        unfold nx; rw [e]; exact e
      rw [e] at hx
      exact absurd hx List.not_mem_nil
    | cons y r =>
      rw [h] at ih
      by_cases hb : y.2 = 118
      · rw [(sk_b h hb).1] at hx
        exact up (ih x (List.mem_cons_of_mem _ hx))
      · rw [(sk_e h hb).1] at hx
        rcases List.mem_append.mp hx with hx | hx
        · obtain ⟨s, hs, rfl⟩ := List.mem_map.mp hx
          exact Or.inr ⟨k, by omega, ⟨y, r, h, hb⟩, rfl, hs⟩
        · exact up (ih x (List.mem_cons_of_mem _ hx))
def enS (sg en : Nat → Int32) (x : Itm) : Int32 := if x.1 = 0 then 0 else if sg (x.1 - 1) = 70 then 1 else if sg (x.1 - 1) = 63 ∧ x.2 ≠ 49 then en (x.1 - 1) else if (sg (x.1 - 1) = 44 ∨ sg (x.1 - 1) = 76 ∨ sg (x.1 - 1) = 89) ∧ x.2 = 50 then en (x.1 - 1) else 0
/-- what is written of place k -/
def WK (tx sg va se th si en : Nat → Int32) (k : Nat) : Prop := ∃ x r, sk tx k = x :: r ∧ (x.2 = 118 → va (x.1 - 1) = tx k - 97) ∧
  (x.2 ≠ 118 → sg (ne tx k) = tx k ∧ (isN (tx k) → va (ne tx k) = tx k - 97) ∧ (isQ (tx k) → si (ne tx k) = nI (ns tx k)) ∧ (x.2 = 50 → se (x.1 - 1) = nI (ne tx k)) ∧ (x.2 = 51 → th (x.1 - 1) = nI (ne tx k)) ∧ en (ne tx k) = enS sg en x)
section
variable {N : Nat} {tx : Nat → Int32} {n : Nat}
def WI (tx : Nat → Int32) (n k : Nat) (X : St) : Prop := X 56 7 = nI n ∧ (∀ j, j < n → X 57 j = tx j) ∧ (∀ j, j < n → ∃ x r, sk tx j = x :: r ∧ X 58 j = nI x.1 - 1 ∧ X 59 j = x.2) ∧ X 2 6 = nI (ne tx k) ∧ X 2 7 = nI (ns tx k) ∧ ∀ j, j < k → WK tx (X 3) (X 4) (X 5) (X 6) (X 7) (X 8) j
def FW (X X' : St) : Prop := (∀ o, o < 2 ∨ 9 ≤ o → X' o = X o) ∧ ∀ k, k ≠ 6 ∧ k ≠ 7 → X' 2 k = X 2 k
theorem FW.rf {X : St} : FW X X := ⟨fun _ _ => rfl, fun _ _ => rfl⟩
theorem FW.tr {A B C : St} (h : FW A B) (g : FW B C) : FW A C := ⟨fun o ho => (g.1 o ho).trans (h.1 o ho), fun k hk => (g.2 k hk).trans (h.2 k hk)⟩
theorem FW.wr {X X' : St} {o k : Nat} {v : Int32} (h : FW X X') (ho : 3 ≤ o ∧ o < 9) : FW X (z_wr X' o k v) := ⟨fun a ha => by rw [z_wr_o (by omega)]; exact h.1 a ha, fun j hj => by rw [z_wr_o (by omega)]; exact h.2 j hj⟩
theorem FW.wf {X X' : St} {k : Nat} {v : Int32} (h : FW X X') (hk : k = 6 ∨ k = 7) : FW X (z_wr X' 2 k v) := ⟨fun a ha => by rw [z_wr_o (by omega)]; exact h.1 a ha, fun j hj => by rw [z_wr_k (by omega)]; exact h.2 j hj⟩
theorem q_own {x : Itm} (h : 1 ≤ x.1) : nI x.1 - 1 = nI (x.1 - 1) := by
  obtain ⟨m, hm⟩ : ∃ m, x.1 = m + 1 := ⟨x.1 - 1, by omega⟩
  rw [hm]; exact nI_pred m
theorem prt_O2 {c s : Int32} (h : s ∈ prt c) : isO c := by
  by_cases q : isO c
  · exact q
  · rw [prt_O q] at h; exact absurd h List.not_mem_nil
/-- whether an expression comes to the end -/
theorem x_ends {X : St} {x : Itm} (h1 : x.1 ≤ 40) (he : ∀ e, e < x.1 → X 8 e = 0 ∨ X 8 e = 1) : f_X5_comesToEnd N 2 (nI x.1 - 1) x.2 X = some (enS (X 3) (X 8) x, X) := by
  unfold f_X5_comesToEnd enS
  by_cases h0 : x.1 = 0
  · rw [if_pos h0, h0, if_neg (by decide)]
  · rw [if_neg h0, q_own (by omega), if_pos (nI_pos' (by omega)), x_sign (by omega), q_bd]
    have atE : ∀ a b : Option (Int32 × St), (z_bd (f_X5_isAtEnd N 2 (nI (x.1 - 1)) X) fun r9 S8 => if r9 = 0 then some (0, S8) else some (1, S8)) = some (X 8 (x.1 - 1), X) := by
      intro _ _
      rcases he (x.1 - 1) (by omega) with q | q
      · rw [x_end0 (by omega) q, q_bd, if_pos rfl, q]
      · rw [x_end1 (by omega) q, q_bd, if_neg (by decide), q]
    have b82 : b_X5_comesToEnd_82 N 2 (nI (x.1 - 1)) x.2 X = some ((if x.2 = 50 then X 8 (x.1 - 1) else 0), X) := by
      unfold b_X5_comesToEnd_82
      by_cases q : x.2 = 50
      · rw [if_pos q, if_pos q]; exact atE none none
      · rw [if_neg q, if_neg q]
    by_cases c1 : X 3 (x.1 - 1) = 44
    · rw [if_pos c1, b82]
      by_cases q : x.2 = 50 <;> simp [c1, q]
    · rw [if_neg c1]
      by_cases c2 : X 3 (x.1 - 1) = 63
      · rw [if_pos c2]
        by_cases q : x.2 = 49
        · rw [if_pos q]; simp [c2, q]
        · rw [if_neg q, atE none none]; simp [c2, q]
      · rw [if_neg c2]
        by_cases c3 : X 3 (x.1 - 1) = 70
        · rw [if_pos c3]; simp [c3]
        · rw [if_neg c3]
          by_cases c4 : X 3 (x.1 - 1) = 76
          · rw [if_pos c4, b82]
            by_cases q : x.2 = 50 <;> simp [c4, q]
          · rw [if_neg c4]
            by_cases c5 : X 3 (x.1 - 1) = 89
            · rw [if_pos c5, b82]
              by_cases q : x.2 = 50 <;> simp [c5, q]
            · rw [if_neg c5]; simp [c1, c2, c3, c4, c5]
/-- the flags are 0 or 1 -/
theorem WK.en01 {sg va se th si en : Nat → Int32} : ∀ (k : Nat), (∀ j, j < k → WK tx sg va se th si en j) → ∀ e, e < ne tx k → en e = 0 ∨ en e = 1
  | 0, _, e, he => absurd he (Nat.not_lt_zero _)
  | k + 1, h, e, he => by
    have ih := WK.en01 k (fun j hj => h j (by omega))
    obtain ⟨x, r, hs, -, hE⟩ := h k (by omega)
    by_cases hb : x.2 = 118
    · rw [(sk_b hs hb).2.1] at he; exact ih e he
    · rw [(sk_e hs hb).2.1] at he
      by_cases q : e < ne tx k
      · exact ih e q
      · have eq : e = ne tx k := by omega
        subst eq
        have hx : x.1 ≤ ne tx k := (sk_ok (tx := tx) k).2.1 x (by rw [hs]; exact List.mem_cons_self)
        rw [(hE hb).2.2.2.2.2]
        unfold enS
        by_cases h0 : x.1 = 0
        · rw [if_pos h0]; exact Or.inl rfl
        · rw [if_neg h0]
          have := ih (x.1 - 1) (by omega)
          split
          · exact Or.inr rfl
          · split
            · exact this
            · split
              · exact this
              · exact Or.inl rfl
end
