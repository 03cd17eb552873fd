/-! image, on -/
section
variable {N : Nat} {X M : St}
theorem x_cpK {S : St} (hb : S 1 4 = 0 ∨ S 1 4 = 1) : ∃ S', f_X6_copyFrom N 15 1 S = some S' ∧ AX (fun o => S (1 + o)) (fun o => S' (15 + o)) ∧ ∀ o, o < 15 ∨ 28 < o → S' o = S o := by
  unfold f_X6_copyFrom f_X5_copyFrom f_X0_copyFrom
  rw [show z_rfS 1 0 = 2 from rfl, show z_rfS 1 1 = 9 from rfl, show z_rfS 1 2 = 10 from rfl, show z_rfS 1 3 = 14 from rfl, show z_rfS 2 0 = 3 from rfl, show z_rfS 2 1 = 4 from rfl, show z_rfS 2 2 = 5 from rfl, show z_rfS 2 3 = 6 from rfl, show z_rfS 2 4 = 7 from rfl, show z_rfS 2 5 = 8 from rfl, show z_rfS 10 0 = 11 from rfl, show z_rfS 10 1 = 12 from rfl, show z_rfS 10 2 = 13 from rfl, show z_rfS 15 0 = 16 from rfl, show z_rfS 15 1 = 23 from rfl, show z_rfS 15 2 = 24 from rfl, show z_rfS 15 3 = 28 from rfl, show z_rfS 16 0 = 17 from rfl, show z_rfS 16 1 = 18 from rfl, show z_rfS 16 2 = 19 from rfl, show z_rfS 16 3 = 20 from rfl, show z_rfS 16 4 = 21 from rfl, show z_rfS 16 5 = 22 from rfl, show z_rfS 24 0 = 25 from rfl, show z_rfS 24 1 = 26 from rfl, show z_rfS 24 2 = 27 from rfl]
  rw [x_cp (n := 40) rfl rfl, q_bv, x_cp (n := 40) rfl rfl, q_bv, x_cp (n := 40) rfl rfl, q_bv, x_cp (n := 40) rfl rfl, q_bv, x_cp (n := 40) rfl rfl, q_bv, x_cp (n := 40) rfl rfl, q_bv, q_lt, q_lt, q_bv, x_cp (n := 6) rfl rfl, q_bv, x_cp (n := 10) rfl rfl, q_bv, x_cp (n := 10) rfl rfl, q_bv, x_cp (n := 10) rfl rfl, q_bv, q_bv]
  generalize hS5 : z_cp (z_cp (z_cp (z_cp (z_wr (z_wr (z_cp (z_cp (z_cp (z_cp (z_cp (z_cp S 3 17 40) 4 18 40) 5 19 40) 6 20 40) 7 21 40) 8 22 40) 16 6 ((z_cp (z_cp (z_cp (z_cp (z_cp (z_cp S 3 17 40) 4 18 40) 5 19 40) 6 20 40) 7 21 40) 8 22 40) 2 6)) 16 7 ((z_wr (z_cp (z_cp (z_cp (z_cp (z_cp (z_cp S 3 17 40) 4 18 40) 5 19 40) 6 20 40) 7 21 40) 8 22 40) 16 6 ((z_cp (z_cp (z_cp (z_cp (z_cp (z_cp S 3 17 40) 4 18 40) 5 19 40) 6 20 40) 7 21 40) 8 22 40) 2 6)) 2 7)) 9 23 6) 11 25 10) 12 26 10) 13 27 10 = S5
  have fr : ∀ o, o < 15 ∨ 28 < o → S5 o = S o := fun o ho => by rw [← hS5]; rw [z_cp_o (by omega), z_cp_o (by omega), z_cp_o (by omega), z_cp_o (by omega), z_wr_o (by omega), z_wr_o (by omega), z_cp_o (by omega), z_cp_o (by omega), z_cp_o (by omega), z_cp_o (by omega), z_cp_o (by omega), z_cp_o (by omega)]
  have f0 : S5 15 = S 15 := by rw [← hS5]; rw [z_cp_o (by omega), z_cp_o (by omega), z_cp_o (by omega), z_cp_o (by omega), z_wr_o (by omega), z_wr_o (by omega), z_cp_o (by omega), z_cp_o (by omega), z_cp_o (by omega), z_cp_o (by omega), z_cp_o (by omega), z_cp_o (by omega)]
  have p6 : S5 16 6 = S 2 6 ∧ S5 16 7 = S 2 7 := by rw [← hS5]; simp [z_cp, q_ap]
  have rr : ∀ k, k < 40 → S5 17 k = S 3 k ∧ S5 18 k = S 4 k ∧ S5 19 k = S 5 k ∧ S5 20 k = S 6 k ∧ S5 21 k = S 7 k ∧ S5 22 k = S 8 k := fun k hk => by rw [← hS5]; simp [z_cp, q_ap, hk]
  have rg : ∀ k, k < 6 → S5 23 k = S 9 k := fun k hk => by rw [← hS5]; simp [z_cp, q_ap, hk]
  have rc : ∀ k, k < 10 → S5 25 k = S 11 k ∧ S5 26 k = S 12 k ∧ S5 27 k = S 13 k := fun k hk => by rw [← hS5]; simp [z_cp, q_ap, hk]
  obtain ⟨S6, r1, r2, r3⟩ := x_end7 (N := N) (S := S5) (a := 28) (b := 14) (by omega)
  have h4 : S6 1 4 = S 1 4 := by rw [r3 1 (by omega), fr 1 (by omega)]
  have h5 : S6 1 5 = S 1 5 := by rw [r3 1 (by omega), fr 1 (by omega)]
  rw [r1, q_bv, h4, q_gd hb, q_lt, q_lt, show (z_wr S6 15 4 (S 1 4)) 1 5 = S 1 5 from h5]
  refine ⟨_, rfl, ⟨⟨rfl, rfl⟩, ⟨?_, ?_⟩, fun o k ho hk => ?_, fun k hk => ?_, fun o k ho hk => ?_, fun k hk => ?_⟩, fun o ho => ?_⟩
  · show S6 16 6 = S 2 6
    rw [r3 16 (by omega)]; exact p6.1
  · show S6 16 7 = S 2 7
    rw [r3 16 (by omega)]; exact p6.2
  · have : o = 2 ∨ o = 3 ∨ o = 4 ∨ o = 5 ∨ o = 6 ∨ o = 7 := by omega
    obtain ⟨q1, q2, q3, q4, q5, q6⟩ := rr k hk
    rcases this with q | q | q | q | q | q <;> subst q
    · show S6 17 k = S 3 k
      rw [r3 17 (by omega)]; exact q1
    · show S6 18 k = S 4 k
      rw [r3 18 (by omega)]; exact q2
    · show S6 19 k = S 5 k
      rw [r3 19 (by omega)]; exact q3
    · show S6 20 k = S 6 k
      rw [r3 20 (by omega)]; exact q4
    · show S6 21 k = S 7 k
      rw [r3 21 (by omega)]; exact q5
    · show S6 22 k = S 8 k
      rw [r3 22 (by omega)]; exact q6
  · show S6 23 k = S 9 k
    rw [r3 23 (by omega)]; exact rg k hk
  · have : o = 10 ∨ o = 11 ∨ o = 12 := by omega
    obtain ⟨q1, q2, q3⟩ := rc k hk
    rcases this with q | q | q <;> subst q
    · show S6 25 k = S 11 k
      rw [r3 25 (by omega)]; exact q1
    · show S6 26 k = S 12 k
      rw [r3 26 (by omega)]; exact q2
    · show S6 27 k = S 13 k
      rw [r3 27 (by omega)]; exact q3
  · show S6 28 k = S 14 k
    rw [r2 k hk, fr 14 (by omega)]
  · rw [z_wr_o (by omega), z_wr_o (by omega), r3 o (by omega)]; exact fr o ho
theorem x_cpN {S : St} (hb : S 15 4 = 0 ∨ S 15 4 = 1) : ∃ S', f_X6_copyFrom N 1 15 S = some S' ∧ AX (fun o => S (15 + o)) (fun o => S' (1 + o)) ∧ ∀ o, o < 1 ∨ 14 < o → S' o = S o := by
  unfold f_X6_copyFrom f_X5_copyFrom f_X0_copyFrom
  rw [show z_rfS 15 0 = 16 from rfl, show z_rfS 15 1 = 23 from rfl, show z_rfS 15 2 = 24 from rfl, show z_rfS 15 3 = 28 from rfl, show z_rfS 16 0 = 17 from rfl, show z_rfS 16 1 = 18 from rfl, show z_rfS 16 2 = 19 from rfl, show z_rfS 16 3 = 20 from rfl, show z_rfS 16 4 = 21 from rfl, show z_rfS 16 5 = 22 from rfl, show z_rfS 24 0 = 25 from rfl, show z_rfS 24 1 = 26 from rfl, show z_rfS 24 2 = 27 from rfl, show z_rfS 1 0 = 2 from rfl, show z_rfS 1 1 = 9 from rfl, show z_rfS 1 2 = 10 from rfl, show z_rfS 1 3 = 14 from rfl, show z_rfS 2 0 = 3 from rfl, show z_rfS 2 1 = 4 from rfl, show z_rfS 2 2 = 5 from rfl, show z_rfS 2 3 = 6 from rfl, show z_rfS 2 4 = 7 from rfl, show z_rfS 2 5 = 8 from rfl, show z_rfS 10 0 = 11 from rfl, show z_rfS 10 1 = 12 from rfl, show z_rfS 10 2 = 13 from rfl]
  rw [x_cp (n := 40) rfl rfl, q_bv, x_cp (n := 40) rfl rfl, q_bv, x_cp (n := 40) rfl rfl, q_bv, x_cp (n := 40) rfl rfl, q_bv, x_cp (n := 40) rfl rfl, q_bv, x_cp (n := 40) rfl rfl, q_bv, q_lt, q_lt, q_bv, x_cp (n := 6) rfl rfl, q_bv, x_cp (n := 10) rfl rfl, q_bv, x_cp (n := 10) rfl rfl, q_bv, x_cp (n := 10) rfl rfl, q_bv, q_bv]
  generalize hS5 : z_cp (z_cp (z_cp (z_cp (z_wr (z_wr (z_cp (z_cp (z_cp (z_cp (z_cp (z_cp S 17 3 40) 18 4 40) 19 5 40) 20 6 40) 21 7 40) 22 8 40) 2 6 ((z_cp (z_cp (z_cp (z_cp (z_cp (z_cp S 17 3 40) 18 4 40) 19 5 40) 20 6 40) 21 7 40) 22 8 40) 16 6)) 2 7 ((z_wr (z_cp (z_cp (z_cp (z_cp (z_cp (z_cp S 17 3 40) 18 4 40) 19 5 40) 20 6 40) 21 7 40) 22 8 40) 2 6 ((z_cp (z_cp (z_cp (z_cp (z_cp (z_cp S 17 3 40) 18 4 40) 19 5 40) 20 6 40) 21 7 40) 22 8 40) 16 6)) 16 7)) 23 9 6) 25 11 10) 26 12 10) 27 13 10 = S5
  have fr : ∀ o, o < 1 ∨ 14 < o → S5 o = S o := fun o ho => by rw [← hS5]; rw [z_cp_o (by omega), z_cp_o (by omega), z_cp_o (by omega), z_cp_o (by omega), z_wr_o (by omega), z_wr_o (by omega), z_cp_o (by omega), z_cp_o (by omega), z_cp_o (by omega), z_cp_o (by omega), z_cp_o (by omega), z_cp_o (by omega)]
  have f0 : S5 1 = S 1 := by rw [← hS5]; rw [z_cp_o (by omega), z_cp_o (by omega), z_cp_o (by omega), z_cp_o (by omega), z_wr_o (by omega), z_wr_o (by omega), z_cp_o (by omega), z_cp_o (by omega), z_cp_o (by omega), z_cp_o (by omega), z_cp_o (by omega), z_cp_o (by omega)]
  have p6 : S5 2 6 = S 16 6 ∧ S5 2 7 = S 16 7 := by rw [← hS5]; simp [z_cp, q_ap]
  have rr : ∀ k, k < 40 → S5 3 k = S 17 k ∧ S5 4 k = S 18 k ∧ S5 5 k = S 19 k ∧ S5 6 k = S 20 k ∧ S5 7 k = S 21 k ∧ S5 8 k = S 22 k := fun k hk => by rw [← hS5]; simp [z_cp, q_ap, hk]
  have rg : ∀ k, k < 6 → S5 9 k = S 23 k := fun k hk => by rw [← hS5]; simp [z_cp, q_ap, hk]
  have rc : ∀ k, k < 10 → S5 11 k = S 25 k ∧ S5 12 k = S 26 k ∧ S5 13 k = S 27 k := fun k hk => by rw [← hS5]; simp [z_cp, q_ap, hk]
  obtain ⟨S6, r1, r2, r3⟩ := x_end7 (N := N) (S := S5) (a := 14) (b := 28) (by omega)
  have h4 : S6 15 4 = S 15 4 := by rw [r3 15 (by omega), fr 15 (by omega)]
  have h5 : S6 15 5 = S 15 5 := by rw [r3 15 (by omega), fr 15 (by omega)]
  rw [r1, q_bv, h4, q_gd hb, q_lt, q_lt, show (z_wr S6 1 4 (S 15 4)) 15 5 = S 15 5 from h5]
  refine ⟨_, rfl, ⟨⟨rfl, rfl⟩, ⟨?_, ?_⟩, fun o k ho hk => ?_, fun k hk => ?_, fun o k ho hk => ?_, fun k hk => ?_⟩, fun o ho => ?_⟩
  · show S6 2 6 = S 16 6
    rw [r3 2 (by omega)]; exact p6.1
  · show S6 2 7 = S 16 7
    rw [r3 2 (by omega)]; exact p6.2
  · have : o = 2 ∨ o = 3 ∨ o = 4 ∨ o = 5 ∨ o = 6 ∨ o = 7 := by omega
    obtain ⟨q1, q2, q3, q4, q5, q6⟩ := rr k hk
    rcases this with q | q | q | q | q | q <;> subst q
    · show S6 3 k = S 17 k
      rw [r3 3 (by omega)]; exact q1
    · show S6 4 k = S 18 k
      rw [r3 4 (by omega)]; exact q2
    · show S6 5 k = S 19 k
      rw [r3 5 (by omega)]; exact q3
    · show S6 6 k = S 20 k
      rw [r3 6 (by omega)]; exact q4
    · show S6 7 k = S 21 k
      rw [r3 7 (by omega)]; exact q5
    · show S6 8 k = S 22 k
      rw [r3 8 (by omega)]; exact q6
  · show S6 9 k = S 23 k
    rw [r3 9 (by omega)]; exact rg k hk
  · have : o = 10 ∨ o = 11 ∨ o = 12 := by omega
    obtain ⟨q1, q2, q3⟩ := rc k hk
    rcases this with q | q | q <;> subst q
    · show S6 11 k = S 25 k
      rw [r3 11 (by omega)]; exact q1
    · show S6 12 k = S 26 k
      rw [r3 12 (by omega)]; exact q2
    · show S6 13 k = S 27 k
      rw [r3 13 (by omega)]; exact q3
  · show S6 14 k = S 28 k
    rw [r2 k hk, fr 28 (by omega)]
  · rw [z_wr_o (by omega), z_wr_o (by omega), r3 o (by omega)]; exact fr o ho
theorem r_keep {o c len : Nat} (ho : z_ln o = len) (ho2 : o ≠ 65 ∧ o ≠ 101) (hc : c + len ≤ 800) : ∀ (w k f : Nat) (S : St), k + w = len → w < f → S 65 73 = 1 → S 65 74 = nI (c + k) → ∃ S', f_X10_passes_2 N o f (nI k) S = some S' ∧ S' 65 74 = nI (c + len) ∧ (∀ j, k ≤ j → j < len → S' 101 (c + j) = S o j) ∧ (∀ j, j < c + k → S' 101 j = S 101 j) ∧ (∀ o', o' ≠ 65 ∧ o' ≠ 101 → S' o' = S o') ∧ ∀ j, j ≠ 74 → S' 65 j = S 65 j := by
  intro w
  have hl := q_ln o
  induction w with
  | zero =>
    intro k f S hk hf h73 h74
    obtain ⟨f, rfl⟩ : ∃ g, f = g + 1 := ⟨f - 1, by omega⟩
    refine ⟨S, ?_, by rw [h74]; congr 1; omega, fun j h1 h2 => by omega, fun _ _ => rfl, fun _ _ => rfl, fun _ _ => rfl⟩
    show b_X10_passes_2 N o (f_X10_passes_2 N o f) (nI k) S = _
    unfold b_X10_passes_2
    rw [ho, if_pos (nI_le (by omega) (by omega))]
  | succ w ih =>
    intro k f S hk hf h73 h74
    obtain ⟨f, rfl⟩ : ∃ g, f = g + 1 := ⟨f - 1, by omega⟩
    obtain ⟨S', r1, r2, r3, r4, r5, r6⟩ := ih (k + 1) f (z_wr (z_wr S 101 (c + k) (S o k)) 65 74 (nI (c + k + 1))) (by omega) (by omega) h73 (by show nI (c + k + 1) = _; rw [Nat.add_assoc])
    refine ⟨S', ?_, r2, fun j h1 h2 => ?_, fun j hj => ?_, fun o' h' => ?_, fun j hj => ?_⟩
    · show b_X10_passes_2 N o (f_X10_passes_2 N o f) (nI k) S = _
      unfold b_X10_passes_2 b_X10_passes_42
      rw [ho, if_neg (nI_ge (by omega) (by omega)), h73, if_neg q_10, q_gd (q_in (show k < len by omega) (by omega)), h74, q_gd (q_inl (show c + k < z_ln 101 from (show c + k < 800 by omega))), q_lt, nI_clamp (by omega), nI_clamp (by omega), show (z_wr S 101 (c + k) (S o k)) 65 74 = nI (c + k) from h74, nI_1, nI_1, q_lt]
      exact r1
    · by_cases q : j = k
      · subst q
        rw [r4 (c + j) (by omega)]
        exact q_up_s
      · rw [r3 j (by omega) h2, z_wr_o ho2.1, z_wr_o ho2.2]
    · rw [r4 j (by omega)]
      exact q_up_n (show j ≠ c + k by omega)
    · rw [r5 o' h', z_wr_o h'.1, z_wr_o h'.2]
    · rw [r6 j hj, z_wr_k hj]; rfl
theorem r_back {o c len : Nat} (ho : z_ln o = len) (ho2 : o ≠ 65 ∧ o ≠ 101) (hc : c + len ≤ 800) : ∀ (w k f : Nat) (S : St), k + w = len → w < f → S 65 73 = 0 → S 65 74 = nI (c + k) → ∃ S', f_X10_passes_2 N o f (nI k) S = some S' ∧ S' 65 74 = nI (c + len) ∧ (∀ j, k ≤ j → j < len → S' o j = S 101 (c + j)) ∧ (∀ j, j < k → S' o j = S o j) ∧ (∀ o', o' ≠ 65 ∧ o' ≠ o → S' o' = S o') ∧ ∀ j, j ≠ 74 → S' 65 j = S 65 j := by
  intro w
  have hl := q_ln o
  induction w with
  | zero =>
    intro k f S hk hf h73 h74
    obtain ⟨f, rfl⟩ : ∃ g, f = g + 1 := ⟨f - 1, by omega⟩
    refine ⟨S, ?_, by rw [h74]; congr 1; omega, fun j h1 h2 => by omega, fun _ _ => rfl, fun _ _ => rfl, fun _ _ => rfl⟩
    show b_X10_passes_2 N o (f_X10_passes_2 N o f) (nI k) S = _
    unfold b_X10_passes_2
    rw [ho, if_pos (nI_le (by omega) (by omega))]
  | succ w ih =>
    intro k f S hk hf h73 h74
    obtain ⟨f, rfl⟩ : ∃ g, f = g + 1 := ⟨f - 1, by omega⟩
    have e65 : ∀ (v : Int32) (j : Nat), (z_wr S o k v) 65 j = S 65 j := fun v j => by rw [z_wr_o (fun q => ho2.1 q.symm)]
    obtain ⟨S', r1, r2, r3, r4, r5, r6⟩ := ih (k + 1) f (z_wr (z_wr S o k (S 101 (c + k))) 65 74 (nI (c + k + 1))) (by omega) (by omega) (by rw [z_wr_k (by omega), e65]; exact h73) (by show nI (c + k + 1) = _; rw [Nat.add_assoc])
    refine ⟨S', ?_, r2, fun j h1 h2 => ?_, fun j hj => ?_, fun o' h' => ?_, fun j hj => ?_⟩
    · show b_X10_passes_2 N o (f_X10_passes_2 N o f) (nI k) S = _
      unfold b_X10_passes_2 b_X10_passes_42
      rw [ho, if_neg (nI_ge (by omega) (by omega)), h73, if_pos rfl, h74, q_gd (q_inl (show c + k < z_ln 101 from (show c + k < 800 by omega))), q_gd (q_in (show k < len by omega) (by omega)), q_lt, nI_clamp (by omega), nI_clamp (by omega), e65, h74, nI_1, nI_1, q_lt]
      exact r1
    · by_cases q : j = k
      · subst q
        rw [r4 j (by omega), z_wr_o ho2.1]
        exact z_wr_s
      · rw [r3 j (by omega) h2, z_wr_o (by omega), z_wr_o (fun q => ho2.2 q.symm)]
    · rw [r4 j (by omega), z_wr_o ho2.1, z_wr_k (by omega)]
    · rw [r5 o' h', z_wr_o h'.1, z_wr_o h'.2]
    · rw [r6 j hj, z_wr_k hj]; exact e65 _ _
theorem r_1k {S : St} {c j : Nat} {α : Type} {k : St → Option α} (hc : c < 800) (hj : j ≠ 74) (h73 : S 65 73 = 1) (h74 : S 65 74 = nI c) : (z_bd (f_X10_passOne N (S 65 j) S) fun r S1 => z_lt (z_wr S1 65 j r) k) = k (z_wr (z_wr S 101 c (S 65 j)) 65 74 (nI (c + 1))) := by
  unfold f_X10_passOne b_X10_passOne_20 b_X10_passOne_38
  rw [h73, if_neg q_10, if_neg q_10, h74, q_gd (q_inl (show c < z_ln 101 from hc)), nI_clamp (by omega), q_lt, show (z_wr S 101 c (S 65 j)) 65 74 = nI c from h74, nI_1, q_lt, q_bd, q_lt]
  congr 1
  funext a b
  rw [q_ap]
  by_cases q : a = 65
  · subst q
    by_cases q2 : b = j
    · subst q2; rw [if_pos rfl, if_pos rfl, z_wr_k hj]; rfl
    · rw [if_pos rfl, if_neg q2]
  · rw [if_neg q]
theorem r_1b {S : St} {c j : Nat} {v : Int32} {α : Type} {k : St → Option α} (hc : c < 800) (h73 : S 65 73 = 0) (h74 : S 65 74 = nI c) : (z_bd (f_X10_passOne N v S) fun r S1 => z_lt (z_wr S1 65 j r) k) = k (z_wr (z_wr S 65 74 (nI (c + 1))) 65 j (S 101 c)) := by
  unfold f_X10_passOne b_X10_passOne_20 b_X10_passOne_38
  rw [h73, if_pos rfl, if_pos rfl, h74, q_gd (q_inl (show c < z_ln 101 from hc)), nI_clamp (by omega), nI_1, q_lt, q_bd, q_lt]
theorem m_keepAll (hN : 5000 ≤ N) {S : St} : ∃ S', f_X10_passesAll N 1 S = some S' ∧ AM (mL S) (mI S') ∧ (∀ o, o ≠ 65 ∧ o ≠ 101 → S' o = S o) ∧ ∀ k, k ≠ 73 ∧ k ≠ 74 → S' 65 k = S 65 k := by
  unfold f_X10_passesAll f_X10_passes
  rw [q_lt, q_gd (Or.inr rfl), q_lt]
  generalize hS0 : z_wr (z_wr S 65 74 0) 65 73 1 = S0
  have e73 : S0 65 73 = 1 := by rw [← hS0]; rfl
  have e74 : S0 65 74 = nI 0 := by rw [← hS0]; rfl
  have eo : ∀ o, o ≠ 65 → S0 o = S o := fun o ho => by rw [← hS0, z_wr_o ho, z_wr_o ho]
  have ek : ∀ k, k ≠ 73 ∧ k ≠ 74 → S0 65 k = S 65 k := fun k hk => by rw [← hS0, z_wr_k (by omega), z_wr_k (by omega)]
  obtain ⟨S1, a0, b0, c0, d0, f0, g0⟩ := r_keep (N := N) (o := 73) (c := 0) (len := 96) rfl (by omega) (by omega) 96 0 N S0 (by omega) (by omega) e73 e74
  have a0' : f_X10_passes_2 N 73 N 0 S0 = some S1 := a0
  have h0 : S1 65 73 = 1 := by rw [g0 73 (by omega)]; exact e73
  obtain ⟨S2, a1, b1, c1, d1, f1, g1⟩ := r_keep (N := N) (o := 74) (c := 96) (len := 96) rfl (by omega) (by omega) 96 0 N S1 (by omega) (by omega) h0 b0
  have a1' : f_X10_passes_2 N 74 N 0 S1 = some S2 := a1
  have h1 : S2 65 73 = 1 := by rw [g1 73 (by omega)]; exact h0
  obtain ⟨S3, a2, b2, c2, d2, f2, g2⟩ := r_keep (N := N) (o := 78) (c := 192) (len := 6) rfl (by omega) (by omega) 6 0 N S2 (by omega) (by omega) h1 b1
  have a2' : f_X10_passes_2 N 78 N 0 S2 = some S3 := a2
  have h2 : S3 65 73 = 1 := by rw [g2 73 (by omega)]; exact h1
  obtain ⟨S4, a3, b3, c3, d3, f3, g3⟩ := r_keep (N := N) (o := 79) (c := 198) (len := 10) rfl (by omega) (by omega) 10 0 N S3 (by omega) (by omega) h2 b2
  have a3' : f_X10_passes_2 N 79 N 0 S3 = some S4 := a3
  have h3 : S4 65 73 = 1 := by rw [g3 73 (by omega)]; exact h2
  obtain ⟨S5, a4, b4, c4, d4, f4, g4⟩ := r_keep (N := N) (o := 80) (c := 208) (len := 10) rfl (by omega) (by omega) 10 0 N S4 (by omega) (by omega) h3 b3
  have a4' : f_X10_passes_2 N 80 N 0 S4 = some S5 := a4
  have h4 : S5 65 73 = 1 := by rw [g4 73 (by omega)]; exact h3
  obtain ⟨S6, a5, b5, c5, d5, f5, g5⟩ := r_keep (N := N) (o := 81) (c := 218) (len := 10) rfl (by omega) (by omega) 10 0 N S5 (by omega) (by omega) h4 b4
  have a5' : f_X10_passes_2 N 81 N 0 S5 = some S6 := a5
  have h5 : S6 65 73 = 1 := by rw [g5 73 (by omega)]; exact h4
  obtain ⟨S7, a6, b6, c6, d6, f6, g6⟩ := r_keep (N := N) (o := 82) (c := 228) (len := 460) rfl (by omega) (by omega) 460 0 N S6 (by omega) (by omega) h5 b5
  have a6' : f_X10_passes_2 N 82 N 0 S6 = some S7 := a6
  have h6 : S7 65 73 = 1 := by rw [g6 73 (by omega)]; exact h5
  rw [a0', q_bv, a1', q_bv, a2', q_bv, a3', q_bv, a4', q_bv, a5', q_bv, a6', q_bv]
  rw [r_1k (c := 688) (j := 16) (by omega) (by omega) (by exact h6) (by exact b6)]
  rw [r_1k (c := 689) (j := 6) (by omega) (by omega) (by exact h6) (by exact rfl)]
  rw [r_1k (c := 690) (j := 7) (by omega) (by omega) (by exact h6) (by exact rfl)]
  rw [r_1k (c := 691) (j := 29) (by omega) (by omega) (by exact h6) (by exact rfl)]
  rw [r_1k (c := 692) (j := 30) (by omega) (by omega) (by exact h6) (by exact rfl)]
  rw [r_1k (c := 693) (j := 31) (by omega) (by omega) (by exact h6) (by exact rfl)]
  rw [r_1k (c := 694) (j := 32) (by omega) (by omega) (by exact h6) (by exact rfl)]
  rw [r_1k (c := 695) (j := 33) (by omega) (by omega) (by exact h6) (by exact rfl)]
  rw [r_1k (c := 696) (j := 34) (by omega) (by omega) (by exact h6) (by exact rfl)]
  rw [r_1k (c := 697) (j := 35) (by omega) (by omega) (by exact h6) (by exact rfl)]
  have hk7 : ∀ k, k ≠ 74 → S7 65 k = S0 65 k := fun k hk => by rw [g6 k hk, g5 k hk, g4 k hk, g3 k hk, g2 k hk, g1 k hk, g0 k hk]
  have ho7 : ∀ o, o ≠ 65 ∧ o ≠ 101 → S7 o = S0 o := fun o ho => by rw [f6 o ho, f5 o ho, f4 o ho, f3 o ho, f2 o ho, f1 o ho, f0 o ho]
  refine ⟨_, rfl, ⟨fun o k ho hk => ?_, fun k hk => ?_, fun o k ho hk => ?_, fun k hk => ?_, fun k hk => ?_⟩, fun o ho => ?_, fun k hk => ?_⟩
  · have : o = 0 ∨ o = 1 := by omega
    rcases this with q | q <;> subst q
    · unfold mI
      show _ = S 73 k
      show (_ : Nat → Int32) (0 + k) = _
      rw [z_wr_o (by omega), z_wr_k (by omega), z_wr_o (by omega), z_wr_k (by omega), z_wr_o (by omega), z_wr_k (by omega), z_wr_o (by omega), z_wr_k (by omega), z_wr_o (by omega), z_wr_k (by omega), z_wr_o (by omega), z_wr_k (by omega), z_wr_o (by omega), z_wr_k (by omega), z_wr_o (by omega), z_wr_k (by omega), z_wr_o (by omega), z_wr_k (by omega), z_wr_o (by omega), z_wr_k (by omega), d6 (0 + k) (by omega), d5 (0 + k) (by omega), d4 (0 + k) (by omega), d3 (0 + k) (by omega), d2 (0 + k) (by omega), d1 (0 + k) (by omega), c0 k (by omega) hk, eo 73 (by omega)]
    · unfold mI
      show _ = S 74 k
      show (_ : Nat → Int32) (96 + k) = _
      rw [z_wr_o (by omega), z_wr_k (by omega), z_wr_o (by omega), z_wr_k (by omega), z_wr_o (by omega), z_wr_k (by omega), z_wr_o (by omega), z_wr_k (by omega), z_wr_o (by omega), z_wr_k (by omega), z_wr_o (by omega), z_wr_k (by omega), z_wr_o (by omega), z_wr_k (by omega), z_wr_o (by omega), z_wr_k (by omega), z_wr_o (by omega), z_wr_k (by omega), z_wr_o (by omega), z_wr_k (by omega), d6 (96 + k) (by omega), d5 (96 + k) (by omega), d4 (96 + k) (by omega), d3 (96 + k) (by omega), d2 (96 + k) (by omega), c1 k (by omega) hk, f0 74 (by omega), eo 74 (by omega)]
  · unfold mI
    show _ = S 78 k
    show (_ : Nat → Int32) (192 + k) = _
    rw [z_wr_o (by omega), z_wr_k (by omega), z_wr_o (by omega), z_wr_k (by omega), z_wr_o (by omega), z_wr_k (by omega), z_wr_o (by omega), z_wr_k (by omega), z_wr_o (by omega), z_wr_k (by omega), z_wr_o (by omega), z_wr_k (by omega), z_wr_o (by omega), z_wr_k (by omega), z_wr_o (by omega), z_wr_k (by omega), z_wr_o (by omega), z_wr_k (by omega), z_wr_o (by omega), z_wr_k (by omega), d6 (192 + k) (by omega), d5 (192 + k) (by omega), d4 (192 + k) (by omega), d3 (192 + k) (by omega), c2 k (by omega) hk, f1 78 (by omega), f0 78 (by omega), eo 78 (by omega)]
  · have : o = 3 ∨ o = 4 ∨ o = 5 := by omega
    rcases this with q | q | q <;> subst q
    · unfold mI
      show _ = S 79 k
      show (_ : Nat → Int32) (198 + k) = _
      rw [z_wr_o (by omega), z_wr_k (by omega), z_wr_o (by omega), z_wr_k (by omega), z_wr_o (by omega), z_wr_k (by omega), z_wr_o (by omega), z_wr_k (by omega), z_wr_o (by omega), z_wr_k (by omega), z_wr_o (by omega), z_wr_k (by omega), z_wr_o (by omega), z_wr_k (by omega), z_wr_o (by omega), z_wr_k (by omega), z_wr_o (by omega), z_wr_k (by omega), z_wr_o (by omega), z_wr_k (by omega), d6 (198 + k) (by omega), d5 (198 + k) (by omega), d4 (198 + k) (by omega), c3 k (by omega) hk, f2 79 (by omega), f1 79 (by omega), f0 79 (by omega), eo 79 (by omega)]
    · unfold mI
      show _ = S 80 k
      show (_ : Nat → Int32) (208 + k) = _
      rw [z_wr_o (by omega), z_wr_k (by omega), z_wr_o (by omega), z_wr_k (by omega), z_wr_o (by omega), z_wr_k (by omega), z_wr_o (by omega), z_wr_k (by omega), z_wr_o (by omega), z_wr_k (by omega), z_wr_o (by omega), z_wr_k (by omega), z_wr_o (by omega), z_wr_k (by omega), z_wr_o (by omega), z_wr_k (by omega), z_wr_o (by omega), z_wr_k (by omega), z_wr_o (by omega), z_wr_k (by omega), d6 (208 + k) (by omega), d5 (208 + k) (by omega), c4 k (by omega) hk, f3 80 (by omega), f2 80 (by omega), f1 80 (by omega), f0 80 (by omega), eo 80 (by omega)]
    · unfold mI
      show _ = S 81 k
      show (_ : Nat → Int32) (218 + k) = _
      rw [z_wr_o (by omega), z_wr_k (by omega), z_wr_o (by omega), z_wr_k (by omega), z_wr_o (by omega), z_wr_k (by omega), z_wr_o (by omega), z_wr_k (by omega), z_wr_o (by omega), z_wr_k (by omega), z_wr_o (by omega), z_wr_k (by omega), z_wr_o (by omega), z_wr_k (by omega), z_wr_o (by omega), z_wr_k (by omega), z_wr_o (by omega), z_wr_k (by omega), z_wr_o (by omega), z_wr_k (by omega), d6 (218 + k) (by omega), c5 k (by omega) hk, f4 81 (by omega), f3 81 (by omega), f2 81 (by omega), f1 81 (by omega), f0 81 (by omega), eo 81 (by omega)]
  · unfold mI
    show _ = S 82 k
    show (_ : Nat → Int32) (228 + k) = _
    rw [z_wr_o (by omega), z_wr_k (by omega), z_wr_o (by omega), z_wr_k (by omega), z_wr_o (by omega), z_wr_k (by omega), z_wr_o (by omega), z_wr_k (by omega), z_wr_o (by omega), z_wr_k (by omega), z_wr_o (by omega), z_wr_k (by omega), z_wr_o (by omega), z_wr_k (by omega), z_wr_o (by omega), z_wr_k (by omega), z_wr_o (by omega), z_wr_k (by omega), z_wr_o (by omega), z_wr_k (by omega), c6 k (by omega) hk, f5 82 (by omega), f4 82 (by omega), f3 82 (by omega), f2 82 (by omega), f1 82 (by omega), f0 82 (by omega), eo 82 (by omega)]
  · have : k = 0 ∨ k = 1 ∨ k = 2 ∨ k = 3 ∨ k = 4 ∨ k = 5 ∨ k = 6 ∨ k = 7 ∨ k = 8 ∨ k = 9 := by omega
    rcases this with q | q | q | q | q | q | q | q | q | q <;> subst q
    · show S7 65 16 = S 65 16
      rw [hk7 16 (by omega)]; exact ek 16 (by omega)
    · show S7 65 6 = S 65 6
      rw [hk7 6 (by omega)]; exact ek 6 (by omega)
    · show S7 65 7 = S 65 7
      rw [hk7 7 (by omega)]; exact ek 7 (by omega)
    · show S7 65 29 = S 65 29
      rw [hk7 29 (by omega)]; exact ek 29 (by omega)
    · show S7 65 30 = S 65 30
      rw [hk7 30 (by omega)]; exact ek 30 (by omega)
    · show S7 65 31 = S 65 31
      rw [hk7 31 (by omega)]; exact ek 31 (by omega)
    · show S7 65 32 = S 65 32
      rw [hk7 32 (by omega)]; exact ek 32 (by omega)
    · show S7 65 33 = S 65 33
      rw [hk7 33 (by omega)]; exact ek 33 (by omega)
    · show S7 65 34 = S 65 34
      rw [hk7 34 (by omega)]; exact ek 34 (by omega)
    · show S7 65 35 = S 65 35
      rw [hk7 35 (by omega)]; exact ek 35 (by omega)
  · rw [z_wr_o ho.1, z_wr_o ho.2, z_wr_o ho.1, z_wr_o ho.2, z_wr_o ho.1, z_wr_o ho.2, z_wr_o ho.1, z_wr_o ho.2, z_wr_o ho.1, z_wr_o ho.2, z_wr_o ho.1, z_wr_o ho.2, z_wr_o ho.1, z_wr_o ho.2, z_wr_o ho.1, z_wr_o ho.2, z_wr_o ho.1, z_wr_o ho.2, z_wr_o ho.1, z_wr_o ho.2, ho7 o ho]; exact eo o ho.1
  · rw [z_wr_k hk.2, z_wr_o (by omega), z_wr_k hk.2, z_wr_o (by omega), z_wr_k hk.2, z_wr_o (by omega), z_wr_k hk.2, z_wr_o (by omega), z_wr_k hk.2, z_wr_o (by omega), z_wr_k hk.2, z_wr_o (by omega), z_wr_k hk.2, z_wr_o (by omega), z_wr_k hk.2, z_wr_o (by omega), z_wr_k hk.2, z_wr_o (by omega), z_wr_k hk.2, z_wr_o (by omega), hk7 k hk.2]; exact ek k hk
theorem m_backAll (hN : 5000 ≤ N) {S : St} : ∃ S', f_X10_passesAll N 0 S = some S' ∧ AM (mI S) (mL S') ∧ (∀ o, o ≠ 65 ∧ o ≠ 73 ∧ o ≠ 74 ∧ (o < 78 ∨ 82 < o) → S' o = S o) ∧ ∀ k, k ≠ 6 ∧ k ≠ 7 ∧ k ≠ 16 ∧ (k < 29 ∨ 35 < k) ∧ k ≠ 73 ∧ k ≠ 74 → S' 65 k = S 65 k := by
  unfold f_X10_passesAll f_X10_passes
  rw [q_lt, q_gd (Or.inl rfl), q_lt]
  generalize hS0 : z_wr (z_wr S 65 74 0) 65 73 0 = S0
  have e73 : S0 65 73 = 0 := by rw [← hS0]; rfl
  have e74 : S0 65 74 = nI 0 := by rw [← hS0]; rfl
  have eo : ∀ o, o ≠ 65 → S0 o = S o := fun o ho => by rw [← hS0, z_wr_o ho, z_wr_o ho]
  have ek : ∀ k, k ≠ 73 ∧ k ≠ 74 → S0 65 k = S 65 k := fun k hk => by rw [← hS0, z_wr_k (by omega), z_wr_k (by omega)]
  obtain ⟨S1, a0, b0, c0, d0, f0, g0⟩ := r_back (N := N) (o := 73) (c := 0) (len := 96) rfl (by omega) (by omega) 96 0 N S0 (by omega) (by omega) e73 e74
  have a0' : f_X10_passes_2 N 73 N 0 S0 = some S1 := a0
  have h0 : S1 65 73 = 0 := by rw [g0 73 (by omega)]; exact e73
  obtain ⟨S2, a1, b1, c1, d1, f1, g1⟩ := r_back (N := N) (o := 74) (c := 96) (len := 96) rfl (by omega) (by omega) 96 0 N S1 (by omega) (by omega) h0 b0
  have a1' : f_X10_passes_2 N 74 N 0 S1 = some S2 := a1
  have h1 : S2 65 73 = 0 := by rw [g1 73 (by omega)]; exact h0
  obtain ⟨S3, a2, b2, c2, d2, f2, g2⟩ := r_back (N := N) (o := 78) (c := 192) (len := 6) rfl (by omega) (by omega) 6 0 N S2 (by omega) (by omega) h1 b1
  have a2' : f_X10_passes_2 N 78 N 0 S2 = some S3 := a2
  have h2 : S3 65 73 = 0 := by rw [g2 73 (by omega)]; exact h1
  obtain ⟨S4, a3, b3, c3, d3, f3, g3⟩ := r_back (N := N) (o := 79) (c := 198) (len := 10) rfl (by omega) (by omega) 10 0 N S3 (by omega) (by omega) h2 b2
  have a3' : f_X10_passes_2 N 79 N 0 S3 = some S4 := a3
  have h3 : S4 65 73 = 0 := by rw [g3 73 (by omega)]; exact h2
  obtain ⟨S5, a4, b4, c4, d4, f4, g4⟩ := r_back (N := N) (o := 80) (c := 208) (len := 10) rfl (by omega) (by omega) 10 0 N S4 (by omega) (by omega) h3 b3
  have a4' : f_X10_passes_2 N 80 N 0 S4 = some S5 := a4
  have h4 : S5 65 73 = 0 := by rw [g4 73 (by omega)]; exact h3
  obtain ⟨S6, a5, b5, c5, d5, f5, g5⟩ := r_back (N := N) (o := 81) (c := 218) (len := 10) rfl (by omega) (by omega) 10 0 N S5 (by omega) (by omega) h4 b4
  have a5' : f_X10_passes_2 N 81 N 0 S5 = some S6 := a5
  have h5 : S6 65 73 = 0 := by rw [g5 73 (by omega)]; exact h4
  obtain ⟨S7, a6, b6, c6, d6, f6, g6⟩ := r_back (N := N) (o := 82) (c := 228) (len := 460) rfl (by omega) (by omega) 460 0 N S6 (by omega) (by omega) h5 b5
  have a6' : f_X10_passes_2 N 82 N 0 S6 = some S7 := a6
  have h6 : S7 65 73 = 0 := by rw [g6 73 (by omega)]; exact h5
  rw [a0', q_bv, a1', q_bv, a2', q_bv, a3', q_bv, a4', q_bv, a5', q_bv, a6', q_bv]
  rw [r_1b (c := 688) (j := 16) (by omega) (by exact h6) (by exact b6)]
  rw [r_1b (c := 689) (j := 6) (by omega) (by exact h6) (by exact rfl)]
  rw [r_1b (c := 690) (j := 7) (by omega) (by exact h6) (by exact rfl)]
  rw [r_1b (c := 691) (j := 29) (by omega) (by exact h6) (by exact rfl)]
  rw [r_1b (c := 692) (j := 30) (by omega) (by exact h6) (by exact rfl)]
  rw [r_1b (c := 693) (j := 31) (by omega) (by exact h6) (by exact rfl)]
  rw [r_1b (c := 694) (j := 32) (by omega) (by exact h6) (by exact rfl)]
  rw [r_1b (c := 695) (j := 33) (by omega) (by exact h6) (by exact rfl)]
  rw [r_1b (c := 696) (j := 34) (by omega) (by exact h6) (by exact rfl)]
  rw [r_1b (c := 697) (j := 35) (by omega) (by exact h6) (by exact rfl)]
  have hk7 : ∀ k, k ≠ 74 → S7 65 k = S0 65 k := fun k hk => by rw [g6 k hk, g5 k hk, g4 k hk, g3 k hk, g2 k hk, g1 k hk, g0 k hk]
  have h101 : S7 101 = S 101 := by rw [f6 101 (by omega), f5 101 (by omega), f4 101 (by omega), f3 101 (by omega), f2 101 (by omega), f1 101 (by omega), f0 101 (by omega), eo 101 (by omega)]
  refine ⟨_, rfl, ⟨fun o k ho hk => ?_, fun k hk => ?_, fun o k ho hk => ?_, fun k hk => ?_, fun k hk => ?_⟩, fun o ho => ?_, fun k hk => ?_⟩
  · have : o = 0 ∨ o = 1 := by omega
    rcases this with q | q <;> subst q
    · show S7 73 k = S 101 (0 + k)
      rw [f6 73 (by omega), f5 73 (by omega), f4 73 (by omega), f3 73 (by omega), f2 73 (by omega), f1 73 (by omega), c0 k (by omega) hk, eo 101 (by omega)]
    · show S7 74 k = S 101 (96 + k)
      rw [f6 74 (by omega), f5 74 (by omega), f4 74 (by omega), f3 74 (by omega), f2 74 (by omega), c1 k (by omega) hk, f0 101 (by omega), eo 101 (by omega)]
  · show S7 78 k = S 101 (192 + k)
    rw [f6 78 (by omega), f5 78 (by omega), f4 78 (by omega), f3 78 (by omega), c2 k (by omega) hk, f1 101 (by omega), f0 101 (by omega), eo 101 (by omega)]
  · have : o = 3 ∨ o = 4 ∨ o = 5 := by omega
    rcases this with q | q | q <;> subst q
    · show S7 79 k = S 101 (198 + k)
      rw [f6 79 (by omega), f5 79 (by omega), f4 79 (by omega), c3 k (by omega) hk, f2 101 (by omega), f1 101 (by omega), f0 101 (by omega), eo 101 (by omega)]
    · show S7 80 k = S 101 (208 + k)
      rw [f6 80 (by omega), f5 80 (by omega), c4 k (by omega) hk, f3 101 (by omega), f2 101 (by omega), f1 101 (by omega), f0 101 (by omega), eo 101 (by omega)]
    · show S7 81 k = S 101 (218 + k)
      rw [f6 81 (by omega), c5 k (by omega) hk, f4 101 (by omega), f3 101 (by omega), f2 101 (by omega), f1 101 (by omega), f0 101 (by omega), eo 101 (by omega)]
  · show S7 82 k = S 101 (228 + k)
    rw [c6 k (by omega) hk, f5 101 (by omega), f4 101 (by omega), f3 101 (by omega), f2 101 (by omega), f1 101 (by omega), f0 101 (by omega), eo 101 (by omega)]
  · have : k = 0 ∨ k = 1 ∨ k = 2 ∨ k = 3 ∨ k = 4 ∨ k = 5 ∨ k = 6 ∨ k = 7 ∨ k = 8 ∨ k = 9 := by omega
    rcases this with q | q | q | q | q | q | q | q | q | q <;> subst q
    · show S7 101 688 = S 101 (688 + 0)
      rw [h101]
    · show S7 101 689 = S 101 (688 + 1)
      rw [h101]
    · show S7 101 690 = S 101 (688 + 2)
      rw [h101]
    · show S7 101 691 = S 101 (688 + 3)
      rw [h101]
    · show S7 101 692 = S 101 (688 + 4)
      rw [h101]
    · show S7 101 693 = S 101 (688 + 5)
      rw [h101]
    · show S7 101 694 = S 101 (688 + 6)
      rw [h101]
    · show S7 101 695 = S 101 (688 + 7)
      rw [h101]
    · show S7 101 696 = S 101 (688 + 8)
      rw [h101]
    · show S7 101 697 = S 101 (688 + 9)
      rw [h101]
  · rw [z_wr_o ho.1, z_wr_o ho.1, z_wr_o ho.1, z_wr_o ho.1, z_wr_o ho.1, z_wr_o ho.1, z_wr_o ho.1, z_wr_o ho.1, z_wr_o ho.1, z_wr_o ho.1, z_wr_o ho.1, z_wr_o ho.1, z_wr_o ho.1, z_wr_o ho.1, z_wr_o ho.1, z_wr_o ho.1, z_wr_o ho.1, z_wr_o ho.1, z_wr_o ho.1, z_wr_o ho.1, f6 o (by omega), f5 o (by omega), f4 o (by omega), f3 o (by omega), f2 o (by omega), f1 o (by omega), f0 o (by omega)]; exact eo o ho.1
  · rw [z_wr_k (by omega), z_wr_k (by omega), z_wr_k (by omega), z_wr_k (by omega), z_wr_k (by omega), z_wr_k (by omega), z_wr_k (by omega), z_wr_k (by omega), z_wr_k (by omega), z_wr_k (by omega), z_wr_k (by omega), z_wr_k (by omega), z_wr_k (by omega), z_wr_k (by omega), z_wr_k (by omega), z_wr_k (by omega), z_wr_k (by omega), z_wr_k (by omega), z_wr_k (by omega), z_wr_k (by omega), hk7 k (by omega)]; exact ek k (by omega)
theorem LR.b {sx lx mc ms : Nat → Int32} (h : LR sx lx mc ms) : sx 4 = 0 ∨ sx 4 = 1 := by
  rcases h with q | q
  · exact Or.inl q.1
  · exact Or.inr q.1
theorem p_image (hN : 5000 ≤ N) (h : Rel X M) : PB (f_X9_image N X) (f_X10_image N M) := by
  obtain ⟨⟨tx, n, g, g2, g3⟩, ⟨L, l1, l2, l3, l4⟩, ⟨R, r1, r2, r3, r4⟩, h5, h6⟩ := id h
  obtain ⟨X1, x1, x2, x3⟩ := x_cpK (N := N) (S := X) (show LR (X 1) (X 14) _ _ from g.2.2.2.2.2.2.1).b
  obtain ⟨M1, m1, m2, m3, m4⟩ := m_keepAll hN (S := z_wr M 65 72 1)
  unfold f_X9_image f_X10_image
  rw [x1, q_bv, q_lt, q_lt, m1, q_bv]
  have e1 : X1 16 6 = nI (ne tx n) := x2.2.1.1.trans g.2.1.1
  have e2 : M1 65 6 = nI (ne tx n) := by rw [m4 6 (by omega)]; exact g.2.2.1.2.1
  refine ⟨nI (ne tx n), z_wr X1 0 8 1, M1, by show some (X1 16 6, _) = _; rw [e1], by rw [e2], ?_⟩
  have hx : ∀ o, o ≠ 0 ∧ (o < 15 ∨ 28 < o) → (z_wr X1 0 8 1) o = X o := fun o ho => by rw [z_wr_o ho.1]; exact x3 o (by omega)
  have hm : ∀ o, o ≠ 65 ∧ o ≠ 101 → M1 o = M o := fun o ho => by rw [m3 o ho, z_wr_o ho.1]
  have hk : ∀ k, k ≠ 72 ∧ k ≠ 73 ∧ k ≠ 74 → M1 65 k = M 65 k := fun k hk => by rw [m4 k (by omega), z_wr_k (by omega)]
  refine ⟨RN.eq ⟨tx, n, g, g2, g3⟩ (fun o ho => hx o (by omega)) (fun o ho => hm o (by omega)) (fun k h' => hk k (by omega)), ⟨L, l1, by rw [hx 56 (by omega)]; exact l2, by rw [hk 15 (by omega)]; exact l3, fun j hj => by rw [hx 57 (by omega), hm 72 (by omega)]; exact l4 j hj⟩, ⟨R, r1, by show X1 0 7 = _; rw [x3 0 (by omega)]; exact r2, by rw [hk 69 (by omega)]; exact r3, fun j hj => by rw [hx 62 (by omega), hm 100 (by omega)]; exact r4 j hj⟩, fun j hj => by rw [hx 63 (by omega), hm 66 (by omega)]; exact h5 j hj, Or.inr ⟨rfl, by rw [m4 72 (by omega)]; rfl, tx, n, ?_⟩⟩
  have am : AM (mL M) (mI M1) := by
    have e : mL (z_wr M 65 72 1) = mL M := by
      funext o k
      unfold mL
      by_cases q : o < 7
      · rw [if_pos q, if_pos q]
        have hil : il o ≠ 65 := by
          have : o = 0 ∨ o = 1 ∨ o = 2 ∨ o = 3 ∨ o = 4 ∨ o = 5 ∨ o = 6 := by omega
          rcases this with q | q | q | q | q | q | q <;> subst q <;> decide
        rw [z_wr_o hil]
      · rw [if_neg q, if_neg q, z_wr_k (by have := ix_lt k; omega)]
    rw [e] at m2
    exact m2
  refine g.eq ?_ am
  obtain ⟨a1, a2, a3, a4, a5, a6⟩ := x2
  exact ⟨a1, a2, fun o k ho hk' => by rw [← a3 o k ho hk']; show (z_wr X1 0 8 1) (15 + o) k = X1 (15 + o) k; rw [z_wr_o (by omega)], a4, fun o k ho hk' => by rw [← a5 o k ho hk']; show (z_wr X1 0 8 1) (15 + o) k = X1 (15 + o) k; rw [z_wr_o (by omega)], a6⟩
theorem p_on (hN : 5000 ≤ N) (h : Rel X M) : PB (f_X9_on N X) (f_X10_on N M) := by
  obtain ⟨⟨tx0, n0, g0, -, -⟩, ⟨L, l1, l2, l3, l4⟩, ⟨R, r1, r2, r3, r4⟩, h5, h6⟩ := id h
  unfold f_X9_on f_X10_on
  rcases h6 with ⟨q1, q2⟩ | ⟨q1, q2, tx, n, g⟩
  · rw [q1, if_pos rfl, q2, if_pos rfl, q_bdi, q_bdi]
    exact p_no h (by decide)
  · rw [q1, if_neg q_10, q2, if_neg q_10]
    obtain ⟨X1, x1, x2, x3⟩ := x_cpN (N := N) (S := X) (show LR (X 15) (X 28) _ _ from g.2.2.2.2.2.2.1).b
    obtain ⟨M1, m1, m2, m3, m4⟩ := m_backAll hN (S := M)
    have gn : SR tx n (fun o => X1 (1 + o)) (mL M1) := g.eq x2 m2
    obtain ⟨s1, ⟨s2, s3, s4⟩, ⟨s5, s6, s7, s8⟩, s9⟩ := id gn
    obtain ⟨M2, b1, b2, b3, b4⟩ := m_build (N := N) (tx := tx) (M := M1) (by omega) s1.2.1 s1.1 s1.2.2.1 s5 s7 s8
    rw [x1, q_bv, m1, q_bv, b1, q_bv]
    have e2 : M2 65 6 = nI (ne tx n) := by rw [b4.2 6 (by omega)]; exact s6
    refine ⟨nI (ne tx n), X1, M2, by rw [show X1 2 6 = nI (ne tx n) from s2], by rw [e2], ?_⟩
    have hm : ∀ o, o = 66 ∨ o = 72 ∨ 98 ≤ o → M2 o = M o := fun o ho => by rw [b4.1 o (by omega), m3 o (by omega)]
    have hk : ∀ k, k = 15 ∨ k = 69 ∨ k = 72 → M2 65 k = M 65 k := fun k hk => by rw [b4.2 k (by omega), m4 k (by omega)]
    refine ⟨⟨tx, n, gn.eq AX.rf (AM.l (fun o ho => b4.1 o (by omega)) (fun k => b4.2 _ (by have := ix_lt k; omega))), b2, b3⟩, ⟨L, l1, by rw [x3 56 (by omega)]; exact l2, by rw [hk 15 (by omega)]; exact l3, fun j hj => by rw [x3 57 (by omega), hm 72 (by omega)]; exact l4 j hj⟩, ⟨R, r1, by rw [x3 0 (by omega)]; exact r2, by rw [hk 69 (by omega)]; exact r3, fun j hj => by rw [x3 62 (by omega), hm 100 (by omega)]; exact r4 j hj⟩, fun j hj => by rw [x3 63 (by omega), hm 66 (by omega)]; exact h5 j hj, ?_⟩
    exact RIm.eq (Or.inr ⟨q1, q2, tx, n, g⟩) (by rw [x3 0 (by omega)]) (fun o ho => x3 o (by omega)) (hk 72 (by omega)) (hm 101 (by omega))
end
