/-! caches, fields, faults that are told, records -/
def x_bc (a : Int32) : Int32 := match f_J6_bitCount_0f7a4 0 a (fun _ _ => 0) with
  | some (r, _) => r
  | none => 0
theorem x_bits {N : Nat} {S : St} {a : Int32} : f_J6_bitCount_0f7a4 N a S = some (x_bc a, S) := rfl
def m_b4 (a : Int32) : Int32 := (((0 + ((a >>> ((0 : Int32) &&& 31)) &&& 1)) + ((a >>> ((0 + 1 : Int32) &&& 31)) &&& 1)) + ((a >>> ((0 + 1 + 1 : Int32) &&& 31)) &&& 1)) + ((a >>> ((0 + 1 + 1 + 1 : Int32) &&& 31)) &&& 1)
theorem m_bits {N : Nat} {S : St} {a : Int32} (hN : 5 ≤ N) : f_X10_bits N a S = some (m_b4 a, S) := by
  obtain ⟨n, e⟩ : ∃ n, N = n + 5 := ⟨N - 5, by omega⟩
  unfold f_X10_bits
  rw [show f_X10_bits_4 N N a 0 0 S = f_X10_bits_4 N (n + 5) a 0 0 S by rw [← e]]
  show b_X10_bits_4 N (f_X10_bits_4 N (n + 4)) a 0 0 S = _
  unfold b_X10_bits_4
  rw [if_neg (by decide)]
  show b_X10_bits_4 N (f_X10_bits_4 N (n + 3)) a _ _ S = _
  unfold b_X10_bits_4
  rw [if_neg (by decide)]
  show b_X10_bits_4 N (f_X10_bits_4 N (n + 2)) a _ _ S = _
  unfold b_X10_bits_4
  rw [if_neg (by decide)]
  show b_X10_bits_4 N (f_X10_bits_4 N (n + 1)) a _ _ S = _
  unfold b_X10_bits_4
  rw [if_neg (by decide)]
  show b_X10_bits_4 N (f_X10_bits_4 N n) a _ _ S = _
  unfold b_X10_bits_4
  rw [if_pos (by decide)]
  rfl
theorem q_pop : ∀ s, s < 16 → x_bc (nI s) = m_b4 (nI s) ∧ (m_b4 (nI s) ≤ 3 ∨ s = 15) ∧ (∃ k, k < 5 ∧ m_b4 (nI s) = nI k) := by
  intro s hs
  have d : ∀ s, s < 16 → x_bc (nI s) = m_b4 (nI s) ∧ (m_b4 (nI s) ≤ 3 ∨ s = 15) ∧ (m_b4 (nI s) = nI 0 ∨ m_b4 (nI s) = nI 1 ∨ m_b4 (nI s) = nI 2 ∨ m_b4 (nI s) = nI 3 ∨ m_b4 (nI s) = nI 4) := by decide +kernel
  obtain ⟨a, b, c⟩ := d s hs
  refine ⟨a, b, ?_⟩
  rcases c with c | c | c | c | c
  · exact ⟨0, by omega, c⟩
  · exact ⟨1, by omega, c⟩
  · exact ⟨2, by omega, c⟩
  · exact ⟨3, by omega, c⟩
  · exact ⟨4, by omega, c⟩
/-- a shape's bit in what was seen -/
theorem q_bit : ∀ s, s < 16 → ∀ k, k < 4 → ((nI s &&& ((1 : Int32) <<< (nI k &&& 31))) = 0 ↔ ¬ ((nI s >>> (nI k &&& 31)) &&& 1) = 1) ∧ ((∃ j, j < 16 ∧ (nI s ||| ((1 : Int32) <<< (nI k &&& 31))) = nI j)) ∧ (((nI s >>> (nI k &&& 31)) &&& 1) = 1 → (nI s ||| ((1 : Int32) <<< (nI k &&& 31))) = nI s) := by
  intro s hs k hk
  have d : ∀ s, s < 16 → ∀ k, k < 4 → ((nI s &&& ((1 : Int32) <<< (nI k &&& 31))) = 0 ↔ ¬ ((nI s >>> (nI k &&& 31)) &&& 1) = 1) ∧ (nI s ||| ((1 : Int32) <<< (nI k &&& 31))) = nI (s ||| (2 ^ k)) ∧ s ||| (2 ^ k) < 16 ∧ (((nI s >>> (nI k &&& 31)) &&& 1) = 1 → (nI s ||| ((1 : Int32) <<< (nI k &&& 31))) = nI s) := by decide +kernel
  obtain ⟨a, b, c, e⟩ := d s hs k hk
  exact ⟨a, ⟨_, c, b⟩, e⟩
section
variable {N : Nat} {X M X0 M0 : St} {z h st dp cn tn vn fn μ : Nat} {θ : Nat → Nat}
/-- what the cache of a site becomes -/
theorem RB.see {i : Nat} {a b c : Int32} (hB : RB X M z h st dp cn tn vn fn θ) (hi : i < 10) (ha : ∃ s, s < 16 ∧ a = nI s) : RB (z_wr (z_wr (z_wr X 33 i b) 34 i c) 32 i a) (z_wr (z_wr (z_wr M 80 i b) 81 i c) 79 i a) z h st dp cn tn vn fn θ := by
  obtain ⟨b1, b2, b3, b4, b5, b6, b7, b8⟩ := hB
  refine ⟨b1, b2, b3, b4, ?_, b6, b7, b8⟩
  intro j hj
  show q_up (X 32) i a j = q_up (M 79) i a j ∧ (∃ s, s < 16 ∧ q_up (X 32) i a j = nI s) ∧ q_up (X 33) i b j = q_up (M 80) i b j ∧ q_up (X 34) i c j = q_up (M 81) i c j
  by_cases e : j = i
  · subst e; rw [q_up_s, q_up_s, q_up_s, q_up_s, q_up_s, q_up_s]; exact ⟨rfl, ha, rfl, rfl⟩
  · rw [q_up_n e, q_up_n e, q_up_n e, q_up_n e, q_up_n e, q_up_n e]; exact b5 j hj
/-- both caches pass alike -/
theorem x_m_see {i k : Nat} (hN : 1000 ≤ N) (hB : RB X M z h st dp cn tn vn fn θ) (hi : i < 10) (hk : k < 4) : ∃ X' M', f_X0_see N 31 (nI i) (nI k) X = some X' ∧ f_X10_passesCache N (nI i) (nI k) M = some M' ∧ RB X' M' z h st dp cn tn vn fn θ ∧ (∀ o, o ≠ 32 ∧ o ≠ 33 ∧ o ≠ 34 → X' o = X o) ∧ (∀ o, o ≠ 79 ∧ o ≠ 80 ∧ o ≠ 81 → M' o = M o) ∧ (∀ k', k' ≠ i → X' 32 k' = X 32 k') := by
  obtain ⟨c1, ⟨s, hs, c2⟩, c3, c4⟩ := hB.2.2.2.2.1 i hi
  obtain ⟨q1, ⟨j, q2, q3⟩, q4⟩ := q_bit s hs k hk
  obtain ⟨w1, w2, w, w3, w4⟩ := q_pop s hs
  have hci : (nI i).toNatClampNeg = i := nI_clamp (by omega)
  have m79 : M 79 i = nI s := c1.symm.trans c2
  have miss : ∀ t0 : Int32, ∃ X' M', b_X0_see_50 N 31 (nI i) (nI s) ((1 : Int32) <<< (nI k &&& 31)) X = some X' ∧ b_X10_passesCache_31 N (nI i) (nI k) M = some M' ∧ RB X' M' z h st dp cn tn vn fn θ ∧ (∀ o, o ≠ 32 ∧ o ≠ 33 ∧ o ≠ 34 → X' o = X o) ∧ (∀ o, o ≠ 79 ∧ o ≠ 80 ∧ o ≠ 81 → M' o = M o) ∧ (∀ k', k' ≠ i → X' 32 k' = X 32 k') := by
    intro _
    unfold b_X0_see_50 b_X10_passesCache_31 b_X10_passesCache_32 b_X10_passesCache_49 b_X10_passesCache_67
    rw [show z_rfS 31 2 = 34 from rfl, show z_rfS 31 0 = 32 from rfl, x_at (show i < z_ln 34 from hi), q_bd, x_put (show i < z_ln 34 from hi), q_bv, x_put (show i < z_ln 32 from hi), q_bv]
    simp only [hci]
    rw [q_gd (q_inl (show i < z_ln 80 from hi)), if_pos trivial, q_gd (q_inl (show i < z_ln 80 from hi)), q_lt, q_gd (q_inl (show i < z_ln 81 from hi)), if_pos trivial, q_gd (q_inl (show i < z_ln 81 from hi)), q_lt, q_gd (q_inl (show i < z_ln 79 from hi)), q_gd (q_inl (show i < z_ln 79 from hi)), q_lt]
    have hB2 := hB.see (a := nI s ||| ((1 : Int32) <<< (nI k &&& 31))) (b := X 33 i + 0) (c := X 34 i + 1) hi ⟨j, q2, q3⟩
    refine ⟨_, _, rfl, rfl, ?_, fun o ho => ?_, fun o ho => ?_, fun k' hk' => q_up_n hk'⟩
    · have e1 : z_wr (z_wr (z_wr X 33 i (X 33 i + 0)) 34 i (X 34 i + 1)) 32 i (nI s ||| ((1 : Int32) <<< (nI k &&& 31))) = z_wr (z_wr X 34 i (X 34 i + 1)) 32 i (nI s ||| ((1 : Int32) <<< (nI k &&& 31))) := by
        funext o b
        simp only [q_ap]
        have e : X 33 i + 0 = X 33 i := Int32.add_zero _
        rw [e]
        by_cases h1 : o = 32
        · simp [h1]
        · by_cases h2 : o = 34
          · simp [h2]
          · by_cases h3 : o = 33
            · subst h3
              by_cases h4 : b = i
              · simp [h4]
              · simp [h4]
            · simp [h1, h2, h3]
      rw [e1] at hB2
      have e2 : (z_wr (z_wr M 80 i (M 80 i + 0)) 81 i ((z_wr M 80 i (M 80 i + 0)) 81 i + 1)) 79 i = nI s := m79
      have e3 : (z_wr M 80 i (M 80 i + 0)) 81 i = M 81 i := rfl
      rw [e2, e3, ← c3, ← c4]
      exact hB2
    · rw [z_wr_o (by omega), z_wr_o (by omega)]
    · rw [z_wr_o (by omega), z_wr_o (by omega), z_wr_o (by omega)]
  unfold f_X0_see f_X10_passesCache
  rw [show z_rfS 31 0 = 32 from rfl, x_at (show i < z_ln 32 from hi), q_bd, c2]
  simp only [hci]
  rw [q_gd (q_inl (show i < z_ln 79 from hi)), m79]
  by_cases hb : ((nI s >>> (nI k &&& 31)) &&& 1) = 1
  · rw [if_neg (fun q => (q1.mp q) hb), if_pos hb, q_gd (q_inl (show i < z_ln 79 from hi)), x_bits, q_bd, m_bits (by omega), q_bd, w1]
    by_cases h2 : 2 < m_b4 (nI s)
    · rw [if_pos h2, if_pos h2]
      exact miss 0
    · rw [if_neg h2, if_neg h2]
      unfold b_X10_passesCache_32 b_X10_passesCache_49 b_X10_passesCache_67
      rw [show z_rfS 31 1 = 33 from rfl, x_at (show i < z_ln 33 from hi), q_bd, x_put (show i < z_ln 33 from hi), q_bv]
      simp only [hci]
      rw [q_gd (q_inl (show i < z_ln 80 from hi)), if_neg (by decide), q_gd (q_inl (show i < z_ln 80 from hi)), q_lt, q_gd (q_inl (show i < z_ln 81 from hi)), if_neg (by decide), q_gd (q_inl (show i < z_ln 81 from hi)), q_lt, q_gd (q_inl (show i < z_ln 79 from hi)), q_gd (q_inl (show i < z_ln 79 from hi)), q_lt]
      have hB2 := hB.see (a := nI s ||| ((1 : Int32) <<< (nI k &&& 31))) (b := X 33 i + 1) (c := X 34 i + 0) hi ⟨j, q2, q3⟩
      refine ⟨_, _, rfl, rfl, ?_, fun o ho => ?_, fun o ho => ?_, fun k' hk' => rfl⟩
      · have e1 : z_wr (z_wr (z_wr X 33 i (X 33 i + 1)) 34 i (X 34 i + 0)) 32 i (nI s ||| ((1 : Int32) <<< (nI k &&& 31))) = z_wr X 33 i (X 33 i + 1) := by
          funext o b
          simp only [q_ap]
          have e : X 34 i + 0 = X 34 i := Int32.add_zero _
          rw [e, q4 hb]
          by_cases h1 : o = 32
          · subst h1
            by_cases h4 : b = i
            · subst h4; simp [c2]
            · simp [h4]
          · by_cases h3 : o = 34
            · subst h3
              by_cases h4 : b = i
              · simp [h4]
              · simp [h4]
            · simp [h1, h3]
        rw [e1] at hB2
        have e2 : (z_wr (z_wr M 80 i (M 80 i + 1)) 81 i ((z_wr M 80 i (M 80 i + 1)) 81 i + 0)) 79 i = nI s := m79
        have e3 : (z_wr M 80 i (M 80 i + 1)) 81 i = M 81 i := rfl
        rw [e2, e3, ← c3, ← c4]
        exact hB2
      · rw [z_wr_o (by omega)]
      · rw [z_wr_o (by omega), z_wr_o (by omega), z_wr_o (by omega)]
  · rw [if_pos (q1.mpr hb), if_neg hb]
    exact miss 0
end
