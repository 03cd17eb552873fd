/-! what is told of a run, of caches; the run itself -/
section
variable {N : Nat} {X M : St}
theorem q_10 : ¬ (1 : Int32) = 0 := by decide
theorem q_n1 : ¬ (-1 : Int32) = 0 := by decide
theorem q_n2 : ¬ (-2 : Int32) = 0 := by decide
theorem q_n3 : ¬ (-3 : Int32) = 0 := by decide
theorem q_n4 : ¬ (-4 : Int32) = 0 := by decide
theorem q_n6 : ¬ (-6 : Int32) = 0 := by decide
def stv (a : Int32) : Int32 := if m_b4 a ≤ 3 then m_b4 a else 3
theorem x_state {S : St} {o k s : Nat} (hk : k < z_ln (z_rfS o 0)) (hs : s < 16) (e : S (z_rfS o 0) k = nI s) : f_X0_stateOf N o (nI k) S = some (stv (nI s), S) := by
  unfold f_X0_stateOf stv
  rw [x_at hk, q_bd, e, x_bits, q_bd, (q_pop s hs).1]
  by_cases q : 3 < m_b4 (nI s)
  · rw [if_pos q, if_neg (Int32.not_le.mpr q)]
  · rw [if_neg q, if_pos (Int32.not_lt.mp q)]
theorem m_state {S : St} {k s : Nat} (hN : 5 ≤ N) (hk : k < 10) (e : S 79 k = nI s) : f_X10_stateOf N (nI k) S = some (stv (nI s), S) := by
  unfold f_X10_stateOf stv
  have c1 : (nI k).toNatClampNeg = k := nI_clamp (by omega)
  rw [q_gd (q_inl (show k < z_ln 79 from hk))]
  simp only [c1]
  rw [e, m_bits hN, q_bd]
  by_cases q : m_b4 (nI s) ≤ 3
  · rw [if_pos q, if_pos q, q_gd (q_inl (show k < z_ln 79 from hk)), e, m_bits hN, q_bd]
  · rw [if_neg q, if_neg q]
theorem p_ended {a : Int32} (h : Rel X M) : PB (f_X9_ended N a X) (f_X10_ended N a M) := by
  unfold f_X9_ended f_X10_ended b_X10_ended_27
  rcases x_end (N := N) (a := a) (S := X) with ⟨v, hv, e, e1, e2⟩ | ⟨e1, e2⟩
  · rw [e1, q_bd, if_neg q_10, e2, q_bd, if_neg q_10]
    obtain ⟨⟨tx, n, g, -, -⟩, -⟩ := id h
    have hl : LR (X 1) (X 14) (M 82) (mL M 7) := g.2.2.2.2.2.2.1
    rcases hl with ⟨q1, q2⟩ | ⟨q1, ⟨w, w1, w2⟩, q3, q4, q5, q6, q7, q8, -⟩
    · rw [if_pos q1, show M 65 29 = -9 from q2, if_neg (show ¬ (0 : Int32) ≤ -9 by decide), if_neg q_n3, q_bdi, q_bdi]
      exact p_num h (by decide)
    · rw [q1, if_neg q_10, show M 65 29 = nI w from w2, if_pos (nI_pos' (by omega)), if_pos rfl]
      rw [q_gd (show z_in 0 (z_ln 98) by decide), q_lt, q_gd (show z_in 1 (z_ln 98) by decide), q_lt, q_gd (show z_in 2 (z_ln 98) by decide), q_lt, q_gd (show z_in 3 (z_ln 98) by decide), q_lt, q_gd (show z_in 4 (z_ln 98) by decide), q_lt, q_gd (show z_in 5 (z_ln 98) by decide), q_lt, e, q_gd (q_inl (show v < z_ln 98 from hv)), nI_clamp (by omega)]
      have hr : ∀ M1 : St, (∀ o, o ≠ 98 → M1 o = M o) → Rel X M1 := fun M1 hM => h.fr FY.rf ⟨fun o ho => hM o (by omega), fun k _ => by rw [hM 65 (by omega)], fun v _ => by rw [hM 78 (by omega)], fun k _ => ⟨by rw [hM 79 (by omega)], by rw [hM 80 (by omega)], by rw [hM 81 (by omega)]⟩⟩
      have hv6 : v = 0 ∨ v = 1 ∨ v = 2 ∨ v = 3 ∨ v = 4 ∨ v = 5 := by omega
      have key : ∀ (M1 : St) (r : Int32), (∀ o, o ≠ 98 → M1 o = M o) → r = X 14 v → PB (f_X2_tell N 14 (nI v) X) (some (r, M1)) := by
        intro M1 r hM hrv
        refine ⟨X 14 v, X, M1, ?_, by rw [hrv], hr _ hM⟩
        rcases hv6 with q | q | q | q | q | q <;> subst q <;> rfl
      rw [q_bdi]
      refine key _ _ (fun o ho => by rw [z_wr_o ho, z_wr_o ho, z_wr_o ho, z_wr_o ho, z_wr_o ho, z_wr_o ho]) ?_
      rcases hv6 with q | q | q | q | q | q <;> subst q
      · exact w2.symm.trans q3.symm
      · exact q4.symm
      · exact q5.symm
      · exact q6.symm
      · exact q7.symm
      · exact q8.symm
  · rw [e1, q_bd, if_pos rfl, e2, q_bd, if_pos rfl, if_neg q_n2, q_bdi, q_bdi]
    exact p_num h (by decide)
theorem p_code {a : Int32} (h : Rel X M) : PB (f_X9_code N a X) (f_X10_code N a M) := by
  unfold f_X9_code f_X10_code b_X9_code_24 b_X9_code_49 f_X10_isIn f_X2_codeAt
  obtain ⟨⟨tx, n, g, -, -⟩, -⟩ := id h
  have hl : LR (X 1) (X 14) (M 82) (mL M 7) := g.2.2.2.2.2.2.1
  rcases hl with ⟨q1, q2⟩ | ⟨q1, ⟨w, w1, w2⟩, q3, q4, q5, q6, q7, q8, q9⟩
  · rw [if_pos q1, show M 65 29 = -9 from q2, if_neg (show ¬ (-9 : Int32) = 3 by decide), q_bdi, q_bdi]
    exact p_no h (by decide)
  · rw [q1, if_neg q_10, show X 14 0 = M 65 29 from q3]
    by_cases c3 : M 65 29 = 3
    · rw [if_pos c3, if_pos c3]
      obtain ⟨ca, a1, a2, a3, a4⟩ := q9 c3
      rw [show X 14 5 = M 65 34 from q8, show M 65 34 = nI ca from a2]
      by_cases c0 : a < 0
      · rw [if_pos c0, if_pos c0, q_bd, if_pos rfl, q_bdi, q_bdi]
        exact p_no h (by decide)
      · rw [if_neg c0, if_neg c0]
        by_cases c1 : a ≤ nI ca
        · rw [if_pos c1, if_neg (Int32.not_lt.mpr c1), q_bd, if_neg (show ¬ (1 : Int32) = 0 by decide)]
          obtain ⟨v, hv, e⟩ := i_nat (a := a) (b := ca + 1) c0 (by
            intro q
            rw [Int32.le_iff_toInt_le, nI_toInt (by omega)] at c1 q
            omega) (by omega)
          rw [e, q_gd (q_inl (show v < z_ln 82 from (show v < 460 by omega))), nI_clamp (by omega)]
          by_cases hc : v = ca
          · subst hc
            rw [if_pos (nI_le (Nat.le_refl _) (by omega)), q_bd]
            exact ⟨X 14 6, X, M, rfl, by rw [show M 82 v = X 14 6 from a4], h⟩
          · rw [if_neg (nI_ge (by omega) (by omega)), q_bd]
            exact ⟨7, X, M, rfl, by rw [a3 v (by omega)], h⟩
        · rw [if_neg c1, if_pos (Int32.not_le.mp c1), q_bd, if_pos rfl, q_bdi, q_bdi]
          exact p_no h (by decide)
    · rw [if_neg c3, if_neg c3, q_bdi, q_bdi]
      exact p_no h (by decide)
theorem p_cache (hN : 5000 ≤ N) {a b : Int32} (h : Rel X M) : PB (f_X9_cache N a b X) (f_X10_cache N a b M) := by
  unfold f_X9_cache f_X10_cache b_X9_cache_18 b_X9_cache_33 f_X10_isIn f_X0_tell
  obtain ⟨⟨tx, n, g, -, -⟩, -⟩ := id h
  have e1 : X 2 7 = nI (ns tx n) := g.2.1.2.1
  have e2 : M 65 7 = nI (ns tx n) := g.2.2.1.2.2.1
  have h10 : ns tx n ≤ 10 := g.1.2.2.2
  have hC : RCa (X 11) (X 12) (X 13) (M 79) (M 80) (M 81) := g.2.2.2.2.1
  rw [e1, e2]
  by_cases c0 : a < 0
  · rw [if_pos c0, if_pos c0, q_bd, if_pos rfl, q_bdi, q_bdi]
    exact p_no h (by decide)
  · rw [if_neg c0, if_neg c0]
    by_cases c1 : a < nI (ns tx n)
    · obtain ⟨v, hv, e⟩ := i_nat (a := a) (b := ns tx n) c0 (Int32.not_le.mpr c1) (by omega)
      obtain ⟨s, hs⟩ : ∃ s, ns tx n = s + 1 := ⟨ns tx n - 1, by omega⟩
      have hv10 : v < 10 := by omega
      obtain ⟨k1, ⟨t, k2, k3⟩, k4, k5⟩ := hC v hv10
      have hcl : (nI v).toNatClampNeg = v := nI_clamp (by omega)
      rw [if_pos c1, hs, q_sub1, e, if_neg (Int32.not_lt.mpr (nI_le (by omega) (by omega))), q_bd, if_neg q_10]
      rw [show z_rfS 10 0 = 11 from rfl, show z_rfS 10 1 = 12 from rfl, show z_rfS 10 2 = 13 from rfl]
      rw [x_at (show v < z_ln 11 from hv10), x_at (show v < z_ln 12 from hv10), x_at (show v < z_ln 13 from hv10), x_state (o := 10) (show v < z_ln (z_rfS 10 0) from hv10) k2 k3, m_state (by omega) hv10 (k1.symm.trans k3), q_gd (q_inl (show v < z_ln 79 from hv10)), q_gd (q_inl (show v < z_ln 80 from hv10)), q_gd (q_inl (show v < z_ln 81 from hv10)), hcl]
      simp only [q_bd]
      by_cases b0 : b = 0
      · rw [if_neg (show ¬ b < 0 by rw [b0]; decide), if_pos (show b ≤ 3 by rw [b0]; decide), if_pos b0, if_pos b0]
        exact ⟨_, X, M, rfl, rfl, h⟩
      by_cases b1 : b = 1
      · rw [if_neg (show ¬ b < 0 by rw [b1]; decide), if_pos (show b ≤ 3 by rw [b1]; decide), if_neg b0, if_neg b0, if_pos b1, if_pos b1, q_bd]
        exact ⟨_, X, M, rfl, by rw [k1], h⟩
      by_cases b2 : b = 2
      · rw [if_neg (show ¬ b < 0 by rw [b2]; decide), if_pos (show b ≤ 3 by rw [b2]; decide), if_neg b0, if_neg b0, if_neg b1, if_neg b1, if_pos b2, if_pos b2, q_bd]
        exact ⟨_, X, M, rfl, by rw [k4], h⟩
      by_cases b3 : b = 3
      · rw [if_neg (show ¬ b < 0 by rw [b3]; decide), if_pos (show b ≤ 3 by rw [b3]; decide), if_neg b0, if_neg b0, if_neg b1, if_neg b1, if_neg b2, if_neg b2, if_pos b3, q_bd]
        exact ⟨_, X, M, rfl, by rw [k5], h⟩
      rw [if_neg b0, if_neg b0, if_neg b1, if_neg b1, if_neg b2, if_neg b2, if_neg b3, q_bdi, q_bdi]
      by_cases cb : b < 0
      · rw [if_pos cb]; exact p_no h (by decide)
      · rw [if_neg cb, if_neg (by
          intro q
          rw [Int32.le_iff_toInt_le] at q
          rw [Int32.lt_iff_toInt_lt] at cb
          have f0 : (0 : Int32).toInt = 0 := rfl
          have f3 : (3 : Int32).toInt = 3 := rfl
          have : b.toInt = 0 ∨ b.toInt = 1 ∨ b.toInt = 2 ∨ b.toInt = 3 := by omega
          rcases this with w | w | w | w
          · exact b0 (Int32.toInt.inj w)
          · exact b1 (Int32.toInt.inj w)
          · exact b2 (Int32.toInt.inj w)
          · exact b3 (Int32.toInt.inj w))]
        exact p_no h (by decide)
    · have c2 : nI (ns tx n) - 1 < a := by
        rw [Int32.lt_iff_toInt_lt] at c0 c1 ⊢
        rw [nI_toInt (by omega)] at c1
        rw [Int32.toInt_sub, nI_toInt (by omega)]
        have f0 : (0 : Int32).toInt = 0 := rfl
        have f1 : (1 : Int32).toInt = 1 := rfl
        rw [f1, Int.bmod_eq_of_le (by omega) (by omega)]
        omega
      rw [if_neg c1, if_pos c2, q_bd, if_pos rfl, q_bdi, q_bdi]
      exact p_no h (by decide)
end
