/-! calls that think more than once -/
section
variable {N : Nat} {X M : St}
theorem RN.fr {X' M' : St} (h : RN X M) (hx : FY X X') (hm : FT M M') : RN X' M' := by
  obtain ⟨tx, n, h1, h2, h3⟩ := h
  exact ⟨tx, n, h1.eq (AX.of (fun o ho => hx _ (by omega))) (AM.ft hm), fun p hp => (h2 p hp).eq (fun o ho => hm.1 o (by omega)), by rw [hm.2.1 8 (by omega)]; exact h3⟩
theorem q_t20 : ∀ k, k < 42 → ((20 < nI k - 20) ↔ k = 41) ∧ (-9999 ≤ nI k - 20 ∧ nI k - 20 ≤ 9999) ∧ (nI k - 20) + 1 = nI (k + 1) - 20 := by decide +kernel
theorem l_solve (hN : 5000 ≤ N) {v : Nat} {b : Int32} (hv : v < 6) : ∀ (w k f f' : Nat) (X M : St), k + w = 41 → w < f → w < f' → Rel X M → PB (f_X9_solve_20 N f (nI v) b (nI k - 20) X) (f_X10_solve_36 N f' (nI v) b (nI k - 20) M) := by
  intro w
  induction w with
  | zero =>
    intro k f f' X M hk hf hf' h
    obtain ⟨f, rfl⟩ : ∃ g, f = g + 1 := ⟨f - 1, by omega⟩
    obtain ⟨f', rfl⟩ : ∃ g, f' = g + 1 := ⟨f' - 1, by omega⟩
    show PB (b_X9_solve_20 N (f_X9_solve_20 N f) _ _ _ X) (b_X10_solve_36 N (f_X10_solve_36 N f') _ _ _ M)
    unfold b_X9_solve_20 b_X10_solve_36
    have := (q_t20 k (by omega)).1.mpr (by omega)
    rw [if_pos this, if_pos this]
    exact ⟨_, X, M, rfl, rfl, h⟩
  | succ w ih =>
    intro k f f' X M hk hf hf' h
    obtain ⟨f, rfl⟩ : ∃ g, f = g + 1 := ⟨f - 1, by omega⟩
    obtain ⟨f', rfl⟩ : ∃ g, f' = g + 1 := ⟨f' - 1, by omega⟩
    obtain ⟨t1, t2, t3⟩ := q_t20 k (by omega)
    have hn : ¬ 20 < nI k - 20 := fun q => by have := t1.mp q; omega
    obtain ⟨X', M', r1, r2, r3, r4, r5⟩ := t_with hN h.1 hv t2
    have hR := h.fr r4 r5
    show PB (b_X9_solve_20 N (f_X9_solve_20 N f) _ _ _ X) (b_X10_solve_36 N (f_X10_solve_36 N f') _ _ _ M)
    unfold b_X9_solve_20 b_X10_solve_36 b_X10_solve_68 f_X2_isNumber
    rw [if_neg hn, if_neg hn, r1, q_bv, r2, q_bv, r3.2.2.2.1, q_bd, t3]
    by_cases q : X' 35 0 = 0
    · rw [if_pos q, if_pos q, r3.2.2.2.2.1, q_bd]
      by_cases q2 : X' 35 1 = b
      · rw [if_pos q2, if_pos q2, q_bd, if_neg q_10]
        exact ⟨_, X', M', rfl, rfl, hR⟩
      · rw [if_neg q2, if_neg q2, q_bd, if_pos rfl]
        exact ih (k + 1) f f' X' M' (by omega) (by omega) (by omega) hR
    · rw [if_neg q, if_neg q, q_bd, if_pos rfl]
      exact ih (k + 1) f f' X' M' (by omega) (by omega) (by omega) hR
theorem p_solve (hN : 5000 ≤ N) {a b : Int32} (h : Rel X M) : PB (f_X9_solve N a b X) (f_X10_solve N a b M) := by
  unfold f_X9_solve f_X10_solve b_X10_solve_21
  rcases x_refG (N := N) (a := a) (b := b) (S := X) with ⟨v, hv, e, hb, e1, e2, e3⟩ | ⟨w, hw, e1, e2, e3⟩ | ⟨e1, e2⟩
  · rw [e1, q_bd, if_pos rfl, e2, q_bd, if_neg q_10, e3, q_bd, if_pos rfl, e]
    exact l_solve hN hv 41 0 N N X M (by omega) (by omega) (by omega) h
  · have hw0 : ¬ w = 0 := by rcases hw with q | q <;> rw [q] <;> decide
    rw [e1, q_bd, if_neg hw0, e2, q_bd, if_neg q_10, e3, q_bd, if_neg hw0, q_bdi, q_bdi]
    exact p_num h (by rcases hw with q | q <;> rw [q] <;> decide)
  · rw [e1, q_bd, if_neg q_n1, e2, q_bd, if_pos rfl, if_neg q_n1, q_bdi, q_bdi]
    exact p_num h (by decide)
theorem l_fewest (hN : 5000 ≤ N) {v : Nat} {b : Int32} (hv : v < 6) : ∀ (w k f f' : Nat) (x y : Int32) (X M : St), k + w = 41 → w < f → w < f' → Rel X M → PB (f_X9_fewest_40 N f (nI v) b x y (nI k - 20) X) (f_X10_fewest_51 N f' (nI v) b x y (nI k - 20) M) := by
  intro w
  induction w with
  | zero =>
    intro k f f' x y X M hk hf hf' h
    obtain ⟨f, rfl⟩ : ∃ g, f = g + 1 := ⟨f - 1, by omega⟩
    obtain ⟨f', rfl⟩ : ∃ g, f' = g + 1 := ⟨f' - 1, by omega⟩
    show PB (b_X9_fewest_40 N (f_X9_fewest_40 N f) _ _ _ _ _ X) (b_X10_fewest_51 N (f_X10_fewest_51 N f') _ _ _ _ _ M)
    unfold b_X9_fewest_40 b_X10_fewest_51
    have := (q_t20 k (by omega)).1.mpr (by omega)
    rw [if_pos this, if_pos this]
    by_cases q : b = 0
    · rw [if_pos q, if_pos q]; exact ⟨_, X, M, rfl, rfl, h⟩
    · rw [if_neg q, if_neg q]; exact ⟨_, X, M, rfl, rfl, h⟩
  | succ w ih =>
    intro k f f' x y X M hk hf hf' h
    obtain ⟨f, rfl⟩ : ∃ g, f = g + 1 := ⟨f - 1, by omega⟩
    obtain ⟨f', rfl⟩ : ∃ g, f' = g + 1 := ⟨f' - 1, by omega⟩
    obtain ⟨t1, t2, t3⟩ := q_t20 k (by omega)
    have hn : ¬ 20 < nI k - 20 := fun q => by have := t1.mp q; omega
    obtain ⟨X', M', r1, r2, r3, r4, r5⟩ := t_with hN h.1 hv t2
    have hR := h.fr r4 r5
    obtain ⟨⟨st, -, g1, g2⟩, -, -, g3, -⟩ := r3
    show PB (b_X9_fewest_40 N (f_X9_fewest_40 N f) _ _ _ _ _ X) (b_X10_fewest_51 N (f_X10_fewest_51 N f') _ _ _ _ _ M)
    unfold b_X9_fewest_40 b_X10_fewest_51 b_X9_fewest_85 b_X10_fewest_95
    rw [if_neg hn, if_neg hn, r1, q_bv, r2, q_bv, g3, q_bd, t3, g1, g2]
    by_cases q : X' 35 0 = 3
    · rw [if_pos q, if_pos q]
      exact ih (k + 1) f f' x y X' M' (by omega) (by omega) (by omega) hR
    · rw [if_neg q, if_neg q]
      by_cases q2 : y ≤ nI st
      · rw [if_pos q2, if_neg (Int32.not_lt.mpr q2)]
        exact ih (k + 1) f f' x y X' M' (by omega) (by omega) (by omega) hR
      · rw [if_neg q2, if_pos (Int32.not_le.mp q2)]
        exact ih (k + 1) f f' _ _ X' M' (by omega) (by omega) (by omega) hR
theorem p_fewest (hN : 5000 ≤ N) {a b : Int32} (h : Rel X M) : PB (f_X9_fewest N a b X) (f_X10_fewest N a b M) := by
  unfold f_X9_fewest f_X10_fewest b_X10_fewest_26 b_X9_fewest_22 f_X10_isIn
  rcases x_var (N := N) (a := a) (S := X) with ⟨v, hv, e, e1, e2⟩ | ⟨e1, e2⟩
  · rw [e1, q_bd, if_neg q_10, e2, q_bd, if_neg q_10]
    by_cases c0 : b < 0
    · rw [if_pos c0, if_pos c0, q_bd, if_pos rfl, if_neg q_n2, q_bdi, q_bdi]
      exact p_num h (by decide)
    · rw [if_neg c0, if_neg c0]
      by_cases c1 : b ≤ 1
      · rw [if_pos c1, if_neg (Int32.not_lt.mpr c1), q_bd, if_neg q_10, if_pos rfl, e]
        exact l_fewest hN hv 41 0 N N _ _ X M (by omega) (by omega) (by omega) h
      · rw [if_neg c1, if_pos (Int32.not_le.mp c1), q_bd, if_pos rfl, if_neg q_n2, q_bdi, q_bdi]
        exact p_num h (by decide)
  · rw [e1, q_bd, if_pos rfl, e2, q_bd, if_pos rfl, if_neg q_n1, q_bdi, q_bdi]
    exact p_num h (by decide)
/-- n, least, greatest, what -/
theorem x_refM {a b lo hi : Int32} {S : St} : ((lo ≤ a ∧ a ≤ hi) ∧ (b = 0 ∨ b = 1) ∧ f_X9_refusalOfMany N a lo hi b S = some (0, S) ∧ (∀ S' : St, f_X10_bound N a lo hi S' = some (0, S')) ∧ ∀ S' : St, f_X10_isIn N b 0 1 S' = some (1, S')) ∨ (∃ w, (w = -4 ∨ w = -6) ∧ f_X9_refusalOfMany N a lo hi b S = some (w, S) ∧ ∀ S' : St, f_X10_bound N a lo hi S' = some (w, S')) ∨ (f_X9_refusalOfMany N a lo hi b S = some (-2, S) ∧ (∀ S' : St, f_X10_bound N a lo hi S' = some (0, S')) ∧ ∀ S' : St, f_X10_isIn N b 0 1 S' = some (0, S')) := by
  unfold f_X9_refusalOfMany f_X10_bound f_X10_isIn
  by_cases c0 : lo ≤ a
  · by_cases c1 : a ≤ hi
    · by_cases c2 : b < 0
      · exact Or.inr (Or.inr ⟨by rw [if_pos c0, if_pos c1, if_pos c2], fun S' => by rw [if_pos c0, if_pos c1], fun S' => by rw [if_pos c2]⟩)
      · by_cases c3 : b ≤ 1
        · refine Or.inl ⟨⟨c0, c1⟩, ?_, by rw [if_pos c0, if_pos c1, if_neg c2, if_pos c3], fun S' => by rw [if_pos c0, if_pos c1], fun S' => by rw [if_neg c2, if_neg (Int32.not_lt.mpr c3)]⟩
          rw [Int32.lt_iff_toInt_lt] at c2
          rw [Int32.le_iff_toInt_le] at c3
          have f0 : (0 : Int32).toInt = 0 := rfl
          have f1 : (1 : Int32).toInt = 1 := rfl
          have : b.toInt = 0 ∨ b.toInt = 1 := by omega
          rcases this with w | w
          · exact Or.inl (Int32.toInt.inj w)
          · exact Or.inr (Int32.toInt.inj w)
        · exact Or.inr (Or.inr ⟨by rw [if_pos c0, if_pos c1, if_neg c2, if_neg c3], fun S' => by rw [if_pos c0, if_pos c1], fun S' => by rw [if_neg c2, if_pos (Int32.not_le.mp c3)]⟩)
    · exact Or.inr (Or.inl ⟨-6, Or.inr rfl, by rw [if_pos c0, if_neg c1], fun S' => by rw [if_pos c0, if_neg c1]⟩)
  · exact Or.inr (Or.inl ⟨-4, Or.inl rfl, by rw [if_neg c0], fun S' => by rw [if_neg c0]⟩)
/-- runs in a row, in mind -/
theorem FY.fx {A B C : St} (h : FY A B) (g : FX B C) : FY A C := fun o ho => (g.1 o (by omega)).trans (h o ho)
theorem l_again (hN : 5000 ≤ N) {tx : Nat → Int32} {n : Nat} {X0 M0 : St} (h0 : Rel X0 M0) {m : Nat} {b : Int32} (hm : m ≤ 20) : ∀ (w k f f' : Nat) (acc : Int32) (X M : St), k + w = m → w < f → w < f' → RD tx n X M → MK M0 M → FY X0 X → PB (f_X9_again_36 N f (nI m) b acc (nI k) X) (f_X10_again_44 N f' (nI m) b acc (nI k) M) := by
  intro w
  induction w with
  | zero =>
    intro k f f' acc X M hk hf hf' hR hK hY
    obtain ⟨f, rfl⟩ : ∃ g, f = g + 1 := ⟨f - 1, by omega⟩
    obtain ⟨f', rfl⟩ : ∃ g, f' = g + 1 := ⟨f' - 1, by omega⟩
    show PB (b_X9_again_36 N (f_X9_again_36 N f) _ _ _ _ X) (b_X10_again_44 N (f_X10_again_44 N f') _ _ _ _ M)
    unfold b_X9_again_36 b_X10_again_44 b_X10_again_93
    obtain ⟨M1, f1, f2, f3⟩ := m_forgets (N := N) (by omega) hK
    have hle : nI m ≤ nI k := nI_le (by omega) (by omega)
    rw [if_pos hle, if_pos hle, f1, q_bv, q_bv]
    by_cases q : b = 0
    · rw [if_pos q, if_pos q]; exact ⟨_, X, M1, rfl, rfl, h0.fr hY f2⟩
    · rw [if_neg q, if_neg q, show f_X9_at N 30 0 X = some (X 30 0, X) from x_at (k := 0) (j := 30) (by decide), q_bd, q_gd (show z_in 0 (z_ln 78) from q_inl (k := 0) (o := 78) (by decide)), show ((0 : Int32).toNatClampNeg) = 0 from rfl]
      exact ⟨_, X, M1, rfl, by rw [(hR.2.2.2.2.2.1 0 (by omega)).1], h0.fr hY f2⟩
  | succ w ih =>
    intro k f f' acc X M hk hf hf' hR hK hY
    obtain ⟨f, rfl⟩ : ∃ g, f = g + 1 := ⟨f - 1, by omega⟩
    obtain ⟨f', rfl⟩ : ∃ g, f' = g + 1 := ⟨f' - 1, by omega⟩
    obtain ⟨X', M', g1, g2, g3, g4, g5, g6⟩ := t_go hN hR
    show PB (b_X9_again_36 N (f_X9_again_36 N f) _ _ _ _ X) (b_X10_again_44 N (f_X10_again_44 N f') _ _ _ _ M)
    unfold b_X9_again_36 b_X10_again_44 b_X9_again_59 b_X10_again_69
    have hle : ¬ nI m ≤ nI k := nI_ge (by omega) (by omega)
    rw [if_neg hle, if_neg hle, g1, q_bv, g2, q_bv, g3.2.2.2.1, q_bd, nI_1]
    by_cases q : X' 35 0 = 3
    · rw [if_pos q, if_pos q]
      exact ih (k + 1) f f' _ X' M' (by omega) (by omega) (by omega) g4 (hK.fm g6) (hY.fx g5)
    · rw [if_neg q, if_neg q, Int32.add_zero]
      exact ih (k + 1) f f' _ X' M' (by omega) (by omega) (by omega) g4 (hK.fm g6) (hY.fx g5)
theorem i_rng {a : Int32} {lo hi : Nat} (h : nI lo ≤ a ∧ a ≤ nI hi) (hh : hi < 2 ^ 31) (hl : lo < 2 ^ 31) : ∃ m, lo ≤ m ∧ m ≤ hi ∧ a = nI m := by
  obtain ⟨h1, h2⟩ := h
  rw [Int32.le_iff_toInt_le, nI_toInt (by omega)] at h1 h2
  refine ⟨a.toInt.toNat, by omega, by omega, ?_⟩
  apply Int32.toInt.inj
  rw [nI_toInt (by omega)]
  omega
theorem TK.fy {X1 : St} (h : TK X X1) : FY X X1 := fun o ho => h.2.2.2 o (by omega)
theorem p_again (hN : 5000 ≤ N) {a b : Int32} (h : Rel X M) : PB (f_X9_again N a b X) (f_X10_again N a b M) := by
  unfold f_X9_again f_X10_again b_X10_again_24
  rcases x_refM (N := N) (a := a) (b := b) (lo := 1) (hi := 20) (S := X) with ⟨ha, hb, e1, e2, e3⟩ | ⟨w, hw, e1, e2⟩ | ⟨e1, e2, e3⟩
  · obtain ⟨m, m1, m2, e⟩ := i_rng (lo := 1) (hi := 20) ha (by omega) (by omega)
    obtain ⟨X1, x1, x2⟩ := x_takeUp (N := N) (X := X)
    obtain ⟨M1, y1, y2, y3⟩ := m_minds (N := N) (M := M) (by omega)
    obtain ⟨tx, n, hR, -⟩ := RD.of h.1 x2 y3
    rw [e1, q_bd, if_pos rfl, e2, q_bd, if_pos rfl, e3, q_bd, if_neg q_10, if_pos rfl, x1, q_bv, y1, q_bv, e]
    exact l_again hN h m2 m 0 N N 0 X1 M1 (by omega) (by omega) (by omega) hR y2 x2.fy
  · have hw0 : ¬ w = 0 := by rcases hw with q | q <;> rw [q] <;> decide
    rw [e1, q_bd, if_neg hw0, e2, q_bd, if_neg hw0, if_neg hw0, q_bdi, q_bdi]
    exact p_num h (by rcases hw with q | q <;> rw [q] <;> decide)
  · rw [e1, q_bd, if_neg q_n2, e2, q_bd, if_pos rfl, e3, q_bd, if_pos rfl, if_neg q_n2, q_bdi, q_bdi]
    exact p_num h (by decide)
end
