/-! the calls, one by one -/
section
variable {N : Nat} {X M : St}
theorem i_nat {a : Int32} {b : Nat} (h0 : ¬ a < 0) (h1 : ¬ nI b ≤ a) (hb : b < 2 ^ 31) : ∃ v, v < b ∧ a = nI v := by
  rw [Int32.lt_iff_toInt_lt] at h0
  rw [Int32.le_iff_toInt_le, nI_toInt (by omega)] at h1
  have e0 : (0 : Int32).toInt = 0 := rfl
  refine ⟨a.toInt.toNat, by omega, ?_⟩
  apply Int32.toInt.inj
  rw [nI_toInt (by omega)]
  omega
theorem RN.eq {X' M' : St} (h : RN X M) (hx : ∀ o, 1 ≤ o ∧ o ≤ 14 → X' o = X o) (hm : ∀ o, (67 ≤ o ∧ o ≤ 71) ∨ o = 73 ∨ o = 74 ∨ (78 ≤ o ∧ o ≤ 82) → M' o = M o) (h65 : ∀ k, k < 15 ∨ k = 16 ∨ (24 ≤ k ∧ k < 46) → M' 65 k = M 65 k) : RN X' M' := by
  obtain ⟨tx, n, h1, h2, h3⟩ := h
  refine ⟨tx, n, h1.eq (AX.of (fun o ho => hx _ (by omega))) (AM.l (fun o ho => hm o (by omega)) (fun k => h65 _ (by have := ix_lt k; omega))), fun p hp => (h2 p hp).eq (fun o ho => hm o (by omega)), by rw [h65 8 (by omega)]; exact h3⟩
theorem RIm.eq {X' M' : St} (h : RIm X M) (h0 : X' 0 8 = X 0 8) (hx : ∀ o, 15 ≤ o ∧ o ≤ 28 → X' o = X o) (h7 : M' 65 72 = M 65 72) (hm : M' 101 = M 101) : RIm X' M' := by
  unfold RIm
  rw [h0, h7]
  rcases h with q | ⟨q1, q2, tx, n, q3⟩
  · exact Or.inl q
  · refine Or.inr ⟨q1, q2, tx, n, q3.eq (AX.of (fun o ho => hx _ (by omega))) ?_⟩
    have e : mI M' = mI M := by
      funext o k
      show M' 101 _ = M 101 _
      rw [hm]
    rw [e]
    exact AM.rf
theorem p_no {a : Int32} (h : Rel X M) (ha : a = -1 ∨ a = -2 ∨ a = -3 ∨ a = -4 ∨ a = -6) : PB (f_X9_refuse N a X) (f_X10_no N a M) := by
  obtain ⟨X', M', h1, h2, h3, h4, h5⟩ := t_no (N := N) h ha
  exact ⟨_, X', M', h1, h2, h5⟩
theorem p_num {a : Int32} (h : Rel X M) (ha : a = -1 ∨ a = -2 ∨ a = -3 ∨ a = -4 ∨ a = -6) : PB (f_X9_refuseNumber N a X) (f_X10_lower N a M) := by
  obtain ⟨X', M', h1, h2, h3, h4, h5⟩ := t_no (N := N) h ha
  refine ⟨_, X', M', ?_, h3, h5⟩
  unfold f_X9_refuseNumber
  rw [h1, q_bd]
theorem p_long {a : Int32} (h : Rel X M) (ha : a = -1 ∨ a = -2 ∨ a = -3 ∨ a = -4 ∨ a = -6) : PB (f_X9_refuseLong N a X) (f_X10_lowestOf N a M) := by
  obtain ⟨X', M', h1, h2, h3, h4, h5⟩ := t_no (N := N) h ha
  refine ⟨_, X', M', ?_, h4, h5⟩
  unfold f_X9_refuseLong
  rw [h1, q_bd]
theorem p_letter {c : Int32} (h : Rel X M) : PB (f_X9_letter N c X) (f_X10_letter N c M) := by
  obtain ⟨h1, ⟨L, l1, l2, l3, l4⟩, h5, h6, h7⟩ := id h
  unfold f_X9_letter f_X10_letter b_X9_letter_28 b_X10_letter_25 f_X10_bound f_X3_isFull f_X3_add
  by_cases c0 : 0 ≤ c
  · rw [if_pos c0, if_pos c0]
    by_cases c1 : 255 < c
    · rw [if_pos c1, if_neg (Int32.not_le.mpr c1), q_bd, if_neg (by decide), if_neg (by decide), q_bdi, q_bdi]
      exact p_no h (by decide)
    · rw [if_neg c1, if_pos (Int32.not_lt.mp c1), q_bd, if_pos rfl]
      by_cases lf : L = 96
      · rw [l2, lf, if_neg (show ¬ nI 96 < 96 by decide), q_bd, if_neg (show ¬ (1 : Int32) = 0 by decide), q_bdi, l3, lf, if_pos (show nI 96 = 96 by decide), if_neg (show ¬ (-6 : Int32) = 0 by decide), q_bdi]
        exact p_no h (by decide)
      · have hL : L < 96 := by omega
        have hlt : nI L < 96 := nI_lt (b := 96) hL (by omega)
        have hne : ¬ nI L = 96 := fun q => by rw [q] at hlt; exact Int32.lt_irrefl hlt
        rw [l2, if_pos hlt, q_bd, if_pos rfl, l2, x_put (show L < z_ln 57 from hL), q_bv, show (z_wr X 57 L c) 56 7 = nI L from l2, nI_1, q_lt, q_bd, l3, if_neg hne, if_pos rfl, q_gd (q_inl (show L < z_ln 72 from hL)), nI_clamp (by omega), q_lt, show (z_wr M 72 L c) 65 15 = nI L from l3, nI_1, q_lt]
        refine ⟨nI (L + 1), _, _, rfl, rfl, ?_⟩
        refine ⟨h1.eq (fun o ho => by rw [z_wr_o (by omega), z_wr_o (by omega)]) (fun o ho => by rw [z_wr_o (by omega), z_wr_o (by omega)]) (fun k hk => by rw [z_wr_k (by omega), z_wr_o (by omega)]), ⟨L + 1, by omega, rfl, rfl, fun j hj => ?_⟩, h5, h6, h7.eq rfl (fun o ho => by rw [z_wr_o (by omega), z_wr_o (by omega)]) rfl rfl⟩
        show q_up (X 57) L c j = q_up (M 72) L c j
        by_cases q : j = L
        · subst q; rw [q_up_s, q_up_s]
        · rw [q_up_n q, q_up_n q]; exact l4 j (by omega)
  · rw [if_neg c0, if_neg c0, q_bd, if_neg (by decide), if_neg (by decide), q_bdi, q_bdi]
    exact p_no h (by decide)
theorem p_row {c : Int32} (h : Rel X M) : PB (f_X9_row N c X) (f_X10_row N c M) := by
  obtain ⟨h1, h4, ⟨L, l1, l2, l3, l4⟩, h6, h7⟩ := id h
  unfold f_X9_row f_X10_row b_X9_row_26 b_X10_row_24 f_X10_bound
  by_cases c0 : 0 ≤ c
  · rw [if_pos c0, if_pos c0]
    by_cases c1 : 99 < c
    · rw [if_pos c1, if_neg (Int32.not_le.mpr c1), q_bd, if_neg (by decide), if_neg (by decide), q_bdi, q_bdi]
      exact p_no h (by decide)
    · rw [if_neg c1, if_pos (Int32.not_lt.mp c1), q_bd, if_pos rfl]
      by_cases lf : L = 16
      · rw [l2, lf, if_neg (show ¬ nI 16 < 16 by decide), q_bdi, l3, lf, if_pos (show nI 16 = 16 by decide), if_neg (show ¬ (-6 : Int32) = 0 by decide), q_bdi]
        exact p_no h (by decide)
      · have hL : L < 16 := by omega
        have hlt : nI L < 16 := nI_lt (b := 16) hL (by omega)
        have hne : ¬ nI L = 16 := fun q => by rw [q] at hlt; exact Int32.lt_irrefl hlt
        rw [l2, if_pos hlt, x_put (show L < z_ln 62 from hL), q_bv, show (z_wr X 62 L c) 0 7 = nI L from l2, nI_1, q_lt, l3, if_neg hne, if_pos rfl, q_gd (q_inl (show L < z_ln 100 from hL)), nI_clamp (by omega), q_lt, show (z_wr M 100 L c) 65 69 = nI L from l3, nI_1, q_lt]
        refine ⟨nI (L + 1), _, _, rfl, rfl, ?_⟩
        refine ⟨h1.eq (fun o ho => by rw [z_wr_o (by omega), z_wr_o (by omega)]) (fun o ho => by rw [z_wr_o (by omega), z_wr_o (by omega)]) (fun k hk => by rw [z_wr_k (by omega), z_wr_o (by omega)]), h4, ⟨L + 1, by omega, rfl, rfl, fun j hj => ?_⟩, h6, h7.eq rfl (fun o ho => by rw [z_wr_o (by omega), z_wr_o (by omega)]) rfl rfl⟩
        show q_up (X 62) L c j = q_up (M 100) L c j
        by_cases q : j = L
        · subst q; rw [q_up_s, q_up_s]
        · rw [q_up_n q, q_up_n q]; exact l4 j (by omega)
  · rw [if_neg c0, if_neg c0, q_bd, if_neg (by decide), if_neg (by decide), q_bdi, q_bdi]
    exact p_no h (by decide)
theorem Rel.row0 (h : Rel X M) : Rel (z_wr X 0 7 0) (z_wr M 65 69 0) := by
  obtain ⟨h1, h4, h5, h6, h7⟩ := h
  exact ⟨h1.eq (fun o ho => z_wr_o (by omega)) (fun o ho => z_wr_o (by omega)) (fun k hk => z_wr_k (by omega)), h4, ⟨0, by omega, rfl, rfl, fun j hj => absurd hj (Nat.not_lt_zero _)⟩, h6, h7.eq rfl (fun o ho => z_wr_o (by omega)) rfl rfl⟩
theorem p_clear (h : Rel X M) : PB (f_X9_clear N X) (f_X10_clear N M) := by
  obtain ⟨L, l1, l2, l3, l4⟩ := h.2.2.1
  unfold f_X9_clear f_X10_clear
  rw [q_lt, q_lt, l2, l3]
  exact ⟨_, _, _, rfl, rfl, h.row0⟩
/-- variables -/
theorem x_var {a : Int32} {S : St} : (∃ v, v < 6 ∧ a = nI v ∧ f_X9_isVariable N a S = some (1, S) ∧ ∀ S' : St, f_X10_isVariable N a S' = some (1, S')) ∨ (f_X9_isVariable N a S = some (0, S) ∧ ∀ S' : St, f_X10_isVariable N a S' = some (0, S')) := by
  unfold f_X9_isVariable f_X10_isVariable f_X10_isIn
  by_cases c0 : a < 0
  · right
    rw [if_pos c0]
    refine ⟨rfl, fun S' => ?_⟩
    rw [if_pos c0, q_bd, q_gd (Or.inl rfl)]
  · rw [if_neg c0]
    by_cases c1 : 6 ≤ a
    · right
      rw [if_pos c1]
      refine ⟨rfl, fun S' => ?_⟩
      have : (5 : Int32) < a := by
        rw [Int32.lt_iff_toInt_lt]
        rw [Int32.le_iff_toInt_le] at c1
        have e1 : (5 : Int32).toInt = 5 := rfl
        have e2 : (6 : Int32).toInt = 6 := rfl
        omega
      rw [if_neg c0, if_pos this, q_bd, q_gd (Or.inl rfl)]
    · left
      obtain ⟨v, hv, e⟩ := i_nat (b := 6) c0 c1 (by omega)
      refine ⟨v, hv, e, by rw [if_neg c1], fun S' => ?_⟩
      have : ¬ (5 : Int32) < a := by
        rw [e]
        show ¬ nI 5 < nI v
        exact Int32.not_lt.mpr (nI_le (by omega) (by omega))
      rw [if_neg c0, if_neg this, q_bd, q_gd (Or.inr rfl)]
theorem p_global {a : Int32} (h : Rel X M) : PB (f_X9_global N a X) (f_X10_global N a M) := by
  unfold f_X9_global f_X10_global
  rcases x_var (N := N) (a := a) (S := X) with ⟨v, hv, e, e1, e2⟩ | ⟨e1, e2⟩
  · rw [e1, q_bd, if_neg (by decide), e2, q_bd, if_neg (by decide), e, x_at (show v < z_ln 9 from hv), q_bd, q_gd (q_inl (show v < z_ln 78 from hv)), nI_clamp (by omega)]
    obtain ⟨tx, n, h1, -⟩ := h.1
    have := (h1.2.2.2.1 v hv).1
    exact ⟨X 9 v, X, M, rfl, by rw [show X 9 v = M 78 v from this], h⟩
  · rw [e1, q_bd, if_pos rfl, e2, q_bd, if_pos rfl, q_bdi, q_bdi]
    exact p_num h (by decide)
/-- what is wrong with a variable and a number -/
theorem x_refG {a b : Int32} {S : St} : (∃ v, v < 6 ∧ a = nI v ∧ (-9999 ≤ b ∧ b ≤ 9999) ∧ f_X9_refusalOfGlobal N a b S = some (0, S) ∧ (∀ S' : St, f_X10_isVariable N a S' = some (1, S')) ∧ ∀ S' : St, f_X10_bound N b (-9999) 9999 S' = some (0, S')) ∨ (∃ w, (w = -4 ∨ w = -6) ∧ f_X9_refusalOfGlobal N a b S = some (w, S) ∧ (∀ S' : St, f_X10_isVariable N a S' = some (1, S')) ∧ ∀ S' : St, f_X10_bound N b (-9999) 9999 S' = some (w, S')) ∨ (f_X9_refusalOfGlobal N a b S = some (-1, S) ∧ ∀ S' : St, f_X10_isVariable N a S' = some (0, S')) := by
  unfold f_X9_refusalOfGlobal f_X10_bound
  rcases x_var (N := N) (a := a) (S := S) with ⟨v, hv, e, e1, e2⟩ | ⟨e1, e2⟩
  · rw [e1, q_bd, if_neg (by decide)]
    by_cases c0 : -9999 ≤ b
    · rw [if_pos c0]
      by_cases c1 : b ≤ 9999
      · exact Or.inl ⟨v, hv, e, ⟨c0, c1⟩, by rw [if_pos c1], e2, fun S' => by rw [if_pos c0, if_pos c1]⟩
      · exact Or.inr (Or.inl ⟨-6, Or.inr rfl, by rw [if_neg c1], e2, fun S' => by rw [if_pos c0, if_neg c1]⟩)
    · exact Or.inr (Or.inl ⟨-4, Or.inl rfl, by rw [if_neg c0], e2, fun S' => by rw [if_neg c0]⟩)
  · rw [e1, q_bd, if_pos rfl]
    exact Or.inr (Or.inr ⟨rfl, e2⟩)
theorem p_sets {a b : Int32} (h : Rel X M) : PB (f_X9_sets N a b X) (f_X10_sets N a b M) := by
  unfold f_X9_sets f_X10_sets b_X10_sets_21
  rcases x_refG (N := N) (a := a) (b := b) (S := X) with ⟨v, hv, e, hb, e1, e2, e3⟩ | ⟨w, hw, e1, e2, e3⟩ | ⟨e1, e2⟩
  · rw [e1, q_bd, if_pos rfl, e2, q_bd, if_neg (by decide), e3, q_bd, if_pos rfl, e, x_at (show v < z_ln 9 from hv), q_bd, x_put (show v < z_ln 9 from hv), q_bv, q_gd (q_inl (show v < z_ln 78 from hv)), q_gd (q_inl (show v < z_ln 78 from hv)), nI_clamp (by omega), q_lt]
    obtain ⟨⟨tx, n, ⟨g1, g2, g3, g4, g5, g6, g7, g8⟩, h2, h3⟩, h4, h5, h6, h7⟩ := h
    refine ⟨X 9 v, z_wr X 9 v b, z_wr M 78 v b, rfl, by rw [show X 9 v = M 78 v from (g4 v hv).1], ⟨tx, n, ⟨g1, g2, g3, fun u hu => ?_, g5, g6, g7, g8⟩, h2, h3⟩, h4, h5, h6, h7.eq rfl (fun o ho => z_wr_o (by omega)) rfl rfl⟩
    show q_up (X 9) v b u = q_up (M 78) v b u ∧ -9999 ≤ q_up (X 9) v b u ∧ q_up (X 9) v b u ≤ 9999
    by_cases q : u = v
    · subst q; rw [q_up_s, q_up_s]; exact ⟨rfl, hb⟩
    · rw [q_up_n q, q_up_n q]; exact g4 u hu
  · have hw0 : ¬ w = 0 := by rcases hw with q | q <;> rw [q] <;> decide
    rw [e1, q_bd, if_neg hw0, e2, q_bd, if_neg (by decide), e3, q_bd, if_neg hw0, q_bdi, q_bdi]
    exact p_num h (by rcases hw with q | q <;> rw [q] <;> decide)
  · rw [e1, q_bd, if_neg (by decide), e2, q_bd, if_pos rfl, if_neg (by decide), q_bdi, q_bdi]
    exact p_num h (by decide)
theorem x_end {a : Int32} {S : St} : (∃ v, v < 6 ∧ a = nI v ∧ f_X9_isOfEnding N a S = some (1, S) ∧ ∀ S' : St, f_X10_isIn N a 0 5 S' = some (1, S')) ∨ (f_X9_isOfEnding N a S = some (0, S) ∧ ∀ S' : St, f_X10_isIn N a 0 5 S' = some (0, S')) := by
  unfold f_X9_isOfEnding f_X10_isIn
  by_cases c0 : a < 0
  · exact Or.inr ⟨by rw [if_pos c0], fun S' => by rw [if_pos c0]⟩
  · by_cases c1 : 5 < a
    · exact Or.inr ⟨by rw [if_neg c0, if_pos c1], fun S' => by rw [if_neg c0, if_pos c1]⟩
    · obtain ⟨v, hv, e⟩ := i_nat (a := a) (b := 6) c0 (by
        intro q
        have q : (6 : Int32) ≤ a := q
        rw [Int32.le_iff_toInt_le] at q
        rw [Int32.lt_iff_toInt_lt] at c1
        have e1 : (5 : Int32).toInt = 5 := rfl
        have e2 : (6 : Int32).toInt = 6 := rfl
        omega) (by omega)
      exact Or.inl ⟨v, hv, e, by rw [if_neg c0, if_neg c1], fun S' => by rw [if_neg c0, if_neg c1]⟩
theorem p_thinks (hN : 5000 ≤ N) {a : Int32} (h : Rel X M) : PB (f_X9_thinks N a X) (f_X10_thinks N a M) := by
  unfold f_X9_thinks f_X10_thinks
  rcases x_end (N := N) (a := a) (S := X) with ⟨v, hv, e, e1, e2⟩ | ⟨e1, e2⟩
  · obtain ⟨X', M', r1, r2, r3, r4, r5⟩ := t_of hN h.1
    obtain ⟨r, t1, t2⟩ := t_tell r3 a
    rw [e1, q_bd, if_neg (by decide), e2, q_bd, if_neg (by decide), r1, q_bv, t1, q_bd, q_gd (show z_in 0 (z_ln 78) from q_inl (k := 0) (o := 78) (by decide)), show ((0 : Int32).toNatClampNeg) = 0 from rfl, r2, q_bv, t2, q_bd]
    exact ⟨r, X', M', rfl, rfl, h.fr r4 r5⟩
  · rw [e1, q_bd, if_pos rfl, e2, q_bd, if_pos rfl, q_bdi, q_bdi]
    exact p_num h (by decide)
theorem p_with (hN : 5000 ≤ N) {a b c : Int32} (h : Rel X M) : PB (f_X9_with N a b c X) (f_X10_with N a b c M) := by
  unfold f_X9_with f_X10_with b_X9_with_23 b_X10_with_21 b_X10_with_41
  rcases x_refG (N := N) (a := a) (b := b) (S := X) with ⟨v, hv, e, hb, e1, e2, e3⟩ | ⟨w, hw, e1, e2, e3⟩ | ⟨e1, e2⟩
  · rw [e1, q_bd, if_pos rfl, e2, q_bd, if_neg (by decide), e3, q_bd, if_pos rfl]
    rcases x_end (N := N) (a := c) (S := X) with ⟨w, hw, e', e1', e2'⟩ | ⟨e1', e2'⟩
    · obtain ⟨X', M', r1, r2, r3, r4, r5⟩ := t_with hN h.1 hv hb
      obtain ⟨r, t1, t2⟩ := t_tell r3 c
      rw [e1', q_bd, if_neg (by decide), if_pos rfl, e2', q_bd, if_neg (by decide), if_pos rfl, e, r1, q_bv, t1, q_bd, r2, q_bv, t2, q_bd]
      exact ⟨r, X', M', rfl, rfl, h.fr r4 r5⟩
    · rw [e1', q_bd, if_pos rfl, if_neg (by decide), e2', q_bd, if_pos rfl, if_neg (by decide), q_bdi, q_bdi]
      exact p_num h (by decide)
  · have hw0 : ¬ w = 0 := by rcases hw with q | q <;> rw [q] <;> decide
    rw [e1, q_bd, if_neg hw0, if_neg hw0, e2, q_bd, if_neg (by decide), e3, q_bd, if_neg hw0, if_neg hw0, q_bdi, q_bdi]
    exact p_num h (by rcases hw with q | q <;> rw [q] <;> decide)
  · rw [e1, q_bd, if_neg (by decide), if_neg (by decide), e2, q_bd, if_pos rfl, if_neg (by decide), if_neg (by decide), q_bdi, q_bdi]
    exact p_num h (by decide)
end
