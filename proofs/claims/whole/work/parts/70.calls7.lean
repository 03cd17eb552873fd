/-! fractions: likely, mean -/
def nL (n : Nat) : Int64 := Int64.ofNat n
section
variable {N : Nat} {X M : St}
theorem nL_toInt {n : Nat} (h : n < 2 ^ 62) : (nL n).toInt = n := lg_ofNat_toInt (by omega)
theorem nL_add (a b : Nat) : nL a + nL b = nL (a + b) := (Int64.ofNat_add a b).symm
theorem nL_mul (a b : Nat) : nL a * nL b = nL (a * b) := (Int64.ofNat_mul a b).symm
theorem nL_of {n : Nat} (h : n < 2 ^ 31) : (nI n).toInt64 = nL n := by
  apply Int64.toInt.inj
  rw [Int32.toInt_toInt64, nI_toInt h, nL_toInt (by omega)]
theorem nL_div {a b : Nat} (ha : a < 2 ^ 31) (hb : 0 < b) (hb2 : b < 2 ^ 31) : nL a / nL b = nL (a / b) := by
  apply Int64.toInt.inj
  have h1 := nL_toInt (n := a) (by omega)
  have h2 := nL_toInt (n := b) (by omega)
  have h3 : a / b ≤ a := Nat.div_le_self a b
  rw [lg_ldiv_nonneg (by omega) (by omega), h1, h2, nL_toInt (by omega)]
  rfl
theorem nL_mod {a b : Nat} (ha : a < 2 ^ 31) (hb : 0 < b) (hb2 : b < 2 ^ 31) : nL a - nL a / nL b * nL b = nL (a % b) := by
  rw [nL_div ha hb hb2, nL_mul]
  have h : a = a / b * b + a % b := by have := Nat.div_add_mod a b; rw [Nat.mul_comm] at this; omega
  have e : nL a = nL (a / b * b) + nL (a % b) := by rw [nL_add, ← h]
  rw [e, Int64.add_comm, Int64.add_sub_cancel]
theorem nL_0 {b : Nat} (hb : b < 2 ^ 31) : (lg_cmp (nL b) 0 = 0 ↔ b = 0) ∧ (nL b = 0 ↔ b = 0) := by
  have e : nL b = 0 ↔ b = 0 := by
    refine ⟨fun q => ?_, fun q => by rw [q]; rfl⟩
    have h1 := nL_toInt (n := b) (by omega)
    rw [q] at h1
    have : (0 : Int64).toInt = 0 := rfl
    omega
  exact ⟨(lg_cmp_eq _ _).trans e, e⟩
theorem x_gd1 {a b i f : Nat} {S : St} (ha : a < 2 ^ 31) (hb : 0 < b) (hb2 : b < 2 ^ 31) (hi : i < 100) : f_X9_greatestDivisor_9 N (f + 1) (nL a) (nL b) (nI i) S = f_X9_greatestDivisor_9 N f (nL b) (nL (a % b)) (nI (i + 1)) S := by
  show b_X9_greatestDivisor_9 N (f_X9_greatestDivisor_9 N f) _ _ _ S = _
  unfold b_X9_greatestDivisor_9
  have h0 := nL_0 hb2
  have h2 : ¬ nL b = 0 := fun q => by have := h0.2.mp q; omega
  rw [if_neg (show ¬ (100 : Int32) ≤ nI i from (show ¬ nI 100 ≤ nI i from nI_ge hi (by omega))), if_neg (fun q => by have := h0.1.mp q; omega), q_gd h2, nL_mod ha hb hb2, nI_1]
theorem m_gd1 {a b f : Nat} {S : St} (ha : a < 2 ^ 31) (hb : 0 < b) (hb2 : b < 2 ^ 31) : f_X10_divisor_6 N (f + 1) (nL a) (nL b) S = f_X10_divisor_6 N f (nL b) (nL (a % b)) S := by
  show b_X10_divisor_6 N (f_X10_divisor_6 N f) _ _ S = _
  unfold b_X10_divisor_6
  have h0 := nL_0 hb2
  have h2 : ¬ nL b = 0 := fun q => by have := h0.2.mp q; omega
  rw [if_neg (fun q => by have := h0.1.mp q; omega), q_gd h2, nL_mod ha hb hb2]
theorem x_gd0 {a i f : Nat} {S : St} : f_X9_greatestDivisor_9 N (f + 1) (nL a) (nL 0) (nI i) S = some (nL a, S) := by
  show b_X9_greatestDivisor_9 N (f_X9_greatestDivisor_9 N f) _ _ _ S = _
  unfold b_X9_greatestDivisor_9
  rw [if_pos (show lg_cmp (nL 0) 0 = 0 by decide)]
  by_cases q : (100 : Int32) ≤ nI i
  · rw [if_pos q]
  · rw [if_neg q]
theorem m_gd0 {a f : Nat} {S : St} : f_X10_divisor_6 N (f + 1) (nL a) (nL 0) S = some (nL a, S) := by
  show b_X10_divisor_6 N (f_X10_divisor_6 N f) _ _ S = _
  unfold b_X10_divisor_6
  rw [if_pos (show lg_cmp (nL 0) 0 = 0 by decide)]
theorem l_gcd : ∀ (k a b i f f' : Nat), b < 2 ^ k → k ≤ 20 → a < 2 ^ 31 → (0 < a ∨ 0 < b) → i + 2 * k + 2 ≤ 100 → 2 * k + 2 < f → 2 * k + 2 < f' → ∃ g, 0 < g ∧ g < 2 ^ 31 ∧ (∀ S : St, f_X9_greatestDivisor_9 N f (nL a) (nL b) (nI i) S = some (nL g, S)) ∧ ∀ S : St, f_X10_divisor_6 N f' (nL a) (nL b) S = some (nL g, S) := by
  intro k
  induction k with
  | zero =>
    intro a b i f f' hb hk ha hp hi hf hf'
    obtain ⟨f, rfl⟩ : ∃ g, f = g + 1 := ⟨f - 1, by omega⟩
    obtain ⟨f', rfl⟩ : ∃ g, f' = g + 1 := ⟨f' - 1, by omega⟩
    have e : b = 0 := by simp at hb; exact hb
    subst e
    exact ⟨a, by omega, ha, fun S => x_gd0, fun S => m_gd0⟩
  | succ k ih =>
    intro a b i f f' hb hk ha hp hi hf hf'
    have hk2 : 2 ^ (k + 1) ≤ 2 ^ 20 := Nat.pow_le_pow_right (by omega) (by omega)
    have hb31 : b < 2 ^ 31 := by omega
    obtain ⟨f, rfl⟩ : ∃ g, f = g + 3 := ⟨f - 3, by omega⟩
    obtain ⟨f', rfl⟩ : ∃ g, f' = g + 3 := ⟨f' - 3, by omega⟩
    by_cases b0 : b = 0
    · subst b0
      exact ⟨a, by omega, ha, fun S => x_gd0, fun S => m_gd0⟩
    · have hr : a % b < b := Nat.mod_lt a (by omega)
      by_cases r0 : a % b = 0
      · refine ⟨b, by omega, hb31, fun S => ?_, fun S => ?_⟩
        · rw [x_gd1 ha (by omega) hb31 (by omega), r0]; exact x_gd0
        · rw [m_gd1 ha (by omega) hb31, r0]; exact m_gd0
      · have h2 : b % (a % b) < 2 ^ k := by
          have hm : b % (a % b) < a % b := Nat.mod_lt b (by omega)
          have hpw : 2 ^ (k + 1) = 2 ^ k + 2 ^ k := by rw [Nat.pow_succ]; omega
          by_cases q : a % b ≤ 2 ^ k
          · omega
          · have : b % (a % b) = (b - a % b) % (a % b) := (Nat.mod_eq_sub_mod (by omega))
            rw [this, Nat.mod_eq_of_lt (by omega)]
            omega
        obtain ⟨g, g1, g2, g3, g4⟩ := ih (a % b) (b % (a % b)) (i + 2) (f + 1) (f' + 1) h2 (by omega) (by omega) (by omega) (by omega) (by omega) (by omega)
        refine ⟨g, g1, g2, fun S => ?_, fun S => ?_⟩
        · rw [x_gd1 ha (by omega) hb31 (by omega), x_gd1 hb31 (by omega) (by omega) (by omega)]
          exact g3 S
        · rw [m_gd1 ha (by omega) hb31, m_gd1 hb31 (by omega) (by omega)]
          exact g4 S
theorem l_part (hN : 5000 ≤ N) {a b : Nat} (p : Int32) (ha : a < 2 ^ 31) (hb : 0 < b) (hb2 : b < 2 ^ 14) : ∃ r, (∀ S : St, f_X9_partOfFraction N (nL a) (nL b) p S = some (r, S)) ∧ ∀ S : St, f_X10_partOf N (nL a) (nL b) p S = some (r, S) := by
  obtain ⟨g, g1, g2, g3, g4⟩ := l_gcd (N := N) 14 a b 0 N N hb2 (by omega) ha (by omega) (by omega) (by omega) (by omega)
  have h0 := nL_0 g2
  have n1 : ¬ lg_cmp (nL g) 0 = 0 := fun q => by have := h0.1.mp q; omega
  have n2 : ¬ nL g = 0 := fun q => by have := h0.2.mp q; omega
  unfold f_X9_partOfFraction f_X10_partOf b_X10_partOf_10 f_X9_greatestDivisor f_X10_divisor
  by_cases q : p = 0
  · refine ⟨nL a / nL g, fun S => ?_, fun S => ?_⟩
    · have := g3 S
      rw [show f_X9_greatestDivisor_9 N N (nL a) (nL b) 0 S = some (nL g, S) from g3 S, q_bd, if_neg n1, if_pos q, q_gd n2]
    · rw [if_pos q, g4 S, q_bd, q_gd n2]
  · refine ⟨nL b / nL g, fun S => ?_, fun S => ?_⟩
    · rw [show f_X9_greatestDivisor_9 N N (nL a) (nL b) 0 S = some (nL g, S) from g3 S, q_bd, if_neg n1, if_neg q, q_gd n2]
    · rw [if_neg q, g4 S, q_bd, q_gd n2]
theorem l_mean (hN : 5000 ≤ N) {v : Nat} {p : Int32} (hv : v < 6) : ∀ (w k f f' s : Nat) (X M : St), k + w = 10 → w < f → w < f' → s ≤ 400 * k → Rel X M → PB (f_X9_mean_34 N f (nI v) p (nL s) (nI k) X) (f_X10_mean_43 N f' (nI v) p (nI s) (nI k) M) := by
  intro w
  induction w with
  | zero =>
    intro k f f' s X M hk hf hf' hs h
    obtain ⟨f, rfl⟩ : ∃ g, f = g + 1 := ⟨f - 1, by omega⟩
    obtain ⟨f', rfl⟩ : ∃ g, f' = g + 1 := ⟨f' - 1, by omega⟩
    show PB (b_X9_mean_34 N (f_X9_mean_34 N f) _ _ _ _ X) (b_X10_mean_43 N (f_X10_mean_43 N f') _ _ _ _ M)
    unfold b_X9_mean_34 b_X10_mean_43
    obtain ⟨r, r1, r2⟩ := l_part hN (a := s) (b := 10) p (by omega) (by omega) (by omega)
    rw [show k = 10 by omega, if_pos (by decide), if_pos (by decide), nL_of (by omega), show (10 : Int64) = nL 10 from rfl, r1, r2, q_bd, q_bd]
    exact ⟨_, X, M, rfl, rfl, h⟩
  | succ w ih =>
    intro k f f' s X M hk hf hf' hs h
    obtain ⟨f, rfl⟩ : ∃ g, f = g + 1 := ⟨f - 1, by omega⟩
    obtain ⟨f', rfl⟩ : ∃ g, f' = g + 1 := ⟨f' - 1, by omega⟩
    have hk99 : -9999 ≤ nI k ∧ nI k ≤ 9999 := by
      have d : ∀ k, k < 16 → -9999 ≤ nI k ∧ nI k ≤ 9999 := by decide +kernel
      exact d k (by omega)
    obtain ⟨X', M', r1, r2, r3, r4, r5⟩ := t_with hN h.1 hv hk99
    obtain ⟨⟨st, g0, g1, g2⟩, -⟩ := r3
    show PB (b_X9_mean_34 N (f_X9_mean_34 N f) _ _ _ _ X) (b_X10_mean_43 N (f_X10_mean_43 N f') _ _ _ _ M)
    unfold b_X9_mean_34 b_X10_mean_43
    have hle : ¬ (10 : Int32) ≤ nI k := (show ¬ nI 10 ≤ nI k from nI_ge (by omega) (by omega))
    rw [if_neg hle, if_neg hle, r1, q_bv, r2, q_bv, g1, g2, nL_of (by omega), nL_add, nI_add, nI_1]
    exact ih (k + 1) f f' (s + st) X' M' (by omega) (by omega) (by omega) (by omega) (h.fr r4 r5)
theorem p_mean (hN : 5000 ≤ N) {a b : Int32} (h : Rel X M) : PB (f_X9_mean N a b X) (f_X10_mean N a b M) := by
  unfold f_X9_mean f_X10_mean b_X10_mean_26 b_X9_mean_22 f_X10_isIn
  rcases x_var (N := N) (a := a) (S := X) with ⟨v, hv, e, e1, e2⟩ | ⟨e1, e2⟩
  · rw [e1, q_bd, if_neg q_10, e2, q_bd, if_neg q_10]
    by_cases c0 : b < 0
    · rw [if_pos c0, if_pos c0, q_bd, if_pos rfl, if_neg q_n2, q_bdi, q_bdi]
      exact p_long h (by decide)
    · rw [if_neg c0, if_neg c0]
      by_cases c1 : b ≤ 1
      · rw [if_pos c1, if_neg (Int32.not_lt.mpr c1), q_bd, if_neg q_10, if_pos rfl, e]
        exact l_mean hN hv 10 0 N N 0 X M (by omega) (by omega) (by omega) (by omega) h
      · rw [if_neg c1, if_pos (Int32.not_le.mp c1), q_bd, if_pos rfl, if_neg q_n2, q_bdi, q_bdi]
        exact p_long h (by decide)
  · rw [e1, q_bd, if_pos rfl, e2, q_bd, if_pos rfl, if_neg q_n1, q_bdi, q_bdi]
    exact p_long h (by decide)
theorem q_bits : ∀ s, s < 8 → ∀ v, v < 3 → -9999 ≤ ((nI s >>> (nI v &&& 31)) &&& 1) ∧ ((nI s >>> (nI v &&& 31)) &&& 1) ≤ 9999 := by decide +kernel
/-- one set of three -/
theorem l_lk1 (hN : 5000 ≤ N) {tx : Nat → Int32} {n : Nat} {X0 M0 : St} (h0 : Rel X0 M0) {m A s : Nat} {p : Int32} (hm : 2 ≤ m ∧ m ≤ 20) (hs : s < 8) {kx km : Int32 → Int32 → Int64 → Int32 → St → Option (Int64 × St)} (hk : ∀ (A' : Nat) (X M : St), A' ≤ A + 6859 → Rel X M → PB (kx (nI m) p (nL A') (nI (s + 1)) X) (km (nI m) p (nL A') (nI (s + 1)) M)) :
    ∀ (w v f f' W : Nat) (X M : St), v + w = 3 → w < f → w < f' → W ≤ 19 ^ v → RD tx n X M → MK M0 M → FY X0 X → PB (f_X9_likely_49 N kx f (nI m) p (nL A) (nI s) (nL W) (nI v) X) (f_X10_likely_57 N km f' (nI m) p (nL A) (nI s) (nL W) (nI v) M) := by
  intro w
  induction w with
  | zero =>
    intro v f f' W X M hv hf hf' hW hR hK hY
    obtain ⟨f, rfl⟩ : ∃ g, f = g + 1 := ⟨f - 1, by omega⟩
    obtain ⟨f', rfl⟩ : ∃ g, f' = g + 1 := ⟨f' - 1, by omega⟩
    obtain ⟨X', M', g1, g2, g3, g4, g5, g6⟩ := t_go hN hR
    obtain ⟨M1, f1, f2, f3⟩ := m_forgets (N := N) (by omega) (hK.fm g6)
    have hfin : Rel X' M1 := h0.fr (hY.fx g5) f2
    have e3 : v = 3 := by omega
    subst e3
    show PB (b_X9_likely_49 N kx (f_X9_likely_49 N kx f) _ _ _ _ _ _ X) (b_X10_likely_57 N km (f_X10_likely_57 N km f') _ _ _ _ _ _ M)
    unfold b_X9_likely_49 b_X10_likely_57 b_X9_likely_124 b_X10_likely_127
    rw [if_pos (by decide), if_pos (by decide), g1, q_bv, g2, q_bv, g3.2.2.2.1, q_bd, f1, q_bv, q_bv, nI_1]
    by_cases q : X' 35 0 = 3
    · rw [if_pos q, if_pos q, Int64.add_zero]
      exact hk A X' M1 (by omega) hfin
    · rw [if_neg q, if_neg q, nL_add]
      exact hk (A + W) X' M1 (by omega) hfin
  | succ w ih =>
    intro v f f' W X M hv hf hf' hW hR hK hY
    obtain ⟨f, rfl⟩ : ∃ g, f = g + 1 := ⟨f - 1, by omega⟩
    obtain ⟨f', rfl⟩ : ∃ g, f' = g + 1 := ⟨f' - 1, by omega⟩
    have hb := q_bits s hs v (by omega)
    show PB (b_X9_likely_49 N kx (f_X9_likely_49 N kx f) _ _ _ _ _ _ X) (b_X10_likely_57 N km (f_X10_likely_57 N km f') _ _ _ _ _ _ M)
    unfold b_X9_likely_49 b_X10_likely_57 b_X9_likely_94 b_X10_likely_98
    have hle : ¬ (3 : Int32) ≤ nI v := (show ¬ nI 3 ≤ nI v from nI_ge (by omega) (by omega))
    have hc : (nI v).toNatClampNeg = v := nI_clamp (by omega)
    obtain ⟨m', hm'⟩ : ∃ m', m = m' + 1 := ⟨m - 1, by omega⟩
    rw [if_neg hle, if_neg hle, x_put (show v < z_ln 30 from (show v < 6 by omega)), q_bv]
    simp only [hc]
    rw [q_gd (q_inl (show v < z_ln 78 from (show v < 6 by omega))), q_lt, q_gd (q_inl (show v < z_ln 78 from (show v < 6 by omega))), nI_1]
    have e78 : ∀ (x : Int32), (z_wr M 78 v x) 78 v = x := fun _ => q_up_s
    rw [e78, hm', q_sub1, nL_of (by omega), show (1 : Int64) = nL 1 from rfl, nL_mul, nL_mul]
    rw [hm'] at ih
    have hp1 : 19 ^ (v + 1) = 19 ^ v * 19 := Nat.pow_succ 19 v
    by_cases q : ((nI s >>> (nI v &&& 31)) &&& 1) = 1
    · rw [if_pos q, if_pos q]
      exact ih (v + 1) f f' (W * 1) _ _ (by omega) (by omega) (by omega) (by omega) (hR.set hb) hK.wr (fun o ho => by rw [z_wr_o (by omega)]; exact hY o ho)
    · rw [if_neg q, if_neg q]
      exact ih (v + 1) f f' (W * m') _ _ (by omega) (by omega) (by omega) (by rw [hp1]; exact Nat.mul_le_mul hW (by omega)) (hR.set hb) hK.wr (fun o ho => by rw [z_wr_o (by omega)]; exact hY o ho)
theorem l_lk (hN : 5000 ≤ N) {m : Nat} {p : Int32} (hm : 2 ≤ m ∧ m ≤ 20) : ∀ (w s f f' A : Nat) (X M : St), s + w = 8 → w < f → w < f' → A ≤ 6859 * s → Rel X M → PB (f_X9_likely_25 N f (nI m) p (nL A) (nI s) X) (f_X10_likely_40 N f' (nI m) p (nL A) (nI s) M) := by
  intro w
  induction w with
  | zero =>
    intro s f f' A X M hs hf hf' hA h
    obtain ⟨f, rfl⟩ : ∃ g, f = g + 1 := ⟨f - 1, by omega⟩
    obtain ⟨f', rfl⟩ : ∃ g, f' = g + 1 := ⟨f' - 1, by omega⟩
    show PB (b_X9_likely_25 N (f_X9_likely_25 N f) _ _ _ _ X) (b_X10_likely_40 N (f_X10_likely_40 N f') _ _ _ _ M)
    unfold b_X9_likely_25 b_X10_likely_40
    have hmm : 0 < m * m * m ∧ m * m * m ≤ 8000 := by
      have d : ∀ m, m < 21 → 2 ≤ m → 0 < m * m * m ∧ m * m * m ≤ 8000 := by decide +kernel
      exact d m (by omega) hm.1
    obtain ⟨r, r1, r2⟩ := l_part hN (a := A) (b := m * m * m) p (by omega) hmm.1 (by omega)
    rw [show s = 8 by omega, if_pos (by decide), if_pos (by decide), nL_of (by omega), nL_mul, nL_mul, r1, r2, q_bd, q_bd]
    exact ⟨_, X, M, rfl, rfl, h⟩
  | succ w ih =>
    intro s f f' A X M hs hf hf' hA h
    obtain ⟨f, rfl⟩ : ∃ g, f = g + 1 := ⟨f - 1, by omega⟩
    obtain ⟨f', rfl⟩ : ∃ g, f' = g + 1 := ⟨f' - 1, by omega⟩
    obtain ⟨X1, x1, x2⟩ := x_takeUp (N := N) (X := X)
    obtain ⟨M1, y1, y2, y3⟩ := m_minds (N := N) (M := M) (by omega)
    obtain ⟨tx, n, hR, -⟩ := RD.of h.1 x2 y3
    show PB (b_X9_likely_25 N (f_X9_likely_25 N f) _ _ _ _ X) (b_X10_likely_40 N (f_X10_likely_40 N f') _ _ _ _ M)
    unfold b_X9_likely_25 b_X10_likely_40
    have hle : ¬ (8 : Int32) ≤ nI s := (show ¬ nI 8 ≤ nI s from nI_ge (by omega) (by omega))
    rw [if_neg hle, if_neg hle, x1, q_bv, y1, q_bv]
    exact l_lk1 hN h hm (by omega) (fun A' X' M' hA' h' => ih (s + 1) f f' A' X' M' (by omega) (by omega) (by omega) (by omega) h') 3 0 N N 1 X1 M1 (by omega) (by omega) (by omega) (by decide) hR y2 x2.fy
theorem p_likely (hN : 5000 ≤ N) {a b : Int32} (h : Rel X M) : PB (f_X9_likely N a b X) (f_X10_likely N a b M) := by
  unfold f_X9_likely f_X10_likely b_X10_likely_24
  rcases x_refM (N := N) (a := a) (b := b) (lo := 2) (hi := 20) (S := X) with ⟨ha, hb, e1, e2, e3⟩ | ⟨w, hw, e1, e2⟩ | ⟨e1, e2, e3⟩
  · obtain ⟨m, m1, m2, e⟩ := i_rng (lo := 2) (hi := 20) ha (by omega) (by omega)
    rw [e1, q_bd, if_pos rfl, e2, q_bd, if_pos rfl, e3, q_bd, if_neg q_10, if_pos rfl, e]
    exact l_lk hN ⟨m1, m2⟩ 8 0 N N 0 X M (by omega) (by omega) (by omega) (by omega) h
  · have hw0 : ¬ w = 0 := by rcases hw with q | q <;> rw [q] <;> decide
    rw [e1, q_bd, if_neg hw0, e2, q_bd, if_neg hw0, if_neg hw0, q_bdi, q_bdi]
    exact p_long h (by rcases hw with q | q <;> rw [q] <;> decide)
  · rw [e1, q_bd, if_neg q_n2, e2, q_bd, if_pos rfl, e3, q_bd, if_pos rfl, if_neg q_n2, q_bdi, q_bdi]
    exact p_long h (by decide)
end
