/-! lots, whatIs -/
section
variable {N : Nat} {X M : St}
theorem q_draw (s : Int32) : -9999 ≤ ((s &&& 2147483647) / 256) - ((s &&& 2147483647) / 256) / 10 * 10 ∧ ((s &&& 2147483647) / 256) - ((s &&& 2147483647) / 256) / 10 * 10 ≤ 9999 := by
  have h0 : 0 ≤ (s &&& 2147483647).toInt := by
    have : (s &&& 2147483647).toBitVec.msb = false := by
      rw [Int32.toBitVec_and, BitVec.msb_and]
      have : (2147483647 : Int32).toBitVec.msb = false := by decide
      rw [this, Bool.and_false]
    show 0 ≤ (s &&& 2147483647).toBitVec.toInt
    rw [BitVec.toInt_eq_msb_cond, this]
    simp
  have hlt : (s &&& 2147483647).toInt < 2 ^ 31 := Int32.toInt_lt _
  generalize (s &&& 2147483647) = u at h0 hlt
  have hu : u = nI u.toInt.toNat := by
    apply Int32.toInt.inj
    rw [nI_toInt (by omega)]
    omega
  generalize hm : u.toInt.toNat = m at hu
  have hm2 : m < 2 ^ 31 := by omega
  subst hu
  have e256 : (256 : Int32).toInt = 256 := rfl
  have e10 : (10 : Int32).toInt = 10 := rfl
  have d1 : nI m / 256 = nI (m / 256) := by
    apply Int32.toInt.inj
    rw [lg_idiv_nonneg (by rw [nI_toInt hm2]; omega) (by rw [e256]; omega), nI_toInt hm2, nI_toInt (by omega), e256]
    rfl
  rw [d1]
  have hk : m / 256 < 2 ^ 31 := by omega
  generalize m / 256 = k at hk
  have d2 : nI k / 10 = nI (k / 10) := by
    apply Int32.toInt.inj
    rw [lg_idiv_nonneg (by rw [nI_toInt hk]; omega) (by rw [e10]; omega), nI_toInt hk, nI_toInt (by omega), e10]
    rfl
  have d3 : nI (k / 10) * 10 = nI (k / 10 * 10) := by
    rw [show (10 : Int32) = nI 10 from rfl]
    exact (Int32.ofNat_mul _ _).symm
  have d4 : nI k - nI (k / 10 * 10) = nI (k % 10) := by
    have h : k = k / 10 * 10 + k % 10 := by omega
    have e : nI k = nI (k / 10 * 10) + nI (k % 10) := by rw [nI_add, ← h]
    rw [e, Int32.add_comm, Int32.add_sub_cancel]
  rw [d2, d3, d4]
  have d : ∀ k, k < 10 → -9999 ≤ nI k ∧ nI k ≤ 9999 := by decide +kernel
  exact d (k % 10) (Nat.mod_lt _ (by omega))
theorem RD.wl {tx : Nat → Int32} {n : Nat} {v : Int32} (h : RD tx n X M) : RD tx n X (z_wr M 65 70 v) := by
  obtain ⟨h1, h2, h3, h4, h5, h6, h7⟩ := h
  exact ⟨h1, h2, h3, fun p hp => (h4 p hp).eq (fun o ho => z_wr_o (by omega)), h5, h6, h7⟩
/-- one run by lot -/
theorem l_lot1 (hN : 5000 ≤ N) {tx : Nat → Int32} {n : Nat} {X0 M0 : St} (h0 : Rel X0 M0) {m i : Nat} {b x y : Int32} (hb : b = 0 ∨ b = 1) {kx : Int32 → Int32 → Int32 → Int32 → Int32 → Int32 → St → Option (Int32 × St)} {km : Int32 → Int32 → Int32 → Int32 → St → Option (Int32 × St)}
    (hk : ∀ (sd x' y' : Int32) (X M : St), Rel X M → M 65 70 = sd → PB (kx (nI m) b sd x' y' (nI (i + 1)) X) (km (nI m) b (if b = 1 then y' else x') (nI (i + 1)) M)) :
    ∀ (w v f f' : Nat) (sd : Int32) (X M : St), v + w = 6 → w < f → w < f' → M 65 70 = sd → RD tx n X M → MK M0 M → FY X0 X → PB (f_X9_lots_54 N kx f (nI m) b sd x y (nI i) (nI v) X) (f_X10_lots_63 N km f' (nI m) b (if b = 1 then y else x) (nI i) (nI v) M) := by
  intro w
  induction w with
  | zero =>
    intro v f f' sd X M hv hf hf' hsd hR hK hY
    obtain ⟨f, rfl⟩ : ∃ g, f = g + 1 := ⟨f - 1, by omega⟩
    obtain ⟨f', rfl⟩ : ∃ g, f' = g + 1 := ⟨f' - 1, by omega⟩
    obtain ⟨X', M', g1, g2, g3, g4, g5, g6⟩ := t_go hN hR
    obtain ⟨M1, f1, f2, f3⟩ := m_forgets (N := N) (by omega) (hK.fm g6)
    have hfin : Rel X' M1 := h0.fr (hY.fx g5) f2
    have h70 : M1 65 70 = sd := by rw [f3 65 (by omega), g6.2 70 (by omega)]; exact hsd
    have e3 : v = 6 := by omega
    subst e3
    have key : ∀ (x' y' : Int32), PB (kx (nI m) b sd x' y' (nI (i + 1)) X') (km (nI m) b (if b = 1 then y' else x') (nI (i + 1)) M1) := fun x' y' => hk sd x' y' X' M1 hfin h70
    show PB (b_X9_lots_54 N kx (f_X9_lots_54 N kx f) _ _ _ _ _ _ _ X) (b_X10_lots_63 N km (f_X10_lots_63 N km f') _ _ _ _ _ M)
    unfold b_X9_lots_54 b_X10_lots_63 b_X9_lots_119 b_X9_lots_138 b_X10_lots_113 b_X10_lots_136 b_X10_lots_139
    rw [if_pos (by decide), if_pos (by decide), g1, q_bv, g2, q_bv, nI_1]
    rcases hb with q | q <;> subst q
    · have kk : ∀ (x' y' : Int32), PB (kx (nI m) 0 sd x' y' (nI (i + 1)) X') (km (nI m) 0 x' (nI (i + 1)) M1) := key
      rw [if_neg (show ¬ (0 : Int32) = 1 by decide), if_neg (show ¬ (0 : Int32) = 1 by decide), g3.2.2.2.1, q_bd]
      by_cases q : X' 35 0 = 0
      · rw [if_pos q, if_pos q, g3.2.2.2.2.1, q_bd, f1, q_bv]
        by_cases q3 : X' 35 0 = 3
        · rw [if_pos q3]; exact kk _ _
        · rw [if_neg q3]; exact kk _ _
      · rw [if_neg q, if_neg q, f1, q_bv]
        by_cases q3 : X' 35 0 = 3
        · rw [if_pos q3]; exact kk _ _
        · rw [if_neg q3]; exact kk _ _
    · have kk : ∀ (x' y' : Int32), PB (kx (nI m) 1 sd x' y' (nI (i + 1)) X') (km (nI m) 1 y' (nI (i + 1)) M1) := key
      rw [if_pos (show (1 : Int32) = 1 from rfl), if_pos (show (1 : Int32) = 1 from rfl), g3.2.2.2.1, q_bd, f1, q_bv]
      by_cases q : X' 35 0 = 0
      · have q3 : ¬ X' 35 0 = 3 := by rw [q]; decide
        rw [if_pos q, if_neg q3, if_neg q3]; exact kk _ _
      · rw [if_neg q]
        by_cases q3 : X' 35 0 = 3
        · rw [if_pos q3, if_pos q3]; exact kk _ _
        · rw [if_neg q3, if_neg q3]; exact kk _ _
  | succ w ih =>
    intro v f f' sd X M hv hf hf' hsd hR hK hY
    obtain ⟨f, rfl⟩ : ∃ g, f = g + 1 := ⟨f - 1, by omega⟩
    obtain ⟨f', rfl⟩ : ∃ g, f' = g + 1 := ⟨f' - 1, by omega⟩
    show PB (b_X9_lots_54 N kx (f_X9_lots_54 N kx f) _ _ _ _ _ _ _ X) (b_X10_lots_63 N km (f_X10_lots_63 N km f') _ _ _ _ _ M)
    unfold b_X9_lots_54 b_X10_lots_63 f_X9_nextSeed f_X9_drawOf f_X10_draw
    have hle : ¬ (6 : Int32) ≤ nI v := (show ¬ nI 6 ≤ nI v from nI_ge (by omega) (by omega))
    have h10 : ¬ (10 : Int32) = 0 := by decide
    rw [if_neg hle, if_neg hle, q_bd, q_bd, x_put (show v < z_ln 30 from (show v < 6 by omega)), q_bv, hsd, q_lt, q_gd h10, q_bd, q_gd (q_inl (show v < z_ln 78 from (show v < 6 by omega))), q_lt, nI_clamp (by omega), nI_1]
    rw [show (z_wr M 65 70 (sd * 1664525 + 1013904223)) 65 70 = sd * 1664525 + 1013904223 from rfl]
    exact ih (v + 1) f f' _ _ _ (by omega) (by omega) (by omega) rfl (hR.wl.set (q_draw _)) hK.wl.wr (fun o ho => by rw [z_wr_o (by omega)]; exact hY o ho)
theorem l_lot (hN : 5000 ≤ N) {m : Nat} {b : Int32} (hm : m ≤ 20) (hb : b = 0 ∨ b = 1) : ∀ (w i f f' : Nat) (sd x y : Int32) (X M : St), i + w = m → w < f → w < f' → Rel X M → M 65 70 = sd → PB (f_X9_lots_34 N f (nI m) b sd x y (nI i) X) (f_X10_lots_50 N f' (nI m) b (if b = 1 then y else x) (nI i) M) := by
  intro w
  induction w with
  | zero =>
    intro i f f' sd x y X M hi hf hf' h hsd
    obtain ⟨f, rfl⟩ : ∃ g, f = g + 1 := ⟨f - 1, by omega⟩
    obtain ⟨f', rfl⟩ : ∃ g, f' = g + 1 := ⟨f' - 1, by omega⟩
    show PB (b_X9_lots_34 N (f_X9_lots_34 N f) _ _ _ _ _ _ X) (b_X10_lots_50 N (f_X10_lots_50 N f') _ _ _ _ M)
    unfold b_X9_lots_34 b_X10_lots_50
    have hle : nI m ≤ nI i := nI_le (by omega) (by omega)
    rw [if_pos hle, if_pos hle]
    rcases hb with q | q <;> subst q
    · rw [if_pos rfl, if_neg (show ¬ (0 : Int32) = 1 by decide)]
      exact ⟨_, X, M, rfl, rfl, h⟩
    · rw [if_neg q_10, if_pos rfl]
      exact ⟨_, X, M, rfl, rfl, h⟩
  | succ w ih =>
    intro i f f' sd x y X M hi hf hf' h hsd
    obtain ⟨f, rfl⟩ : ∃ g, f = g + 1 := ⟨f - 1, by omega⟩
    obtain ⟨f', rfl⟩ : ∃ g, f' = g + 1 := ⟨f' - 1, by omega⟩
    obtain ⟨X1, x1, x2⟩ := x_takeUp (N := N) (X := X)
    obtain ⟨M1, y1, y2, y3⟩ := m_minds (N := N) (M := M) (by omega)
    obtain ⟨tx, n, hR, -⟩ := RD.of h.1 x2 y3
    show PB (b_X9_lots_34 N (f_X9_lots_34 N f) _ _ _ _ _ _ X) (b_X10_lots_50 N (f_X10_lots_50 N f') _ _ _ _ M)
    unfold b_X9_lots_34 b_X10_lots_50
    have hle : ¬ nI m ≤ nI i := nI_ge (by omega) (by omega)
    rw [if_neg hle, if_neg hle, x1, q_bv, y1, q_bv]
    exact l_lot1 hN h hb (fun sd' x' y' X' M' h' hs' => ih (i + 1) f f' sd' x' y' X' M' (by omega) (by omega) (by omega) h' hs') 6 0 N N sd X1 M1 (by omega) (by omega) (by omega) (by rw [y3 65 (by omega)]; exact hsd) hR y2 x2.fy
theorem p_lots (hN : 5000 ≤ N) {a z b : Int32} (h : Rel X M) : PB (f_X9_lots N a z b X) (f_X10_lots N a z b M) := by
  unfold f_X9_lots f_X10_lots b_X10_lots_27
  rcases x_refM (N := N) (a := a) (b := b) (lo := 1) (hi := 20) (S := X) with ⟨ha, hb, e1, e2, e3⟩ | ⟨w, hw, e1, e2⟩ | ⟨e1, e2, e3⟩
  · obtain ⟨m, m1, m2, e⟩ := i_rng (lo := 1) (hi := 20) ha (by omega) (by omega)
    have h' : Rel X (z_wr M 65 70 z) := h.fr FY.rf ⟨fun o ho => z_wr_o (by omega), fun k hk => z_wr_k (by omega), fun _ _ => rfl, fun _ _ => ⟨rfl, rfl, rfl⟩⟩
    have key := l_lot hN m2 hb m 0 N N z 0 0 X (z_wr M 65 70 z) (by omega) (by omega) (by omega) h' rfl
    rw [ite_self] at key
    rw [e1, q_bd, if_pos rfl, e2, q_bd, if_pos rfl, e3, q_bd, if_neg q_10, if_pos rfl, q_lt, e]
    exact key
  · have hw0 : ¬ w = 0 := by rcases hw with q | q <;> rw [q] <;> decide
    rw [e1, q_bd, if_neg hw0, e2, q_bd, if_neg hw0, if_neg hw0, q_bdi, q_bdi]
    exact p_num h (by rcases hw with q | q <;> rw [q] <;> decide)
  · rw [e1, q_bd, if_neg q_n2, e2, q_bd, if_pos rfl, e3, q_bd, if_pos rfl, if_neg q_n2, q_bdi, q_bdi]
    exact p_num h (by decide)
/-- how a run in mind ends hangs on the situation alone -/
theorem t_det (hN : 5000 ≤ N) (h : RN X M) {v : Nat} (hv : v < 6) : ∃ hw : Nat → Int32, ∀ j, j < 40 → (∀ X', FY X X' → ∃ X1, f_X9_thinkWith N (nI v) (nI j) X' = some X1 ∧ X1 35 0 = hw j ∧ FY X X1 ∧ X1 64 = X' 64) ∧ ∀ M', FT M M' → ∃ M1, f_X10_goesWith N (nI v) (nI j) M' = some M1 ∧ f_X10_howNow N M1 = some (hw j, M1) ∧ FT M M1 := by
  have d : ∀ k, k < 40 → -9999 ≤ nI k ∧ nI k ≤ 9999 := by decide +kernel
  have one : ∀ j, ∃ a : Int32, j < 40 → (∀ X', FY X X' → ∃ X1, f_X9_thinkWith N (nI v) (nI j) X' = some X1 ∧ X1 35 0 = a ∧ FY X X1 ∧ X1 64 = X' 64) ∧ ∀ M', FT M M' → ∃ M1, f_X10_goesWith N (nI v) (nI j) M' = some M1 ∧ f_X10_howNow N M1 = some (a, M1) ∧ FT M M1 := by
    intro j
    by_cases hj : j < 40
    · obtain ⟨X1, M1, r1, r2, r3, r4, r5⟩ := t_with hN h hv (d j hj)
      refine ⟨X1 35 0, fun _ => ⟨fun X' hX' => ?_, fun M' hM' => ?_⟩⟩
      · obtain ⟨Y1, x1, x2⟩ := x_takeUp (N := N) (X := X')
        obtain ⟨M0, m1, m2, m3⟩ := m_minds (N := N) (M := M) (by omega)
        obtain ⟨tx, n, hR, -⟩ := RD.of (h.fr hX' FT.rf) x2 m3
        obtain ⟨X2, M2, g1, g2, g3, g4, g5, g6⟩ := t_go hN (hR.set (v := v) (d j hj))
        have e : f_X9_thinkWith N (nI v) (nI j) X' = some X2 := by
          unfold f_X9_thinkWith
          rw [x1, q_bv, x_put (show v < z_ln 30 from hv), q_bv, g1, q_bv]
        obtain ⟨X3, M3, s1, s2, s3, s4, s5⟩ := t_with hN (h.fr hX' FT.rf) hv (d j hj)
        rw [e] at s1
        rw [r2] at s2
        obtain rfl := Option.some.inj s1
        obtain rfl := Option.some.inj s2
        have e1 := r3.2.2.2.1
        have e2 := s3.2.2.2.1
        rw [e1] at e2
        refine ⟨X2, e, (Prod.mk.inj (Option.some.inj e2)).1.symm, hX'.tr s4, ?_⟩
        rw [g5.1 64 (by omega), z_wr_o (by omega), x2.2.2.2 64 (by omega)]
      · obtain ⟨X3, M3, s1, s2, s3, s4, s5⟩ := t_with hN (h.fr FY.rf hM') hv (d j hj)
        rw [r1] at s1
        obtain rfl := Option.some.inj s1
        exact ⟨M3, s2, s3.2.2.2.1, hM'.tr s5⟩
    · exact ⟨0, fun q => absurd q hj⟩
  exact ⟨fun j => Classical.choose (one j), fun j hj => Classical.choose_spec (one j) hj⟩
/-- the ends of the tries -/
theorem x_tries {v tr : Nat} {hw : Nat → Int32} (htr : tr ≤ 31) (hh : ∀ j, j < 40 → ∀ X', FY X X' → ∃ X1, f_X9_thinkWith N (nI v) (nI j) X' = some X1 ∧ X1 35 0 = hw j ∧ FY X X1 ∧ X1 64 = X' 64) : ∀ (w k f : Nat) (X' : St), k + w = tr → w < f → FY X X' → (∀ j, j < k → X' 64 j = hw j) → ∃ X1, f_X9_whatIs_36 N f (nI v) (nI tr) (nI k) X' = f_X9_whatIs_69 N N 0 0 X1 ∧ FY X X1 ∧ ∀ j, j < tr → X1 64 j = hw j := by
  intro w
  induction w with
  | zero =>
    intro k f X' hk hf hX h
    obtain ⟨f, rfl⟩ : ∃ g, f = g + 1 := ⟨f - 1, by omega⟩
    refine ⟨X', ?_, hX, fun j hj => h j (by omega)⟩
    show b_X9_whatIs_36 N (f_X9_whatIs_36 N f) _ _ _ X' = _
    unfold b_X9_whatIs_36
    rw [if_pos (nI_le (by omega) (by omega))]
  | succ w ih =>
    intro k f X' hk hf hX h
    obtain ⟨f, rfl⟩ : ∃ g, f = g + 1 := ⟨f - 1, by omega⟩
    obtain ⟨X1, r1, r2, r3, r4⟩ := hh k (by omega) X' hX
    obtain ⟨X2, s1, s2, s3⟩ := ih (k + 1) f (z_wr X1 64 k (X1 35 0)) (by omega) (by omega) (fun o ho => by rw [z_wr_o (by omega)]; exact r3 o ho) (by
      intro j hj
      show q_up (X1 64) k _ j = _
      by_cases q : j = k
      · subst q; rw [q_up_s]; exact r2
      · rw [q_up_n q, r4]; exact h j (by omega))
    refine ⟨X2, ?_, s2, s3⟩
    show b_X9_whatIs_36 N (f_X9_whatIs_36 N f) _ _ _ X' = _
    unfold b_X9_whatIs_36
    rw [if_neg (nI_ge (by omega) (by omega)), r1, q_bv, x_put (show k < z_ln 64 from (show k < 32 by omega)), q_bv, nI_1]
    exact s1
/-- whether the row tells the ends from n on -/
theorem x_tells {R n : Nat} {hw row : Nat → Int32} {S : St} (hR : R ≤ 16) (hn : n < 16) (h7 : S 0 7 = nI R) (h62 : ∀ j, j < R → S 62 j = row j) (h64 : ∀ j, j < n + R → S 64 j = hw j) : ∀ (w k f : Nat), k + w = R → w < f → f_X9_rowTellsEndsFrom_2 N f (nI n) (nI k) S = some (bq row (fun i => hw (n + i)) w k, S) := by
  intro w
  induction w with
  | zero =>
    intro k f hk hf
    obtain ⟨f, rfl⟩ : ∃ g, f = g + 1 := ⟨f - 1, by omega⟩
    show b_X9_rowTellsEndsFrom_2 N (f_X9_rowTellsEndsFrom_2 N f) _ _ S = _
    unfold b_X9_rowTellsEndsFrom_2
    rw [h7, if_pos (nI_le (by omega) (by omega))]
    rfl
  | succ w ih =>
    intro k f hk hf
    obtain ⟨f, rfl⟩ : ∃ g, f = g + 1 := ⟨f - 1, by omega⟩
    show b_X9_rowTellsEndsFrom_2 N (f_X9_rowTellsEndsFrom_2 N f) _ _ S = some (if row k = hw (n + k) then bq row (fun i => hw (n + i)) w (k + 1) else 0, S)
    unfold b_X9_rowTellsEndsFrom_2
    rw [h7, if_neg (nI_ge (by omega) (by omega)), x_at (show k < z_ln 62 from (show k < 16 by omega)), q_bd, nI_add, x_at (show n + k < z_ln 64 from (show n + k < 32 by omega)), q_bd, h62 k (by omega), h64 (n + k) (by omega), nI_1, ih (k + 1) f (by omega) (by omega)]
    by_cases q : row k = hw (n + k)
    · rw [if_pos q, if_pos q]
    · rw [if_neg q, if_neg q]
theorem m_ends {R n v : Nat} {hw row : Nat → Int32} (hR : R ≤ 16) (hn : n < 16) (h69 : M 65 69 = nI R) (h100 : ∀ j, j < R → row j = M 100 j) (hh : ∀ j, j < 40 → ∀ M', FT M M' → ∃ M1, f_X10_goesWith N (nI v) (nI j) M' = some M1 ∧ f_X10_howNow N M1 = some (hw j, M1) ∧ FT M M1) : ∀ (w k f : Nat) (M' : St), k + w = R → w < f → FT M M' → ∃ M1, f_X10_endsSo_2 N f (nI v) (nI n) (nI k) M' = some (bq row (fun i => hw (n + i)) w k, M1) ∧ FT M M1 := by
  intro w
  induction w with
  | zero =>
    intro k f M' hk hf hM
    obtain ⟨f, rfl⟩ : ∃ g, f = g + 1 := ⟨f - 1, by omega⟩
    refine ⟨M', ?_, hM⟩
    show b_X10_endsSo_2 N (f_X10_endsSo_2 N f) _ _ _ M' = _
    unfold b_X10_endsSo_2
    rw [hM.2.1 69 (by omega), h69, if_pos (nI_le (by omega) (by omega))]
    rfl
  | succ w ih =>
    intro k f M' hk hf hM
    obtain ⟨f, rfl⟩ : ∃ g, f = g + 1 := ⟨f - 1, by omega⟩
    obtain ⟨M1, r1, r2, r3⟩ := hh (n + k) (by omega) M' hM
    show ∃ M1, b_X10_endsSo_2 N (f_X10_endsSo_2 N f) _ _ _ M' = some (if row k = hw (n + k) then bq row (fun i => hw (n + i)) w (k + 1) else 0, M1) ∧ _
    unfold b_X10_endsSo_2
    rw [hM.2.1 69 (by omega), h69, if_neg (nI_ge (by omega) (by omega)), nI_add, r1, q_bv, r2, q_bd, q_gd (q_inl (show k < z_ln 100 from (show k < 16 by omega))), nI_clamp (by omega), nI_1, r3.1 100 (by omega), ← h100 k (by omega)]
    by_cases q : row k = hw (n + k)
    · rw [if_pos q.symm, if_pos q]
      exact ih (k + 1) f M1 (by omega) (by omega) r3
    · rw [if_neg (fun w => q w.symm), if_neg q]
      exact ⟨M1, rfl, r3⟩
theorem l_what (hN : 5000 ≤ N) (h : Rel X M) {R v : Nat} {hw row : Nat → Int32} (hR : R ≤ 16) (hh : ∀ j, j < 40 → ∀ M', FT M M' → ∃ M1, f_X10_goesWith N (nI v) (nI j) M' = some M1 ∧ f_X10_howNow N M1 = some (hw j, M1) ∧ FT M M1) (h69 : M 65 69 = nI R) (h100 : ∀ j, j < R → row j = M 100 j) {X1 : St} (hX : FY X X1) (h7 : X1 0 7 = nI R) (h62 : ∀ j, j < R → X1 62 j = row j) (h64 : R = 0 ∨ ∀ j, j < 15 + R → X1 64 j = hw j) : ∀ (w k f f' : Nat) (acc : Int32) (M' : St), k + w = 16 → w < f → w < f' → FT M M' → PB (f_X9_whatIs_69 N f acc (nI k) X1) (f_X10_whatIs_17 N f' (nI v) acc (nI k) M') := by
  intro w
  induction w with
  | zero =>
    intro k f f' acc M' hk hf hf' hM
    obtain ⟨f, rfl⟩ : ∃ g, f = g + 1 := ⟨f - 1, by omega⟩
    obtain ⟨f', rfl⟩ : ∃ g, f' = g + 1 := ⟨f' - 1, by omega⟩
    show PB (b_X9_whatIs_69 N (f_X9_whatIs_69 N f) _ _ X1) (b_X10_whatIs_17 N (f_X10_whatIs_17 N f') _ _ _ M')
    unfold b_X9_whatIs_69 b_X10_whatIs_17
    rw [show k = 16 by omega, if_pos (by decide), if_pos (by decide)]
    exact ⟨_, X1, M', rfl, rfl, h.fr hX hM⟩
  | succ w ih =>
    intro k f f' acc M' hk hf hf' hM
    obtain ⟨f, rfl⟩ : ∃ g, f = g + 1 := ⟨f - 1, by omega⟩
    obtain ⟨f', rfl⟩ : ∃ g, f' = g + 1 := ⟨f' - 1, by omega⟩
    have e1 : f_X9_rowTellsEndsFrom N (nI k) X1 = some (bq row (fun i => hw (k + i)) R 0, X1) := by
      rcases h64 with q | q
      · subst q
        exact x_tells (hw := fun i => X1 64 i) hR (by omega) h7 h62 (fun j _ => rfl) 0 0 N (by omega) (by omega)
      · exact x_tells hR (by omega) h7 h62 (fun j hj => q j (by omega)) R 0 N (by omega) (by omega)
    obtain ⟨M1, e2, e3⟩ := m_ends (N := N) (n := k) hR (by omega) h69 h100 hh R 0 N M' (by omega) (by omega) hM
    have e2' : f_X10_endsSo N (nI v) (nI k) M' = _ := e2
    show PB (b_X9_whatIs_69 N (f_X9_whatIs_69 N f) _ _ X1) (b_X10_whatIs_17 N (f_X10_whatIs_17 N f') _ _ _ M')
    unfold b_X9_whatIs_69 b_X10_whatIs_17 b_X9_whatIs_92 b_X10_whatIs_40
    have hle : ¬ (16 : Int32) ≤ nI k := (show ¬ nI 16 ≤ nI k from nI_ge (by omega) (by omega))
    rw [if_neg hle, if_neg hle, e1, q_bd, e2', q_bd, nI_1]
    rcases bq01 (r := row) (s := fun i => hw (k + i)) R 0 with q | q
    · rw [q, if_pos rfl, if_pos rfl, Int32.or_zero]
      exact ih (k + 1) f f' acc M1 (by omega) (by omega) (by omega) e3
    · rw [q, if_neg q_10, if_neg q_10]
      exact ih (k + 1) f f' _ M1 (by omega) (by omega) (by omega) e3
theorem p_whatIs (hN : 5000 ≤ N) {a : Int32} (h : Rel X M) : PB (f_X9_whatIs N a X) (f_X10_whatIs N a M) := by
  obtain ⟨R, w1, w2, w3, w4⟩ := h.2.2.1
  unfold f_X9_whatIs f_X10_whatIs b_X9_whatIs_33
  rcases x_var (N := N) (a := a) (S := X) with ⟨v, hv, e, e1, e2⟩ | ⟨e1, e2⟩
  · rw [e1, q_bd, if_neg q_10, e2, q_bd, if_neg q_10, w2, e]
    obtain ⟨hw, hh⟩ := t_det hN h.1 hv
    by_cases r0 : R = 0
    · subst r0
      rw [if_pos (by decide)]
      obtain ⟨X1, r1, r2, r3⟩ := x_tries (N := N) (X := X) (v := v) (tr := 0) (hw := hw) (by omega) (fun j hj => (hh j hj).1) 0 0 N X (by omega) (by omega) FY.rf (fun j hj => absurd hj (Nat.not_lt_zero _))
      have r1' : f_X9_whatIs_36 N N (nI v) 0 0 X = _ := r1
      rw [r1']
      exact l_what hN h (row := X 62) w1 (fun j hj => (hh j hj).2) w3 w4 r2 (by rw [r2 0 (by omega)]; exact w2) (fun j hj => absurd hj (Nat.not_lt_zero _)) (Or.inl rfl) 16 0 N N 0 M (by omega) (by omega) (by omega) FT.rf
    · have hne : ¬ nI R = 0 := fun q => by
        have := (nI_eq (a := R) (b := 0) (by omega) (by omega)).mp q
        omega
      have htr : (16 : Int32) + nI R - 1 = nI (15 + R) := by
        rw [q_16, show 16 + R = 15 + R + 1 by omega, q_sub1]
      rw [if_neg hne, htr]
      obtain ⟨X1, r1, r2, r3⟩ := x_tries (N := N) (X := X) (v := v) (tr := 15 + R) (hw := hw) (by omega) (fun j hj => (hh j hj).1) (15 + R) 0 N X (by omega) (by omega) FY.rf (fun j hj => absurd hj (Nat.not_lt_zero _))
      have r1' : f_X9_whatIs_36 N N (nI v) (nI (15 + R)) 0 X = _ := r1
      rw [r1']
      exact l_what hN h (row := X 62) w1 (fun j hj => (hh j hj).2) w3 w4 r2 (by rw [r2 0 (by omega)]; exact w2) (fun j hj => by rw [r2 62 (by omega)]) (Or.inr r3) 16 0 N N 0 M (by omega) (by omega) (by omega) FT.rf
  · rw [e1, q_bd, if_pos rfl, e2, q_bd, if_pos rfl, q_bdi, q_bdi]
    exact p_no h (by decide)
end
