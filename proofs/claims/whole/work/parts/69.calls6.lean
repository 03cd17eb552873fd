/-! pure, changes, judge, whatIs -/
section
variable {N : Nat} {X M : St}
def bq (r s : Nat → Int32) : Nat → Nat → Int32
  | 0, _ => 1
  | w + 1, k => if r k = s k then bq r s w (k + 1) else 0
theorem bq_eq {r s r' s' : Nat → Int32} : ∀ (w k : Nat), (∀ j, k ≤ j → j < k + w → r' j = r j ∧ s' j = s j) → bq r' s' w k = bq r s w k
  | 0, _, _ => rfl
  | w + 1, k, h => by
    show (if r' k = s' k then bq r' s' w (k + 1) else 0) = (if r k = s k then bq r s w (k + 1) else 0)
    rw [(h k (by omega) (by omega)).1, (h k (by omega) (by omega)).2, bq_eq w (k + 1) (fun j h1 h2 => h j (by omega) (by omega))]
theorem bq01 {r s : Nat → Int32} : ∀ (w k : Nat), bq r s w k = 0 ∨ bq r s w k = 1
  | 0, _ => Or.inr rfl
  | w + 1, k => by
    show (if r k = s k then bq r s w (k + 1) else 0) = 0 ∨ (if r k = s k then bq r s w (k + 1) else 0) = 1
    by_cases q : r k = s k
    · rw [if_pos q]; exact bq01 w (k + 1)
    · rw [if_neg q]; exact Or.inl rfl
theorem x_same {S : St} : ∀ (w k f : Nat), k + w = 6 → w < f → f_X9_sameRows_2 N 30 9 f (nI k) S = some (bq (S 30) (S 9) w k, S) := by
  intro w
  induction w with
  | zero =>
    intro k f hk hf
    obtain ⟨f, rfl⟩ : ∃ g, f = g + 1 := ⟨f - 1, by omega⟩
    show b_X9_sameRows_2 N 30 9 (f_X9_sameRows_2 N 30 9 f) (nI k) S = _
    unfold b_X9_sameRows_2
    rw [show z_ln 30 = 6 from rfl, show z_ln 9 = 6 from rfl, show k = 6 by omega, if_pos (by decide), if_pos rfl]
    rfl
  | succ w ih =>
    intro k f hk hf
    obtain ⟨f, rfl⟩ : ∃ g, f = g + 1 := ⟨f - 1, by omega⟩
    show b_X9_sameRows_2 N 30 9 (f_X9_sameRows_2 N 30 9 f) (nI k) S = _
    unfold b_X9_sameRows_2
    rw [show z_ln 30 = 6 from rfl, if_neg (nI_ge (by omega) (by omega)), q_gd (q_in (show k < 6 by omega) (by omega)), x_at (show k < z_ln 9 from (show k < 6 by omega)), q_bd, nI_clamp (by omega), nI_1, ih (k + 1) f (by omega) (by omega)]
    show _ = some (if S 30 k = S 9 k then bq (S 30) (S 9) w (k + 1) else 0, S)
    by_cases q : S 30 k = S 9 k
    · rw [if_pos q, if_pos q]
    · rw [if_neg q, if_neg q]
theorem m_pure0 {S S' : St} (hf : f_X10_forgets N S = some S') : ∀ (w k f : Nat), k + w = 6 → w < f → f_X10_pure_47 N f 0 (nI k) S = some (0, S') := by
  intro w
  induction w with
  | zero =>
    intro k f hk hf'
    obtain ⟨f, rfl⟩ : ∃ g, f = g + 1 := ⟨f - 1, by omega⟩
    show b_X10_pure_47 N (f_X10_pure_47 N f) 0 (nI k) S = _
    unfold b_X10_pure_47
    rw [show k = 6 by omega, if_pos (by decide), hf, q_bv, if_pos rfl]
  | succ w ih =>
    intro k f hk hf'
    obtain ⟨f, rfl⟩ : ∃ g, f = g + 1 := ⟨f - 1, by omega⟩
    show b_X10_pure_47 N (f_X10_pure_47 N f) 0 (nI k) S = _
    unfold b_X10_pure_47 b_X10_pure_79 b_X10_pure_80
    rw [if_neg (show ¬ (6 : Int32) ≤ nI k from (show ¬ nI 6 ≤ nI k from nI_ge (by omega) (by omega))), if_pos rfl, nI_1]
    exact ih (k + 1) f (by omega) (by omega)
theorem m_pure1 {S S' : St} (hf : f_X10_forgets N S = some S') : ∀ (w k f : Nat), k + w = 6 → w < f → f_X10_pure_47 N f 1 (nI k) S = some (bq (S 78) (S 99) w k, S') := by
  intro w
  induction w with
  | zero =>
    intro k f hk hf'
    obtain ⟨f, rfl⟩ : ∃ g, f = g + 1 := ⟨f - 1, by omega⟩
    show b_X10_pure_47 N (f_X10_pure_47 N f) 1 (nI k) S = _
    unfold b_X10_pure_47
    rw [show k = 6 by omega, if_pos (by decide), hf, q_bv, if_neg q_10]
    rfl
  | succ w ih =>
    intro k f hk hf'
    obtain ⟨f, rfl⟩ : ∃ g, f = g + 1 := ⟨f - 1, by omega⟩
    show b_X10_pure_47 N (f_X10_pure_47 N f) 1 (nI k) S = _
    unfold b_X10_pure_47 b_X10_pure_79 b_X10_pure_80
    rw [if_neg (show ¬ (6 : Int32) ≤ nI k from (show ¬ nI 6 ≤ nI k from nI_ge (by omega) (by omega))), if_neg q_10, nI_1, q_gd (q_inl (show k < z_ln 78 from (show k < 6 by omega))), q_gd (q_inl (show k < z_ln 99 from (show k < 36 by omega))), nI_clamp (by omega)]
    show _ = some (if S 78 k = S 99 k then bq (S 78) (S 99) w (k + 1) else 0, S')
    by_cases q : S 78 k = S 99 k
    · rw [if_pos q, if_pos q]; exact ih (k + 1) f (by omega) (by omega)
    · rw [if_neg q, if_neg q]; exact m_pure0 hf w (k + 1) f (by omega) (by omega)
theorem p_pure (hN : 5000 ≤ N) (h : Rel X M) : PB (f_X9_pure N X) (f_X10_pure N M) := by
  obtain ⟨X1, x1, x2⟩ := x_takeUp (N := N) (X := X)
  obtain ⟨M1, y1, y2, y3⟩ := m_minds (N := N) (M := M) (by omega)
  obtain ⟨tx, n, hR, -⟩ := RD.of h.1 x2 y3
  obtain ⟨X2, M2, g1, g2, g3, g4, g5, g6⟩ := t_go hN hR
  obtain ⟨X3, M3, k1, k2, k3, k4, k5, k6⟩ := t_go hN g4
  have hK := (y2.fm g6).fm k6
  obtain ⟨M4, f1, f2, f3⟩ := m_forgets (N := N) (by omega) hK
  have hY : FY X X3 := (x2.fy.fx g5).fx k5
  have hfin : Rel X3 M4 := h.fr hY f2
  have hbq : bq (X3 30) (X3 9) 6 0 = bq (M3 78) (M3 99) 6 0 := by
    refine bq_eq 6 0 (fun j _ hj => ⟨(k4.2.2.2.2.2.1 j (by omega)).1, ?_⟩)
    rw [hY 9 (by omega), hK.2.2.1 j (by omega)]
    obtain ⟨tx', n', g, -, -⟩ := h.1
    exact (g.2.2.2.1 j (by omega)).1
  unfold f_X9_pure f_X10_pure f_X9_thinkOf b_X9_pure_43 b_X9_pure_44 b_X10_pure_42 b_X10_pure_43
  rw [x1, q_bv, g1, q_bv, q_bv, k1, q_bv, y1, q_bv, g2, q_bv, g3.2.2.2.1, q_bd, g3.2.2.2.2.1, q_bd, k2, q_bv, k3.2.2.2.1, q_bd]
  have e0 : f_X10_pure_47 N N 0 0 M3 = some (0, M4) := m_pure0 f1 6 0 N (by omega) (by omega)
  have e1 : f_X10_pure_47 N N 1 0 M3 = some (bq (M3 78) (M3 99) 6 0, M4) := m_pure1 f1 6 0 N (by omega) (by omega)
  have e2 : f_X9_sameRows N 30 9 X3 = some (bq (X3 30) (X3 9) 6 0, X3) := x_same 6 0 N (by omega) (by omega)
  by_cases q : X3 35 0 = X2 35 0
  · rw [if_pos q, if_pos q.symm, k3.2.2.2.2.1, q_bd]
    by_cases q2 : X3 35 1 = X2 35 1
    · rw [if_pos q2, if_pos q2.symm, if_neg q_10, e2, q_bd, e1, hbq]
      rcases bq01 (r := M3 78) (s := M3 99) 6 0 with w | w
      · rw [w, if_pos rfl]; exact ⟨_, X3, M4, rfl, rfl, hfin⟩
      · rw [w, if_neg q_10]; exact ⟨_, X3, M4, rfl, rfl, hfin⟩
    · rw [if_neg q2, if_pos rfl, if_neg (show ¬ X2 35 1 = X3 35 1 from fun w => q2 w.symm), e0]
      exact ⟨_, X3, M4, rfl, rfl, hfin⟩
  · rw [if_neg q, if_pos rfl, if_neg (show ¬ X2 35 0 = X3 35 0 from fun w => q w.symm), e0]
    exact ⟨_, X3, M4, rfl, rfl, hfin⟩
/-- changes -/
def ch (a b : Nat → Int32) : Nat → Nat → Int32 → Int32
  | 0, _, acc => acc
  | w + 1, k, acc => ch a b w (k + 1) (if stv (a k) = stv (b k) then acc else acc + 1)
theorem ch_add {a b : Nat → Int32} : ∀ (w w2 k : Nat) (acc : Int32), ch a b (w + w2) k acc = ch a b w2 (k + w) (ch a b w k acc)
  | 0, w2, k, acc => by rw [Nat.zero_add]; rfl
  | w + 1, w2, k, acc => by
    rw [show w + 1 + w2 = w + w2 + 1 by omega]
    show ch a b (w + w2) (k + 1) _ = _
    rw [ch_add w w2 (k + 1) _, show k + 1 + w = k + (w + 1) by omega]
    rfl
theorem ch_no {a b : Nat → Int32} : ∀ (w k : Nat) (acc : Int32), (∀ j, k ≤ j → j < k + w → a j = b j) → ch a b w k acc = acc
  | 0, _, _, _ => rfl
  | w + 1, k, acc, h => by
    show ch a b w (k + 1) _ = _
    rw [if_pos (by rw [h k (by omega) (by omega)])]
    exact ch_no w (k + 1) acc (fun j h1 h2 => h j (by omega) (by omega))
theorem ch_eq {a b a' b' : Nat → Int32} : ∀ (w k : Nat) (acc : Int32), (∀ j, k ≤ j → j < k + w → a' j = a j ∧ b' j = b j) → ch a' b' w k acc = ch a b w k acc
  | 0, _, _, _ => rfl
  | w + 1, k, acc, h => by
    show ch a' b' w (k + 1) _ = ch a b w (k + 1) _
    rw [(h k (by omega) (by omega)).1, (h k (by omega) (by omega)).2]
    exact ch_eq w (k + 1) _ (fun j h1 h2 => h j (by omega) (by omega))
theorem x_chg {S : St} (h1 : ∀ k, k < 10 → ∃ s, s < 16 ∧ S 32 k = nI s) (h2 : ∀ k, k < 10 → ∃ s, s < 16 ∧ S 11 k = nI s) : ∀ (w k f : Nat) (acc : Int32), k + w = 10 → w < f → f_X9_changes_9 N f acc (nI k) S = some (ch (S 32) (S 11) w k acc, S) := by
  intro w
  induction w with
  | zero =>
    intro k f acc hk hf
    obtain ⟨f, rfl⟩ : ∃ g, f = g + 1 := ⟨f - 1, by omega⟩
    show b_X9_changes_9 N (f_X9_changes_9 N f) acc (nI k) S = _
    unfold b_X9_changes_9
    rw [show k = 10 by omega, if_pos (by decide)]
    rfl
  | succ w ih =>
    intro k f acc hk hf
    obtain ⟨f, rfl⟩ : ∃ g, f = g + 1 := ⟨f - 1, by omega⟩
    obtain ⟨s, s1, s2⟩ := h1 k (by omega)
    obtain ⟨t, t1, t2⟩ := h2 k (by omega)
    show b_X9_changes_9 N (f_X9_changes_9 N f) acc (nI k) S = _
    unfold b_X9_changes_9 b_X9_changes_43
    rw [if_neg (show ¬ (10 : Int32) ≤ nI k from (show ¬ nI 10 ≤ nI k from nI_ge (by omega) (by omega))), x_state (o := 31) (show k < z_ln (z_rfS 31 0) from (show k < 10 by omega)) s1 s2, q_bd, x_state (o := 10) (show k < z_ln (z_rfS 10 0) from (show k < 10 by omega)) t1 t2, q_bd, nI_1]
    show _ = some (ch (S 32) (S 11) w (k + 1) (if stv (S 32 k) = stv (S 11 k) then acc else acc + 1), S)
    rw [s2, t2]
    by_cases q : stv (nI s) = stv (nI t)
    · rw [if_pos q, if_pos q]; exact ih (k + 1) f acc (by omega) (by omega)
    · rw [if_neg q, if_neg q]; exact ih (k + 1) f _ (by omega) (by omega)
theorem m_stateG {S : St} {k : Nat} (hN : 5 ≤ N) (hk : k < 10) : f_X10_stateOf N (nI k) S = some (stv (S 79 k), S) := by
  unfold f_X10_stateOf stv
  have c1 : (nI k).toNatClampNeg = k := nI_clamp (by omega)
  rw [q_gd (q_inl (show k < z_ln 79 from hk))]
  simp only [c1]
  rw [m_bits hN, q_bd]
  by_cases q : m_b4 (S 79 k) ≤ 3
  · rw [if_pos q, if_pos q, q_gd (q_inl (show k < z_ln 79 from hk)), m_bits hN, q_bd]
  · rw [if_neg q, if_neg q]
theorem m_chg (hN : 1000 ≤ N) {M0 : St} {s : Nat} (hs : s ≤ 10) : ∀ (w k f : Nat) (acc : Int32) (S : St), k + w = s → w < f → S 65 7 = nI s → MK M0 S → ∃ S', f_X10_changes_12 N f acc (nI k) S = some (ch (S 79) (M0 79) w k acc, S') ∧ FT M0 S' := by
  intro w
  induction w with
  | zero =>
    intro k f acc S hk hf h7 hK
    obtain ⟨f, rfl⟩ : ∃ g, f = g + 1 := ⟨f - 1, by omega⟩
    obtain ⟨S', f1, f2, f3⟩ := m_forgets (N := N) (by omega) hK
    refine ⟨S', ?_, f2⟩
    show b_X10_changes_12 N (f_X10_changes_12 N f) acc (nI k) S = _
    unfold b_X10_changes_12
    rw [h7, show k = s by omega, if_pos (nI_le (Nat.le_refl _) (by omega)), f1, q_bv]
    rfl
  | succ w ih =>
    intro k f acc S hk hf h7 hK
    obtain ⟨f, rfl⟩ : ∃ g, f = g + 1 := ⟨f - 1, by omega⟩
    obtain ⟨S', r1, r2⟩ := ih (k + 1) f (if stv (S 79 k) = stv (M0 79 k) then acc else acc + 1) (z_wr S 79 k (M0 79 k)) (by omega) (by omega) h7 hK.ws
    refine ⟨S', ?_, r2⟩
    show b_X10_changes_12 N (f_X10_changes_12 N f) acc (nI k) S = _
    unfold b_X10_changes_12 b_X10_changes_56
    have c1 : (nI k).toNatClampNeg = k := nI_clamp (by omega)
    have c2 : (nI (6 + k)).toNatClampNeg = 6 + k := nI_clamp (by omega)
    rw [h7, if_neg (nI_ge (by omega) (by omega)), m_stateG (by omega) (by omega), q_bd, q_6]
    simp only [c1, c2]
    rw [q_gd (q_inl (show 6 + k < z_ln 99 from (show 6 + k < 36 by omega))), q_gd (q_inl (show k < z_ln 79 from (show k < 10 by omega))), q_lt, (hK.2.2.2 k (by omega)).1, m_stateG (by omega) (by omega), q_bd, show (z_wr S 79 k (M0 79 k)) 79 k = M0 79 k from q_up_s, nI_1, Int32.add_zero]
    have e : ch (S 79) (M0 79) (w + 1) k acc = ch ((z_wr S 79 k (M0 79 k)) 79) (M0 79) w (k + 1) (if stv (S 79 k) = stv (M0 79 k) then acc else acc + 1) := by
      show ch (S 79) (M0 79) w (k + 1) _ = _
      exact (ch_eq w (k + 1) _ (fun j hj _ => ⟨q_up_n (show j ≠ k by omega), rfl⟩)).symm
    rw [e]
    by_cases q : stv (S 79 k) = stv (M0 79 k)
    · rw [if_pos q] at r1 ⊢; rw [if_pos q]; exact r1
    · rw [if_neg q] at r1 ⊢; rw [if_neg q]; exact r1
theorem p_changes (hN : 5000 ≤ N) (h : Rel X M) : PB (f_X9_changes N X) (f_X10_changes N M) := by
  obtain ⟨X1, x1, x2⟩ := x_takeUp (N := N) (X := X)
  obtain ⟨M1, y1, y2, y3⟩ := m_minds (N := N) (M := M) (by omega)
  obtain ⟨tx, n, hR, hS⟩ := RD.of h.1 x2 y3
  obtain ⟨X2, M2, g1, g2, g3, g4, g5, g6⟩ := t_go hN hR
  obtain ⟨s1, ⟨s2, s3, s4⟩, ⟨s5, s6, s7, s8⟩, s9, s10, s11, s12, s13⟩ := hS
  have hx : ∀ o, o < 29 ∨ 49 ≤ o → X2 o = X o := fun o ho => by rw [g5.1 o ho]; exact x2.2.2.2 o ho
  have hK := y2.fm g6
  have hC := g4.2.2.2.2.2.2
  have hC0 : RCa (X 11) (X 12) (X 13) (M 79) (M 80) (M 81) := s10
  have h7 : M2 65 7 = nI (ns tx n) := by rw [hK.2.1 7 (by omega)]; exact s7
  obtain ⟨M3, r1, r2⟩ := m_chg (N := N) (by omega) s1.2.2.2 (ns tx n) 0 N 0 M2 (by omega) (by have := s1.2.2.2; omega) h7 hK
  have e1 := x_chg (N := N) (S := X2) (fun k hk => (hC k hk).2.1) (fun k hk => by rw [hx 11 (by omega)]; exact (hC0 k hk).2.1) 10 0 N 0 (by omega) (by omega)
  have e2 : ch (X2 32) (X2 11) 10 0 0 = ch (M2 79) (M 79) (ns tx n) 0 0 := by
    have h10 := s1.2.2.2
    rw [show 10 = ns tx n + (10 - ns tx n) by omega, ch_add, Nat.zero_add, ch_no (10 - ns tx n) (ns tx n)]
    · exact ch_eq _ _ _ (fun j _ hj => ⟨(hC j (by omega)).1, by rw [hx 11 (by omega)]; exact (hC0 j (by omega)).1⟩)
    · intro j hj1 hj2
      rw [hx 11 (by omega), g5.2.2 j ?_, (x2.2.2.1 j (by omega)).1]
      intro e he he2 hq
      rw [x2.2.2.2 2 (by omega), show X 2 6 = nI (ne tx n) from s2] at he2
      rw [x2.2.2.2 3 (by omega)] at hq
      rw [x2.2.2.2 7 (by omega)]
      have hn40 := s1.2.2.1
      have hez : e < ne tx n := by
        rcases Nat.lt_or_ge e (ne tx n) with q | q
        · exact q
        · exact absurd he2 (Int32.not_lt.mpr (nI_le q (by omega)))
      obtain ⟨s, hs, es⟩ := site_lt (sg := X 3) (si := X 7) s4 hez hq
      rw [es]
      intro q
      have := (nI_eq (by omega) (by omega)).mp q
      omega
  unfold f_X9_changes f_X10_changes f_X9_thinkOf
  rw [x1, q_bv, g1, q_bv, q_bv, y1, q_bv, g2, q_bv]
  have e1' : f_X9_changes_9 N N 0 0 X2 = _ := e1
  have r1' : f_X10_changes_12 N N 0 0 M2 = _ := r1
  rw [e1', r1', e2]
  exact ⟨_, X2, M3, rfl, rfl, h.fr (x2.fy.fx g5) r2⟩
/-- judge -/
theorem l_judge (hN : 5000 ≤ N) {X0 M0 : St} {R : Nat} (hR : R ≤ 16) (h0 : RN X0 M0) (hx7 : X0 0 7 = nI R) (hrow : ∀ j, j < R → X0 62 j = M0 100 j) (hfin : ∀ X M, FY X0 X → FT M0 M → Rel (z_wr X 0 7 0) M) : ∀ (w k f f' : Nat) (X M : St), k + w = R → w < f → w < f' → FY X0 X → FT M0 M → PB (f_X9_judge_5 N f (-9) (nI k) X) (f_X10_judge_12 N f' (nI R) (nI k) M) := by
  intro w
  induction w with
  | zero =>
    intro k f f' X M hk hf hf' hX hM
    obtain ⟨f, rfl⟩ : ∃ g, f = g + 1 := ⟨f - 1, by omega⟩
    obtain ⟨f', rfl⟩ : ∃ g, f' = g + 1 := ⟨f' - 1, by omega⟩
    show PB (b_X9_judge_5 N (f_X9_judge_5 N f) _ _ X) (b_X10_judge_12 N (f_X10_judge_12 N f') _ _ M)
    unfold b_X9_judge_5 b_X10_judge_12
    have hle : nI R ≤ nI k := nI_le (by omega) (by omega)
    rw [show X 0 7 = nI R by rw [hX 0 (by omega)]; exact hx7, if_pos hle, if_pos hle, q_lt]
    exact ⟨_, _, M, rfl, rfl, hfin X M hX hM⟩
  | succ w ih =>
    intro k f f' X M hk hf hf' hX hM
    obtain ⟨f, rfl⟩ : ∃ g, f = g + 1 := ⟨f - 1, by omega⟩
    obtain ⟨f', rfl⟩ : ∃ g, f' = g + 1 := ⟨f' - 1, by omega⟩
    have hle : ¬ nI R ≤ nI k := nI_ge (by omega) (by omega)
    have hk99 : -9999 ≤ nI k ∧ nI k ≤ 9999 := by
      have d : ∀ k, k < 16 → -9999 ≤ nI k ∧ nI k ≤ 9999 := by decide +kernel
      exact d k (by omega)
    obtain ⟨X', M', r1, r2, r3, r4, r5⟩ := t_with hN (h0.fr hX hM) (v := 0) (by omega) hk99
    have hX' := hX.tr r4
    have hM' := hM.tr r5
    have e62 : X' 62 k = M' 100 k := by rw [hX' 62 (by omega), hM'.1 100 (by omega)]; exact hrow k (by omega)
    have stop : ∃ X'', f_X9_judge_5 N f (nI k) (nI (k + 1)) X' = some (nI k, X'') ∧ Rel X'' M' := by
      obtain ⟨f, rfl⟩ : ∃ g, f = g + 1 := ⟨f - 1, by omega⟩
      refine ⟨z_wr X' 0 7 0, ?_, hfin X' M' hX' hM'⟩
      show b_X9_judge_5 N (f_X9_judge_5 N f) _ _ X' = _
      unfold b_X9_judge_5
      have n9 : ¬ nI k = -9 := by
        have d : ∀ k, k < 16 → ¬ nI k = -9 := by decide +kernel
        exact d k (by omega)
      by_cases q : X' 0 7 ≤ nI (k + 1)
      · rw [if_pos q, q_lt]
      · rw [if_neg q, if_neg n9, q_lt]
    obtain ⟨X'', st1, st2⟩ := stop
    show PB (b_X9_judge_5 N (f_X9_judge_5 N f) _ _ X) (b_X10_judge_12 N (f_X10_judge_12 N f') _ _ M)
    unfold b_X9_judge_5 b_X10_judge_12 b_X9_judge_41 f_X2_isNumber
    have r1' : f_X9_thinkWith N 0 (nI k) X = some X' := r1
    have r2' : f_X10_goesWith N 0 (nI k) M = some M' := r2
    rw [show X 0 7 = nI R by rw [hX 0 (by omega)]; exact hx7, if_neg hle, if_neg hle, if_pos rfl, r1', q_bv, x_at (show k < z_ln 62 from (show k < 16 by omega)), q_bd, r2', q_bv, r3.2.2.2.1, q_bd, nI_1]
    by_cases q : X' 35 0 = 0
    · rw [if_pos q, if_pos q, r3.2.2.2.2.1, q_bd, q_gd (q_inl (show k < z_ln 100 from (show k < 16 by omega))), nI_clamp (by omega), ← e62]
      by_cases q2 : X' 35 1 = X' 62 k
      · rw [if_pos q2, if_pos q2, q_bd, if_neg q_10]
        exact ih (k + 1) f f' X' M' (by omega) (by omega) (by omega) hX' hM'
      · rw [if_neg q2, if_neg q2, q_bd, if_pos rfl, st1]
        exact ⟨_, X'', M', rfl, rfl, st2⟩
    · rw [if_neg q, if_neg q, q_bd, if_pos rfl, st1]
      exact ⟨_, X'', M', rfl, rfl, st2⟩
theorem p_judge (hN : 5000 ≤ N) (h : Rel X M) : PB (f_X9_judge N X) (f_X10_judge N M) := by
  obtain ⟨R, w1, w2, w3, w4⟩ := h.2.2.1
  unfold f_X9_judge f_X10_judge
  rw [q_lt, w3]
  refine l_judge hN (X0 := X) (M0 := z_wr M 65 69 0) w1 (h.1.eq (fun o ho => rfl) (fun o ho => z_wr_o (by omega)) (fun k hk => z_wr_k (by omega))) w2 w4 ?_ R 0 N N X (z_wr M 65 69 0) (by omega) (by omega) (by omega) FY.rf FT.rf
  intro X' M' hX hM
  have hX2 : FY (z_wr X 0 7 0) (z_wr X' 0 7 0) := by
    intro o ho
    by_cases q : o = 0
    · subst q
      funext k
      by_cases q2 : k = 7
      · subst q2; rfl
      · rw [z_wr_k q2, z_wr_k q2, hX 0 (by omega)]
    · rw [z_wr_o q, z_wr_o q]; exact hX o ho
  exact h.row0.fr hX2 hM
end
