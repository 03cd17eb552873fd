/-! a run in mind -/
section
variable {N : Nat}
theorem z_cp_s {S : St} {a b n k : Nat} (h : k < n) : z_cp S a b n b k = S a k := by unfold z_cp; rw [if_pos rfl, if_pos h]
theorem z_cp_o {S : St} {a b n o : Nat} (h : o ≠ b) : z_cp S a b n o = S o := by funext k; unfold z_cp; rw [if_neg h]
theorem x_cp {S : St} {a b n : Nat} (ha : z_ln a = n) (hb : z_ln b = n) : f_X9_copyRow N a b S = some (z_cp S a b n) := by
  have hn := q_ln a
  unfold f_X9_copyRow
  have hl : ¬ nI n < nI n := fun q => Int32.lt_irrefl q
  have hc : (nI n).toNatClampNeg = n := nI_clamp (by omega)
  rw [ha, hb]
  simp only [if_neg hl, hc]
  rw [q_gd ⟨nI_pos (by omega), Nat.le_refl _, Nat.le_refl _⟩]
  rfl
/-- the class takes its situation up -/
def TK (X X1 : St) : Prop := X1 29 6 = 1 ∧ (∀ v, v < 6 → X1 30 v = X 9 v) ∧ (∀ k, k < 10 → X1 32 k = X 11 k ∧ X1 33 k = X 12 k ∧ X1 34 k = X 13 k) ∧ ∀ o, o < 29 ∨ 49 ≤ o → X1 o = X o
theorem x_takeUp {X : St} : ∃ X1, f_X4_takeUp N X = some X1 ∧ TK X X1 := by
  unfold f_X4_takeUp
  rw [q_lt, x_cp (n := 6) rfl rfl, q_bv]
  unfold f_X0_copyFrom
  rw [show z_rfS 10 0 = 11 from rfl, show z_rfS 31 0 = 32 from rfl, show z_rfS 10 1 = 12 from rfl, show z_rfS 31 1 = 33 from rfl, show z_rfS 10 2 = 13 from rfl, show z_rfS 31 2 = 34 from rfl, x_cp (n := 10) rfl rfl, q_bv, x_cp (n := 10) rfl rfl, q_bv, x_cp (n := 10) rfl rfl, q_bv, q_bv]
  refine ⟨_, rfl, ?_, fun v hv => ?_, fun k hk => ⟨?_, ?_, ?_⟩, fun o ho => ?_⟩
  · rw [z_cp_o (by omega), z_cp_o (by omega), z_cp_o (by omega), z_cp_o (by omega)]; rfl
  · rw [z_cp_o (by omega), z_cp_o (by omega), z_cp_o (by omega), z_cp_s hv]; rfl
  · rw [z_cp_o (by omega), z_cp_o (by omega), z_cp_s hk, z_cp_o (by omega)]; rfl
  · rw [z_cp_o (by omega), z_cp_s hk, z_cp_o (by omega), z_cp_o (by omega)]; rfl
  · rw [z_cp_s hk, z_cp_o (by omega), z_cp_o (by omega), z_cp_o (by omega)]; rfl
  · rw [z_cp_o (by omega), z_cp_o (by omega), z_cp_o (by omega), z_cp_o (by omega), z_wr_o (by omega)]
theorem q_6 (k : Nat) : (6 : Int32) + nI k = nI (6 + k) := by rw [q_lit, nI_add]
theorem q_16 (k : Nat) : (16 : Int32) + nI k = nI (16 + k) := by rw [q_lit, nI_add]
theorem q_26 (k : Nat) : (26 : Int32) + nI k = nI (26 + k) := by rw [q_lit, nI_add]
/-- the reference minds its own -/
theorem m_minds2 : ∀ (w k f : Nat) (M : St), k + w = 10 → w < f → (∀ j, j < k → M 99 (6 + j) = M 79 j ∧ M 99 (16 + j) = M 80 j ∧ M 99 (26 + j) = M 81 j) → ∃ M1, f_X10_minds_28 N f (nI k) M = some M1 ∧ (∀ o, o ≠ 99 → M1 o = M o) ∧ (∀ i, i < 6 → M1 99 i = M 99 i) ∧ ∀ j, j < 10 → M1 99 (6 + j) = M 79 j ∧ M1 99 (16 + j) = M 80 j ∧ M1 99 (26 + j) = M 81 j := by
  intro w
  induction w with
  | zero =>
    intro k f M hk hf h
    obtain ⟨f, rfl⟩ : ∃ g, f = g + 1 := ⟨f - 1, by omega⟩
    refine ⟨M, ?_, fun _ _ => rfl, fun _ _ => rfl, fun j hj => h j (by omega)⟩
    show b_X10_minds_28 N (f_X10_minds_28 N f) (nI k) M = _
    unfold b_X10_minds_28
    rw [show k = 10 by omega, if_pos (by decide)]
  | succ w ih =>
    intro k f M hk hf h
    obtain ⟨f, rfl⟩ : ∃ g, f = g + 1 := ⟨f - 1, by omega⟩
    show ∃ M1, b_X10_minds_28 N (f_X10_minds_28 N f) (nI k) M = some M1 ∧ _
    unfold b_X10_minds_28
    rw [if_neg (show ¬ (10 : Int32) ≤ nI k from (show ¬ nI 10 ≤ nI k from nI_ge (by omega) (by omega))), q_6, q_16, q_26]
    have c1 : (nI k).toNatClampNeg = k := nI_clamp (by omega)
    have c2 : (nI (6 + k)).toNatClampNeg = 6 + k := nI_clamp (by omega)
    have c3 : (nI (16 + k)).toNatClampNeg = 16 + k := nI_clamp (by omega)
    have c4 : (nI (26 + k)).toNatClampNeg = 26 + k := nI_clamp (by omega)
    simp only [c1, c2, c3, c4]
    rw [q_gd (q_inl (show k < z_ln 79 from (show k < 10 by omega))), q_gd (q_inl (show 6 + k < z_ln 99 from (show 6 + k < 36 by omega))), q_lt, q_gd (q_inl (show k < z_ln 80 from (show k < 10 by omega))), q_gd (q_inl (show 16 + k < z_ln 99 from (show 16 + k < 36 by omega))), q_lt, q_gd (q_inl (show k < z_ln 81 from (show k < 10 by omega))), q_gd (q_inl (show 26 + k < z_ln 99 from (show 26 + k < 36 by omega))), q_lt, nI_1]
    rw [show (z_wr M 99 (6 + k) (M 79 k)) 80 k = M 80 k from rfl, show (z_wr (z_wr M 99 (6 + k) (M 79 k)) 99 (16 + k) (M 80 k)) 81 k = M 81 k from rfl]
    have hu : ∀ i, (z_wr (z_wr (z_wr M 99 (6 + k) (M 79 k)) 99 (16 + k) (M 80 k)) 99 (26 + k) (M 81 k)) 99 i = q_up (q_up (q_up (M 99) (6 + k) (M 79 k)) (16 + k) (M 80 k)) (26 + k) (M 81 k) i := fun _ => rfl
    obtain ⟨M1, r1, r2, r3, r4⟩ := ih (k + 1) f (z_wr (z_wr (z_wr M 99 (6 + k) (M 79 k)) 99 (16 + k) (M 80 k)) 99 (26 + k) (M 81 k)) (by omega) (by omega) (by
      intro j hj
      rw [hu, hu, hu]
      show _ = M 79 j ∧ _ = M 80 j ∧ _ = M 81 j
      by_cases q : j = k
      · subst q
        refine ⟨?_, ?_, q_up_s⟩
        · rw [q_up_n (by omega), q_up_n (by omega), q_up_s]
        · rw [q_up_n (by omega), q_up_s]
      · obtain ⟨g1, g2, g3⟩ := h j (by omega)
        rw [q_up_n (by omega), q_up_n (by omega), q_up_n (by omega), q_up_n (by omega), q_up_n (by omega), q_up_n (by omega), q_up_n (by omega), q_up_n (by omega), q_up_n (by omega)]
        exact ⟨g1, g2, g3⟩)
    refine ⟨M1, r1, fun o ho => ?_, fun i hi => ?_, r4⟩
    · rw [r2 o ho, z_wr_o ho, z_wr_o ho, z_wr_o ho]
    · rw [r3 i hi, hu, q_up_n (by omega), q_up_n (by omega), q_up_n (by omega)]
theorem m_minds1 : ∀ (w v f : Nat) (M : St), v + w = 6 → w < f → (∀ j, j < v → M 99 j = M 78 j) → ∃ M1, f_X10_minds_2 N f (nI v) M = f_X10_minds_28 N N 0 M1 ∧ (∀ o, o ≠ 99 → M1 o = M o) ∧ ∀ j, j < 6 → M1 99 j = M 78 j := by
  intro w
  induction w with
  | zero =>
    intro k f M hk hf h
    obtain ⟨f, rfl⟩ : ∃ g, f = g + 1 := ⟨f - 1, by omega⟩
    refine ⟨M, ?_, fun _ _ => rfl, fun j hj => h j (by omega)⟩
    show b_X10_minds_2 N (f_X10_minds_2 N f) (nI k) M = _
    unfold b_X10_minds_2
    rw [show k = 6 by omega, if_pos (by decide)]
  | succ w ih =>
    intro k f M hk hf h
    obtain ⟨f, rfl⟩ : ∃ g, f = g + 1 := ⟨f - 1, by omega⟩
    show ∃ M1, b_X10_minds_2 N (f_X10_minds_2 N f) (nI k) M = _ ∧ _
    unfold b_X10_minds_2
    have c1 : (nI k).toNatClampNeg = k := nI_clamp (by omega)
    rw [if_neg (show ¬ (6 : Int32) ≤ nI k from (show ¬ nI 6 ≤ nI k from nI_ge (by omega) (by omega)))]
    simp only [c1]
    rw [q_gd (q_inl (show k < z_ln 78 from (show k < 6 by omega))), q_gd (q_inl (show k < z_ln 99 from (show k < 36 by omega))), q_lt, nI_1]
    obtain ⟨M1, r1, r2, r3⟩ := ih (k + 1) f (z_wr M 99 k (M 78 k)) (by omega) (by omega) (by
      intro j hj
      show q_up (M 99) k (M 78 k) j = M 78 j
      by_cases q : j = k
      · subst q; exact q_up_s
      · rw [q_up_n q]; exact h j (by omega))
    exact ⟨M1, r1, fun o ho => by rw [r2 o ho, z_wr_o ho], r3⟩
/-- M has M0 in mind -/
def MK (M0 M : St) : Prop := (∀ o, (66 ≤ o ∧ o ≤ 77) ∨ o = 82 ∨ 100 ≤ o → M o = M0 o) ∧ (∀ k, k < 46 ∨ k = 69 ∨ k = 72 → M 65 k = M0 65 k) ∧ (∀ v, v < 6 → M 99 v = M0 78 v) ∧ ∀ k, k < 10 → M 99 (6 + k) = M0 79 k ∧ M 99 (16 + k) = M0 80 k ∧ M 99 (26 + k) = M0 81 k
theorem m_minds (hN : 1000 ≤ N) {M : St} : ∃ M1, f_X10_minds N M = some M1 ∧ MK M M1 ∧ ∀ o, o ≠ 99 → M1 o = M o := by
  unfold f_X10_minds
  obtain ⟨M1, r1, r2, r3⟩ := m_minds1 (N := N) 6 0 N M (by omega) (by omega) (fun j hj => absurd hj (Nat.not_lt_zero _))
  obtain ⟨M2, s1, s2, s3, s4⟩ := m_minds2 (N := N) 10 0 N M1 (by omega) (by omega) (fun j hj => absurd hj (Nat.not_lt_zero _))
  have e : ∀ o, o ≠ 99 → M2 o = M o := fun o ho => by rw [s2 o ho, r2 o ho]
  refine ⟨M2, r1.trans s1, ⟨fun o ho => e o (by omega), fun k _ => by rw [e 65 (by omega)], fun v hv => by rw [s3 v hv]; exact r3 v hv, fun k hk => ?_⟩, e⟩
  have := s4 k hk
  rw [r2 79 (by omega), r2 80 (by omega), r2 81 (by omega)] at this
  exact this
/-- and takes it back -/
theorem m_forg2 : ∀ (w k f : Nat) (M : St), k + w = 10 → w < f → (∀ j, j < k → M 79 j = M 99 (6 + j) ∧ M 80 j = M 99 (16 + j) ∧ M 81 j = M 99 (26 + j)) → ∃ M1, f_X10_forgets_28 N f (nI k) M = some M1 ∧ (∀ o, o < 79 ∨ 81 < o → M1 o = M o) ∧ ∀ j, j < 10 → M1 79 j = M 99 (6 + j) ∧ M1 80 j = M 99 (16 + j) ∧ M1 81 j = M 99 (26 + j) := by
  intro w
  induction w with
  | zero =>
    intro k f M hk hf h
    obtain ⟨f, rfl⟩ : ∃ g, f = g + 1 := ⟨f - 1, by omega⟩
    refine ⟨M, ?_, fun _ _ => rfl, fun j hj => h j (by omega)⟩
    show b_X10_forgets_28 N (f_X10_forgets_28 N f) (nI k) M = _
    unfold b_X10_forgets_28
    rw [show k = 10 by omega, if_pos (by decide)]
  | succ w ih =>
    intro k f M hk hf h
    obtain ⟨f, rfl⟩ : ∃ g, f = g + 1 := ⟨f - 1, by omega⟩
    show ∃ M1, b_X10_forgets_28 N (f_X10_forgets_28 N f) (nI k) M = some M1 ∧ _
    unfold b_X10_forgets_28
    rw [if_neg (show ¬ (10 : Int32) ≤ nI k from (show ¬ nI 10 ≤ nI k from nI_ge (by omega) (by omega))), q_6, q_16, q_26]
    have c1 : (nI k).toNatClampNeg = k := nI_clamp (by omega)
    have c2 : (nI (6 + k)).toNatClampNeg = 6 + k := nI_clamp (by omega)
    have c3 : (nI (16 + k)).toNatClampNeg = 16 + k := nI_clamp (by omega)
    have c4 : (nI (26 + k)).toNatClampNeg = 26 + k := nI_clamp (by omega)
    simp only [c1, c2, c3, c4]
    rw [q_gd (q_inl (show 6 + k < z_ln 99 from (show 6 + k < 36 by omega))), q_gd (q_inl (show k < z_ln 79 from (show k < 10 by omega))), q_lt, q_gd (q_inl (show 16 + k < z_ln 99 from (show 16 + k < 36 by omega))), q_gd (q_inl (show k < z_ln 80 from (show k < 10 by omega))), q_lt, q_gd (q_inl (show 26 + k < z_ln 99 from (show 26 + k < 36 by omega))), q_gd (q_inl (show k < z_ln 81 from (show k < 10 by omega))), q_lt, nI_1]
    rw [show (z_wr M 79 k (M 99 (6 + k))) 99 (16 + k) = M 99 (16 + k) from rfl, show (z_wr (z_wr M 79 k (M 99 (6 + k))) 80 k (M 99 (16 + k))) 99 (26 + k) = M 99 (26 + k) from rfl]
    obtain ⟨M1, r1, r2, r3⟩ := ih (k + 1) f (z_wr (z_wr (z_wr M 79 k (M 99 (6 + k))) 80 k (M 99 (16 + k))) 81 k (M 99 (26 + k))) (by omega) (by omega) (by
      intro j hj
      show q_up (M 79) k _ j = M 99 (6 + j) ∧ q_up (M 80) k _ j = M 99 (16 + j) ∧ q_up (M 81) k _ j = M 99 (26 + j)
      by_cases q : j = k
      · subst q; exact ⟨q_up_s, q_up_s, q_up_s⟩
      · rw [q_up_n q, q_up_n q, q_up_n q]; exact h j (by omega))
    exact ⟨M1, r1, fun o ho => by rw [r2 o ho, z_wr_o (by omega), z_wr_o (by omega), z_wr_o (by omega)], r3⟩
theorem m_forg1 : ∀ (w v f : Nat) (M : St), v + w = 6 → w < f → (∀ j, j < v → M 78 j = M 99 j) → ∃ M1, f_X10_forgets_2 N f (nI v) M = f_X10_forgets_28 N N 0 M1 ∧ (∀ o, o ≠ 78 → M1 o = M o) ∧ ∀ j, j < 6 → M1 78 j = M 99 j := by
  intro w
  induction w with
  | zero =>
    intro k f M hk hf h
    obtain ⟨f, rfl⟩ : ∃ g, f = g + 1 := ⟨f - 1, by omega⟩
    refine ⟨M, ?_, fun _ _ => rfl, fun j hj => h j (by omega)⟩
    show b_X10_forgets_2 N (f_X10_forgets_2 N f) (nI k) M = _
    unfold b_X10_forgets_2
    rw [show k = 6 by omega, if_pos (by decide)]
  | succ w ih =>
    intro k f M hk hf h
    obtain ⟨f, rfl⟩ : ∃ g, f = g + 1 := ⟨f - 1, by omega⟩
    show ∃ M1, b_X10_forgets_2 N (f_X10_forgets_2 N f) (nI k) M = _ ∧ _
    unfold b_X10_forgets_2
    have c1 : (nI k).toNatClampNeg = k := nI_clamp (by omega)
    rw [if_neg (show ¬ (6 : Int32) ≤ nI k from (show ¬ nI 6 ≤ nI k from nI_ge (by omega) (by omega)))]
    simp only [c1]
    rw [q_gd (q_inl (show k < z_ln 99 from (show k < 36 by omega))), q_gd (q_inl (show k < z_ln 78 from (show k < 6 by omega))), q_lt, nI_1]
    obtain ⟨M1, r1, r2, r3⟩ := ih (k + 1) f (z_wr M 78 k (M 99 k)) (by omega) (by omega) (by
      intro j hj
      show q_up (M 78) k (M 99 k) j = M 99 j
      by_cases q : j = k
      · subst q; exact q_up_s
      · rw [q_up_n q]; exact h j (by omega))
    exact ⟨M1, r1, fun o ho => by rw [r2 o ho, z_wr_o ho], r3⟩
theorem m_forgets (hN : 1000 ≤ N) {M0 M : St} (h : MK M0 M) : ∃ M1, f_X10_forgets N M = some M1 ∧ FT M0 M1 ∧ ∀ o, o < 78 ∨ 81 < o → M1 o = M o := by
  unfold f_X10_forgets
  obtain ⟨M1, r1, r2, r3⟩ := m_forg1 (N := N) 6 0 N M (by omega) (by omega) (fun j hj => absurd hj (Nat.not_lt_zero _))
  obtain ⟨M2, s1, s2, s3⟩ := m_forg2 (N := N) 10 0 N M1 (by omega) (by omega) (fun j hj => absurd hj (Nat.not_lt_zero _))
  have e : ∀ o, o < 78 ∨ 81 < o → M2 o = M o := fun o ho => by rw [s2 o (by omega), r2 o (by omega)]
  obtain ⟨h1, h2, h3, h4⟩ := h
  refine ⟨M2, r1.trans s1, ⟨fun o ho => by rw [e o (by omega)]; exact h1 o ho, fun k hk => by rw [e 65 (by omega)]; exact h2 k hk, fun v hv => ?_, fun k hk => ?_⟩, e⟩
  · rw [s2 78 (by omega), r3 v hv]; exact h3 v hv
  · have := s3 k hk
    rw [r2 99 (by omega)] at this
    obtain ⟨g1, g2, g3⟩ := this
    obtain ⟨k1, k2, k3⟩ := h4 k hk
    exact ⟨g1.trans k1, g2.trans k2, g3.trans k3⟩
theorem MK.fm {M0 M M' : St} (h : MK M0 M) (g : FM M M') : MK M0 M' := by
  obtain ⟨h1, h2, h3, h4⟩ := h
  refine ⟨fun o ho => by rw [g.1 o (by omega)]; exact h1 o ho, fun k hk => by rw [g.2 k (by omega)]; exact h2 k hk, fun v hv => by rw [g.1 99 (by omega)]; exact h3 v hv, fun k hk => by rw [g.1 99 (by omega)]; exact h4 k hk⟩
theorem MK.wr {M0 M : St} {k : Nat} {v : Int32} (h : MK M0 M) : MK M0 (z_wr M 78 k v) := by
  obtain ⟨h1, h2, h3, h4⟩ := h
  exact ⟨fun o ho => by rw [z_wr_o (by omega)]; exact h1 o ho, h2, h3, h4⟩
theorem MK.ws {M0 M : St} {k : Nat} {v : Int32} (h : MK M0 M) : MK M0 (z_wr M 79 k v) := by
  obtain ⟨h1, h2, h3, h4⟩ := h
  exact ⟨fun o ho => by rw [z_wr_o (by omega)]; exact h1 o ho, h2, h3, h4⟩
theorem MK.wl {M0 M : St} {v : Int32} (h : MK M0 M) : MK M0 (z_wr M 65 70 v) := by
  obtain ⟨h1, h2, h3, h4⟩ := h
  exact ⟨fun o ho => by rw [z_wr_o (by omega)]; exact h1 o ho, fun k hk => by rw [z_wr_k (by omega)]; exact h2 k hk, h3, h4⟩
/-- ready for a run -/
def RD (tx : Nat → Int32) (n : Nat) (X M : St) : Prop := X 29 6 = 1 ∧ (okn tx n ∧ n ≤ 96 ∧ ne tx n ≤ 40 ∧ ns tx n ≤ 10) ∧ (X 2 6 = nI (ne tx n) ∧ ∀ k, k < n → WK tx (X 3) (X 4) (X 5) (X 6) (X 7) (X 8) k) ∧ (∀ p, p < n → BK tx (ne tx n) n M p) ∧ M 65 8 = nI (ne tx n - 1) ∧ RGl (X 30) (M 78) ∧ RCa (X 32) (X 33) (X 34) (M 79) (M 80) (M 81)
theorem t_go (hN : 5000 ≤ N) {tx : Nat → Int32} {n : Nat} {X M : St} (h : RD tx n X M) : ∃ X' M', f_X4_perform N X = some X' ∧ f_X10_goes N M = some M' ∧ ER N X' M' ∧ RD tx n X' M' ∧ FX X X' ∧ FM M M' := by
  obtain ⟨h1, h2, ⟨h3, h4⟩, h5, h6, h7, h8⟩ := h
  obtain ⟨pg, e0⟩ := t_PG (X := X) (M := M) h2.1 h2.2.2.1 h2.2.2.2 h3 h4 h5
  obtain ⟨X', M', r1, r2, r3, r4, r5, r6, r7⟩ := t_run (N := N) hN h1 pg h6 e0 h7 h8
  refine ⟨X', M', r1, r2, r3, ⟨r6.2.1.trans h1, h2, ⟨by rw [r6.1 2 (by omega)]; exact h3, ?_⟩, fun p hp => (h5 p hp).eq (fun o ho => r7.1 o (by omega)), by rw [r7.2 8 (by omega)]; exact h6, r4, r5⟩, r6, r7⟩
  rw [r6.1 3 (by omega), r6.1 4 (by omega), r6.1 5 (by omega), r6.1 6 (by omega), r6.1 7 (by omega), r6.1 8 (by omega)]
  exact h4
theorem RD.of {X M X1 M1 : St} (h : RN X M) (k : TK X X1) (e : ∀ o, o ≠ 99 → M1 o = M o) : ∃ tx n, RD tx n X1 M1 ∧ SR tx n (fun o => X (1 + o)) (mL M) := by
  obtain ⟨tx, n, h1, h2, h3⟩ := h
  refine ⟨tx, n, ?_, h1⟩
  obtain ⟨g1, ⟨g2, g3, g4⟩, -, g5, g6, -⟩ := h1
  obtain ⟨k1, k2, k3, k4⟩ := k
  refine ⟨k1, g1, ⟨by rw [k4 2 (by omega)]; exact g2, ?_⟩, fun p hp => (h2 p hp).eq (fun o ho => e o (by omega)), by rw [e 65 (by omega)]; exact h3, fun v hv => ?_, fun k hk => ?_⟩
  · rw [k4 3 (by omega), k4 4 (by omega), k4 5 (by omega), k4 6 (by omega), k4 7 (by omega), k4 8 (by omega)]
    exact g4
  · rw [k2 v hv, e 78 (by omega)]; exact g5 v hv
  · rw [(k3 k hk).1, (k3 k hk).2.1, (k3 k hk).2.2, e 79 (by omega), e 80 (by omega), e 81 (by omega)]; exact g6 k hk
theorem RD.set {tx : Nat → Int32} {n : Nat} {X M : St} (h : RD tx n X M) {v : Nat} {a : Int32} (ha : -9999 ≤ a ∧ a ≤ 9999) : RD tx n (z_wr X 30 v a) (z_wr M 78 v a) := by
  obtain ⟨h1, h2, h3, h4, h5, h6, h7⟩ := h
  refine ⟨h1, h2, h3, h4, h5, fun u hu => ?_, h7⟩
  show q_up (X 30) v a u = q_up (M 78) v a u ∧ -9999 ≤ q_up (X 30) v a u ∧ q_up (X 30) v a u ≤ 9999
  by_cases q : u = v
  · subst q; rw [q_up_s, q_up_s]; exact ⟨rfl, ha⟩
  · rw [q_up_n q, q_up_n q]; exact h6 u hu
/-- how it ended doesn't hang on what is taken back -/
theorem m_how_eq {M M' : St} {r : Int32} (h : f_X10_howNow N M = some (r, M)) (e : ∀ o, o < 78 ∨ 81 < o → M' o = M o) : f_X10_howNow N M' = some (r, M') := by
  unfold f_X10_howNow at h ⊢
  rw [e 65 (by omega), e 83 (by omega)]
  by_cases q : M 65 56 = 2
  · rw [if_pos q] at h ⊢
    rw [(Prod.mk.inj (Option.some.inj h)).1]
  · rw [if_neg q] at h ⊢
    by_cases c : z_in (M 65 60) (z_ln 83)
    · rw [q_gd c] at h ⊢
      rw [(Prod.mk.inj (Option.some.inj h)).1]
    · unfold z_gd at h
      rw [if_neg c] at h
      exact absurd h (by simp)
theorem m_num_eq {M M' : St} {r : Int32} (h : f_X10_numberNow N M = some (r, M)) (e : ∀ o, o < 78 ∨ 81 < o → M' o = M o) : f_X10_numberNow N M' = some (r, M') := by
  unfold f_X10_numberNow at h ⊢
  rw [e 65 (by omega), e 84 (by omega), e 91 (by omega)]
  by_cases q : M 65 56 = 2
  · rw [if_pos q] at h ⊢
    by_cases c : z_in (M 65 61) (z_ln 91)
    · rw [q_gd c] at h ⊢
      rw [(Prod.mk.inj (Option.some.inj h)).1]
    · unfold z_gd at h
      rw [if_neg c] at h
      exact absurd h (by simp)
  · rw [if_neg q] at h ⊢
    by_cases c : z_in (M 65 60) (z_ln 84)
    · rw [q_gd c] at h ⊢
      rw [(Prod.mk.inj (Option.some.inj h)).1]
    · unfold z_gd at h
      rw [if_neg c] at h
      exact absurd h (by simp)
theorem m_cs_eq {M M' : St} (e : ∀ o, o < 78 ∨ 81 < o → M' o = M o) : ∀ (n : Nat) (i v r : Int32), f_X10_causesNow_25 N n i v M = some (r, M) → f_X10_causesNow_25 N n i v M' = some (r, M')
  | 0, i, v, r, h => by
    have : (none : Option (Int32 × St)) = some (r, M) := h
    exact absurd this (by simp)
  | n + 1, i, v, r, h => by
    have h' : b_X10_causesNow_25 N (f_X10_causesNow_25 N n) i v M = some (r, M) := h
    show b_X10_causesNow_25 N (f_X10_causesNow_25 N n) i v M' = some (r, M')
    unfold b_X10_causesNow_25 at h' ⊢
    rw [e 92 (by omega)]
    by_cases q : v < 0
    · rw [if_pos q] at h' ⊢
      rw [(Prod.mk.inj (Option.some.inj h')).1]
    · rw [if_neg q] at h' ⊢
      by_cases c : z_in v (z_ln 92)
      · rw [q_gd c] at h' ⊢
        exact m_cs_eq e n _ _ r h'
      · unfold z_gd at h'
        rw [if_neg c] at h'
        exact absurd h' (by simp)
theorem ER.eq {X M M' : St} (h : ER N X M) (e : ∀ o, o < 78 ∨ 81 < o → M' o = M o) : ER N X M' := by
  obtain ⟨h1, h2, h3, h4, h5, h6, h7⟩ := h
  refine ⟨?_, ?_, ?_, m_how_eq h4 e, m_num_eq h5 e, ?_, ?_⟩
  · rw [e 65 (by omega)]; exact h1
  · rw [e 65 (by omega)]; exact h2
  · rw [e 65 (by omega)]; exact h3
  · unfold f_X10_causesNow b_X10_causesNow_24 at h6 ⊢
    rw [e 65 (by omega), e 92 (by omega)]
    by_cases q : M 65 56 = 2
    · rw [if_pos q] at h6 ⊢
      by_cases c : z_in (M 65 61) (z_ln 92)
      · rw [q_gd c] at h6 ⊢
        exact m_cs_eq e N _ _ _ h6
      · unfold z_gd at h6
        rw [if_neg c] at h6
        exact absurd h6 (by simp)
    · rw [if_neg q] at h6 ⊢
      exact m_cs_eq e N _ _ _ h6
  · rw [e 65 (by omega), e 91 (by omega), e 92 (by omega)]; exact h7
/-- one run in mind, with a number of its own -/
theorem t_with (hN : 5000 ≤ N) {X M : St} (h : RN X M) {v : Nat} {a : Int32} (hv : v < 6) (ha : -9999 ≤ a ∧ a ≤ 9999) : ∃ X' M', f_X9_thinkWith N (nI v) a X = some X' ∧ f_X10_goesWith N (nI v) a M = some M' ∧ ER N X' M' ∧ FY X X' ∧ FT M M' := by
  obtain ⟨X1, x1, x2⟩ := x_takeUp (N := N) (X := X)
  obtain ⟨M1, m1, m2, m3⟩ := m_minds (N := N) (M := M) (by omega)
  obtain ⟨tx, n, hR, -⟩ := RD.of h x2 m3
  obtain ⟨X2, M2, g1, g2, g3, g4, g5, g6⟩ := t_go hN (hR.set (v := v) ha)
  obtain ⟨M3, f1, f2, f3⟩ := m_forgets (N := N) (by omega) (m2.wr.fm g6)
  refine ⟨X2, M3, ?_, ?_, g3.eq f3, fun o ho => ?_, f2⟩
  · unfold f_X9_thinkWith
    rw [x1, q_bv, x_put (show v < z_ln 30 from hv), q_bv, g1, q_bv]
  · unfold f_X10_goesWith
    rw [m1, q_bv, q_gd (q_inl (show v < z_ln 78 from hv)), q_lt, nI_clamp (by omega), g2, q_bv, f1, q_bv]
  · rw [g5.1 o (by omega), z_wr_o (by omega)]; exact x2.2.2.2 o (by omega)
theorem t_of (hN : 5000 ≤ N) {X M : St} (h : RN X M) : ∃ X' M', f_X9_thinkOf N X = some X' ∧ f_X10_goesWith N 0 (M 78 0) M = some M' ∧ ER N X' M' ∧ FY X X' ∧ FT M M' := by
  obtain ⟨X1, x1, x2⟩ := x_takeUp (N := N) (X := X)
  obtain ⟨M1, m1, m2, m3⟩ := m_minds (N := N) (M := M) (by omega)
  obtain ⟨tx, n, hR, -⟩ := RD.of h x2 m3
  have hw : z_wr M1 78 0 (M 78 0) = M1 := by
    funext o k
    rw [q_ap]
    by_cases q : o = 78
    · subst q
      by_cases q2 : k = 0
      · subst q2; rw [if_pos rfl, if_pos rfl, m3 78 (by omega)]
      · rw [if_pos rfl, if_neg q2]
    · rw [if_neg q]
  obtain ⟨X2, M2, g1, g2, g3, g4, g5, g6⟩ := t_go hN hR
  obtain ⟨M3, f1, f2, f3⟩ := m_forgets (N := N) (by omega) (m2.fm g6)
  refine ⟨X2, M3, ?_, ?_, g3.eq f3, fun o ho => ?_, f2⟩
  · unfold f_X9_thinkOf
    rw [x1, q_bv, g1, q_bv]
  · unfold f_X10_goesWith
    rw [m1, q_bv, q_gd (show z_in 0 (z_ln 78) from q_inl (k := 0) (o := 78) (by decide)), q_lt, show ((0 : Int32).toNatClampNeg) = 0 from rfl, hw, g2, q_bv, f1, q_bv]
  · rw [g5.1 o (by omega)]; exact x2.2.2.2 o (by omega)
/-- an ending is told -/
theorem t_tell {X M : St} (h : ER N X M) (a : Int32) : ∃ r, f_X2_tell N 35 a X = some (r, X) ∧ f_X10_endedNow N a M = some (r, M) := by
  obtain ⟨⟨st, h1, h2, h3⟩, h4, h5, h6, h7, h8, h9⟩ := h
  unfold f_X2_tell f_X10_endedNow
  by_cases q0 : a = 0
  · rw [if_pos q0, if_pos q0, h6, q_bd]; exact ⟨_, rfl, rfl⟩
  rw [if_neg q0, if_neg q0]
  by_cases q1 : a = 1
  · rw [if_pos q1, if_pos q1, h7, q_bd]; exact ⟨_, rfl, rfl⟩
  rw [if_neg q1, if_neg q1]
  by_cases q2 : a = 2
  · rw [if_pos q2, if_pos q2, h2, h3]; exact ⟨_, rfl, rfl⟩
  rw [if_neg q2, if_neg q2]
  by_cases q3 : a = 3
  · rw [if_pos q3, if_pos q3, h4]; exact ⟨_, rfl, rfl⟩
  rw [if_neg q3, if_neg q3]
  by_cases q4 : a = 4
  · rw [if_pos q4, if_pos q4, h5]; exact ⟨_, rfl, rfl⟩
  rw [if_neg q4, if_neg q4, h8, q_bd]; exact ⟨_, rfl, rfl⟩
end
