/-! counts; a run that is kept -/
section
variable {N : Nat} {X M : St}
def smr (r : Nat → Int32) : Nat → Nat → Int32 → Int32
  | 0, _, acc => acc
  | w + 1, k, acc => smr r w (k + 1) (acc + r k)
theorem smr_eq {r r' : Nat → Int32} : ∀ (w k : Nat) (acc : Int32), (∀ j, k ≤ j → j < k + w → r' j = r j) → smr r' w k acc = smr r w k acc
  | 0, _, _, _ => rfl
  | w + 1, k, acc, h => by
    show smr r' w (k + 1) (acc + r' k) = smr r w (k + 1) (acc + r k)
    rw [h k (by omega) (by omega)]
    exact smr_eq w (k + 1) _ (fun j h1 h2 => h j (by omega) (by omega))
theorem x_sum {S : St} {o : Nat} (ho : z_ln o = 10) : ∀ (w k f : Nat) (acc : Int32), k + w = 10 → w < f → f_X0_sumOf_10 N o f acc (nI 10) (nI k) S = some (smr (S o) w k acc, S) := by
  intro w
  induction w with
  | zero =>
    intro k f acc hk hf
    obtain ⟨f, rfl⟩ : ∃ g, f = g + 1 := ⟨f - 1, by omega⟩
    show b_X0_sumOf_10 N o (f_X0_sumOf_10 N o f) acc (nI 10) (nI k) S = _
    unfold b_X0_sumOf_10
    rw [show k = 10 by omega, if_pos (by decide)]
    rfl
  | succ w ih =>
    intro k f acc hk hf
    obtain ⟨f, rfl⟩ : ∃ g, f = g + 1 := ⟨f - 1, by omega⟩
    show b_X0_sumOf_10 N o (f_X0_sumOf_10 N o f) acc (nI 10) (nI k) S = _
    unfold b_X0_sumOf_10
    rw [if_neg (nI_ge (by omega) (by omega)), q_gd (q_inl (show k < z_ln o by omega)), nI_clamp (by omega), nI_1, ih (k + 1) f _ (by omega) (by omega)]
    rfl
theorem m_sum {S : St} {o : Nat} (ho : z_ln o = 10) : ∀ (w k f : Nat) (acc : Int32), k + w = 10 → w < f → f_X10_allOf_10 N o f acc (nI 10) (nI k) S = some (smr (S o) w k acc, S) := by
  intro w
  induction w with
  | zero =>
    intro k f acc hk hf
    obtain ⟨f, rfl⟩ : ∃ g, f = g + 1 := ⟨f - 1, by omega⟩
    show b_X10_allOf_10 N o (f_X10_allOf_10 N o f) acc (nI 10) (nI k) S = _
    unfold b_X10_allOf_10
    rw [show k = 10 by omega, if_pos (by decide)]
    rfl
  | succ w ih =>
    intro k f acc hk hf
    obtain ⟨f, rfl⟩ : ∃ g, f = g + 1 := ⟨f - 1, by omega⟩
    show b_X10_allOf_10 N o (f_X10_allOf_10 N o f) acc (nI 10) (nI k) S = _
    unfold b_X10_allOf_10
    rw [if_neg (nI_ge (by omega) (by omega)), q_gd (q_inl (show k < z_ln o by omega)), nI_clamp (by omega), nI_1, ih (k + 1) f _ (by omega) (by omega)]
    rfl
theorem p_count (hN : 5000 ≤ N) {a : Int32} (h : Rel X M) : PB (f_X9_count N a X) (f_X10_count N a M) := by
  obtain ⟨⟨tx, n, g, -, -⟩, ⟨L, l1, l2, l3, l4⟩, ⟨R, r1, r2, r3, r4⟩, h5, h6⟩ := id h
  have hC : RCa (X 11) (X 12) (X 13) (M 79) (M 80) (M 81) := g.2.2.2.2.1
  have hl : LR (X 1) (X 14) (M 82) (mL M 7) := g.2.2.2.2.2.2.1
  obtain ⟨rr, s1, s2, s3⟩ := g.2.2.2.2.2.2.2
  by_cases hI : 11 ≤ a ∧ a ≤ 16
  · obtain ⟨w, hw, hw1, e, e'⟩ : ∃ w, w < 7 ∧ 1 ≤ w ∧ a = nI (10 + w) ∧ a - 10 = nI w := by
      obtain ⟨h1, h2⟩ := hI
      rw [Int32.le_iff_toInt_le] at h1 h2
      have f1 : (11 : Int32).toInt = 11 := rfl
      have f2 : (16 : Int32).toInt = 16 := rfl
      have ha : a = nI (10 + (a.toInt.toNat - 10)) := by
        apply Int32.toInt.inj
        rw [nI_toInt (by omega)]
        omega
      have hw : a.toInt.toNat - 10 < 7 := by omega
      refine ⟨a.toInt.toNat - 10, hw, by omega, ha, ?_⟩
      generalize a.toInt.toNat - 10 = w at ha hw
      rw [ha]
      have d : ∀ w, w < 7 → nI (10 + w) - 10 = nI w := by decide +kernel
      exact d w hw
    have d : ∀ w, w < 7 → 1 ≤ w → ¬ nI (10 + w) = 0 ∧ ¬ nI (10 + w) = 1 ∧ ¬ nI (10 + w) = 2 ∧ ¬ nI (10 + w) = 3 ∧ ¬ nI (10 + w) = 4 ∧ ¬ nI (10 + w) = 5 ∧ ¬ nI (10 + w) = 6 ∧ ¬ nI (10 + w) = 7 ∧ ¬ nI (10 + w) ≤ 10 ∧ nI (10 + w) ≤ 16 := by decide +kernel
    obtain ⟨d0, d1, d2, d3, d4, d5, d6, d7, d8, d9⟩ := d w hw hw1
    rw [← e] at d0 d1 d2 d3 d4 d5 d6 d7 d8 d9
    unfold f_X9_count f_X10_count
    rw [if_neg d0, if_neg d1, if_neg d2, if_neg d3, if_neg d4, if_neg d5, if_neg d6, if_neg d7, if_neg d8, if_pos d9, e', x_at (show w < z_ln 63 from hw), q_bd, m_in1 hI, q_bd, if_neg q_10, q_gd (q_inl (show w < z_ln 66 from hw)), nI_clamp (by omega)]
    exact ⟨_, X, M, rfl, by rw [h5 w hw], h⟩
  · unfold f_X9_count f_X10_count
    rw [m_in0 hI, q_bd, if_pos rfl]
    by_cases a0 : a = 0
    · rw [if_pos a0, if_pos a0]
      exact ⟨_, X, M, rfl, by rw [show M 65 6 = X 2 6 from g.2.2.1.2.1.trans g.2.1.1.symm], h⟩
    rw [if_neg a0, if_neg a0]
    by_cases a1 : a = 1
    · rw [if_pos a1, if_pos a1]
      exact ⟨_, X, M, rfl, by rw [show M 65 7 = X 2 7 from g.2.2.1.2.2.1.trans g.2.1.2.1.symm], h⟩
    rw [if_neg a1, if_neg a1]
    by_cases a2 : a = 2
    · rw [if_pos a2, if_pos a2]
      rcases hl with ⟨q1, q2⟩ | ⟨q1, ⟨w, w1, w2⟩, -⟩
      · rw [if_pos q1, show M 65 29 = -9 from q2, if_neg (show ¬ (0 : Int32) ≤ -9 by decide)]
        exact ⟨_, X, M, rfl, rfl, h⟩
      · rw [q1, if_neg q_10, show M 65 29 = nI w from w2, if_pos (nI_pos' (by omega))]
        exact ⟨_, X, M, rfl, rfl, h⟩
    rw [if_neg a2, if_neg a2]
    have su : ∀ (o o' : Nat), z_ln o = 10 → z_ln o' = 10 → (∀ k, k < 10 → X o k = M o' k) → PB (z_bd (f_X0_sumOf N o X) fun r S => some (r, S)) (z_bd (f_X10_allOf N o' M) fun r S => some (r, S)) := by
      intro o o' ho ho' he
      rw [q_bdi, q_bdi]
      unfold f_X0_sumOf f_X10_allOf
      rw [ho, ho']
      have e1 := x_sum (N := N) (S := X) ho 10 0 N 0 (by omega) (by omega)
      have e2 := m_sum (N := N) (S := M) ho' 10 0 N 0 (by omega) (by omega)
      rw [smr_eq (r := M o') (r' := X o) 10 0 0 (fun j _ hj => he j (by omega))] at e1
      exact ⟨_, X, M, e1, e2, h⟩
    by_cases a3 : a = 3
    · rw [if_pos a3, if_pos a3, q_bdi]
      unfold f_X0_allHits
      exact su 12 80 rfl rfl (fun k hk => (hC k hk).2.2.1)
    rw [if_neg a3, if_neg a3]
    by_cases a4 : a = 4
    · rw [if_pos a4, if_pos a4, q_bdi]
      unfold f_X0_allMisses
      exact su 13 81 rfl rfl (fun k hk => (hC k hk).2.2.2)
    rw [if_neg a4, if_neg a4]
    by_cases a5 : a = 5
    · rw [if_pos a5, if_pos a5]
      exact ⟨_, X, M, rfl, by rw [show M 65 35 = X 1 5 from s3.trans s2.symm], h⟩
    rw [if_neg a5, if_neg a5]
    by_cases a6 : a = 6
    · rw [if_pos a6, if_pos a6]
      exact ⟨_, X, M, rfl, by rw [r3, r2], h⟩
    rw [if_neg a6, if_neg a6]
    by_cases a7 : a = 7
    · rw [if_pos a7, if_pos a7]
      exact ⟨_, X, M, rfl, by rw [l2, l3], h⟩
    rw [if_neg a7, if_neg a7]
    have fin : (if a ≤ 10 then some ((-9 : Int32), X) else if a ≤ 16 then z_bd (f_X9_at N 63 (a - 10) X) fun r19 S18 => some (r19, S18) else some (-9, X)) = some (-9, X) := by
      by_cases q : a ≤ 10
      · rw [if_pos q]
      · rw [if_neg q, if_neg]
        intro q2
        apply hI
        refine ⟨?_, q2⟩
        rw [Int32.le_iff_toInt_le] at q ⊢
        have f1 : (11 : Int32).toInt = 11 := rfl
        have f2 : (10 : Int32).toInt = 10 := rfl
        omega
    rw [fin]
    exact ⟨_, X, M, rfl, rfl, h⟩
/-- the last run is told -/
theorem m_num_g {A B : St} {r : Int32} (h : f_X10_numberNow N A = some (r, A)) (e1 : B 65 56 = A 65 56) (e2 : B 65 60 = A 65 60) (e3 : B 65 61 = A 65 61) (e4 : B 84 = A 84) (e5 : B 91 = A 91) : f_X10_numberNow N B = some (r, B) := by
  unfold f_X10_numberNow at h ⊢
  rw [e1, e2, e3, e4, e5]
  by_cases q : A 65 56 = 2
  · rw [if_pos q] at h ⊢
    by_cases c : z_in (A 65 61) (z_ln 91)
    · rw [q_gd c] at h ⊢
      rw [(Prod.mk.inj (Option.some.inj h)).1]
    · unfold z_gd at h
      rw [if_neg c] at h
      exact absurd h (by simp)
  · rw [if_neg q] at h ⊢
    by_cases c : z_in (A 65 60) (z_ln 84)
    · rw [q_gd c] at h ⊢
      rw [(Prod.mk.inj (Option.some.inj h)).1]
    · unfold z_gd at h
      rw [if_neg c] at h
      exact absurd h (by simp)
theorem m_cs_g {A B : St} (e : B 92 = A 92) : ∀ (n : Nat) (i v r : Int32), f_X10_causesNow_25 N n i v A = some (r, A) → f_X10_causesNow_25 N n i v B = some (r, B)
  | 0, i, v, r, h => by
    have : (none : Option (Int32 × St)) = some (r, A) := h
    exact absurd this (by simp)
  | n + 1, i, v, r, h => by
    have h' : b_X10_causesNow_25 N (f_X10_causesNow_25 N n) i v A = some (r, A) := h
    show b_X10_causesNow_25 N (f_X10_causesNow_25 N n) i v B = some (r, B)
    unfold b_X10_causesNow_25 at h' ⊢
    rw [e]
    by_cases q : v < 0
    · rw [if_pos q] at h' ⊢
      rw [(Prod.mk.inj (Option.some.inj h')).1]
    · rw [if_neg q] at h' ⊢
      by_cases c : z_in v (z_ln 92)
      · rw [q_gd c] at h' ⊢
        exact m_cs_g e n _ _ r h'
      · unfold z_gd at h'
        rw [if_neg c] at h'
        exact absurd h' (by simp)
theorem m_cau_g {A B : St} {r : Int32} (h6 : f_X10_causesNow N A = some (r, A)) (e1 : B 65 56 = A 65 56) (e2 : B 65 61 = A 65 61) (e3 : B 92 = A 92) : f_X10_causesNow N B = some (r, B) := by
  unfold f_X10_causesNow b_X10_causesNow_24 at h6 ⊢
  rw [e1, e2, e3]
  by_cases q : A 65 56 = 2
  · rw [if_pos q] at h6 ⊢
    by_cases c : z_in (A 65 61) (z_ln 92)
    · rw [q_gd c] at h6 ⊢
      exact m_cs_g e3 N _ _ _ h6
    · unfold z_gd at h6
      rw [if_neg c] at h6
      exact absurd h6 (by simp)
  · rw [if_neg q] at h6 ⊢
    exact m_cs_g e3 N _ _ _ h6
theorem m_codes {lc : Int32} : ∀ (ca f0 i g : Nat) (M : St), chn (M 91) (M 92) lc ca f0 → f0 < 1000 → i + ca < 460 → ca + 1 < g → ∃ M', f_X10_tellsLast_68 N g (nI i) (nI f0) M = some M' ∧ (∀ j, j < ca → M' 82 (i + j) = 7) ∧ M' 82 (i + ca) = lc ∧ (∀ o, o ≠ 82 → M' o = M o) ∧ ∀ j, j < i → M' 82 j = M 82 j := by
  intro ca
  induction ca with
  | zero =>
    intro f0 i g M h hf hi hg
    obtain ⟨g, rfl⟩ : ∃ k, g = k + 2 := ⟨g - 2, by omega⟩
    show ∃ M', b_X10_tellsLast_68 N (f_X10_tellsLast_68 N (g + 1)) (nI i) (nI f0) M = some M' ∧ _
    unfold b_X10_tellsLast_68
    have c1 : (nI f0).toNatClampNeg = f0 := nI_clamp (by omega)
    have c2 : (nI i).toNatClampNeg = i := nI_clamp (by omega)
    simp only [c1, c2]
    rw [if_neg (nI_pos (by omega)), q_gd (q_inl (show f0 < z_ln 91 from hf)), q_gd (q_inl (show i < z_ln 82 from (show i < 460 by omega))), q_lt, q_gd (q_inl (show f0 < z_ln 92 from hf)), show (z_wr M 82 i (M 91 f0)) 92 f0 = -9 from h.2]
    show ∃ M', b_X10_tellsLast_68 N (f_X10_tellsLast_68 N g) _ _ _ = some M' ∧ _
    unfold b_X10_tellsLast_68
    rw [if_pos (by decide)]
    exact ⟨_, rfl, fun j hj => absurd hj (Nat.not_lt_zero _), q_up_s.trans h.1, fun o ho => z_wr_o ho, fun j hj => q_up_l hj⟩
  | succ ca ih =>
    intro f0 i g M h hf hi hg
    obtain ⟨h1, k, hk, h2, h3⟩ := h
    obtain ⟨g, rfl⟩ : ∃ k, g = k + 1 := ⟨g - 1, by omega⟩
    show ∃ M', b_X10_tellsLast_68 N (f_X10_tellsLast_68 N g) (nI i) (nI f0) M = some M' ∧ _
    unfold b_X10_tellsLast_68
    have c1 : (nI f0).toNatClampNeg = f0 := nI_clamp (by omega)
    have c2 : (nI i).toNatClampNeg = i := nI_clamp (by omega)
    simp only [c1, c2]
    rw [if_neg (nI_pos (by omega)), q_gd (q_inl (show f0 < z_ln 91 from hf)), q_gd (q_inl (show i < z_ln 82 from (show i < 460 by omega))), q_lt, q_gd (q_inl (show f0 < z_ln 92 from hf)), show (z_wr M 82 i (M 91 f0)) 92 f0 = nI k from h2, nI_1]
    obtain ⟨M', r1, r2, r3, r4, r5⟩ := ih k (i + 1) g (z_wr M 82 i (M 91 f0)) h3 (by omega) (by omega) (by omega)
    refine ⟨M', r1, fun j hj => ?_, by rw [← r3]; congr 1; omega, fun o ho => by rw [r4 o ho, z_wr_o ho], fun j hj => by rw [r5 j (by omega)]; exact q_up_l hj⟩
    cases j with
    | zero =>
      rw [Nat.add_zero, r5 i (by omega)]
      exact q_up_s.trans h1
    | succ j =>
      rw [← r2 j (by omega)]
      congr 1
      omega
theorem m_tells (hN : 5000 ≤ N) {A B : St} (h : ER N A B) : ∃ M', f_X10_tellsLast N B = some M' ∧ M' 65 29 = A 35 0 ∧ M' 65 30 = A 35 1 ∧ M' 65 31 = A 35 2 ∧ M' 65 32 = A 35 3 ∧ M' 65 33 = A 35 4 ∧ M' 65 34 = A 35 5 ∧ (∃ w, w < 4 ∧ A 35 0 = nI w) ∧ (A 35 0 = 3 → ∃ ca, ca < 450 ∧ A 35 5 = nI ca ∧ (∀ i, i < ca → M' 82 i = 7) ∧ M' 82 ca = A 35 6) ∧ (∀ o, o ≠ 65 ∧ o ≠ 82 → M' o = B o) ∧ ∀ k, k < 29 ∨ 34 < k → M' 65 k = B 65 k := by
  obtain ⟨⟨st, h1, h2, h3⟩, h4, h5, h6, h7, h8, h9⟩ := h
  unfold f_X10_tellsLast b_X10_tellsLast_67
  rw [h6, q_bd, q_lt, m_num_g (B := z_wr B 65 29 (A 35 0)) h7 rfl rfl rfl rfl rfl, q_bd, q_lt, q_lt, q_lt, q_lt]
  rw [show (z_wr (z_wr B 65 29 (A 35 0)) 65 30 (A 35 1)) 65 62 = A 35 2 from h3.trans h2.symm]
  rw [show (z_wr (z_wr (z_wr B 65 29 (A 35 0)) 65 30 (A 35 1)) 65 31 (A 35 2)) 65 64 = A 35 3 from h4.symm]
  rw [show (z_wr (z_wr (z_wr (z_wr B 65 29 (A 35 0)) 65 30 (A 35 1)) 65 31 (A 35 2)) 65 32 (A 35 3)) 65 65 = A 35 4 from h5.symm]
  generalize hB1 : z_wr (z_wr (z_wr (z_wr (z_wr B 65 29 (A 35 0)) 65 30 (A 35 1)) 65 31 (A 35 2)) 65 32 (A 35 3)) 65 33 (A 35 4) = B1
  have eo : ∀ o, o ≠ 65 → B1 o = B o := fun o ho => by rw [← hB1, z_wr_o ho, z_wr_o ho, z_wr_o ho, z_wr_o ho, z_wr_o ho]
  have ek : ∀ k, k < 29 ∨ 33 < k → B1 65 k = B 65 k := fun k hk => by rw [← hB1, z_wr_k (by omega), z_wr_k (by omega), z_wr_k (by omega), z_wr_k (by omega), z_wr_k (by omega)]
  have k29 : B1 65 29 = A 35 0 := by rw [← hB1]; rfl
  have k30 : B1 65 30 = A 35 1 := by rw [← hB1]; rfl
  have k31 : B1 65 31 = A 35 2 := by rw [← hB1]; rfl
  have k32 : B1 65 32 = A 35 3 := by rw [← hB1]; rfl
  have k33 : B1 65 33 = A 35 4 := by rw [← hB1]; rfl
  rw [m_cau_g (B := B1) h8 (ek 56 (by omega)) (ek 61 (by omega)) (eo 92 (by omega)), q_bd, q_lt]
  have hb2 : ∀ o, o ≠ 65 → (z_wr B1 65 34 (A 35 5)) o = B o := fun o ho => by rw [z_wr_o ho]; exact eo o ho
  have hb3 : ∀ k, k < 29 ∨ 34 < k → (z_wr B1 65 34 (A 35 5)) 65 k = B 65 k := fun k hk => by rw [z_wr_k (by omega)]; exact ek k (by omega)
  rw [hb3 56 (by omega), hb3 61 (by omega)]
  rcases h9 with ⟨d1, d2, ca, f, d3, d4, d5, d6, d7⟩ | ⟨d1, d2, d3⟩
  · rw [d1, if_pos rfl, d4]
    obtain ⟨M', r1, r2, r3, r4, r5⟩ := m_codes (N := N) (lc := A 35 6) ca f 0 N (z_wr B1 65 34 (A 35 5)) (by rw [hb2 91 (by omega), hb2 92 (by omega)]; exact d7) (by omega) (by omega) (by omega)
    refine ⟨M', r1, by rw [r4 65 (by omega)]; exact k29, by rw [r4 65 (by omega)]; exact k30, by rw [r4 65 (by omega)]; exact k31, by rw [r4 65 (by omega)]; exact k32, by rw [r4 65 (by omega)]; exact k33, by rw [r4 65 (by omega)]; rfl, ⟨3, by omega, d2⟩, fun _ => ⟨ca, by omega, d3, fun i hi => by have := r2 i hi; rw [Nat.zero_add] at this; exact this, by have := r3; rw [Nat.zero_add] at this; exact this⟩, fun o ho => by rw [r4 o ho.2]; exact hb2 o ho.1, fun k hk => by rw [r4 65 (by omega)]; exact hb3 k hk⟩
  · rw [d1, if_neg (show ¬ (1 : Int32) = 2 by decide)]
    have hl : ∀ S : St, f_X10_tellsLast_68 N N 0 (-9) S = some S := by
      intro S
      obtain ⟨n, e⟩ : ∃ n, N = n + 1 := ⟨N - 1, by omega⟩
      rw [show f_X10_tellsLast_68 N N 0 (-9) S = f_X10_tellsLast_68 N (n + 1) 0 (-9) S by rw [← e]]
      show b_X10_tellsLast_68 N (f_X10_tellsLast_68 N n) 0 (-9) S = _
      unfold b_X10_tellsLast_68
      rw [if_pos (by decide)]
    rw [hl]
    refine ⟨_, rfl, k29, k30, k31, k32, k33, rfl, ?_, fun q => ?_, fun o ho => hb2 o ho.1, hb3⟩
    · rcases d2 with q | q | q
      · exact ⟨0, by omega, q⟩
      · exact ⟨1, by omega, q⟩
      · exact ⟨2, by omega, q⟩
    · rw [q] at d2
      exact absurd d2 (by decide)
end
