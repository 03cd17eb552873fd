/-! an expression begins -/
section
variable {N : Nat} {S : St}
theorem x_dig1 {c : Int32} (h : isD c) : f_X3_isDigit N c S = some (1, S) := by
  unfold f_X3_isDigit
  rw [if_neg (Int32.not_lt.mpr h.1), if_neg (Int32.not_lt.mpr h.2)]
theorem x_dig0 {c : Int32} (h : ¬ isD c) : f_X3_isDigit N c S = some (0, S) := by
  unfold f_X3_isDigit
  by_cases h1 : c < 48
  · rw [if_pos h1]
  · rw [if_neg h1, if_pos (Int32.not_le.mp fun q => h ⟨Int32.not_lt.mp h1, q⟩)]
theorem x_nam1 {c : Int32} (h : isN c) : f_X3_isName N c S = some (1, S) := by
  unfold f_X3_isName
  rw [if_neg (Int32.not_lt.mpr h.1), if_neg (Int32.not_lt.mpr h.2)]
theorem x_nam0 {c : Int32} (h : ¬ isN c) : f_X3_isName N c S = some (0, S) := by
  unfold f_X3_isName
  by_cases h1 : c < 97
  · rw [if_pos h1]
  · rw [if_neg h1, if_pos (Int32.not_le.mp fun q => h ⟨Int32.not_lt.mp h1, q⟩)]
theorem m_in1 {c a b : Int32} (h : a ≤ c ∧ c ≤ b) : f_X10_isIn N c a b S = some (1, S) := by
  unfold f_X10_isIn
  rw [if_neg (Int32.not_lt.mpr h.1), if_neg (Int32.not_lt.mpr h.2)]
theorem m_in0 {c a b : Int32} (h : ¬ (a ≤ c ∧ c ≤ b)) : f_X10_isIn N c a b S = some (0, S) := by
  unfold f_X10_isIn
  by_cases h1 : c < a
  · rw [if_pos h1]
  · rw [if_neg h1, if_pos (Int32.not_le.mp fun q => h ⟨Int32.not_lt.mp h1, q⟩)]
/-- the innermost cell of a variable, by induction on the frame -/
theorem x_m_cell {X M : St} {V : Int32 → Int32 → Prop} {cn : Nat} {v : Int32} (hC : RC (X 37) (X 38) (X 39) (M 87) (M 88) (M 89) (M 90) V cn) (hcn : cn ≤ 400) : ∀ (k f i n : Nat), f < k → f ≤ cn → i + f ≤ 400 → f < n →
    ∃ rx rm, f_X1_innermost_5 N n v (nI f - 1) (nI i) X = some (rx, X) ∧ f_X10_cellOf_2 N n v (nI f) M = some (rm, M) ∧ ((rx = -1 ∧ rm = -9) ∨ ∃ c, c < cn ∧ rx = nI c ∧ rm = nI c) := by
  intro k
  induction k with
  | zero => intro f i n h; omega
  | succ k ih =>
    intro f i n hk hf hi hn
    obtain ⟨n, rfl⟩ : ∃ m, n = m + 1 := ⟨n - 1, by omega⟩
    show ∃ rx rm, b_X1_innermost_5 N (f_X1_innermost_5 N n) v (nI f - 1) (nI i) X = some (rx, X) ∧ b_X10_cellOf_2 N (f_X10_cellOf_2 N n) v (nI f) M = some (rm, M) ∧ _
    unfold b_X1_innermost_5 b_X10_cellOf_2
    cases f with
    | zero =>
      refine ⟨-1, -9, ?_, ?_, Or.inl ⟨rfl, rfl⟩⟩
      · by_cases h4 : (400 : Int32) ≤ nI i
        · rw [if_pos h4]
        · rw [if_neg h4, if_pos (by decide)]
      · rw [if_pos (by decide)]
        unfold b_X10_cellOf_26
        rw [if_pos (by decide)]
    | succ c =>
      obtain ⟨h1, h2, ⟨g, hg, h3, h4⟩, h5⟩ := hC c (by omega)
      have e1 : nI (c + 1) - 1 = nI c := nI_pred c
      rw [if_neg (by show ¬ nI 400 ≤ nI i; exact nI_ge (by omega) (by omega)), e1, if_neg (fun q => by have := nI_pos (n := c) (by omega); rw [q] at this; exact this (by decide)), x_at (show c < 400 by omega), q_bd]
      have hcl : (nI (c + 1)).toNatClampNeg = c + 1 := nI_clamp (by omega)
      rw [if_neg (nI_nle (by omega) (by omega)), q_gd (q_inl (show c + 1 < 1000 by omega))]
      simp only [hcl]
      rw [← h1]
      by_cases hv : X 37 c = v
      · rw [if_pos hv, if_pos hv]
        refine ⟨_, _, rfl, ?_, Or.inr ⟨c, by omega, rfl, rfl⟩⟩
        unfold b_X10_cellOf_26
        rw [if_neg (nI_nle (by omega) (by omega)), q_gd (q_inl (show c + 1 < 1000 by omega)), hcl, h2]
      · rw [if_neg hv, if_neg hv, x_at (show c < 400 by omega), q_bd, q_gd (q_inl (show c + 1 < 1000 by omega)), h3, h4, nI_1]
        exact ih g (i + 1) n (by omega) (by omega) (by omega) (by omega)
end
section
variable {N : Nat} {X M : St} {z h st dp cn tn vn fn μ : Nat} {θ : Nat → Nat}
theorem x_m_look {a b v : Int32} (hN : 1000 ≤ N) (hB : RB X M z h st dp cn tn vn fn θ) (hf : FR a b cn) : ∃ rx rm, f_X1_innermost N v a X = some (rx, X) ∧ f_X10_cellOf N v b M = some (rm, M) ∧ ((rx = -1 ∧ rm = -9) ∨ ∃ c, c < cn ∧ rx = nI c ∧ rm = nI c) := by
  obtain ⟨f, h1, rfl, rfl⟩ := hf
  have hb := hB.bds
  exact x_m_cell hB.2.2.2.2.2.1 (by omega) (f + 1) f 0 N (by omega) h1 (by omega) (by omega)
theorem q_range {c : Int32} {a b : Int} (h1 : (Int32.ofInt a) ≤ c) (h2 : c ≤ Int32.ofInt b) (ha : (Int32.ofInt a).toInt = a) (hb : (Int32.ofInt b).toInt = b) : a ≤ c.toInt ∧ c.toInt ≤ b := by
  rw [Int32.le_iff_toInt_le] at h1 h2
  omega
theorem q_dig {c : Int32} (h : isD c) : -9999 ≤ c - 48 ∧ c - 48 ≤ 9999 := by
  have h1 := Int32.le_iff_toInt_le.mp h.1
  have h2 := Int32.le_iff_toInt_le.mp h.2
  have e1 : (48 : Int32).toInt = 48 := rfl
  have e2 : (57 : Int32).toInt = 57 := rfl
  have e3 : (9999 : Int32).toInt = 9999 := rfl
  have e4 : (-9999 : Int32).toInt = -9999 := rfl
  rw [e1] at h1
  rw [e2] at h2
  have e5 : (c - 48).toInt = c.toInt - 48 := by rw [Int32.toInt_sub, e1, Int.bmod_eq_of_le (by omega) (by omega)]
  rw [Int32.le_iff_toInt_le, Int32.le_iff_toInt_le, e3, e4, e5]
  omega
theorem q_nam {c : Int32} (h : isN c) : ∃ v, v < 6 ∧ c - 97 = nI v := by
  have h1 := Int32.le_iff_toInt_le.mp h.1
  have h2 := Int32.le_iff_toInt_le.mp h.2
  have e1 : (97 : Int32).toInt = 97 := rfl
  have e2 : (102 : Int32).toInt = 102 := rfl
  rw [e1] at h1
  rw [e2] at h2
  refine ⟨(c.toInt - 97).toNat, by omega, ?_⟩
  apply Int32.toInt_inj.mp
  rw [nI_toInt (by omega), Int32.toInt_sub, e1, Int.bmod_eq_of_le (by omega) (by omega)]
  omega
theorem q_isO_D {c : Int32} (h : isO c) : ¬ isD c ∧ ¬ isN c := by
  rcases h with (q | q | q | q | q | q | q | q | q | q) | q | q | q | q | q | q | q | q <;> rw [q] <;> decide
theorem q_D_N {c : Int32} (h : isN c) : ¬ isD c := by
  intro q
  have h1 := Int32.le_iff_toInt_le.mp h.1
  have h2 := Int32.le_iff_toInt_le.mp q.2
  have e1 : (97 : Int32).toInt = 97 := rfl
  have e2 : (57 : Int32).toInt = 57 := rfl
  omega
set_option maxHeartbeats 1000000 in
theorem s_begin (hN : 1000 ≤ N) (hR : R0 X M z μ) : JJ X M z (μ - 1) (f_X4_beginExpression N X) (f_X10_begins N M) := by
  obtain ⟨h, st, dp, cn, tn, vn, fn, θ, hB, hD, hp, hμ⟩ := hR
  have hb := hB.bds
  have x35 : X 35 2 = nI st := hB.2.1.2.2.2.2.2.1
  have m62 : M 65 62 = nI st := hB.2.1.2.2.2.2.2.2.1
  unfold f_X4_beginExpression f_X10_begins
  rw [x35, m62]
  by_cases hs : st < 400
  · rw [if_pos (by show nI st < nI 400; exact nI_lt hs (by omega)), if_neg (by intro q; have := (nI_eq (a := st) (b := 400) (by omega) (by omega)).mp q; omega), nI_1, q_lt, q_lt]
    have hRP := hB.2.2.1
    have hq : cn + phi 1 1 0 (z_wr X 35 2 (nI (st + 1)) 47) h + 1 ≤ st + 1 ∧ tn + phi 1 1 0 (z_wr X 35 2 (nI (st + 1)) 47) h + 1 ≤ st + 1 ∧ vn + phi 1 1 0 (z_wr X 35 2 (nI (st + 1)) 47) h + 2 ≤ 2 * (st + 1) := by
      have q2 := hRP.2.1
      have q3 := hRP.2.2.1
      have q4 := hRP.2.2.2
      have e : phi 1 1 0 (z_wr X 35 2 (nI (st + 1)) 47) h = phi 1 1 0 (X 47) h := rfl
      rw [e]; omega
    have hB1 := hB.step hs
    have hD1 : D0 (z_wr X 35 2 (nI (st + 1))) (z_wr M 65 62 (nI (st + 1))) z cn := hD
    have hX1 : FX X (z_wr X 35 2 (nI (st + 1))) := FX.rf.wr (by omega) (by omega)
    have hM1 : FM M (z_wr M 65 62 (nI (st + 1))) := FM.rf.wf (by omega)
    have hp1 : fn + phi 2 1 0 (z_wr X 35 2 (nI (st + 1)) 47) h + 1 ≤ 2 * st + 1 := hp
    have hμ1 : 10 * (400 - st) + phi 7 5 3 (z_wr X 35 2 (nI (st + 1)) 47) h + 1 ≤ μ := hμ
    generalize z_wr X 35 2 (nI (st + 1)) = X1 at hB1 hD1 hX1 hp1 hμ1 hq ⊢
    generalize z_wr M 65 62 (nI (st + 1)) = M1 at hB1 hD1 hM1 ⊢
    obtain ⟨d1, d2, d3, d4, e, he, d5, d6, d7, d8⟩ := hD1
    have hz : z ≤ 40 := hB1.1.2.1
    obtain ⟨pe1, pe2, pe3⟩ := hB1.1.2.2 e he
    have h44 := hB1.2.1.2.1
    have h55 := hB1.2.1.2.2.1
    have h36 := hB1.2.1
    obtain ⟨a1, a2, a3, a4, a5, a6, a7, a8, a9, a10, a11, a12, a13, a14, a15, a16, a17, a18⟩ := hB1.2.1
    have hj : z - 1 - e < 41 := by omega
    rw [x_pr a1, d5, d6, x_sign (show e < 40 by omega), q_bd]
    have hcl : (nI (z - 1 - e)).toNatClampNeg = z - 1 - e := nI_clamp (by omega)
    rw [q_gd (q_inl (show z - 1 - e < z_ln 67 from hj))]
    simp only [hcl]
    rw [pe1]
    rcases pe3 with pD | ⟨pN, pv⟩ | ⟨pO, p1, p2, p3, p4, p5, p6, p7⟩
    · rw [x_dig1 pD, q_bd, m_in1 pD, q_bd, if_neg (by decide), if_neg (by decide)]
      rw [m_valueOf a17 (by omega), q_bd, q_bvi, q_bvi]
      obtain ⟨hB2, hv⟩ := hB1.num (b := 0) (c := 0) (q_dig pD) (by omega)
      exact j_give hB2 hv d3 d4 (by omega) (by omega) hX1 (((((hM1.wr (by omega)).wr (by omega)).wr (by omega)).wr (by omega)).wf (by omega))
    · rw [x_dig0 (q_D_N pN), q_bd, m_in0 (q_D_N pN), q_bd, if_pos rfl, if_pos rfl, x_nam1 pN, q_bd, m_in1 pN, q_bd, if_neg (by decide), if_neg (by decide)]
      rw [x_pr a1, d5, x_vari (show e < 40 by omega), q_bd, pv]
      unfold f_X4_valueOfVariable f_X10_looksUp
      obtain ⟨v, hv6, ev⟩ := q_nam pN
      obtain ⟨rx, rm, r1, r2, r3⟩ := x_m_look (v := X1 3 e - 97) hN hB1 d7
      rw [r1, r2, q_bd, q_bd]
      rcases r3 with ⟨rfl, rfl⟩ | ⟨c, hc, rfl, rfl⟩
      · rw [if_pos rfl, if_neg (by decide), ev, x_at (show v < 6 from hv6), q_bd, q_bd, q_bvi, q_gd (q_inl (show v < z_ln 78 from hv6)), nI_clamp (by omega)]
        rw [m_valueOf a17 (by omega), q_bd]
        unfold b_X10_looksUp_37
        rw [q_bvi, q_bvi]
        obtain ⟨g1, g2⟩ := hB1.2.2.2.1 v hv6
        rw [← g1]
        obtain ⟨hB2, hv⟩ := hB1.num (b := 0) (c := 0) g2 (by omega)
        exact j_give hB2 hv d3 d4 (by omega) (by omega) hX1 (((((hM1.wr (by omega)).wr (by omega)).wr (by omega)).wr (by omega)).wf (by omega))
      · rw [if_neg (fun q => by have := nI_pos (n := c) (by omega); rw [q] at this; exact this (by decide)), if_pos (nI_pos' (by omega))]
        unfold f_X1_valueIn b_X10_looksUp_37
        rw [x_at (show c < 400 by omega), q_bd, q_bd, q_bd, q_gd (q_inl (show c < 1000 by omega)), nI_clamp (by omega), q_bvi, q_bvi, q_bvi]
        obtain ⟨-, -, -, hv⟩ := hB1.2.2.2.2.2.1 c hc
        exact j_give hB1 hv d3 d4 (by omega) (by omega) hX1 hM1
    · obtain ⟨nD, nN⟩ := q_isO_D pO
      rw [x_dig0 nD, q_bd, m_in0 nD, q_bd, if_pos rfl, if_pos rfl, x_nam0 nN, q_bd, m_in0 nN, q_bd, if_pos rfl, if_pos rfl]
      by_cases h70 : X1 3 e = 70
      · rw [if_pos h70, if_pos h70, d5, x_tadd a16 (by omega), q_bd, q_bvi, q_gd (q_inl (show z - 1 - e < z_ln 71 from hj)), q_gd (q_inl (show z - 1 - e < z_ln 68 from hj)), m_valueOf a17 (by omega), q_bd, q_bvi]
        obtain ⟨θ', hB2, hv⟩ := hB1.thing (k := 4) (a := nI e) (b := X1 29 9) (m1 := 1) (m2 := M1 71 (z - 1 - e)) (m3 := M1 68 (z - 1 - e)) (m4 := M1 65 58) (by omega) (by omega) (Or.inl ⟨rfl, rfl, ⟨e, he, h70, rfl, rfl, rfl⟩, d7⟩)
        exact j_give hB2 hv d3 d4 (by show fn + phi 2 1 0 (X1 47) h ≤ _; omega) (by show 10 * (400 - (st + 1)) + phi 7 5 3 (X1 47) h ≤ _; omega) ((((hX1.wr (by omega) (by omega)).wr (by omega) (by omega)).wr (by omega) (by omega)).wr (by omega) (by omega)) (((((hM1.wr (by omega)).wr (by omega)).wr (by omega)).wr (by omega)).wf (by omega))
      · rw [if_neg h70, if_neg h70, d5, x_push a2 (by omega), q_bv, m_waitsFor a3 (by omega), q_bv]
        have hB2 := hB1.push0 (e := e) (b := X1 29 9) (by omega) he pO h70 d7 d8 (by omega) (by omega) (by omega)
        rw [q_gd (q_inl (show z - 1 - e < z_ln 68 from hj))]
        rw [show f_X5_firstOf N (z_pr _) _ _ = some _ from rfl, q_bd, q_bvi, q_bvi]
        have e0 : (z_wr (z_wr (z_wr (z_wr (z_wr X1 45 h (nI e)) 46 h (X1 29 9)) 47 h 0) 48 h 0) 44 4 (nI (h + 1))) 29 8 = nI e := d5
        have e1 : (z_wr (z_wr (z_wr (z_wr (z_wr M1 93 h (nI (z - 1 - e))) 94 h 0) 95 h (M1 65 58)) 96 h (M1 65 59)) 65 55 (nI (h + 1))) 68 (z - 1 - e) = nI (z - 1 - (e + 1)) := p2
        rw [e0, e1, nI_1]
        have f1 : ∀ a b c : Nat, phi a b c ((z_wr (z_wr (z_wr (z_wr (z_wr X1 45 h (nI e)) 46 h (X1 29 9)) 47 h 0) 48 h 0) 44 4 (nI (h + 1))) 47) (h + 1) = phi a b c (X1 47) h + a := fun a b c => (phi_p (ws := X1 47) (v := 0)).trans (by rw [if_pos rfl])
        refine j_begin hB2 p1 d7 d3 d4 (by rw [if_neg h70] at p3; exact p3.symm) (by rw [f1]; omega) (by rw [f1]; omega) (((((hX1.wr (by omega) (by omega)).wr (by omega) (by omega)).wr (by omega) (by omega)).wr (by omega) (by omega)).wr (by omega) (by omega)) (((((hM1.wr (by omega)).wr (by omega)).wr (by omega)).wr (by omega)).wf (by omega))
  · have hst : st = 400 := by omega
    rw [if_neg (by show ¬ nI st < nI 400; exact nI_nlt (by omega) (by omega)), if_pos (by rw [hst]; rfl), q_bvi, q_bvi]
    exact j_fail (by decide) hB (by omega) (by omega) FX.rf FM.rf
end
