/-! fields, faults that are told, a choice; then any value -/
section
variable {N : Nat} {X M X0 M0 : St} {z h st dp cn tn vn fn μ : Nat} {θ : Nat → Nat}
theorem v_throw (hB : RB X M z h st dp cn tn vn fn θ) (hD : D1 X M tn vn θ) (hp : fn + phi 2 1 0 (X 47) h + 1 ≤ 2 * st + 1) (hμ : 10 * (400 - st) + phi 7 5 3 (X 47) h ≤ μ) (hX : FX X0 X) (hM : FM M0 M) : JJ X0 M0 z μ (f_X4_failAsTold N X) (f_X10_throwsNow N M) := by
  have hb := hB.bds
  obtain ⟨d1, d2, d3, d4, d5⟩ := hD
  obtain ⟨j, hj, ej, hvv⟩ := hB.val d5
  have hcj : (nI j).toNatClampNeg = j := nI_clamp (by omega)
  unfold f_X4_failAsTold f_X10_throwsNow
  rw [ej, q_gd (q_inl (show j < 2000 by omega))]
  simp only [hcj]
  rcases hvv with ⟨k1, k2, k3⟩ | ⟨t, t1, t2, -, g⟩
  · rw [x_isNum1 k3.2, q_bd, if_neg (by decide), if_pos k1, q_gd (q_inl (show j < 2000 by omega)), k2]
    by_cases q1 : X 29 10 < 0
    · rw [if_pos q1, m_in0 (fun q => absurd q.1 (Int32.not_le.mpr q1)), q_bd, if_pos rfl]
      unfold b_X4_failAsTold_45 b_X4_failAsTold_46
      rw [q_bvi, q_bvi]
      exact j_fail (by decide) hB (by omega) hμ hX hM
    · rw [if_neg q1]
      by_cases q2 : 9 < X 29 10
      · rw [if_pos q2, m_in0 (fun q => absurd q.2 (Int32.not_le.mpr q2)), q_bd, if_pos rfl]
        unfold b_X4_failAsTold_45 b_X4_failAsTold_46
        rw [q_bvi, q_bvi]
        exact j_fail (by decide) hB (by omega) hμ hX hM
      · rw [if_neg q2, m_in1 ⟨Int32.not_lt.mp q1, Int32.not_lt.mp q2⟩, q_bd, if_neg (by decide), ej, q_gd (q_inl (show j < 2000 by omega)), hcj, k2]
        unfold b_X4_failAsTold_46
        rw [q_bvi, q_bvi]
        refine j_fail ?_ hB (by omega) hμ hX hM
        obtain ⟨w, w1, w2⟩ := nI_of2 (M := 9) (n := 9) rfl q1 (Int32.not_lt.mp q2)
        rw [w2]
        show nI 0 - nI 9999 ≤ nI 10 + nI w ∧ nI 10 + nI w ≤ nI 9999
        rw [nI_add]
        refine ⟨?_, nI_le (by omega) (by omega)⟩
        rw [Int32.le_iff_toInt_le, nI_toInt (by omega)]
        have e : (nI 0 - nI 9999).toInt = -9999 := by decide
        omega
  · rw [t2, x_isNum0 (by omega), q_bd, if_pos rfl, if_neg (by rcases g with ⟨-, q⟩ | ⟨q, -⟩ <;> rw [q] <;> decide), q_bvi, q_bvi]
    exact j_fail (by decide) hB (by omega) hμ hX hM
theorem v_choose {e : Nat} (hB : RB X M z h st dp cn tn vn fn θ) (hD : D1 X M tn vn θ) (hh : h < 800) (he : e < z) (h63 : X 3 e = 63) (hf : FR (X 46 h) (M 95 h) cn) (m96 : M 96 h = X 8 e) (hp : fn + phi 2 1 0 (X 47) h + 1 ≤ 2 * st + 1) (hμ : 10 * (400 - st) + phi 7 5 3 (X 47) h + 1 ≤ μ) (hX : FX X0 X) (hM : FM M0 M) : JJ X0 M0 z μ (f_X4_choose N (nI e) (X 46 h) X) (f_X10_chooses N (nI (z - 1 - e)) (nI h) M) := by
  have hz : z ≤ 40 := hB.1.2.1
  have hb := hB.bds
  have a1 := hB.2.1.1
  obtain ⟨d1, d2, d3, d4, d5⟩ := hD
  obtain ⟨j, hj, ej, hvv⟩ := hB.val d5
  obtain ⟨pe1, pe2, pe3⟩ := hB.1.2.2 e he
  rcases pe3 with q | ⟨q, -⟩ | ⟨pO, p1, p2, p3, p4, p5, p6, p7⟩
  · rw [h63] at q; exact absurd q (by decide)
  · rw [h63] at q; exact absurd q (by decide)
  obtain ⟨s, s1, s2, s3, s4⟩ := p4 (by rw [h63]; decide)
  obtain ⟨u, u1, u2, u3, u4⟩ := p5 h63
  have hcj : (nI j).toNatClampNeg = j := nI_clamp (by omega)
  have hch : (nI h).toNatClampNeg = h := nI_clamp (by omega)
  have hce : (nI (z - 1 - e)).toNatClampNeg = z - 1 - e := nI_clamp (by omega)
  unfold f_X4_choose f_X10_chooses
  rw [ej, q_gd (q_inl (show j < 2000 by omega))]
  simp only [hcj, hce]
  rcases hvv with ⟨k1, k2, k3⟩ | ⟨t, t1, t2, -, g⟩
  · rw [x_isNum1 k3.2, q_bd, if_neg (by decide), if_pos k1, q_gd (q_inl (show j < 2000 by omega)), k2]
    unfold b_X4_choose_45 b_X10_chooses_48
    simp only [hch]
    by_cases q0 : X 29 10 = 0
    · rw [if_pos q0, if_pos q0, x_pr a1, x_thir (by omega), q_bd, q_bvi, q_gd (q_inl (show z - 1 - e < 41 by omega)), q_gd (q_inl (show h < 800 from hh)), q_gd (q_inl (show h < 800 from hh)), q_bvi, u2, u3]
      exact j_begin hB u1 hf d3 d4 (m96.trans u4.symm) (by omega) hμ hX hM
    · rw [if_neg q0, if_neg q0, x_pr a1, x_seco (by omega), q_bd, q_bvi, q_gd (q_inl (show z - 1 - e < 41 by omega)), q_gd (q_inl (show h < 800 from hh)), q_gd (q_inl (show h < 800 from hh)), q_bvi, s2, s3]
      refine j_begin hB s1 hf d3 d4 ?_ (by omega) hμ hX hM
      rw [m96, s4, if_pos]
      rw [h63]; decide
  · rw [t2, x_isNum0 (by omega), q_bd, if_pos rfl, if_neg (by rcases g with ⟨-, q⟩ | ⟨q, -⟩ <;> rw [q] <;> decide), q_bvi, q_bvi]
    exact j_fail (by decide) hB (by omega) (by omega) hX hM
theorem x_has {S : St} {n : Nat} {c : Int32} (hn : n < 400) : f_X7_hasField N (nI (10000 + n)) c S = if 3 < S 41 n then some (0, S) else (if c = 112 then b_X7_hasField_23 N 1 (S 41 n) S else b_X7_hasField_23 N 0 (S 41 n) S) := by
  unfold f_X7_hasField
  rw [x_kind hn, q_bd]
theorem v_field {e : Nat} {c : Int32} (hN : 1000 ≤ N) (hB : RB X M z h st dp cn tn vn fn θ) (hD : D1 X M tn vn θ) (he : e < z) (hc : X 3 e = c) (hc2 : c = 112 ∨ c = 113) (hp : fn + phi 2 1 0 (X 47) h + 1 ≤ 2 * st + 1) (hμ : 10 * (400 - st) + phi 7 5 3 (X 47) h ≤ μ) (hX : FX X0 X) (hM : FM M0 M) : JJ X0 M0 z μ (f_X4_findField N (nI e) c X) (f_X10_findsField N (nI (z - 1 - e)) M) := by
  have hz : z ≤ 40 := hB.1.2.1
  have hb := hB.bds
  have a1 := hB.2.1.1
  obtain ⟨d1, d2, d3, d4, d5⟩ := hD
  obtain ⟨j, hj, ej, hvv⟩ := hB.val d5
  obtain ⟨pe1, pe2, pe3⟩ := hB.1.2.2 e he
  have hO : isO (X 3 e) := by rw [hc]; rcases hc2 with q | q <;> rw [q] <;> decide
  obtain ⟨nD, nN⟩ := q_isO_D hO
  rcases pe3 with q | ⟨q, -⟩ | ⟨pO, p1, p2, p3, p4, p5, p6, p7⟩
  · exact absurd q nD
  · exact absurd q nN
  obtain ⟨w, w1, w2, w3⟩ := p7 (by rw [hc]; exact hc2)
  have hcj : (nI j).toNatClampNeg = j := nI_clamp (by omega)
  have hce : (nI (z - 1 - e)).toNatClampNeg = z - 1 - e := nI_clamp (by omega)
  have i67 : z - 1 - e < z_ln 67 := show z - 1 - e < 41 by omega
  have i71 : z - 1 - e < z_ln 71 := show z - 1 - e < 41 by omega
  have i83 : j < z_ln 83 := show j < 2000 by omega
  have i84 : j < z_ln 84 := show j < 2000 by omega
  have i85 : j < z_ln 85 := show j < 2000 by omega
  have i86 : j < z_ln 86 := show j < 2000 by omega
  have bad : JJ X0 M0 z μ (z_bv (f_X4_fail N 3 X) fun S18 => some S18) (b_X10_findsField_33 N M) := by
    unfold b_X10_findsField_33
    rw [q_bvi, q_bvi]
    exact j_fail (by decide) hB (by omega) hμ hX hM
  unfold f_X4_findField f_X10_findsField
  rw [ej, q_gd (q_inl i83)]
  simp only [hcj, hce]
  rcases hvv with ⟨k1, k2, k3⟩ | ⟨t, t1, t2, ejt, g⟩
  · rw [show f_X7_hasField N (X 29 10) c X = some (0, X) by unfold f_X7_hasField; rw [x_kindN k3.2 k3.1, q_bd, if_pos (by decide)], q_bd, if_pos rfl, k1, if_neg (by decide)]
    exact bad
  · rw [t2, x_has (by omega)]
    rcases g with ⟨g1, g2⟩ | ⟨g1, g2, g3⟩
    · rw [g1, if_pos (by decide), q_bd, if_pos rfl, g2, if_neg (by decide)]
      exact bad
    · rw [g1, if_pos rfl, q_gd (q_inl i84), q_gd (q_inl i67), pe1, hc, g2]
      -- the shape and the sign
      have go : ∀ (k : Nat), X 41 t = nI k → k < 4 → (∀ (X' M' : St), RB X' M' z h st dp cn tn vn fn θ → X' 41 t = nI k → M' 67 (z - 1 - e) = c → ∃ r, (∃ r', f_X7_fieldOf N (nI (10000 + t)) c X' = some (r, X') ∧ (∀ x : Int32, x = nI k → (if x < 2 then b_X10_findsField_99 N (nI j) M' else z_gd (z_in (nI j) (z_ln 84)) (if x = 2 then b_X10_findsField_80 N (nI (z - 1 - e)) (nI j) 1 M' else b_X10_findsField_80 N (nI (z - 1 - e)) (nI j) 0 M')) = f_X10_has N r' M') ∧ gV M' θ tn vn r r')) →
          JJ X0 M0 z μ (z_bd (f_X5_siteOf N (z_pr X) (nI e) X) fun r6 S5 => z_bd (f_X7_kindOf N (S5 29 10) S5) fun r9 S8 => z_bv (f_X0_see N 31 r6 r9 S8) fun S11 => z_bd (f_X7_fieldOf N (S11 29 10) c S11) fun r14 S13 => z_bv (f_X4_give N r14 S13) fun S16 => some S16)
            (z_gd (z_in (nI (z - 1 - e)) (z_ln 71)) (z_gd (z_in (nI j) (z_ln 84)) (z_bv (f_X10_passesCache N (M 71 (z - 1 - e)) (M 84 j) M) fun S11 => z_gd (z_in (nI j) (z_ln 84)) (if S11 84 j < 2 then b_X10_findsField_99 N (nI j) S11 else z_gd (z_in (nI j) (z_ln 84)) (if S11 84 j = 2 then b_X10_findsField_80 N (nI (z - 1 - e)) (nI j) 1 S11 else b_X10_findsField_80 N (nI (z - 1 - e)) (nI j) 0 S11))))) := by
        intro k hk hk4 H
        rw [x_pr a1, x_site (by omega), q_bd, t2, x_kind (by omega), q_bd, hk, w2, q_gd (q_inl i71), q_gd (q_inl i84), w3, g2, hk]
        obtain ⟨X', M', r1, r2, r3, r4, r5, r6⟩ := x_m_see hN hB w1 hk4
        rw [r1, r2, q_bv, q_bv, q_gd (q_inl i84)]
        have e1 : X' 29 10 = nI (10000 + t) := by rw [r4 29 (by omega)]; exact t2
        have e2 : X' 41 t = nI k := by rw [r4 41 (by omega)]; exact hk
        have e3 : M' 84 j = nI k := by rw [r5 84 (by omega), g2]; exact hk
        obtain ⟨r, r', f1, f2, f3⟩ := H X' M' r3 e2 (by rw [r5 67 (by omega), pe1]; exact hc)
        rw [e1, f1, q_bd, q_bvi, f2 _ e3]
        have hX' : FX X0 X' := ⟨fun o ho => by rw [r4 o (by omega)]; exact hX.1 o ho, by rw [r4 29 (by omega)]; exact hX.2.1, fun k' hk' => by
          rw [r6 k' ?_]
          · exact hX.2.2 k' hk'
          · intro q
            refine hk' e (by omega) ?_ ?_ ?_
            · rw [← hX.1 2 (by omega), hB.1.1.2]; exact nI_lt he (by omega)
            · rw [← hX.1 3 (by omega), hc]; exact hc2
            · rw [← hX.1 7 (by omega), q]; exact w2⟩
        have hM' : FM M0 M' := ⟨fun o ho => by rw [r5 o (by omega)]; exact hM.1 o ho, fun k hk => by rw [r5 65 (by omega)]; exact hM.2 k hk⟩
        refine j_give r3 f3 (by rw [r4 29 (by omega)]; exact d3) (by rw [r4 35 (by omega)]; exact d4) (by rw [r4 47 (by omega)]; omega) (by rw [r4 47 (by omega)]; exact hμ) hX' hM'
      have no : ∀ x : Int32, ¬ x = 112 → (if x = 112 then (1 : Int32) else 0) = 0 := fun x hx => if_neg hx
      have sel1 : ∀ (k : Nat) (M' : St) (x : Int32), k < 2 → x = nI k → (if x < 2 then b_X10_findsField_99 N (nI j) M' else z_gd (z_in (nI j) (z_ln 84)) (if x = 2 then b_X10_findsField_80 N (nI (z - 1 - e)) (nI j) 1 M' else b_X10_findsField_80 N (nI (z - 1 - e)) (nI j) 0 M')) = f_X10_has N (M' 85 j) M' := by
        intro k M' x hk hx
        rw [hx, if_pos (by show nI k < nI 2; exact nI_lt hk (by omega))]
        unfold b_X10_findsField_99 b_X10_findsField_104 b_X10_findsField_125
        rw [if_neg (by decide), q_gd (q_inl i85), hcj, q_bvi]
      have sel2 : ∀ (M' : St) (x : Int32), x = nI 2 → M' 67 (z - 1 - e) = c → (if x < 2 then b_X10_findsField_99 N (nI j) M' else z_gd (z_in (nI j) (z_ln 84)) (if x = 2 then b_X10_findsField_80 N (nI (z - 1 - e)) (nI j) 1 M' else b_X10_findsField_80 N (nI (z - 1 - e)) (nI j) 0 M')) = if c = 112 then f_X10_has N (M' 85 j) M' else f_X10_has N (M' 86 j) M' := by
        intro M' x hx h67
        rw [hx, if_neg (by decide), q_gd (q_inl i84), if_pos (by decide)]
        unfold b_X10_findsField_80 b_X10_findsField_96 b_X10_findsField_99 b_X10_findsField_104 b_X10_findsField_125
        rw [q_gd (q_inl i67), hce, h67]
        by_cases q : c = 112
        · rw [if_pos q, if_pos q, if_pos rfl, if_neg (by decide), q_gd (q_inl i85), hcj, q_bvi]
        · rw [if_neg q, if_neg q, if_neg (by decide), if_pos rfl, q_gd (q_inl i86), hcj, q_bvi]
      have sel3 : ∀ (M' : St) (x : Int32), x = nI 3 → M' 67 (z - 1 - e) = c → (if x < 2 then b_X10_findsField_99 N (nI j) M' else z_gd (z_in (nI j) (z_ln 84)) (if x = 2 then b_X10_findsField_80 N (nI (z - 1 - e)) (nI j) 1 M' else b_X10_findsField_80 N (nI (z - 1 - e)) (nI j) 0 M')) = if c = 112 then f_X10_has N (M' 86 j) M' else f_X10_has N (M' 85 j) M' := by
        intro M' x hx h67
        rw [hx, if_neg (by decide), q_gd (q_inl i84), if_neg (by decide)]
        unfold b_X10_findsField_80 b_X10_findsField_96 b_X10_findsField_99 b_X10_findsField_104 b_X10_findsField_125
        rw [q_gd (q_inl i67), hce, h67]
        by_cases q : c = 112
        · rw [if_pos q, if_pos q, if_neg (by decide), if_pos rfl, q_gd (q_inl i86), hcj, q_bvi]
        · rw [if_neg q, if_neg q, if_pos rfl, if_neg (by decide), q_gd (q_inl i85), hcj, q_bvi]
      have fld : ∀ X' : St, f_X7_fieldOf N (nI (10000 + t)) c X' = some ((if c = 112 then X' 42 t else X' 43 t), X') := by
        intro X'
        unfold f_X7_fieldOf
        rw [q_t10k, x_at (show t < 400 by omega), x_at (show t < 400 by omega), q_bd, q_bd]
        by_cases q : c = 112
        · rw [if_pos q, if_pos q]
        · rw [if_neg q, if_neg q]
      have rec4 : ∀ (X' M' : St) (k : Nat), k < 4 → RB X' M' z h st dp cn tn vn fn θ → X' 41 t = nI k → (k = 0 ∧ gV M' θ tn vn (X' 42 t) (M' 85 j)) ∨ (k = 1 ∧ gV M' θ tn vn (X' 43 t) (M' 85 j)) ∨ (k = 2 ∧ gV M' θ tn vn (X' 42 t) (M' 85 j) ∧ gV M' θ tn vn (X' 43 t) (M' 86 j)) ∨ (k = 3 ∧ gV M' θ tn vn (X' 43 t) (M' 85 j) ∧ gV M' θ tn vn (X' 42 t) (M' 86 j)) := by
        intro X' M' k hk4 hB' hk'
        have inj : ∀ n : Nat, n < 5 → nI k = nI n → k = n := fun n hn q => (nI_eq (by omega) (by omega)).mp q
        obtain ⟨-, hT⟩ := hB'.2.2.2.2.2.2.1 t t1
        rw [hk', ← ejt] at hT
        rcases hT with ⟨y, -⟩ | ⟨-, -, y⟩
        · have := inj 4 (by omega) y; omega
        rcases y with ⟨y, y2⟩ | ⟨y, y2⟩ | ⟨y, y2⟩ | ⟨y, y2⟩
        · exact Or.inl ⟨inj 0 (by omega) y, y2⟩
        · exact Or.inr (Or.inl ⟨inj 1 (by omega) y, y2⟩)
        · exact Or.inr (Or.inr (Or.inl ⟨inj 2 (by omega) y, y2⟩))
        · exact Or.inr (Or.inr (Or.inr ⟨inj 3 (by omega) y, y2⟩))
      unfold b_X7_hasField_23 f_X10_hasField
      rcases g3 with s0 | s0 | s0 | s0
      · rw [s0, if_neg (by decide)]
        by_cases q : c = 112
        · rw [if_pos q, if_pos q, if_neg (by decide), if_neg (by decide), q_bd, q_bd, if_neg (by decide), if_neg (by decide)]
          refine go 0 s0 (by omega) (fun X' M' hB' hk' h67 => ⟨X' 42 t, M' 85 j, by rw [fld, if_pos q], fun x hx => sel1 0 M' x (by omega) hx, ?_⟩)
          rcases rec4 X' M' 0 (by omega) hB' hk' with ⟨-, y⟩ | ⟨y, -⟩ | ⟨y, -⟩ | ⟨y, -⟩
          · exact y
          · omega
          · omega
          · omega
        · rw [if_neg q, if_neg q, if_pos rfl, if_pos rfl, q_bd, q_bd, if_pos rfl, if_pos rfl]
          exact bad
      · rw [s0, if_neg (by decide)]
        by_cases q : c = 112
        · rw [if_pos q, if_pos q, if_pos rfl, if_pos rfl, q_bd, q_bd, if_pos rfl, if_pos rfl]
          exact bad
        · rw [if_neg q, if_neg q, if_neg (by decide), if_neg (by decide), q_bd, q_bd, if_neg (by decide), if_neg (by decide)]
          refine go 1 s0 (by omega) (fun X' M' hB' hk' h67 => ⟨X' 43 t, M' 85 j, by rw [fld, if_neg q], fun x hx => sel1 1 M' x (by omega) hx, ?_⟩)
          rcases rec4 X' M' 1 (by omega) hB' hk' with ⟨y, -⟩ | ⟨-, y⟩ | ⟨y, -⟩ | ⟨y, -⟩
          · omega
          · exact y
          · omega
          · omega
      · rw [s0, if_neg (by decide)]
        by_cases q : c = 112
        · rw [if_pos q, if_pos q, if_neg (by decide), if_neg (by decide), q_bd, q_bd, if_neg (by decide), if_neg (by decide)]
          refine go 2 s0 (by omega) (fun X' M' hB' hk' h67 => ⟨X' 42 t, M' 85 j, by rw [fld, if_pos q], fun x hx => (sel2 M' x hx h67).trans (if_pos q), ?_⟩)
          rcases rec4 X' M' 2 (by omega) hB' hk' with ⟨y, -⟩ | ⟨y, -⟩ | ⟨-, y, -⟩ | ⟨y, -⟩
          · omega
          · omega
          · exact y
          · omega
        · rw [if_neg q, if_neg q, if_neg (by decide), if_neg (by decide), q_bd, q_bd, if_neg (by decide), if_neg (by decide)]
          refine go 2 s0 (by omega) (fun X' M' hB' hk' h67 => ⟨X' 43 t, M' 86 j, by rw [fld, if_neg q], fun x hx => (sel2 M' x hx h67).trans (if_neg q), ?_⟩)
          rcases rec4 X' M' 2 (by omega) hB' hk' with ⟨y, -⟩ | ⟨y, -⟩ | ⟨-, -, y⟩ | ⟨y, -⟩
          · omega
          · omega
          · exact y
          · omega
      · rw [s0, if_neg (by decide)]
        by_cases q : c = 112
        · rw [if_pos q, if_pos q, if_neg (by decide), if_neg (by decide), q_bd, q_bd, if_neg (by decide), if_neg (by decide)]
          refine go 3 s0 (by omega) (fun X' M' hB' hk' h67 => ⟨X' 42 t, M' 86 j, by rw [fld, if_pos q], fun x hx => (sel3 M' x hx h67).trans (if_pos q), ?_⟩)
          rcases rec4 X' M' 3 (by omega) hB' hk' with ⟨y, -⟩ | ⟨y, -⟩ | ⟨y, -⟩ | ⟨-, -, y⟩
          · omega
          · omega
          · omega
          · exact y
        · rw [if_neg q, if_neg q, if_neg (by decide), if_neg (by decide), q_bd, q_bd, if_neg (by decide), if_neg (by decide)]
          refine go 3 s0 (by omega) (fun X' M' hB' hk' h67 => ⟨X' 43 t, M' 85 j, by rw [fld, if_neg q], fun x hx => (sel3 M' x hx h67).trans (if_neg q), ?_⟩)
          rcases rec4 X' M' 3 (by omega) hB' hk' with ⟨y, -⟩ | ⟨y, -⟩ | ⟨y, -⟩ | ⟨-, y, -⟩
          · omega
          · omega
          · omega
          · exact y
end
