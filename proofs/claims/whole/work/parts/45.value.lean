/-! a value comes to what waits for it -/
section
variable {N : Nat} {X M X0 M0 : St} {z h st dp cn tn vn fn μ : Nat} {θ : Nat → Nat}
/-- what a value is -/
theorem RB.val {a b : Int32} (hB : RB X M z h st dp cn tn vn fn θ) (hv : gV M θ tn vn a b) : ∃ j, j < vn ∧ b = nI j ∧ ((M 83 j = 0 ∧ M 84 j = a ∧ -9999 ≤ a ∧ a ≤ 9999) ∨ ∃ t, t < tn ∧ a = nI (10000 + t) ∧ j = θ t ∧ ((X 41 t = 4 ∧ M 83 j = 1) ∨ (M 83 j = 2 ∧ M 84 j = X 41 t ∧ (X 41 t = 0 ∨ X 41 t = 1 ∨ X 41 t = 2 ∨ X 41 t = 3)))) := by
  obtain ⟨j, hj, hb, hv⟩ := hv
  refine ⟨j, hj, hb, ?_⟩
  rcases hv with hv | ⟨t, t1, t2, rfl⟩
  · exact Or.inl hv
  · obtain ⟨-, hT⟩ := hB.2.2.2.2.2.2.1 t t1
    refine Or.inr ⟨t, t1, t2, rfl, ?_⟩
    rcases hT with ⟨q1, q2, -⟩ | ⟨q1, q2, q3⟩
    · exact Or.inl ⟨q1, q2⟩
    · refine Or.inr ⟨q1, q2, ?_⟩
      rcases q3 with ⟨q, -⟩ | ⟨q, -⟩ | ⟨q, -⟩ | ⟨q, -⟩
      · exact Or.inl q
      · exact Or.inr (Or.inl q)
      · exact Or.inr (Or.inr (Or.inl q))
      · exact Or.inr (Or.inr (Or.inr q))
theorem x_func1 {S : St} {n : Nat} (hn : n < 400) (h : S 41 n = 4) : f_X7_isFunction N (nI (10000 + n)) S = some (1, S) := by
  unfold f_X7_isFunction
  rw [x_kind hn, q_bd, h]; rfl
theorem x_func0 {S : St} {n : Nat} (hn : n < 400) (h : S 41 n = 0 ∨ S 41 n = 1 ∨ S 41 n = 2 ∨ S 41 n = 3) : f_X7_isFunction N (nI (10000 + n)) S = some (0, S) := by
  unfold f_X7_isFunction
  rw [x_kind hn, q_bd]
  rcases h with h | h | h | h <;> rw [h] <;> rfl
theorem x_funcN {S : St} {a : Int32} (h : -9999 ≤ a ∧ a ≤ 9999) : f_X7_isFunction N a S = some (0, S) := by
  unfold f_X7_isFunction
  rw [x_kindN h.2 h.1, q_bd]; rfl
/-- the first of two has its value -/
theorem v_first {e : Nat} {c3 : Int32} (hB : RB X M z h st dp cn tn vn fn θ) (hD : D1 X M tn vn θ) (hh : h + 1 ≤ st) (he : e < z) (hk : isK (X 3 e)) (m93 : M 93 h = nI (z - 1 - e)) (hf : FR (X 46 h) (M 95 h) cn) (m96 : M 96 h = X 8 e) (h4 : X 3 e = 64 → ∃ t, t < tn ∧ X 29 10 = nI (10000 + t) ∧ X 41 t = 4) (h1 : cn + phi 1 1 0 (X 47) h + 1 ≤ st) (h2 : tn + phi 1 1 0 (X 47) h + 1 ≤ st) (h3 : vn + phi 1 1 0 (X 47) h + 1 ≤ 2 * st) (hp : fn + phi 2 1 0 (X 47) h + 2 ≤ 2 * st + 1) (hμ : 10 * (400 - st) + phi 7 5 3 (X 47) h + 6 ≤ μ) (hX : FX X0 X) (hM : FM M0 M) :
    JJ X0 M0 z μ (z_bv (f_X8_push N (nI e) (X 46 h) 1 (X 29 10) X) fun S22 => z_bd (f_X5_secondOf N (z_pr S22) (nI e) S22) fun r25 S24 => z_bv (f_X4_begin N r25 (X 46 h) S24) fun S27 => some S27) (f_X10_keepsFirst N (nI (z - 1 - e)) (nI h) M) := by
  have hz : z ≤ 40 := hB.1.2.1
  have hb := hB.bds
  obtain ⟨a1, a2, a3, a4, a5, a6, a7, a8, a9, a10, a11, a12, a13, a14, a15, a16, a17, a18⟩ := hB.2.1
  obtain ⟨d1, d2, d3, d4, d5⟩ := hD
  obtain ⟨pe1, pe2, pe3⟩ := hB.1.2.2 e he
  have hO : isO (X 3 e) := by rcases hk with q | q | q | q | q | q <;> rw [q] <;> decide
  obtain ⟨nD, nN⟩ := q_isO_D hO
  rcases pe3 with q | ⟨q, -⟩ | ⟨pO, p1, p2, p3, p4, p5, p6, p7⟩
  · exact absurd q nD
  · exact absurd q nN
  obtain ⟨s, s1, s2, s3, s4⟩ := p4 (by rcases hk with q | q | q | q | q | q <;> rw [q] <;> decide)
  have hB2 := hB.push1 hh he hk m93 hf m96 d5 h4 h1 h2 h3
  unfold f_X10_keepsFirst
  have hcl : (nI h).toNatClampNeg = h := nI_clamp (by omega)
  have hcl2 : (nI (z - 1 - e)).toNatClampNeg = z - 1 - e := nI_clamp (by omega)
  rw [x_push a2 (by omega), q_bv, nI_1, q_lt, q_gd (q_inl (show h < 800 by omega)), q_lt, q_gd (q_inl (show h < 800 by omega)), q_lt, q_gd (q_inl (show z - 1 - e < 41 by omega)), q_gd (q_inl (show h < 800 by omega)), hcl, hcl2]
  have ep : z_pr (z_wr (z_wr (z_wr (z_wr (z_wr X 45 h (nI e)) 46 h (X 46 h)) 47 h 1) 48 h (X 29 10)) 44 4 (nI (h + 1))) = 2 := x_pr a1
  rw [ep, x_seco (by omega), q_bd, q_bvi, q_bvi]
  have e1 : (z_wr (z_wr (z_wr (z_wr (z_wr X 45 h (nI e)) 46 h (X 46 h)) 47 h 1) 48 h (X 29 10)) 44 4 (nI (h + 1))) 5 e = nI s := s2
  have e2 : (z_wr (z_wr M 65 55 (nI (h + 1))) 94 h 1) 65 60 = M 65 60 := rfl
  rw [e1, e2]
  have e3 : (z_wr (z_wr (z_wr M 65 55 (nI (h + 1))) 94 h 1) 97 h (M 65 60)) 69 (z - 1 - e) = nI (z - 1 - s) := s3
  rw [e3]
  have f1 : ∀ a b c : Nat, phi a b c ((z_wr (z_wr (z_wr (z_wr (z_wr X 45 h (nI e)) 46 h (X 46 h)) 47 h 1) 48 h (X 29 10)) 44 4 (nI (h + 1))) 47) (h + 1) = phi a b c (X 47) h + b := fun a b c => (phi_p (ws := X 47) (v := 1)).trans (by rw [if_neg (by decide), if_pos rfl])
  refine j_begin hB2 s1 hf d3 d4 ?_ (by rw [f1]; omega) (by rw [f1]; omega) (((((hX.wr (by omega) (by omega)).wr (by omega) (by omega)).wr (by omega) (by omega)).wr (by omega) (by omega)).wr (by omega) (by omega)) (((hM.wf (by omega)).wr (by omega)).wr (by omega))
  show (0 : Int32) = X 8 s
  rw [s4, if_neg]
  rcases hk with q | q | q | q | q | q <;> rw [q] <;> decide
/-- numbers are reckoned with -/
theorem v_range {t : Int32} (hB : RB X M z h st dp cn tn vn fn θ) (d3 : X 29 12 = 0) (d4 : X 35 5 = 0) (h3 : vn + phi 1 1 0 (X 47) h + 1 ≤ 2 * st) (hp : fn + phi 2 1 0 (X 47) h + 1 ≤ 2 * st + 1) (hμ : 10 * (400 - st) + phi 7 5 3 (X 47) h ≤ μ) (hX : FX X0 X) (hM : FM M0 M) : JJ X0 M0 z μ (b_X4_reckon_47 N t X) (b_X10_reckons_73 N t M) := by
  have hb := hB.bds
  unfold b_X4_reckon_47 b_X10_reckons_73
  by_cases q1 : t < -9999
  · rw [if_pos q1, m_in0 (fun q => absurd q.1 (Int32.not_le.mpr q1)), q_bd, if_pos rfl]
    unfold b_X4_reckon_65
    rw [q_bvi, q_bvi]
    exact j_fail (by decide) hB (by omega) hμ hX hM
  · rw [if_neg q1]
    by_cases q2 : t ≤ 9999
    · rw [if_pos q2, m_in1 ⟨Int32.not_lt.mp q1, q2⟩, q_bd, if_neg (by decide), m_valueOf hB.2.1.2.2.2.2.2.2.2.2.2.2.2.2.2.2.2.2.1 (by omega), q_bd, q_bvi, q_bvi]
      obtain ⟨hB2, hv⟩ := hB.num (b := 0) (c := 0) ⟨Int32.not_lt.mp q1, q2⟩ h3
      exact j_give hB2 hv d3 d4 (by omega) hμ hX (((((hM.wr (by omega)).wr (by omega)).wr (by omega)).wr (by omega)).wf (by omega))
    · rw [if_neg q2, m_in0 (fun q => q2 q.2), q_bd, if_pos rfl]
      unfold b_X4_reckon_65
      rw [q_bvi, q_bvi]
      exact j_fail (by decide) hB (by omega) hμ hX hM
theorem v_reckon {c a b a' b' : Int32} (hB : RB X M z h st dp cn tn vn fn θ) (hva : gV M θ tn vn a a') (hvb : gV M θ tn vn b b') (d3 : X 29 12 = 0) (d4 : X 35 5 = 0) (h3 : vn + phi 1 1 0 (X 47) h + 1 ≤ 2 * st) (hp : fn + phi 2 1 0 (X 47) h + 1 ≤ 2 * st + 1) (hμ : 10 * (400 - st) + phi 7 5 3 (X 47) h ≤ μ) (hX : FX X0 X) (hM : FM M0 M) : JJ X0 M0 z μ (f_X4_reckon N c a b X) (f_X10_reckons N c a' b' M) := by
  have hb := hB.bds
  obtain ⟨j, hj, rfl, ha⟩ := hB.val hva
  obtain ⟨k, hk, rfl, hb2⟩ := hB.val hvb
  have hcj : (nI j).toNatClampNeg = j := nI_clamp (by omega)
  have hck : (nI k).toNatClampNeg = k := nI_clamp (by omega)
  unfold f_X4_reckon f_X10_reckons
  rw [q_gd (q_inl (show j < 2000 by omega))]
  simp only [hcj, hck]
  have bad : JJ X0 M0 z μ (b_X4_reckon_14 N X) (b_X10_reckons_18 N M) := by
    unfold b_X4_reckon_14 b_X10_reckons_18
    rw [q_bvi, q_bvi]
    exact j_fail (by decide) hB (by omega) hμ hX hM
  rcases ha with ⟨g1, g2, g3⟩ | ⟨t, t1, rfl, -, g⟩
  · rw [x_isNum1 g3.2, q_bd, if_neg (by decide), if_pos g1, q_gd (q_inl (show k < 2000 by omega))]
    rcases hb2 with ⟨k1, k2, k3⟩ | ⟨t, t1, rfl, -, g⟩
    · rw [x_isNum1 k3.2, q_bd, if_neg (by decide), if_pos k1, q_gd (q_inl (show j < 2000 by omega)), q_gd (q_inl (show k < 2000 by omega)), g2, k2]
      by_cases c1 : c = 43
      · rw [if_pos c1, if_pos c1]; exact v_range hB d3 d4 h3 hp hμ hX hM
      · rw [if_neg c1, if_neg c1]
        by_cases c2 : c = 45
        · rw [if_pos c2, if_pos c2]; exact v_range hB d3 d4 h3 hp hμ hX hM
        · rw [if_neg c2, if_neg c2]; exact v_range hB d3 d4 h3 hp hμ hX hM
    · rw [x_isNum0 (by omega), q_bd, if_pos rfl, if_neg (by rcases g with ⟨-, q⟩ | ⟨q, -⟩ <;> rw [q] <;> decide)]
      exact bad
  · rw [x_isNum0 (by omega), q_bd, if_pos rfl, if_neg (by rcases g with ⟨-, q⟩ | ⟨q, -⟩ <;> rw [q] <;> decide)]
    exact bad
end
