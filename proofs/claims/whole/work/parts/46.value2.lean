/-! calls, cells, stores, fields -/
section
variable {N : Nat} {X M X0 M0 : St} {z h st dp cn tn vn fn μ : Nat} {θ : Nat → Nat}
theorem fr_new : FR (nI cn) (nI (cn + 1)) (cn + 1) := ⟨cn + 1, Nat.le_refl _, (nI_pred cn).symm, rfl⟩
/-- the second one begins with a new cell -/
theorem v_cell {e : Nat} {v v' f f' c : Int32} (hB : RB X M z h st dp cn tn vn fn θ) (he : e < z) (hk : X 3 e = 76 ∨ X 3 e = 89) (hv : gV M θ tn vn v v') (hf : FR f f' cn) (hc : c = X 8 e) (d3 : X 29 12 = 0) (d4 : X 35 5 = 0) (h1 : cn + phi 1 1 0 (X 47) h + 1 ≤ st) (hp : fn + phi 2 1 0 (X 47) h + 1 ≤ 2 * st + 1) (hμ : 10 * (400 - st) + phi 7 5 3 (X 47) h + 1 ≤ μ) (hX : FX X0 X) (hM : FM M0 M) :
    JJ X0 M0 z μ (f_X4_beginSecondWithCell N (nI e) f v X) (z_bd (f_X10_frameWith N (M 71 (z - 1 - e)) v' f' M) fun r S => f_X10_makes N (M 69 (z - 1 - e)) r c S) := by
  have hz : z ≤ 40 := hB.1.2.1
  have hb := hB.bds
  obtain ⟨a1, a2, a3, a4, a5, a6, a7, a8, a9, a10, a11, a12, a13, a14, a15, a16, a17, a18⟩ := hB.2.1
  obtain ⟨pe1, pe2, pe3⟩ := hB.1.2.2 e he
  have hO : isO (X 3 e) := by rcases hk with q | q <;> rw [q] <;> decide
  obtain ⟨nD, nN⟩ := q_isO_D hO
  rcases pe3 with q | ⟨q, -⟩ | ⟨pO, p1, p2, p3, p4, p5, p6, p7⟩
  · exact absurd q nD
  · exact absurd q nN
  obtain ⟨s, s1, s2, s3, s4⟩ := p4 (by rcases hk with q | q <;> rw [q] <;> decide)
  obtain ⟨w, w1, w2, w3⟩ := p6 (by rcases hk with q | q <;> rw [q] <;> decide)
  unfold f_X4_beginSecondWithCell
  rw [x_pr a1, x_seco (by omega), q_bd, x_pr a1, x_vari (by omega), q_bd, x_cadd a13 (by omega), q_bd, q_bvi, m_frameWith a14 a15 (by omega), q_bd, s2, s3, w2, w3]
  refine j_begin (hB.cell hv hf h1) s1 fr_new d3 d4 ?_ hp hμ ((((hX.wr (by omega) (by omega)).wr (by omega) (by omega)).wr (by omega) (by omega)).wr (by omega) (by omega)) ((((((hM.wr (by omega)).wr (by omega)).wr (by omega)).wr (by omega)).wf (by omega)).wf (by omega))
  show c = X 8 s
  rw [hc, s4, if_pos]
  rcases hk with q | q <;> rw [q] <;> decide
/-- a function's expression begins -/
theorem v_enter {t : Nat} {b : Int32} (hB : RB X M z h st dp cn tn vn fn θ) (ht : t < tn) (hk : X 41 t = 4) (hv : gV M θ tn vn (X 29 10) b) (d3 : X 29 12 = 0) (d4 : X 35 5 = 0) (h1 : cn + phi 1 1 0 (X 47) h + 1 ≤ st) (hp : fn + phi 2 1 0 (X 47) h + 1 ≤ 2 * st + 1) (hμ : 10 * (400 - st) + phi 7 5 3 (X 47) h + 1 ≤ μ) (hX : FX X0 X) (hM : FM M0 M) :
    JJ X0 M0 z μ (b_X4_call_84 N (nI (10000 + t)) X) (b_X10_calls_74 N (nI (θ t)) b M) := by
  have hz : z ≤ 40 := hB.1.2.1
  have hb := hB.bds
  obtain ⟨a1, a2, a3, a4, a5, a6, a7, a8, a9, a10, a11, a12, a13, a14, a15, a16, a17, a18⟩ := hB.2.1
  obtain ⟨hj, hT⟩ := hB.2.2.2.2.2.2.1 t ht
  rcases hT with ⟨-, q2, ⟨e, he, q3, q4, q5, q6⟩, q7⟩ | ⟨-, -, q3⟩
  · obtain ⟨pe1, pe2, pe3⟩ := hB.1.2.2 e he
    rcases pe3 with q | ⟨q, -⟩ | ⟨pO, p1, p2, p3, p4, p5, p6, p7⟩
    · rw [q3] at q; exact absurd q (by decide)
    · rw [q3] at q; exact absurd q (by decide)
    obtain ⟨w, w1, w2, w3⟩ := p6 (Or.inl q3)
    have hcl : (nI (θ t)).toNatClampNeg = θ t := nI_clamp (by omega)
    unfold b_X4_call_84 b_X10_calls_74
    rw [x_ones (by omega), q_bd, q4, x_pr a1, x_vari (by omega), q_bd, x_twos (by omega), q_bd, x_cadd a13 (by omega), q_bd, show ∀ a b, f_X5_firstOf N a (nI e) b = some (nI e + 1, b) from fun _ _ => rfl, q_bd, q_bvi, nI_1]
    rw [q_gd (q_inl (show θ t < 2000 by omega)), q_gd (q_inl (show θ t < 2000 by omega)), q_gd (q_inl (show θ t < 2000 by omega)), hcl, m_frameWith a14 a15 (by omega), q_bd, q_bvi, q5, q6, w2, w3, p2]
    refine j_begin (hB.cell hv q7 h1) p1 fr_new d3 d4 ?_ hp hμ ((((hX.wr (by omega) (by omega)).wr (by omega) (by omega)).wr (by omega) (by omega)).wr (by omega) (by omega)) ((((((hM.wr (by omega)).wr (by omega)).wr (by omega)).wr (by omega)).wf (by omega)).wf (by omega))
    show (1 : Int32) = X 8 (e + 1)
    rw [p3, if_pos q3]
  · rcases q3 with ⟨q, -⟩ | ⟨q, -⟩ | ⟨q, -⟩ | ⟨q, -⟩ <;> rw [hk] at q <;> exact absurd q (by decide)
theorem v_call {e t : Nat} {f b : Int32} (hB : RB X M z h st dp cn tn vn fn θ) (he : e < z) (h64 : X 3 e = 64) (hh : h + 1 ≤ st) (ht : t < tn) (hk : X 41 t = 4) (hv : gV M θ tn vn (X 29 10) b) (d3 : X 29 12 = 0) (d4 : X 35 5 = 0) (h1 : cn + phi 1 1 0 (X 47) h + 1 ≤ st) (hp : fn + phi 2 1 0 (X 47) h + 1 ≤ 2 * st + 1) (hμ : 10 * (400 - st) + phi 7 5 3 (X 47) h + 4 ≤ μ) (hX : FX X0 X) (hM : FM M0 M) :
    JJ X0 M0 z μ (f_X4_call N (nI e) f (nI (10000 + t)) X) (f_X10_calls N (nI (θ t)) b (X 8 e) M) := by
  have hz : z ≤ 40 := hB.1.2.1
  have hb := hB.bds
  obtain ⟨a1, a2, a3, a4, a5, a6, a7, a8, a9, a10, a11, a12, a13, a14, a15, a16, a17, a18⟩ := hB.2.1
  obtain ⟨pe1, pe2, pe3⟩ := hB.1.2.2 e he
  unfold f_X4_call f_X10_calls
  rw [x_pr a1]
  rcases pe2 with q8 | q8
  · rw [x_end0 (by omega) q8, q_bd, if_pos rfl, q8, if_neg (show ¬ (0 : Int32) = 1 by decide), a8, a9]
    by_cases hd : dp < 12
    · rw [if_pos (by show nI dp < nI 12; exact nI_lt hd (by omega)), if_neg (by intro q; have := (nI_eq (a := dp) (b := 12) (by omega) (by omega)).mp q; omega), nI_1, q_lt, q_lt, q_lt]
      have e3 : (z_wr X 29 11 (nI (dp + 1))) 35 3 = X 35 3 := rfl
      have e4 : (z_wr X 29 11 (nI (dp + 1))) 29 11 = nI (dp + 1) := rfl
      have e5 : (z_wr M 65 63 (nI (dp + 1))) 65 64 = X 35 3 := a11.symm
      have e6 : (z_wr M 65 63 (nI (dp + 1))) 65 63 = nI (dp + 1) := rfl
      rw [e3, e4, e5, e6]
      have f1 : ∀ (g : Int32) (a b c : Nat), phi a b c ((z_wr (z_wr (z_wr (z_wr (z_wr (z_wr (z_wr X 29 11 (nI (dp + 1))) 35 3 g) 45 h (nI e)) 46 h f) 47 h 2) 48 h 0) 44 4 (nI (h + 1))) 47) (h + 1) = phi a b c (X 47) h + c := fun g a b c => (phi_p (ws := X 47) (v := 2)).trans (by rw [if_neg (by decide), if_neg (by decide)])
      have go : ∀ g : Int32, JJ X0 M0 z μ (z_bv (f_X8_push N (nI e) f 2 0 (z_wr (z_wr X 29 11 (nI (dp + 1))) 35 3 g)) fun S8 => b_X4_call_84 N (nI (10000 + t)) S8) (b_X10_calls_66 N (nI (θ t)) b g (z_wr M 65 63 (nI (dp + 1)))) := by
        intro g
        unfold b_X10_calls_66
        rw [x_push (show (z_wr (z_wr X 29 11 (nI (dp + 1))) 35 3 g) 44 4 = nI h from a2) (by omega), q_bv, q_lt, m_waitsFor (show (z_wr (z_wr M 65 63 (nI (dp + 1))) 65 64 g) 65 55 = nI h from a3) (by omega), q_bv]
        refine v_enter (hB.push2 (e := e) (b := f) hh he h64 hd (g3 := g)) ht hk hv d3 d4 (by rw [f1]; omega) (by rw [f1]; omega) (by rw [f1]; omega) ?_ ?_
        · exact ((((((hX.wr (by omega) (by omega)).wr (by omega) (by omega)).wr (by omega) (by omega)).wr (by omega) (by omega)).wr (by omega) (by omega)).wr (by omega) (by omega)).wr (by omega) (by omega)
        · exact ((((((hM.wf (by omega)).wf (by omega)).wr (by omega)).wr (by omega)).wr (by omega)).wr (by omega)).wf (by omega)
      by_cases hq : X 35 3 < nI (dp + 1)
      · rw [if_pos hq, if_neg (Int32.not_le.mpr hq)]
        exact go _
      · rw [if_neg hq, if_pos (Int32.not_lt.mp hq)]
        exact go _
    · have hd2 : dp = 12 := by omega
      rw [if_neg (by show ¬ nI dp < nI 12; exact nI_nlt (by omega) (by omega)), if_pos (by rw [hd2]; rfl), q_bvi, q_bvi]
      exact j_fail (by decide) hB (by omega) (by omega) hX hM
  · rw [x_end1 (by omega) q8, q_bd, if_neg (by decide), q8, if_pos rfl, q_lt, q_lt, a12]
    have hB2 : RB (z_wr X 35 4 (M 65 65 + 1)) (z_wr M 65 65 (M 65 65 + 1)) z h st dp cn tn vn fn θ := by
      obtain ⟨b1, b2, b3, b4, b5, b6, b7, b8⟩ := hB
      exact ⟨b1, ⟨a1, a2, a3, a4, a5, a6, a7, a8, a9, a10, a11, rfl, a13, a14, a15, a16, a17, a18⟩, b3, b4, b5, b6, b7, b8⟩
    exact v_enter hB2 ht hk hv d3 d4 h1 hp (by show 10 * (400 - st) + phi 7 5 3 (X 47) h + 1 ≤ μ; omega) (hX.wr (by omega) (by omega)) (hM.wf (by omega))
/-- a cell gets another value -/
theorem RB.setc {c : Nat} {v v' : Int32} (hB : RB X M z h st dp cn tn vn fn θ) (hc : c < cn) (hv : gV M θ tn vn v v') : RB (z_wr X 38 c v) (z_wr M 87 c v') z h st dp cn tn vn fn θ := by
  obtain ⟨b1, b2, b3, b4, b5, b6, b7, b8⟩ := hB
  refine ⟨b1, b2, b3, b4, b5, ?_, b7, b8⟩
  intro i hi
  obtain ⟨g1, g2, g3, g4⟩ := b6 i hi
  refine ⟨g1, g2, g3, ?_⟩
  show gV M θ tn vn (q_up (X 38) c v i) (q_up (M 87) c v' i)
  by_cases e : i = c
  · subst e; rw [q_up_s, q_up_s]; exact hv
  · rw [q_up_n e, q_up_n e]; exact g4
theorem RB.setg {v : Nat} {a : Int32} (hB : RB X M z h st dp cn tn vn fn θ) (ha : -9999 ≤ a ∧ a ≤ 9999) : RB (z_wr X 30 v a) (z_wr M 78 v a) z h st dp cn tn vn fn θ := by
  obtain ⟨b1, b2, b3, b4, b5, b6, b7, b8⟩ := hB
  refine ⟨b1, b2, b3, ?_, b5, b6, b7, b8⟩
  intro i hi
  show q_up (X 30) v a i = q_up (M 78) v a i ∧ -9999 ≤ q_up (X 30) v a i ∧ q_up (X 30) v a i ≤ 9999
  by_cases e : i = v
  · subst e; rw [q_up_s, q_up_s]; exact ⟨rfl, ha⟩
  · rw [q_up_n e, q_up_n e]; exact b4 i hi
theorem v_store {v : Nat} {f f' : Int32} (hN : 1000 ≤ N) (hB : RB X M z h st dp cn tn vn fn θ) (hD : D1 X M tn vn θ) (hv : v < 6) (hf : FR f f' cn) (hp : fn + phi 2 1 0 (X 47) h + 1 ≤ 2 * st + 1) (hμ : 10 * (400 - st) + phi 7 5 3 (X 47) h ≤ μ) (hX : FX X0 X) (hM : FM M0 M) : JJ X0 M0 z μ (f_X4_store N (nI v) f X) (f_X10_puts N (nI v) f' M) := by
  have hb := hB.bds
  obtain ⟨d1, d2, d3, d4, d5⟩ := hD
  obtain ⟨rx, rm, r1, r2, r3⟩ := x_m_look (v := nI v) hN hB hf
  unfold f_X4_store f_X10_puts
  rw [r1, r2, q_bd, q_bd]
  rcases r3 with ⟨rfl, rfl⟩ | ⟨c, hc, rfl, rfl⟩
  · rw [if_pos rfl, if_pos (by decide)]
    obtain ⟨j, hj, ej, hvv⟩ := hB.val d5
    have hcj : (nI j).toNatClampNeg = j := nI_clamp (by omega)
    have hcv : (nI v).toNatClampNeg = v := nI_clamp (by omega)
    rw [ej]
    simp only [hcj, hcv]
    rw [q_gd (q_inl (show j < 2000 by omega))]
    rcases hvv with ⟨k1, k2, k3⟩ | ⟨t, t1, t2, -, g⟩
    · rw [x_isNum1 k3.2, q_bd, if_neg (by decide), x_put (show v < z_ln 30 from hv), q_bv, if_pos k1, q_gd (q_inl (show j < 2000 by omega)), q_gd (q_inl (show v < z_ln 78 from hv)), q_lt, k2]
      exact j_keep (hB.setg k3) ⟨d1, d2, d3, d4, d5⟩ (by show fn + phi 2 1 0 (X 47) h ≤ _; omega) hμ (hX.wr (by omega) (by omega)) (hM.wr (by omega))
    · rw [t2, x_isNum0 (by omega), q_bd, if_pos rfl, if_neg (by rcases g with ⟨-, q⟩ | ⟨q, -⟩ <;> rw [q] <;> decide), q_bvi, q_bvi]
      exact j_fail (by decide) hB (by omega) hμ hX hM
  · rw [if_neg (fun q => by have := nI_pos (n := c) (by omega); rw [q] at this; exact this (by decide)), if_neg (nI_pos (by omega))]
    unfold f_X1_change
    rw [x_put (show c < 400 by omega), q_bv, q_bv, q_gd (q_inl (show c < 1000 by omega)), q_lt, nI_clamp (by omega)]
    have hB2 := hB.setc hc d5
    exact j_keep hB2 ⟨d1, d2, d3, d4, d5⟩ (by show fn + phi 2 1 0 (X 47) h ≤ _; omega) hμ (hX.wr (by omega) (by omega)) (hM.wr (by omega))
end
