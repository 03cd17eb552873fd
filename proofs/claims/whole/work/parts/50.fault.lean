/-! a fault comes to what waits -/
section
variable {N : Nat} {X M X0 M0 : St} {z k st dp cn tn vn fn μ : Nat} {θ : Nat → Nat}
theorem q_code {ca f : Nat} {lc : Int32} {mc mz : Nat → Int32} (h : chn mc mz lc ca f) : mc f = if ca = 0 then lc else 7 := by
  cases ca with
  | zero => exact h.1
  | succ ca => exact h.1
theorem x_code0 {S : St} {ca : Nat} (h5 : S 35 5 = nI ca) (hca : ca < 2000) : f_X2_codeAt N 35 0 S = some ((if ca = 0 then S 35 6 else 7), S) := by
  unfold f_X2_codeAt
  rw [h5]
  by_cases h : ca = 0
  · rw [if_pos h, if_pos (by rw [h]; decide)]
  · rw [if_neg h, if_neg (nI_nle (by omega) (by omega))]
/-- the class's turn behind the pop -/
theorem x_passFault {h : Nat} {S : St} (h44 : S 44 4 = nI (h + 1)) (hh : h < 400) (h6 : S 29 6 = 1) {e : Nat} (he : e < 40) (h45 : S 45 h = nI e) : f_X4_passFaultOn N S = (if S 3 e = 64 then (if S 47 h = 2 then some (z_wr (z_wr S 44 4 (nI h)) 29 11 (S 29 11 - 1)) else b_X4_passFaultOn_70 N (nI e) (S 3 e) (z_wr S 44 4 (nI h))) else b_X4_passFaultOn_70 N (nI e) (S 3 e) (z_wr S 44 4 (nI h))) := by
  unfold f_X4_passFaultOn
  rw [x_emptyS h44 (by omega), q_bd, if_pos rfl, x_pop h44, q_bv, x_wexp (show (z_wr S 44 4 (nI h)) 44 4 = nI h from rfl) hh, q_bd]
  rw [show (z_wr S 44 4 (nI h)) 45 h = nI e from h45, x_pr (show (z_wr S 44 4 (nI h)) 29 6 = 1 from h6), x_sign he, q_bd, x_wstg (show (z_wr S 44 4 (nI h)) 44 4 = nI h from rfl) hh, q_bd]
  rfl
set_option maxHeartbeats 1000000 in
theorem s_fault (hN : 1000 ≤ N) (hR : R2 X M z μ) (hne : ¬ M 65 55 ≤ 0) : JJ X M z (μ - 1) (f_X4_passFaultOn N X) (f_X10_falls N M) := by
  obtain ⟨h, st, dp, cn, tn, vn, fn, θ, hB, hD, hp, hμ⟩ := hR
  have hb := hB.bds
  have hz : z ≤ 40 := hB.1.2.1
  have a1 := hB.2.1.1
  have a2 := hB.2.1.2.1
  have a3 := hB.2.1.2.2.1
  have a8 := hB.2.1.2.2.2.2.2.2.2.1
  have a9 := hB.2.1.2.2.2.2.2.2.2.2.1
  cases h with
  | zero => rw [a3] at hne; exact absurd (by decide) hne
  | succ k =>
    obtain ⟨e, he, wx, hE⟩ := hB.2.2.2.2.2.2.2 k (by omega)
    rw [x_passFault a2 (by omega) a1 (by omega) wx]
    unfold f_X10_falls
    rw [a3, q_sub1, q_lt]
    have hck : (nI k).toNatClampNeg = k := nI_clamp (by omega)
    rw [show (z_wr M 65 55 (nI k)) 65 55 = nI k from rfl, q_gd (q_inl (show k < 800 by omega))]
    simp only [hck]
    have hX1 : FX X (z_wr X 44 4 (nI k)) := FX.rf.wr (by omega) (by omega)
    have hM1 : FM M (z_wr M 65 55 (nI k)) := FM.rf.wf (by omega)
    rcases hE with ⟨s2, hc, me⟩ | ⟨hs, hO, h7, me, mp, hf, md⟩
    · obtain ⟨hdp, hB2⟩ := hB.pop2 s2
      rw [phi_s2 s2] at hp hμ
      rw [if_pos hc, if_pos s2]
      rw [show (z_wr M 65 55 (nI k)) 93 k = -1 from me, if_pos rfl, q_lt]
      obtain ⟨d, rfl⟩ : ∃ d, dp = d + 1 := ⟨dp - 1, by omega⟩
      rw [a8, show (z_wr M 65 55 (nI k)) 65 63 = nI (d + 1) from a9, q_sub1]
      obtain ⟨d1, d2, d3, ca, f, d4, d5, d6, d7, d8, d9⟩ := hD
      exact j_keepF hB2 ⟨d1, d2, d3, ca, f, d4, d5, d6, by omega, d8, d9⟩ (by show fn + phi 2 1 0 (X 47) k ≤ _; omega) (by show 10 * (400 - st) + phi 7 5 3 (X 47) k ≤ _; omega) (hX1.wr (by omega) (by omega)) (hM1.wf (by omega))
    · have hs2 : X 47 k = 0 ∨ X 47 k = 1 := by
        rcases hs with q | ⟨q, -⟩
        · exact Or.inl q
        · exact Or.inr q
      have hs3 : ¬ X 47 k = 2 := by rcases hs2 with q | q <;> rw [q] <;> decide
      have hphi : phi 2 1 0 (X 47) k + 1 ≤ phi 2 1 0 (X 47) (k + 1) ∧ phi 7 5 3 (X 47) k + 5 ≤ phi 7 5 3 (X 47) (k + 1) := by
        rcases hs2 with q | q
        · rw [phi_s0 q, phi_s0 q]; omega
        · rw [phi_s1 q, phi_s1 q]; omega
      obtain ⟨hB2, h1, h2, h3⟩ := hB.pop hs2
      obtain ⟨pe1, pe2, pe3⟩ := hB.1.2.2 e he
      obtain ⟨d1, d2, d3, ca, f, d4, d5, d6, d7, d8, d9⟩ := hD
      have hcf : (nI f).toNatClampNeg = f := nI_clamp (by omega)
      have hce : (nI (z - 1 - e)).toNatClampNeg = z - 1 - e := nI_clamp (by omega)
      have n1 : ¬ nI (z - 1 - e) = -1 := fun q => by have := nI_pos (n := z - 1 - e) (by omega); rw [q] at this; exact this (by decide)
      have i67 : z - 1 - e < z_ln 67 := show z - 1 - e < 41 by omega
      rw [show (z_wr M 65 55 (nI k)) 93 k = nI (z - 1 - e) from me, if_neg n1]
      rw [show (z_wr M 65 55 (nI k)) 65 61 = nI f from d5]
      simp only [hcf, hce]
      rw [q_gd (q_inl (show f < 1000 by omega)), q_gd (q_inl i67), show (z_wr M 65 55 (nI k)) 67 (z - 1 - e) = X 3 e from pe1]
      have hcd : (z_wr M 65 55 (nI k)) 91 f = if ca = 0 then X 35 6 else 7 := q_code d8
      rw [hcd]
      have hxx : (if X 3 e = 64 then (if X 47 k = 2 then some (z_wr (z_wr X 44 4 (nI k)) 29 11 (X 29 11 - 1)) else b_X4_passFaultOn_70 N (nI e) (X 3 e) (z_wr X 44 4 (nI k))) else b_X4_passFaultOn_70 N (nI e) (X 3 e) (z_wr X 44 4 (nI k))) = b_X4_passFaultOn_70 N (nI e) (X 3 e) (z_wr X 44 4 (nI k)) := by
        by_cases q : X 3 e = 64
        · rw [if_pos q, if_neg hs3]
        · rw [if_neg q]
      rw [hxx]
      have hD2 : D2 (z_wr X 44 4 (nI k)) (z_wr M 65 55 (nI k)) fn k st := ⟨d1, d2, d3, ca, f, d4, d5, d6, by omega, d8, d9⟩
      have e67 : (z_wr M 65 55 (nI k)) 67 (z - 1 - e) = X 3 e := pe1
      have e3 : (z_wr X 44 4 (nI k)) 3 e = X 3 e := rfl
      have e44 : (z_wr X 44 4 (nI k)) 44 4 = nI k := rfl
      have e55 : (z_wr M 65 55 (nI k)) 65 55 = nI k := rfl
      have e46 : (z_wr X 44 4 (nI k)) 46 k = X 46 k := rfl
      have ef : FR ((z_wr X 44 4 (nI k)) 46 k) ((z_wr M 65 55 (nI k)) 95 k) cn := hf
      have ed : (z_wr M 65 55 (nI k)) 96 k = (z_wr X 44 4 (nI k)) 8 e := md
      have ep : ∀ a b c, phi a b c ((z_wr X 44 4 (nI k)) 47) k = phi a b c (X 47) k := fun _ _ _ => rfl
      have e35 : (z_wr X 44 4 (nI k)) 35 5 = nI ca := d4
      have e356 : (z_wr X 44 4 (nI k)) 35 6 = X 35 6 := rfl
      unfold b_X4_passFaultOn_70
      by_cases c87 : X 3 e = 87
      · rw [if_pos c87, if_pos c87, q_lt]
        have a18 : (z_wr M 65 55 (nI k)) 65 49 = nI fn := hB2.2.1.2.2.2.2.2.2.2.2.2.2.2.2.2.2.2.2.2
        rw [m_faultOf a18 (by omega), q_bd, q_lt]
        unfold b_X10_falls_71
        rw [q_gd (q_inl i67)]
        simp only [hce]
        rw [show (z_wr (z_wr (z_wr (z_wr (z_wr M 65 55 (nI k)) 91 fn 7) 92 fn (nI f)) 65 49 (nI (fn + 1))) 65 61 (nI fn)) 67 (z - 1 - e) = X 3 e from pe1, if_neg (by rw [c87]; decide)]
        rw [e35, nI_1]
        have hB3 : RB (z_wr (z_wr X 44 4 (nI k)) 35 5 (nI (ca + 1))) (z_wr (z_wr (z_wr (z_wr (z_wr M 65 55 (nI k)) 91 fn 7) 92 fn (nI f)) 65 49 (nI (fn + 1))) 65 61 (nI fn)) z k st dp cn tn vn (fn + 1) θ := by
          obtain ⟨b1, b2, b3, b4, b5, b6, b7, b8⟩ := hB2
          obtain ⟨a1, a2, a3, a4, a5, a6, a7, a8, a9, a10, a11, a12, a13, a14, a15, a16, a17, a18⟩ := b2
          exact ⟨b1, ⟨a1, a2, a3, a4, a5, a6, a7, a8, a9, a10, a11, a12, a13, a14, a15, a16, a17, rfl⟩, b3, b4, b5, b6, b7, b8⟩
        refine j_keepF hB3 ⟨d1, d2, d3, ca + 1, fn, rfl, rfl, by omega, by omega, ⟨q_up_s, f, d6, q_up_s, ?_⟩, d9⟩ (by rw [show phi 2 1 0 ((z_wr (z_wr X 44 4 (nI k)) 35 5 (nI (ca + 1))) 47) k = phi 2 1 0 (X 47) k from rfl]; omega) (by rw [show phi 7 5 3 ((z_wr (z_wr X 44 4 (nI k)) 35 5 (nI (ca + 1))) 47) k = phi 7 5 3 (X 47) k from rfl]; omega) (hX1.wr (by omega) (by omega)) ((((hM1.wr (by omega)).wr (by omega)).wf (by omega)).wf (by omega))
        exact chn_eq d8 (fun g hg => ⟨q_up_l (by omega), q_up_l (by omega)⟩)
      · rw [if_neg c87, if_neg c87]
        unfold b_X10_falls_71
        rw [q_gd (q_inl i67)]
        simp only [hce]
        rw [e67]
        generalize hX1e : z_wr X 44 4 (nI k) = X1 at *
        generalize hM1e : z_wr M 65 55 (nI k) = M1 at *
        by_cases c89 : X 3 e = 89
        · have hx0 := x_code0 (N := N) e35 (by omega)
          rw [e356] at hx0
          rw [if_pos c89, if_pos c89, hx0, q_bd]
          have hcr : -9999 ≤ (if ca = 0 then X 35 6 else 7) ∧ (if ca = 0 then X 35 6 else 7) ≤ 9999 := by
            by_cases q : ca = 0
            · rw [if_pos q]; exact d9
            · rw [if_neg q]; decide
          generalize (if ca = 0 then X 35 6 else 7) = cd at *
          unfold f_X4_isCaught
          by_cases q5 : cd = 5
          · rw [if_pos q5, q_bd, if_pos rfl, if_pos q5]
            exact j_keepF hB2 hD2 (by rw [ep]; omega) (by rw [ep]; omega) hX1 hM1
          · rw [if_neg q5, if_neg q5]
            by_cases q6 : cd = 6
            · rw [if_pos q6, q_bd, if_pos rfl, if_pos q6]
              exact j_keepF hB2 hD2 (by rw [ep]; omega) (by rw [ep]; omega) hX1 hM1
            · rw [if_neg q6, if_neg q6, q_bd, if_neg (by decide)]
              have hs0 : X 47 k = 0 := by
                rcases hs with q | ⟨-, -, q, -⟩
                · exact q
                · rw [c89] at q; exact absurd q (by decide)
              rw [phi_s0 hs0, phi_s0 hs0] at hphi
              rw [phi_s0 hs0] at hp hμ
              rw [hx0, q_bd, show f_X4_forgetFault N X1 = some (z_wr (z_wr (z_wr X1 29 12 0) 35 5 0) 35 6 0) from rfl, q_bv]
              rw [x_wfrm (show (z_wr (z_wr (z_wr X1 29 12 0) 35 5 0) 35 6 0) 44 4 = nI k from e44) (by omega), q_bd, q_bvi]
              have a17 : M1 65 46 = nI vn := hB2.2.1.2.2.2.2.2.2.2.2.2.2.2.2.2.2.2.2.1
              rw [q_gd (q_inl (show z - 1 - e < 41 by omega)), q_gd (q_inl (show z - 1 - e < 41 by omega)), m_valueOf a17 (by omega), q_bd]
              have hBx : RB (z_wr (z_wr (z_wr X1 29 12 0) 35 5 0) 35 6 0) M1 z k st dp cn tn vn fn θ := hB2
              obtain ⟨hB3, hv⟩ := hBx.num (b := 0) (c := 0) hcr (by show vn + phi 1 1 0 (X1 47) k + 1 ≤ 2 * st; rw [ep]; exact h3)
              have hX3 : FX X (z_wr (z_wr (z_wr X1 29 12 0) 35 5 0) 35 6 0) := ((hX1.wr (by omega) (by omega)).wr (by omega) (by omega)).wr (by omega) (by omega)
              have hM3 : FM M (z_wr (z_wr (z_wr (z_wr (z_wr M1 83 vn 0) 84 vn cd) 85 vn 0) 86 vn 0) 65 46 (nI (vn + 1))) := ((((hM1.wr (by omega)).wr (by omega)).wr (by omega)).wr (by omega)).wf (by omega)
              have e55' : (z_wr (z_wr (z_wr (z_wr (z_wr M1 83 vn 0) 84 vn cd) 85 vn 0) 86 vn 0) 65 46 (nI (vn + 1))) 65 55 = nI k := e55
              have hce' := hce
              have e1 := v_cell (N := N) (μ := μ - 1) (v := cd) (v' := nI vn) (f := X1 46 k) (f' := M1 95 k) (c := M1 96 k) (e := e) hB3 he (Or.inr (show X1 3 e = 89 from e3.trans c89)) hv ef ed rfl rfl (by show cn + phi 1 1 0 (X1 47) k + 1 ≤ st; rw [ep]; exact h1) (by show fn + phi 2 1 0 (X1 47) k + 1 ≤ 2 * st + 1; rw [ep]; omega) (by show 10 * (400 - st) + phi 7 5 3 (X1 47) k + 1 ≤ μ - 1; rw [ep]; omega) hX3 hM3
              rw [e55', q_gd (q_inl (show k < 800 by omega))]
              simp only [hck]
              have b14 := hB3.2.1.2.2.2.2.2.2.2.2.2.2.2.2.2.1
              have b15 := hB3.2.1.2.2.2.2.2.2.2.2.2.2.2.2.2.2.1
              rw [m_frameWith b14 b15 (by omega), q_bd] at e1
              rw [show (z_wr (z_wr (z_wr (z_wr (z_wr M1 83 vn 0) 84 vn cd) 85 vn 0) 86 vn 0) 65 46 (nI (vn + 1))) 95 k = M1 95 k from rfl]
              rw [m_frameWith b14 b15 (by omega), q_bd]
              rw [show ∀ S : St, (z_wr (z_wr S 65 47 (nI (cn + 1))) 65 48 (nI (cn + 2))) 65 55 = S 65 55 from fun _ => rfl]
              rw [show (z_wr (z_wr (z_wr (z_wr (z_wr (z_wr (z_wr (z_wr (z_wr M1 83 vn 0) 84 vn cd) 85 vn 0) 86 vn 0) 65 46 (nI (vn + 1))) 87 cn (nI vn)) 88 (cn + 1) (M1 71 (z - 1 - e))) 89 (cn + 1) (nI cn)) 90 (cn + 1) (M1 95 k)) 65 55 = nI k from e55]
              rw [q_gd (q_inl (show k < 800 by omega)), hck, q_bvi]
              exact e1
        · rw [if_neg c89, if_neg c89]
          exact j_keepF hB2 hD2 (by rw [ep]; omega) (by rw [ep]; omega) hX1 hM1
end
