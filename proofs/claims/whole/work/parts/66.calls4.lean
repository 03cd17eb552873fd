/-! run, program -/
section
variable {N : Nat} {X M : St}
theorem site_lt {tx sg va se th si en : Nat → Int32} {n : Nat} (hW : ∀ k, k < n → WK tx sg va se th si en k) {e : Nat} (he : e < ne tx n) (hq : isQ (sg e)) : ∃ s, s < ns tx n ∧ si e = nI s := by
  obtain ⟨p, hp, ⟨x, r, hs, hb⟩, hpe⟩ := ex_at (tx := tx) n e he
  obtain ⟨x', r', hs', -, w⟩ := hW p hp
  rw [hs] at hs'
  obtain ⟨rfl, rfl⟩ := List.cons.inj hs'
  obtain ⟨w1, w2, w3, -⟩ := w hb
  rw [hpe] at w1 w2 w3
  have hq2 : isQ (tx p) := by rw [← w1]; exact hq
  have s3 := (sk_e hs hb).2.2
  rw [if_pos hq2] at s3
  have := ns_mono (tx := tx) (j := p + 1) (k := n) (by omega)
  exact ⟨ns tx p, by omega, w3 hq2⟩
def KR (A B : St) : Prop := (∀ v, v < 6 → B 9 v = A 30 v) ∧ (∀ k, k < 10 → B 11 k = A 32 k ∧ B 12 k = A 33 k ∧ B 13 k = A 34 k) ∧ (∀ k, k < 7 → B 14 k = A 35 k) ∧ B 1 4 = 1 ∧ B 1 5 = (if 99 < A 1 5 + 1 then 99 else A 1 5 + 1) ∧ ∀ o, o ≠ 1 ∧ o ≠ 9 ∧ o ≠ 11 ∧ o ≠ 12 ∧ o ≠ 13 ∧ o ≠ 14 → B o = A o
theorem x_end7 {S : St} {a b : Nat} (hab : a ≠ b) : ∃ S', f_X2_copyFrom N a b S = some S' ∧ (∀ k, k < 7 → S' a k = S b k) ∧ ∀ o, o ≠ a → S' o = S o := by
  unfold f_X2_copyFrom
  simp only [q_lt]
  have hba : b ≠ a := fun q => hab q.symm
  refine ⟨_, rfl, fun k hk => ?_, fun o ho => ?_⟩
  · have : k = 0 ∨ k = 1 ∨ k = 2 ∨ k = 3 ∨ k = 4 ∨ k = 5 ∨ k = 6 := by omega
    rcases this with q | q | q | q | q | q | q <;> subst q <;> simp [q_ap, hba]
  · rw [z_wr_o ho, z_wr_o ho, z_wr_o ho, z_wr_o ho, z_wr_o ho, z_wr_o ho, z_wr_o ho]
theorem x_keep {S : St} : ∃ S', f_X6_keepRun N S = some S' ∧ KR S S' := by
  unfold f_X6_keepRun f_X0_copyFrom
  rw [show z_rfS 10 0 = 11 from rfl, show z_rfS 31 0 = 32 from rfl, show z_rfS 10 1 = 12 from rfl, show z_rfS 31 1 = 33 from rfl, show z_rfS 10 2 = 13 from rfl, show z_rfS 31 2 = 34 from rfl]
  rw [x_cp (n := 6) rfl rfl, q_bv, x_cp (n := 10) rfl rfl, q_bv, x_cp (n := 10) rfl rfl, q_bv, x_cp (n := 10) rfl rfl, q_bv, q_bv]
  generalize hS1 : z_cp (z_cp (z_cp (z_cp S 30 9 6) 32 11 10) 33 12 10) 34 13 10 = S1
  have e1 : ∀ o, o ≠ 9 ∧ o ≠ 11 ∧ o ≠ 12 ∧ o ≠ 13 → S1 o = S o := fun o ho => by rw [← hS1, z_cp_o (by omega), z_cp_o (by omega), z_cp_o (by omega), z_cp_o (by omega)]
  have e2 : ∀ v, v < 6 → S1 9 v = S 30 v := fun v hv => by rw [← hS1, z_cp_o (by omega), z_cp_o (by omega), z_cp_o (by omega), z_cp_s hv]
  have e3 : ∀ k, k < 10 → S1 11 k = S 32 k ∧ S1 12 k = S 33 k ∧ S1 13 k = S 34 k := fun k hk => by
    rw [← hS1]
    refine ⟨?_, ?_, ?_⟩
    · rw [z_cp_o (by omega), z_cp_o (by omega), z_cp_s hk, z_cp_o (by omega)]
    · rw [z_cp_o (by omega), z_cp_s hk, z_cp_o (by omega), z_cp_o (by omega)]
    · rw [z_cp_s hk, z_cp_o (by omega), z_cp_o (by omega), z_cp_o (by omega)]
  obtain ⟨S2, r1, r2, r3⟩ := x_end7 (N := N) (S := S1) (a := 14) (b := 35) (by omega)
  rw [r1, q_bv, q_lt, q_lt]
  refine ⟨_, rfl, fun v hv => ?_, fun k hk => ?_, fun k hk => ?_, rfl, ?_, fun o ho => ?_⟩
  · rw [z_wr_o (by omega), z_wr_o (by omega), r3 9 (by omega)]; exact e2 v hv
  · rw [z_wr_o (by omega), z_wr_o (by omega), r3 11 (by omega), z_wr_o (by omega), z_wr_o (by omega), r3 12 (by omega), z_wr_o (by omega), z_wr_o (by omega), r3 13 (by omega)]; exact e3 k hk
  · rw [z_wr_o (by omega), z_wr_o (by omega), r2 k hk, e1 35 (by omega)]
  · have : S2 1 5 = S 1 5 := by rw [r3 1 (by omega), e1 1 (by omega)]
    show (if 99 < S2 1 5 + 1 then 99 else S2 1 5 + 1) = _
    rw [this]
  · rw [z_wr_o (by omega), z_wr_o (by omega), r3 o (by omega), e1 o (by omega)]
theorem p_run (hN : 5000 ≤ N) (h : Rel X M) : PB (f_X9_run N X) (f_X10_run N M) := by
  obtain ⟨X1, x1, x2⟩ := x_takeUp (N := N) (X := X)
  obtain ⟨tx, n, hR, hS⟩ := RD.of h.1 x2 (M1 := M) (fun _ _ => rfl)
  obtain ⟨X2, M2, g1, g2, g3, g4, g5, g6⟩ := t_go hN hR
  obtain ⟨M3, m1, m29, m30, m31, m32, m33, m34, mw, mc, mo, mk⟩ := m_tells hN g3
  obtain ⟨X3, k1, k2, k3, k4, k5, k6, k7⟩ := x_keep (N := N) (S := X2)
  have hx : ∀ o, o < 29 ∨ 49 ≤ o → X2 o = X o := fun o ho => by rw [g5.1 o ho]; exact x2.2.2.2 o ho
  obtain ⟨s1, ⟨s2, s3, s4⟩, ⟨s5, s6, s7, s8⟩, s9, s10, s11, s12, rr, r1, r2, r3⟩ := hS
  have m35 : M3 65 35 = nI rr := by rw [mk 35 (by omega), g6.2 35 (by omega)]; exact r3
  have x15 : X2 1 5 = nI rr := by rw [hx 1 (by omega)]; exact r2
  have sup : ∀ M4 : St, (∀ o, o ≠ 65 → M4 o = M3 o) → (∀ k, k ≠ 35 → M4 65 k = M3 65 k) → (∃ r, r ≤ 99 ∧ X3 1 5 = nI r ∧ M4 65 35 = nI r) → Rel X3 M4 := by
    intro M4 q1 q2 q3
    have hm : ∀ o, (66 ≤ o ∧ o ≤ 77) ∨ 98 ≤ o → M4 o = M o := fun o ho => by rw [q1 o (by omega), mo o (by omega), g6.1 o (by omega)]
    have hm2 : ∀ k, k < 29 ∨ (36 ≤ k ∧ k < 46) ∨ k = 69 ∨ k = 72 → M4 65 k = M 65 k := fun k hk => by rw [q2 k (by omega), mk k (by omega), g6.2 k (by omega)]
    have hx3 : ∀ o, o ≠ 1 ∧ o ≠ 9 ∧ o ≠ 11 ∧ o ≠ 12 ∧ o ≠ 13 ∧ o ≠ 14 ∧ (o < 29 ∨ 49 ≤ o) → X3 o = X o := fun o ho => by rw [k7 o (by omega), hx o (by omega)]
    obtain ⟨⟨tx', n', t1, t2, t3⟩, ⟨L, l1, l2, l3, l4⟩, ⟨R, w1, w2, w3, w4⟩, h5, h6⟩ := h
    refine ⟨⟨tx, n, ⟨s1, ⟨?_, ?_, ?_⟩, ⟨?_, ?_, ?_, ?_⟩, ?_, ?_, ?_, ?_, ?_⟩, ?_, ?_⟩, ⟨L, l1, by rw [hx3 56 (by omega)]; exact l2, by rw [hm2 15 (by omega)]; exact l3, fun j hj => by rw [hx3 57 (by omega), hm 72 (by omega)]; exact l4 j hj⟩, ⟨R, w1, by rw [hx3 0 (by omega)]; exact w2, by rw [hm2 69 (by omega)]; exact w3, fun j hj => by rw [hx3 62 (by omega), hm 100 (by omega)]; exact w4 j hj⟩, fun j hj => by rw [hx3 63 (by omega), hm 66 (by omega)]; exact h5 j hj, h6.eq (by rw [hx3 0 (by omega)]) (fun o ho => hx3 o (by omega)) (hm2 72 (by omega)) (hm 101 (by omega))⟩
    · show X3 2 6 = _
      rw [hx3 2 (by omega)]; exact s2
    · show X3 2 7 = _
      rw [hx3 2 (by omega)]; exact s3
    · show ∀ k, k < n → WK tx (X3 3) (X3 4) (X3 5) (X3 6) (X3 7) (X3 8) k
      rw [hx3 3 (by omega), hx3 4 (by omega), hx3 5 (by omega), hx3 6 (by omega), hx3 7 (by omega), hx3 8 (by omega)]
      exact s4
    · show M4 65 16 = _
      rw [hm2 16 (by omega)]; exact s5
    · show M4 65 6 = _
      rw [hm2 6 (by omega)]; exact s6
    · show M4 65 7 = _
      rw [hm2 7 (by omega)]; exact s7
    · show TF tx n (M4 73) (M4 74)
      rw [hm 73 (by omega), hm 74 (by omega)]; exact s8
    · show RGl (X3 9) (M4 78)
      intro v hv
      rw [k2 v hv, q1 78 (by omega), mo 78 (by omega)]
      exact g4.2.2.2.2.2.1 v hv
    · show RCa (X3 11) (X3 12) (X3 13) (M4 79) (M4 80) (M4 81)
      intro k hk
      rw [(k3 k hk).1, (k3 k hk).2.1, (k3 k hk).2.2, q1 79 (by omega), q1 80 (by omega), q1 81 (by omega), mo 79 (by omega), mo 80 (by omega), mo 81 (by omega)]
      exact g4.2.2.2.2.2.2 k hk
    · show ∀ k, ns tx n ≤ k → k < 10 → X3 11 k = 0
      intro k hk hk2
      rw [(k3 k hk2).1, g5.2.2 k ?_, (x2.2.2.1 k hk2).1]
      · exact s11 k hk hk2
      · intro e he he2 hq
        rw [x2.2.2.2 2 (by omega), show X 2 6 = nI (ne tx n) from s2] at he2
        rw [x2.2.2.2 3 (by omega)] at hq
        rw [x2.2.2.2 7 (by omega)]
        have hez : e < ne tx n := by
          rcases Nat.lt_or_ge e (ne tx n) with q | q
          · exact q
          · exact absurd he2 (Int32.not_lt.mpr (nI_le q (by omega)))
        obtain ⟨s, hs, es⟩ := site_lt (sg := X 3) (si := X 7) s4 hez hq
        rw [es]
        intro q
        have := (nI_eq (by omega) (by omega)).mp q
        omega
    · show LR (X3 1) (X3 14) (M4 82) (mL M4 7)
      refine Or.inr ⟨k5, ?_, ?_, ?_, ?_, ?_, ?_, ?_, ?_⟩
      · obtain ⟨w, w1, w2⟩ := mw
        exact ⟨w, w1, (show M4 65 29 = _ by rw [q2 29 (by omega), m29]; exact w2)⟩
      · show X3 14 0 = M4 65 29
        rw [k4 0 (by omega), q2 29 (by omega), m29]
      · show X3 14 1 = M4 65 30
        rw [k4 1 (by omega), q2 30 (by omega), m30]
      · show X3 14 2 = M4 65 31
        rw [k4 2 (by omega), q2 31 (by omega), m31]
      · show X3 14 3 = M4 65 32
        rw [k4 3 (by omega), q2 32 (by omega), m32]
      · show X3 14 4 = M4 65 33
        rw [k4 4 (by omega), q2 33 (by omega), m33]
      · show X3 14 5 = M4 65 34
        rw [k4 5 (by omega), q2 34 (by omega), m34]
      · show M4 65 29 = 3 → ∃ ca, ca < 450 ∧ M4 65 34 = nI ca ∧ (∀ i, i < ca → M4 82 i = 7) ∧ M4 82 ca = X3 14 6
        rw [q2 29 (by omega), m29, q2 34 (by omega), m34, q1 82 (by omega), k4 6 (by omega)]
        exact mc
    · exact q3
    · exact fun p hp => (g4.2.2.2.1 p hp).eq (fun o ho => by rw [q1 o (by omega), mo o (by omega)])
    · rw [q2 8 (by omega), mk 8 (by omega)]
      exact g4.2.2.2.2.1
  unfold f_X9_run f_X10_run f_X9_thinkOf
  rw [x1, q_bv, g1, q_bv, q_bv, k1, q_bv, g2, q_bv, m1, q_bv, m35, k4 0 (by omega)]
  by_cases q : rr = 99
  · subst q
    rw [if_pos (by decide), q_lt]
    refine ⟨_, _, _, rfl, ?_, sup (z_wr M3 65 35 (nI 99)) (fun o ho => z_wr_o ho) (fun k hk => z_wr_k hk) ⟨99, by omega, by rw [k6, x15]; decide, rfl⟩⟩
    show some (M3 65 29, _) = _
    rw [m29]
  · rw [if_neg (show ¬ (99 : Int32) ≤ nI rr from (show ¬ nI 99 ≤ nI rr from nI_ge (by omega) (by omega))), q_lt, nI_1]
    refine ⟨_, _, _, rfl, ?_, sup (z_wr M3 65 35 (nI (rr + 1))) (fun o ho => z_wr_o ho) (fun k hk => z_wr_k hk) ⟨rr + 1, by omega, ?_, rfl⟩⟩
    · show some (M3 65 29, _) = _
      rw [m29]
    · rw [k6, x15, nI_1, if_neg]
      show ¬ nI 99 < nI (rr + 1)
      exact Int32.not_lt.mpr (nI_le (by omega) (by omega))
end
