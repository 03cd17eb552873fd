/-! a run from its start to its end -/
section
variable {N : Nat}
/-- how a run ended, here and there -/
def ER (N : Nat) (X M : St) : Prop :=
  (∃ st, st ≤ 400 ∧ X 35 2 = nI st ∧ M 65 62 = nI st) ∧ X 35 3 = M 65 64 ∧ X 35 4 = M 65 65 ∧
  f_X10_howNow N M = some (X 35 0, M) ∧ f_X10_numberNow N M = some (X 35 1, M) ∧ f_X10_causesNow N M = some (X 35 5, M) ∧
  ((M 65 56 = 2 ∧ X 35 0 = 3 ∧ ∃ ca f, X 35 5 = nI ca ∧ M 65 61 = nI f ∧ f < 900 ∧ (ca ≤ f ∧ ca ≤ 400) ∧ chn (M 91) (M 92) (X 35 6) ca f) ∨ (M 65 56 = 1 ∧ (X 35 0 = 0 ∨ X 35 0 = 1 ∨ X 35 0 = 2) ∧ X 35 5 = 0))
def EE (N : Nat) (X M X' M' : St) : Prop := ER N X' M' ∧ RGl (X' 30) (M' 78) ∧ RCa (X' 32) (X' 33) (X' 34) (M' 79) (M' 80) (M' 81) ∧ FX X X' ∧ FM M M'
theorem m_causes {M : St} {lc : Int32} : ∀ (ca f i n : Nat), chn (M 91) (M 92) lc ca f → ca ≤ f → f < 1000 → i + ca < 5000 → ca < n → f_X10_causesNow_25 N n (nI i) (M 92 f) M = some (nI (i + ca), M) := by
  intro ca
  induction ca with
  | zero =>
    intro f i n h _ _ hi hn
    obtain ⟨n, rfl⟩ : ∃ m, n = m + 1 := ⟨n - 1, by omega⟩
    show b_X10_causesNow_25 N (f_X10_causesNow_25 N n) (nI i) (M 92 f) M = _
    unfold b_X10_causesNow_25
    rw [h.2, if_pos (by decide)]
    rfl
  | succ ca ih =>
    intro f i n h hf hf2 hi hn
    obtain ⟨h1, g, hg, h2, h3⟩ := h
    obtain ⟨n, rfl⟩ : ∃ m, n = m + 1 := ⟨n - 1, by omega⟩
    show b_X10_causesNow_25 N (f_X10_causesNow_25 N n) (nI i) (M 92 f) M = _
    unfold b_X10_causesNow_25
    rw [h2, if_neg (nI_pos (by omega)), q_gd (q_inl (show g < 1000 by omega)), nI_clamp (by omega), nI_1]
    have hcag : ca ≤ g := by
      have : ∀ (c g : Nat), chn (M 91) (M 92) lc c g → c ≤ g := by
        intro c
        induction c with
        | zero => intro g _; omega
        | succ c ih2 => intro g hh; obtain ⟨-, g', hg', -, h3'⟩ := hh; have := ih2 g' h3'; omega
      exact this ca g h3
    rw [ih g (i + 1) n h3 hcag (by omega) (by omega) (by omega)]
    congr 2
    congr 1
    omega
set_option maxHeartbeats 1000000 in
/-- the end is told -/
theorem t_end {X M X0 M0 : St} {z st dp cn tn vn fn : Nat} {θ : Nat → Nat} (hN : 5000 ≤ N) (hB : RB X M z 0 st dp cn tn vn fn θ) (hD : D1 X M tn vn θ ∨ D2 X M fn 0 st) (hfn : fn ≤ 2 * st + 1) (hX : FX X0 X) (hM : FM M0 M) : ∃ X', b_X4_perform_59 N (z_wr X 29 7 3) = some X' ∧ EE N X0 M0 X' M := by
  have hb := hB.bds
  have hz : z ≤ 40 := hB.1.2.1
  obtain ⟨a1, a2, a3, a4, a5, a6, a7, a8, a9, a10, a11, a12, a13, a14, a15, a16, a17, a18⟩ := hB.2.1
  unfold b_X4_perform_59 f_X4_tellEnding
  have fx : ∀ a b : Int32, FX X0 (z_wr (z_wr (z_wr X 29 7 3) 35 0 a) 35 1 b) := fun a b => ((hX.wr (by omega) (by omega)).wr (by omega) (by omega)).wr (by omega) (by omega)
  rcases hD with ⟨d1, d2, d3, d4, d5⟩ | ⟨d1, d2, d3, ca, f, d4, d5, d6, d7, d8, d9⟩
  · rw [show (z_wr X 29 7 3) 29 12 = 0 from d3, if_pos rfl]
    obtain ⟨j, hj, ej, hvv⟩ := hB.val d5
    have hcj : (nI j).toNatClampNeg = j := nI_clamp (by omega)
    have cz : f_X10_causesNow N M = some (0, M) := by
      unfold f_X10_causesNow b_X10_causesNow_24
      rw [d2, if_neg (by decide)]
      obtain ⟨n, e⟩ : ∃ n, N = n + 1 := ⟨N - 1, by omega⟩
      rw [show f_X10_causesNow_25 N N 0 (-9) M = f_X10_causesNow_25 N (n + 1) 0 (-9) M by rw [← e]]
      show b_X10_causesNow_25 N (f_X10_causesNow_25 N n) 0 (-9) M = _
      unfold b_X10_causesNow_25
      rw [if_pos (by decide)]
    have hw : f_X10_howNow N M = some (M 83 j, M) := by
      unfold f_X10_howNow
      rw [d2, if_neg (by decide), ej, q_gd (q_inl (show j < 2000 by omega)), hcj]
    have nw : f_X10_numberNow N M = some (M 84 j, M) := by
      unfold f_X10_numberNow
      rw [d2, if_neg (by decide), ej, q_gd (q_inl (show j < 2000 by omega)), hcj]
    have e10 : (z_wr X 29 7 3) 29 10 = X 29 10 := rfl
    have fin : ∀ a b : Int32, M 83 j = a → M 84 j = b → (a = 0 ∨ a = 1 ∨ a = 2) → EE N X0 M0 (z_wr (z_wr (z_wr X 29 7 3) 35 0 a) 35 1 b) M := by
      intro a b h1 h2 h3
      refine ⟨⟨⟨st, by omega, a6, a7⟩, a11, a12, ?_, ?_, ?_, Or.inr ⟨d2, h3, d4⟩⟩, hB.2.2.2.1, hB.2.2.2.2.1, fx a b, hM⟩
      · rw [hw, h1]; rfl
      · rw [nw, h2]; rfl
      · rw [cz]
        show some (0, M) = some (X 35 5, M)
        rw [d4]
    rcases hvv with ⟨k1, k2, k3⟩ | ⟨t, t1, t2, ejt, g⟩
    · rw [e10, x_isNum1 k3.2, q_bd, if_neg (by decide), q_lt, q_lt, q_bv]
      exact ⟨_, rfl, fin 0 _ k1 k2 (Or.inl rfl)⟩
    · rw [e10, t2, x_isNum0 (by omega), q_bd, if_pos rfl, e10, t2]
      rcases g with ⟨g1, g2⟩ | ⟨g1, g2, g3⟩
      · rw [x_func1 (S := z_wr X 29 7 3) (by omega) g1, q_bd, if_neg (by decide), q_lt]
        rw [show (z_wr (z_wr X 29 7 3) 35 0 1) 29 10 = nI (10000 + t) from t2, x_ones (by omega), q_bd]
        obtain ⟨-, hT⟩ := hB.2.2.2.2.2.2.1 t t1
        rcases hT with ⟨-, -, ⟨e, he, q3, q4, q5, q6⟩, q7⟩ | ⟨q, -, -⟩
        · obtain ⟨pe1, pe2, pe3⟩ := hB.1.2.2 e he
          rcases pe3 with q | ⟨q, -⟩ | ⟨pO, p1, p2, p3, p4, p5, p6, p7⟩
          · rw [q3] at q; exact absurd q (by decide)
          · rw [q3] at q; exact absurd q (by decide)
          obtain ⟨w, w1, w2, w3⟩ := p6 (Or.inl q3)
          rw [show (z_wr (z_wr X 29 7 3) 35 0 1) 42 t = nI e from q4, x_pr (show (z_wr (z_wr X 29 7 3) 35 0 1) 29 6 = 1 from a1), x_vari (by omega), q_bd, q_lt, q_bv]
          refine ⟨_, rfl, fin 1 _ g2 ?_ (Or.inr (Or.inl rfl))⟩
          rw [ejt, q5, w3]
          exact w2.symm
        · rw [ejt, q] at g2; exact absurd g2 (by decide)
      · rw [x_func0 (S := z_wr X 29 7 3) (by omega) g3, q_bd, if_pos rfl, q_lt]
        rw [show (z_wr (z_wr X 29 7 3) 35 0 2) 29 10 = nI (10000 + t) from t2, x_kind (by omega), q_bd, q_lt, q_bv]
        exact ⟨_, rfl, fin 2 _ g1 g2 (Or.inr (Or.inr rfl))⟩
  · rw [show (z_wr X 29 7 3) 29 12 = 1 from d3, if_neg (by decide), q_lt]
    rw [x_code0 (show (z_wr (z_wr X 29 7 3) 35 0 3) 35 5 = nI ca from d4) (by omega), q_bd, q_lt, q_bv]
    refine ⟨_, rfl, ⟨⟨st, by omega, a6, a7⟩, a11, a12, ?_, ?_, ?_, Or.inl ⟨d2, rfl, ca, f, d4, d5, by omega, by omega, d8⟩⟩, hB.2.2.2.1, hB.2.2.2.2.1, fx _ _, hM⟩
    · unfold f_X10_howNow
      rw [d2, if_pos rfl]; rfl
    · unfold f_X10_numberNow
      rw [d2, if_pos rfl, d5, q_gd (q_inl (show f < 1000 by omega)), nI_clamp (by omega), q_code d8]; rfl
    · unfold f_X10_causesNow b_X10_causesNow_24
      rw [d2, if_pos rfl, d5, q_gd (q_inl (show f < 1000 by omega)), nI_clamp (by omega)]
      rw [show (0 : Int32) = nI 0 from rfl, m_causes ca f 0 N d8 d7.1 (by omega) (by omega) (by omega), Nat.zero_add]
      show some (nI ca, M) = some (X 35 5, M)
      rw [d4]
theorem FX.tr {A B C : St} (h : FX A B) (g : FX B C) : FX A C := ⟨fun o ho => (g.1 o ho).trans (h.1 o ho), g.2.1.trans h.2.1, fun k hk => (g.2.2 k (fun e he q1 q2 => by rw [h.1 2 (by omega)] at q1; rw [h.1 3 (by omega)] at q2; rw [h.1 7 (by omega)]; exact hk e he q1 q2)).trans (h.2.2 k hk)⟩
theorem FM.tr {A B C : St} (h : FM A B) (g : FM B C) : FM A C := ⟨fun o ho => (g.1 o ho).trans (h.1 o ho), fun k hk => (g.2 k hk).trans (h.2 k hk)⟩
theorem EE.pre {A B X M X' M' : St} (h : EE N X M X' M') (hx : FX A X) (hm : FM B M) : EE N A B X' M' := ⟨h.1, h.2.1, h.2.2.1, hx.tr h.2.2.2.1, hm.tr h.2.2.2.2⟩
set_option maxHeartbeats 1000000 in
/-- both loops, by the measure -/
theorem t_loop (hN : 5000 ≤ N) {z : Nat} : ∀ (μ n n' i : Nat) (X M : St), RR X M z μ → μ + 3 ≤ n → μ + 2 ≤ n' → i + μ + 3 ≤ 1000000 → ∃ X' M', f_X4_perform_6 N n (nI i) X = some X' ∧ f_X10_goes_55 N n' M = some M' ∧ EE N X M X' M' := by
  intro μ
  induction μ with
  | zero =>
    intro n n' i X M hR hn hn' hi
    rcases hR with hR | hR | hR
    · obtain ⟨h, st, dp, cn, tn, vn, fn, θ, hB, hD, hp, hμ⟩ := hR
      omega
    · obtain ⟨h, st, dp, cn, tn, vn, fn, θ, hB, hD, hp, hμ⟩ := hR
      have hh : h = 0 := by
        cases h with
        | zero => rfl
        | succ k =>
          rw [phi_s] at hμ
          by_cases q : X 47 k = 0
          · rw [if_pos q] at hμ; omega
          · rw [if_neg q] at hμ
            by_cases q2 : X 47 k = 1
            · rw [if_pos q2] at hμ; omega
            · rw [if_neg q2] at hμ; omega
      subst hh
      obtain ⟨n, rfl⟩ : ∃ m, n = m + 2 := ⟨n - 2, by omega⟩
      obtain ⟨n', rfl⟩ : ∃ m, n' = m + 1 := ⟨n' - 1, by omega⟩
      obtain ⟨X', t1, t2⟩ := t_end (N := N) hN hB (Or.inl hD) (by have := hp; unfold phi at this; omega) FX.rf FM.rf
      refine ⟨X', M, ?_, ?_, t2⟩
      · show b_X4_perform_6 N (f_X4_perform_6 N (n + 1)) (nI i) X = some X'
        unfold b_X4_perform_6
        rw [if_neg (by show ¬ nI 1000000 ≤ nI i; exact nI_ge (by omega) (by omega)), hD.1, if_neg (by decide), if_neg (by decide), if_pos rfl]
        unfold f_X4_useValue b_X4_perform_53
        rw [x_empty0 hB.2.1.2.1, q_bd, if_neg (by decide), q_lt, q_bv, nI_1]
        show b_X4_perform_6 N (f_X4_perform_6 N n) (nI (i + 1)) (z_wr X 29 7 3) = some X'
        unfold b_X4_perform_6
        rw [if_neg (by show ¬ nI 1000000 ≤ nI (i + 1); exact nI_ge (by omega) (by omega)), show (z_wr X 29 7 3) 29 7 = 3 from rfl, if_pos rfl]
        exact t1
      · show b_X10_goes_55 N (f_X10_goes_55 N n') M = some M
        unfold b_X10_goes_55
        rw [hD.2.1, if_neg (by decide), hB.2.1.2.2.1, if_pos (by decide)]
    · obtain ⟨h, st, dp, cn, tn, vn, fn, θ, hB, hD, hp, hμ⟩ := hR
      have hh : h = 0 := by
        cases h with
        | zero => rfl
        | succ k =>
          rw [phi_s] at hμ
          by_cases q : X 47 k = 0
          · rw [if_pos q] at hμ; omega
          · rw [if_neg q] at hμ
            by_cases q2 : X 47 k = 1
            · rw [if_pos q2] at hμ; omega
            · rw [if_neg q2] at hμ; omega
      subst hh
      obtain ⟨n, rfl⟩ : ∃ m, n = m + 2 := ⟨n - 2, by omega⟩
      obtain ⟨n', rfl⟩ : ∃ m, n' = m + 1 := ⟨n' - 1, by omega⟩
      obtain ⟨X', t1, t2⟩ := t_end (N := N) hN hB (Or.inr hD) (by have := hp; unfold phi at this; omega) FX.rf FM.rf
      refine ⟨X', M, ?_, ?_, t2⟩
      · show b_X4_perform_6 N (f_X4_perform_6 N (n + 1)) (nI i) X = some X'
        unfold b_X4_perform_6
        rw [if_neg (by show ¬ nI 1000000 ≤ nI i; exact nI_ge (by omega) (by omega)), hD.1, if_neg (by decide), if_neg (by decide), if_neg (by decide)]
        unfold f_X4_passFaultOn b_X4_perform_53
        rw [x_empty0 hB.2.1.2.1, q_bd, if_neg (by decide), q_lt, q_bv, nI_1]
        show b_X4_perform_6 N (f_X4_perform_6 N n) (nI (i + 1)) (z_wr X 29 7 3) = some X'
        unfold b_X4_perform_6
        rw [if_neg (by show ¬ nI 1000000 ≤ nI (i + 1); exact nI_ge (by omega) (by omega)), show (z_wr X 29 7 3) 29 7 = 3 from rfl, if_pos rfl]
        exact t1
      · show b_X10_goes_55 N (f_X10_goes_55 N n') M = some M
        unfold b_X10_goes_55
        rw [hD.2.1, if_neg (by decide), hB.2.1.2.2.1, if_pos (by decide)]
  | succ μ ih =>
    intro n n' i X M hR hn hn' hi
    obtain ⟨n, rfl⟩ : ∃ m, n = m + 1 := ⟨n - 1, by omega⟩
    obtain ⟨n', rfl⟩ : ∃ m, n' = m + 1 := ⟨n' - 1, by omega⟩
    have step : ∀ x m : Option St, JJ X M z μ x m → ∃ X' M', (z_bv x fun S => b_X4_perform_53 N (f_X4_perform_6 N n) (nI i) S) = some X' ∧ (z_bv m fun S => f_X10_goes_55 N n' S) = some M' ∧ EE N X M X' M' := by
      intro x m hJ
      obtain ⟨X1, M1, rfl, rfl, hR1, hX1, hM1⟩ := hJ
      obtain ⟨X', M', g1, g2, g3⟩ := ih n n' (i + 1) X1 M1 hR1 (by omega) (by omega) (by omega)
      refine ⟨X', M', ?_, g2, g3.pre hX1 hM1⟩
      rw [q_bv]
      unfold b_X4_perform_53
      rw [nI_1]; exact g1
    show ∃ X' M', b_X4_perform_6 N (f_X4_perform_6 N n) (nI i) X = some X' ∧ b_X10_goes_55 N (f_X10_goes_55 N n') M = some M' ∧ EE N X M X' M'
    unfold b_X4_perform_6 b_X10_goes_55 b_X10_goes_69
    rw [if_neg (show ¬ (1000000 : Int32) ≤ nI i by show ¬ nI 1000000 ≤ nI i; exact nI_ge (by omega) (by omega))]
    rcases hR with hR | hR | hR
    · have e1 : X 29 7 = 0 := by obtain ⟨h, st, dp, cn, tn, vn, fn, θ, hB, hD, hp, hμ⟩ := hR; exact hD.1
      have e2 : M 65 56 = 0 := by obtain ⟨h, st, dp, cn, tn, vn, fn, θ, hB, hD, hp, hμ⟩ := hR; exact hD.2.1
      rw [e1, e2, if_neg (show ¬ (0 : Int32) = 3 by decide), if_pos rfl, if_pos rfl, if_pos rfl]
      exact step _ _ (s_begin (by omega) hR)
    · by_cases hne : M 65 55 ≤ 0
      · have hR' := hR
        obtain ⟨h, st, dp, cn, tn, vn, fn, θ, hB, hD, hp, hμ⟩ := hR'
        have hh : h = 0 := by
          rw [hB.2.1.2.2.1] at hne
          have hb := hB.bds
          by_cases q : h = 0
          · exact q
          · exact absurd hne (nI_nle (by omega) (by omega))
        subst hh
        obtain ⟨X', t1, t2⟩ := t_end (N := N) hN hB (Or.inl hD) (by have := hp; unfold phi at this; omega) FX.rf FM.rf
        refine ⟨X', M, ?_, ?_, t2⟩
        · rw [hD.1, if_neg (by decide), if_neg (by decide), if_pos rfl]
          unfold f_X4_useValue b_X4_perform_53
          rw [x_empty0 hB.2.1.2.1, q_bd, if_neg (by decide), q_lt, q_bv, nI_1]
          obtain ⟨n, rfl⟩ : ∃ m, n = m + 1 := ⟨n - 1, by omega⟩
          show b_X4_perform_6 N (f_X4_perform_6 N n) (nI (i + 1)) (z_wr X 29 7 3) = some X'
          unfold b_X4_perform_6
          rw [if_neg (by show ¬ nI 1000000 ≤ nI (i + 1); exact nI_ge (by omega) (by omega)), show (z_wr X 29 7 3) 29 7 = 3 from rfl, if_pos rfl]
          exact t1
        · rw [hD.2.1, if_neg (by decide), if_pos hne]
      · have e1 : X 29 7 = 1 := by obtain ⟨h, st, dp, cn, tn, vn, fn, θ, hB, hD, hp, hμ⟩ := hR; exact hD.1
        have e2 : M 65 56 = 1 := by obtain ⟨h, st, dp, cn, tn, vn, fn, θ, hB, hD, hp, hμ⟩ := hR; exact hD.2.1
        rw [e1, e2, if_neg (show ¬ (1 : Int32) = 3 by decide), if_neg (show ¬ (1 : Int32) = 0 by decide), if_pos rfl, if_neg (show ¬ (1 : Int32) = 0 by decide), if_neg hne, if_neg (show ¬ (1 : Int32) = 0 by decide), if_pos rfl]
        exact step _ _ (s_value (by omega) hR hne)
    · by_cases hne : M 65 55 ≤ 0
      · have hR' := hR
        obtain ⟨h, st, dp, cn, tn, vn, fn, θ, hB, hD, hp, hμ⟩ := hR'
        have hh : h = 0 := by
          rw [hB.2.1.2.2.1] at hne
          have hb := hB.bds
          by_cases q : h = 0
          · exact q
          · exact absurd hne (nI_nle (by omega) (by omega))
        subst hh
        obtain ⟨X', t1, t2⟩ := t_end (N := N) hN hB (Or.inr hD) (by have := hp; unfold phi at this; omega) FX.rf FM.rf
        refine ⟨X', M, ?_, ?_, t2⟩
        · rw [hD.1, if_neg (by decide), if_neg (by decide), if_neg (by decide)]
          unfold f_X4_passFaultOn b_X4_perform_53
          rw [x_empty0 hB.2.1.2.1, q_bd, if_neg (by decide), q_lt, q_bv, nI_1]
          obtain ⟨n, rfl⟩ : ∃ m, n = m + 1 := ⟨n - 1, by omega⟩
          show b_X4_perform_6 N (f_X4_perform_6 N n) (nI (i + 1)) (z_wr X 29 7 3) = some X'
          unfold b_X4_perform_6
          rw [if_neg (by show ¬ nI 1000000 ≤ nI (i + 1); exact nI_ge (by omega) (by omega)), show (z_wr X 29 7 3) 29 7 = 3 from rfl, if_pos rfl]
          exact t1
        · rw [hD.2.1, if_neg (by decide), if_pos hne]
      · have e1 : X 29 7 = 2 := by obtain ⟨h, st, dp, cn, tn, vn, fn, θ, hB, hD, hp, hμ⟩ := hR; exact hD.1
        have e2 : M 65 56 = 2 := by obtain ⟨h, st, dp, cn, tn, vn, fn, θ, hB, hD, hp, hμ⟩ := hR; exact hD.2.1
        rw [e1, e2, if_neg (show ¬ (2 : Int32) = 3 by decide), if_neg (show ¬ (2 : Int32) = 0 by decide), if_neg (show ¬ (2 : Int32) = 1 by decide), if_neg (show ¬ (2 : Int32) = 0 by decide), if_neg hne, if_neg (show ¬ (2 : Int32) = 0 by decide), if_neg (show ¬ (2 : Int32) = 1 by decide)]
        exact step _ _ (s_fault (by omega) hR hne)
/-- a run -/
theorem t_run (hN : 5000 ≤ N) {X M : St} {z : Nat} (h6 : X 29 6 = 1) (hPG : PG X M z) (h8 : M 65 8 = nI (z - 1)) (he : X 8 0 = 0) (hG : RGl (X 30) (M 78)) (hC : RCa (X 32) (X 33) (X 34) (M 79) (M 80) (M 81)) : ∃ X' M', f_X4_perform N X = some X' ∧ f_X10_goes N M = some M' ∧ EE N X M X' M' := by
  unfold f_X4_perform f_X10_goes
  rw [show f_X4_start N X = some (z_wr (z_wr (z_wr (z_wr (z_wr (z_wr (z_wr (z_wr (z_wr (z_wr (z_wr (z_wr (z_wr X 36 3 0) 40 3 0) 44 4 0) 29 12 0) 35 5 0) 35 6 0) 29 11 0) 35 2 0) 35 3 0) 35 4 0) 29 7 0) 29 8 0) 29 9 (-1)) from rfl, q_bv]
  simp only [q_lt]
  rw [m_makes, q_bv]
  generalize hX1 : z_wr (z_wr (z_wr (z_wr (z_wr (z_wr (z_wr (z_wr (z_wr (z_wr (z_wr (z_wr (z_wr X 36 3 0) 40 3 0) 44 4 0) 29 12 0) 35 5 0) 35 6 0) 29 11 0) 35 2 0) 35 3 0) 35 4 0) 29 7 0) 29 8 0) 29 9 (-1) = X1
  generalize hM1 : z_wr (z_wr (z_wr (z_wr (z_wr (z_wr (z_wr (z_wr (z_wr (z_wr (z_wr (z_wr (z_wr M 65 46 0) 65 47 0) 65 48 1) 65 49 0) 65 55 0) 65 62 0) 65 63 0) 65 64 0) 65 65 0) 65 56 0) 65 57 _) 65 58 0) 65 59 0 = M1
  have hFX : FX X X1 := by
    rw [← hX1]
    exact ((((((((((((FX.rf.wr (by omega) (by omega)).wr (by omega) (by omega)).wr (by omega) (by omega)).wr (by omega) (by omega)).wr (by omega) (by omega)).wr (by omega) (by omega)).wr (by omega) (by omega)).wr (by omega) (by omega)).wr (by omega) (by omega)).wr (by omega) (by omega)).wr (by omega) (by omega)).wr (by omega) (by omega)).wr (by omega) (by omega)
  have hFM : FM M M1 := by
    rw [← hM1]
    exact ((((((((((((FM.rf.wf (by omega)).wf (by omega)).wf (by omega)).wf (by omega)).wf (by omega)).wf (by omega)).wf (by omega)).wf (by omega)).wf (by omega)).wf (by omega)).wf (by omega)).wf (by omega)).wf (by omega)
  have hR : RR X1 M1 z 4001 := by
    refine Or.inl ⟨0, 0, 0, 0, 0, 0, 0, fun _ => 0, ?_, ?_, by unfold phi; omega, by unfold phi; omega⟩
    · rw [← hX1, ← hM1]
      exact ⟨hPG, ⟨h6, rfl, rfl, by omega, by omega, rfl, rfl, rfl, rfl, by omega, rfl, rfl, rfl, rfl, rfl, rfl, rfl, rfl⟩, ⟨rfl, by unfold phi; omega, by unfold phi; omega, by unfold phi; omega⟩, hG, hC, fun _ h => absurd h (by omega), fun _ h => absurd h (by omega), fun _ h => absurd h (by omega)⟩
    · rw [← hX1, ← hM1]
      exact ⟨rfl, rfl, rfl, rfl, 0, hPG.1.1, rfl, h8, ⟨0, by omega, (show (-1 : Int32) = nI 0 - 1 by decide), rfl⟩, he.symm⟩
  obtain ⟨X', M', g1, g2, g3⟩ := t_loop hN 4001 N N 0 X1 M1 hR (by omega) (by omega) (by omega)
  exact ⟨X', M', g1, g2, g3.pre hFX hFM⟩
end
