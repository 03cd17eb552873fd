/-! the letters are found good or bad, here and there -/
def Fail (tx : Nat → Int32) (n p : Nat) : Prop := p ≤ n ∧ (∀ j, j < p → ok1 tx j) ∧ ((p < n ∧ ¬ ok1 tx p) ∨ (p = n ∧ sk tx n ≠ []))
section
variable {N : Nat} {tx : Nat → Int32} {n : Nat}
theorem x_find (hN : 1000 ≤ N) (hn : n ≤ 96) : ∀ (m k f : Nat) (X : St), k + m = n → XI tx n k X → (∀ j, j < k → ok1 tx j) → m < f →
    (∃ p X', Fail tx n p ∧ f_X3_findFault_19 N f (nI k) X = some (-1000 - nI p, X') ∧ FS X X') ∨ (okn tx n ∧ ∃ X1, XI tx n n X1 ∧ FS X X1 ∧ f_X3_findFault_19 N f (nI k) X = (z_bd (f_X3_placeBeyondLimits N X1) fun r8 S7 => if 0 ≤ r8 then some (-2000 - r8, S7) else some (0, S7))) := by
  intro m
  induction m with
  | zero =>
    intro k f X hk hI ho hf
    obtain ⟨f, rfl⟩ : ∃ g, f = g + 1 := ⟨f - 1, by omega⟩
    have e : k = n := by omega
    subst e
    show (∃ p X', Fail tx k p ∧ b_X3_findFault_19 N (f_X3_findFault_19 N f) (nI k) X = some (-1000 - nI p, X') ∧ FS X X') ∨ (okn tx k ∧ ∃ X1, XI tx k k X1 ∧ FS X X1 ∧ b_X3_findFault_19 N (f_X3_findFault_19 N f) (nI k) X = _)
    unfold b_X3_findFault_19
    obtain ⟨-, -, hl⟩ := sk_ok (tx := tx) k
    have hI' := hI
    obtain ⟨i1, i2, i3, i4, i5, i6⟩ := hI
    rw [i1, if_pos (nI_le (Nat.le_refl _) (by omega)), i3]
    cases hs : sk tx k with
    | nil =>
      right
      refine ⟨⟨ho, hs⟩, X, hI', FS.rf, ?_⟩
      rw [if_pos (by decide)]
    | cons x r =>
      left
      rw [hs] at hl
      refine ⟨k, X, ⟨Nat.le_refl _, ho, Or.inr ⟨rfl, by rw [hs]; exact List.cons_ne_nil _ _⟩⟩, ?_, FS.rf⟩
      rw [if_neg (nI_nle (by simp) (by omega))]
  | succ m ih =>
    intro k f X hk hI ho hf
    obtain ⟨f, rfl⟩ : ∃ g, f = g + 1 := ⟨f - 1, by omega⟩
    show (∃ p X', Fail tx n p ∧ b_X3_findFault_19 N (f_X3_findFault_19 N f) (nI k) X = some (-1000 - nI p, X') ∧ FS X X') ∨ (okn tx n ∧ ∃ X1, XI tx n n X1 ∧ FS X X1 ∧ b_X3_findFault_19 N (f_X3_findFault_19 N f) (nI k) X = _)
    unfold b_X3_findFault_19
    rw [hI.1, if_neg (nI_ge (by omega) (by omega))]
    obtain ⟨g1, g2⟩ := x_fits hN hn (show k < n by omega) hI
    by_cases hok : ok1 tx k
    · obtain ⟨X', h1, h2, h3⟩ := g1 hok
      rw [h1, q_bd, if_neg (by decide), nI_1]
      rcases ih (k + 1) f X' (by omega) h2 (lt_s ho hok) (by omega) with ⟨p, X2, r1, r2, r3⟩ | ⟨r1, X1, r2, r3, r4⟩
      · exact Or.inl ⟨p, X2, r1, r2, h3.tr r3⟩
      · exact Or.inr ⟨r1, X1, r2, h3.tr r3, r4⟩
    · obtain ⟨X', h1, h2⟩ := g2 hok
      rw [h1, q_bd, if_pos rfl]
      exact Or.inl ⟨k, X', ⟨by omega, ho, Or.inl ⟨by omega, hok⟩⟩, rfl, h2⟩
/-- the reference -/
def rk (m : Nat → Int32) : List Int32 → Prop
  | [] => True
  | v :: r => m r.length = v ∧ rk m r
theorem rk_eq {m m' : Nat → Int32} : ∀ {l : List Int32}, rk m l → (∀ i, i < l.length → m' i = m i) → rk m' l
  | [], _, _ => trivial
  | x :: r, h, e => ⟨by rw [e r.length (by simp)]; exact h.1, rk_eq h.2 (fun i hi => e i (by simp; omega))⟩
def kn (x : Itm) : Int32 := if x.2 = 118 then 118 else 101
def ks (s : Int32) : Int32 := if s = 118 then 118 else 101
def FR1 (M M' : St) : Prop := (∀ o, o ≠ 65 ∧ o ≠ 76 → M' o = M o) ∧ ∀ k, k ≠ 19 → M' 65 k = M 65 k
theorem FR1.rf {M : St} : FR1 M M := ⟨fun _ _ => rfl, fun _ _ => rfl⟩
theorem FR1.tr {A B C : St} (h : FR1 A B) (g : FR1 B C) : FR1 A C := ⟨fun o ho => (g.1 o ho).trans (h.1 o ho), fun k hk => (g.2 k hk).trans (h.2 k hk)⟩
theorem m_await {M : St} {l : List Int32} {a : Int32} (h : M 65 19 = nI l.length) (hr : rk (M 76) l) (hl : l.length < 300) : ∃ M', f_X10_awaits N a M = some M' ∧ M' 65 19 = nI (a :: l).length ∧ rk (M' 76) (a :: l) ∧ FR1 M M' := by
  refine ⟨z_wr (z_wr M 76 l.length a) 65 19 (nI (l.length + 1)), ?_, rfl, ⟨q_up_s, rk_eq hr (fun i hi => q_up_l hi)⟩, fun o ho => ?_, fun k hk => ?_⟩
  · unfold f_X10_awaits
    rw [h, q_gd (q_inl (show l.length < z_ln 76 from hl)), q_lt, nI_clamp (by omega), show (z_wr M 76 l.length a) 65 19 = nI l.length from h, nI_1]; rfl
  · rw [z_wr_o (by omega), z_wr_o (by omega)]
  · rw [z_wr_k (by omega), z_wr_o (by omega)]
theorem m_many {v : Nat} (hv : 1 ≤ v) (hv3 : v ≤ 3) : ∀ (c j f : Nat) (l : List Int32) (M : St), j + c = v → c < f → l.length + c < 300 → M 65 19 = nI l.length → rk (M 76) l → ∃ M', f_X10_awaitsParts_101 N f (nI v) (nI j) M = some (1, M') ∧ M' 65 19 = nI (List.replicate c 101 ++ l).length ∧ rk (M' 76) (List.replicate c 101 ++ l) ∧ FR1 M M' := by
  intro c
  induction c with
  | zero =>
    intro j f l M hj hf hl h hr
    obtain ⟨f, rfl⟩ : ∃ g, f = g + 1 := ⟨f - 1, by omega⟩
    refine ⟨M, ?_, h, hr, FR1.rf⟩
    show b_X10_awaitsParts_101 N (f_X10_awaitsParts_101 N f) (nI v) (nI j) M = _
    unfold b_X10_awaitsParts_101
    rw [if_pos (nI_le (by omega) (by omega)), if_neg (nI_nle (by omega) (by omega))]
  | succ c ih =>
    intro j f l M hj hf hl h hr
    obtain ⟨f, rfl⟩ : ∃ g, f = g + 1 := ⟨f - 1, by omega⟩
    obtain ⟨M1, r1, r2, r3, r4⟩ := m_await (N := N) (a := 101) h hr (by omega)
    obtain ⟨M2, g1, g2, g3, g4⟩ := ih (j + 1) f (101 :: l) M1 (by omega) (by omega) (by simp; omega) r2 r3
    have e : List.replicate c (101 : Int32) ++ 101 :: l = List.replicate (c + 1) 101 ++ l := by
      rw [List.replicate_succ', List.append_assoc]; rfl
    rw [e] at g2 g3
    refine ⟨M2, ?_, g2, g3, r4.tr g4⟩
    show b_X10_awaitsParts_101 N (f_X10_awaitsParts_101 N f) (nI v) (nI j) M = _
    unfold b_X10_awaitsParts_101
    rw [if_neg (nI_ge (by omega) (by omega)), r1, q_bv, nI_1]
    exact g1
/-- a sign's parts are awaited -/
theorem m_parts {c : Int32} {l : List Int32} {M : St} (hN : 1000 ≤ N) (hv : vs c) (h : M 65 19 = nI l.length) (hr : rk (M 76) l) (hl : l.length < 290) : ∃ M', f_X10_awaitsParts N c M = some (1, M') ∧ M' 65 19 = nI ((prt c).map ks ++ l).length ∧ rk (M' 76) ((prt c).map ks ++ l) ∧ FR1 M M' := by
  unfold f_X10_awaitsParts
  by_cases hd : isD c
  · rw [m_in1 hd, q_bd, if_neg (by decide)]
    have e : prt c = [] := prt_O (fun q => (q_isO_D q).1 hd)
    rw [e]
    exact ⟨M, rfl, h, hr, FR1.rf⟩
  · rw [m_in0 hd, q_bd, if_pos rfl]
    by_cases hn : isN c
    · rw [m_in1 hn, q_bd, if_neg (by decide)]
      have e : prt c = [] := prt_O (fun q => (q_isO_D q).2 hn)
      rw [e]
      exact ⟨M, rfl, h, hr, FR1.rf⟩
    · rw [m_in0 hn, q_bd, if_pos rfl]
      have hO : isO c := by rcases hv with q | q | q; exact absurd q hd; exact absurd q hn; exact q
      have many : ∀ v : Nat, 1 ≤ v → v ≤ 3 → f_X10_manyOf N c M = some (nI v, M) → (prt c).map ks = List.replicate v 101 → ¬ c = 76 → ¬ c = 83 → ¬ c = 70 → ¬ c = 89 → ∃ M', (if c = 76 then b_X10_awaitsParts_42 N c M else if c = 83 then b_X10_awaitsParts_42 N c M else if c = 70 then b_X10_awaitsParts_42 N c M else if c = 89 then z_bv (f_X10_awaits N 101 M) fun S16 => z_bv (f_X10_awaits N 118 S16) fun S18 => z_bv (f_X10_awaits N 101 S18) fun S20 => some (1, S20) else z_bd (f_X10_manyOf N c M) fun r14 S13 => f_X10_awaitsParts_101 N N r14 0 S13) = some (1, M') ∧ M' 65 19 = nI ((prt c).map ks ++ l).length ∧ rk (M' 76) ((prt c).map ks ++ l) ∧ FR1 M M' := by
        intro v v1 v3 hm hp n1 n2 n3 n4
        rw [if_neg n1, if_neg n2, if_neg n3, if_neg n4, hm, q_bd, hp]
        exact m_many v1 v3 v 0 N l M (by omega) (by omega) (by omega) h hr
      have tail : ∀ (l2 : List Int32) (M2 : St), M2 65 19 = nI l2.length → rk (M2 76) l2 → l2.length < 295 → ∃ M', b_X10_awaitsParts_54 N M2 = some (1, M') ∧ M' 65 19 = nI (118 :: 101 :: l2).length ∧ rk (M' 76) (118 :: 101 :: l2) ∧ FR1 M2 M' := by
        intro l2 M2 h2 hr2 hl2
        obtain ⟨M3, r1, r2, r3, r4⟩ := m_await (N := N) (a := 101) h2 hr2 (by omega)
        obtain ⟨M4, g1, g2, g3, g4⟩ := m_await (N := N) (a := 118) r2 r3 (by simp; omega)
        refine ⟨M4, ?_, g2, g3, r4.tr g4⟩
        unfold b_X10_awaitsParts_54
        rw [r1, q_bv, g1, q_bv]
      rcases hO with (q | q | q | q | q | q | q | q | q | q) | q | q | q | q | q | q | q | q <;> subst q
      · exact many 2 (by omega) (by omega) rfl (by decide) (by decide) (by decide) (by decide) (by decide)
      · exact many 2 (by omega) (by omega) rfl (by decide) (by decide) (by decide) (by decide) (by decide)
      · exact many 2 (by omega) (by omega) rfl (by decide) (by decide) (by decide) (by decide) (by decide)
      · exact many 2 (by omega) (by omega) rfl (by decide) (by decide) (by decide) (by decide) (by decide)
      · exact many 3 (by omega) (by omega) rfl (by decide) (by decide) (by decide) (by decide) (by decide)
      · exact many 2 (by omega) (by omega) rfl (by decide) (by decide) (by decide) (by decide) (by decide)
      · exact many 2 (by omega) (by omega) rfl (by decide) (by decide) (by decide) (by decide) (by decide)
      · exact many 2 (by omega) (by omega) rfl (by decide) (by decide) (by decide) (by decide) (by decide)
      · rw [if_pos rfl]
        unfold b_X10_awaitsParts_42
        rw [if_pos rfl]
        obtain ⟨M1, r1, r2, r3, r4⟩ := m_await (N := N) (a := 101) h hr (by omega)
        obtain ⟨M2, g1, g2, g3, g4⟩ := tail (101 :: l) M1 r2 r3 (by simp; omega)
        refine ⟨M2, by rw [r1, q_bv]; exact g1, ?_, ?_, r4.tr g4⟩
        · rw [show (prt 76).map ks = [118, 101, 101] by decide]; exact g2
        · rw [show (prt 76).map ks = [118, 101, 101] by decide]; exact g3
      · rw [if_neg (by decide), if_neg (by decide), if_neg (by decide), if_pos rfl]
        obtain ⟨M1, r1, r2, r3, r4⟩ := m_await (N := N) (a := 101) h hr (by omega)
        obtain ⟨M2, g1, g2, g3, g4⟩ := m_await (N := N) (a := 118) r2 r3 (by simp; omega)
        obtain ⟨M3, k1, k2, k3, k4⟩ := m_await (N := N) (a := 101) g2 g3 (by simp; omega)
        refine ⟨M3, by rw [r1, q_bv, g1, q_bv, k1, q_bv], ?_, ?_, (r4.tr g4).tr k4⟩
        · rw [show (prt 89).map ks = [101, 118, 101] by decide]; exact k2
        · rw [show (prt 89).map ks = [101, 118, 101] by decide]; exact k3
      · rw [if_neg (by decide), if_neg (by decide), if_pos rfl]
        unfold b_X10_awaitsParts_42
        rw [if_neg (by decide)]
        obtain ⟨M2, g1, g2, g3, g4⟩ := tail l M h hr (by omega)
        refine ⟨M2, g1, ?_, ?_, g4⟩
        · rw [show (prt 70).map ks = [118, 101] by decide]; exact g2
        · rw [show (prt 70).map ks = [118, 101] by decide]; exact g3
      · exact many 1 (by omega) (by omega) rfl (by decide) (by decide) (by decide) (by decide) (by decide)
      · exact many 1 (by omega) (by omega) rfl (by decide) (by decide) (by decide) (by decide) (by decide)
      · rw [if_neg (by decide), if_pos rfl]
        unfold b_X10_awaitsParts_42
        rw [if_neg (by decide)]
        obtain ⟨M2, g1, g2, g3, g4⟩ := tail l M h hr (by omega)
        refine ⟨M2, g1, ?_, ?_, g4⟩
        · rw [show (prt 83).map ks = [118, 101] by decide]; exact g2
        · rw [show (prt 83).map ks = [118, 101] by decide]; exact g3
      · exact many 1 (by omega) (by omega) rfl (by decide) (by decide) (by decide) (by decide) (by decide)
      · exact many 1 (by omega) (by omega) rfl (by decide) (by decide) (by decide) (by decide) (by decide)
      · exact many 1 (by omega) (by omega) rfl (by decide) (by decide) (by decide) (by decide) (by decide)
      · exact many 1 (by omega) (by omega) rfl (by decide) (by decide) (by decide) (by decide) (by decide)
theorem m_parts0 {c : Int32} {M : St} (hN : 1000 ≤ N) (hv : ¬ vs c) : f_X10_awaitsParts N c M = some (0, M) := by
  have hO : ¬ isO c := fun q => hv (Or.inr (Or.inr q))
  unfold f_X10_awaitsParts
  rw [m_in0 (fun q => hv (Or.inl q)), q_bd, if_pos rfl, m_in0 (fun q => hv (Or.inr (Or.inl q))), q_bd, if_pos rfl]
  rw [if_neg (fun q => hO (by rw [q]; decide)), if_neg (fun q => hO (by rw [q]; decide)), if_neg (fun q => hO (by rw [q]; decide)), if_neg (fun q => hO (by rw [q]; decide))]
  have e : f_X10_manyOf N c M = some (-9, M) := by
    unfold f_X10_manyOf
    repeat refine q_ite (fun q => by exact absurd (by rw [q]; decide) hO) (fun _ => ?_)
    rfl
  rw [e, q_bd]
  obtain ⟨f, ef⟩ : ∃ f, N = f + 1 := ⟨N - 1, by omega⟩
  rw [show f_X10_awaitsParts_101 N N (-9) 0 M = f_X10_awaitsParts_101 N (f + 1) (-9) 0 M by rw [← ef]]
  show b_X10_awaitsParts_101 N (f_X10_awaitsParts_101 N f) (-9) 0 M = _
  unfold b_X10_awaitsParts_101
  rw [if_pos (by decide), if_pos (by decide)]
end
