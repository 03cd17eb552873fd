/-! the first states are alike -/
theorem sq_s1 : sq sg0 1 = (1, []) := by decide +kernel
theorem ns_s1 : ns sg0 1 = 0 := by decide +kernel
theorem sk_s0 : sk sg0 0 = [(0, 49)] := rfl
theorem sk_s1 : sk sg0 1 = [] := by
  show (sq sg0 1).2 = []
  rw [sq_s1]
theorem ne_s0 : ne sg0 0 = 0 := rfl
theorem ne_s1 : ne sg0 1 = 1 := by
  show (sq sg0 1).1 = 1
  rw [sq_s1]
theorem sg_0 : sg0 0 = 48 := by decide +kernel
theorem okn_s : okn sg0 1 := by
  refine ⟨fun k hk => ?_, sk_s1⟩
  obtain rfl : k = 0 := by omega
  refine ⟨(0, 49), [], sk_s0, fun h => absurd h (by decide), fun _ => Or.inl ?_⟩
  rw [sg_0]
  decide
theorem tf_s {a b : Nat → Int32} (ha : a 0 = 48) (hb : b 0 = 0) : TF sg0 1 a b := by
  refine ⟨fun k hk => ?_, fun k hk => ?_⟩
  · obtain rfl : k = 0 := by omega
    rw [ha, sg_0]
  · obtain rfl : k = 0 := by omega
    exact ⟨(0, 49), [], sk_s0, by rw [hb, if_neg (by decide)]⟩
theorem wk_s {sg va se th si en : Nat → Int32} (h1 : sg 0 = 48) (h2 : en 0 = 0) : WK sg0 sg va se th si en 0 := by
  refine ⟨(0, 49), [], sk_s0, fun h => absurd h (by decide), fun _ => ?_⟩
  rw [ne_s0, sg_0]
  refine ⟨h1, fun h => absurd h (by decide), fun h => absurd h (by decide), fun h => absurd h (by decide), fun h => absurd h (by decide), ?_⟩
  rw [h2]
  unfold enS
  rw [if_pos rfl]
theorem rel_0 {N : Nat} (hN : 1000 ≤ N) : ∃ M2, f_X10_builds N M1 = some M2 ∧ Rel X0 M2 := by
  obtain ⟨M2, b1, b2, b3, b4⟩ := m_build (N := N) (tx := sg0) (n := 1) (M := M1) hN (by omega) okn_s (by rw [ne_s1]; omega) (by decide +kernel) (by rw [ns_s1]; decide +kernel) (tf_s (by decide +kernel) (by decide +kernel))
  refine ⟨M2, b1, ?_⟩
  have ho : ∀ o, o ≠ 65 ∧ o ≠ 77 ∧ (o < 67 ∨ 71 < o) → M2 o = M1 o := b4.1
  have hk : ∀ k, k ≠ 8 ∧ k ≠ 20 ∧ k ≠ 21 → M2 65 k = M1 65 k := b4.2
  have z1 : nI 1 = 1 := by decide +kernel
  refine ⟨⟨sg0, 1, ⟨⟨okn_s, by omega, by rw [ne_s1]; omega, by rw [ns_s1]; omega⟩, ⟨?_, ?_, fun k hk => ?_⟩, ⟨?_, ?_, ?_, ?_⟩, ?_, ?_, ?_, ?_, 0, by omega, ?_, ?_⟩, b2, b3⟩, ⟨0, by omega, ?_, ?_, fun j hj => absurd hj (by omega)⟩, ⟨0, by omega, ?_, ?_, fun j hj => absurd hj (by omega)⟩, fun j hj => ?_, Or.inl ⟨?_, ?_⟩⟩
  · rw [ne_s1, z1]; rfl
  · rw [ns_s1, nI_0]; rfl
  · obtain rfl : k = 0 := by omega
    exact wk_s (by decide +kernel) (by decide +kernel)
  · show M2 65 16 = nI 1
    rw [hk 16 (by omega), z1]; rfl
  · show M2 65 6 = nI (ne sg0 1)
    rw [hk 6 (by omega), ne_s1, z1]; rfl
  · show M2 65 7 = nI (ns sg0 1)
    rw [hk 7 (by omega), ns_s1, nI_0]; rfl
  · refine tf_s ?_ ?_
    · show M2 73 0 = 48
      rw [ho 73 (by omega)]; decide +kernel
    · show M2 74 0 = 0
      rw [ho 74 (by omega)]; rfl
  · intro v hv
    show X0 9 v = M2 78 v ∧ -9999 ≤ X0 9 v ∧ X0 9 v ≤ 9999
    rw [ho 78 (by omega)]
    show (0 : Int32) = 0 ∧ (-9999 : Int32) ≤ 0 ∧ (0 : Int32) ≤ 9999
    decide
  · intro k hk
    show X0 11 k = M2 79 k ∧ (∃ s, s < 16 ∧ X0 11 k = nI s) ∧ X0 12 k = M2 80 k ∧ X0 13 k = M2 81 k
    rw [ho 79 (by omega), ho 80 (by omega), ho 81 (by omega)]
    exact ⟨rfl, ⟨0, by omega, nI_0.symm⟩, rfl, rfl⟩
  · intro k _ _
    rfl
  · refine Or.inl ⟨rfl, ?_⟩
    show M2 65 29 = -9
    rw [hk 29 (by omega)]; rfl
  · rw [nI_0]; rfl
  · show M2 65 35 = nI 0
    rw [hk 35 (by omega), nI_0]; rfl
  · rw [nI_0]; rfl
  · rw [hk 15 (by omega), nI_0]; rfl
  · rw [nI_0]; rfl
  · rw [hk 69 (by omega), nI_0]; rfl
  · rw [ho 66 (by omega)]; rfl
  · rfl
  · rw [hk 72 (by omega)]; rfl
