/-! the class's program is the reference's -/
section
variable {N : Nat} {tx : Nat → Int32} {n : Nat}
theorem okn_pos (hv : okn tx n) : 1 ≤ n ∧ 1 ≤ ne tx n := by
  have h0 : 1 ≤ n := by
    rcases Nat.eq_zero_or_pos n with q | q
    · subst q
      have := hv.2
      exact absurd this (by show ([(0, 49)] : List Itm) ≠ []; simp)
    · exact q
  refine ⟨h0, ?_⟩
  have h1 : ne tx 1 = 1 := (sk_e (tx := tx) (k := 0) (x := (0, 49)) (r := []) rfl (by decide)).2.1
  have := ne_mono (tx := tx) (j := 1) (k := n) h0
  omega
/-- a part of an expression, told at p2, by both -/
theorem part_at (hv : okn tx n) (h4 : ne tx n ≤ 40) {X M : St} (hW : ∀ k, k < n → WK tx (X 3) (X 4) (X 5) (X 6) (X 7) (X 8) k) (hB : ∀ p, p < n → BK tx (ne tx n) n M p) {p : Nat} (hp : p < n) {x : Itm} {r : List Itm} (hs : sk tx p = x :: r) (hb : x.2 ≠ 118) {sl : Int32} (hm : sl ∈ prt (tx p)) :
    ∃ p2, p < p2 ∧ p2 < n ∧ (∃ r2, sk tx p2 = (ne tx p + 1, sl) :: r2) ∧ ∃ (i : Nat), (prt (tx p))[i]? = some sl ∧ (pil tx (ne tx n) n (n - (p + 1)))[i]? = some (idp tx (ne tx n) p2) := by
  obtain ⟨i, hi, he⟩ := List.mem_iff_getElem.mp hm
  have hi2 : (prt (tx p))[i]? = some sl := by rw [List.getElem?_eq_getElem hi, he]
  obtain ⟨s1, s2, s3⟩ := sk_e hs hb
  obtain ⟨-, l2⟩ := pil_at (z := ne tx n) hv (n - (p + 1)) (by omega)
  have hnn : n - (n - (p + 1)) = p + 1 := by omega
  rw [hnn, s1] at l2
  obtain ⟨p2, h1, h2, h3, h4⟩ := l2 i (ne tx p + 1, sl) (by
    rw [List.getElem?_append_left (by rw [List.length_map]; exact hi), List.getElem?_map, hi2]
    rfl)
  exact ⟨p2, by omega, h2, h3, i, hi2, h4⟩
set_option maxHeartbeats 1000000 in
theorem t_PG (hv : okn tx n) (h4 : ne tx n ≤ 40) (h10 : ns tx n ≤ 10) {X M : St} (h6 : X 2 6 = nI (ne tx n)) (hW : ∀ k, k < n → WK tx (X 3) (X 4) (X 5) (X 6) (X 7) (X 8) k) (hB : ∀ p, p < n → BK tx (ne tx n) n M p) : PG X M (ne tx n) ∧ X 8 0 = 0 := by
  obtain ⟨hn1, hz1⟩ := okn_pos hv
  have h01 := WK.en01 (tx := tx) n hW
  refine ⟨⟨⟨hz1, h6⟩, h4, fun e he => ?_⟩, ?_⟩
  · obtain ⟨p, hp, ⟨x, r, hs, hb⟩, hpe⟩ := ex_at (tx := tx) n e he
    subst hpe
    obtain ⟨b1, b2, b3⟩ := hB p hp x r hs hb
    obtain ⟨x', r', hs', -, w⟩ := hW p hp
    rw [hs] at hs'
    obtain ⟨rfl, rfl⟩ := List.cons.inj hs'
    obtain ⟨w1, w2, w3, w4, w5, w6⟩ := w hb
    obtain ⟨x', r', hs', -, hok⟩ := hv.1 p hp
    rw [hs] at hs'
    obtain ⟨rfl, rfl⟩ := List.cons.inj hs'
    have hvs := hok hb
    have sgp : X 3 (ne tx p) = tx p := w1
    unfold PE
    rw [w1]
    refine ⟨b1, h01 _ he, ?_⟩
    rcases hvs with hD | hNm | hO
    · exact Or.inl hD
    · exact Or.inr (Or.inl ⟨hNm, w2 hNm⟩)
    · -- the first part
      have f1 : ∃ p1, p < p1 ∧ p1 < n ∧ (∃ r1, sk tx p1 = (ne tx p + 1, 49) :: r1) ∧ ne tx p1 = ne tx p + 1 ∧ M 68 (ne tx n - 1 - ne tx p) = nI (ne tx n - 1 - ne tx p1) := by
        have h49 : (49 : Int32) ∈ prt (tx p) := by
          rcases hO with (q | q | q | q | q | q | q | q | q | q) | q | q | q | q | q | q | q | q <;> rw [q] <;> decide
        obtain ⟨p1, g1, g2, ⟨r1, g3⟩, i, g4, g5⟩ := part_at hv h4 hW hB hp hs hb h49
        refine ⟨p1, g1, g2, ⟨r1, g3⟩, ?_, ?_⟩
        · obtain ⟨s1, s2, s3⟩ := sk_e hs hb
          have hpr : (∃ t, prt (tx p) = 49 :: t) ∨ ∃ t, prt (tx p) = 118 :: 49 :: t := by
            rcases hO with (q | q | q | q | q | q | q | q | q | q) | q | q | q | q | q | q | q | q <;> rw [q] <;> first | exact Or.inl ⟨_, rfl⟩ | exact Or.inr ⟨_, rfl⟩
          rcases hpr with ⟨t, ht⟩ | ⟨t, ht⟩
          · rw [ht] at s1
            have hs2 : sk tx (p + 1) = (ne tx p + 1, 49) :: (t.map (fun s => (ne tx p + 1, s)) ++ r) := s1
            have : p1 = p + 1 := by
              rcases Nat.lt_trichotomy p1 (p + 1) with q | q | q
              · omega
              · exact q
              · have := sk_gone hs2 p1 q
                rw [g3] at this
                exact absurd List.mem_cons_self this
            rw [this, s2]
          · rw [ht] at s1
            have hs2 : sk tx (p + 1) = (ne tx p + 1, 118) :: ((ne tx p + 1, 49) :: (t.map (fun s => (ne tx p + 1, s)) ++ r)) := s1
            obtain ⟨u1, u2, -⟩ := sk_b hs2 rfl
            have : p1 = p + 2 := by
              rcases Nat.lt_trichotomy p1 (p + 2) with q | q | q
              · have e : p1 = p + 1 := by omega
                rw [e, hs2] at g3
                have := (List.cons.inj g3).1
                exact absurd (Prod.mk.inj this).2 (by decide)
              · exact q
              · have := sk_gone u1 p1 q
                rw [g3] at this
                exact absurd List.mem_cons_self this
            rw [this, u2, s2]
        · have := (b2 i 49 _ g4 g5).1 rfl
          rw [this]
          unfold idp
          rw [g3]
          show (if (49 : Int32) = 118 then _ else _) = _
          rw [if_neg (by decide)]
      obtain ⟨p1, g1, g2, ⟨r1, g3⟩, g4, g5⟩ := f1
      have hlt1 := exq_lt (tx := tx) (p := p1) (q := n) ⟨_, r1, g3, show (49 : Int32) ≠ 118 by decide⟩ g2
      -- any other part
      have fo : ∀ sl : Int32, sl ∈ prt (tx p) → sl ≠ 118 → ∃ p2, (∃ r2, sk tx p2 = (ne tx p + 1, sl) :: r2) ∧ p2 < n ∧ ne tx p2 < ne tx n ∧ X 8 (ne tx p2) = enS (X 3) (X 8) (ne tx p + 1, sl) ∧ (sl = 50 → X 5 (ne tx p) = nI (ne tx p2) ∧ M 69 (ne tx n - 1 - ne tx p) = nI (ne tx n - 1 - ne tx p2)) ∧ (sl = 51 → X 6 (ne tx p) = nI (ne tx p2) ∧ M 70 (ne tx n - 1 - ne tx p) = nI (ne tx n - 1 - ne tx p2)) := by
        intro sl hsl hsb
        obtain ⟨p2, q1, q2, ⟨r2, q3⟩, i, q4, q5⟩ := part_at hv h4 hW hB hp hs hb hsl
        obtain ⟨y, r', hy, -, v⟩ := hW p2 q2
        rw [q3] at hy
        obtain ⟨rfl, rfl⟩ := List.cons.inj hy
        obtain ⟨v1, v2, v3, v4, v5, v6⟩ := v hsb
        have hid : idp tx (ne tx n) p2 = nI (ne tx n - 1 - ne tx p2) := by
          unfold idp
          rw [q3]
          show (if sl = 118 then _ else _) = _
          rw [if_neg hsb]
        rw [hid] at q5
        obtain ⟨k1, k2, k3, k4⟩ := b2 i sl _ q4 q5
        exact ⟨p2, ⟨r2, q3⟩, q2, exq_lt ⟨_, r2, q3, hsb⟩ q2, v6, fun q => ⟨v4 q, k2 q⟩, fun q => ⟨v5 q, k3 q⟩⟩
      have e_1 : ∀ sl : Int32, enS (X 3) (X 8) (ne tx p + 1, sl) = if tx p = 70 then 1 else if tx p = 63 ∧ sl ≠ 49 then X 8 (ne tx p) else if (tx p = 44 ∨ tx p = 76 ∨ tx p = 89) ∧ sl = 50 then X 8 (ne tx p) else 0 := by
        intro sl
        unfold enS
        rw [if_neg (show ¬ (ne tx p + 1, sl).1 = 0 by simp), show (ne tx p + 1, sl).1 - 1 = ne tx p from rfl, sgp]
      refine Or.inr (Or.inr ⟨hO, by omega, by rw [g5, g4], ?_, fun h2 => ?_, fun h63 => ?_, fun hBd => ?_, fun hQ => ?_⟩)
      · obtain ⟨y, r', hy, -, v⟩ := hW p1 g2
        rw [g3] at hy
        obtain ⟨rfl, rfl⟩ := List.cons.inj hy
        have v6 := (v (show (49 : Int32) ≠ 118 by decide)).2.2.2.2.2
        rw [g4, e_1] at v6
        rw [v6]
        by_cases q : tx p = 70
        · rw [if_pos q, if_pos q]
        · rw [if_neg q, if_neg q, if_neg (fun h => h.2 rfl), if_neg (fun h => absurd h.2 (by decide))]
      · have h50 : (50 : Int32) ∈ prt (tx p) := by
          rcases h2 with q | q | q | q | q | q | q | q | q | q <;> rw [q] <;> decide
        obtain ⟨p2, -, q2, q3, q4, q5, -⟩ := fo 50 h50 (by decide)
        refine ⟨ne tx p2, q3, (q5 rfl).1, (q5 rfl).2, ?_⟩
        rw [q4, e_1]
        have n70 : ¬ tx p = 70 := by rcases h2 with q | q | q | q | q | q | q | q | q | q <;> rw [q] <;> decide
        rw [if_neg n70]
        by_cases q : tx p = 63
        · rw [if_pos ⟨q, by decide⟩, if_pos (Or.inr (Or.inl q))]
        · rw [if_neg (fun h => q h.1)]
          by_cases q' : tx p = 44 ∨ tx p = 76 ∨ tx p = 89
          · rw [if_pos ⟨q', rfl⟩, if_pos (by rcases q' with w | w | w; exact Or.inl w; exact Or.inr (Or.inr (Or.inl w)); exact Or.inr (Or.inr (Or.inr w)))]
          · rw [if_neg (fun h => q' h.1), if_neg (by rintro (w | w | w | w); exact q' (Or.inl w); exact q w; exact q' (Or.inr (Or.inl w)); exact q' (Or.inr (Or.inr w)))]
      · have h51 : (51 : Int32) ∈ prt (tx p) := by rw [h63]; decide
        obtain ⟨p2, -, q2, q3, q4, -, q5⟩ := fo 51 h51 (by decide)
        refine ⟨ne tx p2, q3, (q5 rfl).1, (q5 rfl).2, ?_⟩
        rw [q4, e_1, if_neg (by rw [h63]; decide), if_pos ⟨h63, by decide⟩]
      · have h118 : (118 : Int32) ∈ prt (tx p) := by
          rcases hBd with q | q | q | q <;> rw [q] <;> decide
        obtain ⟨p2, q1, q2, ⟨r2, q3⟩, i, q4, q5⟩ := part_at hv h4 hW hB hp hs hb h118
        obtain ⟨y, r', hy, v, -⟩ := hW p2 q2
        rw [q3] at hy
        obtain ⟨rfl, rfl⟩ := List.cons.inj hy
        have va : X 4 (ne tx p) = tx p2 - 97 := v rfl
        have hid : idp tx (ne tx n) p2 = tx p2 - 97 := by
          unfold idp
          rw [q3]
          show (if (118 : Int32) = 118 then _ else _) = _
          rw [if_pos rfl]
        rw [hid] at q5
        have mo := (b2 i 118 _ q4 q5).2.2.2 rfl
        obtain ⟨y, r', hy, hnm, -⟩ := hv.1 p2 q2
        rw [q3] at hy
        obtain ⟨rfl, rfl⟩ := List.cons.inj hy
        obtain ⟨w, hw, ew⟩ := q_nam (hnm rfl)
        exact ⟨w, hw, by rw [va, ew], by rw [mo, ew]⟩
      · have s3 := (sk_e hs hb).2.2
        rw [if_pos hQ] at s3
        have := ns_mono (tx := tx) (j := p + 1) (k := n) (by omega)
        exact ⟨ns tx p, by omega, w3 hQ, b3 hQ⟩
  · obtain ⟨x, r, hs, -, w⟩ := hW 0 (by omega)
    have h0 : sk tx 0 = [(0, 49)] := rfl
    rw [h0] at hs
    obtain ⟨rfl, rfl⟩ := List.cons.inj hs
    have := (w (by decide)).2.2.2.2.2
    exact this
end
