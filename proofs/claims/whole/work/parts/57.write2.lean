/-! the class's program is written -/
section
variable {N : Nat} {tx : Nat → Int32} {n : Nat}
theorem x_site01 {c : Int32} {S : St} : f_X3_isSite N c S = some ((if isQ c then 1 else 0), S) := by
  unfold f_X3_isSite
  by_cases q : c = 112
  · rw [if_pos q, if_pos (Or.inl q)]
  · rw [if_neg q]
    by_cases q2 : c = 113
    · rw [if_pos q2, if_pos (Or.inr q2)]
    · rw [if_neg q2, if_neg (by rintro (h | h); exact q h; exact q2 h)]
/-- an expression more is written -/
theorem x_add {X : St} {x : Itm} {e s : Nat} {c : Int32} (he : e < 40) (hx : x.1 ≤ e) (h6 : X 2 6 = nI e) (h7 : X 2 7 = nI s) (hen : ∀ e, e < x.1 → X 8 e = 0 ∨ X 8 e = 1) (h50 : x.2 = 50 ∨ x.2 = 51 → 1 ≤ x.1) :
    ∃ X', f_X5_add N 2 c (nI x.1 - 1) x.2 X = some X' ∧ X' 2 6 = nI (e + 1) ∧ X' 2 7 = nI (s + (if isQ c then 1 else 0)) ∧ X' 3 = q_up (X 3) e c ∧ X' 4 = q_up (X 4) e (c - 97) ∧ X' 8 = q_up (X 8) e (enS (X 3) (X 8) x) ∧ X' 7 = (if isQ c then q_up (X 7) e (nI s) else X 7) ∧ X' 5 = (if x.2 = 50 then q_up (X 5) (x.1 - 1) (nI e) else X 5) ∧ X' 6 = (if x.2 = 51 then q_up (X 6) (x.1 - 1) (nI e) else X 6) ∧ FW X X' := by
  have hen2 : enS (q_up (X 3) e c) (X 8) x = enS (X 3) (X 8) x := by
    unfold enS
    by_cases h0 : x.1 = 0
    · rw [if_pos h0, if_pos h0]
    · rw [q_up_n (show x.1 - 1 ≠ e by omega)]
  have hE := x_ends (N := N) (X := z_wr (z_wr X 3 e c) 4 e (c - 97)) (x := x) (by omega) hen
  have hE' : enS ((z_wr (z_wr X 3 e c) 4 e (c - 97)) 3) ((z_wr (z_wr X 3 e c) 4 e (c - 97)) 8) x = enS (X 3) (X 8) x := hen2
  rw [hE'] at hE
  have h01 : enS (X 3) (X 8) x = 0 ∨ enS (X 3) (X 8) x = 1 := by
    unfold enS
    by_cases h0 : x.1 = 0
    · rw [if_pos h0]; exact Or.inl rfl
    · rw [if_neg h0]
      have := hen (x.1 - 1) (by omega)
      split
      · exact Or.inr rfl
      · split
        · exact this
        · split
          · exact this
          · exact Or.inl rfl
  unfold f_X5_add
  rw [show z_rfS 2 0 = 3 from rfl, show z_rfS 2 1 = 4 from rfl, h6, x_put (show e < z_ln 3 from he), q_bv, x_put (show e < z_ln 4 from he), q_bv, hE, q_bd]
  have hif : (if enS (X 3) (X 8) x = 0 then b_X5_add_49 N 2 c (nI x.1 - 1) x.2 (nI e) 0 (nI e) (z_wr (z_wr X 3 e c) 4 e (c - 97)) else b_X5_add_49 N 2 c (nI x.1 - 1) x.2 (nI e) 1 (nI e) (z_wr (z_wr X 3 e c) 4 e (c - 97))) = b_X5_add_49 N 2 c (nI x.1 - 1) x.2 (nI e) (enS (X 3) (X 8) x) (nI e) (z_wr (z_wr X 3 e c) 4 e (c - 97)) := by
    rcases h01 with q | q
    · rw [if_pos q, q]
    · rw [if_neg (by rw [q]; decide), q]
  rw [hif]
  generalize enS (X 3) (X 8) x = E
  unfold b_X5_add_49
  rw [show z_rfS 2 5 = 8 from rfl, show z_rfS 2 4 = 7 from rfl, x_put (show e < z_ln 8 from he), q_bv, x_site01, q_bd]
  -- the sites
  have tail : ∀ X2 : St, X2 2 6 = nI e → ∃ X', b_X5_add_82 N 2 (nI x.1 - 1) x.2 (nI e) X2 = some X' ∧ X' 2 6 = nI (e + 1) ∧ X' 2 7 = X2 2 7 ∧ X' 3 = X2 3 ∧ X' 4 = X2 4 ∧ X' 8 = X2 8 ∧ X' 7 = X2 7 ∧ X' 5 = (if x.2 = 50 then q_up (X2 5) (x.1 - 1) (nI e) else X2 5) ∧ X' 6 = (if x.2 = 51 then q_up (X2 6) (x.1 - 1) (nI e) else X2 6) ∧ FW X2 X' := by
    intro X2 g6
    unfold b_X5_add_82 b_X5_add_98
    rw [show z_rfS 2 2 = 5 from rfl, show z_rfS 2 3 = 6 from rfl]
    by_cases q50 : x.2 = 50
    · have h1 := h50 (Or.inl q50)
      have n51 : ¬ x.2 = 51 := by rw [q50]; decide
      rw [if_pos q50, q_own h1, x_put (show x.1 - 1 < z_ln 5 from (show x.1 - 1 < 40 by omega)), q_bv, if_neg n51, show (z_wr X2 5 (x.1 - 1) (nI e)) 2 6 = nI e from g6, nI_1, q_lt, if_pos q50, if_neg n51]
      exact ⟨_, rfl, rfl, rfl, rfl, rfl, rfl, rfl, rfl, rfl, (FW.rf.wr (by omega)).wf (by omega)⟩
    · rw [if_neg q50, if_neg q50]
      by_cases q51 : x.2 = 51
      · have h1 := h50 (Or.inr q51)
        rw [if_pos q51, q_own h1, x_put (show x.1 - 1 < z_ln 6 from (show x.1 - 1 < 40 by omega)), q_bv, show (z_wr X2 6 (x.1 - 1) (nI e)) 2 6 = nI e from g6, nI_1, q_lt, if_pos q51]
        exact ⟨_, rfl, rfl, rfl, rfl, rfl, rfl, rfl, rfl, rfl, (FW.rf.wr (by omega)).wf (by omega)⟩
      · rw [if_neg q51, if_neg q51, g6, nI_1, q_lt]
        exact ⟨_, rfl, rfl, rfl, rfl, rfl, rfl, rfl, rfl, rfl, FW.rf.wf (by omega)⟩
  have fr : FW X (z_wr (z_wr (z_wr X 3 e c) 4 e (c - 97)) 8 e E) := ((FW.rf.wr (by omega)).wr (by omega)).wr (by omega)
  by_cases hq : isQ c
  · rw [if_pos hq, if_neg (by decide), if_pos hq, if_pos hq]
    rw [show (z_wr (z_wr (z_wr X 3 e c) 4 e (c - 97)) 8 e E) 2 7 = nI s from h7, x_put (show e < z_ln 7 from he), q_bv]
    rw [show (z_wr (z_wr (z_wr (z_wr X 3 e c) 4 e (c - 97)) 8 e E) 7 e (nI s)) 2 7 = nI s from h7, nI_1, q_lt]
    obtain ⟨X', t1, t2, t3, t4, t5, t6, t7, t8, t9, t10⟩ := tail (z_wr (z_wr (z_wr (z_wr (z_wr X 3 e c) 4 e (c - 97)) 8 e E) 7 e (nI s)) 2 7 (nI (s + 1))) h6
    exact ⟨X', t1, t2, t3, t4, t5, t6, t7, t8, t9, ((fr.wr (by omega)).wf (by omega)).tr t10⟩
  · rw [if_neg hq, if_pos rfl, if_neg hq, if_neg hq]
    obtain ⟨X', t1, t2, t3, t4, t5, t6, t7, t8, t9, t10⟩ := tail (z_wr (z_wr (z_wr X 3 e c) 4 e (c - 97)) 8 e E) h6
    exact ⟨X', t1, t2, by rw [t3, Nat.add_zero]; exact h7, t4, t5, t6, t7, t8, t9, fr.tr t10⟩
set_option maxHeartbeats 1000000 in
theorem x_write (hN : 1000 ≤ N) (hn : n ≤ 96) (hv : okn tx n) (hz : ne tx n ≤ 40) : ∀ (m k f : Nat) (X : St), k + m = n → WI tx n k X → m < f → ∃ X', f_X3_writeInto_6 N f (nI k) X = some X' ∧ WI tx n n X' ∧ FW X X' := by
  intro m
  induction m with
  | zero =>
    intro k f X hk hI hf
    obtain ⟨f, rfl⟩ : ∃ g, f = g + 1 := ⟨f - 1, by omega⟩
    have e : k = n := by omega
    subst e
    refine ⟨X, ?_, hI, FW.rf⟩
    show b_X3_writeInto_6 N (f_X3_writeInto_6 N f) (nI k) X = _
    unfold b_X3_writeInto_6
    rw [hI.1, if_pos (nI_le (Nat.le_refl _) (by omega))]
  | succ m ih =>
    intro k f X hk hI hf
    obtain ⟨f, rfl⟩ : ∃ g, f = g + 1 := ⟨f - 1, by omega⟩
    obtain ⟨i1, i2, i3, i4, i5, i6⟩ := hI
    obtain ⟨x, r, hs, g1, g2⟩ := i3 k (by omega)
    have hmem : x ∈ sk tx k := by rw [hs]; exact List.mem_cons_self
    obtain ⟨-, hsk2, -⟩ := sk_ok (tx := tx) k
    have hx1 : x.1 ≤ ne tx k := hsk2 x hmem
    have hnm := ne_mono (tx := tx) (j := k + 1) (k := n) (by omega)
    show ∃ X', b_X3_writeInto_6 N (f_X3_writeInto_6 N f) (nI k) X = some X' ∧ _
    unfold b_X3_writeInto_6 b_X3_writeInto_69
    rw [i1, if_neg (nI_ge (by omega) (by omega)), x_at (show k < 96 by omega), q_bd, x_at (show k < 96 by omega), q_bd, x_at (show k < 96 by omega), q_bd, g1, g2, i2 k (by omega), nI_1]
    by_cases hb : x.2 = 118
    · obtain ⟨s1, s2, s3⟩ := sk_b hs hb
      have hown : ∃ p, p < k ∧ exq tx p ∧ ne tx p + 1 = x.1 ∧ x.2 ∈ prt (tx p) := by
        rcases sk_own k x hmem with q | q
        · rw [q] at hb; exact absurd hb (by decide)
        · exact q
      obtain ⟨p, p1, p2, p3, p4⟩ := hown
      have hpO := prt_O2 p4
      have hp40 : ne tx p < 40 := by have := exq_lt p2 (show p < n by omega); omega
      rw [if_pos hb, q_own (by omega)]
      unfold f_X5_nameVariable
      rw [show z_rfS 2 1 = 4 from rfl, x_put (show x.1 - 1 < z_ln 4 from (show x.1 - 1 < 40 by omega)), q_bv, q_bv]
      refine Exists.elim (ih (k + 1) f (z_wr X 4 (x.1 - 1) (tx k - 97)) (by omega) ⟨i1, i2, i3, by rw [s2]; exact i4, by rw [s3]; exact i5, ?_⟩ (by omega)) (fun X' r => ⟨X', r.1, r.2.1, (FW.rf.wr (by omega)).tr r.2.2⟩)
      · intro j hj
        by_cases e : j = k
        · subst e
          exact ⟨x, r, hs, fun _ => q_up_s, fun q => absurd hb q⟩
        · obtain ⟨y, r', h1, h2, h3⟩ := i6 j (by omega)
          refine ⟨y, r', h1, fun hy => ?_, fun hy => ?_⟩
          · have hne : y.1 ≠ x.1 := by
              intro q
              have : y = x := by
                cases y; cases x
                simp at q hy hb ⊢
                exact ⟨q, hy.trans hb.symm⟩
              rw [this] at h1
              exact sk_gone h1 k (by omega) hmem
            have hy1 : 1 ≤ y.1 := by
              rcases sk_own j y (by rw [h1]; exact List.mem_cons_self) with q | ⟨p', -, -, q, -⟩
              · rw [q] at hy; exact absurd hy (by decide)
              · omega
            show q_up (X 4) (x.1 - 1) (tx k - 97) (y.1 - 1) = _
            rw [q_up_n (by omega)]
            exact h2 hy
          · obtain ⟨w1, w2, w3, w4, w5, w6⟩ := h3 hy
            refine ⟨w1, fun hN2 => ?_, w3, w4, w5, w6⟩
            show q_up (X 4) (x.1 - 1) (tx k - 97) (ne tx j) = _
            rw [q_up_n]
            · exact w2 hN2
            · intro q
              have hjp : j = p := by
                rcases Nat.lt_trichotomy j p with h | h | h
                · have := exq_lt (tx := tx) ⟨y, r', h1, hy⟩ h; omega
                · exact h
                · have := exq_lt p2 h; omega
              subst hjp
              exact (q_isO_D hpO).2 hN2
    · obtain ⟨s1, s2, s3⟩ := sk_e hs hb
      rw [if_neg hb]
      have hen := WK.en01 k i6
      have h50 : x.2 = 50 ∨ x.2 = 51 → 1 ≤ x.1 := by
        intro q
        rcases sk_own k x hmem with w | ⟨p, -, -, w, -⟩
        · rw [w] at q; exact absurd q (by decide)
        · omega
      obtain ⟨X1, t1, t2, t3, t4, t5, t6, t7, t8, t9, t10⟩ := x_add (N := N) (X := X) (x := x) (e := ne tx k) (s := ns tx k) (c := tx k) (by omega) hx1 i4 i5 (fun e he => hen e (by omega)) h50
      rw [t1, q_bv]
      refine Exists.elim (ih (k + 1) f X1 (by omega) ⟨by rw [t10.1 56 (by omega)]; exact i1, fun j hj => by rw [t10.1 57 (by omega)]; exact i2 j hj, fun j hj => by rw [t10.1 58 (by omega), t10.1 59 (by omega)]; exact i3 j hj, by rw [s2]; exact t2, by rw [s3]; exact t3, ?_⟩ (by omega)) (fun X' r => ⟨X', r.1, r.2.1, t10.tr r.2.2⟩)
      · intro j hj
        rw [t4, t5, t6, t7, t8, t9]
        have enk : ∀ y : Itm, y.1 ≤ ne tx k → enS (q_up (X 3) (ne tx k) (tx k)) (q_up (X 8) (ne tx k) (enS (X 3) (X 8) x)) y = enS (X 3) (X 8) y := by
          intro y hy
          unfold enS
          by_cases h0 : y.1 = 0
          · rw [if_pos h0, if_pos h0]
          · have hne : y.1 - 1 ≠ ne tx k := by omega
            rw [q_up_n hne, q_up_n hne]
        by_cases e : j = k
        · subst e
          refine ⟨x, r, hs, fun q => absurd q hb, fun _ => ⟨q_up_s, fun _ => q_up_s, fun q => ?_, fun q => ?_, fun q => ?_, ?_⟩⟩
          · rw [if_pos q]; exact q_up_s
          · rw [if_pos q]; exact q_up_s
          · rw [if_pos q]; exact q_up_s
          · rw [q_up_s, enk x hx1]
        · obtain ⟨y, r', h1, h2, h3⟩ := i6 j (by omega)
          have hy1 : y.1 ≤ ne tx j := (sk_ok (tx := tx) j).2.1 y (by rw [h1]; exact List.mem_cons_self)
          have hnj := ne_mono (tx := tx) (j := j) (k := k) (by omega)
          have hyx : y ≠ x := by
            intro q
            rw [q] at h1
            exact sk_gone h1 k (by omega) hmem
          refine ⟨y, r', h1, fun hy => ?_, fun hy => ?_⟩
          · have hy0 : 1 ≤ y.1 := by
              rcases sk_own j y (by rw [h1]; exact List.mem_cons_self) with q | ⟨p', -, -, q, -⟩
              · rw [q] at hy; exact absurd hy (by decide)
              · omega
            rw [q_up_n (by omega)]
            exact h2 hy
          · obtain ⟨w1, w2, w3, w4, w5, w6⟩ := h3 hy
            have hlt := exq_lt (tx := tx) ⟨y, r', h1, hy⟩ (show j < k by omega)
            have hne : ne tx j ≠ ne tx k := by omega
            refine ⟨by rw [q_up_n hne]; exact w1, fun q => by rw [q_up_n hne]; exact w2 q, fun q => ?_, fun q => ?_, fun q => ?_, ?_⟩
            · by_cases hq : isQ (tx k)
              · rw [if_pos hq, q_up_n hne]; exact w3 q
              · rw [if_neg hq]; exact w3 q
            · by_cases hq : x.2 = 50
              · have : y.1 ≠ x.1 := by
                  intro w
                  apply hyx
                  cases y; cases x
                  simp at w q hq ⊢
                  exact ⟨w, q.trans hq.symm⟩
                have h1x := h50 (Or.inl hq)
                have h1y : 1 ≤ y.1 := by
                  rcases sk_own j y (by rw [h1]; exact List.mem_cons_self) with w | ⟨p', -, -, w, -⟩
                  · rw [w] at q; exact absurd q (by decide)
                  · omega
                rw [if_pos hq, q_up_n (by omega)]; exact w4 q
              · rw [if_neg hq]; exact w4 q
            · by_cases hq : x.2 = 51
              · have : y.1 ≠ x.1 := by
                  intro w
                  apply hyx
                  cases y; cases x
                  simp at w q hq ⊢
                  exact ⟨w, q.trans hq.symm⟩
                have h1x := h50 (Or.inr hq)
                have h1y : 1 ≤ y.1 := by
                  rcases sk_own j y (by rw [h1]; exact List.mem_cons_self) with w | ⟨p', -, -, w, -⟩
                  · rw [w] at q; exact absurd q (by decide)
                  · omega
                rw [if_pos hq, q_up_n (by omega)]; exact w5 q
              · rw [if_neg hq]; exact w5 q
            · rw [q_up_n hne, enk y (by omega)]; exact w6
end
