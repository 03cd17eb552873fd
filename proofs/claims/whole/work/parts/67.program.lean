/-! program -/
section
variable {N : Nat} {X M : St} {tx : Nat → Int32} {n : Nat}
theorem Fail.uq {p p' : Nat} (h : Fail tx n p) (h' : Fail tx n p') : p = p' := by
  obtain ⟨a1, a2, a3⟩ := h
  obtain ⟨b1, b2, b3⟩ := h'
  rcases Nat.lt_trichotomy p p' with q | q | q
  · rcases a3 with ⟨_, w⟩ | ⟨w, _⟩
    · exact absurd (b2 p q) w
    · omega
  · exact q
  · rcases b3 with ⟨_, w⟩ | ⟨w, _⟩
    · exact absurd (a2 p' q) w
    · omega
theorem Fail.no {p : Nat} (h : Fail tx n p) (h' : okn tx n) : False := by
  obtain ⟨a1, a2, a3⟩ := h
  rcases a3 with ⟨w, w2⟩ | ⟨_, w⟩
  · exact w2 (h'.1 p w)
  · exact w h'.2
theorem BA.uq {k : Nat} {v v' : Int32} (h : BA tx k v) (h' : BA tx k v') : v = v' := by
  rcases h with ⟨h1, h2⟩ | ⟨p, h1, h2, h3, h4⟩
  · rcases h' with ⟨g1, g2⟩ | ⟨q, g1, g2, g3, g4⟩
    · rw [h1, g1]
    · exact absurd g2 (h2 q g1)
  · rcases h' with ⟨g1, g2⟩ | ⟨q, g1, g2, g3, g4⟩
    · exact absurd h2 (g2 p h1)
    · have : p = q := by
        rcases Nat.lt_trichotomy p q with w | w | w
        · exact absurd h2 (g3 p w)
        · exact w
        · exact absurd g2 (h3 q w)
      rw [h4, g4, this]
theorem q_1000 : ∀ p, p < 97 → ¬ (-1000 : Int32) - nI p = 0 ∧ ¬ (-2000 : Int32) - nI p = 0 := by decide +kernel
theorem x_forg : ∀ (w k f : Nat) (S : St), k + w = 10 → w < f → (∀ j, j < k → S 11 j = 0 ∧ S 12 j = 0 ∧ S 13 j = 0) → ∃ S', f_X0_forget_2 N 10 f (nI k) S = some S' ∧ (∀ j, j < 10 → S' 11 j = 0 ∧ S' 12 j = 0 ∧ S' 13 j = 0) ∧ ∀ o, o ≠ 11 ∧ o ≠ 12 ∧ o ≠ 13 → S' o = S o := by
  intro w
  induction w with
  | zero =>
    intro k f S hk hf h
    obtain ⟨f, rfl⟩ : ∃ g, f = g + 1 := ⟨f - 1, by omega⟩
    refine ⟨S, ?_, fun j hj => h j (by omega), fun _ _ => rfl⟩
    show b_X0_forget_2 N 10 (f_X0_forget_2 N 10 f) (nI k) S = _
    unfold b_X0_forget_2
    rw [show k = 10 by omega, if_pos (by decide)]
  | succ w ih =>
    intro k f S hk hf h
    obtain ⟨f, rfl⟩ : ∃ g, f = g + 1 := ⟨f - 1, by omega⟩
    show ∃ S', b_X0_forget_2 N 10 (f_X0_forget_2 N 10 f) (nI k) S = some S' ∧ _
    unfold b_X0_forget_2
    rw [if_neg (show ¬ (10 : Int32) ≤ nI k from (show ¬ nI 10 ≤ nI k from nI_ge (by omega) (by omega))), show z_rfS 10 0 = 11 from rfl, show z_rfS 10 1 = 12 from rfl, show z_rfS 10 2 = 13 from rfl, x_put (show k < z_ln 11 from (show k < 10 by omega)), q_bv, x_put (show k < z_ln 12 from (show k < 10 by omega)), q_bv, x_put (show k < z_ln 13 from (show k < 10 by omega)), q_bv, nI_1]
    obtain ⟨S', r1, r2, r3⟩ := ih (k + 1) f (z_wr (z_wr (z_wr S 11 k 0) 12 k 0) 13 k 0) (by omega) (by omega) (by
      intro j hj
      show q_up (S 11) k 0 j = 0 ∧ q_up (S 12) k 0 j = 0 ∧ q_up (S 13) k 0 j = 0
      by_cases q : j = k
      · subst q; exact ⟨q_up_s, q_up_s, q_up_s⟩
      · rw [q_up_n q, q_up_n q, q_up_n q]; exact h j (by omega))
    exact ⟨S', r1, r2, fun o ho => by rw [r3 o ho, z_wr_o (by omega), z_wr_o (by omega), z_wr_o (by omega)]⟩
theorem m_108 : ∀ (w k f : Nat) (S : St), k + w = 10 → w < f → (∀ j, j < k → S 79 j = 0 ∧ S 80 j = 0 ∧ S 81 j = 0) → ∃ S', f_X10_program_108 N f (nI k) S = some (S 65 6, z_wr (z_wr S' 65 29 (-9)) 65 35 0) ∧ (∀ j, j < 10 → S' 79 j = 0 ∧ S' 80 j = 0 ∧ S' 81 j = 0) ∧ ∀ o, o ≠ 79 ∧ o ≠ 80 ∧ o ≠ 81 → S' o = S o := by
  intro w
  induction w with
  | zero =>
    intro k f S hk hf h
    obtain ⟨f, rfl⟩ : ∃ g, f = g + 1 := ⟨f - 1, by omega⟩
    refine ⟨S, ?_, fun j hj => h j (by omega), fun _ _ => rfl⟩
    show b_X10_program_108 N (f_X10_program_108 N f) (nI k) S = _
    unfold b_X10_program_108
    rw [show k = 10 by omega, if_pos (by decide), q_lt, q_lt]
    rfl
  | succ w ih =>
    intro k f S hk hf h
    obtain ⟨f, rfl⟩ : ∃ g, f = g + 1 := ⟨f - 1, by omega⟩
    show ∃ S', b_X10_program_108 N (f_X10_program_108 N f) (nI k) S = some _ ∧ _
    unfold b_X10_program_108
    have c1 : (nI k).toNatClampNeg = k := nI_clamp (by omega)
    simp only [c1]
    rw [if_neg (show ¬ (10 : Int32) ≤ nI k from (show ¬ nI 10 ≤ nI k from nI_ge (by omega) (by omega))), q_gd (q_inl (show k < z_ln 79 from (show k < 10 by omega))), q_lt, q_gd (q_inl (show k < z_ln 80 from (show k < 10 by omega))), q_lt, q_gd (q_inl (show k < z_ln 81 from (show k < 10 by omega))), q_lt, nI_1]
    obtain ⟨S', r1, r2, r3⟩ := ih (k + 1) f (z_wr (z_wr (z_wr S 79 k 0) 80 k 0) 81 k 0) (by omega) (by omega) (by
      intro j hj
      show q_up (S 79) k 0 j = 0 ∧ q_up (S 80) k 0 j = 0 ∧ q_up (S 81) k 0 j = 0
      by_cases q : j = k
      · subst q; exact ⟨q_up_s, q_up_s, q_up_s⟩
      · rw [q_up_n q, q_up_n q, q_up_n q]; exact h j (by omega))
    exact ⟨S', r1, r2, fun o ho => by rw [r3 o ho, z_wr_o (by omega), z_wr_o (by omega), z_wr_o (by omega)]⟩
/-- the text is copied -/
theorem m_46 (hn : n ≤ 96) : ∀ (w k f : Nat) (S : St), k + w = n → w < f → (∀ j, j < k → S 73 j = S 72 j ∧ S 74 j = S 75 j) → ∃ S', f_X10_program_46 N f (nI n) (nI k) S = (z_lt (z_wr S' 65 16 (nI n)) fun S8 => z_lt (z_wr S8 65 6 (S8 65 22)) fun S9 => z_lt (z_wr S9 65 7 (S9 65 23)) fun S10 => z_bv (f_X10_builds N S10) fun S11 => f_X10_program_108 N N 0 S11) ∧ (∀ j, j < n → S' 73 j = S 72 j ∧ S' 74 j = S 75 j) ∧ ∀ o, o ≠ 73 ∧ o ≠ 74 → S' o = S o := by
  intro w
  induction w with
  | zero =>
    intro k f S hk hf h
    obtain ⟨f, rfl⟩ : ∃ g, f = g + 1 := ⟨f - 1, by omega⟩
    refine ⟨S, ?_, fun j hj => h j (by omega), fun _ _ => rfl⟩
    show b_X10_program_46 N (f_X10_program_46 N f) (nI n) (nI k) S = _
    unfold b_X10_program_46
    rw [show k = n by omega, if_pos (nI_le (Nat.le_refl _) (by omega))]
  | succ w ih =>
    intro k f S hk hf h
    obtain ⟨f, rfl⟩ : ∃ g, f = g + 1 := ⟨f - 1, by omega⟩
    show ∃ S', b_X10_program_46 N (f_X10_program_46 N f) (nI n) (nI k) S = _ ∧ _
    have e0 : b_X10_program_46 N (f_X10_program_46 N f) (nI n) (nI k) S = f_X10_program_46 N f (nI n) (nI (k + 1)) (z_wr (z_wr S 73 k (S 72 k)) 74 k (S 75 k)) := by
      unfold b_X10_program_46
      have c1 : (nI k).toNatClampNeg = k := nI_clamp (by omega)
      simp only [c1]
      rw [if_neg (nI_ge (by omega) (by omega)), q_gd (q_inl (show k < z_ln 72 from (show k < 96 by omega))), q_gd (q_inl (show k < z_ln 73 from (show k < 96 by omega))), q_lt, q_gd (q_inl (show k < z_ln 75 from (show k < 96 by omega))), q_gd (q_inl (show k < z_ln 74 from (show k < 96 by omega))), q_lt, nI_1]
      rfl
    rw [e0]
    obtain ⟨S', r1, r2, r3⟩ := ih (k + 1) f (z_wr (z_wr S 73 k (S 72 k)) 74 k (S 75 k)) (by omega) (by omega) (by
      intro j hj
      show q_up (S 73) k (S 72 k) j = S 72 j ∧ q_up (S 74) k (S 75 k) j = S 75 j
      by_cases q : j = k
      · subst q; exact ⟨q_up_s, q_up_s⟩
      · rw [q_up_n q, q_up_n q]; exact h j (by omega))
    exact ⟨S', r1, r2, fun o ho => by rw [r3 o ho, z_wr_o (by omega), z_wr_o (by omega)]⟩
theorem p_program (hN : 5000 ≤ N) (h : Rel X M) : PB (f_X9_program N X) (f_X10_program N M) := by
  obtain ⟨h1, ⟨n, l1, l2, l3, l4⟩, h5, h6, h7⟩ := id h
  obtain ⟨tx, htx⟩ : ∃ tx, tx = X 57 := ⟨_, rfl⟩
  -- the class reads
  have hxs : f_X3_findFault N X = f_X3_findFault_19 N N 0 (z_wr (z_wr (z_wr (z_wr (z_wr X 56 5 0) 56 6 0) 60 0 (-1)) 61 0 49) 56 5 (nI 1)) := by
    unfold f_X3_findFault
    rw [q_lt, q_lt, x_await (l := 0) rfl (by omega), q_bv]
  have hX0 : XI tx n 0 (z_wr (z_wr (z_wr (z_wr (z_wr X 56 5 0) 56 6 0) 60 0 (-1)) 61 0 49) 56 5 (nI 1)) := by
    rw [htx]
    exact ⟨l2, fun j hj => rfl, rfl, rfl, ⟨(by decide : (-1 : Int32) = nI 0 - 1), rfl, trivial⟩, fun j hj => absurd hj (Nat.not_lt_zero _)⟩
  have hXf : FS X (z_wr (z_wr (z_wr (z_wr (z_wr X 56 5 0) 56 6 0) 60 0 (-1)) 61 0 49) 56 5 (nI 1)) := ((((FS.rf.wf (by omega)).wf (by omega)).wr (by omega)).wr (by omega)).wf (by omega)
  generalize hXe : z_wr (z_wr (z_wr (z_wr (z_wr X 56 5 0) 56 6 0) 60 0 (-1)) 61 0 49) 56 5 (nI 1) = X0 at hxs hX0 hXf
  -- the reference reads
  obtain ⟨M0, m1, m2, m3, m4⟩ := m_await (N := N) (M := z_wr (z_wr (z_wr (z_wr (z_wr M 65 17 0) 65 18 (-1)) 65 19 0) 65 22 0) 65 23 0) (l := []) (a := 101) rfl trivial (by simp)
  have hms : f_X10_reads N M = f_X10_reads_31 N N M0 := by
    unfold f_X10_reads
    rw [q_lt, q_lt, q_lt, q_lt, q_lt, m1, q_bv]
  have hMf : FRd M M0 := (((((FRd.rf.wf (by omega)).wf (by omega)).wf (by omega)).wf (by omega)).wf (by omega)).tr m4.d
  have hM0 : MI tx n 0 (sk tx 0) M0 := by
    refine ⟨?_, fun j hj => ?_, ?_, m2, m3, ?_, ?_, Or.inl ⟨?_, fun j hj => absurd hj (Nat.not_lt_zero _)⟩, fun j hj => absurd hj (Nat.not_lt_zero _)⟩
    · rw [m4.2 15 (by omega)]; exact l3
    · rw [m4.1 72 (by omega), htx]; exact (l4 j hj).symm
    · rw [m4.2 17 (by omega)]; rfl
    · rw [m4.2 22 (by omega)]; rfl
    · rw [m4.2 23 (by omega)]; rfl
    · rw [m4.2 18 (by omega)]; rfl
  -- what stays when nothing is written
  have stay : ∀ (X' M' : St), FS X X' → FRd M M' → Rel (z_wr X' 56 7 0) (z_wr M' 65 15 0) := by
    intro X' M' fx fm
    obtain ⟨R, w1, w2, w3, w4⟩ := h5
    exact ⟨h1.eq (fun o ho => by rw [z_wr_o (by omega)]; exact fx.1 o (by omega)) (fun o ho => by rw [z_wr_o (by omega)]; exact fm.1 o (by omega)) (fun k hk => by rw [z_wr_k (by omega)]; exact fm.2 k (by omega)), ⟨0, by omega, rfl, rfl, fun j hj => absurd hj (Nat.not_lt_zero _)⟩, ⟨R, w1, by rw [z_wr_o (by omega), fx.1 0 (by omega)]; exact w2, by rw [z_wr_k (by omega), fm.2 69 (by omega)]; exact w3, fun j hj => by rw [z_wr_o (by omega), z_wr_o (by omega), fx.1 62 (by omega), fm.1 100 (by omega)]; exact w4 j hj⟩, fun j hj => by rw [z_wr_o (by omega), z_wr_o (by omega), fx.1 63 (by omega), fm.1 66 (by omega)]; exact h6 j hj, h7.eq (by rw [z_wr_o (by omega), fx.1 0 (by omega)]) (fun o ho => by rw [z_wr_o (by omega)]; exact fx.1 o (by omega)) (by rw [z_wr_k (by omega)]; exact fm.2 72 (by omega)) (by rw [z_wr_o (by omega)]; exact fm.1 101 (by omega))⟩
  unfold f_X9_program f_X10_program b_X9_program_33 f_X3_forget
  rw [hxs, hms]
  rcases x_find (N := N) (tx := tx) (by omega) l1 n 0 N X0 (by omega) hX0 (fun j hj => absurd hj (Nat.not_lt_zero _)) (by omega) with ⟨p, X1, a1, a2, a3⟩ | ⟨ho, X1, a1, a2, a3⟩
  · rcases m_read (N := N) (tx := tx) (by omega) l1 n 0 N M0 (by omega) hM0 (fun j hj => absurd hj (Nat.not_lt_zero _)) (by omega) with ⟨p', M1, b1, b2, b3, b4⟩ | ⟨ho, M1, b1, b2, b3⟩
    · have := a1.uq b1
      subst this
      have hp97 : p < 97 := by have := a1.1; omega
      have a2' : f_X3_findFault_19 N N 0 X0 = some (-1000 - nI p, X1) := a2
      rw [a2', q_bd, if_neg (q_1000 p hp97).1, q_lt, q_bv, if_neg (q_1000 p hp97).1, b2, q_bd, q_lt, if_pos rfl, show (z_wr M1 65 15 0) 65 17 = nI p from b3]
      exact ⟨_, _, _, rfl, rfl, stay X1 M1 (hXf.tr a3) (hMf.tr b4)⟩
    · exact absurd ho (fun q => a1.no q)
  · rcases m_read (N := N) (tx := tx) (by omega) l1 n 0 N M0 (by omega) hM0 (fun j hj => absurd hj (Nat.not_lt_zero _)) (by omega) with ⟨p', M1, b1, b2, b3, b4⟩ | ⟨-, M1, b1, b2, b3⟩
    · exact absurd ho (fun q => b1.no q)
    · have a3' : f_X3_findFault_19 N N 0 X0 = _ := a3
      obtain ⟨v, v1, v2⟩ := x_beyond (N := N) (by omega) l1 a1 ho n 0 N (by omega) (fun j hj => absurd hj (Nat.not_lt_zero _)) (by omega)
      have v1' : f_X3_placeBeyondLimits N X1 = some (v, X1) := v1
      rw [a3', v1', q_bd]
      obtain ⟨i1, i2, i3, i4, i5, i6, i7, i8, i9⟩ := b2
      have hv18 : M1 65 18 = v := i8.uq v2
      rw [b1, q_bd, q_lt, if_neg q_10, show (z_wr M1 65 15 0) 65 18 = v from hv18]
      rcases v2 with ⟨e, nb⟩ | ⟨p, p1, p2, p3, e⟩
      · rw [e, if_neg (show ¬ (0 : Int32) ≤ -1 by decide), q_bd, if_pos rfl, if_pos (show (-1 : Int32) < 0 by decide)]
        have hle := bd_le (tx := tx) n (fun j hj => ⟨ho.1 j hj, nb j hj⟩)
        -- the class writes
        obtain ⟨x1, x2, x3, x4, x5, x6⟩ := a1
        unfold f_X3_writeInto f_X5_empty
        rw [q_lt, q_lt, q_bv]
        obtain ⟨X2, w1, w2, w3⟩ := x_write (N := N) (tx := tx) (by omega) l1 ho hle.1 n 0 N (z_wr (z_wr X1 2 6 0) 2 7 0) (by omega) ⟨x1, x2, x6, rfl, rfl, fun j hj => absurd hj (Nat.not_lt_zero _)⟩ (by omega)
        have w1' : f_X3_writeInto_6 N N 0 (z_wr (z_wr X1 2 6 0) 2 7 0) = some X2 := w1
        rw [w1', q_bv]
        unfold f_X6_startAnew f_X0_forget
        obtain ⟨X3, y1, y2, y3⟩ := x_forg (N := N) 10 0 N X2 (by omega) (by omega) (fun j hj => absurd hj (Nat.not_lt_zero _))
        have y1' : f_X0_forget_2 N 10 N 0 X2 = some X3 := y1
        rw [y1', q_bv, q_lt, q_lt, q_bv, q_lt, q_bv, if_pos rfl]
        -- the reference writes
        have hn15 : M1 65 15 = nI n := i1
        rw [hn15]
        obtain ⟨M2, c1, c2, c3⟩ := m_46 (N := N) l1 n 0 N (z_wr M1 65 15 0) (by omega) (by omega) (fun j hj => absurd hj (Nat.not_lt_zero _))
        have c1' : f_X10_program_46 N N (nI n) 0 (z_wr M1 65 15 0) = _ := c1
        rw [c1', q_lt, q_lt, q_lt]
        have e22 : (z_wr M2 65 16 (nI n)) 65 22 = nI (ne tx n) := by
          show M2 65 22 = _
          rw [c3 65 (by omega)]; exact i6
        have e23 : (z_wr (z_wr M2 65 16 (nI n)) 65 6 (nI (ne tx n))) 65 23 = nI (ns tx n) := by
          show M2 65 23 = _
          rw [c3 65 (by omega)]; exact i7
        rw [e22, e23]
        have hTF : TF tx n (M2 73) (M2 74) := by
          refine ⟨fun k hk => ?_, fun k hk => ?_⟩
          · rw [(c2 k hk).1]
            exact i2 k hk
          · obtain ⟨y, r, g1, g2⟩ := i9 k hk
            exact ⟨y, r, g1, by rw [(c2 k hk).2]; exact g2⟩
        obtain ⟨M3, d1, d2, d3, d4⟩ := m_build (N := N) (tx := tx) (M := z_wr (z_wr (z_wr M2 65 16 (nI n)) 65 6 (nI (ne tx n))) 65 7 (nI (ns tx n))) (by omega) l1 ho hle.1 rfl rfl hTF
        rw [d1, q_bv]
        obtain ⟨M4, f1, f2, f3⟩ := m_108 (N := N) 10 0 N M3 (by omega) (by omega) (fun j hj => absurd hj (Nat.not_lt_zero _))
        have f1' : f_X10_program_108 N N 0 M3 = _ := f1
        rw [f1', d4.2 6 (by omega)]
        -- alike
        have hx : ∀ o, o ≠ 1 ∧ (o < 2 ∨ 8 < o) ∧ o ≠ 11 ∧ o ≠ 12 ∧ o ≠ 13 ∧ o ≠ 56 ∧ (o < 58 ∨ 61 < o) → X3 o = X o := fun o ho => by
          rw [y3 o (by omega), w3.1 o (by omega), z_wr_o (by omega), z_wr_o (by omega), a2.1 o (by omega), hXf.1 o (by omega)]
        have hm : ∀ o, o = 66 ∨ o = 72 ∨ o = 78 ∨ 98 ≤ o → M4 o = M o := fun o ho => by
          rw [f3 o (by omega), d4.1 o (by omega), z_wr_o (by omega), z_wr_o (by omega), z_wr_o (by omega), c3 o (by omega), z_wr_o (by omega), b3.1 o (by omega), hMf.1 o (by omega)]
        have hk : ∀ k, 66 ≤ k → M4 65 k = M 65 k := fun k hk => by
          rw [f3 65 (by omega), d4.2 k (by omega), z_wr_k (by omega), z_wr_k (by omega), z_wr_k (by omega), c3 65 (by omega), z_wr_k (by omega), b3.2 k (by omega), hMf.2 k (by omega)]
        obtain ⟨o1, o2, o3, o4, o5, o6⟩ := w2
        obtain ⟨tx', n', g, -, -⟩ := h1
        have hG : RGl (X 9) (M 78) := g.2.2.2.1
        obtain ⟨R, r1, r2, r3, r4⟩ := h5
        refine ⟨nI (ne tx n), z_wr (z_wr (z_wr X3 1 4 0) 1 5 0) 56 7 0, _, ?_, rfl, ?_⟩
        · show some (X3 2 6, _) = _
          rw [y3 2 (by omega), o4]
        refine ⟨⟨tx, n, ⟨⟨ho, l1, hle⟩, ⟨?_, ?_, ?_⟩, ⟨?_, ?_, ?_, ?_⟩, ?_, ?_, ?_, Or.inl ⟨rfl, rfl⟩, 0, by omega, rfl, rfl⟩, ?_, ?_⟩, ⟨0, by omega, rfl, ?_, fun j hj => absurd hj (Nat.not_lt_zero _)⟩, ⟨R, r1, ?_, ?_, fun j hj => ?_⟩, fun j hj => ?_, ?_⟩
        · show X3 2 6 = _
          rw [y3 2 (by omega)]; exact o4
        · show X3 2 7 = _
          rw [y3 2 (by omega)]; exact o5
        · show ∀ k, k < n → WK tx (X3 3) (X3 4) (X3 5) (X3 6) (X3 7) (X3 8) k
          rw [y3 3 (by omega), y3 4 (by omega), y3 5 (by omega), y3 6 (by omega), y3 7 (by omega), y3 8 (by omega)]
          exact o6
        · show M4 65 16 = _
          rw [f3 65 (by omega), d4.2 16 (by omega)]; rfl
        · show M4 65 6 = _
          rw [f3 65 (by omega), d4.2 6 (by omega)]; rfl
        · show M4 65 7 = _
          rw [f3 65 (by omega), d4.2 7 (by omega)]; rfl
        · show TF tx n (M4 73) (M4 74)
          rw [f3 73 (by omega), f3 74 (by omega), d4.1 73 (by omega), d4.1 74 (by omega)]; exact hTF
        · show RGl (X3 9) (M4 78)
          rw [hx 9 (by omega), hm 78 (by omega)]; exact hG
        · show RCa (X3 11) (X3 12) (X3 13) (M4 79) (M4 80) (M4 81)
          intro k hk'
          rw [(y2 k hk').1, (y2 k hk').2.1, (y2 k hk').2.2, (f2 k hk').1, (f2 k hk').2.1, (f2 k hk').2.2]
          exact ⟨rfl, ⟨0, by omega, rfl⟩, rfl, rfl⟩
        · show ∀ k, ns tx n ≤ k → k < 10 → X3 11 k = 0
          exact fun k _ hk' => (y2 k hk').1
        · exact fun p hp => (d2 p hp).eq (fun o ho => by rw [z_wr_o (by omega), z_wr_o (by omega), f3 o (by omega)])
        · show M4 65 8 = _
          rw [f3 65 (by omega)]; exact d3
        · show M4 65 15 = _
          rw [f3 65 (by omega), d4.2 15 (by omega)]
          show M2 65 15 = _
          rw [c3 65 (by omega)]
          rfl
        · show X3 0 7 = _
          rw [hx 0 (by omega)]; exact r2
        · show M4 65 69 = _
          rw [hk 69 (by omega)]; exact r3
        · show X3 62 j = M4 100 j
          rw [hx 62 (by omega), hm 100 (by omega)]; exact r4 j hj
        · show X3 63 j = M4 66 j
          rw [hx 63 (by omega), hm 66 (by omega)]; exact h6 j hj
        · exact h7.eq (by show X3 0 8 = _; rw [hx 0 (by omega)]) (fun o ho => by rw [z_wr_o (by omega), z_wr_o (by omega), z_wr_o (by omega), hx o (by omega)]) (by show M4 65 72 = _; rw [hk 72 (by omega)]) (by show M4 101 = _; rw [hm 101 (by omega)])
      · have hp97 : p < 97 := by omega
        rw [e, if_pos (nI_pos' (by omega)), q_bd, if_neg (q_1000 p hp97).2, q_lt, q_bv, if_neg (q_1000 p hp97).2, if_neg (nI_pos (by omega))]
        exact ⟨_, _, _, rfl, rfl, stay X1 M1 (hXf.tr a2) (hMf.tr b3)⟩
end
