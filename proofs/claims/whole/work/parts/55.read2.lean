/-! the reference reads; what is beyond the limits -/
def bd (tx : Nat → Int32) (j : Nat) : Prop := ∃ x r, sk tx j = x :: r ∧ x.2 ≠ 118 ∧ (40 ≤ ne tx j ∨ (isQ (tx j) ∧ 10 ≤ ns tx j))
def BA (tx : Nat → Int32) (k : Nat) (v : Int32) : Prop := (v = -1 ∧ ∀ j, j < k → ¬ bd tx j) ∨ ∃ p, p < k ∧ bd tx p ∧ (∀ j, j < p → ¬ bd tx j) ∧ v = nI p
theorem bd_le {tx : Nat → Int32} : ∀ k, (∀ j, j < k → ok1 tx j ∧ ¬ bd tx j) → ne tx k ≤ 40 ∧ ns tx k ≤ 10
  | 0, _ => ⟨Nat.zero_le _, Nat.zero_le _⟩
  | k + 1, h => by
    obtain ⟨h1, h2⟩ := bd_le (tx := tx) k (fun j hj => h j (by omega))
    obtain ⟨⟨x, r, hs, -, -⟩, hb⟩ := h k (by omega)
    by_cases hx : x.2 = 118
    · obtain ⟨-, e1, e2⟩ := sk_b hs hx
      rw [e1, e2]; exact ⟨h1, h2⟩
    · obtain ⟨-, e1, e2⟩ := sk_e hs hx
      rw [e1, e2]
      have q1 : ¬ 40 ≤ ne tx k := fun q => hb ⟨x, r, hs, hx, Or.inl q⟩
      refine ⟨by omega, ?_⟩
      by_cases hq : isQ (tx k)
      · rw [if_pos hq]
        have q2 : ¬ 10 ≤ ns tx k := fun q => hb ⟨x, r, hs, hx, Or.inr ⟨hq, q⟩⟩
        omega
      · rw [if_neg hq]; omega
theorem ne_le {tx : Nat → Int32} : ∀ k, ne tx k ≤ k ∧ ns tx k ≤ k
  | 0 => ⟨Nat.le_refl _, Nat.le_refl _⟩
  | k + 1 => by
    obtain ⟨h1, h2⟩ := ne_le (tx := tx) k
    refine ⟨by rcases ne_step (tx := tx) (k := k) with q | q <;> omega, ?_⟩
    cases h : sk tx k with
    | nil =>
      have e : ns tx (k + 1) = ns tx k := by
        show ns tx k + _ = _
        rw [h]
        rfl
      omega
    | cons x r =>
      by_cases hx : x.2 = 118
      · obtain ⟨-, -, e2⟩ := sk_b h hx
        omega
      · obtain ⟨-, -, e2⟩ := sk_e h hx
        by_cases hq : isQ (tx k)
        · rw [if_pos hq] at e2; omega
        · rw [if_neg hq] at e2; omega
section
variable {N : Nat} {tx : Nat → Int32} {n : Nat}
def FRd (M M' : St) : Prop := (∀ o, o ≠ 65 ∧ o ≠ 75 ∧ o ≠ 76 → M' o = M o) ∧ ∀ k, k ≠ 17 ∧ k ≠ 18 ∧ k ≠ 19 ∧ k ≠ 22 ∧ k ≠ 23 → M' 65 k = M 65 k
theorem FRd.rf {M : St} : FRd M M := ⟨fun _ _ => rfl, fun _ _ => rfl⟩
theorem FRd.tr {A B C : St} (h : FRd A B) (g : FRd B C) : FRd A C := ⟨fun o ho => (g.1 o ho).trans (h.1 o ho), fun k hk => (g.2 k hk).trans (h.2 k hk)⟩
theorem FRd.wr {M M' : St} {o k : Nat} {v : Int32} (h : FRd M M') (ho : o = 75 ∨ o = 76) : FRd M (z_wr M' o k v) := ⟨fun a ha => by rw [z_wr_o (by omega)]; exact h.1 a ha, fun j hj => by rw [z_wr_o (by omega)]; exact h.2 j hj⟩
theorem FRd.wf {M M' : St} {k : Nat} {v : Int32} (h : FRd M M') (hk : k = 17 ∨ k = 18 ∨ k = 19 ∨ k = 22 ∨ k = 23) : FRd M (z_wr M' 65 k v) := ⟨fun a ha => by rw [z_wr_o (by omega)]; exact h.1 a ha, fun j hj => by rw [z_wr_k (by omega)]; exact h.2 j hj⟩
theorem FR1.d {M M' : St} (h : FR1 M M') : FRd M M' := ⟨fun o ho => h.1 o (by omega), fun k hk => h.2 k (by omega)⟩
/-- at place k; w: what is still to come -/
def MI (tx : Nat → Int32) (n k : Nat) (w : List Itm) (M : St) : Prop := M 65 15 = nI n ∧ (∀ j, j < n → M 72 j = tx j) ∧ M 65 17 = nI k ∧ M 65 19 = nI (w.map kn).length ∧ rk (M 76) (w.map kn) ∧ M 65 22 = nI (ne tx k) ∧ M 65 23 = nI (ns tx k) ∧ BA tx k (M 65 18) ∧ ∀ j, j < k → ∃ x r, sk tx j = x :: r ∧ M 75 j = (if x.2 = 118 then 1 else 0)
theorem q_kn (c : Int32) (e : Nat) : ((prt c).map (fun s => (e, s))).map kn = (prt c).map ks := by
  rw [List.map_map]; rfl
theorem m_site1 {c : Int32} {S : St} (h : isQ c) : f_X10_isSite N c S = some (1, S) := by
  unfold f_X10_isSite
  rcases h with q | q <;> rw [q] <;> rfl
theorem m_site0 {c : Int32} {S : St} (h : ¬ isQ c) : f_X10_isSite N c S = some (0, S) := by
  unfold f_X10_isSite
  rw [if_neg (fun q => h (Or.inl q)), if_neg (fun q => h (Or.inr q))]
/-- an expression more is counted -/
theorem m_r85 {c : Int32} {M : St} {a b : Nat} (h22 : M 65 22 = nI a) (h23 : M 65 23 = nI b) : b_X10_readsOne_85 N c M = some (1, z_wr (z_wr M 65 22 (nI (a + 1))) 65 23 (nI (b + (if isQ c then 1 else 0)))) := by
  unfold b_X10_readsOne_85
  rw [h22, nI_1, q_lt]
  by_cases hq : isQ c
  · rw [m_site1 hq, q_bd, if_neg (by decide), if_pos hq, show (z_wr M 65 22 (nI (a + 1))) 65 23 = nI b from h23, nI_1]; rfl
  · rw [m_site0 hq, q_bd, if_pos rfl, if_neg hq, show (z_wr M 65 22 (nI (a + 1))) 65 23 = nI b from h23, Int32.add_zero]; rfl
set_option maxHeartbeats 1000000 in
theorem m_one {k : Nat} {M : St} {x : Itm} {r : List Itm} (hN : 1000 ≤ N) (hn : n ≤ 96) (hk : k < n) (hs : sk tx k = x :: r) (hI : MI tx n k r M) (hok : ∀ j, j < k → ok1 tx j) :
    (ok1 tx k → ∃ M', f_X10_readsOne N (tx k) (kn x) M = some (1, M') ∧ M' 65 17 = nI k ∧ MI tx n (k + 1) (sk tx (k + 1)) (z_wr M' 65 17 (nI (k + 1))) ∧ FRd M M') ∧ (¬ ok1 tx k → ∃ M', f_X10_readsOne N (tx k) (kn x) M = some (0, M') ∧ M' 65 17 = nI k ∧ FRd M M') := by
  obtain ⟨i1, i2, i3, i4, i5, i6, i7, i8, i9⟩ := hI
  obtain ⟨-, -, hlen⟩ := sk_ok (tx := tx) k
  rw [hs] at hlen
  obtain ⟨hne, hns⟩ := ne_le (tx := tx) k
  have hck : (nI k).toNatClampNeg = k := nI_clamp (by omega)
  have j9 : ∀ v : Int32, v = (if x.2 = 118 then 1 else 0) → ∀ j, j < k + 1 → ∃ y r, sk tx j = y :: r ∧ q_up (M 75) k v j = (if y.2 = 118 then 1 else 0) := by
    intro v hv j hj
    by_cases e : j = k
    · subst e; exact ⟨x, r, hs, by rw [q_up_s]; exact hv⟩
    · obtain ⟨y, r', g1, g2⟩ := i9 j (by omega)
      exact ⟨y, r', g1, by rw [q_up_n e]; exact g2⟩
  unfold f_X10_readsOne b_X10_readsOne_19
  rw [i3]
  by_cases hb : x.2 = 118
  · have ek : kn x = 118 := if_pos hb
    rw [ek, if_pos rfl, q_gd (q_inl (show k < 96 by omega)), q_lt, hck, if_pos rfl]
    obtain ⟨s1, s2, s3⟩ := sk_b hs hb
    by_cases hn2 : isN (tx k)
    · rw [m_in1 hn2, q_bd, q_gd (Or.inr rfl)]
      refine ⟨fun _ => ⟨_, rfl, i3, ?_, FRd.rf.wr (by omega)⟩, fun q => absurd ⟨x, r, hs, fun _ => hn2, fun q => absurd hb q⟩ q⟩
      refine ⟨i1, i2, rfl, by rw [s1]; exact i4, by rw [s1]; exact i5, by rw [s2]; exact i6, by rw [s3]; exact i7, ?_, j9 1 (by rw [if_pos hb])⟩
      show BA tx (k + 1) (M 65 18)
      rcases i8 with ⟨b1, b2⟩ | ⟨p, p1, p2, p3, p4⟩
      · refine Or.inl ⟨b1, lt_s b2 ?_⟩
        rintro ⟨y, r', g1, g2, -⟩
        rw [hs] at g1; cases g1
        exact g2 hb
      · exact Or.inr ⟨p, by omega, p2, p3, p4⟩
    · rw [m_in0 hn2, q_bd, q_gd (Or.inl rfl)]
      refine ⟨fun q => ?_, fun _ => ⟨_, rfl, i3, FRd.rf.wr (by omega)⟩⟩
      obtain ⟨y, r', g1, g2, -⟩ := q
      rw [hs] at g1; cases g1
      exact absurd (g2 hb) hn2
  · have ek : kn x = 101 := if_neg hb
    rw [ek, if_neg (show ¬ (101 : Int32) = 118 by decide), q_gd (q_inl (show k < 96 by omega)), q_lt, hck, if_neg (show ¬ (101 : Int32) = 118 by decide)]
    obtain ⟨s1, s2, s3⟩ := sk_e hs hb
    by_cases hv : vs (tx k)
    · obtain ⟨M', r1, r2, r3, r4⟩ := m_parts (N := N) (c := tx k) (l := r.map kn) (M := z_wr M 75 k 0) hN hv i4 i5 (by simp at hlen ⊢; omega)
      rw [r1, q_bd, if_neg (by decide)]
      have f22 : M' 65 22 = nI (ne tx k) := by rw [r4.2 22 (by omega)]; exact i6
      have f23 : M' 65 23 = nI (ns tx k) := by rw [r4.2 23 (by omega)]; exact i7
      have f17 : M' 65 17 = nI k := by rw [r4.2 17 (by omega)]; exact i3
      have f18 : M' 65 18 = M 65 18 := by rw [r4.2 18 (by omega)]; rfl
      have emap : (sk tx (k + 1)).map kn = (prt (tx k)).map ks ++ r.map kn := by rw [s1, List.map_append, q_kn]
      have fin : ∀ v : Int32, BA tx (k + 1) v → MI tx n (k + 1) (sk tx (k + 1)) (z_wr (z_wr (z_wr (z_wr M' 65 18 v) 65 22 (nI (ne tx k + 1))) 65 23 (nI (ns tx k + (if isQ (tx k) then 1 else 0)))) 65 17 (nI (k + 1))) := by
        intro v hBA
        refine ⟨?_, fun j hj => ?_, rfl, ?_, ?_, by rw [s2]; rfl, by rw [s3]; rfl, hBA, fun j hj => ?_⟩
        · show M' 65 15 = nI n
          rw [r4.2 15 (by omega)]; exact i1
        · show M' 72 j = tx j
          rw [r4.1 72 (by omega)]; exact i2 j hj
        · rw [emap]; exact r2
        · rw [emap]; exact r3
        · show ∃ y r, sk tx j = y :: r ∧ M' 75 j = _
          rw [r4.1 75 (by omega)]
          exact j9 0 (by rw [if_neg hb]) j hj
      have fr0 : FRd M M' := (FRd.rf.wr (by omega)).tr r4.d
      refine ⟨fun _ => ?_, fun q => absurd ⟨x, r, hs, fun q => absurd q hb, fun _ => hv⟩ q⟩
      -- where the limits are passed first
      have old : ∀ v : Int32, v = M 65 18 → BA tx (k + 1) v → ∃ M2, b_X10_readsOne_85 N (tx k) M' = some (1, M2) ∧ M2 65 17 = nI k ∧ MI tx n (k + 1) (sk tx (k + 1)) (z_wr M2 65 17 (nI (k + 1))) ∧ FRd M M2 := by
        intro v hv hBA
        refine ⟨_, m_r85 f22 f23, f17, ?_, (fr0.wf (by omega)).wf (by omega)⟩
        have e := fin v hBA
        have e2 : z_wr M' 65 18 v = M' := by
          funext o b
          rw [q_ap]
          by_cases h1 : o = 65
          · by_cases h2 : b = 18
            · subst h1; subst h2; simp [hv, f18]
            · simp [h2]
          · simp [h1]
        rw [e2] at e
        exact e
      have new : BA tx (k + 1) (nI k) → ∃ M2, b_X10_readsOne_77 N (tx k) M' = some (1, M2) ∧ M2 65 17 = nI k ∧ MI tx n (k + 1) (sk tx (k + 1)) (z_wr M2 65 17 (nI (k + 1))) ∧ FRd M M2 := by
        intro hBA
        unfold b_X10_readsOne_77
        rw [f17, q_lt]
        refine ⟨_, m_r85 (M := z_wr M' 65 18 (nI k)) f22 f23, f17, fin (nI k) hBA, ((fr0.wf (by omega)).wf (by omega)).wf (by omega)⟩
      rw [f18]
      rcases i8 with ⟨b1, b2⟩ | ⟨p, p1, p2, p3, p4⟩
      · rw [b1, if_neg (by decide), f22]
        by_cases h40 : ne tx k = 40
        · rw [if_pos (by rw [h40]; rfl)]
          exact new (Or.inr ⟨k, by omega, ⟨x, r, hs, hb, Or.inl (by omega)⟩, b2, rfl⟩)
        · rw [if_neg (by intro q; exact h40 ((nI_eq (a := ne tx k) (b := 40) (by omega) (by omega)).mp q))]
          obtain ⟨l1, l2⟩ := bd_le (tx := tx) k (fun j hj => ⟨hok j hj, b2 j hj⟩)
          have keep : ¬ (isQ (tx k) ∧ 10 ≤ ns tx k) → BA tx (k + 1) (-1) := by
            intro hq
            refine Or.inl ⟨rfl, lt_s b2 ?_⟩
            rintro ⟨y, r', g1, g2, g3⟩
            rcases g3 with g3 | g3
            · omega
            · exact hq g3
          by_cases hq : isQ (tx k)
          · rw [m_site1 hq, q_bd, if_neg (by decide), f23]
            by_cases h10 : ns tx k = 10
            · rw [if_pos (by rw [h10]; rfl)]
              exact new (Or.inr ⟨k, by omega, ⟨x, r, hs, hb, Or.inr ⟨hq, by omega⟩⟩, b2, rfl⟩)
            · rw [if_neg (by intro q; exact h10 ((nI_eq (a := ns tx k) (b := 10) (by omega) (by omega)).mp q))]
              exact old (-1) b1.symm (keep (fun q => by omega))
          · rw [m_site0 hq, q_bd, if_pos rfl]
            exact old (-1) b1.symm (keep (fun q => hq q.1))
      · rw [p4, if_pos (nI_pos' (by omega))]
        exact old (nI p) p4.symm (Or.inr ⟨p, by omega, p2, p3, rfl⟩)
    · rw [m_parts0 hN hv, q_bd, if_pos rfl]
      refine ⟨fun q => ?_, fun _ => ⟨_, rfl, i3, FRd.rf.wr (by omega)⟩⟩
      obtain ⟨y, r', g1, -, g2⟩ := q
      rw [hs] at g1; cases g1
      exact absurd (g2 hb) hv
set_option maxHeartbeats 1000000 in
theorem m_read (hN : 1000 ≤ N) (hn : n ≤ 96) : ∀ (m k f : Nat) (M : St), k + m = n → MI tx n k (sk tx k) M → (∀ j, j < k → ok1 tx j) → m < f →
    (∃ p M', Fail tx n p ∧ f_X10_reads_31 N f M = some (0, M') ∧ M' 65 17 = nI p ∧ FRd M M') ∨ (okn tx n ∧ ∃ M', f_X10_reads_31 N f M = some (1, M') ∧ MI tx n n [] M' ∧ FRd M M') := by
  intro m
  induction m with
  | zero =>
    intro k f M hk hI ho hf
    obtain ⟨f, rfl⟩ : ∃ g, f = g + 1 := ⟨f - 1, by omega⟩
    have e : k = n := by omega
    subst e
    have hI' := hI
    obtain ⟨i1, i2, i3, i4, i5, i6, i7, i8, i9⟩ := hI
    obtain ⟨-, -, hlen⟩ := sk_ok (tx := tx) k
    show (∃ p M', Fail tx k p ∧ b_X10_reads_31 N (f_X10_reads_31 N f) M = some (0, M') ∧ M' 65 17 = nI p ∧ FRd M M') ∨ (okn tx k ∧ ∃ M', b_X10_reads_31 N (f_X10_reads_31 N f) M = some (1, M') ∧ MI tx k k [] M' ∧ FRd M M')
    unfold b_X10_reads_31
    cases hs : sk tx k with
    | nil =>
      rw [hs] at i4 hI'
      right
      refine ⟨⟨ho, hs⟩, M, ?_, hI', FRd.rf⟩
      rw [i4, if_pos (by decide), i3, i1, if_pos rfl]
    | cons x r =>
      rw [hs] at i4 hlen
      left
      refine ⟨k, z_wr M 65 19 (M 65 19 - 1), ⟨Nat.le_refl _, ho, Or.inr ⟨rfl, by rw [hs]; exact List.cons_ne_nil _ _⟩⟩, ?_, i3, FRd.rf.wf (k := 19) (v := M 65 19 - 1) (by omega)⟩
      rw [i4, if_neg (nI_nle (by simp) (by simp at hlen ⊢; omega)), q_lt, ← i4]
      rw [show (z_wr M 65 19 (M 65 19 - 1)) 65 17 = nI k from i3, show (z_wr M 65 19 (M 65 19 - 1)) 65 15 = nI k from i1, if_pos rfl]
  | succ m ih =>
    intro k f M hk hI ho hf
    obtain ⟨f, rfl⟩ : ∃ g, f = g + 1 := ⟨f - 1, by omega⟩
    obtain ⟨i1, i2, i3, i4, i5, i6, i7, i8, i9⟩ := hI
    obtain ⟨-, -, hlen⟩ := sk_ok (tx := tx) k
    show (∃ p M', Fail tx n p ∧ b_X10_reads_31 N (f_X10_reads_31 N f) M = some (0, M') ∧ M' 65 17 = nI p ∧ FRd M M') ∨ (okn tx n ∧ ∃ M', b_X10_reads_31 N (f_X10_reads_31 N f) M = some (1, M') ∧ MI tx n n [] M' ∧ FRd M M')
    unfold b_X10_reads_31
    have hkn : ¬ nI k = nI n := fun q => by have := (nI_eq (a := k) (b := n) (by omega) (by omega)).mp q; omega
    cases hs : sk tx k with
    | nil =>
      rw [hs] at i4
      left
      refine ⟨k, M, ⟨by omega, ho, Or.inl ⟨by omega, fun q => ?_⟩⟩, ?_, i3, FRd.rf⟩
      · obtain ⟨x, r, q, -⟩ := q
        rw [hs] at q; cases q
      · rw [i4, if_pos (by decide), i3, i1, if_neg hkn]
    | cons x r =>
      rw [hs] at i4 i5 hlen
      have hl : (List.map kn (x :: r)).length = r.length + 1 := by simp
      rw [hl] at i4
      have hr : r.length < 290 := by simp at hlen; omega
      rw [i4, if_neg (nI_nle (by omega) (by omega)), q_sub1, q_lt]
      rw [show (z_wr M 65 19 (nI r.length)) 65 17 = nI k from i3, show (z_wr M 65 19 (nI r.length)) 65 15 = nI n from i1, if_neg hkn]
      rw [show (z_wr M 65 19 (nI r.length)) 65 19 = nI r.length from rfl, q_gd (q_inl (show k < 96 by omega)), q_gd (q_inl (show r.length < 300 by omega)), nI_clamp (by omega), nI_clamp (by omega)]
      have ex : (z_wr M 65 19 (nI r.length)) 76 r.length = kn x := by
        show M 76 r.length = kn x
        have := i5.1
        simpa using this
      rw [ex, show (z_wr M 65 19 (nI r.length)) 72 k = tx k from i2 k (by omega)]
      have hI1 : MI tx n k r (z_wr M 65 19 (nI r.length)) := ⟨i1, i2, i3, by simp [z_wr], i5.2, i6, i7, i8, i9⟩
      obtain ⟨g1, g2⟩ := m_one hN hn (show k < n by omega) hs hI1 ho
      have f1 : FRd M (z_wr M 65 19 (nI r.length)) := FRd.rf.wf (by omega)
      by_cases hok : ok1 tx k
      · obtain ⟨M', h1, h2, h3, h4⟩ := g1 hok
        rw [h1, q_bd, if_neg (by decide), h2, nI_1, q_lt]
        have f2 : FRd M (z_wr M' 65 17 (nI (k + 1))) := (f1.tr h4).wf (by omega)
        rcases ih (k + 1) f _ (by omega) h3 (lt_s ho hok) (by omega) with ⟨p, M2, r1, r2, r3, r4⟩ | ⟨r1, M2, r2, r3, r4⟩
        · exact Or.inl ⟨p, M2, r1, r2, r3, f2.tr r4⟩
        · exact Or.inr ⟨r1, M2, r2, r3, f2.tr r4⟩
      · obtain ⟨M', h1, h2, h3⟩ := g2 hok
        rw [h1, q_bd, if_pos rfl]
        exact Or.inl ⟨k, M', ⟨by omega, ho, Or.inl ⟨by omega, hok⟩⟩, rfl, h2, f1.tr h3⟩
/-- the class's limits -/
theorem x_beyond (hN : 1000 ≤ N) (hn : n ≤ 96) {X : St} (hI : XI tx n n X) (hv : okn tx n) : ∀ (m k f : Nat), k + m = n → (∀ j, j < k → ¬ bd tx j) → m < f → ∃ v, f_X3_placeBeyondLimits_6 N f (nI (ne tx k)) (nI (ns tx k)) (nI k) X = some (v, X) ∧ BA tx n v := by
  intro m
  obtain ⟨i1, i2, i3, i4, i5, i6⟩ := hI
  induction m with
  | zero =>
    intro k f hk hb hf
    obtain ⟨f, rfl⟩ : ∃ g, f = g + 1 := ⟨f - 1, by omega⟩
    have e : k = n := by omega
    subst e
    refine ⟨-1, ?_, Or.inl ⟨rfl, hb⟩⟩
    show b_X3_placeBeyondLimits_6 N (f_X3_placeBeyondLimits_6 N f) _ _ _ X = _
    unfold b_X3_placeBeyondLimits_6
    rw [i1, if_pos (nI_le (Nat.le_refl _) (by omega))]
  | succ m ih =>
    intro k f hk hb hf
    obtain ⟨f, rfl⟩ : ∃ g, f = g + 1 := ⟨f - 1, by omega⟩
    obtain ⟨x, r, hs, -, h59⟩ := i6 k (by omega)
    obtain ⟨l1, l2⟩ := bd_le (tx := tx) k (fun j hj => ⟨hv.1 j (by omega), hb j hj⟩)
    show ∃ v, b_X3_placeBeyondLimits_6 N (f_X3_placeBeyondLimits_6 N f) _ _ _ X = some (v, X) ∧ _
    unfold b_X3_placeBeyondLimits_6
    rw [i1, if_neg (nI_ge (by omega) (by omega)), x_at (show k < 96 by omega), q_bd, h59]
    by_cases hx : x.2 = 118
    · rw [if_pos hx]
      unfold b_X3_placeBeyondLimits_69
      obtain ⟨-, e1, e2⟩ := sk_b hs hx
      rw [nI_1, ← e1, ← e2]
      refine ih (k + 1) f (by omega) (lt_s hb ?_) (by omega)
      rintro ⟨y, r', g1, g2, -⟩
      rw [hs] at g1; cases g1
      exact g2 hx
    · rw [if_neg hx, x_at (show k < 96 by omega), q_bd, i2 k (by omega)]
      obtain ⟨-, e1, e2⟩ := sk_e hs hx
      unfold b_X3_placeBeyondLimits_53 b_X3_placeBeyondLimits_69
      have site : f_X3_isSite N (tx k) X = some ((if isQ (tx k) then 1 else 0), X) := by
        unfold f_X3_isSite
        by_cases q : tx k = 112
        · rw [if_pos q, if_pos (Or.inl q)]
        · rw [if_neg q]
          by_cases q2 : tx k = 113
          · rw [if_pos q2, if_pos (Or.inr q2)]
          · rw [if_neg q2, if_neg (by rintro (h | h); exact q h; exact q2 h)]
      rw [site, q_bd, nI_1]
      have hbad : bd tx k → BA tx n (nI k) := fun h => Or.inr ⟨k, by omega, h, hb, rfl⟩
      by_cases h40 : 40 ≤ ne tx k
      · have g : BA tx n (nI k) := hbad ⟨x, r, hs, hx, Or.inl h40⟩
        have c40 : (40 : Int32) < nI (ne tx k + 1) := by show nI 40 < _; exact nI_lt (by omega) (by omega)
        refine ⟨nI k, ?_, g⟩
        by_cases q : (if isQ (tx k) then (1 : Int32) else 0) = 0
        · rw [if_pos q, if_pos c40]
        · rw [if_neg q, if_pos c40]
      · have c40 : ¬ (40 : Int32) < nI (ne tx k + 1) := by show ¬ nI 40 < _; exact nI_nlt (by omega) (by omega)
        by_cases hq : isQ (tx k)
        · rw [if_pos hq, if_neg (by decide), if_neg c40, nI_1]
          by_cases h10 : 10 ≤ ns tx k
          · refine ⟨nI k, ?_, hbad ⟨x, r, hs, hx, Or.inr ⟨hq, h10⟩⟩⟩
            rw [if_neg (by show ¬ _ ≤ nI 10; exact nI_ge (by omega) (by omega))]
          · rw [if_pos (by show _ ≤ nI 10; exact nI_le (by omega) (by omega)), nI_1]
            rw [if_pos hq] at e2
            rw [← e1, ← e2]
            refine ih (k + 1) f (by omega) (lt_s hb ?_) (by omega)
            rintro ⟨y, r', g1, g2, g3⟩
            rcases g3 with g3 | g3
            · omega
            · omega
        · rw [if_neg hq, if_pos rfl, if_neg c40, Int32.add_zero, if_pos (by show _ ≤ nI 10; exact nI_le (by omega) (by omega)), nI_1]
          have e2' : ns tx (k + 1) = ns tx k := by rw [e2, if_neg hq]; rfl
          rw [← e1, ← e2']
          refine ih (k + 1) f (by omega) (lt_s hb ?_) (by omega)
          rintro ⟨y, r', g1, g2, g3⟩
          rcases g3 with g3 | g3
          · omega
          · exact hq g3.1
end
