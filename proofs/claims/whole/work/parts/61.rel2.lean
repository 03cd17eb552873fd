/-! the objects between two calls -/
def ix (k : Nat) : Nat := match k with
  | 0 => 16 | 1 => 6 | 2 => 7 | 3 => 29 | 4 => 30 | 5 => 31 | 6 => 32 | 7 => 33 | 8 => 34 | _ => 35
def io (o : Nat) : Nat := match o with
  | 0 => 0 | 1 => 96 | 2 => 192 | 3 => 198 | 4 => 208 | 5 => 218 | 6 => 228 | _ => 688
def il (o : Nat) : Nat := match o with
  | 0 => 73 | 1 => 74 | 2 => 78 | 3 => 79 | 4 => 80 | 5 => 81 | 6 => 82 | _ => 65
theorem ix_lt (k : Nat) : ix k < 46 ∧ ix k ≠ 8 ∧ ix k ≠ 15 ∧ ix k ≠ 17 ∧ ix k ≠ 18 ∧ ix k ≠ 19 ∧ ix k ≠ 20 ∧ ix k ≠ 21 ∧ ix k ≠ 22 ∧ ix k ≠ 23 := by
  unfold ix
  split <;> omega
/-- the reference's situation as it is, and as its image keeps it -/
def mL (M : St) : Nat → Nat → Int32 := fun o k => if o < 7 then M (il o) k else M 65 (ix k)
def mI (M : St) : Nat → Nat → Int32 := fun o k => M 101 (io o + k)
def LR (sx lx mc ms : Nat → Int32) : Prop := (sx 4 = 0 ∧ ms 3 = -9) ∨ (sx 4 = 1 ∧ (∃ h, h < 4 ∧ ms 3 = nI h) ∧ lx 0 = ms 3 ∧ lx 1 = ms 4 ∧ lx 2 = ms 5 ∧ lx 3 = ms 6 ∧ lx 4 = ms 7 ∧ lx 5 = ms 8 ∧ (ms 3 = 3 → ∃ ca, ca < 450 ∧ ms 8 = nI ca ∧ (∀ i, i < ca → mc i = 7) ∧ mc ca = lx 6))
def SR (tx : Nat → Int32) (n : Nat) (x m : Nat → Nat → Int32) : Prop :=
  (okn tx n ∧ n ≤ 96 ∧ ne tx n ≤ 40 ∧ ns tx n ≤ 10) ∧
  (x 1 6 = nI (ne tx n) ∧ x 1 7 = nI (ns tx n) ∧ ∀ k, k < n → WK tx (x 2) (x 3) (x 4) (x 5) (x 6) (x 7) k) ∧
  (m 7 0 = nI n ∧ m 7 1 = nI (ne tx n) ∧ m 7 2 = nI (ns tx n) ∧ TF tx n (m 0) (m 1)) ∧
  RGl (x 8) (m 2) ∧ RCa (x 10) (x 11) (x 12) (m 3) (m 4) (m 5) ∧ (∀ k, ns tx n ≤ k → k < 10 → x 10 k = 0) ∧
  LR (x 0) (x 13) (m 6) (m 7) ∧ ∃ r, r ≤ 99 ∧ x 0 5 = nI r ∧ m 7 9 = nI r
/-- agreement, as far as the rows go -/
def AX (x x' : Nat → Nat → Int32) : Prop := (x' 0 4 = x 0 4 ∧ x' 0 5 = x 0 5) ∧ (x' 1 6 = x 1 6 ∧ x' 1 7 = x 1 7) ∧ (∀ o k, 2 ≤ o ∧ o ≤ 7 → k < 40 → x' o k = x o k) ∧ (∀ k, k < 6 → x' 8 k = x 8 k) ∧ (∀ o k, 10 ≤ o ∧ o ≤ 12 → k < 10 → x' o k = x o k) ∧ ∀ k, k < 7 → x' 13 k = x 13 k
def AM (m m' : Nat → Nat → Int32) : Prop := (∀ o k, o ≤ 1 → k < 96 → m' o k = m o k) ∧ (∀ k, k < 6 → m' 2 k = m 2 k) ∧ (∀ o k, 3 ≤ o ∧ o ≤ 5 → k < 10 → m' o k = m o k) ∧ (∀ k, k < 460 → m' 6 k = m 6 k) ∧ ∀ k, k < 10 → m' 7 k = m 7 k
theorem AX.rf {x : Nat → Nat → Int32} : AX x x := ⟨⟨rfl, rfl⟩, ⟨rfl, rfl⟩, fun _ _ _ _ => rfl, fun _ _ => rfl, fun _ _ _ _ => rfl, fun _ _ => rfl⟩
theorem AM.rf {x : Nat → Nat → Int32} : AM x x := ⟨fun _ _ _ _ => rfl, fun _ _ => rfl, fun _ _ _ _ => rfl, fun _ _ => rfl, fun _ _ => rfl⟩
theorem AX.of {x x' : Nat → Nat → Int32} (h : ∀ o, o ≤ 13 → x' o = x o) : AX x x' := ⟨⟨by rw [h 0 (by omega)], by rw [h 0 (by omega)]⟩, ⟨by rw [h 1 (by omega)], by rw [h 1 (by omega)]⟩, fun o k ho _ => by rw [h o (by omega)], fun k _ => by rw [h 8 (by omega)], fun o k ho _ => by rw [h o (by omega)], fun k _ => by rw [h 13 (by omega)]⟩
theorem WK.eq {tx sg va se th si en sg' va' se' th' si' en' : Nat → Int32} {k : Nat} (h : WK tx sg va se th si en k) (hz : ne tx (k + 1) ≤ 40) (e : ∀ i, i < 40 → sg' i = sg i ∧ va' i = va i ∧ se' i = se i ∧ th' i = th i ∧ si' i = si i ∧ en' i = en i) : WK tx sg' va' se' th' si' en' k := by
  obtain ⟨x, r, hs, h1, h2⟩ := h
  have hm : x ∈ sk tx k := by rw [hs]; exact List.mem_cons_self
  have hx : x.1 ≤ ne tx k := (sk_ok (tx := tx) k).2.1 x hm
  have hmo := ne_mono (tx := tx) (j := k) (k := k + 1) (by omega)
  obtain ⟨p1, p2, p3, p4, p5, p6⟩ := e (x.1 - 1) (by omega)
  refine ⟨x, r, hs, fun q => by rw [p2]; exact h1 q, fun q => ?_⟩
  have hne := (sk_e hs q).2.1
  obtain ⟨w1, w2, w3, w4, w5, w6⟩ := h2 q
  obtain ⟨q1, q2, q3, q4, q5, q6⟩ := e (ne tx k) (by omega)
  refine ⟨by rw [q1]; exact w1, fun y => by rw [q2]; exact w2 y, fun y => by rw [q5]; exact w3 y, fun y => by rw [p3]; exact w4 y, fun y => by rw [p4]; exact w5 y, ?_⟩
  rw [q6, w6]
  unfold enS
  rw [p1, p6]
theorem SR.eq {tx : Nat → Int32} {n : Nat} {x m x' m' : Nat → Nat → Int32} (h : SR tx n x m) (ax : AX x x') (am : AM m m') : SR tx n x' m' := by
  obtain ⟨h1, ⟨h2, h3, h4⟩, ⟨h5, h6, h7, h8, h9⟩, h10, h11, h12, h13, r, h14, h15, h16⟩ := h
  obtain ⟨⟨a1, a2⟩, ⟨a3, a4⟩, a5, a6, a7, a8⟩ := ax
  obtain ⟨b1, b2, b3, b4, b5⟩ := am
  have hn := h1.2.1
  refine ⟨h1, ⟨a3.trans h2, a4.trans h3, fun k hk => (h4 k hk).eq ?_ (fun i hi => ⟨a5 2 i (by omega) hi, a5 3 i (by omega) hi, a5 4 i (by omega) hi, a5 5 i (by omega) hi, a5 6 i (by omega) hi, a5 7 i (by omega) hi⟩)⟩, ⟨(b5 0 (by omega)).trans h5, (b5 1 (by omega)).trans h6, (b5 2 (by omega)).trans h7, fun k hk => (b1 0 k (by omega) (by omega)).trans (h8 k hk), fun k hk => ?_⟩, fun v hv => ?_, fun k hk => ?_, fun k hk hk2 => ?_, ?_, r, h14, a2.trans h15, (b5 9 (by omega)).trans h16⟩
  · have := ne_mono (tx := tx) (j := k + 1) (k := n) (by omega)
    have := h1.2.2.1
    omega
  · obtain ⟨y, r', g1, g2⟩ := h9 k hk
    exact ⟨y, r', g1, (b1 1 k (by omega) (by omega)).trans g2⟩
  · rw [a6 v hv, b2 v hv]; exact h10 v hv
  · rw [a7 10 k (by omega) hk, a7 11 k (by omega) hk, a7 12 k (by omega) hk, b3 3 k (by omega) hk, b3 4 k (by omega) hk, b3 5 k (by omega) hk]; exact h11 k hk
  · rw [a7 10 k (by omega) hk2]; exact h12 k hk hk2
  · unfold LR
    rw [a1, a8 0 (by omega), a8 1 (by omega), a8 2 (by omega), a8 3 (by omega), a8 4 (by omega), a8 5 (by omega), a8 6 (by omega), b5 3 (by omega), b5 4 (by omega), b5 5 (by omega), b5 6 (by omega), b5 7 (by omega), b5 8 (by omega)]
    rcases h13 with q | ⟨q1, q2, q3, q4, q5, q6, q7, q8, q9⟩
    · exact Or.inl q
    · refine Or.inr ⟨q1, q2, q3, q4, q5, q6, q7, q8, fun w => ?_⟩
      obtain ⟨ca, c1, c2, c3, c4⟩ := q9 w
      exact ⟨ca, c1, c2, fun i hi => by rw [b4 i (by omega)]; exact c3 i hi, by rw [b4 ca (by omega)]; exact c4⟩
def RN (X M : St) : Prop := ∃ tx n, SR tx n (fun o => X (1 + o)) (mL M) ∧ (∀ p, p < n → BK tx (ne tx n) n M p) ∧ M 65 8 = nI (ne tx n - 1)
def RIm (X M : St) : Prop := (X 0 8 = 0 ∧ M 65 72 = 0) ∨ (X 0 8 = 1 ∧ M 65 72 = 1 ∧ ∃ tx n, SR tx n (fun o => X (15 + o)) (mI M))
def RLt (X M : St) : Prop := ∃ L, L ≤ 96 ∧ X 56 7 = nI L ∧ M 65 15 = nI L ∧ ∀ j, j < L → X 57 j = M 72 j
def RRw (X M : St) : Prop := ∃ R, R ≤ 16 ∧ X 0 7 = nI R ∧ M 65 69 = nI R ∧ ∀ j, j < R → X 62 j = M 100 j
def RNo (X M : St) : Prop := ∀ j, j < 7 → X 63 j = M 66 j
def Rel (X M : St) : Prop := RN X M ∧ RLt X M ∧ RRw X M ∧ RNo X M ∧ RIm X M
/-- both answer, the same, and stay alike -/
def PB {α : Type} (x m : Option (α × St)) : Prop := ∃ r X' M', x = some (r, X') ∧ m = some (r, M') ∧ Rel X' M'
/-- what thinking leaves alone -/
def FY (X X' : St) : Prop := ∀ o, o < 29 ∨ (49 ≤ o ∧ o ≠ 64) → X' o = X o
def FT (M M' : St) : Prop := (∀ o, (66 ≤ o ∧ o ≤ 77) ∨ o = 82 ∨ 100 ≤ o → M' o = M o) ∧ (∀ k, k < 46 ∨ k = 69 ∨ k = 72 → M' 65 k = M 65 k) ∧ (∀ v, v < 6 → M' 78 v = M 78 v) ∧ ∀ k, k < 10 → M' 79 k = M 79 k ∧ M' 80 k = M 80 k ∧ M' 81 k = M 81 k
theorem FY.rf {X : St} : FY X X := fun _ _ => rfl
theorem FT.rf {M : St} : FT M M := ⟨fun _ _ => rfl, fun _ _ => rfl, fun _ _ => rfl, fun _ _ => ⟨rfl, rfl, rfl⟩⟩
theorem FY.tr {A B C : St} (h : FY A B) (g : FY B C) : FY A C := fun o ho => (g o ho).trans (h o ho)
theorem FT.tr {A B C : St} (h : FT A B) (g : FT B C) : FT A C := ⟨fun o ho => (g.1 o ho).trans (h.1 o ho), fun k hk => (g.2.1 k hk).trans (h.2.1 k hk), fun v hv => (g.2.2.1 v hv).trans (h.2.2.1 v hv), fun k hk => ⟨(g.2.2.2 k hk).1.trans (h.2.2.2 k hk).1, (g.2.2.2 k hk).2.1.trans (h.2.2.2 k hk).2.1, (g.2.2.2 k hk).2.2.trans (h.2.2.2 k hk).2.2⟩⟩
theorem BK.eq {tx : Nat → Int32} {z n p : Nat} {M M' : St} (h : BK tx z n M p) (e : ∀ o, 67 ≤ o ∧ o ≤ 71 → M' o = M o) : BK tx z n M' p := by
  unfold BK
  rw [e 67 (by omega), e 68 (by omega), e 69 (by omega), e 70 (by omega), e 71 (by omega)]
  exact h
theorem AM.ft {M M' : St} (h : FT M M') : AM (mL M) (mL M') := by
  refine ⟨fun o k ho hk => ?_, fun k hk => h.2.2.1 k hk, fun o k ho hk => ?_, fun k hk => ?_, fun k hk => ?_⟩
  · have : o = 0 ∨ o = 1 := by omega
    rcases this with q | q <;> subst q
    · show M' 73 k = M 73 k; rw [h.1 73 (by omega)]
    · show M' 74 k = M 74 k; rw [h.1 74 (by omega)]
  · have : o = 3 ∨ o = 4 ∨ o = 5 := by omega
    rcases this with q | q | q <;> subst q
    · exact (h.2.2.2 k hk).1
    · exact (h.2.2.2 k hk).2.1
    · exact (h.2.2.2 k hk).2.2
  · show M' 82 k = M 82 k; rw [h.1 82 (by omega)]
  · show M' 65 (ix k) = M 65 (ix k)
    exact h.2.1 _ (Or.inl (ix_lt k).1)
theorem AM.l {M M' : St} (h : ∀ o, o = 73 ∨ o = 74 ∨ (78 ≤ o ∧ o ≤ 82) → M' o = M o) (h2 : ∀ k, M' 65 (ix k) = M 65 (ix k)) : AM (mL M) (mL M') := by
  have e : mL M' = mL M := by
    funext o k
    unfold mL
    by_cases q : o < 7
    · rw [if_pos q, if_pos q, h (il o)]
      have : o = 0 ∨ o = 1 ∨ o = 2 ∨ o = 3 ∨ o = 4 ∨ o = 5 ∨ o = 6 := by omega
      rcases this with q | q | q | q | q | q | q <;> subst q <;> decide
    · rw [if_neg q, if_neg q, h2]
  rw [e]
  exact AM.rf
theorem Rel.fr {X M X' M' : St} (h : Rel X M) (hx : FY X X') (hm : FT M M') : Rel X' M' := by
  obtain ⟨⟨tx, n, h1, h2, h3⟩, ⟨L, l1, l2, l3, l4⟩, ⟨R, r1, r2, r3, r4⟩, h5, h6⟩ := h
  refine ⟨⟨tx, n, h1.eq (AX.of (fun o ho => hx _ (by omega))) (AM.ft hm), fun p hp => (h2 p hp).eq (fun o ho => hm.1 o (by omega)), by rw [hm.2.1 8 (by omega)]; exact h3⟩, ⟨L, l1, by rw [hx 56 (by omega)]; exact l2, by rw [hm.2.1 15 (by omega)]; exact l3, fun j hj => by rw [hx 57 (by omega), hm.1 72 (by omega)]; exact l4 j hj⟩, ⟨R, r1, by rw [hx 0 (by omega)]; exact r2, by rw [hm.2.1 69 (by omega)]; exact r3, fun j hj => by rw [hx 62 (by omega), hm.1 100 (by omega)]; exact r4 j hj⟩, fun j hj => by rw [hx 63 (by omega), hm.1 66 (by omega)]; exact h5 j hj, ?_⟩
  unfold RIm
  rw [hx 0 (by omega), hm.2.1 72 (by omega)]
  rcases h6 with q | ⟨q1, q2, tx, n, q3⟩
  · exact Or.inl q
  · refine Or.inr ⟨q1, q2, tx, n, q3.eq (AX.of (fun o ho => hx _ (by omega))) ?_⟩
    have : mI M' = mI M := by
      funext o k
      show M' 101 _ = M 101 _
      rw [hm.1 101 (by omega)]
    rw [this]
    exact AM.rf
section
variable {N : Nat}
/-- refusals -/
theorem t_no {X M : St} (h : Rel X M) {a : Int32} (ha : a = -1 ∨ a = -2 ∨ a = -3 ∨ a = -4 ∨ a = -6) : ∃ X' M', f_X9_refuse N a X = some (a, X') ∧ f_X10_no N a M = some (a, M') ∧ f_X10_lower N a M = some (1000000000 - a, M') ∧ f_X10_lowestOf N a M = some (4000000000000000000 - a.toInt64, M') ∧ Rel X' M' := by
  obtain ⟨w, hw, e⟩ : ∃ w, w < 7 ∧ -a = nI w := by
    rcases ha with q | q | q | q | q <;> subst q
    · exact ⟨1, by omega, by decide⟩
    · exact ⟨2, by omega, by decide⟩
    · exact ⟨3, by omega, by decide⟩
    · exact ⟨4, by omega, by decide⟩
    · exact ⟨6, by omega, by decide⟩
  refine ⟨z_wr X 63 w (X 63 w + 1), z_wr M 66 w (M 66 w + 1), ?_, ?_, ?_, ?_, ?_⟩
  · unfold f_X9_refuse
    rw [e, x_at (show w < z_ln 63 from hw), q_bd, x_put (show w < z_ln 63 from hw), q_bv]
  · unfold f_X10_no
    rw [e, q_gd (q_inl (show w < z_ln 66 from hw)), q_gd (q_inl (show w < z_ln 66 from hw)), q_lt, nI_clamp (by omega)]
  · unfold f_X10_lower
    rw [e, q_gd (q_inl (show w < z_ln 66 from hw)), q_gd (q_inl (show w < z_ln 66 from hw)), q_lt, nI_clamp (by omega)]
  · unfold f_X10_lowestOf
    rw [e, q_gd (q_inl (show w < z_ln 66 from hw)), q_gd (q_inl (show w < z_ln 66 from hw)), q_lt, nI_clamp (by omega)]
  · obtain ⟨⟨tx, n, h1, h2, h3⟩, h4, h5, h6, h7⟩ := h
    refine ⟨⟨tx, n, h1.eq (AX.of (fun o ho => z_wr_o (by omega))) (AM.l (fun o ho => z_wr_o (by omega)) (fun k => rfl)), h2, h3⟩, h4, h5, fun j hj => ?_, ?_⟩
    · show q_up (X 63) w _ j = q_up (M 66) w _ j
      by_cases q : j = w
      · subst q; rw [q_up_s, q_up_s, h6 j hj]
      · rw [q_up_n q, q_up_n q]; exact h6 j hj
    · rcases h7 with q | ⟨q1, q2, tx, n, q3⟩
      · exact Or.inl q
      · exact Or.inr ⟨q1, q2, tx, n, q3.eq (AX.of (fun o ho => z_wr_o (by omega))) AM.rf⟩
end
