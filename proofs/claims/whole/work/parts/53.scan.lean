/-! the class's letters, scanned -/
section
variable {N : Nat}
theorem prt_O {c : Int32} (h : ¬ isO c) : prt c = [] := by
  unfold prt
  rw [if_neg (fun q => h (by rcases q with q | q | q | q | q | q | q <;> rw [q] <;> decide)), if_neg (fun q => h (by rw [q]; decide)), if_neg (fun q => h (by rw [q]; decide)), if_neg (fun q => h (by rcases q with q | q <;> rw [q] <;> decide)), if_neg (fun q => h (by rcases q with q | q | q | q | q | q <;> rw [q] <;> decide)), if_neg (fun q => h (by rw [q]; decide))]
theorem q_ite {α : Type} {c : Prop} [Decidable c] {a b y : α} (h1 : c → a = y) (h2 : ¬ c → b = y) : (if c then a else b) = y := by
  by_cases h : c
  · rw [if_pos h]; exact h1 h
  · rw [if_neg h]; exact h2 h
theorem x_po6 {S : St} {c : Int32} (h : ¬ isO c) : f_X3_partsOf N c S = some (6, S) := by
  unfold f_X3_partsOf
  repeat refine q_ite (fun q => by first | rfl | exact absurd (by rw [q]; decide) h) (fun _ => ?_)
  rfl
theorem x_poO {S : St} {c : Int32} (h : isO c) : ∃ i, i < 6 ∧ f_X3_partsOf N c S = some (i, S) ∧ z_byts.getD i [] = prt c := by
  rcases h with (q | q | q | q | q | q | q | q | q | q) | q | q | q | q | q | q | q | q <;> subst q
  · exact ⟨0, by omega, rfl, by decide⟩
  · exact ⟨0, by omega, rfl, by decide⟩
  · exact ⟨0, by omega, rfl, by decide⟩
  · exact ⟨0, by omega, rfl, by decide⟩
  · exact ⟨1, by omega, rfl, by decide⟩
  · exact ⟨0, by omega, rfl, by decide⟩
  · exact ⟨0, by omega, rfl, by decide⟩
  · exact ⟨0, by omega, rfl, by decide⟩
  · exact ⟨2, by omega, rfl, by decide⟩
  · exact ⟨5, by omega, rfl, by decide⟩
  · exact ⟨3, by omega, rfl, by decide⟩
  · exact ⟨4, by omega, rfl, by decide⟩
  · exact ⟨4, by omega, rfl, by decide⟩
  · exact ⟨3, by omega, rfl, by decide⟩
  · exact ⟨4, by omega, rfl, by decide⟩
  · exact ⟨4, by omega, rfl, by decide⟩
  · exact ⟨4, by omega, rfl, by decide⟩
  · exact ⟨4, by omega, rfl, by decide⟩
theorem x_po {S : St} (c : Int32) : ∃ i, i < 7 ∧ f_X3_partsOf N c S = some (i, S) ∧ z_byts.getD i [] = prt c ∧ (isO c ↔ i < 6) := by
  by_cases h : isO c
  · obtain ⟨i, h1, h2, h3⟩ := x_poO (N := N) (S := S) h
    exact ⟨i, by omega, h2, h3, fun _ => h1, fun _ => h⟩
  · exact ⟨6, by omega, x_po6 h, by rw [prt_O h]; decide, fun q => absurd q h, fun q => absurd q (by omega)⟩
theorem q_emp : ∀ i, i < 7 → ((if z_lens.getD i 0 = 0 then (1 : Int32) else 0) = if i < 6 then 0 else 1) := by decide +kernel
theorem x_sign1 {S : St} {c : Int32} (h : vs c) : f_X3_isSign N c S = some (1, S) := by
  unfold f_X3_isSign
  by_cases hd : isD c
  · rw [x_dig1 hd, q_bd, if_neg (by decide)]
  · rw [x_dig0 hd, q_bd, if_pos rfl]
    by_cases hn : isN c
    · rw [x_nam1 hn, q_bd, if_neg (by decide)]
    · rw [x_nam0 hn, q_bd, if_pos rfl]
      obtain ⟨i, h1, h2, h3, h4⟩ := x_po (N := N) (S := S) c
      have hi : i < 6 := h4.mp (by rcases h with h | h | h; exact absurd h hd; exact absurd h hn; exact h)
      rw [h2, q_bd]
      unfold f_J0_isEmpty_aae02
      rw [q_gd h1, q_bd, q_emp i h1, if_pos hi, if_pos rfl]
theorem x_sign0 {S : St} {c : Int32} (h : ¬ vs c) : f_X3_isSign N c S = some (0, S) := by
  unfold f_X3_isSign
  rw [x_dig0 (fun q => h (Or.inl q)), q_bd, if_pos rfl, x_nam0 (fun q => h (Or.inr (Or.inl q))), q_bd, if_pos rfl]
  obtain ⟨i, h1, h2, h3, h4⟩ := x_po (N := N) (S := S) c
  have hi : ¬ i < 6 := fun q => h (Or.inr (Or.inr (h4.mpr q)))
  rw [h2, q_bd]
  unfold f_J0_isEmpty_aae02
  rw [q_gd h1, q_bd, q_emp i h1, if_neg hi, if_neg (by decide)]
/-- what is to come, in the class's rows: the next on top -/
def rx (a b : Nat → Int32) : List Itm → Prop
  | [] => True
  | x :: r => a r.length = nI x.1 - 1 ∧ b r.length = x.2 ∧ rx a b r
theorem rx_eq {a b a' b' : Nat → Int32} : ∀ {l : List Itm}, rx a b l → (∀ i, i < l.length → a' i = a i ∧ b' i = b i) → rx a' b' l
  | [], _, _ => trivial
  | x :: r, h, e => ⟨by rw [(e r.length (by simp)).1]; exact h.1, by rw [(e r.length (by simp)).2]; exact h.2.1, rx_eq h.2.2 (fun i hi => e i (by simp; omega))⟩
theorem x_await {S : St} {l : Nat} {a b : Int32} (h : S 56 5 = nI l) (hl : l < 193) : f_X3_await N a b S = some (z_wr (z_wr (z_wr S 60 l a) 61 l b) 56 5 (nI (l + 1))) := by
  unfold f_X3_await
  rw [h, x_put (show l < z_ln 60 from hl), q_bv, show (z_wr S 60 l a) 56 5 = nI l from h, x_put (show l < z_ln 61 from hl), q_bv, show (z_wr (z_wr S 60 l a) 61 l b) 56 5 = nI l from h, nI_1]
  rfl
/-- the cells that the scan writes -/
def FS (X X' : St) : Prop := (∀ o, o ≠ 56 ∧ o ≠ 58 ∧ o ≠ 59 ∧ o ≠ 60 ∧ o ≠ 61 → X' o = X o) ∧ X' 56 7 = X 56 7
theorem FS.rf {X : St} : FS X X := ⟨fun _ _ => rfl, rfl⟩
theorem FS.tr {A B C : St} (h : FS A B) (g : FS B C) : FS A C := ⟨fun o ho => (g.1 o ho).trans (h.1 o ho), g.2.trans h.2⟩
theorem FS.wr {X X' : St} {o k : Nat} {v : Int32} (h : FS X X') (ho : o = 58 ∨ o = 59 ∨ o = 60 ∨ o = 61) : FS X (z_wr X' o k v) := ⟨fun a ha => by rw [z_wr_o (by omega)]; exact h.1 a ha, by rw [z_wr_o (by omega)]; exact h.2⟩
theorem FS.wf {X X' : St} {k : Nat} {v : Int32} (h : FS X X') (hk : k = 5 ∨ k = 6) : FS X (z_wr X' 56 k v) := ⟨fun a ha => by rw [z_wr_o (by omega)]; exact h.1 a ha, by rw [z_wr_k (by omega)]; exact h.2⟩
theorem q_ch : ∀ i, i < 7 → ∀ j, j < z_lens.getD i 0 → (z_byts.getD i [])[j]? = some (z_ch i j) ∧ z_lens.getD i 0 = (z_byts.getD i []).length := by decide +kernel
theorem q_ln7 : ∀ i, i < 7 → z_lens.getD i 0 = (z_byts.getD i []).length := by decide +kernel
/-- the parts of a sign are awaited, the last first -/
theorem x_parts {i e : Nat} (hi : i < 7) : ∀ (j n : Nat) (l : List Itm) (X : St), j ≤ z_lens.getD i 0 → j < n → l.length + j ≤ 193 → X 56 5 = nI l.length → X 56 6 = nI e → rx (X 60) (X 61) l → ∃ X', f_X3_fits_103 N n i (nI j - 1) X = some (1, X') ∧ X' 56 5 = nI (l.length + j) ∧ X' 56 6 = nI (e + 1) ∧ rx (X' 60) (X' 61) (((z_byts.getD i []).take j).map (fun s => (e + 1, s)) ++ l) ∧ FS X X' ∧ X' 58 = X 58 ∧ X' 59 = X 59 := by
  intro j
  induction j with
  | zero =>
    intro n l X _ hn _ h5 h6 hr
    obtain ⟨n, rfl⟩ : ∃ m, n = m + 1 := ⟨n - 1, by omega⟩
    refine ⟨z_wr X 56 6 (nI (e + 1)), ?_, h5, rfl, hr, FS.rf.wf (by omega), rfl, rfl⟩
    show b_X3_fits_103 N (f_X3_fits_103 N n) i (nI 0 - 1) X = _
    unfold b_X3_fits_103
    rw [if_pos (by decide), h6, nI_1]; rfl
  | succ j ih =>
    intro n l X hj hn hl h5 h6 hr
    obtain ⟨n, rfl⟩ : ∃ m, n = m + 1 := ⟨n - 1, by omega⟩
    have hlen := z_len7 i hi
    obtain ⟨q1, q2⟩ := q_ch i hi j (by omega)
    have e1 : nI (j + 1) - 1 = nI j := nI_pred j
    have hcj : (nI j).toNatClampNeg = j := nI_clamp (by omega)
    have hX1 : ∀ X1 : St, X1 = z_wr (z_wr (z_wr X 60 l.length (nI e)) 61 l.length (z_ch i j)) 56 5 (nI (l.length + 1)) → ∃ X', f_X3_fits_103 N n i (nI j - 1) X1 = some (1, X') ∧ X' 56 5 = nI (l.length + 1 + j) ∧ X' 56 6 = nI (e + 1) ∧ rx (X' 60) (X' 61) (((z_byts.getD i []).take j).map (fun s => (e + 1, s)) ++ ((e + 1, z_ch i j) :: l)) ∧ FS X1 X' ∧ X' 58 = X1 58 ∧ X' 59 = X1 59 := by
      intro X1 hX1
      subst hX1
      refine ih n ((e + 1, z_ch i j) :: l) _ (by omega) (by omega) (by simp; omega) rfl h6 ?_
      refine ⟨?_, ?_, rx_eq hr (fun k hk => ⟨q_up_l hk, q_up_l hk⟩)⟩
      · show q_up (X 60) l.length (nI e) l.length = nI (e + 1) - 1
        rw [q_up_s, nI_pred]
      · exact q_up_s
    obtain ⟨X', r1, r2, r3, r4, r5, r6, r7⟩ := hX1 _ rfl
    refine ⟨X', ?_, by rw [r2]; congr 1; omega, r3, ?_, ?_, r6, r7⟩
    · show b_X3_fits_103 N (f_X3_fits_103 N n) i (nI (j + 1) - 1) X = _
      unfold b_X3_fits_103 f_J0_charAt_5068e
      rw [e1, if_neg (nI_pos (by omega)), q_gd ⟨hi, q_in (show j < z_lens.getD i 0 by omega) (by omega)⟩, hcj, q_bd, h6, x_await h5 (by omega), q_bv]
      have e2 : nI j + (-1) = nI j - 1 := (Int32.sub_eq_add_neg _ _).symm
      rw [e2]
      exact r1
    · rw [List.take_succ, q1]
      simpa using r4
    · exact ((FS.rf.wr (by omega)).wr (by omega)).wf (by omega) |>.tr r5
/-- at place k -/
def XI (tx : Nat → Int32) (n k : Nat) (X : St) : Prop := X 56 7 = nI n ∧ (∀ j, j < n → X 57 j = tx j) ∧ X 56 5 = nI (sk tx k).length ∧ X 56 6 = nI (ne tx k) ∧ rx (X 60) (X 61) (sk tx k) ∧ ∀ j, j < k → ∃ x r, sk tx j = x :: r ∧ X 58 j = nI x.1 - 1 ∧ X 59 j = x.2
set_option maxHeartbeats 1000000 in
theorem x_fits {tx : Nat → Int32} {n k : Nat} {X : St} (hN : 1000 ≤ N) (hn : n ≤ 96) (hk : k < n) (hI : XI tx n k X) : (ok1 tx k → ∃ X', f_X3_fits N (nI k) X = some (1, X') ∧ XI tx n (k + 1) X' ∧ FS X X') ∧ (¬ ok1 tx k → ∃ X', f_X3_fits N (nI k) X = some (0, X') ∧ FS X X') := by
  obtain ⟨i1, i2, i3, i4, i5, i6⟩ := hI
  obtain ⟨-, -, hlen⟩ := sk_ok (tx := tx) k
  unfold f_X3_fits
  cases hs : sk tx k with
  | nil =>
    rw [hs] at i3
    refine ⟨fun q => ?_, fun _ => ⟨X, ?_, FS.rf⟩⟩
    · obtain ⟨x, r, q, -⟩ := q
      rw [hs] at q; cases q
    · rw [i3, if_neg (by decide)]
  | cons x r =>
    rw [hs] at i3 i5 hlen
    have hr : r.length < 193 := by simp at hlen; omega
    have i3' : X 56 5 = nI (r.length + 1) := i3
    rw [i3', if_pos (by show nI 0 < _; exact nI_lt (by omega) (by omega)), q_sub1, q_lt]
    rw [x_at (show k < 96 by omega), q_bd]
    rw [show (z_wr X 56 5 (nI r.length)) 56 5 = nI r.length from rfl, x_at (show r.length < z_ln 61 from hr), q_bd]
    rw [show (z_wr X 56 5 (nI r.length)) 56 5 = nI r.length from rfl, x_at (show r.length < z_ln 60 from hr), q_bd]
    rw [x_put (show k < 96 by omega), q_bv, x_put (show k < 96 by omega), q_bv]
    rw [show (z_wr X 56 5 (nI r.length)) 61 r.length = x.2 from i5.2.1, show (z_wr X 56 5 (nI r.length)) 60 r.length = nI x.1 - 1 from i5.1, show (z_wr X 56 5 (nI r.length)) 57 k = tx k from i2 k hk]
    have hF : FS X (z_wr (z_wr (z_wr X 56 5 (nI r.length)) 58 k (nI x.1 - 1)) 59 k x.2) := ((FS.rf.wf (by omega)).wr (by omega)).wr (by omega)
    have j6 : ∀ j, j < k + 1 → ∃ y r, sk tx j = y :: r ∧ q_up (X 58) k (nI x.1 - 1) j = nI y.1 - 1 ∧ q_up (X 59) k x.2 j = y.2 := by
      intro j hj
      by_cases e : j = k
      · subst e; exact ⟨x, r, hs, q_up_s, q_up_s⟩
      · obtain ⟨y, r', g1, g2, g3⟩ := i6 j (by omega)
        exact ⟨y, r', g1, by rw [q_up_n e]; exact g2, by rw [q_up_n e]; exact g3⟩
    by_cases hb : x.2 = 118
    · rw [if_pos hb]
      obtain ⟨s1, s2, -⟩ := sk_b hs hb
      by_cases hn2 : isN (tx k)
      · rw [x_nam1 hn2, q_bd, q_gd (Or.inr rfl)]
        refine ⟨fun _ => ⟨_, rfl, ?_, hF⟩, fun q => absurd ⟨x, r, hs, fun _ => hn2, fun q => absurd hb q⟩ q⟩
        refine ⟨i1, i2, by rw [s1]; rfl, by rw [s2]; exact i4, by rw [s1]; exact i5.2.2, j6⟩
      · rw [x_nam0 hn2, q_bd, q_gd (Or.inl rfl)]
        refine ⟨fun q => ?_, fun _ => ⟨_, rfl, hF⟩⟩
        obtain ⟨y, r', g1, g2, -⟩ := q
        rw [hs] at g1
        cases g1
        exact absurd (g2 hb) hn2
    · rw [if_neg hb]
      obtain ⟨s1, s2, -⟩ := sk_e hs hb
      by_cases hv : vs (tx k)
      · rw [x_sign1 hv, q_bd, if_neg (by decide)]
        obtain ⟨i, h1, h2, h3, h4⟩ := x_po (N := N) (S := z_wr (z_wr (z_wr X 56 5 (nI r.length)) 58 k (nI x.1 - 1)) 59 k x.2) (tx k)
        rw [h2, q_bd]
        unfold f_J0_length_8abf5
        rw [q_gd h1, q_bd]
        have hl4 := z_len7 i h1
        obtain ⟨X', g1, g2, g3, g4, g5, g6, g7⟩ := x_parts (N := N) (i := i) (e := ne tx k) h1 (z_lens.getD i 0) N r (z_wr (z_wr (z_wr X 56 5 (nI r.length)) 58 k (nI x.1 - 1)) 59 k x.2) (Nat.le_refl _) (by omega) (by simp at hlen; omega) rfl i4 i5.2.2
        refine ⟨fun _ => ⟨X', g1, ?_, hF.tr g5⟩, fun q => absurd ⟨x, r, hs, fun q => absurd q hb, fun _ => hv⟩ q⟩
        have etk : (z_byts.getD i []).take (z_lens.getD i 0) = prt (tx k) := by rw [q_ln7 i h1, List.take_length, h3]
        rw [etk] at g4
        refine ⟨by rw [g5.2]; exact i1, fun j hj => ?_, ?_, by rw [s2]; exact g3, by rw [s1]; exact g4, fun j hj => ?_⟩
        · rw [g5.1 57 (by omega)]; exact i2 j hj
        · rw [g2, s1, q_ln7 i h1, h3]; congr 1; simp; omega
        · rw [g6, g7]; exact j6 j hj
      · rw [x_sign0 hv, q_bd, if_pos rfl]
        refine ⟨fun q => ?_, fun _ => ⟨_, rfl, hF⟩⟩
        obtain ⟨y, r', g1, -, g2⟩ := q
        rw [hs] at g1
        cases g1
        exact absurd (g2 hb) hv
end
