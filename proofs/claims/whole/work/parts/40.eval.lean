/-! numbers, and what the small functions answer -/
theorem q_lit (n : Nat) : (OfNat.ofNat n : Int32) = nI n := rfl
theorem q_sub1 {n : Nat} : nI (n + 1) - 1 = nI n := nI_pred n
theorem q_in {k n : Nat} (h : k < n) (hn : n < 2 ^ 31) : z_in (nI k) n := ⟨nI_pos' (by omega), by rw [nI_clamp (by omega)]; exact h⟩
theorem q_ln (o : Nat) : z_ln o ≤ 2000 := by
  by_cases h : o < 102
  · have d : ∀ o, o < 102 → z_ln o ≤ 2000 := by decide +kernel
    exact d o h
  · have hl : z_lnL.length = 102 := by decide +kernel
    have e : z_lnL[o]? = none := List.getElem?_eq_none (by omega)
    unfold z_ln
    simp [List.getD, e]
theorem q_inl {k o : Nat} (h : k < z_ln o) : z_in (nI k) (z_ln o) := q_in h (by have := q_ln o; omega)
theorem q_gd {β : Type} {c : Prop} [Decidable c] {k : Option β} (h : c) : z_gd c k = k := if_pos h
theorem q_bv {β : Type} {S : St} {k : St → Option β} : z_bv (some S) k = k S := rfl
theorem q_bd {α β : Type} {a : α} {S : St} {k : α → St → Option β} : z_bd (some (a, S)) k = k a S := rfl
theorem q_lt {β : Type} {S : St} {k : St → Option β} : z_lt S k = k S := rfl
theorem q_bvi {x : Option St} : z_bv x (fun S => some S) = x := by cases x <;> rfl
theorem q_bdi {α : Type} {x : Option (α × St)} : z_bd x (fun a S => some (a, S)) = x := by cases x <;> rfl
theorem q_ap (S : St) (o k : Nat) (v : Int32) (a b : Nat) : z_wr S o k v a b = if a = o then (if b = k then v else S a b) else S a b := rfl
def q_up (f : Nat → Int32) (k : Nat) (v : Int32) : Nat → Int32 := fun b => if b = k then v else f b
theorem q_up_s {f : Nat → Int32} {k : Nat} {v : Int32} : q_up f k v k = v := by simp [q_up]
theorem q_up_n {f : Nat → Int32} {k b : Nat} {v : Int32} (h : b ≠ k) : q_up f k v b = f b := by simp [q_up, h]
theorem q_up_l {f : Nat → Int32} {k b : Nat} {v : Int32} (h : b < k) : q_up f k v b = f b := q_up_n (by omega)
section
variable {N : Nat} {S : St}
/-- rows -/
theorem x_at {j k : Nat} (h : k < z_ln j) : f_X9_at N j (nI k) S = some (S j k, S) := by
  have hl := q_ln j
  unfold f_X9_at
  rw [if_neg (nI_pos (by omega)), if_neg (nI_ge h (by omega)), q_gd (q_inl h), nI_clamp (by omega)]
theorem x_put {j k : Nat} {v : Int32} (h : k < z_ln j) : f_X9_put N j (nI k) v S = some (z_wr S j k v) := by
  have hl := q_ln j
  unfold f_X9_put
  rw [if_neg (nI_pos (by omega)), if_neg (nI_ge h (by omega)), q_gd (q_inl h), nI_clamp (by omega)]
  rfl
/-- waiting -/
theorem x_empty0 (h : S 44 4 = nI 0) : f_X8_isEmpty N S = some (1, S) := by
  unfold f_X8_isEmpty
  rw [h, if_neg (by decide)]
theorem x_emptyS {n : Nat} (h : S 44 4 = nI (n + 1)) (hn : n < 1000) : f_X8_isEmpty N S = some (0, S) := by
  unfold f_X8_isEmpty
  rw [h, if_pos (by show nI 0 < nI (n + 1); exact nI_lt (by omega) (by omega))]
theorem x_pop {n : Nat} (h : S 44 4 = nI (n + 1)) : f_X8_pop N S = some (z_wr S 44 4 (nI n)) := by
  unfold f_X8_pop
  rw [h, q_sub1]; rfl
theorem x_wexp {n : Nat} (h : S 44 4 = nI n) (hn : n < 400) : f_X8_expression N S = some (S 45 n, S) := by
  unfold f_X8_expression
  rw [h, x_at (show n < z_ln 45 from hn)]; rfl
theorem x_wfrm {n : Nat} (h : S 44 4 = nI n) (hn : n < 400) : f_X8_frame N S = some (S 46 n, S) := by
  unfold f_X8_frame
  rw [h, x_at (show n < z_ln 46 from hn)]; rfl
theorem x_wstg {n : Nat} (h : S 44 4 = nI n) (hn : n < 400) : f_X8_stage N S = some (S 47 n, S) := by
  unfold f_X8_stage
  rw [h, x_at (show n < z_ln 47 from hn)]; rfl
theorem x_wfst {n : Nat} (h : S 44 4 = nI n) (hn : n < 400) : f_X8_first N S = some (S 48 n, S) := by
  unfold f_X8_first
  rw [h, x_at (show n < z_ln 48 from hn)]; rfl
theorem x_push {n : Nat} {a b c d : Int32} (h : S 44 4 = nI n) (hn : n < 400) : f_X8_push N a b c d S = some (z_wr (z_wr (z_wr (z_wr (z_wr S 45 n a) 46 n b) 47 n c) 48 n d) 44 4 (nI (n + 1))) := by
  unfold f_X8_push
  rw [h, x_put (show n < z_ln 45 from hn), q_bv]
  rw [show z_wr S 45 n a 44 4 = nI n from h, x_put (show n < z_ln 46 from hn), q_bv]
  rw [show z_wr (z_wr S 45 n a) 46 n b 44 4 = nI n from h, x_put (show n < z_ln 47 from hn), q_bv]
  rw [show z_wr (z_wr (z_wr S 45 n a) 46 n b) 47 n c 44 4 = nI n from h, x_put (show n < z_ln 48 from hn), q_bv]
  rw [show z_wr (z_wr (z_wr (z_wr S 45 n a) 46 n b) 47 n c) 48 n d 44 4 = nI n from h, nI_1]
  rfl
/-- cells, things -/
theorem x_cadd {n : Nat} {a b d : Int32} (h : S 36 3 = nI n) (hn : n < 400) : f_X1_add N a b d S = some (nI n, z_wr (z_wr (z_wr (z_wr S 37 n a) 38 n b) 39 n d) 36 3 (nI (n + 1))) := by
  unfold f_X1_add
  rw [h, x_put (show n < z_ln 37 from hn), q_bv]
  rw [show z_wr S 37 n a 36 3 = nI n from h, x_put (show n < z_ln 38 from hn), q_bv]
  rw [show z_wr (z_wr S 37 n a) 38 n b 36 3 = nI n from h, x_put (show n < z_ln 39 from hn), q_bv]
  rw [show z_wr (z_wr (z_wr S 37 n a) 38 n b) 39 n d 36 3 = nI n from h, nI_1, q_lt]
  rw [show z_wr (z_wr (z_wr (z_wr S 37 n a) 38 n b) 39 n d) 36 3 (nI (n + 1)) 36 3 = nI (n + 1) from rfl, q_sub1]
theorem x_tadd {n : Nat} {a b d : Int32} (h : S 40 3 = nI n) (hn : n < 400) : f_X7_add N a b d S = some (nI (10000 + n), z_wr (z_wr (z_wr (z_wr S 41 n a) 42 n b) 43 n d) 40 3 (nI (n + 1))) := by
  unfold f_X7_add
  rw [h, x_put (show n < z_ln 41 from hn), q_bv]
  rw [show z_wr S 41 n a 40 3 = nI n from h, x_put (show n < z_ln 42 from hn), q_bv]
  rw [show z_wr (z_wr S 41 n a) 42 n b 40 3 = nI n from h, x_put (show n < z_ln 43 from hn), q_bv]
  rw [show z_wr (z_wr (z_wr S 41 n a) 42 n b) 43 n d 40 3 = nI n from h, nI_1, q_lt]
  rw [show z_wr (z_wr (z_wr (z_wr S 41 n a) 42 n b) 43 n d) 40 3 (nI (n + 1)) 40 3 = nI (n + 1) from rfl]
  rw [show (10000 : Int32) + nI (n + 1) - 1 = nI (10000 + n) by rw [q_lit, nI_add]; exact nI_pred (10000 + n)]
theorem q_t10k (n : Nat) : nI (10000 + n) - 10000 = nI n := by
  show nI (10000 + n) - nI 10000 = nI n
  rw [pk_sub (Nat.le_add_right _ _), Nat.add_sub_cancel_left]
theorem x_isNum1 {a : Int32} (h : a ≤ 9999) : f_X7_isNumber N a S = some (1, S) := by
  unfold f_X7_isNumber
  rw [if_neg]
  intro q
  rw [Int32.le_iff_toInt_le] at h q
  have e1 : (9999 : Int32).toInt = 9999 := rfl
  have e2 : (10000 : Int32).toInt = 10000 := rfl
  omega
theorem x_isNum0 {n : Nat} (hn : n < 400) : f_X7_isNumber N (nI (10000 + n)) S = some (0, S) := by
  unfold f_X7_isNumber
  rw [if_pos (by show nI 10000 ≤ _; exact nI_le (by omega) (by omega))]
theorem x_kind {n : Nat} (hn : n < 400) : f_X7_kindOf N (nI (10000 + n)) S = some (S 41 n, S) := by
  unfold f_X7_kindOf
  rw [q_t10k, if_neg (nI_pos (by omega)), if_neg (nI_ge (show n < z_ln 41 from hn) (by decide)), q_gd (q_inl (show n < z_ln 41 from hn)), nI_clamp (by omega)]
theorem x_kindN {a : Int32} (h : a ≤ 9999) (h2 : -9999 ≤ a) : f_X7_kindOf N a S = some (5, S) := by
  unfold f_X7_kindOf
  rw [if_pos]
  rw [Int32.lt_iff_toInt_lt, Int32.toInt_sub]
  rw [Int32.le_iff_toInt_le] at h h2
  have e1 : (9999 : Int32).toInt = 9999 := rfl
  have e2 : (10000 : Int32).toInt = 10000 := rfl
  have e3 : (-9999 : Int32).toInt = -9999 := rfl
  have e4 : (0 : Int32).toInt = 0 := rfl
  rw [e1] at h
  rw [e3] at h2
  rw [e2, e4, Int.bmod_eq_of_le (by omega) (by omega)]
  omega
theorem x_ones {n : Nat} (hn : n < 400) : f_X7_expressionOf N (nI (10000 + n)) S = some (S 42 n, S) := by
  unfold f_X7_expressionOf
  rw [q_t10k, x_at (show n < z_ln 42 from hn)]; rfl
theorem x_twos {n : Nat} (hn : n < 400) : f_X7_frameOf N (nI (10000 + n)) S = some (S 43 n, S) := by
  unfold f_X7_frameOf
  rw [q_t10k, x_at (show n < z_ln 43 from hn)]; rfl
/-- the program -/
theorem x_pr (h : S 29 6 = 1) : z_pr S = 2 := by unfold z_pr; rw [h]; rfl
theorem x_sign {e : Nat} (he : e < 40) : f_X5_signOf N 2 (nI e) S = some (S 3 e, S) := by
  unfold f_X5_signOf
  rw [show z_rfS 2 0 = 3 from rfl, x_at (show e < z_ln 3 from he)]; rfl
theorem x_vari {e : Nat} (he : e < 40) : f_X5_variableOf N 2 (nI e) S = some (S 4 e, S) := by
  unfold f_X5_variableOf
  rw [show z_rfS 2 1 = 4 from rfl, x_at (show e < z_ln 4 from he)]; rfl
theorem x_seco {e : Nat} (he : e < 40) : f_X5_secondOf N 2 (nI e) S = some (S 5 e, S) := by
  unfold f_X5_secondOf
  rw [show z_rfS 2 2 = 5 from rfl, x_at (show e < z_ln 5 from he)]; rfl
theorem x_thir {e : Nat} (he : e < 40) : f_X5_thirdOf N 2 (nI e) S = some (S 6 e, S) := by
  unfold f_X5_thirdOf
  rw [show z_rfS 2 3 = 6 from rfl, x_at (show e < z_ln 6 from he)]; rfl
theorem x_site {e : Nat} (he : e < 40) : f_X5_siteOf N 2 (nI e) S = some (S 7 e, S) := by
  unfold f_X5_siteOf
  rw [show z_rfS 2 4 = 7 from rfl, x_at (show e < z_ln 7 from he)]; rfl
theorem x_end1 {e : Nat} (he : e < 40) (h : S 8 e = 1) : f_X5_isAtEnd N 2 (nI e) S = some (1, S) := by
  unfold f_X5_isAtEnd
  rw [show z_rfS 2 5 = 8 from rfl, x_at (show e < z_ln 8 from he), q_bd, h]; rfl
theorem x_end0 {e : Nat} (he : e < 40) (h : S 8 e = 0) : f_X5_isAtEnd N 2 (nI e) S = some (0, S) := by
  unfold f_X5_isAtEnd
  rw [show z_rfS 2 5 = 8 from rfl, x_at (show e < z_ln 8 from he), q_bd, h]; rfl
theorem x_begin {a b : Int32} : f_X4_begin N a b S = some (z_wr (z_wr (z_wr S 29 7 0) 29 8 a) 29 9 b) := rfl
theorem x_give {a : Int32} : f_X4_give N a S = some (z_wr (z_wr S 29 7 1) 29 10 a) := rfl
theorem x_fail {a : Int32} : f_X4_fail N a S = some (z_wr (z_wr (z_wr (z_wr S 29 7 2) 29 12 1) 35 5 0) 35 6 a) := rfl
/-- the reference -/
theorem m_valueOf {n : Nat} {k a b c : Int32} (h : S 65 46 = nI n) (hn : n < 2000) : f_X10_valueOf N k a b c S = some (nI n, z_wr (z_wr (z_wr (z_wr (z_wr S 83 n k) 84 n a) 85 n b) 86 n c) 65 46 (nI (n + 1))) := by
  have hc : (nI n).toNatClampNeg = n := nI_clamp (by omega)
  unfold f_X10_valueOf
  rw [h, q_gd (q_inl (show n < z_ln 83 from hn)), q_lt, hc]
  rw [show z_wr S 83 n k 65 46 = nI n from h, q_gd (q_inl (show n < z_ln 84 from hn)), q_lt, hc]
  rw [show z_wr (z_wr S 83 n k) 84 n a 65 46 = nI n from h, q_gd (q_inl (show n < z_ln 85 from hn)), q_lt, hc]
  rw [show z_wr (z_wr (z_wr S 83 n k) 84 n a) 85 n b 65 46 = nI n from h, q_gd (q_inl (show n < z_ln 86 from hn)), q_lt, hc]
  rw [show z_wr (z_wr (z_wr (z_wr S 83 n k) 84 n a) 85 n b) 86 n c 65 46 = nI n from h, nI_1, q_lt]
  rw [show z_wr (z_wr (z_wr (z_wr (z_wr S 83 n k) 84 n a) 85 n b) 86 n c) 65 46 (nI (n + 1)) 65 46 = nI (n + 1) from rfl, q_sub1]
theorem m_frameWith {n : Nat} {a b d : Int32} (h : S 65 47 = nI n) (h2 : S 65 48 = nI (n + 1)) (hn : n < 900) : f_X10_frameWith N a b d S = some (nI (n + 1), z_wr (z_wr (z_wr (z_wr (z_wr (z_wr S 87 n b) 88 (n + 1) a) 89 (n + 1) (nI n)) 90 (n + 1) d) 65 47 (nI (n + 1))) 65 48 (nI (n + 2))) := by
  have hc : (nI n).toNatClampNeg = n := nI_clamp (by omega)
  have hd : (nI (n + 1)).toNatClampNeg = n + 1 := nI_clamp (by omega)
  unfold f_X10_frameWith
  rw [h, q_gd (q_inl (show n < 1000 by omega)), q_lt, hc]
  rw [show z_wr S 87 n b 65 48 = nI (n + 1) from h2, q_gd (q_inl (show n + 1 < 1000 by omega)), q_lt, hd]
  rw [show z_wr (z_wr S 87 n b) 88 (n + 1) a 65 48 = nI (n + 1) from h2, q_gd (q_inl (show n + 1 < 1000 by omega)), q_lt, hd]
  rw [show z_wr (z_wr S 87 n b) 88 (n + 1) a 65 47 = nI n from h]
  rw [show z_wr (z_wr (z_wr S 87 n b) 88 (n + 1) a) 89 (n + 1) (nI n) 65 48 = nI (n + 1) from h2, q_gd (q_inl (show n + 1 < 1000 by omega)), q_lt, hd]
  rw [show z_wr (z_wr (z_wr (z_wr S 87 n b) 88 (n + 1) a) 89 (n + 1) (nI n)) 90 (n + 1) d 65 47 = nI n from h, nI_1, q_lt]
  rw [show z_wr (z_wr (z_wr (z_wr (z_wr S 87 n b) 88 (n + 1) a) 89 (n + 1) (nI n)) 90 (n + 1) d) 65 47 (nI (n + 1)) 65 48 = nI (n + 1) from h2, nI_1, q_lt]
  rw [show z_wr (z_wr (z_wr (z_wr (z_wr (z_wr S 87 n b) 88 (n + 1) a) 89 (n + 1) (nI n)) 90 (n + 1) d) 65 47 (nI (n + 1))) 65 48 (nI (n + 1 + 1)) 65 48 = nI (n + 1 + 1) from rfl, q_sub1]
theorem m_faultOf {n : Nat} {a b : Int32} (h : S 65 49 = nI n) (hn : n < 1000) : f_X10_faultOf N a b S = some (nI n, z_wr (z_wr (z_wr S 91 n a) 92 n b) 65 49 (nI (n + 1))) := by
  have hc : (nI n).toNatClampNeg = n := nI_clamp (by omega)
  unfold f_X10_faultOf
  rw [h, q_gd (q_inl (show n < z_ln 91 from hn)), q_lt, hc]
  rw [show z_wr S 91 n a 65 49 = nI n from h, q_gd (q_inl (show n < z_ln 92 from hn)), q_lt, hc]
  rw [show z_wr (z_wr S 91 n a) 92 n b 65 49 = nI n from h, nI_1, q_lt]
  rw [show z_wr (z_wr (z_wr S 91 n a) 92 n b) 65 49 (nI (n + 1)) 65 49 = nI (n + 1) from rfl, q_sub1]
theorem m_makes {a b c : Int32} : f_X10_makes N a b c S = some (z_wr (z_wr (z_wr (z_wr S 65 56 0) 65 57 a) 65 58 b) 65 59 c) := rfl
theorem m_has {a : Int32} : f_X10_has N a S = some (z_wr (z_wr S 65 56 1) 65 60 a) := rfl
theorem m_fails {n : Nat} {a : Int32} (h : S 65 49 = nI n) (hn : n < 1000) : f_X10_fails N a S = some (z_wr (z_wr (z_wr (z_wr (z_wr S 65 56 2) 91 n a) 92 n (-9)) 65 49 (nI (n + 1))) 65 61 (nI n)) := by
  unfold f_X10_fails
  rw [q_lt, m_faultOf (show z_wr S 65 56 2 65 49 = nI n from h) hn, q_bd]; rfl
theorem m_waitsFor {n : Nat} {a : Int32} (h : S 65 55 = nI n) (hn : n < 800) : f_X10_waitsFor N a S = some (z_wr (z_wr (z_wr (z_wr (z_wr S 93 n a) 94 n 0) 95 n (S 65 58)) 96 n (S 65 59)) 65 55 (nI (n + 1))) := by
  have hc : (nI n).toNatClampNeg = n := nI_clamp (by omega)
  unfold f_X10_waitsFor
  rw [h, q_gd (q_inl (show n < z_ln 93 from hn)), q_lt, hc]
  rw [show z_wr S 93 n a 65 55 = nI n from h, q_gd (q_inl (show n < z_ln 94 from hn)), q_lt, hc]
  rw [show z_wr (z_wr S 93 n a) 94 n 0 65 55 = nI n from h, q_gd (q_inl (show n < z_ln 95 from hn)), q_lt, hc]
  rw [show z_wr (z_wr (z_wr S 93 n a) 94 n 0) 95 n (z_wr (z_wr S 93 n a) 94 n 0 65 58) 65 55 = nI n from h, q_gd (q_inl (show n < z_ln 96 from hn)), q_lt, hc]
  rw [show z_wr (z_wr (z_wr (z_wr S 93 n a) 94 n 0) 95 n (z_wr (z_wr S 93 n a) 94 n 0 65 58)) 96 n (z_wr (z_wr (z_wr S 93 n a) 94 n 0) 95 n (z_wr (z_wr S 93 n a) 94 n 0 65 58) 65 59) 65 55 = nI n from h, nI_1]
  rfl
end
