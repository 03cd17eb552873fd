/-! any value that comes to what waits -/
theorem m_first1 {N : Nat} {S : St} {c : Int32} {k : Nat} (hk : k < 800) (h : S 94 k = 0) (hc : isK c) : f_X10_isFirstOfTwo N c (nI k) S = some (1, S) := by
  unfold f_X10_isFirstOfTwo
  rw [q_gd (q_inl (show k < 800 from hk)), nI_clamp (by omega), if_pos h]
  rcases hc with q | q | q | q | q | q <;> rw [q] <;> rfl
theorem m_first0 {N : Nat} {S : St} {c : Int32} {k : Nat} (hk : k < 800) (h : S 94 k = 1 ∨ ¬ isK c) : f_X10_isFirstOfTwo N c (nI k) S = some (0, S) := by
  unfold f_X10_isFirstOfTwo
  rw [q_gd (q_inl (show k < 800 from hk)), nI_clamp (by omega)]
  rcases h with h | h
  · rw [if_neg (by rw [h]; decide)]
  · by_cases h0 : S 94 k = 0
    · rw [if_pos h0, if_neg (fun q => h (by rw [q]; decide)), if_neg (fun q => h (by rw [q]; decide)), if_neg (fun q => h (by rw [q]; decide)), if_neg (fun q => h (by rw [q]; decide)), if_neg (fun q => h (by rw [q]; decide)), if_neg (fun q => h (by rw [q]; decide))]
    · rw [if_neg h0]
section
variable {N : Nat} {X M X0 M0 : St} {z k st dp cn tn vn fn μ : Nat} {θ : Nat → Nat}

/-- the class's turn behind the pop: e waits with its sign c -/
def xv_tail (N : Nat) (r8 r11 r14 : Int32) (S13 : St) : Option St := if r14 = 42 then (b_X4_useValue_180 N (r8) (r11) (r14) S13) else (if r14 = 43 then (b_X4_useValue_180 N (r8) (r11) (r14) S13) else (if r14 = 44 then (z_bd (f_X5_secondOf N ((z_pr S13)) (r8) S13) fun r20 S19 => z_bv (f_X4_begin N (r20) (r11) S19) fun S22 => some S22) else (if r14 = 45 then (b_X4_useValue_180 N (r8) (r11) (r14) S13) else (if r14 = 63 then (z_bv (f_X4_choose N (r8) (r11) S13) fun S26 => some S26) else (if r14 = 64 then (z_bd (f_X8_stage N S13) fun r30 S29 => if r30 = 1 then (z_bd (f_X8_first N S29) fun r36 S35 => z_bv (f_X4_call N (r8) (r11) (r36) S35) fun S38 => some S38) else (z_bv (f_X4_useForCall N (r8) (r11) S29) fun S33 => some S33)) else (if r14 = 66 then (b_X4_useValue_180 N (r8) (r11) (r14) S13) else (if r14 = 67 then (b_X4_useValue_180 N (r8) (r11) (r14) S13) else (if r14 = 76 then (z_bv (f_X4_beginSecondWithCell N (r8) (r11) ((S13 29 10)) S13) fun S43 => some S43) else (if r14 = 80 then (z_bd (f_X7_add N (0) ((S13 29 10)) (0) S13) fun r47 S46 => z_bv (f_X4_give N (r47) S46) fun S49 => some S49) else (if r14 = 81 then (z_bd (f_X7_add N (1) (0) ((S13 29 10)) S13) fun r53 S52 => z_bv (f_X4_give N (r53) S52) fun S55 => some S55) else (if r14 = 83 then (z_bd (f_X5_variableOf N ((z_pr S13)) (r8) S13) fun r59 S58 => z_bv (f_X4_store N (r59) (r11) S58) fun S61 => some S61) else (if r14 = 88 then (z_bv (f_X4_failAsTold N S13) fun S64 => some S64) else (if r14 = 112 then (b_X4_useValue_320 N (r8) (r14) S13) else (if r14 = 113 then (b_X4_useValue_320 N (r8) (r14) S13) else (some S13)))))))))))))))
def mv_tail (N : Nat) (S1 : St) : Option St := z_gd (z_in (S1 65 55) (z_ln 93)) (if (S1 93 ((S1 65 55) : Int32).toNatClampNeg) = (-1) then (z_lt (z_wr S1 65 63 ((S1 65 63) - 1)) fun S12 => some S12) else (z_gd (z_in (S1 93 ((S1 65 55) : Int32).toNatClampNeg) (z_ln 67)) (if (S1 67 ((S1 93 ((S1 65 55) : Int32).toNatClampNeg) : Int32).toNatClampNeg) = 64 then (z_gd (z_in (S1 65 55) (z_ln 94)) (if (S1 94 ((S1 65 55) : Int32).toNatClampNeg) = 0 then (z_gd (z_in (S1 65 60) (z_ln 83)) (if (S1 83 ((S1 65 60) : Int32).toNatClampNeg) = 1 then (b_X10_goesOn_81 N ((S1 65 55)) ((S1 93 ((S1 65 55) : Int32).toNatClampNeg)) S1) else (z_bv (f_X10_fails N (2) S1) fun S10 => some S10))) else (b_X10_goesOn_81 N ((S1 65 55)) ((S1 93 ((S1 65 55) : Int32).toNatClampNeg)) S1))) else (b_X10_goesOn_81 N ((S1 65 55)) ((S1 93 ((S1 65 55) : Int32).toNatClampNeg)) S1))))
theorem x_useValue {h : Nat} {S : St} (h44 : S 44 4 = nI (h + 1)) (hh : h < 400) (h6 : S 29 6 = 1) {e : Nat} (he : e < 40) (h45 : S 45 h = nI e) : f_X4_useValue N S = xv_tail N (nI e) (S 46 h) (S 3 e) (z_wr S 44 4 (nI h)) := by
  unfold f_X4_useValue
  rw [x_emptyS h44 (by omega), q_bd, if_pos rfl, x_pop h44, q_bv, x_wexp (show (z_wr S 44 4 (nI h)) 44 4 = nI h from rfl) hh, q_bd, x_wfrm (show (z_wr S 44 4 (nI h)) 44 4 = nI h from rfl) hh, q_bd]
  rw [show (z_wr S 44 4 (nI h)) 45 h = nI e from h45, x_pr (show (z_wr S 44 4 (nI h)) 29 6 = 1 from h6), x_sign he, q_bd]
  rfl
theorem m_goesOn {h : Nat} {S : St} (h55 : S 65 55 = nI (h + 1)) : f_X10_goesOn N S = mv_tail N (z_wr S 65 55 (nI h)) := by
  unfold f_X10_goesOn
  rw [h55, q_sub1]
  rfl

set_option maxHeartbeats 1000000 in
theorem s_v42_0 (hN : 1000 ≤ N) {e : Nat} (hB : RB X M z k st dp cn tn vn fn θ) (hD : D1 X M tn vn θ) (h44 : X 44 4 = nI k) (h55 : M 65 55 = nI k) (hk1 : k + 1 ≤ st) (he : e < z) (m93 : M 93 k = nI (z - 1 - e)) (hf : FR (X 46 k) (M 95 k) cn) (m96 : M 96 k = X 8 e) (h1 : cn + phi 1 1 0 (X 47) k + 1 ≤ st) (h2 : tn + phi 1 1 0 (X 47) k + 1 ≤ st) (h3 : vn + phi 1 1 0 (X 47) k + 1 ≤ 2 * st) (m94 : M 94 k = 0) (s47 : X 47 k = 0) (hc : X 3 e = 42)  (hp : fn + phi 2 1 0 (X 47) k + 2 ≤ 2 * st + 1) (hμ : 10 * (400 - st) + phi 7 5 3 (X 47) k + 7 ≤ μ) (hX : FX X0 X) (hM : FM M0 M) : JJ X0 M0 z (μ - 1) (xv_tail N (nI e) (X 46 k) 42 X) (mv_tail N M) := by
  have hz : z ≤ 40 := hB.1.2.1
  have hb := hB.bds
  have a1 := hB.2.1.1
  have a16 := hB.2.1.2.2.2.2.2.2.2.2.2.2.2.2.2.2.2.1
  have a17 := hB.2.1.2.2.2.2.2.2.2.2.2.2.2.2.2.2.2.2.1
  obtain ⟨pe1, pe2, pe3⟩ := hB.1.2.2 e he
  have hck : (nI k).toNatClampNeg = k := nI_clamp (by omega)
  have hce : (nI (z - 1 - e)).toNatClampNeg = z - 1 - e := nI_clamp (by omega)
  have i67 : z - 1 - e < z_ln 67 := show z - 1 - e < 41 by omega
  have i68 : z - 1 - e < z_ln 68 := show z - 1 - e < 41 by omega
  have i69 : z - 1 - e < z_ln 69 := show z - 1 - e < 41 by omega
  have i71 : z - 1 - e < z_ln 71 := show z - 1 - e < 41 by omega
  have i93 : k < z_ln 93 := show k < 800 by omega
  have i94 : k < z_ln 94 := show k < 800 by omega
  have i95 : k < z_ln 95 := show k < 800 by omega
  have i96 : k < z_ln 96 := show k < 800 by omega
  have i97 : k < z_ln 97 := show k < 800 by omega
  have n1 : ¬ nI (z - 1 - e) = -1 := fun q => by have := nI_pos (n := z - 1 - e) (by omega); rw [q] at this; exact this (by decide)
  unfold xv_tail mv_tail
  rw [h55, q_gd (q_inl i93)]
  simp only [hck]
  rw [m93]
  simp only [hce]
  rw [if_neg n1, q_gd (q_inl i67), pe1, hc]
  rw [if_pos trivial]
  rw [if_neg (show ¬ (42 : Int32) = 64 by decide)]
  unfold b_X10_goesOn_81
  rw [q_gd (q_inl i67), hce, pe1, hc, m_first1 (show k < 800 by omega) m94 (by decide), q_bd]
  rw [if_neg (show ¬ (1 : Int32) = 0 by decide)]
  unfold b_X4_useValue_180 f_X4_useOneOfTwo
  rw [x_wstg h44 (by omega), q_bd, s47, if_pos (show (0 : Int32) = 0 from rfl), q_bvi, q_bvi]
  exact v_first (c3 := 0) hB hD hk1 he (by rw [hc]; decide) m93 hf m96 (fun q => by rw [hc] at q; exact absurd q (by decide)) h1 h2 h3 hp (by omega) hX hM

set_option maxHeartbeats 1000000 in
theorem s_v43_0 (hN : 1000 ≤ N) {e : Nat} (hB : RB X M z k st dp cn tn vn fn θ) (hD : D1 X M tn vn θ) (h44 : X 44 4 = nI k) (h55 : M 65 55 = nI k) (hk1 : k + 1 ≤ st) (he : e < z) (m93 : M 93 k = nI (z - 1 - e)) (hf : FR (X 46 k) (M 95 k) cn) (m96 : M 96 k = X 8 e) (h1 : cn + phi 1 1 0 (X 47) k + 1 ≤ st) (h2 : tn + phi 1 1 0 (X 47) k + 1 ≤ st) (h3 : vn + phi 1 1 0 (X 47) k + 1 ≤ 2 * st) (m94 : M 94 k = 0) (s47 : X 47 k = 0) (hc : X 3 e = 43)  (hp : fn + phi 2 1 0 (X 47) k + 2 ≤ 2 * st + 1) (hμ : 10 * (400 - st) + phi 7 5 3 (X 47) k + 7 ≤ μ) (hX : FX X0 X) (hM : FM M0 M) : JJ X0 M0 z (μ - 1) (xv_tail N (nI e) (X 46 k) 43 X) (mv_tail N M) := by
  have hz : z ≤ 40 := hB.1.2.1
  have hb := hB.bds
  have a1 := hB.2.1.1
  have a16 := hB.2.1.2.2.2.2.2.2.2.2.2.2.2.2.2.2.2.1
  have a17 := hB.2.1.2.2.2.2.2.2.2.2.2.2.2.2.2.2.2.2.1
  obtain ⟨pe1, pe2, pe3⟩ := hB.1.2.2 e he
  have hck : (nI k).toNatClampNeg = k := nI_clamp (by omega)
  have hce : (nI (z - 1 - e)).toNatClampNeg = z - 1 - e := nI_clamp (by omega)
  have i67 : z - 1 - e < z_ln 67 := show z - 1 - e < 41 by omega
  have i68 : z - 1 - e < z_ln 68 := show z - 1 - e < 41 by omega
  have i69 : z - 1 - e < z_ln 69 := show z - 1 - e < 41 by omega
  have i71 : z - 1 - e < z_ln 71 := show z - 1 - e < 41 by omega
  have i93 : k < z_ln 93 := show k < 800 by omega
  have i94 : k < z_ln 94 := show k < 800 by omega
  have i95 : k < z_ln 95 := show k < 800 by omega
  have i96 : k < z_ln 96 := show k < 800 by omega
  have i97 : k < z_ln 97 := show k < 800 by omega
  have n1 : ¬ nI (z - 1 - e) = -1 := fun q => by have := nI_pos (n := z - 1 - e) (by omega); rw [q] at this; exact this (by decide)
  unfold xv_tail mv_tail
  rw [h55, q_gd (q_inl i93)]
  simp only [hck]
  rw [m93]
  simp only [hce]
  rw [if_neg n1, q_gd (q_inl i67), pe1, hc]
  rw [if_neg (show ¬ (43 : Int32) = 42 by decide), if_pos trivial]
  rw [if_neg (show ¬ (43 : Int32) = 64 by decide)]
  unfold b_X10_goesOn_81
  rw [q_gd (q_inl i67), hce, pe1, hc, m_first1 (show k < 800 by omega) m94 (by decide), q_bd]
  rw [if_neg (show ¬ (1 : Int32) = 0 by decide)]
  unfold b_X4_useValue_180 f_X4_useOneOfTwo
  rw [x_wstg h44 (by omega), q_bd, s47, if_pos (show (0 : Int32) = 0 from rfl), q_bvi, q_bvi]
  exact v_first (c3 := 0) hB hD hk1 he (by rw [hc]; decide) m93 hf m96 (fun q => by rw [hc] at q; exact absurd q (by decide)) h1 h2 h3 hp (by omega) hX hM

set_option maxHeartbeats 1000000 in
theorem s_v45_0 (hN : 1000 ≤ N) {e : Nat} (hB : RB X M z k st dp cn tn vn fn θ) (hD : D1 X M tn vn θ) (h44 : X 44 4 = nI k) (h55 : M 65 55 = nI k) (hk1 : k + 1 ≤ st) (he : e < z) (m93 : M 93 k = nI (z - 1 - e)) (hf : FR (X 46 k) (M 95 k) cn) (m96 : M 96 k = X 8 e) (h1 : cn + phi 1 1 0 (X 47) k + 1 ≤ st) (h2 : tn + phi 1 1 0 (X 47) k + 1 ≤ st) (h3 : vn + phi 1 1 0 (X 47) k + 1 ≤ 2 * st) (m94 : M 94 k = 0) (s47 : X 47 k = 0) (hc : X 3 e = 45)  (hp : fn + phi 2 1 0 (X 47) k + 2 ≤ 2 * st + 1) (hμ : 10 * (400 - st) + phi 7 5 3 (X 47) k + 7 ≤ μ) (hX : FX X0 X) (hM : FM M0 M) : JJ X0 M0 z (μ - 1) (xv_tail N (nI e) (X 46 k) 45 X) (mv_tail N M) := by
  have hz : z ≤ 40 := hB.1.2.1
  have hb := hB.bds
  have a1 := hB.2.1.1
  have a16 := hB.2.1.2.2.2.2.2.2.2.2.2.2.2.2.2.2.2.1
  have a17 := hB.2.1.2.2.2.2.2.2.2.2.2.2.2.2.2.2.2.2.1
  obtain ⟨pe1, pe2, pe3⟩ := hB.1.2.2 e he
  have hck : (nI k).toNatClampNeg = k := nI_clamp (by omega)
  have hce : (nI (z - 1 - e)).toNatClampNeg = z - 1 - e := nI_clamp (by omega)
  have i67 : z - 1 - e < z_ln 67 := show z - 1 - e < 41 by omega
  have i68 : z - 1 - e < z_ln 68 := show z - 1 - e < 41 by omega
  have i69 : z - 1 - e < z_ln 69 := show z - 1 - e < 41 by omega
  have i71 : z - 1 - e < z_ln 71 := show z - 1 - e < 41 by omega
  have i93 : k < z_ln 93 := show k < 800 by omega
  have i94 : k < z_ln 94 := show k < 800 by omega
  have i95 : k < z_ln 95 := show k < 800 by omega
  have i96 : k < z_ln 96 := show k < 800 by omega
  have i97 : k < z_ln 97 := show k < 800 by omega
  have n1 : ¬ nI (z - 1 - e) = -1 := fun q => by have := nI_pos (n := z - 1 - e) (by omega); rw [q] at this; exact this (by decide)
  unfold xv_tail mv_tail
  rw [h55, q_gd (q_inl i93)]
  simp only [hck]
  rw [m93]
  simp only [hce]
  rw [if_neg n1, q_gd (q_inl i67), pe1, hc]
  rw [if_neg (show ¬ (45 : Int32) = 42 by decide), if_neg (show ¬ (45 : Int32) = 43 by decide), if_neg (show ¬ (45 : Int32) = 44 by decide), if_pos trivial]
  rw [if_neg (show ¬ (45 : Int32) = 64 by decide)]
  unfold b_X10_goesOn_81
  rw [q_gd (q_inl i67), hce, pe1, hc, m_first1 (show k < 800 by omega) m94 (by decide), q_bd]
  rw [if_neg (show ¬ (1 : Int32) = 0 by decide)]
  unfold b_X4_useValue_180 f_X4_useOneOfTwo
  rw [x_wstg h44 (by omega), q_bd, s47, if_pos (show (0 : Int32) = 0 from rfl), q_bvi, q_bvi]
  exact v_first (c3 := 0) hB hD hk1 he (by rw [hc]; decide) m93 hf m96 (fun q => by rw [hc] at q; exact absurd q (by decide)) h1 h2 h3 hp (by omega) hX hM

set_option maxHeartbeats 1000000 in
theorem s_v66_0 (hN : 1000 ≤ N) {e : Nat} (hB : RB X M z k st dp cn tn vn fn θ) (hD : D1 X M tn vn θ) (h44 : X 44 4 = nI k) (h55 : M 65 55 = nI k) (hk1 : k + 1 ≤ st) (he : e < z) (m93 : M 93 k = nI (z - 1 - e)) (hf : FR (X 46 k) (M 95 k) cn) (m96 : M 96 k = X 8 e) (h1 : cn + phi 1 1 0 (X 47) k + 1 ≤ st) (h2 : tn + phi 1 1 0 (X 47) k + 1 ≤ st) (h3 : vn + phi 1 1 0 (X 47) k + 1 ≤ 2 * st) (m94 : M 94 k = 0) (s47 : X 47 k = 0) (hc : X 3 e = 66)  (hp : fn + phi 2 1 0 (X 47) k + 2 ≤ 2 * st + 1) (hμ : 10 * (400 - st) + phi 7 5 3 (X 47) k + 7 ≤ μ) (hX : FX X0 X) (hM : FM M0 M) : JJ X0 M0 z (μ - 1) (xv_tail N (nI e) (X 46 k) 66 X) (mv_tail N M) := by
  have hz : z ≤ 40 := hB.1.2.1
  have hb := hB.bds
  have a1 := hB.2.1.1
  have a16 := hB.2.1.2.2.2.2.2.2.2.2.2.2.2.2.2.2.2.1
  have a17 := hB.2.1.2.2.2.2.2.2.2.2.2.2.2.2.2.2.2.2.1
  obtain ⟨pe1, pe2, pe3⟩ := hB.1.2.2 e he
  have hck : (nI k).toNatClampNeg = k := nI_clamp (by omega)
  have hce : (nI (z - 1 - e)).toNatClampNeg = z - 1 - e := nI_clamp (by omega)
  have i67 : z - 1 - e < z_ln 67 := show z - 1 - e < 41 by omega
  have i68 : z - 1 - e < z_ln 68 := show z - 1 - e < 41 by omega
  have i69 : z - 1 - e < z_ln 69 := show z - 1 - e < 41 by omega
  have i71 : z - 1 - e < z_ln 71 := show z - 1 - e < 41 by omega
  have i93 : k < z_ln 93 := show k < 800 by omega
  have i94 : k < z_ln 94 := show k < 800 by omega
  have i95 : k < z_ln 95 := show k < 800 by omega
  have i96 : k < z_ln 96 := show k < 800 by omega
  have i97 : k < z_ln 97 := show k < 800 by omega
  have n1 : ¬ nI (z - 1 - e) = -1 := fun q => by have := nI_pos (n := z - 1 - e) (by omega); rw [q] at this; exact this (by decide)
  unfold xv_tail mv_tail
  rw [h55, q_gd (q_inl i93)]
  simp only [hck]
  rw [m93]
  simp only [hce]
  rw [if_neg n1, q_gd (q_inl i67), pe1, hc]
  rw [if_neg (show ¬ (66 : Int32) = 42 by decide), if_neg (show ¬ (66 : Int32) = 43 by decide), if_neg (show ¬ (66 : Int32) = 44 by decide), if_neg (show ¬ (66 : Int32) = 45 by decide), if_neg (show ¬ (66 : Int32) = 63 by decide), if_neg (show ¬ (66 : Int32) = 64 by decide), if_pos trivial]
  rw [if_neg (show ¬ (66 : Int32) = 64 by decide)]
  unfold b_X10_goesOn_81
  rw [q_gd (q_inl i67), hce, pe1, hc, m_first1 (show k < 800 by omega) m94 (by decide), q_bd]
  rw [if_neg (show ¬ (1 : Int32) = 0 by decide)]
  unfold b_X4_useValue_180 f_X4_useOneOfTwo
  rw [x_wstg h44 (by omega), q_bd, s47, if_pos (show (0 : Int32) = 0 from rfl), q_bvi, q_bvi]
  exact v_first (c3 := 0) hB hD hk1 he (by rw [hc]; decide) m93 hf m96 (fun q => by rw [hc] at q; exact absurd q (by decide)) h1 h2 h3 hp (by omega) hX hM

set_option maxHeartbeats 1000000 in
theorem s_v67_0 (hN : 1000 ≤ N) {e : Nat} (hB : RB X M z k st dp cn tn vn fn θ) (hD : D1 X M tn vn θ) (h44 : X 44 4 = nI k) (h55 : M 65 55 = nI k) (hk1 : k + 1 ≤ st) (he : e < z) (m93 : M 93 k = nI (z - 1 - e)) (hf : FR (X 46 k) (M 95 k) cn) (m96 : M 96 k = X 8 e) (h1 : cn + phi 1 1 0 (X 47) k + 1 ≤ st) (h2 : tn + phi 1 1 0 (X 47) k + 1 ≤ st) (h3 : vn + phi 1 1 0 (X 47) k + 1 ≤ 2 * st) (m94 : M 94 k = 0) (s47 : X 47 k = 0) (hc : X 3 e = 67)  (hp : fn + phi 2 1 0 (X 47) k + 2 ≤ 2 * st + 1) (hμ : 10 * (400 - st) + phi 7 5 3 (X 47) k + 7 ≤ μ) (hX : FX X0 X) (hM : FM M0 M) : JJ X0 M0 z (μ - 1) (xv_tail N (nI e) (X 46 k) 67 X) (mv_tail N M) := by
  have hz : z ≤ 40 := hB.1.2.1
  have hb := hB.bds
  have a1 := hB.2.1.1
  have a16 := hB.2.1.2.2.2.2.2.2.2.2.2.2.2.2.2.2.2.1
  have a17 := hB.2.1.2.2.2.2.2.2.2.2.2.2.2.2.2.2.2.2.1
  obtain ⟨pe1, pe2, pe3⟩ := hB.1.2.2 e he
  have hck : (nI k).toNatClampNeg = k := nI_clamp (by omega)
  have hce : (nI (z - 1 - e)).toNatClampNeg = z - 1 - e := nI_clamp (by omega)
  have i67 : z - 1 - e < z_ln 67 := show z - 1 - e < 41 by omega
  have i68 : z - 1 - e < z_ln 68 := show z - 1 - e < 41 by omega
  have i69 : z - 1 - e < z_ln 69 := show z - 1 - e < 41 by omega
  have i71 : z - 1 - e < z_ln 71 := show z - 1 - e < 41 by omega
  have i93 : k < z_ln 93 := show k < 800 by omega
  have i94 : k < z_ln 94 := show k < 800 by omega
  have i95 : k < z_ln 95 := show k < 800 by omega
  have i96 : k < z_ln 96 := show k < 800 by omega
  have i97 : k < z_ln 97 := show k < 800 by omega
  have n1 : ¬ nI (z - 1 - e) = -1 := fun q => by have := nI_pos (n := z - 1 - e) (by omega); rw [q] at this; exact this (by decide)
  unfold xv_tail mv_tail
  rw [h55, q_gd (q_inl i93)]
  simp only [hck]
  rw [m93]
  simp only [hce]
  rw [if_neg n1, q_gd (q_inl i67), pe1, hc]
  rw [if_neg (show ¬ (67 : Int32) = 42 by decide), if_neg (show ¬ (67 : Int32) = 43 by decide), if_neg (show ¬ (67 : Int32) = 44 by decide), if_neg (show ¬ (67 : Int32) = 45 by decide), if_neg (show ¬ (67 : Int32) = 63 by decide), if_neg (show ¬ (67 : Int32) = 64 by decide), if_neg (show ¬ (67 : Int32) = 66 by decide), if_pos trivial]
  rw [if_neg (show ¬ (67 : Int32) = 64 by decide)]
  unfold b_X10_goesOn_81
  rw [q_gd (q_inl i67), hce, pe1, hc, m_first1 (show k < 800 by omega) m94 (by decide), q_bd]
  rw [if_neg (show ¬ (1 : Int32) = 0 by decide)]
  unfold b_X4_useValue_180 f_X4_useOneOfTwo
  rw [x_wstg h44 (by omega), q_bd, s47, if_pos (show (0 : Int32) = 0 from rfl), q_bvi, q_bvi]
  exact v_first (c3 := 0) hB hD hk1 he (by rw [hc]; decide) m93 hf m96 (fun q => by rw [hc] at q; exact absurd q (by decide)) h1 h2 h3 hp (by omega) hX hM

set_option maxHeartbeats 1000000 in
theorem s_v42_1 (hN : 1000 ≤ N) {e : Nat} (hB : RB X M z k st dp cn tn vn fn θ) (hD : D1 X M tn vn θ) (h44 : X 44 4 = nI k) (h55 : M 65 55 = nI k) (hk1 : k + 1 ≤ st) (he : e < z) (m93 : M 93 k = nI (z - 1 - e)) (hf : FR (X 46 k) (M 95 k) cn) (m96 : M 96 k = X 8 e) (h1 : cn + phi 1 1 0 (X 47) k + 1 ≤ st) (h2 : tn + phi 1 1 0 (X 47) k + 1 ≤ st) (h3 : vn + phi 1 1 0 (X 47) k + 1 ≤ 2 * st) (m94 : M 94 k = 1) (s47 : X 47 k = 1) (hc : X 3 e = 42) (hvf : gV M θ tn vn (X 48 k) (M 97 k)) (hp : fn + phi 2 1 0 (X 47) k + 1 ≤ 2 * st + 1) (hμ : 10 * (400 - st) + phi 7 5 3 (X 47) k + 5 ≤ μ) (hX : FX X0 X) (hM : FM M0 M) : JJ X0 M0 z (μ - 1) (xv_tail N (nI e) (X 46 k) 42 X) (mv_tail N M) := by
  have hz : z ≤ 40 := hB.1.2.1
  have hb := hB.bds
  have a1 := hB.2.1.1
  have a16 := hB.2.1.2.2.2.2.2.2.2.2.2.2.2.2.2.2.2.1
  have a17 := hB.2.1.2.2.2.2.2.2.2.2.2.2.2.2.2.2.2.2.1
  obtain ⟨pe1, pe2, pe3⟩ := hB.1.2.2 e he
  have hck : (nI k).toNatClampNeg = k := nI_clamp (by omega)
  have hce : (nI (z - 1 - e)).toNatClampNeg = z - 1 - e := nI_clamp (by omega)
  have i67 : z - 1 - e < z_ln 67 := show z - 1 - e < 41 by omega
  have i68 : z - 1 - e < z_ln 68 := show z - 1 - e < 41 by omega
  have i69 : z - 1 - e < z_ln 69 := show z - 1 - e < 41 by omega
  have i71 : z - 1 - e < z_ln 71 := show z - 1 - e < 41 by omega
  have i93 : k < z_ln 93 := show k < 800 by omega
  have i94 : k < z_ln 94 := show k < 800 by omega
  have i95 : k < z_ln 95 := show k < 800 by omega
  have i96 : k < z_ln 96 := show k < 800 by omega
  have i97 : k < z_ln 97 := show k < 800 by omega
  have n1 : ¬ nI (z - 1 - e) = -1 := fun q => by have := nI_pos (n := z - 1 - e) (by omega); rw [q] at this; exact this (by decide)
  unfold xv_tail mv_tail
  rw [h55, q_gd (q_inl i93)]
  simp only [hck]
  rw [m93]
  simp only [hce]
  rw [if_neg n1, q_gd (q_inl i67), pe1, hc]
  rw [if_pos trivial]
  rw [if_neg (show ¬ (42 : Int32) = 64 by decide)]
  unfold b_X10_goesOn_81
  rw [q_gd (q_inl i67), hce, pe1, hc, m_first0 (show k < 800 by omega) (Or.inl m94), q_bd]
  rw [if_pos (show (0 : Int32) = 0 from rfl)]
  unfold f_X10_goesOnOf
  rw [q_gd (q_inl i67)]
  simp only [hce, hck]
  rw [pe1, hc, if_pos (show (42 : Int32) = 42 from rfl)]
  unfold b_X4_useValue_180 f_X4_useOneOfTwo b_X10_goesOnOf_140
  rw [x_wstg h44 (by omega), q_bd, s47, if_neg (show ¬ (1 : Int32) = 0 by decide), x_wfst h44 (by omega), q_bd, if_neg (show ¬ (42 : Int32) = 66 by decide), if_neg (show ¬ (42 : Int32) = 67 by decide), q_bvi, q_bvi, q_gd (q_inl i97), hck, q_bvi, q_bvi]
  exact v_reckon hB hvf hD.2.2.2.2 hD.2.2.1 hD.2.2.2.1 h3 hp (by omega) hX hM

set_option maxHeartbeats 1000000 in
theorem s_v43_1 (hN : 1000 ≤ N) {e : Nat} (hB : RB X M z k st dp cn tn vn fn θ) (hD : D1 X M tn vn θ) (h44 : X 44 4 = nI k) (h55 : M 65 55 = nI k) (hk1 : k + 1 ≤ st) (he : e < z) (m93 : M 93 k = nI (z - 1 - e)) (hf : FR (X 46 k) (M 95 k) cn) (m96 : M 96 k = X 8 e) (h1 : cn + phi 1 1 0 (X 47) k + 1 ≤ st) (h2 : tn + phi 1 1 0 (X 47) k + 1 ≤ st) (h3 : vn + phi 1 1 0 (X 47) k + 1 ≤ 2 * st) (m94 : M 94 k = 1) (s47 : X 47 k = 1) (hc : X 3 e = 43) (hvf : gV M θ tn vn (X 48 k) (M 97 k)) (hp : fn + phi 2 1 0 (X 47) k + 1 ≤ 2 * st + 1) (hμ : 10 * (400 - st) + phi 7 5 3 (X 47) k + 5 ≤ μ) (hX : FX X0 X) (hM : FM M0 M) : JJ X0 M0 z (μ - 1) (xv_tail N (nI e) (X 46 k) 43 X) (mv_tail N M) := by
  have hz : z ≤ 40 := hB.1.2.1
  have hb := hB.bds
  have a1 := hB.2.1.1
  have a16 := hB.2.1.2.2.2.2.2.2.2.2.2.2.2.2.2.2.2.1
  have a17 := hB.2.1.2.2.2.2.2.2.2.2.2.2.2.2.2.2.2.2.1
  obtain ⟨pe1, pe2, pe3⟩ := hB.1.2.2 e he
  have hck : (nI k).toNatClampNeg = k := nI_clamp (by omega)
  have hce : (nI (z - 1 - e)).toNatClampNeg = z - 1 - e := nI_clamp (by omega)
  have i67 : z - 1 - e < z_ln 67 := show z - 1 - e < 41 by omega
  have i68 : z - 1 - e < z_ln 68 := show z - 1 - e < 41 by omega
  have i69 : z - 1 - e < z_ln 69 := show z - 1 - e < 41 by omega
  have i71 : z - 1 - e < z_ln 71 := show z - 1 - e < 41 by omega
  have i93 : k < z_ln 93 := show k < 800 by omega
  have i94 : k < z_ln 94 := show k < 800 by omega
  have i95 : k < z_ln 95 := show k < 800 by omega
  have i96 : k < z_ln 96 := show k < 800 by omega
  have i97 : k < z_ln 97 := show k < 800 by omega
  have n1 : ¬ nI (z - 1 - e) = -1 := fun q => by have := nI_pos (n := z - 1 - e) (by omega); rw [q] at this; exact this (by decide)
  unfold xv_tail mv_tail
  rw [h55, q_gd (q_inl i93)]
  simp only [hck]
  rw [m93]
  simp only [hce]
  rw [if_neg n1, q_gd (q_inl i67), pe1, hc]
  rw [if_neg (show ¬ (43 : Int32) = 42 by decide), if_pos trivial]
  rw [if_neg (show ¬ (43 : Int32) = 64 by decide)]
  unfold b_X10_goesOn_81
  rw [q_gd (q_inl i67), hce, pe1, hc, m_first0 (show k < 800 by omega) (Or.inl m94), q_bd]
  rw [if_pos (show (0 : Int32) = 0 from rfl)]
  unfold f_X10_goesOnOf
  rw [q_gd (q_inl i67)]
  simp only [hce, hck]
  rw [pe1, hc, if_neg (show ¬ (43 : Int32) = 42 by decide), if_pos (show (43 : Int32) = 43 from rfl)]
  unfold b_X4_useValue_180 f_X4_useOneOfTwo b_X10_goesOnOf_140
  rw [x_wstg h44 (by omega), q_bd, s47, if_neg (show ¬ (1 : Int32) = 0 by decide), x_wfst h44 (by omega), q_bd, if_neg (show ¬ (43 : Int32) = 66 by decide), if_neg (show ¬ (43 : Int32) = 67 by decide), q_bvi, q_bvi, q_gd (q_inl i97), hck, q_bvi, q_bvi]
  exact v_reckon hB hvf hD.2.2.2.2 hD.2.2.1 hD.2.2.2.1 h3 hp (by omega) hX hM

set_option maxHeartbeats 1000000 in
theorem s_v45_1 (hN : 1000 ≤ N) {e : Nat} (hB : RB X M z k st dp cn tn vn fn θ) (hD : D1 X M tn vn θ) (h44 : X 44 4 = nI k) (h55 : M 65 55 = nI k) (hk1 : k + 1 ≤ st) (he : e < z) (m93 : M 93 k = nI (z - 1 - e)) (hf : FR (X 46 k) (M 95 k) cn) (m96 : M 96 k = X 8 e) (h1 : cn + phi 1 1 0 (X 47) k + 1 ≤ st) (h2 : tn + phi 1 1 0 (X 47) k + 1 ≤ st) (h3 : vn + phi 1 1 0 (X 47) k + 1 ≤ 2 * st) (m94 : M 94 k = 1) (s47 : X 47 k = 1) (hc : X 3 e = 45) (hvf : gV M θ tn vn (X 48 k) (M 97 k)) (hp : fn + phi 2 1 0 (X 47) k + 1 ≤ 2 * st + 1) (hμ : 10 * (400 - st) + phi 7 5 3 (X 47) k + 5 ≤ μ) (hX : FX X0 X) (hM : FM M0 M) : JJ X0 M0 z (μ - 1) (xv_tail N (nI e) (X 46 k) 45 X) (mv_tail N M) := by
  have hz : z ≤ 40 := hB.1.2.1
  have hb := hB.bds
  have a1 := hB.2.1.1
  have a16 := hB.2.1.2.2.2.2.2.2.2.2.2.2.2.2.2.2.2.1
  have a17 := hB.2.1.2.2.2.2.2.2.2.2.2.2.2.2.2.2.2.2.1
  obtain ⟨pe1, pe2, pe3⟩ := hB.1.2.2 e he
  have hck : (nI k).toNatClampNeg = k := nI_clamp (by omega)
  have hce : (nI (z - 1 - e)).toNatClampNeg = z - 1 - e := nI_clamp (by omega)
  have i67 : z - 1 - e < z_ln 67 := show z - 1 - e < 41 by omega
  have i68 : z - 1 - e < z_ln 68 := show z - 1 - e < 41 by omega
  have i69 : z - 1 - e < z_ln 69 := show z - 1 - e < 41 by omega
  have i71 : z - 1 - e < z_ln 71 := show z - 1 - e < 41 by omega
  have i93 : k < z_ln 93 := show k < 800 by omega
  have i94 : k < z_ln 94 := show k < 800 by omega
  have i95 : k < z_ln 95 := show k < 800 by omega
  have i96 : k < z_ln 96 := show k < 800 by omega
  have i97 : k < z_ln 97 := show k < 800 by omega
  have n1 : ¬ nI (z - 1 - e) = -1 := fun q => by have := nI_pos (n := z - 1 - e) (by omega); rw [q] at this; exact this (by decide)
  unfold xv_tail mv_tail
  rw [h55, q_gd (q_inl i93)]
  simp only [hck]
  rw [m93]
  simp only [hce]
  rw [if_neg n1, q_gd (q_inl i67), pe1, hc]
  rw [if_neg (show ¬ (45 : Int32) = 42 by decide), if_neg (show ¬ (45 : Int32) = 43 by decide), if_neg (show ¬ (45 : Int32) = 44 by decide), if_pos trivial]
  rw [if_neg (show ¬ (45 : Int32) = 64 by decide)]
  unfold b_X10_goesOn_81
  rw [q_gd (q_inl i67), hce, pe1, hc, m_first0 (show k < 800 by omega) (Or.inl m94), q_bd]
  rw [if_pos (show (0 : Int32) = 0 from rfl)]
  unfold f_X10_goesOnOf
  rw [q_gd (q_inl i67)]
  simp only [hce, hck]
  rw [pe1, hc, if_neg (show ¬ (45 : Int32) = 42 by decide), if_neg (show ¬ (45 : Int32) = 43 by decide), if_neg (show ¬ (45 : Int32) = 44 by decide), if_pos (show (45 : Int32) = 45 from rfl)]
  unfold b_X4_useValue_180 f_X4_useOneOfTwo b_X10_goesOnOf_140
  rw [x_wstg h44 (by omega), q_bd, s47, if_neg (show ¬ (1 : Int32) = 0 by decide), x_wfst h44 (by omega), q_bd, if_neg (show ¬ (45 : Int32) = 66 by decide), if_neg (show ¬ (45 : Int32) = 67 by decide), q_bvi, q_bvi, q_gd (q_inl i97), hck, q_bvi, q_bvi]
  exact v_reckon hB hvf hD.2.2.2.2 hD.2.2.1 hD.2.2.2.1 h3 hp (by omega) hX hM

set_option maxHeartbeats 1000000 in
theorem s_v66_1 (hN : 1000 ≤ N) {e : Nat} (hB : RB X M z k st dp cn tn vn fn θ) (hD : D1 X M tn vn θ) (h44 : X 44 4 = nI k) (h55 : M 65 55 = nI k) (hk1 : k + 1 ≤ st) (he : e < z) (m93 : M 93 k = nI (z - 1 - e)) (hf : FR (X 46 k) (M 95 k) cn) (m96 : M 96 k = X 8 e) (h1 : cn + phi 1 1 0 (X 47) k + 1 ≤ st) (h2 : tn + phi 1 1 0 (X 47) k + 1 ≤ st) (h3 : vn + phi 1 1 0 (X 47) k + 1 ≤ 2 * st) (m94 : M 94 k = 1) (s47 : X 47 k = 1) (hc : X 3 e = 66) (hvf : gV M θ tn vn (X 48 k) (M 97 k)) (hp : fn + phi 2 1 0 (X 47) k + 1 ≤ 2 * st + 1) (hμ : 10 * (400 - st) + phi 7 5 3 (X 47) k + 5 ≤ μ) (hX : FX X0 X) (hM : FM M0 M) : JJ X0 M0 z (μ - 1) (xv_tail N (nI e) (X 46 k) 66 X) (mv_tail N M) := by
  have hz : z ≤ 40 := hB.1.2.1
  have hb := hB.bds
  have a1 := hB.2.1.1
  have a16 := hB.2.1.2.2.2.2.2.2.2.2.2.2.2.2.2.2.2.1
  have a17 := hB.2.1.2.2.2.2.2.2.2.2.2.2.2.2.2.2.2.2.1
  obtain ⟨pe1, pe2, pe3⟩ := hB.1.2.2 e he
  have hck : (nI k).toNatClampNeg = k := nI_clamp (by omega)
  have hce : (nI (z - 1 - e)).toNatClampNeg = z - 1 - e := nI_clamp (by omega)
  have i67 : z - 1 - e < z_ln 67 := show z - 1 - e < 41 by omega
  have i68 : z - 1 - e < z_ln 68 := show z - 1 - e < 41 by omega
  have i69 : z - 1 - e < z_ln 69 := show z - 1 - e < 41 by omega
  have i71 : z - 1 - e < z_ln 71 := show z - 1 - e < 41 by omega
  have i93 : k < z_ln 93 := show k < 800 by omega
  have i94 : k < z_ln 94 := show k < 800 by omega
  have i95 : k < z_ln 95 := show k < 800 by omega
  have i96 : k < z_ln 96 := show k < 800 by omega
  have i97 : k < z_ln 97 := show k < 800 by omega
  have n1 : ¬ nI (z - 1 - e) = -1 := fun q => by have := nI_pos (n := z - 1 - e) (by omega); rw [q] at this; exact this (by decide)
  unfold xv_tail mv_tail
  rw [h55, q_gd (q_inl i93)]
  simp only [hck]
  rw [m93]
  simp only [hce]
  rw [if_neg n1, q_gd (q_inl i67), pe1, hc]
  rw [if_neg (show ¬ (66 : Int32) = 42 by decide), if_neg (show ¬ (66 : Int32) = 43 by decide), if_neg (show ¬ (66 : Int32) = 44 by decide), if_neg (show ¬ (66 : Int32) = 45 by decide), if_neg (show ¬ (66 : Int32) = 63 by decide), if_neg (show ¬ (66 : Int32) = 64 by decide), if_pos trivial]
  rw [if_neg (show ¬ (66 : Int32) = 64 by decide)]
  unfold b_X10_goesOn_81
  rw [q_gd (q_inl i67), hce, pe1, hc, m_first0 (show k < 800 by omega) (Or.inl m94), q_bd]
  rw [if_pos (show (0 : Int32) = 0 from rfl)]
  unfold f_X10_goesOnOf
  rw [q_gd (q_inl i67)]
  simp only [hce, hck]
  rw [pe1, hc, if_neg (show ¬ (66 : Int32) = 42 by decide), if_neg (show ¬ (66 : Int32) = 43 by decide), if_neg (show ¬ (66 : Int32) = 44 by decide), if_neg (show ¬ (66 : Int32) = 45 by decide), if_neg (show ¬ (66 : Int32) = 63 by decide), if_neg (show ¬ (66 : Int32) = 64 by decide), if_pos (show (66 : Int32) = 66 from rfl)]
  unfold b_X4_useValue_180 f_X4_useOneOfTwo
  rw [x_wstg h44 (by omega), q_bd, s47, if_neg (show ¬ (1 : Int32) = 0 by decide), x_wfst h44 (by omega), q_bd, if_pos (show (66 : Int32) = 66 from rfl), x_tadd a16 (by omega), q_bd, q_bvi, q_bvi, q_gd (q_inl i97), m_valueOf a17 (by omega), q_bd, q_bvi, q_bvi]
  obtain ⟨θ', hB2, hv⟩ := hB.thing (k := 2) (a := X 48 k) (b := X 29 10) (m1 := 2) (m2 := 2) (m3 := M 97 k) (m4 := M 65 60) h2 h3 (Or.inr ⟨rfl, rfl, Or.inr (Or.inr (Or.inl ⟨rfl, hvf, hD.2.2.2.2⟩))⟩)
  exact j_give hB2 hv hD.2.2.1 hD.2.2.2.1 (by show fn + phi 2 1 0 (X 47) k ≤ _; omega) (by show 10 * (400 - st) + phi 7 5 3 (X 47) k ≤ _; omega) ((((hX.wr (by omega) (by omega)).wr (by omega) (by omega)).wr (by omega) (by omega)).wr (by omega) (by omega)) (((((hM.wr (by omega)).wr (by omega)).wr (by omega)).wr (by omega)).wf (by omega))

set_option maxHeartbeats 1000000 in
theorem s_v67_1 (hN : 1000 ≤ N) {e : Nat} (hB : RB X M z k st dp cn tn vn fn θ) (hD : D1 X M tn vn θ) (h44 : X 44 4 = nI k) (h55 : M 65 55 = nI k) (hk1 : k + 1 ≤ st) (he : e < z) (m93 : M 93 k = nI (z - 1 - e)) (hf : FR (X 46 k) (M 95 k) cn) (m96 : M 96 k = X 8 e) (h1 : cn + phi 1 1 0 (X 47) k + 1 ≤ st) (h2 : tn + phi 1 1 0 (X 47) k + 1 ≤ st) (h3 : vn + phi 1 1 0 (X 47) k + 1 ≤ 2 * st) (m94 : M 94 k = 1) (s47 : X 47 k = 1) (hc : X 3 e = 67) (hvf : gV M θ tn vn (X 48 k) (M 97 k)) (hp : fn + phi 2 1 0 (X 47) k + 1 ≤ 2 * st + 1) (hμ : 10 * (400 - st) + phi 7 5 3 (X 47) k + 5 ≤ μ) (hX : FX X0 X) (hM : FM M0 M) : JJ X0 M0 z (μ - 1) (xv_tail N (nI e) (X 46 k) 67 X) (mv_tail N M) := by
  have hz : z ≤ 40 := hB.1.2.1
  have hb := hB.bds
  have a1 := hB.2.1.1
  have a16 := hB.2.1.2.2.2.2.2.2.2.2.2.2.2.2.2.2.2.1
  have a17 := hB.2.1.2.2.2.2.2.2.2.2.2.2.2.2.2.2.2.2.1
  obtain ⟨pe1, pe2, pe3⟩ := hB.1.2.2 e he
  have hck : (nI k).toNatClampNeg = k := nI_clamp (by omega)
  have hce : (nI (z - 1 - e)).toNatClampNeg = z - 1 - e := nI_clamp (by omega)
  have i67 : z - 1 - e < z_ln 67 := show z - 1 - e < 41 by omega
  have i68 : z - 1 - e < z_ln 68 := show z - 1 - e < 41 by omega
  have i69 : z - 1 - e < z_ln 69 := show z - 1 - e < 41 by omega
  have i71 : z - 1 - e < z_ln 71 := show z - 1 - e < 41 by omega
  have i93 : k < z_ln 93 := show k < 800 by omega
  have i94 : k < z_ln 94 := show k < 800 by omega
  have i95 : k < z_ln 95 := show k < 800 by omega
  have i96 : k < z_ln 96 := show k < 800 by omega
  have i97 : k < z_ln 97 := show k < 800 by omega
  have n1 : ¬ nI (z - 1 - e) = -1 := fun q => by have := nI_pos (n := z - 1 - e) (by omega); rw [q] at this; exact this (by decide)
  unfold xv_tail mv_tail
  rw [h55, q_gd (q_inl i93)]
  simp only [hck]
  rw [m93]
  simp only [hce]
  rw [if_neg n1, q_gd (q_inl i67), pe1, hc]
  rw [if_neg (show ¬ (67 : Int32) = 42 by decide), if_neg (show ¬ (67 : Int32) = 43 by decide), if_neg (show ¬ (67 : Int32) = 44 by decide), if_neg (show ¬ (67 : Int32) = 45 by decide), if_neg (show ¬ (67 : Int32) = 63 by decide), if_neg (show ¬ (67 : Int32) = 64 by decide), if_neg (show ¬ (67 : Int32) = 66 by decide), if_pos trivial]
  rw [if_neg (show ¬ (67 : Int32) = 64 by decide)]
  unfold b_X10_goesOn_81
  rw [q_gd (q_inl i67), hce, pe1, hc, m_first0 (show k < 800 by omega) (Or.inl m94), q_bd]
  rw [if_pos (show (0 : Int32) = 0 from rfl)]
  unfold f_X10_goesOnOf
  rw [q_gd (q_inl i67)]
  simp only [hce, hck]
  rw [pe1, hc, if_neg (show ¬ (67 : Int32) = 42 by decide), if_neg (show ¬ (67 : Int32) = 43 by decide), if_neg (show ¬ (67 : Int32) = 44 by decide), if_neg (show ¬ (67 : Int32) = 45 by decide), if_neg (show ¬ (67 : Int32) = 63 by decide), if_neg (show ¬ (67 : Int32) = 64 by decide), if_neg (show ¬ (67 : Int32) = 66 by decide), if_pos (show (67 : Int32) = 67 from rfl)]
  unfold b_X4_useValue_180 f_X4_useOneOfTwo
  rw [x_wstg h44 (by omega), q_bd, s47, if_neg (show ¬ (1 : Int32) = 0 by decide), x_wfst h44 (by omega), q_bd, if_neg (show ¬ (67 : Int32) = 66 by decide), if_pos (show (67 : Int32) = 67 from rfl), x_tadd a16 (by omega), q_bd, q_bvi, q_bvi, q_gd (q_inl i97), m_valueOf a17 (by omega), q_bd, q_bvi, q_bvi]
  obtain ⟨θ', hB2, hv⟩ := hB.thing (k := 3) (a := X 29 10) (b := X 48 k) (m1 := 2) (m2 := 3) (m3 := M 97 k) (m4 := M 65 60) h2 h3 (Or.inr ⟨rfl, rfl, Or.inr (Or.inr (Or.inr ⟨rfl, hvf, hD.2.2.2.2⟩))⟩)
  exact j_give hB2 hv hD.2.2.1 hD.2.2.2.1 (by show fn + phi 2 1 0 (X 47) k ≤ _; omega) (by show 10 * (400 - st) + phi 7 5 3 (X 47) k ≤ _; omega) ((((hX.wr (by omega) (by omega)).wr (by omega) (by omega)).wr (by omega) (by omega)).wr (by omega) (by omega)) (((((hM.wr (by omega)).wr (by omega)).wr (by omega)).wr (by omega)).wf (by omega))

set_option maxHeartbeats 1000000 in
theorem s_v44 (hN : 1000 ≤ N) {e : Nat} (hB : RB X M z k st dp cn tn vn fn θ) (hD : D1 X M tn vn θ) (h44 : X 44 4 = nI k) (h55 : M 65 55 = nI k) (hk1 : k + 1 ≤ st) (he : e < z) (m93 : M 93 k = nI (z - 1 - e)) (hf : FR (X 46 k) (M 95 k) cn) (m96 : M 96 k = X 8 e) (h1 : cn + phi 1 1 0 (X 47) k + 1 ≤ st) (h2 : tn + phi 1 1 0 (X 47) k + 1 ≤ st) (h3 : vn + phi 1 1 0 (X 47) k + 1 ≤ 2 * st) (m94 : M 94 k = 0) (s47 : X 47 k = 0) (hc : X 3 e = 44)  (hp : fn + phi 2 1 0 (X 47) k + 2 ≤ 2 * st + 1) (hμ : 10 * (400 - st) + phi 7 5 3 (X 47) k + 7 ≤ μ) (hX : FX X0 X) (hM : FM M0 M) : JJ X0 M0 z (μ - 1) (xv_tail N (nI e) (X 46 k) 44 X) (mv_tail N M) := by
  have hz : z ≤ 40 := hB.1.2.1
  have hb := hB.bds
  have a1 := hB.2.1.1
  have a16 := hB.2.1.2.2.2.2.2.2.2.2.2.2.2.2.2.2.2.1
  have a17 := hB.2.1.2.2.2.2.2.2.2.2.2.2.2.2.2.2.2.2.1
  obtain ⟨pe1, pe2, pe3⟩ := hB.1.2.2 e he
  have hck : (nI k).toNatClampNeg = k := nI_clamp (by omega)
  have hce : (nI (z - 1 - e)).toNatClampNeg = z - 1 - e := nI_clamp (by omega)
  have i67 : z - 1 - e < z_ln 67 := show z - 1 - e < 41 by omega
  have i68 : z - 1 - e < z_ln 68 := show z - 1 - e < 41 by omega
  have i69 : z - 1 - e < z_ln 69 := show z - 1 - e < 41 by omega
  have i71 : z - 1 - e < z_ln 71 := show z - 1 - e < 41 by omega
  have i93 : k < z_ln 93 := show k < 800 by omega
  have i94 : k < z_ln 94 := show k < 800 by omega
  have i95 : k < z_ln 95 := show k < 800 by omega
  have i96 : k < z_ln 96 := show k < 800 by omega
  have i97 : k < z_ln 97 := show k < 800 by omega
  have n1 : ¬ nI (z - 1 - e) = -1 := fun q => by have := nI_pos (n := z - 1 - e) (by omega); rw [q] at this; exact this (by decide)
  unfold xv_tail mv_tail
  rw [h55, q_gd (q_inl i93)]
  simp only [hck]
  rw [m93]
  simp only [hce]
  rw [if_neg n1, q_gd (q_inl i67), pe1, hc]
  rcases pe3 with q | ⟨q, -⟩ | ⟨pO, p1, p2, p3, p4, p5, p6, p7⟩
  · rw [hc] at q; exact absurd q (by decide)
  · rw [hc] at q; exact absurd q (by decide)
  rw [if_neg (show ¬ (44 : Int32) = 42 by decide), if_neg (show ¬ (44 : Int32) = 43 by decide), if_pos trivial]
  rw [if_neg (show ¬ (44 : Int32) = 64 by decide)]
  unfold b_X10_goesOn_81
  rw [q_gd (q_inl i67), hce, pe1, hc, m_first0 (show k < 800 by omega) (Or.inr (by decide)), q_bd]
  rw [if_pos (show (0 : Int32) = 0 from rfl)]
  unfold f_X10_goesOnOf
  rw [q_gd (q_inl i67)]
  simp only [hce, hck]
  rw [pe1, hc, if_neg (show ¬ (44 : Int32) = 42 by decide), if_neg (show ¬ (44 : Int32) = 43 by decide), if_pos (show (44 : Int32) = 44 from rfl)]
  obtain ⟨s, s1, s2, s3, s4⟩ := p4 (by rw [hc]; decide)
  rw [x_pr a1, x_seco (by omega), q_bd, q_bvi, q_gd (q_inl i69), q_gd (q_inl i95), q_gd (q_inl i96), q_bvi, q_bvi, s2, s3]
  refine j_begin hB s1 hf hD.2.2.1 hD.2.2.2.1 ?_ (by omega) (by omega) hX hM
  rw [m96, s4, if_pos (by rw [hc]; decide)]

set_option maxHeartbeats 1000000 in
theorem s_v63 (hN : 1000 ≤ N) {e : Nat} (hB : RB X M z k st dp cn tn vn fn θ) (hD : D1 X M tn vn θ) (h44 : X 44 4 = nI k) (h55 : M 65 55 = nI k) (hk1 : k + 1 ≤ st) (he : e < z) (m93 : M 93 k = nI (z - 1 - e)) (hf : FR (X 46 k) (M 95 k) cn) (m96 : M 96 k = X 8 e) (h1 : cn + phi 1 1 0 (X 47) k + 1 ≤ st) (h2 : tn + phi 1 1 0 (X 47) k + 1 ≤ st) (h3 : vn + phi 1 1 0 (X 47) k + 1 ≤ 2 * st) (m94 : M 94 k = 0) (s47 : X 47 k = 0) (hc : X 3 e = 63)  (hp : fn + phi 2 1 0 (X 47) k + 2 ≤ 2 * st + 1) (hμ : 10 * (400 - st) + phi 7 5 3 (X 47) k + 7 ≤ μ) (hX : FX X0 X) (hM : FM M0 M) : JJ X0 M0 z (μ - 1) (xv_tail N (nI e) (X 46 k) 63 X) (mv_tail N M) := by
  have hz : z ≤ 40 := hB.1.2.1
  have hb := hB.bds
  have a1 := hB.2.1.1
  have a16 := hB.2.1.2.2.2.2.2.2.2.2.2.2.2.2.2.2.2.1
  have a17 := hB.2.1.2.2.2.2.2.2.2.2.2.2.2.2.2.2.2.2.1
  obtain ⟨pe1, pe2, pe3⟩ := hB.1.2.2 e he
  have hck : (nI k).toNatClampNeg = k := nI_clamp (by omega)
  have hce : (nI (z - 1 - e)).toNatClampNeg = z - 1 - e := nI_clamp (by omega)
  have i67 : z - 1 - e < z_ln 67 := show z - 1 - e < 41 by omega
  have i68 : z - 1 - e < z_ln 68 := show z - 1 - e < 41 by omega
  have i69 : z - 1 - e < z_ln 69 := show z - 1 - e < 41 by omega
  have i71 : z - 1 - e < z_ln 71 := show z - 1 - e < 41 by omega
  have i93 : k < z_ln 93 := show k < 800 by omega
  have i94 : k < z_ln 94 := show k < 800 by omega
  have i95 : k < z_ln 95 := show k < 800 by omega
  have i96 : k < z_ln 96 := show k < 800 by omega
  have i97 : k < z_ln 97 := show k < 800 by omega
  have n1 : ¬ nI (z - 1 - e) = -1 := fun q => by have := nI_pos (n := z - 1 - e) (by omega); rw [q] at this; exact this (by decide)
  unfold xv_tail mv_tail
  rw [h55, q_gd (q_inl i93)]
  simp only [hck]
  rw [m93]
  simp only [hce]
  rw [if_neg n1, q_gd (q_inl i67), pe1, hc]
  rw [if_neg (show ¬ (63 : Int32) = 42 by decide), if_neg (show ¬ (63 : Int32) = 43 by decide), if_neg (show ¬ (63 : Int32) = 44 by decide), if_neg (show ¬ (63 : Int32) = 45 by decide), if_pos trivial]
  rw [if_neg (show ¬ (63 : Int32) = 64 by decide)]
  unfold b_X10_goesOn_81
  rw [q_gd (q_inl i67), hce, pe1, hc, m_first0 (show k < 800 by omega) (Or.inr (by decide)), q_bd]
  rw [if_pos (show (0 : Int32) = 0 from rfl)]
  unfold f_X10_goesOnOf
  rw [q_gd (q_inl i67)]
  simp only [hce, hck]
  rw [pe1, hc, if_neg (show ¬ (63 : Int32) = 42 by decide), if_neg (show ¬ (63 : Int32) = 43 by decide), if_neg (show ¬ (63 : Int32) = 44 by decide), if_neg (show ¬ (63 : Int32) = 45 by decide), if_pos (show (63 : Int32) = 63 from rfl)]
  rw [q_bvi, q_bvi, q_bvi]
  exact v_choose hB hD (by omega) he hc hf m96 (by omega) (by omega) hX hM

set_option maxHeartbeats 1000000 in
theorem s_v64_0 (hN : 1000 ≤ N) {e : Nat} (hB : RB X M z k st dp cn tn vn fn θ) (hD : D1 X M tn vn θ) (h44 : X 44 4 = nI k) (h55 : M 65 55 = nI k) (hk1 : k + 1 ≤ st) (he : e < z) (m93 : M 93 k = nI (z - 1 - e)) (hf : FR (X 46 k) (M 95 k) cn) (m96 : M 96 k = X 8 e) (h1 : cn + phi 1 1 0 (X 47) k + 1 ≤ st) (h2 : tn + phi 1 1 0 (X 47) k + 1 ≤ st) (h3 : vn + phi 1 1 0 (X 47) k + 1 ≤ 2 * st) (m94 : M 94 k = 0) (s47 : X 47 k = 0) (hc : X 3 e = 64)  (hp : fn + phi 2 1 0 (X 47) k + 2 ≤ 2 * st + 1) (hμ : 10 * (400 - st) + phi 7 5 3 (X 47) k + 7 ≤ μ) (hX : FX X0 X) (hM : FM M0 M) : JJ X0 M0 z (μ - 1) (xv_tail N (nI e) (X 46 k) 64 X) (mv_tail N M) := by
  have hz : z ≤ 40 := hB.1.2.1
  have hb := hB.bds
  have a1 := hB.2.1.1
  have a16 := hB.2.1.2.2.2.2.2.2.2.2.2.2.2.2.2.2.2.1
  have a17 := hB.2.1.2.2.2.2.2.2.2.2.2.2.2.2.2.2.2.2.1
  obtain ⟨pe1, pe2, pe3⟩ := hB.1.2.2 e he
  have hck : (nI k).toNatClampNeg = k := nI_clamp (by omega)
  have hce : (nI (z - 1 - e)).toNatClampNeg = z - 1 - e := nI_clamp (by omega)
  have i67 : z - 1 - e < z_ln 67 := show z - 1 - e < 41 by omega
  have i68 : z - 1 - e < z_ln 68 := show z - 1 - e < 41 by omega
  have i69 : z - 1 - e < z_ln 69 := show z - 1 - e < 41 by omega
  have i71 : z - 1 - e < z_ln 71 := show z - 1 - e < 41 by omega
  have i93 : k < z_ln 93 := show k < 800 by omega
  have i94 : k < z_ln 94 := show k < 800 by omega
  have i95 : k < z_ln 95 := show k < 800 by omega
  have i96 : k < z_ln 96 := show k < 800 by omega
  have i97 : k < z_ln 97 := show k < 800 by omega
  have n1 : ¬ nI (z - 1 - e) = -1 := fun q => by have := nI_pos (n := z - 1 - e) (by omega); rw [q] at this; exact this (by decide)
  unfold xv_tail mv_tail
  rw [h55, q_gd (q_inl i93)]
  simp only [hck]
  rw [m93]
  simp only [hce]
  rw [if_neg n1, q_gd (q_inl i67), pe1, hc]
  rw [if_neg (show ¬ (64 : Int32) = 42 by decide), if_neg (show ¬ (64 : Int32) = 43 by decide), if_neg (show ¬ (64 : Int32) = 44 by decide), if_neg (show ¬ (64 : Int32) = 45 by decide), if_neg (show ¬ (64 : Int32) = 63 by decide), if_pos trivial]
  rw [x_wstg h44 (by omega), q_bd, s47, if_neg (show ¬ (0 : Int32) = 1 by decide), q_bvi, if_pos (show (64 : Int32) = 64 from rfl), q_gd (q_inl i94), if_pos m94]
  unfold f_X4_useForCall
  rw [x_wstg h44 (by omega), q_bd, s47, if_neg (show ¬ (0 : Int32) = 2 by decide)]
  obtain ⟨j, hj, ej, hvv⟩ := hB.val hD.2.2.2.2
  have hcj : (nI j).toNatClampNeg = j := nI_clamp (by omega)
  rw [ej, q_gd (q_inl (show j < 2000 by omega)), hcj]
  have bad : JJ X0 M0 z (μ - 1) (z_bv (f_X4_fail N 2 X) fun S16 => some S16) (z_bv (f_X10_fails N 2 M) fun S10 => some S10) := by
    rw [q_bvi, q_bvi]
    exact j_fail (by decide) hB (by omega) (by omega) hX hM
  rcases hvv with ⟨k1, k2, k3⟩ | ⟨t, t1, t2, ejt, g⟩
  · rw [x_funcN k3, q_bd, if_pos rfl, if_neg (by rw [k1]; decide)]
    exact bad
  · rcases g with ⟨g1, g2⟩ | ⟨g1, g2, g3⟩
    · rw [t2, x_func1 (by omega) g1, q_bd, if_neg (show ¬ (1 : Int32) = 0 by decide), if_pos g2]
      unfold b_X10_goesOn_81
      rw [q_gd (q_inl i67), hce, pe1, hc, m_first1 (show k < 800 by omega) m94 (by decide), q_bd, if_neg (show ¬ (1 : Int32) = 0 by decide), q_bvi]
      exact v_first (c3 := 0) hB hD hk1 he (by rw [hc]; decide) m93 hf m96 (fun _ => ⟨t, t1, t2, g1⟩) h1 h2 h3 hp (by omega) hX hM
    · rw [t2, x_func0 (by omega) g3, q_bd, if_pos rfl, if_neg (by rw [g1]; decide)]
      exact bad

set_option maxHeartbeats 1000000 in
theorem s_v64_1 (hN : 1000 ≤ N) {e : Nat} (hB : RB X M z k st dp cn tn vn fn θ) (hD : D1 X M tn vn θ) (h44 : X 44 4 = nI k) (h55 : M 65 55 = nI k) (hk1 : k + 1 ≤ st) (he : e < z) (m93 : M 93 k = nI (z - 1 - e)) (hf : FR (X 46 k) (M 95 k) cn) (m96 : M 96 k = X 8 e) (h1 : cn + phi 1 1 0 (X 47) k + 1 ≤ st) (h2 : tn + phi 1 1 0 (X 47) k + 1 ≤ st) (h3 : vn + phi 1 1 0 (X 47) k + 1 ≤ 2 * st) (m94 : M 94 k = 1) (s47 : X 47 k = 1) (hc : X 3 e = 64) (hvf : gV M θ tn vn (X 48 k) (M 97 k)) (hvt : ∃ t, t < tn ∧ X 48 k = nI (10000 + t) ∧ X 41 t = 4) (hp : fn + phi 2 1 0 (X 47) k + 1 ≤ 2 * st + 1) (hμ : 10 * (400 - st) + phi 7 5 3 (X 47) k + 5 ≤ μ) (hX : FX X0 X) (hM : FM M0 M) : JJ X0 M0 z (μ - 1) (xv_tail N (nI e) (X 46 k) 64 X) (mv_tail N M) := by
  have hz : z ≤ 40 := hB.1.2.1
  have hb := hB.bds
  have a1 := hB.2.1.1
  have a16 := hB.2.1.2.2.2.2.2.2.2.2.2.2.2.2.2.2.2.1
  have a17 := hB.2.1.2.2.2.2.2.2.2.2.2.2.2.2.2.2.2.2.1
  obtain ⟨pe1, pe2, pe3⟩ := hB.1.2.2 e he
  have hck : (nI k).toNatClampNeg = k := nI_clamp (by omega)
  have hce : (nI (z - 1 - e)).toNatClampNeg = z - 1 - e := nI_clamp (by omega)
  have i67 : z - 1 - e < z_ln 67 := show z - 1 - e < 41 by omega
  have i68 : z - 1 - e < z_ln 68 := show z - 1 - e < 41 by omega
  have i69 : z - 1 - e < z_ln 69 := show z - 1 - e < 41 by omega
  have i71 : z - 1 - e < z_ln 71 := show z - 1 - e < 41 by omega
  have i93 : k < z_ln 93 := show k < 800 by omega
  have i94 : k < z_ln 94 := show k < 800 by omega
  have i95 : k < z_ln 95 := show k < 800 by omega
  have i96 : k < z_ln 96 := show k < 800 by omega
  have i97 : k < z_ln 97 := show k < 800 by omega
  have n1 : ¬ nI (z - 1 - e) = -1 := fun q => by have := nI_pos (n := z - 1 - e) (by omega); rw [q] at this; exact this (by decide)
  unfold xv_tail mv_tail
  rw [h55, q_gd (q_inl i93)]
  simp only [hck]
  rw [m93]
  simp only [hce]
  rw [if_neg n1, q_gd (q_inl i67), pe1, hc]
  rw [if_neg (show ¬ (64 : Int32) = 42 by decide), if_neg (show ¬ (64 : Int32) = 43 by decide), if_neg (show ¬ (64 : Int32) = 44 by decide), if_neg (show ¬ (64 : Int32) = 45 by decide), if_neg (show ¬ (64 : Int32) = 63 by decide), if_pos trivial]
  rw [x_wstg h44 (by omega), q_bd, s47, if_pos (show (1 : Int32) = 1 from rfl), x_wfst h44 (by omega), q_bd, q_bvi, if_pos (show (64 : Int32) = 64 from rfl), q_gd (q_inl i94), if_neg (by rw [m94]; decide)]
  unfold b_X10_goesOn_81
  rw [q_gd (q_inl i67), hce, pe1, hc, m_first0 (show k < 800 by omega) (Or.inl m94), q_bd]
  rw [if_pos (show (0 : Int32) = 0 from rfl)]
  unfold f_X10_goesOnOf
  rw [q_gd (q_inl i67)]
  simp only [hce, hck]
  rw [pe1, hc, if_neg (show ¬ (64 : Int32) = 42 by decide), if_neg (show ¬ (64 : Int32) = 43 by decide), if_neg (show ¬ (64 : Int32) = 44 by decide), if_neg (show ¬ (64 : Int32) = 45 by decide), if_neg (show ¬ (64 : Int32) = 63 by decide), if_pos (show (64 : Int32) = 64 from rfl)]
  rw [q_gd (q_inl i97), q_gd (q_inl i96), q_bvi, q_bvi, m96]
  obtain ⟨t, t1, t2, t3⟩ := hvt
  obtain ⟨j, hj, ej, hvv⟩ := hB.val hvf
  rcases hvv with ⟨q1, q2, q3⟩ | ⟨t', t1', t2', ejt, -⟩
  · rw [t2] at q3
    exact absurd q3.2 (by show ¬ nI (10000 + t) ≤ nI 9999; exact nI_ge (by omega) (by omega))
  · have ett : t' = t := by
      have := (nI_eq (a := 10000 + t') (b := 10000 + t) (by omega) (by omega)).mp (t2'.symm.trans t2)
      omega
    subst ett
    rw [ej, ejt, t2]
    exact v_call hB he hc hk1 t1 t3 hD.2.2.2.2 hD.2.2.1 hD.2.2.2.1 h1 (by omega) (by omega) hX hM

set_option maxHeartbeats 1000000 in
theorem s_v76 (hN : 1000 ≤ N) {e : Nat} (hB : RB X M z k st dp cn tn vn fn θ) (hD : D1 X M tn vn θ) (h44 : X 44 4 = nI k) (h55 : M 65 55 = nI k) (hk1 : k + 1 ≤ st) (he : e < z) (m93 : M 93 k = nI (z - 1 - e)) (hf : FR (X 46 k) (M 95 k) cn) (m96 : M 96 k = X 8 e) (h1 : cn + phi 1 1 0 (X 47) k + 1 ≤ st) (h2 : tn + phi 1 1 0 (X 47) k + 1 ≤ st) (h3 : vn + phi 1 1 0 (X 47) k + 1 ≤ 2 * st) (m94 : M 94 k = 0) (s47 : X 47 k = 0) (hc : X 3 e = 76)  (hp : fn + phi 2 1 0 (X 47) k + 2 ≤ 2 * st + 1) (hμ : 10 * (400 - st) + phi 7 5 3 (X 47) k + 7 ≤ μ) (hX : FX X0 X) (hM : FM M0 M) : JJ X0 M0 z (μ - 1) (xv_tail N (nI e) (X 46 k) 76 X) (mv_tail N M) := by
  have hz : z ≤ 40 := hB.1.2.1
  have hb := hB.bds
  have a1 := hB.2.1.1
  have a16 := hB.2.1.2.2.2.2.2.2.2.2.2.2.2.2.2.2.2.1
  have a17 := hB.2.1.2.2.2.2.2.2.2.2.2.2.2.2.2.2.2.2.1
  obtain ⟨pe1, pe2, pe3⟩ := hB.1.2.2 e he
  have hck : (nI k).toNatClampNeg = k := nI_clamp (by omega)
  have hce : (nI (z - 1 - e)).toNatClampNeg = z - 1 - e := nI_clamp (by omega)
  have i67 : z - 1 - e < z_ln 67 := show z - 1 - e < 41 by omega
  have i68 : z - 1 - e < z_ln 68 := show z - 1 - e < 41 by omega
  have i69 : z - 1 - e < z_ln 69 := show z - 1 - e < 41 by omega
  have i71 : z - 1 - e < z_ln 71 := show z - 1 - e < 41 by omega
  have i93 : k < z_ln 93 := show k < 800 by omega
  have i94 : k < z_ln 94 := show k < 800 by omega
  have i95 : k < z_ln 95 := show k < 800 by omega
  have i96 : k < z_ln 96 := show k < 800 by omega
  have i97 : k < z_ln 97 := show k < 800 by omega
  have n1 : ¬ nI (z - 1 - e) = -1 := fun q => by have := nI_pos (n := z - 1 - e) (by omega); rw [q] at this; exact this (by decide)
  unfold xv_tail mv_tail
  rw [h55, q_gd (q_inl i93)]
  simp only [hck]
  rw [m93]
  simp only [hce]
  rw [if_neg n1, q_gd (q_inl i67), pe1, hc]
  rw [if_neg (show ¬ (76 : Int32) = 42 by decide), if_neg (show ¬ (76 : Int32) = 43 by decide), if_neg (show ¬ (76 : Int32) = 44 by decide), if_neg (show ¬ (76 : Int32) = 45 by decide), if_neg (show ¬ (76 : Int32) = 63 by decide), if_neg (show ¬ (76 : Int32) = 64 by decide), if_neg (show ¬ (76 : Int32) = 66 by decide), if_neg (show ¬ (76 : Int32) = 67 by decide), if_pos trivial]
  rw [if_neg (show ¬ (76 : Int32) = 64 by decide)]
  unfold b_X10_goesOn_81
  rw [q_gd (q_inl i67), hce, pe1, hc, m_first0 (show k < 800 by omega) (Or.inr (by decide)), q_bd]
  rw [if_pos (show (0 : Int32) = 0 from rfl)]
  unfold f_X10_goesOnOf
  rw [q_gd (q_inl i67)]
  simp only [hce, hck]
  rw [pe1, hc, if_neg (show ¬ (76 : Int32) = 42 by decide), if_neg (show ¬ (76 : Int32) = 43 by decide), if_neg (show ¬ (76 : Int32) = 44 by decide), if_neg (show ¬ (76 : Int32) = 45 by decide), if_neg (show ¬ (76 : Int32) = 63 by decide), if_neg (show ¬ (76 : Int32) = 64 by decide), if_neg (show ¬ (76 : Int32) = 66 by decide), if_neg (show ¬ (76 : Int32) = 67 by decide), if_pos (show (76 : Int32) = 76 from rfl)]
  rw [q_bvi, q_gd (q_inl i69), q_gd (q_inl i71), q_gd (q_inl i95), q_bvi]
  have e1 := v_cell (μ := μ - 1) (f := X 46 k) (f' := M 95 k) (c := M 96 k) (N := N) hB he (Or.inl hc) hD.2.2.2.2 hf m96 hD.2.2.1 hD.2.2.2.1 h1 (by omega) (by omega) hX hM
  rw [m_frameWith hB.2.1.2.2.2.2.2.2.2.2.2.2.2.2.2.1 hB.2.1.2.2.2.2.2.2.2.2.2.2.2.2.2.2.1 (by omega), q_bd] at e1 ⊢
  rw [q_gd (q_inl i96), q_bvi]
  exact e1

set_option maxHeartbeats 1000000 in
theorem s_v80 (hN : 1000 ≤ N) {e : Nat} (hB : RB X M z k st dp cn tn vn fn θ) (hD : D1 X M tn vn θ) (h44 : X 44 4 = nI k) (h55 : M 65 55 = nI k) (hk1 : k + 1 ≤ st) (he : e < z) (m93 : M 93 k = nI (z - 1 - e)) (hf : FR (X 46 k) (M 95 k) cn) (m96 : M 96 k = X 8 e) (h1 : cn + phi 1 1 0 (X 47) k + 1 ≤ st) (h2 : tn + phi 1 1 0 (X 47) k + 1 ≤ st) (h3 : vn + phi 1 1 0 (X 47) k + 1 ≤ 2 * st) (m94 : M 94 k = 0) (s47 : X 47 k = 0) (hc : X 3 e = 80)  (hp : fn + phi 2 1 0 (X 47) k + 2 ≤ 2 * st + 1) (hμ : 10 * (400 - st) + phi 7 5 3 (X 47) k + 7 ≤ μ) (hX : FX X0 X) (hM : FM M0 M) : JJ X0 M0 z (μ - 1) (xv_tail N (nI e) (X 46 k) 80 X) (mv_tail N M) := by
  have hz : z ≤ 40 := hB.1.2.1
  have hb := hB.bds
  have a1 := hB.2.1.1
  have a16 := hB.2.1.2.2.2.2.2.2.2.2.2.2.2.2.2.2.2.1
  have a17 := hB.2.1.2.2.2.2.2.2.2.2.2.2.2.2.2.2.2.2.1
  obtain ⟨pe1, pe2, pe3⟩ := hB.1.2.2 e he
  have hck : (nI k).toNatClampNeg = k := nI_clamp (by omega)
  have hce : (nI (z - 1 - e)).toNatClampNeg = z - 1 - e := nI_clamp (by omega)
  have i67 : z - 1 - e < z_ln 67 := show z - 1 - e < 41 by omega
  have i68 : z - 1 - e < z_ln 68 := show z - 1 - e < 41 by omega
  have i69 : z - 1 - e < z_ln 69 := show z - 1 - e < 41 by omega
  have i71 : z - 1 - e < z_ln 71 := show z - 1 - e < 41 by omega
  have i93 : k < z_ln 93 := show k < 800 by omega
  have i94 : k < z_ln 94 := show k < 800 by omega
  have i95 : k < z_ln 95 := show k < 800 by omega
  have i96 : k < z_ln 96 := show k < 800 by omega
  have i97 : k < z_ln 97 := show k < 800 by omega
  have n1 : ¬ nI (z - 1 - e) = -1 := fun q => by have := nI_pos (n := z - 1 - e) (by omega); rw [q] at this; exact this (by decide)
  unfold xv_tail mv_tail
  rw [h55, q_gd (q_inl i93)]
  simp only [hck]
  rw [m93]
  simp only [hce]
  rw [if_neg n1, q_gd (q_inl i67), pe1, hc]
  rw [if_neg (show ¬ (80 : Int32) = 42 by decide), if_neg (show ¬ (80 : Int32) = 43 by decide), if_neg (show ¬ (80 : Int32) = 44 by decide), if_neg (show ¬ (80 : Int32) = 45 by decide), if_neg (show ¬ (80 : Int32) = 63 by decide), if_neg (show ¬ (80 : Int32) = 64 by decide), if_neg (show ¬ (80 : Int32) = 66 by decide), if_neg (show ¬ (80 : Int32) = 67 by decide), if_neg (show ¬ (80 : Int32) = 76 by decide), if_pos trivial]
  rw [if_neg (show ¬ (80 : Int32) = 64 by decide)]
  unfold b_X10_goesOn_81
  rw [q_gd (q_inl i67), hce, pe1, hc, m_first0 (show k < 800 by omega) (Or.inr (by decide)), q_bd]
  rw [if_pos (show (0 : Int32) = 0 from rfl)]
  unfold f_X10_goesOnOf
  rw [q_gd (q_inl i67)]
  simp only [hce, hck]
  rw [pe1, hc, if_neg (show ¬ (80 : Int32) = 42 by decide), if_neg (show ¬ (80 : Int32) = 43 by decide), if_neg (show ¬ (80 : Int32) = 44 by decide), if_neg (show ¬ (80 : Int32) = 45 by decide), if_neg (show ¬ (80 : Int32) = 63 by decide), if_neg (show ¬ (80 : Int32) = 64 by decide), if_neg (show ¬ (80 : Int32) = 66 by decide), if_neg (show ¬ (80 : Int32) = 67 by decide), if_neg (show ¬ (80 : Int32) = 76 by decide), if_pos (show (80 : Int32) = 80 from rfl)]
  rw [x_tadd a16 (by omega), q_bd, q_bvi, m_valueOf a17 (by omega), q_bd, q_bvi, q_bvi]
  obtain ⟨θ', hB2, hv⟩ := hB.thing (k := 0) (a := X 29 10) (b := 0) (m1 := 2) (m2 := 0) (m3 := M 65 60) (m4 := 0) h2 h3 (Or.inr ⟨rfl, rfl, Or.inl ⟨rfl, hD.2.2.2.2⟩⟩)
  exact j_give hB2 hv hD.2.2.1 hD.2.2.2.1 (by show fn + phi 2 1 0 (X 47) k ≤ _; omega) (by show 10 * (400 - st) + phi 7 5 3 (X 47) k ≤ _; omega) ((((hX.wr (by omega) (by omega)).wr (by omega) (by omega)).wr (by omega) (by omega)).wr (by omega) (by omega)) (((((hM.wr (by omega)).wr (by omega)).wr (by omega)).wr (by omega)).wf (by omega))

set_option maxHeartbeats 1000000 in
theorem s_v81 (hN : 1000 ≤ N) {e : Nat} (hB : RB X M z k st dp cn tn vn fn θ) (hD : D1 X M tn vn θ) (h44 : X 44 4 = nI k) (h55 : M 65 55 = nI k) (hk1 : k + 1 ≤ st) (he : e < z) (m93 : M 93 k = nI (z - 1 - e)) (hf : FR (X 46 k) (M 95 k) cn) (m96 : M 96 k = X 8 e) (h1 : cn + phi 1 1 0 (X 47) k + 1 ≤ st) (h2 : tn + phi 1 1 0 (X 47) k + 1 ≤ st) (h3 : vn + phi 1 1 0 (X 47) k + 1 ≤ 2 * st) (m94 : M 94 k = 0) (s47 : X 47 k = 0) (hc : X 3 e = 81)  (hp : fn + phi 2 1 0 (X 47) k + 2 ≤ 2 * st + 1) (hμ : 10 * (400 - st) + phi 7 5 3 (X 47) k + 7 ≤ μ) (hX : FX X0 X) (hM : FM M0 M) : JJ X0 M0 z (μ - 1) (xv_tail N (nI e) (X 46 k) 81 X) (mv_tail N M) := by
  have hz : z ≤ 40 := hB.1.2.1
  have hb := hB.bds
  have a1 := hB.2.1.1
  have a16 := hB.2.1.2.2.2.2.2.2.2.2.2.2.2.2.2.2.2.1
  have a17 := hB.2.1.2.2.2.2.2.2.2.2.2.2.2.2.2.2.2.2.1
  obtain ⟨pe1, pe2, pe3⟩ := hB.1.2.2 e he
  have hck : (nI k).toNatClampNeg = k := nI_clamp (by omega)
  have hce : (nI (z - 1 - e)).toNatClampNeg = z - 1 - e := nI_clamp (by omega)
  have i67 : z - 1 - e < z_ln 67 := show z - 1 - e < 41 by omega
  have i68 : z - 1 - e < z_ln 68 := show z - 1 - e < 41 by omega
  have i69 : z - 1 - e < z_ln 69 := show z - 1 - e < 41 by omega
  have i71 : z - 1 - e < z_ln 71 := show z - 1 - e < 41 by omega
  have i93 : k < z_ln 93 := show k < 800 by omega
  have i94 : k < z_ln 94 := show k < 800 by omega
  have i95 : k < z_ln 95 := show k < 800 by omega
  have i96 : k < z_ln 96 := show k < 800 by omega
  have i97 : k < z_ln 97 := show k < 800 by omega
  have n1 : ¬ nI (z - 1 - e) = -1 := fun q => by have := nI_pos (n := z - 1 - e) (by omega); rw [q] at this; exact this (by decide)
  unfold xv_tail mv_tail
  rw [h55, q_gd (q_inl i93)]
  simp only [hck]
  rw [m93]
  simp only [hce]
  rw [if_neg n1, q_gd (q_inl i67), pe1, hc]
  rw [if_neg (show ¬ (81 : Int32) = 42 by decide), if_neg (show ¬ (81 : Int32) = 43 by decide), if_neg (show ¬ (81 : Int32) = 44 by decide), if_neg (show ¬ (81 : Int32) = 45 by decide), if_neg (show ¬ (81 : Int32) = 63 by decide), if_neg (show ¬ (81 : Int32) = 64 by decide), if_neg (show ¬ (81 : Int32) = 66 by decide), if_neg (show ¬ (81 : Int32) = 67 by decide), if_neg (show ¬ (81 : Int32) = 76 by decide), if_neg (show ¬ (81 : Int32) = 80 by decide), if_pos trivial]
  rw [if_neg (show ¬ (81 : Int32) = 64 by decide)]
  unfold b_X10_goesOn_81
  rw [q_gd (q_inl i67), hce, pe1, hc, m_first0 (show k < 800 by omega) (Or.inr (by decide)), q_bd]
  rw [if_pos (show (0 : Int32) = 0 from rfl)]
  unfold f_X10_goesOnOf
  rw [q_gd (q_inl i67)]
  simp only [hce, hck]
  rw [pe1, hc, if_neg (show ¬ (81 : Int32) = 42 by decide), if_neg (show ¬ (81 : Int32) = 43 by decide), if_neg (show ¬ (81 : Int32) = 44 by decide), if_neg (show ¬ (81 : Int32) = 45 by decide), if_neg (show ¬ (81 : Int32) = 63 by decide), if_neg (show ¬ (81 : Int32) = 64 by decide), if_neg (show ¬ (81 : Int32) = 66 by decide), if_neg (show ¬ (81 : Int32) = 67 by decide), if_neg (show ¬ (81 : Int32) = 76 by decide), if_neg (show ¬ (81 : Int32) = 80 by decide), if_pos (show (81 : Int32) = 81 from rfl)]
  rw [x_tadd a16 (by omega), q_bd, q_bvi, m_valueOf a17 (by omega), q_bd, q_bvi, q_bvi]
  obtain ⟨θ', hB2, hv⟩ := hB.thing (k := 1) (a := 0) (b := X 29 10) (m1 := 2) (m2 := 1) (m3 := M 65 60) (m4 := 0) h2 h3 (Or.inr ⟨rfl, rfl, Or.inr (Or.inl ⟨rfl, hD.2.2.2.2⟩)⟩)
  exact j_give hB2 hv hD.2.2.1 hD.2.2.2.1 (by show fn + phi 2 1 0 (X 47) k ≤ _; omega) (by show 10 * (400 - st) + phi 7 5 3 (X 47) k ≤ _; omega) ((((hX.wr (by omega) (by omega)).wr (by omega) (by omega)).wr (by omega) (by omega)).wr (by omega) (by omega)) (((((hM.wr (by omega)).wr (by omega)).wr (by omega)).wr (by omega)).wf (by omega))

set_option maxHeartbeats 1000000 in
theorem s_v83 (hN : 1000 ≤ N) {e : Nat} (hB : RB X M z k st dp cn tn vn fn θ) (hD : D1 X M tn vn θ) (h44 : X 44 4 = nI k) (h55 : M 65 55 = nI k) (hk1 : k + 1 ≤ st) (he : e < z) (m93 : M 93 k = nI (z - 1 - e)) (hf : FR (X 46 k) (M 95 k) cn) (m96 : M 96 k = X 8 e) (h1 : cn + phi 1 1 0 (X 47) k + 1 ≤ st) (h2 : tn + phi 1 1 0 (X 47) k + 1 ≤ st) (h3 : vn + phi 1 1 0 (X 47) k + 1 ≤ 2 * st) (m94 : M 94 k = 0) (s47 : X 47 k = 0) (hc : X 3 e = 83)  (hp : fn + phi 2 1 0 (X 47) k + 2 ≤ 2 * st + 1) (hμ : 10 * (400 - st) + phi 7 5 3 (X 47) k + 7 ≤ μ) (hX : FX X0 X) (hM : FM M0 M) : JJ X0 M0 z (μ - 1) (xv_tail N (nI e) (X 46 k) 83 X) (mv_tail N M) := by
  have hz : z ≤ 40 := hB.1.2.1
  have hb := hB.bds
  have a1 := hB.2.1.1
  have a16 := hB.2.1.2.2.2.2.2.2.2.2.2.2.2.2.2.2.2.1
  have a17 := hB.2.1.2.2.2.2.2.2.2.2.2.2.2.2.2.2.2.2.1
  obtain ⟨pe1, pe2, pe3⟩ := hB.1.2.2 e he
  have hck : (nI k).toNatClampNeg = k := nI_clamp (by omega)
  have hce : (nI (z - 1 - e)).toNatClampNeg = z - 1 - e := nI_clamp (by omega)
  have i67 : z - 1 - e < z_ln 67 := show z - 1 - e < 41 by omega
  have i68 : z - 1 - e < z_ln 68 := show z - 1 - e < 41 by omega
  have i69 : z - 1 - e < z_ln 69 := show z - 1 - e < 41 by omega
  have i71 : z - 1 - e < z_ln 71 := show z - 1 - e < 41 by omega
  have i93 : k < z_ln 93 := show k < 800 by omega
  have i94 : k < z_ln 94 := show k < 800 by omega
  have i95 : k < z_ln 95 := show k < 800 by omega
  have i96 : k < z_ln 96 := show k < 800 by omega
  have i97 : k < z_ln 97 := show k < 800 by omega
  have n1 : ¬ nI (z - 1 - e) = -1 := fun q => by have := nI_pos (n := z - 1 - e) (by omega); rw [q] at this; exact this (by decide)
  unfold xv_tail mv_tail
  rw [h55, q_gd (q_inl i93)]
  simp only [hck]
  rw [m93]
  simp only [hce]
  rw [if_neg n1, q_gd (q_inl i67), pe1, hc]
  rcases pe3 with q | ⟨q, -⟩ | ⟨pO, p1, p2, p3, p4, p5, p6, p7⟩
  · rw [hc] at q; exact absurd q (by decide)
  · rw [hc] at q; exact absurd q (by decide)
  rw [if_neg (show ¬ (83 : Int32) = 42 by decide), if_neg (show ¬ (83 : Int32) = 43 by decide), if_neg (show ¬ (83 : Int32) = 44 by decide), if_neg (show ¬ (83 : Int32) = 45 by decide), if_neg (show ¬ (83 : Int32) = 63 by decide), if_neg (show ¬ (83 : Int32) = 64 by decide), if_neg (show ¬ (83 : Int32) = 66 by decide), if_neg (show ¬ (83 : Int32) = 67 by decide), if_neg (show ¬ (83 : Int32) = 76 by decide), if_neg (show ¬ (83 : Int32) = 80 by decide), if_neg (show ¬ (83 : Int32) = 81 by decide), if_pos trivial]
  rw [if_neg (show ¬ (83 : Int32) = 64 by decide)]
  unfold b_X10_goesOn_81
  rw [q_gd (q_inl i67), hce, pe1, hc, m_first0 (show k < 800 by omega) (Or.inr (by decide)), q_bd]
  rw [if_pos (show (0 : Int32) = 0 from rfl)]
  unfold f_X10_goesOnOf
  rw [q_gd (q_inl i67)]
  simp only [hce, hck]
  rw [pe1, hc, if_neg (show ¬ (83 : Int32) = 42 by decide), if_neg (show ¬ (83 : Int32) = 43 by decide), if_neg (show ¬ (83 : Int32) = 44 by decide), if_neg (show ¬ (83 : Int32) = 45 by decide), if_neg (show ¬ (83 : Int32) = 63 by decide), if_neg (show ¬ (83 : Int32) = 64 by decide), if_neg (show ¬ (83 : Int32) = 66 by decide), if_neg (show ¬ (83 : Int32) = 67 by decide), if_neg (show ¬ (83 : Int32) = 76 by decide), if_neg (show ¬ (83 : Int32) = 80 by decide), if_neg (show ¬ (83 : Int32) = 81 by decide), if_pos (show (83 : Int32) = 83 from rfl)]
  obtain ⟨w, w1, w2, w3⟩ := p6 (by rw [hc]; decide)
  rw [x_pr a1, x_vari (by omega), q_bd, q_bvi, q_gd (q_inl i71), q_gd (q_inl i95), q_bvi, q_bvi, w2, w3]
  exact v_store hN hB hD w1 hf (by omega) (by omega) hX hM

set_option maxHeartbeats 1000000 in
theorem s_v88 (hN : 1000 ≤ N) {e : Nat} (hB : RB X M z k st dp cn tn vn fn θ) (hD : D1 X M tn vn θ) (h44 : X 44 4 = nI k) (h55 : M 65 55 = nI k) (hk1 : k + 1 ≤ st) (he : e < z) (m93 : M 93 k = nI (z - 1 - e)) (hf : FR (X 46 k) (M 95 k) cn) (m96 : M 96 k = X 8 e) (h1 : cn + phi 1 1 0 (X 47) k + 1 ≤ st) (h2 : tn + phi 1 1 0 (X 47) k + 1 ≤ st) (h3 : vn + phi 1 1 0 (X 47) k + 1 ≤ 2 * st) (m94 : M 94 k = 0) (s47 : X 47 k = 0) (hc : X 3 e = 88)  (hp : fn + phi 2 1 0 (X 47) k + 2 ≤ 2 * st + 1) (hμ : 10 * (400 - st) + phi 7 5 3 (X 47) k + 7 ≤ μ) (hX : FX X0 X) (hM : FM M0 M) : JJ X0 M0 z (μ - 1) (xv_tail N (nI e) (X 46 k) 88 X) (mv_tail N M) := by
  have hz : z ≤ 40 := hB.1.2.1
  have hb := hB.bds
  have a1 := hB.2.1.1
  have a16 := hB.2.1.2.2.2.2.2.2.2.2.2.2.2.2.2.2.2.1
  have a17 := hB.2.1.2.2.2.2.2.2.2.2.2.2.2.2.2.2.2.2.1
  obtain ⟨pe1, pe2, pe3⟩ := hB.1.2.2 e he
  have hck : (nI k).toNatClampNeg = k := nI_clamp (by omega)
  have hce : (nI (z - 1 - e)).toNatClampNeg = z - 1 - e := nI_clamp (by omega)
  have i67 : z - 1 - e < z_ln 67 := show z - 1 - e < 41 by omega
  have i68 : z - 1 - e < z_ln 68 := show z - 1 - e < 41 by omega
  have i69 : z - 1 - e < z_ln 69 := show z - 1 - e < 41 by omega
  have i71 : z - 1 - e < z_ln 71 := show z - 1 - e < 41 by omega
  have i93 : k < z_ln 93 := show k < 800 by omega
  have i94 : k < z_ln 94 := show k < 800 by omega
  have i95 : k < z_ln 95 := show k < 800 by omega
  have i96 : k < z_ln 96 := show k < 800 by omega
  have i97 : k < z_ln 97 := show k < 800 by omega
  have n1 : ¬ nI (z - 1 - e) = -1 := fun q => by have := nI_pos (n := z - 1 - e) (by omega); rw [q] at this; exact this (by decide)
  unfold xv_tail mv_tail
  rw [h55, q_gd (q_inl i93)]
  simp only [hck]
  rw [m93]
  simp only [hce]
  rw [if_neg n1, q_gd (q_inl i67), pe1, hc]
  rw [if_neg (show ¬ (88 : Int32) = 42 by decide), if_neg (show ¬ (88 : Int32) = 43 by decide), if_neg (show ¬ (88 : Int32) = 44 by decide), if_neg (show ¬ (88 : Int32) = 45 by decide), if_neg (show ¬ (88 : Int32) = 63 by decide), if_neg (show ¬ (88 : Int32) = 64 by decide), if_neg (show ¬ (88 : Int32) = 66 by decide), if_neg (show ¬ (88 : Int32) = 67 by decide), if_neg (show ¬ (88 : Int32) = 76 by decide), if_neg (show ¬ (88 : Int32) = 80 by decide), if_neg (show ¬ (88 : Int32) = 81 by decide), if_neg (show ¬ (88 : Int32) = 83 by decide), if_pos trivial]
  rw [if_neg (show ¬ (88 : Int32) = 64 by decide)]
  unfold b_X10_goesOn_81
  rw [q_gd (q_inl i67), hce, pe1, hc, m_first0 (show k < 800 by omega) (Or.inr (by decide)), q_bd]
  rw [if_pos (show (0 : Int32) = 0 from rfl)]
  unfold f_X10_goesOnOf
  rw [q_gd (q_inl i67)]
  simp only [hce, hck]
  rw [pe1, hc, if_neg (show ¬ (88 : Int32) = 42 by decide), if_neg (show ¬ (88 : Int32) = 43 by decide), if_neg (show ¬ (88 : Int32) = 44 by decide), if_neg (show ¬ (88 : Int32) = 45 by decide), if_neg (show ¬ (88 : Int32) = 63 by decide), if_neg (show ¬ (88 : Int32) = 64 by decide), if_neg (show ¬ (88 : Int32) = 66 by decide), if_neg (show ¬ (88 : Int32) = 67 by decide), if_neg (show ¬ (88 : Int32) = 76 by decide), if_neg (show ¬ (88 : Int32) = 80 by decide), if_neg (show ¬ (88 : Int32) = 81 by decide), if_neg (show ¬ (88 : Int32) = 83 by decide), if_pos (show (88 : Int32) = 88 from rfl)]
  rw [q_bvi, q_bvi, q_bvi]
  exact v_throw hB hD (by omega) (by omega) hX hM

set_option maxHeartbeats 1000000 in
theorem s_v112 (hN : 1000 ≤ N) {e : Nat} (hB : RB X M z k st dp cn tn vn fn θ) (hD : D1 X M tn vn θ) (h44 : X 44 4 = nI k) (h55 : M 65 55 = nI k) (hk1 : k + 1 ≤ st) (he : e < z) (m93 : M 93 k = nI (z - 1 - e)) (hf : FR (X 46 k) (M 95 k) cn) (m96 : M 96 k = X 8 e) (h1 : cn + phi 1 1 0 (X 47) k + 1 ≤ st) (h2 : tn + phi 1 1 0 (X 47) k + 1 ≤ st) (h3 : vn + phi 1 1 0 (X 47) k + 1 ≤ 2 * st) (m94 : M 94 k = 0) (s47 : X 47 k = 0) (hc : X 3 e = 112)  (hp : fn + phi 2 1 0 (X 47) k + 2 ≤ 2 * st + 1) (hμ : 10 * (400 - st) + phi 7 5 3 (X 47) k + 7 ≤ μ) (hX : FX X0 X) (hM : FM M0 M) : JJ X0 M0 z (μ - 1) (xv_tail N (nI e) (X 46 k) 112 X) (mv_tail N M) := by
  have hz : z ≤ 40 := hB.1.2.1
  have hb := hB.bds
  have a1 := hB.2.1.1
  have a16 := hB.2.1.2.2.2.2.2.2.2.2.2.2.2.2.2.2.2.1
  have a17 := hB.2.1.2.2.2.2.2.2.2.2.2.2.2.2.2.2.2.2.1
  obtain ⟨pe1, pe2, pe3⟩ := hB.1.2.2 e he
  have hck : (nI k).toNatClampNeg = k := nI_clamp (by omega)
  have hce : (nI (z - 1 - e)).toNatClampNeg = z - 1 - e := nI_clamp (by omega)
  have i67 : z - 1 - e < z_ln 67 := show z - 1 - e < 41 by omega
  have i68 : z - 1 - e < z_ln 68 := show z - 1 - e < 41 by omega
  have i69 : z - 1 - e < z_ln 69 := show z - 1 - e < 41 by omega
  have i71 : z - 1 - e < z_ln 71 := show z - 1 - e < 41 by omega
  have i93 : k < z_ln 93 := show k < 800 by omega
  have i94 : k < z_ln 94 := show k < 800 by omega
  have i95 : k < z_ln 95 := show k < 800 by omega
  have i96 : k < z_ln 96 := show k < 800 by omega
  have i97 : k < z_ln 97 := show k < 800 by omega
  have n1 : ¬ nI (z - 1 - e) = -1 := fun q => by have := nI_pos (n := z - 1 - e) (by omega); rw [q] at this; exact this (by decide)
  unfold xv_tail mv_tail
  rw [h55, q_gd (q_inl i93)]
  simp only [hck]
  rw [m93]
  simp only [hce]
  rw [if_neg n1, q_gd (q_inl i67), pe1, hc]
  rw [if_neg (show ¬ (112 : Int32) = 42 by decide), if_neg (show ¬ (112 : Int32) = 43 by decide), if_neg (show ¬ (112 : Int32) = 44 by decide), if_neg (show ¬ (112 : Int32) = 45 by decide), if_neg (show ¬ (112 : Int32) = 63 by decide), if_neg (show ¬ (112 : Int32) = 64 by decide), if_neg (show ¬ (112 : Int32) = 66 by decide), if_neg (show ¬ (112 : Int32) = 67 by decide), if_neg (show ¬ (112 : Int32) = 76 by decide), if_neg (show ¬ (112 : Int32) = 80 by decide), if_neg (show ¬ (112 : Int32) = 81 by decide), if_neg (show ¬ (112 : Int32) = 83 by decide), if_neg (show ¬ (112 : Int32) = 88 by decide), if_pos trivial]
  rw [if_neg (show ¬ (112 : Int32) = 64 by decide)]
  unfold b_X10_goesOn_81
  rw [q_gd (q_inl i67), hce, pe1, hc, m_first0 (show k < 800 by omega) (Or.inr (by decide)), q_bd]
  rw [if_pos (show (0 : Int32) = 0 from rfl)]
  unfold f_X10_goesOnOf
  rw [q_gd (q_inl i67)]
  simp only [hce, hck]
  rw [pe1, hc, if_neg (show ¬ (112 : Int32) = 42 by decide), if_neg (show ¬ (112 : Int32) = 43 by decide), if_neg (show ¬ (112 : Int32) = 44 by decide), if_neg (show ¬ (112 : Int32) = 45 by decide), if_neg (show ¬ (112 : Int32) = 63 by decide), if_neg (show ¬ (112 : Int32) = 64 by decide), if_neg (show ¬ (112 : Int32) = 66 by decide), if_neg (show ¬ (112 : Int32) = 67 by decide), if_neg (show ¬ (112 : Int32) = 76 by decide), if_neg (show ¬ (112 : Int32) = 80 by decide), if_neg (show ¬ (112 : Int32) = 81 by decide), if_neg (show ¬ (112 : Int32) = 83 by decide), if_neg (show ¬ (112 : Int32) = 88 by decide), if_pos (show (112 : Int32) = 112 from rfl)]
  unfold b_X4_useValue_320 b_X10_goesOnOf_355
  rw [q_bvi, q_bvi, q_bvi]
  exact v_field hN hB hD he hc (by decide) (by omega) (by omega) hX hM

set_option maxHeartbeats 1000000 in
theorem s_v113 (hN : 1000 ≤ N) {e : Nat} (hB : RB X M z k st dp cn tn vn fn θ) (hD : D1 X M tn vn θ) (h44 : X 44 4 = nI k) (h55 : M 65 55 = nI k) (hk1 : k + 1 ≤ st) (he : e < z) (m93 : M 93 k = nI (z - 1 - e)) (hf : FR (X 46 k) (M 95 k) cn) (m96 : M 96 k = X 8 e) (h1 : cn + phi 1 1 0 (X 47) k + 1 ≤ st) (h2 : tn + phi 1 1 0 (X 47) k + 1 ≤ st) (h3 : vn + phi 1 1 0 (X 47) k + 1 ≤ 2 * st) (m94 : M 94 k = 0) (s47 : X 47 k = 0) (hc : X 3 e = 113)  (hp : fn + phi 2 1 0 (X 47) k + 2 ≤ 2 * st + 1) (hμ : 10 * (400 - st) + phi 7 5 3 (X 47) k + 7 ≤ μ) (hX : FX X0 X) (hM : FM M0 M) : JJ X0 M0 z (μ - 1) (xv_tail N (nI e) (X 46 k) 113 X) (mv_tail N M) := by
  have hz : z ≤ 40 := hB.1.2.1
  have hb := hB.bds
  have a1 := hB.2.1.1
  have a16 := hB.2.1.2.2.2.2.2.2.2.2.2.2.2.2.2.2.2.1
  have a17 := hB.2.1.2.2.2.2.2.2.2.2.2.2.2.2.2.2.2.2.1
  obtain ⟨pe1, pe2, pe3⟩ := hB.1.2.2 e he
  have hck : (nI k).toNatClampNeg = k := nI_clamp (by omega)
  have hce : (nI (z - 1 - e)).toNatClampNeg = z - 1 - e := nI_clamp (by omega)
  have i67 : z - 1 - e < z_ln 67 := show z - 1 - e < 41 by omega
  have i68 : z - 1 - e < z_ln 68 := show z - 1 - e < 41 by omega
  have i69 : z - 1 - e < z_ln 69 := show z - 1 - e < 41 by omega
  have i71 : z - 1 - e < z_ln 71 := show z - 1 - e < 41 by omega
  have i93 : k < z_ln 93 := show k < 800 by omega
  have i94 : k < z_ln 94 := show k < 800 by omega
  have i95 : k < z_ln 95 := show k < 800 by omega
  have i96 : k < z_ln 96 := show k < 800 by omega
  have i97 : k < z_ln 97 := show k < 800 by omega
  have n1 : ¬ nI (z - 1 - e) = -1 := fun q => by have := nI_pos (n := z - 1 - e) (by omega); rw [q] at this; exact this (by decide)
  unfold xv_tail mv_tail
  rw [h55, q_gd (q_inl i93)]
  simp only [hck]
  rw [m93]
  simp only [hce]
  rw [if_neg n1, q_gd (q_inl i67), pe1, hc]
  rw [if_neg (show ¬ (113 : Int32) = 42 by decide), if_neg (show ¬ (113 : Int32) = 43 by decide), if_neg (show ¬ (113 : Int32) = 44 by decide), if_neg (show ¬ (113 : Int32) = 45 by decide), if_neg (show ¬ (113 : Int32) = 63 by decide), if_neg (show ¬ (113 : Int32) = 64 by decide), if_neg (show ¬ (113 : Int32) = 66 by decide), if_neg (show ¬ (113 : Int32) = 67 by decide), if_neg (show ¬ (113 : Int32) = 76 by decide), if_neg (show ¬ (113 : Int32) = 80 by decide), if_neg (show ¬ (113 : Int32) = 81 by decide), if_neg (show ¬ (113 : Int32) = 83 by decide), if_neg (show ¬ (113 : Int32) = 88 by decide), if_neg (show ¬ (113 : Int32) = 112 by decide), if_pos trivial]
  rw [if_neg (show ¬ (113 : Int32) = 64 by decide)]
  unfold b_X10_goesOn_81
  rw [q_gd (q_inl i67), hce, pe1, hc, m_first0 (show k < 800 by omega) (Or.inr (by decide)), q_bd]
  rw [if_pos (show (0 : Int32) = 0 from rfl)]
  unfold f_X10_goesOnOf
  rw [q_gd (q_inl i67)]
  simp only [hce, hck]
  rw [pe1, hc, if_neg (show ¬ (113 : Int32) = 42 by decide), if_neg (show ¬ (113 : Int32) = 43 by decide), if_neg (show ¬ (113 : Int32) = 44 by decide), if_neg (show ¬ (113 : Int32) = 45 by decide), if_neg (show ¬ (113 : Int32) = 63 by decide), if_neg (show ¬ (113 : Int32) = 64 by decide), if_neg (show ¬ (113 : Int32) = 66 by decide), if_neg (show ¬ (113 : Int32) = 67 by decide), if_neg (show ¬ (113 : Int32) = 76 by decide), if_neg (show ¬ (113 : Int32) = 80 by decide), if_neg (show ¬ (113 : Int32) = 81 by decide), if_neg (show ¬ (113 : Int32) = 83 by decide), if_neg (show ¬ (113 : Int32) = 88 by decide), if_neg (show ¬ (113 : Int32) = 112 by decide), if_pos (show (113 : Int32) = 113 from rfl)]
  unfold b_X4_useValue_320 b_X10_goesOnOf_355
  rw [q_bvi, q_bvi, q_bvi]
  exact v_field hN hB hD he hc (by decide) (by omega) (by omega) hX hM

set_option maxHeartbeats 1000000 in
theorem s_v87 (hN : 1000 ≤ N) {e : Nat} (hB : RB X M z k st dp cn tn vn fn θ) (hD : D1 X M tn vn θ) (h44 : X 44 4 = nI k) (h55 : M 65 55 = nI k) (hk1 : k + 1 ≤ st) (he : e < z) (m93 : M 93 k = nI (z - 1 - e)) (hf : FR (X 46 k) (M 95 k) cn) (m96 : M 96 k = X 8 e) (h1 : cn + phi 1 1 0 (X 47) k + 1 ≤ st) (h2 : tn + phi 1 1 0 (X 47) k + 1 ≤ st) (h3 : vn + phi 1 1 0 (X 47) k + 1 ≤ 2 * st) (m94 : M 94 k = 0) (s47 : X 47 k = 0) (hc : X 3 e = 87)  (hp : fn + phi 2 1 0 (X 47) k + 2 ≤ 2 * st + 1) (hμ : 10 * (400 - st) + phi 7 5 3 (X 47) k + 7 ≤ μ) (hX : FX X0 X) (hM : FM M0 M) : JJ X0 M0 z (μ - 1) (xv_tail N (nI e) (X 46 k) 87 X) (mv_tail N M) := by
  have hz : z ≤ 40 := hB.1.2.1
  have hb := hB.bds
  have a1 := hB.2.1.1
  have a16 := hB.2.1.2.2.2.2.2.2.2.2.2.2.2.2.2.2.2.1
  have a17 := hB.2.1.2.2.2.2.2.2.2.2.2.2.2.2.2.2.2.2.1
  obtain ⟨pe1, pe2, pe3⟩ := hB.1.2.2 e he
  have hck : (nI k).toNatClampNeg = k := nI_clamp (by omega)
  have hce : (nI (z - 1 - e)).toNatClampNeg = z - 1 - e := nI_clamp (by omega)
  have i67 : z - 1 - e < z_ln 67 := show z - 1 - e < 41 by omega
  have i68 : z - 1 - e < z_ln 68 := show z - 1 - e < 41 by omega
  have i69 : z - 1 - e < z_ln 69 := show z - 1 - e < 41 by omega
  have i71 : z - 1 - e < z_ln 71 := show z - 1 - e < 41 by omega
  have i93 : k < z_ln 93 := show k < 800 by omega
  have i94 : k < z_ln 94 := show k < 800 by omega
  have i95 : k < z_ln 95 := show k < 800 by omega
  have i96 : k < z_ln 96 := show k < 800 by omega
  have i97 : k < z_ln 97 := show k < 800 by omega
  have n1 : ¬ nI (z - 1 - e) = -1 := fun q => by have := nI_pos (n := z - 1 - e) (by omega); rw [q] at this; exact this (by decide)
  unfold xv_tail mv_tail
  rw [h55, q_gd (q_inl i93)]
  simp only [hck]
  rw [m93]
  simp only [hce]
  rw [if_neg n1, q_gd (q_inl i67), pe1, hc]
  rw [if_neg (show ¬ (87 : Int32) = 42 by decide), if_neg (show ¬ (87 : Int32) = 43 by decide), if_neg (show ¬ (87 : Int32) = 44 by decide), if_neg (show ¬ (87 : Int32) = 45 by decide), if_neg (show ¬ (87 : Int32) = 63 by decide), if_neg (show ¬ (87 : Int32) = 64 by decide), if_neg (show ¬ (87 : Int32) = 66 by decide), if_neg (show ¬ (87 : Int32) = 67 by decide), if_neg (show ¬ (87 : Int32) = 76 by decide), if_neg (show ¬ (87 : Int32) = 80 by decide), if_neg (show ¬ (87 : Int32) = 81 by decide), if_neg (show ¬ (87 : Int32) = 83 by decide), if_neg (show ¬ (87 : Int32) = 88 by decide), if_neg (show ¬ (87 : Int32) = 112 by decide), if_neg (show ¬ (87 : Int32) = 113 by decide)]
  rw [if_neg (show ¬ (87 : Int32) = 64 by decide)]
  unfold b_X10_goesOn_81
  rw [q_gd (q_inl i67), hce, pe1, hc, m_first0 (show k < 800 by omega) (Or.inr (by decide)), q_bd]
  rw [if_pos (show (0 : Int32) = 0 from rfl)]
  unfold f_X10_goesOnOf
  rw [q_gd (q_inl i67)]
  simp only [hce, hck]
  rw [pe1, hc, if_neg (show ¬ (87 : Int32) = 42 by decide), if_neg (show ¬ (87 : Int32) = 43 by decide), if_neg (show ¬ (87 : Int32) = 44 by decide), if_neg (show ¬ (87 : Int32) = 45 by decide), if_neg (show ¬ (87 : Int32) = 63 by decide), if_neg (show ¬ (87 : Int32) = 64 by decide), if_neg (show ¬ (87 : Int32) = 66 by decide), if_neg (show ¬ (87 : Int32) = 67 by decide), if_neg (show ¬ (87 : Int32) = 76 by decide), if_neg (show ¬ (87 : Int32) = 80 by decide), if_neg (show ¬ (87 : Int32) = 81 by decide), if_neg (show ¬ (87 : Int32) = 83 by decide), if_neg (show ¬ (87 : Int32) = 88 by decide), if_neg (show ¬ (87 : Int32) = 112 by decide), if_neg (show ¬ (87 : Int32) = 113 by decide)]
  rw [q_bv]
  exact j_keep hB hD (by omega) (by omega) hX hM

set_option maxHeartbeats 1000000 in
theorem s_v89 (hN : 1000 ≤ N) {e : Nat} (hB : RB X M z k st dp cn tn vn fn θ) (hD : D1 X M tn vn θ) (h44 : X 44 4 = nI k) (h55 : M 65 55 = nI k) (hk1 : k + 1 ≤ st) (he : e < z) (m93 : M 93 k = nI (z - 1 - e)) (hf : FR (X 46 k) (M 95 k) cn) (m96 : M 96 k = X 8 e) (h1 : cn + phi 1 1 0 (X 47) k + 1 ≤ st) (h2 : tn + phi 1 1 0 (X 47) k + 1 ≤ st) (h3 : vn + phi 1 1 0 (X 47) k + 1 ≤ 2 * st) (m94 : M 94 k = 0) (s47 : X 47 k = 0) (hc : X 3 e = 89)  (hp : fn + phi 2 1 0 (X 47) k + 2 ≤ 2 * st + 1) (hμ : 10 * (400 - st) + phi 7 5 3 (X 47) k + 7 ≤ μ) (hX : FX X0 X) (hM : FM M0 M) : JJ X0 M0 z (μ - 1) (xv_tail N (nI e) (X 46 k) 89 X) (mv_tail N M) := by
  have hz : z ≤ 40 := hB.1.2.1
  have hb := hB.bds
  have a1 := hB.2.1.1
  have a16 := hB.2.1.2.2.2.2.2.2.2.2.2.2.2.2.2.2.2.1
  have a17 := hB.2.1.2.2.2.2.2.2.2.2.2.2.2.2.2.2.2.2.1
  obtain ⟨pe1, pe2, pe3⟩ := hB.1.2.2 e he
  have hck : (nI k).toNatClampNeg = k := nI_clamp (by omega)
  have hce : (nI (z - 1 - e)).toNatClampNeg = z - 1 - e := nI_clamp (by omega)
  have i67 : z - 1 - e < z_ln 67 := show z - 1 - e < 41 by omega
  have i68 : z - 1 - e < z_ln 68 := show z - 1 - e < 41 by omega
  have i69 : z - 1 - e < z_ln 69 := show z - 1 - e < 41 by omega
  have i71 : z - 1 - e < z_ln 71 := show z - 1 - e < 41 by omega
  have i93 : k < z_ln 93 := show k < 800 by omega
  have i94 : k < z_ln 94 := show k < 800 by omega
  have i95 : k < z_ln 95 := show k < 800 by omega
  have i96 : k < z_ln 96 := show k < 800 by omega
  have i97 : k < z_ln 97 := show k < 800 by omega
  have n1 : ¬ nI (z - 1 - e) = -1 := fun q => by have := nI_pos (n := z - 1 - e) (by omega); rw [q] at this; exact this (by decide)
  unfold xv_tail mv_tail
  rw [h55, q_gd (q_inl i93)]
  simp only [hck]
  rw [m93]
  simp only [hce]
  rw [if_neg n1, q_gd (q_inl i67), pe1, hc]
  rw [if_neg (show ¬ (89 : Int32) = 42 by decide), if_neg (show ¬ (89 : Int32) = 43 by decide), if_neg (show ¬ (89 : Int32) = 44 by decide), if_neg (show ¬ (89 : Int32) = 45 by decide), if_neg (show ¬ (89 : Int32) = 63 by decide), if_neg (show ¬ (89 : Int32) = 64 by decide), if_neg (show ¬ (89 : Int32) = 66 by decide), if_neg (show ¬ (89 : Int32) = 67 by decide), if_neg (show ¬ (89 : Int32) = 76 by decide), if_neg (show ¬ (89 : Int32) = 80 by decide), if_neg (show ¬ (89 : Int32) = 81 by decide), if_neg (show ¬ (89 : Int32) = 83 by decide), if_neg (show ¬ (89 : Int32) = 88 by decide), if_neg (show ¬ (89 : Int32) = 112 by decide), if_neg (show ¬ (89 : Int32) = 113 by decide)]
  rw [if_neg (show ¬ (89 : Int32) = 64 by decide)]
  unfold b_X10_goesOn_81
  rw [q_gd (q_inl i67), hce, pe1, hc, m_first0 (show k < 800 by omega) (Or.inr (by decide)), q_bd]
  rw [if_pos (show (0 : Int32) = 0 from rfl)]
  unfold f_X10_goesOnOf
  rw [q_gd (q_inl i67)]
  simp only [hce, hck]
  rw [pe1, hc, if_neg (show ¬ (89 : Int32) = 42 by decide), if_neg (show ¬ (89 : Int32) = 43 by decide), if_neg (show ¬ (89 : Int32) = 44 by decide), if_neg (show ¬ (89 : Int32) = 45 by decide), if_neg (show ¬ (89 : Int32) = 63 by decide), if_neg (show ¬ (89 : Int32) = 64 by decide), if_neg (show ¬ (89 : Int32) = 66 by decide), if_neg (show ¬ (89 : Int32) = 67 by decide), if_neg (show ¬ (89 : Int32) = 76 by decide), if_neg (show ¬ (89 : Int32) = 80 by decide), if_neg (show ¬ (89 : Int32) = 81 by decide), if_neg (show ¬ (89 : Int32) = 83 by decide), if_neg (show ¬ (89 : Int32) = 88 by decide), if_neg (show ¬ (89 : Int32) = 112 by decide), if_neg (show ¬ (89 : Int32) = 113 by decide)]
  rw [q_bv]
  exact j_keep hB hD (by omega) (by omega) hX hM

set_option maxHeartbeats 1000000 in
theorem s_value (hN : 1000 ≤ N) (hR : R1 X M z μ) (hne : ¬ M 65 55 ≤ 0) : JJ X M z (μ - 1) (f_X4_useValue N X) (f_X10_goesOn N M) := by
  obtain ⟨h, st, dp, cn, tn, vn, fn, θ, hB, hD, hp, hμ⟩ := hR
  have hb := hB.bds
  have hz : z ≤ 40 := hB.1.2.1
  have a1 := hB.2.1.1
  have a2 := hB.2.1.2.1
  have a3 := hB.2.1.2.2.1
  have a8 := hB.2.1.2.2.2.2.2.2.2.1
  have a9 := hB.2.1.2.2.2.2.2.2.2.2.1
  cases h with
  | zero => rw [a3] at hne; exact absurd (by decide) hne
  | succ k =>
    obtain ⟨e, he, wx, hE⟩ := hB.2.2.2.2.2.2.2 k (by omega)
    rw [x_useValue a2 (by omega) a1 (by omega) wx, m_goesOn a3]
    have hX1 : FX X (z_wr X 44 4 (nI k)) := FX.rf.wr (by omega) (by omega)
    have hM1 : FM M (z_wr M 65 55 (nI k)) := FM.rf.wf (by omega)
    rcases hE with ⟨s2, hc, me⟩ | ⟨hs, hO, h7, me, mp, hf, md⟩
    · obtain ⟨hdp, hB2⟩ := hB.pop2 s2
      rw [phi_s2 s2] at hp hμ
      rw [hc]
      unfold xv_tail mv_tail
      rw [if_neg (show ¬ (64 : Int32) = 42 by decide), if_neg (show ¬ (64 : Int32) = 43 by decide), if_neg (show ¬ (64 : Int32) = 44 by decide), if_neg (show ¬ (64 : Int32) = 45 by decide), if_neg (show ¬ (64 : Int32) = 63 by decide), if_pos (show (64 : Int32) = 64 from rfl)]
      rw [x_wstg (show (z_wr X 44 4 (nI k)) 44 4 = nI k from rfl) (by omega), q_bd, show (z_wr X 44 4 (nI k)) 47 k = 2 from s2, if_neg (show ¬ (2 : Int32) = 1 by decide)]
      unfold f_X4_useForCall
      rw [x_wstg (show (z_wr X 44 4 (nI k)) 44 4 = nI k from rfl) (by omega), q_bd, show (z_wr X 44 4 (nI k)) 47 k = 2 from s2, if_pos (show (2 : Int32) = 2 from rfl), q_lt, q_bv]
      have hck : (nI k).toNatClampNeg = k := nI_clamp (by omega)
      rw [show (z_wr M 65 55 (nI k)) 65 55 = nI k from rfl, q_gd (q_inl (show k < 800 by omega))]
      simp only [hck]
      rw [show (z_wr M 65 55 (nI k)) 93 k = -1 from me, if_pos rfl, q_lt]
      obtain ⟨d, rfl⟩ : ∃ d, dp = d + 1 := ⟨dp - 1, by omega⟩
      rw [show (z_wr X 44 4 (nI k)) 29 11 = nI (d + 1) from a8, show (z_wr M 65 55 (nI k)) 65 63 = nI (d + 1) from a9, q_sub1]
      exact j_keep hB2 hD (by show fn + phi 2 1 0 (X 47) k ≤ _; omega) (by show 10 * (400 - st) + phi 7 5 3 (X 47) k ≤ _; omega) (hX1.wr (by omega) (by omega)) (hM1.wf (by omega))
    · have hs2 : X 47 k = 0 ∨ X 47 k = 1 := by
        rcases hs with q | ⟨q, -⟩
        · exact Or.inl q
        · exact Or.inr q
      obtain ⟨hB2, h1, h2, h3⟩ := hB.pop hs2
      have p1 : ∀ a b c, phi a b c ((z_wr X 44 4 (nI k)) 47) k = phi a b c (X 47) k := fun _ _ _ => rfl
      rcases hs with s0 | ⟨s1, hv, hK, h64⟩
      · rw [phi_s0 s0] at hp hμ
        rw [s0] at mp
        rcases hO with (q | q | q | q | q | q | q | q | q | q) | q | q | q | q | q | q | q | q
        · rw [q]; exact s_v42_0 hN hB2 hD rfl rfl (by omega) he me hf md h1 h2 h3 mp s0 q  hp hμ hX1 hM1
        · rw [q]; exact s_v43_0 hN hB2 hD rfl rfl (by omega) he me hf md h1 h2 h3 mp s0 q  hp hμ hX1 hM1
        · rw [q]; exact s_v44 hN hB2 hD rfl rfl (by omega) he me hf md h1 h2 h3 mp s0 q  hp hμ hX1 hM1
        · rw [q]; exact s_v45_0 hN hB2 hD rfl rfl (by omega) he me hf md h1 h2 h3 mp s0 q  hp hμ hX1 hM1
        · rw [q]; exact s_v63 hN hB2 hD rfl rfl (by omega) he me hf md h1 h2 h3 mp s0 q  hp hμ hX1 hM1
        · rw [q]; exact s_v64_0 hN hB2 hD rfl rfl (by omega) he me hf md h1 h2 h3 mp s0 q  hp hμ hX1 hM1
        · rw [q]; exact s_v66_0 hN hB2 hD rfl rfl (by omega) he me hf md h1 h2 h3 mp s0 q  hp hμ hX1 hM1
        · rw [q]; exact s_v67_0 hN hB2 hD rfl rfl (by omega) he me hf md h1 h2 h3 mp s0 q  hp hμ hX1 hM1
        · rw [q]; exact s_v76 hN hB2 hD rfl rfl (by omega) he me hf md h1 h2 h3 mp s0 q  hp hμ hX1 hM1
        · rw [q]; exact s_v89 hN hB2 hD rfl rfl (by omega) he me hf md h1 h2 h3 mp s0 q  hp hμ hX1 hM1
        · exact absurd q h7
        · rw [q]; exact s_v80 hN hB2 hD rfl rfl (by omega) he me hf md h1 h2 h3 mp s0 q  hp hμ hX1 hM1
        · rw [q]; exact s_v81 hN hB2 hD rfl rfl (by omega) he me hf md h1 h2 h3 mp s0 q  hp hμ hX1 hM1
        · rw [q]; exact s_v83 hN hB2 hD rfl rfl (by omega) he me hf md h1 h2 h3 mp s0 q  hp hμ hX1 hM1
        · rw [q]; exact s_v87 hN hB2 hD rfl rfl (by omega) he me hf md h1 h2 h3 mp s0 q  hp hμ hX1 hM1
        · rw [q]; exact s_v88 hN hB2 hD rfl rfl (by omega) he me hf md h1 h2 h3 mp s0 q  hp hμ hX1 hM1
        · rw [q]; exact s_v112 hN hB2 hD rfl rfl (by omega) he me hf md h1 h2 h3 mp s0 q  hp hμ hX1 hM1
        · rw [q]; exact s_v113 hN hB2 hD rfl rfl (by omega) he me hf md h1 h2 h3 mp s0 q  hp hμ hX1 hM1
      · rw [phi_s1 s1] at hp hμ
        rw [s1] at mp
        rcases hK with q | q | q | q | q | q
        · rw [q]; exact s_v42_1 hN hB2 hD rfl rfl (by omega) he me hf md h1 h2 h3 mp s1 q hv hp hμ hX1 hM1
        · rw [q]; exact s_v43_1 hN hB2 hD rfl rfl (by omega) he me hf md h1 h2 h3 mp s1 q hv hp hμ hX1 hM1
        · rw [q]; exact s_v45_1 hN hB2 hD rfl rfl (by omega) he me hf md h1 h2 h3 mp s1 q hv hp hμ hX1 hM1
        · rw [q]; exact s_v64_1 hN hB2 hD rfl rfl (by omega) he me hf md h1 h2 h3 mp s1 q hv (h64 q) hp hμ hX1 hM1
        · rw [q]; exact s_v66_1 hN hB2 hD rfl rfl (by omega) he me hf md h1 h2 h3 mp s1 q hv hp hμ hX1 hM1
        · rw [q]; exact s_v67_1 hN hB2 hD rfl rfl (by omega) he me hf md h1 h2 h3 mp s1 q hv hp hμ hX1 hM1
end
