/-! the reference builds its program out of the text -/
section
variable {N : Nat}
def FB (e : Nat) (M M' : St) : Prop := (∀ o, o ≠ 65 ∧ (o < 67 ∨ 71 < o) → M' o = M o) ∧ (∀ k, k ≠ 20 ∧ k ≠ 21 → M' 65 k = M 65 k) ∧ ∀ o i, 67 ≤ o ∧ o ≤ 71 → i ≠ e → M' o i = M o i
theorem FB.rf {e : Nat} {M : St} : FB e M M := ⟨fun _ _ => rfl, fun _ _ => rfl, fun _ _ _ _ => rfl⟩
theorem FB.wr {e : Nat} {M M' : St} {o : Nat} {v : Int32} (h : FB e M M') (ho : 67 ≤ o ∧ o ≤ 71) : FB e M (z_wr M' o e v) := by
  refine ⟨fun a ha => ?_, fun j hj => ?_, fun a i ha hi => ?_⟩
  · rw [z_wr_o (by omega)]; exact h.1 a ha
  · rw [z_wr_o (by omega)]; exact h.2.1 j hj
  · by_cases q : a = o
    · subst q; rw [z_wr_k hi]; exact h.2.2 a i ha hi
    · rw [z_wr_o q]; exact h.2.2 a i ha hi
theorem FB.wf {e : Nat} {M M' : St} {k : Nat} {v : Int32} (h : FB e M M') (hk : k = 20 ∨ k = 21) : FB e M (z_wr M' 65 k v) := by
  refine ⟨fun a ha => ?_, fun j hj => ?_, fun a i ha hi => ?_⟩
  · rw [z_wr_o (by omega)]; exact h.1 a ha
  · rw [z_wr_k (by omega)]; exact h.2.1 j hj
  · rw [z_wr_o (by omega)]; exact h.2.2 a i ha hi
theorem m_pop {M : St} {l : List Int32} {v : Int32} (h : M 65 20 = nI (l.length + 1)) (hr : rk (M 77) (v :: l)) (hl : l.length < 100) : f_X10_pops N M = some (v, z_wr M 65 20 (nI l.length)) := by
  unfold f_X10_pops
  rw [h, q_sub1, q_lt, show (z_wr M 65 20 (nI l.length)) 65 20 = nI l.length from rfl, q_gd (q_inl (show l.length < z_ln 77 from hl)), nI_clamp (by omega), show (z_wr M 65 20 (nI l.length)) 77 = M 77 from rfl, hr.1]
/-- what one expression's building leaves -/
def BO (c : Int32) (e : Nat) (q l : List Int32) (s : Nat) (M M' : St) : Prop :=
  M' 65 20 = nI l.length ∧ M' 65 21 = nI s ∧ M' 67 e = c ∧ (∀ (i : Nat) (sl v : Int32), (prt c)[i]? = some sl → q[i]? = some v → (sl = 49 → M' 68 e = v) ∧ (sl = 50 → M' 69 e = v) ∧ (sl = 51 → M' 70 e = v) ∧ (sl = 118 → M' 71 e = v)) ∧ (isQ c → M' 71 e = nI s) ∧ FB e M M'
theorem q_len1 {q : List Int32} (h : q.length = 1) : ∃ a, q = [a] := by
  match q, h with
  | [a], _ => exact ⟨a, rfl⟩
theorem q_len2 {q : List Int32} (h : q.length = 2) : ∃ a b, q = [a, b] := by
  match q, h with
  | [a, b], _ => exact ⟨a, b, rfl⟩
theorem q_len3 {q : List Int32} (h : q.length = 3) : ∃ a b c, q = [a, b, c] := by
  match q, h with
  | [a, b, c], _ => exact ⟨a, b, c, rfl⟩
theorem q_at1 {P : Int32 → Int32 → Prop} {s a : Int32} (h : P s a) : ∀ (i : Nat) (sl v : Int32), ([s] : List Int32)[i]? = some sl → ([a] : List Int32)[i]? = some v → P sl v := by
  intro i sl v h1 h2
  match i with
  | 0 => simp at h1 h2; subst h1; subst h2; exact h
  | i + 1 => simp at h1
theorem q_at2 {P : Int32 → Int32 → Prop} {s a s2 a2 : Int32} (h : P s a) (h' : P s2 a2) : ∀ (i : Nat) (sl v : Int32), ([s, s2] : List Int32)[i]? = some sl → ([a, a2] : List Int32)[i]? = some v → P sl v := by
  intro i sl v h1 h2
  match i with
  | 0 => simp at h1 h2; subst h1; subst h2; exact h
  | 1 => simp at h1 h2; subst h1; subst h2; exact h'
  | i + 2 => simp at h1
theorem q_at3 {P : Int32 → Int32 → Prop} {s a s2 a2 s3 a3 : Int32} (h : P s a) (h' : P s2 a2) (h'' : P s3 a3) : ∀ (i : Nat) (sl v : Int32), ([s, s2, s3] : List Int32)[i]? = some sl → ([a, a2, a3] : List Int32)[i]? = some v → P sl v := by
  intro i sl v h1 h2
  match i with
  | 0 => simp at h1 h2; subst h1; subst h2; exact h
  | 1 => simp at h1 h2; subst h1; subst h2; exact h'
  | 2 => simp at h1 h2; subst h1; subst h2; exact h''
  | i + 3 => simp at h1
theorem q_or {α : Type} {p q : Prop} [Decidable p] [Decidable q] {a b : α} (h : p ∨ q) : (if p then a else if q then a else b) = a := by
  by_cases hp : p
  · rw [if_pos hp]
  · rw [if_neg hp, if_pos (h.resolve_left hp)]
theorem m_bone {M : St} {c : Int32} {e s : Nat} {q l : List Int32} (hv : vs c) (he : e < 41) (hq : q.length = (prt c).length) (h20 : M 65 20 = nI (q ++ l).length) (hr : rk (M 77) (q ++ l)) (hl : (q ++ l).length ≤ 100) (h21 : M 65 21 = nI (s + (if isQ c then 1 else 0))) : ∃ M', f_X10_buildsOne N c (nI e) M = some M' ∧ BO c e q l s M M' := by
  have e67 : z_in (nI e) (z_ln 67) := q_inl he
  have e68 : z_in (nI e) (z_ln 68) := q_inl he
  have e69 : z_in (nI e) (z_ln 69) := q_inl he
  have e70 : z_in (nI e) (z_ln 70) := q_inl he
  have e71 : z_in (nI e) (z_ln 71) := q_inl he
  have hce : (nI e).toNatClampNeg = e := nI_clamp (by omega)
  unfold f_X10_buildsOne b_X10_buildsOne_25 b_X10_buildsOne_35 b_X10_buildsOne_84 b_X10_buildsOne_104 b_X10_buildsOne_114 b_X10_buildsOne_130
  simp only [hce]
  by_cases hO : isO c
  · obtain ⟨nD, nN⟩ := q_isO_D hO
    by_cases a1 : c = 42 ∨ c = 43 ∨ c = 44 ∨ c = 45 ∨ c = 64 ∨ c = 66 ∨ c = 67
    · have hp : prt c = [49, 50] := if_pos a1
      have nQ : ¬ isQ c := by rcases a1 with q | q | q | q | q | q | q <;> rw [q] <;> decide
      have n76 : ¬ c = 76 := by rcases a1 with q | q | q | q | q | q | q <;> rw [q] <;> decide
      have n83 : ¬ c = 83 := by rcases a1 with q | q | q | q | q | q | q <;> rw [q] <;> decide
      have n70 : ¬ c = 70 := by rcases a1 with q | q | q | q | q | q | q <;> rw [q] <;> decide
      have n89 : ¬ c = 89 := by rcases a1 with q | q | q | q | q | q | q <;> rw [q] <;> decide
      have n63 : ¬ c = 63 := by rcases a1 with q | q | q | q | q | q | q <;> rw [q] <;> decide
      have hm : ∀ S, f_X10_manyOf N c S = some (2, S) := by intro S; rcases a1 with q | q | q | q | q | q | q <;> rw [q] <;> rfl
      rw [hp] at hq
      obtain ⟨v1, v2, rfl⟩ := q_len2 hq
      rw [if_neg nQ, Nat.add_zero] at h21
      rw [q_gd e67, q_lt, if_neg n76, if_neg n83, if_neg n70, m_in0 nD, q_bd, if_pos rfl, m_in0 nN, q_bd, if_pos rfl]
      rw [m_pop (M := z_wr M 67 e c) (l := v2 :: l) (v := v1) h20 hr (by simp at hl ⊢; omega), q_bd, q_gd e68, q_lt, if_neg n89, if_neg n76, if_neg n89, hm, q_bd, if_neg (by decide)]
      rw [m_pop (M := z_wr (z_wr (z_wr M 67 e c) 65 20 (nI (v2 :: l).length)) 68 e v1) (l := l) (v := v2) rfl hr.2 (by simp at hl; omega), q_bd, q_gd e69, q_lt, if_neg n63, m_site0 nQ, q_bd, if_pos rfl]
      refine ⟨_, rfl, rfl, h21, q_up_s, ?_, fun q => absurd q nQ, ((((FB.rf.wr (by omega)).wf (by omega)).wr (by omega)).wf (by omega)).wr (by omega)⟩
      rw [hp]
      exact q_at2 ⟨fun _ => q_up_s, fun q => absurd q (by decide), fun q => absurd q (by decide), fun q => absurd q (by decide)⟩ ⟨fun q => absurd q (by decide), fun _ => q_up_s, fun q => absurd q (by decide), fun q => absurd q (by decide)⟩
    by_cases a2 : c = 63
    · subst a2
      have hp : prt 63 = [49, 50, 51] := rfl
      rw [hp] at hq
      obtain ⟨v1, v2, v3, rfl⟩ := q_len3 hq
      rw [if_neg (by decide), Nat.add_zero] at h21
      rw [q_gd e67, q_lt, if_neg (show ¬ (63 : Int32) = 76 by decide), if_neg (show ¬ (63 : Int32) = 83 by decide), if_neg (show ¬ (63 : Int32) = 70 by decide), m_in0 nD, q_bd, if_pos rfl, m_in0 nN, q_bd, if_pos rfl]
      rw [m_pop (M := z_wr M 67 e 63) (l := v2 :: v3 :: l) (v := v1) h20 hr (by simp at hl ⊢; omega), q_bd, q_gd e68, q_lt, if_neg (show ¬ (63 : Int32) = 89 by decide), if_neg (show ¬ (63 : Int32) = 76 by decide), if_neg (show ¬ (63 : Int32) = 89 by decide)]
      rw [show ∀ S, f_X10_manyOf N 63 S = some (3, S) from fun _ => rfl, q_bd, if_neg (by decide)]
      rw [m_pop (M := z_wr (z_wr (z_wr M 67 e 63) 65 20 (nI (v2 :: v3 :: l).length)) 68 e v1) (l := v3 :: l) (v := v2) rfl hr.2 (by simp at hl ⊢; omega), q_bd, q_gd e69, q_lt, if_pos rfl]
      rw [m_pop (M := z_wr (z_wr (z_wr (z_wr (z_wr M 67 e 63) 65 20 (nI (v2 :: v3 :: l).length)) 68 e v1) 65 20 (nI (v3 :: l).length)) 69 e v2) (l := l) (v := v3) rfl hr.2.2 (by simp at hl; omega), q_bd, q_gd e70, q_lt, m_site0 (by decide), q_bd, if_pos rfl]
      refine ⟨_, rfl, rfl, h21, q_up_s, ?_, fun q => absurd q (by decide), ((((((FB.rf.wr (by omega)).wf (by omega)).wr (by omega)).wf (by omega)).wr (by omega)).wf (by omega)).wr (by omega)⟩
      rw [hp]
      exact q_at3 ⟨fun _ => q_up_s, fun q => absurd q (by decide), fun q => absurd q (by decide), fun q => absurd q (by decide)⟩ ⟨fun q => absurd q (by decide), fun _ => q_up_s, fun q => absurd q (by decide), fun q => absurd q (by decide)⟩ ⟨fun q => absurd q (by decide), fun q => absurd q (by decide), fun _ => q_up_s, fun q => absurd q (by decide)⟩
    by_cases a3 : c = 76
    · subst a3
      have hp : prt 76 = [118, 49, 50] := rfl
      rw [hp] at hq
      obtain ⟨v1, v2, v3, rfl⟩ := q_len3 hq
      rw [if_neg (by decide), Nat.add_zero] at h21
      rw [q_gd e67, q_lt, if_pos rfl]
      rw [m_pop (M := z_wr M 67 e 76) (l := v2 :: v3 :: l) (v := v1) h20 hr (by simp at hl ⊢; omega), q_bd, q_gd e71, q_lt, m_in0 nD, q_bd, if_pos rfl, m_in0 nN, q_bd, if_pos rfl]
      rw [m_pop (M := z_wr (z_wr (z_wr M 67 e 76) 65 20 (nI (v2 :: v3 :: l).length)) 71 e v1) (l := v3 :: l) (v := v2) rfl hr.2 (by simp at hl ⊢; omega), q_bd, q_gd e68, q_lt, if_neg (show ¬ (76 : Int32) = 89 by decide), if_pos rfl]
      rw [m_pop (M := z_wr (z_wr (z_wr (z_wr (z_wr M 67 e 76) 65 20 (nI (v2 :: v3 :: l).length)) 71 e v1) 65 20 (nI (v3 :: l).length)) 68 e v2) (l := l) (v := v3) rfl hr.2.2 (by simp at hl; omega), q_bd, q_gd e69, q_lt, if_neg (show ¬ (76 : Int32) = 63 by decide), m_site0 (by decide), q_bd, if_pos rfl]
      refine ⟨_, rfl, rfl, h21, q_up_s, ?_, fun q => absurd q (by decide), ((((((FB.rf.wr (by omega)).wf (by omega)).wr (by omega)).wf (by omega)).wr (by omega)).wf (by omega)).wr (by omega)⟩
      rw [hp]
      exact q_at3 ⟨fun q => absurd q (by decide), fun q => absurd q (by decide), fun q => absurd q (by decide), fun _ => q_up_s⟩ ⟨fun _ => q_up_s, fun q => absurd q (by decide), fun q => absurd q (by decide), fun q => absurd q (by decide)⟩ ⟨fun q => absurd q (by decide), fun _ => q_up_s, fun q => absurd q (by decide), fun q => absurd q (by decide)⟩
    by_cases a4 : c = 83 ∨ c = 70
    · have hp : prt c = [118, 49] := by rcases a4 with q | q <;> rw [q] <;> rfl
      have nQ : ¬ isQ c := by rcases a4 with q | q <;> rw [q] <;> decide
      have n89 : ¬ c = 89 := by rcases a4 with q | q <;> rw [q] <;> decide
      have hm : ∀ S, f_X10_manyOf N c S = some (-9, S) := by intro S; rcases a4 with q | q <;> rw [q] <;> rfl
      rw [hp] at hq
      obtain ⟨v1, v2, rfl⟩ := q_len2 hq
      rw [if_neg nQ, Nat.add_zero] at h21
      rw [q_gd e67, q_lt, if_neg a3]
      rw [q_or a4]
      rw [m_pop (M := z_wr M 67 e c) (l := v2 :: l) (v := v1) h20 hr (by simp at hl ⊢; omega), q_bd, q_gd e71, q_lt]
      rw [m_in0 nD, q_bd, if_pos rfl, m_in0 nN, q_bd, if_pos rfl]
      rw [m_pop (M := z_wr (z_wr (z_wr M 67 e c) 65 20 (nI (v2 :: l).length)) 71 e v1) (l := l) (v := v2) rfl hr.2 (by simp at hl; omega), q_bd, q_gd e68, q_lt, if_neg n89, if_neg a3, if_neg n89, hm, q_bd, if_pos (by decide), if_neg a2, m_site0 nQ, q_bd, if_pos rfl]
      refine ⟨_, rfl, rfl, h21, q_up_s, ?_, fun q => absurd q nQ, ((((FB.rf.wr (by omega)).wf (by omega)).wr (by omega)).wf (by omega)).wr (by omega)⟩
      rw [hp]
      exact q_at2 ⟨fun q => absurd q (by decide), fun q => absurd q (by decide), fun q => absurd q (by decide), fun _ => q_up_s⟩ ⟨fun _ => q_up_s, fun q => absurd q (by decide), fun q => absurd q (by decide), fun q => absurd q (by decide)⟩
    have n83 : ¬ c = 83 := fun q => a4 (Or.inl q)
    have n70 : ¬ c = 70 := fun q => a4 (Or.inr q)
    by_cases a5 : c = 89
    · subst a5
      have hp : prt 89 = [49, 118, 50] := rfl
      rw [hp] at hq
      obtain ⟨v1, v2, v3, rfl⟩ := q_len3 hq
      rw [if_neg (by decide), Nat.add_zero] at h21
      rw [q_gd e67, q_lt, if_neg (show ¬ (89 : Int32) = 76 by decide), if_neg n83, if_neg n70, m_in0 nD, q_bd, if_pos rfl, m_in0 nN, q_bd, if_pos rfl]
      rw [m_pop (M := z_wr M 67 e 89) (l := v2 :: v3 :: l) (v := v1) h20 hr (by simp at hl ⊢; omega), q_bd, q_gd e68, q_lt, if_pos rfl]
      rw [m_pop (M := z_wr (z_wr (z_wr M 67 e 89) 65 20 (nI (v2 :: v3 :: l).length)) 68 e v1) (l := v3 :: l) (v := v2) rfl hr.2 (by simp at hl ⊢; omega), q_bd, q_gd e71, q_lt, if_neg (show ¬ (89 : Int32) = 76 by decide), if_pos rfl]
      rw [m_pop (M := z_wr (z_wr (z_wr (z_wr (z_wr M 67 e 89) 65 20 (nI (v2 :: v3 :: l).length)) 68 e v1) 65 20 (nI (v3 :: l).length)) 71 e v2) (l := l) (v := v3) rfl hr.2.2 (by simp at hl; omega), q_bd, q_gd e69, q_lt, if_neg (show ¬ (89 : Int32) = 63 by decide), m_site0 (by decide), q_bd, if_pos rfl]
      refine ⟨_, rfl, rfl, h21, q_up_s, ?_, fun q => absurd q (by decide), ((((((FB.rf.wr (by omega)).wf (by omega)).wr (by omega)).wf (by omega)).wr (by omega)).wf (by omega)).wr (by omega)⟩
      rw [hp]
      exact q_at3 ⟨fun _ => q_up_s, fun q => absurd q (by decide), fun q => absurd q (by decide), fun q => absurd q (by decide)⟩ ⟨fun q => absurd q (by decide), fun q => absurd q (by decide), fun q => absurd q (by decide), fun _ => q_up_s⟩ ⟨fun q => absurd q (by decide), fun _ => q_up_s, fun q => absurd q (by decide), fun q => absurd q (by decide)⟩
    have a6 : c = 80 ∨ c = 81 ∨ c = 112 ∨ c = 113 ∨ c = 88 ∨ c = 87 := by
      rcases hO with (q | q | q | q | q | q | q | q | q | q) | q | q | q | q | q | q | q | q
      · exact absurd (by rw [q]; decide) a1
      · exact absurd (by rw [q]; decide) a1
      · exact absurd (by rw [q]; decide) a1
      · exact absurd (by rw [q]; decide) a1
      · exact absurd q a2
      · exact absurd (by rw [q]; decide) a1
      · exact absurd (by rw [q]; decide) a1
      · exact absurd (by rw [q]; decide) a1
      · exact absurd q a3
      · exact absurd q a5
      · exact absurd q n70
      · exact Or.inl q
      · exact Or.inr (Or.inl q)
      · exact absurd q n83
      · exact Or.inr (Or.inr (Or.inr (Or.inr (Or.inr q))))
      · exact Or.inr (Or.inr (Or.inr (Or.inr (Or.inl q))))
      · exact Or.inr (Or.inr (Or.inl q))
      · exact Or.inr (Or.inr (Or.inr (Or.inl q)))
    have hp : prt c = [49] := by rcases a6 with q | q | q | q | q | q <;> rw [q] <;> rfl
    have hm : ∀ S, f_X10_manyOf N c S = some (1, S) := by intro S; rcases a6 with q | q | q | q | q | q <;> rw [q] <;> rfl
    rw [hp] at hq
    obtain ⟨v1, rfl⟩ := q_len1 hq
    rw [q_gd e67, q_lt, if_neg a3, if_neg n83, if_neg n70, m_in0 nD, q_bd, if_pos rfl, m_in0 nN, q_bd, if_pos rfl]
    rw [m_pop (M := z_wr M 67 e c) (l := l) (v := v1) h20 hr (by simp at hl; omega), q_bd, q_gd e68, q_lt, if_neg a5, if_neg a3, if_neg a5, hm, q_bd, if_pos (by decide), if_neg a2]
    by_cases hQ : isQ c
    · rw [if_pos hQ] at h21
      rw [m_site1 hQ, q_bd, if_neg (by decide), show (z_wr (z_wr (z_wr M 67 e c) 65 20 (nI l.length)) 68 e v1) 65 21 = nI (s + 1) from h21, q_sub1, q_lt, q_gd e71, q_lt]
      refine ⟨_, rfl, rfl, rfl, q_up_s, ?_, fun _ => q_up_s, ((((FB.rf.wr (by omega)).wf (by omega)).wr (by omega)).wf (by omega)).wr (by omega)⟩
      rw [hp]
      exact q_at1 ⟨fun _ => q_up_s, fun q => absurd q (by decide), fun q => absurd q (by decide), fun q => absurd q (by decide)⟩
    · rw [if_neg hQ, Nat.add_zero] at h21
      rw [m_site0 hQ, q_bd, if_pos rfl]
      refine ⟨_, rfl, rfl, h21, q_up_s, ?_, fun q => absurd q hQ, ((FB.rf.wr (by omega)).wf (by omega)).wr (by omega)⟩
      rw [hp]
      exact q_at1 ⟨fun _ => q_up_s, fun q => absurd q (by decide), fun q => absurd q (by decide), fun q => absurd q (by decide)⟩
  · have hp := prt_O hO
    have nQ : ¬ isQ c := fun q => hO (by rcases q with q | q <;> rw [q] <;> decide)
    have n76 : ¬ c = 76 := fun q => hO (by rw [q]; decide)
    have n83 : ¬ c = 83 := fun q => hO (by rw [q]; decide)
    have n70 : ¬ c = 70 := fun q => hO (by rw [q]; decide)
    rw [hp] at hq
    have q0 : q = [] := List.length_eq_zero_iff.mp hq
    subst q0
    rw [if_neg nQ, Nat.add_zero] at h21
    rw [q_gd e67, q_lt, if_neg n76, if_neg n83, if_neg n70]
    have fin : BO c e [] l s M (z_wr M 67 e c) := ⟨h20, h21, q_up_s, fun i sl v h => by rw [hp] at h; simp at h, fun q => absurd q nQ, FB.rf.wr (by omega)⟩
    by_cases hD : isD c
    · rw [m_in1 hD, q_bd, if_neg (by decide)]
      exact ⟨_, rfl, fin⟩
    · rw [m_in0 hD, q_bd, if_pos rfl]
      have hNm : isN c := by rcases hv with q | q | q; exact absurd q hD; exact q; exact absurd q hO
      rw [m_in1 hNm, q_bd, if_neg (by decide)]
      exact ⟨_, rfl, fin⟩
end
