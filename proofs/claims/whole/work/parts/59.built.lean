/-! all of the text is built, and is the class's program -/
section
variable {N : Nat} {tx : Nat → Int32} {n z : Nat}
def BK (tx : Nat → Int32) (z n : Nat) (M : St) (p : Nat) : Prop := ∀ (x : Itm) (r : List Itm), sk tx p = x :: r → x.2 ≠ 118 → M 67 (z - 1 - ne tx p) = tx p ∧
  (∀ (i : Nat) (sl v : Int32), (prt (tx p))[i]? = some sl → (pil tx z n (n - (p + 1)))[i]? = some v → (sl = 49 → M 68 (z - 1 - ne tx p) = v) ∧ (sl = 50 → M 69 (z - 1 - ne tx p) = v) ∧ (sl = 51 → M 70 (z - 1 - ne tx p) = v) ∧ (sl = 118 → M 71 (z - 1 - ne tx p) = v)) ∧
  (isQ (tx p) → M 71 (z - 1 - ne tx p) = nI (ns tx p))
def FBs (M M' : St) : Prop := (∀ o, o ≠ 65 ∧ o ≠ 77 ∧ (o < 67 ∨ 71 < o) → M' o = M o) ∧ (∀ k, k ≠ 8 ∧ k ≠ 20 ∧ k ≠ 21 → M' 65 k = M 65 k)
theorem FBs.rf {M : St} : FBs M M := ⟨fun _ _ => rfl, fun _ _ => rfl⟩
theorem FBs.tr {A B C : St} (h : FBs A B) (g : FBs B C) : FBs A C := ⟨fun o ho => (g.1 o ho).trans (h.1 o ho), fun k hk => (g.2 k hk).trans (h.2 k hk)⟩
theorem FB.s {e : Nat} {M M' : St} (h : FB e M M') : FBs M M' := ⟨fun o ho => h.1 o (by omega), fun k hk => h.2.1 k (by omega)⟩
theorem FBs.w7 {M M' : St} {k : Nat} {v : Int32} (h : FBs M M') : FBs M (z_wr M' 77 k v) := ⟨fun a ha => by rw [z_wr_o (by omega)]; exact h.1 a ha, fun j hj => by rw [z_wr_o (by omega)]; exact h.2 j hj⟩
theorem FBs.wf {M M' : St} {k : Nat} {v : Int32} (h : FBs M M') (hk : k = 8 ∨ k = 20 ∨ k = 21) : FBs M (z_wr M' 65 k v) := ⟨fun a ha => by rw [z_wr_o (by omega)]; exact h.1 a ha, fun j hj => by rw [z_wr_k (by omega)]; exact h.2 j hj⟩
def TF (tx : Nat → Int32) (n : Nat) (a b : Nat → Int32) : Prop := (∀ k, k < n → a k = tx k) ∧ ∀ k, k < n → ∃ x r, sk tx k = x :: r ∧ b k = (if x.2 = 118 then 1 else 0)
def BI (tx : Nat → Int32) (z n m : Nat) (M : St) : Prop := TF tx n (M 73) (M 74) ∧ M 65 20 = nI (pil tx z n m).length ∧ rk (M 77) (pil tx z n m) ∧ M 65 21 = nI (ns tx (n - m)) ∧ ∀ p, n - m ≤ p → p < n → BK tx z n M p
theorem pil_len : ∀ m, (pil tx z n m).length ≤ m
  | 0 => Nat.le_refl _
  | m + 1 => by
    have := pil_len m
    unfold pil
    rw [List.length_cons, List.length_drop]
    omega
theorem q_m1 (a : Int32) : a + (-1) = a - 1 := (Int32.sub_eq_add_neg a 1).symm
set_option maxHeartbeats 1000000 in
theorem m_bloop (hn : n ≤ 96) (hv : okn tx n) (hz : z = ne tx n) (hz4 : z ≤ 40) : ∀ (w m f : Nat) (M : St), m + w = n → BI tx z n m M → w < f → ∃ M', f_X10_builds_22 N f (nI (z - ne tx (n - m))) (nI (n - m) - 1) M = some M' ∧ (∀ p, p < n → BK tx z n M' p) ∧ M' 65 8 = nI (z - 1) ∧ FBs M M' := by
  intro w
  induction w with
  | zero =>
    intro m f M hm hI hf
    obtain ⟨f, rfl⟩ : ∃ g, f = g + 1 := ⟨f - 1, by omega⟩
    have e : m = n := by omega
    subst e
    obtain ⟨i1, i2, i3, i4, i5⟩ := hI
    obtain ⟨l1, l2⟩ := pil_at (z := z) hv m (Nat.le_refl _)
    rw [Nat.sub_self] at l1 l2
    have hs0 : sk tx 0 = [(0, 49)] := rfl
    rw [hs0] at l1 l2
    obtain ⟨v, hv1⟩ := q_len1 l1
    have hm0 : m ≠ 0 := by
      intro q
      subst q
      have := hv.2
      rw [hs0] at this
      exact absurd this (by simp)
    have hvv : v = nI (z - 1) := by
      obtain ⟨k, rfl⟩ : ∃ k, m = k + 1 := ⟨m - 1, by omega⟩
      have : (pil tx z (k + 1) (k + 1))[0]? = some (idp tx z 0) := by
        unfold pil
        rw [Nat.sub_self]
        rfl
      rw [hv1] at this
      have h2 : v = idp tx z 0 := by simpa using this
      rw [h2]
      unfold idp
      rw [hs0]
      show (if (49 : Int32) = 118 then _ else nI (z - 1 - ne tx 0)) = _
      rw [if_neg (by decide)]
      rfl
    rw [hv1] at i2 i3
    show ∃ M', b_X10_builds_22 N (f_X10_builds_22 N f) _ _ M = some M' ∧ _
    unfold b_X10_builds_22
    rw [Nat.sub_self, if_pos (by decide), m_pop (l := []) (v := v) i2 i3 (by simp), q_bd, q_lt, hvv]
    exact ⟨_, rfl, fun p hp => i5 p (by omega) hp, rfl, (FBs.rf.wf (by omega)).wf (by omega)⟩
  | succ w ih =>
    intro m f M hm hI hf
    obtain ⟨f, rfl⟩ : ∃ g, f = g + 1 := ⟨f - 1, by omega⟩
    obtain ⟨i1, i2, i3, i4, i5⟩ := hI
    obtain ⟨p, hp⟩ : ∃ p, p = n - (m + 1) := ⟨_, rfl⟩
    have hp1 : n - m = p + 1 := by omega
    have hpn : p < n := by omega
    obtain ⟨x, r, hs, hf2⟩ := i1.2 p hpn
    have hok := hv.1 p hpn
    have hpl := pil_len (tx := tx) (z := z) (n := n) m
    obtain ⟨l1, -⟩ := pil_at (z := z) hv m (by omega)
    have ih' := fun M' hI' => ih (m + 1) f M' (by omega) hI' (by omega)
    rw [← hp] at ih'
    rw [hp1] at i4 i5 l1 ⊢
    have hpil : pil tx z n (m + 1) = idp tx z p :: (pil tx z n m).drop (if x.2 = 118 then 0 else (prt (tx p)).length) := by
      show idp tx z (n - (m + 1)) :: (pil tx z n m).drop _ = _
      rw [← hp, hs]
    have hidp : idp tx z p = if x.2 = 118 then tx p - 97 else nI (z - 1 - ne tx p) := by unfold idp; rw [hs]
    show ∃ M', b_X10_builds_22 N (f_X10_builds_22 N f) _ _ M = some M' ∧ _
    unfold b_X10_builds_22 b_X10_builds_78
    rw [nI_pred, if_neg (nI_pos (by omega)), q_gd (q_inl (show p < z_ln 73 from (show p < 96 by omega))), q_gd (q_inl (show p < z_ln 74 from (show p < 96 by omega))), nI_clamp (by omega), hf2, i1.1 p hpn, q_m1]
    by_cases hb : x.2 = 118
    · rw [if_pos hb] at hpil hidp
      obtain ⟨s1, s2, s3⟩ := sk_b hs hb
      rw [List.drop_zero] at hpil
      rw [if_pos hb, if_pos rfl, i2, q_gd (q_inl (show (pil tx z n m).length < z_ln 77 from (show (pil tx z n m).length < 100 by omega))), q_lt, nI_clamp (by omega), show (z_wr M 77 (pil tx z n m).length (tx p - 97)) 65 20 = nI (pil tx z n m).length from i2, nI_1, q_lt, s2]
      have hI' : BI tx z n (m + 1) (z_wr (z_wr M 77 (pil tx z n m).length (tx p - 97)) 65 20 (nI ((pil tx z n m).length + 1))) := by
        refine ⟨i1, ?_, ?_, ?_, ?_⟩
        · rw [hpil]; rfl
        · rw [hpil, hidp]
          exact ⟨q_up_s, rk_eq i3 (fun i hi => q_up_l hi)⟩
        · rw [← hp, ← s3]; exact i4
        · intro p' h1 h2
          rw [← hp] at h1
          by_cases e : p' = p
          · subst e
            intro y r' hy hyb
            rw [hs] at hy
            rw [← (List.cons.inj hy).1] at hyb
            exact absurd hb hyb
          · exact i5 p' (by omega) h2
      obtain ⟨M', r1, r2, r3, r4⟩ := ih' _ hI'
      exact ⟨M', r1, r2, r3, (FBs.rf.w7.wf (by omega)).tr r4⟩
    · rw [if_neg hb] at hpil hidp
      obtain ⟨s1, s2, s3⟩ := sk_e hs hb
      obtain ⟨x', r', hs', -, hok2⟩ := hok
      rw [hs] at hs'
      obtain ⟨rfl, rfl⟩ := List.cons.inj hs'
      have hvs := hok2 hb
      have hmono := ne_mono (tx := tx) (j := p + 1) (k := n) (by omega)
      rw [s1, List.length_append, List.length_map] at l1
      have hPe : (pil tx z n m).take (prt (tx p)).length ++ (pil tx z n m).drop (prt (tx p)).length = pil tx z n m := List.take_append_drop _ _
      have hql : ((pil tx z n m).take (prt (tx p)).length).length = (prt (tx p)).length := by rw [List.length_take]; omega
      generalize hqq : (pil tx z n m).take (prt (tx p)).length = q at hPe hql
      generalize hll : (pil tx z n m).drop (prt (tx p)).length = l at hPe hpil
      have hee : z - ne tx (p + 1) = z - 1 - ne tx p := by omega
      have hll2 : l.length ≤ 96 := by
        have := congrArg List.length hPe
        rw [List.length_append] at this
        omega
      rw [if_neg hb, if_neg (by decide), hee]
      obtain ⟨M1, t1, t2, t3, t4, t5, t6, t7⟩ := m_bone (N := N) (M := M) (c := tx p) (e := z - 1 - ne tx p) (s := ns tx p) (q := q) (l := l) hvs (by omega) hql (by rw [hPe]; exact i2) (by rw [hPe]; exact i3) (by rw [hPe]; omega) (by rw [← s3]; exact i4)
      rw [t1, q_bv, t2, q_gd (q_inl (show l.length < z_ln 77 from (show l.length < 100 by omega))), q_lt, nI_clamp (by omega), show (z_wr M1 77 l.length (nI (z - 1 - ne tx p))) 65 20 = nI l.length from t2, nI_1, nI_1, q_lt]
      have hee2 : z - 1 - ne tx p + 1 = z - ne tx p := by omega
      rw [hee2]
      have hI' : BI tx z n (m + 1) (z_wr (z_wr M1 77 l.length (nI (z - 1 - ne tx p))) 65 20 (nI (l.length + 1))) := by
        refine ⟨?_, ?_, ?_, ?_, ?_⟩
        · show TF tx n (M1 73) (M1 74)
          rw [t7.1 73 (by omega), t7.1 74 (by omega)]; exact i1
        · rw [hpil]; rfl
        · rw [hpil, hidp]
          refine ⟨q_up_s, ?_⟩
          have hrl : rk (M1 77) l := by
            rw [t7.1 77 (by omega)]
            rw [← hPe] at i3
            have : ∀ (a : List Int32), rk (M 77) (a ++ l) → rk (M 77) l := by
              intro a
              induction a with
              | nil => intro h; exact h
              | cons b a iha => intro h; exact iha h.2
            exact this q i3
          exact rk_eq hrl (fun i hi => q_up_l hi)
        · rw [← hp]; exact t3
        · intro p' h1 h2
          rw [← hp] at h1
          by_cases e : p' = p
          · subst e
            intro y r'' hy hyb
            refine ⟨t4, fun i sl v hi hv2 => ?_, t6⟩
            have hnm : n - (p' + 1) = m := by omega
            rw [hnm] at hv2
            have hil : i < (prt (tx p')).length := (List.getElem?_eq_some_iff.mp hi).1
            have hq2 : q[i]? = some v := by
              rw [← hqq, List.getElem?_take, if_pos hil]; exact hv2
            exact t5 i sl v hi hq2
          · intro y r'' hy hyb
            have hlt := exq_lt (tx := tx) (p := p) (q := p') ⟨x, r, hs, hb⟩ (by omega)
            have hlt2 := exq_lt (tx := tx) (p := p') (q := n) ⟨y, r'', hy, hyb⟩ h2
            have hne : z - 1 - ne tx p' ≠ z - 1 - ne tx p := by omega
            obtain ⟨u1, u2, u3⟩ := i5 p' (by omega) h2 y r'' hy hyb
            refine ⟨?_, fun i sl v hi hv2 => ?_, fun hq => ?_⟩
            · show M1 67 _ = _
              rw [t7.2.2 67 _ (by omega) hne]; exact u1
            · obtain ⟨k1, k2, k3, k4⟩ := u2 i sl v hi hv2
              refine ⟨fun q => ?_, fun q => ?_, fun q => ?_, fun q => ?_⟩
              · show M1 68 _ = _
                rw [t7.2.2 68 _ (by omega) hne]; exact k1 q
              · show M1 69 _ = _
                rw [t7.2.2 69 _ (by omega) hne]; exact k2 q
              · show M1 70 _ = _
                rw [t7.2.2 70 _ (by omega) hne]; exact k3 q
              · show M1 71 _ = _
                rw [t7.2.2 71 _ (by omega) hne]; exact k4 q
            · show M1 71 _ = _
              rw [t7.2.2 71 _ (by omega) hne]; exact u3 hq
      obtain ⟨M', r1, r2, r3, r4⟩ := ih' _ hI'
      exact ⟨M', r1, r2, r3, (t7.s.w7.wf (by omega)).tr r4⟩
theorem m_build (hN : 1000 ≤ N) (hn : n ≤ 96) (hv : okn tx n) (hz4 : ne tx n ≤ 40) {M : St} (h16 : M 65 16 = nI n) (h7 : M 65 7 = nI (ns tx n)) (hT : TF tx n (M 73) (M 74)) : ∃ M', f_X10_builds N M = some M' ∧ (∀ p, p < n → BK tx (ne tx n) n M' p) ∧ M' 65 8 = nI (ne tx n - 1) ∧ FBs M M' := by
  unfold f_X10_builds
  rw [q_lt, q_lt, show (z_wr (z_wr M 65 21 (M 65 7)) 65 20 0) 65 16 = nI n from h16, h7]
  have hI : BI tx (ne tx n) n 0 (z_wr (z_wr M 65 21 (nI (ns tx n))) 65 20 0) := ⟨hT, rfl, trivial, rfl, fun p h1 h2 => by omega⟩
  obtain ⟨M', r1, r2, r3, r4⟩ := m_bloop (N := N) hn hv rfl hz4 n 0 N _ (by omega) hI (by omega)
  rw [Nat.sub_zero, Nat.sub_self] at r1
  exact ⟨M', r1, r2, r3, ((FBs.rf.wf (by omega)).wf (by omega)).tr r4⟩
theorem ex_at : ∀ (n e : Nat), e < ne tx n → ∃ p, p < n ∧ exq tx p ∧ ne tx p = e
  | 0, e, h => absurd h (Nat.not_lt_zero _)
  | n + 1, e, h => by
    by_cases he : e < ne tx n
    · obtain ⟨p, p1, p2⟩ := ex_at n e he
      exact ⟨p, by omega, p2⟩
    · cases hs : sk tx n with
      | nil =>
        have : ne tx (n + 1) = ne tx n := by
          show (nx tx n (sq tx n)).1 = (sq tx n).1
          have e : (sq tx n).2 = [] := hs
          unfold nx; rw [e]
        omega
      | cons x r =>
        by_cases hb : x.2 = 118
        · have := (sk_b hs hb).2.1; omega
        · have := (sk_e hs hb).2.1
          exact ⟨n, by omega, ⟨x, r, hs, hb⟩, by omega⟩
theorem ns_mono {j k : Nat} (h : j ≤ k) : ns tx j ≤ ns tx k := by
  induction k with
  | zero => have : j = 0 := by omega
            subst this; exact Nat.le_refl _
  | succ k ih =>
    by_cases e : j = k + 1
    · subst e; exact Nat.le_refl _
    · have := ih (by omega)
      have : ns tx (k + 1) = ns tx k + _ := rfl
      omega
end
