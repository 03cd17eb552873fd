/-! the grammar: what is still to come, by places -/
abbrev Itm : Type := Nat × Int32
/-- what a sign has, in order: 49 the first, 50 the second, 51 the third expression, 118 a variable -/
def prt (c : Int32) : List Int32 := if c = 42 ∨ c = 43 ∨ c = 44 ∨ c = 45 ∨ c = 64 ∨ c = 66 ∨ c = 67 then [49, 50] else if c = 63 then [49, 50, 51] else if c = 76 then [118, 49, 50] else if c = 83 ∨ c = 70 then [118, 49] else if c = 80 ∨ c = 81 ∨ c = 112 ∨ c = 113 ∨ c = 88 ∨ c = 87 then [49] else if c = 89 then [49, 118, 50] else []
abbrev isQ (c : Int32) : Prop := c = 112 ∨ c = 113
def vs (c : Int32) : Prop := isD c ∨ isN c ∨ isO c
/-- expressions told, what is to come (the next first; an owner e is e + 1, none is 0) -/
def nx (tx : Nat → Int32) (k : Nat) (p : Nat × List Itm) : Nat × List Itm := match p.2 with
  | [] => p
  | x :: r => if x.2 = 118 then (p.1, r) else (p.1 + 1, (prt (tx k)).map (fun s => (p.1 + 1, s)) ++ r)
def sq (tx : Nat → Int32) : Nat → Nat × List Itm
  | 0 => (0, [(0, 49)])
  | k + 1 => nx tx k (sq tx k)
def ne (tx : Nat → Int32) (k : Nat) : Nat := (sq tx k).1
def sk (tx : Nat → Int32) (k : Nat) : List Itm := (sq tx k).2
/-- the letter at k goes on -/
def ok1 (tx : Nat → Int32) (k : Nat) : Prop := ∃ x r, sk tx k = x :: r ∧ (x.2 = 118 → isN (tx k)) ∧ (x.2 ≠ 118 → vs (tx k))
/-- sites told -/
def ns (tx : Nat → Int32) : Nat → Nat
  | 0 => 0
  | k + 1 => ns tx k + (match sk tx k with
    | [] => 0
    | x :: _ => if x.2 = 118 then 0 else if isQ (tx k) then 1 else 0)
theorem sk_b {tx : Nat → Int32} {k : Nat} {x : Itm} {r : List Itm} (h : sk tx k = x :: r) (hb : x.2 = 118) : sk tx (k + 1) = r ∧ ne tx (k + 1) = ne tx k ∧ ns tx (k + 1) = ns tx k := by
  have e : (sq tx k).2 = x :: r := h
  refine ⟨?_, ?_, ?_⟩
  · show (nx tx k (sq tx k)).2 = r
    unfold nx; rw [e]; simp only; rw [if_pos hb]
  · show (nx tx k (sq tx k)).1 = (sq tx k).1
    unfold nx; rw [e]; simp only; rw [if_pos hb]
  · show ns tx k + _ = ns tx k
    rw [h]; simp only; rw [if_pos hb]
    rfl
theorem sk_e {tx : Nat → Int32} {k : Nat} {x : Itm} {r : List Itm} (h : sk tx k = x :: r) (hb : x.2 ≠ 118) : sk tx (k + 1) = (prt (tx k)).map (fun s => (ne tx k + 1, s)) ++ r ∧ ne tx (k + 1) = ne tx k + 1 ∧ ns tx (k + 1) = ns tx k + (if isQ (tx k) then 1 else 0) := by
  have e : (sq tx k).2 = x :: r := h
  refine ⟨?_, ?_, ?_⟩
  · show (nx tx k (sq tx k)).2 = _
    unfold nx; rw [e]; simp only; rw [if_neg hb]; rfl
  · show (nx tx k (sq tx k)).1 = (sq tx k).1 + 1
    unfold nx; rw [e]; simp only; rw [if_neg hb]
  · show ns tx k + _ = _
    rw [h]; simp only; rw [if_neg hb]
theorem ne_step {tx : Nat → Int32} {k : Nat} : ne tx (k + 1) = ne tx k ∨ ne tx (k + 1) = ne tx k + 1 := by
  cases h : sk tx k with
  | nil =>
    left
    show (nx tx k (sq tx k)).1 = (sq tx k).1
    have e : (sq tx k).2 = [] := h
    unfold nx; rw [e]
  | cons x r =>
    by_cases hb : x.2 = 118
    · exact Or.inl (sk_b h hb).2.1
    · exact Or.inr (sk_e h hb).2.1
theorem ne_mono {tx : Nat → Int32} {j k : Nat} (h : j ≤ k) : ne tx j ≤ ne tx k := by
  induction k with
  | zero => have : j = 0 := by omega
            subst this; exact Nat.le_refl _
  | succ k ih =>
    by_cases e : j = k + 1
    · subst e; exact Nat.le_refl _
    · have := ih (by omega)
      rcases ne_step (tx := tx) (k := k) with q | q <;> omega
theorem prt_nd (c : Int32) : (prt c).Nodup ∧ (prt c).length ≤ 3 := by
  unfold prt
  split
  · decide
  · split
    · decide
    · split
      · decide
      · split
        · decide
        · split
          · decide
          · split <;> decide
/-- no item comes twice, owners have been told -/
theorem sk_ok {tx : Nat → Int32} : ∀ k, (sk tx k).Nodup ∧ (∀ x ∈ sk tx k, x.1 ≤ ne tx k) ∧ (sk tx k).length ≤ 1 + 2 * k
  | 0 => ⟨by show ([(0, 49)] : List Itm).Nodup; decide, fun x hx => by have e : x = (0, 49) := List.mem_singleton.mp hx; subst e; exact Nat.zero_le _, by show ([(0, 49)] : List Itm).length ≤ _; decide⟩
  | k + 1 => by
    obtain ⟨h1, h2, h3⟩ := sk_ok (tx := tx) k
    cases h : sk tx k with
    | nil =>
      have e : sk tx (k + 1) = [] := by
        show (nx tx k (sq tx k)).2 = []
        have e : (sq tx k).2 = [] := h
        unfold nx; rw [e]; exact e
      rw [e]
      exact ⟨List.nodup_nil, fun x hx => absurd hx List.not_mem_nil, Nat.zero_le _⟩
    | cons x r =>
      rw [h] at h1 h2 h3
      have h1' := List.nodup_cons.mp h1
      by_cases hb : x.2 = 118
      · obtain ⟨e1, e2, -⟩ := sk_b h hb
        rw [e1, e2]
        exact ⟨h1'.2, fun y hy => h2 y (List.mem_cons_of_mem _ hy), by simp at h3; omega⟩
      · obtain ⟨e1, e2, -⟩ := sk_e h hb
        obtain ⟨p1, p2⟩ := prt_nd (tx k)
        rw [e1, e2]
        refine ⟨?_, fun y hy => ?_, by simp at h3 ⊢; omega⟩
        · rw [List.nodup_append]
          refine ⟨?_, h1'.2, fun a ha b hb2 => ?_⟩
          · unfold List.Nodup at p1 ⊢
            rw [List.pairwise_map]
            exact p1.imp (fun hab q => hab (Prod.mk.inj q).2)
          · obtain ⟨s, -, rfl⟩ := List.mem_map.mp ha
            have := h2 b (List.mem_cons_of_mem _ hb2)
            intro q
            rw [← q] at this
            simp at this
            omega
        · rcases List.mem_append.mp hy with hy | hy
          · obtain ⟨s, -, rfl⟩ := List.mem_map.mp hy
            exact Nat.le_refl _
          · have := h2 y (List.mem_cons_of_mem _ hy)
            omega
/-- one that was taken doesn't come again -/
theorem sk_gone {tx : Nat → Int32} {j : Nat} {x : Itm} {r : List Itm} (h : sk tx j = x :: r) : ∀ k, j < k → x ∉ sk tx k := by
  intro k
  induction k with
  | zero => intro q; omega
  | succ k ih =>
    intro hk
    obtain ⟨h1, h2, -⟩ := sk_ok (tx := tx) j
    rw [h] at h1 h2
    have hx : x.1 ≤ ne tx j := h2 x List.mem_cons_self
    by_cases e : j = k
    · subst e
      have h1' := List.nodup_cons.mp h1
      by_cases hb : x.2 = 118
      · rw [(sk_b h hb).1]; exact h1'.1
      · rw [(sk_e h hb).1]
        intro q
        rcases List.mem_append.mp q with q | q
        · obtain ⟨s, -, q⟩ := List.mem_map.mp q
          rw [← q] at hx
          simp at hx
          omega
        · exact h1'.1 q
    · have hg := ih (by omega)
      cases hh : sk tx k with
      | nil =>
        have e2 : sk tx (k + 1) = [] := by
          show (nx tx k (sq tx k)).2 = []
          have e : (sq tx k).2 = [] := hh
          unfold nx; rw [e]; exact e
        rw [e2]; exact List.not_mem_nil
      | cons y r2 =>
        rw [hh] at hg
        by_cases hb : y.2 = 118
        · rw [(sk_b hh hb).1]; exact fun q => hg (List.mem_cons_of_mem _ q)
        · rw [(sk_e hh hb).1]
          intro q
          rcases List.mem_append.mp q with q | q
          · obtain ⟨s, -, q⟩ := List.mem_map.mp q
            have := ne_mono (tx := tx) (j := j) (k := k) (by omega)
            rw [← q] at hx
            simp at hx
            omega
          · exact hg (List.mem_cons_of_mem _ q)
/-- the letters are a program's -/
def okn (tx : Nat → Int32) (n : Nat) : Prop := (∀ k, k < n → ok1 tx k) ∧ sk tx n = []
/-- which expression, or variable, is told at p, by the reference's numbers -/
def idp (tx : Nat → Int32) (z p : Nat) : Int32 := match sk tx p with
  | [] => 0
  | x :: _ => if x.2 = 118 then tx p - 97 else nI (z - 1 - ne tx p)
/-- the pile behind the places from k on (m: how many are left) -/
def pil (tx : Nat → Int32) (z n : Nat) : Nat → List Int32
  | 0 => []
  | m + 1 => idp tx z (n - (m + 1)) :: (pil tx z n m).drop (match sk tx (n - (m + 1)) with
    | [] => 0
    | x :: _ => if x.2 = 118 then 0 else (prt (tx (n - (m + 1)))).length)
/-- each item is told at a place of its own -/
theorem pil_at {tx : Nat → Int32} {z n : Nat} (hv : okn tx n) : ∀ m, m ≤ n → (pil tx z n m).length = (sk tx (n - m)).length ∧ ∀ (i : Nat) (x : Itm), (sk tx (n - m))[i]? = some x → ∃ p, n - m ≤ p ∧ p < n ∧ (∃ r, sk tx p = x :: r) ∧ (pil tx z n m)[i]? = some (idp tx z p)
  | 0, _ => by
    rw [Nat.sub_zero, hv.2]
    exact ⟨rfl, fun i x h => by simp at h⟩
  | m + 1, hm => by
    obtain ⟨hl, ih⟩ := pil_at hv m (by omega)
    have ek : n - m = n - (m + 1) + 1 := by omega
    obtain ⟨x, r, hs, -, -⟩ := hv.1 (n - (m + 1)) (by omega)
    have hst : sk tx (n - m) = (if x.2 = 118 then [] else (prt (tx (n - (m + 1)))).map (fun s => (ne tx (n - (m + 1)) + 1, s))) ++ r := by
      rw [ek]
      by_cases hb : x.2 = 118
      · rw [if_pos hb, (sk_b hs hb).1]; rfl
      · rw [if_neg hb, (sk_e hs hb).1]
    have hd : (match sk tx (n - (m + 1)) with
      | [] => 0
      | x :: _ => if x.2 = 118 then 0 else (prt (tx (n - (m + 1)))).length) = (if x.2 = 118 then ([] : List Itm) else (prt (tx (n - (m + 1)))).map (fun s => (ne tx (n - (m + 1)) + 1, s))).length := by
      rw [hs]
      by_cases hb : x.2 = 118
      · simp [hb]
      · simp [hb]
    generalize hq : (if x.2 = 118 then ([] : List Itm) else (prt (tx (n - (m + 1)))).map (fun s => (ne tx (n - (m + 1)) + 1, s))) = q at hst hd
    have hp : pil tx z n (m + 1) = idp tx z (n - (m + 1)) :: (pil tx z n m).drop q.length := by
      rw [← hd]; rfl
    rw [hp]
    rw [hst] at hl ih
    refine ⟨?_, fun i y hi => ?_⟩
    · rw [hs, List.length_cons, List.length_cons, List.length_drop, hl, List.length_append]
      omega
    · rw [hs] at hi
      cases i with
      | zero =>
        simp at hi
        subst hi
        exact ⟨n - (m + 1), Nat.le_refl _, by omega, ⟨r, hs⟩, by simp⟩
      | succ i =>
        simp at hi
        obtain ⟨p, p1, p2, p3, p4⟩ := ih (q.length + i) y (by rw [List.getElem?_append_right (by omega)]; simpa using hi)
        refine ⟨p, by omega, p2, p3, ?_⟩
        simp [List.getElem?_drop]
        exact p4
