/-! what the two machines do alike to their rows -/
theorem RW.ext {sg en : Nat → Int32} {z : Nat} {kx wx wf ws wo me mp mf md mi wx' wf' ws' wo' me' mp' mf' md' mi' : Nat → Int32} {V : Int32 → Int32 → Prop} {tn cn h : Nat} (H : RW sg en z kx wx wf ws wo me mp mf md mi V tn cn h)
    (hx : ∀ i, i < h → wx' i = wx i ∧ wf' i = wf i ∧ ws' i = ws i ∧ wo' i = wo i ∧ me' i = me i ∧ mp' i = mp i ∧ mf' i = mf i ∧ md' i = md i ∧ mi' i = mi i)
    (hn : WE sg en z kx V tn cn (wx' h) (wf' h) (ws' h) (wo' h) (me' h) (mp' h) (mf' h) (md' h) (mi' h)) : RW sg en z kx wx' wf' ws' wo' me' mp' mf' md' mi' V tn cn (h + 1) := by
  intro i hi
  by_cases e : i = h
  · subst e; exact hn
  · obtain ⟨e1, e2, e3, e4, e5, e6, e7, e8, e9⟩ := hx i (by omega)
    rw [e1, e2, e3, e4, e5, e6, e7, e8, e9]
    exact H i (by omega)
theorem RC.ext {va vl vo ml mf mc mb va' vl' vo' ml' mf' mc' mb' : Nat → Int32} {V : Int32 → Int32 → Prop} {cn : Nat} (H : RC va vl vo ml mf mc mb V cn)
    (hx : ∀ i, i < cn → va' i = va i ∧ vl' i = vl i ∧ vo' i = vo i ∧ ml' i = ml i ∧ mf' (i + 1) = mf (i + 1) ∧ mc' (i + 1) = mc (i + 1) ∧ mb' (i + 1) = mb (i + 1))
    (hn : va' cn = mf' (cn + 1) ∧ mc' (cn + 1) = nI cn ∧ FR (vo' cn) (mb' (cn + 1)) cn ∧ V (vl' cn) (ml' cn)) : RC va' vl' vo' ml' mf' mc' mb' V (cn + 1) := by
  intro i hi
  by_cases e : i = cn
  · subst e; exact hn
  · obtain ⟨e1, e2, e3, e4, e5, e6, e7⟩ := hx i (by omega)
    rw [e1, e2, e3, e4, e5, e6, e7]
    exact H i (by omega)
theorem phi_s {a b c h : Nat} {ws : Nat → Int32} : phi a b c ws (h + 1) = phi a b c ws h + (if ws h = 0 then a else if ws h = 1 then b else c) := rfl
theorem phi_s0 {a b c h : Nat} {ws : Nat → Int32} (e : ws h = 0) : phi a b c ws (h + 1) = phi a b c ws h + a := by rw [phi_s, if_pos e]
theorem phi_s1 {a b c h : Nat} {ws : Nat → Int32} (e : ws h = 1) : phi a b c ws (h + 1) = phi a b c ws h + b := by rw [phi_s, e, if_neg (by decide), if_pos rfl]
theorem phi_s2 {a b c h : Nat} {ws : Nat → Int32} (e : ws h = 2) : phi a b c ws (h + 1) = phi a b c ws h + c := by rw [phi_s, e, if_neg (by decide), if_neg (by decide)]
section
variable {N : Nat} {X M : St} {z h st dp cn tn vn fn μ : Nat} {θ : Nat → Nat}
theorem RB.bds (hB : RB X M z h st dp cn tn vn fn θ) : h ≤ st ∧ st ≤ 400 ∧ dp ≤ 12 ∧ cn ≤ st ∧ tn ≤ st ∧ vn ≤ 2 * st := by
  obtain ⟨b1, b2, b3, b4, b5, b6, b7, b8⟩ := hB
  obtain ⟨a1, a2, a3, a4, a5, a6, a7, a8, a9, a10, a11, a12, a13, a14, a15, a16, a17, a18⟩ := b2
  obtain ⟨p1, p2, p3, p4⟩ := b3
  omega
/-- one that waits is taken off, before its last stage -/
theorem RB.pop (hB : RB X M z (h + 1) st dp cn tn vn fn θ) (hs : X 47 h = 0 ∨ X 47 h = 1) : RB (z_wr X 44 4 (nI h)) (z_wr M 65 55 (nI h)) z h st dp cn tn vn fn θ ∧ cn + phi 1 1 0 (X 47) h + 1 ≤ st ∧ tn + phi 1 1 0 (X 47) h + 1 ≤ st ∧ vn + phi 1 1 0 (X 47) h + 1 ≤ 2 * st := by
  obtain ⟨b1, b2, b3, b4, b5, b6, b7, b8⟩ := hB
  obtain ⟨a1, a2, a3, a4, a5, a6, a7, a8, a9, a10, a11, a12, a13, a14, a15, a16, a17, a18⟩ := b2
  obtain ⟨p1, p2, p3, p4⟩ := b3
  have q1 : phi 0 0 1 (X 47) (h + 1) = phi 0 0 1 (X 47) h := by rcases hs with e | e <;> simp [phi_s, e]
  have q2 : phi 1 1 0 (X 47) (h + 1) = phi 1 1 0 (X 47) h + 1 := by rcases hs with e | e <;> simp [phi_s, e]
  rw [q1] at p1
  rw [q2] at p2 p3 p4
  have hRP : RP (X 47) h st dp cn tn vn := ⟨p1, by omega, by omega, by omega⟩
  refine ⟨⟨b1, ⟨a1, rfl, rfl, by omega, a5, a6, a7, a8, a9, a10, a11, a12, a13, a14, a15, a16, a17, a18⟩, hRP, b4, b5, b6, b7, fun i hi => b8 i (by omega)⟩, by omega, by omega, by omega⟩
/-- a call's mark is taken off -/
theorem RB.pop2 (hB : RB X M z (h + 1) st dp cn tn vn fn θ) (hs : X 47 h = 2) : 0 < dp ∧ RB (z_wr (z_wr X 44 4 (nI h)) 29 11 (nI (dp - 1))) (z_wr (z_wr M 65 55 (nI h)) 65 63 (nI (dp - 1))) z h st (dp - 1) cn tn vn fn θ := by
  obtain ⟨b1, b2, b3, b4, b5, b6, b7, b8⟩ := hB
  obtain ⟨a1, a2, a3, a4, a5, a6, a7, a8, a9, a10, a11, a12, a13, a14, a15, a16, a17, a18⟩ := b2
  obtain ⟨p1, p2, p3, p4⟩ := b3
  rw [phi_s2 hs] at p1 p2 p3 p4
  refine ⟨by omega, ⟨b1, ⟨a1, rfl, rfl, by omega, a5, a6, a7, rfl, rfl, by omega, a11, a12, a13, a14, a15, a16, a17, a18⟩, ⟨?_, p2, p3, p4⟩, b4, b5, b6, b7, fun i hi => b8 i (by omega)⟩⟩
  show phi 0 0 1 (X 47) h = dp - 1
  omega
/-- a step is counted -/
theorem RB.step (hB : RB X M z h st dp cn tn vn fn θ) (hs : st < 400) : RB (z_wr X 35 2 (nI (st + 1))) (z_wr M 65 62 (nI (st + 1))) z h (st + 1) dp cn tn vn fn θ := by
  obtain ⟨b1, b2, b3, b4, b5, b6, b7, b8⟩ := hB
  obtain ⟨a1, a2, a3, a4, a5, a6, a7, a8, a9, a10, a11, a12, a13, a14, a15, a16, a17, a18⟩ := b2
  obtain ⟨p1, p2, p3, p4⟩ := b3
  have hRP : RP (X 47) h (st + 1) dp cn tn vn := ⟨p1, by omega, by omega, by omega⟩
  exact ⟨b1, ⟨a1, a2, a3, by omega, by omega, rfl, rfl, a8, a9, a10, a11, a12, a13, a14, a15, a16, a17, a18⟩, hRP, b4, b5, b6, b7, b8⟩
theorem phi_p {a b c h : Nat} {ws : Nat → Int32} {v : Int32} : phi a b c (q_up ws h v) (h + 1) = phi a b c ws h + (if v = 0 then a else if v = 1 then b else c) := by rw [phi_s, phi_up, q_up_s]
/-- one more waits -/
theorem RB.push0 {e : Nat} {b : Int32} (hB : RB X M z h st dp cn tn vn fn θ) (hh : h + 1 ≤ st) (he : e < z) (ho : isO (X 3 e)) (h7 : X 3 e ≠ 70) (hf : FR b (M 65 58) cn) (hd : M 65 59 = X 8 e) (h1 : cn + phi 1 1 0 (X 47) h + 1 ≤ st) (h2 : tn + phi 1 1 0 (X 47) h + 1 ≤ st) (h3 : vn + phi 1 1 0 (X 47) h + 1 ≤ 2 * st) :
    RB (z_wr (z_wr (z_wr (z_wr (z_wr X 45 h (nI e)) 46 h b) 47 h 0) 48 h 0) 44 4 (nI (h + 1))) (z_wr (z_wr (z_wr (z_wr (z_wr M 93 h (nI (z - 1 - e))) 94 h 0) 95 h (M 65 58)) 96 h (M 65 59)) 65 55 (nI (h + 1))) z (h + 1) st dp cn tn vn fn θ := by
  obtain ⟨b1, b2, b3, b4, b5, b6, b7, b8⟩ := hB
  obtain ⟨a1, a2, a3, a4, a5, a6, a7, a8, a9, a10, a11, a12, a13, a14, a15, a16, a17, a18⟩ := b2
  obtain ⟨p1, p2, p3, p4⟩ := b3
  have hRP : RP (q_up (X 47) h 0) (h + 1) st dp cn tn vn := by
    unfold RP
    rw [phi_p, phi_p]
    exact ⟨by rw [if_pos rfl]; exact p1, by rw [if_pos rfl]; omega, by rw [if_pos rfl]; omega, by rw [if_pos rfl]; omega⟩
  refine ⟨b1, ⟨a1, rfl, rfl, hh, a5, a6, a7, a8, a9, a10, a11, a12, a13, a14, a15, a16, a17, a18⟩, hRP, b4, b5, b6, b7, ?_⟩
  refine RW.ext b8 (fun i hi => ⟨q_up_l hi, q_up_l hi, q_up_l hi, q_up_l hi, q_up_l hi, q_up_l hi, q_up_l hi, q_up_l hi, rfl⟩) ⟨e, he, q_up_s, Or.inr ⟨Or.inl q_up_s, ho, h7, q_up_s, ?_, ?_, ?_⟩⟩
  · exact (q_up_s (f := M 94) (k := h)).trans (q_up_s (f := X 47) (k := h)).symm
  · have e1 : q_up (X 46) h b h = b := q_up_s
    have e2 : q_up (M 95) h (M 65 58) h = M 65 58 := q_up_s
    show FR (q_up (X 46) h b h) (q_up (M 95) h (M 65 58) h) cn
    rw [e1, e2]; exact hf
  · exact (q_up_s (f := M 96) (k := h)).trans hd
theorem RB.push1 {e : Nat} {b w w' : Int32} (hB : RB X M z h st dp cn tn vn fn θ) (hh : h + 1 ≤ st) (he : e < z) (hk : isK (X 3 e)) (hm : M 93 h = nI (z - 1 - e)) (hf : FR b (M 95 h) cn) (hd : M 96 h = X 8 e) (hv : gV M θ tn vn w w') (h4 : X 3 e = 64 → ∃ t, t < tn ∧ w = nI (10000 + t) ∧ X 41 t = 4) (h1 : cn + phi 1 1 0 (X 47) h + 1 ≤ st) (h2 : tn + phi 1 1 0 (X 47) h + 1 ≤ st) (h3 : vn + phi 1 1 0 (X 47) h + 1 ≤ 2 * st) :
    RB (z_wr (z_wr (z_wr (z_wr (z_wr X 45 h (nI e)) 46 h b) 47 h 1) 48 h w) 44 4 (nI (h + 1))) (z_wr (z_wr (z_wr M 65 55 (nI (h + 1))) 94 h 1) 97 h w') z (h + 1) st dp cn tn vn fn θ := by
  obtain ⟨b1, b2, b3, b4, b5, b6, b7, b8⟩ := hB
  obtain ⟨a1, a2, a3, a4, a5, a6, a7, a8, a9, a10, a11, a12, a13, a14, a15, a16, a17, a18⟩ := b2
  obtain ⟨p1, p2, p3, p4⟩ := b3
  have hRP : RP (q_up (X 47) h 1) (h + 1) st dp cn tn vn := by
    unfold RP
    rw [phi_p, phi_p, if_neg (by decide), if_pos rfl, if_neg (by decide), if_pos rfl]
    exact ⟨p1, by omega, by omega, by omega⟩
  refine ⟨b1, ⟨a1, rfl, rfl, hh, a5, a6, a7, a8, a9, a10, a11, a12, a13, a14, a15, a16, a17, a18⟩, hRP, b4, b5, b6, b7, ?_⟩
  have e0 : ∀ (f : Nat → Int32) (x : Int32), q_up f h x h = x := fun f x => q_up_s
  refine RW.ext b8 (fun i hi => ⟨q_up_l hi, q_up_l hi, q_up_l hi, q_up_l hi, rfl, q_up_l hi, rfl, rfl, q_up_l hi⟩) ?_
  show WE (X 3) (X 8) z (X 41) (gV M θ tn vn) tn cn (q_up (X 45) h (nI e) h) (q_up (X 46) h b h) (q_up (X 47) h 1 h) (q_up (X 48) h w h) (M 93 h) (q_up (M 94) h 1 h) (M 95 h) (M 96 h) (q_up (M 97) h w' h)
  rw [e0, e0, e0, e0, e0, e0]
  refine ⟨e, he, rfl, Or.inr ⟨Or.inr ⟨rfl, hv, hk, h4⟩, ?_, ?_, hm, rfl, hf, hd⟩⟩
  · rcases hk with q | q | q | q | q | q <;> rw [q] <;> decide
  · rcases hk with q | q | q | q | q | q <;> rw [q] <;> decide
theorem RB.push2 {e : Nat} {b : Int32} (hB : RB X M z h st dp cn tn vn fn θ) (hh : h + 1 ≤ st) (he : e < z) (hk : X 3 e = 64) (hdp : dp < 12) {g3 : Int32} :
    RB (z_wr (z_wr (z_wr (z_wr (z_wr (z_wr (z_wr X 29 11 (nI (dp + 1))) 35 3 g3) 45 h (nI e)) 46 h b) 47 h 2) 48 h 0) 44 4 (nI (h + 1))) (z_wr (z_wr (z_wr (z_wr (z_wr (z_wr (z_wr M 65 63 (nI (dp + 1))) 65 64 g3) 93 h (-1)) 94 h 0) 95 h (M 65 58)) 96 h (M 65 59)) 65 55 (nI (h + 1))) z (h + 1) st (dp + 1) cn tn vn fn θ := by
  obtain ⟨b1, b2, b3, b4, b5, b6, b7, b8⟩ := hB
  obtain ⟨a1, a2, a3, a4, a5, a6, a7, a8, a9, a10, a11, a12, a13, a14, a15, a16, a17, a18⟩ := b2
  obtain ⟨p1, p2, p3, p4⟩ := b3
  have hRP : RP (q_up (X 47) h 2) (h + 1) st (dp + 1) cn tn vn := by
    unfold RP
    rw [phi_p, phi_p, if_neg (by decide), if_neg (by decide), if_neg (by decide), if_neg (by decide)]
    exact ⟨by omega, by omega, by omega, by omega⟩
  refine ⟨b1, ⟨a1, rfl, rfl, hh, a5, a6, a7, rfl, rfl, by omega, rfl, a12, a13, a14, a15, a16, a17, a18⟩, hRP, b4, b5, b6, b7, ?_⟩
  refine RW.ext b8 (fun i hi => ⟨q_up_l hi, q_up_l hi, q_up_l hi, q_up_l hi, q_up_l hi, q_up_l hi, q_up_l hi, q_up_l hi, rfl⟩) ⟨e, he, q_up_s, Or.inl ⟨q_up_s, hk, q_up_s⟩⟩
/-- a new cell -/
theorem RB.cell {a v v' f f' : Int32} (hB : RB X M z h st dp cn tn vn fn θ) (hv : gV M θ tn vn v v') (hf : FR f f' cn) (h1 : cn + phi 1 1 0 (X 47) h + 1 ≤ st) :
    RB (z_wr (z_wr (z_wr (z_wr X 37 cn a) 38 cn v) 39 cn f) 36 3 (nI (cn + 1))) (z_wr (z_wr (z_wr (z_wr (z_wr (z_wr M 87 cn v') 88 (cn + 1) a) 89 (cn + 1) (nI cn)) 90 (cn + 1) f') 65 47 (nI (cn + 1))) 65 48 (nI (cn + 2))) z h st dp (cn + 1) tn vn fn θ := by
  obtain ⟨b1, b2, b3, b4, b5, b6, b7, b8⟩ := hB
  obtain ⟨a1, a2, a3, a4, a5, a6, a7, a8, a9, a10, a11, a12, a13, a14, a15, a16, a17, a18⟩ := b2
  obtain ⟨p1, p2, p3, p4⟩ := b3
  have hRP : RP (X 47) h st dp (cn + 1) tn vn := ⟨p1, by omega, p3, p4⟩
  refine ⟨b1, ⟨a1, a2, a3, a4, a5, a6, a7, a8, a9, a10, a11, a12, rfl, rfl, rfl, a16, a17, a18⟩, hRP, b4, b5, ?_, RT.mono b7 (fun _ _ h => h) (fun _ _ => rfl) (fun _ _ => ⟨rfl, rfl, rfl⟩) (fun _ _ => ⟨rfl, rfl, rfl, rfl⟩) (Nat.le_refl _) (Nat.le_succ _), RW.mono b8 (fun _ _ h => h) (fun _ _ => rfl) (Nat.le_refl _) (Nat.le_succ _)⟩
  have e0 : ∀ (f : Nat → Int32) (k : Nat) (x : Int32), q_up f k x k = x := fun f k x => q_up_s
  refine RC.ext b6 (fun i hi => ⟨q_up_l hi, q_up_l hi, q_up_l hi, q_up_l hi, q_up_l (by omega), q_up_l (by omega), q_up_l (by omega)⟩) ?_
  show q_up (X 37) cn a cn = q_up (M 88) (cn + 1) a (cn + 1) ∧ q_up (M 89) (cn + 1) (nI cn) (cn + 1) = nI cn ∧ FR (q_up (X 39) cn f cn) (q_up (M 90) (cn + 1) f' (cn + 1)) cn ∧ gV M θ tn vn (q_up (X 38) cn v cn) (q_up (M 87) cn v' cn)
  rw [e0, e0, e0, e0, e0, e0, e0]
  exact ⟨rfl, rfl, hf, hv⟩
/-- a new number, there -/
theorem RB.num {a b c : Int32} (hB : RB X M z h st dp cn tn vn fn θ) (ha : -9999 ≤ a ∧ a ≤ 9999) (h3 : vn + phi 1 1 0 (X 47) h + 1 ≤ 2 * st) :
    RB X (z_wr (z_wr (z_wr (z_wr (z_wr M 83 vn 0) 84 vn a) 85 vn b) 86 vn c) 65 46 (nI (vn + 1))) z h st dp cn tn (vn + 1) fn θ ∧ gV (z_wr (z_wr (z_wr (z_wr (z_wr M 83 vn 0) 84 vn a) 85 vn b) 86 vn c) 65 46 (nI (vn + 1))) θ tn (vn + 1) a (nI vn) := by
  obtain ⟨b1, b2, b3, b4, b5, b6, b7, b8⟩ := hB
  obtain ⟨a1, a2, a3, a4, a5, a6, a7, a8, a9, a10, a11, a12, a13, a14, a15, a16, a17, a18⟩ := b2
  obtain ⟨p1, p2, p3, p4⟩ := b3
  have hRP : RP (X 47) h st dp cn tn (vn + 1) := ⟨p1, p2, p3, by omega⟩
  have hv : ∀ x y, gV M θ tn vn x y → VR (q_up (M 83) vn 0) (q_up (M 84) vn a) θ tn (vn + 1) x y := fun x y hh => hh.mono (fun j hj => ⟨q_up_l hj, q_up_l hj⟩) (fun _ _ => rfl) (Nat.le_refl _) (Nat.le_succ _)
  refine ⟨⟨b1, ⟨a1, a2, a3, a4, a5, a6, a7, a8, a9, a10, a11, a12, a13, a14, a15, a16, rfl, a18⟩, hRP, b4, b5, RC.mono b6 hv, RT.mono b7 hv (fun _ _ => rfl) (fun _ _ => ⟨rfl, rfl, rfl⟩) (fun j hj => ⟨q_up_l hj, q_up_l hj, q_up_l hj, q_up_l hj⟩) (Nat.le_succ _) (Nat.le_refl _), RW.mono b8 hv (fun _ _ => rfl) (Nat.le_refl _) (Nat.le_refl _)⟩, vn, by omega, rfl, Or.inl ⟨q_up_s, q_up_s, ha⟩⟩
/-- a new thing -/
theorem RB.thing {k a b m1 m2 m3 m4 : Int32} (hB : RB X M z h st dp cn tn vn fn θ) (h2 : tn + phi 1 1 0 (X 47) h + 1 ≤ st) (h3 : vn + phi 1 1 0 (X 47) h + 1 ≤ 2 * st)
    (hn : (k = 4 ∧ m1 = 1 ∧ (∃ e, e < z ∧ X 3 e = 70 ∧ a = nI e ∧ m2 = M 71 (z - 1 - e) ∧ m3 = M 68 (z - 1 - e)) ∧ FR b m4 cn) ∨ (m1 = 2 ∧ m2 = k ∧ ((k = 0 ∧ gV M θ tn vn a m3) ∨ (k = 1 ∧ gV M θ tn vn b m3) ∨ (k = 2 ∧ gV M θ tn vn a m3 ∧ gV M θ tn vn b m4) ∨ (k = 3 ∧ gV M θ tn vn b m3 ∧ gV M θ tn vn a m4)))) :
    ∃ θ', RB (z_wr (z_wr (z_wr (z_wr X 41 tn k) 42 tn a) 43 tn b) 40 3 (nI (tn + 1))) (z_wr (z_wr (z_wr (z_wr (z_wr M 83 vn m1) 84 vn m2) 85 vn m3) 86 vn m4) 65 46 (nI (vn + 1))) z h st dp cn (tn + 1) (vn + 1) fn θ' ∧ gV (z_wr (z_wr (z_wr (z_wr (z_wr M 83 vn m1) 84 vn m2) 85 vn m3) 86 vn m4) 65 46 (nI (vn + 1))) θ' (tn + 1) (vn + 1) (nI (10000 + tn)) (nI vn) := by
  obtain ⟨b1, b2, b3, b4, b5, b6, b7, b8⟩ := hB
  obtain ⟨a1, a2, a3, a4, a5, a6, a7, a8, a9, a10, a11, a12, a13, a14, a15, a16, a17, a18⟩ := b2
  obtain ⟨p1, p2, p3, p4⟩ := b3
  have hRP : RP (X 47) h st dp cn (tn + 1) (vn + 1) := ⟨p1, p2, by omega, by omega⟩
  have hth : ∀ t, t < tn → (fun t => if t = tn then vn else θ t) t = θ t := fun t ht => if_neg (by omega)
  have hts : (fun t => if t = tn then vn else θ t) tn = vn := if_pos rfl
  refine ⟨fun t => if t = tn then vn else θ t, ?_⟩
  generalize (fun t => if t = tn then vn else θ t) = θ' at hth hts ⊢
  have hv : ∀ x y, gV M θ tn vn x y → VR (q_up (M 83) vn m1) (q_up (M 84) vn m2) θ' (tn + 1) (vn + 1) x y := fun x y hh => hh.mono (fun j hj => ⟨q_up_l hj, q_up_l hj⟩) hth (Nat.le_succ _) (Nat.le_succ _)
  have hT := RT.mono (kx' := q_up (X 41) tn k) (ox' := q_up (X 42) tn a) (tx' := q_up (X 43) tn b) (mk' := q_up (M 83) vn m1) (ma' := q_up (M 84) vn m2) (mb' := q_up (M 85) vn m3) (mc' := q_up (M 86) vn m4) b7 hv hth (fun t ht => ⟨q_up_l ht, q_up_l ht, q_up_l ht⟩) (fun j hj => ⟨q_up_l hj, q_up_l hj, q_up_l hj, q_up_l hj⟩) (Nat.le_succ _) (Nat.le_refl _)
  have e0 : ∀ (f : Nat → Int32) (k : Nat) (x : Int32), q_up f k x k = x := fun f k x => q_up_s
  refine ⟨⟨b1, ⟨a1, a2, a3, a4, a5, a6, a7, a8, a9, a10, a11, a12, a13, a14, a15, rfl, rfl, a18⟩, hRP, b4, b5, RC.mono b6 hv, ?_, RW.mono (kx' := q_up (X 41) tn k) b8 hv (fun t ht => q_up_l ht) (Nat.le_succ _) (Nat.le_refl _)⟩, vn, by omega, rfl, Or.inr ⟨tn, by omega, rfl, hts.symm⟩⟩
  intro t ht
  by_cases et : t = tn
  · subst et
    show θ' t < vn + 1 ∧ ((q_up (X 41) t k t = 4 ∧ q_up (M 83) vn m1 (θ' t) = 1 ∧ (∃ e, e < z ∧ X 3 e = 70 ∧ q_up (X 42) t a t = nI e ∧ q_up (M 84) vn m2 (θ' t) = M 71 (z - 1 - e) ∧ q_up (M 85) vn m3 (θ' t) = M 68 (z - 1 - e)) ∧ FR (q_up (X 43) t b t) (q_up (M 86) vn m4 (θ' t)) cn) ∨ (q_up (M 83) vn m1 (θ' t) = 2 ∧ q_up (M 84) vn m2 (θ' t) = q_up (X 41) t k t ∧ ((q_up (X 41) t k t = 0 ∧ VR (q_up (M 83) vn m1) (q_up (M 84) vn m2) θ' (t + 1) (vn + 1) (q_up (X 42) t a t) (q_up (M 85) vn m3 (θ' t))) ∨ (q_up (X 41) t k t = 1 ∧ VR (q_up (M 83) vn m1) (q_up (M 84) vn m2) θ' (t + 1) (vn + 1) (q_up (X 43) t b t) (q_up (M 85) vn m3 (θ' t))) ∨ (q_up (X 41) t k t = 2 ∧ VR (q_up (M 83) vn m1) (q_up (M 84) vn m2) θ' (t + 1) (vn + 1) (q_up (X 42) t a t) (q_up (M 85) vn m3 (θ' t)) ∧ VR (q_up (M 83) vn m1) (q_up (M 84) vn m2) θ' (t + 1) (vn + 1) (q_up (X 43) t b t) (q_up (M 86) vn m4 (θ' t))) ∨ (q_up (X 41) t k t = 3 ∧ VR (q_up (M 83) vn m1) (q_up (M 84) vn m2) θ' (t + 1) (vn + 1) (q_up (X 43) t b t) (q_up (M 85) vn m3 (θ' t)) ∧ VR (q_up (M 83) vn m1) (q_up (M 84) vn m2) θ' (t + 1) (vn + 1) (q_up (X 42) t a t) (q_up (M 86) vn m4 (θ' t))))))
    rw [hts]
    simp only [e0]
    refine ⟨by omega, ?_⟩
    rcases hn with q | ⟨q1, q2, q3⟩
    · exact Or.inl q
    · refine Or.inr ⟨q1, q2, ?_⟩
      rcases q3 with ⟨c1, c2⟩ | ⟨c1, c2⟩ | ⟨c1, c2, c3⟩ | ⟨c1, c2, c3⟩
      · exact Or.inl ⟨c1, hv _ _ c2⟩
      · exact Or.inr (Or.inl ⟨c1, hv _ _ c2⟩)
      · exact Or.inr (Or.inr (Or.inl ⟨c1, hv _ _ c2, hv _ _ c3⟩))
      · exact Or.inr (Or.inr (Or.inr ⟨c1, hv _ _ c2, hv _ _ c3⟩))
  · exact hT t (by omega)
end
