/-! the machines' relation: X the class's state, M the reference's -/
/-- frames: none is -1 here, 0 there -/
def FR (a b : Int32) (c : Nat) : Prop := ∃ f, f ≤ c ∧ a = nI f - 1 ∧ b = nI f
/-- values: a number is itself, or a thing; there it is a place in the pool of values -/
def VR (mk ma : Nat → Int32) (θ : Nat → Nat) (tn vn : Nat) (a b : Int32) : Prop := ∃ j, j < vn ∧ b = nI j ∧ ((mk j = 0 ∧ ma j = a ∧ -9999 ≤ a ∧ a ≤ 9999) ∨ ∃ t, t < tn ∧ a = nI (10000 + t) ∧ j = θ t)
abbrev isD (c : Int32) : Prop := 48 ≤ c ∧ c ≤ 57
abbrev isN (c : Int32) : Prop := 97 ≤ c ∧ c ≤ 102
abbrev is2 (c : Int32) : Prop := c = 42 ∨ c = 43 ∨ c = 44 ∨ c = 45 ∨ c = 63 ∨ c = 64 ∨ c = 66 ∨ c = 67 ∨ c = 76 ∨ c = 89
abbrev isT (c : Int32) : Prop := c = 44 ∨ c = 63 ∨ c = 76 ∨ c = 89
abbrev isB (c : Int32) : Prop := c = 70 ∨ c = 76 ∨ c = 83 ∨ c = 89
abbrev isK (c : Int32) : Prop := c = 42 ∨ c = 43 ∨ c = 45 ∨ c = 64 ∨ c = 66 ∨ c = 67
abbrev isO (c : Int32) : Prop := is2 c ∨ c = 70 ∨ c = 80 ∨ c = 81 ∨ c = 83 ∨ c = 87 ∨ c = 88 ∨ c = 112 ∨ c = 113
/-- an expression of the program, here and there -/
def PE (sg va se th si en ms m1 m2 m3 mo : Nat → Int32) (z e : Nat) : Prop :=
  ms (z - 1 - e) = sg e ∧ (en e = 0 ∨ en e = 1) ∧ (isD (sg e) ∨ (isN (sg e) ∧ va e = sg e - 97) ∨
    (isO (sg e) ∧ e + 1 < z ∧ m1 (z - 1 - e) = nI (z - 1 - (e + 1)) ∧ (en (e + 1) = if sg e = 70 then 1 else 0) ∧
      (is2 (sg e) → ∃ s, s < z ∧ se e = nI s ∧ m2 (z - 1 - e) = nI (z - 1 - s) ∧ en s = if isT (sg e) then en e else 0) ∧
      (sg e = 63 → ∃ t, t < z ∧ th e = nI t ∧ m3 (z - 1 - e) = nI (z - 1 - t) ∧ en t = en e) ∧
      (isB (sg e) → ∃ v, v < 6 ∧ va e = nI v ∧ mo (z - 1 - e) = nI v) ∧
      (sg e = 112 ∨ sg e = 113 → ∃ v, v < 10 ∧ si e = nI v ∧ mo (z - 1 - e) = nI v)))
def PG (X M : St) (z : Nat) : Prop := (1 ≤ z ∧ X 2 6 = nI z) ∧ z ≤ 40 ∧ ∀ e, e < z → PE (X 3) (X 4) (X 5) (X 6) (X 7) (X 8) (M 67) (M 68) (M 69) (M 70) (M 71) z e
/-- weights of what waits, by its stage -/
def phi (a b c : Nat) (ws : Nat → Int32) : Nat → Nat
  | 0 => 0
  | h + 1 => phi a b c ws h + (if ws h = 0 then a else if ws h = 1 then b else c)
theorem phi_eq {a b c : Nat} {ws ws' : Nat → Int32} : ∀ {h : Nat}, (∀ i, i < h → ws' i = ws i) → phi a b c ws' h = phi a b c ws h
  | 0, _ => rfl
  | h + 1, e => by
    unfold phi
    rw [phi_eq (h := h) (fun i hi => e i (by omega)), e h (by omega)]
theorem phi_up {a b c h : Nat} {ws : Nat → Int32} {v : Int32} : phi a b c (q_up ws h v) h = phi a b c ws h := phi_eq (fun i hi => q_up_l hi)
/-- cells -/
def RC (va vl vo ml mf mc mb : Nat → Int32) (V : Int32 → Int32 → Prop) (cn : Nat) : Prop := ∀ c, c < cn → va c = mf (c + 1) ∧ mc (c + 1) = nI c ∧ FR (vo c) (mb (c + 1)) c ∧ V (vl c) (ml c)
/-- things -/
def RT (sg : Nat → Int32) (m1 mo : Nat → Int32) (z : Nat) (kx ox tx mk ma mb mc : Nat → Int32) (V : Int32 → Int32 → Prop) (θ : Nat → Nat) (tn vn cn : Nat) : Prop := ∀ t, t < tn → θ t < vn ∧
  ((kx t = 4 ∧ mk (θ t) = 1 ∧ (∃ e, e < z ∧ sg e = 70 ∧ ox t = nI e ∧ ma (θ t) = mo (z - 1 - e) ∧ mb (θ t) = m1 (z - 1 - e)) ∧ FR (tx t) (mc (θ t)) cn) ∨
   (mk (θ t) = 2 ∧ ma (θ t) = kx t ∧ ((kx t = 0 ∧ V (ox t) (mb (θ t))) ∨ (kx t = 1 ∧ V (tx t) (mb (θ t))) ∨ (kx t = 2 ∧ V (ox t) (mb (θ t)) ∧ V (tx t) (mc (θ t))) ∨ (kx t = 3 ∧ V (tx t) (mb (θ t)) ∧ V (ox t) (mc (θ t))))))
/-- what waits -/
def WE (sg en : Nat → Int32) (z : Nat) (kx : Nat → Int32) (V : Int32 → Int32 → Prop) (tn cn : Nat) (x f s o me mp mf md mi : Int32) : Prop := ∃ e, e < z ∧ x = nI e ∧
  ((s = 2 ∧ sg e = 64 ∧ me = -1) ∨
   ((s = 0 ∨ (s = 1 ∧ V o mi ∧ isK (sg e) ∧ (sg e = 64 → ∃ t, t < tn ∧ o = nI (10000 + t) ∧ kx t = 4))) ∧
    isO (sg e) ∧ sg e ≠ 70 ∧ me = nI (z - 1 - e) ∧ mp = s ∧ FR f mf cn ∧ md = en e))
def RW (sg en : Nat → Int32) (z : Nat) (kx : Nat → Int32) (wx wf ws wo me mp mf md mi : Nat → Int32) (V : Int32 → Int32 → Prop) (tn cn h : Nat) : Prop := ∀ i, i < h → WE sg en z kx V tn cn (wx i) (wf i) (ws i) (wo i) (me i) (mp i) (mf i) (md i) (mi i)
/-- a fault's chain of causes -/
def chn (mc mz : Nat → Int32) (lc : Int32) : Nat → Nat → Prop
  | 0, f => mc f = lc ∧ mz f = -9
  | ca + 1, f => mc f = 7 ∧ ∃ g, g < f ∧ mz f = nI g ∧ chn mc mz lc ca g
abbrev Gh : Type := (Nat × Nat × Nat × Nat) × (Nat × Nat × Nat) × (Nat → Nat)
/-- the base: all but what the mode says; ghosts ((h, st, dp, cn), (tn, vn, fn), θ) -/
abbrev gV (M : St) (θ : Nat → Nat) (tn vn : Nat) : Int32 → Int32 → Prop := VR (M 83) (M 84) θ tn vn
def RS (X M : St) (h st dp cn tn vn fn : Nat) : Prop :=
  X 29 6 = 1 ∧ X 44 4 = nI h ∧ M 65 55 = nI h ∧ h ≤ st ∧ st ≤ 400 ∧ X 35 2 = nI st ∧ M 65 62 = nI st ∧ X 29 11 = nI dp ∧ M 65 63 = nI dp ∧ dp ≤ 12 ∧ X 35 3 = M 65 64 ∧ X 35 4 = M 65 65 ∧
  X 36 3 = nI cn ∧ M 65 47 = nI cn ∧ M 65 48 = nI (cn + 1) ∧ X 40 3 = nI tn ∧ M 65 46 = nI vn ∧ M 65 49 = nI fn
def RP (ws : Nat → Int32) (h st dp cn tn vn : Nat) : Prop :=
  phi 0 0 1 ws h = dp ∧ cn + phi 1 1 0 ws h ≤ st ∧ tn + phi 1 1 0 ws h ≤ st ∧ vn + phi 1 1 0 ws h ≤ 2 * st
def RGl (gx gm : Nat → Int32) : Prop := ∀ v, v < 6 → gx v = gm v ∧ -9999 ≤ gx v ∧ gx v ≤ 9999
def RCa (sx hx mx sm hm mm : Nat → Int32) : Prop := ∀ k, k < 10 → sx k = sm k ∧ (∃ s, s < 16 ∧ sx k = nI s) ∧ hx k = hm k ∧ mx k = mm k
def RB (X M : St) (z h st dp cn tn vn fn : Nat) (θ : Nat → Nat) : Prop :=
  PG X M z ∧ RS X M h st dp cn tn vn fn ∧ RP (X 47) h st dp cn tn vn ∧ RGl (X 30) (M 78) ∧ RCa (X 32) (X 33) (X 34) (M 79) (M 80) (M 81) ∧
  RC (X 37) (X 38) (X 39) (M 87) (M 88) (M 89) (M 90) (gV M θ tn vn) cn ∧
  RT (X 3) (M 68) (M 71) z (X 41) (X 42) (X 43) (M 83) (M 84) (M 85) (M 86) (gV M θ tn vn) θ tn vn cn ∧
  RW (X 3) (X 8) z (X 41) (X 45) (X 46) (X 47) (X 48) (M 93) (M 94) (M 95) (M 96) (M 97) (gV M θ tn vn) tn cn h
/-- an expression is to begin; a value is there; a fault is there -/
def D0 (X M : St) (z cn : Nat) : Prop := X 29 7 = 0 ∧ M 65 56 = 0 ∧ X 29 12 = 0 ∧ X 35 5 = 0 ∧ ∃ e, e < z ∧ X 29 8 = nI e ∧ M 65 57 = nI (z - 1 - e) ∧ FR (X 29 9) (M 65 58) cn ∧ M 65 59 = X 8 e
def D1 (X M : St) (tn vn : Nat) (θ : Nat → Nat) : Prop := X 29 7 = 1 ∧ M 65 56 = 1 ∧ X 29 12 = 0 ∧ X 35 5 = 0 ∧ gV M θ tn vn (X 29 10) (M 65 60)
def D2 (X M : St) (fn h st : Nat) : Prop := X 29 7 = 2 ∧ M 65 56 = 2 ∧ X 29 12 = 1 ∧ ∃ ca f, X 35 5 = nI ca ∧ M 65 61 = nI f ∧ f < fn ∧ (ca ≤ f ∧ ca + h ≤ st) ∧ chn (M 91) (M 92) (X 35 6) ca f ∧ -9999 ≤ X 35 6 ∧ X 35 6 ≤ 9999
def R0 (X M : St) (z μ : Nat) : Prop := ∃ h st dp cn tn vn fn θ, RB X M z h st dp cn tn vn fn θ ∧ D0 X M z cn ∧ fn + phi 2 1 0 (X 47) h + 1 ≤ 2 * st + 1 ∧ 10 * (400 - st) + phi 7 5 3 (X 47) h + 1 ≤ μ
def R1 (X M : St) (z μ : Nat) : Prop := ∃ h st dp cn tn vn fn θ, RB X M z h st dp cn tn vn fn θ ∧ D1 X M tn vn θ ∧ fn + phi 2 1 0 (X 47) h ≤ 2 * st + 1 ∧ 10 * (400 - st) + phi 7 5 3 (X 47) h ≤ μ
def R2 (X M : St) (z μ : Nat) : Prop := ∃ h st dp cn tn vn fn θ, RB X M z h st dp cn tn vn fn θ ∧ D2 X M fn h st ∧ fn + phi 2 1 0 (X 47) h ≤ 2 * st + 1 ∧ 10 * (400 - st) + phi 7 5 3 (X 47) h ≤ μ
def RR (X M : St) (z μ : Nat) : Prop := R0 X M z μ ∨ R1 X M z μ ∨ R2 X M z μ
/-- what a run of the machines leaves alone -/
def FX (X X' : St) : Prop := (∀ o, o < 29 ∨ 49 ≤ o → X' o = X o) ∧ X' 29 6 = X 29 6 ∧ ∀ k, (∀ e, e < 40 → nI e < X 2 6 → X 3 e = 112 ∨ X 3 e = 113 → X 7 e ≠ nI k) → X' 32 k = X 32 k
def FM (M M' : St) : Prop := (∀ o, o < 65 ∨ (66 ≤ o ∧ o ≤ 77) ∨ o = 82 ∨ 98 ≤ o → M' o = M o) ∧ ∀ k, k < 46 ∨ (50 ≤ k ∧ k ≤ 54) ∨ 66 ≤ k → M' 65 k = M 65 k
/-- both functions go on, alike -/
def JJ (X M : St) (z μ : Nat) (x m : Option St) : Prop := ∃ X' M', x = some X' ∧ m = some M' ∧ RR X' M' z μ ∧ FX X X' ∧ FM M M'
theorem FX.rf {X : St} : FX X X := ⟨fun _ _ => rfl, rfl, fun _ _ => rfl⟩
theorem FM.rf {M : St} : FM M M := ⟨fun _ _ => rfl, fun _ _ => rfl⟩
theorem FX.wr {X X' : St} {o k : Nat} {v : Int32} (h : FX X X') (ho : 29 ≤ o ∧ o < 49 ∧ o ≠ 32) (hk : o = 29 → k ≠ 6) : FX X (z_wr X' o k v) := by
  refine ⟨fun a ha => ?_, ?_, fun j hj => ?_⟩
  · rw [z_wr_o (by omega)]; exact h.1 a ha
  · by_cases e : o = 29
    · subst e; rw [z_wr_k (fun q => hk rfl q.symm)]; exact h.2.1
    · rw [z_wr_o (fun q => e q.symm)]; exact h.2.1
  · rw [z_wr_o (by omega)]; exact h.2.2 j hj
theorem FM.wr {M M' : St} {o k : Nat} {v : Int32} (h : FM M M') (ho : 78 ≤ o ∧ o < 98 ∧ o ≠ 82) : FM M (z_wr M' o k v) := by
  refine ⟨fun a ha => ?_, fun j hj => ?_⟩
  · rw [z_wr_o (by omega)]; exact h.1 a ha
  · rw [z_wr_o (by omega)]; exact h.2 j hj
theorem FM.wf {M M' : St} {k : Nat} {v : Int32} (h : FM M M') (hk : (46 ≤ k ∧ k < 50) ∨ (55 ≤ k ∧ k < 66)) : FM M (z_wr M' 65 k v) := by
  refine ⟨fun a ha => ?_, fun j hj => ?_⟩
  · rw [z_wr_o (by omega)]; exact h.1 a ha
  · rw [z_wr_k (by omega)]; exact h.2 j hj
/-- values stay values -/
theorem VR.mono {mk ma mk' ma' : Nat → Int32} {θ θ' : Nat → Nat} {tn tn' vn vn' : Nat} {a b : Int32} (h : VR mk ma θ tn vn a b) (h1 : ∀ j, j < vn → mk' j = mk j ∧ ma' j = ma j) (h2 : ∀ t, t < tn → θ' t = θ t) (ht : tn ≤ tn') (hv : vn ≤ vn') : VR mk' ma' θ' tn' vn' a b := by
  obtain ⟨j, hj, hb, h⟩ := h
  refine ⟨j, by omega, hb, ?_⟩
  rcases h with ⟨e1, e2, e3⟩ | ⟨t, e1, e2, e3⟩
  · exact Or.inl ⟨by rw [(h1 j hj).1]; exact e1, by rw [(h1 j hj).2]; exact e2, e3⟩
  · exact Or.inr ⟨t, by omega, e2, by rw [h2 t e1]; exact e3⟩
theorem RC.mono {va vl vo ml mf mc mb : Nat → Int32} {V V' : Int32 → Int32 → Prop} {cn : Nat} (h : RC va vl vo ml mf mc mb V cn) (hv : ∀ a b, V a b → V' a b) : RC va vl vo ml mf mc mb V' cn := fun c hc => ⟨(h c hc).1, (h c hc).2.1, (h c hc).2.2.1, hv _ _ (h c hc).2.2.2⟩
theorem FR.mono {a b : Int32} {c d : Nat} (h : FR a b c) (hc : c ≤ d) : FR a b d := by
  obtain ⟨f, h1, h2⟩ := h
  exact ⟨f, by omega, h2⟩
theorem RW.mono {sg en : Nat → Int32} {z : Nat} {kx kx' wx wf ws wo me mp mf md mi : Nat → Int32} {V V' : Int32 → Int32 → Prop} {tn tn' cn cn' h : Nat} (H : RW sg en z kx wx wf ws wo me mp mf md mi V tn cn h) (hv : ∀ a b, V a b → V' a b) (hk : ∀ t, t < tn → kx' t = kx t) (ht : tn ≤ tn') (hc : cn ≤ cn') : RW sg en z kx' wx wf ws wo me mp mf md mi V' tn' cn' h := by
  intro i hi
  obtain ⟨e, he, hx, H⟩ := H i hi
  refine ⟨e, he, hx, ?_⟩
  rcases H with H | ⟨h1, h2, h3, h4, h5, h6, h7⟩
  · exact Or.inl H
  · refine Or.inr ⟨?_, h2, h3, h4, h5, h6.mono hc, h7⟩
    rcases h1 with h1 | ⟨h1, g1, g2, g3⟩
    · exact Or.inl h1
    · refine Or.inr ⟨h1, hv _ _ g1, g2, fun q => ?_⟩
      obtain ⟨t, t1, t2, t3⟩ := g3 q
      exact ⟨t, by omega, t2, by rw [hk t t1]; exact t3⟩
theorem RT.mono {sg m1 mo : Nat → Int32} {z : Nat} {kx ox tx kx' ox' tx' mk ma mb mc mk' ma' mb' mc' : Nat → Int32} {V V' : Int32 → Int32 → Prop} {θ θ' : Nat → Nat} {tn vn vn' cn cn' : Nat} (H : RT sg m1 mo z kx ox tx mk ma mb mc V θ tn vn cn) (hv : ∀ a b, V a b → V' a b) (h2 : ∀ t, t < tn → θ' t = θ t) (hx : ∀ t, t < tn → kx' t = kx t ∧ ox' t = ox t ∧ tx' t = tx t) (hm : ∀ j, j < vn → mk' j = mk j ∧ ma' j = ma j ∧ mb' j = mb j ∧ mc' j = mc j) (hvn : vn ≤ vn') (hc : cn ≤ cn') : RT sg m1 mo z kx' ox' tx' mk' ma' mb' mc' V' θ' tn vn' cn' := by
  intro t ht
  obtain ⟨q, H⟩ := H t ht
  obtain ⟨x1, x2, x3⟩ := hx t ht
  obtain ⟨y1, y2, y3, y4⟩ := hm (θ t) q
  rw [h2 t ht, x1, x2, x3, y1, y2, y3, y4]
  refine ⟨by omega, ?_⟩
  rcases H with ⟨a1, a2, a3, a4⟩ | ⟨a1, a2, a3⟩
  · exact Or.inl ⟨a1, a2, a3, a4.mono hc⟩
  · refine Or.inr ⟨a1, a2, ?_⟩
    rcases a3 with ⟨b, c⟩ | ⟨b, c⟩ | ⟨b, c, d⟩ | ⟨b, c, d⟩
    · exact Or.inl ⟨b, hv _ _ c⟩
    · exact Or.inr (Or.inl ⟨b, hv _ _ c⟩)
    · exact Or.inr (Or.inr (Or.inl ⟨b, hv _ _ c, hv _ _ d⟩))
    · exact Or.inr (Or.inr (Or.inr ⟨b, hv _ _ c, hv _ _ d⟩))
theorem chn_eq {mc mz mc' mz' : Nat → Int32} {lc : Int32} : ∀ {ca f : Nat}, chn mc mz lc ca f → (∀ g, g ≤ f → mc' g = mc g ∧ mz' g = mz g) → chn mc' mz' lc ca f
  | 0, f, h, e => ⟨by rw [(e f (Nat.le_refl _)).1]; exact h.1, by rw [(e f (Nat.le_refl _)).2]; exact h.2⟩
  | ca + 1, f, h, e => by
    obtain ⟨h1, g, hg, h2, h3⟩ := h
    exact ⟨by rw [(e f (Nat.le_refl _)).1]; exact h1, g, hg, by rw [(e f (Nat.le_refl _)).2]; exact h2, chn_eq h3 (fun x hx => e x (by omega))⟩
