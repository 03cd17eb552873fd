/-! the first states; the constructor of the reference -/
def X0 : St := fun o => if o = 3 ∨ o = 17 ∨ o = 50 then sg0 else if o = 2 ∨ o = 16 ∨ o = 49 then (fun k => if k = 6 then 1 else 0) else if o = 29 then (fun k => if k = 7 then 3 else if k = 9 then -1 else 0) else z0
def M1 : St := fun o => if o = 73 then sg0 else if o = 65 then (fun k => if k = 29 then -9 else if k = 16 then 1 else if k = 6 then 1 else 0) else z0
def wX (qx : Nat → Nat) (cy : ClassId) : va_W := (List.range 65).map (z_ce qx cy X0)
set_option maxHeartbeats 4000000 in
set_option maxRecDepth 100000 in
theorem rX9_w {cy : ClassId} {h0 : Nat} {w : va_W} (h : rX9 cy h0 w) : ∃ qx : Nat → Nat, qx 0 = h0 ∧ w = wX qx cy := by
  obtain ⟨q1, q2, q3, q4, q5, q6, q7, q8, q9, q10, q11, q12, q13, q14, q15, q16, q17, q18, q19, q20, q21, q22, q23, q24, q25, q26, q27, q28, q29, q30, q31, q32, q33, q34, q35, q36, q37, q38, q39, q40, q41, q42, q43, q44, q45, q46, q47, q48, q49, q50, q51, q52, q53, q54, q55, q56, q57, q58, q59, q60, q61, q62, q63, q64, rfl⟩ := h
  exact ⟨fun i => ([h0, q1, q2, q3, q4, q5, q6, q7, q8, q9, q10, q11, q12, q13, q14, q15, q16, q17, q18, q19, q20, q21, q22, q23, q24, q25, q26, q27, q28, q29, q30, q31, q32, q33, q34, q35, q36, q37, q38, q39, q40, q41, q42, q43, q44, q45, q46, q47, q48, q49, q50, q51, q52, q53, q54, q55, q56, q57, q58, q59, q60, q61, q62, q63, q64] : List Nat).getD i 0, rfl, rfl⟩
def kS (sx sy : Nat → Nat) (A : Nat → Prop) (U : State) (H : Heap) : Prop := (vk_S 7 z_lens z_byts sx sy A U H ∧ va_Z "java/lang/String" "COMPACT_STRINGS" "Z" (.int 1) A U H ∧ va_Zq "jdk/internal/util/Preconditions" "SIOOBE_FORMATTER" "Ljava/util/function/BiFunction;" A U H) ∧ ∀ i, i < 7 → vk_R RX3 (z_six.getD i 0) (z_stx.getD i "") (sx i) U
theorem kS.go {sx sy : Nat → Nat} {A : Nat → Prop} {u U : State} {H H1 : Heap} (h : kS sx sy A u H) (hW : u.WarmedH U.vm) (hq : ∀ a : Nat, a < H.size → ¬ A a → H1[a]? = H[a]?) : kS sx sy A U H1 :=
  ⟨⟨(vk_S.moved hW.alike h.1.1).kept hq, (va_Z.moved hW.alike h.1.2.1).kept hq, (va_Zq.moved hW.alike h.1.2.2).kept hq⟩, fun i hi => (h.2 i hi).warm hW⟩
theorem kS.blind {sx sy : Nat → Nat} {A : Nat → Prop} {U : State} (g : JFrame) (mk : MethodId) (a : Array Value) (h : kS sx sy A U U.heap) : kS sx sy A (U.calling g mk a) (U.calling g mk a).heap :=
  ⟨⟨vk_S.moved (u := U) (U := U.calling g mk a) (Vm.Alike.refl U.vm) h.1.1, va_Z.moved (u := U) (U := U.calling g mk a) (Vm.Alike.refl U.vm) h.1.2.1, va_Zq.moved (u := U) (U := U.calling g mk a) (Vm.Alike.refl U.vm) h.1.2.2⟩, fun i hi => vk_R.same (u := U) rfl (h.2 i hi)⟩
theorem kS.kW {D : va_G} {cy : ClassId} {sx sy : Nat → Nat} {A : Nat → Prop} {U : State} {q : Nat → Nat} (h : kS sx sy A U U.heap) (hI : kI D cy U) (hA : ∀ a, z_Aq q a → A a) : z_kW (D, q, cy, sx, sy) U :=
  ⟨hI.1, hI.2, ⟨h.1.1.narrow hA, h.1.2.1.narrow hA, h.1.2.2.narrow hA⟩, h.2⟩
theorem dfX10 : ∀ j, j < 75 → defaultValue (tyX10 j) = vp_V [.null, .null, .null, .null, .null, .null, .int 0, .int 0, .int 0, .null, .null, .null, .null, .null, .null, .int 0, .int 0, .int 0, .int 0, .int 0, .int 0, .int 0, .int 0, .int 0, .null, .null, .null, .null, .null, .int 0, .int 0, .int 0, .int 0, .int 0, .int 0, .int 0, .null, .null, .null, .null, .null, .null, .null, .null, .null, .null, .int 0, .int 0, .int 0, .int 0, .null, .null, .null, .null, .null, .int 0, .int 0, .int 0, .int 0, .int 0, .int 0, .int 0, .int 0, .int 0, .int 0, .int 0, .null, .null, .null, .int 0, .int 0, .null, .int 0, .int 0, .int 0] j
  | 0, _ => rfl
  | 1, _ => rfl
  | 2, _ => rfl
  | 3, _ => rfl
  | 4, _ => rfl
  | 5, _ => rfl
  | 6, _ => rfl
  | 7, _ => rfl
  | 8, _ => rfl
  | 9, _ => rfl
  | 10, _ => rfl
  | 11, _ => rfl
  | 12, _ => rfl
  | 13, _ => rfl
  | 14, _ => rfl
  | 15, _ => rfl
  | 16, _ => rfl
  | 17, _ => rfl
  | 18, _ => rfl
  | 19, _ => rfl
  | 20, _ => rfl
  | 21, _ => rfl
  | 22, _ => rfl
  | 23, _ => rfl
  | 24, _ => rfl
  | 25, _ => rfl
  | 26, _ => rfl
  | 27, _ => rfl
  | 28, _ => rfl
  | 29, _ => rfl
  | 30, _ => rfl
  | 31, _ => rfl
  | 32, _ => rfl
  | 33, _ => rfl
  | 34, _ => rfl
  | 35, _ => rfl
  | 36, _ => rfl
  | 37, _ => rfl
  | 38, _ => rfl
  | 39, _ => rfl
  | 40, _ => rfl
  | 41, _ => rfl
  | 42, _ => rfl
  | 43, _ => rfl
  | 44, _ => rfl
  | 45, _ => rfl
  | 46, _ => rfl
  | 47, _ => rfl
  | 48, _ => rfl
  | 49, _ => rfl
  | 50, _ => rfl
  | 51, _ => rfl
  | 52, _ => rfl
  | 53, _ => rfl
  | 54, _ => rfl
  | 55, _ => rfl
  | 56, _ => rfl
  | 57, _ => rfl
  | 58, _ => rfl
  | 59, _ => rfl
  | 60, _ => rfl
  | 61, _ => rfl
  | 62, _ => rfl
  | 63, _ => rfl
  | 64, _ => rfl
  | 65, _ => rfl
  | 66, _ => rfl
  | 67, _ => rfl
  | 68, _ => rfl
  | 69, _ => rfl
  | 70, _ => rfl
  | 71, _ => rfl
  | 72, _ => rfl
  | 73, _ => rfl
  | 74, _ => rfl
  | _ + 75, h => absurd h (by omega)
