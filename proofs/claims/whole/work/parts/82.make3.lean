/-! the first states; the constructor of the reference -/
def X0 : St := fun o => if o = 3 ∨ o = 17 ∨ o = 50 then sg0 else if o = 2 ∨ o = 16 ∨ o = 49 then (fun k => if k = 6 then 1 else 0) else if o = 29 then (fun k => if k = 7 then 3 else if k = 9 then -1 else 0) else z0
def M1 : St := fun o => if o = 73 then sg0 else if o = 65 then (fun k => if k = 29 then -9 else if k = 16 then 1 else if k = 6 then 1 else 0) else z0
def wX (qx : Nat → Nat) (cy : ClassId) : va_W := (List.range 65).map (z_ce qx cy X0)
set_option maxHeartbeats 4000000 in
set_option maxRecDepth 100000 in
theorem rX9_w {cy : ClassId} {h0 : Nat} {w : va_W} (h : rX9 cy h0 w) : ∃ qx : Nat → Nat, qx 0 = h0 ∧ w = wX qx cy := by
  obtain ⟨q1, q2, q3, q4, q5, q6, q7, q8, q9, q10, q11, q12, q13, q14, q15, q16, q17, q18, q19, q20, q21, q22, q23, q24, q25, q26, q27, q28, q29, q30, q31, q32, q33, q34, q35, q36, q37, q38, q39, q40, q41, q42, q43, q44, q45, q46, q47, q48, q49, q50, q51, q52, q53, q54, q55, q56, q57, q58, q59, q60, q61, q62, q63, q64, rfl⟩ := h
  exact ⟨fun i => ([h0, q1, q2, q3, q4, q5, q6, q7, q8, q9, q10, q11, q12, q13, q14, q15, q16, q17, q18, q19, q20, q21, q22, q23, q24, q25, q26, q27, q28, q29, q30, q31, q32, q33, q34, q35, q36, q37, q38, q39, q40, q41, q42, q43, q44, q45, q46, q47, q48, q49, q50, q51, q52, q53, q54, q55, q56, q57, q58, q59, q60, q61, q62, q63, q64] : List Nat).getD i 0, rfl, rfl⟩
def kS (sx sy : Nat → Nat) (A : Nat → Prop) (U : State) (H : Heap) : Prop := (vk_S 7 z_lens z_byts sx sy A U H ∧ va_Z "java/lang/String" "COMPACT_STRINGS" "Z" (.int 1) A U H ∧ va_Zq "jdk/internal/util/Preconditions" "SIOOBE_FORMATTER" "Ljava/util/function/BiFunction;" A U H) ∧ ∀ i, i < 7 → vk_R RX3 (z_six.getD i 0) (z_stx.getD i "") (sx i) U
theorem kS.go {sx sy : Nat → Nat} {A : Nat → Prop} {u U : State} {H H1 : Heap} (h : kS sx sy A u H) (hW : u.WarmedH U.vm) (hq : ∀ a : Nat, a < H.size → ¬ A a → H1[a]? = H[a]?) : kS sx sy A U H1 :=
  ⟨⟨(vk_S.moved hW.alike h.1.1).kept hq, (va_Z.moved hW.alike h.1.2.1).kept hq, (va_Zq.moved hW.alike h.1.2.2).kept hq⟩, fun i hi => (h.2 i hi).warm hW⟩
theorem kS.blind {sx sy : Nat → Nat} {A : Nat → Prop} {U : State} (g : JFrame) (mk : MethodId) (a : Array Value) (h : kS sx sy A U U.heap) : kS sx sy A (U.calling g mk a) (U.calling g mk a).heap :=
  ⟨⟨vk_S.moved (u := U) (U := U.calling g mk a) (Vm.Alike.refl U.vm) h.1.1, va_Z.moved (u := U) (U := U.calling g mk a) (Vm.Alike.refl U.vm) h.1.2.1, va_Zq.moved (u := U) (U := U.calling g mk a) (Vm.Alike.refl U.vm) h.1.2.2⟩, fun i hi => vk_R.same (u := U) rfl (h.2 i hi)⟩
theorem kS.kW {D : va_G} {cy : ClassId} {sx sy : Nat → Nat} {A : Nat → Prop} {U : State} {q : Nat → Nat} (h : kS sx sy A U U.heap) (hI : kI D cy U) (hA : ∀ a, z_Aq q a → A a) : z_kW (D, q, cy, sx, sy) U :=
  ⟨hI.1, hI.2, ⟨h.1.1.narrow hA, h.1.2.1.narrow hA, h.1.2.2.narrow hA⟩, h.2⟩
theorem dfX10 : ∀ j, j < 75 → defaultValue (tyX10 j) = vp_V [.null, .null, .null, .null, .null, .null, .int 0, .int 0, .int 0, .null, .null, .null, .null, .null, .null, .int 0, .int 0, .int 0, .int 0, .int 0, .int 0, .int 0, .int 0, .int 0, .null, .null, .null, .null, .null, .int 0, .int 0, .int 0, .int 0, .int 0, .int 0, .int 0, .null, .null, .null, .null, .null, .null, .null, .null, .null, .null, .int 0, .int 0, .int 0, .int 0, .null, .null, .null, .null, .null, .int 0, .int 0, .int 0, .int 0, .int 0, .int 0, .int 0, .int 0, .int 0, .int 0, .int 0, .null, .null, .null, .int 0, .int 0, .null, .int 0, .int 0, .int 0] j
  | 0, _ => rfl
  | 1, _ => rfl
  | 2, _ => rfl
  | 3, _ => rfl
  | 4, _ => rfl
  | 5, _ => rfl
  | 6, _ => rfl
  | 7, _ => rfl
  | 8, _ => rfl
  | 9, _ => rfl
  | 10, _ => rfl
  | 11, _ => rfl
  | 12, _ => rfl
  | 13, _ => rfl
  | 14, _ => rfl
  | 15, _ => rfl
  | 16, _ => rfl
  | 17, _ => rfl
  | 18, _ => rfl
  | 19, _ => rfl
  | 20, _ => rfl
  | 21, _ => rfl
  | 22, _ => rfl
  | 23, _ => rfl
  | 24, _ => rfl
  | 25, _ => rfl
  | 26, _ => rfl
  | 27, _ => rfl
  | 28, _ => rfl
  | 29, _ => rfl
  | 30, _ => rfl
  | 31, _ => rfl
  | 32, _ => rfl
  | 33, _ => rfl
  | 34, _ => rfl
  | 35, _ => rfl
  | 36, _ => rfl
  | 37, _ => rfl
  | 38, _ => rfl
  | 39, _ => rfl
  | 40, _ => rfl
  | 41, _ => rfl
  | 42, _ => rfl
  | 43, _ => rfl
  | 44, _ => rfl
  | 45, _ => rfl
  | 46, _ => rfl
  | 47, _ => rfl
  | 48, _ => rfl
  | 49, _ => rfl
  | 50, _ => rfl
  | 51, _ => rfl
  | 52, _ => rfl
  | 53, _ => rfl
  | 54, _ => rfl
  | 55, _ => rfl
  | 56, _ => rfl
  | 57, _ => rfl
  | 58, _ => rfl
  | 59, _ => rfl
  | 60, _ => rfl
  | 61, _ => rfl
  | 62, _ => rfl
  | 63, _ => rfl
  | 64, _ => rfl
  | 65, _ => rfl
  | 66, _ => rfl
  | 67, _ => rfl
  | 68, _ => rfl
  | 69, _ => rfl
  | 70, _ => rfl
  | 71, _ => rfl
  | 72, _ => rfl
  | 73, _ => rfl
  | 74, _ => rfl
  | _ + 75, h => absurd h (by omega)
set_option maxHeartbeats 8000000 in
set_option maxRecDepth 100000 in
theorem i_X10 (l : Launch) (D : va_G) (cy : ClassId) (sx sy qx : Nat → Nat) (n0 : Nat) {Nf : Nat} {M2 : St} (hb : f_X10_builds Nf M1 = some M2) (h0 : Nat) : Met l yX10_init (Cond.code yX10_init cX10_init 1 none :: lw_good) (i_rm 3 67 36 20350) (va_Pc [.ref h0] (fun U => va_P D vwC ((h0, .inr (10, [.null, .null, .null, .null, .null, .null, .int 0, .int 0, .int 0, .null, .null, .null, .null, .null, .null, .int 0, .int 0, .int 0, .int 0, .int 0, .int 0, .int 0, .int 0, .int 0, .null, .null, .null, .null, .null, .int 0, .int 0, .int 0, .int 0, .int 0, .int 0, .int 0, .null, .null, .null, .null, .null, .null, .null, .null, .null, .null, .int 0, .int 0, .int 0, .int 0, .null, .null, .null, .null, .null, .int 0, .int 0, .int 0, .int 0, .int 0, .int 0, .int 0, .int 0, .int 0, .int 0, .int 0, .null, .null, .null, .int 0, .int 0, .null, .int 0, .int 0, .int 0])) :: wX qx cy) U.heap ∧ va_D (fun a => n0 ≤ a) ((h0, .inr (10, [.null, .null, .null, .null, .null, .null, .int 0, .int 0, .int 0, .null, .null, .null, .null, .null, .null, .int 0, .int 0, .int 0, .int 0, .int 0, .int 0, .int 0, .int 0, .int 0, .null, .null, .null, .null, .null, .int 0, .int 0, .int 0, .int 0, .int 0, .int 0, .int 0, .null, .null, .null, .null, .null, .null, .null, .null, .null, .null, .int 0, .int 0, .int 0, .int 0, .null, .null, .null, .null, .null, .int 0, .int 0, .int 0, .int 0, .int 0, .int 0, .int 0, .int 0, .int 0, .int 0, .int 0, .null, .null, .null, .int 0, .int 0, .null, .int 0, .int 0, .int 0])) :: wX qx cy) ∧ kI D cy U ∧ kS sx sy (fun a => n0 ≤ a) U U.heap ∧ n0 ≤ U.heap.size)) (va_Qv (fun q : Nat → Nat => z_inj q ∧ (∀ i, i < 102 → n0 ≤ q i) ∧ q 0 = qx 0 ∧ q 65 = h0) (fun q t => z_P (D, q, cy, sx, sy) X0 M2 t.heap) (fun a => n0 ≤ a)) 36 20350 (fun a => n0 ≤ a) := by
  refine Met.ofW (cc := cX10_init) (maxL := 1) (ret := none) (by decide) rfl ?_
  intro p e s m args below meth c s₁ B hml hv
  obtain ⟨rfl, hP, hD, hI, hZ, hsz⟩ := hv
  have hts := atoms_spec (ws := Cond.code yX10_init cX10_init 1 none :: lw_good) B.pre
  have hl := lv_entry ([.ref h0]) (n := 1) (Nat.le_of_ble_eq_true rfl)
  have hin : meth.name = "<init>" := (name_of_methodNamed B.named B.method).1
  rw [lg_entry_eq]
  generalize (lg_sl ([.ref h0]) ++ List.replicate (1 - (lg_sl ([.ref h0])).length) Slot.unset).toArray = ls at hl ⊢
  have hl : lv_has ls 1 [(0, .ref h0)] := hl
  have E : CallFix p m c cX10_init 1 s #[Value.ref h0] lw_good RX10 := ⟨B.exec, B.bytes, hml, findClass_of_methodNamed B.named, fun w h => hts w (List.mem_cons_of_mem _ h)⟩
  have hr := B.returns
  have hlk := B.notSynchronized
  have hS : va_S (fun a => n0 ≤ a) s.heap s.heap [] := va_S.rf
  have hA : ∀ q, s.heap.size ≤ q → (fun a => n0 ≤ a) q := fun q h => Nat.le_trans hsz h
  refine z_iObj E hl tw930 dX10_init_0 dX10_init_1 (Nat.le_of_ble_eq_true rfl) (Nat.le_of_ble_eq_true rfl) ?_
  refine lv_aload_n E.1 E.2.1 dX10_init_4 rfl (lv_at hl 0 rfl) ?_
  refine lv_bipush (v := 7) E.1 E.2.1 dX10_init_5 (by decide) ?_
  refine z_iAF (C := RX10) (T := TX10) (N := 75) (n := 7) E hin hI hP hD hS hA iwX10 tyX10 tyX10_ok nmX10 rfl 0 (by decide) ⟨rfl, rfl⟩ (by decide +kernel) (Nat.le_of_ble_eq_true rfl) tw952 7 (by decide) (by decide) (Nat.le_of_ble_eq_true rfl) (Nat.le_of_ble_eq_true rfl) (Nat.le_of_ble_eq_true rfl) dX10_init_7 dX10_init_9 (fun q1 H locs hP hD hS => ?_)
  refine lv_aload_n E.1 E.2.1 dX10_init_12 rfl (lv_at hl 0 rfl) ?_
  refine lv_bipush (v := 41) E.1 E.2.1 dX10_init_13 (by decide) ?_
  refine z_iAF (C := RX10) (T := TX10) (N := 75) (n := 41) E hin hI hP hD hS hA iwX10 tyX10 tyX10_ok nmX10 rfl 1 (by decide) ⟨rfl, rfl⟩ (by decide +kernel) (Nat.le_of_ble_eq_true rfl) tw953 41 (by decide) (by decide) (Nat.le_of_ble_eq_true rfl) (Nat.le_of_ble_eq_true rfl) (Nat.le_of_ble_eq_true rfl) dX10_init_15 dX10_init_17 (fun q2 H locs hP hD hS => ?_)
  refine lv_aload_n E.1 E.2.1 dX10_init_20 rfl (lv_at hl 0 rfl) ?_
  refine lv_bipush (v := 41) E.1 E.2.1 dX10_init_21 (by decide) ?_
  refine z_iAF (C := RX10) (T := TX10) (N := 75) (n := 41) E hin hI hP hD hS hA iwX10 tyX10 tyX10_ok nmX10 rfl 2 (by decide) ⟨rfl, rfl⟩ (by decide +kernel) (Nat.le_of_ble_eq_true rfl) tw954 41 (by decide) (by decide) (Nat.le_of_ble_eq_true rfl) (Nat.le_of_ble_eq_true rfl) (Nat.le_of_ble_eq_true rfl) dX10_init_23 dX10_init_25 (fun q3 H locs hP hD hS => ?_)
  refine lv_aload_n E.1 E.2.1 dX10_init_28 rfl (lv_at hl 0 rfl) ?_
  refine lv_bipush (v := 41) E.1 E.2.1 dX10_init_29 (by decide) ?_
  refine z_iAF (C := RX10) (T := TX10) (N := 75) (n := 41) E hin hI hP hD hS hA iwX10 tyX10 tyX10_ok nmX10 rfl 3 (by decide) ⟨rfl, rfl⟩ (by decide +kernel) (Nat.le_of_ble_eq_true rfl) tw955 41 (by decide) (by decide) (Nat.le_of_ble_eq_true rfl) (Nat.le_of_ble_eq_true rfl) (Nat.le_of_ble_eq_true rfl) dX10_init_31 dX10_init_33 (fun q4 H locs hP hD hS => ?_)
  refine lv_aload_n E.1 E.2.1 dX10_init_36 rfl (lv_at hl 0 rfl) ?_
  refine lv_bipush (v := 41) E.1 E.2.1 dX10_init_37 (by decide) ?_
  refine z_iAF (C := RX10) (T := TX10) (N := 75) (n := 41) E hin hI hP hD hS hA iwX10 tyX10 tyX10_ok nmX10 rfl 4 (by decide) ⟨rfl, rfl⟩ (by decide +kernel) (Nat.le_of_ble_eq_true rfl) tw956 41 (by decide) (by decide) (Nat.le_of_ble_eq_true rfl) (Nat.le_of_ble_eq_true rfl) (Nat.le_of_ble_eq_true rfl) dX10_init_39 dX10_init_41 (fun q5 H locs hP hD hS => ?_)
  refine lv_aload_n E.1 E.2.1 dX10_init_44 rfl (lv_at hl 0 rfl) ?_
  refine lv_bipush (v := 41) E.1 E.2.1 dX10_init_45 (by decide) ?_
  refine z_iAF (C := RX10) (T := TX10) (N := 75) (n := 41) E hin hI hP hD hS hA iwX10 tyX10 tyX10_ok nmX10 rfl 5 (by decide) ⟨rfl, rfl⟩ (by decide +kernel) (Nat.le_of_ble_eq_true rfl) tw957 41 (by decide) (by decide) (Nat.le_of_ble_eq_true rfl) (Nat.le_of_ble_eq_true rfl) (Nat.le_of_ble_eq_true rfl) dX10_init_47 dX10_init_49 (fun q6 H locs hP hD hS => ?_)
  refine lv_aload_n E.1 E.2.1 dX10_init_52 rfl (lv_at hl 0 rfl) ?_
  refine lv_bipush (v := 96) E.1 E.2.1 dX10_init_53 (by decide) ?_
  refine z_iAF (C := RX10) (T := TX10) (N := 75) (n := 96) E hin hI hP hD hS hA iwX10 tyX10 tyX10_ok nmX10 rfl 9 (by decide) ⟨rfl, rfl⟩ (by decide +kernel) (Nat.le_of_ble_eq_true rfl) tw961 96 (by decide) (by decide) (Nat.le_of_ble_eq_true rfl) (Nat.le_of_ble_eq_true rfl) (Nat.le_of_ble_eq_true rfl) dX10_init_55 dX10_init_57 (fun q7 H locs hP hD hS => ?_)
  refine lv_aload_n E.1 E.2.1 dX10_init_60 rfl (lv_at hl 0 rfl) ?_
  refine lv_bipush (v := 96) E.1 E.2.1 dX10_init_61 (by decide) ?_
  refine z_iAF (C := RX10) (T := TX10) (N := 75) (n := 96) E hin hI hP hD hS hA iwX10 tyX10 tyX10_ok nmX10 rfl 10 (by decide) ⟨rfl, rfl⟩ (by decide +kernel) (Nat.le_of_ble_eq_true rfl) tw962 96 (by decide) (by decide) (Nat.le_of_ble_eq_true rfl) (Nat.le_of_ble_eq_true rfl) (Nat.le_of_ble_eq_true rfl) dX10_init_63 dX10_init_65 (fun q8 H locs hP hD hS => ?_)
  refine lv_aload_n E.1 E.2.1 dX10_init_68 rfl (lv_at hl 0 rfl) ?_
  refine lv_bipush (v := 96) E.1 E.2.1 dX10_init_69 (by decide) ?_
  refine z_iAF (C := RX10) (T := TX10) (N := 75) (n := 96) E hin hI hP hD hS hA iwX10 tyX10 tyX10_ok nmX10 rfl 11 (by decide) ⟨rfl, rfl⟩ (by decide +kernel) (Nat.le_of_ble_eq_true rfl) tw963 96 (by decide) (by decide) (Nat.le_of_ble_eq_true rfl) (Nat.le_of_ble_eq_true rfl) (Nat.le_of_ble_eq_true rfl) dX10_init_71 dX10_init_73 (fun q9 H locs hP hD hS => ?_)
  refine lv_aload_n E.1 E.2.1 dX10_init_76 rfl (lv_at hl 0 rfl) ?_
  refine lv_bipush (v := 96) E.1 E.2.1 dX10_init_77 (by decide) ?_
  refine z_iAF (C := RX10) (T := TX10) (N := 75) (n := 96) E hin hI hP hD hS hA iwX10 tyX10 tyX10_ok nmX10 rfl 12 (by decide) ⟨rfl, rfl⟩ (by decide +kernel) (Nat.le_of_ble_eq_true rfl) tw964 96 (by decide) (by decide) (Nat.le_of_ble_eq_true rfl) (Nat.le_of_ble_eq_true rfl) (Nat.le_of_ble_eq_true rfl) dX10_init_79 dX10_init_81 (fun q10 H locs hP hD hS => ?_)
  refine lv_aload_n E.1 E.2.1 dX10_init_84 rfl (lv_at hl 0 rfl) ?_
  refine lv_sipush (v := 300) E.1 E.2.1 dX10_init_85 (by decide) ?_
  refine z_iAF (C := RX10) (T := TX10) (N := 75) (n := 300) E hin hI hP hD hS hA iwX10 tyX10 tyX10_ok nmX10 rfl 13 (by decide) ⟨rfl, rfl⟩ (by decide +kernel) (Nat.le_of_ble_eq_true rfl) tw965 300 (by decide) (by decide) (Nat.le_of_ble_eq_true rfl) (Nat.le_of_ble_eq_true rfl) (Nat.le_of_ble_eq_true rfl) dX10_init_88 dX10_init_90 (fun q11 H locs hP hD hS => ?_)
  refine lv_aload_n E.1 E.2.1 dX10_init_93 rfl (lv_at hl 0 rfl) ?_
  refine lv_bipush (v := 100) E.1 E.2.1 dX10_init_94 (by decide) ?_
  refine z_iAF (C := RX10) (T := TX10) (N := 75) (n := 100) E hin hI hP hD hS hA iwX10 tyX10 tyX10_ok nmX10 rfl 14 (by decide) ⟨rfl, rfl⟩ (by decide +kernel) (Nat.le_of_ble_eq_true rfl) tw966 100 (by decide) (by decide) (Nat.le_of_ble_eq_true rfl) (Nat.le_of_ble_eq_true rfl) (Nat.le_of_ble_eq_true rfl) dX10_init_96 dX10_init_98 (fun q12 H locs hP hD hS => ?_)
  refine lv_aload_n E.1 E.2.1 dX10_init_101 rfl (lv_at hl 0 rfl) ?_
  refine lv_bipush (v := 6) E.1 E.2.1 dX10_init_102 (by decide) ?_
  refine z_iAF (C := RX10) (T := TX10) (N := 75) (n := 6) E hin hI hP hD hS hA iwX10 tyX10 tyX10_ok nmX10 rfl 24 (by decide) ⟨rfl, rfl⟩ (by decide +kernel) (Nat.le_of_ble_eq_true rfl) tw976 6 (by decide) (by decide) (Nat.le_of_ble_eq_true rfl) (Nat.le_of_ble_eq_true rfl) (Nat.le_of_ble_eq_true rfl) dX10_init_104 dX10_init_106 (fun q13 H locs hP hD hS => ?_)
  refine lv_aload_n E.1 E.2.1 dX10_init_109 rfl (lv_at hl 0 rfl) ?_
  refine lv_bipush (v := 10) E.1 E.2.1 dX10_init_110 (by decide) ?_
  refine z_iAF (C := RX10) (T := TX10) (N := 75) (n := 10) E hin hI hP hD hS hA iwX10 tyX10 tyX10_ok nmX10 rfl 25 (by decide) ⟨rfl, rfl⟩ (by decide +kernel) (Nat.le_of_ble_eq_true rfl) tw977 10 (by decide) (by decide) (Nat.le_of_ble_eq_true rfl) (Nat.le_of_ble_eq_true rfl) (Nat.le_of_ble_eq_true rfl) dX10_init_112 dX10_init_114 (fun q14 H locs hP hD hS => ?_)
  refine lv_aload_n E.1 E.2.1 dX10_init_117 rfl (lv_at hl 0 rfl) ?_
  refine lv_bipush (v := 10) E.1 E.2.1 dX10_init_118 (by decide) ?_
  refine z_iAF (C := RX10) (T := TX10) (N := 75) (n := 10) E hin hI hP hD hS hA iwX10 tyX10 tyX10_ok nmX10 rfl 26 (by decide) ⟨rfl, rfl⟩ (by decide +kernel) (Nat.le_of_ble_eq_true rfl) tw978 10 (by decide) (by decide) (Nat.le_of_ble_eq_true rfl) (Nat.le_of_ble_eq_true rfl) (Nat.le_of_ble_eq_true rfl) dX10_init_120 dX10_init_122 (fun q15 H locs hP hD hS => ?_)
  refine lv_aload_n E.1 E.2.1 dX10_init_125 rfl (lv_at hl 0 rfl) ?_
  refine lv_bipush (v := 10) E.1 E.2.1 dX10_init_126 (by decide) ?_
  refine z_iAF (C := RX10) (T := TX10) (N := 75) (n := 10) E hin hI hP hD hS hA iwX10 tyX10 tyX10_ok nmX10 rfl 27 (by decide) ⟨rfl, rfl⟩ (by decide +kernel) (Nat.le_of_ble_eq_true rfl) tw979 10 (by decide) (by decide) (Nat.le_of_ble_eq_true rfl) (Nat.le_of_ble_eq_true rfl) (Nat.le_of_ble_eq_true rfl) dX10_init_128 dX10_init_130 (fun q16 H locs hP hD hS => ?_)
  refine lv_aload_n E.1 E.2.1 dX10_init_133 rfl (lv_at hl 0 rfl) ?_
  refine lv_sipush (v := 460) E.1 E.2.1 dX10_init_134 (by decide) ?_
  refine z_iAF (C := RX10) (T := TX10) (N := 75) (n := 460) E hin hI hP hD hS hA iwX10 tyX10 tyX10_ok nmX10 rfl 28 (by decide) ⟨rfl, rfl⟩ (by decide +kernel) (Nat.le_of_ble_eq_true rfl) tw980 460 (by decide) (by decide) (Nat.le_of_ble_eq_true rfl) (Nat.le_of_ble_eq_true rfl) (Nat.le_of_ble_eq_true rfl) dX10_init_137 dX10_init_139 (fun q17 H locs hP hD hS => ?_)
  refine lv_aload_n E.1 E.2.1 dX10_init_142 rfl (lv_at hl 0 rfl) ?_
  refine lv_bipush (v := (-9)) E.1 E.2.1 dX10_init_143 (by decide) ?_
  refine z_iInt (C := RX10) (T := TX10) (N := 75) (ty := .int) (v := (-9)) E hI hP hD hS iwX10 tyX10 tyX10_ok nmX10 rfl 29 (by decide) rfl (by decide +kernel) rfl rfl (Nat.le_of_ble_eq_true rfl) tw981 dX10_init_145 (fun H locs hP hD hS => ?_)
  refine lv_aload_n E.1 E.2.1 dX10_init_148 rfl (lv_at hl 0 rfl) ?_
  refine lv_sipush (v := 2000) E.1 E.2.1 dX10_init_149 (by decide) ?_
  refine z_iAF (C := RX10) (T := TX10) (N := 75) (n := 2000) E hin hI hP hD hS hA iwX10 tyX10 tyX10_ok nmX10 rfl 36 (by decide) ⟨rfl, rfl⟩ (by decide +kernel) (Nat.le_of_ble_eq_true rfl) tw988 2000 (by decide) (by decide) (Nat.le_of_ble_eq_true rfl) (Nat.le_of_ble_eq_true rfl) (Nat.le_of_ble_eq_true rfl) dX10_init_152 dX10_init_154 (fun q18 H locs hP hD hS => ?_)
  refine lv_aload_n E.1 E.2.1 dX10_init_157 rfl (lv_at hl 0 rfl) ?_
  refine lv_sipush (v := 2000) E.1 E.2.1 dX10_init_158 (by decide) ?_
  refine z_iAF (C := RX10) (T := TX10) (N := 75) (n := 2000) E hin hI hP hD hS hA iwX10 tyX10 tyX10_ok nmX10 rfl 37 (by decide) ⟨rfl, rfl⟩ (by decide +kernel) (Nat.le_of_ble_eq_true rfl) tw989 2000 (by decide) (by decide) (Nat.le_of_ble_eq_true rfl) (Nat.le_of_ble_eq_true rfl) (Nat.le_of_ble_eq_true rfl) dX10_init_161 dX10_init_163 (fun q19 H locs hP hD hS => ?_)
  refine lv_aload_n E.1 E.2.1 dX10_init_166 rfl (lv_at hl 0 rfl) ?_
  refine lv_sipush (v := 2000) E.1 E.2.1 dX10_init_167 (by decide) ?_
  refine z_iAF (C := RX10) (T := TX10) (N := 75) (n := 2000) E hin hI hP hD hS hA iwX10 tyX10 tyX10_ok nmX10 rfl 38 (by decide) ⟨rfl, rfl⟩ (by decide +kernel) (Nat.le_of_ble_eq_true rfl) tw990 2000 (by decide) (by decide) (Nat.le_of_ble_eq_true rfl) (Nat.le_of_ble_eq_true rfl) (Nat.le_of_ble_eq_true rfl) dX10_init_170 dX10_init_172 (fun q20 H locs hP hD hS => ?_)
  refine lv_aload_n E.1 E.2.1 dX10_init_175 rfl (lv_at hl 0 rfl) ?_
  refine lv_sipush (v := 2000) E.1 E.2.1 dX10_init_176 (by decide) ?_
  refine z_iAF (C := RX10) (T := TX10) (N := 75) (n := 2000) E hin hI hP hD hS hA iwX10 tyX10 tyX10_ok nmX10 rfl 39 (by decide) ⟨rfl, rfl⟩ (by decide +kernel) (Nat.le_of_ble_eq_true rfl) tw991 2000 (by decide) (by decide) (Nat.le_of_ble_eq_true rfl) (Nat.le_of_ble_eq_true rfl) (Nat.le_of_ble_eq_true rfl) dX10_init_179 dX10_init_181 (fun q21 H locs hP hD hS => ?_)
  refine lv_aload_n E.1 E.2.1 dX10_init_184 rfl (lv_at hl 0 rfl) ?_
  refine lv_sipush (v := 1000) E.1 E.2.1 dX10_init_185 (by decide) ?_
  refine z_iAF (C := RX10) (T := TX10) (N := 75) (n := 1000) E hin hI hP hD hS hA iwX10 tyX10 tyX10_ok nmX10 rfl 40 (by decide) ⟨rfl, rfl⟩ (by decide +kernel) (Nat.le_of_ble_eq_true rfl) tw992 1000 (by decide) (by decide) (Nat.le_of_ble_eq_true rfl) (Nat.le_of_ble_eq_true rfl) (Nat.le_of_ble_eq_true rfl) dX10_init_188 dX10_init_190 (fun q22 H locs hP hD hS => ?_)
  refine lv_aload_n E.1 E.2.1 dX10_init_193 rfl (lv_at hl 0 rfl) ?_
  refine lv_sipush (v := 1000) E.1 E.2.1 dX10_init_194 (by decide) ?_
  refine z_iAF (C := RX10) (T := TX10) (N := 75) (n := 1000) E hin hI hP hD hS hA iwX10 tyX10 tyX10_ok nmX10 rfl 41 (by decide) ⟨rfl, rfl⟩ (by decide +kernel) (Nat.le_of_ble_eq_true rfl) tw993 1000 (by decide) (by decide) (Nat.le_of_ble_eq_true rfl) (Nat.le_of_ble_eq_true rfl) (Nat.le_of_ble_eq_true rfl) dX10_init_197 dX10_init_199 (fun q23 H locs hP hD hS => ?_)
  refine lv_aload_n E.1 E.2.1 dX10_init_202 rfl (lv_at hl 0 rfl) ?_
  refine lv_sipush (v := 1000) E.1 E.2.1 dX10_init_203 (by decide) ?_
  refine z_iAF (C := RX10) (T := TX10) (N := 75) (n := 1000) E hin hI hP hD hS hA iwX10 tyX10 tyX10_ok nmX10 rfl 42 (by decide) ⟨rfl, rfl⟩ (by decide +kernel) (Nat.le_of_ble_eq_true rfl) tw994 1000 (by decide) (by decide) (Nat.le_of_ble_eq_true rfl) (Nat.le_of_ble_eq_true rfl) (Nat.le_of_ble_eq_true rfl) dX10_init_206 dX10_init_208 (fun q24 H locs hP hD hS => ?_)
  refine lv_aload_n E.1 E.2.1 dX10_init_211 rfl (lv_at hl 0 rfl) ?_
  refine lv_sipush (v := 1000) E.1 E.2.1 dX10_init_212 (by decide) ?_
  refine z_iAF (C := RX10) (T := TX10) (N := 75) (n := 1000) E hin hI hP hD hS hA iwX10 tyX10 tyX10_ok nmX10 rfl 43 (by decide) ⟨rfl, rfl⟩ (by decide +kernel) (Nat.le_of_ble_eq_true rfl) tw995 1000 (by decide) (by decide) (Nat.le_of_ble_eq_true rfl) (Nat.le_of_ble_eq_true rfl) (Nat.le_of_ble_eq_true rfl) dX10_init_215 dX10_init_217 (fun q25 H locs hP hD hS => ?_)
  refine lv_aload_n E.1 E.2.1 dX10_init_220 rfl (lv_at hl 0 rfl) ?_
  refine lv_sipush (v := 1000) E.1 E.2.1 dX10_init_221 (by decide) ?_
  refine z_iAF (C := RX10) (T := TX10) (N := 75) (n := 1000) E hin hI hP hD hS hA iwX10 tyX10 tyX10_ok nmX10 rfl 44 (by decide) ⟨rfl, rfl⟩ (by decide +kernel) (Nat.le_of_ble_eq_true rfl) tw996 1000 (by decide) (by decide) (Nat.le_of_ble_eq_true rfl) (Nat.le_of_ble_eq_true rfl) (Nat.le_of_ble_eq_true rfl) dX10_init_224 dX10_init_226 (fun q26 H locs hP hD hS => ?_)
  refine lv_aload_n E.1 E.2.1 dX10_init_229 rfl (lv_at hl 0 rfl) ?_
  refine lv_sipush (v := 1000) E.1 E.2.1 dX10_init_230 (by decide) ?_
  refine z_iAF (C := RX10) (T := TX10) (N := 75) (n := 1000) E hin hI hP hD hS hA iwX10 tyX10 tyX10_ok nmX10 rfl 45 (by decide) ⟨rfl, rfl⟩ (by decide +kernel) (Nat.le_of_ble_eq_true rfl) tw997 1000 (by decide) (by decide) (Nat.le_of_ble_eq_true rfl) (Nat.le_of_ble_eq_true rfl) (Nat.le_of_ble_eq_true rfl) dX10_init_233 dX10_init_235 (fun q27 H locs hP hD hS => ?_)
  refine lv_aload_n E.1 E.2.1 dX10_init_238 rfl (lv_at hl 0 rfl) ?_
  refine lv_sipush (v := 800) E.1 E.2.1 dX10_init_239 (by decide) ?_
  refine z_iAF (C := RX10) (T := TX10) (N := 75) (n := 800) E hin hI hP hD hS hA iwX10 tyX10 tyX10_ok nmX10 rfl 50 (by decide) ⟨rfl, rfl⟩ (by decide +kernel) (Nat.le_of_ble_eq_true rfl) tw1002 800 (by decide) (by decide) (Nat.le_of_ble_eq_true rfl) (Nat.le_of_ble_eq_true rfl) (Nat.le_of_ble_eq_true rfl) dX10_init_242 dX10_init_244 (fun q28 H locs hP hD hS => ?_)
  refine lv_aload_n E.1 E.2.1 dX10_init_247 rfl (lv_at hl 0 rfl) ?_
  refine lv_sipush (v := 800) E.1 E.2.1 dX10_init_248 (by decide) ?_
  refine z_iAF (C := RX10) (T := TX10) (N := 75) (n := 800) E hin hI hP hD hS hA iwX10 tyX10 tyX10_ok nmX10 rfl 51 (by decide) ⟨rfl, rfl⟩ (by decide +kernel) (Nat.le_of_ble_eq_true rfl) tw1003 800 (by decide) (by decide) (Nat.le_of_ble_eq_true rfl) (Nat.le_of_ble_eq_true rfl) (Nat.le_of_ble_eq_true rfl) dX10_init_251 dX10_init_253 (fun q29 H locs hP hD hS => ?_)
  refine lv_aload_n E.1 E.2.1 dX10_init_256 rfl (lv_at hl 0 rfl) ?_
  refine lv_sipush (v := 800) E.1 E.2.1 dX10_init_257 (by decide) ?_
  refine z_iAF (C := RX10) (T := TX10) (N := 75) (n := 800) E hin hI hP hD hS hA iwX10 tyX10 tyX10_ok nmX10 rfl 52 (by decide) ⟨rfl, rfl⟩ (by decide +kernel) (Nat.le_of_ble_eq_true rfl) tw1004 800 (by decide) (by decide) (Nat.le_of_ble_eq_true rfl) (Nat.le_of_ble_eq_true rfl) (Nat.le_of_ble_eq_true rfl) dX10_init_260 dX10_init_262 (fun q30 H locs hP hD hS => ?_)
  refine lv_aload_n E.1 E.2.1 dX10_init_265 rfl (lv_at hl 0 rfl) ?_
  refine lv_sipush (v := 800) E.1 E.2.1 dX10_init_266 (by decide) ?_
  refine z_iAF (C := RX10) (T := TX10) (N := 75) (n := 800) E hin hI hP hD hS hA iwX10 tyX10 tyX10_ok nmX10 rfl 53 (by decide) ⟨rfl, rfl⟩ (by decide +kernel) (Nat.le_of_ble_eq_true rfl) tw1005 800 (by decide) (by decide) (Nat.le_of_ble_eq_true rfl) (Nat.le_of_ble_eq_true rfl) (Nat.le_of_ble_eq_true rfl) dX10_init_269 dX10_init_271 (fun q31 H locs hP hD hS => ?_)
  refine lv_aload_n E.1 E.2.1 dX10_init_274 rfl (lv_at hl 0 rfl) ?_
  refine lv_sipush (v := 800) E.1 E.2.1 dX10_init_275 (by decide) ?_
  refine z_iAF (C := RX10) (T := TX10) (N := 75) (n := 800) E hin hI hP hD hS hA iwX10 tyX10 tyX10_ok nmX10 rfl 54 (by decide) ⟨rfl, rfl⟩ (by decide +kernel) (Nat.le_of_ble_eq_true rfl) tw1006 800 (by decide) (by decide) (Nat.le_of_ble_eq_true rfl) (Nat.le_of_ble_eq_true rfl) (Nat.le_of_ble_eq_true rfl) dX10_init_278 dX10_init_280 (fun q32 H locs hP hD hS => ?_)
  refine lv_aload_n E.1 E.2.1 dX10_init_283 rfl (lv_at hl 0 rfl) ?_
  refine lv_bipush (v := 6) E.1 E.2.1 dX10_init_284 (by decide) ?_
  refine z_iAF (C := RX10) (T := TX10) (N := 75) (n := 6) E hin hI hP hD hS hA iwX10 tyX10 tyX10_ok nmX10 rfl 66 (by decide) ⟨rfl, rfl⟩ (by decide +kernel) (Nat.le_of_ble_eq_true rfl) tw1018 6 (by decide) (by decide) (Nat.le_of_ble_eq_true rfl) (Nat.le_of_ble_eq_true rfl) (Nat.le_of_ble_eq_true rfl) dX10_init_286 dX10_init_288 (fun q33 H locs hP hD hS => ?_)
  refine lv_aload_n E.1 E.2.1 dX10_init_291 rfl (lv_at hl 0 rfl) ?_
  refine lv_bipush (v := 36) E.1 E.2.1 dX10_init_292 (by decide) ?_
  refine z_iAF (C := RX10) (T := TX10) (N := 75) (n := 36) E hin hI hP hD hS hA iwX10 tyX10 tyX10_ok nmX10 rfl 67 (by decide) ⟨rfl, rfl⟩ (by decide +kernel) (Nat.le_of_ble_eq_true rfl) tw1019 36 (by decide) (by decide) (Nat.le_of_ble_eq_true rfl) (Nat.le_of_ble_eq_true rfl) (Nat.le_of_ble_eq_true rfl) dX10_init_294 dX10_init_296 (fun q34 H locs hP hD hS => ?_)
  refine lv_aload_n E.1 E.2.1 dX10_init_299 rfl (lv_at hl 0 rfl) ?_
  refine lv_bipush (v := 16) E.1 E.2.1 dX10_init_300 (by decide) ?_
  refine z_iAF (C := RX10) (T := TX10) (N := 75) (n := 16) E hin hI hP hD hS hA iwX10 tyX10 tyX10_ok nmX10 rfl 68 (by decide) ⟨rfl, rfl⟩ (by decide +kernel) (Nat.le_of_ble_eq_true rfl) tw1020 16 (by decide) (by decide) (Nat.le_of_ble_eq_true rfl) (Nat.le_of_ble_eq_true rfl) (Nat.le_of_ble_eq_true rfl) dX10_init_302 dX10_init_304 (fun q35 H locs hP hD hS => ?_)
  refine lv_aload_n E.1 E.2.1 dX10_init_307 rfl (lv_at hl 0 rfl) ?_
  refine lv_sipush (v := 800) E.1 E.2.1 dX10_init_308 (by decide) ?_
  refine z_iAF (C := RX10) (T := TX10) (N := 75) (n := 800) E hin hI hP hD hS hA iwX10 tyX10 tyX10_ok nmX10 rfl 71 (by decide) ⟨rfl, rfl⟩ (by decide +kernel) (Nat.le_of_ble_eq_true rfl) tw1023 800 (by decide) (by decide) (Nat.le_of_ble_eq_true rfl) (Nat.le_of_ble_eq_true rfl) (Nat.le_of_ble_eq_true rfl) dX10_init_311 dX10_init_313 (fun q36 H locs hP hD hS => ?_)
  refine lv_aload_n E.1 E.2.1 dX10_init_316 rfl (lv_at hl 0 rfl) ?_
  refine va_get (v := .ref q8) (C := RX10) (T := TX10) (N := 75) E.1 E.2.1 E.2.2.2.2 iwX10 E.2.2.2.1 hI.1 hP 0 rfl rfl 10 (by decide) (E.2.2.2.2 _ tw962) (fun _ h9 => h9) rfl dX10_init_317 ?_
  refine lv_iconst (v := 0) E.1 E.2.1 dX10_init_320 (by decide) ?_
  refine lv_bipush (v := 48) E.1 E.2.1 dX10_init_321 (by decide) ?_
  have hP : va_P D vwC ((h0, .inr (10, [.ref q1, .ref q2, .ref q3, .ref q4, .ref q5, .ref q6, .int 0, .int 0, .int 0, .ref q7, .ref q8, .ref q9, .ref q10, .ref q11, .ref q12, .int 0, .int 0, .int 0, .int 0, .int 0, .int 0, .int 0, .int 0, .int 0, .ref q13, .ref q14, .ref q15, .ref q16, .ref q17, .int (-9), .int 0, .int 0, .int 0, .int 0, .int 0, .int 0, .ref q18, .ref q19, .ref q20, .ref q21, .ref q22, .ref q23, .ref q24, .ref q25, .ref q26, .ref q27, .int 0, .int 0, .int 0, .int 0, .ref q28, .ref q29, .ref q30, .ref q31, .ref q32, .int 0, .int 0, .int 0, .int 0, .int 0, .int 0, .int 0, .int 0, .int 0, .int 0, .int 0, .ref q33, .ref q34, .ref q35, .int 0, .int 0, .ref q36, .int 0, .int 0, .int 0])) :: (wX qx cy ++ [(q1, ar cy 7 z0), (q2, ar cy 41 z0), (q3, ar cy 41 z0), (q4, ar cy 41 z0), (q5, ar cy 41 z0), (q6, ar cy 41 z0), (q7, ar cy 96 z0), (q8, ar cy 96 z0), (q9, ar cy 96 z0), (q10, ar cy 96 z0), (q11, ar cy 300 z0), (q12, ar cy 100 z0), (q13, ar cy 6 z0), (q14, ar cy 10 z0), (q15, ar cy 10 z0), (q16, ar cy 10 z0), (q17, ar cy 460 z0), (q18, ar cy 2000 z0), (q19, ar cy 2000 z0), (q20, ar cy 2000 z0), (q21, ar cy 2000 z0), (q22, ar cy 1000 z0), (q23, ar cy 1000 z0), (q24, ar cy 1000 z0), (q25, ar cy 1000 z0), (q26, ar cy 1000 z0), (q27, ar cy 1000 z0), (q28, ar cy 800 z0), (q29, ar cy 800 z0), (q30, ar cy 800 z0), (q31, ar cy 800 z0), (q32, ar cy 800 z0), (q33, ar cy 6 z0), (q34, ar cy 36 z0), (q35, ar cy 16 z0), (q36, ar cy 800 z0)])) H := by simpa only [List.append_assoc, List.singleton_append, List.cons_append, List.nil_append] using hP
  have hD : va_D (fun a => n0 ≤ a) ((h0, .inr (10, [.ref q1, .ref q2, .ref q3, .ref q4, .ref q5, .ref q6, .int 0, .int 0, .int 0, .ref q7, .ref q8, .ref q9, .ref q10, .ref q11, .ref q12, .int 0, .int 0, .int 0, .int 0, .int 0, .int 0, .int 0, .int 0, .int 0, .ref q13, .ref q14, .ref q15, .ref q16, .ref q17, .int (-9), .int 0, .int 0, .int 0, .int 0, .int 0, .int 0, .ref q18, .ref q19, .ref q20, .ref q21, .ref q22, .ref q23, .ref q24, .ref q25, .ref q26, .ref q27, .int 0, .int 0, .int 0, .int 0, .ref q28, .ref q29, .ref q30, .ref q31, .ref q32, .int 0, .int 0, .int 0, .int 0, .int 0, .int 0, .int 0, .int 0, .int 0, .int 0, .int 0, .ref q33, .ref q34, .ref q35, .int 0, .int 0, .ref q36, .int 0, .int 0, .int 0])) :: (wX qx cy ++ [(q1, ar cy 7 z0), (q2, ar cy 41 z0), (q3, ar cy 41 z0), (q4, ar cy 41 z0), (q5, ar cy 41 z0), (q6, ar cy 41 z0), (q7, ar cy 96 z0), (q8, ar cy 96 z0), (q9, ar cy 96 z0), (q10, ar cy 96 z0), (q11, ar cy 300 z0), (q12, ar cy 100 z0), (q13, ar cy 6 z0), (q14, ar cy 10 z0), (q15, ar cy 10 z0), (q16, ar cy 10 z0), (q17, ar cy 460 z0), (q18, ar cy 2000 z0), (q19, ar cy 2000 z0), (q20, ar cy 2000 z0), (q21, ar cy 2000 z0), (q22, ar cy 1000 z0), (q23, ar cy 1000 z0), (q24, ar cy 1000 z0), (q25, ar cy 1000 z0), (q26, ar cy 1000 z0), (q27, ar cy 1000 z0), (q28, ar cy 800 z0), (q29, ar cy 800 z0), (q30, ar cy 800 z0), (q31, ar cy 800 z0), (q32, ar cy 800 z0), (q33, ar cy 6 z0), (q34, ar cy 36 z0), (q35, ar cy 16 z0), (q36, ar cy 800 z0)])) := by simpa only [List.append_assoc, List.singleton_append, List.cons_append, List.nil_append] using hD
  refine va_iast (i := 0) (x := 48) E.1 E.2.1 hI.1 hP hD hS 73 0 rfl rfl (fun q => q.elim (fun h => absurd h (by decide)) (fun h => absurd h (by decide))) dX10_init_323 (fun H locs hP hD hS => ?_)
  have hP : va_P D vwC ((h0, .inr (10, [.ref q1, .ref q2, .ref q3, .ref q4, .ref q5, .ref q6, .int 0, .int 0, .int 0, .ref q7, .ref q8, .ref q9, .ref q10, .ref q11, .ref q12, .int 0, .int 0, .int 0, .int 0, .int 0, .int 0, .int 0, .int 0, .int 0, .ref q13, .ref q14, .ref q15, .ref q16, .ref q17, .int (-9), .int 0, .int 0, .int 0, .int 0, .int 0, .int 0, .ref q18, .ref q19, .ref q20, .ref q21, .ref q22, .ref q23, .ref q24, .ref q25, .ref q26, .ref q27, .int 0, .int 0, .int 0, .int 0, .ref q28, .ref q29, .ref q30, .ref q31, .ref q32, .int 0, .int 0, .int 0, .int 0, .int 0, .int 0, .int 0, .int 0, .int 0, .int 0, .int 0, .ref q33, .ref q34, .ref q35, .int 0, .int 0, .ref q36, .int 0, .int 0, .int 0])) :: (wX qx cy ++ [(q1, ar cy 7 z0), (q2, ar cy 41 z0), (q3, ar cy 41 z0), (q4, ar cy 41 z0), (q5, ar cy 41 z0), (q6, ar cy 41 z0), (q7, ar cy 96 z0), (q8, ar cy 96 sg0), (q9, ar cy 96 z0), (q10, ar cy 96 z0), (q11, ar cy 300 z0), (q12, ar cy 100 z0), (q13, ar cy 6 z0), (q14, ar cy 10 z0), (q15, ar cy 10 z0), (q16, ar cy 10 z0), (q17, ar cy 460 z0), (q18, ar cy 2000 z0), (q19, ar cy 2000 z0), (q20, ar cy 2000 z0), (q21, ar cy 2000 z0), (q22, ar cy 1000 z0), (q23, ar cy 1000 z0), (q24, ar cy 1000 z0), (q25, ar cy 1000 z0), (q26, ar cy 1000 z0), (q27, ar cy 1000 z0), (q28, ar cy 800 z0), (q29, ar cy 800 z0), (q30, ar cy 800 z0), (q31, ar cy 800 z0), (q32, ar cy 800 z0), (q33, ar cy 6 z0), (q34, ar cy 36 z0), (q35, ar cy 16 z0), (q36, ar cy 800 z0)])) H := hP
  have hD : va_D (fun a => n0 ≤ a) ((h0, .inr (10, [.ref q1, .ref q2, .ref q3, .ref q4, .ref q5, .ref q6, .int 0, .int 0, .int 0, .ref q7, .ref q8, .ref q9, .ref q10, .ref q11, .ref q12, .int 0, .int 0, .int 0, .int 0, .int 0, .int 0, .int 0, .int 0, .int 0, .ref q13, .ref q14, .ref q15, .ref q16, .ref q17, .int (-9), .int 0, .int 0, .int 0, .int 0, .int 0, .int 0, .ref q18, .ref q19, .ref q20, .ref q21, .ref q22, .ref q23, .ref q24, .ref q25, .ref q26, .ref q27, .int 0, .int 0, .int 0, .int 0, .ref q28, .ref q29, .ref q30, .ref q31, .ref q32, .int 0, .int 0, .int 0, .int 0, .int 0, .int 0, .int 0, .int 0, .int 0, .int 0, .int 0, .ref q33, .ref q34, .ref q35, .int 0, .int 0, .ref q36, .int 0, .int 0, .int 0])) :: (wX qx cy ++ [(q1, ar cy 7 z0), (q2, ar cy 41 z0), (q3, ar cy 41 z0), (q4, ar cy 41 z0), (q5, ar cy 41 z0), (q6, ar cy 41 z0), (q7, ar cy 96 z0), (q8, ar cy 96 sg0), (q9, ar cy 96 z0), (q10, ar cy 96 z0), (q11, ar cy 300 z0), (q12, ar cy 100 z0), (q13, ar cy 6 z0), (q14, ar cy 10 z0), (q15, ar cy 10 z0), (q16, ar cy 10 z0), (q17, ar cy 460 z0), (q18, ar cy 2000 z0), (q19, ar cy 2000 z0), (q20, ar cy 2000 z0), (q21, ar cy 2000 z0), (q22, ar cy 1000 z0), (q23, ar cy 1000 z0), (q24, ar cy 1000 z0), (q25, ar cy 1000 z0), (q26, ar cy 1000 z0), (q27, ar cy 1000 z0), (q28, ar cy 800 z0), (q29, ar cy 800 z0), (q30, ar cy 800 z0), (q31, ar cy 800 z0), (q32, ar cy 800 z0), (q33, ar cy 6 z0), (q34, ar cy 36 z0), (q35, ar cy 16 z0), (q36, ar cy 800 z0)])) := hD
  refine lv_aload_n E.1 E.2.1 dX10_init_324 rfl (lv_at hl 0 rfl) ?_
  refine lv_iconst (v := 1) E.1 E.2.1 dX10_init_325 (by decide) ?_
  refine z_iInt (C := RX10) (T := TX10) (N := 75) (ty := .int) (v := 1) E hI hP hD hS iwX10 tyX10 tyX10_ok nmX10 rfl 16 (by decide) rfl (by decide +kernel) rfl rfl (Nat.le_of_ble_eq_true rfl) tw968 dX10_init_326 (fun H locs hP hD hS => ?_)
  refine lv_aload_n E.1 E.2.1 dX10_init_329 rfl (lv_at hl 0 rfl) ?_
  refine lv_iconst (v := 1) E.1 E.2.1 dX10_init_330 (by decide) ?_
  refine z_iInt (C := RX10) (T := TX10) (N := 75) (ty := .int) (v := 1) E hI hP hD hS iwX10 tyX10 tyX10_ok nmX10 rfl 6 (by decide) rfl (by decide +kernel) rfl rfl (Nat.le_of_ble_eq_true rfl) tw958 dX10_init_331 (fun H locs hP hD hS => ?_)
  obtain ⟨q, hq⟩ : ∃ q : Nat → Nat, q = fun i => if i < 65 then qx i else if i = 65 then h0 else ([q1, q2, q3, q4, q5, q6, q7, q8, q9, q10, q11, q12, q13, q14, q15, q16, q17, q18, q19, q20, q21, q22, q23, q24, q25, q26, q27, q28, q29, q30, q31, q32, q33, q34, q35, q36] : List Nat).getD (i - 66) 0 := ⟨_, rfl⟩
  have hw : z_wd q cy (z_cb X0 M1) = wX qx cy ++ ((h0, .inr (10, [.ref q1, .ref q2, .ref q3, .ref q4, .ref q5, .ref q6, .int 1, .int 0, .int 0, .ref q7, .ref q8, .ref q9, .ref q10, .ref q11, .ref q12, .int 0, .int 1, .int 0, .int 0, .int 0, .int 0, .int 0, .int 0, .int 0, .ref q13, .ref q14, .ref q15, .ref q16, .ref q17, .int (-9), .int 0, .int 0, .int 0, .int 0, .int 0, .int 0, .ref q18, .ref q19, .ref q20, .ref q21, .ref q22, .ref q23, .ref q24, .ref q25, .ref q26, .ref q27, .int 0, .int 0, .int 0, .int 0, .ref q28, .ref q29, .ref q30, .ref q31, .ref q32, .int 0, .int 0, .int 0, .int 0, .int 0, .int 0, .int 0, .int 0, .int 0, .int 0, .int 0, .ref q33, .ref q34, .ref q35, .int 0, .int 0, .ref q36, .int 0, .int 0, .int 0])) :: [(q1, ar cy 7 z0), (q2, ar cy 41 z0), (q3, ar cy 41 z0), (q4, ar cy 41 z0), (q5, ar cy 41 z0), (q6, ar cy 41 z0), (q7, ar cy 96 z0), (q8, ar cy 96 sg0), (q9, ar cy 96 z0), (q10, ar cy 96 z0), (q11, ar cy 300 z0), (q12, ar cy 100 z0), (q13, ar cy 6 z0), (q14, ar cy 10 z0), (q15, ar cy 10 z0), (q16, ar cy 10 z0), (q17, ar cy 460 z0), (q18, ar cy 2000 z0), (q19, ar cy 2000 z0), (q20, ar cy 2000 z0), (q21, ar cy 2000 z0), (q22, ar cy 1000 z0), (q23, ar cy 1000 z0), (q24, ar cy 1000 z0), (q25, ar cy 1000 z0), (q26, ar cy 1000 z0), (q27, ar cy 1000 z0), (q28, ar cy 800 z0), (q29, ar cy 800 z0), (q30, ar cy 800 z0), (q31, ar cy 800 z0), (q32, ar cy 800 z0), (q33, ar cy 6 z0), (q34, ar cy 36 z0), (q35, ar cy 16 z0), (q36, ar cy 800 z0)]) := by
    subst hq
    rfl
  have hPq : va_P D vwC (z_wd q cy (z_cb X0 M1)) H := by
    rw [hw]
    exact hP.sub [1, 2, 3, 4, 5, 6, 7, 8, 9, 10, 11, 12, 13, 14, 15, 16, 17, 18, 19, 20, 21, 22, 23, 24, 25, 26, 27, 28, 29, 30, 31, 32, 33, 34, 35, 36, 37, 38, 39, 40, 41, 42, 43, 44, 45, 46, 47, 48, 49, 50, 51, 52, 53, 54, 55, 56, 57, 58, 59, 60, 61, 62, 63, 64, 65, 0, 66, 67, 68, 69, 70, 71, 72, 73, 74, 75, 76, 77, 78, 79, 80, 81, 82, 83, 84, 85, 86, 87, 88, 89, 90, 91, 92, 93, 94, 95, 96, 97, 98, 99, 100, 101] rfl
  have hDq : va_D (fun a => n0 ≤ a) (z_wd q cy (z_cb X0 M1)) := by
    rw [hw]
    exact hD.sub [1, 2, 3, 4, 5, 6, 7, 8, 9, 10, 11, 12, 13, 14, 15, 16, 17, 18, 19, 20, 21, 22, 23, 24, 25, 26, 27, 28, 29, 30, 31, 32, 33, 34, 35, 36, 37, 38, 39, 40, 41, 42, 43, 44, 45, 46, 47, 48, 49, 50, 51, 52, 53, 54, 55, 56, 57, 58, 59, 60, 61, 62, 63, 64, 65, 0, 66, 67, 68, 69, 70, 71, 72, 73, 74, 75, 76, 77, 78, 79, 80, 81, 82, 83, 84, 85, 86, 87, 88, 89, 90, 91, 92, 93, 94, 95, 96, 97, 98, 99, 100, 101] (by decide +kernel) rfl
  have hinj : z_inj q := fun i j hi hj e => hDq.1 i j _ _ (z_get hi) (z_get hj) e
  have hge : ∀ i, i < 102 → n0 ≤ q i := fun i hi => hDq.2 i _ (z_get hi)
  have hq65 : q 65 = h0 := by rw [hq]; rfl
  have hq0 : q 0 = qx 0 := by rw [hq]; rfl
  have hAq : ∀ a, z_Aq q a → n0 ≤ a := fun a ⟨k, hk, e⟩ => by rw [← e]; exact hge k hk
  refine lv_aload_n E.1 E.2.1 dX10_init_334 rfl (lv_at hl 0 rfl) ?_
  have ht := E.2.2.2.2
  obtain ⟨⟨hi, hse⟩, hco, hini, hd⟩ := cv_X10_builds
  have hM := c_X10_builds (l := l) (G := (D, q, cy, sx, sy)) (X := X0) hinj hb
  have hM' : z_Ct l yX10_builds cX10_builds 4 none 2 44 (D, q, cy, sx, sy) X0 M1 [.ref h0] (z_QV (D, q, cy, sx, sy) X0 M2) := by
    rw [← hq65]; exact hM
  refine va_callv (va_runV (C := RX10) (b := h0) (As := []) (rest := []) E hM' ⟨callB_of 0 ht (z_goodIn hco) rfl rfl rfl (ht _ hini) (ht _ tw931) hd ⟨(Nat.le_of_ble_eq_true rfl), (Nat.le_of_ble_eq_true rfl)⟩, ht _ hi, ht _ hse⟩ ⟨z_blind, va_recv hI.1 hP rfl (q0 := 0) rfl, fun U hU hW => ⟨rfl, by rw [hU]; exact hPq, (show kS sx sy (fun a => n0 ≤ a) U U.heap by rw [hU]; exact hZ.go hW hS.2.1).kW (hI.warm hW) hAq⟩⟩ rfl rfl hl.1 rfl (lv_room (Nat.le_of_ble_eq_true rfl)) dX10_init_335 ⟨Nat.le_refl _, Nat.le_refl _⟩) hS (fun x _ h => hAq x h) hAq (fun u t H1 locs1 ht1 hvm hw1 hB hz1 hk1 hS1 => ?_)
  subst ht1
  exact W.vret E.1 E.2.1 hr (fun t2 ht2 _ => ⟨⟨q, rfl, ⟨hinj, hge, hq0, hq65⟩, by show z_P (D, q, cy, sx, sy) X0 M2 t2.heap; rw [ht2]; exact hB⟩, hS1.F ht2⟩) hS1.2.2 dX10_init_338 hlk
