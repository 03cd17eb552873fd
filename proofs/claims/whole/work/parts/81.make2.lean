/-! the constructors of the class -/
def sg0 : Nat → Int32 := upd z0 0 48
section IF
variable {p : Program} {l : Launch} {e : Env} {R : Room} {s : State} {m : MethodId} {args : Array Value} {below : List Frame} {meth : Method} {c : Code} {H : Heap} {locs : List Loc} {cells slots : Nat} {Q : State → Prop}
variable {cc : ByteArray} {nL pc : Nat} {ls : Array Slot} {rest : List Value} {own : String} {D : va_G} {cy : ClassId} {A : Nat → Prop} {h0 ci : Nat} {fs : List Value} {tl : va_W} {C : String} {T : u_T} {N : Nat}
theorem z_iAF (E : CallFix p m c cc nL s args lw_good own) (hinit : meth.name = "<init>") (hI : kI D cy s) (hP : va_P D vwC ((h0, .inr (ci, fs)) :: tl) H) (hD : va_D A ((h0, .inr (ci, fs)) :: tl)) (hS : va_S A s.heap H locs) (hA : ∀ q, s.heap.size ≤ q → A q) (hin : ∀ w ∈ u_ws C T N, w ∈ lw_good) (ty0 : Nat → FieldType) (hty : ∀ k, k < N → parseFieldDescriptor (T k).2.2.1 = some (ty0 k)) (hnm : ∀ a, a < N → ∀ b, b < N → a ≠ b → (T a).2.1 ≠ (T b).2.1) (hc : vwC[ci]? = some (C, T, N)) (k : Nat) (hk : k < N) {index : Nat} (hfin : (T k).2.2.2 = true ∧ (T k).1 = own) (hd : parseFieldDescriptor (T k).2.2.1 = some (.array .int)) (hl : k < fs.length) (hlink : Cond.fieldLink own index (T k).1 (T k).2.1 (T k).2.2.1 ∈ lw_good) {n : Int32} (N' : Nat) (hn0 : ¬ n < 0) (hN : n.toNatClampNeg = N') (hb : N' * 4 ≤ 536870912) (hcells : cells + 1 ≤ R.cells) (hslots : slots + N' ≤ R.slots) (d1 : decode cc pc = .ok (.newarray .int, 2)) (d2 : decode cc (pc + 2) = .ok (.putfield index, 3))
    (kk : ∀ (q : Nat) (H1 : Heap) (locs1 : List Loc), va_P D vwC ((h0, .inr (ci, fs.set k (.ref q))) :: (tl ++ [(q, ar cy N' z0)])) H1 → va_D A ((h0, .inr (ci, fs.set k (.ref q))) :: (tl ++ [(q, ar cy N' z0)])) → va_S A s.heap H1 locs1 → W p l e R s m args below meth c H1 locs1 (cells + 1) (slots + N') Q (F0 m (pc + 5) ls rest)) : W p l e R s m args below meth c H locs cells slots Q (F0 m pc ls (.int n :: .ref h0 :: rest)) :=
  z_iArr E hI hP hD hS hA N' hn0 hN hb hcells hslots d1 (fun q H1 hP1 hD1 hS1 => z_iRefF (fs := fs) (tl := tl ++ [(q, ar cy N' z0)]) E hinit hI hP1 hD1 hS1 hin ty0 hty hnm hc k hk hfin hd rfl rfl hl hlink d2 (fun H2 locs2 hP2 hD2 hS2 => kk q H2 locs2 hP2 hD2 hS2))
end IF
theorem dfX0 : ∀ j, j < 3 → defaultValue (tyX0 j) = vp_V [.null, .null, .null] j
  | 0, _ => rfl
  | 1, _ => rfl
  | 2, _ => rfl
  | _ + 3, h => absurd h (by omega)
def rX0 (cy : ClassId) (h0 : Nat) (w : va_W) : Prop := ∃ q1 q2 q3 : Nat, w = [(h0, .inr (0, [.ref q1, .ref q2, .ref q3])), (q1, ar cy 10 z0), (q2, ar cy 10 z0), (q3, ar cy 10 z0)]
set_option maxHeartbeats 4000000 in
set_option maxRecDepth 100000 in
theorem i_X0 (l : Launch) (D : va_G) (cy : ClassId) : z_In l yX0_init cX0_init 1 12 3 30 D cy 0 [.null, .null, .null] (rX0 cy) := by
  refine z_inStart (by decide) rfl ?_
  intro p e s m below meth c ls h0 A E hr hlk hin hI hP hD hS hA hl
  have E : CallFix p m c cX0_init 1 s #[Value.ref h0] lw_good RX0 := E
  refine z_iObj E hl tw72 dX0_init_0 dX0_init_1 (Nat.le_of_ble_eq_true rfl) (Nat.le_of_ble_eq_true rfl) ?_
  refine lv_aload_n E.1 E.2.1 dX0_init_4 rfl (lv_at hl 0 rfl) ?_
  refine lv_bipush (v := 10) E.1 E.2.1 dX0_init_5 (by decide) ?_
  refine z_iAF (C := RX0) (T := TX0) (N := 3) (n := 10) E hin hI hP hD hS hA iwX0 tyX0 tyX0_ok nmX0 rfl 0 (by decide) ⟨rfl, rfl⟩ (by decide +kernel) (Nat.le_of_ble_eq_true rfl) tw73 10 (by decide) (by decide) (Nat.le_of_ble_eq_true rfl) (Nat.le_of_ble_eq_true rfl) (Nat.le_of_ble_eq_true rfl) dX0_init_7 dX0_init_9 (fun q1 H locs hP hD hS => ?_)
  refine lv_aload_n E.1 E.2.1 dX0_init_12 rfl (lv_at hl 0 rfl) ?_
  refine lv_bipush (v := 10) E.1 E.2.1 dX0_init_13 (by decide) ?_
  refine z_iAF (C := RX0) (T := TX0) (N := 3) (n := 10) E hin hI hP hD hS hA iwX0 tyX0 tyX0_ok nmX0 rfl 1 (by decide) ⟨rfl, rfl⟩ (by decide +kernel) (Nat.le_of_ble_eq_true rfl) tw74 10 (by decide) (by decide) (Nat.le_of_ble_eq_true rfl) (Nat.le_of_ble_eq_true rfl) (Nat.le_of_ble_eq_true rfl) dX0_init_15 dX0_init_17 (fun q2 H locs hP hD hS => ?_)
  refine lv_aload_n E.1 E.2.1 dX0_init_20 rfl (lv_at hl 0 rfl) ?_
  refine lv_bipush (v := 10) E.1 E.2.1 dX0_init_21 (by decide) ?_
  refine z_iAF (C := RX0) (T := TX0) (N := 3) (n := 10) E hin hI hP hD hS hA iwX0 tyX0 tyX0_ok nmX0 rfl 2 (by decide) ⟨rfl, rfl⟩ (by decide +kernel) (Nat.le_of_ble_eq_true rfl) tw75 10 (by decide) (by decide) (Nat.le_of_ble_eq_true rfl) (Nat.le_of_ble_eq_true rfl) (Nat.le_of_ble_eq_true rfl) dX0_init_23 dX0_init_25 (fun q3 H locs hP hD hS => ?_)
  have hP : va_P D vwC [(h0, .inr (0, [.ref q1, .ref q2, .ref q3])), (q1, ar cy 10 z0), (q2, ar cy 10 z0), (q3, ar cy 10 z0)] H := hP
  have hD : va_D A [(h0, .inr (0, [.ref q1, .ref q2, .ref q3])), (q1, ar cy 10 z0), (q2, ar cy 10 z0), (q3, ar cy 10 z0)] := hD
  exact z_iRet E hr hlk hP hD hS ⟨q1, q2, q3, rfl⟩ dX0_init_28
theorem dfX1 : ∀ j, j < 4 → defaultValue (tyX1 j) = vp_V [.null, .null, .null, .int 0] j
  | 0, _ => rfl
  | 1, _ => rfl
  | 2, _ => rfl
  | 3, _ => rfl
  | _ + 4, h => absurd h (by omega)
def rX1 (cy : ClassId) (h0 : Nat) (w : va_W) : Prop := ∃ q1 q2 q3 : Nat, w = [(h0, .inr (1, [.ref q1, .ref q2, .ref q3, .int 0])), (q1, ar cy 400 z0), (q2, ar cy 400 z0), (q3, ar cy 400 z0)]
set_option maxHeartbeats 4000000 in
set_option maxRecDepth 100000 in
theorem i_X1 (l : Launch) (D : va_G) (cy : ClassId) : z_In l yX1_init cX1_init 1 12 3 1200 D cy 1 [.null, .null, .null, .int 0] (rX1 cy) := by
  refine z_inStart (by decide) rfl ?_
  intro p e s m below meth c ls h0 A E hr hlk hin hI hP hD hS hA hl
  have E : CallFix p m c cX1_init 1 s #[Value.ref h0] lw_good RX1 := E
  refine z_iObj E hl tw165 dX1_init_0 dX1_init_1 (Nat.le_of_ble_eq_true rfl) (Nat.le_of_ble_eq_true rfl) ?_
  refine lv_aload_n E.1 E.2.1 dX1_init_4 rfl (lv_at hl 0 rfl) ?_
  refine lv_sipush (v := 400) E.1 E.2.1 dX1_init_5 (by decide) ?_
  refine z_iAF (C := RX1) (T := TX1) (N := 4) (n := 400) E hin hI hP hD hS hA iwX1 tyX1 tyX1_ok nmX1 rfl 0 (by decide) ⟨rfl, rfl⟩ (by decide +kernel) (Nat.le_of_ble_eq_true rfl) tw166 400 (by decide) (by decide) (Nat.le_of_ble_eq_true rfl) (Nat.le_of_ble_eq_true rfl) (Nat.le_of_ble_eq_true rfl) dX1_init_8 dX1_init_10 (fun q1 H locs hP hD hS => ?_)
  refine lv_aload_n E.1 E.2.1 dX1_init_13 rfl (lv_at hl 0 rfl) ?_
  refine lv_sipush (v := 400) E.1 E.2.1 dX1_init_14 (by decide) ?_
  refine z_iAF (C := RX1) (T := TX1) (N := 4) (n := 400) E hin hI hP hD hS hA iwX1 tyX1 tyX1_ok nmX1 rfl 1 (by decide) ⟨rfl, rfl⟩ (by decide +kernel) (Nat.le_of_ble_eq_true rfl) tw167 400 (by decide) (by decide) (Nat.le_of_ble_eq_true rfl) (Nat.le_of_ble_eq_true rfl) (Nat.le_of_ble_eq_true rfl) dX1_init_17 dX1_init_19 (fun q2 H locs hP hD hS => ?_)
  refine lv_aload_n E.1 E.2.1 dX1_init_22 rfl (lv_at hl 0 rfl) ?_
  refine lv_sipush (v := 400) E.1 E.2.1 dX1_init_23 (by decide) ?_
  refine z_iAF (C := RX1) (T := TX1) (N := 4) (n := 400) E hin hI hP hD hS hA iwX1 tyX1 tyX1_ok nmX1 rfl 2 (by decide) ⟨rfl, rfl⟩ (by decide +kernel) (Nat.le_of_ble_eq_true rfl) tw168 400 (by decide) (by decide) (Nat.le_of_ble_eq_true rfl) (Nat.le_of_ble_eq_true rfl) (Nat.le_of_ble_eq_true rfl) dX1_init_26 dX1_init_28 (fun q3 H locs hP hD hS => ?_)
  refine lv_aload_n E.1 E.2.1 dX1_init_31 rfl (lv_at hl 0 rfl) ?_
  refine lv_iconst (v := 0) E.1 E.2.1 dX1_init_32 (by decide) ?_
  refine z_iInt (C := RX1) (T := TX1) (N := 4) (ty := .int) (v := 0) E hI hP hD hS iwX1 tyX1 tyX1_ok nmX1 rfl 3 (by decide) rfl (by decide +kernel) rfl rfl (Nat.le_of_ble_eq_true rfl) tw169 dX1_init_33 (fun H locs hP hD hS => ?_)
  have hP : va_P D vwC [(h0, .inr (1, [.ref q1, .ref q2, .ref q3, .int 0])), (q1, ar cy 400 z0), (q2, ar cy 400 z0), (q3, ar cy 400 z0)] H := hP
  have hD : va_D A [(h0, .inr (1, [.ref q1, .ref q2, .ref q3, .int 0])), (q1, ar cy 400 z0), (q2, ar cy 400 z0), (q3, ar cy 400 z0)] := hD
  exact z_iRet E hr hlk hP hD hS ⟨q1, q2, q3, rfl⟩ dX1_init_36
theorem dfX2 : ∀ j, j < 7 → defaultValue (tyX2 j) = vp_V [.int 0, .int 0, .int 0, .int 0, .int 0, .int 0, .int 0] j
  | 0, _ => rfl
  | 1, _ => rfl
  | 2, _ => rfl
  | 3, _ => rfl
  | 4, _ => rfl
  | 5, _ => rfl
  | 6, _ => rfl
  | _ + 7, h => absurd h (by omega)
def rX2 (cy : ClassId) (h0 : Nat) (w : va_W) : Prop := w = [(h0, .inr (2, [.int 0, .int 0, .int 0, .int 0, .int 0, .int 0, .int 0]))]
set_option maxHeartbeats 4000000 in
set_option maxRecDepth 100000 in
theorem i_X2 (l : Launch) (D : va_G) (cy : ClassId) : z_In l yX2_init cX2_init 1 12 0 0 D cy 2 [.int 0, .int 0, .int 0, .int 0, .int 0, .int 0, .int 0] (rX2 cy) := by
  refine z_inStart (by decide) rfl ?_
  intro p e s m below meth c ls h0 A E hr hlk hin hI hP hD hS hA hl
  have E : CallFix p m c cX2_init 1 s #[Value.ref h0] lw_good RX2 := E
  refine z_iObj E hl tw88 dX2_init_0 dX2_init_1 (Nat.le_of_ble_eq_true rfl) (Nat.le_of_ble_eq_true rfl) ?_
  refine lv_aload_n E.1 E.2.1 dX2_init_4 rfl (lv_at hl 0 rfl) ?_
  refine lv_iconst (v := 0) E.1 E.2.1 dX2_init_5 (by decide) ?_
  refine z_iInt (C := RX2) (T := TX2) (N := 7) (ty := .int) (v := 0) E hI hP hD hS iwX2 tyX2 tyX2_ok nmX2 rfl 0 (by decide) rfl (by decide +kernel) rfl rfl (Nat.le_of_ble_eq_true rfl) tw89 dX2_init_6 (fun H locs hP hD hS => ?_)
  refine lv_aload_n E.1 E.2.1 dX2_init_9 rfl (lv_at hl 0 rfl) ?_
  refine lv_iconst (v := 0) E.1 E.2.1 dX2_init_10 (by decide) ?_
  refine z_iInt (C := RX2) (T := TX2) (N := 7) (ty := .int) (v := 0) E hI hP hD hS iwX2 tyX2 tyX2_ok nmX2 rfl 1 (by decide) rfl (by decide +kernel) rfl rfl (Nat.le_of_ble_eq_true rfl) tw92 dX2_init_11 (fun H locs hP hD hS => ?_)
  refine lv_aload_n E.1 E.2.1 dX2_init_14 rfl (lv_at hl 0 rfl) ?_
  refine lv_iconst (v := 0) E.1 E.2.1 dX2_init_15 (by decide) ?_
  refine z_iInt (C := RX2) (T := TX2) (N := 7) (ty := .int) (v := 0) E hI hP hD hS iwX2 tyX2 tyX2_ok nmX2 rfl 2 (by decide) rfl (by decide +kernel) rfl rfl (Nat.le_of_ble_eq_true rfl) tw95 dX2_init_16 (fun H locs hP hD hS => ?_)
  refine lv_aload_n E.1 E.2.1 dX2_init_19 rfl (lv_at hl 0 rfl) ?_
  refine lv_iconst (v := 0) E.1 E.2.1 dX2_init_20 (by decide) ?_
  refine z_iInt (C := RX2) (T := TX2) (N := 7) (ty := .int) (v := 0) E hI hP hD hS iwX2 tyX2 tyX2_ok nmX2 rfl 3 (by decide) rfl (by decide +kernel) rfl rfl (Nat.le_of_ble_eq_true rfl) tw98 dX2_init_21 (fun H locs hP hD hS => ?_)
  refine lv_aload_n E.1 E.2.1 dX2_init_24 rfl (lv_at hl 0 rfl) ?_
  refine lv_iconst (v := 0) E.1 E.2.1 dX2_init_25 (by decide) ?_
  refine z_iInt (C := RX2) (T := TX2) (N := 7) (ty := .int) (v := 0) E hI hP hD hS iwX2 tyX2 tyX2_ok nmX2 rfl 4 (by decide) rfl (by decide +kernel) rfl rfl (Nat.le_of_ble_eq_true rfl) tw100 dX2_init_26 (fun H locs hP hD hS => ?_)
  refine lv_aload_n E.1 E.2.1 dX2_init_29 rfl (lv_at hl 0 rfl) ?_
  refine lv_iconst (v := 0) E.1 E.2.1 dX2_init_30 (by decide) ?_
  refine z_iInt (C := RX2) (T := TX2) (N := 7) (ty := .int) (v := 0) E hI hP hD hS iwX2 tyX2 tyX2_ok nmX2 rfl 5 (by decide) rfl (by decide +kernel) rfl rfl (Nat.le_of_ble_eq_true rfl) tw102 dX2_init_31 (fun H locs hP hD hS => ?_)
  refine lv_aload_n E.1 E.2.1 dX2_init_34 rfl (lv_at hl 0 rfl) ?_
  refine lv_iconst (v := 0) E.1 E.2.1 dX2_init_35 (by decide) ?_
  refine z_iInt (C := RX2) (T := TX2) (N := 7) (ty := .int) (v := 0) E hI hP hD hS iwX2 tyX2 tyX2_ok nmX2 rfl 6 (by decide) rfl (by decide +kernel) rfl rfl (Nat.le_of_ble_eq_true rfl) tw105 dX2_init_36 (fun H locs hP hD hS => ?_)
  have hP : va_P D vwC [(h0, .inr (2, [.int 0, .int 0, .int 0, .int 0, .int 0, .int 0, .int 0]))] H := hP
  have hD : va_D A [(h0, .inr (2, [.int 0, .int 0, .int 0, .int 0, .int 0, .int 0, .int 0]))] := hD
  exact z_iRet E hr hlk hP hD hS rfl dX2_init_39
theorem dfX3 : ∀ j, j < 8 → defaultValue (tyX3 j) = vp_V [.null, .null, .null, .null, .null, .int 0, .int 0, .int 0] j
  | 0, _ => rfl
  | 1, _ => rfl
  | 2, _ => rfl
  | 3, _ => rfl
  | 4, _ => rfl
  | 5, _ => rfl
  | 6, _ => rfl
  | 7, _ => rfl
  | _ + 8, h => absurd h (by omega)
def rX3 (cy : ClassId) (h0 : Nat) (w : va_W) : Prop := ∃ q1 q2 q3 q4 q5 : Nat, w = [(h0, .inr (3, [.ref q1, .ref q2, .ref q3, .ref q4, .ref q5, .int 0, .int 0, .int 0])), (q1, ar cy 96 z0), (q2, ar cy 96 z0), (q3, ar cy 96 z0), (q4, ar cy 193 z0), (q5, ar cy 193 z0)]
set_option maxHeartbeats 4000000 in
set_option maxRecDepth 100000 in
theorem i_X3 (l : Launch) (D : va_G) (cy : ClassId) : z_In l yX3_init cX3_init 1 12 5 674 D cy 3 [.null, .null, .null, .null, .null, .int 0, .int 0, .int 0] (rX3 cy) := by
  refine z_inStart (by decide) rfl ?_
  intro p e s m below meth c ls h0 A E hr hlk hin hI hP hD hS hA hl
  have E : CallFix p m c cX3_init 1 s #[Value.ref h0] lw_good RX3 := E
  refine z_iObj E hl tw271 dX3_init_0 dX3_init_1 (Nat.le_of_ble_eq_true rfl) (Nat.le_of_ble_eq_true rfl) ?_
  refine lv_aload_n E.1 E.2.1 dX3_init_4 rfl (lv_at hl 0 rfl) ?_
  refine lv_bipush (v := 96) E.1 E.2.1 dX3_init_5 (by decide) ?_
  refine z_iAF (C := RX3) (T := TX3) (N := 8) (n := 96) E hin hI hP hD hS hA iwX3 tyX3 tyX3_ok nmX3 rfl 0 (by decide) ⟨rfl, rfl⟩ (by decide +kernel) (Nat.le_of_ble_eq_true rfl) tw272 96 (by decide) (by decide) (Nat.le_of_ble_eq_true rfl) (Nat.le_of_ble_eq_true rfl) (Nat.le_of_ble_eq_true rfl) dX3_init_7 dX3_init_9 (fun q1 H locs hP hD hS => ?_)
  refine lv_aload_n E.1 E.2.1 dX3_init_12 rfl (lv_at hl 0 rfl) ?_
  refine lv_bipush (v := 96) E.1 E.2.1 dX3_init_13 (by decide) ?_
  refine z_iAF (C := RX3) (T := TX3) (N := 8) (n := 96) E hin hI hP hD hS hA iwX3 tyX3 tyX3_ok nmX3 rfl 1 (by decide) ⟨rfl, rfl⟩ (by decide +kernel) (Nat.le_of_ble_eq_true rfl) tw273 96 (by decide) (by decide) (Nat.le_of_ble_eq_true rfl) (Nat.le_of_ble_eq_true rfl) (Nat.le_of_ble_eq_true rfl) dX3_init_15 dX3_init_17 (fun q2 H locs hP hD hS => ?_)
  refine lv_aload_n E.1 E.2.1 dX3_init_20 rfl (lv_at hl 0 rfl) ?_
  refine lv_bipush (v := 96) E.1 E.2.1 dX3_init_21 (by decide) ?_
  refine z_iAF (C := RX3) (T := TX3) (N := 8) (n := 96) E hin hI hP hD hS hA iwX3 tyX3 tyX3_ok nmX3 rfl 2 (by decide) ⟨rfl, rfl⟩ (by decide +kernel) (Nat.le_of_ble_eq_true rfl) tw274 96 (by decide) (by decide) (Nat.le_of_ble_eq_true rfl) (Nat.le_of_ble_eq_true rfl) (Nat.le_of_ble_eq_true rfl) dX3_init_23 dX3_init_25 (fun q3 H locs hP hD hS => ?_)
  refine lv_aload_n E.1 E.2.1 dX3_init_28 rfl (lv_at hl 0 rfl) ?_
  refine lv_sipush (v := 193) E.1 E.2.1 dX3_init_29 (by decide) ?_
  refine z_iAF (C := RX3) (T := TX3) (N := 8) (n := 193) E hin hI hP hD hS hA iwX3 tyX3 tyX3_ok nmX3 rfl 3 (by decide) ⟨rfl, rfl⟩ (by decide +kernel) (Nat.le_of_ble_eq_true rfl) tw275 193 (by decide) (by decide) (Nat.le_of_ble_eq_true rfl) (Nat.le_of_ble_eq_true rfl) (Nat.le_of_ble_eq_true rfl) dX3_init_32 dX3_init_34 (fun q4 H locs hP hD hS => ?_)
  refine lv_aload_n E.1 E.2.1 dX3_init_37 rfl (lv_at hl 0 rfl) ?_
  refine lv_sipush (v := 193) E.1 E.2.1 dX3_init_38 (by decide) ?_
  refine z_iAF (C := RX3) (T := TX3) (N := 8) (n := 193) E hin hI hP hD hS hA iwX3 tyX3 tyX3_ok nmX3 rfl 4 (by decide) ⟨rfl, rfl⟩ (by decide +kernel) (Nat.le_of_ble_eq_true rfl) tw276 193 (by decide) (by decide) (Nat.le_of_ble_eq_true rfl) (Nat.le_of_ble_eq_true rfl) (Nat.le_of_ble_eq_true rfl) dX3_init_41 dX3_init_43 (fun q5 H locs hP hD hS => ?_)
  refine lv_aload_n E.1 E.2.1 dX3_init_46 rfl (lv_at hl 0 rfl) ?_
  refine lv_iconst (v := 0) E.1 E.2.1 dX3_init_47 (by decide) ?_
  refine z_iInt (C := RX3) (T := TX3) (N := 8) (ty := .int) (v := 0) E hI hP hD hS iwX3 tyX3 tyX3_ok nmX3 rfl 5 (by decide) rfl (by decide +kernel) rfl rfl (Nat.le_of_ble_eq_true rfl) tw277 dX3_init_48 (fun H locs hP hD hS => ?_)
  refine lv_aload_n E.1 E.2.1 dX3_init_51 rfl (lv_at hl 0 rfl) ?_
  refine lv_iconst (v := 0) E.1 E.2.1 dX3_init_52 (by decide) ?_
  refine z_iInt (C := RX3) (T := TX3) (N := 8) (ty := .int) (v := 0) E hI hP hD hS iwX3 tyX3 tyX3_ok nmX3 rfl 6 (by decide) rfl (by decide +kernel) rfl rfl (Nat.le_of_ble_eq_true rfl) tw278 dX3_init_53 (fun H locs hP hD hS => ?_)
  refine lv_aload_n E.1 E.2.1 dX3_init_56 rfl (lv_at hl 0 rfl) ?_
  refine lv_iconst (v := 0) E.1 E.2.1 dX3_init_57 (by decide) ?_
  refine z_iInt (C := RX3) (T := TX3) (N := 8) (ty := .int) (v := 0) E hI hP hD hS iwX3 tyX3 tyX3_ok nmX3 rfl 7 (by decide) rfl (by decide +kernel) rfl rfl (Nat.le_of_ble_eq_true rfl) tw279 dX3_init_58 (fun H locs hP hD hS => ?_)
  have hP : va_P D vwC [(h0, .inr (3, [.ref q1, .ref q2, .ref q3, .ref q4, .ref q5, .int 0, .int 0, .int 0])), (q1, ar cy 96 z0), (q2, ar cy 96 z0), (q3, ar cy 96 z0), (q4, ar cy 193 z0), (q5, ar cy 193 z0)] H := hP
  have hD : va_D A [(h0, .inr (3, [.ref q1, .ref q2, .ref q3, .ref q4, .ref q5, .int 0, .int 0, .int 0])), (q1, ar cy 96 z0), (q2, ar cy 96 z0), (q3, ar cy 96 z0), (q4, ar cy 193 z0), (q5, ar cy 193 z0)] := hD
  exact z_iRet E hr hlk hP hD hS ⟨q1, q2, q3, q4, q5, rfl⟩ dX3_init_61
theorem dfX7 : ∀ j, j < 4 → defaultValue (tyX7 j) = vp_V [.null, .null, .null, .int 0] j
  | 0, _ => rfl
  | 1, _ => rfl
  | 2, _ => rfl
  | 3, _ => rfl
  | _ + 4, h => absurd h (by omega)
def rX7 (cy : ClassId) (h0 : Nat) (w : va_W) : Prop := ∃ q1 q2 q3 : Nat, w = [(h0, .inr (7, [.ref q1, .ref q2, .ref q3, .int 0])), (q1, ar cy 400 z0), (q2, ar cy 400 z0), (q3, ar cy 400 z0)]
set_option maxHeartbeats 4000000 in
set_option maxRecDepth 100000 in
theorem i_X7 (l : Launch) (D : va_G) (cy : ClassId) : z_In l yX7_init cX7_init 1 12 3 1200 D cy 7 [.null, .null, .null, .int 0] (rX7 cy) := by
  refine z_inStart (by decide) rfl ?_
  intro p e s m below meth c ls h0 A E hr hlk hin hI hP hD hS hA hl
  have E : CallFix p m c cX7_init 1 s #[Value.ref h0] lw_good RX7 := E
  refine z_iObj E hl tw184 dX7_init_0 dX7_init_1 (Nat.le_of_ble_eq_true rfl) (Nat.le_of_ble_eq_true rfl) ?_
  refine lv_aload_n E.1 E.2.1 dX7_init_4 rfl (lv_at hl 0 rfl) ?_
  refine lv_sipush (v := 400) E.1 E.2.1 dX7_init_5 (by decide) ?_
  refine z_iAF (C := RX7) (T := TX7) (N := 4) (n := 400) E hin hI hP hD hS hA iwX7 tyX7 tyX7_ok nmX7 rfl 0 (by decide) ⟨rfl, rfl⟩ (by decide +kernel) (Nat.le_of_ble_eq_true rfl) tw185 400 (by decide) (by decide) (Nat.le_of_ble_eq_true rfl) (Nat.le_of_ble_eq_true rfl) (Nat.le_of_ble_eq_true rfl) dX7_init_8 dX7_init_10 (fun q1 H locs hP hD hS => ?_)
  refine lv_aload_n E.1 E.2.1 dX7_init_13 rfl (lv_at hl 0 rfl) ?_
  refine lv_sipush (v := 400) E.1 E.2.1 dX7_init_14 (by decide) ?_
  refine z_iAF (C := RX7) (T := TX7) (N := 4) (n := 400) E hin hI hP hD hS hA iwX7 tyX7 tyX7_ok nmX7 rfl 1 (by decide) ⟨rfl, rfl⟩ (by decide +kernel) (Nat.le_of_ble_eq_true rfl) tw186 400 (by decide) (by decide) (Nat.le_of_ble_eq_true rfl) (Nat.le_of_ble_eq_true rfl) (Nat.le_of_ble_eq_true rfl) dX7_init_17 dX7_init_19 (fun q2 H locs hP hD hS => ?_)
  refine lv_aload_n E.1 E.2.1 dX7_init_22 rfl (lv_at hl 0 rfl) ?_
  refine lv_sipush (v := 400) E.1 E.2.1 dX7_init_23 (by decide) ?_
  refine z_iAF (C := RX7) (T := TX7) (N := 4) (n := 400) E hin hI hP hD hS hA iwX7 tyX7 tyX7_ok nmX7 rfl 2 (by decide) ⟨rfl, rfl⟩ (by decide +kernel) (Nat.le_of_ble_eq_true rfl) tw187 400 (by decide) (by decide) (Nat.le_of_ble_eq_true rfl) (Nat.le_of_ble_eq_true rfl) (Nat.le_of_ble_eq_true rfl) dX7_init_26 dX7_init_28 (fun q3 H locs hP hD hS => ?_)
  refine lv_aload_n E.1 E.2.1 dX7_init_31 rfl (lv_at hl 0 rfl) ?_
  refine lv_iconst (v := 0) E.1 E.2.1 dX7_init_32 (by decide) ?_
  refine z_iInt (C := RX7) (T := TX7) (N := 4) (ty := .int) (v := 0) E hI hP hD hS iwX7 tyX7 tyX7_ok nmX7 rfl 3 (by decide) rfl (by decide +kernel) rfl rfl (Nat.le_of_ble_eq_true rfl) tw188 dX7_init_33 (fun H locs hP hD hS => ?_)
  have hP : va_P D vwC [(h0, .inr (7, [.ref q1, .ref q2, .ref q3, .int 0])), (q1, ar cy 400 z0), (q2, ar cy 400 z0), (q3, ar cy 400 z0)] H := hP
  have hD : va_D A [(h0, .inr (7, [.ref q1, .ref q2, .ref q3, .int 0])), (q1, ar cy 400 z0), (q2, ar cy 400 z0), (q3, ar cy 400 z0)] := hD
  exact z_iRet E hr hlk hP hD hS ⟨q1, q2, q3, rfl⟩ dX7_init_36
theorem dfX8 : ∀ j, j < 5 → defaultValue (tyX8 j) = vp_V [.null, .null, .null, .null, .int 0] j
  | 0, _ => rfl
  | 1, _ => rfl
  | 2, _ => rfl
  | 3, _ => rfl
  | 4, _ => rfl
  | _ + 5, h => absurd h (by omega)
def rX8 (cy : ClassId) (h0 : Nat) (w : va_W) : Prop := ∃ q1 q2 q3 q4 : Nat, w = [(h0, .inr (8, [.ref q1, .ref q2, .ref q3, .ref q4, .int 0])), (q1, ar cy 400 z0), (q2, ar cy 400 z0), (q3, ar cy 400 z0), (q4, ar cy 400 z0)]
set_option maxHeartbeats 4000000 in
set_option maxRecDepth 100000 in
theorem i_X8 (l : Launch) (D : va_G) (cy : ClassId) : z_In l yX8_init cX8_init 1 12 4 1600 D cy 8 [.null, .null, .null, .null, .int 0] (rX8 cy) := by
  refine z_inStart (by decide) rfl ?_
  intro p e s m below meth c ls h0 A E hr hlk hin hI hP hD hS hA hl
  have E : CallFix p m c cX8_init 1 s #[Value.ref h0] lw_good RX8 := E
  refine z_iObj E hl tw203 dX8_init_0 dX8_init_1 (Nat.le_of_ble_eq_true rfl) (Nat.le_of_ble_eq_true rfl) ?_
  refine lv_aload_n E.1 E.2.1 dX8_init_4 rfl (lv_at hl 0 rfl) ?_
  refine lv_sipush (v := 400) E.1 E.2.1 dX8_init_5 (by decide) ?_
  refine z_iAF (C := RX8) (T := TX8) (N := 5) (n := 400) E hin hI hP hD hS hA iwX8 tyX8 tyX8_ok nmX8 rfl 0 (by decide) ⟨rfl, rfl⟩ (by decide +kernel) (Nat.le_of_ble_eq_true rfl) tw204 400 (by decide) (by decide) (Nat.le_of_ble_eq_true rfl) (Nat.le_of_ble_eq_true rfl) (Nat.le_of_ble_eq_true rfl) dX8_init_8 dX8_init_10 (fun q1 H locs hP hD hS => ?_)
  refine lv_aload_n E.1 E.2.1 dX8_init_13 rfl (lv_at hl 0 rfl) ?_
  refine lv_sipush (v := 400) E.1 E.2.1 dX8_init_14 (by decide) ?_
  refine z_iAF (C := RX8) (T := TX8) (N := 5) (n := 400) E hin hI hP hD hS hA iwX8 tyX8 tyX8_ok nmX8 rfl 1 (by decide) ⟨rfl, rfl⟩ (by decide +kernel) (Nat.le_of_ble_eq_true rfl) tw205 400 (by decide) (by decide) (Nat.le_of_ble_eq_true rfl) (Nat.le_of_ble_eq_true rfl) (Nat.le_of_ble_eq_true rfl) dX8_init_17 dX8_init_19 (fun q2 H locs hP hD hS => ?_)
  refine lv_aload_n E.1 E.2.1 dX8_init_22 rfl (lv_at hl 0 rfl) ?_
  refine lv_sipush (v := 400) E.1 E.2.1 dX8_init_23 (by decide) ?_
  refine z_iAF (C := RX8) (T := TX8) (N := 5) (n := 400) E hin hI hP hD hS hA iwX8 tyX8 tyX8_ok nmX8 rfl 2 (by decide) ⟨rfl, rfl⟩ (by decide +kernel) (Nat.le_of_ble_eq_true rfl) tw206 400 (by decide) (by decide) (Nat.le_of_ble_eq_true rfl) (Nat.le_of_ble_eq_true rfl) (Nat.le_of_ble_eq_true rfl) dX8_init_26 dX8_init_28 (fun q3 H locs hP hD hS => ?_)
  refine lv_aload_n E.1 E.2.1 dX8_init_31 rfl (lv_at hl 0 rfl) ?_
  refine lv_sipush (v := 400) E.1 E.2.1 dX8_init_32 (by decide) ?_
  refine z_iAF (C := RX8) (T := TX8) (N := 5) (n := 400) E hin hI hP hD hS hA iwX8 tyX8 tyX8_ok nmX8 rfl 3 (by decide) ⟨rfl, rfl⟩ (by decide +kernel) (Nat.le_of_ble_eq_true rfl) tw207 400 (by decide) (by decide) (Nat.le_of_ble_eq_true rfl) (Nat.le_of_ble_eq_true rfl) (Nat.le_of_ble_eq_true rfl) dX8_init_35 dX8_init_37 (fun q4 H locs hP hD hS => ?_)
  refine lv_aload_n E.1 E.2.1 dX8_init_40 rfl (lv_at hl 0 rfl) ?_
  refine lv_iconst (v := 0) E.1 E.2.1 dX8_init_41 (by decide) ?_
  refine z_iInt (C := RX8) (T := TX8) (N := 5) (ty := .int) (v := 0) E hI hP hD hS iwX8 tyX8 tyX8_ok nmX8 rfl 4 (by decide) rfl (by decide +kernel) rfl rfl (Nat.le_of_ble_eq_true rfl) tw208 dX8_init_42 (fun H locs hP hD hS => ?_)
  have hP : va_P D vwC [(h0, .inr (8, [.ref q1, .ref q2, .ref q3, .ref q4, .int 0])), (q1, ar cy 400 z0), (q2, ar cy 400 z0), (q3, ar cy 400 z0), (q4, ar cy 400 z0)] H := hP
  have hD : va_D A [(h0, .inr (8, [.ref q1, .ref q2, .ref q3, .ref q4, .int 0])), (q1, ar cy 400 z0), (q2, ar cy 400 z0), (q3, ar cy 400 z0), (q4, ar cy 400 z0)] := hD
  exact z_iRet E hr hlk hP hD hS ⟨q1, q2, q3, q4, rfl⟩ dX8_init_45
theorem dfX5 : ∀ j, j < 8 → defaultValue (tyX5 j) = vp_V [.null, .null, .null, .null, .null, .null, .int 0, .int 0] j
  | 0, _ => rfl
  | 1, _ => rfl
  | 2, _ => rfl
  | 3, _ => rfl
  | 4, _ => rfl
  | 5, _ => rfl
  | 6, _ => rfl
  | 7, _ => rfl
  | _ + 8, h => absurd h (by omega)
def rX5 (cy : ClassId) (h0 : Nat) (w : va_W) : Prop := ∃ q1 q2 q3 q4 q5 q6 : Nat, w = [(h0, .inr (5, [.ref q1, .ref q2, .ref q3, .ref q4, .ref q5, .ref q6, .int 1, .int 0])), (q1, ar cy 40 sg0), (q2, ar cy 40 z0), (q3, ar cy 40 z0), (q4, ar cy 40 z0), (q5, ar cy 40 z0), (q6, ar cy 40 z0)]
set_option maxHeartbeats 4000000 in
set_option maxRecDepth 100000 in
theorem i_X5 (l : Launch) (D : va_G) (cy : ClassId) : z_In l yX5_init cX5_init 1 12 6 240 D cy 5 [.null, .null, .null, .null, .null, .null, .int 0, .int 0] (rX5 cy) := by
  refine z_inStart (by decide) rfl ?_
  intro p e s m below meth c ls h0 A E hr hlk hin hI hP hD hS hA hl
  have E : CallFix p m c cX5_init 1 s #[Value.ref h0] lw_good RX5 := E
  refine z_iObj E hl tw38 dX5_init_0 dX5_init_1 (Nat.le_of_ble_eq_true rfl) (Nat.le_of_ble_eq_true rfl) ?_
  refine lv_aload_n E.1 E.2.1 dX5_init_4 rfl (lv_at hl 0 rfl) ?_
  refine lv_bipush (v := 40) E.1 E.2.1 dX5_init_5 (by decide) ?_
  refine z_iAF (C := RX5) (T := TX5) (N := 8) (n := 40) E hin hI hP hD hS hA iwX5 tyX5 tyX5_ok nmX5 rfl 0 (by decide) ⟨rfl, rfl⟩ (by decide +kernel) (Nat.le_of_ble_eq_true rfl) tw39 40 (by decide) (by decide) (Nat.le_of_ble_eq_true rfl) (Nat.le_of_ble_eq_true rfl) (Nat.le_of_ble_eq_true rfl) dX5_init_7 dX5_init_9 (fun q1 H locs hP hD hS => ?_)
  refine lv_aload_n E.1 E.2.1 dX5_init_12 rfl (lv_at hl 0 rfl) ?_
  refine lv_bipush (v := 40) E.1 E.2.1 dX5_init_13 (by decide) ?_
  refine z_iAF (C := RX5) (T := TX5) (N := 8) (n := 40) E hin hI hP hD hS hA iwX5 tyX5 tyX5_ok nmX5 rfl 1 (by decide) ⟨rfl, rfl⟩ (by decide +kernel) (Nat.le_of_ble_eq_true rfl) tw40 40 (by decide) (by decide) (Nat.le_of_ble_eq_true rfl) (Nat.le_of_ble_eq_true rfl) (Nat.le_of_ble_eq_true rfl) dX5_init_15 dX5_init_17 (fun q2 H locs hP hD hS => ?_)
  refine lv_aload_n E.1 E.2.1 dX5_init_20 rfl (lv_at hl 0 rfl) ?_
  refine lv_bipush (v := 40) E.1 E.2.1 dX5_init_21 (by decide) ?_
  refine z_iAF (C := RX5) (T := TX5) (N := 8) (n := 40) E hin hI hP hD hS hA iwX5 tyX5 tyX5_ok nmX5 rfl 2 (by decide) ⟨rfl, rfl⟩ (by decide +kernel) (Nat.le_of_ble_eq_true rfl) tw41 40 (by decide) (by decide) (Nat.le_of_ble_eq_true rfl) (Nat.le_of_ble_eq_true rfl) (Nat.le_of_ble_eq_true rfl) dX5_init_23 dX5_init_25 (fun q3 H locs hP hD hS => ?_)
  refine lv_aload_n E.1 E.2.1 dX5_init_28 rfl (lv_at hl 0 rfl) ?_
  refine lv_bipush (v := 40) E.1 E.2.1 dX5_init_29 (by decide) ?_
  refine z_iAF (C := RX5) (T := TX5) (N := 8) (n := 40) E hin hI hP hD hS hA iwX5 tyX5 tyX5_ok nmX5 rfl 3 (by decide) ⟨rfl, rfl⟩ (by decide +kernel) (Nat.le_of_ble_eq_true rfl) tw42 40 (by decide) (by decide) (Nat.le_of_ble_eq_true rfl) (Nat.le_of_ble_eq_true rfl) (Nat.le_of_ble_eq_true rfl) dX5_init_31 dX5_init_33 (fun q4 H locs hP hD hS => ?_)
  refine lv_aload_n E.1 E.2.1 dX5_init_36 rfl (lv_at hl 0 rfl) ?_
  refine lv_bipush (v := 40) E.1 E.2.1 dX5_init_37 (by decide) ?_
  refine z_iAF (C := RX5) (T := TX5) (N := 8) (n := 40) E hin hI hP hD hS hA iwX5 tyX5 tyX5_ok nmX5 rfl 4 (by decide) ⟨rfl, rfl⟩ (by decide +kernel) (Nat.le_of_ble_eq_true rfl) tw43 40 (by decide) (by decide) (Nat.le_of_ble_eq_true rfl) (Nat.le_of_ble_eq_true rfl) (Nat.le_of_ble_eq_true rfl) dX5_init_39 dX5_init_41 (fun q5 H locs hP hD hS => ?_)
  refine lv_aload_n E.1 E.2.1 dX5_init_44 rfl (lv_at hl 0 rfl) ?_
  refine lv_bipush (v := 40) E.1 E.2.1 dX5_init_45 (by decide) ?_
  refine z_iAF (C := RX5) (T := TX5) (N := 8) (n := 40) E hin hI hP hD hS hA iwX5 tyX5 tyX5_ok nmX5 rfl 5 (by decide) ⟨rfl, rfl⟩ (by decide +kernel) (Nat.le_of_ble_eq_true rfl) tw44 40 (by decide) (by decide) (Nat.le_of_ble_eq_true rfl) (Nat.le_of_ble_eq_true rfl) (Nat.le_of_ble_eq_true rfl) dX5_init_47 dX5_init_49 (fun q6 H locs hP hD hS => ?_)
  refine lv_aload_n E.1 E.2.1 dX5_init_52 rfl (lv_at hl 0 rfl) ?_
  refine lv_iconst (v := 0) E.1 E.2.1 dX5_init_53 (by decide) ?_
  refine z_iInt (C := RX5) (T := TX5) (N := 8) (ty := .int) (v := 0) E hI hP hD hS iwX5 tyX5 tyX5_ok nmX5 rfl 6 (by decide) rfl (by decide +kernel) rfl rfl (Nat.le_of_ble_eq_true rfl) tw45 dX5_init_54 (fun H locs hP hD hS => ?_)
  refine lv_aload_n E.1 E.2.1 dX5_init_57 rfl (lv_at hl 0 rfl) ?_
  refine lv_iconst (v := 0) E.1 E.2.1 dX5_init_58 (by decide) ?_
  refine z_iInt (C := RX5) (T := TX5) (N := 8) (ty := .int) (v := 0) E hI hP hD hS iwX5 tyX5 tyX5_ok nmX5 rfl 7 (by decide) rfl (by decide +kernel) rfl rfl (Nat.le_of_ble_eq_true rfl) tw47 dX5_init_59 (fun H locs hP hD hS => ?_)
  refine lv_aload_n E.1 E.2.1 dX5_init_62 rfl (lv_at hl 0 rfl) ?_
  refine va_get (v := .ref q1) (C := RX5) (T := TX5) (N := 8) E.1 E.2.1 E.2.2.2.2 iwX5 E.2.2.2.1 hI.1 hP 0 rfl rfl 0 (by decide) (E.2.2.2.2 _ tw39) (fun _ h9 => h9) rfl dX5_init_63 ?_
  refine lv_iconst (v := 0) E.1 E.2.1 dX5_init_66 (by decide) ?_
  refine lv_bipush (v := 48) E.1 E.2.1 dX5_init_67 (by decide) ?_
  refine va_iast (i := 0) (x := 48) E.1 E.2.1 hI.1 hP hD hS 1 0 rfl rfl (fun q => q.elim (fun h => absurd h (by decide)) (fun h => absurd h (by decide))) dX5_init_69 (fun H locs hP hD hS => ?_)
  refine lv_aload_n E.1 E.2.1 dX5_init_70 rfl (lv_at hl 0 rfl) ?_
  refine lv_iconst (v := 1) E.1 E.2.1 dX5_init_71 (by decide) ?_
  refine z_iInt (C := RX5) (T := TX5) (N := 8) (ty := .int) (v := 1) E hI hP hD hS iwX5 tyX5 tyX5_ok nmX5 rfl 6 (by decide) rfl (by decide +kernel) rfl rfl (Nat.le_of_ble_eq_true rfl) tw45 dX5_init_72 (fun H locs hP hD hS => ?_)
  have hP : va_P D vwC [(h0, .inr (5, [.ref q1, .ref q2, .ref q3, .ref q4, .ref q5, .ref q6, .int 1, .int 0])), (q1, ar cy 40 sg0), (q2, ar cy 40 z0), (q3, ar cy 40 z0), (q4, ar cy 40 z0), (q5, ar cy 40 z0), (q6, ar cy 40 z0)] H := hP
  have hD : va_D A [(h0, .inr (5, [.ref q1, .ref q2, .ref q3, .ref q4, .ref q5, .ref q6, .int 1, .int 0])), (q1, ar cy 40 sg0), (q2, ar cy 40 z0), (q3, ar cy 40 z0), (q4, ar cy 40 z0), (q5, ar cy 40 z0), (q6, ar cy 40 z0)] := hD
  exact z_iRet E hr hlk hP hD hS ⟨q1, q2, q3, q4, q5, q6, rfl⟩ dX5_init_75
theorem dfX6 : ∀ j, j < 6 → defaultValue (tyX6 j) = vp_V [.null, .null, .null, .null, .int 0, .int 0] j
  | 0, _ => rfl
  | 1, _ => rfl
  | 2, _ => rfl
  | 3, _ => rfl
  | 4, _ => rfl
  | 5, _ => rfl
  | _ + 6, h => absurd h (by omega)
def rX6 (cy : ClassId) (h0 : Nat) (w : va_W) : Prop := ∃ q1 q2 q3 q4 q5 q6 q7 q8 q9 q10 q11 q12 q13 : Nat, w = [(h0, .inr (6, [.ref q1, .ref q8, .ref q9, .ref q13, .int 0, .int 0])), (q1, .inr (5, [.ref q2, .ref q3, .ref q4, .ref q5, .ref q6, .ref q7, .int 1, .int 0])), (q2, ar cy 40 sg0), (q3, ar cy 40 z0), (q4, ar cy 40 z0), (q5, ar cy 40 z0), (q6, ar cy 40 z0), (q7, ar cy 40 z0), (q8, ar cy 6 z0), (q9, .inr (0, [.ref q10, .ref q11, .ref q12])), (q10, ar cy 10 z0), (q11, ar cy 10 z0), (q12, ar cy 10 z0), (q13, .inr (2, [.int 0, .int 0, .int 0, .int 0, .int 0, .int 0, .int 0]))]
set_option maxHeartbeats 4000000 in
set_option maxRecDepth 100000 in
theorem i_X6 (l : Launch) (D : va_G) (cy : ClassId) : z_In l yX6_init cX6_init 2 32 13 294 D cy 6 [.null, .null, .null, .null, .int 0, .int 0] (rX6 cy) := by
  refine z_inStart (by decide) rfl ?_
  intro p e s m below meth c ls h0 A E hr hlk hin hI hP hD hS hA hl
  have E : CallFix p m c cX6_init 1 s #[Value.ref h0] lw_good RX6 := E
  refine z_iObj E hl tw32 dX6_init_0 dX6_init_1 (Nat.le_of_ble_eq_true rfl) (Nat.le_of_ble_eq_true rfl) ?_
  refine lv_aload_n E.1 E.2.1 dX6_init_4 rfl (lv_at hl 0 rfl) ?_
  refine z_iNewM (Cj := RX5) (Tj := TX5) (Nj := 8) (i2 := 11)  E hI hP hD hS hA hl.1 (i_X5 l D cy) iwX5 tyX5 tyX5_ok rfl tw33 tw34 tw3 tw36 tw37 ⟨rfl, rfl⟩ (by decide +kernel) dfX5 tw35 ⟨(Nat.le_of_ble_eq_true rfl), (Nat.le_of_ble_eq_true rfl)⟩ (Nat.le_of_ble_eq_true rfl) (Nat.le_of_ble_eq_true rfl) (Nat.le_of_ble_eq_true rfl) dX6_init_5 dX6_init_8 dX6_init_9 (fun q1 w1 H locs hw hP hD hS => ?_)
  obtain ⟨q2, q3, q4, q5, q6, q7, rfl⟩ := hw
  refine z_iRefF (C := RX6) (T := TX6) (N := 6) (ty := .object "ClosuresThatBounce$Program") (fs := _) (tl := _) E hin hI hP hD hS iwX6 tyX6 tyX6_ok nmX6 rfl 0 (by decide) ⟨rfl, rfl⟩ (by decide +kernel) rfl rfl (Nat.le_of_ble_eq_true rfl) tw122 dX6_init_12 (fun H locs hP hD hS => ?_)
  refine lv_aload_n E.1 E.2.1 dX6_init_15 rfl (lv_at hl 0 rfl) ?_
  refine lv_bipush (v := 6) E.1 E.2.1 dX6_init_16 (by decide) ?_
  refine z_iAF (C := RX6) (T := TX6) (N := 6) (n := 6) E hin hI hP hD hS hA iwX6 tyX6 tyX6_ok nmX6 rfl 1 (by decide) ⟨rfl, rfl⟩ (by decide +kernel) (Nat.le_of_ble_eq_true rfl) tw125 6 (by decide) (by decide) (Nat.le_of_ble_eq_true rfl) (Nat.le_of_ble_eq_true rfl) (Nat.le_of_ble_eq_true rfl) dX6_init_18 dX6_init_20 (fun q8 H locs hP hD hS => ?_)
  refine lv_aload_n E.1 E.2.1 dX6_init_23 rfl (lv_at hl 0 rfl) ?_
  refine z_iNewN (Cj := RX0) (Tj := TX0) (Nj := 3) (i2 := 24) (host := "ClosuresThatBounce") E hI hP hD hS hA hl.1 (i_X0 l D cy) iwX0 tyX0 tyX0_ok rfl tw67 tw68 tw4 tw70 tw71 ⟨rfl, rfl⟩ (by decide +kernel) dfX0 (by decide +kernel) ⟨(Nat.le_of_ble_eq_true rfl), (Nat.le_of_ble_eq_true rfl)⟩ (Nat.le_of_ble_eq_true rfl) (Nat.le_of_ble_eq_true rfl) (Nat.le_of_ble_eq_true rfl) dX6_init_24 dX6_init_27 dX6_init_28 (fun q9 w1 H locs hw hP hD hS => ?_)
  obtain ⟨q10, q11, q12, rfl⟩ := hw
  refine z_iRefF (C := RX6) (T := TX6) (N := 6) (ty := .object "ClosuresThatBounce$Caches") (fs := _) (tl := _) E hin hI hP hD hS iwX6 tyX6 tyX6_ok nmX6 rfl 2 (by decide) ⟨rfl, rfl⟩ (by decide +kernel) rfl rfl (Nat.le_of_ble_eq_true rfl) tw128 dX6_init_31 (fun H locs hP hD hS => ?_)
  refine lv_aload_n E.1 E.2.1 dX6_init_34 rfl (lv_at hl 0 rfl) ?_
  refine z_iNewN (Cj := RX2) (Tj := TX2) (Nj := 7) (i2 := 31) (host := "ClosuresThatBounce") E hI hP hD hS hA hl.1 (i_X2 l D cy) iwX2 tyX2 tyX2_ok rfl tw83 tw84 tw5 tw86 tw87 ⟨rfl, rfl⟩ (by decide +kernel) dfX2 (by decide +kernel) ⟨(Nat.le_of_ble_eq_true rfl), (Nat.le_of_ble_eq_true rfl)⟩ (Nat.le_of_ble_eq_true rfl) (Nat.le_of_ble_eq_true rfl) (Nat.le_of_ble_eq_true rfl) dX6_init_35 dX6_init_38 dX6_init_39 (fun q13 w1 H locs hw hP hD hS => ?_)
  obtain rfl := hw
  refine z_iRefF (C := RX6) (T := TX6) (N := 6) (ty := .object "ClosuresThatBounce$Ending") (fs := _) (tl := _) E hin hI hP hD hS iwX6 tyX6 tyX6_ok nmX6 rfl 3 (by decide) ⟨rfl, rfl⟩ (by decide +kernel) rfl rfl (Nat.le_of_ble_eq_true rfl) tw131 dX6_init_42 (fun H locs hP hD hS => ?_)
  refine lv_aload_n E.1 E.2.1 dX6_init_45 rfl (lv_at hl 0 rfl) ?_
  refine lv_iconst (v := 0) E.1 E.2.1 dX6_init_46 (by decide) ?_
  refine z_iInt (C := RX6) (T := TX6) (N := 6) (ty := .boolean) (v := 0) E hI hP hD hS iwX6 tyX6 tyX6_ok nmX6 rfl 4 (by decide) rfl (by decide +kernel) rfl rfl (Nat.le_of_ble_eq_true rfl) tw133 dX6_init_47 (fun H locs hP hD hS => ?_)
  refine lv_aload_n E.1 E.2.1 dX6_init_50 rfl (lv_at hl 0 rfl) ?_
  refine lv_iconst (v := 0) E.1 E.2.1 dX6_init_51 (by decide) ?_
  refine z_iInt (C := RX6) (T := TX6) (N := 6) (ty := .int) (v := 0) E hI hP hD hS iwX6 tyX6 tyX6_ok nmX6 rfl 5 (by decide) rfl (by decide +kernel) rfl rfl (Nat.le_of_ble_eq_true rfl) tw135 dX6_init_52 (fun H locs hP hD hS => ?_)
  have hP : va_P D vwC [(h0, .inr (6, [.ref q1, .ref q8, .ref q9, .ref q13, .int 0, .int 0])), (q1, .inr (5, [.ref q2, .ref q3, .ref q4, .ref q5, .ref q6, .ref q7, .int 1, .int 0])), (q2, ar cy 40 sg0), (q3, ar cy 40 z0), (q4, ar cy 40 z0), (q5, ar cy 40 z0), (q6, ar cy 40 z0), (q7, ar cy 40 z0), (q8, ar cy 6 z0), (q9, .inr (0, [.ref q10, .ref q11, .ref q12])), (q10, ar cy 10 z0), (q11, ar cy 10 z0), (q12, ar cy 10 z0), (q13, .inr (2, [.int 0, .int 0, .int 0, .int 0, .int 0, .int 0, .int 0]))] H := hP
  have hD : va_D A [(h0, .inr (6, [.ref q1, .ref q8, .ref q9, .ref q13, .int 0, .int 0])), (q1, .inr (5, [.ref q2, .ref q3, .ref q4, .ref q5, .ref q6, .ref q7, .int 1, .int 0])), (q2, ar cy 40 sg0), (q3, ar cy 40 z0), (q4, ar cy 40 z0), (q5, ar cy 40 z0), (q6, ar cy 40 z0), (q7, ar cy 40 z0), (q8, ar cy 6 z0), (q9, .inr (0, [.ref q10, .ref q11, .ref q12])), (q10, ar cy 10 z0), (q11, ar cy 10 z0), (q12, ar cy 10 z0), (q13, .inr (2, [.int 0, .int 0, .int 0, .int 0, .int 0, .int 0, .int 0]))] := hD
  exact z_iRet E hr hlk hP hD hS ⟨q1, q2, q3, q4, q5, q6, q7, q8, q9, q10, q11, q12, q13, rfl⟩ dX6_init_55
theorem dfX4 : ∀ j, j < 13 → defaultValue (tyX4 j) = vp_V [.null, .null, .null, .null, .null, .null, .null, .int 0, .int 0, .int 0, .int 0, .int 0, .int 0] j
  | 0, _ => rfl
  | 1, _ => rfl
  | 2, _ => rfl
  | 3, _ => rfl
  | 4, _ => rfl
  | 5, _ => rfl
  | 6, _ => rfl
  | 7, _ => rfl
  | 8, _ => rfl
  | 9, _ => rfl
  | 10, _ => rfl
  | 11, _ => rfl
  | 12, _ => rfl
  | _ + 13, h => absurd h (by omega)
def rX4 (cy : ClassId) (h0 : Nat) (w : va_W) : Prop := ∃ q1 q2 q3 q4 q5 q6 q7 q8 q9 q10 q11 q12 q13 q14 q15 q16 q17 q18 q19 q20 q21 q22 q23 q24 q25 q26 : Nat, w = [(h0, .inr (4, [.ref q1, .ref q2, .ref q6, .ref q7, .ref q11, .ref q15, .ref q20, .int 3, .int 0, .int (-1), .int 0, .int 0, .int 0])), (q1, ar cy 6 z0), (q2, .inr (0, [.ref q3, .ref q4, .ref q5])), (q3, ar cy 10 z0), (q4, ar cy 10 z0), (q5, ar cy 10 z0), (q6, .inr (2, [.int 0, .int 0, .int 0, .int 0, .int 0, .int 0, .int 0])), (q7, .inr (1, [.ref q8, .ref q9, .ref q10, .int 0])), (q8, ar cy 400 z0), (q9, ar cy 400 z0), (q10, ar cy 400 z0), (q11, .inr (7, [.ref q12, .ref q13, .ref q14, .int 0])), (q12, ar cy 400 z0), (q13, ar cy 400 z0), (q14, ar cy 400 z0), (q15, .inr (8, [.ref q16, .ref q17, .ref q18, .ref q19, .int 0])), (q16, ar cy 400 z0), (q17, ar cy 400 z0), (q18, ar cy 400 z0), (q19, ar cy 400 z0), (q20, .inr (5, [.ref q21, .ref q22, .ref q23, .ref q24, .ref q25, .ref q26, .int 1, .int 0])), (q21, ar cy 40 sg0), (q22, ar cy 40 z0), (q23, ar cy 40 z0), (q24, ar cy 40 z0), (q25, ar cy 40 z0), (q26, ar cy 40 z0)]
set_option maxHeartbeats 4000000 in
set_option maxRecDepth 100000 in
theorem i_X4 (l : Launch) (D : va_G) (cy : ClassId) : z_In l yX4_init cX4_init 2 32 26 4307 D cy 4 [.null, .null, .null, .null, .null, .null, .null, .int 0, .int 0, .int 0, .int 0, .int 0, .int 0] (rX4 cy) := by
  refine z_inStart (by decide) rfl ?_
  intro p e s m below meth c ls h0 A E hr hlk hin hI hP hD hS hA hl
  have E : CallFix p m c cX4_init 1 s #[Value.ref h0] lw_good RX4 := E
  refine z_iObj E hl tw155 dX4_init_0 dX4_init_1 (Nat.le_of_ble_eq_true rfl) (Nat.le_of_ble_eq_true rfl) ?_
  refine lv_aload_n E.1 E.2.1 dX4_init_4 rfl (lv_at hl 0 rfl) ?_
  refine lv_bipush (v := 6) E.1 E.2.1 dX4_init_5 (by decide) ?_
  refine z_iAF (C := RX4) (T := TX4) (N := 13) (n := 6) E hin hI hP hD hS hA iwX4 tyX4 tyX4_ok nmX4 rfl 0 (by decide) ⟨rfl, rfl⟩ (by decide +kernel) (Nat.le_of_ble_eq_true rfl) tw222 6 (by decide) (by decide) (Nat.le_of_ble_eq_true rfl) (Nat.le_of_ble_eq_true rfl) (Nat.le_of_ble_eq_true rfl) dX4_init_7 dX4_init_9 (fun q1 H locs hP hD hS => ?_)
  refine lv_aload_n E.1 E.2.1 dX4_init_12 rfl (lv_at hl 0 rfl) ?_
  refine z_iNewN (Cj := RX0) (Tj := TX0) (Nj := 3) (i2 := 17) (host := "ClosuresThatBounce") E hI hP hD hS hA hl.1 (i_X0 l D cy) iwX0 tyX0 tyX0_ok rfl tw156 tw68 tw4 tw70 tw71 ⟨rfl, rfl⟩ (by decide +kernel) dfX0 (by decide +kernel) ⟨(Nat.le_of_ble_eq_true rfl), (Nat.le_of_ble_eq_true rfl)⟩ (Nat.le_of_ble_eq_true rfl) (Nat.le_of_ble_eq_true rfl) (Nat.le_of_ble_eq_true rfl) dX4_init_13 dX4_init_16 dX4_init_17 (fun q2 w1 H locs hw hP hD hS => ?_)
  obtain ⟨q3, q4, q5, rfl⟩ := hw
  refine z_iRefF (C := RX4) (T := TX4) (N := 13) (ty := .object "ClosuresThatBounce$Caches") (fs := _) (tl := _) E hin hI hP hD hS iwX4 tyX4 tyX4_ok nmX4 rfl 1 (by decide) ⟨rfl, rfl⟩ (by decide +kernel) rfl rfl (Nat.le_of_ble_eq_true rfl) tw225 dX4_init_20 (fun H locs hP hD hS => ?_)
  refine lv_aload_n E.1 E.2.1 dX4_init_23 rfl (lv_at hl 0 rfl) ?_
  refine z_iNewN (Cj := RX2) (Tj := TX2) (Nj := 7) (i2 := 24) (host := "ClosuresThatBounce") E hI hP hD hS hA hl.1 (i_X2 l D cy) iwX2 tyX2 tyX2_ok rfl tw158 tw84 tw5 tw86 tw87 ⟨rfl, rfl⟩ (by decide +kernel) dfX2 (by decide +kernel) ⟨(Nat.le_of_ble_eq_true rfl), (Nat.le_of_ble_eq_true rfl)⟩ (Nat.le_of_ble_eq_true rfl) (Nat.le_of_ble_eq_true rfl) (Nat.le_of_ble_eq_true rfl) dX4_init_24 dX4_init_27 dX4_init_28 (fun q6 w1 H locs hw hP hD hS => ?_)
  obtain rfl := hw
  refine z_iRefF (C := RX4) (T := TX4) (N := 13) (ty := .object "ClosuresThatBounce$Ending") (fs := _) (tl := _) E hin hI hP hD hS iwX4 tyX4 tyX4_ok nmX4 rfl 2 (by decide) ⟨rfl, rfl⟩ (by decide +kernel) rfl rfl (Nat.le_of_ble_eq_true rfl) tw228 dX4_init_31 (fun H locs hP hD hS => ?_)
  refine lv_aload_n E.1 E.2.1 dX4_init_34 rfl (lv_at hl 0 rfl) ?_
  refine z_iNewN (Cj := RX1) (Tj := TX1) (Nj := 4) (i2 := 31) (host := "ClosuresThatBounce") E hI hP hD hS hA hl.1 (i_X1 l D cy) iwX1 tyX1 tyX1_ok rfl tw160 tw161 tw7 tw163 tw164 ⟨rfl, rfl⟩ (by decide +kernel) dfX1 (by decide +kernel) ⟨(Nat.le_of_ble_eq_true rfl), (Nat.le_of_ble_eq_true rfl)⟩ (Nat.le_of_ble_eq_true rfl) (Nat.le_of_ble_eq_true rfl) (Nat.le_of_ble_eq_true rfl) dX4_init_35 dX4_init_38 dX4_init_39 (fun q7 w1 H locs hw hP hD hS => ?_)
  obtain ⟨q8, q9, q10, rfl⟩ := hw
  refine z_iRefF (C := RX4) (T := TX4) (N := 13) (ty := .object "ClosuresThatBounce$Cells") (fs := _) (tl := _) E hin hI hP hD hS iwX4 tyX4 tyX4_ok nmX4 rfl 3 (by decide) ⟨rfl, rfl⟩ (by decide +kernel) rfl rfl (Nat.le_of_ble_eq_true rfl) tw229 dX4_init_42 (fun H locs hP hD hS => ?_)
  refine lv_aload_n E.1 E.2.1 dX4_init_45 rfl (lv_at hl 0 rfl) ?_
  refine z_iNewN (Cj := RX7) (Tj := TX7) (Nj := 4) (i2 := 38) (host := "ClosuresThatBounce") E hI hP hD hS hA hl.1 (i_X7 l D cy) iwX7 tyX7 tyX7_ok rfl tw179 tw180 tw8 tw182 tw183 ⟨rfl, rfl⟩ (by decide +kernel) dfX7 (by decide +kernel) ⟨(Nat.le_of_ble_eq_true rfl), (Nat.le_of_ble_eq_true rfl)⟩ (Nat.le_of_ble_eq_true rfl) (Nat.le_of_ble_eq_true rfl) (Nat.le_of_ble_eq_true rfl) dX4_init_46 dX4_init_49 dX4_init_50 (fun q11 w1 H locs hw hP hD hS => ?_)
  obtain ⟨q12, q13, q14, rfl⟩ := hw
  refine z_iRefF (C := RX4) (T := TX4) (N := 13) (ty := .object "ClosuresThatBounce$Things") (fs := _) (tl := _) E hin hI hP hD hS iwX4 tyX4 tyX4_ok nmX4 rfl 4 (by decide) ⟨rfl, rfl⟩ (by decide +kernel) rfl rfl (Nat.le_of_ble_eq_true rfl) tw230 dX4_init_53 (fun H locs hP hD hS => ?_)
  refine lv_aload_n E.1 E.2.1 dX4_init_56 rfl (lv_at hl 0 rfl) ?_
  refine z_iNewN (Cj := RX8) (Tj := TX8) (Nj := 5) (i2 := 45) (host := "ClosuresThatBounce") E hI hP hD hS hA hl.1 (i_X8 l D cy) iwX8 tyX8 tyX8_ok rfl tw198 tw199 tw9 tw201 tw202 ⟨rfl, rfl⟩ (by decide +kernel) dfX8 (by decide +kernel) ⟨(Nat.le_of_ble_eq_true rfl), (Nat.le_of_ble_eq_true rfl)⟩ (Nat.le_of_ble_eq_true rfl) (Nat.le_of_ble_eq_true rfl) (Nat.le_of_ble_eq_true rfl) dX4_init_57 dX4_init_60 dX4_init_61 (fun q15 w1 H locs hw hP hD hS => ?_)
  obtain ⟨q16, q17, q18, q19, rfl⟩ := hw
  refine z_iRefF (C := RX4) (T := TX4) (N := 13) (ty := .object "ClosuresThatBounce$Waiting") (fs := _) (tl := _) E hin hI hP hD hS iwX4 tyX4 tyX4_ok nmX4 rfl 5 (by decide) ⟨rfl, rfl⟩ (by decide +kernel) rfl rfl (Nat.le_of_ble_eq_true rfl) tw231 dX4_init_64 (fun H locs hP hD hS => ?_)
  refine lv_aload_n E.1 E.2.1 dX4_init_67 rfl (lv_at hl 0 rfl) ?_
  refine z_iNewM (Cj := RX5) (Tj := TX5) (Nj := 8) (i2 := 52)  E hI hP hD hS hA hl.1 (i_X5 l D cy) iwX5 tyX5 tyX5_ok rfl tw220 tw34 tw3 tw36 tw37 ⟨rfl, rfl⟩ (by decide +kernel) dfX5 tw221 ⟨(Nat.le_of_ble_eq_true rfl), (Nat.le_of_ble_eq_true rfl)⟩ (Nat.le_of_ble_eq_true rfl) (Nat.le_of_ble_eq_true rfl) (Nat.le_of_ble_eq_true rfl) dX4_init_68 dX4_init_71 dX4_init_72 (fun q20 w1 H locs hw hP hD hS => ?_)
  obtain ⟨q21, q22, q23, q24, q25, q26, rfl⟩ := hw
  refine z_iRefV (C := RX4) (T := TX4) (N := 13) (ty := .object "ClosuresThatBounce$Program") (fs := _) (tl := _) E hI hP hD hS iwX4 tyX4 tyX4_ok nmX4 rfl 6 (by decide) rfl (by decide +kernel) rfl rfl (Nat.le_of_ble_eq_true rfl) tw232 dX4_init_75 (fun H locs hP hD hS => ?_)
  refine lv_aload_n E.1 E.2.1 dX4_init_78 rfl (lv_at hl 0 rfl) ?_
  refine lv_iconst (v := 3) E.1 E.2.1 dX4_init_79 (by decide) ?_
  refine z_iInt (C := RX4) (T := TX4) (N := 13) (ty := .int) (v := 3) E hI hP hD hS iwX4 tyX4 tyX4_ok nmX4 rfl 7 (by decide) rfl (by decide +kernel) rfl rfl (Nat.le_of_ble_eq_true rfl) tw233 dX4_init_80 (fun H locs hP hD hS => ?_)
  refine lv_aload_n E.1 E.2.1 dX4_init_83 rfl (lv_at hl 0 rfl) ?_
  refine lv_iconst (v := 0) E.1 E.2.1 dX4_init_84 (by decide) ?_
  refine z_iInt (C := RX4) (T := TX4) (N := 13) (ty := .int) (v := 0) E hI hP hD hS iwX4 tyX4 tyX4_ok nmX4 rfl 8 (by decide) rfl (by decide +kernel) rfl rfl (Nat.le_of_ble_eq_true rfl) tw234 dX4_init_85 (fun H locs hP hD hS => ?_)
  refine lv_aload_n E.1 E.2.1 dX4_init_88 rfl (lv_at hl 0 rfl) ?_
  refine lv_iconst (v := (-1)) E.1 E.2.1 dX4_init_89 (by decide) ?_
  refine z_iInt (C := RX4) (T := TX4) (N := 13) (ty := .int) (v := (-1)) E hI hP hD hS iwX4 tyX4 tyX4_ok nmX4 rfl 9 (by decide) rfl (by decide +kernel) rfl rfl (Nat.le_of_ble_eq_true rfl) tw235 dX4_init_90 (fun H locs hP hD hS => ?_)
  refine lv_aload_n E.1 E.2.1 dX4_init_93 rfl (lv_at hl 0 rfl) ?_
  refine lv_iconst (v := 0) E.1 E.2.1 dX4_init_94 (by decide) ?_
  refine z_iInt (C := RX4) (T := TX4) (N := 13) (ty := .int) (v := 0) E hI hP hD hS iwX4 tyX4 tyX4_ok nmX4 rfl 10 (by decide) rfl (by decide +kernel) rfl rfl (Nat.le_of_ble_eq_true rfl) tw236 dX4_init_95 (fun H locs hP hD hS => ?_)
  refine lv_aload_n E.1 E.2.1 dX4_init_98 rfl (lv_at hl 0 rfl) ?_
  refine lv_iconst (v := 0) E.1 E.2.1 dX4_init_99 (by decide) ?_
  refine z_iInt (C := RX4) (T := TX4) (N := 13) (ty := .int) (v := 0) E hI hP hD hS iwX4 tyX4 tyX4_ok nmX4 rfl 11 (by decide) rfl (by decide +kernel) rfl rfl (Nat.le_of_ble_eq_true rfl) tw237 dX4_init_100 (fun H locs hP hD hS => ?_)
  refine lv_aload_n E.1 E.2.1 dX4_init_103 rfl (lv_at hl 0 rfl) ?_
  refine lv_iconst (v := 0) E.1 E.2.1 dX4_init_104 (by decide) ?_
  refine z_iInt (C := RX4) (T := TX4) (N := 13) (ty := .boolean) (v := 0) E hI hP hD hS iwX4 tyX4 tyX4_ok nmX4 rfl 12 (by decide) rfl (by decide +kernel) rfl rfl (Nat.le_of_ble_eq_true rfl) tw238 dX4_init_105 (fun H locs hP hD hS => ?_)
  have hP : va_P D vwC [(h0, .inr (4, [.ref q1, .ref q2, .ref q6, .ref q7, .ref q11, .ref q15, .ref q20, .int 3, .int 0, .int (-1), .int 0, .int 0, .int 0])), (q1, ar cy 6 z0), (q2, .inr (0, [.ref q3, .ref q4, .ref q5])), (q3, ar cy 10 z0), (q4, ar cy 10 z0), (q5, ar cy 10 z0), (q6, .inr (2, [.int 0, .int 0, .int 0, .int 0, .int 0, .int 0, .int 0])), (q7, .inr (1, [.ref q8, .ref q9, .ref q10, .int 0])), (q8, ar cy 400 z0), (q9, ar cy 400 z0), (q10, ar cy 400 z0), (q11, .inr (7, [.ref q12, .ref q13, .ref q14, .int 0])), (q12, ar cy 400 z0), (q13, ar cy 400 z0), (q14, ar cy 400 z0), (q15, .inr (8, [.ref q16, .ref q17, .ref q18, .ref q19, .int 0])), (q16, ar cy 400 z0), (q17, ar cy 400 z0), (q18, ar cy 400 z0), (q19, ar cy 400 z0), (q20, .inr (5, [.ref q21, .ref q22, .ref q23, .ref q24, .ref q25, .ref q26, .int 1, .int 0])), (q21, ar cy 40 sg0), (q22, ar cy 40 z0), (q23, ar cy 40 z0), (q24, ar cy 40 z0), (q25, ar cy 40 z0), (q26, ar cy 40 z0)] H := hP
  have hD : va_D A [(h0, .inr (4, [.ref q1, .ref q2, .ref q6, .ref q7, .ref q11, .ref q15, .ref q20, .int 3, .int 0, .int (-1), .int 0, .int 0, .int 0])), (q1, ar cy 6 z0), (q2, .inr (0, [.ref q3, .ref q4, .ref q5])), (q3, ar cy 10 z0), (q4, ar cy 10 z0), (q5, ar cy 10 z0), (q6, .inr (2, [.int 0, .int 0, .int 0, .int 0, .int 0, .int 0, .int 0])), (q7, .inr (1, [.ref q8, .ref q9, .ref q10, .int 0])), (q8, ar cy 400 z0), (q9, ar cy 400 z0), (q10, ar cy 400 z0), (q11, .inr (7, [.ref q12, .ref q13, .ref q14, .int 0])), (q12, ar cy 400 z0), (q13, ar cy 400 z0), (q14, ar cy 400 z0), (q15, .inr (8, [.ref q16, .ref q17, .ref q18, .ref q19, .int 0])), (q16, ar cy 400 z0), (q17, ar cy 400 z0), (q18, ar cy 400 z0), (q19, ar cy 400 z0), (q20, .inr (5, [.ref q21, .ref q22, .ref q23, .ref q24, .ref q25, .ref q26, .int 1, .int 0])), (q21, ar cy 40 sg0), (q22, ar cy 40 z0), (q23, ar cy 40 z0), (q24, ar cy 40 z0), (q25, ar cy 40 z0), (q26, ar cy 40 z0)] := hD
  exact z_iRet E hr hlk hP hD hS ⟨q1, q2, q3, q4, q5, q6, q7, q8, q9, q10, q11, q12, q13, q14, q15, q16, q17, q18, q19, q20, q21, q22, q23, q24, q25, q26, rfl⟩ dX4_init_108
theorem dfX9 : ∀ j, j < 9 → defaultValue (tyX9 j) = vp_V [.null, .null, .null, .null, .null, .null, .null, .int 0, .int 0] j
  | 0, _ => rfl
  | 1, _ => rfl
  | 2, _ => rfl
  | 3, _ => rfl
  | 4, _ => rfl
  | 5, _ => rfl
  | 6, _ => rfl
  | 7, _ => rfl
  | 8, _ => rfl
  | _ + 9, h => absurd h (by omega)
def rX9 (cy : ClassId) (h0 : Nat) (w : va_W) : Prop := ∃ q1 q2 q3 q4 q5 q6 q7 q8 q9 q10 q11 q12 q13 q14 q15 q16 q17 q18 q19 q20 q21 q22 q23 q24 q25 q26 q27 q28 q29 q30 q31 q32 q33 q34 q35 q36 q37 q38 q39 q40 q41 q42 q43 q44 q45 q46 q47 q48 q49 q50 q51 q52 q53 q54 q55 q56 q57 q58 q59 q60 q61 q62 q63 q64 : Nat, w = [(h0, .inr (9, [.ref q1, .ref q15, .ref q29, .ref q56, .ref q62, .ref q63, .ref q64, .int 0, .int 0])), (q1, .inr (6, [.ref q2, .ref q9, .ref q10, .ref q14, .int 0, .int 0])), (q2, .inr (5, [.ref q3, .ref q4, .ref q5, .ref q6, .ref q7, .ref q8, .int 1, .int 0])), (q3, ar cy 40 sg0), (q4, ar cy 40 z0), (q5, ar cy 40 z0), (q6, ar cy 40 z0), (q7, ar cy 40 z0), (q8, ar cy 40 z0), (q9, ar cy 6 z0), (q10, .inr (0, [.ref q11, .ref q12, .ref q13])), (q11, ar cy 10 z0), (q12, ar cy 10 z0), (q13, ar cy 10 z0), (q14, .inr (2, [.int 0, .int 0, .int 0, .int 0, .int 0, .int 0, .int 0])), (q15, .inr (6, [.ref q16, .ref q23, .ref q24, .ref q28, .int 0, .int 0])), (q16, .inr (5, [.ref q17, .ref q18, .ref q19, .ref q20, .ref q21, .ref q22, .int 1, .int 0])), (q17, ar cy 40 sg0), (q18, ar cy 40 z0), (q19, ar cy 40 z0), (q20, ar cy 40 z0), (q21, ar cy 40 z0), (q22, ar cy 40 z0), (q23, ar cy 6 z0), (q24, .inr (0, [.ref q25, .ref q26, .ref q27])), (q25, ar cy 10 z0), (q26, ar cy 10 z0), (q27, ar cy 10 z0), (q28, .inr (2, [.int 0, .int 0, .int 0, .int 0, .int 0, .int 0, .int 0])), (q29, .inr (4, [.ref q30, .ref q31, .ref q35, .ref q36, .ref q40, .ref q44, .ref q49, .int 3, .int 0, .int (-1), .int 0, .int 0, .int 0])), (q30, ar cy 6 z0), (q31, .inr (0, [.ref q32, .ref q33, .ref q34])), (q32, ar cy 10 z0), (q33, ar cy 10 z0), (q34, ar cy 10 z0), (q35, .inr (2, [.int 0, .int 0, .int 0, .int 0, .int 0, .int 0, .int 0])), (q36, .inr (1, [.ref q37, .ref q38, .ref q39, .int 0])), (q37, ar cy 400 z0), (q38, ar cy 400 z0), (q39, ar cy 400 z0), (q40, .inr (7, [.ref q41, .ref q42, .ref q43, .int 0])), (q41, ar cy 400 z0), (q42, ar cy 400 z0), (q43, ar cy 400 z0), (q44, .inr (8, [.ref q45, .ref q46, .ref q47, .ref q48, .int 0])), (q45, ar cy 400 z0), (q46, ar cy 400 z0), (q47, ar cy 400 z0), (q48, ar cy 400 z0), (q49, .inr (5, [.ref q50, .ref q51, .ref q52, .ref q53, .ref q54, .ref q55, .int 1, .int 0])), (q50, ar cy 40 sg0), (q51, ar cy 40 z0), (q52, ar cy 40 z0), (q53, ar cy 40 z0), (q54, ar cy 40 z0), (q55, ar cy 40 z0), (q56, .inr (3, [.ref q57, .ref q58, .ref q59, .ref q60, .ref q61, .int 0, .int 0, .int 0])), (q57, ar cy 96 z0), (q58, ar cy 96 z0), (q59, ar cy 96 z0), (q60, ar cy 193 z0), (q61, ar cy 193 z0), (q62, ar cy 16 z0), (q63, ar cy 7 z0), (q64, ar cy 32 z0)]
set_option maxHeartbeats 4000000 in
set_option maxRecDepth 100000 in
theorem i_X9 (l : Launch) (D : va_G) (cy : ClassId) : z_In l yX9_init cX9_init 3 52 64 5657 D cy 9 [.null, .null, .null, .null, .null, .null, .null, .int 0, .int 0] (rX9 cy) := by
  refine z_inStart (by decide) rfl ?_
  intro p e s m below meth c ls h0 A E hr hlk hin hI hP hD hS hA hl
  have E : CallFix p m c cX9_init 1 s #[Value.ref h0] lw_good RX9 := E
  refine z_iObj E hl tw24 dX9_init_0 dX9_init_1 (Nat.le_of_ble_eq_true rfl) (Nat.le_of_ble_eq_true rfl) ?_
  refine lv_aload_n E.1 E.2.1 dX9_init_4 rfl (lv_at hl 0 rfl) ?_
  refine z_iNewN (Cj := RX6) (Tj := TX6) (Nj := 6) (i2 := 9) (host := "ClosuresThatBounce") E hI hP hD hS hA hl.1 (i_X6 l D cy) iwX6 tyX6 tyX6_ok rfl tw27 tw28 tw2 tw30 tw31 ⟨rfl, rfl⟩ (by decide +kernel) dfX6 (by decide +kernel) ⟨(Nat.le_of_ble_eq_true rfl), (Nat.le_of_ble_eq_true rfl)⟩ (Nat.le_of_ble_eq_true rfl) (Nat.le_of_ble_eq_true rfl) (Nat.le_of_ble_eq_true rfl) dX9_init_5 dX9_init_8 dX9_init_9 (fun q1 w1 H locs hw hP hD hS => ?_)
  obtain ⟨q2, q3, q4, q5, q6, q7, q8, q9, q10, q11, q12, q13, q14, rfl⟩ := hw
  refine z_iRefF (C := RX9) (T := TX9) (N := 9) (ty := .object "ClosuresThatBounce$Situation") (fs := _) (tl := _) E hin hI hP hD hS iwX9 tyX9 tyX9_ok nmX9 rfl 0 (by decide) ⟨rfl, rfl⟩ (by decide +kernel) rfl rfl (Nat.le_of_ble_eq_true rfl) tw298 dX9_init_12 (fun H locs hP hD hS => ?_)
  refine lv_aload_n E.1 E.2.1 dX9_init_15 rfl (lv_at hl 0 rfl) ?_
  refine z_iNewN (Cj := RX6) (Tj := TX6) (Nj := 6) (i2 := 9) (host := "ClosuresThatBounce") E hI hP hD hS hA hl.1 (i_X6 l D cy) iwX6 tyX6 tyX6_ok rfl tw27 tw28 tw2 tw30 tw31 ⟨rfl, rfl⟩ (by decide +kernel) dfX6 (by decide +kernel) ⟨(Nat.le_of_ble_eq_true rfl), (Nat.le_of_ble_eq_true rfl)⟩ (Nat.le_of_ble_eq_true rfl) (Nat.le_of_ble_eq_true rfl) (Nat.le_of_ble_eq_true rfl) dX9_init_16 dX9_init_19 dX9_init_20 (fun q15 w1 H locs hw hP hD hS => ?_)
  obtain ⟨q16, q17, q18, q19, q20, q21, q22, q23, q24, q25, q26, q27, q28, rfl⟩ := hw
  refine z_iRefF (C := RX9) (T := TX9) (N := 9) (ty := .object "ClosuresThatBounce$Situation") (fs := _) (tl := _) E hin hI hP hD hS iwX9 tyX9 tyX9_ok nmX9 rfl 1 (by decide) ⟨rfl, rfl⟩ (by decide +kernel) rfl rfl (Nat.le_of_ble_eq_true rfl) tw299 dX9_init_23 (fun H locs hP hD hS => ?_)
  refine lv_aload_n E.1 E.2.1 dX9_init_26 rfl (lv_at hl 0 rfl) ?_
  refine z_iNewN (Cj := RX4) (Tj := TX4) (Nj := 13) (i2 := 21) (host := "ClosuresThatBounce") E hI hP hD hS hA hl.1 (i_X4 l D cy) iwX4 tyX4 tyX4_ok rfl tw150 tw151 tw6 tw153 tw154 ⟨rfl, rfl⟩ (by decide +kernel) dfX4 (by decide +kernel) ⟨(Nat.le_of_ble_eq_true rfl), (Nat.le_of_ble_eq_true rfl)⟩ (Nat.le_of_ble_eq_true rfl) (Nat.le_of_ble_eq_true rfl) (Nat.le_of_ble_eq_true rfl) dX9_init_27 dX9_init_30 dX9_init_31 (fun q29 w1 H locs hw hP hD hS => ?_)
  obtain ⟨q30, q31, q32, q33, q34, q35, q36, q37, q38, q39, q40, q41, q42, q43, q44, q45, q46, q47, q48, q49, q50, q51, q52, q53, q54, q55, rfl⟩ := hw
  refine z_iRefF (C := RX9) (T := TX9) (N := 9) (ty := .object "ClosuresThatBounce$Machine") (fs := _) (tl := _) E hin hI hP hD hS iwX9 tyX9 tyX9_ok nmX9 rfl 2 (by decide) ⟨rfl, rfl⟩ (by decide +kernel) rfl rfl (Nat.le_of_ble_eq_true rfl) tw300 dX9_init_34 (fun H locs hP hD hS => ?_)
  refine lv_aload_n E.1 E.2.1 dX9_init_37 rfl (lv_at hl 0 rfl) ?_
  refine z_iNewN (Cj := RX3) (Tj := TX3) (Nj := 8) (i2 := 28) (host := "ClosuresThatBounce") E hI hP hD hS hA hl.1 (i_X3 l D cy) iwX3 tyX3 tyX3_ok rfl tw266 tw267 tw10 tw269 tw270 ⟨rfl, rfl⟩ (by decide +kernel) dfX3 (by decide +kernel) ⟨(Nat.le_of_ble_eq_true rfl), (Nat.le_of_ble_eq_true rfl)⟩ (Nat.le_of_ble_eq_true rfl) (Nat.le_of_ble_eq_true rfl) (Nat.le_of_ble_eq_true rfl) dX9_init_38 dX9_init_41 dX9_init_42 (fun q56 w1 H locs hw hP hD hS => ?_)
  obtain ⟨q57, q58, q59, q60, q61, rfl⟩ := hw
  refine z_iRefF (C := RX9) (T := TX9) (N := 9) (ty := .object "ClosuresThatBounce$Letters") (fs := _) (tl := _) E hin hI hP hD hS iwX9 tyX9 tyX9_ok nmX9 rfl 3 (by decide) ⟨rfl, rfl⟩ (by decide +kernel) rfl rfl (Nat.le_of_ble_eq_true rfl) tw301 dX9_init_45 (fun H locs hP hD hS => ?_)
  refine lv_aload_n E.1 E.2.1 dX9_init_48 rfl (lv_at hl 0 rfl) ?_
  refine lv_bipush (v := 16) E.1 E.2.1 dX9_init_49 (by decide) ?_
  refine z_iAF (C := RX9) (T := TX9) (N := 9) (n := 16) E hin hI hP hD hS hA iwX9 tyX9 tyX9_ok nmX9 rfl 4 (by decide) ⟨rfl, rfl⟩ (by decide +kernel) (Nat.le_of_ble_eq_true rfl) tw302 16 (by decide) (by decide) (Nat.le_of_ble_eq_true rfl) (Nat.le_of_ble_eq_true rfl) (Nat.le_of_ble_eq_true rfl) dX9_init_51 dX9_init_53 (fun q62 H locs hP hD hS => ?_)
  refine lv_aload_n E.1 E.2.1 dX9_init_56 rfl (lv_at hl 0 rfl) ?_
  refine lv_bipush (v := 7) E.1 E.2.1 dX9_init_57 (by decide) ?_
  refine z_iAF (C := RX9) (T := TX9) (N := 9) (n := 7) E hin hI hP hD hS hA iwX9 tyX9 tyX9_ok nmX9 rfl 5 (by decide) ⟨rfl, rfl⟩ (by decide +kernel) (Nat.le_of_ble_eq_true rfl) tw303 7 (by decide) (by decide) (Nat.le_of_ble_eq_true rfl) (Nat.le_of_ble_eq_true rfl) (Nat.le_of_ble_eq_true rfl) dX9_init_59 dX9_init_61 (fun q63 H locs hP hD hS => ?_)
  refine lv_aload_n E.1 E.2.1 dX9_init_64 rfl (lv_at hl 0 rfl) ?_
  refine lv_bipush (v := 32) E.1 E.2.1 dX9_init_65 (by decide) ?_
  refine z_iAF (C := RX9) (T := TX9) (N := 9) (n := 32) E hin hI hP hD hS hA iwX9 tyX9 tyX9_ok nmX9 rfl 6 (by decide) ⟨rfl, rfl⟩ (by decide +kernel) (Nat.le_of_ble_eq_true rfl) tw304 32 (by decide) (by decide) (Nat.le_of_ble_eq_true rfl) (Nat.le_of_ble_eq_true rfl) (Nat.le_of_ble_eq_true rfl) dX9_init_67 dX9_init_69 (fun q64 H locs hP hD hS => ?_)
  refine lv_aload_n E.1 E.2.1 dX9_init_72 rfl (lv_at hl 0 rfl) ?_
  refine lv_iconst (v := 0) E.1 E.2.1 dX9_init_73 (by decide) ?_
  refine z_iInt (C := RX9) (T := TX9) (N := 9) (ty := .int) (v := 0) E hI hP hD hS iwX9 tyX9 tyX9_ok nmX9 rfl 7 (by decide) rfl (by decide +kernel) rfl rfl (Nat.le_of_ble_eq_true rfl) tw305 dX9_init_74 (fun H locs hP hD hS => ?_)
  refine lv_aload_n E.1 E.2.1 dX9_init_77 rfl (lv_at hl 0 rfl) ?_
  refine lv_iconst (v := 0) E.1 E.2.1 dX9_init_78 (by decide) ?_
  refine z_iInt (C := RX9) (T := TX9) (N := 9) (ty := .boolean) (v := 0) E hI hP hD hS iwX9 tyX9 tyX9_ok nmX9 rfl 8 (by decide) rfl (by decide +kernel) rfl rfl (Nat.le_of_ble_eq_true rfl) tw306 dX9_init_79 (fun H locs hP hD hS => ?_)
  have hP : va_P D vwC [(h0, .inr (9, [.ref q1, .ref q15, .ref q29, .ref q56, .ref q62, .ref q63, .ref q64, .int 0, .int 0])), (q1, .inr (6, [.ref q2, .ref q9, .ref q10, .ref q14, .int 0, .int 0])), (q2, .inr (5, [.ref q3, .ref q4, .ref q5, .ref q6, .ref q7, .ref q8, .int 1, .int 0])), (q3, ar cy 40 sg0), (q4, ar cy 40 z0), (q5, ar cy 40 z0), (q6, ar cy 40 z0), (q7, ar cy 40 z0), (q8, ar cy 40 z0), (q9, ar cy 6 z0), (q10, .inr (0, [.ref q11, .ref q12, .ref q13])), (q11, ar cy 10 z0), (q12, ar cy 10 z0), (q13, ar cy 10 z0), (q14, .inr (2, [.int 0, .int 0, .int 0, .int 0, .int 0, .int 0, .int 0])), (q15, .inr (6, [.ref q16, .ref q23, .ref q24, .ref q28, .int 0, .int 0])), (q16, .inr (5, [.ref q17, .ref q18, .ref q19, .ref q20, .ref q21, .ref q22, .int 1, .int 0])), (q17, ar cy 40 sg0), (q18, ar cy 40 z0), (q19, ar cy 40 z0), (q20, ar cy 40 z0), (q21, ar cy 40 z0), (q22, ar cy 40 z0), (q23, ar cy 6 z0), (q24, .inr (0, [.ref q25, .ref q26, .ref q27])), (q25, ar cy 10 z0), (q26, ar cy 10 z0), (q27, ar cy 10 z0), (q28, .inr (2, [.int 0, .int 0, .int 0, .int 0, .int 0, .int 0, .int 0])), (q29, .inr (4, [.ref q30, .ref q31, .ref q35, .ref q36, .ref q40, .ref q44, .ref q49, .int 3, .int 0, .int (-1), .int 0, .int 0, .int 0])), (q30, ar cy 6 z0), (q31, .inr (0, [.ref q32, .ref q33, .ref q34])), (q32, ar cy 10 z0), (q33, ar cy 10 z0), (q34, ar cy 10 z0), (q35, .inr (2, [.int 0, .int 0, .int 0, .int 0, .int 0, .int 0, .int 0])), (q36, .inr (1, [.ref q37, .ref q38, .ref q39, .int 0])), (q37, ar cy 400 z0), (q38, ar cy 400 z0), (q39, ar cy 400 z0), (q40, .inr (7, [.ref q41, .ref q42, .ref q43, .int 0])), (q41, ar cy 400 z0), (q42, ar cy 400 z0), (q43, ar cy 400 z0), (q44, .inr (8, [.ref q45, .ref q46, .ref q47, .ref q48, .int 0])), (q45, ar cy 400 z0), (q46, ar cy 400 z0), (q47, ar cy 400 z0), (q48, ar cy 400 z0), (q49, .inr (5, [.ref q50, .ref q51, .ref q52, .ref q53, .ref q54, .ref q55, .int 1, .int 0])), (q50, ar cy 40 sg0), (q51, ar cy 40 z0), (q52, ar cy 40 z0), (q53, ar cy 40 z0), (q54, ar cy 40 z0), (q55, ar cy 40 z0), (q56, .inr (3, [.ref q57, .ref q58, .ref q59, .ref q60, .ref q61, .int 0, .int 0, .int 0])), (q57, ar cy 96 z0), (q58, ar cy 96 z0), (q59, ar cy 96 z0), (q60, ar cy 193 z0), (q61, ar cy 193 z0), (q62, ar cy 16 z0), (q63, ar cy 7 z0), (q64, ar cy 32 z0)] H := hP
  have hD : va_D A [(h0, .inr (9, [.ref q1, .ref q15, .ref q29, .ref q56, .ref q62, .ref q63, .ref q64, .int 0, .int 0])), (q1, .inr (6, [.ref q2, .ref q9, .ref q10, .ref q14, .int 0, .int 0])), (q2, .inr (5, [.ref q3, .ref q4, .ref q5, .ref q6, .ref q7, .ref q8, .int 1, .int 0])), (q3, ar cy 40 sg0), (q4, ar cy 40 z0), (q5, ar cy 40 z0), (q6, ar cy 40 z0), (q7, ar cy 40 z0), (q8, ar cy 40 z0), (q9, ar cy 6 z0), (q10, .inr (0, [.ref q11, .ref q12, .ref q13])), (q11, ar cy 10 z0), (q12, ar cy 10 z0), (q13, ar cy 10 z0), (q14, .inr (2, [.int 0, .int 0, .int 0, .int 0, .int 0, .int 0, .int 0])), (q15, .inr (6, [.ref q16, .ref q23, .ref q24, .ref q28, .int 0, .int 0])), (q16, .inr (5, [.ref q17, .ref q18, .ref q19, .ref q20, .ref q21, .ref q22, .int 1, .int 0])), (q17, ar cy 40 sg0), (q18, ar cy 40 z0), (q19, ar cy 40 z0), (q20, ar cy 40 z0), (q21, ar cy 40 z0), (q22, ar cy 40 z0), (q23, ar cy 6 z0), (q24, .inr (0, [.ref q25, .ref q26, .ref q27])), (q25, ar cy 10 z0), (q26, ar cy 10 z0), (q27, ar cy 10 z0), (q28, .inr (2, [.int 0, .int 0, .int 0, .int 0, .int 0, .int 0, .int 0])), (q29, .inr (4, [.ref q30, .ref q31, .ref q35, .ref q36, .ref q40, .ref q44, .ref q49, .int 3, .int 0, .int (-1), .int 0, .int 0, .int 0])), (q30, ar cy 6 z0), (q31, .inr (0, [.ref q32, .ref q33, .ref q34])), (q32, ar cy 10 z0), (q33, ar cy 10 z0), (q34, ar cy 10 z0), (q35, .inr (2, [.int 0, .int 0, .int 0, .int 0, .int 0, .int 0, .int 0])), (q36, .inr (1, [.ref q37, .ref q38, .ref q39, .int 0])), (q37, ar cy 400 z0), (q38, ar cy 400 z0), (q39, ar cy 400 z0), (q40, .inr (7, [.ref q41, .ref q42, .ref q43, .int 0])), (q41, ar cy 400 z0), (q42, ar cy 400 z0), (q43, ar cy 400 z0), (q44, .inr (8, [.ref q45, .ref q46, .ref q47, .ref q48, .int 0])), (q45, ar cy 400 z0), (q46, ar cy 400 z0), (q47, ar cy 400 z0), (q48, ar cy 400 z0), (q49, .inr (5, [.ref q50, .ref q51, .ref q52, .ref q53, .ref q54, .ref q55, .int 1, .int 0])), (q50, ar cy 40 sg0), (q51, ar cy 40 z0), (q52, ar cy 40 z0), (q53, ar cy 40 z0), (q54, ar cy 40 z0), (q55, ar cy 40 z0), (q56, .inr (3, [.ref q57, .ref q58, .ref q59, .ref q60, .ref q61, .int 0, .int 0, .int 0])), (q57, ar cy 96 z0), (q58, ar cy 96 z0), (q59, ar cy 96 z0), (q60, ar cy 193 z0), (q61, ar cy 193 z0), (q62, ar cy 16 z0), (q63, ar cy 7 z0), (q64, ar cy 32 z0)] := hD
  exact z_iRet E hr hlk hP hD hS ⟨q1, q2, q3, q4, q5, q6, q7, q8, q9, q10, q11, q12, q13, q14, q15, q16, q17, q18, q19, q20, q21, q22, q23, q24, q25, q26, q27, q28, q29, q30, q31, q32, q33, q34, q35, q36, q37, q38, q39, q40, q41, q42, q43, q44, q45, q46, q47, q48, q49, q50, q51, q52, q53, q54, q55, q56, q57, q58, q59, q60, q61, q62, q63, q64, rfl⟩ dX9_init_82
