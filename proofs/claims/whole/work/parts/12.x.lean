def f_X5_empty (N : Nat) (o0 : Nat) (S : St) : Option (St) := z_lt (z_wr S o0 6 0) fun S1 => z_lt (z_wr S1 o0 7 0) fun S2 => some S2
set_option maxHeartbeats 4000000 in
set_option maxRecDepth 100000 in
theorem c_X5_empty {l : Launch} {G : Cx} {M S S' : St} {N : Nat} {o0 : Nat} (hq : z_inj (gq G)) (hko0 : z_kd o0 = 5) (hxo0 : o0 < 65) (hf : f_X5_empty N o0 S = some S') : z_Ct l yX5_empty cX5_empty 1 none 0 0 G S M [.ref (gq G (o0))] (z_QV G S' M) := by
  refine z_start (by decide +kernel) (Nat.le_of_ble_eq_true rfl) ?_
  intro p e s m below meth c ls E hr hlk hK hP hS hl
  have E : CallFix p m c cX5_empty 1 s _ lw_good RX5 := E
  have hx := E.1
  have hb := E.2.1
  have hown := E.2.2.2.1
  have hts := E.2.2.2.2
  have hl : lv_has ls 1 [(0, .ref (gq G (o0)))] := hl
  unfold f_X5_empty at hf
  refine lv_aload_n hx hb dX5_empty_0 rfl (lv_at hl 0 rfl) ?_
  refine lv_iconst (v := 0) hx hb dX5_empty_1 (by decide) ?_
  refine x_putI (C := RX5) (T := TX5) (N := 8) (ci := 5) (k := 6) (o := o0) (v := 0) (ty := .int) E hK hq hP hS iwX5 tyX5 tyX5_ok nmX5 rfl rfl (by decide) (by decide) rfl hko0 hxo0 rfl (tyX5_ok 6 (by decide)) ⟨rfl, rfl⟩ tw45 dX5_empty_2 (fun H locs hP hS => ?_)
  obtain ⟨S1, hf, hP⟩ := z_ltX hf hP
  refine lv_aload_n hx hb dX5_empty_5 rfl (lv_at hl 0 rfl) ?_
  refine lv_iconst (v := 0) hx hb dX5_empty_6 (by decide) ?_
  refine x_putI (C := RX5) (T := TX5) (N := 8) (ci := 5) (k := 7) (o := o0) (v := 0) (ty := .int) E hK hq hP hS iwX5 tyX5 tyX5_ok nmX5 rfl rfl (by decide) (by decide) rfl hko0 hxo0 rfl (tyX5_ok 7 (by decide)) ⟨rfl, rfl⟩ tw47 dX5_empty_7 (fun H locs hP hS => ?_)
  obtain ⟨S2, hf, hP⟩ := z_ltX hf hP
  exact x_retv hx hb hr hlk hf hP hS dX5_empty_10
theorem cv_X5_empty : z_cv yX5_empty cX5_empty 1 none RX5 0 := ⟨⟨tw449, tw450⟩, tw451, tw3, by decide +kernel⟩
def f_X5_nameVariable (N : Nat) (o0 : Nat) (a1 : Int32) (a2 : Int32) (S : St) : Option (St) := z_bv (f_X9_put N ((z_rfS o0 1)) (a1) ((a2 - 97)) S) fun S1 => some S1
set_option maxHeartbeats 4000000 in
set_option maxRecDepth 100000 in
theorem c_X5_nameVariable {l : Launch} {G : Cx} {M S S' : St} {N : Nat} {o0 : Nat} {a1 : Int32} {a2 : Int32} (hq : z_inj (gq G)) (hko0 : z_kd o0 = 5) (hxo0 : o0 < 65) (hf : f_X5_nameVariable N o0 a1 a2 S = some S') : z_Ct l yX5_nameVariable cX5_nameVariable 3 none 1 22 G S M [.ref (gq G (o0)), .int (a1), .int (a2)] (z_QV G S' M) := by
  refine z_start (by decide +kernel) (Nat.le_of_ble_eq_true rfl) ?_
  intro p e s m below meth c ls E hr hlk hK hP hS hl
  have E : CallFix p m c cX5_nameVariable 3 s _ lw_good RX5 := E
  have hx := E.1
  have hb := E.2.1
  have hown := E.2.2.2.1
  have hts := E.2.2.2.2
  have hl : lv_has ls 3 [(0, .ref (gq G (o0))), (1, .int (a1)), (2, .int (a2))] := hl
  unfold f_X5_nameVariable at hf
  refine lv_aload_n hx hb dX5_nameVariable_0 rfl (lv_at hl 0 rfl) ?_
  refine z_getR (C := RX5) (T := TX5) (N := 8) (ci := 5) (k := 1) (o := o0) (t := (z_rfS o0 1)) E hK hP iwX5 rfl rfl (by decide) (by decide) rfl hko0 (z_rf_S (by rw [hko0]; decide)) tw40 dX5_nameVariable_1 ?_
  refine lv_iload_n hx hb dX5_nameVariable_4 rfl (lv_at hl 1 rfl) ?_
  refine lv_iload_n hx hb dX5_nameVariable_5 rfl (lv_at hl 2 rfl) ?_
  refine lv_bipush (v := 97) hx hb dX5_nameVariable_6 (by decide) ?_
  refine lv_isub hx hb dX5_nameVariable_8 ?_
  obtain ⟨S1, hz2, hf⟩ := z_bv_some hf
  refine z_cvo (z_runSN (host := RX9) E hK hP hS (c_X9_put hq (z_rk5_1 hko0) (z_rl5_1 hko0) hz2) cs_X9_put (by decide +kernel) rfl ⟨Nat.le_of_ble_eq_true rfl, Nat.le_of_ble_eq_true rfl⟩ ⟨Nat.le_refl 0, Nat.le_refl 0⟩ hl.1 (Nat.le_of_ble_eq_true rfl) rfl dX5_nameVariable_9) hS (fun H locs hP hS => ?_)
  exact x_retv hx hb hr hlk hf hP hS dX5_nameVariable_12
theorem cv_X5_nameVariable : z_cv yX5_nameVariable cX5_nameVariable 3 none RX5 2 := ⟨⟨tw453, tw454⟩, tw455, tw3, by decide +kernel⟩
def b_X3_writeInto_69 (N : Nat) (k6 : Int32 → St → Option (St)) (v2 : Int32) (S : St) : Option (St) := k6 ((v2 + 1)) S
def b_X3_writeInto_6 (N : Nat) (k6 : Int32 → St → Option (St)) (v2 : Int32) (S : St) : Option (St) := if (S 56 7) ≤ v2 then (some S) else (z_bd (f_X9_at N (57) (v2) S) fun r5 S4 => z_bd (f_X9_at N (58) (v2) S4) fun r8 S7 => z_bd (f_X9_at N (59) (v2) S7) fun r11 S10 => if r11 = 118 then (z_bv (f_X5_nameVariable N (2) (r8) (r5) S10) fun S16 => b_X3_writeInto_69 N k6 (v2) S16) else (z_bv (f_X5_add N (2) (r5) (r8) (r11) S10) fun S14 => b_X3_writeInto_69 N k6 (v2) S14))
def f_X3_writeInto_6 (N : Nat) : Nat → Int32 → St → Option (St)
  | 0 => fun _ _ => none
  | n + 1 => b_X3_writeInto_6 N (f_X3_writeInto_6 N n)
def f_X3_writeInto (N : Nat) (S : St) : Option (St) := z_bv (f_X5_empty N (2) S) fun S1 => f_X3_writeInto_6 N N (0) S1
set_option maxHeartbeats 4000000 in
set_option maxRecDepth 100000 in
theorem c_X3_writeInto {l : Launch} {G : Cx} {M S S' : St} {N : Nat} (hq : z_inj (gq G)) (hf : f_X3_writeInto N S = some S') : z_Ct l yX3_writeInto cX3_writeInto 6 none 4 88 G S M [.ref (gq G (56)), .ref (gq G (2))] (z_QV G S' M) := by
  refine z_start (by decide +kernel) (Nat.le_of_ble_eq_true rfl) ?_
  intro p e s m below meth c ls E hr hlk hK hP hS hl
  have E : CallFix p m c cX3_writeInto 6 s _ lw_good RX3 := E
  have hx := E.1
  have hb := E.2.1
  have hown := E.2.2.2.1
  have hts := E.2.2.2.2
  have hJ69 : ∀ (k6 : Int32 → St → Option (St)) (hk6 : ∀ (v2 : Int32) (S : St) (H : Heap) (locs : List Loc) (ls : Array Slot), k6 v2 S = some S' → z_P G S M H → z_S G s.heap H locs → lv_has ls 6 [(0, .ref (gq G (56))), (1, .ref (gq G (2))), (2, .int (v2))] → W p l e (z_rm 4 88) s m ([.ref (gq G (56)), .ref (gq G (2))] : List Value).toArray below meth c H locs 0 0 (MQ below (z_QV G S' M) ([.ref (gq G (56)), .ref (gq G (2))] : List Value).toArray s 0 0 (z_Aq (gq G))) (F0 m 6 ls [])), ∀ (v2 : Int32) (S : St) (H : Heap) (locs : List Loc) (ls : Array Slot), b_X3_writeInto_69 N k6 v2 S = some S' → z_P G S M H → z_S G s.heap H locs → lv_has ls 6 [(0, .ref (gq G (56))), (1, .ref (gq G (2))), (2, .int (v2))] → W p l e (z_rm 4 88) s m ([.ref (gq G (56)), .ref (gq G (2))] : List Value).toArray below meth c H locs 0 0 (MQ below (z_QV G S' M) ([.ref (gq G (56)), .ref (gq G (2))] : List Value).toArray s 0 0 (z_Aq (gq G))) (F0 m 69 ls []) := by
    intro k6 hk6 v2 S H locs ls hf hP hS hl
    unfold b_X3_writeInto_69 at hf
    refine lv_iinc (v := (v2 + 1)) (lv' := [(2, .int ((v2 + 1))), (0, .ref (gq G (56))), (1, .ref (gq G (2)))]) hx hb dX3_writeInto_69 hl (k := 2) rfl rfl (by decide) rfl (fun ls hl => ?_)
    refine lv_goto (tgt := 6) hx hb dX3_writeInto_72 (by decide) ?_
    exact hk6 ((v2 + 1)) S _ _ _ hf hP hS (lv_sub hl [1, 2, 0] rfl)
  have hB6 : ∀ (k6 : Int32 → St → Option (St)) (hk6 : ∀ (v2 : Int32) (S : St) (H : Heap) (locs : List Loc) (ls : Array Slot), k6 v2 S = some S' → z_P G S M H → z_S G s.heap H locs → lv_has ls 6 [(0, .ref (gq G (56))), (1, .ref (gq G (2))), (2, .int (v2))] → W p l e (z_rm 4 88) s m ([.ref (gq G (56)), .ref (gq G (2))] : List Value).toArray below meth c H locs 0 0 (MQ below (z_QV G S' M) ([.ref (gq G (56)), .ref (gq G (2))] : List Value).toArray s 0 0 (z_Aq (gq G))) (F0 m 6 ls [])), ∀ (v2 : Int32) (S : St) (H : Heap) (locs : List Loc) (ls : Array Slot), b_X3_writeInto_6 N k6 v2 S = some S' → z_P G S M H → z_S G s.heap H locs → lv_has ls 6 [(0, .ref (gq G (56))), (1, .ref (gq G (2))), (2, .int (v2))] → W p l e (z_rm 4 88) s m ([.ref (gq G (56)), .ref (gq G (2))] : List Value).toArray below meth c H locs 0 0 (MQ below (z_QV G S' M) ([.ref (gq G (56)), .ref (gq G (2))] : List Value).toArray s 0 0 (z_Aq (gq G))) (F0 m 6 ls []) := by
    intro k6 hk6 v2 S H locs ls hf hP hS hl
    unfold b_X3_writeInto_6 at hf
    refine lv_iload_n hx hb dX3_writeInto_6 rfl (lv_at hl 2 rfl) ?_
    refine lv_aload_n hx hb dX3_writeInto_7 rfl (lv_at hl 0 rfl) ?_
    refine x_getI (C := RX3) (T := TX3) (N := 8) (ci := 3) (k := 7) (o := 56) E hK hP iwX3 rfl rfl (by decide) (by decide) rfl rfl (by decide) tw279 dX3_writeInto_8 ?_
    refine lv_icmp_ge (tgt := 75) hx hb dX3_writeInto_11 (by decide) (fun hc3 => ?_) (fun hc3 => ?_)
    · replace hf := z_ifp hf hc3
      exact x_retv hx hb hr hlk hf hP hS dX3_writeInto_75
    · replace hf := z_ifn hf hc3
      refine lv_aload_n hx hb dX3_writeInto_14 rfl (lv_at hl 0 rfl) ?_
      refine z_getR (C := RX3) (T := TX3) (N := 8) (ci := 3) (k := 0) (o := 56) (t := 57) E hK hP iwX3 rfl rfl (by decide) (by decide) rfl rfl rfl tw272 dX3_writeInto_15 ?_
      refine lv_iload_n hx hb dX3_writeInto_18 rfl (lv_at hl 2 rfl) ?_
      obtain ⟨r5, S4, hz6, hf⟩ := z_bd_some hf
      refine z_ci (z_runSN (host := RX9) E hK hP hS (c_X9_at hq rfl (by decide) hz6) cs_X9_at (by decide +kernel) rfl ⟨Nat.le_of_ble_eq_true rfl, Nat.le_of_ble_eq_true rfl⟩ ⟨Nat.le_refl 0, Nat.le_refl 0⟩ hl.1 (Nat.le_of_ble_eq_true rfl) rfl dX3_writeInto_19) hS (fun H locs hP hS => ?_)
      refine lv_istore_n (lv' := [(3, .int (r5)), (0, .ref (gq G (56))), (1, .ref (gq G (2))), (2, .int (v2))]) hx hb dX3_writeInto_22 rfl hl (by decide) rfl (fun ls hl => ?_)
      refine lv_aload_n hx hb dX3_writeInto_23 rfl (lv_at hl 1 rfl) ?_
      refine z_getR (C := RX3) (T := TX3) (N := 8) (ci := 3) (k := 1) (o := 56) (t := 58) E hK hP iwX3 rfl rfl (by decide) (by decide) rfl rfl rfl tw273 dX3_writeInto_24 ?_
      refine lv_iload_n hx hb dX3_writeInto_27 rfl (lv_at hl 3 rfl) ?_
      obtain ⟨r8, S7, hz9, hf⟩ := z_bd_some hf
      refine z_ci (z_runSN (host := RX9) E hK hP hS (c_X9_at hq rfl (by decide) hz9) cs_X9_at (by decide +kernel) rfl ⟨Nat.le_of_ble_eq_true rfl, Nat.le_of_ble_eq_true rfl⟩ ⟨Nat.le_refl 0, Nat.le_refl 0⟩ hl.1 (Nat.le_of_ble_eq_true rfl) rfl dX3_writeInto_28) hS (fun H locs hP hS => ?_)
      refine lv_istore (lv' := [(4, .int (r8)), (3, .int (r5)), (0, .ref (gq G (56))), (1, .ref (gq G (2))), (2, .int (v2))]) hx hb dX3_writeInto_31 hl (by decide) rfl (fun ls hl => ?_)
      refine lv_aload_n hx hb dX3_writeInto_33 rfl (lv_at hl 2 rfl) ?_
      refine z_getR (C := RX3) (T := TX3) (N := 8) (ci := 3) (k := 2) (o := 56) (t := 59) E hK hP iwX3 rfl rfl (by decide) (by decide) rfl rfl rfl tw274 dX3_writeInto_34 ?_
      refine lv_iload_n hx hb dX3_writeInto_37 rfl (lv_at hl 4 rfl) ?_
      obtain ⟨r11, S10, hz12, hf⟩ := z_bd_some hf
      refine z_ci (z_runSN (host := RX9) E hK hP hS (c_X9_at hq rfl (by decide) hz12) cs_X9_at (by decide +kernel) rfl ⟨Nat.le_of_ble_eq_true rfl, Nat.le_of_ble_eq_true rfl⟩ ⟨Nat.le_refl 0, Nat.le_refl 0⟩ hl.1 (Nat.le_of_ble_eq_true rfl) rfl dX3_writeInto_38) hS (fun H locs hP hS => ?_)
      refine lv_istore (lv' := [(5, .int (r11)), (4, .int (r8)), (3, .int (r5)), (0, .ref (gq G (56))), (1, .ref (gq G (2))), (2, .int (v2))]) hx hb dX3_writeInto_41 hl (by decide) rfl (fun ls hl => ?_)
      refine lv_iload hx hb dX3_writeInto_43 (lv_at hl 0 rfl) ?_
      refine lv_bipush (v := 118) hx hb dX3_writeInto_45 (by decide) ?_
      refine lv_icmp_ne (tgt := 60) hx hb dX3_writeInto_47 (by decide) (fun hc13 => ?_) (fun hc13 => ?_)
      · replace hf := z_ifn hf hc13
        refine lv_aload_n hx hb dX3_writeInto_60 rfl (lv_at hl 4 rfl) ?_
        refine lv_iload_n hx hb dX3_writeInto_61 rfl (lv_at hl 2 rfl) ?_
        refine lv_iload hx hb dX3_writeInto_62 (lv_at hl 1 rfl) ?_
        refine lv_iload hx hb dX3_writeInto_64 (lv_at hl 0 rfl) ?_
        obtain ⟨S14, hz15, hf⟩ := z_bv_some hf
        refine z_cvo (z_runV (o := 2) (ci := 5) E hK hP hS (c_X5_add hq rfl (by decide) hz15) cv_X5_add tw457 rfl (by decide) rfl rfl ⟨Nat.le_of_ble_eq_true rfl, Nat.le_of_ble_eq_true rfl⟩ ⟨Nat.le_refl 0, Nat.le_refl 0⟩ hl.1 (Nat.le_of_ble_eq_true rfl) rfl dX3_writeInto_66) hS (fun H locs hP hS => ?_)
        exact hJ69 k6 hk6 (v2) S14 _ _ _ hf hP hS (lv_sub hl [3, 4, 5] rfl)
      · replace hf := z_ifp hf hc13
        refine lv_aload_n hx hb dX3_writeInto_50 rfl (lv_at hl 4 rfl) ?_
        refine lv_iload hx hb dX3_writeInto_51 (lv_at hl 1 rfl) ?_
        refine lv_iload_n hx hb dX3_writeInto_53 rfl (lv_at hl 2 rfl) ?_
        obtain ⟨S16, hz17, hf⟩ := z_bv_some hf
        refine z_cvo (z_runV (o := 2) (ci := 5) E hK hP hS (c_X5_nameVariable hq rfl (by decide) hz17) cv_X5_nameVariable tw452 rfl (by decide) rfl rfl ⟨Nat.le_of_ble_eq_true rfl, Nat.le_of_ble_eq_true rfl⟩ ⟨Nat.le_refl 0, Nat.le_refl 0⟩ hl.1 (Nat.le_of_ble_eq_true rfl) rfl dX3_writeInto_54) hS (fun H locs hP hS => ?_)
        refine lv_goto (tgt := 69) hx hb dX3_writeInto_57 (by decide) ?_
        exact hJ69 k6 hk6 (v2) S16 _ _ _ hf hP hS (lv_sub hl [3, 4, 5] rfl)
  have hL6 : ∀ (n : Nat), ∀ (v2 : Int32) (S : St) (H : Heap) (locs : List Loc) (ls : Array Slot), f_X3_writeInto_6 N n v2 S = some S' → z_P G S M H → z_S G s.heap H locs → lv_has ls 6 [(0, .ref (gq G (56))), (1, .ref (gq G (2))), (2, .int (v2))] → W p l e (z_rm 4 88) s m ([.ref (gq G (56)), .ref (gq G (2))] : List Value).toArray below meth c H locs 0 0 (MQ below (z_QV G S' M) ([.ref (gq G (56)), .ref (gq G (2))] : List Value).toArray s 0 0 (z_Aq (gq G))) (F0 m 6 ls []) := by
    intro  n
    induction n with
    | zero => intro _ _ _ _ _ hf; cases hf
    | succ n ih => exact hB6  _  ih
  have hl : lv_has ls 6 [(0, .ref (gq G (56))), (1, .ref (gq G (2)))] := hl
  unfold f_X3_writeInto at hf
  refine lv_aload_n hx hb dX3_writeInto_0 rfl (lv_at hl 1 rfl) ?_
  obtain ⟨S1, hz2, hf⟩ := z_bv_some hf
  refine z_cvo (z_runV (o := 2) (ci := 5) E hK hP hS (c_X5_empty hq rfl (by decide) hz2) cv_X5_empty tw448 rfl (by decide) rfl rfl ⟨Nat.le_of_ble_eq_true rfl, Nat.le_of_ble_eq_true rfl⟩ ⟨Nat.le_refl 0, Nat.le_refl 0⟩ hl.1 (Nat.le_of_ble_eq_true rfl) rfl dX3_writeInto_1) hS (fun H locs hP hS => ?_)
  refine lv_iconst (v := 0) hx hb dX3_writeInto_4 (by decide) ?_
  refine lv_istore_n (lv' := [(2, .int (0)), (0, .ref (gq G (56))), (1, .ref (gq G (2)))]) hx hb dX3_writeInto_5 rfl hl (by decide) rfl (fun ls hl => ?_)
  exact hL6 N (0) S1 _ _ _ hf hP hS (lv_sub hl [1, 2, 0] rfl)
theorem cv_X3_writeInto : z_cv yX3_writeInto cX3_writeInto 6 none RX3 1 := ⟨⟨tw445, tw446⟩, tw447, tw10, by decide +kernel⟩
def f_X4_takeUp (N : Nat) (S : St) : Option (St) := z_lt (z_wr S 29 6 1) fun S1 => z_bv (f_X9_copyRow N (9) (30) S1) fun S2 => z_bv (f_X0_copyFrom N (31) (10) S2) fun S4 => some S4
set_option maxHeartbeats 4000000 in
set_option maxRecDepth 100000 in
theorem c_X4_takeUp {l : Launch} {G : Cx} {M S S' : St} {N : Nat} (hq : z_inj (gq G)) (hf : f_X4_takeUp N S = some S') : z_Ct l yX4_takeUp cX4_takeUp 2 none 3 63 G S M [.ref (gq G (29)), .ref (gq G (1))] (z_QV G S' M) := by
  refine z_start (by decide +kernel) (Nat.le_of_ble_eq_true rfl) ?_
  intro p e s m below meth c ls E hr hlk hK hP hS hl
  have E : CallFix p m c cX4_takeUp 2 s _ lw_good RX4 := E
  have hx := E.1
  have hb := E.2.1
  have hown := E.2.2.2.1
  have hts := E.2.2.2.2
  have hl : lv_has ls 2 [(0, .ref (gq G (29))), (1, .ref (gq G (1)))] := hl
  unfold f_X4_takeUp at hf
  refine lv_aload_n hx hb dX4_takeUp_0 rfl (lv_at hl 0 rfl) ?_
  refine lv_aload_n hx hb dX4_takeUp_1 rfl (lv_at hl 1 rfl) ?_
  refine z_getR (C := RX6) (T := TX6) (N := 6) (ci := 6) (k := 0) (o := 1) (t := 2) E hK hP iwX6 rfl rfl (by decide) (by decide) rfl rfl rfl tw123 dX4_takeUp_2 ?_
  refine x_putP E hK hq hP hS tw232 dX4_takeUp_5 (fun H locs hP hS => ?_)
  obtain ⟨S1, hf, hP⟩ := z_ltX hf hP
  refine lv_aload_n hx hb dX4_takeUp_8 rfl (lv_at hl 1 rfl) ?_
  refine z_getR (C := RX6) (T := TX6) (N := 6) (ci := 6) (k := 1) (o := 1) (t := 9) E hK hP iwX6 rfl rfl (by decide) (by decide) rfl rfl rfl tw126 dX4_takeUp_9 ?_
  refine lv_aload_n hx hb dX4_takeUp_12 rfl (lv_at hl 0 rfl) ?_
  refine z_getR (C := RX4) (T := TX4) (N := 13) (ci := 4) (k := 0) (o := 29) (t := 30) E hK hP iwX4 rfl rfl (by decide) (by decide) rfl rfl rfl tw222 dX4_takeUp_13 ?_
  obtain ⟨S2, hz3, hf⟩ := z_bv_some hf
  refine z_cvo (z_runSN (host := RX9) E hK hP hS (c_X9_copyRow hq rfl (by decide) rfl (by decide) hz3) cs_X9_copyRow (by decide +kernel) rfl ⟨Nat.le_of_ble_eq_true rfl, Nat.le_of_ble_eq_true rfl⟩ ⟨Nat.le_refl 0, Nat.le_refl 0⟩ hl.1 (Nat.le_of_ble_eq_true rfl) rfl dX4_takeUp_16) hS (fun H locs hP hS => ?_)
  refine lv_aload_n hx hb dX4_takeUp_19 rfl (lv_at hl 0 rfl) ?_
  refine z_getR (C := RX4) (T := TX4) (N := 13) (ci := 4) (k := 1) (o := 29) (t := 31) E hK hP iwX4 rfl rfl (by decide) (by decide) rfl rfl rfl tw225 dX4_takeUp_20 ?_
  refine lv_aload_n hx hb dX4_takeUp_23 rfl (lv_at hl 1 rfl) ?_
  refine z_getR (C := RX6) (T := TX6) (N := 6) (ci := 6) (k := 2) (o := 1) (t := 10) E hK hP iwX6 rfl rfl (by decide) (by decide) rfl rfl rfl tw129 dX4_takeUp_24 ?_
  obtain ⟨S4, hz5, hf⟩ := z_bv_some hf
  refine z_cvo (z_runV (o := 31) (ci := 0) E hK hP hS (c_X0_copyFrom hq rfl (by decide) rfl (by decide) hz5) cv_X0_copyFrom tw529 rfl (by decide) rfl rfl ⟨Nat.le_of_ble_eq_true rfl, Nat.le_of_ble_eq_true rfl⟩ ⟨Nat.le_refl 0, Nat.le_refl 0⟩ hl.1 (Nat.le_of_ble_eq_true rfl) rfl dX4_takeUp_27) hS (fun H locs hP hS => ?_)
  exact x_retv hx hb hr hlk hf hP hS dX4_takeUp_30
theorem cv_X4_takeUp : z_cv yX4_takeUp cX4_takeUp 2 none RX4 1 := ⟨⟨tw517, tw518⟩, tw519, tw6, by decide +kernel⟩
def f_X4_begin (N : Nat) (a1 : Int32) (a2 : Int32) (S : St) : Option (St) := z_lt (z_wr S 29 7 0) fun S1 => z_lt (z_wr S1 29 8 a1) fun S2 => z_lt (z_wr S2 29 9 a2) fun S3 => some S3
set_option maxHeartbeats 4000000 in
set_option maxRecDepth 100000 in
theorem c_X4_begin {l : Launch} {G : Cx} {M S S' : St} {N : Nat} {a1 : Int32} {a2 : Int32} (hq : z_inj (gq G)) (hf : f_X4_begin N a1 a2 S = some S') : z_Ct l yX4_begin cX4_begin 3 none 0 0 G S M [.ref (gq G (29)), .int (a1), .int (a2)] (z_QV G S' M) := by
  refine z_start (by decide +kernel) (Nat.le_of_ble_eq_true rfl) ?_
  intro p e s m below meth c ls E hr hlk hK hP hS hl
  have E : CallFix p m c cX4_begin 3 s _ lw_good RX4 := E
  have hx := E.1
  have hb := E.2.1
  have hown := E.2.2.2.1
  have hts := E.2.2.2.2
  have hl : lv_has ls 3 [(0, .ref (gq G (29))), (1, .int (a1)), (2, .int (a2))] := hl
  unfold f_X4_begin at hf
  refine lv_aload_n hx hb dX4_begin_0 rfl (lv_at hl 0 rfl) ?_
  refine lv_iconst (v := 0) hx hb dX4_begin_1 (by decide) ?_
  refine x_putI (C := RX4) (T := TX4) (N := 13) (ci := 4) (k := 7) (o := 29) (v := 0) (ty := .int) E hK hq hP hS iwX4 tyX4 tyX4_ok nmX4 rfl rfl (by decide) (by decide) rfl rfl (by decide) rfl (tyX4_ok 7 (by decide)) ⟨rfl, rfl⟩ tw233 dX4_begin_2 (fun H locs hP hS => ?_)
  obtain ⟨S1, hf, hP⟩ := z_ltX hf hP
  refine lv_aload_n hx hb dX4_begin_5 rfl (lv_at hl 0 rfl) ?_
  refine lv_iload_n hx hb dX4_begin_6 rfl (lv_at hl 1 rfl) ?_
  refine x_putI (C := RX4) (T := TX4) (N := 13) (ci := 4) (k := 8) (o := 29) (v := a1) (ty := .int) E hK hq hP hS iwX4 tyX4 tyX4_ok nmX4 rfl rfl (by decide) (by decide) rfl rfl (by decide) rfl (tyX4_ok 8 (by decide)) ⟨rfl, rfl⟩ tw234 dX4_begin_7 (fun H locs hP hS => ?_)
  obtain ⟨S2, hf, hP⟩ := z_ltX hf hP
  refine lv_aload_n hx hb dX4_begin_10 rfl (lv_at hl 0 rfl) ?_
  refine lv_iload_n hx hb dX4_begin_11 rfl (lv_at hl 2 rfl) ?_
  refine x_putI (C := RX4) (T := TX4) (N := 13) (ci := 4) (k := 9) (o := 29) (v := a2) (ty := .int) E hK hq hP hS iwX4 tyX4 tyX4_ok nmX4 rfl rfl (by decide) (by decide) rfl rfl (by decide) rfl (tyX4_ok 9 (by decide)) ⟨rfl, rfl⟩ tw235 dX4_begin_12 (fun H locs hP hS => ?_)
  obtain ⟨S3, hf, hP⟩ := z_ltX hf hP
  exact x_retv hx hb hr hlk hf hP hS dX4_begin_15
theorem cv_X4_begin : z_cv yX4_begin cX4_begin 3 none RX4 2 := ⟨⟨tw560, twp9⟩, tw561, tw6, by decide +kernel⟩
def f_X4_fail (N : Nat) (a1 : Int32) (S : St) : Option (St) := z_lt (z_wr S 29 7 2) fun S1 => z_lt (z_wr S1 29 12 1) fun S2 => z_lt (z_wr S2 35 5 0) fun S3 => z_lt (z_wr S3 35 6 a1) fun S4 => some S4
set_option maxHeartbeats 4000000 in
set_option maxRecDepth 100000 in
theorem c_X4_fail {l : Launch} {G : Cx} {M S S' : St} {N : Nat} {a1 : Int32} (hq : z_inj (gq G)) (hf : f_X4_fail N a1 S = some S') : z_Ct l yX4_fail cX4_fail 2 none 0 0 G S M [.ref (gq G (29)), .int (a1)] (z_QV G S' M) := by
  refine z_start (by decide +kernel) (Nat.le_of_ble_eq_true rfl) ?_
  intro p e s m below meth c ls E hr hlk hK hP hS hl
  have E : CallFix p m c cX4_fail 2 s _ lw_good RX4 := E
  have hx := E.1
  have hb := E.2.1
  have hown := E.2.2.2.1
  have hts := E.2.2.2.2
  have hl : lv_has ls 2 [(0, .ref (gq G (29))), (1, .int (a1))] := hl
  unfold f_X4_fail at hf
  refine lv_aload_n hx hb dX4_fail_0 rfl (lv_at hl 0 rfl) ?_
  refine lv_iconst (v := 2) hx hb dX4_fail_1 (by decide) ?_
  refine x_putI (C := RX4) (T := TX4) (N := 13) (ci := 4) (k := 7) (o := 29) (v := 2) (ty := .int) E hK hq hP hS iwX4 tyX4 tyX4_ok nmX4 rfl rfl (by decide) (by decide) rfl rfl (by decide) rfl (tyX4_ok 7 (by decide)) ⟨rfl, rfl⟩ tw233 dX4_fail_2 (fun H locs hP hS => ?_)
  obtain ⟨S1, hf, hP⟩ := z_ltX hf hP
  refine lv_aload_n hx hb dX4_fail_5 rfl (lv_at hl 0 rfl) ?_
  refine lv_iconst (v := 1) hx hb dX4_fail_6 (by decide) ?_
  refine x_putI (C := RX4) (T := TX4) (N := 13) (ci := 4) (k := 12) (o := 29) (v := 1) (ty := .boolean) E hK hq hP hS iwX4 tyX4 tyX4_ok nmX4 rfl rfl (by decide) (by decide) rfl rfl (by decide) rfl (tyX4_ok 12 (by decide)) ⟨rfl, rfl⟩ tw238 dX4_fail_7 (fun H locs hP hS => ?_)
  obtain ⟨S2, hf, hP⟩ := z_ltX hf hP
  refine lv_aload_n hx hb dX4_fail_10 rfl (lv_at hl 0 rfl) ?_
  refine z_getR (C := RX4) (T := TX4) (N := 13) (ci := 4) (k := 2) (o := 29) (t := 35) E hK hP iwX4 rfl rfl (by decide) (by decide) rfl rfl rfl tw228 dX4_fail_11 ?_
  refine lv_iconst (v := 0) hx hb dX4_fail_14 (by decide) ?_
  refine x_putI (C := RX2) (T := TX2) (N := 7) (ci := 2) (k := 5) (o := 35) (v := 0) (ty := .int) E hK hq hP hS iwX2 tyX2 tyX2_ok nmX2 rfl rfl (by decide) (by decide) rfl rfl (by decide) rfl (tyX2_ok 5 (by decide)) ⟨rfl, rfl⟩ tw103 dX4_fail_15 (fun H locs hP hS => ?_)
  obtain ⟨S3, hf, hP⟩ := z_ltX hf hP
  refine lv_aload_n hx hb dX4_fail_18 rfl (lv_at hl 0 rfl) ?_
  refine z_getR (C := RX4) (T := TX4) (N := 13) (ci := 4) (k := 2) (o := 29) (t := 35) E hK hP iwX4 rfl rfl (by decide) (by decide) rfl rfl rfl tw228 dX4_fail_19 ?_
  refine lv_iload_n hx hb dX4_fail_22 rfl (lv_at hl 1 rfl) ?_
  refine x_putI (C := RX2) (T := TX2) (N := 7) (ci := 2) (k := 6) (o := 35) (v := a1) (ty := .int) E hK hq hP hS iwX2 tyX2 tyX2_ok nmX2 rfl rfl (by decide) (by decide) rfl rfl (by decide) rfl (tyX2_ok 6 (by decide)) ⟨rfl, rfl⟩ tw106 dX4_fail_23 (fun H locs hP hS => ?_)
  obtain ⟨S4, hf, hP⟩ := z_ltX hf hP
  exact x_retv hx hb hr hlk hf hP hS dX4_fail_26
theorem cv_X4_fail : z_cv yX4_fail cX4_fail 2 none RX4 1 := ⟨⟨tw569, twp11⟩, tw570, tw6, by decide +kernel⟩
def f_X4_give (N : Nat) (a1 : Int32) (S : St) : Option (St) := z_lt (z_wr S 29 7 1) fun S1 => z_lt (z_wr S1 29 10 a1) fun S2 => some S2
set_option maxHeartbeats 4000000 in
set_option maxRecDepth 100000 in
theorem c_X4_give {l : Launch} {G : Cx} {M S S' : St} {N : Nat} {a1 : Int32} (hq : z_inj (gq G)) (hf : f_X4_give N a1 S = some S') : z_Ct l yX4_give cX4_give 2 none 0 0 G S M [.ref (gq G (29)), .int (a1)] (z_QV G S' M) := by
  refine z_start (by decide +kernel) (Nat.le_of_ble_eq_true rfl) ?_
  intro p e s m below meth c ls E hr hlk hK hP hS hl
  have E : CallFix p m c cX4_give 2 s _ lw_good RX4 := E
  have hx := E.1
  have hb := E.2.1
  have hown := E.2.2.2.1
  have hts := E.2.2.2.2
  have hl : lv_has ls 2 [(0, .ref (gq G (29))), (1, .int (a1))] := hl
  unfold f_X4_give at hf
  refine lv_aload_n hx hb dX4_give_0 rfl (lv_at hl 0 rfl) ?_
  refine lv_iconst (v := 1) hx hb dX4_give_1 (by decide) ?_
  refine x_putI (C := RX4) (T := TX4) (N := 13) (ci := 4) (k := 7) (o := 29) (v := 1) (ty := .int) E hK hq hP hS iwX4 tyX4 tyX4_ok nmX4 rfl rfl (by decide) (by decide) rfl rfl (by decide) rfl (tyX4_ok 7 (by decide)) ⟨rfl, rfl⟩ tw233 dX4_give_2 (fun H locs hP hS => ?_)
  obtain ⟨S1, hf, hP⟩ := z_ltX hf hP
  refine lv_aload_n hx hb dX4_give_5 rfl (lv_at hl 0 rfl) ?_
  refine lv_iload_n hx hb dX4_give_6 rfl (lv_at hl 1 rfl) ?_
  refine x_putI (C := RX4) (T := TX4) (N := 13) (ci := 4) (k := 10) (o := 29) (v := a1) (ty := .int) E hK hq hP hS iwX4 tyX4 tyX4_ok nmX4 rfl rfl (by decide) (by decide) rfl rfl (by decide) rfl (tyX4_ok 10 (by decide)) ⟨rfl, rfl⟩ tw236 dX4_give_7 (fun H locs hP hS => ?_)
  obtain ⟨S2, hf, hP⟩ := z_ltX hf hP
  exact x_retv hx hb hr hlk hf hP hS dX4_give_10
theorem cv_X4_give : z_cv yX4_give cX4_give 2 none RX4 1 := ⟨⟨tw575, twp12⟩, tw576, tw6, by decide +kernel⟩
def f_X4_valueOfVariable (N : Nat) (a1 : Int32) (a2 : Int32) (S : St) : Option (Int32 × St) := z_bd (f_X1_innermost N (a1) (a2) S) fun r2 S1 => if r2 = (-1) then (z_bd (f_X9_at N (30) (a1) S1) fun r9 S8 => some (r9, S8)) else (z_bd (f_X1_valueIn N (r2) S1) fun r6 S5 => some (r6, S5))
set_option maxHeartbeats 4000000 in
set_option maxRecDepth 100000 in
theorem c_X4_valueOfVariable {l : Launch} {G : Cx} {M S S' : St} {N : Nat} {a1 : Int32} {a2 : Int32} {r : Int32} (hq : z_inj (gq G)) (hf : f_X4_valueOfVariable N a1 a2 S = some (r, S')) : z_Ct l yX4_valueOfVariable cX4_valueOfVariable 4 (some .int) 2 45 G S M [.ref (gq G (29)), .int (a1), .int (a2)] (z_QI G S' M r) := by
  refine z_start (by decide +kernel) (Nat.le_of_ble_eq_true rfl) ?_
  intro p e s m below meth c ls E hr hlk hK hP hS hl
  have E : CallFix p m c cX4_valueOfVariable 4 s _ lw_good RX4 := E
  have hx := E.1
  have hb := E.2.1
  have hown := E.2.2.2.1
  have hts := E.2.2.2.2
  have hl : lv_has ls 4 [(0, .ref (gq G (29))), (1, .int (a1)), (2, .int (a2))] := hl
  unfold f_X4_valueOfVariable at hf
  refine lv_aload_n hx hb dX4_valueOfVariable_0 rfl (lv_at hl 0 rfl) ?_
  refine z_getR (C := RX4) (T := TX4) (N := 13) (ci := 4) (k := 3) (o := 29) (t := 36) E hK hP iwX4 rfl rfl (by decide) (by decide) rfl rfl rfl tw229 dX4_valueOfVariable_1 ?_
  refine lv_iload_n hx hb dX4_valueOfVariable_4 rfl (lv_at hl 1 rfl) ?_
  refine lv_iload_n hx hb dX4_valueOfVariable_5 rfl (lv_at hl 2 rfl) ?_
  obtain ⟨r2, S1, hz3, hf⟩ := z_bd_some hf
  refine z_ci (z_runV (o := 36) (ci := 1) E hK hP hS (c_X1_innermost hq hz3) cv_X1_innermost tw586 rfl (by decide) rfl rfl ⟨Nat.le_of_ble_eq_true rfl, Nat.le_of_ble_eq_true rfl⟩ ⟨Nat.le_refl 0, Nat.le_refl 0⟩ hl.1 (Nat.le_of_ble_eq_true rfl) rfl dX4_valueOfVariable_6) hS (fun H locs hP hS => ?_)
  refine lv_istore_n (lv' := [(3, .int (r2)), (0, .ref (gq G (29))), (1, .int (a1)), (2, .int (a2))]) hx hb dX4_valueOfVariable_9 rfl hl (by decide) rfl (fun ls hl => ?_)
  refine lv_iload_n hx hb dX4_valueOfVariable_10 rfl (lv_at hl 0 rfl) ?_
  refine lv_iconst (v := (-1)) hx hb dX4_valueOfVariable_11 (by decide) ?_
  refine lv_icmp_ne (tgt := 26) hx hb dX4_valueOfVariable_12 (by decide) (fun hc4 => ?_) (fun hc4 => ?_)
  · replace hf := z_ifn hf hc4
    refine lv_aload_n hx hb dX4_valueOfVariable_26 rfl (lv_at hl 1 rfl) ?_
    refine z_getR (C := RX4) (T := TX4) (N := 13) (ci := 4) (k := 3) (o := 29) (t := 36) E hK hP iwX4 rfl rfl (by decide) (by decide) rfl rfl rfl tw229 dX4_valueOfVariable_27 ?_
    refine lv_iload_n hx hb dX4_valueOfVariable_30 rfl (lv_at hl 0 rfl) ?_
    obtain ⟨r6, S5, hz7, hf⟩ := z_bd_some hf
    refine z_ci (z_runV (o := 36) (ci := 1) E hK hP hS (c_X1_valueIn hq hz7) cv_X1_valueIn tw592 rfl (by decide) rfl rfl ⟨Nat.le_of_ble_eq_true rfl, Nat.le_of_ble_eq_true rfl⟩ ⟨Nat.le_refl 0, Nat.le_refl 0⟩ hl.1 (Nat.le_of_ble_eq_true rfl) rfl dX4_valueOfVariable_31) hS (fun H locs hP hS => ?_)
    exact x_reti hx hb hr hlk hf hP hS dX4_valueOfVariable_34
  · replace hf := z_ifp hf hc4
    refine lv_aload_n hx hb dX4_valueOfVariable_15 rfl (lv_at hl 1 rfl) ?_
    refine z_getR (C := RX4) (T := TX4) (N := 13) (ci := 4) (k := 0) (o := 29) (t := 30) E hK hP iwX4 rfl rfl (by decide) (by decide) rfl rfl rfl tw222 dX4_valueOfVariable_16 ?_
    refine lv_iload_n hx hb dX4_valueOfVariable_19 rfl (lv_at hl 2 rfl) ?_
    obtain ⟨r9, S8, hz10, hf⟩ := z_bd_some hf
    refine z_ci (z_runSN (host := RX9) E hK hP hS (c_X9_at hq rfl (by decide) hz10) cs_X9_at (by decide +kernel) rfl ⟨Nat.le_of_ble_eq_true rfl, Nat.le_of_ble_eq_true rfl⟩ ⟨Nat.le_refl 0, Nat.le_refl 0⟩ hl.1 (Nat.le_of_ble_eq_true rfl) rfl dX4_valueOfVariable_20) hS (fun H locs hP hS => ?_)
    refine lv_goto (tgt := 34) hx hb dX4_valueOfVariable_23 (by decide) ?_
    exact x_reti hx hb hr hlk hf hP hS dX4_valueOfVariable_34
theorem cv_X4_valueOfVariable : z_cv yX4_valueOfVariable cX4_valueOfVariable 4 (some .int) RX4 2 := ⟨⟨tw584, twp13⟩, tw585, tw6, by decide +kernel⟩
def f_X5_firstOf (N : Nat) (o0 : Nat) (a1 : Int32) (S : St) : Option (Int32 × St) := some ((a1 + 1), S)
set_option maxHeartbeats 4000000 in
set_option maxRecDepth 100000 in
theorem c_X5_firstOf {l : Launch} {G : Cx} {M S S' : St} {N : Nat} {o0 : Nat} {a1 : Int32} {r : Int32} (hq : z_inj (gq G)) (hko0 : z_kd o0 = 5) (hxo0 : o0 < 65) (hf : f_X5_firstOf N o0 a1 S = some (r, S')) : z_Ct l yX5_firstOf cX5_firstOf 2 (some .int) 0 0 G S M [.ref (gq G (o0)), .int (a1)] (z_QI G S' M r) := by
  refine z_start (by decide +kernel) (Nat.le_of_ble_eq_true rfl) ?_
  intro p e s m below meth c ls E hr hlk hK hP hS hl
  have E : CallFix p m c cX5_firstOf 2 s _ lw_good RX5 := E
  have hx := E.1
  have hb := E.2.1
  have hown := E.2.2.2.1
  have hts := E.2.2.2.2
  have hl : lv_has ls 2 [(0, .ref (gq G (o0))), (1, .int (a1))] := hl
  unfold f_X5_firstOf at hf
  refine lv_iload_n hx hb dX5_firstOf_0 rfl (lv_at hl 1 rfl) ?_
  refine lv_iconst (v := 1) hx hb dX5_firstOf_1 (by decide) ?_
  refine lv_iadd hx hb dX5_firstOf_2 ?_
  exact x_reti hx hb hr hlk hf hP hS dX5_firstOf_3
theorem cv_X5_firstOf : z_cv yX5_firstOf cX5_firstOf 2 (some .int) RX5 1 := ⟨⟨tw607, tw608⟩, tw609, tw3, by decide +kernel⟩
def f_X5_variableOf (N : Nat) (o0 : Nat) (a1 : Int32) (S : St) : Option (Int32 × St) := z_bd (f_X9_at N ((z_rfS o0 1)) (a1) S) fun r2 S1 => some (r2, S1)
set_option maxHeartbeats 4000000 in
set_option maxRecDepth 100000 in
theorem c_X5_variableOf {l : Launch} {G : Cx} {M S S' : St} {N : Nat} {o0 : Nat} {a1 : Int32} {r : Int32} (hq : z_inj (gq G)) (hko0 : z_kd o0 = 5) (hxo0 : o0 < 65) (hf : f_X5_variableOf N o0 a1 S = some (r, S')) : z_Ct l yX5_variableOf cX5_variableOf 2 (some .int) 1 21 G S M [.ref (gq G (o0)), .int (a1)] (z_QI G S' M r) := by
  refine z_start (by decide +kernel) (Nat.le_of_ble_eq_true rfl) ?_
  intro p e s m below meth c ls E hr hlk hK hP hS hl
  have E : CallFix p m c cX5_variableOf 2 s _ lw_good RX5 := E
  have hx := E.1
  have hb := E.2.1
  have hown := E.2.2.2.1
  have hts := E.2.2.2.2
  have hl : lv_has ls 2 [(0, .ref (gq G (o0))), (1, .int (a1))] := hl
  unfold f_X5_variableOf at hf
  refine lv_aload_n hx hb dX5_variableOf_0 rfl (lv_at hl 0 rfl) ?_
  refine z_getR (C := RX5) (T := TX5) (N := 8) (ci := 5) (k := 1) (o := o0) (t := (z_rfS o0 1)) E hK hP iwX5 rfl rfl (by decide) (by decide) rfl hko0 (z_rf_S (by rw [hko0]; decide)) tw40 dX5_variableOf_1 ?_
  refine lv_iload_n hx hb dX5_variableOf_4 rfl (lv_at hl 1 rfl) ?_
  obtain ⟨r2, S1, hz3, hf⟩ := z_bd_some hf
  refine z_ci (z_runSN (host := RX9) E hK hP hS (c_X9_at hq (z_rk5_1 hko0) (z_rl5_1 hko0) hz3) cs_X9_at (by decide +kernel) rfl ⟨Nat.le_of_ble_eq_true rfl, Nat.le_of_ble_eq_true rfl⟩ ⟨Nat.le_refl 0, Nat.le_refl 0⟩ hl.1 (Nat.le_of_ble_eq_true rfl) rfl dX5_variableOf_5) hS (fun H locs hP hS => ?_)
  exact x_reti hx hb hr hlk hf hP hS dX5_variableOf_8
theorem cv_X5_variableOf : z_cv yX5_variableOf cX5_variableOf 2 (some .int) RX5 1 := ⟨⟨tw579, tw580⟩, tw581, tw3, by decide +kernel⟩
def f_X7_add (N : Nat) (a1 : Int32) (a2 : Int32) (a3 : Int32) (S : St) : Option (Int32 × St) := z_bv (f_X9_put N (41) ((S 40 3)) (a1) S) fun S1 => z_bv (f_X9_put N (42) ((S1 40 3)) (a2) S1) fun S3 => z_bv (f_X9_put N (43) ((S3 40 3)) (a3) S3) fun S5 => z_lt (z_wr S5 40 3 ((S5 40 3) + 1)) fun S7 => some (((10000 + (S7 40 3)) - 1), S7)
set_option maxHeartbeats 4000000 in
set_option maxRecDepth 100000 in
theorem c_X7_add {l : Launch} {G : Cx} {M S S' : St} {N : Nat} {a1 : Int32} {a2 : Int32} {a3 : Int32} {r : Int32} (hq : z_inj (gq G)) (hf : f_X7_add N a1 a2 a3 S = some (r, S')) : z_Ct l yX7_add cX7_add 4 (some .int) 1 22 G S M [.ref (gq G (40)), .int (a1), .int (a2), .int (a3)] (z_QI G S' M r) := by
  refine z_start (by decide +kernel) (Nat.le_of_ble_eq_true rfl) ?_
  intro p e s m below meth c ls E hr hlk hK hP hS hl
  have E : CallFix p m c cX7_add 4 s _ lw_good RX7 := E
  have hx := E.1
  have hb := E.2.1
  have hown := E.2.2.2.1
  have hts := E.2.2.2.2
  have hl : lv_has ls 4 [(0, .ref (gq G (40))), (1, .int (a1)), (2, .int (a2)), (3, .int (a3))] := hl
  unfold f_X7_add at hf
  refine lv_aload_n hx hb dX7_add_0 rfl (lv_at hl 0 rfl) ?_
  refine z_getR (C := RX7) (T := TX7) (N := 4) (ci := 7) (k := 0) (o := 40) (t := 41) E hK hP iwX7 rfl rfl (by decide) (by decide) rfl rfl rfl tw185 dX7_add_1 ?_
  refine lv_aload_n hx hb dX7_add_4 rfl (lv_at hl 0 rfl) ?_
  refine x_getI (C := RX7) (T := TX7) (N := 4) (ci := 7) (k := 3) (o := 40) E hK hP iwX7 rfl rfl (by decide) (by decide) rfl rfl (by decide) tw188 dX7_add_5 ?_
  refine lv_iload_n hx hb dX7_add_8 rfl (lv_at hl 1 rfl) ?_
  obtain ⟨S1, hz2, hf⟩ := z_bv_some hf
  refine z_cvo (z_runSN (host := RX9) E hK hP hS (c_X9_put hq rfl (by decide) hz2) cs_X9_put (by decide +kernel) rfl ⟨Nat.le_of_ble_eq_true rfl, Nat.le_of_ble_eq_true rfl⟩ ⟨Nat.le_refl 0, Nat.le_refl 0⟩ hl.1 (Nat.le_of_ble_eq_true rfl) rfl dX7_add_9) hS (fun H locs hP hS => ?_)
  refine lv_aload_n hx hb dX7_add_12 rfl (lv_at hl 0 rfl) ?_
  refine z_getR (C := RX7) (T := TX7) (N := 4) (ci := 7) (k := 1) (o := 40) (t := 42) E hK hP iwX7 rfl rfl (by decide) (by decide) rfl rfl rfl tw186 dX7_add_13 ?_
  refine lv_aload_n hx hb dX7_add_16 rfl (lv_at hl 0 rfl) ?_
  refine x_getI (C := RX7) (T := TX7) (N := 4) (ci := 7) (k := 3) (o := 40) E hK hP iwX7 rfl rfl (by decide) (by decide) rfl rfl (by decide) tw188 dX7_add_17 ?_
  refine lv_iload_n hx hb dX7_add_20 rfl (lv_at hl 2 rfl) ?_
  obtain ⟨S3, hz4, hf⟩ := z_bv_some hf
  refine z_cvo (z_runSN (host := RX9) E hK hP hS (c_X9_put hq rfl (by decide) hz4) cs_X9_put (by decide +kernel) rfl ⟨Nat.le_of_ble_eq_true rfl, Nat.le_of_ble_eq_true rfl⟩ ⟨Nat.le_refl 0, Nat.le_refl 0⟩ hl.1 (Nat.le_of_ble_eq_true rfl) rfl dX7_add_21) hS (fun H locs hP hS => ?_)
  refine lv_aload_n hx hb dX7_add_24 rfl (lv_at hl 0 rfl) ?_
  refine z_getR (C := RX7) (T := TX7) (N := 4) (ci := 7) (k := 2) (o := 40) (t := 43) E hK hP iwX7 rfl rfl (by decide) (by decide) rfl rfl rfl tw187 dX7_add_25 ?_
  refine lv_aload_n hx hb dX7_add_28 rfl (lv_at hl 0 rfl) ?_
  refine x_getI (C := RX7) (T := TX7) (N := 4) (ci := 7) (k := 3) (o := 40) E hK hP iwX7 rfl rfl (by decide) (by decide) rfl rfl (by decide) tw188 dX7_add_29 ?_
  refine lv_iload_n hx hb dX7_add_32 rfl (lv_at hl 3 rfl) ?_
  obtain ⟨S5, hz6, hf⟩ := z_bv_some hf
  refine z_cvo (z_runSN (host := RX9) E hK hP hS (c_X9_put hq rfl (by decide) hz6) cs_X9_put (by decide +kernel) rfl ⟨Nat.le_of_ble_eq_true rfl, Nat.le_of_ble_eq_true rfl⟩ ⟨Nat.le_refl 0, Nat.le_refl 0⟩ hl.1 (Nat.le_of_ble_eq_true rfl) rfl dX7_add_33) hS (fun H locs hP hS => ?_)
  refine lv_aload_n hx hb dX7_add_36 rfl (lv_at hl 0 rfl) ?_
  refine lv_dup hx hb dX7_add_37 rfl ?_
  refine x_getI (C := RX7) (T := TX7) (N := 4) (ci := 7) (k := 3) (o := 40) E hK hP iwX7 rfl rfl (by decide) (by decide) rfl rfl (by decide) tw188 dX7_add_38 ?_
  refine lv_iconst (v := 1) hx hb dX7_add_41 (by decide) ?_
  refine lv_iadd hx hb dX7_add_42 ?_
  refine x_putI (C := RX7) (T := TX7) (N := 4) (ci := 7) (k := 3) (o := 40) (v := ((S5 40 3) + 1)) (ty := .int) E hK hq hP hS iwX7 tyX7 tyX7_ok nmX7 rfl rfl (by decide) (by decide) rfl rfl (by decide) rfl (tyX7_ok 3 (by decide)) ⟨rfl, rfl⟩ tw188 dX7_add_43 (fun H locs hP hS => ?_)
  obtain ⟨S7, hf, hP⟩ := z_ltX hf hP
  refine lv_sipush (v := 10000) hx hb dX7_add_46 (by decide) ?_
  refine lv_aload_n hx hb dX7_add_49 rfl (lv_at hl 0 rfl) ?_
  refine x_getI (C := RX7) (T := TX7) (N := 4) (ci := 7) (k := 3) (o := 40) E hK hP iwX7 rfl rfl (by decide) (by decide) rfl rfl (by decide) tw188 dX7_add_50 ?_
  refine lv_iadd hx hb dX7_add_53 ?_
  refine lv_iconst (v := 1) hx hb dX7_add_54 (by decide) ?_
  refine lv_isub hx hb dX7_add_55 ?_
  exact x_reti hx hb hr hlk hf hP hS dX7_add_56
theorem cv_X7_add : z_cv yX7_add cX7_add 4 (some .int) RX7 3 := ⟨⟨tw597, tw598⟩, tw599, tw8, by decide +kernel⟩
def f_X8_push (N : Nat) (a1 : Int32) (a2 : Int32) (a3 : Int32) (a4 : Int32) (S : St) : Option (St) := z_bv (f_X9_put N (45) ((S 44 4)) (a1) S) fun S1 => z_bv (f_X9_put N (46) ((S1 44 4)) (a2) S1) fun S3 => z_bv (f_X9_put N (47) ((S3 44 4)) (a3) S3) fun S5 => z_bv (f_X9_put N (48) ((S5 44 4)) (a4) S5) fun S7 => z_lt (z_wr S7 44 4 ((S7 44 4) + 1)) fun S9 => some S9
set_option maxHeartbeats 4000000 in
set_option maxRecDepth 100000 in
theorem c_X8_push {l : Launch} {G : Cx} {M S S' : St} {N : Nat} {a1 : Int32} {a2 : Int32} {a3 : Int32} {a4 : Int32} (hq : z_inj (gq G)) (hf : f_X8_push N a1 a2 a3 a4 S = some S') : z_Ct l yX8_push cX8_push 5 none 1 22 G S M [.ref (gq G (44)), .int (a1), .int (a2), .int (a3), .int (a4)] (z_QV G S' M) := by
  refine z_start (by decide +kernel) (Nat.le_of_ble_eq_true rfl) ?_
  intro p e s m below meth c ls E hr hlk hK hP hS hl
  have E : CallFix p m c cX8_push 5 s _ lw_good RX8 := E
  have hx := E.1
  have hb := E.2.1
  have hown := E.2.2.2.1
  have hts := E.2.2.2.2
  have hl : lv_has ls 5 [(0, .ref (gq G (44))), (1, .int (a1)), (2, .int (a2)), (3, .int (a3)), (4, .int (a4))] := hl
  unfold f_X8_push at hf
  refine lv_aload_n hx hb dX8_push_0 rfl (lv_at hl 0 rfl) ?_
  refine z_getR (C := RX8) (T := TX8) (N := 5) (ci := 8) (k := 0) (o := 44) (t := 45) E hK hP iwX8 rfl rfl (by decide) (by decide) rfl rfl rfl tw204 dX8_push_1 ?_
  refine lv_aload_n hx hb dX8_push_4 rfl (lv_at hl 0 rfl) ?_
  refine x_getI (C := RX8) (T := TX8) (N := 5) (ci := 8) (k := 4) (o := 44) E hK hP iwX8 rfl rfl (by decide) (by decide) rfl rfl (by decide) tw208 dX8_push_5 ?_
  refine lv_iload_n hx hb dX8_push_8 rfl (lv_at hl 1 rfl) ?_
  obtain ⟨S1, hz2, hf⟩ := z_bv_some hf
  refine z_cvo (z_runSN (host := RX9) E hK hP hS (c_X9_put hq rfl (by decide) hz2) cs_X9_put (by decide +kernel) rfl ⟨Nat.le_of_ble_eq_true rfl, Nat.le_of_ble_eq_true rfl⟩ ⟨Nat.le_refl 0, Nat.le_refl 0⟩ hl.1 (Nat.le_of_ble_eq_true rfl) rfl dX8_push_9) hS (fun H locs hP hS => ?_)
  refine lv_aload_n hx hb dX8_push_12 rfl (lv_at hl 0 rfl) ?_
  refine z_getR (C := RX8) (T := TX8) (N := 5) (ci := 8) (k := 1) (o := 44) (t := 46) E hK hP iwX8 rfl rfl (by decide) (by decide) rfl rfl rfl tw205 dX8_push_13 ?_
  refine lv_aload_n hx hb dX8_push_16 rfl (lv_at hl 0 rfl) ?_
  refine x_getI (C := RX8) (T := TX8) (N := 5) (ci := 8) (k := 4) (o := 44) E hK hP iwX8 rfl rfl (by decide) (by decide) rfl rfl (by decide) tw208 dX8_push_17 ?_
  refine lv_iload_n hx hb dX8_push_20 rfl (lv_at hl 2 rfl) ?_
  obtain ⟨S3, hz4, hf⟩ := z_bv_some hf
  refine z_cvo (z_runSN (host := RX9) E hK hP hS (c_X9_put hq rfl (by decide) hz4) cs_X9_put (by decide +kernel) rfl ⟨Nat.le_of_ble_eq_true rfl, Nat.le_of_ble_eq_true rfl⟩ ⟨Nat.le_refl 0, Nat.le_refl 0⟩ hl.1 (Nat.le_of_ble_eq_true rfl) rfl dX8_push_21) hS (fun H locs hP hS => ?_)
  refine lv_aload_n hx hb dX8_push_24 rfl (lv_at hl 0 rfl) ?_
  refine z_getR (C := RX8) (T := TX8) (N := 5) (ci := 8) (k := 2) (o := 44) (t := 47) E hK hP iwX8 rfl rfl (by decide) (by decide) rfl rfl rfl tw206 dX8_push_25 ?_
  refine lv_aload_n hx hb dX8_push_28 rfl (lv_at hl 0 rfl) ?_
  refine x_getI (C := RX8) (T := TX8) (N := 5) (ci := 8) (k := 4) (o := 44) E hK hP iwX8 rfl rfl (by decide) (by decide) rfl rfl (by decide) tw208 dX8_push_29 ?_
  refine lv_iload_n hx hb dX8_push_32 rfl (lv_at hl 3 rfl) ?_
  obtain ⟨S5, hz6, hf⟩ := z_bv_some hf
  refine z_cvo (z_runSN (host := RX9) E hK hP hS (c_X9_put hq rfl (by decide) hz6) cs_X9_put (by decide +kernel) rfl ⟨Nat.le_of_ble_eq_true rfl, Nat.le_of_ble_eq_true rfl⟩ ⟨Nat.le_refl 0, Nat.le_refl 0⟩ hl.1 (Nat.le_of_ble_eq_true rfl) rfl dX8_push_33) hS (fun H locs hP hS => ?_)
  refine lv_aload_n hx hb dX8_push_36 rfl (lv_at hl 0 rfl) ?_
  refine z_getR (C := RX8) (T := TX8) (N := 5) (ci := 8) (k := 3) (o := 44) (t := 48) E hK hP iwX8 rfl rfl (by decide) (by decide) rfl rfl rfl tw207 dX8_push_37 ?_
  refine lv_aload_n hx hb dX8_push_40 rfl (lv_at hl 0 rfl) ?_
  refine x_getI (C := RX8) (T := TX8) (N := 5) (ci := 8) (k := 4) (o := 44) E hK hP iwX8 rfl rfl (by decide) (by decide) rfl rfl (by decide) tw208 dX8_push_41 ?_
  refine lv_iload hx hb dX8_push_44 (lv_at hl 4 rfl) ?_
  obtain ⟨S7, hz8, hf⟩ := z_bv_some hf
  refine z_cvo (z_runSN (host := RX9) E hK hP hS (c_X9_put hq rfl (by decide) hz8) cs_X9_put (by decide +kernel) rfl ⟨Nat.le_of_ble_eq_true rfl, Nat.le_of_ble_eq_true rfl⟩ ⟨Nat.le_refl 0, Nat.le_refl 0⟩ hl.1 (Nat.le_of_ble_eq_true rfl) rfl dX8_push_46) hS (fun H locs hP hS => ?_)
  refine lv_aload_n hx hb dX8_push_49 rfl (lv_at hl 0 rfl) ?_
  refine lv_dup hx hb dX8_push_50 rfl ?_
  refine x_getI (C := RX8) (T := TX8) (N := 5) (ci := 8) (k := 4) (o := 44) E hK hP iwX8 rfl rfl (by decide) (by decide) rfl rfl (by decide) tw208 dX8_push_51 ?_
  refine lv_iconst (v := 1) hx hb dX8_push_54 (by decide) ?_
  refine lv_iadd hx hb dX8_push_55 ?_
  refine x_putI (C := RX8) (T := TX8) (N := 5) (ci := 8) (k := 4) (o := 44) (v := ((S7 44 4) + 1)) (ty := .int) E hK hq hP hS iwX8 tyX8 tyX8_ok nmX8 rfl rfl (by decide) (by decide) rfl rfl (by decide) rfl (tyX8_ok 4 (by decide)) ⟨rfl, rfl⟩ tw208 dX8_push_56 (fun H locs hP hS => ?_)
  obtain ⟨S9, hf, hP⟩ := z_ltX hf hP
  exact x_retv hx hb hr hlk hf hP hS dX8_push_59
theorem cv_X8_push : z_cv yX8_push cX8_push 5 none RX8 4 := ⟨⟨tw602, tw603⟩, tw604, tw9, by decide +kernel⟩
def f_X4_beginExpression (N : Nat) (S : St) : Option (St) := if (S 35 2) < 400 then (z_lt (z_wr S 35 2 ((S 35 2) + 1)) fun S2 => z_bd (f_X5_signOf N ((z_pr S2)) ((S2 29 8)) S2) fun r4 S3 => z_bd (f_X3_isDigit N (r4) S3) fun r7 S6 => if r7 = 0 then (z_bd (f_X3_isName N (r4) S6) fun r11 S10 => if r11 = 0 then (if r4 = 70 then (z_bd (f_X7_add N (4) ((S10 29 8)) ((S10 29 9)) S10) fun r23 S22 => z_bv (f_X4_give N (r23) S22) fun S25 => some S25) else (z_bv (f_X8_push N ((S10 29 8)) ((S10 29 9)) (0) (0) S10) fun S15 => z_bd (f_X5_firstOf N ((z_pr S15)) ((S15 29 8)) S15) fun r18 S17 => z_bv (f_X4_begin N (r18) ((S17 29 9)) S17) fun S20 => some S20)) else (z_bd (f_X5_variableOf N ((z_pr S10)) ((S10 29 8)) S10) fun r28 S27 => z_bd (f_X4_valueOfVariable N (r28) ((S27 29 9)) S27) fun r31 S30 => z_bv (f_X4_give N (r31) S30) fun S33 => some S33)) else (z_bv (f_X4_give N ((r4 - 48)) S6) fun S35 => some S35)) else (z_bv (f_X4_fail N (6) S) fun S37 => some S37)
set_option maxHeartbeats 4000000 in
set_option maxRecDepth 100000 in
theorem c_X4_beginExpression {l : Launch} {G : Cx} {M S S' : St} {N : Nat} (hq : z_inj (gq G)) (hf : f_X4_beginExpression N S = some S') : z_Ct l yX4_beginExpression cX4_beginExpression 2 none 3 68 G S M [.ref (gq G (29))] (z_QV G S' M) := by
  refine z_start (by decide +kernel) (Nat.le_of_ble_eq_true rfl) ?_
  intro p e s m below meth c ls E hr hlk hK hP hS hl
  have E : CallFix p m c cX4_beginExpression 2 s _ lw_good RX4 := E
  have hx := E.1
  have hb := E.2.1
  have hown := E.2.2.2.1
  have hts := E.2.2.2.2
  have hl : lv_has ls 2 [(0, .ref (gq G (29)))] := hl
  unfold f_X4_beginExpression at hf
  refine lv_aload_n hx hb dX4_beginExpression_0 rfl (lv_at hl 0 rfl) ?_
  refine z_getR (C := RX4) (T := TX4) (N := 13) (ci := 4) (k := 2) (o := 29) (t := 35) E hK hP iwX4 rfl rfl (by decide) (by decide) rfl rfl rfl tw228 dX4_beginExpression_1 ?_
  refine x_getI (C := RX2) (T := TX2) (N := 7) (ci := 2) (k := 2) (o := 35) E hK hP iwX2 rfl rfl (by decide) (by decide) rfl rfl (by decide) tw96 dX4_beginExpression_4 ?_
  refine lv_sipush (v := 400) hx hb dX4_beginExpression_7 (by decide) ?_
  refine lv_icmp_lt (tgt := 20) hx hb dX4_beginExpression_10 (by decide) (fun hc1 => ?_) (fun hc1 => ?_)
  · replace hf := z_ifp hf hc1
    refine lv_aload_n hx hb dX4_beginExpression_20 rfl (lv_at hl 0 rfl) ?_
    refine z_getR (C := RX4) (T := TX4) (N := 13) (ci := 4) (k := 2) (o := 29) (t := 35) E hK hP iwX4 rfl rfl (by decide) (by decide) rfl rfl rfl tw228 dX4_beginExpression_21 ?_
    refine lv_dup hx hb dX4_beginExpression_24 rfl ?_
    refine x_getI (C := RX2) (T := TX2) (N := 7) (ci := 2) (k := 2) (o := 35) E hK hP iwX2 rfl rfl (by decide) (by decide) rfl rfl (by decide) tw96 dX4_beginExpression_25 ?_
    refine lv_iconst (v := 1) hx hb dX4_beginExpression_28 (by decide) ?_
    refine lv_iadd hx hb dX4_beginExpression_29 ?_
    refine x_putI (C := RX2) (T := TX2) (N := 7) (ci := 2) (k := 2) (o := 35) (v := ((S 35 2) + 1)) (ty := .int) E hK hq hP hS iwX2 tyX2 tyX2_ok nmX2 rfl rfl (by decide) (by decide) rfl rfl (by decide) rfl (tyX2_ok 2 (by decide)) ⟨rfl, rfl⟩ tw96 dX4_beginExpression_30 (fun H locs hP hS => ?_)
    obtain ⟨S2, hf, hP⟩ := z_ltX hf hP
    refine lv_aload_n hx hb dX4_beginExpression_33 rfl (lv_at hl 0 rfl) ?_
    refine z_getR (C := RX4) (T := TX4) (N := 13) (ci := 4) (k := 6) (o := 29) (t := (z_pr S2)) E hK hP iwX4 rfl rfl (by decide) (by decide) rfl rfl z_rf_pr tw232 dX4_beginExpression_34 ?_
    refine lv_aload_n hx hb dX4_beginExpression_37 rfl (lv_at hl 0 rfl) ?_
    refine x_getI (C := RX4) (T := TX4) (N := 13) (ci := 4) (k := 8) (o := 29) E hK hP iwX4 rfl rfl (by decide) (by decide) rfl rfl (by decide) tw234 dX4_beginExpression_38 ?_
    obtain ⟨r4, S3, hz5, hf⟩ := z_bd_some hf
    refine z_ci (z_runV (o := (z_pr S2)) (ci := 5) E hK hP hS (c_X5_signOf hq z_pr_kd z_pr_65 hz5) cv_X5_signOf tw571 z_pr_kd (by decide) rfl rfl ⟨Nat.le_of_ble_eq_true rfl, Nat.le_of_ble_eq_true rfl⟩ ⟨Nat.le_refl 0, Nat.le_refl 0⟩ hl.1 (Nat.le_of_ble_eq_true rfl) rfl dX4_beginExpression_41) hS (fun H locs hP hS => ?_)
    refine lv_istore_n (lv' := [(1, .int (r4)), (0, .ref (gq G (29)))]) hx hb dX4_beginExpression_44 rfl hl (by decide) rfl (fun ls hl => ?_)
    refine lv_iload_n hx hb dX4_beginExpression_45 rfl (lv_at hl 0 rfl) ?_
    obtain ⟨r7, S6, hz8, hf⟩ := z_bd_some hf
    refine z_ci (z_runS E hK hP hS (c_X3_isDigit hq hz8) cs_X3_isDigit tw572 rfl ⟨Nat.le_of_ble_eq_true rfl, Nat.le_of_ble_eq_true rfl⟩ ⟨Nat.le_refl 0, Nat.le_refl 0⟩ hl.1 (Nat.le_of_ble_eq_true rfl) rfl dX4_beginExpression_46) hS (fun H locs hP hS => ?_)
    refine lv_if_eq (tgt := 63) hx hb dX4_beginExpression_49 (by decide) (fun hc9 => ?_) (fun hc9 => ?_)
    · replace hf := z_ifp hf hc9
      refine lv_iload_n hx hb dX4_beginExpression_63 rfl (lv_at hl 0 rfl) ?_
      obtain ⟨r11, S10, hz12, hf⟩ := z_bd_some hf
      refine z_ci (z_runS E hK hP hS (c_X3_isName hq hz12) cs_X3_isName tw577 rfl ⟨Nat.le_of_ble_eq_true rfl, Nat.le_of_ble_eq_true rfl⟩ ⟨Nat.le_refl 0, Nat.le_refl 0⟩ hl.1 (Nat.le_of_ble_eq_true rfl) rfl dX4_beginExpression_64) hS (fun H locs hP hS => ?_)
      refine lv_if_eq (tgt := 96) hx hb dX4_beginExpression_67 (by decide) (fun hc13 => ?_) (fun hc13 => ?_)
      · replace hf := z_ifp hf hc13
        refine lv_iload_n hx hb dX4_beginExpression_96 rfl (lv_at hl 0 rfl) ?_
        refine lv_bipush (v := 70) hx hb dX4_beginExpression_97 (by decide) ?_
        refine lv_icmp_ne (tgt := 125) hx hb dX4_beginExpression_99 (by decide) (fun hc14 => ?_) (fun hc14 => ?_)
        · replace hf := z_ifn hf hc14
          refine lv_aload_n hx hb dX4_beginExpression_125 rfl (lv_at hl 1 rfl) ?_
          refine z_getR (C := RX4) (T := TX4) (N := 13) (ci := 4) (k := 5) (o := 29) (t := 44) E hK hP iwX4 rfl rfl (by decide) (by decide) rfl rfl rfl tw231 dX4_beginExpression_126 ?_
          refine lv_aload_n hx hb dX4_beginExpression_129 rfl (lv_at hl 1 rfl) ?_
          refine x_getI (C := RX4) (T := TX4) (N := 13) (ci := 4) (k := 8) (o := 29) E hK hP iwX4 rfl rfl (by decide) (by decide) rfl rfl (by decide) tw234 dX4_beginExpression_130 ?_
          refine lv_aload_n hx hb dX4_beginExpression_133 rfl (lv_at hl 1 rfl) ?_
          refine x_getI (C := RX4) (T := TX4) (N := 13) (ci := 4) (k := 9) (o := 29) E hK hP iwX4 rfl rfl (by decide) (by decide) rfl rfl (by decide) tw235 dX4_beginExpression_134 ?_
          refine lv_iconst (v := 0) hx hb dX4_beginExpression_137 (by decide) ?_
          refine lv_iconst (v := 0) hx hb dX4_beginExpression_138 (by decide) ?_
          obtain ⟨S15, hz16, hf⟩ := z_bv_some hf
          refine z_cvo (z_runV (o := 44) (ci := 8) E hK hP hS (c_X8_push hq hz16) cv_X8_push tw601 rfl (by decide) rfl rfl ⟨Nat.le_of_ble_eq_true rfl, Nat.le_of_ble_eq_true rfl⟩ ⟨Nat.le_refl 0, Nat.le_refl 0⟩ hl.1 (Nat.le_of_ble_eq_true rfl) rfl dX4_beginExpression_139) hS (fun H locs hP hS => ?_)
          refine lv_aload_n hx hb dX4_beginExpression_142 rfl (lv_at hl 1 rfl) ?_
          refine lv_aload_n hx hb dX4_beginExpression_143 rfl (lv_at hl 1 rfl) ?_
          refine z_getR (C := RX4) (T := TX4) (N := 13) (ci := 4) (k := 6) (o := 29) (t := (z_pr S15)) E hK hP iwX4 rfl rfl (by decide) (by decide) rfl rfl z_rf_pr tw232 dX4_beginExpression_144 ?_
          refine lv_aload_n hx hb dX4_beginExpression_147 rfl (lv_at hl 1 rfl) ?_
          refine x_getI (C := RX4) (T := TX4) (N := 13) (ci := 4) (k := 8) (o := 29) E hK hP iwX4 rfl rfl (by decide) (by decide) rfl rfl (by decide) tw234 dX4_beginExpression_148 ?_
          obtain ⟨r18, S17, hz19, hf⟩ := z_bd_some hf
          refine z_ci (z_runV (o := (z_pr S15)) (ci := 5) E hK hP hS (c_X5_firstOf hq z_pr_kd z_pr_65 hz19) cv_X5_firstOf tw606 z_pr_kd (by decide) rfl rfl ⟨Nat.le_of_ble_eq_true rfl, Nat.le_of_ble_eq_true rfl⟩ ⟨Nat.le_refl 0, Nat.le_refl 0⟩ hl.1 (Nat.le_of_ble_eq_true rfl) rfl dX4_beginExpression_151) hS (fun H locs hP hS => ?_)
          refine lv_aload_n hx hb dX4_beginExpression_154 rfl (lv_at hl 1 rfl) ?_
          refine x_getI (C := RX4) (T := TX4) (N := 13) (ci := 4) (k := 9) (o := 29) E hK hP iwX4 rfl rfl (by decide) (by decide) rfl rfl (by decide) tw235 dX4_beginExpression_155 ?_
          obtain ⟨S20, hz21, hf⟩ := z_bv_some hf
          refine z_cvo (z_runV (o := 29) (ci := 4) E hK hP hS (c_X4_begin hq hz21) cv_X4_begin tw558 rfl (by decide) rfl rfl ⟨Nat.le_of_ble_eq_true rfl, Nat.le_of_ble_eq_true rfl⟩ ⟨Nat.le_refl 0, Nat.le_refl 0⟩ hl.1 (Nat.le_of_ble_eq_true rfl) rfl dX4_beginExpression_158) hS (fun H locs hP hS => ?_)
          exact x_retv hx hb hr hlk hf hP hS dX4_beginExpression_161
        · replace hf := z_ifp hf hc14
          refine lv_aload_n hx hb dX4_beginExpression_102 rfl (lv_at hl 1 rfl) ?_
          refine lv_aload_n hx hb dX4_beginExpression_103 rfl (lv_at hl 1 rfl) ?_
          refine z_getR (C := RX4) (T := TX4) (N := 13) (ci := 4) (k := 4) (o := 29) (t := 40) E hK hP iwX4 rfl rfl (by decide) (by decide) rfl rfl rfl tw230 dX4_beginExpression_104 ?_
          refine lv_iconst (v := 4) hx hb dX4_beginExpression_107 (by decide) ?_
          refine lv_aload_n hx hb dX4_beginExpression_108 rfl (lv_at hl 1 rfl) ?_
          refine x_getI (C := RX4) (T := TX4) (N := 13) (ci := 4) (k := 8) (o := 29) E hK hP iwX4 rfl rfl (by decide) (by decide) rfl rfl (by decide) tw234 dX4_beginExpression_109 ?_
          refine lv_aload_n hx hb dX4_beginExpression_112 rfl (lv_at hl 1 rfl) ?_
          refine x_getI (C := RX4) (T := TX4) (N := 13) (ci := 4) (k := 9) (o := 29) E hK hP iwX4 rfl rfl (by decide) (by decide) rfl rfl (by decide) tw235 dX4_beginExpression_113 ?_
          obtain ⟨r23, S22, hz24, hf⟩ := z_bd_some hf
          refine z_ci (z_runV (o := 40) (ci := 7) E hK hP hS (c_X7_add hq hz24) cv_X7_add tw596 rfl (by decide) rfl rfl ⟨Nat.le_of_ble_eq_true rfl, Nat.le_of_ble_eq_true rfl⟩ ⟨Nat.le_refl 0, Nat.le_refl 0⟩ hl.1 (Nat.le_of_ble_eq_true rfl) rfl dX4_beginExpression_116) hS (fun H locs hP hS => ?_)
          obtain ⟨S25, hz26, hf⟩ := z_bv_some hf
          refine z_cvo (z_runV (o := 29) (ci := 4) E hK hP hS (c_X4_give hq hz26) cv_X4_give tw573 rfl (by decide) rfl rfl ⟨Nat.le_of_ble_eq_true rfl, Nat.le_of_ble_eq_true rfl⟩ ⟨Nat.le_refl 0, Nat.le_refl 0⟩ hl.1 (Nat.le_of_ble_eq_true rfl) rfl dX4_beginExpression_119) hS (fun H locs hP hS => ?_)
          refine lv_goto (tgt := 161) hx hb dX4_beginExpression_122 (by decide) ?_
          exact x_retv hx hb hr hlk hf hP hS dX4_beginExpression_161
      · replace hf := z_ifn hf hc13
        refine lv_aload_n hx hb dX4_beginExpression_70 rfl (lv_at hl 1 rfl) ?_
        refine lv_aload_n hx hb dX4_beginExpression_71 rfl (lv_at hl 1 rfl) ?_
        refine lv_aload_n hx hb dX4_beginExpression_72 rfl (lv_at hl 1 rfl) ?_
        refine z_getR (C := RX4) (T := TX4) (N := 13) (ci := 4) (k := 6) (o := 29) (t := (z_pr S10)) E hK hP iwX4 rfl rfl (by decide) (by decide) rfl rfl z_rf_pr tw232 dX4_beginExpression_73 ?_
        refine lv_aload_n hx hb dX4_beginExpression_76 rfl (lv_at hl 1 rfl) ?_
        refine x_getI (C := RX4) (T := TX4) (N := 13) (ci := 4) (k := 8) (o := 29) E hK hP iwX4 rfl rfl (by decide) (by decide) rfl rfl (by decide) tw234 dX4_beginExpression_77 ?_
        obtain ⟨r28, S27, hz29, hf⟩ := z_bd_some hf
        refine z_ci (z_runV (o := (z_pr S10)) (ci := 5) E hK hP hS (c_X5_variableOf hq z_pr_kd z_pr_65 hz29) cv_X5_variableOf tw578 z_pr_kd (by decide) rfl rfl ⟨Nat.le_of_ble_eq_true rfl, Nat.le_of_ble_eq_true rfl⟩ ⟨Nat.le_refl 0, Nat.le_refl 0⟩ hl.1 (Nat.le_of_ble_eq_true rfl) rfl dX4_beginExpression_80) hS (fun H locs hP hS => ?_)
        refine lv_aload_n hx hb dX4_beginExpression_83 rfl (lv_at hl 1 rfl) ?_
        refine x_getI (C := RX4) (T := TX4) (N := 13) (ci := 4) (k := 9) (o := 29) E hK hP iwX4 rfl rfl (by decide) (by decide) rfl rfl (by decide) tw235 dX4_beginExpression_84 ?_
        obtain ⟨r31, S30, hz32, hf⟩ := z_bd_some hf
        refine z_ci (z_runV (o := 29) (ci := 4) E hK hP hS (c_X4_valueOfVariable hq hz32) cv_X4_valueOfVariable tw582 rfl (by decide) rfl rfl ⟨Nat.le_of_ble_eq_true rfl, Nat.le_of_ble_eq_true rfl⟩ ⟨Nat.le_refl 0, Nat.le_refl 0⟩ hl.1 (Nat.le_of_ble_eq_true rfl) rfl dX4_beginExpression_87) hS (fun H locs hP hS => ?_)
        obtain ⟨S33, hz34, hf⟩ := z_bv_some hf
        refine z_cvo (z_runV (o := 29) (ci := 4) E hK hP hS (c_X4_give hq hz34) cv_X4_give tw573 rfl (by decide) rfl rfl ⟨Nat.le_of_ble_eq_true rfl, Nat.le_of_ble_eq_true rfl⟩ ⟨Nat.le_refl 0, Nat.le_refl 0⟩ hl.1 (Nat.le_of_ble_eq_true rfl) rfl dX4_beginExpression_90) hS (fun H locs hP hS => ?_)
        refine lv_goto (tgt := 161) hx hb dX4_beginExpression_93 (by decide) ?_
        exact x_retv hx hb hr hlk hf hP hS dX4_beginExpression_161
    · replace hf := z_ifn hf hc9
      refine lv_aload_n hx hb dX4_beginExpression_52 rfl (lv_at hl 1 rfl) ?_
      refine lv_iload_n hx hb dX4_beginExpression_53 rfl (lv_at hl 0 rfl) ?_
      refine lv_bipush (v := 48) hx hb dX4_beginExpression_54 (by decide) ?_
      refine lv_isub hx hb dX4_beginExpression_56 ?_
      obtain ⟨S35, hz36, hf⟩ := z_bv_some hf
      refine z_cvo (z_runV (o := 29) (ci := 4) E hK hP hS (c_X4_give hq hz36) cv_X4_give tw573 rfl (by decide) rfl rfl ⟨Nat.le_of_ble_eq_true rfl, Nat.le_of_ble_eq_true rfl⟩ ⟨Nat.le_refl 0, Nat.le_refl 0⟩ hl.1 (Nat.le_of_ble_eq_true rfl) rfl dX4_beginExpression_57) hS (fun H locs hP hS => ?_)
      refine lv_goto (tgt := 161) hx hb dX4_beginExpression_60 (by decide) ?_
      exact x_retv hx hb hr hlk hf hP hS dX4_beginExpression_161
  · replace hf := z_ifn hf hc1
    refine lv_aload_n hx hb dX4_beginExpression_13 rfl (lv_at hl 0 rfl) ?_
    refine lv_bipush (v := 6) hx hb dX4_beginExpression_14 (by decide) ?_
    obtain ⟨S37, hz38, hf⟩ := z_bv_some hf
    refine z_cvo (z_runV (o := 29) (ci := 4) E hK hP hS (c_X4_fail hq hz38) cv_X4_fail tw567 rfl (by decide) rfl rfl ⟨Nat.le_of_ble_eq_true rfl, Nat.le_of_ble_eq_true rfl⟩ ⟨Nat.le_refl 0, Nat.le_refl 0⟩ hl.1 (Nat.le_of_ble_eq_true rfl) rfl dX4_beginExpression_16) hS (fun H locs hP hS => ?_)
    exact x_retv hx hb hr hlk hf hP hS dX4_beginExpression_19
theorem cv_X4_beginExpression : z_cv yX4_beginExpression cX4_beginExpression 2 none RX4 0 := ⟨⟨tw565, twp10⟩, tw566, tw6, by decide +kernel⟩
def f_X5_secondOf (N : Nat) (o0 : Nat) (a1 : Int32) (S : St) : Option (Int32 × St) := z_bd (f_X9_at N ((z_rfS o0 2)) (a1) S) fun r2 S1 => some (r2, S1)
set_option maxHeartbeats 4000000 in
set_option maxRecDepth 100000 in
theorem c_X5_secondOf {l : Launch} {G : Cx} {M S S' : St} {N : Nat} {o0 : Nat} {a1 : Int32} {r : Int32} (hq : z_inj (gq G)) (hko0 : z_kd o0 = 5) (hxo0 : o0 < 65) (hf : f_X5_secondOf N o0 a1 S = some (r, S')) : z_Ct l yX5_secondOf cX5_secondOf 2 (some .int) 1 21 G S M [.ref (gq G (o0)), .int (a1)] (z_QI G S' M r) := by
  refine z_start (by decide +kernel) (Nat.le_of_ble_eq_true rfl) ?_
  intro p e s m below meth c ls E hr hlk hK hP hS hl
  have E : CallFix p m c cX5_secondOf 2 s _ lw_good RX5 := E
  have hx := E.1
  have hb := E.2.1
  have hown := E.2.2.2.1
  have hts := E.2.2.2.2
  have hl : lv_has ls 2 [(0, .ref (gq G (o0))), (1, .int (a1))] := hl
  unfold f_X5_secondOf at hf
  refine lv_aload_n hx hb dX5_secondOf_0 rfl (lv_at hl 0 rfl) ?_
  refine z_getR (C := RX5) (T := TX5) (N := 8) (ci := 5) (k := 2) (o := o0) (t := (z_rfS o0 2)) E hK hP iwX5 rfl rfl (by decide) (by decide) rfl hko0 (z_rf_S (by rw [hko0]; decide)) tw41 dX5_secondOf_1 ?_
  refine lv_iload_n hx hb dX5_secondOf_4 rfl (lv_at hl 1 rfl) ?_
  obtain ⟨r2, S1, hz3, hf⟩ := z_bd_some hf
  refine z_ci (z_runSN (host := RX9) E hK hP hS (c_X9_at hq (z_rk5_2 hko0) (z_rl5_2 hko0) hz3) cs_X9_at (by decide +kernel) rfl ⟨Nat.le_of_ble_eq_true rfl, Nat.le_of_ble_eq_true rfl⟩ ⟨Nat.le_refl 0, Nat.le_refl 0⟩ hl.1 (Nat.le_of_ble_eq_true rfl) rfl dX5_secondOf_5) hS (fun H locs hP hS => ?_)
  exact x_reti hx hb hr hlk hf hP hS dX5_secondOf_8
theorem cv_X5_secondOf : z_cv yX5_secondOf cX5_secondOf 2 (some .int) RX5 1 := ⟨⟨tw640, tw641⟩, tw642, tw3, by decide +kernel⟩
def f_X4_beginSecondWithCell (N : Nat) (a1 : Int32) (a2 : Int32) (a3 : Int32) (S : St) : Option (St) := z_bd (f_X5_secondOf N ((z_pr S)) (a1) S) fun r2 S1 => z_bd (f_X5_variableOf N ((z_pr S1)) (a1) S1) fun r5 S4 => z_bd (f_X1_add N (r5) (a3) (a2) S4) fun r8 S7 => z_bv (f_X4_begin N (r2) (r8) S7) fun S10 => some S10
set_option maxHeartbeats 4000000 in
set_option maxRecDepth 100000 in
theorem c_X4_beginSecondWithCell {l : Launch} {G : Cx} {M S S' : St} {N : Nat} {a1 : Int32} {a2 : Int32} {a3 : Int32} (hq : z_inj (gq G)) (hf : f_X4_beginSecondWithCell N a1 a2 a3 S = some S') : z_Ct l yX4_beginSecondWithCell cX4_beginSecondWithCell 4 none 2 45 G S M [.ref (gq G (29)), .int (a1), .int (a2), .int (a3)] (z_QV G S' M) := by
  refine z_start (by decide +kernel) (Nat.le_of_ble_eq_true rfl) ?_
  intro p e s m below meth c ls E hr hlk hK hP hS hl
  have E : CallFix p m c cX4_beginSecondWithCell 4 s _ lw_good RX4 := E
  have hx := E.1
  have hb := E.2.1
  have hown := E.2.2.2.1
  have hts := E.2.2.2.2
  have hl : lv_has ls 4 [(0, .ref (gq G (29))), (1, .int (a1)), (2, .int (a2)), (3, .int (a3))] := hl
  unfold f_X4_beginSecondWithCell at hf
  refine lv_aload_n hx hb dX4_beginSecondWithCell_0 rfl (lv_at hl 0 rfl) ?_
  refine lv_aload_n hx hb dX4_beginSecondWithCell_1 rfl (lv_at hl 0 rfl) ?_
  refine z_getR (C := RX4) (T := TX4) (N := 13) (ci := 4) (k := 6) (o := 29) (t := (z_pr S)) E hK hP iwX4 rfl rfl (by decide) (by decide) rfl rfl z_rf_pr tw232 dX4_beginSecondWithCell_2 ?_
  refine lv_iload_n hx hb dX4_beginSecondWithCell_5 rfl (lv_at hl 1 rfl) ?_
  obtain ⟨r2, S1, hz3, hf⟩ := z_bd_some hf
  refine z_ci (z_runV (o := (z_pr S)) (ci := 5) E hK hP hS (c_X5_secondOf hq z_pr_kd z_pr_65 hz3) cv_X5_secondOf tw639 z_pr_kd (by decide) rfl rfl ⟨Nat.le_of_ble_eq_true rfl, Nat.le_of_ble_eq_true rfl⟩ ⟨Nat.le_refl 0, Nat.le_refl 0⟩ hl.1 (Nat.le_of_ble_eq_true rfl) rfl dX4_beginSecondWithCell_6) hS (fun H locs hP hS => ?_)
  refine lv_aload_n hx hb dX4_beginSecondWithCell_9 rfl (lv_at hl 0 rfl) ?_
  refine z_getR (C := RX4) (T := TX4) (N := 13) (ci := 4) (k := 3) (o := 29) (t := 36) E hK hP iwX4 rfl rfl (by decide) (by decide) rfl rfl rfl tw229 dX4_beginSecondWithCell_10 ?_
  refine lv_aload_n hx hb dX4_beginSecondWithCell_13 rfl (lv_at hl 0 rfl) ?_
  refine z_getR (C := RX4) (T := TX4) (N := 13) (ci := 4) (k := 6) (o := 29) (t := (z_pr S1)) E hK hP iwX4 rfl rfl (by decide) (by decide) rfl rfl z_rf_pr tw232 dX4_beginSecondWithCell_14 ?_
  refine lv_iload_n hx hb dX4_beginSecondWithCell_17 rfl (lv_at hl 1 rfl) ?_
  obtain ⟨r5, S4, hz6, hf⟩ := z_bd_some hf
  refine z_ci (z_runV (o := (z_pr S1)) (ci := 5) E hK hP hS (c_X5_variableOf hq z_pr_kd z_pr_65 hz6) cv_X5_variableOf tw578 z_pr_kd (by decide) rfl rfl ⟨Nat.le_of_ble_eq_true rfl, Nat.le_of_ble_eq_true rfl⟩ ⟨Nat.le_refl 0, Nat.le_refl 0⟩ hl.1 (Nat.le_of_ble_eq_true rfl) rfl dX4_beginSecondWithCell_18) hS (fun H locs hP hS => ?_)
  refine lv_iload_n hx hb dX4_beginSecondWithCell_21 rfl (lv_at hl 3 rfl) ?_
  refine lv_iload_n hx hb dX4_beginSecondWithCell_22 rfl (lv_at hl 2 rfl) ?_
  obtain ⟨r8, S7, hz9, hf⟩ := z_bd_some hf
  refine z_ci (z_runV (o := 36) (ci := 1) E hK hP hS (c_X1_add hq hz9) cv_X1_add tw671 rfl (by decide) rfl rfl ⟨Nat.le_of_ble_eq_true rfl, Nat.le_of_ble_eq_true rfl⟩ ⟨Nat.le_refl 0, Nat.le_refl 0⟩ hl.1 (Nat.le_of_ble_eq_true rfl) rfl dX4_beginSecondWithCell_23) hS (fun H locs hP hS => ?_)
  obtain ⟨S10, hz11, hf⟩ := z_bv_some hf
  refine z_cvo (z_runV (o := 29) (ci := 4) E hK hP hS (c_X4_begin hq hz11) cv_X4_begin tw558 rfl (by decide) rfl rfl ⟨Nat.le_of_ble_eq_true rfl, Nat.le_of_ble_eq_true rfl⟩ ⟨Nat.le_refl 0, Nat.le_refl 0⟩ hl.1 (Nat.le_of_ble_eq_true rfl) rfl dX4_beginSecondWithCell_26) hS (fun H locs hP hS => ?_)
  exact x_retv hx hb hr hlk hf hP hS dX4_beginSecondWithCell_29
theorem cv_X4_beginSecondWithCell : z_cv yX4_beginSecondWithCell cX4_beginSecondWithCell 4 none RX4 3 := ⟨⟨tw698, twp20⟩, tw699, tw6, by decide +kernel⟩
def f_X4_forgetFault (N : Nat) (S : St) : Option (St) := z_lt (z_wr S 29 12 0) fun S1 => z_lt (z_wr S1 35 5 0) fun S2 => z_lt (z_wr S2 35 6 0) fun S3 => some S3
set_option maxHeartbeats 4000000 in
set_option maxRecDepth 100000 in
theorem c_X4_forgetFault {l : Launch} {G : Cx} {M S S' : St} {N : Nat} (hq : z_inj (gq G)) (hf : f_X4_forgetFault N S = some S') : z_Ct l yX4_forgetFault cX4_forgetFault 1 none 0 0 G S M [.ref (gq G (29))] (z_QV G S' M) := by
  refine z_start (by decide +kernel) (Nat.le_of_ble_eq_true rfl) ?_
  intro p e s m below meth c ls E hr hlk hK hP hS hl
  have E : CallFix p m c cX4_forgetFault 1 s _ lw_good RX4 := E
  have hx := E.1
  have hb := E.2.1
  have hown := E.2.2.2.1
  have hts := E.2.2.2.2
  have hl : lv_has ls 1 [(0, .ref (gq G (29)))] := hl
  unfold f_X4_forgetFault at hf
  refine lv_aload_n hx hb dX4_forgetFault_0 rfl (lv_at hl 0 rfl) ?_
  refine lv_iconst (v := 0) hx hb dX4_forgetFault_1 (by decide) ?_
  refine x_putI (C := RX4) (T := TX4) (N := 13) (ci := 4) (k := 12) (o := 29) (v := 0) (ty := .boolean) E hK hq hP hS iwX4 tyX4 tyX4_ok nmX4 rfl rfl (by decide) (by decide) rfl rfl (by decide) rfl (tyX4_ok 12 (by decide)) ⟨rfl, rfl⟩ tw238 dX4_forgetFault_2 (fun H locs hP hS => ?_)
  obtain ⟨S1, hf, hP⟩ := z_ltX hf hP
  refine lv_aload_n hx hb dX4_forgetFault_5 rfl (lv_at hl 0 rfl) ?_
  refine z_getR (C := RX4) (T := TX4) (N := 13) (ci := 4) (k := 2) (o := 29) (t := 35) E hK hP iwX4 rfl rfl (by decide) (by decide) rfl rfl rfl tw228 dX4_forgetFault_6 ?_
  refine lv_iconst (v := 0) hx hb dX4_forgetFault_9 (by decide) ?_
  refine x_putI (C := RX2) (T := TX2) (N := 7) (ci := 2) (k := 5) (o := 35) (v := 0) (ty := .int) E hK hq hP hS iwX2 tyX2 tyX2_ok nmX2 rfl rfl (by decide) (by decide) rfl rfl (by decide) rfl (tyX2_ok 5 (by decide)) ⟨rfl, rfl⟩ tw103 dX4_forgetFault_10 (fun H locs hP hS => ?_)
  obtain ⟨S2, hf, hP⟩ := z_ltX hf hP
  refine lv_aload_n hx hb dX4_forgetFault_13 rfl (lv_at hl 0 rfl) ?_
  refine z_getR (C := RX4) (T := TX4) (N := 13) (ci := 4) (k := 2) (o := 29) (t := 35) E hK hP iwX4 rfl rfl (by decide) (by decide) rfl rfl rfl tw228 dX4_forgetFault_14 ?_
  refine lv_iconst (v := 0) hx hb dX4_forgetFault_17 (by decide) ?_
  refine x_putI (C := RX2) (T := TX2) (N := 7) (ci := 2) (k := 6) (o := 35) (v := 0) (ty := .int) E hK hq hP hS iwX2 tyX2 tyX2_ok nmX2 rfl rfl (by decide) (by decide) rfl rfl (by decide) rfl (tyX2_ok 6 (by decide)) ⟨rfl, rfl⟩ tw106 dX4_forgetFault_18 (fun H locs hP hS => ?_)
  obtain ⟨S3, hf, hP⟩ := z_ltX hf hP
  exact x_retv hx hb hr hlk hf hP hS dX4_forgetFault_21
theorem cv_X4_forgetFault : z_cv yX4_forgetFault cX4_forgetFault 1 none RX4 0 := ⟨⟨tw556, twp8⟩, tw557, tw6, by decide +kernel⟩
def f_X4_isCaught (N : Nat) (a1 : Int32) (S : St) : Option (Int32 × St) := if a1 = 5 then (some (0, S)) else (if a1 = 6 then (some (0, S)) else (some (1, S)))
set_option maxHeartbeats 4000000 in
set_option maxRecDepth 100000 in
theorem c_X4_isCaught {l : Launch} {G : Cx} {M S S' : St} {N : Nat} {a1 : Int32} {r : Int32} (hq : z_inj (gq G)) (hf : f_X4_isCaught N a1 S = some (r, S')) : z_Ct l yX4_isCaught cX4_isCaught 1 (some .boolean) 0 0 G S M [.int (a1)] (z_QI G S' M r) := by
  refine z_start (by decide +kernel) (Nat.le_of_ble_eq_true rfl) ?_
  intro p e s m below meth c ls E hr hlk hK hP hS hl
  have E : CallFix p m c cX4_isCaught 1 s _ lw_good RX4 := E
  have hx := E.1
  have hb := E.2.1
  have hown := E.2.2.2.1
  have hts := E.2.2.2.2
  have hl : lv_has ls 1 [(0, .int (a1))] := hl
  unfold f_X4_isCaught at hf
  refine lv_iload_n hx hb dX4_isCaught_0 rfl (lv_at hl 0 rfl) ?_
  refine lv_iconst (v := 5) hx hb dX4_isCaught_1 (by decide) ?_
  refine lv_icmp_eq (tgt := 15) hx hb dX4_isCaught_2 (by decide) (fun hc1 => ?_) (fun hc1 => ?_)
  · replace hf := z_ifp hf hc1
    refine lv_iconst (v := 0) hx hb dX4_isCaught_15 (by decide) ?_
    exact x_retz hx hb hr hlk rfl hf hP hS dX4_isCaught_16
  · replace hf := z_ifn hf hc1
    refine lv_iload_n hx hb dX4_isCaught_5 rfl (lv_at hl 0 rfl) ?_
    refine lv_bipush (v := 6) hx hb dX4_isCaught_6 (by decide) ?_
    refine lv_icmp_eq (tgt := 15) hx hb dX4_isCaught_8 (by decide) (fun hc2 => ?_) (fun hc2 => ?_)
    · replace hf := z_ifp hf hc2
      refine lv_iconst (v := 0) hx hb dX4_isCaught_15 (by decide) ?_
      exact x_retz hx hb hr hlk rfl hf hP hS dX4_isCaught_16
    · replace hf := z_ifn hf hc2
      refine lv_iconst (v := 1) hx hb dX4_isCaught_11 (by decide) ?_
      refine lv_goto (tgt := 16) hx hb dX4_isCaught_12 (by decide) ?_
      exact x_retz hx hb hr hlk rfl hf hP hS dX4_isCaught_16
theorem cs_X4_isCaught : z_cs yX4_isCaught cX4_isCaught 1 (some .boolean) 1 := ⟨tw750, tw751, tw6, by decide +kernel⟩
def f_X8_expression (N : Nat) (S : St) : Option (Int32 × St) := z_bd (f_X9_at N (45) ((S 44 4)) S) fun r2 S1 => some (r2, S1)
set_option maxHeartbeats 4000000 in
set_option maxRecDepth 100000 in
theorem c_X8_expression {l : Launch} {G : Cx} {M S S' : St} {N : Nat} {r : Int32} (hq : z_inj (gq G)) (hf : f_X8_expression N S = some (r, S')) : z_Ct l yX8_expression cX8_expression 1 (some .int) 1 21 G S M [.ref (gq G (44))] (z_QI G S' M r) := by
  refine z_start (by decide +kernel) (Nat.le_of_ble_eq_true rfl) ?_
  intro p e s m below meth c ls E hr hlk hK hP hS hl
  have E : CallFix p m c cX8_expression 1 s _ lw_good RX8 := E
  have hx := E.1
  have hb := E.2.1
  have hown := E.2.2.2.1
  have hts := E.2.2.2.2
  have hl : lv_has ls 1 [(0, .ref (gq G (44)))] := hl
  unfold f_X8_expression at hf
  refine lv_aload_n hx hb dX8_expression_0 rfl (lv_at hl 0 rfl) ?_
  refine z_getR (C := RX8) (T := TX8) (N := 5) (ci := 8) (k := 0) (o := 44) (t := 45) E hK hP iwX8 rfl rfl (by decide) (by decide) rfl rfl rfl tw204 dX8_expression_1 ?_
  refine lv_aload_n hx hb dX8_expression_4 rfl (lv_at hl 0 rfl) ?_
  refine x_getI (C := RX8) (T := TX8) (N := 5) (ci := 8) (k := 4) (o := 44) E hK hP iwX8 rfl rfl (by decide) (by decide) rfl rfl (by decide) tw208 dX8_expression_5 ?_
  obtain ⟨r2, S1, hz3, hf⟩ := z_bd_some hf
  refine z_ci (z_runSN (host := RX9) E hK hP hS (c_X9_at hq rfl (by decide) hz3) cs_X9_at (by decide +kernel) rfl ⟨Nat.le_of_ble_eq_true rfl, Nat.le_of_ble_eq_true rfl⟩ ⟨Nat.le_refl 0, Nat.le_refl 0⟩ hl.1 (Nat.le_of_ble_eq_true rfl) rfl dX8_expression_8) hS (fun H locs hP hS => ?_)
  exact x_reti hx hb hr hlk hf hP hS dX8_expression_11
theorem cv_X8_expression : z_cv yX8_expression cX8_expression 1 (some .int) RX8 0 := ⟨⟨tw623, tw624⟩, tw625, tw9, by decide +kernel⟩
def f_X8_frame (N : Nat) (S : St) : Option (Int32 × St) := z_bd (f_X9_at N (46) ((S 44 4)) S) fun r2 S1 => some (r2, S1)
set_option maxHeartbeats 4000000 in
set_option maxRecDepth 100000 in
theorem c_X8_frame {l : Launch} {G : Cx} {M S S' : St} {N : Nat} {r : Int32} (hq : z_inj (gq G)) (hf : f_X8_frame N S = some (r, S')) : z_Ct l yX8_frame cX8_frame 1 (some .int) 1 21 G S M [.ref (gq G (44))] (z_QI G S' M r) := by
  refine z_start (by decide +kernel) (Nat.le_of_ble_eq_true rfl) ?_
  intro p e s m below meth c ls E hr hlk hK hP hS hl
  have E : CallFix p m c cX8_frame 1 s _ lw_good RX8 := E
  have hx := E.1
  have hb := E.2.1
  have hown := E.2.2.2.1
  have hts := E.2.2.2.2
  have hl : lv_has ls 1 [(0, .ref (gq G (44)))] := hl
  unfold f_X8_frame at hf
  refine lv_aload_n hx hb dX8_frame_0 rfl (lv_at hl 0 rfl) ?_
  refine z_getR (C := RX8) (T := TX8) (N := 5) (ci := 8) (k := 1) (o := 44) (t := 46) E hK hP iwX8 rfl rfl (by decide) (by decide) rfl rfl rfl tw205 dX8_frame_1 ?_
  refine lv_aload_n hx hb dX8_frame_4 rfl (lv_at hl 0 rfl) ?_
  refine x_getI (C := RX8) (T := TX8) (N := 5) (ci := 8) (k := 4) (o := 44) E hK hP iwX8 rfl rfl (by decide) (by decide) rfl rfl (by decide) tw208 dX8_frame_5 ?_
  obtain ⟨r2, S1, hz3, hf⟩ := z_bd_some hf
  refine z_ci (z_runSN (host := RX9) E hK hP hS (c_X9_at hq rfl (by decide) hz3) cs_X9_at (by decide +kernel) rfl ⟨Nat.le_of_ble_eq_true rfl, Nat.le_of_ble_eq_true rfl⟩ ⟨Nat.le_refl 0, Nat.le_refl 0⟩ hl.1 (Nat.le_of_ble_eq_true rfl) rfl dX8_frame_8) hS (fun H locs hP hS => ?_)
  exact x_reti hx hb hr hlk hf hP hS dX8_frame_11
theorem cv_X8_frame : z_cv yX8_frame cX8_frame 1 (some .int) RX8 0 := ⟨⟨tw628, tw629⟩, tw630, tw9, by decide +kernel⟩
def f_X8_isEmpty (N : Nat) (S : St) : Option (Int32 × St) := if 0 < (S 44 4) then (some (0, S)) else (some (1, S))
set_option maxHeartbeats 4000000 in
set_option maxRecDepth 100000 in
theorem c_X8_isEmpty {l : Launch} {G : Cx} {M S S' : St} {N : Nat} {r : Int32} (hq : z_inj (gq G)) (hf : f_X8_isEmpty N S = some (r, S')) : z_Ct l yX8_isEmpty cX8_isEmpty 1 (some .boolean) 0 0 G S M [.ref (gq G (44))] (z_QI G S' M r) := by
  refine z_start (by decide +kernel) (Nat.le_of_ble_eq_true rfl) ?_
  intro p e s m below meth c ls E hr hlk hK hP hS hl
  have E : CallFix p m c cX8_isEmpty 1 s _ lw_good RX8 := E
  have hx := E.1
  have hb := E.2.1
  have hown := E.2.2.2.1
  have hts := E.2.2.2.2
  have hl : lv_has ls 1 [(0, .ref (gq G (44)))] := hl
  unfold f_X8_isEmpty at hf
  refine lv_aload_n hx hb dX8_isEmpty_0 rfl (lv_at hl 0 rfl) ?_
  refine x_getI (C := RX8) (T := TX8) (N := 5) (ci := 8) (k := 4) (o := 44) E hK hP iwX8 rfl rfl (by decide) (by decide) rfl rfl (by decide) tw208 dX8_isEmpty_1 ?_
  refine lv_if_gt (tgt := 11) hx hb dX8_isEmpty_4 (by decide) (fun hc1 => ?_) (fun hc1 => ?_)
  · replace hf := z_ifp hf hc1
    refine lv_iconst (v := 0) hx hb dX8_isEmpty_11 (by decide) ?_
    exact x_retz hx hb hr hlk rfl hf hP hS dX8_isEmpty_12
  · replace hf := z_ifn hf hc1
    refine lv_iconst (v := 1) hx hb dX8_isEmpty_7 (by decide) ?_
    refine lv_goto (tgt := 12) hx hb dX8_isEmpty_8 (by decide) ?_
    exact x_retz hx hb hr hlk rfl hf hP hS dX8_isEmpty_12
theorem cv_X8_isEmpty : z_cv yX8_isEmpty cX8_isEmpty 1 (some .boolean) RX8 0 := ⟨⟨tw615, tw616⟩, tw617, tw9, by decide +kernel⟩
def f_X8_pop (N : Nat) (S : St) : Option (St) := z_lt (z_wr S 44 4 ((S 44 4) - 1)) fun S1 => some S1
set_option maxHeartbeats 4000000 in
set_option maxRecDepth 100000 in
theorem c_X8_pop {l : Launch} {G : Cx} {M S S' : St} {N : Nat} (hq : z_inj (gq G)) (hf : f_X8_pop N S = some S') : z_Ct l yX8_pop cX8_pop 1 none 0 0 G S M [.ref (gq G (44))] (z_QV G S' M) := by
  refine z_start (by decide +kernel) (Nat.le_of_ble_eq_true rfl) ?_
  intro p e s m below meth c ls E hr hlk hK hP hS hl
  have E : CallFix p m c cX8_pop 1 s _ lw_good RX8 := E
  have hx := E.1
  have hb := E.2.1
  have hown := E.2.2.2.1
  have hts := E.2.2.2.2
  have hl : lv_has ls 1 [(0, .ref (gq G (44)))] := hl
  unfold f_X8_pop at hf
  refine lv_aload_n hx hb dX8_pop_0 rfl (lv_at hl 0 rfl) ?_
  refine lv_dup hx hb dX8_pop_1 rfl ?_
  refine x_getI (C := RX8) (T := TX8) (N := 5) (ci := 8) (k := 4) (o := 44) E hK hP iwX8 rfl rfl (by decide) (by decide) rfl rfl (by decide) tw208 dX8_pop_2 ?_
  refine lv_iconst (v := 1) hx hb dX8_pop_5 (by decide) ?_
  refine lv_isub hx hb dX8_pop_6 ?_
  refine x_putI (C := RX8) (T := TX8) (N := 5) (ci := 8) (k := 4) (o := 44) (v := ((S 44 4) - 1)) (ty := .int) E hK hq hP hS iwX8 tyX8 tyX8_ok nmX8 rfl rfl (by decide) (by decide) rfl rfl (by decide) rfl (tyX8_ok 4 (by decide)) ⟨rfl, rfl⟩ tw208 dX8_pop_7 (fun H locs hP hS => ?_)
  obtain ⟨S1, hf, hP⟩ := z_ltX hf hP
  exact x_retv hx hb hr hlk hf hP hS dX8_pop_10
theorem cv_X8_pop : z_cv yX8_pop cX8_pop 1 none RX8 0 := ⟨⟨tw619, tw620⟩, tw621, tw9, by decide +kernel⟩
def f_X8_stage (N : Nat) (S : St) : Option (Int32 × St) := z_bd (f_X9_at N (47) ((S 44 4)) S) fun r2 S1 => some (r2, S1)
set_option maxHeartbeats 4000000 in
set_option maxRecDepth 100000 in
theorem c_X8_stage {l : Launch} {G : Cx} {M S S' : St} {N : Nat} {r : Int32} (hq : z_inj (gq G)) (hf : f_X8_stage N S = some (r, S')) : z_Ct l yX8_stage cX8_stage 1 (some .int) 1 21 G S M [.ref (gq G (44))] (z_QI G S' M r) := by
  refine z_start (by decide +kernel) (Nat.le_of_ble_eq_true rfl) ?_
  intro p e s m below meth c ls E hr hlk hK hP hS hl
  have E : CallFix p m c cX8_stage 1 s _ lw_good RX8 := E
  have hx := E.1
  have hb := E.2.1
  have hown := E.2.2.2.1
  have hts := E.2.2.2.2
  have hl : lv_has ls 1 [(0, .ref (gq G (44)))] := hl
  unfold f_X8_stage at hf
  refine lv_aload_n hx hb dX8_stage_0 rfl (lv_at hl 0 rfl) ?_
  refine z_getR (C := RX8) (T := TX8) (N := 5) (ci := 8) (k := 2) (o := 44) (t := 47) E hK hP iwX8 rfl rfl (by decide) (by decide) rfl rfl rfl tw206 dX8_stage_1 ?_
  refine lv_aload_n hx hb dX8_stage_4 rfl (lv_at hl 0 rfl) ?_
  refine x_getI (C := RX8) (T := TX8) (N := 5) (ci := 8) (k := 4) (o := 44) E hK hP iwX8 rfl rfl (by decide) (by decide) rfl rfl (by decide) tw208 dX8_stage_5 ?_
  obtain ⟨r2, S1, hz3, hf⟩ := z_bd_some hf
  refine z_ci (z_runSN (host := RX9) E hK hP hS (c_X9_at hq rfl (by decide) hz3) cs_X9_at (by decide +kernel) rfl ⟨Nat.le_of_ble_eq_true rfl, Nat.le_of_ble_eq_true rfl⟩ ⟨Nat.le_refl 0, Nat.le_refl 0⟩ hl.1 (Nat.le_of_ble_eq_true rfl) rfl dX8_stage_8) hS (fun H locs hP hS => ?_)
  exact x_reti hx hb hr hlk hf hP hS dX8_stage_11
theorem cv_X8_stage : z_cv yX8_stage cX8_stage 1 (some .int) RX8 0 := ⟨⟨tw636, tw637⟩, tw638, tw9, by decide +kernel⟩
def b_X4_passFaultOn_70 (N : Nat) (v1 : Int32) (v2 : Int32) (S : St) : Option (St) := if v2 = 87 then (z_lt (z_wr S 35 5 ((S 35 5) + 1)) fun S39 => some S39) else (if v2 = 89 then (z_bd (f_X2_codeAt N (35) (0) S) fun r23 S22 => z_bd (f_X4_isCaught N (r23) S22) fun r26 S25 => if r26 = 0 then (some S25) else (z_bd (f_X2_codeAt N (35) (0) S25) fun r30 S29 => z_bv (f_X4_forgetFault N S29) fun S32 => z_bd (f_X8_frame N S32) fun r35 S34 => z_bv (f_X4_beginSecondWithCell N (v1) (r35) (r30) S34) fun S37 => some S37)) else (some S))
def f_X4_passFaultOn (N : Nat) (S : St) : Option (St) := z_bd (f_X8_isEmpty N S) fun r2 S1 => if r2 = 0 then (z_bv (f_X8_pop N S1) fun S5 => z_bd (f_X8_expression N S5) fun r8 S7 => z_bd (f_X5_signOf N ((z_pr S7)) (r8) S7) fun r11 S10 => if r11 = 64 then (z_bd (f_X8_stage N S10) fun r15 S14 => if r15 = 2 then (z_lt (z_wr S14 29 11 ((S14 29 11) - 1)) fun S18 => some S18) else (b_X4_passFaultOn_70 N (r8) (r11) S14)) else (b_X4_passFaultOn_70 N (r8) (r11) S10)) else (z_lt (z_wr S1 29 7 3) fun S19 => some S19)
set_option maxHeartbeats 4000000 in
set_option maxRecDepth 100000 in
theorem c_X4_passFaultOn {l : Launch} {G : Cx} {M S S' : St} {N : Nat} (hq : z_inj (gq G)) (hf : f_X4_passFaultOn N S = some S') : z_Ct l yX4_passFaultOn cX4_passFaultOn 4 none 3 68 G S M [.ref (gq G (29))] (z_QV G S' M) := by
  refine z_start (by decide +kernel) (Nat.le_of_ble_eq_true rfl) ?_
  intro p e s m below meth c ls E hr hlk hK hP hS hl
  have E : CallFix p m c cX4_passFaultOn 4 s _ lw_good RX4 := E
  have hx := E.1
  have hb := E.2.1
  have hown := E.2.2.2.1
  have hts := E.2.2.2.2
  have hJ70 : ∀ (v1 : Int32) (v2 : Int32) (S : St) (H : Heap) (locs : List Loc) (ls : Array Slot), b_X4_passFaultOn_70 N v1 v2 S = some S' → z_P G S M H → z_S G s.heap H locs → lv_has ls 4 [(0, .ref (gq G (29))), (1, .int (v1)), (2, .int (v2))] → W p l e (z_rm 3 68) s m ([.ref (gq G (29))] : List Value).toArray below meth c H locs 0 0 (MQ below (z_QV G S' M) ([.ref (gq G (29))] : List Value).toArray s 0 0 (z_Aq (gq G))) (F0 m 70 ls []) := by
    intro v1 v2 S H locs ls hf hP hS hl
    unfold b_X4_passFaultOn_70 at hf
    refine lv_iload_n hx hb dX4_passFaultOn_70 rfl (lv_at hl 2 rfl) ?_
    refine lv_bipush (v := 87) hx hb dX4_passFaultOn_71 (by decide) ?_
    refine lv_icmp_ne (tgt := 92) hx hb dX4_passFaultOn_73 (by decide) (fun hc20 => ?_) (fun hc20 => ?_)
    · replace hf := z_ifn hf hc20
      refine lv_iload_n hx hb dX4_passFaultOn_92 rfl (lv_at hl 2 rfl) ?_
      refine lv_bipush (v := 89) hx hb dX4_passFaultOn_93 (by decide) ?_
      refine lv_icmp_ne (tgt := 138) hx hb dX4_passFaultOn_95 (by decide) (fun hc21 => ?_) (fun hc21 => ?_)
      · replace hf := z_ifn hf hc21
        exact x_retv hx hb hr hlk hf hP hS dX4_passFaultOn_138
      · replace hf := z_ifp hf hc21
        refine lv_aload_n hx hb dX4_passFaultOn_98 rfl (lv_at hl 0 rfl) ?_
        refine z_getR (C := RX4) (T := TX4) (N := 13) (ci := 4) (k := 2) (o := 29) (t := 35) E hK hP iwX4 rfl rfl (by decide) (by decide) rfl rfl rfl tw228 dX4_passFaultOn_99 ?_
        refine lv_iconst (v := 0) hx hb dX4_passFaultOn_102 (by decide) ?_
        obtain ⟨r23, S22, hz24, hf⟩ := z_bd_some hf
        refine z_ci (z_runV (o := 35) (ci := 2) E hK hP hS (c_X2_codeAt hq rfl (by decide) hz24) cv_X2_codeAt tw745 rfl (by decide) rfl rfl ⟨Nat.le_of_ble_eq_true rfl, Nat.le_of_ble_eq_true rfl⟩ ⟨Nat.le_refl 0, Nat.le_refl 0⟩ hl.1 (Nat.le_of_ble_eq_true rfl) rfl dX4_passFaultOn_103) hS (fun H locs hP hS => ?_)
        obtain ⟨r26, S25, hz27, hf⟩ := z_bd_some hf
        refine z_ci (z_runS E hK hP hS (c_X4_isCaught hq hz27) cs_X4_isCaught tw749 rfl ⟨Nat.le_of_ble_eq_true rfl, Nat.le_of_ble_eq_true rfl⟩ ⟨Nat.le_refl 0, Nat.le_refl 0⟩ hl.1 (Nat.le_of_ble_eq_true rfl) rfl dX4_passFaultOn_106) hS (fun H locs hP hS => ?_)
        refine lv_if_eq (tgt := 138) hx hb dX4_passFaultOn_109 (by decide) (fun hc28 => ?_) (fun hc28 => ?_)
        · replace hf := z_ifp hf hc28
          exact x_retv hx hb hr hlk hf hP hS dX4_passFaultOn_138
        · replace hf := z_ifn hf hc28
          refine lv_aload_n hx hb dX4_passFaultOn_112 rfl (lv_at hl 0 rfl) ?_
          refine z_getR (C := RX4) (T := TX4) (N := 13) (ci := 4) (k := 2) (o := 29) (t := 35) E hK hP iwX4 rfl rfl (by decide) (by decide) rfl rfl rfl tw228 dX4_passFaultOn_113 ?_
          refine lv_iconst (v := 0) hx hb dX4_passFaultOn_116 (by decide) ?_
          obtain ⟨r30, S29, hz31, hf⟩ := z_bd_some hf
          refine z_ci (z_runV (o := 35) (ci := 2) E hK hP hS (c_X2_codeAt hq rfl (by decide) hz31) cv_X2_codeAt tw745 rfl (by decide) rfl rfl ⟨Nat.le_of_ble_eq_true rfl, Nat.le_of_ble_eq_true rfl⟩ ⟨Nat.le_refl 0, Nat.le_refl 0⟩ hl.1 (Nat.le_of_ble_eq_true rfl) rfl dX4_passFaultOn_117) hS (fun H locs hP hS => ?_)
          refine lv_istore_n (lv' := [(3, .int (r30)), (0, .ref (gq G (29))), (1, .int (v1)), (2, .int (v2))]) hx hb dX4_passFaultOn_120 rfl hl (by decide) rfl (fun ls hl => ?_)
          refine lv_aload_n hx hb dX4_passFaultOn_121 rfl (lv_at hl 1 rfl) ?_
          obtain ⟨S32, hz33, hf⟩ := z_bv_some hf
          refine z_cvo (z_runV (o := 29) (ci := 4) E hK hP hS (c_X4_forgetFault hq hz33) cv_X4_forgetFault tw554 rfl (by decide) rfl rfl ⟨Nat.le_of_ble_eq_true rfl, Nat.le_of_ble_eq_true rfl⟩ ⟨Nat.le_refl 0, Nat.le_refl 0⟩ hl.1 (Nat.le_of_ble_eq_true rfl) rfl dX4_passFaultOn_122) hS (fun H locs hP hS => ?_)
          refine lv_aload_n hx hb dX4_passFaultOn_125 rfl (lv_at hl 1 rfl) ?_
          refine lv_iload_n hx hb dX4_passFaultOn_126 rfl (lv_at hl 2 rfl) ?_
          refine lv_aload_n hx hb dX4_passFaultOn_127 rfl (lv_at hl 1 rfl) ?_
          refine z_getR (C := RX4) (T := TX4) (N := 13) (ci := 4) (k := 5) (o := 29) (t := 44) E hK hP iwX4 rfl rfl (by decide) (by decide) rfl rfl rfl tw231 dX4_passFaultOn_128 ?_
          obtain ⟨r35, S34, hz36, hf⟩ := z_bd_some hf
          refine z_ci (z_runV (o := 44) (ci := 8) E hK hP hS (c_X8_frame hq hz36) cv_X8_frame tw627 rfl (by decide) rfl rfl ⟨Nat.le_of_ble_eq_true rfl, Nat.le_of_ble_eq_true rfl⟩ ⟨Nat.le_refl 0, Nat.le_refl 0⟩ hl.1 (Nat.le_of_ble_eq_true rfl) rfl dX4_passFaultOn_131) hS (fun H locs hP hS => ?_)
          refine lv_iload_n hx hb dX4_passFaultOn_134 rfl (lv_at hl 0 rfl) ?_
          obtain ⟨S37, hz38, hf⟩ := z_bv_some hf
          refine z_cvo (z_runV (o := 29) (ci := 4) E hK hP hS (c_X4_beginSecondWithCell hq hz38) cv_X4_beginSecondWithCell tw696 rfl (by decide) rfl rfl ⟨Nat.le_of_ble_eq_true rfl, Nat.le_of_ble_eq_true rfl⟩ ⟨Nat.le_refl 0, Nat.le_refl 0⟩ hl.1 (Nat.le_of_ble_eq_true rfl) rfl dX4_passFaultOn_135) hS (fun H locs hP hS => ?_)
          exact x_retv hx hb hr hlk hf hP hS dX4_passFaultOn_138
    · replace hf := z_ifp hf hc20
      refine lv_aload_n hx hb dX4_passFaultOn_76 rfl (lv_at hl 0 rfl) ?_
      refine z_getR (C := RX4) (T := TX4) (N := 13) (ci := 4) (k := 2) (o := 29) (t := 35) E hK hP iwX4 rfl rfl (by decide) (by decide) rfl rfl rfl tw228 dX4_passFaultOn_77 ?_
      refine lv_dup hx hb dX4_passFaultOn_80 rfl ?_
      refine x_getI (C := RX2) (T := TX2) (N := 7) (ci := 2) (k := 5) (o := 35) E hK hP iwX2 rfl rfl (by decide) (by decide) rfl rfl (by decide) tw103 dX4_passFaultOn_81 ?_
      refine lv_iconst (v := 1) hx hb dX4_passFaultOn_84 (by decide) ?_
      refine lv_iadd hx hb dX4_passFaultOn_85 ?_
      refine x_putI (C := RX2) (T := TX2) (N := 7) (ci := 2) (k := 5) (o := 35) (v := ((S 35 5) + 1)) (ty := .int) E hK hq hP hS iwX2 tyX2 tyX2_ok nmX2 rfl rfl (by decide) (by decide) rfl rfl (by decide) rfl (tyX2_ok 5 (by decide)) ⟨rfl, rfl⟩ tw103 dX4_passFaultOn_86 (fun H locs hP hS => ?_)
      obtain ⟨S39, hf, hP⟩ := z_ltX hf hP
      refine lv_goto (tgt := 138) hx hb dX4_passFaultOn_89 (by decide) ?_
      exact x_retv hx hb hr hlk hf hP hS dX4_passFaultOn_138
  have hl : lv_has ls 4 [(0, .ref (gq G (29)))] := hl
  unfold f_X4_passFaultOn at hf
  refine lv_aload_n hx hb dX4_passFaultOn_0 rfl (lv_at hl 0 rfl) ?_
  refine z_getR (C := RX4) (T := TX4) (N := 13) (ci := 4) (k := 5) (o := 29) (t := 44) E hK hP iwX4 rfl rfl (by decide) (by decide) rfl rfl rfl tw231 dX4_passFaultOn_1 ?_
  obtain ⟨r2, S1, hz3, hf⟩ := z_bd_some hf
  refine z_ci (z_runV (o := 44) (ci := 8) E hK hP hS (c_X8_isEmpty hq hz3) cv_X8_isEmpty tw614 rfl (by decide) rfl rfl ⟨Nat.le_of_ble_eq_true rfl, Nat.le_of_ble_eq_true rfl⟩ ⟨Nat.le_refl 0, Nat.le_refl 0⟩ hl.1 (Nat.le_of_ble_eq_true rfl) rfl dX4_passFaultOn_4) hS (fun H locs hP hS => ?_)
  refine lv_if_eq (tgt := 16) hx hb dX4_passFaultOn_7 (by decide) (fun hc4 => ?_) (fun hc4 => ?_)
  · replace hf := z_ifp hf hc4
    refine lv_aload_n hx hb dX4_passFaultOn_16 rfl (lv_at hl 0 rfl) ?_
    refine z_getR (C := RX4) (T := TX4) (N := 13) (ci := 4) (k := 5) (o := 29) (t := 44) E hK hP iwX4 rfl rfl (by decide) (by decide) rfl rfl rfl tw231 dX4_passFaultOn_17 ?_
    obtain ⟨S5, hz6, hf⟩ := z_bv_some hf
    refine z_cvo (z_runV (o := 44) (ci := 8) E hK hP hS (c_X8_pop hq hz6) cv_X8_pop tw618 rfl (by decide) rfl rfl ⟨Nat.le_of_ble_eq_true rfl, Nat.le_of_ble_eq_true rfl⟩ ⟨Nat.le_refl 0, Nat.le_refl 0⟩ hl.1 (Nat.le_of_ble_eq_true rfl) rfl dX4_passFaultOn_20) hS (fun H locs hP hS => ?_)
    refine lv_aload_n hx hb dX4_passFaultOn_23 rfl (lv_at hl 0 rfl) ?_
    refine z_getR (C := RX4) (T := TX4) (N := 13) (ci := 4) (k := 5) (o := 29) (t := 44) E hK hP iwX4 rfl rfl (by decide) (by decide) rfl rfl rfl tw231 dX4_passFaultOn_24 ?_
    obtain ⟨r8, S7, hz9, hf⟩ := z_bd_some hf
    refine z_ci (z_runV (o := 44) (ci := 8) E hK hP hS (c_X8_expression hq hz9) cv_X8_expression tw622 rfl (by decide) rfl rfl ⟨Nat.le_of_ble_eq_true rfl, Nat.le_of_ble_eq_true rfl⟩ ⟨Nat.le_refl 0, Nat.le_refl 0⟩ hl.1 (Nat.le_of_ble_eq_true rfl) rfl dX4_passFaultOn_27) hS (fun H locs hP hS => ?_)
    refine lv_istore_n (lv' := [(1, .int (r8)), (0, .ref (gq G (29)))]) hx hb dX4_passFaultOn_30 rfl hl (by decide) rfl (fun ls hl => ?_)
    refine lv_aload_n hx hb dX4_passFaultOn_31 rfl (lv_at hl 1 rfl) ?_
    refine z_getR (C := RX4) (T := TX4) (N := 13) (ci := 4) (k := 6) (o := 29) (t := (z_pr S7)) E hK hP iwX4 rfl rfl (by decide) (by decide) rfl rfl z_rf_pr tw232 dX4_passFaultOn_32 ?_
    refine lv_iload_n hx hb dX4_passFaultOn_35 rfl (lv_at hl 0 rfl) ?_
    obtain ⟨r11, S10, hz12, hf⟩ := z_bd_some hf
    refine z_ci (z_runV (o := (z_pr S7)) (ci := 5) E hK hP hS (c_X5_signOf hq z_pr_kd z_pr_65 hz12) cv_X5_signOf tw571 z_pr_kd (by decide) rfl rfl ⟨Nat.le_of_ble_eq_true rfl, Nat.le_of_ble_eq_true rfl⟩ ⟨Nat.le_refl 0, Nat.le_refl 0⟩ hl.1 (Nat.le_of_ble_eq_true rfl) rfl dX4_passFaultOn_36) hS (fun H locs hP hS => ?_)
    refine lv_istore_n (lv' := [(2, .int (r11)), (1, .int (r8)), (0, .ref (gq G (29)))]) hx hb dX4_passFaultOn_39 rfl hl (by decide) rfl (fun ls hl => ?_)
    refine lv_iload_n hx hb dX4_passFaultOn_40 rfl (lv_at hl 0 rfl) ?_
    refine lv_bipush (v := 64) hx hb dX4_passFaultOn_41 (by decide) ?_
    refine lv_icmp_ne (tgt := 70) hx hb dX4_passFaultOn_43 (by decide) (fun hc13 => ?_) (fun hc13 => ?_)
    · replace hf := z_ifn hf hc13
      exact hJ70 (r8) (r11) S10 _ _ _ hf hP hS (lv_sub hl [2, 1, 0] rfl)
    · replace hf := z_ifp hf hc13
      refine lv_aload_n hx hb dX4_passFaultOn_46 rfl (lv_at hl 2 rfl) ?_
      refine z_getR (C := RX4) (T := TX4) (N := 13) (ci := 4) (k := 5) (o := 29) (t := 44) E hK hP iwX4 rfl rfl (by decide) (by decide) rfl rfl rfl tw231 dX4_passFaultOn_47 ?_
      obtain ⟨r15, S14, hz16, hf⟩ := z_bd_some hf
      refine z_ci (z_runV (o := 44) (ci := 8) E hK hP hS (c_X8_stage hq hz16) cv_X8_stage tw635 rfl (by decide) rfl rfl ⟨Nat.le_of_ble_eq_true rfl, Nat.le_of_ble_eq_true rfl⟩ ⟨Nat.le_refl 0, Nat.le_refl 0⟩ hl.1 (Nat.le_of_ble_eq_true rfl) rfl dX4_passFaultOn_50) hS (fun H locs hP hS => ?_)
      refine lv_iconst (v := 2) hx hb dX4_passFaultOn_53 (by decide) ?_
      refine lv_icmp_ne (tgt := 70) hx hb dX4_passFaultOn_54 (by decide) (fun hc17 => ?_) (fun hc17 => ?_)
      · replace hf := z_ifn hf hc17
        exact hJ70 (r8) (r11) S14 _ _ _ hf hP hS (lv_sub hl [2, 1, 0] rfl)
      · replace hf := z_ifp hf hc17
        refine lv_aload_n hx hb dX4_passFaultOn_57 rfl (lv_at hl 2 rfl) ?_
        refine lv_dup hx hb dX4_passFaultOn_58 rfl ?_
        refine x_getI (C := RX4) (T := TX4) (N := 13) (ci := 4) (k := 11) (o := 29) E hK hP iwX4 rfl rfl (by decide) (by decide) rfl rfl (by decide) tw237 dX4_passFaultOn_59 ?_
        refine lv_iconst (v := 1) hx hb dX4_passFaultOn_62 (by decide) ?_
        refine lv_isub hx hb dX4_passFaultOn_63 ?_
        refine x_putI (C := RX4) (T := TX4) (N := 13) (ci := 4) (k := 11) (o := 29) (v := ((S14 29 11) - 1)) (ty := .int) E hK hq hP hS iwX4 tyX4 tyX4_ok nmX4 rfl rfl (by decide) (by decide) rfl rfl (by decide) rfl (tyX4_ok 11 (by decide)) ⟨rfl, rfl⟩ tw237 dX4_passFaultOn_64 (fun H locs hP hS => ?_)
        obtain ⟨S18, hf, hP⟩ := z_ltX hf hP
        refine lv_goto (tgt := 138) hx hb dX4_passFaultOn_67 (by decide) ?_
        exact x_retv hx hb hr hlk hf hP hS dX4_passFaultOn_138
  · replace hf := z_ifn hf hc4
    refine lv_aload_n hx hb dX4_passFaultOn_10 rfl (lv_at hl 0 rfl) ?_
    refine lv_iconst (v := 3) hx hb dX4_passFaultOn_11 (by decide) ?_
    refine x_putI (C := RX4) (T := TX4) (N := 13) (ci := 4) (k := 7) (o := 29) (v := 3) (ty := .int) E hK hq hP hS iwX4 tyX4 tyX4_ok nmX4 rfl rfl (by decide) (by decide) rfl rfl (by decide) rfl (tyX4_ok 7 (by decide)) ⟨rfl, rfl⟩ tw233 dX4_passFaultOn_12 (fun H locs hP hS => ?_)
    obtain ⟨S19, hf, hP⟩ := z_ltX hf hP
    exact x_retv hx hb hr hlk hf hP hS dX4_passFaultOn_15
theorem cv_X4_passFaultOn : z_cv yX4_passFaultOn cX4_passFaultOn 4 none RX4 0 := ⟨⟨tw743, twp24⟩, tw744, tw6, by decide +kernel⟩
def f_X7_forget (N : Nat) (S : St) : Option (St) := z_lt (z_wr S 40 3 0) fun S1 => some S1
set_option maxHeartbeats 4000000 in
set_option maxRecDepth 100000 in
theorem c_X7_forget {l : Launch} {G : Cx} {M S S' : St} {N : Nat} (hq : z_inj (gq G)) (hf : f_X7_forget N S = some S') : z_Ct l yX7_forget cX7_forget 1 none 0 0 G S M [.ref (gq G (40))] (z_QV G S' M) := by
  refine z_start (by decide +kernel) (Nat.le_of_ble_eq_true rfl) ?_
  intro p e s m below meth c ls E hr hlk hK hP hS hl
  have E : CallFix p m c cX7_forget 1 s _ lw_good RX7 := E
  have hx := E.1
  have hb := E.2.1
  have hown := E.2.2.2.1
  have hts := E.2.2.2.2
  have hl : lv_has ls 1 [(0, .ref (gq G (40)))] := hl
  unfold f_X7_forget at hf
  refine lv_aload_n hx hb dX7_forget_0 rfl (lv_at hl 0 rfl) ?_
  refine lv_iconst (v := 0) hx hb dX7_forget_1 (by decide) ?_
  refine x_putI (C := RX7) (T := TX7) (N := 4) (ci := 7) (k := 3) (o := 40) (v := 0) (ty := .int) E hK hq hP hS iwX7 tyX7 tyX7_ok nmX7 rfl rfl (by decide) (by decide) rfl rfl (by decide) rfl (tyX7_ok 3 (by decide)) ⟨rfl, rfl⟩ tw188 dX7_forget_2 (fun H locs hP hS => ?_)
  obtain ⟨S1, hf, hP⟩ := z_ltX hf hP
  exact x_retv hx hb hr hlk hf hP hS dX7_forget_5
theorem cv_X7_forget : z_cv yX7_forget cX7_forget 1 none RX7 0 := ⟨⟨tw547, tw548⟩, tw549, tw8, by decide +kernel⟩
def f_X8_forget (N : Nat) (S : St) : Option (St) := z_lt (z_wr S 44 4 0) fun S1 => some S1
set_option maxHeartbeats 4000000 in
set_option maxRecDepth 100000 in
theorem c_X8_forget {l : Launch} {G : Cx} {M S S' : St} {N : Nat} (hq : z_inj (gq G)) (hf : f_X8_forget N S = some S') : z_Ct l yX8_forget cX8_forget 1 none 0 0 G S M [.ref (gq G (44))] (z_QV G S' M) := by
  refine z_start (by decide +kernel) (Nat.le_of_ble_eq_true rfl) ?_
  intro p e s m below meth c ls E hr hlk hK hP hS hl
  have E : CallFix p m c cX8_forget 1 s _ lw_good RX8 := E
  have hx := E.1
  have hb := E.2.1
  have hown := E.2.2.2.1
  have hts := E.2.2.2.2
  have hl : lv_has ls 1 [(0, .ref (gq G (44)))] := hl
  unfold f_X8_forget at hf
  refine lv_aload_n hx hb dX8_forget_0 rfl (lv_at hl 0 rfl) ?_
  refine lv_iconst (v := 0) hx hb dX8_forget_1 (by decide) ?_
  refine x_putI (C := RX8) (T := TX8) (N := 5) (ci := 8) (k := 4) (o := 44) (v := 0) (ty := .int) E hK hq hP hS iwX8 tyX8 tyX8_ok nmX8 rfl rfl (by decide) (by decide) rfl rfl (by decide) rfl (tyX8_ok 4 (by decide)) ⟨rfl, rfl⟩ tw208 dX8_forget_2 (fun H locs hP hS => ?_)
  obtain ⟨S1, hf, hP⟩ := z_ltX hf hP
  exact x_retv hx hb hr hlk hf hP hS dX8_forget_5
theorem cv_X8_forget : z_cv yX8_forget cX8_forget 1 none RX8 0 := ⟨⟨tw551, tw552⟩, tw553, tw9, by decide +kernel⟩
def f_X4_start (N : Nat) (S : St) : Option (St) := z_bv (f_X1_forget N S) fun S1 => z_bv (f_X7_forget N S1) fun S3 => z_bv (f_X8_forget N S3) fun S5 => z_bv (f_X4_forgetFault N S5) fun S7 => z_lt (z_wr S7 29 11 0) fun S9 => z_lt (z_wr S9 35 2 0) fun S10 => z_lt (z_wr S10 35 3 0) fun S11 => z_lt (z_wr S11 35 4 0) fun S12 => z_bv (f_X4_begin N (0) ((-1)) S12) fun S13 => some S13
set_option maxHeartbeats 4000000 in
set_option maxRecDepth 100000 in
theorem c_X4_start {l : Launch} {G : Cx} {M S S' : St} {N : Nat} (hq : z_inj (gq G)) (hf : f_X4_start N S = some S') : z_Ct l yX4_start cX4_start 1 none 1 22 G S M [.ref (gq G (29))] (z_QV G S' M) := by
  refine z_start (by decide +kernel) (Nat.le_of_ble_eq_true rfl) ?_
  intro p e s m below meth c ls E hr hlk hK hP hS hl
  have E : CallFix p m c cX4_start 1 s _ lw_good RX4 := E
  have hx := E.1
  have hb := E.2.1
  have hown := E.2.2.2.1
  have hts := E.2.2.2.2
  have hl : lv_has ls 1 [(0, .ref (gq G (29)))] := hl
  unfold f_X4_start at hf
  refine lv_aload_n hx hb dX4_start_0 rfl (lv_at hl 0 rfl) ?_
  refine z_getR (C := RX4) (T := TX4) (N := 13) (ci := 4) (k := 3) (o := 29) (t := 36) E hK hP iwX4 rfl rfl (by decide) (by decide) rfl rfl rfl tw229 dX4_start_1 ?_
  obtain ⟨S1, hz2, hf⟩ := z_bv_some hf
  refine z_cvo (z_runV (o := 36) (ci := 1) E hK hP hS (c_X1_forget hq hz2) cv_X1_forget tw542 rfl (by decide) rfl rfl ⟨Nat.le_of_ble_eq_true rfl, Nat.le_of_ble_eq_true rfl⟩ ⟨Nat.le_refl 0, Nat.le_refl 0⟩ hl.1 (Nat.le_of_ble_eq_true rfl) rfl dX4_start_4) hS (fun H locs hP hS => ?_)
  refine lv_aload_n hx hb dX4_start_7 rfl (lv_at hl 0 rfl) ?_
  refine z_getR (C := RX4) (T := TX4) (N := 13) (ci := 4) (k := 4) (o := 29) (t := 40) E hK hP iwX4 rfl rfl (by decide) (by decide) rfl rfl rfl tw230 dX4_start_8 ?_
  obtain ⟨S3, hz4, hf⟩ := z_bv_some hf
  refine z_cvo (z_runV (o := 40) (ci := 7) E hK hP hS (c_X7_forget hq hz4) cv_X7_forget tw546 rfl (by decide) rfl rfl ⟨Nat.le_of_ble_eq_true rfl, Nat.le_of_ble_eq_true rfl⟩ ⟨Nat.le_refl 0, Nat.le_refl 0⟩ hl.1 (Nat.le_of_ble_eq_true rfl) rfl dX4_start_11) hS (fun H locs hP hS => ?_)
  refine lv_aload_n hx hb dX4_start_14 rfl (lv_at hl 0 rfl) ?_
  refine z_getR (C := RX4) (T := TX4) (N := 13) (ci := 4) (k := 5) (o := 29) (t := 44) E hK hP iwX4 rfl rfl (by decide) (by decide) rfl rfl rfl tw231 dX4_start_15 ?_
  obtain ⟨S5, hz6, hf⟩ := z_bv_some hf
  refine z_cvo (z_runV (o := 44) (ci := 8) E hK hP hS (c_X8_forget hq hz6) cv_X8_forget tw550 rfl (by decide) rfl rfl ⟨Nat.le_of_ble_eq_true rfl, Nat.le_of_ble_eq_true rfl⟩ ⟨Nat.le_refl 0, Nat.le_refl 0⟩ hl.1 (Nat.le_of_ble_eq_true rfl) rfl dX4_start_18) hS (fun H locs hP hS => ?_)
  refine lv_aload_n hx hb dX4_start_21 rfl (lv_at hl 0 rfl) ?_
  obtain ⟨S7, hz8, hf⟩ := z_bv_some hf
  refine z_cvo (z_runV (o := 29) (ci := 4) E hK hP hS (c_X4_forgetFault hq hz8) cv_X4_forgetFault tw554 rfl (by decide) rfl rfl ⟨Nat.le_of_ble_eq_true rfl, Nat.le_of_ble_eq_true rfl⟩ ⟨Nat.le_refl 0, Nat.le_refl 0⟩ hl.1 (Nat.le_of_ble_eq_true rfl) rfl dX4_start_22) hS (fun H locs hP hS => ?_)
  refine lv_aload_n hx hb dX4_start_25 rfl (lv_at hl 0 rfl) ?_
  refine lv_iconst (v := 0) hx hb dX4_start_26 (by decide) ?_
  refine x_putI (C := RX4) (T := TX4) (N := 13) (ci := 4) (k := 11) (o := 29) (v := 0) (ty := .int) E hK hq hP hS iwX4 tyX4 tyX4_ok nmX4 rfl rfl (by decide) (by decide) rfl rfl (by decide) rfl (tyX4_ok 11 (by decide)) ⟨rfl, rfl⟩ tw237 dX4_start_27 (fun H locs hP hS => ?_)
  obtain ⟨S9, hf, hP⟩ := z_ltX hf hP
  refine lv_aload_n hx hb dX4_start_30 rfl (lv_at hl 0 rfl) ?_
  refine z_getR (C := RX4) (T := TX4) (N := 13) (ci := 4) (k := 2) (o := 29) (t := 35) E hK hP iwX4 rfl rfl (by decide) (by decide) rfl rfl rfl tw228 dX4_start_31 ?_
  refine lv_iconst (v := 0) hx hb dX4_start_34 (by decide) ?_
  refine x_putI (C := RX2) (T := TX2) (N := 7) (ci := 2) (k := 2) (o := 35) (v := 0) (ty := .int) E hK hq hP hS iwX2 tyX2 tyX2_ok nmX2 rfl rfl (by decide) (by decide) rfl rfl (by decide) rfl (tyX2_ok 2 (by decide)) ⟨rfl, rfl⟩ tw96 dX4_start_35 (fun H locs hP hS => ?_)
  obtain ⟨S10, hf, hP⟩ := z_ltX hf hP
  refine lv_aload_n hx hb dX4_start_38 rfl (lv_at hl 0 rfl) ?_
  refine z_getR (C := RX4) (T := TX4) (N := 13) (ci := 4) (k := 2) (o := 29) (t := 35) E hK hP iwX4 rfl rfl (by decide) (by decide) rfl rfl rfl tw228 dX4_start_39 ?_
  refine lv_iconst (v := 0) hx hb dX4_start_42 (by decide) ?_
  refine x_putI (C := RX2) (T := TX2) (N := 7) (ci := 2) (k := 3) (o := 35) (v := 0) (ty := .int) E hK hq hP hS iwX2 tyX2 tyX2_ok nmX2 rfl rfl (by decide) (by decide) rfl rfl (by decide) rfl (tyX2_ok 3 (by decide)) ⟨rfl, rfl⟩ tw99 dX4_start_43 (fun H locs hP hS => ?_)
  obtain ⟨S11, hf, hP⟩ := z_ltX hf hP
  refine lv_aload_n hx hb dX4_start_46 rfl (lv_at hl 0 rfl) ?_
  refine z_getR (C := RX4) (T := TX4) (N := 13) (ci := 4) (k := 2) (o := 29) (t := 35) E hK hP iwX4 rfl rfl (by decide) (by decide) rfl rfl rfl tw228 dX4_start_47 ?_
  refine lv_iconst (v := 0) hx hb dX4_start_50 (by decide) ?_
  refine x_putI (C := RX2) (T := TX2) (N := 7) (ci := 2) (k := 4) (o := 35) (v := 0) (ty := .int) E hK hq hP hS iwX2 tyX2 tyX2_ok nmX2 rfl rfl (by decide) (by decide) rfl rfl (by decide) rfl (tyX2_ok 4 (by decide)) ⟨rfl, rfl⟩ tw101 dX4_start_51 (fun H locs hP hS => ?_)
  obtain ⟨S12, hf, hP⟩ := z_ltX hf hP
  refine lv_aload_n hx hb dX4_start_54 rfl (lv_at hl 0 rfl) ?_
  refine lv_iconst (v := 0) hx hb dX4_start_55 (by decide) ?_
  refine lv_iconst (v := (-1)) hx hb dX4_start_56 (by decide) ?_
  obtain ⟨S13, hz14, hf⟩ := z_bv_some hf
  refine z_cvo (z_runV (o := 29) (ci := 4) E hK hP hS (c_X4_begin hq hz14) cv_X4_begin tw558 rfl (by decide) rfl rfl ⟨Nat.le_of_ble_eq_true rfl, Nat.le_of_ble_eq_true rfl⟩ ⟨Nat.le_refl 0, Nat.le_refl 0⟩ hl.1 (Nat.le_of_ble_eq_true rfl) rfl dX4_start_57) hS (fun H locs hP hS => ?_)
  exact x_retv hx hb hr hlk hf hP hS dX4_start_60
theorem cv_X4_start : z_cv yX4_start cX4_start 1 none RX4 0 := ⟨⟨tw540, twp7⟩, tw541, tw6, by decide +kernel⟩
def f_X7_expressionOf (N : Nat) (a1 : Int32) (S : St) : Option (Int32 × St) := z_bd (f_X9_at N (42) ((a1 - 10000)) S) fun r2 S1 => some (r2, S1)
set_option maxHeartbeats 4000000 in
set_option maxRecDepth 100000 in
theorem c_X7_expressionOf {l : Launch} {G : Cx} {M S S' : St} {N : Nat} {a1 : Int32} {r : Int32} (hq : z_inj (gq G)) (hf : f_X7_expressionOf N a1 S = some (r, S')) : z_Ct l yX7_expressionOf cX7_expressionOf 2 (some .int) 1 21 G S M [.ref (gq G (40)), .int (a1)] (z_QI G S' M r) := by
  refine z_start (by decide +kernel) (Nat.le_of_ble_eq_true rfl) ?_
  intro p e s m below meth c ls E hr hlk hK hP hS hl
  have E : CallFix p m c cX7_expressionOf 2 s _ lw_good RX7 := E
  have hx := E.1
  have hb := E.2.1
  have hown := E.2.2.2.1
  have hts := E.2.2.2.2
  have hl : lv_has ls 2 [(0, .ref (gq G (40))), (1, .int (a1))] := hl
  unfold f_X7_expressionOf at hf
  refine lv_aload_n hx hb dX7_expressionOf_0 rfl (lv_at hl 0 rfl) ?_
  refine z_getR (C := RX7) (T := TX7) (N := 4) (ci := 7) (k := 1) (o := 40) (t := 42) E hK hP iwX7 rfl rfl (by decide) (by decide) rfl rfl rfl tw186 dX7_expressionOf_1 ?_
  refine lv_iload_n hx hb dX7_expressionOf_4 rfl (lv_at hl 1 rfl) ?_
  refine lv_sipush (v := 10000) hx hb dX7_expressionOf_5 (by decide) ?_
  refine lv_isub hx hb dX7_expressionOf_8 ?_
  obtain ⟨r2, S1, hz3, hf⟩ := z_bd_some hf
  refine z_ci (z_runSN (host := RX9) E hK hP hS (c_X9_at hq rfl (by decide) hz3) cs_X9_at (by decide +kernel) rfl ⟨Nat.le_of_ble_eq_true rfl, Nat.le_of_ble_eq_true rfl⟩ ⟨Nat.le_refl 0, Nat.le_refl 0⟩ hl.1 (Nat.le_of_ble_eq_true rfl) rfl dX7_expressionOf_9) hS (fun H locs hP hS => ?_)
  exact x_reti hx hb hr hlk hf hP hS dX7_expressionOf_12
theorem cv_X7_expressionOf : z_cv yX7_expressionOf cX7_expressionOf 2 (some .int) RX7 1 := ⟨⟨tw663, tw664⟩, tw665, tw8, by decide +kernel⟩
def f_X7_kindOf (N : Nat) (a1 : Int32) (S : St) : Option (Int32 × St) := if (a1 - 10000) < 0 then (some (5, S)) else (if (nI (z_ln 41)) ≤ (a1 - 10000) then (some (5, S)) else (z_gd (z_in (a1 - 10000) (z_ln 41)) (some ((S 41 ((a1 - 10000) : Int32).toNatClampNeg), S))))
set_option maxHeartbeats 4000000 in
set_option maxRecDepth 100000 in
theorem c_X7_kindOf {l : Launch} {G : Cx} {M S S' : St} {N : Nat} {a1 : Int32} {r : Int32} (hq : z_inj (gq G)) (hf : f_X7_kindOf N a1 S = some (r, S')) : z_Ct l yX7_kindOf cX7_kindOf 3 (some .int) 0 0 G S M [.ref (gq G (40)), .int (a1)] (z_QI G S' M r) := by
  refine z_start (by decide +kernel) (Nat.le_of_ble_eq_true rfl) ?_
  intro p e s m below meth c ls E hr hlk hK hP hS hl
  have E : CallFix p m c cX7_kindOf 3 s _ lw_good RX7 := E
  have hx := E.1
  have hb := E.2.1
  have hown := E.2.2.2.1
  have hts := E.2.2.2.2
  have hl : lv_has ls 3 [(0, .ref (gq G (40))), (1, .int (a1))] := hl
  unfold f_X7_kindOf at hf
  refine lv_iload_n hx hb dX7_kindOf_0 rfl (lv_at hl 1 rfl) ?_
  refine lv_sipush (v := 10000) hx hb dX7_kindOf_1 (by decide) ?_
  refine lv_isub hx hb dX7_kindOf_4 ?_
  refine lv_istore_n (lv' := [(2, .int ((a1 - 10000))), (0, .ref (gq G (40))), (1, .int (a1))]) hx hb dX7_kindOf_5 rfl hl (by decide) rfl (fun ls hl => ?_)
  refine lv_iload_n hx hb dX7_kindOf_6 rfl (lv_at hl 0 rfl) ?_
  refine lv_if_lt (tgt := 28) hx hb dX7_kindOf_7 (by decide) (fun hc1 => ?_) (fun hc1 => ?_)
  · replace hf := z_ifp hf hc1
    refine lv_iconst (v := 5) hx hb dX7_kindOf_28 (by decide) ?_
    exact x_reti hx hb hr hlk hf hP hS dX7_kindOf_29
  · replace hf := z_ifn hf hc1
    refine lv_iload_n hx hb dX7_kindOf_10 rfl (lv_at hl 0 rfl) ?_
    refine lv_aload_n hx hb dX7_kindOf_11 rfl (lv_at hl 1 rfl) ?_
    refine z_getR (C := RX7) (T := TX7) (N := 4) (ci := 7) (k := 0) (o := 40) (t := 41) E hK hP iwX7 rfl rfl (by decide) (by decide) rfl rfl rfl tw185 dX7_kindOf_12 ?_
    refine z_aln (o := 41) E hK hP rfl dX7_kindOf_15 ?_
    refine lv_icmp_ge (tgt := 28) hx hb dX7_kindOf_16 (by decide) (fun hc2 => ?_) (fun hc2 => ?_)
    · replace hf := z_ifp hf hc2
      refine lv_iconst (v := 5) hx hb dX7_kindOf_28 (by decide) ?_
      exact x_reti hx hb hr hlk hf hP hS dX7_kindOf_29
    · replace hf := z_ifn hf hc2
      refine lv_aload_n hx hb dX7_kindOf_19 rfl (lv_at hl 1 rfl) ?_
      refine z_getR (C := RX7) (T := TX7) (N := 4) (ci := 7) (k := 0) (o := 40) (t := 41) E hK hP iwX7 rfl rfl (by decide) (by decide) rfl rfl rfl tw185 dX7_kindOf_20 ?_
      refine lv_iload_n hx hb dX7_kindOf_23 rfl (lv_at hl 0 rfl) ?_
      obtain ⟨hg3, hf⟩ := z_gd_some hf
      refine x_ald (o := 41) (i := (a1 - 10000)) E hK hP rfl (by decide) hg3 dX7_kindOf_24 ?_
      refine lv_goto (tgt := 29) hx hb dX7_kindOf_25 (by decide) ?_
      exact x_reti hx hb hr hlk hf hP hS dX7_kindOf_29
theorem cv_X7_kindOf : z_cv yX7_kindOf cX7_kindOf 3 (some .int) RX7 1 := ⟨⟨tw685, tw686⟩, tw687, tw8, by decide +kernel⟩
def f_X7_isFunction (N : Nat) (a1 : Int32) (S : St) : Option (Int32 × St) := z_bd (f_X7_kindOf N (a1) S) fun r2 S1 => if r2 = 4 then (some (1, S1)) else (some (0, S1))
set_option maxHeartbeats 4000000 in
set_option maxRecDepth 100000 in
theorem c_X7_isFunction {l : Launch} {G : Cx} {M S S' : St} {N : Nat} {a1 : Int32} {r : Int32} (hq : z_inj (gq G)) (hf : f_X7_isFunction N a1 S = some (r, S')) : z_Ct l yX7_isFunction cX7_isFunction 2 (some .boolean) 1 22 G S M [.ref (gq G (40)), .int (a1)] (z_QI G S' M r) := by
  refine z_start (by decide +kernel) (Nat.le_of_ble_eq_true rfl) ?_
  intro p e s m below meth c ls E hr hlk hK hP hS hl
  have E : CallFix p m c cX7_isFunction 2 s _ lw_good RX7 := E
  have hx := E.1
  have hb := E.2.1
  have hown := E.2.2.2.1
  have hts := E.2.2.2.2
  have hl : lv_has ls 2 [(0, .ref (gq G (40))), (1, .int (a1))] := hl
  unfold f_X7_isFunction at hf
  refine lv_aload_n hx hb dX7_isFunction_0 rfl (lv_at hl 0 rfl) ?_
  refine lv_iload_n hx hb dX7_isFunction_1 rfl (lv_at hl 1 rfl) ?_
  obtain ⟨r2, S1, hz3, hf⟩ := z_bd_some hf
  refine z_ci (z_runV (o := 40) (ci := 7) E hK hP hS (c_X7_kindOf hq hz3) cv_X7_kindOf tw684 rfl (by decide) rfl rfl ⟨Nat.le_of_ble_eq_true rfl, Nat.le_of_ble_eq_true rfl⟩ ⟨Nat.le_refl 0, Nat.le_refl 0⟩ hl.1 (Nat.le_of_ble_eq_true rfl) rfl dX7_isFunction_2) hS (fun H locs hP hS => ?_)
  refine lv_iconst (v := 4) hx hb dX7_isFunction_5 (by decide) ?_
  refine lv_icmp_ne (tgt := 13) hx hb dX7_isFunction_6 (by decide) (fun hc4 => ?_) (fun hc4 => ?_)
  · replace hf := z_ifn hf hc4
    refine lv_iconst (v := 0) hx hb dX7_isFunction_13 (by decide) ?_
    exact x_retz hx hb hr hlk rfl hf hP hS dX7_isFunction_14
  · replace hf := z_ifp hf hc4
    refine lv_iconst (v := 1) hx hb dX7_isFunction_9 (by decide) ?_
    refine lv_goto (tgt := 14) hx hb dX7_isFunction_10 (by decide) ?_
    exact x_retz hx hb hr hlk rfl hf hP hS dX7_isFunction_14
theorem cv_X7_isFunction : z_cv yX7_isFunction cX7_isFunction 2 (some .boolean) RX7 1 := ⟨⟨tw681, tw682⟩, tw683, tw8, by decide +kernel⟩
def f_X7_isNumber (N : Nat) (a1 : Int32) (S : St) : Option (Int32 × St) := if 10000 ≤ a1 then (some (0, S)) else (some (1, S))
set_option maxHeartbeats 4000000 in
set_option maxRecDepth 100000 in
theorem c_X7_isNumber {l : Launch} {G : Cx} {M S S' : St} {N : Nat} {a1 : Int32} {r : Int32} (hq : z_inj (gq G)) (hf : f_X7_isNumber N a1 S = some (r, S')) : z_Ct l yX7_isNumber cX7_isNumber 1 (some .boolean) 0 0 G S M [.int (a1)] (z_QI G S' M r) := by
  refine z_start (by decide +kernel) (Nat.le_of_ble_eq_true rfl) ?_
  intro p e s m below meth c ls E hr hlk hK hP hS hl
  have E : CallFix p m c cX7_isNumber 1 s _ lw_good RX7 := E
  have hx := E.1
  have hb := E.2.1
  have hown := E.2.2.2.1
  have hts := E.2.2.2.2
  have hl : lv_has ls 1 [(0, .int (a1))] := hl
  unfold f_X7_isNumber at hf
  refine lv_iload_n hx hb dX7_isNumber_0 rfl (lv_at hl 0 rfl) ?_
  refine lv_sipush (v := 10000) hx hb dX7_isNumber_1 (by decide) ?_
  refine lv_icmp_ge (tgt := 11) hx hb dX7_isNumber_4 (by decide) (fun hc1 => ?_) (fun hc1 => ?_)
  · replace hf := z_ifp hf hc1
    refine lv_iconst (v := 0) hx hb dX7_isNumber_11 (by decide) ?_
    exact x_retz hx hb hr hlk rfl hf hP hS dX7_isNumber_12
  · replace hf := z_ifn hf hc1
    refine lv_iconst (v := 1) hx hb dX7_isNumber_7 (by decide) ?_
    refine lv_goto (tgt := 12) hx hb dX7_isNumber_8 (by decide) ?_
    exact x_retz hx hb hr hlk rfl hf hP hS dX7_isNumber_12
theorem cs_X7_isNumber : z_cs yX7_isNumber cX7_isNumber 1 (some .boolean) 1 := ⟨tw652, tw653, tw8, by decide +kernel⟩
