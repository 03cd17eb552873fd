def b_X10_whatIs_40 (N : Nat) (k17 : Int32 → Int32 → Int32 → St → Option (Int32 × St)) (v1 : Int32) (v3 : Int32) (t0 : Int32) (t1 : Int32) (S : St) : Option (Int32 × St) := k17 (v1) ((t1 ||| t0)) ((v3 + 1)) S
def b_X10_whatIs_17 (N : Nat) (k17 : Int32 → Int32 → Int32 → St → Option (Int32 × St)) (v1 : Int32) (v2 : Int32) (v3 : Int32) (S : St) : Option (Int32 × St) := if 16 ≤ v3 then (some (v2, S)) else (z_bd (f_X10_endsSo N (v1) (v3) S) fun r10 S9 => if r10 = 0 then (b_X10_whatIs_40 N k17 (v1) (v3) (0) (v2) S9) else (b_X10_whatIs_40 N k17 (v1) (v3) ((1 <<< (v3 &&& 31))) (v2) S9))
def f_X10_whatIs_17 (N : Nat) : Nat → Int32 → Int32 → Int32 → St → Option (Int32 × St)
  | 0 => fun _ _ _ _ => none
  | n + 1 => b_X10_whatIs_17 N (f_X10_whatIs_17 N n)
def f_X10_whatIs (N : Nat) (a1 : Int32) (S : St) : Option (Int32 × St) := z_bd (f_X10_isVariable N (a1) S) fun r2 S1 => if r2 = 0 then (z_bd (f_X10_no N ((-1)) S1) fun r6 S5 => some (r6, S5)) else (f_X10_whatIs_17 N N (a1) (0) (0) S1)
set_option maxHeartbeats 4000000 in
set_option maxRecDepth 100000 in
theorem c_X10_whatIs {l : Launch} {G : Cx} {X S S' : St} {N : Nat} {a1 : Int32} {r : Int32} (hq : z_inj (gq G)) (hf : f_X10_whatIs N a1 S = some (r, S')) : z_Ct l yX10_whatIs cX10_whatIs 4 (some .int) 8 179 G X S [.ref (gq G (65)), .int (a1)] (z_QI G X S' r) := by
  refine z_start (by decide +kernel) (Nat.le_of_ble_eq_true rfl) ?_
  intro p e s m below meth c ls E hr hlk hK hP hS hl
  have E : CallFix p m c cX10_whatIs 4 s _ lw_good RX10 := E
  have hx := E.1
  have hb := E.2.1
  have hown := E.2.2.2.1
  have hts := E.2.2.2.2
  have hJ40 : ∀ (k17 : Int32 → Int32 → Int32 → St → Option (Int32 × St)) (hk17 : ∀ (v1 : Int32) (v2 : Int32) (v3 : Int32) (S : St) (H : Heap) (locs : List Loc) (ls : Array Slot), k17 v1 v2 v3 S = some (r, S') → z_P G X S H → z_S G s.heap H locs → lv_has ls 4 [(0, .ref (gq G (65))), (1, .int (v1)), (2, .int (v2)), (3, .int (v3))] → W p l e (z_rm 8 179) s m ([.ref (gq G (65)), .int (a1)] : List Value).toArray below meth c H locs 0 0 (MQ below (z_QI G X S' r) ([.ref (gq G (65)), .int (a1)] : List Value).toArray s 0 0 (z_Aq (gq G))) (F0 m 17 ls [])), ∀ (v1 : Int32) (v3 : Int32) (t0 : Int32) (t1 : Int32) (S : St) (H : Heap) (locs : List Loc) (ls : Array Slot), b_X10_whatIs_40 N k17 v1 v3 t0 t1 S = some (r, S') → z_P G X S H → z_S G s.heap H locs → lv_has ls 4 [(0, .ref (gq G (65))), (1, .int (v1)), (3, .int (v3))] → W p l e (z_rm 8 179) s m ([.ref (gq G (65)), .int (a1)] : List Value).toArray below meth c H locs 0 0 (MQ below (z_QI G X S' r) ([.ref (gq G (65)), .int (a1)] : List Value).toArray s 0 0 (z_Aq (gq G))) (F0 m 40 ls [.int (t0), .int (t1)]) := by
    intro k17 hk17 v1 v3 t0 t1 S H locs ls hf hP hS hl
    unfold b_X10_whatIs_40 at hf
    refine lv_ior hx hb dX10_whatIs_40 ?_
    refine lv_istore_n (lv' := [(2, .int ((t1 ||| t0))), (0, .ref (gq G (65))), (1, .int (v1)), (3, .int (v3))]) hx hb dX10_whatIs_41 rfl hl (by decide) rfl (fun ls hl => ?_)
    refine lv_iinc (v := (v3 + 1)) (lv' := [(3, .int ((v3 + 1))), (2, .int ((t1 ||| t0))), (0, .ref (gq G (65))), (1, .int (v1))]) hx hb dX10_whatIs_42 hl (k := 3) rfl rfl (by decide) rfl (fun ls hl => ?_)
    refine lv_goto (tgt := 17) hx hb dX10_whatIs_45 (by decide) ?_
    exact hk17 (v1) ((t1 ||| t0)) ((v3 + 1)) S _ _ _ hf hP hS (lv_sub hl [2, 3, 1, 0] rfl)
  have hB17 : ∀ (k17 : Int32 → Int32 → Int32 → St → Option (Int32 × St)) (hk17 : ∀ (v1 : Int32) (v2 : Int32) (v3 : Int32) (S : St) (H : Heap) (locs : List Loc) (ls : Array Slot), k17 v1 v2 v3 S = some (r, S') → z_P G X S H → z_S G s.heap H locs → lv_has ls 4 [(0, .ref (gq G (65))), (1, .int (v1)), (2, .int (v2)), (3, .int (v3))] → W p l e (z_rm 8 179) s m ([.ref (gq G (65)), .int (a1)] : List Value).toArray below meth c H locs 0 0 (MQ below (z_QI G X S' r) ([.ref (gq G (65)), .int (a1)] : List Value).toArray s 0 0 (z_Aq (gq G))) (F0 m 17 ls [])), ∀ (v1 : Int32) (v2 : Int32) (v3 : Int32) (S : St) (H : Heap) (locs : List Loc) (ls : Array Slot), b_X10_whatIs_17 N k17 v1 v2 v3 S = some (r, S') → z_P G X S H → z_S G s.heap H locs → lv_has ls 4 [(0, .ref (gq G (65))), (1, .int (v1)), (2, .int (v2)), (3, .int (v3))] → W p l e (z_rm 8 179) s m ([.ref (gq G (65)), .int (a1)] : List Value).toArray below meth c H locs 0 0 (MQ below (z_QI G X S' r) ([.ref (gq G (65)), .int (a1)] : List Value).toArray s 0 0 (z_Aq (gq G))) (F0 m 17 ls []) := by
    intro k17 hk17 v1 v2 v3 S H locs ls hf hP hS hl
    unfold b_X10_whatIs_17 at hf
    refine lv_iload_n hx hb dX10_whatIs_17 rfl (lv_at hl 3 rfl) ?_
    refine lv_bipush (v := 16) hx hb dX10_whatIs_18 (by decide) ?_
    refine lv_icmp_ge (tgt := 48) hx hb dX10_whatIs_20 (by decide) (fun hc8 => ?_) (fun hc8 => ?_)
    · replace hf := z_ifp hf hc8
      refine lv_iload_n hx hb dX10_whatIs_48 rfl (lv_at hl 2 rfl) ?_
      exact m_reti hx hb hr hlk hf hP hS dX10_whatIs_49
    · replace hf := z_ifn hf hc8
      refine lv_iload_n hx hb dX10_whatIs_23 rfl (lv_at hl 2 rfl) ?_
      refine lv_aload_n hx hb dX10_whatIs_24 rfl (lv_at hl 0 rfl) ?_
      refine lv_iload_n hx hb dX10_whatIs_25 rfl (lv_at hl 1 rfl) ?_
      refine lv_iload_n hx hb dX10_whatIs_26 rfl (lv_at hl 3 rfl) ?_
      obtain ⟨r10, S9, hz11, hf⟩ := z_bd_some hf
      refine z_ci (z_runV (o := 65) (ci := 10) E hK hP hS (c_X10_endsSo hq hz11) cv_X10_endsSo tw1428 rfl (by decide) rfl rfl ⟨Nat.le_of_ble_eq_true rfl, Nat.le_of_ble_eq_true rfl⟩ ⟨Nat.le_refl 0, Nat.le_refl 0⟩ hl.1 (Nat.le_of_ble_eq_true rfl) rfl dX10_whatIs_27) hS (fun H locs hP hS => ?_)
      refine lv_if_eq (tgt := 39) hx hb dX10_whatIs_30 (by decide) (fun hc12 => ?_) (fun hc12 => ?_)
      · replace hf := z_ifp hf hc12
        refine lv_iconst (v := 0) hx hb dX10_whatIs_39 (by decide) ?_
        exact hJ40 k17 hk17 (v1) (v3) (0) (v2) S9 _ _ _ hf hP hS (lv_sub hl [0, 1, 3] rfl)
      · replace hf := z_ifn hf hc12
        refine lv_iconst (v := 1) hx hb dX10_whatIs_33 (by decide) ?_
        refine lv_iload_n hx hb dX10_whatIs_34 rfl (lv_at hl 3 rfl) ?_
        refine lv_ishl hx hb dX10_whatIs_35 ?_
        refine lv_goto (tgt := 40) hx hb dX10_whatIs_36 (by decide) ?_
        exact hJ40 k17 hk17 (v1) (v3) ((1 <<< (v3 &&& 31))) (v2) S9 _ _ _ hf hP hS (lv_sub hl [0, 1, 3] rfl)
  have hL17 : ∀ (n : Nat), ∀ (v1 : Int32) (v2 : Int32) (v3 : Int32) (S : St) (H : Heap) (locs : List Loc) (ls : Array Slot), f_X10_whatIs_17 N n v1 v2 v3 S = some (r, S') → z_P G X S H → z_S G s.heap H locs → lv_has ls 4 [(0, .ref (gq G (65))), (1, .int (v1)), (2, .int (v2)), (3, .int (v3))] → W p l e (z_rm 8 179) s m ([.ref (gq G (65)), .int (a1)] : List Value).toArray below meth c H locs 0 0 (MQ below (z_QI G X S' r) ([.ref (gq G (65)), .int (a1)] : List Value).toArray s 0 0 (z_Aq (gq G))) (F0 m 17 ls []) := by
    intro  n
    induction n with
    | zero => intro _ _ _ _ _ _ _ hf; cases hf
    | succ n ih => exact hB17  _  ih
  have hl : lv_has ls 4 [(0, .ref (gq G (65))), (1, .int (a1))] := hl
  unfold f_X10_whatIs at hf
  refine lv_iload_n hx hb dX10_whatIs_0 rfl (lv_at hl 1 rfl) ?_
  obtain ⟨r2, S1, hz3, hf⟩ := z_bd_some hf
  refine z_ci (z_runS E hK hP hS (c_X10_isVariable hq hz3) cs_X10_isVariable tw1344 rfl ⟨Nat.le_of_ble_eq_true rfl, Nat.le_of_ble_eq_true rfl⟩ ⟨Nat.le_refl 0, Nat.le_refl 0⟩ hl.1 (Nat.le_of_ble_eq_true rfl) rfl dX10_whatIs_1) hS (fun H locs hP hS => ?_)
  refine lv_if_ne (tgt := 13) hx hb dX10_whatIs_4 (by decide) (fun hc4 => ?_) (fun hc4 => ?_)
  · replace hf := z_ifn hf hc4
    refine lv_iconst (v := 0) hx hb dX10_whatIs_13 (by decide) ?_
    refine lv_istore_n (lv' := [(2, .int (0)), (0, .ref (gq G (65))), (1, .int (a1))]) hx hb dX10_whatIs_14 rfl hl (by decide) rfl (fun ls hl => ?_)
    refine lv_iconst (v := 0) hx hb dX10_whatIs_15 (by decide) ?_
    refine lv_istore_n (lv' := [(3, .int (0)), (2, .int (0)), (0, .ref (gq G (65))), (1, .int (a1))]) hx hb dX10_whatIs_16 rfl hl (by decide) rfl (fun ls hl => ?_)
    exact hL17 N (a1) (0) (0) S1 _ _ _ hf hP hS (lv_sub hl [2, 3, 1, 0] rfl)
  · replace hf := z_ifp hf hc4
    refine lv_aload_n hx hb dX10_whatIs_7 rfl (lv_at hl 0 rfl) ?_
    refine lv_iconst (v := (-1)) hx hb dX10_whatIs_8 (by decide) ?_
    obtain ⟨r6, S5, hz7, hf⟩ := z_bd_some hf
    refine z_ci (z_runV (o := 65) (ci := 10) E hK hP hS (c_X10_no hq hz7) cv_X10_no tw1185 rfl (by decide) rfl rfl ⟨Nat.le_of_ble_eq_true rfl, Nat.le_of_ble_eq_true rfl⟩ ⟨Nat.le_refl 0, Nat.le_refl 0⟩ hl.1 (Nat.le_of_ble_eq_true rfl) rfl dX10_whatIs_9) hS (fun H locs hP hS => ?_)
    exact m_reti hx hb hr hlk hf hP hS dX10_whatIs_12
theorem cv_X10_whatIs : z_cv yX10_whatIs cX10_whatIs 4 (some .int) RX10 1 := ⟨⟨tw1425, tw1426⟩, tw1427, tw11, by decide +kernel⟩
def b_X10_row_24 (N : Nat) (v1 : Int32) (v2 : Int32) (S : St) : Option (Int32 × St) := if v2 = 0 then (z_gd (z_in (S 65 69) (z_ln 100)) (z_lt (z_wr S 100 ((S 65 69) : Int32).toNatClampNeg v1) fun S8 => z_lt (z_wr S8 65 69 ((S8 65 69) + 1)) fun S9 => some ((S9 65 69), S9))) else (z_bd (f_X10_no N (v2) S) fun r11 S10 => some (r11, S10))
def f_X10_row (N : Nat) (a1 : Int32) (S : St) : Option (Int32 × St) := z_bd (f_X10_bound N (a1) (0) (99) S) fun r2 S1 => if r2 = 0 then (if (S1 65 69) = 16 then (b_X10_row_24 N (a1) ((-6)) S1) else (b_X10_row_24 N (a1) (r2) S1)) else (b_X10_row_24 N (a1) (r2) S1)
set_option maxHeartbeats 4000000 in
set_option maxRecDepth 100000 in
theorem c_X10_row {l : Launch} {G : Cx} {X S S' : St} {N : Nat} {a1 : Int32} {r : Int32} (hq : z_inj (gq G)) (hf : f_X10_row N a1 S = some (r, S')) : z_Ct l yX10_row cX10_row 3 (some .int) 1 22 G X S [.ref (gq G (65)), .int (a1)] (z_QI G X S' r) := by
  refine z_start (by decide +kernel) (Nat.le_of_ble_eq_true rfl) ?_
  intro p e s m below meth c ls E hr hlk hK hP hS hl
  have E : CallFix p m c cX10_row 3 s _ lw_good RX10 := E
  have hx := E.1
  have hb := E.2.1
  have hown := E.2.2.2.1
  have hts := E.2.2.2.2
  have hJ24 : ∀ (v1 : Int32) (v2 : Int32) (S : St) (H : Heap) (locs : List Loc) (ls : Array Slot), b_X10_row_24 N v1 v2 S = some (r, S') → z_P G X S H → z_S G s.heap H locs → lv_has ls 3 [(0, .ref (gq G (65))), (1, .int (v1)), (2, .int (v2))] → W p l e (z_rm 1 22) s m ([.ref (gq G (65)), .int (a1)] : List Value).toArray below meth c H locs 0 0 (MQ below (z_QI G X S' r) ([.ref (gq G (65)), .int (a1)] : List Value).toArray s 0 0 (z_Aq (gq G))) (F0 m 24 ls []) := by
    intro v1 v2 S H locs ls hf hP hS hl
    unfold b_X10_row_24 at hf
    refine lv_iload_n hx hb dX10_row_24 rfl (lv_at hl 2 rfl) ?_
    refine lv_if_eq (tgt := 34) hx hb dX10_row_25 (by decide) (fun hc6 => ?_) (fun hc6 => ?_)
    · replace hf := z_ifp hf hc6
      refine lv_aload_n hx hb dX10_row_34 rfl (lv_at hl 0 rfl) ?_
      refine z_getR (C := RX10) (T := TX10) (N := 75) (ci := 10) (k := 68) (o := 65) (t := 100) E hK hP iwX10 rfl rfl (by decide) (by decide) rfl rfl rfl tw1020 dX10_row_35 ?_
      refine lv_aload_n hx hb dX10_row_38 rfl (lv_at hl 0 rfl) ?_
      refine m_getI (C := RX10) (T := TX10) (N := 75) (ci := 10) (k := 69) (o := 65) E hK hP iwX10 rfl rfl (by decide) (by decide) rfl rfl (by decide) tw1021 dX10_row_39 ?_
      refine lv_iload_n hx hb dX10_row_42 rfl (lv_at hl 1 rfl) ?_
      obtain ⟨hg7, hf⟩ := z_gd_some hf
      refine m_ast (o := 100) (i := (S 65 69)) (v := v1) E hK hq hP hS rfl (by decide) hg7 dX10_row_43 (fun H locs hP hS => ?_)
      obtain ⟨S8, hf, hP⟩ := z_ltM hf hP
      refine lv_aload_n hx hb dX10_row_44 rfl (lv_at hl 0 rfl) ?_
      refine lv_dup hx hb dX10_row_45 rfl ?_
      refine m_getI (C := RX10) (T := TX10) (N := 75) (ci := 10) (k := 69) (o := 65) E hK hP iwX10 rfl rfl (by decide) (by decide) rfl rfl (by decide) tw1021 dX10_row_46 ?_
      refine lv_iconst (v := 1) hx hb dX10_row_49 (by decide) ?_
      refine lv_iadd hx hb dX10_row_50 ?_
      refine m_putI (C := RX10) (T := TX10) (N := 75) (ci := 10) (k := 69) (o := 65) (v := ((S8 65 69) + 1)) (ty := .int) E hK hq hP hS iwX10 tyX10 tyX10_ok nmX10 rfl rfl (by decide) (by decide) rfl rfl (by decide) rfl (tyX10_ok 69 (by decide)) ⟨rfl, rfl⟩ tw1021 dX10_row_51 (fun H locs hP hS => ?_)
      obtain ⟨S9, hf, hP⟩ := z_ltM hf hP
      refine lv_aload_n hx hb dX10_row_54 rfl (lv_at hl 0 rfl) ?_
      refine m_getI (C := RX10) (T := TX10) (N := 75) (ci := 10) (k := 69) (o := 65) E hK hP iwX10 rfl rfl (by decide) (by decide) rfl rfl (by decide) tw1021 dX10_row_55 ?_
      exact m_reti hx hb hr hlk hf hP hS dX10_row_58
    · replace hf := z_ifn hf hc6
      refine lv_aload_n hx hb dX10_row_28 rfl (lv_at hl 0 rfl) ?_
      refine lv_iload_n hx hb dX10_row_29 rfl (lv_at hl 2 rfl) ?_
      obtain ⟨r11, S10, hz12, hf⟩ := z_bd_some hf
      refine z_ci (z_runV (o := 65) (ci := 10) E hK hP hS (c_X10_no hq hz12) cv_X10_no tw1185 rfl (by decide) rfl rfl ⟨Nat.le_of_ble_eq_true rfl, Nat.le_of_ble_eq_true rfl⟩ ⟨Nat.le_refl 0, Nat.le_refl 0⟩ hl.1 (Nat.le_of_ble_eq_true rfl) rfl dX10_row_30) hS (fun H locs hP hS => ?_)
      exact m_reti hx hb hr hlk hf hP hS dX10_row_33
  have hl : lv_has ls 3 [(0, .ref (gq G (65))), (1, .int (a1))] := hl
  unfold f_X10_row at hf
  refine lv_iload_n hx hb dX10_row_0 rfl (lv_at hl 1 rfl) ?_
  refine lv_iconst (v := 0) hx hb dX10_row_1 (by decide) ?_
  refine lv_bipush (v := 99) hx hb dX10_row_2 (by decide) ?_
  obtain ⟨r2, S1, hz3, hf⟩ := z_bd_some hf
  refine z_ci (z_runS E hK hP hS (c_X10_bound hq hz3) cs_X10_bound tw1182 rfl ⟨Nat.le_of_ble_eq_true rfl, Nat.le_of_ble_eq_true rfl⟩ ⟨Nat.le_refl 0, Nat.le_refl 0⟩ hl.1 (Nat.le_of_ble_eq_true rfl) rfl dX10_row_4) hS (fun H locs hP hS => ?_)
  refine lv_istore_n (lv' := [(2, .int (r2)), (0, .ref (gq G (65))), (1, .int (a1))]) hx hb dX10_row_7 rfl hl (by decide) rfl (fun ls hl => ?_)
  refine lv_iload_n hx hb dX10_row_8 rfl (lv_at hl 0 rfl) ?_
  refine lv_if_ne (tgt := 24) hx hb dX10_row_9 (by decide) (fun hc4 => ?_) (fun hc4 => ?_)
  · replace hf := z_ifn hf hc4
    exact hJ24 (a1) (r2) S1 _ _ _ hf hP hS (lv_sub hl [1, 2, 0] rfl)
  · replace hf := z_ifp hf hc4
    refine lv_aload_n hx hb dX10_row_12 rfl (lv_at hl 1 rfl) ?_
    refine m_getI (C := RX10) (T := TX10) (N := 75) (ci := 10) (k := 69) (o := 65) E hK hP iwX10 rfl rfl (by decide) (by decide) rfl rfl (by decide) tw1021 dX10_row_13 ?_
    refine lv_bipush (v := 16) hx hb dX10_row_16 (by decide) ?_
    refine lv_icmp_ne (tgt := 24) hx hb dX10_row_18 (by decide) (fun hc5 => ?_) (fun hc5 => ?_)
    · replace hf := z_ifn hf hc5
      exact hJ24 (a1) (r2) S1 _ _ _ hf hP hS (lv_sub hl [1, 2, 0] rfl)
    · replace hf := z_ifp hf hc5
      refine lv_bipush (v := (-6)) hx hb dX10_row_21 (by decide) ?_
      refine lv_istore_n (lv' := [(2, .int ((-6))), (0, .ref (gq G (65))), (1, .int (a1))]) hx hb dX10_row_23 rfl hl (by decide) rfl (fun ls hl => ?_)
      exact hJ24 (a1) ((-6)) S1 _ _ _ hf hP hS (lv_sub hl [1, 2, 0] rfl)
theorem cv_X10_row : z_cv yX10_row cX10_row 3 (some .int) RX10 1 := ⟨⟨tw1433, tw1434⟩, tw1435, tw11, by decide +kernel⟩
def b_X10_judge_12 (N : Nat) (k12 : Int32 → Int32 → St → Option (Int32 × St)) (v1 : Int32) (v2 : Int32) (S : St) : Option (Int32 × St) := if v1 ≤ v2 then (some ((-9), S)) else (z_bv (f_X10_goesWith N (0) (v2) S) fun S3 => z_bd (f_X10_howNow N S3) fun r6 S5 => if r6 = 0 then (z_bd (f_X10_numberNow N S5) fun r10 S9 => z_gd (z_in v2 (z_ln 100)) (if r10 = (S9 100 (v2 : Int32).toNatClampNeg) then (k12 (v1) ((v2 + 1)) S9) else (some (v2, S9)))) else (some (v2, S5)))
def f_X10_judge_12 (N : Nat) : Nat → Int32 → Int32 → St → Option (Int32 × St)
  | 0 => fun _ _ _ => none
  | n + 1 => b_X10_judge_12 N (f_X10_judge_12 N n)
def f_X10_judge (N : Nat) (S : St) : Option (Int32 × St) := z_lt (z_wr S 65 69 0) fun S1 => f_X10_judge_12 N N ((S 65 69)) (0) S1
set_option maxHeartbeats 4000000 in
set_option maxRecDepth 100000 in
theorem c_X10_judge {l : Launch} {G : Cx} {X S S' : St} {N : Nat} {r : Int32} (hq : z_inj (gq G)) (hf : f_X10_judge N S = some (r, S')) : z_Ct l yX10_judge cX10_judge 3 (some .int) 7 156 G X S [.ref (gq G (65))] (z_QI G X S' r) := by
  refine z_start (by decide +kernel) (Nat.le_of_ble_eq_true rfl) ?_
  intro p e s m below meth c ls E hr hlk hK hP hS hl
  have E : CallFix p m c cX10_judge 3 s _ lw_good RX10 := E
  have hx := E.1
  have hb := E.2.1
  have hown := E.2.2.2.1
  have hts := E.2.2.2.2
  have hB12 : ∀ (k12 : Int32 → Int32 → St → Option (Int32 × St)) (hk12 : ∀ (v1 : Int32) (v2 : Int32) (S : St) (H : Heap) (locs : List Loc) (ls : Array Slot), k12 v1 v2 S = some (r, S') → z_P G X S H → z_S G s.heap H locs → lv_has ls 3 [(0, .ref (gq G (65))), (1, .int (v1)), (2, .int (v2))] → W p l e (z_rm 7 156) s m ([.ref (gq G (65))] : List Value).toArray below meth c H locs 0 0 (MQ below (z_QI G X S' r) ([.ref (gq G (65))] : List Value).toArray s 0 0 (z_Aq (gq G))) (F0 m 12 ls [])), ∀ (v1 : Int32) (v2 : Int32) (S : St) (H : Heap) (locs : List Loc) (ls : Array Slot), b_X10_judge_12 N k12 v1 v2 S = some (r, S') → z_P G X S H → z_S G s.heap H locs → lv_has ls 3 [(0, .ref (gq G (65))), (1, .int (v1)), (2, .int (v2))] → W p l e (z_rm 7 156) s m ([.ref (gq G (65))] : List Value).toArray below meth c H locs 0 0 (MQ below (z_QI G X S' r) ([.ref (gq G (65))] : List Value).toArray s 0 0 (z_Aq (gq G))) (F0 m 12 ls []) := by
    intro k12 hk12 v1 v2 S H locs ls hf hP hS hl
    unfold b_X10_judge_12 at hf
    refine lv_iload_n hx hb dX10_judge_12 rfl (lv_at hl 2 rfl) ?_
    refine lv_iload_n hx hb dX10_judge_13 rfl (lv_at hl 1 rfl) ?_
    refine lv_icmp_ge (tgt := 51) hx hb dX10_judge_14 (by decide) (fun hc2 => ?_) (fun hc2 => ?_)
    · replace hf := z_ifp hf hc2
      refine lv_bipush (v := (-9)) hx hb dX10_judge_51 (by decide) ?_
      exact m_reti hx hb hr hlk hf hP hS dX10_judge_53
    · replace hf := z_ifn hf hc2
      refine lv_aload_n hx hb dX10_judge_17 rfl (lv_at hl 0 rfl) ?_
      refine lv_iconst (v := 0) hx hb dX10_judge_18 (by decide) ?_
      refine lv_iload_n hx hb dX10_judge_19 rfl (lv_at hl 2 rfl) ?_
      obtain ⟨S3, hz4, hf⟩ := z_bv_some hf
      refine z_cvo (z_runV (o := 65) (ci := 10) E hK hP hS (c_X10_goesWith hq hz4) cv_X10_goesWith tw1363 rfl (by decide) rfl rfl ⟨Nat.le_of_ble_eq_true rfl, Nat.le_of_ble_eq_true rfl⟩ ⟨Nat.le_refl 0, Nat.le_refl 0⟩ hl.1 (Nat.le_of_ble_eq_true rfl) rfl dX10_judge_20) hS (fun H locs hP hS => ?_)
      refine lv_aload_n hx hb dX10_judge_23 rfl (lv_at hl 0 rfl) ?_
      obtain ⟨r6, S5, hz7, hf⟩ := z_bd_some hf
      refine z_ci (z_runV (o := 65) (ci := 10) E hK hP hS (c_X10_howNow hq hz7) cv_X10_howNow tw1315 rfl (by decide) rfl rfl ⟨Nat.le_of_ble_eq_true rfl, Nat.le_of_ble_eq_true rfl⟩ ⟨Nat.le_refl 0, Nat.le_refl 0⟩ hl.1 (Nat.le_of_ble_eq_true rfl) rfl dX10_judge_24) hS (fun H locs hP hS => ?_)
      refine lv_if_ne (tgt := 43) hx hb dX10_judge_27 (by decide) (fun hc8 => ?_) (fun hc8 => ?_)
      · replace hf := z_ifn hf hc8
        refine lv_iload_n hx hb dX10_judge_43 rfl (lv_at hl 2 rfl) ?_
        exact m_reti hx hb hr hlk hf hP hS dX10_judge_44
      · replace hf := z_ifp hf hc8
        refine lv_aload_n hx hb dX10_judge_30 rfl (lv_at hl 0 rfl) ?_
        obtain ⟨r10, S9, hz11, hf⟩ := z_bd_some hf
        refine z_ci (z_runV (o := 65) (ci := 10) E hK hP hS (c_X10_numberNow hq hz11) cv_X10_numberNow tw1319 rfl (by decide) rfl rfl ⟨Nat.le_of_ble_eq_true rfl, Nat.le_of_ble_eq_true rfl⟩ ⟨Nat.le_refl 0, Nat.le_refl 0⟩ hl.1 (Nat.le_of_ble_eq_true rfl) rfl dX10_judge_31) hS (fun H locs hP hS => ?_)
        refine lv_aload_n hx hb dX10_judge_34 rfl (lv_at hl 0 rfl) ?_
        refine z_getR (C := RX10) (T := TX10) (N := 75) (ci := 10) (k := 68) (o := 65) (t := 100) E hK hP iwX10 rfl rfl (by decide) (by decide) rfl rfl rfl tw1020 dX10_judge_35 ?_
        refine lv_iload_n hx hb dX10_judge_38 rfl (lv_at hl 2 rfl) ?_
        obtain ⟨hg12, hf⟩ := z_gd_some hf
        refine m_ald (o := 100) (i := v2) E hK hP rfl (by decide) hg12 dX10_judge_39 ?_
        refine lv_icmp_eq (tgt := 45) hx hb dX10_judge_40 (by decide) (fun hc13 => ?_) (fun hc13 => ?_)
        · replace hf := z_ifp hf hc13
          refine lv_iinc (v := (v2 + 1)) (lv' := [(2, .int ((v2 + 1))), (0, .ref (gq G (65))), (1, .int (v1))]) hx hb dX10_judge_45 hl (k := 2) rfl rfl (by decide) rfl (fun ls hl => ?_)
          refine lv_goto (tgt := 12) hx hb dX10_judge_48 (by decide) ?_
          exact hk12 (v1) ((v2 + 1)) S9 _ _ _ hf hP hS (lv_sub hl [1, 2, 0] rfl)
        · replace hf := z_ifn hf hc13
          refine lv_iload_n hx hb dX10_judge_43 rfl (lv_at hl 2 rfl) ?_
          exact m_reti hx hb hr hlk hf hP hS dX10_judge_44
  have hL12 : ∀ (n : Nat), ∀ (v1 : Int32) (v2 : Int32) (S : St) (H : Heap) (locs : List Loc) (ls : Array Slot), f_X10_judge_12 N n v1 v2 S = some (r, S') → z_P G X S H → z_S G s.heap H locs → lv_has ls 3 [(0, .ref (gq G (65))), (1, .int (v1)), (2, .int (v2))] → W p l e (z_rm 7 156) s m ([.ref (gq G (65))] : List Value).toArray below meth c H locs 0 0 (MQ below (z_QI G X S' r) ([.ref (gq G (65))] : List Value).toArray s 0 0 (z_Aq (gq G))) (F0 m 12 ls []) := by
    intro  n
    induction n with
    | zero => intro _ _ _ _ _ _ hf; cases hf
    | succ n ih => exact hB12  _  ih
  have hl : lv_has ls 3 [(0, .ref (gq G (65)))] := hl
  unfold f_X10_judge at hf
  refine lv_aload_n hx hb dX10_judge_0 rfl (lv_at hl 0 rfl) ?_
  refine m_getI (C := RX10) (T := TX10) (N := 75) (ci := 10) (k := 69) (o := 65) E hK hP iwX10 rfl rfl (by decide) (by decide) rfl rfl (by decide) tw1021 dX10_judge_1 ?_
  refine lv_istore_n (lv' := [(1, .int ((S 65 69))), (0, .ref (gq G (65)))]) hx hb dX10_judge_4 rfl hl (by decide) rfl (fun ls hl => ?_)
  refine lv_aload_n hx hb dX10_judge_5 rfl (lv_at hl 1 rfl) ?_
  refine lv_iconst (v := 0) hx hb dX10_judge_6 (by decide) ?_
  refine m_putI (C := RX10) (T := TX10) (N := 75) (ci := 10) (k := 69) (o := 65) (v := 0) (ty := .int) E hK hq hP hS iwX10 tyX10 tyX10_ok nmX10 rfl rfl (by decide) (by decide) rfl rfl (by decide) rfl (tyX10_ok 69 (by decide)) ⟨rfl, rfl⟩ tw1021 dX10_judge_7 (fun H locs hP hS => ?_)
  obtain ⟨S1, hf, hP⟩ := z_ltM hf hP
  refine lv_iconst (v := 0) hx hb dX10_judge_10 (by decide) ?_
  refine lv_istore_n (lv' := [(2, .int (0)), (1, .int ((S 65 69))), (0, .ref (gq G (65)))]) hx hb dX10_judge_11 rfl hl (by decide) rfl (fun ls hl => ?_)
  exact hL12 N ((S 65 69)) (0) S1 _ _ _ hf hP hS (lv_sub hl [2, 1, 0] rfl)
theorem cv_X10_judge : z_cv yX10_judge cX10_judge 3 (some .int) RX10 0 := ⟨⟨tw1437, tw1438⟩, tw1439, tw11, by decide +kernel⟩
def f_X10_clear (N : Nat) (S : St) : Option (Int32 × St) := z_lt (z_wr S 65 69 0) fun S1 => some ((S 65 69), S1)
set_option maxHeartbeats 4000000 in
set_option maxRecDepth 100000 in
theorem c_X10_clear {l : Launch} {G : Cx} {X S S' : St} {N : Nat} {r : Int32} (hq : z_inj (gq G)) (hf : f_X10_clear N S = some (r, S')) : z_Ct l yX10_clear cX10_clear 2 (some .int) 0 0 G X S [.ref (gq G (65))] (z_QI G X S' r) := by
  refine z_start (by decide +kernel) (Nat.le_of_ble_eq_true rfl) ?_
  intro p e s m below meth c ls E hr hlk hK hP hS hl
  have E : CallFix p m c cX10_clear 2 s _ lw_good RX10 := E
  have hx := E.1
  have hb := E.2.1
  have hown := E.2.2.2.1
  have hts := E.2.2.2.2
  have hl : lv_has ls 2 [(0, .ref (gq G (65)))] := hl
  unfold f_X10_clear at hf
  refine lv_aload_n hx hb dX10_clear_0 rfl (lv_at hl 0 rfl) ?_
  refine m_getI (C := RX10) (T := TX10) (N := 75) (ci := 10) (k := 69) (o := 65) E hK hP iwX10 rfl rfl (by decide) (by decide) rfl rfl (by decide) tw1021 dX10_clear_1 ?_
  refine lv_istore_n (lv' := [(1, .int ((S 65 69))), (0, .ref (gq G (65)))]) hx hb dX10_clear_4 rfl hl (by decide) rfl (fun ls hl => ?_)
  refine lv_aload_n hx hb dX10_clear_5 rfl (lv_at hl 1 rfl) ?_
  refine lv_iconst (v := 0) hx hb dX10_clear_6 (by decide) ?_
  refine m_putI (C := RX10) (T := TX10) (N := 75) (ci := 10) (k := 69) (o := 65) (v := 0) (ty := .int) E hK hq hP hS iwX10 tyX10 tyX10_ok nmX10 rfl rfl (by decide) (by decide) rfl rfl (by decide) rfl (tyX10_ok 69 (by decide)) ⟨rfl, rfl⟩ tw1021 dX10_clear_7 (fun H locs hP hS => ?_)
  obtain ⟨S1, hf, hP⟩ := z_ltM hf hP
  refine lv_iload_n hx hb dX10_clear_10 rfl (lv_at hl 0 rfl) ?_
  exact m_reti hx hb hr hlk hf hP hS dX10_clear_11
theorem cv_X10_clear : z_cv yX10_clear cX10_clear 2 (some .int) RX10 0 := ⟨⟨tw1441, tw1442⟩, tw1443, tw11, by decide +kernel⟩
def f_X10_draw (N : Nat) (a1 : Int32) (S : St) : Option (Int32 × St) := z_lt (z_wr S 65 70 (((S 65 70) * 1664525) + 1013904223)) fun S1 => z_gd (¬ a1 = 0) (some (((((S1 65 70) &&& 2147483647) / 256) - (((S1 65 70) &&& 2147483647) / 256) / a1 * a1), S1))
set_option maxHeartbeats 4000000 in
set_option maxRecDepth 100000 in
theorem c_X10_draw {l : Launch} {G : Cx} {X S S' : St} {N : Nat} {a1 : Int32} {r : Int32} (hq : z_inj (gq G)) (hf : f_X10_draw N a1 S = some (r, S')) : z_Ct l yX10_draw cX10_draw 2 (some .int) 0 0 G X S [.ref (gq G (65)), .int (a1)] (z_QI G X S' r) := by
  refine z_start (by decide +kernel) (Nat.le_of_ble_eq_true rfl) ?_
  intro p e s m below meth c ls E hr hlk hK hP hS hl
  have E : CallFix p m c cX10_draw 2 s _ lw_good RX10 := E
  have hx := E.1
  have hb := E.2.1
  have hown := E.2.2.2.1
  have hts := E.2.2.2.2
  have hl : lv_has ls 2 [(0, .ref (gq G (65))), (1, .int (a1))] := hl
  unfold f_X10_draw at hf
  refine lv_aload_n hx hb dX10_draw_0 rfl (lv_at hl 0 rfl) ?_
  refine lv_aload_n hx hb dX10_draw_1 rfl (lv_at hl 0 rfl) ?_
  refine m_getI (C := RX10) (T := TX10) (N := 75) (ci := 10) (k := 70) (o := 65) E hK hP iwX10 rfl rfl (by decide) (by decide) rfl rfl (by decide) tw1022 dX10_draw_2 ?_
  refine lv_ldcw (v := 1664525) hx hb hown (hts _ tw1452) dX10_draw_5 ?_
  refine lv_imul hx hb dX10_draw_8 ?_
  refine lv_ldcw (v := 1013904223) hx hb hown (hts _ tw1453) dX10_draw_9 ?_
  refine lv_iadd hx hb dX10_draw_12 ?_
  refine m_putI (C := RX10) (T := TX10) (N := 75) (ci := 10) (k := 70) (o := 65) (v := (((S 65 70) * 1664525) + 1013904223)) (ty := .int) E hK hq hP hS iwX10 tyX10 tyX10_ok nmX10 rfl rfl (by decide) (by decide) rfl rfl (by decide) rfl (tyX10_ok 70 (by decide)) ⟨rfl, rfl⟩ tw1022 dX10_draw_13 (fun H locs hP hS => ?_)
  obtain ⟨S1, hf, hP⟩ := z_ltM hf hP
  refine lv_aload_n hx hb dX10_draw_16 rfl (lv_at hl 0 rfl) ?_
  refine m_getI (C := RX10) (T := TX10) (N := 75) (ci := 10) (k := 70) (o := 65) E hK hP iwX10 rfl rfl (by decide) (by decide) rfl rfl (by decide) tw1022 dX10_draw_17 ?_
  refine lv_ldcw (v := 2147483647) hx hb hown (hts _ tw1454) dX10_draw_20 ?_
  refine lv_iand hx hb dX10_draw_23 ?_
  refine lv_sipush (v := 256) hx hb dX10_draw_24 (by decide) ?_
  refine lv_idiv hx hb dX10_draw_27 (by decide) ?_
  refine lv_iload_n hx hb dX10_draw_28 rfl (lv_at hl 1 rfl) ?_
  obtain ⟨hg2, hf⟩ := z_gd_some hf
  refine lv_irem hx hb dX10_draw_29 hg2 ?_
  exact m_reti hx hb hr hlk hf hP hS dX10_draw_30
theorem cv_X10_draw : z_cv yX10_draw cX10_draw 2 (some .int) RX10 1 := ⟨⟨tw1450, twp72⟩, tw1451, tw11, by decide +kernel⟩
def b_X10_lots_139 (N : Nat) (k50 : Int32 → Int32 → Int32 → Int32 → St → Option (Int32 × St)) (v1 : Int32) (v3 : Int32) (v5 : Int32) (v6 : Int32) (S : St) : Option (Int32 × St) := z_bv (f_X10_forgets N S) fun S37 => k50 (v1) (v3) (v5) ((v6 + 1)) S37
def b_X10_lots_136 (N : Nat) (k50 : Int32 → Int32 → Int32 → Int32 → St → Option (Int32 × St)) (v1 : Int32) (v3 : Int32) (v6 : Int32) (t0 : Int32) (t1 : Int32) (S : St) : Option (Int32 × St) := b_X10_lots_139 N k50 (v1) (v3) ((t1 + t0)) (v6) S
def b_X10_lots_113 (N : Nat) (k50 : Int32 → Int32 → Int32 → Int32 → St → Option (Int32 × St)) (v1 : Int32) (v3 : Int32) (v6 : Int32) (t0 : Int32) (t1 : Int32) (S : St) : Option (Int32 × St) := b_X10_lots_139 N k50 (v1) (v3) ((t1 + t0)) (v6) S
def b_X10_lots_63 (N : Nat) (k50 : Int32 → Int32 → Int32 → Int32 → St → Option (Int32 × St)) (k63 : Int32 → Int32 → Int32 → Int32 → Int32 → St → Option (Int32 × St)) (v1 : Int32) (v3 : Int32) (v5 : Int32) (v6 : Int32) (v7 : Int32) (S : St) : Option (Int32 × St) := if 6 ≤ v7 then (z_bv (f_X10_goes N S) fun S18 => if v3 = 1 then (z_bd (f_X10_howNow N S18) fun r29 S28 => if r29 = 3 then (b_X10_lots_113 N k50 (v1) (v3) (v6) (1) (v5) S28) else (b_X10_lots_113 N k50 (v1) (v3) (v6) (0) (v5) S28)) else (z_bd (f_X10_howNow N S18) fun r22 S21 => if r22 = 0 then (z_bd (f_X10_numberNow N S21) fun r26 S25 => b_X10_lots_136 N k50 (v1) (v3) (v6) (r26) (v5) S25) else (b_X10_lots_136 N k50 (v1) (v3) (v6) (0) (v5) S21))) else (z_bd (f_X10_draw N (10) S) fun r33 S32 => z_gd (z_in v7 (z_ln 78)) (z_lt (z_wr S32 78 (v7 : Int32).toNatClampNeg r33) fun S36 => k63 (v1) (v3) (v5) (v6) ((v7 + 1)) S36))
def f_X10_lots_63 (N : Nat) (k50 : Int32 → Int32 → Int32 → Int32 → St → Option (Int32 × St)) : Nat → Int32 → Int32 → Int32 → Int32 → Int32 → St → Option (Int32 × St)
  | 0 => fun _ _ _ _ _ _ => none
  | n + 1 => b_X10_lots_63 N k50 (f_X10_lots_63 N k50 n)
def b_X10_lots_50 (N : Nat) (k50 : Int32 → Int32 → Int32 → Int32 → St → Option (Int32 × St)) (v1 : Int32) (v3 : Int32) (v5 : Int32) (v6 : Int32) (S : St) : Option (Int32 × St) := if v1 ≤ v6 then (some (v5, S)) else (z_bv (f_X10_minds N S) fun S15 => f_X10_lots_63 N k50 N (v1) (v3) (v5) (v6) (0) S15)
def f_X10_lots_50 (N : Nat) : Nat → Int32 → Int32 → Int32 → Int32 → St → Option (Int32 × St)
  | 0 => fun _ _ _ _ _ => none
  | n + 1 => b_X10_lots_50 N (f_X10_lots_50 N n)
def b_X10_lots_27 (N : Nat) (v1 : Int32) (v2 : Int32) (v3 : Int32) (v4 : Int32) (S : St) : Option (Int32 × St) := if v4 = 0 then (z_lt (z_wr S 65 70 v2) fun S10 => f_X10_lots_50 N N (v1) (v3) (0) (0) S10) else (z_bd (f_X10_lower N (v4) S) fun r12 S11 => some (r12, S11))
def f_X10_lots (N : Nat) (a1 : Int32) (a2 : Int32) (a3 : Int32) (S : St) : Option (Int32 × St) := z_bd (f_X10_bound N (a1) (1) (20) S) fun r2 S1 => if r2 = 0 then (z_bd (f_X10_isIn N (a3) (0) (1) S1) fun r6 S5 => if r6 = 0 then (b_X10_lots_27 N (a1) (a2) (a3) ((-2)) S5) else (b_X10_lots_27 N (a1) (a2) (a3) (r2) S5)) else (b_X10_lots_27 N (a1) (a2) (a3) (r2) S1)
set_option maxHeartbeats 4000000 in
set_option maxRecDepth 100000 in
theorem c_X10_lots {l : Launch} {G : Cx} {X S S' : St} {N : Nat} {a1 : Int32} {a2 : Int32} {a3 : Int32} {r : Int32} (hq : z_inj (gq G)) (hf : f_X10_lots N a1 a2 a3 S = some (r, S')) : z_Ct l yX10_lots cX10_lots 8 (some .int) 6 134 G X S [.ref (gq G (65)), .int (a1), .int (a2), .int (a3)] (z_QI G X S' r) := by
  refine z_start (by decide +kernel) (Nat.le_of_ble_eq_true rfl) ?_
  intro p e s m below meth c ls E hr hlk hK hP hS hl
  have E : CallFix p m c cX10_lots 8 s _ lw_good RX10 := E
  have hx := E.1
  have hb := E.2.1
  have hown := E.2.2.2.1
  have hts := E.2.2.2.2
  have hJ139 : ∀ (k50 : Int32 → Int32 → Int32 → Int32 → St → Option (Int32 × St)) (hk50 : ∀ (v1 : Int32) (v3 : Int32) (v5 : Int32) (v6 : Int32) (S : St) (H : Heap) (locs : List Loc) (ls : Array Slot), k50 v1 v3 v5 v6 S = some (r, S') → z_P G X S H → z_S G s.heap H locs → lv_has ls 8 [(0, .ref (gq G (65))), (1, .int (v1)), (3, .int (v3)), (5, .int (v5)), (6, .int (v6))] → W p l e (z_rm 6 134) s m ([.ref (gq G (65)), .int (a1), .int (a2), .int (a3)] : List Value).toArray below meth c H locs 0 0 (MQ below (z_QI G X S' r) ([.ref (gq G (65)), .int (a1), .int (a2), .int (a3)] : List Value).toArray s 0 0 (z_Aq (gq G))) (F0 m 50 ls [])), ∀ (v1 : Int32) (v3 : Int32) (v5 : Int32) (v6 : Int32) (S : St) (H : Heap) (locs : List Loc) (ls : Array Slot), b_X10_lots_139 N k50 v1 v3 v5 v6 S = some (r, S') → z_P G X S H → z_S G s.heap H locs → lv_has ls 8 [(0, .ref (gq G (65))), (1, .int (v1)), (3, .int (v3)), (5, .int (v5)), (6, .int (v6))] → W p l e (z_rm 6 134) s m ([.ref (gq G (65)), .int (a1), .int (a2), .int (a3)] : List Value).toArray below meth c H locs 0 0 (MQ below (z_QI G X S' r) ([.ref (gq G (65)), .int (a1), .int (a2), .int (a3)] : List Value).toArray s 0 0 (z_Aq (gq G))) (F0 m 139 ls []) := by
    intro k50 hk50 v1 v3 v5 v6 S H locs ls hf hP hS hl
    unfold b_X10_lots_139 at hf
    refine lv_aload_n hx hb dX10_lots_139 rfl (lv_at hl 0 rfl) ?_
    obtain ⟨S37, hz38, hf⟩ := z_bv_some hf
    refine z_cvo (z_runV (o := 65) (ci := 10) E hK hP hS (c_X10_forgets hq hz38) cv_X10_forgets tw1371 rfl (by decide) rfl rfl ⟨Nat.le_of_ble_eq_true rfl, Nat.le_of_ble_eq_true rfl⟩ ⟨Nat.le_refl 0, Nat.le_refl 0⟩ hl.1 (Nat.le_of_ble_eq_true rfl) rfl dX10_lots_140) hS (fun H locs hP hS => ?_)
    refine lv_iinc (v := (v6 + 1)) (lv' := [(6, .int ((v6 + 1))), (0, .ref (gq G (65))), (1, .int (v1)), (3, .int (v3)), (5, .int (v5))]) hx hb dX10_lots_143 hl (k := 4) rfl rfl (by decide) rfl (fun ls hl => ?_)
    refine lv_goto (tgt := 50) hx hb dX10_lots_146 (by decide) ?_
    exact hk50 (v1) (v3) (v5) ((v6 + 1)) S37 _ _ _ hf hP hS (lv_sub hl [1, 2, 3, 4, 0] rfl)
  have hJ136 : ∀ (k50 : Int32 → Int32 → Int32 → Int32 → St → Option (Int32 × St)) (hk50 : ∀ (v1 : Int32) (v3 : Int32) (v5 : Int32) (v6 : Int32) (S : St) (H : Heap) (locs : List Loc) (ls : Array Slot), k50 v1 v3 v5 v6 S = some (r, S') → z_P G X S H → z_S G s.heap H locs → lv_has ls 8 [(0, .ref (gq G (65))), (1, .int (v1)), (3, .int (v3)), (5, .int (v5)), (6, .int (v6))] → W p l e (z_rm 6 134) s m ([.ref (gq G (65)), .int (a1), .int (a2), .int (a3)] : List Value).toArray below meth c H locs 0 0 (MQ below (z_QI G X S' r) ([.ref (gq G (65)), .int (a1), .int (a2), .int (a3)] : List Value).toArray s 0 0 (z_Aq (gq G))) (F0 m 50 ls [])), ∀ (v1 : Int32) (v3 : Int32) (v6 : Int32) (t0 : Int32) (t1 : Int32) (S : St) (H : Heap) (locs : List Loc) (ls : Array Slot), b_X10_lots_136 N k50 v1 v3 v6 t0 t1 S = some (r, S') → z_P G X S H → z_S G s.heap H locs → lv_has ls 8 [(0, .ref (gq G (65))), (1, .int (v1)), (3, .int (v3)), (6, .int (v6))] → W p l e (z_rm 6 134) s m ([.ref (gq G (65)), .int (a1), .int (a2), .int (a3)] : List Value).toArray below meth c H locs 0 0 (MQ below (z_QI G X S' r) ([.ref (gq G (65)), .int (a1), .int (a2), .int (a3)] : List Value).toArray s 0 0 (z_Aq (gq G))) (F0 m 136 ls [.int (t0), .int (t1)]) := by
    intro k50 hk50 v1 v3 v6 t0 t1 S H locs ls hf hP hS hl
    unfold b_X10_lots_136 at hf
    refine lv_iadd hx hb dX10_lots_136 ?_
    refine lv_istore (lv' := [(5, .int ((t1 + t0))), (0, .ref (gq G (65))), (1, .int (v1)), (3, .int (v3)), (6, .int (v6))]) hx hb dX10_lots_137 hl (by decide) rfl (fun ls hl => ?_)
    exact hJ139 k50 hk50 (v1) (v3) ((t1 + t0)) (v6) S _ _ _ hf hP hS (lv_sub hl [1, 2, 3, 0, 4] rfl)
  have hJ113 : ∀ (k50 : Int32 → Int32 → Int32 → Int32 → St → Option (Int32 × St)) (hk50 : ∀ (v1 : Int32) (v3 : Int32) (v5 : Int32) (v6 : Int32) (S : St) (H : Heap) (locs : List Loc) (ls : Array Slot), k50 v1 v3 v5 v6 S = some (r, S') → z_P G X S H → z_S G s.heap H locs → lv_has ls 8 [(0, .ref (gq G (65))), (1, .int (v1)), (3, .int (v3)), (5, .int (v5)), (6, .int (v6))] → W p l e (z_rm 6 134) s m ([.ref (gq G (65)), .int (a1), .int (a2), .int (a3)] : List Value).toArray below meth c H locs 0 0 (MQ below (z_QI G X S' r) ([.ref (gq G (65)), .int (a1), .int (a2), .int (a3)] : List Value).toArray s 0 0 (z_Aq (gq G))) (F0 m 50 ls [])), ∀ (v1 : Int32) (v3 : Int32) (v6 : Int32) (t0 : Int32) (t1 : Int32) (S : St) (H : Heap) (locs : List Loc) (ls : Array Slot), b_X10_lots_113 N k50 v1 v3 v6 t0 t1 S = some (r, S') → z_P G X S H → z_S G s.heap H locs → lv_has ls 8 [(0, .ref (gq G (65))), (1, .int (v1)), (3, .int (v3)), (6, .int (v6))] → W p l e (z_rm 6 134) s m ([.ref (gq G (65)), .int (a1), .int (a2), .int (a3)] : List Value).toArray below meth c H locs 0 0 (MQ below (z_QI G X S' r) ([.ref (gq G (65)), .int (a1), .int (a2), .int (a3)] : List Value).toArray s 0 0 (z_Aq (gq G))) (F0 m 113 ls [.int (t0), .int (t1)]) := by
    intro k50 hk50 v1 v3 v6 t0 t1 S H locs ls hf hP hS hl
    unfold b_X10_lots_113 at hf
    refine lv_iadd hx hb dX10_lots_113 ?_
    refine lv_istore (lv' := [(5, .int ((t1 + t0))), (0, .ref (gq G (65))), (1, .int (v1)), (3, .int (v3)), (6, .int (v6))]) hx hb dX10_lots_114 hl (by decide) rfl (fun ls hl => ?_)
    refine lv_goto (tgt := 139) hx hb dX10_lots_116 (by decide) ?_
    exact hJ139 k50 hk50 (v1) (v3) ((t1 + t0)) (v6) S _ _ _ hf hP hS (lv_sub hl [1, 2, 3, 0, 4] rfl)
  have hB63 : ∀ (k50 : Int32 → Int32 → Int32 → Int32 → St → Option (Int32 × St)) (k63 : Int32 → Int32 → Int32 → Int32 → Int32 → St → Option (Int32 × St)) (hk50 : ∀ (v1 : Int32) (v3 : Int32) (v5 : Int32) (v6 : Int32) (S : St) (H : Heap) (locs : List Loc) (ls : Array Slot), k50 v1 v3 v5 v6 S = some (r, S') → z_P G X S H → z_S G s.heap H locs → lv_has ls 8 [(0, .ref (gq G (65))), (1, .int (v1)), (3, .int (v3)), (5, .int (v5)), (6, .int (v6))] → W p l e (z_rm 6 134) s m ([.ref (gq G (65)), .int (a1), .int (a2), .int (a3)] : List Value).toArray below meth c H locs 0 0 (MQ below (z_QI G X S' r) ([.ref (gq G (65)), .int (a1), .int (a2), .int (a3)] : List Value).toArray s 0 0 (z_Aq (gq G))) (F0 m 50 ls [])) (hk63 : ∀ (v1 : Int32) (v3 : Int32) (v5 : Int32) (v6 : Int32) (v7 : Int32) (S : St) (H : Heap) (locs : List Loc) (ls : Array Slot), k63 v1 v3 v5 v6 v7 S = some (r, S') → z_P G X S H → z_S G s.heap H locs → lv_has ls 8 [(0, .ref (gq G (65))), (1, .int (v1)), (3, .int (v3)), (5, .int (v5)), (6, .int (v6)), (7, .int (v7))] → W p l e (z_rm 6 134) s m ([.ref (gq G (65)), .int (a1), .int (a2), .int (a3)] : List Value).toArray below meth c H locs 0 0 (MQ below (z_QI G X S' r) ([.ref (gq G (65)), .int (a1), .int (a2), .int (a3)] : List Value).toArray s 0 0 (z_Aq (gq G))) (F0 m 63 ls [])), ∀ (v1 : Int32) (v3 : Int32) (v5 : Int32) (v6 : Int32) (v7 : Int32) (S : St) (H : Heap) (locs : List Loc) (ls : Array Slot), b_X10_lots_63 N k50 k63 v1 v3 v5 v6 v7 S = some (r, S') → z_P G X S H → z_S G s.heap H locs → lv_has ls 8 [(0, .ref (gq G (65))), (1, .int (v1)), (3, .int (v3)), (5, .int (v5)), (6, .int (v6)), (7, .int (v7))] → W p l e (z_rm 6 134) s m ([.ref (gq G (65)), .int (a1), .int (a2), .int (a3)] : List Value).toArray below meth c H locs 0 0 (MQ below (z_QI G X S' r) ([.ref (gq G (65)), .int (a1), .int (a2), .int (a3)] : List Value).toArray s 0 0 (z_Aq (gq G))) (F0 m 63 ls []) := by
    intro k50 k63 hk50 hk63 v1 v3 v5 v6 v7 S H locs ls hf hP hS hl
    unfold b_X10_lots_63 at hf
    refine lv_iload hx hb dX10_lots_63 (lv_at hl 5 rfl) ?_
    refine lv_bipush (v := 6) hx hb dX10_lots_65 (by decide) ?_
    refine lv_icmp_ge (tgt := 89) hx hb dX10_lots_67 (by decide) (fun hc17 => ?_) (fun hc17 => ?_)
    · replace hf := z_ifp hf hc17
      refine lv_aload_n hx hb dX10_lots_89 rfl (lv_at hl 0 rfl) ?_
      obtain ⟨S18, hz19, hf⟩ := z_bv_some hf
      refine z_cvo (z_runV (o := 65) (ci := 10) E hK hP hS (c_X10_goes hq hz19) cv_X10_goes tw1213 rfl (by decide) rfl rfl ⟨Nat.le_of_ble_eq_true rfl, Nat.le_of_ble_eq_true rfl⟩ ⟨Nat.le_refl 0, Nat.le_refl 0⟩ hl.1 (Nat.le_of_ble_eq_true rfl) rfl dX10_lots_90) hS (fun H locs hP hS => ?_)
      refine lv_iload_n hx hb dX10_lots_93 rfl (lv_at hl 2 rfl) ?_
      refine lv_iconst (v := 1) hx hb dX10_lots_94 (by decide) ?_
      refine lv_icmp_ne (tgt := 119) hx hb dX10_lots_95 (by decide) (fun hc20 => ?_) (fun hc20 => ?_)
      · replace hf := z_ifn hf hc20
        refine lv_iload hx hb dX10_lots_119 (lv_at hl 3 rfl) ?_
        refine lv_aload_n hx hb dX10_lots_121 rfl (lv_at hl 0 rfl) ?_
        obtain ⟨r22, S21, hz23, hf⟩ := z_bd_some hf
        refine z_ci (z_runV (o := 65) (ci := 10) E hK hP hS (c_X10_howNow hq hz23) cv_X10_howNow tw1315 rfl (by decide) rfl rfl ⟨Nat.le_of_ble_eq_true rfl, Nat.le_of_ble_eq_true rfl⟩ ⟨Nat.le_refl 0, Nat.le_refl 0⟩ hl.1 (Nat.le_of_ble_eq_true rfl) rfl dX10_lots_122) hS (fun H locs hP hS => ?_)
        refine lv_if_ne (tgt := 135) hx hb dX10_lots_125 (by decide) (fun hc24 => ?_) (fun hc24 => ?_)
        · replace hf := z_ifn hf hc24
          refine lv_iconst (v := 0) hx hb dX10_lots_135 (by decide) ?_
          exact hJ136 k50 hk50 (v1) (v3) (v6) (0) (v5) S21 _ _ _ hf hP hS (lv_sub hl [0, 1, 2, 4] rfl)
        · replace hf := z_ifp hf hc24
          refine lv_aload_n hx hb dX10_lots_128 rfl (lv_at hl 0 rfl) ?_
          obtain ⟨r26, S25, hz27, hf⟩ := z_bd_some hf
          refine z_ci (z_runV (o := 65) (ci := 10) E hK hP hS (c_X10_numberNow hq hz27) cv_X10_numberNow tw1319 rfl (by decide) rfl rfl ⟨Nat.le_of_ble_eq_true rfl, Nat.le_of_ble_eq_true rfl⟩ ⟨Nat.le_refl 0, Nat.le_refl 0⟩ hl.1 (Nat.le_of_ble_eq_true rfl) rfl dX10_lots_129) hS (fun H locs hP hS => ?_)
          refine lv_goto (tgt := 136) hx hb dX10_lots_132 (by decide) ?_
          exact hJ136 k50 hk50 (v1) (v3) (v6) (r26) (v5) S25 _ _ _ hf hP hS (lv_sub hl [0, 1, 2, 4] rfl)
      · replace hf := z_ifp hf hc20
        refine lv_iload hx hb dX10_lots_98 (lv_at hl 3 rfl) ?_
        refine lv_aload_n hx hb dX10_lots_100 rfl (lv_at hl 0 rfl) ?_
        obtain ⟨r29, S28, hz30, hf⟩ := z_bd_some hf
        refine z_ci (z_runV (o := 65) (ci := 10) E hK hP hS (c_X10_howNow hq hz30) cv_X10_howNow tw1315 rfl (by decide) rfl rfl ⟨Nat.le_of_ble_eq_true rfl, Nat.le_of_ble_eq_true rfl⟩ ⟨Nat.le_refl 0, Nat.le_refl 0⟩ hl.1 (Nat.le_of_ble_eq_true rfl) rfl dX10_lots_101) hS (fun H locs hP hS => ?_)
        refine lv_iconst (v := 3) hx hb dX10_lots_104 (by decide) ?_
        refine lv_icmp_ne (tgt := 112) hx hb dX10_lots_105 (by decide) (fun hc31 => ?_) (fun hc31 => ?_)
        · replace hf := z_ifn hf hc31
          refine lv_iconst (v := 0) hx hb dX10_lots_112 (by decide) ?_
          exact hJ113 k50 hk50 (v1) (v3) (v6) (0) (v5) S28 _ _ _ hf hP hS (lv_sub hl [0, 1, 2, 4] rfl)
        · replace hf := z_ifp hf hc31
          refine lv_iconst (v := 1) hx hb dX10_lots_108 (by decide) ?_
          refine lv_goto (tgt := 113) hx hb dX10_lots_109 (by decide) ?_
          exact hJ113 k50 hk50 (v1) (v3) (v6) (1) (v5) S28 _ _ _ hf hP hS (lv_sub hl [0, 1, 2, 4] rfl)
    · replace hf := z_ifn hf hc17
      refine lv_aload_n hx hb dX10_lots_70 rfl (lv_at hl 0 rfl) ?_
      refine z_getR (C := RX10) (T := TX10) (N := 75) (ci := 10) (k := 24) (o := 65) (t := 78) E hK hP iwX10 rfl rfl (by decide) (by decide) rfl rfl rfl tw976 dX10_lots_71 ?_
      refine lv_iload hx hb dX10_lots_74 (lv_at hl 5 rfl) ?_
      refine lv_aload_n hx hb dX10_lots_76 rfl (lv_at hl 0 rfl) ?_
      refine lv_bipush (v := 10) hx hb dX10_lots_77 (by decide) ?_
      obtain ⟨r33, S32, hz34, hf⟩ := z_bd_some hf
      refine z_ci (z_runV (o := 65) (ci := 10) E hK hP hS (c_X10_draw hq hz34) cv_X10_draw tw1448 rfl (by decide) rfl rfl ⟨Nat.le_of_ble_eq_true rfl, Nat.le_of_ble_eq_true rfl⟩ ⟨Nat.le_refl 0, Nat.le_refl 0⟩ hl.1 (Nat.le_of_ble_eq_true rfl) rfl dX10_lots_79) hS (fun H locs hP hS => ?_)
      obtain ⟨hg35, hf⟩ := z_gd_some hf
      refine m_ast (o := 78) (i := v7) (v := r33) E hK hq hP hS rfl (by decide) hg35 dX10_lots_82 (fun H locs hP hS => ?_)
      obtain ⟨S36, hf, hP⟩ := z_ltM hf hP
      refine lv_iinc (v := (v7 + 1)) (lv' := [(7, .int ((v7 + 1))), (0, .ref (gq G (65))), (1, .int (v1)), (3, .int (v3)), (5, .int (v5)), (6, .int (v6))]) hx hb dX10_lots_83 hl (k := 5) rfl rfl (by decide) rfl (fun ls hl => ?_)
      refine lv_goto (tgt := 63) hx hb dX10_lots_86 (by decide) ?_
      exact hk63 (v1) (v3) (v5) (v6) ((v7 + 1)) S36 _ _ _ hf hP hS (lv_sub hl [1, 2, 3, 4, 5, 0] rfl)
  have hL63 : ∀ (k50 : Int32 → Int32 → Int32 → Int32 → St → Option (Int32 × St)) (hk50 : ∀ (v1 : Int32) (v3 : Int32) (v5 : Int32) (v6 : Int32) (S : St) (H : Heap) (locs : List Loc) (ls : Array Slot), k50 v1 v3 v5 v6 S = some (r, S') → z_P G X S H → z_S G s.heap H locs → lv_has ls 8 [(0, .ref (gq G (65))), (1, .int (v1)), (3, .int (v3)), (5, .int (v5)), (6, .int (v6))] → W p l e (z_rm 6 134) s m ([.ref (gq G (65)), .int (a1), .int (a2), .int (a3)] : List Value).toArray below meth c H locs 0 0 (MQ below (z_QI G X S' r) ([.ref (gq G (65)), .int (a1), .int (a2), .int (a3)] : List Value).toArray s 0 0 (z_Aq (gq G))) (F0 m 50 ls [])) (n : Nat), ∀ (v1 : Int32) (v3 : Int32) (v5 : Int32) (v6 : Int32) (v7 : Int32) (S : St) (H : Heap) (locs : List Loc) (ls : Array Slot), f_X10_lots_63 N k50 n v1 v3 v5 v6 v7 S = some (r, S') → z_P G X S H → z_S G s.heap H locs → lv_has ls 8 [(0, .ref (gq G (65))), (1, .int (v1)), (3, .int (v3)), (5, .int (v5)), (6, .int (v6)), (7, .int (v7))] → W p l e (z_rm 6 134) s m ([.ref (gq G (65)), .int (a1), .int (a2), .int (a3)] : List Value).toArray below meth c H locs 0 0 (MQ below (z_QI G X S' r) ([.ref (gq G (65)), .int (a1), .int (a2), .int (a3)] : List Value).toArray s 0 0 (z_Aq (gq G))) (F0 m 63 ls []) := by
    intro k50 hk50 n
    induction n with
    | zero => intro _ _ _ _ _ _ _ _ _ hf; cases hf
    | succ n ih => exact hB63 k50 _ hk50 ih
  have hB50 : ∀ (k50 : Int32 → Int32 → Int32 → Int32 → St → Option (Int32 × St)) (hk50 : ∀ (v1 : Int32) (v3 : Int32) (v5 : Int32) (v6 : Int32) (S : St) (H : Heap) (locs : List Loc) (ls : Array Slot), k50 v1 v3 v5 v6 S = some (r, S') → z_P G X S H → z_S G s.heap H locs → lv_has ls 8 [(0, .ref (gq G (65))), (1, .int (v1)), (3, .int (v3)), (5, .int (v5)), (6, .int (v6))] → W p l e (z_rm 6 134) s m ([.ref (gq G (65)), .int (a1), .int (a2), .int (a3)] : List Value).toArray below meth c H locs 0 0 (MQ below (z_QI G X S' r) ([.ref (gq G (65)), .int (a1), .int (a2), .int (a3)] : List Value).toArray s 0 0 (z_Aq (gq G))) (F0 m 50 ls [])), ∀ (v1 : Int32) (v3 : Int32) (v5 : Int32) (v6 : Int32) (S : St) (H : Heap) (locs : List Loc) (ls : Array Slot), b_X10_lots_50 N k50 v1 v3 v5 v6 S = some (r, S') → z_P G X S H → z_S G s.heap H locs → lv_has ls 8 [(0, .ref (gq G (65))), (1, .int (v1)), (3, .int (v3)), (5, .int (v5)), (6, .int (v6))] → W p l e (z_rm 6 134) s m ([.ref (gq G (65)), .int (a1), .int (a2), .int (a3)] : List Value).toArray below meth c H locs 0 0 (MQ below (z_QI G X S' r) ([.ref (gq G (65)), .int (a1), .int (a2), .int (a3)] : List Value).toArray s 0 0 (z_Aq (gq G))) (F0 m 50 ls []) := by
    intro k50 hk50 v1 v3 v5 v6 S H locs ls hf hP hS hl
    unfold b_X10_lots_50 at hf
    refine lv_iload hx hb dX10_lots_50 (lv_at hl 4 rfl) ?_
    refine lv_iload_n hx hb dX10_lots_52 rfl (lv_at hl 1 rfl) ?_
    refine lv_icmp_ge (tgt := 149) hx hb dX10_lots_53 (by decide) (fun hc14 => ?_) (fun hc14 => ?_)
    · replace hf := z_ifp hf hc14
      refine lv_iload hx hb dX10_lots_149 (lv_at hl 3 rfl) ?_
      exact m_reti hx hb hr hlk hf hP hS dX10_lots_151
    · replace hf := z_ifn hf hc14
      refine lv_aload_n hx hb dX10_lots_56 rfl (lv_at hl 0 rfl) ?_
      obtain ⟨S15, hz16, hf⟩ := z_bv_some hf
      refine z_cvo (z_runV (o := 65) (ci := 10) E hK hP hS (c_X10_minds hq hz16) cv_X10_minds tw1367 rfl (by decide) rfl rfl ⟨Nat.le_of_ble_eq_true rfl, Nat.le_of_ble_eq_true rfl⟩ ⟨Nat.le_refl 0, Nat.le_refl 0⟩ hl.1 (Nat.le_of_ble_eq_true rfl) rfl dX10_lots_57) hS (fun H locs hP hS => ?_)
      refine lv_iconst (v := 0) hx hb dX10_lots_60 (by decide) ?_
      refine lv_istore (lv' := [(7, .int (0)), (0, .ref (gq G (65))), (1, .int (v1)), (3, .int (v3)), (5, .int (v5)), (6, .int (v6))]) hx hb dX10_lots_61 hl (by decide) rfl (fun ls hl => ?_)
      exact hL63 k50 hk50 N (v1) (v3) (v5) (v6) (0) S15 _ _ _ hf hP hS (lv_sub hl [1, 2, 3, 4, 5, 0] rfl)
  have hL50 : ∀ (n : Nat), ∀ (v1 : Int32) (v3 : Int32) (v5 : Int32) (v6 : Int32) (S : St) (H : Heap) (locs : List Loc) (ls : Array Slot), f_X10_lots_50 N n v1 v3 v5 v6 S = some (r, S') → z_P G X S H → z_S G s.heap H locs → lv_has ls 8 [(0, .ref (gq G (65))), (1, .int (v1)), (3, .int (v3)), (5, .int (v5)), (6, .int (v6))] → W p l e (z_rm 6 134) s m ([.ref (gq G (65)), .int (a1), .int (a2), .int (a3)] : List Value).toArray below meth c H locs 0 0 (MQ below (z_QI G X S' r) ([.ref (gq G (65)), .int (a1), .int (a2), .int (a3)] : List Value).toArray s 0 0 (z_Aq (gq G))) (F0 m 50 ls []) := by
    intro  n
    induction n with
    | zero => intro _ _ _ _ _ _ _ _ hf; cases hf
    | succ n ih => exact hB50  _  ih
  have hJ27 : ∀ (v1 : Int32) (v2 : Int32) (v3 : Int32) (v4 : Int32) (S : St) (H : Heap) (locs : List Loc) (ls : Array Slot), b_X10_lots_27 N v1 v2 v3 v4 S = some (r, S') → z_P G X S H → z_S G s.heap H locs → lv_has ls 8 [(0, .ref (gq G (65))), (1, .int (v1)), (2, .int (v2)), (3, .int (v3)), (4, .int (v4))] → W p l e (z_rm 6 134) s m ([.ref (gq G (65)), .int (a1), .int (a2), .int (a3)] : List Value).toArray below meth c H locs 0 0 (MQ below (z_QI G X S' r) ([.ref (gq G (65)), .int (a1), .int (a2), .int (a3)] : List Value).toArray s 0 0 (z_Aq (gq G))) (F0 m 27 ls []) := by
    intro v1 v2 v3 v4 S H locs ls hf hP hS hl
    unfold b_X10_lots_27 at hf
    refine lv_iload hx hb dX10_lots_27 (lv_at hl 4 rfl) ?_
    refine lv_if_eq (tgt := 39) hx hb dX10_lots_29 (by decide) (fun hc9 => ?_) (fun hc9 => ?_)
    · replace hf := z_ifp hf hc9
      refine lv_aload_n hx hb dX10_lots_39 rfl (lv_at hl 0 rfl) ?_
      refine lv_iload_n hx hb dX10_lots_40 rfl (lv_at hl 2 rfl) ?_
      refine m_putI (C := RX10) (T := TX10) (N := 75) (ci := 10) (k := 70) (o := 65) (v := v2) (ty := .int) E hK hq hP hS iwX10 tyX10 tyX10_ok nmX10 rfl rfl (by decide) (by decide) rfl rfl (by decide) rfl (tyX10_ok 70 (by decide)) ⟨rfl, rfl⟩ tw1022 dX10_lots_41 (fun H locs hP hS => ?_)
      obtain ⟨S10, hf, hP⟩ := z_ltM hf hP
      refine lv_iconst (v := 0) hx hb dX10_lots_44 (by decide) ?_
      refine lv_istore (lv' := [(5, .int (0)), (0, .ref (gq G (65))), (1, .int (v1)), (2, .int (v2)), (3, .int (v3)), (4, .int (v4))]) hx hb dX10_lots_45 hl (by decide) rfl (fun ls hl => ?_)
      refine lv_iconst (v := 0) hx hb dX10_lots_47 (by decide) ?_
      refine lv_istore (lv' := [(6, .int (0)), (5, .int (0)), (0, .ref (gq G (65))), (1, .int (v1)), (2, .int (v2)), (3, .int (v3)), (4, .int (v4))]) hx hb dX10_lots_48 hl (by decide) rfl (fun ls hl => ?_)
      exact hL50 N (v1) (v3) (0) (0) S10 _ _ _ hf hP hS (lv_sub hl [2, 3, 5, 1, 0] rfl)
    · replace hf := z_ifn hf hc9
      refine lv_aload_n hx hb dX10_lots_32 rfl (lv_at hl 0 rfl) ?_
      refine lv_iload hx hb dX10_lots_33 (lv_at hl 4 rfl) ?_
      obtain ⟨r12, S11, hz13, hf⟩ := z_bd_some hf
      refine z_ci (z_runV (o := 65) (ci := 10) E hK hP hS (c_X10_lower hq hz13) cv_X10_lower tw1331 rfl (by decide) rfl rfl ⟨Nat.le_of_ble_eq_true rfl, Nat.le_of_ble_eq_true rfl⟩ ⟨Nat.le_refl 0, Nat.le_refl 0⟩ hl.1 (Nat.le_of_ble_eq_true rfl) rfl dX10_lots_35) hS (fun H locs hP hS => ?_)
      exact m_reti hx hb hr hlk hf hP hS dX10_lots_38
  have hl : lv_has ls 8 [(0, .ref (gq G (65))), (1, .int (a1)), (2, .int (a2)), (3, .int (a3))] := hl
  unfold f_X10_lots at hf
  refine lv_iload_n hx hb dX10_lots_0 rfl (lv_at hl 1 rfl) ?_
  refine lv_iconst (v := 1) hx hb dX10_lots_1 (by decide) ?_
  refine lv_bipush (v := 20) hx hb dX10_lots_2 (by decide) ?_
  obtain ⟨r2, S1, hz3, hf⟩ := z_bd_some hf
  refine z_ci (z_runS E hK hP hS (c_X10_bound hq hz3) cs_X10_bound tw1182 rfl ⟨Nat.le_of_ble_eq_true rfl, Nat.le_of_ble_eq_true rfl⟩ ⟨Nat.le_refl 0, Nat.le_refl 0⟩ hl.1 (Nat.le_of_ble_eq_true rfl) rfl dX10_lots_4) hS (fun H locs hP hS => ?_)
  refine lv_istore (lv' := [(4, .int (r2)), (0, .ref (gq G (65))), (1, .int (a1)), (2, .int (a2)), (3, .int (a3))]) hx hb dX10_lots_7 hl (by decide) rfl (fun ls hl => ?_)
  refine lv_iload hx hb dX10_lots_9 (lv_at hl 0 rfl) ?_
  refine lv_if_ne (tgt := 27) hx hb dX10_lots_11 (by decide) (fun hc4 => ?_) (fun hc4 => ?_)
  · replace hf := z_ifn hf hc4
    exact hJ27 (a1) (a2) (a3) (r2) S1 _ _ _ hf hP hS (lv_sub hl [1, 2, 3, 4, 0] rfl)
  · replace hf := z_ifp hf hc4
    refine lv_iload_n hx hb dX10_lots_14 rfl (lv_at hl 4 rfl) ?_
    refine lv_iconst (v := 0) hx hb dX10_lots_15 (by decide) ?_
    refine lv_iconst (v := 1) hx hb dX10_lots_16 (by decide) ?_
    obtain ⟨r6, S5, hz7, hf⟩ := z_bd_some hf
    refine z_ci (z_runS E hK hP hS (c_X10_isIn hq hz7) cs_X10_isIn tw943 rfl ⟨Nat.le_of_ble_eq_true rfl, Nat.le_of_ble_eq_true rfl⟩ ⟨Nat.le_refl 0, Nat.le_refl 0⟩ hl.1 (Nat.le_of_ble_eq_true rfl) rfl dX10_lots_17) hS (fun H locs hP hS => ?_)
    refine lv_if_ne (tgt := 27) hx hb dX10_lots_20 (by decide) (fun hc8 => ?_) (fun hc8 => ?_)
    · replace hf := z_ifn hf hc8
      exact hJ27 (a1) (a2) (a3) (r2) S5 _ _ _ hf hP hS (lv_sub hl [1, 2, 3, 4, 0] rfl)
    · replace hf := z_ifp hf hc8
      refine lv_bipush (v := (-2)) hx hb dX10_lots_23 (by decide) ?_
      refine lv_istore (lv' := [(4, .int ((-2))), (0, .ref (gq G (65))), (1, .int (a1)), (2, .int (a2)), (3, .int (a3))]) hx hb dX10_lots_25 hl (by decide) rfl (fun ls hl => ?_)
      exact hJ27 (a1) (a2) (a3) ((-2)) S5 _ _ _ hf hP hS (lv_sub hl [1, 2, 3, 4, 0] rfl)
theorem cv_X10_lots : z_cv yX10_lots cX10_lots 8 (some .int) RX10 3 := ⟨⟨tw1445, tw1446⟩, tw1447, tw11, by decide +kernel⟩
def b_X10_passes_42 (N : Nat) (o1 : Nat) (k2 : Int32 → St → Option (St)) (v2 : Int32) (S : St) : Option (St) := z_lt (z_wr S 65 74 ((S 65 74) + 1)) fun S9 => k2 ((v2 + 1)) S9
def b_X10_passes_2 (N : Nat) (o1 : Nat) (k2 : Int32 → St → Option (St)) (v2 : Int32) (S : St) : Option (St) := if (nI (z_ln o1)) ≤ v2 then (some S) else (if (S 65 73) = 0 then (z_gd (z_in (S 65 74) (z_ln 101)) (z_gd (z_in v2 (z_ln o1)) (z_lt (z_wr S o1 (v2 : Int32).toNatClampNeg (S 101 ((S 65 74) : Int32).toNatClampNeg)) fun S5 => b_X10_passes_42 N o1 k2 (v2) S5))) else (z_gd (z_in v2 (z_ln o1)) (z_gd (z_in (S 65 74) (z_ln 101)) (z_lt (z_wr S 101 ((S 65 74) : Int32).toNatClampNeg (S o1 (v2 : Int32).toNatClampNeg)) fun S8 => b_X10_passes_42 N o1 k2 (v2) S8))))
def f_X10_passes_2 (N : Nat) (o1 : Nat) : Nat → Int32 → St → Option (St)
  | 0 => fun _ _ => none
  | n + 1 => b_X10_passes_2 N o1 (f_X10_passes_2 N o1 n)
def f_X10_passes (N : Nat) (o1 : Nat) (S : St) : Option (St) := f_X10_passes_2 N o1 N (0) S
set_option maxHeartbeats 4000000 in
set_option maxRecDepth 100000 in
theorem c_X10_passes {l : Launch} {G : Cx} {X S S' : St} {N : Nat} {o1 : Nat} (hq : z_inj (gq G)) (hko1 : z_kd o1 = 11) (hxo1 : 65 ≤ o1) (hf : f_X10_passes N o1 S = some S') : z_Ct l yX10_passes cX10_passes 3 none 0 0 G X S [.ref (gq G (65)), .ref (gq G (o1))] (z_QV G X S') := by
  refine z_start (by decide +kernel) (Nat.le_of_ble_eq_true rfl) ?_
  intro p e s m below meth c ls E hr hlk hK hP hS hl
  have E : CallFix p m c cX10_passes 3 s _ lw_good RX10 := E
  have hx := E.1
  have hb := E.2.1
  have hown := E.2.2.2.1
  have hts := E.2.2.2.2
  have hJ42 : ∀ (k2 : Int32 → St → Option (St)) (hk2 : ∀ (v2 : Int32) (S : St) (H : Heap) (locs : List Loc) (ls : Array Slot), k2 v2 S = some S' → z_P G X S H → z_S G s.heap H locs → lv_has ls 3 [(0, .ref (gq G (65))), (1, .ref (gq G (o1))), (2, .int (v2))] → W p l e (z_rm 0 0) s m ([.ref (gq G (65)), .ref (gq G (o1))] : List Value).toArray below meth c H locs 0 0 (MQ below (z_QV G X S') ([.ref (gq G (65)), .ref (gq G (o1))] : List Value).toArray s 0 0 (z_Aq (gq G))) (F0 m 2 ls [])), ∀ (v2 : Int32) (S : St) (H : Heap) (locs : List Loc) (ls : Array Slot), b_X10_passes_42 N o1 k2 v2 S = some S' → z_P G X S H → z_S G s.heap H locs → lv_has ls 3 [(0, .ref (gq G (65))), (1, .ref (gq G (o1))), (2, .int (v2))] → W p l e (z_rm 0 0) s m ([.ref (gq G (65)), .ref (gq G (o1))] : List Value).toArray below meth c H locs 0 0 (MQ below (z_QV G X S') ([.ref (gq G (65)), .ref (gq G (o1))] : List Value).toArray s 0 0 (z_Aq (gq G))) (F0 m 42 ls []) := by
    intro k2 hk2 v2 S H locs ls hf hP hS hl
    unfold b_X10_passes_42 at hf
    refine lv_aload_n hx hb dX10_passes_42 rfl (lv_at hl 0 rfl) ?_
    refine lv_dup hx hb dX10_passes_43 rfl ?_
    refine m_getI (C := RX10) (T := TX10) (N := 75) (ci := 10) (k := 74) (o := 65) E hK hP iwX10 rfl rfl (by decide) (by decide) rfl rfl (by decide) tw1026 dX10_passes_44 ?_
    refine lv_iconst (v := 1) hx hb dX10_passes_47 (by decide) ?_
    refine lv_iadd hx hb dX10_passes_48 ?_
    refine m_putI (C := RX10) (T := TX10) (N := 75) (ci := 10) (k := 74) (o := 65) (v := ((S 65 74) + 1)) (ty := .int) E hK hq hP hS iwX10 tyX10 tyX10_ok nmX10 rfl rfl (by decide) (by decide) rfl rfl (by decide) rfl (tyX10_ok 74 (by decide)) ⟨rfl, rfl⟩ tw1026 dX10_passes_49 (fun H locs hP hS => ?_)
    obtain ⟨S9, hf, hP⟩ := z_ltM hf hP
    refine lv_iinc (v := (v2 + 1)) (lv' := [(2, .int ((v2 + 1))), (0, .ref (gq G (65))), (1, .ref (gq G (o1)))]) hx hb dX10_passes_52 hl (k := 2) rfl rfl (by decide) rfl (fun ls hl => ?_)
    refine lv_goto (tgt := 2) hx hb dX10_passes_55 (by decide) ?_
    exact hk2 ((v2 + 1)) S9 _ _ _ hf hP hS (lv_sub hl [1, 2, 0] rfl)
  have hB2 : ∀ (k2 : Int32 → St → Option (St)) (hk2 : ∀ (v2 : Int32) (S : St) (H : Heap) (locs : List Loc) (ls : Array Slot), k2 v2 S = some S' → z_P G X S H → z_S G s.heap H locs → lv_has ls 3 [(0, .ref (gq G (65))), (1, .ref (gq G (o1))), (2, .int (v2))] → W p l e (z_rm 0 0) s m ([.ref (gq G (65)), .ref (gq G (o1))] : List Value).toArray below meth c H locs 0 0 (MQ below (z_QV G X S') ([.ref (gq G (65)), .ref (gq G (o1))] : List Value).toArray s 0 0 (z_Aq (gq G))) (F0 m 2 ls [])), ∀ (v2 : Int32) (S : St) (H : Heap) (locs : List Loc) (ls : Array Slot), b_X10_passes_2 N o1 k2 v2 S = some S' → z_P G X S H → z_S G s.heap H locs → lv_has ls 3 [(0, .ref (gq G (65))), (1, .ref (gq G (o1))), (2, .int (v2))] → W p l e (z_rm 0 0) s m ([.ref (gq G (65)), .ref (gq G (o1))] : List Value).toArray below meth c H locs 0 0 (MQ below (z_QV G X S') ([.ref (gq G (65)), .ref (gq G (o1))] : List Value).toArray s 0 0 (z_Aq (gq G))) (F0 m 2 ls []) := by
    intro k2 hk2 v2 S H locs ls hf hP hS hl
    unfold b_X10_passes_2 at hf
    refine lv_iload_n hx hb dX10_passes_2 rfl (lv_at hl 2 rfl) ?_
    refine lv_aload_n hx hb dX10_passes_3 rfl (lv_at hl 1 rfl) ?_
    refine z_aln (o := o1) E hK hP hko1 dX10_passes_4 ?_
    refine lv_icmp_ge (tgt := 58) hx hb dX10_passes_5 (by decide) (fun hc1 => ?_) (fun hc1 => ?_)
    · replace hf := z_ifp hf hc1
      exact m_retv hx hb hr hlk hf hP hS dX10_passes_58
    · replace hf := z_ifn hf hc1
      refine lv_aload_n hx hb dX10_passes_8 rfl (lv_at hl 0 rfl) ?_
      refine m_getI (C := RX10) (T := TX10) (N := 75) (ci := 10) (k := 73) (o := 65) E hK hP iwX10 rfl rfl (by decide) (by decide) rfl rfl (by decide) tw1025 dX10_passes_9 ?_
      refine lv_if_eq (tgt := 30) hx hb dX10_passes_12 (by decide) (fun hc2 => ?_) (fun hc2 => ?_)
      · replace hf := z_ifp hf hc2
        refine lv_aload_n hx hb dX10_passes_30 rfl (lv_at hl 1 rfl) ?_
        refine lv_iload_n hx hb dX10_passes_31 rfl (lv_at hl 2 rfl) ?_
        refine lv_aload_n hx hb dX10_passes_32 rfl (lv_at hl 0 rfl) ?_
        refine z_getR (C := RX10) (T := TX10) (N := 75) (ci := 10) (k := 71) (o := 65) (t := 101) E hK hP iwX10 rfl rfl (by decide) (by decide) rfl rfl rfl tw1023 dX10_passes_33 ?_
        refine lv_aload_n hx hb dX10_passes_36 rfl (lv_at hl 0 rfl) ?_
        refine m_getI (C := RX10) (T := TX10) (N := 75) (ci := 10) (k := 74) (o := 65) E hK hP iwX10 rfl rfl (by decide) (by decide) rfl rfl (by decide) tw1026 dX10_passes_37 ?_
        obtain ⟨hg3, hf⟩ := z_gd_some hf
        refine m_ald (o := 101) (i := (S 65 74)) E hK hP rfl (by decide) hg3 dX10_passes_40 ?_
        obtain ⟨hg4, hf⟩ := z_gd_some hf
        refine m_ast (o := o1) (i := v2) (v := (S 101 ((S 65 74) : Int32).toNatClampNeg)) E hK hq hP hS hko1 hxo1 hg4 dX10_passes_41 (fun H locs hP hS => ?_)
        obtain ⟨S5, hf, hP⟩ := z_ltM hf hP
        exact hJ42 k2 hk2 (v2) S5 _ _ _ hf hP hS (lv_sub hl [0, 1, 2] rfl)
      · replace hf := z_ifn hf hc2
        refine lv_aload_n hx hb dX10_passes_15 rfl (lv_at hl 0 rfl) ?_
        refine z_getR (C := RX10) (T := TX10) (N := 75) (ci := 10) (k := 71) (o := 65) (t := 101) E hK hP iwX10 rfl rfl (by decide) (by decide) rfl rfl rfl tw1023 dX10_passes_16 ?_
        refine lv_aload_n hx hb dX10_passes_19 rfl (lv_at hl 0 rfl) ?_
        refine m_getI (C := RX10) (T := TX10) (N := 75) (ci := 10) (k := 74) (o := 65) E hK hP iwX10 rfl rfl (by decide) (by decide) rfl rfl (by decide) tw1026 dX10_passes_20 ?_
        refine lv_aload_n hx hb dX10_passes_23 rfl (lv_at hl 1 rfl) ?_
        refine lv_iload_n hx hb dX10_passes_24 rfl (lv_at hl 2 rfl) ?_
        obtain ⟨hg6, hf⟩ := z_gd_some hf
        refine m_ald (o := o1) (i := v2) E hK hP hko1 hxo1 hg6 dX10_passes_25 ?_
        obtain ⟨hg7, hf⟩ := z_gd_some hf
        refine m_ast (o := 101) (i := (S 65 74)) (v := (S o1 (v2 : Int32).toNatClampNeg)) E hK hq hP hS rfl (by decide) hg7 dX10_passes_26 (fun H locs hP hS => ?_)
        obtain ⟨S8, hf, hP⟩ := z_ltM hf hP
        refine lv_goto (tgt := 42) hx hb dX10_passes_27 (by decide) ?_
        exact hJ42 k2 hk2 (v2) S8 _ _ _ hf hP hS (lv_sub hl [0, 1, 2] rfl)
  have hL2 : ∀ (n : Nat), ∀ (v2 : Int32) (S : St) (H : Heap) (locs : List Loc) (ls : Array Slot), f_X10_passes_2 N o1 n v2 S = some S' → z_P G X S H → z_S G s.heap H locs → lv_has ls 3 [(0, .ref (gq G (65))), (1, .ref (gq G (o1))), (2, .int (v2))] → W p l e (z_rm 0 0) s m ([.ref (gq G (65)), .ref (gq G (o1))] : List Value).toArray below meth c H locs 0 0 (MQ below (z_QV G X S') ([.ref (gq G (65)), .ref (gq G (o1))] : List Value).toArray s 0 0 (z_Aq (gq G))) (F0 m 2 ls []) := by
    intro  n
    induction n with
    | zero => intro _ _ _ _ _ hf; cases hf
    | succ n ih => exact hB2  _  ih
  have hl : lv_has ls 3 [(0, .ref (gq G (65))), (1, .ref (gq G (o1)))] := hl
  unfold f_X10_passes at hf
  refine lv_iconst (v := 0) hx hb dX10_passes_0 (by decide) ?_
  refine lv_istore_n (lv' := [(2, .int (0)), (0, .ref (gq G (65))), (1, .ref (gq G (o1)))]) hx hb dX10_passes_1 rfl hl (by decide) rfl (fun ls hl => ?_)
  exact hL2 N (0) S _ _ _ hf hP hS (lv_sub hl [1, 2, 0] rfl)
theorem cv_X10_passes : z_cv yX10_passes cX10_passes 3 none RX10 1 := ⟨⟨tw1465, twp74⟩, tw1466, tw11, by decide +kernel⟩
def b_X10_passOne_38 (N : Nat) (v2 : Int32) (S : St) : Option (Int32 × St) := z_lt (z_wr S 65 74 ((S 65 74) + 1)) fun S6 => some (v2, S6)
def b_X10_passOne_20 (N : Nat) (v1 : Int32) (t0 : Int32) (S : St) : Option (Int32 × St) := if (S 65 73) = 0 then (b_X10_passOne_38 N (t0) S) else (z_gd (z_in (S 65 74) (z_ln 101)) (z_lt (z_wr S 101 ((S 65 74) : Int32).toNatClampNeg v1) fun S5 => b_X10_passOne_38 N (t0) S5))
def f_X10_passOne (N : Nat) (a1 : Int32) (S : St) : Option (Int32 × St) := if (S 65 73) = 0 then (z_gd (z_in (S 65 74) (z_ln 101)) (b_X10_passOne_20 N (a1) ((S 101 ((S 65 74) : Int32).toNatClampNeg)) S)) else (b_X10_passOne_20 N (a1) (a1) S)
set_option maxHeartbeats 4000000 in
set_option maxRecDepth 100000 in
theorem c_X10_passOne {l : Launch} {G : Cx} {X S S' : St} {N : Nat} {a1 : Int32} {r : Int32} (hq : z_inj (gq G)) (hf : f_X10_passOne N a1 S = some (r, S')) : z_Ct l yX10_passOne cX10_passOne 3 (some .int) 0 0 G X S [.ref (gq G (65)), .int (a1)] (z_QI G X S' r) := by
  refine z_start (by decide +kernel) (Nat.le_of_ble_eq_true rfl) ?_
  intro p e s m below meth c ls E hr hlk hK hP hS hl
  have E : CallFix p m c cX10_passOne 3 s _ lw_good RX10 := E
  have hx := E.1
  have hb := E.2.1
  have hown := E.2.2.2.1
  have hts := E.2.2.2.2
  have hJ38 : ∀ (v2 : Int32) (S : St) (H : Heap) (locs : List Loc) (ls : Array Slot), b_X10_passOne_38 N v2 S = some (r, S') → z_P G X S H → z_S G s.heap H locs → lv_has ls 3 [(0, .ref (gq G (65))), (2, .int (v2))] → W p l e (z_rm 0 0) s m ([.ref (gq G (65)), .int (a1)] : List Value).toArray below meth c H locs 0 0 (MQ below (z_QI G X S' r) ([.ref (gq G (65)), .int (a1)] : List Value).toArray s 0 0 (z_Aq (gq G))) (F0 m 38 ls []) := by
    intro v2 S H locs ls hf hP hS hl
    unfold b_X10_passOne_38 at hf
    refine lv_aload_n hx hb dX10_passOne_38 rfl (lv_at hl 0 rfl) ?_
    refine lv_dup hx hb dX10_passOne_39 rfl ?_
    refine m_getI (C := RX10) (T := TX10) (N := 75) (ci := 10) (k := 74) (o := 65) E hK hP iwX10 rfl rfl (by decide) (by decide) rfl rfl (by decide) tw1026 dX10_passOne_40 ?_
    refine lv_iconst (v := 1) hx hb dX10_passOne_43 (by decide) ?_
    refine lv_iadd hx hb dX10_passOne_44 ?_
    refine m_putI (C := RX10) (T := TX10) (N := 75) (ci := 10) (k := 74) (o := 65) (v := ((S 65 74) + 1)) (ty := .int) E hK hq hP hS iwX10 tyX10 tyX10_ok nmX10 rfl rfl (by decide) (by decide) rfl rfl (by decide) rfl (tyX10_ok 74 (by decide)) ⟨rfl, rfl⟩ tw1026 dX10_passOne_45 (fun H locs hP hS => ?_)
    obtain ⟨S6, hf, hP⟩ := z_ltM hf hP
    refine lv_iload_n hx hb dX10_passOne_48 rfl (lv_at hl 1 rfl) ?_
    exact m_reti hx hb hr hlk hf hP hS dX10_passOne_49
  have hJ20 : ∀ (v1 : Int32) (t0 : Int32) (S : St) (H : Heap) (locs : List Loc) (ls : Array Slot), b_X10_passOne_20 N v1 t0 S = some (r, S') → z_P G X S H → z_S G s.heap H locs → lv_has ls 3 [(0, .ref (gq G (65))), (1, .int (v1))] → W p l e (z_rm 0 0) s m ([.ref (gq G (65)), .int (a1)] : List Value).toArray below meth c H locs 0 0 (MQ below (z_QI G X S' r) ([.ref (gq G (65)), .int (a1)] : List Value).toArray s 0 0 (z_Aq (gq G))) (F0 m 20 ls [.int (t0)]) := by
    intro v1 t0 S H locs ls hf hP hS hl
    unfold b_X10_passOne_20 at hf
    refine lv_istore_n (lv' := [(2, .int (t0)), (0, .ref (gq G (65))), (1, .int (v1))]) hx hb dX10_passOne_20 rfl hl (by decide) rfl (fun ls hl => ?_)
    refine lv_aload_n hx hb dX10_passOne_21 rfl (lv_at hl 1 rfl) ?_
    refine m_getI (C := RX10) (T := TX10) (N := 75) (ci := 10) (k := 73) (o := 65) E hK hP iwX10 rfl rfl (by decide) (by decide) rfl rfl (by decide) tw1025 dX10_passOne_22 ?_
    refine lv_if_eq (tgt := 38) hx hb dX10_passOne_25 (by decide) (fun hc3 => ?_) (fun hc3 => ?_)
    · replace hf := z_ifp hf hc3
      exact hJ38 (t0) S _ _ _ hf hP hS (lv_sub hl [1, 0] rfl)
    · replace hf := z_ifn hf hc3
      refine lv_aload_n hx hb dX10_passOne_28 rfl (lv_at hl 1 rfl) ?_
      refine z_getR (C := RX10) (T := TX10) (N := 75) (ci := 10) (k := 71) (o := 65) (t := 101) E hK hP iwX10 rfl rfl (by decide) (by decide) rfl rfl rfl tw1023 dX10_passOne_29 ?_
      refine lv_aload_n hx hb dX10_passOne_32 rfl (lv_at hl 1 rfl) ?_
      refine m_getI (C := RX10) (T := TX10) (N := 75) (ci := 10) (k := 74) (o := 65) E hK hP iwX10 rfl rfl (by decide) (by decide) rfl rfl (by decide) tw1026 dX10_passOne_33 ?_
      refine lv_iload_n hx hb dX10_passOne_36 rfl (lv_at hl 2 rfl) ?_
      obtain ⟨hg4, hf⟩ := z_gd_some hf
      refine m_ast (o := 101) (i := (S 65 74)) (v := v1) E hK hq hP hS rfl (by decide) hg4 dX10_passOne_37 (fun H locs hP hS => ?_)
      obtain ⟨S5, hf, hP⟩ := z_ltM hf hP
      exact hJ38 (t0) S5 _ _ _ hf hP hS (lv_sub hl [1, 0] rfl)
  have hl : lv_has ls 3 [(0, .ref (gq G (65))), (1, .int (a1))] := hl
  unfold f_X10_passOne at hf
  refine lv_aload_n hx hb dX10_passOne_0 rfl (lv_at hl 0 rfl) ?_
  refine m_getI (C := RX10) (T := TX10) (N := 75) (ci := 10) (k := 73) (o := 65) E hK hP iwX10 rfl rfl (by decide) (by decide) rfl rfl (by decide) tw1025 dX10_passOne_1 ?_
  refine lv_if_eq (tgt := 11) hx hb dX10_passOne_4 (by decide) (fun hc1 => ?_) (fun hc1 => ?_)
  · replace hf := z_ifp hf hc1
    refine lv_aload_n hx hb dX10_passOne_11 rfl (lv_at hl 0 rfl) ?_
    refine z_getR (C := RX10) (T := TX10) (N := 75) (ci := 10) (k := 71) (o := 65) (t := 101) E hK hP iwX10 rfl rfl (by decide) (by decide) rfl rfl rfl tw1023 dX10_passOne_12 ?_
    refine lv_aload_n hx hb dX10_passOne_15 rfl (lv_at hl 0 rfl) ?_
    refine m_getI (C := RX10) (T := TX10) (N := 75) (ci := 10) (k := 74) (o := 65) E hK hP iwX10 rfl rfl (by decide) (by decide) rfl rfl (by decide) tw1026 dX10_passOne_16 ?_
    obtain ⟨hg2, hf⟩ := z_gd_some hf
    refine m_ald (o := 101) (i := (S 65 74)) E hK hP rfl (by decide) hg2 dX10_passOne_19 ?_
    exact hJ20 (a1) ((S 101 ((S 65 74) : Int32).toNatClampNeg)) S _ _ _ hf hP hS (lv_sub hl [0, 1] rfl)
  · replace hf := z_ifn hf hc1
    refine lv_iload_n hx hb dX10_passOne_7 rfl (lv_at hl 1 rfl) ?_
    refine lv_goto (tgt := 20) hx hb dX10_passOne_8 (by decide) ?_
    exact hJ20 (a1) (a1) S _ _ _ hf hP hS (lv_sub hl [0, 1] rfl)
theorem cv_X10_passOne : z_cv yX10_passOne cX10_passOne 3 (some .int) RX10 1 := ⟨⟨tw1469, twp75⟩, tw1470, tw11, by decide +kernel⟩
def f_X10_passesAll (N : Nat) (a1 : Int32) (S : St) : Option (St) := z_lt (z_wr S 65 74 0) fun S1 => z_gd (a1 = 0 ∨ a1 = 1) (z_lt (z_wr S1 65 73 a1) fun S3 => z_bv (f_X10_passes N (73) S3) fun S4 => z_bv (f_X10_passes N (74) S4) fun S6 => z_bv (f_X10_passes N (78) S6) fun S8 => z_bv (f_X10_passes N (79) S8) fun S10 => z_bv (f_X10_passes N (80) S10) fun S12 => z_bv (f_X10_passes N (81) S12) fun S14 => z_bv (f_X10_passes N (82) S14) fun S16 => z_bd (f_X10_passOne N ((S16 65 16)) S16) fun r19 S18 => z_lt (z_wr S18 65 16 r19) fun S21 => z_bd (f_X10_passOne N ((S21 65 6)) S21) fun r23 S22 => z_lt (z_wr S22 65 6 r23) fun S25 => z_bd (f_X10_passOne N ((S25 65 7)) S25) fun r27 S26 => z_lt (z_wr S26 65 7 r27) fun S29 => z_bd (f_X10_passOne N ((S29 65 29)) S29) fun r31 S30 => z_lt (z_wr S30 65 29 r31) fun S33 => z_bd (f_X10_passOne N ((S33 65 30)) S33) fun r35 S34 => z_lt (z_wr S34 65 30 r35) fun S37 => z_bd (f_X10_passOne N ((S37 65 31)) S37) fun r39 S38 => z_lt (z_wr S38 65 31 r39) fun S41 => z_bd (f_X10_passOne N ((S41 65 32)) S41) fun r43 S42 => z_lt (z_wr S42 65 32 r43) fun S45 => z_bd (f_X10_passOne N ((S45 65 33)) S45) fun r47 S46 => z_lt (z_wr S46 65 33 r47) fun S49 => z_bd (f_X10_passOne N ((S49 65 34)) S49) fun r51 S50 => z_lt (z_wr S50 65 34 r51) fun S53 => z_bd (f_X10_passOne N ((S53 65 35)) S53) fun r55 S54 => z_lt (z_wr S54 65 35 r55) fun S57 => some S57)
set_option maxHeartbeats 4000000 in
set_option maxRecDepth 100000 in
theorem c_X10_passesAll {l : Launch} {G : Cx} {X S S' : St} {N : Nat} {a1 : Int32} (hq : z_inj (gq G)) (hf : f_X10_passesAll N a1 S = some S') : z_Ct l yX10_passesAll cX10_passesAll 2 none 1 22 G X S [.ref (gq G (65)), .int (a1)] (z_QV G X S') := by
  refine z_start (by decide +kernel) (Nat.le_of_ble_eq_true rfl) ?_
  intro p e s m below meth c ls E hr hlk hK hP hS hl
  have E : CallFix p m c cX10_passesAll 2 s _ lw_good RX10 := E
  have hx := E.1
  have hb := E.2.1
  have hown := E.2.2.2.1
  have hts := E.2.2.2.2
  have hl : lv_has ls 2 [(0, .ref (gq G (65))), (1, .int (a1))] := hl
  unfold f_X10_passesAll at hf
  refine lv_aload_n hx hb dX10_passesAll_0 rfl (lv_at hl 0 rfl) ?_
  refine lv_iconst (v := 0) hx hb dX10_passesAll_1 (by decide) ?_
  refine m_putI (C := RX10) (T := TX10) (N := 75) (ci := 10) (k := 74) (o := 65) (v := 0) (ty := .int) E hK hq hP hS iwX10 tyX10 tyX10_ok nmX10 rfl rfl (by decide) (by decide) rfl rfl (by decide) rfl (tyX10_ok 74 (by decide)) ⟨rfl, rfl⟩ tw1026 dX10_passesAll_2 (fun H locs hP hS => ?_)
  obtain ⟨S1, hf, hP⟩ := z_ltM hf hP
  refine lv_aload_n hx hb dX10_passesAll_5 rfl (lv_at hl 0 rfl) ?_
  refine lv_iload_n hx hb dX10_passesAll_6 rfl (lv_at hl 1 rfl) ?_
  obtain ⟨hg2, hf⟩ := z_gd_some hf
  refine m_putI (C := RX10) (T := TX10) (N := 75) (ci := 10) (k := 73) (o := 65) (v := a1) (ty := .boolean) E hK hq hP hS iwX10 tyX10 tyX10_ok nmX10 rfl rfl (by decide) (by decide) rfl rfl (by decide) rfl (tyX10_ok 73 (by decide)) (z_bz hg2) tw1025 dX10_passesAll_7 (fun H locs hP hS => ?_)
  obtain ⟨S3, hf, hP⟩ := z_ltM hf hP
  refine lv_aload_n hx hb dX10_passesAll_10 rfl (lv_at hl 0 rfl) ?_
  refine lv_aload_n hx hb dX10_passesAll_11 rfl (lv_at hl 0 rfl) ?_
  refine z_getR (C := RX10) (T := TX10) (N := 75) (ci := 10) (k := 10) (o := 65) (t := 73) E hK hP iwX10 rfl rfl (by decide) (by decide) rfl rfl rfl tw962 dX10_passesAll_12 ?_
  obtain ⟨S4, hz5, hf⟩ := z_bv_some hf
  refine z_cvo (z_runV (o := 65) (ci := 10) E hK hP hS (c_X10_passes hq rfl (by decide) hz5) cv_X10_passes tw1463 rfl (by decide) rfl rfl ⟨Nat.le_of_ble_eq_true rfl, Nat.le_of_ble_eq_true rfl⟩ ⟨Nat.le_refl 0, Nat.le_refl 0⟩ hl.1 (Nat.le_of_ble_eq_true rfl) rfl dX10_passesAll_15) hS (fun H locs hP hS => ?_)
  refine lv_aload_n hx hb dX10_passesAll_18 rfl (lv_at hl 0 rfl) ?_
  refine lv_aload_n hx hb dX10_passesAll_19 rfl (lv_at hl 0 rfl) ?_
  refine z_getR (C := RX10) (T := TX10) (N := 75) (ci := 10) (k := 11) (o := 65) (t := 74) E hK hP iwX10 rfl rfl (by decide) (by decide) rfl rfl rfl tw963 dX10_passesAll_20 ?_
  obtain ⟨S6, hz7, hf⟩ := z_bv_some hf
  refine z_cvo (z_runV (o := 65) (ci := 10) E hK hP hS (c_X10_passes hq rfl (by decide) hz7) cv_X10_passes tw1463 rfl (by decide) rfl rfl ⟨Nat.le_of_ble_eq_true rfl, Nat.le_of_ble_eq_true rfl⟩ ⟨Nat.le_refl 0, Nat.le_refl 0⟩ hl.1 (Nat.le_of_ble_eq_true rfl) rfl dX10_passesAll_23) hS (fun H locs hP hS => ?_)
  refine lv_aload_n hx hb dX10_passesAll_26 rfl (lv_at hl 0 rfl) ?_
  refine lv_aload_n hx hb dX10_passesAll_27 rfl (lv_at hl 0 rfl) ?_
  refine z_getR (C := RX10) (T := TX10) (N := 75) (ci := 10) (k := 24) (o := 65) (t := 78) E hK hP iwX10 rfl rfl (by decide) (by decide) rfl rfl rfl tw976 dX10_passesAll_28 ?_
  obtain ⟨S8, hz9, hf⟩ := z_bv_some hf
  refine z_cvo (z_runV (o := 65) (ci := 10) E hK hP hS (c_X10_passes hq rfl (by decide) hz9) cv_X10_passes tw1463 rfl (by decide) rfl rfl ⟨Nat.le_of_ble_eq_true rfl, Nat.le_of_ble_eq_true rfl⟩ ⟨Nat.le_refl 0, Nat.le_refl 0⟩ hl.1 (Nat.le_of_ble_eq_true rfl) rfl dX10_passesAll_31) hS (fun H locs hP hS => ?_)
  refine lv_aload_n hx hb dX10_passesAll_34 rfl (lv_at hl 0 rfl) ?_
  refine lv_aload_n hx hb dX10_passesAll_35 rfl (lv_at hl 0 rfl) ?_
  refine z_getR (C := RX10) (T := TX10) (N := 75) (ci := 10) (k := 25) (o := 65) (t := 79) E hK hP iwX10 rfl rfl (by decide) (by decide) rfl rfl rfl tw977 dX10_passesAll_36 ?_
  obtain ⟨S10, hz11, hf⟩ := z_bv_some hf
  refine z_cvo (z_runV (o := 65) (ci := 10) E hK hP hS (c_X10_passes hq rfl (by decide) hz11) cv_X10_passes tw1463 rfl (by decide) rfl rfl ⟨Nat.le_of_ble_eq_true rfl, Nat.le_of_ble_eq_true rfl⟩ ⟨Nat.le_refl 0, Nat.le_refl 0⟩ hl.1 (Nat.le_of_ble_eq_true rfl) rfl dX10_passesAll_39) hS (fun H locs hP hS => ?_)
  refine lv_aload_n hx hb dX10_passesAll_42 rfl (lv_at hl 0 rfl) ?_
  refine lv_aload_n hx hb dX10_passesAll_43 rfl (lv_at hl 0 rfl) ?_
  refine z_getR (C := RX10) (T := TX10) (N := 75) (ci := 10) (k := 26) (o := 65) (t := 80) E hK hP iwX10 rfl rfl (by decide) (by decide) rfl rfl rfl tw978 dX10_passesAll_44 ?_
  obtain ⟨S12, hz13, hf⟩ := z_bv_some hf
  refine z_cvo (z_runV (o := 65) (ci := 10) E hK hP hS (c_X10_passes hq rfl (by decide) hz13) cv_X10_passes tw1463 rfl (by decide) rfl rfl ⟨Nat.le_of_ble_eq_true rfl, Nat.le_of_ble_eq_true rfl⟩ ⟨Nat.le_refl 0, Nat.le_refl 0⟩ hl.1 (Nat.le_of_ble_eq_true rfl) rfl dX10_passesAll_47) hS (fun H locs hP hS => ?_)
  refine lv_aload_n hx hb dX10_passesAll_50 rfl (lv_at hl 0 rfl) ?_
  refine lv_aload_n hx hb dX10_passesAll_51 rfl (lv_at hl 0 rfl) ?_
  refine z_getR (C := RX10) (T := TX10) (N := 75) (ci := 10) (k := 27) (o := 65) (t := 81) E hK hP iwX10 rfl rfl (by decide) (by decide) rfl rfl rfl tw979 dX10_passesAll_52 ?_
  obtain ⟨S14, hz15, hf⟩ := z_bv_some hf
  refine z_cvo (z_runV (o := 65) (ci := 10) E hK hP hS (c_X10_passes hq rfl (by decide) hz15) cv_X10_passes tw1463 rfl (by decide) rfl rfl ⟨Nat.le_of_ble_eq_true rfl, Nat.le_of_ble_eq_true rfl⟩ ⟨Nat.le_refl 0, Nat.le_refl 0⟩ hl.1 (Nat.le_of_ble_eq_true rfl) rfl dX10_passesAll_55) hS (fun H locs hP hS => ?_)
  refine lv_aload_n hx hb dX10_passesAll_58 rfl (lv_at hl 0 rfl) ?_
  refine lv_aload_n hx hb dX10_passesAll_59 rfl (lv_at hl 0 rfl) ?_
  refine z_getR (C := RX10) (T := TX10) (N := 75) (ci := 10) (k := 28) (o := 65) (t := 82) E hK hP iwX10 rfl rfl (by decide) (by decide) rfl rfl rfl tw980 dX10_passesAll_60 ?_
  obtain ⟨S16, hz17, hf⟩ := z_bv_some hf
  refine z_cvo (z_runV (o := 65) (ci := 10) E hK hP hS (c_X10_passes hq rfl (by decide) hz17) cv_X10_passes tw1463 rfl (by decide) rfl rfl ⟨Nat.le_of_ble_eq_true rfl, Nat.le_of_ble_eq_true rfl⟩ ⟨Nat.le_refl 0, Nat.le_refl 0⟩ hl.1 (Nat.le_of_ble_eq_true rfl) rfl dX10_passesAll_63) hS (fun H locs hP hS => ?_)
  refine lv_aload_n hx hb dX10_passesAll_66 rfl (lv_at hl 0 rfl) ?_
  refine lv_aload_n hx hb dX10_passesAll_67 rfl (lv_at hl 0 rfl) ?_
  refine lv_aload_n hx hb dX10_passesAll_68 rfl (lv_at hl 0 rfl) ?_
  refine m_getI (C := RX10) (T := TX10) (N := 75) (ci := 10) (k := 16) (o := 65) E hK hP iwX10 rfl rfl (by decide) (by decide) rfl rfl (by decide) tw968 dX10_passesAll_69 ?_
  obtain ⟨r19, S18, hz20, hf⟩ := z_bd_some hf
  refine z_ci (z_runV (o := 65) (ci := 10) E hK hP hS (c_X10_passOne hq hz20) cv_X10_passOne tw1467 rfl (by decide) rfl rfl ⟨Nat.le_of_ble_eq_true rfl, Nat.le_of_ble_eq_true rfl⟩ ⟨Nat.le_refl 0, Nat.le_refl 0⟩ hl.1 (Nat.le_of_ble_eq_true rfl) rfl dX10_passesAll_72) hS (fun H locs hP hS => ?_)
  refine m_putI (C := RX10) (T := TX10) (N := 75) (ci := 10) (k := 16) (o := 65) (v := r19) (ty := .int) E hK hq hP hS iwX10 tyX10 tyX10_ok nmX10 rfl rfl (by decide) (by decide) rfl rfl (by decide) rfl (tyX10_ok 16 (by decide)) ⟨rfl, rfl⟩ tw968 dX10_passesAll_75 (fun H locs hP hS => ?_)
  obtain ⟨S21, hf, hP⟩ := z_ltM hf hP
  refine lv_aload_n hx hb dX10_passesAll_78 rfl (lv_at hl 0 rfl) ?_
  refine lv_aload_n hx hb dX10_passesAll_79 rfl (lv_at hl 0 rfl) ?_
  refine lv_aload_n hx hb dX10_passesAll_80 rfl (lv_at hl 0 rfl) ?_
  refine m_getI (C := RX10) (T := TX10) (N := 75) (ci := 10) (k := 6) (o := 65) E hK hP iwX10 rfl rfl (by decide) (by decide) rfl rfl (by decide) tw958 dX10_passesAll_81 ?_
  obtain ⟨r23, S22, hz24, hf⟩ := z_bd_some hf
  refine z_ci (z_runV (o := 65) (ci := 10) E hK hP hS (c_X10_passOne hq hz24) cv_X10_passOne tw1467 rfl (by decide) rfl rfl ⟨Nat.le_of_ble_eq_true rfl, Nat.le_of_ble_eq_true rfl⟩ ⟨Nat.le_refl 0, Nat.le_refl 0⟩ hl.1 (Nat.le_of_ble_eq_true rfl) rfl dX10_passesAll_84) hS (fun H locs hP hS => ?_)
  refine m_putI (C := RX10) (T := TX10) (N := 75) (ci := 10) (k := 6) (o := 65) (v := r23) (ty := .int) E hK hq hP hS iwX10 tyX10 tyX10_ok nmX10 rfl rfl (by decide) (by decide) rfl rfl (by decide) rfl (tyX10_ok 6 (by decide)) ⟨rfl, rfl⟩ tw958 dX10_passesAll_87 (fun H locs hP hS => ?_)
  obtain ⟨S25, hf, hP⟩ := z_ltM hf hP
  refine lv_aload_n hx hb dX10_passesAll_90 rfl (lv_at hl 0 rfl) ?_
  refine lv_aload_n hx hb dX10_passesAll_91 rfl (lv_at hl 0 rfl) ?_
  refine lv_aload_n hx hb dX10_passesAll_92 rfl (lv_at hl 0 rfl) ?_
  refine m_getI (C := RX10) (T := TX10) (N := 75) (ci := 10) (k := 7) (o := 65) E hK hP iwX10 rfl rfl (by decide) (by decide) rfl rfl (by decide) tw959 dX10_passesAll_93 ?_
  obtain ⟨r27, S26, hz28, hf⟩ := z_bd_some hf
  refine z_ci (z_runV (o := 65) (ci := 10) E hK hP hS (c_X10_passOne hq hz28) cv_X10_passOne tw1467 rfl (by decide) rfl rfl ⟨Nat.le_of_ble_eq_true rfl, Nat.le_of_ble_eq_true rfl⟩ ⟨Nat.le_refl 0, Nat.le_refl 0⟩ hl.1 (Nat.le_of_ble_eq_true rfl) rfl dX10_passesAll_96) hS (fun H locs hP hS => ?_)
  refine m_putI (C := RX10) (T := TX10) (N := 75) (ci := 10) (k := 7) (o := 65) (v := r27) (ty := .int) E hK hq hP hS iwX10 tyX10 tyX10_ok nmX10 rfl rfl (by decide) (by decide) rfl rfl (by decide) rfl (tyX10_ok 7 (by decide)) ⟨rfl, rfl⟩ tw959 dX10_passesAll_99 (fun H locs hP hS => ?_)
  obtain ⟨S29, hf, hP⟩ := z_ltM hf hP
  refine lv_aload_n hx hb dX10_passesAll_102 rfl (lv_at hl 0 rfl) ?_
  refine lv_aload_n hx hb dX10_passesAll_103 rfl (lv_at hl 0 rfl) ?_
  refine lv_aload_n hx hb dX10_passesAll_104 rfl (lv_at hl 0 rfl) ?_
  refine m_getI (C := RX10) (T := TX10) (N := 75) (ci := 10) (k := 29) (o := 65) E hK hP iwX10 rfl rfl (by decide) (by decide) rfl rfl (by decide) tw981 dX10_passesAll_105 ?_
  obtain ⟨r31, S30, hz32, hf⟩ := z_bd_some hf
  refine z_ci (z_runV (o := 65) (ci := 10) E hK hP hS (c_X10_passOne hq hz32) cv_X10_passOne tw1467 rfl (by decide) rfl rfl ⟨Nat.le_of_ble_eq_true rfl, Nat.le_of_ble_eq_true rfl⟩ ⟨Nat.le_refl 0, Nat.le_refl 0⟩ hl.1 (Nat.le_of_ble_eq_true rfl) rfl dX10_passesAll_108) hS (fun H locs hP hS => ?_)
  refine m_putI (C := RX10) (T := TX10) (N := 75) (ci := 10) (k := 29) (o := 65) (v := r31) (ty := .int) E hK hq hP hS iwX10 tyX10 tyX10_ok nmX10 rfl rfl (by decide) (by decide) rfl rfl (by decide) rfl (tyX10_ok 29 (by decide)) ⟨rfl, rfl⟩ tw981 dX10_passesAll_111 (fun H locs hP hS => ?_)
  obtain ⟨S33, hf, hP⟩ := z_ltM hf hP
  refine lv_aload_n hx hb dX10_passesAll_114 rfl (lv_at hl 0 rfl) ?_
  refine lv_aload_n hx hb dX10_passesAll_115 rfl (lv_at hl 0 rfl) ?_
  refine lv_aload_n hx hb dX10_passesAll_116 rfl (lv_at hl 0 rfl) ?_
  refine m_getI (C := RX10) (T := TX10) (N := 75) (ci := 10) (k := 30) (o := 65) E hK hP iwX10 rfl rfl (by decide) (by decide) rfl rfl (by decide) tw982 dX10_passesAll_117 ?_
  obtain ⟨r35, S34, hz36, hf⟩ := z_bd_some hf
  refine z_ci (z_runV (o := 65) (ci := 10) E hK hP hS (c_X10_passOne hq hz36) cv_X10_passOne tw1467 rfl (by decide) rfl rfl ⟨Nat.le_of_ble_eq_true rfl, Nat.le_of_ble_eq_true rfl⟩ ⟨Nat.le_refl 0, Nat.le_refl 0⟩ hl.1 (Nat.le_of_ble_eq_true rfl) rfl dX10_passesAll_120) hS (fun H locs hP hS => ?_)
  refine m_putI (C := RX10) (T := TX10) (N := 75) (ci := 10) (k := 30) (o := 65) (v := r35) (ty := .int) E hK hq hP hS iwX10 tyX10 tyX10_ok nmX10 rfl rfl (by decide) (by decide) rfl rfl (by decide) rfl (tyX10_ok 30 (by decide)) ⟨rfl, rfl⟩ tw982 dX10_passesAll_123 (fun H locs hP hS => ?_)
  obtain ⟨S37, hf, hP⟩ := z_ltM hf hP
  refine lv_aload_n hx hb dX10_passesAll_126 rfl (lv_at hl 0 rfl) ?_
  refine lv_aload_n hx hb dX10_passesAll_127 rfl (lv_at hl 0 rfl) ?_
  refine lv_aload_n hx hb dX10_passesAll_128 rfl (lv_at hl 0 rfl) ?_
  refine m_getI (C := RX10) (T := TX10) (N := 75) (ci := 10) (k := 31) (o := 65) E hK hP iwX10 rfl rfl (by decide) (by decide) rfl rfl (by decide) tw983 dX10_passesAll_129 ?_
  obtain ⟨r39, S38, hz40, hf⟩ := z_bd_some hf
  refine z_ci (z_runV (o := 65) (ci := 10) E hK hP hS (c_X10_passOne hq hz40) cv_X10_passOne tw1467 rfl (by decide) rfl rfl ⟨Nat.le_of_ble_eq_true rfl, Nat.le_of_ble_eq_true rfl⟩ ⟨Nat.le_refl 0, Nat.le_refl 0⟩ hl.1 (Nat.le_of_ble_eq_true rfl) rfl dX10_passesAll_132) hS (fun H locs hP hS => ?_)
  refine m_putI (C := RX10) (T := TX10) (N := 75) (ci := 10) (k := 31) (o := 65) (v := r39) (ty := .int) E hK hq hP hS iwX10 tyX10 tyX10_ok nmX10 rfl rfl (by decide) (by decide) rfl rfl (by decide) rfl (tyX10_ok 31 (by decide)) ⟨rfl, rfl⟩ tw983 dX10_passesAll_135 (fun H locs hP hS => ?_)
  obtain ⟨S41, hf, hP⟩ := z_ltM hf hP
  refine lv_aload_n hx hb dX10_passesAll_138 rfl (lv_at hl 0 rfl) ?_
  refine lv_aload_n hx hb dX10_passesAll_139 rfl (lv_at hl 0 rfl) ?_
  refine lv_aload_n hx hb dX10_passesAll_140 rfl (lv_at hl 0 rfl) ?_
  refine m_getI (C := RX10) (T := TX10) (N := 75) (ci := 10) (k := 32) (o := 65) E hK hP iwX10 rfl rfl (by decide) (by decide) rfl rfl (by decide) tw984 dX10_passesAll_141 ?_
  obtain ⟨r43, S42, hz44, hf⟩ := z_bd_some hf
  refine z_ci (z_runV (o := 65) (ci := 10) E hK hP hS (c_X10_passOne hq hz44) cv_X10_passOne tw1467 rfl (by decide) rfl rfl ⟨Nat.le_of_ble_eq_true rfl, Nat.le_of_ble_eq_true rfl⟩ ⟨Nat.le_refl 0, Nat.le_refl 0⟩ hl.1 (Nat.le_of_ble_eq_true rfl) rfl dX10_passesAll_144) hS (fun H locs hP hS => ?_)
  refine m_putI (C := RX10) (T := TX10) (N := 75) (ci := 10) (k := 32) (o := 65) (v := r43) (ty := .int) E hK hq hP hS iwX10 tyX10 tyX10_ok nmX10 rfl rfl (by decide) (by decide) rfl rfl (by decide) rfl (tyX10_ok 32 (by decide)) ⟨rfl, rfl⟩ tw984 dX10_passesAll_147 (fun H locs hP hS => ?_)
  obtain ⟨S45, hf, hP⟩ := z_ltM hf hP
  refine lv_aload_n hx hb dX10_passesAll_150 rfl (lv_at hl 0 rfl) ?_
  refine lv_aload_n hx hb dX10_passesAll_151 rfl (lv_at hl 0 rfl) ?_
  refine lv_aload_n hx hb dX10_passesAll_152 rfl (lv_at hl 0 rfl) ?_
  refine m_getI (C := RX10) (T := TX10) (N := 75) (ci := 10) (k := 33) (o := 65) E hK hP iwX10 rfl rfl (by decide) (by decide) rfl rfl (by decide) tw985 dX10_passesAll_153 ?_
  obtain ⟨r47, S46, hz48, hf⟩ := z_bd_some hf
  refine z_ci (z_runV (o := 65) (ci := 10) E hK hP hS (c_X10_passOne hq hz48) cv_X10_passOne tw1467 rfl (by decide) rfl rfl ⟨Nat.le_of_ble_eq_true rfl, Nat.le_of_ble_eq_true rfl⟩ ⟨Nat.le_refl 0, Nat.le_refl 0⟩ hl.1 (Nat.le_of_ble_eq_true rfl) rfl dX10_passesAll_156) hS (fun H locs hP hS => ?_)
  refine m_putI (C := RX10) (T := TX10) (N := 75) (ci := 10) (k := 33) (o := 65) (v := r47) (ty := .int) E hK hq hP hS iwX10 tyX10 tyX10_ok nmX10 rfl rfl (by decide) (by decide) rfl rfl (by decide) rfl (tyX10_ok 33 (by decide)) ⟨rfl, rfl⟩ tw985 dX10_passesAll_159 (fun H locs hP hS => ?_)
  obtain ⟨S49, hf, hP⟩ := z_ltM hf hP
  refine lv_aload_n hx hb dX10_passesAll_162 rfl (lv_at hl 0 rfl) ?_
  refine lv_aload_n hx hb dX10_passesAll_163 rfl (lv_at hl 0 rfl) ?_
  refine lv_aload_n hx hb dX10_passesAll_164 rfl (lv_at hl 0 rfl) ?_
  refine m_getI (C := RX10) (T := TX10) (N := 75) (ci := 10) (k := 34) (o := 65) E hK hP iwX10 rfl rfl (by decide) (by decide) rfl rfl (by decide) tw986 dX10_passesAll_165 ?_
  obtain ⟨r51, S50, hz52, hf⟩ := z_bd_some hf
  refine z_ci (z_runV (o := 65) (ci := 10) E hK hP hS (c_X10_passOne hq hz52) cv_X10_passOne tw1467 rfl (by decide) rfl rfl ⟨Nat.le_of_ble_eq_true rfl, Nat.le_of_ble_eq_true rfl⟩ ⟨Nat.le_refl 0, Nat.le_refl 0⟩ hl.1 (Nat.le_of_ble_eq_true rfl) rfl dX10_passesAll_168) hS (fun H locs hP hS => ?_)
  refine m_putI (C := RX10) (T := TX10) (N := 75) (ci := 10) (k := 34) (o := 65) (v := r51) (ty := .int) E hK hq hP hS iwX10 tyX10 tyX10_ok nmX10 rfl rfl (by decide) (by decide) rfl rfl (by decide) rfl (tyX10_ok 34 (by decide)) ⟨rfl, rfl⟩ tw986 dX10_passesAll_171 (fun H locs hP hS => ?_)
  obtain ⟨S53, hf, hP⟩ := z_ltM hf hP
  refine lv_aload_n hx hb dX10_passesAll_174 rfl (lv_at hl 0 rfl) ?_
  refine lv_aload_n hx hb dX10_passesAll_175 rfl (lv_at hl 0 rfl) ?_
  refine lv_aload_n hx hb dX10_passesAll_176 rfl (lv_at hl 0 rfl) ?_
  refine m_getI (C := RX10) (T := TX10) (N := 75) (ci := 10) (k := 35) (o := 65) E hK hP iwX10 rfl rfl (by decide) (by decide) rfl rfl (by decide) tw987 dX10_passesAll_177 ?_
  obtain ⟨r55, S54, hz56, hf⟩ := z_bd_some hf
  refine z_ci (z_runV (o := 65) (ci := 10) E hK hP hS (c_X10_passOne hq hz56) cv_X10_passOne tw1467 rfl (by decide) rfl rfl ⟨Nat.le_of_ble_eq_true rfl, Nat.le_of_ble_eq_true rfl⟩ ⟨Nat.le_refl 0, Nat.le_refl 0⟩ hl.1 (Nat.le_of_ble_eq_true rfl) rfl dX10_passesAll_180) hS (fun H locs hP hS => ?_)
  refine m_putI (C := RX10) (T := TX10) (N := 75) (ci := 10) (k := 35) (o := 65) (v := r55) (ty := .int) E hK hq hP hS iwX10 tyX10 tyX10_ok nmX10 rfl rfl (by decide) (by decide) rfl rfl (by decide) rfl (tyX10_ok 35 (by decide)) ⟨rfl, rfl⟩ tw987 dX10_passesAll_183 (fun H locs hP hS => ?_)
  obtain ⟨S57, hf, hP⟩ := z_ltM hf hP
  exact m_retv hx hb hr hlk hf hP hS dX10_passesAll_186
theorem cv_X10_passesAll : z_cv yX10_passesAll cX10_passesAll 2 none RX10 1 := ⟨⟨tw1461, twp73⟩, tw1462, tw11, by decide +kernel⟩
def f_X10_image (N : Nat) (S : St) : Option (Int32 × St) := z_lt (z_wr S 65 72 1) fun S1 => z_bv (f_X10_passesAll N (1) S1) fun S2 => some ((S2 65 6), S2)
set_option maxHeartbeats 4000000 in
set_option maxRecDepth 100000 in
theorem c_X10_image {l : Launch} {G : Cx} {X S S' : St} {N : Nat} {r : Int32} (hq : z_inj (gq G)) (hf : f_X10_image N S = some (r, S')) : z_Ct l yX10_image cX10_image 1 (some .int) 2 43 G X S [.ref (gq G (65))] (z_QI G X S' r) := by
  refine z_start (by decide +kernel) (Nat.le_of_ble_eq_true rfl) ?_
  intro p e s m below meth c ls E hr hlk hK hP hS hl
  have E : CallFix p m c cX10_image 1 s _ lw_good RX10 := E
  have hx := E.1
  have hb := E.2.1
  have hown := E.2.2.2.1
  have hts := E.2.2.2.2
  have hl : lv_has ls 1 [(0, .ref (gq G (65)))] := hl
  unfold f_X10_image at hf
  refine lv_aload_n hx hb dX10_image_0 rfl (lv_at hl 0 rfl) ?_
  refine lv_iconst (v := 1) hx hb dX10_image_1 (by decide) ?_
  refine m_putI (C := RX10) (T := TX10) (N := 75) (ci := 10) (k := 72) (o := 65) (v := 1) (ty := .boolean) E hK hq hP hS iwX10 tyX10 tyX10_ok nmX10 rfl rfl (by decide) (by decide) rfl rfl (by decide) rfl (tyX10_ok 72 (by decide)) ⟨rfl, rfl⟩ tw1024 dX10_image_2 (fun H locs hP hS => ?_)
  obtain ⟨S1, hf, hP⟩ := z_ltM hf hP
  refine lv_aload_n hx hb dX10_image_5 rfl (lv_at hl 0 rfl) ?_
  refine lv_iconst (v := 1) hx hb dX10_image_6 (by decide) ?_
  obtain ⟨S2, hz3, hf⟩ := z_bv_some hf
  refine z_cvo (z_runV (o := 65) (ci := 10) E hK hP hS (c_X10_passesAll hq hz3) cv_X10_passesAll tw1459 rfl (by decide) rfl rfl ⟨Nat.le_of_ble_eq_true rfl, Nat.le_of_ble_eq_true rfl⟩ ⟨Nat.le_refl 0, Nat.le_refl 0⟩ hl.1 (Nat.le_of_ble_eq_true rfl) rfl dX10_image_7) hS (fun H locs hP hS => ?_)
  refine lv_aload_n hx hb dX10_image_10 rfl (lv_at hl 0 rfl) ?_
  refine m_getI (C := RX10) (T := TX10) (N := 75) (ci := 10) (k := 6) (o := 65) E hK hP iwX10 rfl rfl (by decide) (by decide) rfl rfl (by decide) tw958 dX10_image_11 ?_
  exact m_reti hx hb hr hlk hf hP hS dX10_image_14
theorem cv_X10_image : z_cv yX10_image cX10_image 1 (some .int) RX10 0 := ⟨⟨tw1456, tw1457⟩, tw1458, tw11, by decide +kernel⟩
def f_X10_on (N : Nat) (S : St) : Option (Int32 × St) := if (S 65 72) = 0 then (z_bd (f_X10_no N ((-3)) S) fun r7 S6 => some (r7, S6)) else (z_bv (f_X10_passesAll N (0) S) fun S2 => z_bv (f_X10_builds N S2) fun S4 => some ((S4 65 6), S4))
set_option maxHeartbeats 4000000 in
set_option maxRecDepth 100000 in
theorem c_X10_on {l : Launch} {G : Cx} {X S S' : St} {N : Nat} {r : Int32} (hq : z_inj (gq G)) (hf : f_X10_on N S = some (r, S')) : z_Ct l yX10_on cX10_on 1 (some .int) 3 67 G X S [.ref (gq G (65))] (z_QI G X S' r) := by
  refine z_start (by decide +kernel) (Nat.le_of_ble_eq_true rfl) ?_
  intro p e s m below meth c ls E hr hlk hK hP hS hl
  have E : CallFix p m c cX10_on 1 s _ lw_good RX10 := E
  have hx := E.1
  have hb := E.2.1
  have hown := E.2.2.2.1
  have hts := E.2.2.2.2
  have hl : lv_has ls 1 [(0, .ref (gq G (65)))] := hl
  unfold f_X10_on at hf
  refine lv_aload_n hx hb dX10_on_0 rfl (lv_at hl 0 rfl) ?_
  refine m_getI (C := RX10) (T := TX10) (N := 75) (ci := 10) (k := 72) (o := 65) E hK hP iwX10 rfl rfl (by decide) (by decide) rfl rfl (by decide) tw1024 dX10_on_1 ?_
  refine lv_if_ne (tgt := 14) hx hb dX10_on_4 (by decide) (fun hc1 => ?_) (fun hc1 => ?_)
  · replace hf := z_ifn hf hc1
    refine lv_aload_n hx hb dX10_on_14 rfl (lv_at hl 0 rfl) ?_
    refine lv_iconst (v := 0) hx hb dX10_on_15 (by decide) ?_
    obtain ⟨S2, hz3, hf⟩ := z_bv_some hf
    refine z_cvo (z_runV (o := 65) (ci := 10) E hK hP hS (c_X10_passesAll hq hz3) cv_X10_passesAll tw1459 rfl (by decide) rfl rfl ⟨Nat.le_of_ble_eq_true rfl, Nat.le_of_ble_eq_true rfl⟩ ⟨Nat.le_refl 0, Nat.le_refl 0⟩ hl.1 (Nat.le_of_ble_eq_true rfl) rfl dX10_on_16) hS (fun H locs hP hS => ?_)
    refine lv_aload_n hx hb dX10_on_19 rfl (lv_at hl 0 rfl) ?_
    obtain ⟨S4, hz5, hf⟩ := z_bv_some hf
    refine z_cvo (z_runV (o := 65) (ci := 10) E hK hP hS (c_X10_builds hq hz5) cv_X10_builds tw931 rfl (by decide) rfl rfl ⟨Nat.le_of_ble_eq_true rfl, Nat.le_of_ble_eq_true rfl⟩ ⟨Nat.le_refl 0, Nat.le_refl 0⟩ hl.1 (Nat.le_of_ble_eq_true rfl) rfl dX10_on_20) hS (fun H locs hP hS => ?_)
    refine lv_aload_n hx hb dX10_on_23 rfl (lv_at hl 0 rfl) ?_
    refine m_getI (C := RX10) (T := TX10) (N := 75) (ci := 10) (k := 6) (o := 65) E hK hP iwX10 rfl rfl (by decide) (by decide) rfl rfl (by decide) tw958 dX10_on_24 ?_
    exact m_reti hx hb hr hlk hf hP hS dX10_on_27
  · replace hf := z_ifp hf hc1
    refine lv_aload_n hx hb dX10_on_7 rfl (lv_at hl 0 rfl) ?_
    refine lv_bipush (v := (-3)) hx hb dX10_on_8 (by decide) ?_
    obtain ⟨r7, S6, hz8, hf⟩ := z_bd_some hf
    refine z_ci (z_runV (o := 65) (ci := 10) E hK hP hS (c_X10_no hq hz8) cv_X10_no tw1185 rfl (by decide) rfl rfl ⟨Nat.le_of_ble_eq_true rfl, Nat.le_of_ble_eq_true rfl⟩ ⟨Nat.le_refl 0, Nat.le_refl 0⟩ hl.1 (Nat.le_of_ble_eq_true rfl) rfl dX10_on_10) hS (fun H locs hP hS => ?_)
    exact m_reti hx hb hr hlk hf hP hS dX10_on_13
theorem cv_X10_on : z_cv yX10_on cX10_on 1 (some .int) RX10 0 := ⟨⟨tw1472, tw1473⟩, tw1474, tw11, by decide +kernel⟩
def b_X10_allOf_10 (N : Nat) (o1 : Nat) (k10 : Int32 → Int32 → Int32 → St → Option (Int32 × St)) (v1 : Int32) (v3 : Int32) (v4 : Int32) (S : St) : Option (Int32 × St) := if v3 ≤ v4 then (some (v1, S)) else (z_gd (z_in v4 (z_ln o1)) (k10 ((v1 + (S o1 (v4 : Int32).toNatClampNeg))) (v3) ((v4 + 1)) S))
def f_X10_allOf_10 (N : Nat) (o1 : Nat) : Nat → Int32 → Int32 → Int32 → St → Option (Int32 × St)
  | 0 => fun _ _ _ _ => none
  | n + 1 => b_X10_allOf_10 N o1 (f_X10_allOf_10 N o1 n)
def f_X10_allOf (N : Nat) (o1 : Nat) (S : St) : Option (Int32 × St) := f_X10_allOf_10 N o1 N (0) ((nI (z_ln o1))) (0) S
set_option maxHeartbeats 4000000 in
set_option maxRecDepth 100000 in
theorem c_X10_allOf {l : Launch} {G : Cx} {X S S' : St} {N : Nat} {o1 : Nat} {r : Int32} (hq : z_inj (gq G)) (hko1 : z_kd o1 = 11) (hxo1 : 65 ≤ o1) (hf : f_X10_allOf N o1 S = some (r, S')) : z_Ct l yX10_allOf cX10_allOf 6 (some .int) 0 0 G X S [.ref (gq G (o1))] (z_QI G X S' r) := by
  refine z_start (by decide +kernel) (Nat.le_of_ble_eq_true rfl) ?_
  intro p e s m below meth c ls E hr hlk hK hP hS hl
  have E : CallFix p m c cX10_allOf 6 s _ lw_good RX10 := E
  have hx := E.1
  have hb := E.2.1
  have hown := E.2.2.2.1
  have hts := E.2.2.2.2
  have hB10 : ∀ (k10 : Int32 → Int32 → Int32 → St → Option (Int32 × St)) (hk10 : ∀ (v1 : Int32) (v3 : Int32) (v4 : Int32) (S : St) (H : Heap) (locs : List Loc) (ls : Array Slot), k10 v1 v3 v4 S = some (r, S') → z_P G X S H → z_S G s.heap H locs → lv_has ls 6 [(1, .int (v1)), (2, .ref (gq G (o1))), (3, .int (v3)), (4, .int (v4))] → W p l e (z_rm 0 0) s m ([.ref (gq G (o1))] : List Value).toArray below meth c H locs 0 0 (MQ below (z_QI G X S' r) ([.ref (gq G (o1))] : List Value).toArray s 0 0 (z_Aq (gq G))) (F0 m 10 ls [])), ∀ (v1 : Int32) (v3 : Int32) (v4 : Int32) (S : St) (H : Heap) (locs : List Loc) (ls : Array Slot), b_X10_allOf_10 N o1 k10 v1 v3 v4 S = some (r, S') → z_P G X S H → z_S G s.heap H locs → lv_has ls 6 [(1, .int (v1)), (2, .ref (gq G (o1))), (3, .int (v3)), (4, .int (v4))] → W p l e (z_rm 0 0) s m ([.ref (gq G (o1))] : List Value).toArray below meth c H locs 0 0 (MQ below (z_QI G X S' r) ([.ref (gq G (o1))] : List Value).toArray s 0 0 (z_Aq (gq G))) (F0 m 10 ls []) := by
    intro k10 hk10 v1 v3 v4 S H locs ls hf hP hS hl
    unfold b_X10_allOf_10 at hf
    refine lv_iload hx hb dX10_allOf_10 (lv_at hl 3 rfl) ?_
    refine lv_iload_n hx hb dX10_allOf_12 rfl (lv_at hl 2 rfl) ?_
    refine lv_icmp_ge (tgt := 33) hx hb dX10_allOf_13 (by decide) (fun hc1 => ?_) (fun hc1 => ?_)
    · replace hf := z_ifp hf hc1
      refine lv_iload_n hx hb dX10_allOf_33 rfl (lv_at hl 0 rfl) ?_
      exact m_reti hx hb hr hlk hf hP hS dX10_allOf_34
    · replace hf := z_ifn hf hc1
      refine lv_aload_n hx hb dX10_allOf_16 rfl (lv_at hl 1 rfl) ?_
      refine lv_iload hx hb dX10_allOf_17 (lv_at hl 3 rfl) ?_
      obtain ⟨hg2, hf⟩ := z_gd_some hf
      refine m_ald (o := o1) (i := v4) E hK hP hko1 hxo1 hg2 dX10_allOf_19 ?_
      refine lv_istore (lv' := [(5, .int ((S o1 (v4 : Int32).toNatClampNeg))), (1, .int (v1)), (2, .ref (gq G (o1))), (3, .int (v3)), (4, .int (v4))]) hx hb dX10_allOf_20 hl (by decide) rfl (fun ls hl => ?_)
      refine lv_iload_n hx hb dX10_allOf_22 rfl (lv_at hl 1 rfl) ?_
      refine lv_iload hx hb dX10_allOf_23 (lv_at hl 0 rfl) ?_
      refine lv_iadd hx hb dX10_allOf_25 ?_
      refine lv_istore_n (lv' := [(1, .int ((v1 + (S o1 (v4 : Int32).toNatClampNeg)))), (5, .int ((S o1 (v4 : Int32).toNatClampNeg))), (2, .ref (gq G (o1))), (3, .int (v3)), (4, .int (v4))]) hx hb dX10_allOf_26 rfl hl (by decide) rfl (fun ls hl => ?_)
      refine lv_iinc (v := (v4 + 1)) (lv' := [(4, .int ((v4 + 1))), (1, .int ((v1 + (S o1 (v4 : Int32).toNatClampNeg)))), (5, .int ((S o1 (v4 : Int32).toNatClampNeg))), (2, .ref (gq G (o1))), (3, .int (v3))]) hx hb dX10_allOf_27 hl (k := 4) rfl rfl (by decide) rfl (fun ls hl => ?_)
      refine lv_goto (tgt := 10) hx hb dX10_allOf_30 (by decide) ?_
      exact hk10 ((v1 + (S o1 (v4 : Int32).toNatClampNeg))) (v3) ((v4 + 1)) S _ _ _ hf hP hS (lv_sub hl [1, 3, 4, 0] rfl)
  have hL10 : ∀ (n : Nat), ∀ (v1 : Int32) (v3 : Int32) (v4 : Int32) (S : St) (H : Heap) (locs : List Loc) (ls : Array Slot), f_X10_allOf_10 N o1 n v1 v3 v4 S = some (r, S') → z_P G X S H → z_S G s.heap H locs → lv_has ls 6 [(1, .int (v1)), (2, .ref (gq G (o1))), (3, .int (v3)), (4, .int (v4))] → W p l e (z_rm 0 0) s m ([.ref (gq G (o1))] : List Value).toArray below meth c H locs 0 0 (MQ below (z_QI G X S' r) ([.ref (gq G (o1))] : List Value).toArray s 0 0 (z_Aq (gq G))) (F0 m 10 ls []) := by
    intro  n
    induction n with
    | zero => intro _ _ _ _ _ _ _ hf; cases hf
    | succ n ih => exact hB10  _  ih
  have hl : lv_has ls 6 [(0, .ref (gq G (o1)))] := hl
  unfold f_X10_allOf at hf
  refine lv_iconst (v := 0) hx hb dX10_allOf_0 (by decide) ?_
  refine lv_istore_n (lv' := [(1, .int (0)), (0, .ref (gq G (o1)))]) hx hb dX10_allOf_1 rfl hl (by decide) rfl (fun ls hl => ?_)
  refine lv_aload_n hx hb dX10_allOf_2 rfl (lv_at hl 1 rfl) ?_
  refine lv_astore_n (lv' := [(2, .ref (gq G (o1))), (1, .int (0)), (0, .ref (gq G (o1)))]) hx hb dX10_allOf_3 rfl hl (by decide) rfl (fun ls hl => ?_)
  refine lv_aload_n hx hb dX10_allOf_4 rfl (lv_at hl 0 rfl) ?_
  refine z_aln (o := o1) E hK hP hko1 dX10_allOf_5 ?_
  refine lv_istore_n (lv' := [(3, .int ((nI (z_ln o1)))), (2, .ref (gq G (o1))), (1, .int (0)), (0, .ref (gq G (o1)))]) hx hb dX10_allOf_6 rfl hl (by decide) rfl (fun ls hl => ?_)
  refine lv_iconst (v := 0) hx hb dX10_allOf_7 (by decide) ?_
  refine lv_istore (lv' := [(4, .int (0)), (3, .int ((nI (z_ln o1)))), (2, .ref (gq G (o1))), (1, .int (0)), (0, .ref (gq G (o1)))]) hx hb dX10_allOf_8 hl (by decide) rfl (fun ls hl => ?_)
  exact hL10 N (0) ((nI (z_ln o1))) (0) S _ _ _ hf hP hS (lv_sub hl [3, 2, 1, 0] rfl)
theorem cs_X10_allOf : z_cs yX10_allOf cX10_allOf 6 (some .int) 1 := ⟨tw1480, tw1481, tw11, by decide +kernel⟩
def f_X10_count (N : Nat) (a1 : Int32) (S : St) : Option (Int32 × St) := z_bd (f_X10_isIn N (a1) (11) (16) S) fun r2 S1 => if r2 = 0 then (if a1 = 0 then (some ((S1 65 6), S1)) else (if a1 = 1 then (some ((S1 65 7), S1)) else (if a1 = 2 then (if 0 ≤ (S1 65 29) then (some (1, S1)) else (some (0, S1))) else (if a1 = 3 then (z_bd (f_X10_allOf N (80) S1) fun r11 S10 => some (r11, S10)) else (if a1 = 4 then (z_bd (f_X10_allOf N (81) S1) fun r15 S14 => some (r15, S14)) else (if a1 = 5 then (some ((S1 65 35), S1)) else (if a1 = 6 then (some ((S1 65 69), S1)) else (if a1 = 7 then (some ((S1 65 15), S1)) else (some ((-9), S1)))))))))) else (z_gd (z_in (a1 - 10) (z_ln 66)) (some ((S1 66 ((a1 - 10) : Int32).toNatClampNeg), S1)))
set_option maxHeartbeats 4000000 in
set_option maxRecDepth 100000 in
theorem c_X10_count {l : Launch} {G : Cx} {X S S' : St} {N : Nat} {a1 : Int32} {r : Int32} (hq : z_inj (gq G)) (hf : f_X10_count N a1 S = some (r, S')) : z_Ct l yX10_count cX10_count 2 (some .int) 1 25 G X S [.ref (gq G (65)), .int (a1)] (z_QI G X S' r) := by
  refine z_start (by decide +kernel) (Nat.le_of_ble_eq_true rfl) ?_
  intro p e s m below meth c ls E hr hlk hK hP hS hl
  have E : CallFix p m c cX10_count 2 s _ lw_good RX10 := E
  have hx := E.1
  have hb := E.2.1
  have hown := E.2.2.2.1
  have hts := E.2.2.2.2
  have hl : lv_has ls 2 [(0, .ref (gq G (65))), (1, .int (a1))] := hl
  unfold f_X10_count at hf
  refine lv_iload_n hx hb dX10_count_0 rfl (lv_at hl 1 rfl) ?_
  refine lv_bipush (v := 11) hx hb dX10_count_1 (by decide) ?_
  refine lv_bipush (v := 16) hx hb dX10_count_3 (by decide) ?_
  obtain ⟨r2, S1, hz3, hf⟩ := z_bd_some hf
  refine z_ci (z_runS E hK hP hS (c_X10_isIn hq hz3) cs_X10_isIn tw943 rfl ⟨Nat.le_of_ble_eq_true rfl, Nat.le_of_ble_eq_true rfl⟩ ⟨Nat.le_refl 0, Nat.le_refl 0⟩ hl.1 (Nat.le_of_ble_eq_true rfl) rfl dX10_count_5) hS (fun H locs hP hS => ?_)
  refine lv_if_eq (tgt := 21) hx hb dX10_count_8 (by decide) (fun hc4 => ?_) (fun hc4 => ?_)
  · replace hf := z_ifp hf hc4
    refine lv_iload_n hx hb dX10_count_21 rfl (lv_at hl 1 rfl) ?_
    by_cases hc5 : a1 = 0
    · replace hf := z_ifp hf hc5
      refine lv_tableIn (off := 46) (tgt := 68) hx hb dX10_count_22 (by rw [hc5]; decide) (by rw [hc5]; decide) (by rw [hc5]; decide) (by decide) ?_
      refine lv_aload_n hx hb dX10_count_68 rfl (lv_at hl 0 rfl) ?_
      refine m_getI (C := RX10) (T := TX10) (N := 75) (ci := 10) (k := 6) (o := 65) E hK hP iwX10 rfl rfl (by decide) (by decide) rfl rfl (by decide) tw958 dX10_count_69 ?_
      exact m_reti hx hb hr hlk hf hP hS dX10_count_72
    · replace hf := z_ifn hf hc5
      by_cases hc6 : a1 = 1
      · replace hf := z_ifp hf hc6
        refine lv_tableIn (off := 51) (tgt := 73) hx hb dX10_count_22 (by rw [hc6]; decide) (by rw [hc6]; decide) (by rw [hc6]; decide) (by decide) ?_
        refine lv_aload_n hx hb dX10_count_73 rfl (lv_at hl 0 rfl) ?_
        refine m_getI (C := RX10) (T := TX10) (N := 75) (ci := 10) (k := 7) (o := 65) E hK hP iwX10 rfl rfl (by decide) (by decide) rfl rfl (by decide) tw959 dX10_count_74 ?_
        exact m_reti hx hb hr hlk hf hP hS dX10_count_77
      · replace hf := z_ifn hf hc6
        by_cases hc7 : a1 = 2
        · replace hf := z_ifp hf hc7
          refine lv_tableIn (off := 56) (tgt := 78) hx hb dX10_count_22 (by rw [hc7]; decide) (by rw [hc7]; decide) (by rw [hc7]; decide) (by decide) ?_
          refine lv_aload_n hx hb dX10_count_78 rfl (lv_at hl 0 rfl) ?_
          refine m_getI (C := RX10) (T := TX10) (N := 75) (ci := 10) (k := 29) (o := 65) E hK hP iwX10 rfl rfl (by decide) (by decide) rfl rfl (by decide) tw981 dX10_count_79 ?_
          refine lv_if_ge (tgt := 89) hx hb dX10_count_82 (by decide) (fun hc8 => ?_) (fun hc8 => ?_)
          · replace hf := z_ifp hf hc8
            refine lv_iconst (v := 1) hx hb dX10_count_89 (by decide) ?_
            exact m_reti hx hb hr hlk hf hP hS dX10_count_90
          · replace hf := z_ifn hf hc8
            refine lv_iconst (v := 0) hx hb dX10_count_85 (by decide) ?_
            refine lv_goto (tgt := 90) hx hb dX10_count_86 (by decide) ?_
            exact m_reti hx hb hr hlk hf hP hS dX10_count_90
        · replace hf := z_ifn hf hc7
          by_cases hc9 : a1 = 3
          · replace hf := z_ifp hf hc9
            refine lv_tableIn (off := 69) (tgt := 91) hx hb dX10_count_22 (by rw [hc9]; decide) (by rw [hc9]; decide) (by rw [hc9]; decide) (by decide) ?_
            refine lv_aload_n hx hb dX10_count_91 rfl (lv_at hl 0 rfl) ?_
            refine z_getR (C := RX10) (T := TX10) (N := 75) (ci := 10) (k := 26) (o := 65) (t := 80) E hK hP iwX10 rfl rfl (by decide) (by decide) rfl rfl rfl tw978 dX10_count_92 ?_
            obtain ⟨r11, S10, hz12, hf⟩ := z_bd_some hf
            refine z_ci (z_runS E hK hP hS (c_X10_allOf hq rfl (by decide) hz12) cs_X10_allOf tw1479 rfl ⟨Nat.le_of_ble_eq_true rfl, Nat.le_of_ble_eq_true rfl⟩ ⟨Nat.le_refl 0, Nat.le_refl 0⟩ hl.1 (Nat.le_of_ble_eq_true rfl) rfl dX10_count_95) hS (fun H locs hP hS => ?_)
            exact m_reti hx hb hr hlk hf hP hS dX10_count_98
          · replace hf := z_ifn hf hc9
            by_cases hc13 : a1 = 4
            · replace hf := z_ifp hf hc13
              refine lv_tableIn (off := 77) (tgt := 99) hx hb dX10_count_22 (by rw [hc13]; decide) (by rw [hc13]; decide) (by rw [hc13]; decide) (by decide) ?_
              refine lv_aload_n hx hb dX10_count_99 rfl (lv_at hl 0 rfl) ?_
              refine z_getR (C := RX10) (T := TX10) (N := 75) (ci := 10) (k := 27) (o := 65) (t := 81) E hK hP iwX10 rfl rfl (by decide) (by decide) rfl rfl rfl tw979 dX10_count_100 ?_
              obtain ⟨r15, S14, hz16, hf⟩ := z_bd_some hf
              refine z_ci (z_runS E hK hP hS (c_X10_allOf hq rfl (by decide) hz16) cs_X10_allOf tw1479 rfl ⟨Nat.le_of_ble_eq_true rfl, Nat.le_of_ble_eq_true rfl⟩ ⟨Nat.le_refl 0, Nat.le_refl 0⟩ hl.1 (Nat.le_of_ble_eq_true rfl) rfl dX10_count_103) hS (fun H locs hP hS => ?_)
              exact m_reti hx hb hr hlk hf hP hS dX10_count_106
            · replace hf := z_ifn hf hc13
              by_cases hc17 : a1 = 5
              · replace hf := z_ifp hf hc17
                refine lv_tableIn (off := 85) (tgt := 107) hx hb dX10_count_22 (by rw [hc17]; decide) (by rw [hc17]; decide) (by rw [hc17]; decide) (by decide) ?_
                refine lv_aload_n hx hb dX10_count_107 rfl (lv_at hl 0 rfl) ?_
                refine m_getI (C := RX10) (T := TX10) (N := 75) (ci := 10) (k := 35) (o := 65) E hK hP iwX10 rfl rfl (by decide) (by decide) rfl rfl (by decide) tw987 dX10_count_108 ?_
                exact m_reti hx hb hr hlk hf hP hS dX10_count_111
              · replace hf := z_ifn hf hc17
                by_cases hc18 : a1 = 6
                · replace hf := z_ifp hf hc18
                  refine lv_tableIn (off := 90) (tgt := 112) hx hb dX10_count_22 (by rw [hc18]; decide) (by rw [hc18]; decide) (by rw [hc18]; decide) (by decide) ?_
                  refine lv_aload_n hx hb dX10_count_112 rfl (lv_at hl 0 rfl) ?_
                  refine m_getI (C := RX10) (T := TX10) (N := 75) (ci := 10) (k := 69) (o := 65) E hK hP iwX10 rfl rfl (by decide) (by decide) rfl rfl (by decide) tw1021 dX10_count_113 ?_
                  exact m_reti hx hb hr hlk hf hP hS dX10_count_116
                · replace hf := z_ifn hf hc18
                  by_cases hc19 : a1 = 7
                  · replace hf := z_ifp hf hc19
                    refine lv_tableIn (off := 95) (tgt := 117) hx hb dX10_count_22 (by rw [hc19]; decide) (by rw [hc19]; decide) (by rw [hc19]; decide) (by decide) ?_
                    refine lv_aload_n hx hb dX10_count_117 rfl (lv_at hl 0 rfl) ?_
                    refine m_getI (C := RX10) (T := TX10) (N := 75) (ci := 10) (k := 15) (o := 65) E hK hP iwX10 rfl rfl (by decide) (by decide) rfl rfl (by decide) tw967 dX10_count_118 ?_
                    exact m_reti hx hb hr hlk hf hP hS dX10_count_121
                  · replace hf := z_ifn hf hc19
                    refine lv_tableOut (tgt := 122) hx hb dX10_count_22 (by have := lv_neT (a := 0) hc5 (by decide); have := lv_neT (a := 1) hc6 (by decide); have := lv_neT (a := 2) hc7 (by decide); have := lv_neT (a := 3) hc9 (by decide); have := lv_neT (a := 4) hc13 (by decide); have := lv_neT (a := 5) hc17 (by decide); have := lv_neT (a := 6) hc18 (by decide); have := lv_neT (a := 7) hc19 (by decide); omega) (by decide) ?_
                    refine lv_bipush (v := (-9)) hx hb dX10_count_122 (by decide) ?_
                    exact m_reti hx hb hr hlk hf hP hS dX10_count_124
  · replace hf := z_ifn hf hc4
    refine lv_aload_n hx hb dX10_count_11 rfl (lv_at hl 0 rfl) ?_
    refine z_getR (C := RX10) (T := TX10) (N := 75) (ci := 10) (k := 0) (o := 65) (t := 66) E hK hP iwX10 rfl rfl (by decide) (by decide) rfl rfl rfl tw952 dX10_count_12 ?_
    refine lv_iload_n hx hb dX10_count_15 rfl (lv_at hl 1 rfl) ?_
    refine lv_bipush (v := 10) hx hb dX10_count_16 (by decide) ?_
    refine lv_isub hx hb dX10_count_18 ?_
    obtain ⟨hg20, hf⟩ := z_gd_some hf
    refine m_ald (o := 66) (i := (a1 - 10)) E hK hP rfl (by decide) hg20 dX10_count_19 ?_
    exact m_reti hx hb hr hlk hf hP hS dX10_count_20
theorem cv_X10_count : z_cv yX10_count cX10_count 2 (some .int) RX10 1 := ⟨⟨tw1476, tw1477⟩, tw1478, tw11, by decide +kernel⟩
