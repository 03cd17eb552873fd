def b_X9_judge_41 (N : Nat) (k5 : Int32 → Int32 → St → Option (Int32 × St)) (v1 : Int32) (v2 : Int32) (S : St) : Option (Int32 × St) := k5 (v1) ((v2 + 1)) S
def b_X9_judge_5 (N : Nat) (k5 : Int32 → Int32 → St → Option (Int32 × St)) (v1 : Int32) (v2 : Int32) (S : St) : Option (Int32 × St) := if (S 0 7) ≤ v2 then (z_lt (z_wr S 0 7 0) fun S2 => some (v1, S2)) else (if v1 = (-9) then (z_bv (f_X9_thinkWith N (0) (v2) S) fun S5 => z_bd (f_X9_at N (62) (v2) S5) fun r8 S7 => z_bd (f_X2_isNumber N (35) (r8) S7) fun r11 S10 => if r11 = 0 then (b_X9_judge_41 N k5 (v2) (v2) S10) else (b_X9_judge_41 N k5 (v1) (v2) S10)) else (z_lt (z_wr S 0 7 0) fun S4 => some (v1, S4)))
def f_X9_judge_5 (N : Nat) : Nat → Int32 → Int32 → St → Option (Int32 × St)
  | 0 => fun _ _ _ => none
  | n + 1 => b_X9_judge_5 N (f_X9_judge_5 N n)
def f_X9_judge (N : Nat) (S : St) : Option (Int32 × St) := f_X9_judge_5 N N ((-9)) (0) S
set_option maxHeartbeats 4000000 in
set_option maxRecDepth 100000 in
theorem c_X9_judge {l : Launch} {G : Cx} {M S S' : St} {N : Nat} {r : Int32} (hq : z_inj (gq G)) (hf : f_X9_judge N S = some (r, S')) : z_Ct l yX9_judge cX9_judge 3 (some .int) 6 137 G S M [.ref (gq G (0))] (z_QI G S' M r) := by
  refine z_start (by decide +kernel) (Nat.le_of_ble_eq_true rfl) ?_
  intro p e s m below meth c ls E hr hlk hK hP hS hl
  have E : CallFix p m c cX9_judge 3 s _ lw_good RX9 := E
  have hx := E.1
  have hb := E.2.1
  have hown := E.2.2.2.1
  have hts := E.2.2.2.2
  have hJ41 : ∀ (k5 : Int32 → Int32 → St → Option (Int32 × St)) (hk5 : ∀ (v1 : Int32) (v2 : Int32) (S : St) (H : Heap) (locs : List Loc) (ls : Array Slot), k5 v1 v2 S = some (r, S') → z_P G S M H → z_S G s.heap H locs → lv_has ls 3 [(0, .ref (gq G (0))), (1, .int (v1)), (2, .int (v2))] → W p l e (z_rm 6 137) s m ([.ref (gq G (0))] : List Value).toArray below meth c H locs 0 0 (MQ below (z_QI G S' M r) ([.ref (gq G (0))] : List Value).toArray s 0 0 (z_Aq (gq G))) (F0 m 5 ls [])), ∀ (v1 : Int32) (v2 : Int32) (S : St) (H : Heap) (locs : List Loc) (ls : Array Slot), b_X9_judge_41 N k5 v1 v2 S = some (r, S') → z_P G S M H → z_S G s.heap H locs → lv_has ls 3 [(0, .ref (gq G (0))), (1, .int (v1)), (2, .int (v2))] → W p l e (z_rm 6 137) s m ([.ref (gq G (0))] : List Value).toArray below meth c H locs 0 0 (MQ below (z_QI G S' M r) ([.ref (gq G (0))] : List Value).toArray s 0 0 (z_Aq (gq G))) (F0 m 41 ls []) := by
    intro k5 hk5 v1 v2 S H locs ls hf hP hS hl
    unfold b_X9_judge_41 at hf
    refine lv_iinc (v := (v2 + 1)) (lv' := [(2, .int ((v2 + 1))), (0, .ref (gq G (0))), (1, .int (v1))]) hx hb dX9_judge_41 hl (k := 2) rfl rfl (by decide) rfl (fun ls hl => ?_)
    refine lv_goto (tgt := 5) hx hb dX9_judge_44 (by decide) ?_
    exact hk5 (v1) ((v2 + 1)) S _ _ _ hf hP hS (lv_sub hl [1, 2, 0] rfl)
  have hB5 : ∀ (k5 : Int32 → Int32 → St → Option (Int32 × St)) (hk5 : ∀ (v1 : Int32) (v2 : Int32) (S : St) (H : Heap) (locs : List Loc) (ls : Array Slot), k5 v1 v2 S = some (r, S') → z_P G S M H → z_S G s.heap H locs → lv_has ls 3 [(0, .ref (gq G (0))), (1, .int (v1)), (2, .int (v2))] → W p l e (z_rm 6 137) s m ([.ref (gq G (0))] : List Value).toArray below meth c H locs 0 0 (MQ below (z_QI G S' M r) ([.ref (gq G (0))] : List Value).toArray s 0 0 (z_Aq (gq G))) (F0 m 5 ls [])), ∀ (v1 : Int32) (v2 : Int32) (S : St) (H : Heap) (locs : List Loc) (ls : Array Slot), b_X9_judge_5 N k5 v1 v2 S = some (r, S') → z_P G S M H → z_S G s.heap H locs → lv_has ls 3 [(0, .ref (gq G (0))), (1, .int (v1)), (2, .int (v2))] → W p l e (z_rm 6 137) s m ([.ref (gq G (0))] : List Value).toArray below meth c H locs 0 0 (MQ below (z_QI G S' M r) ([.ref (gq G (0))] : List Value).toArray s 0 0 (z_Aq (gq G))) (F0 m 5 ls []) := by
    intro k5 hk5 v1 v2 S H locs ls hf hP hS hl
    unfold b_X9_judge_5 at hf
    refine lv_iload_n hx hb dX9_judge_5 rfl (lv_at hl 2 rfl) ?_
    refine lv_aload_n hx hb dX9_judge_6 rfl (lv_at hl 0 rfl) ?_
    refine x_getI (C := RX9) (T := TX9) (N := 9) (ci := 9) (k := 7) (o := 0) E hK hP iwX9 rfl rfl (by decide) (by decide) rfl rfl (by decide) tw305 dX9_judge_7 ?_
    refine lv_icmp_ge (tgt := 47) hx hb dX9_judge_10 (by decide) (fun hc1 => ?_) (fun hc1 => ?_)
    · replace hf := z_ifp hf hc1
      refine lv_aload_n hx hb dX9_judge_47 rfl (lv_at hl 0 rfl) ?_
      refine lv_iconst (v := 0) hx hb dX9_judge_48 (by decide) ?_
      refine x_putI (C := RX9) (T := TX9) (N := 9) (ci := 9) (k := 7) (o := 0) (v := 0) (ty := .int) E hK hq hP hS iwX9 tyX9 tyX9_ok nmX9 rfl rfl (by decide) (by decide) rfl rfl (by decide) rfl (tyX9_ok 7 (by decide)) ⟨rfl, rfl⟩ tw305 dX9_judge_49 (fun H locs hP hS => ?_)
      obtain ⟨S2, hf, hP⟩ := z_ltX hf hP
      refine lv_iload_n hx hb dX9_judge_52 rfl (lv_at hl 1 rfl) ?_
      exact x_reti hx hb hr hlk hf hP hS dX9_judge_53
    · replace hf := z_ifn hf hc1
      refine lv_iload_n hx hb dX9_judge_13 rfl (lv_at hl 1 rfl) ?_
      refine lv_bipush (v := (-9)) hx hb dX9_judge_14 (by decide) ?_
      refine lv_icmp_ne (tgt := 47) hx hb dX9_judge_16 (by decide) (fun hc3 => ?_) (fun hc3 => ?_)
      · replace hf := z_ifn hf hc3
        refine lv_aload_n hx hb dX9_judge_47 rfl (lv_at hl 0 rfl) ?_
        refine lv_iconst (v := 0) hx hb dX9_judge_48 (by decide) ?_
        refine x_putI (C := RX9) (T := TX9) (N := 9) (ci := 9) (k := 7) (o := 0) (v := 0) (ty := .int) E hK hq hP hS iwX9 tyX9 tyX9_ok nmX9 rfl rfl (by decide) (by decide) rfl rfl (by decide) rfl (tyX9_ok 7 (by decide)) ⟨rfl, rfl⟩ tw305 dX9_judge_49 (fun H locs hP hS => ?_)
        obtain ⟨S4, hf, hP⟩ := z_ltX hf hP
        refine lv_iload_n hx hb dX9_judge_52 rfl (lv_at hl 1 rfl) ?_
        exact x_reti hx hb hr hlk hf hP hS dX9_judge_53
      · replace hf := z_ifp hf hc3
        refine lv_aload_n hx hb dX9_judge_19 rfl (lv_at hl 0 rfl) ?_
        refine lv_iconst (v := 0) hx hb dX9_judge_20 (by decide) ?_
        refine lv_iload_n hx hb dX9_judge_21 rfl (lv_at hl 2 rfl) ?_
        obtain ⟨S5, hz6, hf⟩ := z_bv_some hf
        refine z_cr (z_runV (o := 0) (ci := 9) E hK hP hS (c_X9_thinkWith hq hz6) cv_X9_thinkWith tw804 rfl (by decide) rfl rfl ⟨Nat.le_of_ble_eq_true rfl, Nat.le_of_ble_eq_true rfl⟩ ⟨Nat.le_refl 0, Nat.le_refl 0⟩ hl.1 (Nat.le_of_ble_eq_true rfl) rfl dX9_judge_22) hS (fun H locs hP hS => ?_)
        refine lv_aload_n hx hb dX9_judge_25 rfl (lv_at hl 0 rfl) ?_
        refine z_getR (C := RX9) (T := TX9) (N := 9) (ci := 9) (k := 4) (o := 0) (t := 62) E hK hP iwX9 rfl rfl (by decide) (by decide) rfl rfl rfl tw302 dX9_judge_26 ?_
        refine lv_iload_n hx hb dX9_judge_29 rfl (lv_at hl 2 rfl) ?_
        obtain ⟨r8, S7, hz9, hf⟩ := z_bd_some hf
        refine z_ci (z_runS E hK hP hS (c_X9_at hq rfl (by decide) hz9) cs_X9_at tw334 rfl ⟨Nat.le_of_ble_eq_true rfl, Nat.le_of_ble_eq_true rfl⟩ ⟨Nat.le_refl 0, Nat.le_refl 0⟩ hl.1 (Nat.le_of_ble_eq_true rfl) rfl dX9_judge_30) hS (fun H locs hP hS => ?_)
        obtain ⟨r11, S10, hz12, hf⟩ := z_bd_some hf
        refine z_ci (z_runV (o := 35) (ci := 2) E hK hP hS (c_X2_isNumber hq rfl (by decide) hz12) cv_X2_isNumber tw812 rfl (by decide) rfl rfl ⟨Nat.le_of_ble_eq_true rfl, Nat.le_of_ble_eq_true rfl⟩ ⟨Nat.le_refl 0, Nat.le_refl 0⟩ hl.1 (Nat.le_of_ble_eq_true rfl) rfl dX9_judge_33) hS (fun H locs hP hS => ?_)
        refine lv_if_ne (tgt := 41) hx hb dX9_judge_36 (by decide) (fun hc13 => ?_) (fun hc13 => ?_)
        · replace hf := z_ifn hf hc13
          exact hJ41 k5 hk5 (v1) (v2) S10 _ _ _ hf hP hS (lv_sub hl [0, 1, 2] rfl)
        · replace hf := z_ifp hf hc13
          refine lv_iload_n hx hb dX9_judge_39 rfl (lv_at hl 2 rfl) ?_
          refine lv_istore_n (lv' := [(1, .int (v2)), (0, .ref (gq G (0))), (2, .int (v2))]) hx hb dX9_judge_40 rfl hl (by decide) rfl (fun ls hl => ?_)
          exact hJ41 k5 hk5 (v2) (v2) S10 _ _ _ hf hP hS (lv_sub hl [1, 0, 2] rfl)
  have hL5 : ∀ (n : Nat), ∀ (v1 : Int32) (v2 : Int32) (S : St) (H : Heap) (locs : List Loc) (ls : Array Slot), f_X9_judge_5 N n v1 v2 S = some (r, S') → z_P G S M H → z_S G s.heap H locs → lv_has ls 3 [(0, .ref (gq G (0))), (1, .int (v1)), (2, .int (v2))] → W p l e (z_rm 6 137) s m ([.ref (gq G (0))] : List Value).toArray below meth c H locs 0 0 (MQ below (z_QI G S' M r) ([.ref (gq G (0))] : List Value).toArray s 0 0 (z_Aq (gq G))) (F0 m 5 ls []) := by
    intro  n
    induction n with
    | zero => intro _ _ _ _ _ _ hf; cases hf
    | succ n ih => exact hB5  _  ih
  have hl : lv_has ls 3 [(0, .ref (gq G (0)))] := hl
  unfold f_X9_judge at hf
  refine lv_bipush (v := (-9)) hx hb dX9_judge_0 (by decide) ?_
  refine lv_istore_n (lv' := [(1, .int ((-9))), (0, .ref (gq G (0)))]) hx hb dX9_judge_2 rfl hl (by decide) rfl (fun ls hl => ?_)
  refine lv_iconst (v := 0) hx hb dX9_judge_3 (by decide) ?_
  refine lv_istore_n (lv' := [(2, .int (0)), (1, .int ((-9))), (0, .ref (gq G (0)))]) hx hb dX9_judge_4 rfl hl (by decide) rfl (fun ls hl => ?_)
  exact hL5 N ((-9)) (0) S _ _ _ hf hP hS (lv_sub hl [2, 1, 0] rfl)
theorem cv_X9_judge : z_cv yX9_judge cX9_judge 3 (some .int) RX9 0 := ⟨⟨tw873, tw874⟩, tw875, tw1, by decide +kernel⟩
def f_X9_clear (N : Nat) (S : St) : Option (Int32 × St) := z_lt (z_wr S 0 7 0) fun S1 => some ((S 0 7), S1)
set_option maxHeartbeats 4000000 in
set_option maxRecDepth 100000 in
theorem c_X9_clear {l : Launch} {G : Cx} {M S S' : St} {N : Nat} {r : Int32} (hq : z_inj (gq G)) (hf : f_X9_clear N S = some (r, S')) : z_Ct l yX9_clear cX9_clear 2 (some .int) 0 0 G S M [.ref (gq G (0))] (z_QI G S' M r) := by
  refine z_start (by decide +kernel) (Nat.le_of_ble_eq_true rfl) ?_
  intro p e s m below meth c ls E hr hlk hK hP hS hl
  have E : CallFix p m c cX9_clear 2 s _ lw_good RX9 := E
  have hx := E.1
  have hb := E.2.1
  have hown := E.2.2.2.1
  have hts := E.2.2.2.2
  have hl : lv_has ls 2 [(0, .ref (gq G (0)))] := hl
  unfold f_X9_clear at hf
  refine lv_aload_n hx hb dX9_clear_0 rfl (lv_at hl 0 rfl) ?_
  refine x_getI (C := RX9) (T := TX9) (N := 9) (ci := 9) (k := 7) (o := 0) E hK hP iwX9 rfl rfl (by decide) (by decide) rfl rfl (by decide) tw305 dX9_clear_1 ?_
  refine lv_istore_n (lv' := [(1, .int ((S 0 7))), (0, .ref (gq G (0)))]) hx hb dX9_clear_4 rfl hl (by decide) rfl (fun ls hl => ?_)
  refine lv_aload_n hx hb dX9_clear_5 rfl (lv_at hl 1 rfl) ?_
  refine lv_iconst (v := 0) hx hb dX9_clear_6 (by decide) ?_
  refine x_putI (C := RX9) (T := TX9) (N := 9) (ci := 9) (k := 7) (o := 0) (v := 0) (ty := .int) E hK hq hP hS iwX9 tyX9 tyX9_ok nmX9 rfl rfl (by decide) (by decide) rfl rfl (by decide) rfl (tyX9_ok 7 (by decide)) ⟨rfl, rfl⟩ tw305 dX9_clear_7 (fun H locs hP hS => ?_)
  obtain ⟨S1, hf, hP⟩ := z_ltX hf hP
  refine lv_iload_n hx hb dX9_clear_10 rfl (lv_at hl 0 rfl) ?_
  exact x_reti hx hb hr hlk hf hP hS dX9_clear_11
theorem cv_X9_clear : z_cv yX9_clear cX9_clear 2 (some .int) RX9 0 := ⟨⟨tw877, tw878⟩, tw879, tw1, by decide +kernel⟩
def f_X9_drawOf (N : Nat) (a1 : Int32) (S : St) : Option (Int32 × St) := some ((((a1 &&& 2147483647) / 256) - ((a1 &&& 2147483647) / 256) / 10 * 10), S)
set_option maxHeartbeats 4000000 in
set_option maxRecDepth 100000 in
theorem c_X9_drawOf {l : Launch} {G : Cx} {M S S' : St} {N : Nat} {a1 : Int32} {r : Int32} (hq : z_inj (gq G)) (hf : f_X9_drawOf N a1 S = some (r, S')) : z_Ct l yX9_drawOf cX9_drawOf 1 (some .int) 0 0 G S M [.int (a1)] (z_QI G S' M r) := by
  refine z_start (by decide +kernel) (Nat.le_of_ble_eq_true rfl) ?_
  intro p e s m below meth c ls E hr hlk hK hP hS hl
  have E : CallFix p m c cX9_drawOf 1 s _ lw_good RX9 := E
  have hx := E.1
  have hb := E.2.1
  have hown := E.2.2.2.1
  have hts := E.2.2.2.2
  have hl : lv_has ls 1 [(0, .int (a1))] := hl
  unfold f_X9_drawOf at hf
  refine lv_iload_n hx hb dX9_drawOf_0 rfl (lv_at hl 0 rfl) ?_
  refine lv_ldc (v := 2147483647) hx hb hown (hts _ tw892) dX9_drawOf_1 ?_
  refine lv_iand hx hb dX9_drawOf_3 ?_
  refine lv_sipush (v := 256) hx hb dX9_drawOf_4 (by decide) ?_
  refine lv_idiv hx hb dX9_drawOf_7 (by decide) ?_
  refine lv_bipush (v := 10) hx hb dX9_drawOf_8 (by decide) ?_
  refine lv_irem hx hb dX9_drawOf_10 (by decide) ?_
  exact x_reti hx hb hr hlk hf hP hS dX9_drawOf_11
theorem cs_X9_drawOf : z_cs yX9_drawOf cX9_drawOf 1 (some .int) 1 := ⟨tw890, tw891, tw1, by decide +kernel⟩
def f_X9_nextSeed (N : Nat) (a1 : Int32) (S : St) : Option (Int32 × St) := some (((a1 * 1664525) + 1013904223), S)
set_option maxHeartbeats 4000000 in
set_option maxRecDepth 100000 in
theorem c_X9_nextSeed {l : Launch} {G : Cx} {M S S' : St} {N : Nat} {a1 : Int32} {r : Int32} (hq : z_inj (gq G)) (hf : f_X9_nextSeed N a1 S = some (r, S')) : z_Ct l yX9_nextSeed cX9_nextSeed 1 (some .int) 0 0 G S M [.int (a1)] (z_QI G S' M r) := by
  refine z_start (by decide +kernel) (Nat.le_of_ble_eq_true rfl) ?_
  intro p e s m below meth c ls E hr hlk hK hP hS hl
  have E : CallFix p m c cX9_nextSeed 1 s _ lw_good RX9 := E
  have hx := E.1
  have hb := E.2.1
  have hown := E.2.2.2.1
  have hts := E.2.2.2.2
  have hl : lv_has ls 1 [(0, .int (a1))] := hl
  unfold f_X9_nextSeed at hf
  refine lv_iload_n hx hb dX9_nextSeed_0 rfl (lv_at hl 0 rfl) ?_
  refine lv_ldc (v := 1664525) hx hb hown (hts _ tw887) dX9_nextSeed_1 ?_
  refine lv_imul hx hb dX9_nextSeed_3 ?_
  refine lv_ldc (v := 1013904223) hx hb hown (hts _ tw888) dX9_nextSeed_4 ?_
  refine lv_iadd hx hb dX9_nextSeed_6 ?_
  exact x_reti hx hb hr hlk hf hP hS dX9_nextSeed_7
theorem cs_X9_nextSeed : z_cs yX9_nextSeed cX9_nextSeed 1 (some .int) 1 := ⟨tw885, tw886, tw1, by decide +kernel⟩
def b_X9_lots_138 (N : Nat) (k34 : Int32 → Int32 → Int32 → Int32 → Int32 → Int32 → St → Option (Int32 × St)) (v1 : Int32) (v3 : Int32) (v5 : Int32) (v6 : Int32) (v8 : Int32) (t0 : Int32) (t1 : Int32) (S : St) : Option (Int32 × St) := k34 (v1) (v3) (v5) (v6) ((t1 + t0)) ((v8 + 1)) S
def b_X9_lots_119 (N : Nat) (k34 : Int32 → Int32 → Int32 → Int32 → Int32 → Int32 → St → Option (Int32 × St)) (v1 : Int32) (v3 : Int32) (v5 : Int32) (v7 : Int32) (v8 : Int32) (t0 : Int32) (t1 : Int32) (S : St) : Option (Int32 × St) := if (S 35 0) = 3 then (b_X9_lots_138 N k34 (v1) (v3) (v5) ((t1 + t0)) (v8) (1) (v7) S) else (b_X9_lots_138 N k34 (v1) (v3) (v5) ((t1 + t0)) (v8) (0) (v7) S)
def b_X9_lots_54 (N : Nat) (k34 : Int32 → Int32 → Int32 → Int32 → Int32 → Int32 → St → Option (Int32 × St)) (k54 : Int32 → Int32 → Int32 → Int32 → Int32 → Int32 → Int32 → St → Option (Int32 × St)) (v1 : Int32) (v3 : Int32) (v5 : Int32) (v6 : Int32) (v7 : Int32) (v8 : Int32) (v9 : Int32) (S : St) : Option (Int32 × St) := if 6 ≤ v9 then (z_bv (f_X4_perform N S) fun S13 => if (S13 35 0) = 0 then (b_X9_lots_119 N k34 (v1) (v3) (v5) (v7) (v8) ((S13 35 1)) (v6) S13) else (b_X9_lots_119 N k34 (v1) (v3) (v5) (v7) (v8) (0) (v6) S13)) else (z_bd (f_X9_nextSeed N (v5) S) fun r17 S16 => z_bd (f_X9_drawOf N (r17) S16) fun r20 S19 => z_bv (f_X9_put N (30) (v9) (r20) S19) fun S22 => k54 (v1) (v3) (r17) (v6) (v7) (v8) ((v9 + 1)) S22)
def f_X9_lots_54 (N : Nat) (k34 : Int32 → Int32 → Int32 → Int32 → Int32 → Int32 → St → Option (Int32 × St)) : Nat → Int32 → Int32 → Int32 → Int32 → Int32 → Int32 → Int32 → St → Option (Int32 × St)
  | 0 => fun _ _ _ _ _ _ _ _ => none
  | n + 1 => b_X9_lots_54 N k34 (f_X9_lots_54 N k34 n)
def b_X9_lots_34 (N : Nat) (k34 : Int32 → Int32 → Int32 → Int32 → Int32 → Int32 → St → Option (Int32 × St)) (v1 : Int32) (v3 : Int32) (v5 : Int32) (v6 : Int32) (v7 : Int32) (v8 : Int32) (S : St) : Option (Int32 × St) := if v1 ≤ v8 then (if v3 = 0 then (some (v6, S)) else (some (v7, S))) else (z_bv (f_X4_takeUp N S) fun S10 => f_X9_lots_54 N k34 N (v1) (v3) (v5) (v6) (v7) (v8) (0) S10)
def f_X9_lots_34 (N : Nat) : Nat → Int32 → Int32 → Int32 → Int32 → Int32 → Int32 → St → Option (Int32 × St)
  | 0 => fun _ _ _ _ _ _ _ => none
  | n + 1 => b_X9_lots_34 N (f_X9_lots_34 N n)
def f_X9_lots (N : Nat) (a1 : Int32) (a2 : Int32) (a3 : Int32) (S : St) : Option (Int32 × St) := z_bd (f_X9_refusalOfMany N (a1) (1) (20) (a3) S) fun r2 S1 => if r2 = 0 then (f_X9_lots_34 N N (a1) (a3) (a2) (0) (0) (0) S1) else (z_bd (f_X9_refuseNumber N (r2) S1) fun r6 S5 => some (r6, S5))
set_option maxHeartbeats 4000000 in
set_option maxRecDepth 100000 in
theorem c_X9_lots {l : Launch} {G : Cx} {M S S' : St} {N : Nat} {a1 : Int32} {a2 : Int32} {a3 : Int32} {r : Int32} (hq : z_inj (gq G)) (hf : f_X9_lots N a1 a2 a3 S = some (r, S')) : z_Ct l yX9_lots cX9_lots 10 (some .int) 5 115 G S M [.ref (gq G (0)), .int (a1), .int (a2), .int (a3)] (z_QI G S' M r) := by
  refine z_start (by decide +kernel) (Nat.le_of_ble_eq_true rfl) ?_
  intro p e s m below meth c ls E hr hlk hK hP hS hl
  have E : CallFix p m c cX9_lots 10 s _ lw_good RX9 := E
  have hx := E.1
  have hb := E.2.1
  have hown := E.2.2.2.1
  have hts := E.2.2.2.2
  have hJ138 : ∀ (k34 : Int32 → Int32 → Int32 → Int32 → Int32 → Int32 → St → Option (Int32 × St)) (hk34 : ∀ (v1 : Int32) (v3 : Int32) (v5 : Int32) (v6 : Int32) (v7 : Int32) (v8 : Int32) (S : St) (H : Heap) (locs : List Loc) (ls : Array Slot), k34 v1 v3 v5 v6 v7 v8 S = some (r, S') → z_P G S M H → z_S G s.heap H locs → lv_has ls 10 [(0, .ref (gq G (0))), (1, .int (v1)), (3, .int (v3)), (5, .int (v5)), (6, .int (v6)), (7, .int (v7)), (8, .int (v8))] → W p l e (z_rm 5 115) s m ([.ref (gq G (0)), .int (a1), .int (a2), .int (a3)] : List Value).toArray below meth c H locs 0 0 (MQ below (z_QI G S' M r) ([.ref (gq G (0)), .int (a1), .int (a2), .int (a3)] : List Value).toArray s 0 0 (z_Aq (gq G))) (F0 m 34 ls [])), ∀ (v1 : Int32) (v3 : Int32) (v5 : Int32) (v6 : Int32) (v8 : Int32) (t0 : Int32) (t1 : Int32) (S : St) (H : Heap) (locs : List Loc) (ls : Array Slot), b_X9_lots_138 N k34 v1 v3 v5 v6 v8 t0 t1 S = some (r, S') → z_P G S M H → z_S G s.heap H locs → lv_has ls 10 [(0, .ref (gq G (0))), (1, .int (v1)), (3, .int (v3)), (5, .int (v5)), (6, .int (v6)), (8, .int (v8))] → W p l e (z_rm 5 115) s m ([.ref (gq G (0)), .int (a1), .int (a2), .int (a3)] : List Value).toArray below meth c H locs 0 0 (MQ below (z_QI G S' M r) ([.ref (gq G (0)), .int (a1), .int (a2), .int (a3)] : List Value).toArray s 0 0 (z_Aq (gq G))) (F0 m 138 ls [.int (t0), .int (t1)]) := by
    intro k34 hk34 v1 v3 v5 v6 v8 t0 t1 S H locs ls hf hP hS hl
    unfold b_X9_lots_138 at hf
    refine lv_iadd hx hb dX9_lots_138 ?_
    refine lv_istore (lv' := [(7, .int ((t1 + t0))), (0, .ref (gq G (0))), (1, .int (v1)), (3, .int (v3)), (5, .int (v5)), (6, .int (v6)), (8, .int (v8))]) hx hb dX9_lots_139 hl (by decide) rfl (fun ls hl => ?_)
    refine lv_iinc (v := (v8 + 1)) (lv' := [(8, .int ((v8 + 1))), (7, .int ((t1 + t0))), (0, .ref (gq G (0))), (1, .int (v1)), (3, .int (v3)), (5, .int (v5)), (6, .int (v6))]) hx hb dX9_lots_141 hl (k := 6) rfl rfl (by decide) rfl (fun ls hl => ?_)
    refine lv_goto (tgt := 34) hx hb dX9_lots_144 (by decide) ?_
    exact hk34 (v1) (v3) (v5) (v6) ((t1 + t0)) ((v8 + 1)) S _ _ _ hf hP hS (lv_sub hl [2, 3, 4, 5, 6, 1, 0] rfl)
  have hJ119 : ∀ (k34 : Int32 → Int32 → Int32 → Int32 → Int32 → Int32 → St → Option (Int32 × St)) (hk34 : ∀ (v1 : Int32) (v3 : Int32) (v5 : Int32) (v6 : Int32) (v7 : Int32) (v8 : Int32) (S : St) (H : Heap) (locs : List Loc) (ls : Array Slot), k34 v1 v3 v5 v6 v7 v8 S = some (r, S') → z_P G S M H → z_S G s.heap H locs → lv_has ls 10 [(0, .ref (gq G (0))), (1, .int (v1)), (3, .int (v3)), (5, .int (v5)), (6, .int (v6)), (7, .int (v7)), (8, .int (v8))] → W p l e (z_rm 5 115) s m ([.ref (gq G (0)), .int (a1), .int (a2), .int (a3)] : List Value).toArray below meth c H locs 0 0 (MQ below (z_QI G S' M r) ([.ref (gq G (0)), .int (a1), .int (a2), .int (a3)] : List Value).toArray s 0 0 (z_Aq (gq G))) (F0 m 34 ls [])), ∀ (v1 : Int32) (v3 : Int32) (v5 : Int32) (v7 : Int32) (v8 : Int32) (t0 : Int32) (t1 : Int32) (S : St) (H : Heap) (locs : List Loc) (ls : Array Slot), b_X9_lots_119 N k34 v1 v3 v5 v7 v8 t0 t1 S = some (r, S') → z_P G S M H → z_S G s.heap H locs → lv_has ls 10 [(0, .ref (gq G (0))), (1, .int (v1)), (3, .int (v3)), (5, .int (v5)), (7, .int (v7)), (8, .int (v8)), (9, .ref (gq G (35)))] → W p l e (z_rm 5 115) s m ([.ref (gq G (0)), .int (a1), .int (a2), .int (a3)] : List Value).toArray below meth c H locs 0 0 (MQ below (z_QI G S' M r) ([.ref (gq G (0)), .int (a1), .int (a2), .int (a3)] : List Value).toArray s 0 0 (z_Aq (gq G))) (F0 m 119 ls [.int (t0), .int (t1)]) := by
    intro k34 hk34 v1 v3 v5 v7 v8 t0 t1 S H locs ls hf hP hS hl
    unfold b_X9_lots_119 at hf
    refine lv_iadd hx hb dX9_lots_119 ?_
    refine lv_istore (lv' := [(6, .int ((t1 + t0))), (0, .ref (gq G (0))), (1, .int (v1)), (3, .int (v3)), (5, .int (v5)), (7, .int (v7)), (8, .int (v8)), (9, .ref (gq G (35)))]) hx hb dX9_lots_120 hl (by decide) rfl (fun ls hl => ?_)
    refine lv_iload hx hb dX9_lots_122 (lv_at hl 5 rfl) ?_
    refine lv_aload hx hb dX9_lots_124 (lv_at hl 7 rfl) ?_
    refine x_getI (C := RX2) (T := TX2) (N := 7) (ci := 2) (k := 0) (o := 35) E hK hP iwX2 rfl rfl (by decide) (by decide) rfl rfl (by decide) tw91 dX9_lots_126 ?_
    refine lv_iconst (v := 3) hx hb dX9_lots_129 (by decide) ?_
    refine lv_icmp_ne (tgt := 137) hx hb dX9_lots_130 (by decide) (fun hc24 => ?_) (fun hc24 => ?_)
    · replace hf := z_ifn hf hc24
      refine lv_iconst (v := 0) hx hb dX9_lots_137 (by decide) ?_
      exact hJ138 k34 hk34 (v1) (v3) (v5) ((t1 + t0)) (v8) (0) (v7) S _ _ _ hf hP hS (lv_sub hl [1, 2, 3, 4, 0, 6] rfl)
    · replace hf := z_ifp hf hc24
      refine lv_iconst (v := 1) hx hb dX9_lots_133 (by decide) ?_
      refine lv_goto (tgt := 138) hx hb dX9_lots_134 (by decide) ?_
      exact hJ138 k34 hk34 (v1) (v3) (v5) ((t1 + t0)) (v8) (1) (v7) S _ _ _ hf hP hS (lv_sub hl [1, 2, 3, 4, 0, 6] rfl)
  have hB54 : ∀ (k34 : Int32 → Int32 → Int32 → Int32 → Int32 → Int32 → St → Option (Int32 × St)) (k54 : Int32 → Int32 → Int32 → Int32 → Int32 → Int32 → Int32 → St → Option (Int32 × St)) (hk34 : ∀ (v1 : Int32) (v3 : Int32) (v5 : Int32) (v6 : Int32) (v7 : Int32) (v8 : Int32) (S : St) (H : Heap) (locs : List Loc) (ls : Array Slot), k34 v1 v3 v5 v6 v7 v8 S = some (r, S') → z_P G S M H → z_S G s.heap H locs → lv_has ls 10 [(0, .ref (gq G (0))), (1, .int (v1)), (3, .int (v3)), (5, .int (v5)), (6, .int (v6)), (7, .int (v7)), (8, .int (v8))] → W p l e (z_rm 5 115) s m ([.ref (gq G (0)), .int (a1), .int (a2), .int (a3)] : List Value).toArray below meth c H locs 0 0 (MQ below (z_QI G S' M r) ([.ref (gq G (0)), .int (a1), .int (a2), .int (a3)] : List Value).toArray s 0 0 (z_Aq (gq G))) (F0 m 34 ls [])) (hk54 : ∀ (v1 : Int32) (v3 : Int32) (v5 : Int32) (v6 : Int32) (v7 : Int32) (v8 : Int32) (v9 : Int32) (S : St) (H : Heap) (locs : List Loc) (ls : Array Slot), k54 v1 v3 v5 v6 v7 v8 v9 S = some (r, S') → z_P G S M H → z_S G s.heap H locs → lv_has ls 10 [(0, .ref (gq G (0))), (1, .int (v1)), (3, .int (v3)), (5, .int (v5)), (6, .int (v6)), (7, .int (v7)), (8, .int (v8)), (9, .int (v9))] → W p l e (z_rm 5 115) s m ([.ref (gq G (0)), .int (a1), .int (a2), .int (a3)] : List Value).toArray below meth c H locs 0 0 (MQ below (z_QI G S' M r) ([.ref (gq G (0)), .int (a1), .int (a2), .int (a3)] : List Value).toArray s 0 0 (z_Aq (gq G))) (F0 m 54 ls [])), ∀ (v1 : Int32) (v3 : Int32) (v5 : Int32) (v6 : Int32) (v7 : Int32) (v8 : Int32) (v9 : Int32) (S : St) (H : Heap) (locs : List Loc) (ls : Array Slot), b_X9_lots_54 N k34 k54 v1 v3 v5 v6 v7 v8 v9 S = some (r, S') → z_P G S M H → z_S G s.heap H locs → lv_has ls 10 [(0, .ref (gq G (0))), (1, .int (v1)), (3, .int (v3)), (5, .int (v5)), (6, .int (v6)), (7, .int (v7)), (8, .int (v8)), (9, .int (v9))] → W p l e (z_rm 5 115) s m ([.ref (gq G (0)), .int (a1), .int (a2), .int (a3)] : List Value).toArray below meth c H locs 0 0 (MQ below (z_QI G S' M r) ([.ref (gq G (0)), .int (a1), .int (a2), .int (a3)] : List Value).toArray s 0 0 (z_Aq (gq G))) (F0 m 54 ls []) := by
    intro k34 k54 hk34 hk54 v1 v3 v5 v6 v7 v8 v9 S H locs ls hf hP hS hl
    unfold b_X9_lots_54 at hf
    refine lv_iload hx hb dX9_lots_54 (lv_at hl 7 rfl) ?_
    refine lv_bipush (v := 6) hx hb dX9_lots_56 (by decide) ?_
    refine lv_icmp_ge (tgt := 91) hx hb dX9_lots_58 (by decide) (fun hc12 => ?_) (fun hc12 => ?_)
    · replace hf := z_ifp hf hc12
      refine lv_aload_n hx hb dX9_lots_91 rfl (lv_at hl 0 rfl) ?_
      refine z_getR (C := RX9) (T := TX9) (N := 9) (ci := 9) (k := 2) (o := 0) (t := 29) E hK hP iwX9 rfl rfl (by decide) (by decide) rfl rfl rfl tw300 dX9_lots_92 ?_
      obtain ⟨S13, hz14, hf⟩ := z_bv_some hf
      refine z_cr (z_runV (o := 29) (ci := 4) E hK hP hS (c_X4_perform hq hz14) cv_X4_perform tw534 rfl (by decide) rfl rfl ⟨Nat.le_of_ble_eq_true rfl, Nat.le_of_ble_eq_true rfl⟩ ⟨Nat.le_refl 0, Nat.le_refl 0⟩ hl.1 (Nat.le_of_ble_eq_true rfl) rfl dX9_lots_95) hS (fun H locs hP hS => ?_)
      refine lv_astore (lv' := [(9, .ref (gq G (35))), (0, .ref (gq G (0))), (1, .int (v1)), (3, .int (v3)), (5, .int (v5)), (6, .int (v6)), (7, .int (v7)), (8, .int (v8))]) hx hb dX9_lots_98 hl (by decide) rfl (fun ls hl => ?_)
      refine lv_iload hx hb dX9_lots_100 (lv_at hl 5 rfl) ?_
      refine lv_aload hx hb dX9_lots_102 (lv_at hl 0 rfl) ?_
      refine x_getI (C := RX2) (T := TX2) (N := 7) (ci := 2) (k := 0) (o := 35) E hK hP iwX2 rfl rfl (by decide) (by decide) rfl rfl (by decide) tw91 dX9_lots_104 ?_
      refine lv_if_ne (tgt := 118) hx hb dX9_lots_107 (by decide) (fun hc15 => ?_) (fun hc15 => ?_)
      · replace hf := z_ifn hf hc15
        refine lv_iconst (v := 0) hx hb dX9_lots_118 (by decide) ?_
        exact hJ119 k34 hk34 (v1) (v3) (v5) (v7) (v8) (0) (v6) S13 _ _ _ hf hP hS (lv_sub hl [1, 2, 3, 4, 6, 7, 0] rfl)
      · replace hf := z_ifp hf hc15
        refine lv_aload hx hb dX9_lots_110 (lv_at hl 0 rfl) ?_
        refine x_getI (C := RX2) (T := TX2) (N := 7) (ci := 2) (k := 1) (o := 35) E hK hP iwX2 rfl rfl (by decide) (by decide) rfl rfl (by decide) tw94 dX9_lots_112 ?_
        refine lv_goto (tgt := 119) hx hb dX9_lots_115 (by decide) ?_
        exact hJ119 k34 hk34 (v1) (v3) (v5) (v7) (v8) ((S13 35 1)) (v6) S13 _ _ _ hf hP hS (lv_sub hl [1, 2, 3, 4, 6, 7, 0] rfl)
    · replace hf := z_ifn hf hc12
      refine lv_iload hx hb dX9_lots_61 (lv_at hl 3 rfl) ?_
      obtain ⟨r17, S16, hz18, hf⟩ := z_bd_some hf
      refine z_ci (z_runS E hK hP hS (c_X9_nextSeed hq hz18) cs_X9_nextSeed tw884 rfl ⟨Nat.le_of_ble_eq_true rfl, Nat.le_of_ble_eq_true rfl⟩ ⟨Nat.le_refl 0, Nat.le_refl 0⟩ hl.1 (Nat.le_of_ble_eq_true rfl) rfl dX9_lots_63) hS (fun H locs hP hS => ?_)
      refine lv_istore (lv' := [(5, .int (r17)), (0, .ref (gq G (0))), (1, .int (v1)), (3, .int (v3)), (6, .int (v6)), (7, .int (v7)), (8, .int (v8)), (9, .int (v9))]) hx hb dX9_lots_66 hl (by decide) rfl (fun ls hl => ?_)
      refine lv_aload_n hx hb dX9_lots_68 rfl (lv_at hl 1 rfl) ?_
      refine z_getR (C := RX9) (T := TX9) (N := 9) (ci := 9) (k := 2) (o := 0) (t := 29) E hK hP iwX9 rfl rfl (by decide) (by decide) rfl rfl rfl tw300 dX9_lots_69 ?_
      refine z_getR (C := RX4) (T := TX4) (N := 13) (ci := 4) (k := 0) (o := 29) (t := 30) E hK hP iwX4 rfl rfl (by decide) (by decide) rfl rfl rfl tw224 dX9_lots_72 ?_
      refine lv_iload hx hb dX9_lots_75 (lv_at hl 7 rfl) ?_
      refine lv_iload hx hb dX9_lots_77 (lv_at hl 0 rfl) ?_
      obtain ⟨r20, S19, hz21, hf⟩ := z_bd_some hf
      refine z_ci (z_runS E hK hP hS (c_X9_drawOf hq hz21) cs_X9_drawOf tw889 rfl ⟨Nat.le_of_ble_eq_true rfl, Nat.le_of_ble_eq_true rfl⟩ ⟨Nat.le_refl 0, Nat.le_refl 0⟩ hl.1 (Nat.le_of_ble_eq_true rfl) rfl dX9_lots_79) hS (fun H locs hP hS => ?_)
      obtain ⟨S22, hz23, hf⟩ := z_bv_some hf
      refine z_cvo (z_runS E hK hP hS (c_X9_put hq rfl (by decide) hz23) cs_X9_put tw337 rfl ⟨Nat.le_of_ble_eq_true rfl, Nat.le_of_ble_eq_true rfl⟩ ⟨Nat.le_refl 0, Nat.le_refl 0⟩ hl.1 (Nat.le_of_ble_eq_true rfl) rfl dX9_lots_82) hS (fun H locs hP hS => ?_)
      refine lv_iinc (v := (v9 + 1)) (lv' := [(9, .int ((v9 + 1))), (5, .int (r17)), (0, .ref (gq G (0))), (1, .int (v1)), (3, .int (v3)), (6, .int (v6)), (7, .int (v7)), (8, .int (v8))]) hx hb dX9_lots_85 hl (k := 7) rfl rfl (by decide) rfl (fun ls hl => ?_)
      refine lv_goto (tgt := 54) hx hb dX9_lots_88 (by decide) ?_
      exact hk54 (v1) (v3) (r17) (v6) (v7) (v8) ((v9 + 1)) S22 _ _ _ hf hP hS (lv_sub hl [2, 3, 4, 1, 5, 6, 7, 0] rfl)
  have hL54 : ∀ (k34 : Int32 → Int32 → Int32 → Int32 → Int32 → Int32 → St → Option (Int32 × St)) (hk34 : ∀ (v1 : Int32) (v3 : Int32) (v5 : Int32) (v6 : Int32) (v7 : Int32) (v8 : Int32) (S : St) (H : Heap) (locs : List Loc) (ls : Array Slot), k34 v1 v3 v5 v6 v7 v8 S = some (r, S') → z_P G S M H → z_S G s.heap H locs → lv_has ls 10 [(0, .ref (gq G (0))), (1, .int (v1)), (3, .int (v3)), (5, .int (v5)), (6, .int (v6)), (7, .int (v7)), (8, .int (v8))] → W p l e (z_rm 5 115) s m ([.ref (gq G (0)), .int (a1), .int (a2), .int (a3)] : List Value).toArray below meth c H locs 0 0 (MQ below (z_QI G S' M r) ([.ref (gq G (0)), .int (a1), .int (a2), .int (a3)] : List Value).toArray s 0 0 (z_Aq (gq G))) (F0 m 34 ls [])) (n : Nat), ∀ (v1 : Int32) (v3 : Int32) (v5 : Int32) (v6 : Int32) (v7 : Int32) (v8 : Int32) (v9 : Int32) (S : St) (H : Heap) (locs : List Loc) (ls : Array Slot), f_X9_lots_54 N k34 n v1 v3 v5 v6 v7 v8 v9 S = some (r, S') → z_P G S M H → z_S G s.heap H locs → lv_has ls 10 [(0, .ref (gq G (0))), (1, .int (v1)), (3, .int (v3)), (5, .int (v5)), (6, .int (v6)), (7, .int (v7)), (8, .int (v8)), (9, .int (v9))] → W p l e (z_rm 5 115) s m ([.ref (gq G (0)), .int (a1), .int (a2), .int (a3)] : List Value).toArray below meth c H locs 0 0 (MQ below (z_QI G S' M r) ([.ref (gq G (0)), .int (a1), .int (a2), .int (a3)] : List Value).toArray s 0 0 (z_Aq (gq G))) (F0 m 54 ls []) := by
    intro k34 hk34 n
    induction n with
    | zero => intro _ _ _ _ _ _ _ _ _ _ _ hf; cases hf
    | succ n ih => exact hB54 k34 _ hk34 ih
  have hB34 : ∀ (k34 : Int32 → Int32 → Int32 → Int32 → Int32 → Int32 → St → Option (Int32 × St)) (hk34 : ∀ (v1 : Int32) (v3 : Int32) (v5 : Int32) (v6 : Int32) (v7 : Int32) (v8 : Int32) (S : St) (H : Heap) (locs : List Loc) (ls : Array Slot), k34 v1 v3 v5 v6 v7 v8 S = some (r, S') → z_P G S M H → z_S G s.heap H locs → lv_has ls 10 [(0, .ref (gq G (0))), (1, .int (v1)), (3, .int (v3)), (5, .int (v5)), (6, .int (v6)), (7, .int (v7)), (8, .int (v8))] → W p l e (z_rm 5 115) s m ([.ref (gq G (0)), .int (a1), .int (a2), .int (a3)] : List Value).toArray below meth c H locs 0 0 (MQ below (z_QI G S' M r) ([.ref (gq G (0)), .int (a1), .int (a2), .int (a3)] : List Value).toArray s 0 0 (z_Aq (gq G))) (F0 m 34 ls [])), ∀ (v1 : Int32) (v3 : Int32) (v5 : Int32) (v6 : Int32) (v7 : Int32) (v8 : Int32) (S : St) (H : Heap) (locs : List Loc) (ls : Array Slot), b_X9_lots_34 N k34 v1 v3 v5 v6 v7 v8 S = some (r, S') → z_P G S M H → z_S G s.heap H locs → lv_has ls 10 [(0, .ref (gq G (0))), (1, .int (v1)), (3, .int (v3)), (5, .int (v5)), (6, .int (v6)), (7, .int (v7)), (8, .int (v8))] → W p l e (z_rm 5 115) s m ([.ref (gq G (0)), .int (a1), .int (a2), .int (a3)] : List Value).toArray below meth c H locs 0 0 (MQ below (z_QI G S' M r) ([.ref (gq G (0)), .int (a1), .int (a2), .int (a3)] : List Value).toArray s 0 0 (z_Aq (gq G))) (F0 m 34 ls []) := by
    intro k34 hk34 v1 v3 v5 v6 v7 v8 S H locs ls hf hP hS hl
    unfold b_X9_lots_34 at hf
    refine lv_iload hx hb dX9_lots_34 (lv_at hl 6 rfl) ?_
    refine lv_iload_n hx hb dX9_lots_36 rfl (lv_at hl 1 rfl) ?_
    refine lv_icmp_ge (tgt := 147) hx hb dX9_lots_37 (by decide) (fun hc8 => ?_) (fun hc8 => ?_)
    · replace hf := z_ifp hf hc8
      refine lv_iload_n hx hb dX9_lots_147 rfl (lv_at hl 2 rfl) ?_
      refine lv_if_ne (tgt := 156) hx hb dX9_lots_148 (by decide) (fun hc9 => ?_) (fun hc9 => ?_)
      · replace hf := z_ifn hf hc9
        refine lv_iload hx hb dX9_lots_156 (lv_at hl 5 rfl) ?_
        exact x_reti hx hb hr hlk hf hP hS dX9_lots_158
      · replace hf := z_ifp hf hc9
        refine lv_iload hx hb dX9_lots_151 (lv_at hl 4 rfl) ?_
        refine lv_goto (tgt := 158) hx hb dX9_lots_153 (by decide) ?_
        exact x_reti hx hb hr hlk hf hP hS dX9_lots_158
    · replace hf := z_ifn hf hc8
      refine lv_aload_n hx hb dX9_lots_40 rfl (lv_at hl 0 rfl) ?_
      refine z_getR (C := RX9) (T := TX9) (N := 9) (ci := 9) (k := 2) (o := 0) (t := 29) E hK hP iwX9 rfl rfl (by decide) (by decide) rfl rfl rfl tw300 dX9_lots_41 ?_
      refine lv_aload_n hx hb dX9_lots_44 rfl (lv_at hl 0 rfl) ?_
      refine z_getR (C := RX9) (T := TX9) (N := 9) (ci := 9) (k := 0) (o := 0) (t := 1) E hK hP iwX9 rfl rfl (by decide) (by decide) rfl rfl rfl tw298 dX9_lots_45 ?_
      obtain ⟨S10, hz11, hf⟩ := z_bv_some hf
      refine z_cvo (z_runV (o := 29) (ci := 4) E hK hP hS (c_X4_takeUp hq hz11) cv_X4_takeUp tw516 rfl (by decide) rfl rfl ⟨Nat.le_of_ble_eq_true rfl, Nat.le_of_ble_eq_true rfl⟩ ⟨Nat.le_refl 0, Nat.le_refl 0⟩ hl.1 (Nat.le_of_ble_eq_true rfl) rfl dX9_lots_48) hS (fun H locs hP hS => ?_)
      refine lv_iconst (v := 0) hx hb dX9_lots_51 (by decide) ?_
      refine lv_istore (lv' := [(9, .int (0)), (0, .ref (gq G (0))), (1, .int (v1)), (3, .int (v3)), (5, .int (v5)), (6, .int (v6)), (7, .int (v7)), (8, .int (v8))]) hx hb dX9_lots_52 hl (by decide) rfl (fun ls hl => ?_)
      exact hL54 k34 hk34 N (v1) (v3) (v5) (v6) (v7) (v8) (0) S10 _ _ _ hf hP hS (lv_sub hl [1, 2, 3, 4, 5, 6, 7, 0] rfl)
  have hL34 : ∀ (n : Nat), ∀ (v1 : Int32) (v3 : Int32) (v5 : Int32) (v6 : Int32) (v7 : Int32) (v8 : Int32) (S : St) (H : Heap) (locs : List Loc) (ls : Array Slot), f_X9_lots_34 N n v1 v3 v5 v6 v7 v8 S = some (r, S') → z_P G S M H → z_S G s.heap H locs → lv_has ls 10 [(0, .ref (gq G (0))), (1, .int (v1)), (3, .int (v3)), (5, .int (v5)), (6, .int (v6)), (7, .int (v7)), (8, .int (v8))] → W p l e (z_rm 5 115) s m ([.ref (gq G (0)), .int (a1), .int (a2), .int (a3)] : List Value).toArray below meth c H locs 0 0 (MQ below (z_QI G S' M r) ([.ref (gq G (0)), .int (a1), .int (a2), .int (a3)] : List Value).toArray s 0 0 (z_Aq (gq G))) (F0 m 34 ls []) := by
    intro  n
    induction n with
    | zero => intro _ _ _ _ _ _ _ _ _ _ hf; cases hf
    | succ n ih => exact hB34  _  ih
  have hl : lv_has ls 10 [(0, .ref (gq G (0))), (1, .int (a1)), (2, .int (a2)), (3, .int (a3))] := hl
  unfold f_X9_lots at hf
  refine lv_iload_n hx hb dX9_lots_0 rfl (lv_at hl 1 rfl) ?_
  refine lv_iconst (v := 1) hx hb dX9_lots_1 (by decide) ?_
  refine lv_bipush (v := 20) hx hb dX9_lots_2 (by decide) ?_
  refine lv_iload_n hx hb dX9_lots_4 rfl (lv_at hl 3 rfl) ?_
  obtain ⟨r2, S1, hz3, hf⟩ := z_bd_some hf
  refine z_ci (z_runS E hK hP hS (c_X9_refusalOfMany hq hz3) cs_X9_refusalOfMany tw837 rfl ⟨Nat.le_of_ble_eq_true rfl, Nat.le_of_ble_eq_true rfl⟩ ⟨Nat.le_refl 0, Nat.le_refl 0⟩ hl.1 (Nat.le_of_ble_eq_true rfl) rfl dX9_lots_5) hS (fun H locs hP hS => ?_)
  refine lv_istore (lv' := [(4, .int (r2)), (0, .ref (gq G (0))), (1, .int (a1)), (2, .int (a2)), (3, .int (a3))]) hx hb dX9_lots_8 hl (by decide) rfl (fun ls hl => ?_)
  refine lv_iload hx hb dX9_lots_10 (lv_at hl 0 rfl) ?_
  refine lv_if_eq (tgt := 22) hx hb dX9_lots_12 (by decide) (fun hc4 => ?_) (fun hc4 => ?_)
  · replace hf := z_ifp hf hc4
    refine lv_iload_n hx hb dX9_lots_22 rfl (lv_at hl 3 rfl) ?_
    refine lv_istore (lv' := [(5, .int (a2)), (4, .int (r2)), (0, .ref (gq G (0))), (1, .int (a1)), (2, .int (a2)), (3, .int (a3))]) hx hb dX9_lots_23 hl (by decide) rfl (fun ls hl => ?_)
    refine lv_iconst (v := 0) hx hb dX9_lots_25 (by decide) ?_
    refine lv_istore (lv' := [(6, .int (0)), (5, .int (a2)), (4, .int (r2)), (0, .ref (gq G (0))), (1, .int (a1)), (2, .int (a2)), (3, .int (a3))]) hx hb dX9_lots_26 hl (by decide) rfl (fun ls hl => ?_)
    refine lv_iconst (v := 0) hx hb dX9_lots_28 (by decide) ?_
    refine lv_istore (lv' := [(7, .int (0)), (6, .int (0)), (5, .int (a2)), (4, .int (r2)), (0, .ref (gq G (0))), (1, .int (a1)), (2, .int (a2)), (3, .int (a3))]) hx hb dX9_lots_29 hl (by decide) rfl (fun ls hl => ?_)
    refine lv_iconst (v := 0) hx hb dX9_lots_31 (by decide) ?_
    refine lv_istore (lv' := [(8, .int (0)), (7, .int (0)), (6, .int (0)), (5, .int (a2)), (4, .int (r2)), (0, .ref (gq G (0))), (1, .int (a1)), (2, .int (a2)), (3, .int (a3))]) hx hb dX9_lots_32 hl (by decide) rfl (fun ls hl => ?_)
    exact hL34 N (a1) (a3) (a2) (0) (0) (0) S1 _ _ _ hf hP hS (lv_sub hl [5, 6, 8, 3, 2, 1, 0] rfl)
  · replace hf := z_ifn hf hc4
    refine lv_aload_n hx hb dX9_lots_15 rfl (lv_at hl 1 rfl) ?_
    refine lv_iload hx hb dX9_lots_16 (lv_at hl 0 rfl) ?_
    obtain ⟨r6, S5, hz7, hf⟩ := z_bd_some hf
    refine z_ci (z_runV (o := 0) (ci := 9) E hK hP hS (c_X9_refuseNumber hq hz7) cv_X9_refuseNumber tw496 rfl (by decide) rfl rfl ⟨Nat.le_of_ble_eq_true rfl, Nat.le_of_ble_eq_true rfl⟩ ⟨Nat.le_refl 0, Nat.le_refl 0⟩ hl.1 (Nat.le_of_ble_eq_true rfl) rfl dX9_lots_18) hS (fun H locs hP hS => ?_)
    exact x_reti hx hb hr hlk hf hP hS dX9_lots_21
theorem cv_X9_lots : z_cv yX9_lots cX9_lots 10 (some .int) RX9 3 := ⟨⟨tw881, tw882⟩, tw883, tw1, by decide +kernel⟩
def f_X9_image (N : Nat) (S : St) : Option (Int32 × St) := z_bv (f_X6_copyFrom N (15) (1) S) fun S1 => z_lt (z_wr S1 0 8 1) fun S3 => some ((S3 16 6), S3)
set_option maxHeartbeats 4000000 in
set_option maxRecDepth 100000 in
theorem c_X9_image {l : Launch} {G : Cx} {M S S' : St} {N : Nat} {r : Int32} (hq : z_inj (gq G)) (hf : f_X9_image N S = some (r, S')) : z_Ct l yX9_image cX9_image 1 (some .int) 4 84 G S M [.ref (gq G (0))] (z_QI G S' M r) := by
  refine z_start (by decide +kernel) (Nat.le_of_ble_eq_true rfl) ?_
  intro p e s m below meth c ls E hr hlk hK hP hS hl
  have E : CallFix p m c cX9_image 1 s _ lw_good RX9 := E
  have hx := E.1
  have hb := E.2.1
  have hown := E.2.2.2.1
  have hts := E.2.2.2.2
  have hl : lv_has ls 1 [(0, .ref (gq G (0)))] := hl
  unfold f_X9_image at hf
  refine lv_aload_n hx hb dX9_image_0 rfl (lv_at hl 0 rfl) ?_
  refine z_getR (C := RX9) (T := TX9) (N := 9) (ci := 9) (k := 1) (o := 0) (t := 15) E hK hP iwX9 rfl rfl (by decide) (by decide) rfl rfl rfl tw299 dX9_image_1 ?_
  refine lv_aload_n hx hb dX9_image_4 rfl (lv_at hl 0 rfl) ?_
  refine z_getR (C := RX9) (T := TX9) (N := 9) (ci := 9) (k := 0) (o := 0) (t := 1) E hK hP iwX9 rfl rfl (by decide) (by decide) rfl rfl rfl tw298 dX9_image_5 ?_
  obtain ⟨S1, hz2, hf⟩ := z_bv_some hf
  refine z_cvo (z_runV (o := 15) (ci := 6) E hK hP hS (c_X6_copyFrom hq rfl (by decide) rfl (by decide) hz2) cv_X6_copyFrom tw897 rfl (by decide) rfl rfl ⟨Nat.le_of_ble_eq_true rfl, Nat.le_of_ble_eq_true rfl⟩ ⟨Nat.le_refl 0, Nat.le_refl 0⟩ hl.1 (Nat.le_of_ble_eq_true rfl) rfl dX9_image_8) hS (fun H locs hP hS => ?_)
  refine lv_aload_n hx hb dX9_image_11 rfl (lv_at hl 0 rfl) ?_
  refine lv_iconst (v := 1) hx hb dX9_image_12 (by decide) ?_
  refine x_putI (C := RX9) (T := TX9) (N := 9) (ci := 9) (k := 8) (o := 0) (v := 1) (ty := .boolean) E hK hq hP hS iwX9 tyX9 tyX9_ok nmX9 rfl rfl (by decide) (by decide) rfl rfl (by decide) rfl (tyX9_ok 8 (by decide)) ⟨rfl, rfl⟩ tw306 dX9_image_13 (fun H locs hP hS => ?_)
  obtain ⟨S3, hf, hP⟩ := z_ltX hf hP
  refine lv_aload_n hx hb dX9_image_16 rfl (lv_at hl 0 rfl) ?_
  refine z_getR (C := RX9) (T := TX9) (N := 9) (ci := 9) (k := 1) (o := 0) (t := 15) E hK hP iwX9 rfl rfl (by decide) (by decide) rfl rfl rfl tw299 dX9_image_17 ?_
  refine z_getR (C := RX6) (T := TX6) (N := 6) (ci := 6) (k := 0) (o := 15) (t := 16) E hK hP iwX6 rfl rfl (by decide) (by decide) rfl rfl rfl tw124 dX9_image_20 ?_
  refine x_getI (C := RX5) (T := TX5) (N := 8) (ci := 5) (k := 6) (o := 16) E hK hP iwX5 rfl rfl (by decide) (by decide) rfl rfl (by decide) tw46 dX9_image_23 ?_
  exact x_reti hx hb hr hlk hf hP hS dX9_image_26
theorem cv_X9_image : z_cv yX9_image cX9_image 1 (some .int) RX9 0 := ⟨⟨tw894, tw895⟩, tw896, tw1, by decide +kernel⟩
def f_X9_on (N : Nat) (S : St) : Option (Int32 × St) := if (S 0 8) = 0 then (z_bd (f_X9_refuse N ((-3)) S) fun r5 S4 => some (r5, S4)) else (z_bv (f_X6_copyFrom N (1) (15) S) fun S2 => some ((S2 2 6), S2))
set_option maxHeartbeats 4000000 in
set_option maxRecDepth 100000 in
theorem c_X9_on {l : Launch} {G : Cx} {M S S' : St} {N : Nat} {r : Int32} (hq : z_inj (gq G)) (hf : f_X9_on N S = some (r, S')) : z_Ct l yX9_on cX9_on 1 (some .int) 4 84 G S M [.ref (gq G (0))] (z_QI G S' M r) := by
  refine z_start (by decide +kernel) (Nat.le_of_ble_eq_true rfl) ?_
  intro p e s m below meth c ls E hr hlk hK hP hS hl
  have E : CallFix p m c cX9_on 1 s _ lw_good RX9 := E
  have hx := E.1
  have hb := E.2.1
  have hown := E.2.2.2.1
  have hts := E.2.2.2.2
  have hl : lv_has ls 1 [(0, .ref (gq G (0)))] := hl
  unfold f_X9_on at hf
  refine lv_aload_n hx hb dX9_on_0 rfl (lv_at hl 0 rfl) ?_
  refine x_getI (C := RX9) (T := TX9) (N := 9) (ci := 9) (k := 8) (o := 0) E hK hP iwX9 rfl rfl (by decide) (by decide) rfl rfl (by decide) tw306 dX9_on_1 ?_
  refine lv_if_ne (tgt := 14) hx hb dX9_on_4 (by decide) (fun hc1 => ?_) (fun hc1 => ?_)
  · replace hf := z_ifn hf hc1
    refine lv_aload_n hx hb dX9_on_14 rfl (lv_at hl 0 rfl) ?_
    refine z_getR (C := RX9) (T := TX9) (N := 9) (ci := 9) (k := 0) (o := 0) (t := 1) E hK hP iwX9 rfl rfl (by decide) (by decide) rfl rfl rfl tw298 dX9_on_15 ?_
    refine lv_aload_n hx hb dX9_on_18 rfl (lv_at hl 0 rfl) ?_
    refine z_getR (C := RX9) (T := TX9) (N := 9) (ci := 9) (k := 1) (o := 0) (t := 15) E hK hP iwX9 rfl rfl (by decide) (by decide) rfl rfl rfl tw299 dX9_on_19 ?_
    obtain ⟨S2, hz3, hf⟩ := z_bv_some hf
    refine z_cvo (z_runV (o := 1) (ci := 6) E hK hP hS (c_X6_copyFrom hq rfl (by decide) rfl (by decide) hz3) cv_X6_copyFrom tw897 rfl (by decide) rfl rfl ⟨Nat.le_of_ble_eq_true rfl, Nat.le_of_ble_eq_true rfl⟩ ⟨Nat.le_refl 0, Nat.le_refl 0⟩ hl.1 (Nat.le_of_ble_eq_true rfl) rfl dX9_on_22) hS (fun H locs hP hS => ?_)
    refine lv_aload_n hx hb dX9_on_25 rfl (lv_at hl 0 rfl) ?_
    refine z_getR (C := RX9) (T := TX9) (N := 9) (ci := 9) (k := 0) (o := 0) (t := 1) E hK hP iwX9 rfl rfl (by decide) (by decide) rfl rfl rfl tw298 dX9_on_26 ?_
    refine z_getR (C := RX6) (T := TX6) (N := 6) (ci := 6) (k := 0) (o := 1) (t := 2) E hK hP iwX6 rfl rfl (by decide) (by decide) rfl rfl rfl tw124 dX9_on_29 ?_
    refine x_getI (C := RX5) (T := TX5) (N := 8) (ci := 5) (k := 6) (o := 2) E hK hP iwX5 rfl rfl (by decide) (by decide) rfl rfl (by decide) tw46 dX9_on_32 ?_
    exact x_reti hx hb hr hlk hf hP hS dX9_on_35
  · replace hf := z_ifp hf hc1
    refine lv_aload_n hx hb dX9_on_7 rfl (lv_at hl 0 rfl) ?_
    refine lv_bipush (v := (-3)) hx hb dX9_on_8 (by decide) ?_
    obtain ⟨r5, S4, hz6, hf⟩ := z_bd_some hf
    refine z_ci (z_runV (o := 0) (ci := 9) E hK hP hS (c_X9_refuse hq hz6) cv_X9_refuse tw330 rfl (by decide) rfl rfl ⟨Nat.le_of_ble_eq_true rfl, Nat.le_of_ble_eq_true rfl⟩ ⟨Nat.le_refl 0, Nat.le_refl 0⟩ hl.1 (Nat.le_of_ble_eq_true rfl) rfl dX9_on_10) hS (fun H locs hP hS => ?_)
    exact x_reti hx hb hr hlk hf hP hS dX9_on_13
theorem cv_X9_on : z_cv yX9_on cX9_on 1 (some .int) RX9 0 := ⟨⟨tw907, tw908⟩, tw909, tw1, by decide +kernel⟩
def f_X9_count (N : Nat) (a1 : Int32) (S : St) : Option (Int32 × St) := if a1 = 0 then (some ((S 2 6), S)) else (if a1 = 1 then (some ((S 2 7), S)) else (if a1 = 2 then (if (S 1 4) = 0 then (some (0, S)) else (some (1, S))) else (if a1 = 3 then (z_bd (f_X0_allHits N (10) S) fun r7 S6 => some (r7, S6)) else (if a1 = 4 then (z_bd (f_X0_allMisses N (10) S) fun r11 S10 => some (r11, S10)) else (if a1 = 5 then (some ((S 1 5), S)) else (if a1 = 6 then (some ((S 0 7), S)) else (if a1 = 7 then (some ((S 56 7), S)) else (if a1 ≤ 10 then (some ((-9), S)) else (if a1 ≤ 16 then (z_bd (f_X9_at N (63) ((a1 - 10)) S) fun r19 S18 => some (r19, S18)) else (some ((-9), S)))))))))))
set_option maxHeartbeats 4000000 in
set_option maxRecDepth 100000 in
theorem c_X9_count {l : Launch} {G : Cx} {M S S' : St} {N : Nat} {a1 : Int32} {r : Int32} (hq : z_inj (gq G)) (hf : f_X9_count N a1 S = some (r, S')) : z_Ct l yX9_count cX9_count 2 (some .int) 2 45 G S M [.ref (gq G (0)), .int (a1)] (z_QI G S' M r) := by
  refine z_start (by decide +kernel) (Nat.le_of_ble_eq_true rfl) ?_
  intro p e s m below meth c ls E hr hlk hK hP hS hl
  have E : CallFix p m c cX9_count 2 s _ lw_good RX9 := E
  have hx := E.1
  have hb := E.2.1
  have hown := E.2.2.2.1
  have hts := E.2.2.2.2
  have hl : lv_has ls 2 [(0, .ref (gq G (0))), (1, .int (a1))] := hl
  unfold f_X9_count at hf
  refine lv_iload_n hx hb dX9_count_0 rfl (lv_at hl 1 rfl) ?_
  by_cases hc1 : a1 = 0
  · replace hf := z_ifp hf hc1
    refine lv_tableIn (off := 47) (tgt := 48) hx hb dX9_count_1 (by rw [hc1]; decide) (by rw [hc1]; decide) (by rw [hc1]; decide) (by decide) ?_
    refine lv_aload_n hx hb dX9_count_48 rfl (lv_at hl 0 rfl) ?_
    refine z_getR (C := RX9) (T := TX9) (N := 9) (ci := 9) (k := 0) (o := 0) (t := 1) E hK hP iwX9 rfl rfl (by decide) (by decide) rfl rfl rfl tw298 dX9_count_49 ?_
    refine z_getR (C := RX6) (T := TX6) (N := 6) (ci := 6) (k := 0) (o := 1) (t := 2) E hK hP iwX6 rfl rfl (by decide) (by decide) rfl rfl rfl tw124 dX9_count_52 ?_
    refine x_getI (C := RX5) (T := TX5) (N := 8) (ci := 5) (k := 6) (o := 2) E hK hP iwX5 rfl rfl (by decide) (by decide) rfl rfl (by decide) tw46 dX9_count_55 ?_
    exact x_reti hx hb hr hlk hf hP hS dX9_count_58
  · replace hf := z_ifn hf hc1
    by_cases hc2 : a1 = 1
    · replace hf := z_ifp hf hc2
      refine lv_tableIn (off := 58) (tgt := 59) hx hb dX9_count_1 (by rw [hc2]; decide) (by rw [hc2]; decide) (by rw [hc2]; decide) (by decide) ?_
      refine lv_aload_n hx hb dX9_count_59 rfl (lv_at hl 0 rfl) ?_
      refine z_getR (C := RX9) (T := TX9) (N := 9) (ci := 9) (k := 0) (o := 0) (t := 1) E hK hP iwX9 rfl rfl (by decide) (by decide) rfl rfl rfl tw298 dX9_count_60 ?_
      refine z_getR (C := RX6) (T := TX6) (N := 6) (ci := 6) (k := 0) (o := 1) (t := 2) E hK hP iwX6 rfl rfl (by decide) (by decide) rfl rfl rfl tw124 dX9_count_63 ?_
      refine x_getI (C := RX5) (T := TX5) (N := 8) (ci := 5) (k := 7) (o := 2) E hK hP iwX5 rfl rfl (by decide) (by decide) rfl rfl (by decide) tw48 dX9_count_66 ?_
      exact x_reti hx hb hr hlk hf hP hS dX9_count_69
    · replace hf := z_ifn hf hc2
      by_cases hc3 : a1 = 2
      · replace hf := z_ifp hf hc3
        refine lv_tableIn (off := 69) (tgt := 70) hx hb dX9_count_1 (by rw [hc3]; decide) (by rw [hc3]; decide) (by rw [hc3]; decide) (by decide) ?_
        refine lv_aload_n hx hb dX9_count_70 rfl (lv_at hl 0 rfl) ?_
        refine z_getR (C := RX9) (T := TX9) (N := 9) (ci := 9) (k := 0) (o := 0) (t := 1) E hK hP iwX9 rfl rfl (by decide) (by decide) rfl rfl rfl tw298 dX9_count_71 ?_
        refine x_getI (C := RX6) (T := TX6) (N := 6) (ci := 6) (k := 4) (o := 1) E hK hP iwX6 rfl rfl (by decide) (by decide) rfl rfl (by decide) tw134 dX9_count_74 ?_
        refine lv_if_eq (tgt := 84) hx hb dX9_count_77 (by decide) (fun hc4 => ?_) (fun hc4 => ?_)
        · replace hf := z_ifp hf hc4
          refine lv_iconst (v := 0) hx hb dX9_count_84 (by decide) ?_
          exact x_reti hx hb hr hlk hf hP hS dX9_count_85
        · replace hf := z_ifn hf hc4
          refine lv_iconst (v := 1) hx hb dX9_count_80 (by decide) ?_
          refine lv_goto (tgt := 85) hx hb dX9_count_81 (by decide) ?_
          exact x_reti hx hb hr hlk hf hP hS dX9_count_85
      · replace hf := z_ifn hf hc3
        by_cases hc5 : a1 = 3
        · replace hf := z_ifp hf hc5
          refine lv_tableIn (off := 85) (tgt := 86) hx hb dX9_count_1 (by rw [hc5]; decide) (by rw [hc5]; decide) (by rw [hc5]; decide) (by decide) ?_
          refine lv_aload_n hx hb dX9_count_86 rfl (lv_at hl 0 rfl) ?_
          refine z_getR (C := RX9) (T := TX9) (N := 9) (ci := 9) (k := 0) (o := 0) (t := 1) E hK hP iwX9 rfl rfl (by decide) (by decide) rfl rfl rfl tw298 dX9_count_87 ?_
          refine z_getR (C := RX6) (T := TX6) (N := 6) (ci := 6) (k := 2) (o := 1) (t := 10) E hK hP iwX6 rfl rfl (by decide) (by decide) rfl rfl rfl tw130 dX9_count_90 ?_
          obtain ⟨r7, S6, hz8, hf⟩ := z_bd_some hf
          refine z_ci (z_runV (o := 10) (ci := 0) E hK hP hS (c_X0_allHits hq rfl (by decide) hz8) cv_X0_allHits tw914 rfl (by decide) rfl rfl ⟨Nat.le_of_ble_eq_true rfl, Nat.le_of_ble_eq_true rfl⟩ ⟨Nat.le_refl 0, Nat.le_refl 0⟩ hl.1 (Nat.le_of_ble_eq_true rfl) rfl dX9_count_93) hS (fun H locs hP hS => ?_)
          exact x_reti hx hb hr hlk hf hP hS dX9_count_96
        · replace hf := z_ifn hf hc5
          by_cases hc9 : a1 = 4
          · replace hf := z_ifp hf hc9
            refine lv_tableIn (off := 96) (tgt := 97) hx hb dX9_count_1 (by rw [hc9]; decide) (by rw [hc9]; decide) (by rw [hc9]; decide) (by decide) ?_
            refine lv_aload_n hx hb dX9_count_97 rfl (lv_at hl 0 rfl) ?_
            refine z_getR (C := RX9) (T := TX9) (N := 9) (ci := 9) (k := 0) (o := 0) (t := 1) E hK hP iwX9 rfl rfl (by decide) (by decide) rfl rfl rfl tw298 dX9_count_98 ?_
            refine z_getR (C := RX6) (T := TX6) (N := 6) (ci := 6) (k := 2) (o := 1) (t := 10) E hK hP iwX6 rfl rfl (by decide) (by decide) rfl rfl rfl tw130 dX9_count_101 ?_
            obtain ⟨r11, S10, hz12, hf⟩ := z_bd_some hf
            refine z_ci (z_runV (o := 10) (ci := 0) E hK hP hS (c_X0_allMisses hq rfl (by decide) hz12) cv_X0_allMisses tw921 rfl (by decide) rfl rfl ⟨Nat.le_of_ble_eq_true rfl, Nat.le_of_ble_eq_true rfl⟩ ⟨Nat.le_refl 0, Nat.le_refl 0⟩ hl.1 (Nat.le_of_ble_eq_true rfl) rfl dX9_count_104) hS (fun H locs hP hS => ?_)
            exact x_reti hx hb hr hlk hf hP hS dX9_count_107
          · replace hf := z_ifn hf hc9
            by_cases hc13 : a1 = 5
            · replace hf := z_ifp hf hc13
              refine lv_tableIn (off := 107) (tgt := 108) hx hb dX9_count_1 (by rw [hc13]; decide) (by rw [hc13]; decide) (by rw [hc13]; decide) (by decide) ?_
              refine lv_aload_n hx hb dX9_count_108 rfl (lv_at hl 0 rfl) ?_
              refine z_getR (C := RX9) (T := TX9) (N := 9) (ci := 9) (k := 0) (o := 0) (t := 1) E hK hP iwX9 rfl rfl (by decide) (by decide) rfl rfl rfl tw298 dX9_count_109 ?_
              refine x_getI (C := RX6) (T := TX6) (N := 6) (ci := 6) (k := 5) (o := 1) E hK hP iwX6 rfl rfl (by decide) (by decide) rfl rfl (by decide) tw136 dX9_count_112 ?_
              exact x_reti hx hb hr hlk hf hP hS dX9_count_115
            · replace hf := z_ifn hf hc13
              by_cases hc14 : a1 = 6
              · replace hf := z_ifp hf hc14
                refine lv_tableIn (off := 115) (tgt := 116) hx hb dX9_count_1 (by rw [hc14]; decide) (by rw [hc14]; decide) (by rw [hc14]; decide) (by decide) ?_
                refine lv_aload_n hx hb dX9_count_116 rfl (lv_at hl 0 rfl) ?_
                refine x_getI (C := RX9) (T := TX9) (N := 9) (ci := 9) (k := 7) (o := 0) E hK hP iwX9 rfl rfl (by decide) (by decide) rfl rfl (by decide) tw305 dX9_count_117 ?_
                exact x_reti hx hb hr hlk hf hP hS dX9_count_120
              · replace hf := z_ifn hf hc14
                by_cases hc15 : a1 = 7
                · replace hf := z_ifp hf hc15
                  refine lv_tableIn (off := 120) (tgt := 121) hx hb dX9_count_1 (by rw [hc15]; decide) (by rw [hc15]; decide) (by rw [hc15]; decide) (by decide) ?_
                  refine lv_aload_n hx hb dX9_count_121 rfl (lv_at hl 0 rfl) ?_
                  refine z_getR (C := RX9) (T := TX9) (N := 9) (ci := 9) (k := 3) (o := 0) (t := 56) E hK hP iwX9 rfl rfl (by decide) (by decide) rfl rfl rfl tw301 dX9_count_122 ?_
                  refine x_getI (C := RX3) (T := TX3) (N := 8) (ci := 3) (k := 7) (o := 56) E hK hP iwX3 rfl rfl (by decide) (by decide) rfl rfl (by decide) tw280 dX9_count_125 ?_
                  exact x_reti hx hb hr hlk hf hP hS dX9_count_128
                · replace hf := z_ifn hf hc15
                  refine lv_tableOut (tgt := 129) hx hb dX9_count_1 (by have := lv_neT (a := 0) hc1 (by decide); have := lv_neT (a := 1) hc2 (by decide); have := lv_neT (a := 2) hc3 (by decide); have := lv_neT (a := 3) hc5 (by decide); have := lv_neT (a := 4) hc9 (by decide); have := lv_neT (a := 5) hc13 (by decide); have := lv_neT (a := 6) hc14 (by decide); have := lv_neT (a := 7) hc15 (by decide); omega) (by decide) ?_
                  refine lv_iload_n hx hb dX9_count_129 rfl (lv_at hl 1 rfl) ?_
                  refine lv_bipush (v := 10) hx hb dX9_count_130 (by decide) ?_
                  refine lv_icmp_le (tgt := 141) hx hb dX9_count_132 (by decide) (fun hc16 => ?_) (fun hc16 => ?_)
                  · replace hf := z_ifp hf hc16
                    refine lv_bipush (v := (-9)) hx hb dX9_count_141 (by decide) ?_
                    exact x_reti hx hb hr hlk hf hP hS dX9_count_143
                  · replace hf := z_ifn hf hc16
                    refine lv_iload_n hx hb dX9_count_135 rfl (lv_at hl 1 rfl) ?_
                    refine lv_bipush (v := 16) hx hb dX9_count_136 (by decide) ?_
                    refine lv_icmp_le (tgt := 144) hx hb dX9_count_138 (by decide) (fun hc17 => ?_) (fun hc17 => ?_)
                    · replace hf := z_ifp hf hc17
                      refine lv_aload_n hx hb dX9_count_144 rfl (lv_at hl 0 rfl) ?_
                      refine z_getR (C := RX9) (T := TX9) (N := 9) (ci := 9) (k := 5) (o := 0) (t := 63) E hK hP iwX9 rfl rfl (by decide) (by decide) rfl rfl rfl tw303 dX9_count_145 ?_
                      refine lv_iload_n hx hb dX9_count_148 rfl (lv_at hl 1 rfl) ?_
                      refine lv_bipush (v := 10) hx hb dX9_count_149 (by decide) ?_
                      refine lv_isub hx hb dX9_count_151 ?_
                      obtain ⟨r19, S18, hz20, hf⟩ := z_bd_some hf
                      refine z_ci (z_runS E hK hP hS (c_X9_at hq rfl (by decide) hz20) cs_X9_at tw334 rfl ⟨Nat.le_of_ble_eq_true rfl, Nat.le_of_ble_eq_true rfl⟩ ⟨Nat.le_refl 0, Nat.le_refl 0⟩ hl.1 (Nat.le_of_ble_eq_true rfl) rfl dX9_count_152) hS (fun H locs hP hS => ?_)
                      exact x_reti hx hb hr hlk hf hP hS dX9_count_155
                    · replace hf := z_ifn hf hc17
                      refine lv_bipush (v := (-9)) hx hb dX9_count_141 (by decide) ?_
                      exact x_reti hx hb hr hlk hf hP hS dX9_count_143
theorem cv_X9_count : z_cv yX9_count cX9_count 2 (some .int) RX9 1 := ⟨⟨tw911, tw912⟩, tw913, tw1, by decide +kernel⟩
