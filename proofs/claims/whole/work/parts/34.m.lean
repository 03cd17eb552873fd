def b_X10_with_41 (N : Nat) (v1 : Int32) (v2 : Int32) (v3 : Int32) (v4 : Int32) (S : St) : Option (Int32 × St) := if v4 = 0 then (z_bv (f_X10_goesWith N (v1) (v2) S) fun S14 => z_bd (f_X10_endedNow N (v3) S14) fun r17 S16 => some (r17, S16)) else (z_bd (f_X10_lower N (v4) S) fun r20 S19 => some (r20, S19))
def b_X10_with_21 (N : Nat) (v1 : Int32) (v2 : Int32) (v3 : Int32) (t0 : Int32) (S : St) : Option (Int32 × St) := if t0 = 0 then (z_bd (f_X10_isIn N (v3) (0) (5) S) fun r10 S9 => if r10 = 0 then (b_X10_with_41 N (v1) (v2) (v3) ((-2)) S9) else (b_X10_with_41 N (v1) (v2) (v3) (t0) S9)) else (b_X10_with_41 N (v1) (v2) (v3) (t0) S)
def f_X10_with (N : Nat) (a1 : Int32) (a2 : Int32) (a3 : Int32) (S : St) : Option (Int32 × St) := z_bd (f_X10_isVariable N (a1) S) fun r2 S1 => if r2 = 0 then (b_X10_with_21 N (a1) (a2) (a3) ((-1)) S1) else (z_bd (f_X10_bound N (a2) ((-9999)) (9999) S1) fun r6 S5 => b_X10_with_21 N (a1) (a2) (a3) (r6) S5)
set_option maxHeartbeats 4000000 in
set_option maxRecDepth 100000 in
theorem c_X10_with {l : Launch} {G : Cx} {X S S' : St} {N : Nat} {a1 : Int32} {a2 : Int32} {a3 : Int32} {r : Int32} (hq : z_inj (gq G)) (hf : f_X10_with N a1 a2 a3 S = some (r, S')) : z_Ct l yX10_with cX10_with 5 (some .int) 7 156 G X S [.ref (gq G (65)), .int (a1), .int (a2), .int (a3)] (z_QI G X S' r) := by
  refine z_start (by decide +kernel) (Nat.le_of_ble_eq_true rfl) ?_
  intro p e s m below meth c ls E hr hlk hK hP hS hl
  have E : CallFix p m c cX10_with 5 s _ lw_good RX10 := E
  have hx := E.1
  have hb := E.2.1
  have hown := E.2.2.2.1
  have hts := E.2.2.2.2
  have hJ41 : ∀ (v1 : Int32) (v2 : Int32) (v3 : Int32) (v4 : Int32) (S : St) (H : Heap) (locs : List Loc) (ls : Array Slot), b_X10_with_41 N v1 v2 v3 v4 S = some (r, S') → z_P G X S H → z_S G s.heap H locs → lv_has ls 5 [(0, .ref (gq G (65))), (1, .int (v1)), (2, .int (v2)), (3, .int (v3)), (4, .int (v4))] → W p l e (z_rm 7 156) s m ([.ref (gq G (65)), .int (a1), .int (a2), .int (a3)] : List Value).toArray below meth c H locs 0 0 (MQ below (z_QI G X S' r) ([.ref (gq G (65)), .int (a1), .int (a2), .int (a3)] : List Value).toArray s 0 0 (z_Aq (gq G))) (F0 m 41 ls []) := by
    intro v1 v2 v3 v4 S H locs ls hf hP hS hl
    unfold b_X10_with_41 at hf
    refine lv_iload hx hb dX10_with_41 (lv_at hl 4 rfl) ?_
    refine lv_if_eq (tgt := 53) hx hb dX10_with_43 (by decide) (fun hc13 => ?_) (fun hc13 => ?_)
    · replace hf := z_ifp hf hc13
      refine lv_aload_n hx hb dX10_with_53 rfl (lv_at hl 0 rfl) ?_
      refine lv_iload_n hx hb dX10_with_54 rfl (lv_at hl 1 rfl) ?_
      refine lv_iload_n hx hb dX10_with_55 rfl (lv_at hl 2 rfl) ?_
      obtain ⟨S14, hz15, hf⟩ := z_bv_some hf
      refine z_cvo (z_runV (o := 65) (ci := 10) E hK hP hS (c_X10_goesWith hq hz15) cv_X10_goesWith tw1363 rfl (by decide) rfl rfl ⟨Nat.le_of_ble_eq_true rfl, Nat.le_of_ble_eq_true rfl⟩ ⟨Nat.le_refl 0, Nat.le_refl 0⟩ hl.1 (Nat.le_of_ble_eq_true rfl) rfl dX10_with_56) hS (fun H locs hP hS => ?_)
      refine lv_aload_n hx hb dX10_with_59 rfl (lv_at hl 0 rfl) ?_
      refine lv_iload_n hx hb dX10_with_60 rfl (lv_at hl 3 rfl) ?_
      obtain ⟨r17, S16, hz18, hf⟩ := z_bd_some hf
      refine z_ci (z_runV (o := 65) (ci := 10) E hK hP hS (c_X10_endedNow hq hz18) cv_X10_endedNow tw1375 rfl (by decide) rfl rfl ⟨Nat.le_of_ble_eq_true rfl, Nat.le_of_ble_eq_true rfl⟩ ⟨Nat.le_refl 0, Nat.le_refl 0⟩ hl.1 (Nat.le_of_ble_eq_true rfl) rfl dX10_with_61) hS (fun H locs hP hS => ?_)
      exact m_reti hx hb hr hlk hf hP hS dX10_with_64
    · replace hf := z_ifn hf hc13
      refine lv_aload_n hx hb dX10_with_46 rfl (lv_at hl 0 rfl) ?_
      refine lv_iload hx hb dX10_with_47 (lv_at hl 4 rfl) ?_
      obtain ⟨r20, S19, hz21, hf⟩ := z_bd_some hf
      refine z_ci (z_runV (o := 65) (ci := 10) E hK hP hS (c_X10_lower hq hz21) cv_X10_lower tw1331 rfl (by decide) rfl rfl ⟨Nat.le_of_ble_eq_true rfl, Nat.le_of_ble_eq_true rfl⟩ ⟨Nat.le_refl 0, Nat.le_refl 0⟩ hl.1 (Nat.le_of_ble_eq_true rfl) rfl dX10_with_49) hS (fun H locs hP hS => ?_)
      exact m_reti hx hb hr hlk hf hP hS dX10_with_52
  have hJ21 : ∀ (v1 : Int32) (v2 : Int32) (v3 : Int32) (t0 : Int32) (S : St) (H : Heap) (locs : List Loc) (ls : Array Slot), b_X10_with_21 N v1 v2 v3 t0 S = some (r, S') → z_P G X S H → z_S G s.heap H locs → lv_has ls 5 [(0, .ref (gq G (65))), (1, .int (v1)), (2, .int (v2)), (3, .int (v3))] → W p l e (z_rm 7 156) s m ([.ref (gq G (65)), .int (a1), .int (a2), .int (a3)] : List Value).toArray below meth c H locs 0 0 (MQ below (z_QI G X S' r) ([.ref (gq G (65)), .int (a1), .int (a2), .int (a3)] : List Value).toArray s 0 0 (z_Aq (gq G))) (F0 m 21 ls [.int (t0)]) := by
    intro v1 v2 v3 t0 S H locs ls hf hP hS hl
    unfold b_X10_with_21 at hf
    refine lv_istore (lv' := [(4, .int (t0)), (0, .ref (gq G (65))), (1, .int (v1)), (2, .int (v2)), (3, .int (v3))]) hx hb dX10_with_21 hl (by decide) rfl (fun ls hl => ?_)
    refine lv_iload hx hb dX10_with_23 (lv_at hl 0 rfl) ?_
    refine lv_if_ne (tgt := 41) hx hb dX10_with_25 (by decide) (fun hc8 => ?_) (fun hc8 => ?_)
    · replace hf := z_ifn hf hc8
      exact hJ41 (v1) (v2) (v3) (t0) S _ _ _ hf hP hS (lv_sub hl [1, 2, 3, 4, 0] rfl)
    · replace hf := z_ifp hf hc8
      refine lv_iload_n hx hb dX10_with_28 rfl (lv_at hl 4 rfl) ?_
      refine lv_iconst (v := 0) hx hb dX10_with_29 (by decide) ?_
      refine lv_iconst (v := 5) hx hb dX10_with_30 (by decide) ?_
      obtain ⟨r10, S9, hz11, hf⟩ := z_bd_some hf
      refine z_ci (z_runS E hK hP hS (c_X10_isIn hq hz11) cs_X10_isIn tw943 rfl ⟨Nat.le_of_ble_eq_true rfl, Nat.le_of_ble_eq_true rfl⟩ ⟨Nat.le_refl 0, Nat.le_refl 0⟩ hl.1 (Nat.le_of_ble_eq_true rfl) rfl dX10_with_31) hS (fun H locs hP hS => ?_)
      refine lv_if_ne (tgt := 41) hx hb dX10_with_34 (by decide) (fun hc12 => ?_) (fun hc12 => ?_)
      · replace hf := z_ifn hf hc12
        exact hJ41 (v1) (v2) (v3) (t0) S9 _ _ _ hf hP hS (lv_sub hl [1, 2, 3, 4, 0] rfl)
      · replace hf := z_ifp hf hc12
        refine lv_bipush (v := (-2)) hx hb dX10_with_37 (by decide) ?_
        refine lv_istore (lv' := [(4, .int ((-2))), (0, .ref (gq G (65))), (1, .int (v1)), (2, .int (v2)), (3, .int (v3))]) hx hb dX10_with_39 hl (by decide) rfl (fun ls hl => ?_)
        exact hJ41 (v1) (v2) (v3) ((-2)) S9 _ _ _ hf hP hS (lv_sub hl [1, 2, 3, 4, 0] rfl)
  have hl : lv_has ls 5 [(0, .ref (gq G (65))), (1, .int (a1)), (2, .int (a2)), (3, .int (a3))] := hl
  unfold f_X10_with at hf
  refine lv_iload_n hx hb dX10_with_0 rfl (lv_at hl 1 rfl) ?_
  obtain ⟨r2, S1, hz3, hf⟩ := z_bd_some hf
  refine z_ci (z_runS E hK hP hS (c_X10_isVariable hq hz3) cs_X10_isVariable tw1344 rfl ⟨Nat.le_of_ble_eq_true rfl, Nat.le_of_ble_eq_true rfl⟩ ⟨Nat.le_refl 0, Nat.le_refl 0⟩ hl.1 (Nat.le_of_ble_eq_true rfl) rfl dX10_with_1) hS (fun H locs hP hS => ?_)
  refine lv_if_ne (tgt := 11) hx hb dX10_with_4 (by decide) (fun hc4 => ?_) (fun hc4 => ?_)
  · replace hf := z_ifn hf hc4
    refine lv_iload_n hx hb dX10_with_11 rfl (lv_at hl 2 rfl) ?_
    refine lv_sipush (v := (-9999)) hx hb dX10_with_12 (by decide) ?_
    refine lv_sipush (v := 9999) hx hb dX10_with_15 (by decide) ?_
    obtain ⟨r6, S5, hz7, hf⟩ := z_bd_some hf
    refine z_ci (z_runS E hK hP hS (c_X10_bound hq hz7) cs_X10_bound tw1182 rfl ⟨Nat.le_of_ble_eq_true rfl, Nat.le_of_ble_eq_true rfl⟩ ⟨Nat.le_refl 0, Nat.le_refl 0⟩ hl.1 (Nat.le_of_ble_eq_true rfl) rfl dX10_with_18) hS (fun H locs hP hS => ?_)
    exact hJ21 (a1) (a2) (a3) (r6) S5 _ _ _ hf hP hS (lv_sub hl [0, 1, 2, 3] rfl)
  · replace hf := z_ifp hf hc4
    refine lv_iconst (v := (-1)) hx hb dX10_with_7 (by decide) ?_
    refine lv_goto (tgt := 21) hx hb dX10_with_8 (by decide) ?_
    exact hJ21 (a1) (a2) (a3) ((-1)) S1 _ _ _ hf hP hS (lv_sub hl [0, 1, 2, 3] rfl)
theorem cv_X10_with : z_cv yX10_with cX10_with 5 (some .int) RX10 3 := ⟨⟨tw1380, tw1381⟩, tw1382, tw11, by decide +kernel⟩
def b_X10_solve_68 (N : Nat) (k36 : Int32 → Int32 → Int32 → St → Option (Int32 × St)) (v1 : Int32) (v2 : Int32) (v4 : Int32) (S : St) : Option (Int32 × St) := k36 (v1) (v2) ((v4 + 1)) S
def b_X10_solve_36 (N : Nat) (k36 : Int32 → Int32 → Int32 → St → Option (Int32 × St)) (v1 : Int32) (v2 : Int32) (v4 : Int32) (S : St) : Option (Int32 × St) := if 20 < v4 then (some (999999999, S)) else (z_bv (f_X10_goesWith N (v1) (v4) S) fun S13 => z_bd (f_X10_howNow N S13) fun r16 S15 => if r16 = 0 then (z_bd (f_X10_numberNow N S15) fun r20 S19 => if r20 = v2 then (some (v4, S19)) else (b_X10_solve_68 N k36 (v1) (v2) (v4) S19)) else (b_X10_solve_68 N k36 (v1) (v2) (v4) S15))
def f_X10_solve_36 (N : Nat) : Nat → Int32 → Int32 → Int32 → St → Option (Int32 × St)
  | 0 => fun _ _ _ _ => none
  | n + 1 => b_X10_solve_36 N (f_X10_solve_36 N n)
def b_X10_solve_21 (N : Nat) (v1 : Int32) (v2 : Int32) (t0 : Int32) (S : St) : Option (Int32 × St) := if t0 = 0 then (f_X10_solve_36 N N (v1) (v2) ((-20)) S) else (z_bd (f_X10_lower N (t0) S) fun r10 S9 => some (r10, S9))
def f_X10_solve (N : Nat) (a1 : Int32) (a2 : Int32) (S : St) : Option (Int32 × St) := z_bd (f_X10_isVariable N (a1) S) fun r2 S1 => if r2 = 0 then (b_X10_solve_21 N (a1) (a2) ((-1)) S1) else (z_bd (f_X10_bound N (a2) ((-9999)) (9999) S1) fun r6 S5 => b_X10_solve_21 N (a1) (a2) (r6) S5)
set_option maxHeartbeats 4000000 in
set_option maxRecDepth 100000 in
theorem c_X10_solve {l : Launch} {G : Cx} {X S S' : St} {N : Nat} {a1 : Int32} {a2 : Int32} {r : Int32} (hq : z_inj (gq G)) (hf : f_X10_solve N a1 a2 S = some (r, S')) : z_Ct l yX10_solve cX10_solve 5 (some .int) 7 156 G X S [.ref (gq G (65)), .int (a1), .int (a2)] (z_QI G X S' r) := by
  refine z_start (by decide +kernel) (Nat.le_of_ble_eq_true rfl) ?_
  intro p e s m below meth c ls E hr hlk hK hP hS hl
  have E : CallFix p m c cX10_solve 5 s _ lw_good RX10 := E
  have hx := E.1
  have hb := E.2.1
  have hown := E.2.2.2.1
  have hts := E.2.2.2.2
  have hJ68 : ∀ (k36 : Int32 → Int32 → Int32 → St → Option (Int32 × St)) (hk36 : ∀ (v1 : Int32) (v2 : Int32) (v4 : Int32) (S : St) (H : Heap) (locs : List Loc) (ls : Array Slot), k36 v1 v2 v4 S = some (r, S') → z_P G X S H → z_S G s.heap H locs → lv_has ls 5 [(0, .ref (gq G (65))), (1, .int (v1)), (2, .int (v2)), (4, .int (v4))] → W p l e (z_rm 7 156) s m ([.ref (gq G (65)), .int (a1), .int (a2)] : List Value).toArray below meth c H locs 0 0 (MQ below (z_QI G X S' r) ([.ref (gq G (65)), .int (a1), .int (a2)] : List Value).toArray s 0 0 (z_Aq (gq G))) (F0 m 36 ls [])), ∀ (v1 : Int32) (v2 : Int32) (v4 : Int32) (S : St) (H : Heap) (locs : List Loc) (ls : Array Slot), b_X10_solve_68 N k36 v1 v2 v4 S = some (r, S') → z_P G X S H → z_S G s.heap H locs → lv_has ls 5 [(0, .ref (gq G (65))), (1, .int (v1)), (2, .int (v2)), (4, .int (v4))] → W p l e (z_rm 7 156) s m ([.ref (gq G (65)), .int (a1), .int (a2)] : List Value).toArray below meth c H locs 0 0 (MQ below (z_QI G X S' r) ([.ref (gq G (65)), .int (a1), .int (a2)] : List Value).toArray s 0 0 (z_Aq (gq G))) (F0 m 68 ls []) := by
    intro k36 hk36 v1 v2 v4 S H locs ls hf hP hS hl
    unfold b_X10_solve_68 at hf
    refine lv_iinc (v := (v4 + 1)) (lv' := [(4, .int ((v4 + 1))), (0, .ref (gq G (65))), (1, .int (v1)), (2, .int (v2))]) hx hb dX10_solve_68 hl (k := 3) rfl rfl (by decide) rfl (fun ls hl => ?_)
    refine lv_goto (tgt := 36) hx hb dX10_solve_71 (by decide) ?_
    exact hk36 (v1) (v2) ((v4 + 1)) S _ _ _ hf hP hS (lv_sub hl [1, 2, 3, 0] rfl)
  have hB36 : ∀ (k36 : Int32 → Int32 → Int32 → St → Option (Int32 × St)) (hk36 : ∀ (v1 : Int32) (v2 : Int32) (v4 : Int32) (S : St) (H : Heap) (locs : List Loc) (ls : Array Slot), k36 v1 v2 v4 S = some (r, S') → z_P G X S H → z_S G s.heap H locs → lv_has ls 5 [(0, .ref (gq G (65))), (1, .int (v1)), (2, .int (v2)), (4, .int (v4))] → W p l e (z_rm 7 156) s m ([.ref (gq G (65)), .int (a1), .int (a2)] : List Value).toArray below meth c H locs 0 0 (MQ below (z_QI G X S' r) ([.ref (gq G (65)), .int (a1), .int (a2)] : List Value).toArray s 0 0 (z_Aq (gq G))) (F0 m 36 ls [])), ∀ (v1 : Int32) (v2 : Int32) (v4 : Int32) (S : St) (H : Heap) (locs : List Loc) (ls : Array Slot), b_X10_solve_36 N k36 v1 v2 v4 S = some (r, S') → z_P G X S H → z_S G s.heap H locs → lv_has ls 5 [(0, .ref (gq G (65))), (1, .int (v1)), (2, .int (v2)), (4, .int (v4))] → W p l e (z_rm 7 156) s m ([.ref (gq G (65)), .int (a1), .int (a2)] : List Value).toArray below meth c H locs 0 0 (MQ below (z_QI G X S' r) ([.ref (gq G (65)), .int (a1), .int (a2)] : List Value).toArray s 0 0 (z_Aq (gq G))) (F0 m 36 ls []) := by
    intro k36 hk36 v1 v2 v4 S H locs ls hf hP hS hl
    unfold b_X10_solve_36 at hf
    refine lv_iload hx hb dX10_solve_36 (lv_at hl 3 rfl) ?_
    refine lv_bipush (v := 20) hx hb dX10_solve_38 (by decide) ?_
    refine lv_icmp_gt (tgt := 74) hx hb dX10_solve_40 (by decide) (fun hc12 => ?_) (fun hc12 => ?_)
    · replace hf := z_ifp hf hc12
      refine lv_ldcw (v := 999999999) hx hb hown (hts _ tw1387) dX10_solve_74 ?_
      exact m_reti hx hb hr hlk hf hP hS dX10_solve_77
    · replace hf := z_ifn hf hc12
      refine lv_aload_n hx hb dX10_solve_43 rfl (lv_at hl 0 rfl) ?_
      refine lv_iload_n hx hb dX10_solve_44 rfl (lv_at hl 1 rfl) ?_
      refine lv_iload hx hb dX10_solve_45 (lv_at hl 3 rfl) ?_
      obtain ⟨S13, hz14, hf⟩ := z_bv_some hf
      refine z_cvo (z_runV (o := 65) (ci := 10) E hK hP hS (c_X10_goesWith hq hz14) cv_X10_goesWith tw1363 rfl (by decide) rfl rfl ⟨Nat.le_of_ble_eq_true rfl, Nat.le_of_ble_eq_true rfl⟩ ⟨Nat.le_refl 0, Nat.le_refl 0⟩ hl.1 (Nat.le_of_ble_eq_true rfl) rfl dX10_solve_47) hS (fun H locs hP hS => ?_)
      refine lv_aload_n hx hb dX10_solve_50 rfl (lv_at hl 0 rfl) ?_
      obtain ⟨r16, S15, hz17, hf⟩ := z_bd_some hf
      refine z_ci (z_runV (o := 65) (ci := 10) E hK hP hS (c_X10_howNow hq hz17) cv_X10_howNow tw1315 rfl (by decide) rfl rfl ⟨Nat.le_of_ble_eq_true rfl, Nat.le_of_ble_eq_true rfl⟩ ⟨Nat.le_refl 0, Nat.le_refl 0⟩ hl.1 (Nat.le_of_ble_eq_true rfl) rfl dX10_solve_51) hS (fun H locs hP hS => ?_)
      refine lv_if_ne (tgt := 68) hx hb dX10_solve_54 (by decide) (fun hc18 => ?_) (fun hc18 => ?_)
      · replace hf := z_ifn hf hc18
        exact hJ68 k36 hk36 (v1) (v2) (v4) S15 _ _ _ hf hP hS (lv_sub hl [0, 1, 2, 3] rfl)
      · replace hf := z_ifp hf hc18
        refine lv_aload_n hx hb dX10_solve_57 rfl (lv_at hl 0 rfl) ?_
        obtain ⟨r20, S19, hz21, hf⟩ := z_bd_some hf
        refine z_ci (z_runV (o := 65) (ci := 10) E hK hP hS (c_X10_numberNow hq hz21) cv_X10_numberNow tw1319 rfl (by decide) rfl rfl ⟨Nat.le_of_ble_eq_true rfl, Nat.le_of_ble_eq_true rfl⟩ ⟨Nat.le_refl 0, Nat.le_refl 0⟩ hl.1 (Nat.le_of_ble_eq_true rfl) rfl dX10_solve_58) hS (fun H locs hP hS => ?_)
        refine lv_iload_n hx hb dX10_solve_61 rfl (lv_at hl 2 rfl) ?_
        refine lv_icmp_ne (tgt := 68) hx hb dX10_solve_62 (by decide) (fun hc22 => ?_) (fun hc22 => ?_)
        · replace hf := z_ifn hf hc22
          exact hJ68 k36 hk36 (v1) (v2) (v4) S19 _ _ _ hf hP hS (lv_sub hl [0, 1, 2, 3] rfl)
        · replace hf := z_ifp hf hc22
          refine lv_iload hx hb dX10_solve_65 (lv_at hl 3 rfl) ?_
          exact m_reti hx hb hr hlk hf hP hS dX10_solve_67
  have hL36 : ∀ (n : Nat), ∀ (v1 : Int32) (v2 : Int32) (v4 : Int32) (S : St) (H : Heap) (locs : List Loc) (ls : Array Slot), f_X10_solve_36 N n v1 v2 v4 S = some (r, S') → z_P G X S H → z_S G s.heap H locs → lv_has ls 5 [(0, .ref (gq G (65))), (1, .int (v1)), (2, .int (v2)), (4, .int (v4))] → W p l e (z_rm 7 156) s m ([.ref (gq G (65)), .int (a1), .int (a2)] : List Value).toArray below meth c H locs 0 0 (MQ below (z_QI G X S' r) ([.ref (gq G (65)), .int (a1), .int (a2)] : List Value).toArray s 0 0 (z_Aq (gq G))) (F0 m 36 ls []) := by
    intro  n
    induction n with
    | zero => intro _ _ _ _ _ _ _ hf; cases hf
    | succ n ih => exact hB36  _  ih
  have hJ21 : ∀ (v1 : Int32) (v2 : Int32) (t0 : Int32) (S : St) (H : Heap) (locs : List Loc) (ls : Array Slot), b_X10_solve_21 N v1 v2 t0 S = some (r, S') → z_P G X S H → z_S G s.heap H locs → lv_has ls 5 [(0, .ref (gq G (65))), (1, .int (v1)), (2, .int (v2))] → W p l e (z_rm 7 156) s m ([.ref (gq G (65)), .int (a1), .int (a2)] : List Value).toArray below meth c H locs 0 0 (MQ below (z_QI G X S' r) ([.ref (gq G (65)), .int (a1), .int (a2)] : List Value).toArray s 0 0 (z_Aq (gq G))) (F0 m 21 ls [.int (t0)]) := by
    intro v1 v2 t0 S H locs ls hf hP hS hl
    unfold b_X10_solve_21 at hf
    refine lv_istore_n (lv' := [(3, .int (t0)), (0, .ref (gq G (65))), (1, .int (v1)), (2, .int (v2))]) hx hb dX10_solve_21 rfl hl (by decide) rfl (fun ls hl => ?_)
    refine lv_iload_n hx hb dX10_solve_22 rfl (lv_at hl 0 rfl) ?_
    refine lv_if_eq (tgt := 32) hx hb dX10_solve_23 (by decide) (fun hc8 => ?_) (fun hc8 => ?_)
    · replace hf := z_ifp hf hc8
      refine lv_bipush (v := (-20)) hx hb dX10_solve_32 (by decide) ?_
      refine lv_istore (lv' := [(4, .int ((-20))), (3, .int (t0)), (0, .ref (gq G (65))), (1, .int (v1)), (2, .int (v2))]) hx hb dX10_solve_34 hl (by decide) rfl (fun ls hl => ?_)
      exact hL36 N (v1) (v2) ((-20)) S _ _ _ hf hP hS (lv_sub hl [2, 3, 4, 0] rfl)
    · replace hf := z_ifn hf hc8
      refine lv_aload_n hx hb dX10_solve_26 rfl (lv_at hl 1 rfl) ?_
      refine lv_iload_n hx hb dX10_solve_27 rfl (lv_at hl 0 rfl) ?_
      obtain ⟨r10, S9, hz11, hf⟩ := z_bd_some hf
      refine z_ci (z_runV (o := 65) (ci := 10) E hK hP hS (c_X10_lower hq hz11) cv_X10_lower tw1331 rfl (by decide) rfl rfl ⟨Nat.le_of_ble_eq_true rfl, Nat.le_of_ble_eq_true rfl⟩ ⟨Nat.le_refl 0, Nat.le_refl 0⟩ hl.1 (Nat.le_of_ble_eq_true rfl) rfl dX10_solve_28) hS (fun H locs hP hS => ?_)
      exact m_reti hx hb hr hlk hf hP hS dX10_solve_31
  have hl : lv_has ls 5 [(0, .ref (gq G (65))), (1, .int (a1)), (2, .int (a2))] := hl
  unfold f_X10_solve at hf
  refine lv_iload_n hx hb dX10_solve_0 rfl (lv_at hl 1 rfl) ?_
  obtain ⟨r2, S1, hz3, hf⟩ := z_bd_some hf
  refine z_ci (z_runS E hK hP hS (c_X10_isVariable hq hz3) cs_X10_isVariable tw1344 rfl ⟨Nat.le_of_ble_eq_true rfl, Nat.le_of_ble_eq_true rfl⟩ ⟨Nat.le_refl 0, Nat.le_refl 0⟩ hl.1 (Nat.le_of_ble_eq_true rfl) rfl dX10_solve_1) hS (fun H locs hP hS => ?_)
  refine lv_if_ne (tgt := 11) hx hb dX10_solve_4 (by decide) (fun hc4 => ?_) (fun hc4 => ?_)
  · replace hf := z_ifn hf hc4
    refine lv_iload_n hx hb dX10_solve_11 rfl (lv_at hl 2 rfl) ?_
    refine lv_sipush (v := (-9999)) hx hb dX10_solve_12 (by decide) ?_
    refine lv_sipush (v := 9999) hx hb dX10_solve_15 (by decide) ?_
    obtain ⟨r6, S5, hz7, hf⟩ := z_bd_some hf
    refine z_ci (z_runS E hK hP hS (c_X10_bound hq hz7) cs_X10_bound tw1182 rfl ⟨Nat.le_of_ble_eq_true rfl, Nat.le_of_ble_eq_true rfl⟩ ⟨Nat.le_refl 0, Nat.le_refl 0⟩ hl.1 (Nat.le_of_ble_eq_true rfl) rfl dX10_solve_18) hS (fun H locs hP hS => ?_)
    exact hJ21 (a1) (a2) (r6) S5 _ _ _ hf hP hS (lv_sub hl [0, 1, 2] rfl)
  · replace hf := z_ifp hf hc4
    refine lv_iconst (v := (-1)) hx hb dX10_solve_7 (by decide) ?_
    refine lv_goto (tgt := 21) hx hb dX10_solve_8 (by decide) ?_
    exact hJ21 (a1) (a2) ((-1)) S1 _ _ _ hf hP hS (lv_sub hl [0, 1, 2] rfl)
theorem cv_X10_solve : z_cv yX10_solve cX10_solve 5 (some .int) RX10 2 := ⟨⟨tw1384, tw1385⟩, tw1386, tw11, by decide +kernel⟩
def b_X10_fewest_95 (N : Nat) (k51 : Int32 → Int32 → Int32 → Int32 → Int32 → St → Option (Int32 × St)) (v1 : Int32) (v2 : Int32) (v4 : Int32) (v5 : Int32) (v6 : Int32) (S : St) : Option (Int32 × St) := k51 (v1) (v2) (v4) (v5) ((v6 + 1)) S
def b_X10_fewest_51 (N : Nat) (k51 : Int32 → Int32 → Int32 → Int32 → Int32 → St → Option (Int32 × St)) (v1 : Int32) (v2 : Int32) (v4 : Int32) (v5 : Int32) (v6 : Int32) (S : St) : Option (Int32 × St) := if 20 < v6 then (if v2 = 0 then (some (v4, S)) else (some (v5, S))) else (z_bv (f_X10_goesWith N (v1) (v6) S) fun S15 => z_bd (f_X10_howNow N S15) fun r18 S17 => if r18 = 3 then (b_X10_fewest_95 N k51 (v1) (v2) (v4) (v5) (v6) S17) else (if (S17 65 62) < v5 then (b_X10_fewest_95 N k51 (v1) (v2) (v6) ((S17 65 62)) (v6) S17) else (b_X10_fewest_95 N k51 (v1) (v2) (v4) (v5) (v6) S17)))
def f_X10_fewest_51 (N : Nat) : Nat → Int32 → Int32 → Int32 → Int32 → Int32 → St → Option (Int32 × St)
  | 0 => fun _ _ _ _ _ _ => none
  | n + 1 => b_X10_fewest_51 N (f_X10_fewest_51 N n)
def b_X10_fewest_26 (N : Nat) (v1 : Int32) (v2 : Int32) (t0 : Int32) (S : St) : Option (Int32 × St) := if t0 = 0 then (f_X10_fewest_51 N N (v1) (v2) (999999999) (999999999) ((-20)) S) else (z_bd (f_X10_lower N (t0) S) fun r11 S10 => some (r11, S10))
def f_X10_fewest (N : Nat) (a1 : Int32) (a2 : Int32) (S : St) : Option (Int32 × St) := z_bd (f_X10_isVariable N (a1) S) fun r2 S1 => if r2 = 0 then (b_X10_fewest_26 N (a1) (a2) ((-1)) S1) else (z_bd (f_X10_isIn N (a2) (0) (1) S1) fun r6 S5 => if r6 = 0 then (b_X10_fewest_26 N (a1) (a2) ((-2)) S5) else (b_X10_fewest_26 N (a1) (a2) (0) S5))
set_option maxHeartbeats 4000000 in
set_option maxRecDepth 100000 in
theorem c_X10_fewest {l : Launch} {G : Cx} {X S S' : St} {N : Nat} {a1 : Int32} {a2 : Int32} {r : Int32} (hq : z_inj (gq G)) (hf : f_X10_fewest N a1 a2 S = some (r, S')) : z_Ct l yX10_fewest cX10_fewest 7 (some .int) 7 156 G X S [.ref (gq G (65)), .int (a1), .int (a2)] (z_QI G X S' r) := by
  refine z_start (by decide +kernel) (Nat.le_of_ble_eq_true rfl) ?_
  intro p e s m below meth c ls E hr hlk hK hP hS hl
  have E : CallFix p m c cX10_fewest 7 s _ lw_good RX10 := E
  have hx := E.1
  have hb := E.2.1
  have hown := E.2.2.2.1
  have hts := E.2.2.2.2
  have hJ95 : ∀ (k51 : Int32 → Int32 → Int32 → Int32 → Int32 → St → Option (Int32 × St)) (hk51 : ∀ (v1 : Int32) (v2 : Int32) (v4 : Int32) (v5 : Int32) (v6 : Int32) (S : St) (H : Heap) (locs : List Loc) (ls : Array Slot), k51 v1 v2 v4 v5 v6 S = some (r, S') → z_P G X S H → z_S G s.heap H locs → lv_has ls 7 [(0, .ref (gq G (65))), (1, .int (v1)), (2, .int (v2)), (4, .int (v4)), (5, .int (v5)), (6, .int (v6))] → W p l e (z_rm 7 156) s m ([.ref (gq G (65)), .int (a1), .int (a2)] : List Value).toArray below meth c H locs 0 0 (MQ below (z_QI G X S' r) ([.ref (gq G (65)), .int (a1), .int (a2)] : List Value).toArray s 0 0 (z_Aq (gq G))) (F0 m 51 ls [])), ∀ (v1 : Int32) (v2 : Int32) (v4 : Int32) (v5 : Int32) (v6 : Int32) (S : St) (H : Heap) (locs : List Loc) (ls : Array Slot), b_X10_fewest_95 N k51 v1 v2 v4 v5 v6 S = some (r, S') → z_P G X S H → z_S G s.heap H locs → lv_has ls 7 [(0, .ref (gq G (65))), (1, .int (v1)), (2, .int (v2)), (4, .int (v4)), (5, .int (v5)), (6, .int (v6))] → W p l e (z_rm 7 156) s m ([.ref (gq G (65)), .int (a1), .int (a2)] : List Value).toArray below meth c H locs 0 0 (MQ below (z_QI G X S' r) ([.ref (gq G (65)), .int (a1), .int (a2)] : List Value).toArray s 0 0 (z_Aq (gq G))) (F0 m 95 ls []) := by
    intro k51 hk51 v1 v2 v4 v5 v6 S H locs ls hf hP hS hl
    unfold b_X10_fewest_95 at hf
    refine lv_iinc (v := (v6 + 1)) (lv' := [(6, .int ((v6 + 1))), (0, .ref (gq G (65))), (1, .int (v1)), (2, .int (v2)), (4, .int (v4)), (5, .int (v5))]) hx hb dX10_fewest_95 hl (k := 5) rfl rfl (by decide) rfl (fun ls hl => ?_)
    refine lv_goto (tgt := 51) hx hb dX10_fewest_98 (by decide) ?_
    exact hk51 (v1) (v2) (v4) (v5) ((v6 + 1)) S _ _ _ hf hP hS (lv_sub hl [1, 2, 3, 4, 5, 0] rfl)
  have hB51 : ∀ (k51 : Int32 → Int32 → Int32 → Int32 → Int32 → St → Option (Int32 × St)) (hk51 : ∀ (v1 : Int32) (v2 : Int32) (v4 : Int32) (v5 : Int32) (v6 : Int32) (S : St) (H : Heap) (locs : List Loc) (ls : Array Slot), k51 v1 v2 v4 v5 v6 S = some (r, S') → z_P G X S H → z_S G s.heap H locs → lv_has ls 7 [(0, .ref (gq G (65))), (1, .int (v1)), (2, .int (v2)), (4, .int (v4)), (5, .int (v5)), (6, .int (v6))] → W p l e (z_rm 7 156) s m ([.ref (gq G (65)), .int (a1), .int (a2)] : List Value).toArray below meth c H locs 0 0 (MQ below (z_QI G X S' r) ([.ref (gq G (65)), .int (a1), .int (a2)] : List Value).toArray s 0 0 (z_Aq (gq G))) (F0 m 51 ls [])), ∀ (v1 : Int32) (v2 : Int32) (v4 : Int32) (v5 : Int32) (v6 : Int32) (S : St) (H : Heap) (locs : List Loc) (ls : Array Slot), b_X10_fewest_51 N k51 v1 v2 v4 v5 v6 S = some (r, S') → z_P G X S H → z_S G s.heap H locs → lv_has ls 7 [(0, .ref (gq G (65))), (1, .int (v1)), (2, .int (v2)), (4, .int (v4)), (5, .int (v5)), (6, .int (v6))] → W p l e (z_rm 7 156) s m ([.ref (gq G (65)), .int (a1), .int (a2)] : List Value).toArray below meth c H locs 0 0 (MQ below (z_QI G X S' r) ([.ref (gq G (65)), .int (a1), .int (a2)] : List Value).toArray s 0 0 (z_Aq (gq G))) (F0 m 51 ls []) := by
    intro k51 hk51 v1 v2 v4 v5 v6 S H locs ls hf hP hS hl
    unfold b_X10_fewest_51 at hf
    refine lv_iload hx hb dX10_fewest_51 (lv_at hl 5 rfl) ?_
    refine lv_bipush (v := 20) hx hb dX10_fewest_53 (by decide) ?_
    refine lv_icmp_gt (tgt := 101) hx hb dX10_fewest_55 (by decide) (fun hc13 => ?_) (fun hc13 => ?_)
    · replace hf := z_ifp hf hc13
      refine lv_iload_n hx hb dX10_fewest_101 rfl (lv_at hl 2 rfl) ?_
      refine lv_if_ne (tgt := 110) hx hb dX10_fewest_102 (by decide) (fun hc14 => ?_) (fun hc14 => ?_)
      · replace hf := z_ifn hf hc14
        refine lv_iload hx hb dX10_fewest_110 (lv_at hl 4 rfl) ?_
        exact m_reti hx hb hr hlk hf hP hS dX10_fewest_112
      · replace hf := z_ifp hf hc14
        refine lv_iload hx hb dX10_fewest_105 (lv_at hl 3 rfl) ?_
        refine lv_goto (tgt := 112) hx hb dX10_fewest_107 (by decide) ?_
        exact m_reti hx hb hr hlk hf hP hS dX10_fewest_112
    · replace hf := z_ifn hf hc13
      refine lv_aload_n hx hb dX10_fewest_58 rfl (lv_at hl 0 rfl) ?_
      refine lv_iload_n hx hb dX10_fewest_59 rfl (lv_at hl 1 rfl) ?_
      refine lv_iload hx hb dX10_fewest_60 (lv_at hl 5 rfl) ?_
      obtain ⟨S15, hz16, hf⟩ := z_bv_some hf
      refine z_cvo (z_runV (o := 65) (ci := 10) E hK hP hS (c_X10_goesWith hq hz16) cv_X10_goesWith tw1363 rfl (by decide) rfl rfl ⟨Nat.le_of_ble_eq_true rfl, Nat.le_of_ble_eq_true rfl⟩ ⟨Nat.le_refl 0, Nat.le_refl 0⟩ hl.1 (Nat.le_of_ble_eq_true rfl) rfl dX10_fewest_62) hS (fun H locs hP hS => ?_)
      refine lv_aload_n hx hb dX10_fewest_65 rfl (lv_at hl 0 rfl) ?_
      obtain ⟨r18, S17, hz19, hf⟩ := z_bd_some hf
      refine z_ci (z_runV (o := 65) (ci := 10) E hK hP hS (c_X10_howNow hq hz19) cv_X10_howNow tw1315 rfl (by decide) rfl rfl ⟨Nat.le_of_ble_eq_true rfl, Nat.le_of_ble_eq_true rfl⟩ ⟨Nat.le_refl 0, Nat.le_refl 0⟩ hl.1 (Nat.le_of_ble_eq_true rfl) rfl dX10_fewest_66) hS (fun H locs hP hS => ?_)
      refine lv_iconst (v := 3) hx hb dX10_fewest_69 (by decide) ?_
      refine lv_icmp_eq (tgt := 95) hx hb dX10_fewest_70 (by decide) (fun hc20 => ?_) (fun hc20 => ?_)
      · replace hf := z_ifp hf hc20
        exact hJ95 k51 hk51 (v1) (v2) (v4) (v5) (v6) S17 _ _ _ hf hP hS (lv_sub hl [0, 1, 2, 3, 4, 5] rfl)
      · replace hf := z_ifn hf hc20
        refine lv_aload_n hx hb dX10_fewest_73 rfl (lv_at hl 0 rfl) ?_
        refine m_getI (C := RX10) (T := TX10) (N := 75) (ci := 10) (k := 62) (o := 65) E hK hP iwX10 rfl rfl (by decide) (by decide) rfl rfl (by decide) tw1014 dX10_fewest_74 ?_
        refine lv_iload hx hb dX10_fewest_77 (lv_at hl 4 rfl) ?_
        refine lv_icmp_lt (tgt := 85) hx hb dX10_fewest_79 (by decide) (fun hc21 => ?_) (fun hc21 => ?_)
        · replace hf := z_ifp hf hc21
          refine lv_iload hx hb dX10_fewest_85 (lv_at hl 5 rfl) ?_
          refine lv_istore (lv' := [(4, .int (v6)), (0, .ref (gq G (65))), (1, .int (v1)), (2, .int (v2)), (5, .int (v5)), (6, .int (v6))]) hx hb dX10_fewest_87 hl (by decide) rfl (fun ls hl => ?_)
          refine lv_aload_n hx hb dX10_fewest_89 rfl (lv_at hl 1 rfl) ?_
          refine m_getI (C := RX10) (T := TX10) (N := 75) (ci := 10) (k := 62) (o := 65) E hK hP iwX10 rfl rfl (by decide) (by decide) rfl rfl (by decide) tw1014 dX10_fewest_90 ?_
          refine lv_istore (lv' := [(5, .int ((S17 65 62))), (4, .int (v6)), (0, .ref (gq G (65))), (1, .int (v1)), (2, .int (v2)), (6, .int (v6))]) hx hb dX10_fewest_93 hl (by decide) rfl (fun ls hl => ?_)
          exact hJ95 k51 hk51 (v1) (v2) (v6) ((S17 65 62)) (v6) S17 _ _ _ hf hP hS (lv_sub hl [2, 3, 4, 1, 0, 5] rfl)
        · replace hf := z_ifn hf hc21
          refine lv_goto (tgt := 95) hx hb dX10_fewest_82 (by decide) ?_
          exact hJ95 k51 hk51 (v1) (v2) (v4) (v5) (v6) S17 _ _ _ hf hP hS (lv_sub hl [0, 1, 2, 3, 4, 5] rfl)
  have hL51 : ∀ (n : Nat), ∀ (v1 : Int32) (v2 : Int32) (v4 : Int32) (v5 : Int32) (v6 : Int32) (S : St) (H : Heap) (locs : List Loc) (ls : Array Slot), f_X10_fewest_51 N n v1 v2 v4 v5 v6 S = some (r, S') → z_P G X S H → z_S G s.heap H locs → lv_has ls 7 [(0, .ref (gq G (65))), (1, .int (v1)), (2, .int (v2)), (4, .int (v4)), (5, .int (v5)), (6, .int (v6))] → W p l e (z_rm 7 156) s m ([.ref (gq G (65)), .int (a1), .int (a2)] : List Value).toArray below meth c H locs 0 0 (MQ below (z_QI G X S' r) ([.ref (gq G (65)), .int (a1), .int (a2)] : List Value).toArray s 0 0 (z_Aq (gq G))) (F0 m 51 ls []) := by
    intro  n
    induction n with
    | zero => intro _ _ _ _ _ _ _ _ _ hf; cases hf
    | succ n ih => exact hB51  _  ih
  have hJ26 : ∀ (v1 : Int32) (v2 : Int32) (t0 : Int32) (S : St) (H : Heap) (locs : List Loc) (ls : Array Slot), b_X10_fewest_26 N v1 v2 t0 S = some (r, S') → z_P G X S H → z_S G s.heap H locs → lv_has ls 7 [(0, .ref (gq G (65))), (1, .int (v1)), (2, .int (v2))] → W p l e (z_rm 7 156) s m ([.ref (gq G (65)), .int (a1), .int (a2)] : List Value).toArray below meth c H locs 0 0 (MQ below (z_QI G X S' r) ([.ref (gq G (65)), .int (a1), .int (a2)] : List Value).toArray s 0 0 (z_Aq (gq G))) (F0 m 26 ls [.int (t0)]) := by
    intro v1 v2 t0 S H locs ls hf hP hS hl
    unfold b_X10_fewest_26 at hf
    refine lv_istore_n (lv' := [(3, .int (t0)), (0, .ref (gq G (65))), (1, .int (v1)), (2, .int (v2))]) hx hb dX10_fewest_26 rfl hl (by decide) rfl (fun ls hl => ?_)
    refine lv_iload_n hx hb dX10_fewest_27 rfl (lv_at hl 0 rfl) ?_
    refine lv_if_eq (tgt := 37) hx hb dX10_fewest_28 (by decide) (fun hc9 => ?_) (fun hc9 => ?_)
    · replace hf := z_ifp hf hc9
      refine lv_ldcw (v := 999999999) hx hb hown (hts _ tw1387) dX10_fewest_37 ?_
      refine lv_istore (lv' := [(4, .int (999999999)), (3, .int (t0)), (0, .ref (gq G (65))), (1, .int (v1)), (2, .int (v2))]) hx hb dX10_fewest_40 hl (by decide) rfl (fun ls hl => ?_)
      refine lv_ldcw (v := 999999999) hx hb hown (hts _ tw1387) dX10_fewest_42 ?_
      refine lv_istore (lv' := [(5, .int (999999999)), (4, .int (999999999)), (3, .int (t0)), (0, .ref (gq G (65))), (1, .int (v1)), (2, .int (v2))]) hx hb dX10_fewest_45 hl (by decide) rfl (fun ls hl => ?_)
      refine lv_bipush (v := (-20)) hx hb dX10_fewest_47 (by decide) ?_
      refine lv_istore (lv' := [(6, .int ((-20))), (5, .int (999999999)), (4, .int (999999999)), (3, .int (t0)), (0, .ref (gq G (65))), (1, .int (v1)), (2, .int (v2))]) hx hb dX10_fewest_49 hl (by decide) rfl (fun ls hl => ?_)
      exact hL51 N (v1) (v2) (999999999) (999999999) ((-20)) S _ _ _ hf hP hS (lv_sub hl [4, 5, 6, 2, 1, 0] rfl)
    · replace hf := z_ifn hf hc9
      refine lv_aload_n hx hb dX10_fewest_31 rfl (lv_at hl 1 rfl) ?_
      refine lv_iload_n hx hb dX10_fewest_32 rfl (lv_at hl 0 rfl) ?_
      obtain ⟨r11, S10, hz12, hf⟩ := z_bd_some hf
      refine z_ci (z_runV (o := 65) (ci := 10) E hK hP hS (c_X10_lower hq hz12) cv_X10_lower tw1331 rfl (by decide) rfl rfl ⟨Nat.le_of_ble_eq_true rfl, Nat.le_of_ble_eq_true rfl⟩ ⟨Nat.le_refl 0, Nat.le_refl 0⟩ hl.1 (Nat.le_of_ble_eq_true rfl) rfl dX10_fewest_33) hS (fun H locs hP hS => ?_)
      exact m_reti hx hb hr hlk hf hP hS dX10_fewest_36
  have hl : lv_has ls 7 [(0, .ref (gq G (65))), (1, .int (a1)), (2, .int (a2))] := hl
  unfold f_X10_fewest at hf
  refine lv_iload_n hx hb dX10_fewest_0 rfl (lv_at hl 1 rfl) ?_
  obtain ⟨r2, S1, hz3, hf⟩ := z_bd_some hf
  refine z_ci (z_runS E hK hP hS (c_X10_isVariable hq hz3) cs_X10_isVariable tw1344 rfl ⟨Nat.le_of_ble_eq_true rfl, Nat.le_of_ble_eq_true rfl⟩ ⟨Nat.le_refl 0, Nat.le_refl 0⟩ hl.1 (Nat.le_of_ble_eq_true rfl) rfl dX10_fewest_1) hS (fun H locs hP hS => ?_)
  refine lv_if_ne (tgt := 11) hx hb dX10_fewest_4 (by decide) (fun hc4 => ?_) (fun hc4 => ?_)
  · replace hf := z_ifn hf hc4
    refine lv_iload_n hx hb dX10_fewest_11 rfl (lv_at hl 2 rfl) ?_
    refine lv_iconst (v := 0) hx hb dX10_fewest_12 (by decide) ?_
    refine lv_iconst (v := 1) hx hb dX10_fewest_13 (by decide) ?_
    obtain ⟨r6, S5, hz7, hf⟩ := z_bd_some hf
    refine z_ci (z_runS E hK hP hS (c_X10_isIn hq hz7) cs_X10_isIn tw943 rfl ⟨Nat.le_of_ble_eq_true rfl, Nat.le_of_ble_eq_true rfl⟩ ⟨Nat.le_refl 0, Nat.le_refl 0⟩ hl.1 (Nat.le_of_ble_eq_true rfl) rfl dX10_fewest_14) hS (fun H locs hP hS => ?_)
    refine lv_if_ne (tgt := 25) hx hb dX10_fewest_17 (by decide) (fun hc8 => ?_) (fun hc8 => ?_)
    · replace hf := z_ifn hf hc8
      refine lv_iconst (v := 0) hx hb dX10_fewest_25 (by decide) ?_
      exact hJ26 (a1) (a2) (0) S5 _ _ _ hf hP hS (lv_sub hl [0, 1, 2] rfl)
    · replace hf := z_ifp hf hc8
      refine lv_bipush (v := (-2)) hx hb dX10_fewest_20 (by decide) ?_
      refine lv_goto (tgt := 26) hx hb dX10_fewest_22 (by decide) ?_
      exact hJ26 (a1) (a2) ((-2)) S5 _ _ _ hf hP hS (lv_sub hl [0, 1, 2] rfl)
  · replace hf := z_ifp hf hc4
    refine lv_iconst (v := (-1)) hx hb dX10_fewest_7 (by decide) ?_
    refine lv_goto (tgt := 26) hx hb dX10_fewest_8 (by decide) ?_
    exact hJ26 (a1) (a2) ((-1)) S1 _ _ _ hf hP hS (lv_sub hl [0, 1, 2] rfl)
theorem cv_X10_fewest : z_cv yX10_fewest cX10_fewest 7 (some .int) RX10 2 := ⟨⟨tw1389, tw1390⟩, tw1391, tw11, by decide +kernel⟩
def b_X10_pure_80 (N : Nat) (k47 : Int32 → Int32 → St → Option (Int32 × St)) (v4 : Int32) (t0 : Int32) (S : St) : Option (Int32 × St) := k47 (t0) ((v4 + 1)) S
def b_X10_pure_79 (N : Nat) (k47 : Int32 → Int32 → St → Option (Int32 × St)) (v4 : Int32) (S : St) : Option (Int32 × St) := b_X10_pure_80 N k47 (v4) (0) S
def b_X10_pure_47 (N : Nat) (k47 : Int32 → Int32 → St → Option (Int32 × St)) (v3 : Int32) (v4 : Int32) (S : St) : Option (Int32 × St) := if 6 ≤ v4 then (z_bv (f_X10_forgets N S) fun S22 => if v3 = 0 then (some (0, S22)) else (some (1, S22))) else (if v3 = 0 then (b_X10_pure_79 N k47 (v4) S) else (z_gd (z_in v4 (z_ln 78)) (z_gd (z_in v4 (z_ln 99)) (if (S 78 (v4 : Int32).toNatClampNeg) = (S 99 (v4 : Int32).toNatClampNeg) then (b_X10_pure_80 N k47 (v4) (1) S) else (b_X10_pure_79 N k47 (v4) S)))))
def f_X10_pure_47 (N : Nat) : Nat → Int32 → Int32 → St → Option (Int32 × St)
  | 0 => fun _ _ _ => none
  | n + 1 => b_X10_pure_47 N (f_X10_pure_47 N n)
def b_X10_pure_43 (N : Nat) (t0 : Int32) (S : St) : Option (Int32 × St) := f_X10_pure_47 N N (t0) (0) S
def b_X10_pure_42 (N : Nat) (S : St) : Option (Int32 × St) := b_X10_pure_43 N (0) S
def f_X10_pure (N : Nat) (S : St) : Option (Int32 × St) := z_bv (f_X10_minds N S) fun S1 => z_bv (f_X10_goes N S1) fun S3 => z_bd (f_X10_howNow N S3) fun r6 S5 => z_bd (f_X10_numberNow N S5) fun r9 S8 => z_bv (f_X10_goes N S8) fun S11 => z_bd (f_X10_howNow N S11) fun r14 S13 => if r6 = r14 then (z_bd (f_X10_numberNow N S13) fun r18 S17 => if r9 = r18 then (b_X10_pure_43 N (1) S17) else (b_X10_pure_42 N S17)) else (b_X10_pure_42 N S13)
set_option maxHeartbeats 4000000 in
set_option maxRecDepth 100000 in
theorem c_X10_pure {l : Launch} {G : Cx} {X S S' : St} {N : Nat} {r : Int32} (hq : z_inj (gq G)) (hf : f_X10_pure N S = some (r, S')) : z_Ct l yX10_pure cX10_pure 5 (some .int) 6 134 G X S [.ref (gq G (65))] (z_QI G X S' r) := by
  refine z_start (by decide +kernel) (Nat.le_of_ble_eq_true rfl) ?_
  intro p e s m below meth c ls E hr hlk hK hP hS hl
  have E : CallFix p m c cX10_pure 5 s _ lw_good RX10 := E
  have hx := E.1
  have hb := E.2.1
  have hown := E.2.2.2.1
  have hts := E.2.2.2.2
  have hJ80 : ∀ (k47 : Int32 → Int32 → St → Option (Int32 × St)) (hk47 : ∀ (v3 : Int32) (v4 : Int32) (S : St) (H : Heap) (locs : List Loc) (ls : Array Slot), k47 v3 v4 S = some (r, S') → z_P G X S H → z_S G s.heap H locs → lv_has ls 5 [(0, .ref (gq G (65))), (3, .int (v3)), (4, .int (v4))] → W p l e (z_rm 6 134) s m ([.ref (gq G (65))] : List Value).toArray below meth c H locs 0 0 (MQ below (z_QI G X S' r) ([.ref (gq G (65))] : List Value).toArray s 0 0 (z_Aq (gq G))) (F0 m 47 ls [])), ∀ (v4 : Int32) (t0 : Int32) (S : St) (H : Heap) (locs : List Loc) (ls : Array Slot), b_X10_pure_80 N k47 v4 t0 S = some (r, S') → z_P G X S H → z_S G s.heap H locs → lv_has ls 5 [(0, .ref (gq G (65))), (4, .int (v4))] → W p l e (z_rm 6 134) s m ([.ref (gq G (65))] : List Value).toArray below meth c H locs 0 0 (MQ below (z_QI G X S' r) ([.ref (gq G (65))] : List Value).toArray s 0 0 (z_Aq (gq G))) (F0 m 80 ls [.int (t0)]) := by
    intro k47 hk47 v4 t0 S H locs ls hf hP hS hl
    unfold b_X10_pure_80 at hf
    refine lv_istore_n (lv' := [(3, .int (t0)), (0, .ref (gq G (65))), (4, .int (v4))]) hx hb dX10_pure_80 rfl hl (by decide) rfl (fun ls hl => ?_)
    refine lv_iinc (v := (v4 + 1)) (lv' := [(4, .int ((v4 + 1))), (3, .int (t0)), (0, .ref (gq G (65)))]) hx hb dX10_pure_81 hl (k := 2) rfl rfl (by decide) rfl (fun ls hl => ?_)
    refine lv_goto (tgt := 47) hx hb dX10_pure_84 (by decide) ?_
    exact hk47 (t0) ((v4 + 1)) S _ _ _ hf hP hS (lv_sub hl [2, 1, 0] rfl)
  have hJ79 : ∀ (k47 : Int32 → Int32 → St → Option (Int32 × St)) (hk47 : ∀ (v3 : Int32) (v4 : Int32) (S : St) (H : Heap) (locs : List Loc) (ls : Array Slot), k47 v3 v4 S = some (r, S') → z_P G X S H → z_S G s.heap H locs → lv_has ls 5 [(0, .ref (gq G (65))), (3, .int (v3)), (4, .int (v4))] → W p l e (z_rm 6 134) s m ([.ref (gq G (65))] : List Value).toArray below meth c H locs 0 0 (MQ below (z_QI G X S' r) ([.ref (gq G (65))] : List Value).toArray s 0 0 (z_Aq (gq G))) (F0 m 47 ls [])), ∀ (v4 : Int32) (S : St) (H : Heap) (locs : List Loc) (ls : Array Slot), b_X10_pure_79 N k47 v4 S = some (r, S') → z_P G X S H → z_S G s.heap H locs → lv_has ls 5 [(0, .ref (gq G (65))), (4, .int (v4))] → W p l e (z_rm 6 134) s m ([.ref (gq G (65))] : List Value).toArray below meth c H locs 0 0 (MQ below (z_QI G X S' r) ([.ref (gq G (65))] : List Value).toArray s 0 0 (z_Aq (gq G))) (F0 m 79 ls []) := by
    intro k47 hk47 v4 S H locs ls hf hP hS hl
    unfold b_X10_pure_79 at hf
    refine lv_iconst (v := 0) hx hb dX10_pure_79 (by decide) ?_
    exact hJ80 k47 hk47 (v4) (0) S _ _ _ hf hP hS (lv_sub hl [0, 1] rfl)
  have hB47 : ∀ (k47 : Int32 → Int32 → St → Option (Int32 × St)) (hk47 : ∀ (v3 : Int32) (v4 : Int32) (S : St) (H : Heap) (locs : List Loc) (ls : Array Slot), k47 v3 v4 S = some (r, S') → z_P G X S H → z_S G s.heap H locs → lv_has ls 5 [(0, .ref (gq G (65))), (3, .int (v3)), (4, .int (v4))] → W p l e (z_rm 6 134) s m ([.ref (gq G (65))] : List Value).toArray below meth c H locs 0 0 (MQ below (z_QI G X S' r) ([.ref (gq G (65))] : List Value).toArray s 0 0 (z_Aq (gq G))) (F0 m 47 ls [])), ∀ (v3 : Int32) (v4 : Int32) (S : St) (H : Heap) (locs : List Loc) (ls : Array Slot), b_X10_pure_47 N k47 v3 v4 S = some (r, S') → z_P G X S H → z_S G s.heap H locs → lv_has ls 5 [(0, .ref (gq G (65))), (3, .int (v3)), (4, .int (v4))] → W p l e (z_rm 6 134) s m ([.ref (gq G (65))] : List Value).toArray below meth c H locs 0 0 (MQ below (z_QI G X S' r) ([.ref (gq G (65))] : List Value).toArray s 0 0 (z_Aq (gq G))) (F0 m 47 ls []) := by
    intro k47 hk47 v3 v4 S H locs ls hf hP hS hl
    unfold b_X10_pure_47 at hf
    refine lv_iload hx hb dX10_pure_47 (lv_at hl 2 rfl) ?_
    refine lv_bipush (v := 6) hx hb dX10_pure_49 (by decide) ?_
    refine lv_icmp_ge (tgt := 87) hx hb dX10_pure_51 (by decide) (fun hc21 => ?_) (fun hc21 => ?_)
    · replace hf := z_ifp hf hc21
      refine lv_aload_n hx hb dX10_pure_87 rfl (lv_at hl 0 rfl) ?_
      obtain ⟨S22, hz23, hf⟩ := z_bv_some hf
      refine z_cvo (z_runV (o := 65) (ci := 10) E hK hP hS (c_X10_forgets hq hz23) cv_X10_forgets tw1371 rfl (by decide) rfl rfl ⟨Nat.le_of_ble_eq_true rfl, Nat.le_of_ble_eq_true rfl⟩ ⟨Nat.le_refl 0, Nat.le_refl 0⟩ hl.1 (Nat.le_of_ble_eq_true rfl) rfl dX10_pure_88) hS (fun H locs hP hS => ?_)
      refine lv_iload_n hx hb dX10_pure_91 rfl (lv_at hl 1 rfl) ?_
      refine lv_if_eq (tgt := 99) hx hb dX10_pure_92 (by decide) (fun hc24 => ?_) (fun hc24 => ?_)
      · replace hf := z_ifp hf hc24
        refine lv_iconst (v := 0) hx hb dX10_pure_99 (by decide) ?_
        exact m_reti hx hb hr hlk hf hP hS dX10_pure_100
      · replace hf := z_ifn hf hc24
        refine lv_iconst (v := 1) hx hb dX10_pure_95 (by decide) ?_
        refine lv_goto (tgt := 100) hx hb dX10_pure_96 (by decide) ?_
        exact m_reti hx hb hr hlk hf hP hS dX10_pure_100
    · replace hf := z_ifn hf hc21
      refine lv_iload_n hx hb dX10_pure_54 rfl (lv_at hl 1 rfl) ?_
      refine lv_if_eq (tgt := 79) hx hb dX10_pure_55 (by decide) (fun hc25 => ?_) (fun hc25 => ?_)
      · replace hf := z_ifp hf hc25
        exact hJ79 k47 hk47 (v4) S _ _ _ hf hP hS (lv_sub hl [0, 2] rfl)
      · replace hf := z_ifn hf hc25
        refine lv_aload_n hx hb dX10_pure_58 rfl (lv_at hl 0 rfl) ?_
        refine z_getR (C := RX10) (T := TX10) (N := 75) (ci := 10) (k := 24) (o := 65) (t := 78) E hK hP iwX10 rfl rfl (by decide) (by decide) rfl rfl rfl tw976 dX10_pure_59 ?_
        refine lv_iload hx hb dX10_pure_62 (lv_at hl 2 rfl) ?_
        obtain ⟨hg26, hf⟩ := z_gd_some hf
        refine m_ald (o := 78) (i := v4) E hK hP rfl (by decide) hg26 dX10_pure_64 ?_
        refine lv_aload_n hx hb dX10_pure_65 rfl (lv_at hl 0 rfl) ?_
        refine z_getR (C := RX10) (T := TX10) (N := 75) (ci := 10) (k := 67) (o := 65) (t := 99) E hK hP iwX10 rfl rfl (by decide) (by decide) rfl rfl rfl tw1019 dX10_pure_66 ?_
        refine lv_iload hx hb dX10_pure_69 (lv_at hl 2 rfl) ?_
        obtain ⟨hg27, hf⟩ := z_gd_some hf
        refine m_ald (o := 99) (i := v4) E hK hP rfl (by decide) hg27 dX10_pure_71 ?_
        refine lv_icmp_ne (tgt := 79) hx hb dX10_pure_72 (by decide) (fun hc28 => ?_) (fun hc28 => ?_)
        · replace hf := z_ifn hf hc28
          exact hJ79 k47 hk47 (v4) S _ _ _ hf hP hS (lv_sub hl [0, 2] rfl)
        · replace hf := z_ifp hf hc28
          refine lv_iconst (v := 1) hx hb dX10_pure_75 (by decide) ?_
          refine lv_goto (tgt := 80) hx hb dX10_pure_76 (by decide) ?_
          exact hJ80 k47 hk47 (v4) (1) S _ _ _ hf hP hS (lv_sub hl [0, 2] rfl)
  have hL47 : ∀ (n : Nat), ∀ (v3 : Int32) (v4 : Int32) (S : St) (H : Heap) (locs : List Loc) (ls : Array Slot), f_X10_pure_47 N n v3 v4 S = some (r, S') → z_P G X S H → z_S G s.heap H locs → lv_has ls 5 [(0, .ref (gq G (65))), (3, .int (v3)), (4, .int (v4))] → W p l e (z_rm 6 134) s m ([.ref (gq G (65))] : List Value).toArray below meth c H locs 0 0 (MQ below (z_QI G X S' r) ([.ref (gq G (65))] : List Value).toArray s 0 0 (z_Aq (gq G))) (F0 m 47 ls []) := by
    intro  n
    induction n with
    | zero => intro _ _ _ _ _ _ hf; cases hf
    | succ n ih => exact hB47  _  ih
  have hJ43 : ∀ (t0 : Int32) (S : St) (H : Heap) (locs : List Loc) (ls : Array Slot), b_X10_pure_43 N t0 S = some (r, S') → z_P G X S H → z_S G s.heap H locs → lv_has ls 5 [(0, .ref (gq G (65)))] → W p l e (z_rm 6 134) s m ([.ref (gq G (65))] : List Value).toArray below meth c H locs 0 0 (MQ below (z_QI G X S' r) ([.ref (gq G (65))] : List Value).toArray s 0 0 (z_Aq (gq G))) (F0 m 43 ls [.int (t0)]) := by
    intro t0 S H locs ls hf hP hS hl
    unfold b_X10_pure_43 at hf
    refine lv_istore_n (lv' := [(3, .int (t0)), (0, .ref (gq G (65)))]) hx hb dX10_pure_43 rfl hl (by decide) rfl (fun ls hl => ?_)
    refine lv_iconst (v := 0) hx hb dX10_pure_44 (by decide) ?_
    refine lv_istore (lv' := [(4, .int (0)), (3, .int (t0)), (0, .ref (gq G (65)))]) hx hb dX10_pure_45 hl (by decide) rfl (fun ls hl => ?_)
    exact hL47 N (t0) (0) S _ _ _ hf hP hS (lv_sub hl [2, 1, 0] rfl)
  have hJ42 : ∀ (S : St) (H : Heap) (locs : List Loc) (ls : Array Slot), b_X10_pure_42 N S = some (r, S') → z_P G X S H → z_S G s.heap H locs → lv_has ls 5 [(0, .ref (gq G (65)))] → W p l e (z_rm 6 134) s m ([.ref (gq G (65))] : List Value).toArray below meth c H locs 0 0 (MQ below (z_QI G X S' r) ([.ref (gq G (65))] : List Value).toArray s 0 0 (z_Aq (gq G))) (F0 m 42 ls []) := by
    intro S H locs ls hf hP hS hl
    unfold b_X10_pure_42 at hf
    refine lv_iconst (v := 0) hx hb dX10_pure_42 (by decide) ?_
    exact hJ43 (0) S _ _ _ hf hP hS (lv_sub hl [0] rfl)
  have hl : lv_has ls 5 [(0, .ref (gq G (65)))] := hl
  unfold f_X10_pure at hf
  refine lv_aload_n hx hb dX10_pure_0 rfl (lv_at hl 0 rfl) ?_
  obtain ⟨S1, hz2, hf⟩ := z_bv_some hf
  refine z_cvo (z_runV (o := 65) (ci := 10) E hK hP hS (c_X10_minds hq hz2) cv_X10_minds tw1367 rfl (by decide) rfl rfl ⟨Nat.le_of_ble_eq_true rfl, Nat.le_of_ble_eq_true rfl⟩ ⟨Nat.le_refl 0, Nat.le_refl 0⟩ hl.1 (Nat.le_of_ble_eq_true rfl) rfl dX10_pure_1) hS (fun H locs hP hS => ?_)
  refine lv_aload_n hx hb dX10_pure_4 rfl (lv_at hl 0 rfl) ?_
  obtain ⟨S3, hz4, hf⟩ := z_bv_some hf
  refine z_cvo (z_runV (o := 65) (ci := 10) E hK hP hS (c_X10_goes hq hz4) cv_X10_goes tw1213 rfl (by decide) rfl rfl ⟨Nat.le_of_ble_eq_true rfl, Nat.le_of_ble_eq_true rfl⟩ ⟨Nat.le_refl 0, Nat.le_refl 0⟩ hl.1 (Nat.le_of_ble_eq_true rfl) rfl dX10_pure_5) hS (fun H locs hP hS => ?_)
  refine lv_aload_n hx hb dX10_pure_8 rfl (lv_at hl 0 rfl) ?_
  obtain ⟨r6, S5, hz7, hf⟩ := z_bd_some hf
  refine z_ci (z_runV (o := 65) (ci := 10) E hK hP hS (c_X10_howNow hq hz7) cv_X10_howNow tw1315 rfl (by decide) rfl rfl ⟨Nat.le_of_ble_eq_true rfl, Nat.le_of_ble_eq_true rfl⟩ ⟨Nat.le_refl 0, Nat.le_refl 0⟩ hl.1 (Nat.le_of_ble_eq_true rfl) rfl dX10_pure_9) hS (fun H locs hP hS => ?_)
  refine lv_istore_n (lv' := [(1, .int (r6)), (0, .ref (gq G (65)))]) hx hb dX10_pure_12 rfl hl (by decide) rfl (fun ls hl => ?_)
  refine lv_aload_n hx hb dX10_pure_13 rfl (lv_at hl 1 rfl) ?_
  obtain ⟨r9, S8, hz10, hf⟩ := z_bd_some hf
  refine z_ci (z_runV (o := 65) (ci := 10) E hK hP hS (c_X10_numberNow hq hz10) cv_X10_numberNow tw1319 rfl (by decide) rfl rfl ⟨Nat.le_of_ble_eq_true rfl, Nat.le_of_ble_eq_true rfl⟩ ⟨Nat.le_refl 0, Nat.le_refl 0⟩ hl.1 (Nat.le_of_ble_eq_true rfl) rfl dX10_pure_14) hS (fun H locs hP hS => ?_)
  refine lv_istore_n (lv' := [(2, .int (r9)), (1, .int (r6)), (0, .ref (gq G (65)))]) hx hb dX10_pure_17 rfl hl (by decide) rfl (fun ls hl => ?_)
  refine lv_aload_n hx hb dX10_pure_18 rfl (lv_at hl 2 rfl) ?_
  obtain ⟨S11, hz12, hf⟩ := z_bv_some hf
  refine z_cvo (z_runV (o := 65) (ci := 10) E hK hP hS (c_X10_goes hq hz12) cv_X10_goes tw1213 rfl (by decide) rfl rfl ⟨Nat.le_of_ble_eq_true rfl, Nat.le_of_ble_eq_true rfl⟩ ⟨Nat.le_refl 0, Nat.le_refl 0⟩ hl.1 (Nat.le_of_ble_eq_true rfl) rfl dX10_pure_19) hS (fun H locs hP hS => ?_)
  refine lv_iload_n hx hb dX10_pure_22 rfl (lv_at hl 1 rfl) ?_
  refine lv_aload_n hx hb dX10_pure_23 rfl (lv_at hl 2 rfl) ?_
  obtain ⟨r14, S13, hz15, hf⟩ := z_bd_some hf
  refine z_ci (z_runV (o := 65) (ci := 10) E hK hP hS (c_X10_howNow hq hz15) cv_X10_howNow tw1315 rfl (by decide) rfl rfl ⟨Nat.le_of_ble_eq_true rfl, Nat.le_of_ble_eq_true rfl⟩ ⟨Nat.le_refl 0, Nat.le_refl 0⟩ hl.1 (Nat.le_of_ble_eq_true rfl) rfl dX10_pure_24) hS (fun H locs hP hS => ?_)
  refine lv_icmp_ne (tgt := 42) hx hb dX10_pure_27 (by decide) (fun hc16 => ?_) (fun hc16 => ?_)
  · replace hf := z_ifn hf hc16
    exact hJ42 S13 _ _ _ hf hP hS (lv_sub hl [2] rfl)
  · replace hf := z_ifp hf hc16
    refine lv_iload_n hx hb dX10_pure_30 rfl (lv_at hl 0 rfl) ?_
    refine lv_aload_n hx hb dX10_pure_31 rfl (lv_at hl 2 rfl) ?_
    obtain ⟨r18, S17, hz19, hf⟩ := z_bd_some hf
    refine z_ci (z_runV (o := 65) (ci := 10) E hK hP hS (c_X10_numberNow hq hz19) cv_X10_numberNow tw1319 rfl (by decide) rfl rfl ⟨Nat.le_of_ble_eq_true rfl, Nat.le_of_ble_eq_true rfl⟩ ⟨Nat.le_refl 0, Nat.le_refl 0⟩ hl.1 (Nat.le_of_ble_eq_true rfl) rfl dX10_pure_32) hS (fun H locs hP hS => ?_)
    refine lv_icmp_ne (tgt := 42) hx hb dX10_pure_35 (by decide) (fun hc20 => ?_) (fun hc20 => ?_)
    · replace hf := z_ifn hf hc20
      exact hJ42 S17 _ _ _ hf hP hS (lv_sub hl [2] rfl)
    · replace hf := z_ifp hf hc20
      refine lv_iconst (v := 1) hx hb dX10_pure_38 (by decide) ?_
      refine lv_goto (tgt := 43) hx hb dX10_pure_39 (by decide) ?_
      exact hJ43 (1) S17 _ _ _ hf hP hS (lv_sub hl [2] rfl)
theorem cv_X10_pure : z_cv yX10_pure cX10_pure 5 (some .int) RX10 0 := ⟨⟨tw1393, tw1394⟩, tw1395, tw11, by decide +kernel⟩
def b_X10_changes_56 (N : Nat) (k12 : Int32 → Int32 → St → Option (Int32 × St)) (v2 : Int32) (t0 : Int32) (t1 : Int32) (S : St) : Option (Int32 × St) := k12 ((t1 + t0)) ((v2 + 1)) S
def b_X10_changes_12 (N : Nat) (k12 : Int32 → Int32 → St → Option (Int32 × St)) (v1 : Int32) (v2 : Int32) (S : St) : Option (Int32 × St) := if (S 65 7) ≤ v2 then (z_bv (f_X10_forgets N S) fun S6 => some (v1, S6)) else (z_bd (f_X10_stateOf N (v2) S) fun r9 S8 => z_gd (z_in (6 + v2) (z_ln 99)) (z_gd (z_in v2 (z_ln 79)) (z_lt (z_wr S8 79 (v2 : Int32).toNatClampNeg (S8 99 ((6 + v2) : Int32).toNatClampNeg)) fun S13 => z_bd (f_X10_stateOf N (v2) S13) fun r15 S14 => if r9 = r15 then (b_X10_changes_56 N k12 (v2) (0) (v1) S14) else (b_X10_changes_56 N k12 (v2) (1) (v1) S14))))
def f_X10_changes_12 (N : Nat) : Nat → Int32 → Int32 → St → Option (Int32 × St)
  | 0 => fun _ _ _ => none
  | n + 1 => b_X10_changes_12 N (f_X10_changes_12 N n)
def f_X10_changes (N : Nat) (S : St) : Option (Int32 × St) := z_bv (f_X10_minds N S) fun S1 => z_bv (f_X10_goes N S1) fun S3 => f_X10_changes_12 N N (0) (0) S3
set_option maxHeartbeats 4000000 in
set_option maxRecDepth 100000 in
theorem c_X10_changes {l : Launch} {G : Cx} {X S S' : St} {N : Nat} {r : Int32} (hq : z_inj (gq G)) (hf : f_X10_changes N S = some (r, S')) : z_Ct l yX10_changes cX10_changes 4 (some .int) 6 134 G X S [.ref (gq G (65))] (z_QI G X S' r) := by
  refine z_start (by decide +kernel) (Nat.le_of_ble_eq_true rfl) ?_
  intro p e s m below meth c ls E hr hlk hK hP hS hl
  have E : CallFix p m c cX10_changes 4 s _ lw_good RX10 := E
  have hx := E.1
  have hb := E.2.1
  have hown := E.2.2.2.1
  have hts := E.2.2.2.2
  have hJ56 : ∀ (k12 : Int32 → Int32 → St → Option (Int32 × St)) (hk12 : ∀ (v1 : Int32) (v2 : Int32) (S : St) (H : Heap) (locs : List Loc) (ls : Array Slot), k12 v1 v2 S = some (r, S') → z_P G X S H → z_S G s.heap H locs → lv_has ls 4 [(0, .ref (gq G (65))), (1, .int (v1)), (2, .int (v2))] → W p l e (z_rm 6 134) s m ([.ref (gq G (65))] : List Value).toArray below meth c H locs 0 0 (MQ below (z_QI G X S' r) ([.ref (gq G (65))] : List Value).toArray s 0 0 (z_Aq (gq G))) (F0 m 12 ls [])), ∀ (v2 : Int32) (t0 : Int32) (t1 : Int32) (S : St) (H : Heap) (locs : List Loc) (ls : Array Slot), b_X10_changes_56 N k12 v2 t0 t1 S = some (r, S') → z_P G X S H → z_S G s.heap H locs → lv_has ls 4 [(0, .ref (gq G (65))), (2, .int (v2))] → W p l e (z_rm 6 134) s m ([.ref (gq G (65))] : List Value).toArray below meth c H locs 0 0 (MQ below (z_QI G X S' r) ([.ref (gq G (65))] : List Value).toArray s 0 0 (z_Aq (gq G))) (F0 m 56 ls [.int (t0), .int (t1)]) := by
    intro k12 hk12 v2 t0 t1 S H locs ls hf hP hS hl
    unfold b_X10_changes_56 at hf
    refine lv_iadd hx hb dX10_changes_56 ?_
    refine lv_istore_n (lv' := [(1, .int ((t1 + t0))), (0, .ref (gq G (65))), (2, .int (v2))]) hx hb dX10_changes_57 rfl hl (by decide) rfl (fun ls hl => ?_)
    refine lv_iinc (v := (v2 + 1)) (lv' := [(2, .int ((v2 + 1))), (1, .int ((t1 + t0))), (0, .ref (gq G (65)))]) hx hb dX10_changes_58 hl (k := 2) rfl rfl (by decide) rfl (fun ls hl => ?_)
    refine lv_goto (tgt := 12) hx hb dX10_changes_61 (by decide) ?_
    exact hk12 ((t1 + t0)) ((v2 + 1)) S _ _ _ hf hP hS (lv_sub hl [2, 1, 0] rfl)
  have hB12 : ∀ (k12 : Int32 → Int32 → St → Option (Int32 × St)) (hk12 : ∀ (v1 : Int32) (v2 : Int32) (S : St) (H : Heap) (locs : List Loc) (ls : Array Slot), k12 v1 v2 S = some (r, S') → z_P G X S H → z_S G s.heap H locs → lv_has ls 4 [(0, .ref (gq G (65))), (1, .int (v1)), (2, .int (v2))] → W p l e (z_rm 6 134) s m ([.ref (gq G (65))] : List Value).toArray below meth c H locs 0 0 (MQ below (z_QI G X S' r) ([.ref (gq G (65))] : List Value).toArray s 0 0 (z_Aq (gq G))) (F0 m 12 ls [])), ∀ (v1 : Int32) (v2 : Int32) (S : St) (H : Heap) (locs : List Loc) (ls : Array Slot), b_X10_changes_12 N k12 v1 v2 S = some (r, S') → z_P G X S H → z_S G s.heap H locs → lv_has ls 4 [(0, .ref (gq G (65))), (1, .int (v1)), (2, .int (v2))] → W p l e (z_rm 6 134) s m ([.ref (gq G (65))] : List Value).toArray below meth c H locs 0 0 (MQ below (z_QI G X S' r) ([.ref (gq G (65))] : List Value).toArray s 0 0 (z_Aq (gq G))) (F0 m 12 ls []) := by
    intro k12 hk12 v1 v2 S H locs ls hf hP hS hl
    unfold b_X10_changes_12 at hf
    refine lv_iload_n hx hb dX10_changes_12 rfl (lv_at hl 2 rfl) ?_
    refine lv_aload_n hx hb dX10_changes_13 rfl (lv_at hl 0 rfl) ?_
    refine m_getI (C := RX10) (T := TX10) (N := 75) (ci := 10) (k := 7) (o := 65) E hK hP iwX10 rfl rfl (by decide) (by decide) rfl rfl (by decide) tw959 dX10_changes_14 ?_
    refine lv_icmp_ge (tgt := 64) hx hb dX10_changes_17 (by decide) (fun hc5 => ?_) (fun hc5 => ?_)
    · replace hf := z_ifp hf hc5
      refine lv_aload_n hx hb dX10_changes_64 rfl (lv_at hl 0 rfl) ?_
      obtain ⟨S6, hz7, hf⟩ := z_bv_some hf
      refine z_cvo (z_runV (o := 65) (ci := 10) E hK hP hS (c_X10_forgets hq hz7) cv_X10_forgets tw1371 rfl (by decide) rfl rfl ⟨Nat.le_of_ble_eq_true rfl, Nat.le_of_ble_eq_true rfl⟩ ⟨Nat.le_refl 0, Nat.le_refl 0⟩ hl.1 (Nat.le_of_ble_eq_true rfl) rfl dX10_changes_65) hS (fun H locs hP hS => ?_)
      refine lv_iload_n hx hb dX10_changes_68 rfl (lv_at hl 1 rfl) ?_
      exact m_reti hx hb hr hlk hf hP hS dX10_changes_69
    · replace hf := z_ifn hf hc5
      refine lv_aload_n hx hb dX10_changes_20 rfl (lv_at hl 0 rfl) ?_
      refine lv_iload_n hx hb dX10_changes_21 rfl (lv_at hl 2 rfl) ?_
      obtain ⟨r9, S8, hz10, hf⟩ := z_bd_some hf
      refine z_ci (z_runV (o := 65) (ci := 10) E hK hP hS (c_X10_stateOf hq hz10) cv_X10_stateOf tw1355 rfl (by decide) rfl rfl ⟨Nat.le_of_ble_eq_true rfl, Nat.le_of_ble_eq_true rfl⟩ ⟨Nat.le_refl 0, Nat.le_refl 0⟩ hl.1 (Nat.le_of_ble_eq_true rfl) rfl dX10_changes_22) hS (fun H locs hP hS => ?_)
      refine lv_istore_n (lv' := [(3, .int (r9)), (0, .ref (gq G (65))), (1, .int (v1)), (2, .int (v2))]) hx hb dX10_changes_25 rfl hl (by decide) rfl (fun ls hl => ?_)
      refine lv_aload_n hx hb dX10_changes_26 rfl (lv_at hl 1 rfl) ?_
      refine z_getR (C := RX10) (T := TX10) (N := 75) (ci := 10) (k := 25) (o := 65) (t := 79) E hK hP iwX10 rfl rfl (by decide) (by decide) rfl rfl rfl tw977 dX10_changes_27 ?_
      refine lv_iload_n hx hb dX10_changes_30 rfl (lv_at hl 3 rfl) ?_
      refine lv_aload_n hx hb dX10_changes_31 rfl (lv_at hl 1 rfl) ?_
      refine z_getR (C := RX10) (T := TX10) (N := 75) (ci := 10) (k := 67) (o := 65) (t := 99) E hK hP iwX10 rfl rfl (by decide) (by decide) rfl rfl rfl tw1019 dX10_changes_32 ?_
      refine lv_bipush (v := 6) hx hb dX10_changes_35 (by decide) ?_
      refine lv_iload_n hx hb dX10_changes_37 rfl (lv_at hl 3 rfl) ?_
      refine lv_iadd hx hb dX10_changes_38 ?_
      obtain ⟨hg11, hf⟩ := z_gd_some hf
      refine m_ald (o := 99) (i := (6 + v2)) E hK hP rfl (by decide) hg11 dX10_changes_39 ?_
      obtain ⟨hg12, hf⟩ := z_gd_some hf
      refine m_ast (o := 79) (i := v2) (v := (S8 99 ((6 + v2) : Int32).toNatClampNeg)) E hK hq hP hS rfl (by decide) hg12 dX10_changes_40 (fun H locs hP hS => ?_)
      obtain ⟨S13, hf, hP⟩ := z_ltM hf hP
      refine lv_iload_n hx hb dX10_changes_41 rfl (lv_at hl 2 rfl) ?_
      refine lv_iload_n hx hb dX10_changes_42 rfl (lv_at hl 0 rfl) ?_
      refine lv_aload_n hx hb dX10_changes_43 rfl (lv_at hl 1 rfl) ?_
      refine lv_iload_n hx hb dX10_changes_44 rfl (lv_at hl 3 rfl) ?_
      obtain ⟨r15, S14, hz16, hf⟩ := z_bd_some hf
      refine z_ci (z_runV (o := 65) (ci := 10) E hK hP hS (c_X10_stateOf hq hz16) cv_X10_stateOf tw1355 rfl (by decide) rfl rfl ⟨Nat.le_of_ble_eq_true rfl, Nat.le_of_ble_eq_true rfl⟩ ⟨Nat.le_refl 0, Nat.le_refl 0⟩ hl.1 (Nat.le_of_ble_eq_true rfl) rfl dX10_changes_45) hS (fun H locs hP hS => ?_)
      refine lv_icmp_ne (tgt := 55) hx hb dX10_changes_48 (by decide) (fun hc17 => ?_) (fun hc17 => ?_)
      · replace hf := z_ifn hf hc17
        refine lv_iconst (v := 1) hx hb dX10_changes_55 (by decide) ?_
        exact hJ56 k12 hk12 (v2) (1) (v1) S14 _ _ _ hf hP hS (lv_sub hl [1, 3] rfl)
      · replace hf := z_ifp hf hc17
        refine lv_iconst (v := 0) hx hb dX10_changes_51 (by decide) ?_
        refine lv_goto (tgt := 56) hx hb dX10_changes_52 (by decide) ?_
        exact hJ56 k12 hk12 (v2) (0) (v1) S14 _ _ _ hf hP hS (lv_sub hl [1, 3] rfl)
  have hL12 : ∀ (n : Nat), ∀ (v1 : Int32) (v2 : Int32) (S : St) (H : Heap) (locs : List Loc) (ls : Array Slot), f_X10_changes_12 N n v1 v2 S = some (r, S') → z_P G X S H → z_S G s.heap H locs → lv_has ls 4 [(0, .ref (gq G (65))), (1, .int (v1)), (2, .int (v2))] → W p l e (z_rm 6 134) s m ([.ref (gq G (65))] : List Value).toArray below meth c H locs 0 0 (MQ below (z_QI G X S' r) ([.ref (gq G (65))] : List Value).toArray s 0 0 (z_Aq (gq G))) (F0 m 12 ls []) := by
    intro  n
    induction n with
    | zero => intro _ _ _ _ _ _ hf; cases hf
    | succ n ih => exact hB12  _  ih
  have hl : lv_has ls 4 [(0, .ref (gq G (65)))] := hl
  unfold f_X10_changes at hf
  refine lv_aload_n hx hb dX10_changes_0 rfl (lv_at hl 0 rfl) ?_
  obtain ⟨S1, hz2, hf⟩ := z_bv_some hf
  refine z_cvo (z_runV (o := 65) (ci := 10) E hK hP hS (c_X10_minds hq hz2) cv_X10_minds tw1367 rfl (by decide) rfl rfl ⟨Nat.le_of_ble_eq_true rfl, Nat.le_of_ble_eq_true rfl⟩ ⟨Nat.le_refl 0, Nat.le_refl 0⟩ hl.1 (Nat.le_of_ble_eq_true rfl) rfl dX10_changes_1) hS (fun H locs hP hS => ?_)
  refine lv_aload_n hx hb dX10_changes_4 rfl (lv_at hl 0 rfl) ?_
  obtain ⟨S3, hz4, hf⟩ := z_bv_some hf
  refine z_cvo (z_runV (o := 65) (ci := 10) E hK hP hS (c_X10_goes hq hz4) cv_X10_goes tw1213 rfl (by decide) rfl rfl ⟨Nat.le_of_ble_eq_true rfl, Nat.le_of_ble_eq_true rfl⟩ ⟨Nat.le_refl 0, Nat.le_refl 0⟩ hl.1 (Nat.le_of_ble_eq_true rfl) rfl dX10_changes_5) hS (fun H locs hP hS => ?_)
  refine lv_iconst (v := 0) hx hb dX10_changes_8 (by decide) ?_
  refine lv_istore_n (lv' := [(1, .int (0)), (0, .ref (gq G (65)))]) hx hb dX10_changes_9 rfl hl (by decide) rfl (fun ls hl => ?_)
  refine lv_iconst (v := 0) hx hb dX10_changes_10 (by decide) ?_
  refine lv_istore_n (lv' := [(2, .int (0)), (1, .int (0)), (0, .ref (gq G (65)))]) hx hb dX10_changes_11 rfl hl (by decide) rfl (fun ls hl => ?_)
  exact hL12 N (0) (0) S3 _ _ _ hf hP hS (lv_sub hl [2, 1, 0] rfl)
theorem cv_X10_changes : z_cv yX10_changes cX10_changes 4 (some .int) RX10 0 := ⟨⟨tw1397, tw1398⟩, tw1399, tw11, by decide +kernel⟩
def b_X10_again_69 (N : Nat) (k44 : Int32 → Int32 → Int32 → Int32 → St → Option (Int32 × St)) (v1 : Int32) (v2 : Int32) (v5 : Int32) (t0 : Int32) (t1 : Int32) (S : St) : Option (Int32 × St) := k44 (v1) (v2) ((t1 + t0)) ((v5 + 1)) S
def b_X10_again_93 (N : Nat) (t0 : Int32) (S : St) : Option (Int32 × St) := z_bv (f_X10_forgets N S) fun S24 => some (t0, S24)
def b_X10_again_44 (N : Nat) (k44 : Int32 → Int32 → Int32 → Int32 → St → Option (Int32 × St)) (v1 : Int32) (v2 : Int32) (v4 : Int32) (v5 : Int32) (S : St) : Option (Int32 × St) := if v1 ≤ v5 then (if v2 = 0 then (b_X10_again_93 N (v4) S) else (z_gd (z_in 0 (z_ln 78)) (b_X10_again_93 N ((S 78 (0 : Int32).toNatClampNeg)) S))) else (z_bv (f_X10_goes N S) fun S18 => z_bd (f_X10_howNow N S18) fun r21 S20 => if r21 = 3 then (b_X10_again_69 N k44 (v1) (v2) (v5) (1) (v4) S20) else (b_X10_again_69 N k44 (v1) (v2) (v5) (0) (v4) S20))
def f_X10_again_44 (N : Nat) : Nat → Int32 → Int32 → Int32 → Int32 → St → Option (Int32 × St)
  | 0 => fun _ _ _ _ _ => none
  | n + 1 => b_X10_again_44 N (f_X10_again_44 N n)
def b_X10_again_24 (N : Nat) (v1 : Int32) (v2 : Int32) (v3 : Int32) (S : St) : Option (Int32 × St) := if v3 = 0 then (z_bv (f_X10_minds N S) fun S10 => f_X10_again_44 N N (v1) (v2) (0) (0) S10) else (z_bd (f_X10_lower N (v3) S) fun r13 S12 => some (r13, S12))
def f_X10_again (N : Nat) (a1 : Int32) (a2 : Int32) (S : St) : Option (Int32 × St) := z_bd (f_X10_bound N (a1) (1) (20) S) fun r2 S1 => if r2 = 0 then (z_bd (f_X10_isIn N (a2) (0) (1) S1) fun r6 S5 => if r6 = 0 then (b_X10_again_24 N (a1) (a2) ((-2)) S5) else (b_X10_again_24 N (a1) (a2) (r2) S5)) else (b_X10_again_24 N (a1) (a2) (r2) S1)
set_option maxHeartbeats 4000000 in
set_option maxRecDepth 100000 in
theorem c_X10_again {l : Launch} {G : Cx} {X S S' : St} {N : Nat} {a1 : Int32} {a2 : Int32} {r : Int32} (hq : z_inj (gq G)) (hf : f_X10_again N a1 a2 S = some (r, S')) : z_Ct l yX10_again cX10_again 6 (some .int) 6 134 G X S [.ref (gq G (65)), .int (a1), .int (a2)] (z_QI G X S' r) := by
  refine z_start (by decide +kernel) (Nat.le_of_ble_eq_true rfl) ?_
  intro p e s m below meth c ls E hr hlk hK hP hS hl
  have E : CallFix p m c cX10_again 6 s _ lw_good RX10 := E
  have hx := E.1
  have hb := E.2.1
  have hown := E.2.2.2.1
  have hts := E.2.2.2.2
  have hJ69 : ∀ (k44 : Int32 → Int32 → Int32 → Int32 → St → Option (Int32 × St)) (hk44 : ∀ (v1 : Int32) (v2 : Int32) (v4 : Int32) (v5 : Int32) (S : St) (H : Heap) (locs : List Loc) (ls : Array Slot), k44 v1 v2 v4 v5 S = some (r, S') → z_P G X S H → z_S G s.heap H locs → lv_has ls 6 [(0, .ref (gq G (65))), (1, .int (v1)), (2, .int (v2)), (4, .int (v4)), (5, .int (v5))] → W p l e (z_rm 6 134) s m ([.ref (gq G (65)), .int (a1), .int (a2)] : List Value).toArray below meth c H locs 0 0 (MQ below (z_QI G X S' r) ([.ref (gq G (65)), .int (a1), .int (a2)] : List Value).toArray s 0 0 (z_Aq (gq G))) (F0 m 44 ls [])), ∀ (v1 : Int32) (v2 : Int32) (v5 : Int32) (t0 : Int32) (t1 : Int32) (S : St) (H : Heap) (locs : List Loc) (ls : Array Slot), b_X10_again_69 N k44 v1 v2 v5 t0 t1 S = some (r, S') → z_P G X S H → z_S G s.heap H locs → lv_has ls 6 [(0, .ref (gq G (65))), (1, .int (v1)), (2, .int (v2)), (5, .int (v5))] → W p l e (z_rm 6 134) s m ([.ref (gq G (65)), .int (a1), .int (a2)] : List Value).toArray below meth c H locs 0 0 (MQ below (z_QI G X S' r) ([.ref (gq G (65)), .int (a1), .int (a2)] : List Value).toArray s 0 0 (z_Aq (gq G))) (F0 m 69 ls [.int (t0), .int (t1)]) := by
    intro k44 hk44 v1 v2 v5 t0 t1 S H locs ls hf hP hS hl
    unfold b_X10_again_69 at hf
    refine lv_iadd hx hb dX10_again_69 ?_
    refine lv_istore (lv' := [(4, .int ((t1 + t0))), (0, .ref (gq G (65))), (1, .int (v1)), (2, .int (v2)), (5, .int (v5))]) hx hb dX10_again_70 hl (by decide) rfl (fun ls hl => ?_)
    refine lv_iinc (v := (v5 + 1)) (lv' := [(5, .int ((v5 + 1))), (4, .int ((t1 + t0))), (0, .ref (gq G (65))), (1, .int (v1)), (2, .int (v2))]) hx hb dX10_again_72 hl (k := 4) rfl rfl (by decide) rfl (fun ls hl => ?_)
    refine lv_goto (tgt := 44) hx hb dX10_again_75 (by decide) ?_
    exact hk44 (v1) (v2) ((t1 + t0)) ((v5 + 1)) S _ _ _ hf hP hS (lv_sub hl [2, 3, 4, 1, 0] rfl)
  have hJ93 : ∀ (t0 : Int32) (S : St) (H : Heap) (locs : List Loc) (ls : Array Slot), b_X10_again_93 N t0 S = some (r, S') → z_P G X S H → z_S G s.heap H locs → lv_has ls 6 [(0, .ref (gq G (65)))] → W p l e (z_rm 6 134) s m ([.ref (gq G (65)), .int (a1), .int (a2)] : List Value).toArray below meth c H locs 0 0 (MQ below (z_QI G X S' r) ([.ref (gq G (65)), .int (a1), .int (a2)] : List Value).toArray s 0 0 (z_Aq (gq G))) (F0 m 93 ls [.int (t0)]) := by
    intro t0 S H locs ls hf hP hS hl
    unfold b_X10_again_93 at hf
    refine lv_istore (lv' := [(5, .int (t0)), (0, .ref (gq G (65)))]) hx hb dX10_again_93 hl (by decide) rfl (fun ls hl => ?_)
    refine lv_aload_n hx hb dX10_again_95 rfl (lv_at hl 1 rfl) ?_
    obtain ⟨S24, hz25, hf⟩ := z_bv_some hf
    refine z_cvo (z_runV (o := 65) (ci := 10) E hK hP hS (c_X10_forgets hq hz25) cv_X10_forgets tw1371 rfl (by decide) rfl rfl ⟨Nat.le_of_ble_eq_true rfl, Nat.le_of_ble_eq_true rfl⟩ ⟨Nat.le_refl 0, Nat.le_refl 0⟩ hl.1 (Nat.le_of_ble_eq_true rfl) rfl dX10_again_96) hS (fun H locs hP hS => ?_)
    refine lv_iload hx hb dX10_again_99 (lv_at hl 0 rfl) ?_
    exact m_reti hx hb hr hlk hf hP hS dX10_again_101
  have hB44 : ∀ (k44 : Int32 → Int32 → Int32 → Int32 → St → Option (Int32 × St)) (hk44 : ∀ (v1 : Int32) (v2 : Int32) (v4 : Int32) (v5 : Int32) (S : St) (H : Heap) (locs : List Loc) (ls : Array Slot), k44 v1 v2 v4 v5 S = some (r, S') → z_P G X S H → z_S G s.heap H locs → lv_has ls 6 [(0, .ref (gq G (65))), (1, .int (v1)), (2, .int (v2)), (4, .int (v4)), (5, .int (v5))] → W p l e (z_rm 6 134) s m ([.ref (gq G (65)), .int (a1), .int (a2)] : List Value).toArray below meth c H locs 0 0 (MQ below (z_QI G X S' r) ([.ref (gq G (65)), .int (a1), .int (a2)] : List Value).toArray s 0 0 (z_Aq (gq G))) (F0 m 44 ls [])), ∀ (v1 : Int32) (v2 : Int32) (v4 : Int32) (v5 : Int32) (S : St) (H : Heap) (locs : List Loc) (ls : Array Slot), b_X10_again_44 N k44 v1 v2 v4 v5 S = some (r, S') → z_P G X S H → z_S G s.heap H locs → lv_has ls 6 [(0, .ref (gq G (65))), (1, .int (v1)), (2, .int (v2)), (4, .int (v4)), (5, .int (v5))] → W p l e (z_rm 6 134) s m ([.ref (gq G (65)), .int (a1), .int (a2)] : List Value).toArray below meth c H locs 0 0 (MQ below (z_QI G X S' r) ([.ref (gq G (65)), .int (a1), .int (a2)] : List Value).toArray s 0 0 (z_Aq (gq G))) (F0 m 44 ls []) := by
    intro k44 hk44 v1 v2 v4 v5 S H locs ls hf hP hS hl
    unfold b_X10_again_44 at hf
    refine lv_iload hx hb dX10_again_44 (lv_at hl 4 rfl) ?_
    refine lv_iload_n hx hb dX10_again_46 rfl (lv_at hl 1 rfl) ?_
    refine lv_icmp_ge (tgt := 78) hx hb dX10_again_47 (by decide) (fun hc15 => ?_) (fun hc15 => ?_)
    · replace hf := z_ifp hf hc15
      refine lv_iload_n hx hb dX10_again_78 rfl (lv_at hl 2 rfl) ?_
      refine lv_if_ne (tgt := 87) hx hb dX10_again_79 (by decide) (fun hc16 => ?_) (fun hc16 => ?_)
      · replace hf := z_ifn hf hc16
        refine lv_aload_n hx hb dX10_again_87 rfl (lv_at hl 0 rfl) ?_
        refine z_getR (C := RX10) (T := TX10) (N := 75) (ci := 10) (k := 24) (o := 65) (t := 78) E hK hP iwX10 rfl rfl (by decide) (by decide) rfl rfl rfl tw976 dX10_again_88 ?_
        refine lv_iconst (v := 0) hx hb dX10_again_91 (by decide) ?_
        obtain ⟨hg17, hf⟩ := z_gd_some hf
        refine m_ald (o := 78) (i := 0) E hK hP rfl (by decide) hg17 dX10_again_92 ?_
        exact hJ93 ((S 78 (0 : Int32).toNatClampNeg)) S _ _ _ hf hP hS (lv_sub hl [0] rfl)
      · replace hf := z_ifp hf hc16
        refine lv_iload hx hb dX10_again_82 (lv_at hl 3 rfl) ?_
        refine lv_goto (tgt := 93) hx hb dX10_again_84 (by decide) ?_
        exact hJ93 (v4) S _ _ _ hf hP hS (lv_sub hl [0] rfl)
    · replace hf := z_ifn hf hc15
      refine lv_aload_n hx hb dX10_again_50 rfl (lv_at hl 0 rfl) ?_
      obtain ⟨S18, hz19, hf⟩ := z_bv_some hf
      refine z_cvo (z_runV (o := 65) (ci := 10) E hK hP hS (c_X10_goes hq hz19) cv_X10_goes tw1213 rfl (by decide) rfl rfl ⟨Nat.le_of_ble_eq_true rfl, Nat.le_of_ble_eq_true rfl⟩ ⟨Nat.le_refl 0, Nat.le_refl 0⟩ hl.1 (Nat.le_of_ble_eq_true rfl) rfl dX10_again_51) hS (fun H locs hP hS => ?_)
      refine lv_iload hx hb dX10_again_54 (lv_at hl 3 rfl) ?_
      refine lv_aload_n hx hb dX10_again_56 rfl (lv_at hl 0 rfl) ?_
      obtain ⟨r21, S20, hz22, hf⟩ := z_bd_some hf
      refine z_ci (z_runV (o := 65) (ci := 10) E hK hP hS (c_X10_howNow hq hz22) cv_X10_howNow tw1315 rfl (by decide) rfl rfl ⟨Nat.le_of_ble_eq_true rfl, Nat.le_of_ble_eq_true rfl⟩ ⟨Nat.le_refl 0, Nat.le_refl 0⟩ hl.1 (Nat.le_of_ble_eq_true rfl) rfl dX10_again_57) hS (fun H locs hP hS => ?_)
      refine lv_iconst (v := 3) hx hb dX10_again_60 (by decide) ?_
      refine lv_icmp_ne (tgt := 68) hx hb dX10_again_61 (by decide) (fun hc23 => ?_) (fun hc23 => ?_)
      · replace hf := z_ifn hf hc23
        refine lv_iconst (v := 0) hx hb dX10_again_68 (by decide) ?_
        exact hJ69 k44 hk44 (v1) (v2) (v5) (0) (v4) S20 _ _ _ hf hP hS (lv_sub hl [0, 1, 2, 4] rfl)
      · replace hf := z_ifp hf hc23
        refine lv_iconst (v := 1) hx hb dX10_again_64 (by decide) ?_
        refine lv_goto (tgt := 69) hx hb dX10_again_65 (by decide) ?_
        exact hJ69 k44 hk44 (v1) (v2) (v5) (1) (v4) S20 _ _ _ hf hP hS (lv_sub hl [0, 1, 2, 4] rfl)
  have hL44 : ∀ (n : Nat), ∀ (v1 : Int32) (v2 : Int32) (v4 : Int32) (v5 : Int32) (S : St) (H : Heap) (locs : List Loc) (ls : Array Slot), f_X10_again_44 N n v1 v2 v4 v5 S = some (r, S') → z_P G X S H → z_S G s.heap H locs → lv_has ls 6 [(0, .ref (gq G (65))), (1, .int (v1)), (2, .int (v2)), (4, .int (v4)), (5, .int (v5))] → W p l e (z_rm 6 134) s m ([.ref (gq G (65)), .int (a1), .int (a2)] : List Value).toArray below meth c H locs 0 0 (MQ below (z_QI G X S' r) ([.ref (gq G (65)), .int (a1), .int (a2)] : List Value).toArray s 0 0 (z_Aq (gq G))) (F0 m 44 ls []) := by
    intro  n
    induction n with
    | zero => intro _ _ _ _ _ _ _ _ hf; cases hf
    | succ n ih => exact hB44  _  ih
  have hJ24 : ∀ (v1 : Int32) (v2 : Int32) (v3 : Int32) (S : St) (H : Heap) (locs : List Loc) (ls : Array Slot), b_X10_again_24 N v1 v2 v3 S = some (r, S') → z_P G X S H → z_S G s.heap H locs → lv_has ls 6 [(0, .ref (gq G (65))), (1, .int (v1)), (2, .int (v2)), (3, .int (v3))] → W p l e (z_rm 6 134) s m ([.ref (gq G (65)), .int (a1), .int (a2)] : List Value).toArray below meth c H locs 0 0 (MQ below (z_QI G X S' r) ([.ref (gq G (65)), .int (a1), .int (a2)] : List Value).toArray s 0 0 (z_Aq (gq G))) (F0 m 24 ls []) := by
    intro v1 v2 v3 S H locs ls hf hP hS hl
    unfold b_X10_again_24 at hf
    refine lv_iload_n hx hb dX10_again_24 rfl (lv_at hl 3 rfl) ?_
    refine lv_if_eq (tgt := 34) hx hb dX10_again_25 (by decide) (fun hc9 => ?_) (fun hc9 => ?_)
    · replace hf := z_ifp hf hc9
      refine lv_aload_n hx hb dX10_again_34 rfl (lv_at hl 0 rfl) ?_
      obtain ⟨S10, hz11, hf⟩ := z_bv_some hf
      refine z_cvo (z_runV (o := 65) (ci := 10) E hK hP hS (c_X10_minds hq hz11) cv_X10_minds tw1367 rfl (by decide) rfl rfl ⟨Nat.le_of_ble_eq_true rfl, Nat.le_of_ble_eq_true rfl⟩ ⟨Nat.le_refl 0, Nat.le_refl 0⟩ hl.1 (Nat.le_of_ble_eq_true rfl) rfl dX10_again_35) hS (fun H locs hP hS => ?_)
      refine lv_iconst (v := 0) hx hb dX10_again_38 (by decide) ?_
      refine lv_istore (lv' := [(4, .int (0)), (0, .ref (gq G (65))), (1, .int (v1)), (2, .int (v2)), (3, .int (v3))]) hx hb dX10_again_39 hl (by decide) rfl (fun ls hl => ?_)
      refine lv_iconst (v := 0) hx hb dX10_again_41 (by decide) ?_
      refine lv_istore (lv' := [(5, .int (0)), (4, .int (0)), (0, .ref (gq G (65))), (1, .int (v1)), (2, .int (v2)), (3, .int (v3))]) hx hb dX10_again_42 hl (by decide) rfl (fun ls hl => ?_)
      exact hL44 N (v1) (v2) (0) (0) S10 _ _ _ hf hP hS (lv_sub hl [2, 3, 4, 1, 0] rfl)
    · replace hf := z_ifn hf hc9
      refine lv_aload_n hx hb dX10_again_28 rfl (lv_at hl 0 rfl) ?_
      refine lv_iload_n hx hb dX10_again_29 rfl (lv_at hl 3 rfl) ?_
      obtain ⟨r13, S12, hz14, hf⟩ := z_bd_some hf
      refine z_ci (z_runV (o := 65) (ci := 10) E hK hP hS (c_X10_lower hq hz14) cv_X10_lower tw1331 rfl (by decide) rfl rfl ⟨Nat.le_of_ble_eq_true rfl, Nat.le_of_ble_eq_true rfl⟩ ⟨Nat.le_refl 0, Nat.le_refl 0⟩ hl.1 (Nat.le_of_ble_eq_true rfl) rfl dX10_again_30) hS (fun H locs hP hS => ?_)
      exact m_reti hx hb hr hlk hf hP hS dX10_again_33
  have hl : lv_has ls 6 [(0, .ref (gq G (65))), (1, .int (a1)), (2, .int (a2))] := hl
  unfold f_X10_again at hf
  refine lv_iload_n hx hb dX10_again_0 rfl (lv_at hl 1 rfl) ?_
  refine lv_iconst (v := 1) hx hb dX10_again_1 (by decide) ?_
  refine lv_bipush (v := 20) hx hb dX10_again_2 (by decide) ?_
  obtain ⟨r2, S1, hz3, hf⟩ := z_bd_some hf
  refine z_ci (z_runS E hK hP hS (c_X10_bound hq hz3) cs_X10_bound tw1182 rfl ⟨Nat.le_of_ble_eq_true rfl, Nat.le_of_ble_eq_true rfl⟩ ⟨Nat.le_refl 0, Nat.le_refl 0⟩ hl.1 (Nat.le_of_ble_eq_true rfl) rfl dX10_again_4) hS (fun H locs hP hS => ?_)
  refine lv_istore_n (lv' := [(3, .int (r2)), (0, .ref (gq G (65))), (1, .int (a1)), (2, .int (a2))]) hx hb dX10_again_7 rfl hl (by decide) rfl (fun ls hl => ?_)
  refine lv_iload_n hx hb dX10_again_8 rfl (lv_at hl 0 rfl) ?_
  refine lv_if_ne (tgt := 24) hx hb dX10_again_9 (by decide) (fun hc4 => ?_) (fun hc4 => ?_)
  · replace hf := z_ifn hf hc4
    exact hJ24 (a1) (a2) (r2) S1 _ _ _ hf hP hS (lv_sub hl [1, 2, 3, 0] rfl)
  · replace hf := z_ifp hf hc4
    refine lv_iload_n hx hb dX10_again_12 rfl (lv_at hl 3 rfl) ?_
    refine lv_iconst (v := 0) hx hb dX10_again_13 (by decide) ?_
    refine lv_iconst (v := 1) hx hb dX10_again_14 (by decide) ?_
    obtain ⟨r6, S5, hz7, hf⟩ := z_bd_some hf
    refine z_ci (z_runS E hK hP hS (c_X10_isIn hq hz7) cs_X10_isIn tw943 rfl ⟨Nat.le_of_ble_eq_true rfl, Nat.le_of_ble_eq_true rfl⟩ ⟨Nat.le_refl 0, Nat.le_refl 0⟩ hl.1 (Nat.le_of_ble_eq_true rfl) rfl dX10_again_15) hS (fun H locs hP hS => ?_)
    refine lv_if_ne (tgt := 24) hx hb dX10_again_18 (by decide) (fun hc8 => ?_) (fun hc8 => ?_)
    · replace hf := z_ifn hf hc8
      exact hJ24 (a1) (a2) (r2) S5 _ _ _ hf hP hS (lv_sub hl [1, 2, 3, 0] rfl)
    · replace hf := z_ifp hf hc8
      refine lv_bipush (v := (-2)) hx hb dX10_again_21 (by decide) ?_
      refine lv_istore_n (lv' := [(3, .int ((-2))), (0, .ref (gq G (65))), (1, .int (a1)), (2, .int (a2))]) hx hb dX10_again_23 rfl hl (by decide) rfl (fun ls hl => ?_)
      exact hJ24 (a1) (a2) ((-2)) S5 _ _ _ hf hP hS (lv_sub hl [1, 2, 3, 0] rfl)
theorem cv_X10_again : z_cv yX10_again cX10_again 6 (some .int) RX10 2 := ⟨⟨tw1401, tw1402⟩, tw1403, tw11, by decide +kernel⟩
def b_X10_divisor_6 (N : Nat) (k6 : Int64 → Int64 → St → Option (Int64 × St)) (v4 : Int64) (v6 : Int64) (S : St) : Option (Int64 × St) := if (lg_cmp v6 0) = 0 then (some (v4, S)) else (z_gd (¬ v6 = 0) (k6 (v6) ((v4 - v4 / v6 * v6)) S))
def f_X10_divisor_6 (N : Nat) : Nat → Int64 → Int64 → St → Option (Int64 × St)
  | 0 => fun _ _ _ => none
  | n + 1 => b_X10_divisor_6 N (f_X10_divisor_6 N n)
def f_X10_divisor (N : Nat) (a1 : Int64) (a2 : Int64) (S : St) : Option (Int64 × St) := f_X10_divisor_6 N N (a1) (a2) S
set_option maxHeartbeats 4000000 in
set_option maxRecDepth 100000 in
theorem c_X10_divisor {l : Launch} {G : Cx} {X S S' : St} {N : Nat} {a1 : Int64} {a2 : Int64} {r : Int64} (hq : z_inj (gq G)) (hf : f_X10_divisor N a1 a2 S = some (r, S')) : z_Ct l yX10_divisor cX10_divisor 10 (some .long) 0 0 G X S [.long (a1), .long (a2)] (z_QL G X S' r) := by
  refine z_start (by decide +kernel) (Nat.le_of_ble_eq_true rfl) ?_
  intro p e s m below meth c ls E hr hlk hK hP hS hl
  have E : CallFix p m c cX10_divisor 10 s _ lw_good RX10 := E
  have hx := E.1
  have hb := E.2.1
  have hown := E.2.2.2.1
  have hts := E.2.2.2.2
  have hB6 : ∀ (k6 : Int64 → Int64 → St → Option (Int64 × St)) (hk6 : ∀ (v4 : Int64) (v6 : Int64) (S : St) (H : Heap) (locs : List Loc) (ls : Array Slot), k6 v4 v6 S = some (r, S') → z_P G X S H → z_S G s.heap H locs → lv_has ls 10 [(4, .long (v4)), (6, .long (v6))] → W p l e (z_rm 0 0) s m ([.long (a1), .long (a2)] : List Value).toArray below meth c H locs 0 0 (MQ below (z_QL G X S' r) ([.long (a1), .long (a2)] : List Value).toArray s 0 0 (z_Aq (gq G))) (F0 m 6 ls [])), ∀ (v4 : Int64) (v6 : Int64) (S : St) (H : Heap) (locs : List Loc) (ls : Array Slot), b_X10_divisor_6 N k6 v4 v6 S = some (r, S') → z_P G X S H → z_S G s.heap H locs → lv_has ls 10 [(4, .long (v4)), (6, .long (v6))] → W p l e (z_rm 0 0) s m ([.long (a1), .long (a2)] : List Value).toArray below meth c H locs 0 0 (MQ below (z_QL G X S' r) ([.long (a1), .long (a2)] : List Value).toArray s 0 0 (z_Aq (gq G))) (F0 m 6 ls []) := by
    intro k6 hk6 v4 v6 S H locs ls hf hP hS hl
    unfold b_X10_divisor_6 at hf
    refine lv_lload hx hb dX10_divisor_6 (lv_at hl 1 rfl) ?_
    refine lv_lconst (v := 0) hx hb dX10_divisor_8 (by decide) ?_
    refine W.lcmp hx hb dX10_divisor_9 ?_
    refine lv_if_eq (tgt := 31) hx hb dX10_divisor_10 (by decide) (fun hc1 => ?_) (fun hc1 => ?_)
    · replace hf := z_ifp hf hc1
      refine lv_lload hx hb dX10_divisor_31 (lv_at hl 0 rfl) ?_
      exact m_retl hx hb hr hlk hf hP hS dX10_divisor_33
    · replace hf := z_ifn hf hc1
      refine lv_lload hx hb dX10_divisor_13 (lv_at hl 0 rfl) ?_
      refine lv_lload hx hb dX10_divisor_15 (lv_at hl 1 rfl) ?_
      obtain ⟨hg2, hf⟩ := z_gd_some hf
      refine lv_lrem hx hb dX10_divisor_17 hg2 ?_
      refine lv_lstore (lv' := [(8, .long ((v4 - v4 / v6 * v6))), (4, .long (v4)), (6, .long (v6))]) hx hb dX10_divisor_18 hl (by decide) rfl (fun ls hl => ?_)
      refine lv_lload hx hb dX10_divisor_20 (lv_at hl 2 rfl) ?_
      refine lv_lstore (lv' := [(4, .long (v6)), (8, .long ((v4 - v4 / v6 * v6))), (6, .long (v6))]) hx hb dX10_divisor_22 hl (by decide) rfl (fun ls hl => ?_)
      refine lv_lload hx hb dX10_divisor_24 (lv_at hl 1 rfl) ?_
      refine lv_lstore (lv' := [(6, .long ((v4 - v4 / v6 * v6))), (4, .long (v6)), (8, .long ((v4 - v4 / v6 * v6)))]) hx hb dX10_divisor_26 hl (by decide) rfl (fun ls hl => ?_)
      refine lv_goto (tgt := 6) hx hb dX10_divisor_28 (by decide) ?_
      exact hk6 (v6) ((v4 - v4 / v6 * v6)) S _ _ _ hf hP hS (lv_sub hl [1, 0] rfl)
  have hL6 : ∀ (n : Nat), ∀ (v4 : Int64) (v6 : Int64) (S : St) (H : Heap) (locs : List Loc) (ls : Array Slot), f_X10_divisor_6 N n v4 v6 S = some (r, S') → z_P G X S H → z_S G s.heap H locs → lv_has ls 10 [(4, .long (v4)), (6, .long (v6))] → W p l e (z_rm 0 0) s m ([.long (a1), .long (a2)] : List Value).toArray below meth c H locs 0 0 (MQ below (z_QL G X S' r) ([.long (a1), .long (a2)] : List Value).toArray s 0 0 (z_Aq (gq G))) (F0 m 6 ls []) := by
    intro  n
    induction n with
    | zero => intro _ _ _ _ _ _ hf; cases hf
    | succ n ih => exact hB6  _  ih
  have hl : lv_has ls 10 [(0, .long (a1)), (2, .long (a2))] := hl
  unfold f_X10_divisor at hf
  refine lv_lload_n hx hb dX10_divisor_0 rfl (lv_at hl 0 rfl) ?_
  refine lv_lstore (lv' := [(4, .long (a1)), (0, .long (a1)), (2, .long (a2))]) hx hb dX10_divisor_1 hl (by decide) rfl (fun ls hl => ?_)
  refine lv_lload_n hx hb dX10_divisor_3 rfl (lv_at hl 2 rfl) ?_
  refine lv_lstore (lv' := [(6, .long (a2)), (4, .long (a1)), (0, .long (a1)), (2, .long (a2))]) hx hb dX10_divisor_4 hl (by decide) rfl (fun ls hl => ?_)
  exact hL6 N (a1) (a2) S _ _ _ hf hP hS (lv_sub hl [1, 0] rfl)
theorem cs_X10_divisor : z_cs yX10_divisor cX10_divisor 10 (some .long) 2 := ⟨tw1417, tw1418, tw11, by decide +kernel⟩
def b_X10_partOf_10 (N : Nat) (v0 : Int64) (v2 : Int64) (t0 : Int64) (S : St) : Option (Int64 × St) := z_bd (f_X10_divisor N (v0) (v2) S) fun r3 S2 => z_gd (¬ r3 = 0) (some ((t0 / r3), S2))
def f_X10_partOf (N : Nat) (a1 : Int64) (a2 : Int64) (a3 : Int32) (S : St) : Option (Int64 × St) := if a3 = 0 then (b_X10_partOf_10 N (a1) (a2) (a1) S) else (b_X10_partOf_10 N (a1) (a2) (a2) S)
set_option maxHeartbeats 4000000 in
set_option maxRecDepth 100000 in
theorem c_X10_partOf {l : Launch} {G : Cx} {X S S' : St} {N : Nat} {a1 : Int64} {a2 : Int64} {a3 : Int32} {r : Int64} (hq : z_inj (gq G)) (hf : f_X10_partOf N a1 a2 a3 S = some (r, S')) : z_Ct l yX10_partOf cX10_partOf 5 (some .long) 1 29 G X S [.long (a1), .long (a2), .int (a3)] (z_QL G X S' r) := by
  refine z_start (by decide +kernel) (Nat.le_of_ble_eq_true rfl) ?_
  intro p e s m below meth c ls E hr hlk hK hP hS hl
  have E : CallFix p m c cX10_partOf 5 s _ lw_good RX10 := E
  have hx := E.1
  have hb := E.2.1
  have hown := E.2.2.2.1
  have hts := E.2.2.2.2
  have hJ10 : ∀ (v0 : Int64) (v2 : Int64) (t0 : Int64) (S : St) (H : Heap) (locs : List Loc) (ls : Array Slot), b_X10_partOf_10 N v0 v2 t0 S = some (r, S') → z_P G X S H → z_S G s.heap H locs → lv_has ls 5 [(0, .long (v0)), (2, .long (v2))] → W p l e (z_rm 1 29) s m ([.long (a1), .long (a2), .int (a3)] : List Value).toArray below meth c H locs 0 0 (MQ below (z_QL G X S' r) ([.long (a1), .long (a2), .int (a3)] : List Value).toArray s 0 0 (z_Aq (gq G))) (F0 m 10 ls [.long (t0)]) := by
    intro v0 v2 t0 S H locs ls hf hP hS hl
    unfold b_X10_partOf_10 at hf
    refine lv_lload_n hx hb dX10_partOf_10 rfl (lv_at hl 0 rfl) ?_
    refine lv_lload_n hx hb dX10_partOf_11 rfl (lv_at hl 1 rfl) ?_
    obtain ⟨r3, S2, hz4, hf⟩ := z_bd_some hf
    refine z_cl (z_runS E hK hP hS (c_X10_divisor hq hz4) cs_X10_divisor tw1416 rfl ⟨Nat.le_of_ble_eq_true rfl, Nat.le_of_ble_eq_true rfl⟩ ⟨Nat.le_refl 0, Nat.le_refl 0⟩ hl.1 (Nat.le_of_ble_eq_true rfl) rfl dX10_partOf_12) hS (fun H locs hP hS => ?_)
    obtain ⟨hg5, hf⟩ := z_gd_some hf
    refine lv_ldiv hx hb dX10_partOf_15 hg5 ?_
    exact m_retl hx hb hr hlk hf hP hS dX10_partOf_16
  have hl : lv_has ls 5 [(0, .long (a1)), (2, .long (a2)), (4, .int (a3))] := hl
  unfold f_X10_partOf at hf
  refine lv_iload hx hb dX10_partOf_0 (lv_at hl 2 rfl) ?_
  refine lv_if_ne (tgt := 9) hx hb dX10_partOf_2 (by decide) (fun hc1 => ?_) (fun hc1 => ?_)
  · replace hf := z_ifn hf hc1
    refine lv_lload_n hx hb dX10_partOf_9 rfl (lv_at hl 1 rfl) ?_
    exact hJ10 (a1) (a2) (a2) S _ _ _ hf hP hS (lv_sub hl [0, 1] rfl)
  · replace hf := z_ifp hf hc1
    refine lv_lload_n hx hb dX10_partOf_5 rfl (lv_at hl 0 rfl) ?_
    refine lv_goto (tgt := 10) hx hb dX10_partOf_6 (by decide) ?_
    exact hJ10 (a1) (a2) (a1) S _ _ _ hf hP hS (lv_sub hl [0, 1] rfl)
theorem cs_X10_partOf : z_cs yX10_partOf cX10_partOf 5 (some .long) 3 := ⟨tw1414, tw1415, tw11, by decide +kernel⟩
def b_X10_likely_98 (N : Nat) (k40 : Int32 → Int32 → Int64 → Int32 → St → Option (Int64 × St)) (k57 : Int32 → Int32 → Int64 → Int32 → Int64 → Int32 → St → Option (Int64 × St)) (v1 : Int32) (v2 : Int32) (v4 : Int64) (v6 : Int32) (v9 : Int32) (t0 : Int64) (t1 : Int64) (S : St) : Option (Int64 × St) := k57 (v1) (v2) (v4) (v6) ((t1 * t0)) ((v9 + 1)) S
def b_X10_likely_127 (N : Nat) (k40 : Int32 → Int32 → Int64 → Int32 → St → Option (Int64 × St)) (v1 : Int32) (v2 : Int32) (v6 : Int32) (t0 : Int64) (t1 : Int64) (S : St) : Option (Int64 × St) := z_bv (f_X10_forgets N S) fun S30 => k40 (v1) (v2) ((t1 + t0)) ((v6 + 1)) S30
def b_X10_likely_57 (N : Nat) (k40 : Int32 → Int32 → Int64 → Int32 → St → Option (Int64 × St)) (k57 : Int32 → Int32 → Int64 → Int32 → Int64 → Int32 → St → Option (Int64 × St)) (v1 : Int32) (v2 : Int32) (v4 : Int64) (v6 : Int32) (v7 : Int64) (v9 : Int32) (S : St) : Option (Int64 × St) := if 3 ≤ v9 then (z_bv (f_X10_goes N S) fun S20 => z_bd (f_X10_howNow N S20) fun r23 S22 => if r23 = 3 then (b_X10_likely_127 N k40 (v1) (v2) (v6) (0) (v4) S22) else (b_X10_likely_127 N k40 (v1) (v2) (v6) (v7) (v4) S22)) else (z_gd (z_in v9 (z_ln 78)) (z_lt (z_wr S 78 (v9 : Int32).toNatClampNeg ((v6 >>> (v9 &&& 31)) &&& 1)) fun S27 => z_gd (z_in v9 (z_ln 78)) (if (S27 78 (v9 : Int32).toNatClampNeg) = 1 then (b_X10_likely_98 N k40 k57 (v1) (v2) (v4) (v6) (v9) (1) (v7) S27) else (b_X10_likely_98 N k40 k57 (v1) (v2) (v4) (v6) (v9) ((((v1 - 1) : Int32).toInt64)) (v7) S27))))
def f_X10_likely_57 (N : Nat) (k40 : Int32 → Int32 → Int64 → Int32 → St → Option (Int64 × St)) : Nat → Int32 → Int32 → Int64 → Int32 → Int64 → Int32 → St → Option (Int64 × St)
  | 0 => fun _ _ _ _ _ _ _ => none
  | n + 1 => b_X10_likely_57 N k40 (f_X10_likely_57 N k40 n)
def b_X10_likely_40 (N : Nat) (k40 : Int32 → Int32 → Int64 → Int32 → St → Option (Int64 × St)) (v1 : Int32) (v2 : Int32) (v4 : Int64) (v6 : Int32) (S : St) : Option (Int64 × St) := if 8 ≤ v6 then (z_bd (f_X10_partOf N (v4) (((((v1 : Int32).toInt64) * ((v1 : Int32).toInt64)) * ((v1 : Int32).toInt64))) (v2) S) fun r15 S14 => some (r15, S14)) else (z_bv (f_X10_minds N S) fun S17 => f_X10_likely_57 N k40 N (v1) (v2) (v4) (v6) (1) (0) S17)
def f_X10_likely_40 (N : Nat) : Nat → Int32 → Int32 → Int64 → Int32 → St → Option (Int64 × St)
  | 0 => fun _ _ _ _ _ => none
  | n + 1 => b_X10_likely_40 N (f_X10_likely_40 N n)
def b_X10_likely_24 (N : Nat) (v1 : Int32) (v2 : Int32) (v3 : Int32) (S : St) : Option (Int64 × St) := if v3 = 0 then (f_X10_likely_40 N N (v1) (v2) (0) (0) S) else (z_bd (f_X10_lowestOf N (v3) S) fun r11 S10 => some (r11, S10))
def f_X10_likely (N : Nat) (a1 : Int32) (a2 : Int32) (S : St) : Option (Int64 × St) := z_bd (f_X10_bound N (a1) (2) (20) S) fun r2 S1 => if r2 = 0 then (z_bd (f_X10_isIn N (a2) (0) (1) S1) fun r6 S5 => if r6 = 0 then (b_X10_likely_24 N (a1) (a2) ((-2)) S5) else (b_X10_likely_24 N (a1) (a2) (r2) S5)) else (b_X10_likely_24 N (a1) (a2) (r2) S1)
set_option maxHeartbeats 4000000 in
set_option maxRecDepth 100000 in
theorem c_X10_likely {l : Launch} {G : Cx} {X S S' : St} {N : Nat} {a1 : Int32} {a2 : Int32} {r : Int64} (hq : z_inj (gq G)) (hf : f_X10_likely N a1 a2 S = some (r, S')) : z_Ct l yX10_likely cX10_likely 10 (some .long) 6 134 G X S [.ref (gq G (65)), .int (a1), .int (a2)] (z_QL G X S' r) := by
  refine z_start (by decide +kernel) (Nat.le_of_ble_eq_true rfl) ?_
  intro p e s m below meth c ls E hr hlk hK hP hS hl
  have E : CallFix p m c cX10_likely 10 s _ lw_good RX10 := E
  have hx := E.1
  have hb := E.2.1
  have hown := E.2.2.2.1
  have hts := E.2.2.2.2
  have hJ98 : ∀ (k40 : Int32 → Int32 → Int64 → Int32 → St → Option (Int64 × St)) (k57 : Int32 → Int32 → Int64 → Int32 → Int64 → Int32 → St → Option (Int64 × St)) (hk40 : ∀ (v1 : Int32) (v2 : Int32) (v4 : Int64) (v6 : Int32) (S : St) (H : Heap) (locs : List Loc) (ls : Array Slot), k40 v1 v2 v4 v6 S = some (r, S') → z_P G X S H → z_S G s.heap H locs → lv_has ls 10 [(0, .ref (gq G (65))), (1, .int (v1)), (2, .int (v2)), (4, .long (v4)), (6, .int (v6))] → W p l e (z_rm 6 134) s m ([.ref (gq G (65)), .int (a1), .int (a2)] : List Value).toArray below meth c H locs 0 0 (MQ below (z_QL G X S' r) ([.ref (gq G (65)), .int (a1), .int (a2)] : List Value).toArray s 0 0 (z_Aq (gq G))) (F0 m 40 ls [])) (hk57 : ∀ (v1 : Int32) (v2 : Int32) (v4 : Int64) (v6 : Int32) (v7 : Int64) (v9 : Int32) (S : St) (H : Heap) (locs : List Loc) (ls : Array Slot), k57 v1 v2 v4 v6 v7 v9 S = some (r, S') → z_P G X S H → z_S G s.heap H locs → lv_has ls 10 [(0, .ref (gq G (65))), (1, .int (v1)), (2, .int (v2)), (4, .long (v4)), (6, .int (v6)), (7, .long (v7)), (9, .int (v9))] → W p l e (z_rm 6 134) s m ([.ref (gq G (65)), .int (a1), .int (a2)] : List Value).toArray below meth c H locs 0 0 (MQ below (z_QL G X S' r) ([.ref (gq G (65)), .int (a1), .int (a2)] : List Value).toArray s 0 0 (z_Aq (gq G))) (F0 m 57 ls [])), ∀ (v1 : Int32) (v2 : Int32) (v4 : Int64) (v6 : Int32) (v9 : Int32) (t0 : Int64) (t1 : Int64) (S : St) (H : Heap) (locs : List Loc) (ls : Array Slot), b_X10_likely_98 N k40 k57 v1 v2 v4 v6 v9 t0 t1 S = some (r, S') → z_P G X S H → z_S G s.heap H locs → lv_has ls 10 [(0, .ref (gq G (65))), (1, .int (v1)), (2, .int (v2)), (4, .long (v4)), (6, .int (v6)), (9, .int (v9))] → W p l e (z_rm 6 134) s m ([.ref (gq G (65)), .int (a1), .int (a2)] : List Value).toArray below meth c H locs 0 0 (MQ below (z_QL G X S' r) ([.ref (gq G (65)), .int (a1), .int (a2)] : List Value).toArray s 0 0 (z_Aq (gq G))) (F0 m 98 ls [.long (t0), .long (t1)]) := by
    intro k40 k57 hk40 hk57 v1 v2 v4 v6 v9 t0 t1 S H locs ls hf hP hS hl
    unfold b_X10_likely_98 at hf
    refine lv_lmul hx hb dX10_likely_98 ?_
    refine lv_lstore (lv' := [(7, .long ((t1 * t0))), (0, .ref (gq G (65))), (1, .int (v1)), (2, .int (v2)), (4, .long (v4)), (6, .int (v6)), (9, .int (v9))]) hx hb dX10_likely_99 hl (by decide) rfl (fun ls hl => ?_)
    refine lv_iinc (v := (v9 + 1)) (lv' := [(9, .int ((v9 + 1))), (7, .long ((t1 * t0))), (0, .ref (gq G (65))), (1, .int (v1)), (2, .int (v2)), (4, .long (v4)), (6, .int (v6))]) hx hb dX10_likely_101 hl (k := 6) rfl rfl (by decide) rfl (fun ls hl => ?_)
    refine lv_goto (tgt := 57) hx hb dX10_likely_104 (by decide) ?_
    exact hk57 (v1) (v2) (v4) (v6) ((t1 * t0)) ((v9 + 1)) S _ _ _ hf hP hS (lv_sub hl [2, 3, 4, 5, 6, 1, 0] rfl)
  have hJ127 : ∀ (k40 : Int32 → Int32 → Int64 → Int32 → St → Option (Int64 × St)) (hk40 : ∀ (v1 : Int32) (v2 : Int32) (v4 : Int64) (v6 : Int32) (S : St) (H : Heap) (locs : List Loc) (ls : Array Slot), k40 v1 v2 v4 v6 S = some (r, S') → z_P G X S H → z_S G s.heap H locs → lv_has ls 10 [(0, .ref (gq G (65))), (1, .int (v1)), (2, .int (v2)), (4, .long (v4)), (6, .int (v6))] → W p l e (z_rm 6 134) s m ([.ref (gq G (65)), .int (a1), .int (a2)] : List Value).toArray below meth c H locs 0 0 (MQ below (z_QL G X S' r) ([.ref (gq G (65)), .int (a1), .int (a2)] : List Value).toArray s 0 0 (z_Aq (gq G))) (F0 m 40 ls [])), ∀ (v1 : Int32) (v2 : Int32) (v6 : Int32) (t0 : Int64) (t1 : Int64) (S : St) (H : Heap) (locs : List Loc) (ls : Array Slot), b_X10_likely_127 N k40 v1 v2 v6 t0 t1 S = some (r, S') → z_P G X S H → z_S G s.heap H locs → lv_has ls 10 [(0, .ref (gq G (65))), (1, .int (v1)), (2, .int (v2)), (6, .int (v6))] → W p l e (z_rm 6 134) s m ([.ref (gq G (65)), .int (a1), .int (a2)] : List Value).toArray below meth c H locs 0 0 (MQ below (z_QL G X S' r) ([.ref (gq G (65)), .int (a1), .int (a2)] : List Value).toArray s 0 0 (z_Aq (gq G))) (F0 m 127 ls [.long (t0), .long (t1)]) := by
    intro k40 hk40 v1 v2 v6 t0 t1 S H locs ls hf hP hS hl
    unfold b_X10_likely_127 at hf
    refine lv_ladd hx hb dX10_likely_127 ?_
    refine lv_lstore (lv' := [(4, .long ((t1 + t0))), (0, .ref (gq G (65))), (1, .int (v1)), (2, .int (v2)), (6, .int (v6))]) hx hb dX10_likely_128 hl (by decide) rfl (fun ls hl => ?_)
    refine lv_aload_n hx hb dX10_likely_130 rfl (lv_at hl 1 rfl) ?_
    obtain ⟨S30, hz31, hf⟩ := z_bv_some hf
    refine z_cvo (z_runV (o := 65) (ci := 10) E hK hP hS (c_X10_forgets hq hz31) cv_X10_forgets tw1371 rfl (by decide) rfl rfl ⟨Nat.le_of_ble_eq_true rfl, Nat.le_of_ble_eq_true rfl⟩ ⟨Nat.le_refl 0, Nat.le_refl 0⟩ hl.1 (Nat.le_of_ble_eq_true rfl) rfl dX10_likely_131) hS (fun H locs hP hS => ?_)
    refine lv_iinc (v := (v6 + 1)) (lv' := [(6, .int ((v6 + 1))), (4, .long ((t1 + t0))), (0, .ref (gq G (65))), (1, .int (v1)), (2, .int (v2))]) hx hb dX10_likely_134 hl (k := 4) rfl rfl (by decide) rfl (fun ls hl => ?_)
    refine lv_goto (tgt := 40) hx hb dX10_likely_137 (by decide) ?_
    exact hk40 (v1) (v2) ((t1 + t0)) ((v6 + 1)) S30 _ _ _ hf hP hS (lv_sub hl [2, 3, 4, 1, 0] rfl)
  have hB57 : ∀ (k40 : Int32 → Int32 → Int64 → Int32 → St → Option (Int64 × St)) (k57 : Int32 → Int32 → Int64 → Int32 → Int64 → Int32 → St → Option (Int64 × St)) (hk40 : ∀ (v1 : Int32) (v2 : Int32) (v4 : Int64) (v6 : Int32) (S : St) (H : Heap) (locs : List Loc) (ls : Array Slot), k40 v1 v2 v4 v6 S = some (r, S') → z_P G X S H → z_S G s.heap H locs → lv_has ls 10 [(0, .ref (gq G (65))), (1, .int (v1)), (2, .int (v2)), (4, .long (v4)), (6, .int (v6))] → W p l e (z_rm 6 134) s m ([.ref (gq G (65)), .int (a1), .int (a2)] : List Value).toArray below meth c H locs 0 0 (MQ below (z_QL G X S' r) ([.ref (gq G (65)), .int (a1), .int (a2)] : List Value).toArray s 0 0 (z_Aq (gq G))) (F0 m 40 ls [])) (hk57 : ∀ (v1 : Int32) (v2 : Int32) (v4 : Int64) (v6 : Int32) (v7 : Int64) (v9 : Int32) (S : St) (H : Heap) (locs : List Loc) (ls : Array Slot), k57 v1 v2 v4 v6 v7 v9 S = some (r, S') → z_P G X S H → z_S G s.heap H locs → lv_has ls 10 [(0, .ref (gq G (65))), (1, .int (v1)), (2, .int (v2)), (4, .long (v4)), (6, .int (v6)), (7, .long (v7)), (9, .int (v9))] → W p l e (z_rm 6 134) s m ([.ref (gq G (65)), .int (a1), .int (a2)] : List Value).toArray below meth c H locs 0 0 (MQ below (z_QL G X S' r) ([.ref (gq G (65)), .int (a1), .int (a2)] : List Value).toArray s 0 0 (z_Aq (gq G))) (F0 m 57 ls [])), ∀ (v1 : Int32) (v2 : Int32) (v4 : Int64) (v6 : Int32) (v7 : Int64) (v9 : Int32) (S : St) (H : Heap) (locs : List Loc) (ls : Array Slot), b_X10_likely_57 N k40 k57 v1 v2 v4 v6 v7 v9 S = some (r, S') → z_P G X S H → z_S G s.heap H locs → lv_has ls 10 [(0, .ref (gq G (65))), (1, .int (v1)), (2, .int (v2)), (4, .long (v4)), (6, .int (v6)), (7, .long (v7)), (9, .int (v9))] → W p l e (z_rm 6 134) s m ([.ref (gq G (65)), .int (a1), .int (a2)] : List Value).toArray below meth c H locs 0 0 (MQ below (z_QL G X S' r) ([.ref (gq G (65)), .int (a1), .int (a2)] : List Value).toArray s 0 0 (z_Aq (gq G))) (F0 m 57 ls []) := by
    intro k40 k57 hk40 hk57 v1 v2 v4 v6 v7 v9 S H locs ls hf hP hS hl
    unfold b_X10_likely_57 at hf
    refine lv_iload hx hb dX10_likely_57 (lv_at hl 6 rfl) ?_
    refine lv_iconst (v := 3) hx hb dX10_likely_59 (by decide) ?_
    refine lv_icmp_ge (tgt := 107) hx hb dX10_likely_60 (by decide) (fun hc19 => ?_) (fun hc19 => ?_)
    · replace hf := z_ifp hf hc19
      refine lv_aload_n hx hb dX10_likely_107 rfl (lv_at hl 0 rfl) ?_
      obtain ⟨S20, hz21, hf⟩ := z_bv_some hf
      refine z_cvo (z_runV (o := 65) (ci := 10) E hK hP hS (c_X10_goes hq hz21) cv_X10_goes tw1213 rfl (by decide) rfl rfl ⟨Nat.le_of_ble_eq_true rfl, Nat.le_of_ble_eq_true rfl⟩ ⟨Nat.le_refl 0, Nat.le_refl 0⟩ hl.1 (Nat.le_of_ble_eq_true rfl) rfl dX10_likely_108) hS (fun H locs hP hS => ?_)
      refine lv_lload hx hb dX10_likely_111 (lv_at hl 3 rfl) ?_
      refine lv_aload_n hx hb dX10_likely_113 rfl (lv_at hl 0 rfl) ?_
      obtain ⟨r23, S22, hz24, hf⟩ := z_bd_some hf
      refine z_ci (z_runV (o := 65) (ci := 10) E hK hP hS (c_X10_howNow hq hz24) cv_X10_howNow tw1315 rfl (by decide) rfl rfl ⟨Nat.le_of_ble_eq_true rfl, Nat.le_of_ble_eq_true rfl⟩ ⟨Nat.le_refl 0, Nat.le_refl 0⟩ hl.1 (Nat.le_of_ble_eq_true rfl) rfl dX10_likely_114) hS (fun H locs hP hS => ?_)
      refine lv_iconst (v := 3) hx hb dX10_likely_117 (by decide) ?_
      refine lv_icmp_ne (tgt := 125) hx hb dX10_likely_118 (by decide) (fun hc25 => ?_) (fun hc25 => ?_)
      · replace hf := z_ifn hf hc25
        refine lv_lload hx hb dX10_likely_125 (lv_at hl 5 rfl) ?_
        exact hJ127 k40 hk40 (v1) (v2) (v6) (v7) (v4) S22 _ _ _ hf hP hS (lv_sub hl [0, 1, 2, 4] rfl)
      · replace hf := z_ifp hf hc25
        refine lv_lconst (v := 0) hx hb dX10_likely_121 (by decide) ?_
        refine lv_goto (tgt := 127) hx hb dX10_likely_122 (by decide) ?_
        exact hJ127 k40 hk40 (v1) (v2) (v6) (0) (v4) S22 _ _ _ hf hP hS (lv_sub hl [0, 1, 2, 4] rfl)
    · replace hf := z_ifn hf hc19
      refine lv_aload_n hx hb dX10_likely_63 rfl (lv_at hl 0 rfl) ?_
      refine z_getR (C := RX10) (T := TX10) (N := 75) (ci := 10) (k := 24) (o := 65) (t := 78) E hK hP iwX10 rfl rfl (by decide) (by decide) rfl rfl rfl tw976 dX10_likely_64 ?_
      refine lv_iload hx hb dX10_likely_67 (lv_at hl 6 rfl) ?_
      refine lv_iload hx hb dX10_likely_69 (lv_at hl 4 rfl) ?_
      refine lv_iload hx hb dX10_likely_71 (lv_at hl 6 rfl) ?_
      refine lv_ishr hx hb dX10_likely_73 ?_
      refine lv_iconst (v := 1) hx hb dX10_likely_74 (by decide) ?_
      refine lv_iand hx hb dX10_likely_75 ?_
      obtain ⟨hg26, hf⟩ := z_gd_some hf
      refine m_ast (o := 78) (i := v9) (v := ((v6 >>> (v9 &&& 31)) &&& 1)) E hK hq hP hS rfl (by decide) hg26 dX10_likely_76 (fun H locs hP hS => ?_)
      obtain ⟨S27, hf, hP⟩ := z_ltM hf hP
      refine lv_lload hx hb dX10_likely_77 (lv_at hl 5 rfl) ?_
      refine lv_aload_n hx hb dX10_likely_79 rfl (lv_at hl 0 rfl) ?_
      refine z_getR (C := RX10) (T := TX10) (N := 75) (ci := 10) (k := 24) (o := 65) (t := 78) E hK hP iwX10 rfl rfl (by decide) (by decide) rfl rfl rfl tw976 dX10_likely_80 ?_
      refine lv_iload hx hb dX10_likely_83 (lv_at hl 6 rfl) ?_
      obtain ⟨hg28, hf⟩ := z_gd_some hf
      refine m_ald (o := 78) (i := v9) E hK hP rfl (by decide) hg28 dX10_likely_85 ?_
      refine lv_iconst (v := 1) hx hb dX10_likely_86 (by decide) ?_
      refine lv_icmp_ne (tgt := 94) hx hb dX10_likely_87 (by decide) (fun hc29 => ?_) (fun hc29 => ?_)
      · replace hf := z_ifn hf hc29
        refine lv_iload_n hx hb dX10_likely_94 rfl (lv_at hl 1 rfl) ?_
        refine lv_iconst (v := 1) hx hb dX10_likely_95 (by decide) ?_
        refine lv_isub hx hb dX10_likely_96 ?_
        refine lv_i2l (v := ((v1 - 1) : Int32).toInt64) hx hb dX10_likely_97 rfl ?_
        exact hJ98 k40 k57 hk40 hk57 (v1) (v2) (v4) (v6) (v9) ((((v1 - 1) : Int32).toInt64)) (v7) S27 _ _ _ hf hP hS (lv_sub hl [0, 1, 2, 3, 4, 6] rfl)
      · replace hf := z_ifp hf hc29
        refine lv_lconst (v := 1) hx hb dX10_likely_90 (by decide) ?_
        refine lv_goto (tgt := 98) hx hb dX10_likely_91 (by decide) ?_
        exact hJ98 k40 k57 hk40 hk57 (v1) (v2) (v4) (v6) (v9) (1) (v7) S27 _ _ _ hf hP hS (lv_sub hl [0, 1, 2, 3, 4, 6] rfl)
  have hL57 : ∀ (k40 : Int32 → Int32 → Int64 → Int32 → St → Option (Int64 × St)) (hk40 : ∀ (v1 : Int32) (v2 : Int32) (v4 : Int64) (v6 : Int32) (S : St) (H : Heap) (locs : List Loc) (ls : Array Slot), k40 v1 v2 v4 v6 S = some (r, S') → z_P G X S H → z_S G s.heap H locs → lv_has ls 10 [(0, .ref (gq G (65))), (1, .int (v1)), (2, .int (v2)), (4, .long (v4)), (6, .int (v6))] → W p l e (z_rm 6 134) s m ([.ref (gq G (65)), .int (a1), .int (a2)] : List Value).toArray below meth c H locs 0 0 (MQ below (z_QL G X S' r) ([.ref (gq G (65)), .int (a1), .int (a2)] : List Value).toArray s 0 0 (z_Aq (gq G))) (F0 m 40 ls [])) (n : Nat), ∀ (v1 : Int32) (v2 : Int32) (v4 : Int64) (v6 : Int32) (v7 : Int64) (v9 : Int32) (S : St) (H : Heap) (locs : List Loc) (ls : Array Slot), f_X10_likely_57 N k40 n v1 v2 v4 v6 v7 v9 S = some (r, S') → z_P G X S H → z_S G s.heap H locs → lv_has ls 10 [(0, .ref (gq G (65))), (1, .int (v1)), (2, .int (v2)), (4, .long (v4)), (6, .int (v6)), (7, .long (v7)), (9, .int (v9))] → W p l e (z_rm 6 134) s m ([.ref (gq G (65)), .int (a1), .int (a2)] : List Value).toArray below meth c H locs 0 0 (MQ below (z_QL G X S' r) ([.ref (gq G (65)), .int (a1), .int (a2)] : List Value).toArray s 0 0 (z_Aq (gq G))) (F0 m 57 ls []) := by
    intro k40 hk40 n
    induction n with
    | zero => intro _ _ _ _ _ _ _ _ _ _ hf; cases hf
    | succ n ih => exact hB57 k40 _ hk40 ih
  have hB40 : ∀ (k40 : Int32 → Int32 → Int64 → Int32 → St → Option (Int64 × St)) (hk40 : ∀ (v1 : Int32) (v2 : Int32) (v4 : Int64) (v6 : Int32) (S : St) (H : Heap) (locs : List Loc) (ls : Array Slot), k40 v1 v2 v4 v6 S = some (r, S') → z_P G X S H → z_S G s.heap H locs → lv_has ls 10 [(0, .ref (gq G (65))), (1, .int (v1)), (2, .int (v2)), (4, .long (v4)), (6, .int (v6))] → W p l e (z_rm 6 134) s m ([.ref (gq G (65)), .int (a1), .int (a2)] : List Value).toArray below meth c H locs 0 0 (MQ below (z_QL G X S' r) ([.ref (gq G (65)), .int (a1), .int (a2)] : List Value).toArray s 0 0 (z_Aq (gq G))) (F0 m 40 ls [])), ∀ (v1 : Int32) (v2 : Int32) (v4 : Int64) (v6 : Int32) (S : St) (H : Heap) (locs : List Loc) (ls : Array Slot), b_X10_likely_40 N k40 v1 v2 v4 v6 S = some (r, S') → z_P G X S H → z_S G s.heap H locs → lv_has ls 10 [(0, .ref (gq G (65))), (1, .int (v1)), (2, .int (v2)), (4, .long (v4)), (6, .int (v6))] → W p l e (z_rm 6 134) s m ([.ref (gq G (65)), .int (a1), .int (a2)] : List Value).toArray below meth c H locs 0 0 (MQ below (z_QL G X S' r) ([.ref (gq G (65)), .int (a1), .int (a2)] : List Value).toArray s 0 0 (z_Aq (gq G))) (F0 m 40 ls []) := by
    intro k40 hk40 v1 v2 v4 v6 S H locs ls hf hP hS hl
    unfold b_X10_likely_40 at hf
    refine lv_iload hx hb dX10_likely_40 (lv_at hl 4 rfl) ?_
    refine lv_bipush (v := 8) hx hb dX10_likely_42 (by decide) ?_
    refine lv_icmp_ge (tgt := 140) hx hb dX10_likely_44 (by decide) (fun hc13 => ?_) (fun hc13 => ?_)
    · replace hf := z_ifp hf hc13
      refine lv_lload hx hb dX10_likely_140 (lv_at hl 3 rfl) ?_
      refine lv_iload_n hx hb dX10_likely_142 rfl (lv_at hl 1 rfl) ?_
      refine lv_i2l (v := (v1 : Int32).toInt64) hx hb dX10_likely_143 rfl ?_
      refine lv_iload_n hx hb dX10_likely_144 rfl (lv_at hl 1 rfl) ?_
      refine lv_i2l (v := (v1 : Int32).toInt64) hx hb dX10_likely_145 rfl ?_
      refine lv_lmul hx hb dX10_likely_146 ?_
      refine lv_iload_n hx hb dX10_likely_147 rfl (lv_at hl 1 rfl) ?_
      refine lv_i2l (v := (v1 : Int32).toInt64) hx hb dX10_likely_148 rfl ?_
      refine lv_lmul hx hb dX10_likely_149 ?_
      refine lv_iload_n hx hb dX10_likely_150 rfl (lv_at hl 2 rfl) ?_
      obtain ⟨r15, S14, hz16, hf⟩ := z_bd_some hf
      refine z_cl (z_runS E hK hP hS (c_X10_partOf hq hz16) cs_X10_partOf tw1413 rfl ⟨Nat.le_of_ble_eq_true rfl, Nat.le_of_ble_eq_true rfl⟩ ⟨Nat.le_refl 0, Nat.le_refl 0⟩ hl.1 (Nat.le_of_ble_eq_true rfl) rfl dX10_likely_151) hS (fun H locs hP hS => ?_)
      exact m_retl hx hb hr hlk hf hP hS dX10_likely_154
    · replace hf := z_ifn hf hc13
      refine lv_lconst (v := 1) hx hb dX10_likely_47 (by decide) ?_
      refine lv_lstore (lv' := [(7, .long (1)), (0, .ref (gq G (65))), (1, .int (v1)), (2, .int (v2)), (4, .long (v4)), (6, .int (v6))]) hx hb dX10_likely_48 hl (by decide) rfl (fun ls hl => ?_)
      refine lv_aload_n hx hb dX10_likely_50 rfl (lv_at hl 1 rfl) ?_
      obtain ⟨S17, hz18, hf⟩ := z_bv_some hf
      refine z_cvo (z_runV (o := 65) (ci := 10) E hK hP hS (c_X10_minds hq hz18) cv_X10_minds tw1367 rfl (by decide) rfl rfl ⟨Nat.le_of_ble_eq_true rfl, Nat.le_of_ble_eq_true rfl⟩ ⟨Nat.le_refl 0, Nat.le_refl 0⟩ hl.1 (Nat.le_of_ble_eq_true rfl) rfl dX10_likely_51) hS (fun H locs hP hS => ?_)
      refine lv_iconst (v := 0) hx hb dX10_likely_54 (by decide) ?_
      refine lv_istore (lv' := [(9, .int (0)), (7, .long (1)), (0, .ref (gq G (65))), (1, .int (v1)), (2, .int (v2)), (4, .long (v4)), (6, .int (v6))]) hx hb dX10_likely_55 hl (by decide) rfl (fun ls hl => ?_)
      exact hL57 k40 hk40 N (v1) (v2) (v4) (v6) (1) (0) S17 _ _ _ hf hP hS (lv_sub hl [2, 3, 4, 5, 6, 1, 0] rfl)
  have hL40 : ∀ (n : Nat), ∀ (v1 : Int32) (v2 : Int32) (v4 : Int64) (v6 : Int32) (S : St) (H : Heap) (locs : List Loc) (ls : Array Slot), f_X10_likely_40 N n v1 v2 v4 v6 S = some (r, S') → z_P G X S H → z_S G s.heap H locs → lv_has ls 10 [(0, .ref (gq G (65))), (1, .int (v1)), (2, .int (v2)), (4, .long (v4)), (6, .int (v6))] → W p l e (z_rm 6 134) s m ([.ref (gq G (65)), .int (a1), .int (a2)] : List Value).toArray below meth c H locs 0 0 (MQ below (z_QL G X S' r) ([.ref (gq G (65)), .int (a1), .int (a2)] : List Value).toArray s 0 0 (z_Aq (gq G))) (F0 m 40 ls []) := by
    intro  n
    induction n with
    | zero => intro _ _ _ _ _ _ _ _ hf; cases hf
    | succ n ih => exact hB40  _  ih
  have hJ24 : ∀ (v1 : Int32) (v2 : Int32) (v3 : Int32) (S : St) (H : Heap) (locs : List Loc) (ls : Array Slot), b_X10_likely_24 N v1 v2 v3 S = some (r, S') → z_P G X S H → z_S G s.heap H locs → lv_has ls 10 [(0, .ref (gq G (65))), (1, .int (v1)), (2, .int (v2)), (3, .int (v3))] → W p l e (z_rm 6 134) s m ([.ref (gq G (65)), .int (a1), .int (a2)] : List Value).toArray below meth c H locs 0 0 (MQ below (z_QL G X S' r) ([.ref (gq G (65)), .int (a1), .int (a2)] : List Value).toArray s 0 0 (z_Aq (gq G))) (F0 m 24 ls []) := by
    intro v1 v2 v3 S H locs ls hf hP hS hl
    unfold b_X10_likely_24 at hf
    refine lv_iload_n hx hb dX10_likely_24 rfl (lv_at hl 3 rfl) ?_
    refine lv_if_eq (tgt := 34) hx hb dX10_likely_25 (by decide) (fun hc9 => ?_) (fun hc9 => ?_)
    · replace hf := z_ifp hf hc9
      refine lv_lconst (v := 0) hx hb dX10_likely_34 (by decide) ?_
      refine lv_lstore (lv' := [(4, .long (0)), (0, .ref (gq G (65))), (1, .int (v1)), (2, .int (v2)), (3, .int (v3))]) hx hb dX10_likely_35 hl (by decide) rfl (fun ls hl => ?_)
      refine lv_iconst (v := 0) hx hb dX10_likely_37 (by decide) ?_
      refine lv_istore (lv' := [(6, .int (0)), (4, .long (0)), (0, .ref (gq G (65))), (1, .int (v1)), (2, .int (v2)), (3, .int (v3))]) hx hb dX10_likely_38 hl (by decide) rfl (fun ls hl => ?_)
      exact hL40 N (v1) (v2) (0) (0) S _ _ _ hf hP hS (lv_sub hl [2, 3, 4, 1, 0] rfl)
    · replace hf := z_ifn hf hc9
      refine lv_aload_n hx hb dX10_likely_28 rfl (lv_at hl 0 rfl) ?_
      refine lv_iload_n hx hb dX10_likely_29 rfl (lv_at hl 3 rfl) ?_
      obtain ⟨r11, S10, hz12, hf⟩ := z_bd_some hf
      refine z_cl (z_runV (o := 65) (ci := 10) E hK hP hS (c_X10_lowestOf hq hz12) cv_X10_lowestOf tw1408 rfl (by decide) rfl rfl ⟨Nat.le_of_ble_eq_true rfl, Nat.le_of_ble_eq_true rfl⟩ ⟨Nat.le_refl 0, Nat.le_refl 0⟩ hl.1 (Nat.le_of_ble_eq_true rfl) rfl dX10_likely_30) hS (fun H locs hP hS => ?_)
      exact m_retl hx hb hr hlk hf hP hS dX10_likely_33
  have hl : lv_has ls 10 [(0, .ref (gq G (65))), (1, .int (a1)), (2, .int (a2))] := hl
  unfold f_X10_likely at hf
  refine lv_iload_n hx hb dX10_likely_0 rfl (lv_at hl 1 rfl) ?_
  refine lv_iconst (v := 2) hx hb dX10_likely_1 (by decide) ?_
  refine lv_bipush (v := 20) hx hb dX10_likely_2 (by decide) ?_
  obtain ⟨r2, S1, hz3, hf⟩ := z_bd_some hf
  refine z_ci (z_runS E hK hP hS (c_X10_bound hq hz3) cs_X10_bound tw1182 rfl ⟨Nat.le_of_ble_eq_true rfl, Nat.le_of_ble_eq_true rfl⟩ ⟨Nat.le_refl 0, Nat.le_refl 0⟩ hl.1 (Nat.le_of_ble_eq_true rfl) rfl dX10_likely_4) hS (fun H locs hP hS => ?_)
  refine lv_istore_n (lv' := [(3, .int (r2)), (0, .ref (gq G (65))), (1, .int (a1)), (2, .int (a2))]) hx hb dX10_likely_7 rfl hl (by decide) rfl (fun ls hl => ?_)
  refine lv_iload_n hx hb dX10_likely_8 rfl (lv_at hl 0 rfl) ?_
  refine lv_if_ne (tgt := 24) hx hb dX10_likely_9 (by decide) (fun hc4 => ?_) (fun hc4 => ?_)
  · replace hf := z_ifn hf hc4
    exact hJ24 (a1) (a2) (r2) S1 _ _ _ hf hP hS (lv_sub hl [1, 2, 3, 0] rfl)
  · replace hf := z_ifp hf hc4
    refine lv_iload_n hx hb dX10_likely_12 rfl (lv_at hl 3 rfl) ?_
    refine lv_iconst (v := 0) hx hb dX10_likely_13 (by decide) ?_
    refine lv_iconst (v := 1) hx hb dX10_likely_14 (by decide) ?_
    obtain ⟨r6, S5, hz7, hf⟩ := z_bd_some hf
    refine z_ci (z_runS E hK hP hS (c_X10_isIn hq hz7) cs_X10_isIn tw943 rfl ⟨Nat.le_of_ble_eq_true rfl, Nat.le_of_ble_eq_true rfl⟩ ⟨Nat.le_refl 0, Nat.le_refl 0⟩ hl.1 (Nat.le_of_ble_eq_true rfl) rfl dX10_likely_15) hS (fun H locs hP hS => ?_)
    refine lv_if_ne (tgt := 24) hx hb dX10_likely_18 (by decide) (fun hc8 => ?_) (fun hc8 => ?_)
    · replace hf := z_ifn hf hc8
      exact hJ24 (a1) (a2) (r2) S5 _ _ _ hf hP hS (lv_sub hl [1, 2, 3, 0] rfl)
    · replace hf := z_ifp hf hc8
      refine lv_bipush (v := (-2)) hx hb dX10_likely_21 (by decide) ?_
      refine lv_istore_n (lv' := [(3, .int ((-2))), (0, .ref (gq G (65))), (1, .int (a1)), (2, .int (a2))]) hx hb dX10_likely_23 rfl hl (by decide) rfl (fun ls hl => ?_)
      exact hJ24 (a1) (a2) ((-2)) S5 _ _ _ hf hP hS (lv_sub hl [1, 2, 3, 0] rfl)
theorem cv_X10_likely : z_cv yX10_likely cX10_likely 10 (some .long) RX10 2 := ⟨⟨tw1405, tw1406⟩, tw1407, tw11, by decide +kernel⟩
def b_X10_mean_43 (N : Nat) (k43 : Int32 → Int32 → Int32 → Int32 → St → Option (Int64 × St)) (v1 : Int32) (v2 : Int32) (v4 : Int32) (v5 : Int32) (S : St) : Option (Int64 × St) := if 10 ≤ v5 then (z_bd (f_X10_partOf N (((v4 : Int32).toInt64)) (10) (v2) S) fun r15 S14 => some (r15, S14)) else (z_bv (f_X10_goesWith N (v1) (v5) S) fun S17 => k43 (v1) (v2) ((v4 + (S17 65 62))) ((v5 + 1)) S17)
def f_X10_mean_43 (N : Nat) : Nat → Int32 → Int32 → Int32 → Int32 → St → Option (Int64 × St)
  | 0 => fun _ _ _ _ _ => none
  | n + 1 => b_X10_mean_43 N (f_X10_mean_43 N n)
def b_X10_mean_26 (N : Nat) (v1 : Int32) (v2 : Int32) (t0 : Int32) (S : St) : Option (Int64 × St) := if t0 = 0 then (f_X10_mean_43 N N (v1) (v2) (0) (0) S) else (z_bd (f_X10_lowestOf N (t0) S) fun r11 S10 => some (r11, S10))
def f_X10_mean (N : Nat) (a1 : Int32) (a2 : Int32) (S : St) : Option (Int64 × St) := z_bd (f_X10_isVariable N (a1) S) fun r2 S1 => if r2 = 0 then (b_X10_mean_26 N (a1) (a2) ((-1)) S1) else (z_bd (f_X10_isIn N (a2) (0) (1) S1) fun r6 S5 => if r6 = 0 then (b_X10_mean_26 N (a1) (a2) ((-2)) S5) else (b_X10_mean_26 N (a1) (a2) (0) S5))
set_option maxHeartbeats 4000000 in
set_option maxRecDepth 100000 in
theorem c_X10_mean {l : Launch} {G : Cx} {X S S' : St} {N : Nat} {a1 : Int32} {a2 : Int32} {r : Int64} (hq : z_inj (gq G)) (hf : f_X10_mean N a1 a2 S = some (r, S')) : z_Ct l yX10_mean cX10_mean 6 (some .long) 7 156 G X S [.ref (gq G (65)), .int (a1), .int (a2)] (z_QL G X S' r) := by
  refine z_start (by decide +kernel) (Nat.le_of_ble_eq_true rfl) ?_
  intro p e s m below meth c ls E hr hlk hK hP hS hl
  have E : CallFix p m c cX10_mean 6 s _ lw_good RX10 := E
  have hx := E.1
  have hb := E.2.1
  have hown := E.2.2.2.1
  have hts := E.2.2.2.2
  have hB43 : ∀ (k43 : Int32 → Int32 → Int32 → Int32 → St → Option (Int64 × St)) (hk43 : ∀ (v1 : Int32) (v2 : Int32) (v4 : Int32) (v5 : Int32) (S : St) (H : Heap) (locs : List Loc) (ls : Array Slot), k43 v1 v2 v4 v5 S = some (r, S') → z_P G X S H → z_S G s.heap H locs → lv_has ls 6 [(0, .ref (gq G (65))), (1, .int (v1)), (2, .int (v2)), (4, .int (v4)), (5, .int (v5))] → W p l e (z_rm 7 156) s m ([.ref (gq G (65)), .int (a1), .int (a2)] : List Value).toArray below meth c H locs 0 0 (MQ below (z_QL G X S' r) ([.ref (gq G (65)), .int (a1), .int (a2)] : List Value).toArray s 0 0 (z_Aq (gq G))) (F0 m 43 ls [])), ∀ (v1 : Int32) (v2 : Int32) (v4 : Int32) (v5 : Int32) (S : St) (H : Heap) (locs : List Loc) (ls : Array Slot), b_X10_mean_43 N k43 v1 v2 v4 v5 S = some (r, S') → z_P G X S H → z_S G s.heap H locs → lv_has ls 6 [(0, .ref (gq G (65))), (1, .int (v1)), (2, .int (v2)), (4, .int (v4)), (5, .int (v5))] → W p l e (z_rm 7 156) s m ([.ref (gq G (65)), .int (a1), .int (a2)] : List Value).toArray below meth c H locs 0 0 (MQ below (z_QL G X S' r) ([.ref (gq G (65)), .int (a1), .int (a2)] : List Value).toArray s 0 0 (z_Aq (gq G))) (F0 m 43 ls []) := by
    intro k43 hk43 v1 v2 v4 v5 S H locs ls hf hP hS hl
    unfold b_X10_mean_43 at hf
    refine lv_iload hx hb dX10_mean_43 (lv_at hl 4 rfl) ?_
    refine lv_bipush (v := 10) hx hb dX10_mean_45 (by decide) ?_
    refine lv_icmp_ge (tgt := 72) hx hb dX10_mean_47 (by decide) (fun hc13 => ?_) (fun hc13 => ?_)
    · replace hf := z_ifp hf hc13
      refine lv_iload hx hb dX10_mean_72 (lv_at hl 3 rfl) ?_
      refine lv_i2l (v := (v4 : Int32).toInt64) hx hb dX10_mean_74 rfl ?_
      refine lv_ldc2 (v := 10) hx hb hown (hts _ tw1423) dX10_mean_75 ?_
      refine lv_iload_n hx hb dX10_mean_78 rfl (lv_at hl 2 rfl) ?_
      obtain ⟨r15, S14, hz16, hf⟩ := z_bd_some hf
      refine z_cl (z_runS E hK hP hS (c_X10_partOf hq hz16) cs_X10_partOf tw1413 rfl ⟨Nat.le_of_ble_eq_true rfl, Nat.le_of_ble_eq_true rfl⟩ ⟨Nat.le_refl 0, Nat.le_refl 0⟩ hl.1 (Nat.le_of_ble_eq_true rfl) rfl dX10_mean_79) hS (fun H locs hP hS => ?_)
      exact m_retl hx hb hr hlk hf hP hS dX10_mean_82
    · replace hf := z_ifn hf hc13
      refine lv_aload_n hx hb dX10_mean_50 rfl (lv_at hl 0 rfl) ?_
      refine lv_iload_n hx hb dX10_mean_51 rfl (lv_at hl 1 rfl) ?_
      refine lv_iload hx hb dX10_mean_52 (lv_at hl 4 rfl) ?_
      obtain ⟨S17, hz18, hf⟩ := z_bv_some hf
      refine z_cvo (z_runV (o := 65) (ci := 10) E hK hP hS (c_X10_goesWith hq hz18) cv_X10_goesWith tw1363 rfl (by decide) rfl rfl ⟨Nat.le_of_ble_eq_true rfl, Nat.le_of_ble_eq_true rfl⟩ ⟨Nat.le_refl 0, Nat.le_refl 0⟩ hl.1 (Nat.le_of_ble_eq_true rfl) rfl dX10_mean_54) hS (fun H locs hP hS => ?_)
      refine lv_iload hx hb dX10_mean_57 (lv_at hl 3 rfl) ?_
      refine lv_aload_n hx hb dX10_mean_59 rfl (lv_at hl 0 rfl) ?_
      refine m_getI (C := RX10) (T := TX10) (N := 75) (ci := 10) (k := 62) (o := 65) E hK hP iwX10 rfl rfl (by decide) (by decide) rfl rfl (by decide) tw1014 dX10_mean_60 ?_
      refine lv_iadd hx hb dX10_mean_63 ?_
      refine lv_istore (lv' := [(4, .int ((v4 + (S17 65 62)))), (0, .ref (gq G (65))), (1, .int (v1)), (2, .int (v2)), (5, .int (v5))]) hx hb dX10_mean_64 hl (by decide) rfl (fun ls hl => ?_)
      refine lv_iinc (v := (v5 + 1)) (lv' := [(5, .int ((v5 + 1))), (4, .int ((v4 + (S17 65 62)))), (0, .ref (gq G (65))), (1, .int (v1)), (2, .int (v2))]) hx hb dX10_mean_66 hl (k := 4) rfl rfl (by decide) rfl (fun ls hl => ?_)
      refine lv_goto (tgt := 43) hx hb dX10_mean_69 (by decide) ?_
      exact hk43 (v1) (v2) ((v4 + (S17 65 62))) ((v5 + 1)) S17 _ _ _ hf hP hS (lv_sub hl [2, 3, 4, 1, 0] rfl)
  have hL43 : ∀ (n : Nat), ∀ (v1 : Int32) (v2 : Int32) (v4 : Int32) (v5 : Int32) (S : St) (H : Heap) (locs : List Loc) (ls : Array Slot), f_X10_mean_43 N n v1 v2 v4 v5 S = some (r, S') → z_P G X S H → z_S G s.heap H locs → lv_has ls 6 [(0, .ref (gq G (65))), (1, .int (v1)), (2, .int (v2)), (4, .int (v4)), (5, .int (v5))] → W p l e (z_rm 7 156) s m ([.ref (gq G (65)), .int (a1), .int (a2)] : List Value).toArray below meth c H locs 0 0 (MQ below (z_QL G X S' r) ([.ref (gq G (65)), .int (a1), .int (a2)] : List Value).toArray s 0 0 (z_Aq (gq G))) (F0 m 43 ls []) := by
    intro  n
    induction n with
    | zero => intro _ _ _ _ _ _ _ _ hf; cases hf
    | succ n ih => exact hB43  _  ih
  have hJ26 : ∀ (v1 : Int32) (v2 : Int32) (t0 : Int32) (S : St) (H : Heap) (locs : List Loc) (ls : Array Slot), b_X10_mean_26 N v1 v2 t0 S = some (r, S') → z_P G X S H → z_S G s.heap H locs → lv_has ls 6 [(0, .ref (gq G (65))), (1, .int (v1)), (2, .int (v2))] → W p l e (z_rm 7 156) s m ([.ref (gq G (65)), .int (a1), .int (a2)] : List Value).toArray below meth c H locs 0 0 (MQ below (z_QL G X S' r) ([.ref (gq G (65)), .int (a1), .int (a2)] : List Value).toArray s 0 0 (z_Aq (gq G))) (F0 m 26 ls [.int (t0)]) := by
    intro v1 v2 t0 S H locs ls hf hP hS hl
    unfold b_X10_mean_26 at hf
    refine lv_istore_n (lv' := [(3, .int (t0)), (0, .ref (gq G (65))), (1, .int (v1)), (2, .int (v2))]) hx hb dX10_mean_26 rfl hl (by decide) rfl (fun ls hl => ?_)
    refine lv_iload_n hx hb dX10_mean_27 rfl (lv_at hl 0 rfl) ?_
    refine lv_if_eq (tgt := 37) hx hb dX10_mean_28 (by decide) (fun hc9 => ?_) (fun hc9 => ?_)
    · replace hf := z_ifp hf hc9
      refine lv_iconst (v := 0) hx hb dX10_mean_37 (by decide) ?_
      refine lv_istore (lv' := [(4, .int (0)), (3, .int (t0)), (0, .ref (gq G (65))), (1, .int (v1)), (2, .int (v2))]) hx hb dX10_mean_38 hl (by decide) rfl (fun ls hl => ?_)
      refine lv_iconst (v := 0) hx hb dX10_mean_40 (by decide) ?_
      refine lv_istore (lv' := [(5, .int (0)), (4, .int (0)), (3, .int (t0)), (0, .ref (gq G (65))), (1, .int (v1)), (2, .int (v2))]) hx hb dX10_mean_41 hl (by decide) rfl (fun ls hl => ?_)
      exact hL43 N (v1) (v2) (0) (0) S _ _ _ hf hP hS (lv_sub hl [3, 4, 5, 1, 0] rfl)
    · replace hf := z_ifn hf hc9
      refine lv_aload_n hx hb dX10_mean_31 rfl (lv_at hl 1 rfl) ?_
      refine lv_iload_n hx hb dX10_mean_32 rfl (lv_at hl 0 rfl) ?_
      obtain ⟨r11, S10, hz12, hf⟩ := z_bd_some hf
      refine z_cl (z_runV (o := 65) (ci := 10) E hK hP hS (c_X10_lowestOf hq hz12) cv_X10_lowestOf tw1408 rfl (by decide) rfl rfl ⟨Nat.le_of_ble_eq_true rfl, Nat.le_of_ble_eq_true rfl⟩ ⟨Nat.le_refl 0, Nat.le_refl 0⟩ hl.1 (Nat.le_of_ble_eq_true rfl) rfl dX10_mean_33) hS (fun H locs hP hS => ?_)
      exact m_retl hx hb hr hlk hf hP hS dX10_mean_36
  have hl : lv_has ls 6 [(0, .ref (gq G (65))), (1, .int (a1)), (2, .int (a2))] := hl
  unfold f_X10_mean at hf
  refine lv_iload_n hx hb dX10_mean_0 rfl (lv_at hl 1 rfl) ?_
  obtain ⟨r2, S1, hz3, hf⟩ := z_bd_some hf
  refine z_ci (z_runS E hK hP hS (c_X10_isVariable hq hz3) cs_X10_isVariable tw1344 rfl ⟨Nat.le_of_ble_eq_true rfl, Nat.le_of_ble_eq_true rfl⟩ ⟨Nat.le_refl 0, Nat.le_refl 0⟩ hl.1 (Nat.le_of_ble_eq_true rfl) rfl dX10_mean_1) hS (fun H locs hP hS => ?_)
  refine lv_if_ne (tgt := 11) hx hb dX10_mean_4 (by decide) (fun hc4 => ?_) (fun hc4 => ?_)
  · replace hf := z_ifn hf hc4
    refine lv_iload_n hx hb dX10_mean_11 rfl (lv_at hl 2 rfl) ?_
    refine lv_iconst (v := 0) hx hb dX10_mean_12 (by decide) ?_
    refine lv_iconst (v := 1) hx hb dX10_mean_13 (by decide) ?_
    obtain ⟨r6, S5, hz7, hf⟩ := z_bd_some hf
    refine z_ci (z_runS E hK hP hS (c_X10_isIn hq hz7) cs_X10_isIn tw943 rfl ⟨Nat.le_of_ble_eq_true rfl, Nat.le_of_ble_eq_true rfl⟩ ⟨Nat.le_refl 0, Nat.le_refl 0⟩ hl.1 (Nat.le_of_ble_eq_true rfl) rfl dX10_mean_14) hS (fun H locs hP hS => ?_)
    refine lv_if_ne (tgt := 25) hx hb dX10_mean_17 (by decide) (fun hc8 => ?_) (fun hc8 => ?_)
    · replace hf := z_ifn hf hc8
      refine lv_iconst (v := 0) hx hb dX10_mean_25 (by decide) ?_
      exact hJ26 (a1) (a2) (0) S5 _ _ _ hf hP hS (lv_sub hl [0, 1, 2] rfl)
    · replace hf := z_ifp hf hc8
      refine lv_bipush (v := (-2)) hx hb dX10_mean_20 (by decide) ?_
      refine lv_goto (tgt := 26) hx hb dX10_mean_22 (by decide) ?_
      exact hJ26 (a1) (a2) ((-2)) S5 _ _ _ hf hP hS (lv_sub hl [0, 1, 2] rfl)
  · replace hf := z_ifp hf hc4
    refine lv_iconst (v := (-1)) hx hb dX10_mean_7 (by decide) ?_
    refine lv_goto (tgt := 26) hx hb dX10_mean_8 (by decide) ?_
    exact hJ26 (a1) (a2) ((-1)) S1 _ _ _ hf hP hS (lv_sub hl [0, 1, 2] rfl)
theorem cv_X10_mean : z_cv yX10_mean cX10_mean 6 (some .long) RX10 2 := ⟨⟨tw1420, tw1421⟩, tw1422, tw11, by decide +kernel⟩
def b_X10_endsSo_2 (N : Nat) (k2 : Int32 → Int32 → Int32 → St → Option (Int32 × St)) (v1 : Int32) (v2 : Int32) (v3 : Int32) (S : St) : Option (Int32 × St) := if (S 65 69) ≤ v3 then (some (1, S)) else (z_bv (f_X10_goesWith N (v1) ((v2 + v3)) S) fun S2 => z_bd (f_X10_howNow N S2) fun r5 S4 => z_gd (z_in v3 (z_ln 100)) (if r5 = (S4 100 (v3 : Int32).toNatClampNeg) then (k2 (v1) (v2) ((v3 + 1)) S4) else (some (0, S4))))
def f_X10_endsSo_2 (N : Nat) : Nat → Int32 → Int32 → Int32 → St → Option (Int32 × St)
  | 0 => fun _ _ _ _ => none
  | n + 1 => b_X10_endsSo_2 N (f_X10_endsSo_2 N n)
def f_X10_endsSo (N : Nat) (a1 : Int32) (a2 : Int32) (S : St) : Option (Int32 × St) := f_X10_endsSo_2 N N (a1) (a2) (0) S
set_option maxHeartbeats 4000000 in
set_option maxRecDepth 100000 in
theorem c_X10_endsSo {l : Launch} {G : Cx} {X S S' : St} {N : Nat} {a1 : Int32} {a2 : Int32} {r : Int32} (hq : z_inj (gq G)) (hf : f_X10_endsSo N a1 a2 S = some (r, S')) : z_Ct l yX10_endsSo cX10_endsSo 4 (some .boolean) 7 156 G X S [.ref (gq G (65)), .int (a1), .int (a2)] (z_QI G X S' r) := by
  refine z_start (by decide +kernel) (Nat.le_of_ble_eq_true rfl) ?_
  intro p e s m below meth c ls E hr hlk hK hP hS hl
  have E : CallFix p m c cX10_endsSo 4 s _ lw_good RX10 := E
  have hx := E.1
  have hb := E.2.1
  have hown := E.2.2.2.1
  have hts := E.2.2.2.2
  have hB2 : ∀ (k2 : Int32 → Int32 → Int32 → St → Option (Int32 × St)) (hk2 : ∀ (v1 : Int32) (v2 : Int32) (v3 : Int32) (S : St) (H : Heap) (locs : List Loc) (ls : Array Slot), k2 v1 v2 v3 S = some (r, S') → z_P G X S H → z_S G s.heap H locs → lv_has ls 4 [(0, .ref (gq G (65))), (1, .int (v1)), (2, .int (v2)), (3, .int (v3))] → W p l e (z_rm 7 156) s m ([.ref (gq G (65)), .int (a1), .int (a2)] : List Value).toArray below meth c H locs 0 0 (MQ below (z_QI G X S' r) ([.ref (gq G (65)), .int (a1), .int (a2)] : List Value).toArray s 0 0 (z_Aq (gq G))) (F0 m 2 ls [])), ∀ (v1 : Int32) (v2 : Int32) (v3 : Int32) (S : St) (H : Heap) (locs : List Loc) (ls : Array Slot), b_X10_endsSo_2 N k2 v1 v2 v3 S = some (r, S') → z_P G X S H → z_S G s.heap H locs → lv_has ls 4 [(0, .ref (gq G (65))), (1, .int (v1)), (2, .int (v2)), (3, .int (v3))] → W p l e (z_rm 7 156) s m ([.ref (gq G (65)), .int (a1), .int (a2)] : List Value).toArray below meth c H locs 0 0 (MQ below (z_QI G X S' r) ([.ref (gq G (65)), .int (a1), .int (a2)] : List Value).toArray s 0 0 (z_Aq (gq G))) (F0 m 2 ls []) := by
    intro k2 hk2 v1 v2 v3 S H locs ls hf hP hS hl
    unfold b_X10_endsSo_2 at hf
    refine lv_iload_n hx hb dX10_endsSo_2 rfl (lv_at hl 3 rfl) ?_
    refine lv_aload_n hx hb dX10_endsSo_3 rfl (lv_at hl 0 rfl) ?_
    refine m_getI (C := RX10) (T := TX10) (N := 75) (ci := 10) (k := 69) (o := 65) E hK hP iwX10 rfl rfl (by decide) (by decide) rfl rfl (by decide) tw1021 dX10_endsSo_4 ?_
    refine lv_icmp_ge (tgt := 39) hx hb dX10_endsSo_7 (by decide) (fun hc1 => ?_) (fun hc1 => ?_)
    · replace hf := z_ifp hf hc1
      refine lv_iconst (v := 1) hx hb dX10_endsSo_39 (by decide) ?_
      exact m_retz hx hb hr hlk rfl hf hP hS dX10_endsSo_40
    · replace hf := z_ifn hf hc1
      refine lv_aload_n hx hb dX10_endsSo_10 rfl (lv_at hl 0 rfl) ?_
      refine lv_iload_n hx hb dX10_endsSo_11 rfl (lv_at hl 1 rfl) ?_
      refine lv_iload_n hx hb dX10_endsSo_12 rfl (lv_at hl 2 rfl) ?_
      refine lv_iload_n hx hb dX10_endsSo_13 rfl (lv_at hl 3 rfl) ?_
      refine lv_iadd hx hb dX10_endsSo_14 ?_
      obtain ⟨S2, hz3, hf⟩ := z_bv_some hf
      refine z_cvo (z_runV (o := 65) (ci := 10) E hK hP hS (c_X10_goesWith hq hz3) cv_X10_goesWith tw1363 rfl (by decide) rfl rfl ⟨Nat.le_of_ble_eq_true rfl, Nat.le_of_ble_eq_true rfl⟩ ⟨Nat.le_refl 0, Nat.le_refl 0⟩ hl.1 (Nat.le_of_ble_eq_true rfl) rfl dX10_endsSo_15) hS (fun H locs hP hS => ?_)
      refine lv_aload_n hx hb dX10_endsSo_18 rfl (lv_at hl 0 rfl) ?_
      obtain ⟨r5, S4, hz6, hf⟩ := z_bd_some hf
      refine z_ci (z_runV (o := 65) (ci := 10) E hK hP hS (c_X10_howNow hq hz6) cv_X10_howNow tw1315 rfl (by decide) rfl rfl ⟨Nat.le_of_ble_eq_true rfl, Nat.le_of_ble_eq_true rfl⟩ ⟨Nat.le_refl 0, Nat.le_refl 0⟩ hl.1 (Nat.le_of_ble_eq_true rfl) rfl dX10_endsSo_19) hS (fun H locs hP hS => ?_)
      refine lv_aload_n hx hb dX10_endsSo_22 rfl (lv_at hl 0 rfl) ?_
      refine z_getR (C := RX10) (T := TX10) (N := 75) (ci := 10) (k := 68) (o := 65) (t := 100) E hK hP iwX10 rfl rfl (by decide) (by decide) rfl rfl rfl tw1020 dX10_endsSo_23 ?_
      refine lv_iload_n hx hb dX10_endsSo_26 rfl (lv_at hl 3 rfl) ?_
      obtain ⟨hg7, hf⟩ := z_gd_some hf
      refine m_ald (o := 100) (i := v3) E hK hP rfl (by decide) hg7 dX10_endsSo_27 ?_
      refine lv_icmp_eq (tgt := 33) hx hb dX10_endsSo_28 (by decide) (fun hc8 => ?_) (fun hc8 => ?_)
      · replace hf := z_ifp hf hc8
        refine lv_iinc (v := (v3 + 1)) (lv' := [(3, .int ((v3 + 1))), (0, .ref (gq G (65))), (1, .int (v1)), (2, .int (v2))]) hx hb dX10_endsSo_33 hl (k := 3) rfl rfl (by decide) rfl (fun ls hl => ?_)
        refine lv_goto (tgt := 2) hx hb dX10_endsSo_36 (by decide) ?_
        exact hk2 (v1) (v2) ((v3 + 1)) S4 _ _ _ hf hP hS (lv_sub hl [1, 2, 3, 0] rfl)
      · replace hf := z_ifn hf hc8
        refine lv_iconst (v := 0) hx hb dX10_endsSo_31 (by decide) ?_
        exact m_retz hx hb hr hlk rfl hf hP hS dX10_endsSo_32
  have hL2 : ∀ (n : Nat), ∀ (v1 : Int32) (v2 : Int32) (v3 : Int32) (S : St) (H : Heap) (locs : List Loc) (ls : Array Slot), f_X10_endsSo_2 N n v1 v2 v3 S = some (r, S') → z_P G X S H → z_S G s.heap H locs → lv_has ls 4 [(0, .ref (gq G (65))), (1, .int (v1)), (2, .int (v2)), (3, .int (v3))] → W p l e (z_rm 7 156) s m ([.ref (gq G (65)), .int (a1), .int (a2)] : List Value).toArray below meth c H locs 0 0 (MQ below (z_QI G X S' r) ([.ref (gq G (65)), .int (a1), .int (a2)] : List Value).toArray s 0 0 (z_Aq (gq G))) (F0 m 2 ls []) := by
    intro  n
    induction n with
    | zero => intro _ _ _ _ _ _ _ hf; cases hf
    | succ n ih => exact hB2  _  ih
  have hl : lv_has ls 4 [(0, .ref (gq G (65))), (1, .int (a1)), (2, .int (a2))] := hl
  unfold f_X10_endsSo at hf
  refine lv_iconst (v := 0) hx hb dX10_endsSo_0 (by decide) ?_
  refine lv_istore_n (lv' := [(3, .int (0)), (0, .ref (gq G (65))), (1, .int (a1)), (2, .int (a2))]) hx hb dX10_endsSo_1 rfl hl (by decide) rfl (fun ls hl => ?_)
  exact hL2 N (a1) (a2) (0) S _ _ _ hf hP hS (lv_sub hl [1, 2, 3, 0] rfl)
theorem cv_X10_endsSo : z_cv yX10_endsSo cX10_endsSo 4 (some .boolean) RX10 2 := ⟨⟨tw1430, twp71⟩, tw1431, tw11, by decide +kernel⟩
