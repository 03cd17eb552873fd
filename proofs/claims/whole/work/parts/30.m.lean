def f_X10_no (N : Nat) (a1 : Int32) (S : St) : Option (Int32 × St) := z_gd (z_in (-a1) (z_ln 66)) (z_gd (z_in (-a1) (z_ln 66)) (z_lt (z_wr S 66 ((-a1) : Int32).toNatClampNeg ((S 66 ((-a1) : Int32).toNatClampNeg) + 1)) fun S3 => some (a1, S3)))
set_option maxHeartbeats 4000000 in
set_option maxRecDepth 100000 in
theorem c_X10_no {l : Launch} {G : Cx} {X S S' : St} {N : Nat} {a1 : Int32} {r : Int32} (hq : z_inj (gq G)) (hf : f_X10_no N a1 S = some (r, S')) : z_Ct l yX10_no cX10_no 2 (some .int) 0 0 G X S [.ref (gq G (65)), .int (a1)] (z_QI G X S' r) := by
  refine z_start (by decide +kernel) (Nat.le_of_ble_eq_true rfl) ?_
  intro p e s m below meth c ls E hr hlk hK hP hS hl
  have E : CallFix p m c cX10_no 2 s _ lw_good RX10 := E
  have hx := E.1
  have hb := E.2.1
  have hown := E.2.2.2.1
  have hts := E.2.2.2.2
  have hl : lv_has ls 2 [(0, .ref (gq G (65))), (1, .int (a1))] := hl
  unfold f_X10_no at hf
  refine lv_aload_n hx hb dX10_no_0 rfl (lv_at hl 0 rfl) ?_
  refine z_getR (C := RX10) (T := TX10) (N := 75) (ci := 10) (k := 0) (o := 65) (t := 66) E hK hP iwX10 rfl rfl (by decide) (by decide) rfl rfl rfl tw952 dX10_no_1 ?_
  refine lv_iload_n hx hb dX10_no_4 rfl (lv_at hl 1 rfl) ?_
  refine lv_ineg hx hb dX10_no_5 ?_
  refine lv_dup2_11 hx hb dX10_no_6 rfl rfl ?_
  obtain ⟨hg1, hf⟩ := z_gd_some hf
  refine m_ald (o := 66) (i := (-a1)) E hK hP rfl (by decide) hg1 dX10_no_7 ?_
  refine lv_iconst (v := 1) hx hb dX10_no_8 (by decide) ?_
  refine lv_iadd hx hb dX10_no_9 ?_
  obtain ⟨hg2, hf⟩ := z_gd_some hf
  refine m_ast (o := 66) (i := (-a1)) (v := ((S 66 ((-a1) : Int32).toNatClampNeg) + 1)) E hK hq hP hS rfl (by decide) hg2 dX10_no_10 (fun H locs hP hS => ?_)
  obtain ⟨S3, hf, hP⟩ := z_ltM hf hP
  refine lv_iload_n hx hb dX10_no_11 rfl (lv_at hl 1 rfl) ?_
  exact m_reti hx hb hr hlk hf hP hS dX10_no_12
theorem cv_X10_no : z_cv yX10_no cX10_no 2 (some .int) RX10 1 := ⟨⟨tw1187, twp32⟩, tw1188, tw11, by decide +kernel⟩
def f_X10_lower (N : Nat) (a1 : Int32) (S : St) : Option (Int32 × St) := z_gd (z_in (-a1) (z_ln 66)) (z_gd (z_in (-a1) (z_ln 66)) (z_lt (z_wr S 66 ((-a1) : Int32).toNatClampNeg ((S 66 ((-a1) : Int32).toNatClampNeg) + 1)) fun S3 => some ((1000000000 - a1), S3)))
set_option maxHeartbeats 4000000 in
set_option maxRecDepth 100000 in
theorem c_X10_lower {l : Launch} {G : Cx} {X S S' : St} {N : Nat} {a1 : Int32} {r : Int32} (hq : z_inj (gq G)) (hf : f_X10_lower N a1 S = some (r, S')) : z_Ct l yX10_lower cX10_lower 2 (some .int) 0 0 G X S [.ref (gq G (65)), .int (a1)] (z_QI G X S' r) := by
  refine z_start (by decide +kernel) (Nat.le_of_ble_eq_true rfl) ?_
  intro p e s m below meth c ls E hr hlk hK hP hS hl
  have E : CallFix p m c cX10_lower 2 s _ lw_good RX10 := E
  have hx := E.1
  have hb := E.2.1
  have hown := E.2.2.2.1
  have hts := E.2.2.2.2
  have hl : lv_has ls 2 [(0, .ref (gq G (65))), (1, .int (a1))] := hl
  unfold f_X10_lower at hf
  refine lv_aload_n hx hb dX10_lower_0 rfl (lv_at hl 0 rfl) ?_
  refine z_getR (C := RX10) (T := TX10) (N := 75) (ci := 10) (k := 0) (o := 65) (t := 66) E hK hP iwX10 rfl rfl (by decide) (by decide) rfl rfl rfl tw952 dX10_lower_1 ?_
  refine lv_iload_n hx hb dX10_lower_4 rfl (lv_at hl 1 rfl) ?_
  refine lv_ineg hx hb dX10_lower_5 ?_
  refine lv_dup2_11 hx hb dX10_lower_6 rfl rfl ?_
  obtain ⟨hg1, hf⟩ := z_gd_some hf
  refine m_ald (o := 66) (i := (-a1)) E hK hP rfl (by decide) hg1 dX10_lower_7 ?_
  refine lv_iconst (v := 1) hx hb dX10_lower_8 (by decide) ?_
  refine lv_iadd hx hb dX10_lower_9 ?_
  obtain ⟨hg2, hf⟩ := z_gd_some hf
  refine m_ast (o := 66) (i := (-a1)) (v := ((S 66 ((-a1) : Int32).toNatClampNeg) + 1)) E hK hq hP hS rfl (by decide) hg2 dX10_lower_10 (fun H locs hP hS => ?_)
  obtain ⟨S3, hf, hP⟩ := z_ltM hf hP
  refine lv_ldc (v := 1000000000) hx hb hown (hts _ tw1335) dX10_lower_11 ?_
  refine lv_iload_n hx hb dX10_lower_13 rfl (lv_at hl 1 rfl) ?_
  refine lv_isub hx hb dX10_lower_14 ?_
  exact m_reti hx hb hr hlk hf hP hS dX10_lower_15
theorem cv_X10_lower : z_cv yX10_lower cX10_lower 2 (some .int) RX10 1 := ⟨⟨tw1333, twp64⟩, tw1334, tw11, by decide +kernel⟩
def f_X10_lowestOf (N : Nat) (a1 : Int32) (S : St) : Option (Int64 × St) := z_gd (z_in (-a1) (z_ln 66)) (z_gd (z_in (-a1) (z_ln 66)) (z_lt (z_wr S 66 ((-a1) : Int32).toNatClampNeg ((S 66 ((-a1) : Int32).toNatClampNeg) + 1)) fun S3 => some ((4000000000000000000 - ((a1 : Int32).toInt64)), S3)))
set_option maxHeartbeats 4000000 in
set_option maxRecDepth 100000 in
theorem c_X10_lowestOf {l : Launch} {G : Cx} {X S S' : St} {N : Nat} {a1 : Int32} {r : Int64} (hq : z_inj (gq G)) (hf : f_X10_lowestOf N a1 S = some (r, S')) : z_Ct l yX10_lowestOf cX10_lowestOf 2 (some .long) 0 0 G X S [.ref (gq G (65)), .int (a1)] (z_QL G X S' r) := by
  refine z_start (by decide +kernel) (Nat.le_of_ble_eq_true rfl) ?_
  intro p e s m below meth c ls E hr hlk hK hP hS hl
  have E : CallFix p m c cX10_lowestOf 2 s _ lw_good RX10 := E
  have hx := E.1
  have hb := E.2.1
  have hown := E.2.2.2.1
  have hts := E.2.2.2.2
  have hl : lv_has ls 2 [(0, .ref (gq G (65))), (1, .int (a1))] := hl
  unfold f_X10_lowestOf at hf
  refine lv_aload_n hx hb dX10_lowestOf_0 rfl (lv_at hl 0 rfl) ?_
  refine z_getR (C := RX10) (T := TX10) (N := 75) (ci := 10) (k := 0) (o := 65) (t := 66) E hK hP iwX10 rfl rfl (by decide) (by decide) rfl rfl rfl tw952 dX10_lowestOf_1 ?_
  refine lv_iload_n hx hb dX10_lowestOf_4 rfl (lv_at hl 1 rfl) ?_
  refine lv_ineg hx hb dX10_lowestOf_5 ?_
  refine lv_dup2_11 hx hb dX10_lowestOf_6 rfl rfl ?_
  obtain ⟨hg1, hf⟩ := z_gd_some hf
  refine m_ald (o := 66) (i := (-a1)) E hK hP rfl (by decide) hg1 dX10_lowestOf_7 ?_
  refine lv_iconst (v := 1) hx hb dX10_lowestOf_8 (by decide) ?_
  refine lv_iadd hx hb dX10_lowestOf_9 ?_
  obtain ⟨hg2, hf⟩ := z_gd_some hf
  refine m_ast (o := 66) (i := (-a1)) (v := ((S 66 ((-a1) : Int32).toNatClampNeg) + 1)) E hK hq hP hS rfl (by decide) hg2 dX10_lowestOf_10 (fun H locs hP hS => ?_)
  obtain ⟨S3, hf, hP⟩ := z_ltM hf hP
  refine lv_ldc2 (v := 4000000000000000000) hx hb hown (hts _ tw1412) dX10_lowestOf_11 ?_
  refine lv_iload_n hx hb dX10_lowestOf_14 rfl (lv_at hl 1 rfl) ?_
  refine lv_i2l (v := (a1 : Int32).toInt64) hx hb dX10_lowestOf_15 rfl ?_
  refine lv_lsub hx hb dX10_lowestOf_16 ?_
  exact m_retl hx hb hr hlk hf hP hS dX10_lowestOf_17
theorem cv_X10_lowestOf : z_cv yX10_lowestOf cX10_lowestOf 2 (some .long) RX10 1 := ⟨⟨tw1410, twp70⟩, tw1411, tw11, by decide +kernel⟩
def f_X10_isIn (N : Nat) (a1 : Int32) (a2 : Int32) (a3 : Int32) (S : St) : Option (Int32 × St) := if a1 < a2 then (some (0, S)) else (if a3 < a1 then (some (0, S)) else (some (1, S)))
set_option maxHeartbeats 4000000 in
set_option maxRecDepth 100000 in
theorem c_X10_isIn {l : Launch} {G : Cx} {X S S' : St} {N : Nat} {a1 : Int32} {a2 : Int32} {a3 : Int32} {r : Int32} (hq : z_inj (gq G)) (hf : f_X10_isIn N a1 a2 a3 S = some (r, S')) : z_Ct l yX10_isIn cX10_isIn 3 (some .boolean) 0 0 G X S [.int (a1), .int (a2), .int (a3)] (z_QI G X S' r) := by
  refine z_start (by decide +kernel) (Nat.le_of_ble_eq_true rfl) ?_
  intro p e s m below meth c ls E hr hlk hK hP hS hl
  have E : CallFix p m c cX10_isIn 3 s _ lw_good RX10 := E
  have hx := E.1
  have hb := E.2.1
  have hown := E.2.2.2.1
  have hts := E.2.2.2.2
  have hl : lv_has ls 3 [(0, .int (a1)), (1, .int (a2)), (2, .int (a3))] := hl
  unfold f_X10_isIn at hf
  refine lv_iload_n hx hb dX10_isIn_0 rfl (lv_at hl 0 rfl) ?_
  refine lv_iload_n hx hb dX10_isIn_1 rfl (lv_at hl 1 rfl) ?_
  refine lv_icmp_lt (tgt := 14) hx hb dX10_isIn_2 (by decide) (fun hc1 => ?_) (fun hc1 => ?_)
  · replace hf := z_ifp hf hc1
    refine lv_iconst (v := 0) hx hb dX10_isIn_14 (by decide) ?_
    exact m_retz hx hb hr hlk rfl hf hP hS dX10_isIn_15
  · replace hf := z_ifn hf hc1
    refine lv_iload_n hx hb dX10_isIn_5 rfl (lv_at hl 0 rfl) ?_
    refine lv_iload_n hx hb dX10_isIn_6 rfl (lv_at hl 2 rfl) ?_
    refine lv_icmp_gt (tgt := 14) hx hb dX10_isIn_7 (by decide) (fun hc2 => ?_) (fun hc2 => ?_)
    · replace hf := z_ifp hf hc2
      refine lv_iconst (v := 0) hx hb dX10_isIn_14 (by decide) ?_
      exact m_retz hx hb hr hlk rfl hf hP hS dX10_isIn_15
    · replace hf := z_ifn hf hc2
      refine lv_iconst (v := 1) hx hb dX10_isIn_10 (by decide) ?_
      refine lv_goto (tgt := 15) hx hb dX10_isIn_11 (by decide) ?_
      exact m_retz hx hb hr hlk rfl hf hP hS dX10_isIn_15
theorem cs_X10_isIn : z_cs yX10_isIn cX10_isIn 3 (some .boolean) 3 := ⟨tw944, tw945, tw11, by decide +kernel⟩
def f_X10_bound (N : Nat) (a1 : Int32) (a2 : Int32) (a3 : Int32) (S : St) : Option (Int32 × St) := if a2 ≤ a1 then (if a1 ≤ a3 then (some (0, S)) else (some ((-6), S))) else (some ((-4), S))
set_option maxHeartbeats 4000000 in
set_option maxRecDepth 100000 in
theorem c_X10_bound {l : Launch} {G : Cx} {X S S' : St} {N : Nat} {a1 : Int32} {a2 : Int32} {a3 : Int32} {r : Int32} (hq : z_inj (gq G)) (hf : f_X10_bound N a1 a2 a3 S = some (r, S')) : z_Ct l yX10_bound cX10_bound 3 (some .int) 0 0 G X S [.int (a1), .int (a2), .int (a3)] (z_QI G X S' r) := by
  refine z_start (by decide +kernel) (Nat.le_of_ble_eq_true rfl) ?_
  intro p e s m below meth c ls E hr hlk hK hP hS hl
  have E : CallFix p m c cX10_bound 3 s _ lw_good RX10 := E
  have hx := E.1
  have hb := E.2.1
  have hown := E.2.2.2.1
  have hts := E.2.2.2.2
  have hl : lv_has ls 3 [(0, .int (a1)), (1, .int (a2)), (2, .int (a3))] := hl
  unfold f_X10_bound at hf
  refine lv_iload_n hx hb dX10_bound_0 rfl (lv_at hl 0 rfl) ?_
  refine lv_iload_n hx hb dX10_bound_1 rfl (lv_at hl 1 rfl) ?_
  refine lv_icmp_ge (tgt := 10) hx hb dX10_bound_2 (by decide) (fun hc1 => ?_) (fun hc1 => ?_)
  · replace hf := z_ifp hf hc1
    refine lv_iload_n hx hb dX10_bound_10 rfl (lv_at hl 0 rfl) ?_
    refine lv_iload_n hx hb dX10_bound_11 rfl (lv_at hl 2 rfl) ?_
    refine lv_icmp_le (tgt := 20) hx hb dX10_bound_12 (by decide) (fun hc2 => ?_) (fun hc2 => ?_)
    · replace hf := z_ifp hf hc2
      refine lv_iconst (v := 0) hx hb dX10_bound_20 (by decide) ?_
      exact m_reti hx hb hr hlk hf hP hS dX10_bound_21
    · replace hf := z_ifn hf hc2
      refine lv_bipush (v := (-6)) hx hb dX10_bound_15 (by decide) ?_
      refine lv_goto (tgt := 21) hx hb dX10_bound_17 (by decide) ?_
      exact m_reti hx hb hr hlk hf hP hS dX10_bound_21
  · replace hf := z_ifn hf hc1
    refine lv_bipush (v := (-4)) hx hb dX10_bound_5 (by decide) ?_
    refine lv_goto (tgt := 21) hx hb dX10_bound_7 (by decide) ?_
    exact m_reti hx hb hr hlk hf hP hS dX10_bound_21
theorem cs_X10_bound : z_cs yX10_bound cX10_bound 3 (some .int) 3 := ⟨tw1183, tw1184, tw11, by decide +kernel⟩
def f_X10_isVariable (N : Nat) (a1 : Int32) (S : St) : Option (Int32 × St) := z_bd (f_X10_isIn N (a1) (0) (5) S) fun r2 S1 => z_gd (r2 = 0 ∨ r2 = 1) (some (r2, S1))
set_option maxHeartbeats 4000000 in
set_option maxRecDepth 100000 in
theorem c_X10_isVariable {l : Launch} {G : Cx} {X S S' : St} {N : Nat} {a1 : Int32} {r : Int32} (hq : z_inj (gq G)) (hf : f_X10_isVariable N a1 S = some (r, S')) : z_Ct l yX10_isVariable cX10_isVariable 1 (some .boolean) 1 22 G X S [.int (a1)] (z_QI G X S' r) := by
  refine z_start (by decide +kernel) (Nat.le_of_ble_eq_true rfl) ?_
  intro p e s m below meth c ls E hr hlk hK hP hS hl
  have E : CallFix p m c cX10_isVariable 1 s _ lw_good RX10 := E
  have hx := E.1
  have hb := E.2.1
  have hown := E.2.2.2.1
  have hts := E.2.2.2.2
  have hl : lv_has ls 1 [(0, .int (a1))] := hl
  unfold f_X10_isVariable at hf
  refine lv_iload_n hx hb dX10_isVariable_0 rfl (lv_at hl 0 rfl) ?_
  refine lv_iconst (v := 0) hx hb dX10_isVariable_1 (by decide) ?_
  refine lv_iconst (v := 5) hx hb dX10_isVariable_2 (by decide) ?_
  obtain ⟨r2, S1, hz3, hf⟩ := z_bd_some hf
  refine z_ci (z_runS E hK hP hS (c_X10_isIn hq hz3) cs_X10_isIn tw943 rfl ⟨Nat.le_of_ble_eq_true rfl, Nat.le_of_ble_eq_true rfl⟩ ⟨Nat.le_refl 0, Nat.le_refl 0⟩ hl.1 (Nat.le_of_ble_eq_true rfl) rfl dX10_isVariable_3) hS (fun H locs hP hS => ?_)
  obtain ⟨hg4, hf⟩ := z_gd_some hf
  exact m_retz hx hb hr hlk (z_bz hg4).1 hf hP hS dX10_isVariable_6
theorem cs_X10_isVariable : z_cs yX10_isVariable cX10_isVariable 1 (some .boolean) 1 := ⟨tw1345, tw1346, tw11, by decide +kernel⟩
def b_X10_bits_4 (N : Nat) (k4 : Int32 → Int32 → Int32 → St → Option (Int32 × St)) (v0 : Int32) (v1 : Int32) (v2 : Int32) (S : St) : Option (Int32 × St) := if 4 ≤ v2 then (some (v1, S)) else (k4 (v0) ((v1 + ((v0 >>> (v2 &&& 31)) &&& 1))) ((v2 + 1)) S)
def f_X10_bits_4 (N : Nat) : Nat → Int32 → Int32 → Int32 → St → Option (Int32 × St)
  | 0 => fun _ _ _ _ => none
  | n + 1 => b_X10_bits_4 N (f_X10_bits_4 N n)
def f_X10_bits (N : Nat) (a1 : Int32) (S : St) : Option (Int32 × St) := f_X10_bits_4 N N (a1) (0) (0) S
set_option maxHeartbeats 4000000 in
set_option maxRecDepth 100000 in
theorem c_X10_bits {l : Launch} {G : Cx} {X S S' : St} {N : Nat} {a1 : Int32} {r : Int32} (hq : z_inj (gq G)) (hf : f_X10_bits N a1 S = some (r, S')) : z_Ct l yX10_bits cX10_bits 3 (some .int) 0 0 G X S [.int (a1)] (z_QI G X S' r) := by
  refine z_start (by decide +kernel) (Nat.le_of_ble_eq_true rfl) ?_
  intro p e s m below meth c ls E hr hlk hK hP hS hl
  have E : CallFix p m c cX10_bits 3 s _ lw_good RX10 := E
  have hx := E.1
  have hb := E.2.1
  have hown := E.2.2.2.1
  have hts := E.2.2.2.2
  have hB4 : ∀ (k4 : Int32 → Int32 → Int32 → St → Option (Int32 × St)) (hk4 : ∀ (v0 : Int32) (v1 : Int32) (v2 : Int32) (S : St) (H : Heap) (locs : List Loc) (ls : Array Slot), k4 v0 v1 v2 S = some (r, S') → z_P G X S H → z_S G s.heap H locs → lv_has ls 3 [(0, .int (v0)), (1, .int (v1)), (2, .int (v2))] → W p l e (z_rm 0 0) s m ([.int (a1)] : List Value).toArray below meth c H locs 0 0 (MQ below (z_QI G X S' r) ([.int (a1)] : List Value).toArray s 0 0 (z_Aq (gq G))) (F0 m 4 ls [])), ∀ (v0 : Int32) (v1 : Int32) (v2 : Int32) (S : St) (H : Heap) (locs : List Loc) (ls : Array Slot), b_X10_bits_4 N k4 v0 v1 v2 S = some (r, S') → z_P G X S H → z_S G s.heap H locs → lv_has ls 3 [(0, .int (v0)), (1, .int (v1)), (2, .int (v2))] → W p l e (z_rm 0 0) s m ([.int (a1)] : List Value).toArray below meth c H locs 0 0 (MQ below (z_QI G X S' r) ([.int (a1)] : List Value).toArray s 0 0 (z_Aq (gq G))) (F0 m 4 ls []) := by
    intro k4 hk4 v0 v1 v2 S H locs ls hf hP hS hl
    unfold b_X10_bits_4 at hf
    refine lv_iload_n hx hb dX10_bits_4 rfl (lv_at hl 2 rfl) ?_
    refine lv_iconst (v := 4) hx hb dX10_bits_5 (by decide) ?_
    refine lv_icmp_ge (tgt := 23) hx hb dX10_bits_6 (by decide) (fun hc1 => ?_) (fun hc1 => ?_)
    · replace hf := z_ifp hf hc1
      refine lv_iload_n hx hb dX10_bits_23 rfl (lv_at hl 1 rfl) ?_
      exact m_reti hx hb hr hlk hf hP hS dX10_bits_24
    · replace hf := z_ifn hf hc1
      refine lv_iload_n hx hb dX10_bits_9 rfl (lv_at hl 1 rfl) ?_
      refine lv_iload_n hx hb dX10_bits_10 rfl (lv_at hl 0 rfl) ?_
      refine lv_iload_n hx hb dX10_bits_11 rfl (lv_at hl 2 rfl) ?_
      refine lv_ishr hx hb dX10_bits_12 ?_
      refine lv_iconst (v := 1) hx hb dX10_bits_13 (by decide) ?_
      refine lv_iand hx hb dX10_bits_14 ?_
      refine lv_iadd hx hb dX10_bits_15 ?_
      refine lv_istore_n (lv' := [(1, .int ((v1 + ((v0 >>> (v2 &&& 31)) &&& 1)))), (0, .int (v0)), (2, .int (v2))]) hx hb dX10_bits_16 rfl hl (by decide) rfl (fun ls hl => ?_)
      refine lv_iinc (v := (v2 + 1)) (lv' := [(2, .int ((v2 + 1))), (1, .int ((v1 + ((v0 >>> (v2 &&& 31)) &&& 1)))), (0, .int (v0))]) hx hb dX10_bits_17 hl (k := 2) rfl rfl (by decide) rfl (fun ls hl => ?_)
      refine lv_goto (tgt := 4) hx hb dX10_bits_20 (by decide) ?_
      exact hk4 (v0) ((v1 + ((v0 >>> (v2 &&& 31)) &&& 1))) ((v2 + 1)) S _ _ _ hf hP hS (lv_sub hl [2, 1, 0] rfl)
  have hL4 : ∀ (n : Nat), ∀ (v0 : Int32) (v1 : Int32) (v2 : Int32) (S : St) (H : Heap) (locs : List Loc) (ls : Array Slot), f_X10_bits_4 N n v0 v1 v2 S = some (r, S') → z_P G X S H → z_S G s.heap H locs → lv_has ls 3 [(0, .int (v0)), (1, .int (v1)), (2, .int (v2))] → W p l e (z_rm 0 0) s m ([.int (a1)] : List Value).toArray below meth c H locs 0 0 (MQ below (z_QI G X S' r) ([.int (a1)] : List Value).toArray s 0 0 (z_Aq (gq G))) (F0 m 4 ls []) := by
    intro  n
    induction n with
    | zero => intro _ _ _ _ _ _ _ hf; cases hf
    | succ n ih => exact hB4  _  ih
  have hl : lv_has ls 3 [(0, .int (a1))] := hl
  unfold f_X10_bits at hf
  refine lv_iconst (v := 0) hx hb dX10_bits_0 (by decide) ?_
  refine lv_istore_n (lv' := [(1, .int (0)), (0, .int (a1))]) hx hb dX10_bits_1 rfl hl (by decide) rfl (fun ls hl => ?_)
  refine lv_iconst (v := 0) hx hb dX10_bits_2 (by decide) ?_
  refine lv_istore_n (lv' := [(2, .int (0)), (1, .int (0)), (0, .int (a1))]) hx hb dX10_bits_3 rfl hl (by decide) rfl (fun ls hl => ?_)
  exact hL4 N (a1) (0) (0) S _ _ _ hf hP hS (lv_sub hl [2, 1, 0] rfl)
theorem cs_X10_bits : z_cs yX10_bits cX10_bits 3 (some .int) 1 := ⟨tw1301, tw1302, tw11, by decide +kernel⟩
def b_X10_letter_25 (N : Nat) (v1 : Int32) (v2 : Int32) (S : St) : Option (Int32 × St) := if v2 = 0 then (z_gd (z_in (S 65 15) (z_ln 72)) (z_lt (z_wr S 72 ((S 65 15) : Int32).toNatClampNeg v1) fun S8 => z_lt (z_wr S8 65 15 ((S8 65 15) + 1)) fun S9 => some ((S9 65 15), S9))) else (z_bd (f_X10_no N (v2) S) fun r11 S10 => some (r11, S10))
def f_X10_letter (N : Nat) (a1 : Int32) (S : St) : Option (Int32 × St) := z_bd (f_X10_bound N (a1) (0) (255) S) fun r2 S1 => if r2 = 0 then (if (S1 65 15) = 96 then (b_X10_letter_25 N (a1) ((-6)) S1) else (b_X10_letter_25 N (a1) (r2) S1)) else (b_X10_letter_25 N (a1) (r2) S1)
set_option maxHeartbeats 4000000 in
set_option maxRecDepth 100000 in
theorem c_X10_letter {l : Launch} {G : Cx} {X S S' : St} {N : Nat} {a1 : Int32} {r : Int32} (hq : z_inj (gq G)) (hf : f_X10_letter N a1 S = some (r, S')) : z_Ct l yX10_letter cX10_letter 3 (some .int) 1 22 G X S [.ref (gq G (65)), .int (a1)] (z_QI G X S' r) := by
  refine z_start (by decide +kernel) (Nat.le_of_ble_eq_true rfl) ?_
  intro p e s m below meth c ls E hr hlk hK hP hS hl
  have E : CallFix p m c cX10_letter 3 s _ lw_good RX10 := E
  have hx := E.1
  have hb := E.2.1
  have hown := E.2.2.2.1
  have hts := E.2.2.2.2
  have hJ25 : ∀ (v1 : Int32) (v2 : Int32) (S : St) (H : Heap) (locs : List Loc) (ls : Array Slot), b_X10_letter_25 N v1 v2 S = some (r, S') → z_P G X S H → z_S G s.heap H locs → lv_has ls 3 [(0, .ref (gq G (65))), (1, .int (v1)), (2, .int (v2))] → W p l e (z_rm 1 22) s m ([.ref (gq G (65)), .int (a1)] : List Value).toArray below meth c H locs 0 0 (MQ below (z_QI G X S' r) ([.ref (gq G (65)), .int (a1)] : List Value).toArray s 0 0 (z_Aq (gq G))) (F0 m 25 ls []) := by
    intro v1 v2 S H locs ls hf hP hS hl
    unfold b_X10_letter_25 at hf
    refine lv_iload_n hx hb dX10_letter_25 rfl (lv_at hl 2 rfl) ?_
    refine lv_if_eq (tgt := 35) hx hb dX10_letter_26 (by decide) (fun hc6 => ?_) (fun hc6 => ?_)
    · replace hf := z_ifp hf hc6
      refine lv_aload_n hx hb dX10_letter_35 rfl (lv_at hl 0 rfl) ?_
      refine z_getR (C := RX10) (T := TX10) (N := 75) (ci := 10) (k := 9) (o := 65) (t := 72) E hK hP iwX10 rfl rfl (by decide) (by decide) rfl rfl rfl tw961 dX10_letter_36 ?_
      refine lv_aload_n hx hb dX10_letter_39 rfl (lv_at hl 0 rfl) ?_
      refine m_getI (C := RX10) (T := TX10) (N := 75) (ci := 10) (k := 15) (o := 65) E hK hP iwX10 rfl rfl (by decide) (by decide) rfl rfl (by decide) tw967 dX10_letter_40 ?_
      refine lv_iload_n hx hb dX10_letter_43 rfl (lv_at hl 1 rfl) ?_
      obtain ⟨hg7, hf⟩ := z_gd_some hf
      refine m_ast (o := 72) (i := (S 65 15)) (v := v1) E hK hq hP hS rfl (by decide) hg7 dX10_letter_44 (fun H locs hP hS => ?_)
      obtain ⟨S8, hf, hP⟩ := z_ltM hf hP
      refine lv_aload_n hx hb dX10_letter_45 rfl (lv_at hl 0 rfl) ?_
      refine lv_dup hx hb dX10_letter_46 rfl ?_
      refine m_getI (C := RX10) (T := TX10) (N := 75) (ci := 10) (k := 15) (o := 65) E hK hP iwX10 rfl rfl (by decide) (by decide) rfl rfl (by decide) tw967 dX10_letter_47 ?_
      refine lv_iconst (v := 1) hx hb dX10_letter_50 (by decide) ?_
      refine lv_iadd hx hb dX10_letter_51 ?_
      refine m_putI (C := RX10) (T := TX10) (N := 75) (ci := 10) (k := 15) (o := 65) (v := ((S8 65 15) + 1)) (ty := .int) E hK hq hP hS iwX10 tyX10 tyX10_ok nmX10 rfl rfl (by decide) (by decide) rfl rfl (by decide) rfl (tyX10_ok 15 (by decide)) ⟨rfl, rfl⟩ tw967 dX10_letter_52 (fun H locs hP hS => ?_)
      obtain ⟨S9, hf, hP⟩ := z_ltM hf hP
      refine lv_aload_n hx hb dX10_letter_55 rfl (lv_at hl 0 rfl) ?_
      refine m_getI (C := RX10) (T := TX10) (N := 75) (ci := 10) (k := 15) (o := 65) E hK hP iwX10 rfl rfl (by decide) (by decide) rfl rfl (by decide) tw967 dX10_letter_56 ?_
      exact m_reti hx hb hr hlk hf hP hS dX10_letter_59
    · replace hf := z_ifn hf hc6
      refine lv_aload_n hx hb dX10_letter_29 rfl (lv_at hl 0 rfl) ?_
      refine lv_iload_n hx hb dX10_letter_30 rfl (lv_at hl 2 rfl) ?_
      obtain ⟨r11, S10, hz12, hf⟩ := z_bd_some hf
      refine z_ci (z_runV (o := 65) (ci := 10) E hK hP hS (c_X10_no hq hz12) cv_X10_no tw1185 rfl (by decide) rfl rfl ⟨Nat.le_of_ble_eq_true rfl, Nat.le_of_ble_eq_true rfl⟩ ⟨Nat.le_refl 0, Nat.le_refl 0⟩ hl.1 (Nat.le_of_ble_eq_true rfl) rfl dX10_letter_31) hS (fun H locs hP hS => ?_)
      exact m_reti hx hb hr hlk hf hP hS dX10_letter_34
  have hl : lv_has ls 3 [(0, .ref (gq G (65))), (1, .int (a1))] := hl
  unfold f_X10_letter at hf
  refine lv_iload_n hx hb dX10_letter_0 rfl (lv_at hl 1 rfl) ?_
  refine lv_iconst (v := 0) hx hb dX10_letter_1 (by decide) ?_
  refine lv_sipush (v := 255) hx hb dX10_letter_2 (by decide) ?_
  obtain ⟨r2, S1, hz3, hf⟩ := z_bd_some hf
  refine z_ci (z_runS E hK hP hS (c_X10_bound hq hz3) cs_X10_bound tw1182 rfl ⟨Nat.le_of_ble_eq_true rfl, Nat.le_of_ble_eq_true rfl⟩ ⟨Nat.le_refl 0, Nat.le_refl 0⟩ hl.1 (Nat.le_of_ble_eq_true rfl) rfl dX10_letter_5) hS (fun H locs hP hS => ?_)
  refine lv_istore_n (lv' := [(2, .int (r2)), (0, .ref (gq G (65))), (1, .int (a1))]) hx hb dX10_letter_8 rfl hl (by decide) rfl (fun ls hl => ?_)
  refine lv_iload_n hx hb dX10_letter_9 rfl (lv_at hl 0 rfl) ?_
  refine lv_if_ne (tgt := 25) hx hb dX10_letter_10 (by decide) (fun hc4 => ?_) (fun hc4 => ?_)
  · replace hf := z_ifn hf hc4
    exact hJ25 (a1) (r2) S1 _ _ _ hf hP hS (lv_sub hl [1, 2, 0] rfl)
  · replace hf := z_ifp hf hc4
    refine lv_aload_n hx hb dX10_letter_13 rfl (lv_at hl 1 rfl) ?_
    refine m_getI (C := RX10) (T := TX10) (N := 75) (ci := 10) (k := 15) (o := 65) E hK hP iwX10 rfl rfl (by decide) (by decide) rfl rfl (by decide) tw967 dX10_letter_14 ?_
    refine lv_bipush (v := 96) hx hb dX10_letter_17 (by decide) ?_
    refine lv_icmp_ne (tgt := 25) hx hb dX10_letter_19 (by decide) (fun hc5 => ?_) (fun hc5 => ?_)
    · replace hf := z_ifn hf hc5
      exact hJ25 (a1) (r2) S1 _ _ _ hf hP hS (lv_sub hl [1, 2, 0] rfl)
    · replace hf := z_ifp hf hc5
      refine lv_bipush (v := (-6)) hx hb dX10_letter_22 (by decide) ?_
      refine lv_istore_n (lv' := [(2, .int ((-6))), (0, .ref (gq G (65))), (1, .int (a1))]) hx hb dX10_letter_24 rfl hl (by decide) rfl (fun ls hl => ?_)
      exact hJ25 (a1) ((-6)) S1 _ _ _ hf hP hS (lv_sub hl [1, 2, 0] rfl)
theorem cv_X10_letter : z_cv yX10_letter cX10_letter 3 (some .int) RX10 1 := ⟨⟨tw1179, tw1180⟩, tw1181, tw11, by decide +kernel⟩
def f_X10_awaits (N : Nat) (a1 : Int32) (S : St) : Option (St) := z_gd (z_in (S 65 19) (z_ln 76)) (z_lt (z_wr S 76 ((S 65 19) : Int32).toNatClampNeg a1) fun S2 => z_lt (z_wr S2 65 19 ((S2 65 19) + 1)) fun S3 => some S3)
set_option maxHeartbeats 4000000 in
set_option maxRecDepth 100000 in
theorem c_X10_awaits {l : Launch} {G : Cx} {X S S' : St} {N : Nat} {a1 : Int32} (hq : z_inj (gq G)) (hf : f_X10_awaits N a1 S = some S') : z_Ct l yX10_awaits cX10_awaits 2 none 0 0 G X S [.ref (gq G (65)), .int (a1)] (z_QV G X S') := by
  refine z_start (by decide +kernel) (Nat.le_of_ble_eq_true rfl) ?_
  intro p e s m below meth c ls E hr hlk hK hP hS hl
  have E : CallFix p m c cX10_awaits 2 s _ lw_good RX10 := E
  have hx := E.1
  have hb := E.2.1
  have hown := E.2.2.2.1
  have hts := E.2.2.2.2
  have hl : lv_has ls 2 [(0, .ref (gq G (65))), (1, .int (a1))] := hl
  unfold f_X10_awaits at hf
  refine lv_aload_n hx hb dX10_awaits_0 rfl (lv_at hl 0 rfl) ?_
  refine z_getR (C := RX10) (T := TX10) (N := 75) (ci := 10) (k := 13) (o := 65) (t := 76) E hK hP iwX10 rfl rfl (by decide) (by decide) rfl rfl rfl tw965 dX10_awaits_1 ?_
  refine lv_aload_n hx hb dX10_awaits_4 rfl (lv_at hl 0 rfl) ?_
  refine m_getI (C := RX10) (T := TX10) (N := 75) (ci := 10) (k := 19) (o := 65) E hK hP iwX10 rfl rfl (by decide) (by decide) rfl rfl (by decide) tw971 dX10_awaits_5 ?_
  refine lv_iload_n hx hb dX10_awaits_8 rfl (lv_at hl 1 rfl) ?_
  obtain ⟨hg1, hf⟩ := z_gd_some hf
  refine m_ast (o := 76) (i := (S 65 19)) (v := a1) E hK hq hP hS rfl (by decide) hg1 dX10_awaits_9 (fun H locs hP hS => ?_)
  obtain ⟨S2, hf, hP⟩ := z_ltM hf hP
  refine lv_aload_n hx hb dX10_awaits_10 rfl (lv_at hl 0 rfl) ?_
  refine lv_dup hx hb dX10_awaits_11 rfl ?_
  refine m_getI (C := RX10) (T := TX10) (N := 75) (ci := 10) (k := 19) (o := 65) E hK hP iwX10 rfl rfl (by decide) (by decide) rfl rfl (by decide) tw971 dX10_awaits_12 ?_
  refine lv_iconst (v := 1) hx hb dX10_awaits_15 (by decide) ?_
  refine lv_iadd hx hb dX10_awaits_16 ?_
  refine m_putI (C := RX10) (T := TX10) (N := 75) (ci := 10) (k := 19) (o := 65) (v := ((S2 65 19) + 1)) (ty := .int) E hK hq hP hS iwX10 tyX10 tyX10_ok nmX10 rfl rfl (by decide) (by decide) rfl rfl (by decide) rfl (tyX10_ok 19 (by decide)) ⟨rfl, rfl⟩ tw971 dX10_awaits_17 (fun H locs hP hS => ?_)
  obtain ⟨S3, hf, hP⟩ := z_ltM hf hP
  exact m_retv hx hb hr hlk hf hP hS dX10_awaits_20
theorem cv_X10_awaits : z_cv yX10_awaits cX10_awaits 2 none RX10 1 := ⟨⟨tw1199, twp34⟩, tw1200, tw11, by decide +kernel⟩
def f_X10_isSite (N : Nat) (a1 : Int32) (S : St) : Option (Int32 × St) := if a1 = 112 then (some (1, S)) else (if a1 = 113 then (some (1, S)) else (some (0, S)))
set_option maxHeartbeats 4000000 in
set_option maxRecDepth 100000 in
theorem c_X10_isSite {l : Launch} {G : Cx} {X S S' : St} {N : Nat} {a1 : Int32} {r : Int32} (hq : z_inj (gq G)) (hf : f_X10_isSite N a1 S = some (r, S')) : z_Ct l yX10_isSite cX10_isSite 1 (some .boolean) 0 0 G X S [.int (a1)] (z_QI G X S' r) := by
  refine z_start (by decide +kernel) (Nat.le_of_ble_eq_true rfl) ?_
  intro p e s m below meth c ls E hr hlk hK hP hS hl
  have E : CallFix p m c cX10_isSite 1 s _ lw_good RX10 := E
  have hx := E.1
  have hb := E.2.1
  have hown := E.2.2.2.1
  have hts := E.2.2.2.2
  have hl : lv_has ls 1 [(0, .int (a1))] := hl
  unfold f_X10_isSite at hf
  refine lv_iload_n hx hb dX10_isSite_0 rfl (lv_at hl 0 rfl) ?_
  refine lv_bipush (v := 112) hx hb dX10_isSite_1 (by decide) ?_
  refine lv_icmp_eq (tgt := 12) hx hb dX10_isSite_3 (by decide) (fun hc1 => ?_) (fun hc1 => ?_)
  · replace hf := z_ifp hf hc1
    refine lv_iconst (v := 1) hx hb dX10_isSite_12 (by decide) ?_
    refine lv_goto (tgt := 17) hx hb dX10_isSite_13 (by decide) ?_
    exact m_retz hx hb hr hlk rfl hf hP hS dX10_isSite_17
  · replace hf := z_ifn hf hc1
    refine lv_iload_n hx hb dX10_isSite_6 rfl (lv_at hl 0 rfl) ?_
    refine lv_bipush (v := 113) hx hb dX10_isSite_7 (by decide) ?_
    refine lv_icmp_ne (tgt := 16) hx hb dX10_isSite_9 (by decide) (fun hc2 => ?_) (fun hc2 => ?_)
    · replace hf := z_ifn hf hc2
      refine lv_iconst (v := 0) hx hb dX10_isSite_16 (by decide) ?_
      exact m_retz hx hb hr hlk rfl hf hP hS dX10_isSite_17
    · replace hf := z_ifp hf hc2
      refine lv_iconst (v := 1) hx hb dX10_isSite_12 (by decide) ?_
      refine lv_goto (tgt := 17) hx hb dX10_isSite_13 (by decide) ?_
      exact m_retz hx hb hr hlk rfl hf hP hS dX10_isSite_17
theorem cs_X10_isSite : z_cs yX10_isSite cX10_isSite 1 (some .boolean) 1 := ⟨tw950, tw951, tw11, by decide +kernel⟩
def f_X10_manyOf (N : Nat) (a1 : Int32) (S : St) : Option (Int32 × St) := if a1 = 42 then (some (2, S)) else (if a1 = 43 then (some (2, S)) else (if a1 = 44 then (some (2, S)) else (if a1 = 45 then (some (2, S)) else (if a1 = 63 then (some (3, S)) else (if a1 = 64 then (some (2, S)) else (if a1 = 66 then (some (2, S)) else (if a1 = 67 then (some (2, S)) else (if a1 = 80 then (some (1, S)) else (if a1 = 81 then (some (1, S)) else (if a1 = 87 then (some (1, S)) else (if a1 = 88 then (some (1, S)) else (if a1 = 112 then (some (1, S)) else (if a1 = 113 then (some (1, S)) else (some ((-9), S)))))))))))))))
set_option maxHeartbeats 4000000 in
set_option maxRecDepth 100000 in
theorem c_X10_manyOf {l : Launch} {G : Cx} {X S S' : St} {N : Nat} {a1 : Int32} {r : Int32} (hq : z_inj (gq G)) (hf : f_X10_manyOf N a1 S = some (r, S')) : z_Ct l yX10_manyOf cX10_manyOf 1 (some .int) 0 0 G X S [.int (a1)] (z_QI G X S' r) := by
  refine z_start (by decide +kernel) (Nat.le_of_ble_eq_true rfl) ?_
  intro p e s m below meth c ls E hr hlk hK hP hS hl
  have E : CallFix p m c cX10_manyOf 1 s _ lw_good RX10 := E
  have hx := E.1
  have hb := E.2.1
  have hown := E.2.2.2.1
  have hts := E.2.2.2.2
  have hl : lv_has ls 1 [(0, .int (a1))] := hl
  unfold f_X10_manyOf at hf
  refine lv_iload_n hx hb dX10_manyOf_0 rfl (lv_at hl 0 rfl) ?_
  by_cases hc1 : a1 = 42
  · replace hf := z_ifp hf hc1
    refine lv_lookup (off := 125) (tgt := 126) hx hb dX10_manyOf_1 (by decide) (by rw [hc1]; decide) (by decide) ?_
    refine lv_iconst (v := 2) hx hb dX10_manyOf_126 (by decide) ?_
    exact m_reti hx hb hr hlk hf hP hS dX10_manyOf_127
  · replace hf := z_ifn hf hc1
    by_cases hc2 : a1 = 43
    · replace hf := z_ifp hf hc2
      refine lv_lookup (off := 125) (tgt := 126) hx hb dX10_manyOf_1 (by decide) (by rw [hc2]; decide) (by decide) ?_
      refine lv_iconst (v := 2) hx hb dX10_manyOf_126 (by decide) ?_
      exact m_reti hx hb hr hlk hf hP hS dX10_manyOf_127
    · replace hf := z_ifn hf hc2
      by_cases hc3 : a1 = 44
      · replace hf := z_ifp hf hc3
        refine lv_lookup (off := 125) (tgt := 126) hx hb dX10_manyOf_1 (by decide) (by rw [hc3]; decide) (by decide) ?_
        refine lv_iconst (v := 2) hx hb dX10_manyOf_126 (by decide) ?_
        exact m_reti hx hb hr hlk hf hP hS dX10_manyOf_127
      · replace hf := z_ifn hf hc3
        by_cases hc4 : a1 = 45
        · replace hf := z_ifp hf hc4
          refine lv_lookup (off := 125) (tgt := 126) hx hb dX10_manyOf_1 (by decide) (by rw [hc4]; decide) (by decide) ?_
          refine lv_iconst (v := 2) hx hb dX10_manyOf_126 (by decide) ?_
          exact m_reti hx hb hr hlk hf hP hS dX10_manyOf_127
        · replace hf := z_ifn hf hc4
          by_cases hc5 : a1 = 63
          · replace hf := z_ifp hf hc5
            refine lv_lookup (off := 123) (tgt := 124) hx hb dX10_manyOf_1 (by decide) (by rw [hc5]; decide) (by decide) ?_
            refine lv_iconst (v := 3) hx hb dX10_manyOf_124 (by decide) ?_
            exact m_reti hx hb hr hlk hf hP hS dX10_manyOf_125
          · replace hf := z_ifn hf hc5
            by_cases hc6 : a1 = 64
            · replace hf := z_ifp hf hc6
              refine lv_lookup (off := 125) (tgt := 126) hx hb dX10_manyOf_1 (by decide) (by rw [hc6]; decide) (by decide) ?_
              refine lv_iconst (v := 2) hx hb dX10_manyOf_126 (by decide) ?_
              exact m_reti hx hb hr hlk hf hP hS dX10_manyOf_127
            · replace hf := z_ifn hf hc6
              by_cases hc7 : a1 = 66
              · replace hf := z_ifp hf hc7
                refine lv_lookup (off := 125) (tgt := 126) hx hb dX10_manyOf_1 (by decide) (by rw [hc7]; decide) (by decide) ?_
                refine lv_iconst (v := 2) hx hb dX10_manyOf_126 (by decide) ?_
                exact m_reti hx hb hr hlk hf hP hS dX10_manyOf_127
              · replace hf := z_ifn hf hc7
                by_cases hc8 : a1 = 67
                · replace hf := z_ifp hf hc8
                  refine lv_lookup (off := 125) (tgt := 126) hx hb dX10_manyOf_1 (by decide) (by rw [hc8]; decide) (by decide) ?_
                  refine lv_iconst (v := 2) hx hb dX10_manyOf_126 (by decide) ?_
                  exact m_reti hx hb hr hlk hf hP hS dX10_manyOf_127
                · replace hf := z_ifn hf hc8
                  by_cases hc9 : a1 = 80
                  · replace hf := z_ifp hf hc9
                    refine lv_lookup (off := 127) (tgt := 128) hx hb dX10_manyOf_1 (by decide) (by rw [hc9]; decide) (by decide) ?_
                    refine lv_iconst (v := 1) hx hb dX10_manyOf_128 (by decide) ?_
                    exact m_reti hx hb hr hlk hf hP hS dX10_manyOf_129
                  · replace hf := z_ifn hf hc9
                    by_cases hc10 : a1 = 81
                    · replace hf := z_ifp hf hc10
                      refine lv_lookup (off := 127) (tgt := 128) hx hb dX10_manyOf_1 (by decide) (by rw [hc10]; decide) (by decide) ?_
                      refine lv_iconst (v := 1) hx hb dX10_manyOf_128 (by decide) ?_
                      exact m_reti hx hb hr hlk hf hP hS dX10_manyOf_129
                    · replace hf := z_ifn hf hc10
                      by_cases hc11 : a1 = 87
                      · replace hf := z_ifp hf hc11
                        refine lv_lookup (off := 127) (tgt := 128) hx hb dX10_manyOf_1 (by decide) (by rw [hc11]; decide) (by decide) ?_
                        refine lv_iconst (v := 1) hx hb dX10_manyOf_128 (by decide) ?_
                        exact m_reti hx hb hr hlk hf hP hS dX10_manyOf_129
                      · replace hf := z_ifn hf hc11
                        by_cases hc12 : a1 = 88
                        · replace hf := z_ifp hf hc12
                          refine lv_lookup (off := 127) (tgt := 128) hx hb dX10_manyOf_1 (by decide) (by rw [hc12]; decide) (by decide) ?_
                          refine lv_iconst (v := 1) hx hb dX10_manyOf_128 (by decide) ?_
                          exact m_reti hx hb hr hlk hf hP hS dX10_manyOf_129
                        · replace hf := z_ifn hf hc12
                          by_cases hc13 : a1 = 112
                          · replace hf := z_ifp hf hc13
                            refine lv_lookup (off := 127) (tgt := 128) hx hb dX10_manyOf_1 (by decide) (by rw [hc13]; decide) (by decide) ?_
                            refine lv_iconst (v := 1) hx hb dX10_manyOf_128 (by decide) ?_
                            exact m_reti hx hb hr hlk hf hP hS dX10_manyOf_129
                          · replace hf := z_ifn hf hc13
                            by_cases hc14 : a1 = 113
                            · replace hf := z_ifp hf hc14
                              refine lv_lookup (off := 127) (tgt := 128) hx hb dX10_manyOf_1 (by decide) (by rw [hc14]; decide) (by decide) ?_
                              refine lv_iconst (v := 1) hx hb dX10_manyOf_128 (by decide) ?_
                              exact m_reti hx hb hr hlk hf hP hS dX10_manyOf_129
                            · replace hf := z_ifn hf hc14
                              refine lv_lookup (off := (129)) (tgt := 130) hx hb dX10_manyOf_1 (by decide) (by refine (lv_osw (k := 42) hc1 (by decide)).trans ?_; refine (lv_osw (k := 43) hc2 (by decide)).trans ?_; refine (lv_osw (k := 44) hc3 (by decide)).trans ?_; refine (lv_osw (k := 45) hc4 (by decide)).trans ?_; refine (lv_osw (k := 63) hc5 (by decide)).trans ?_; refine (lv_osw (k := 64) hc6 (by decide)).trans ?_; refine (lv_osw (k := 66) hc7 (by decide)).trans ?_; refine (lv_osw (k := 67) hc8 (by decide)).trans ?_; refine (lv_osw (k := 80) hc9 (by decide)).trans ?_; refine (lv_osw (k := 81) hc10 (by decide)).trans ?_; refine (lv_osw (k := 87) hc11 (by decide)).trans ?_; refine (lv_osw (k := 88) hc12 (by decide)).trans ?_; refine (lv_osw (k := 112) hc13 (by decide)).trans ?_; refine (lv_osw (k := 113) hc14 (by decide)).trans ?_; rfl) (by decide) ?_
                              refine lv_bipush (v := (-9)) hx hb dX10_manyOf_130 (by decide) ?_
                              exact m_reti hx hb hr hlk hf hP hS dX10_manyOf_132
theorem cs_X10_manyOf : z_cs yX10_manyOf cX10_manyOf 1 (some .int) 1 := ⟨tw947, tw948, tw11, by decide +kernel⟩
def b_X10_awaitsParts_54 (N : Nat) (S : St) : Option (Int32 × St) := z_bv (f_X10_awaits N (101) S) fun S29 => z_bv (f_X10_awaits N (118) S29) fun S31 => some (1, S31)
def b_X10_awaitsParts_42 (N : Nat) (v1 : Int32) (S : St) : Option (Int32 × St) := if v1 = 76 then (z_bv (f_X10_awaits N (101) S) fun S23 => b_X10_awaitsParts_54 N S23) else (b_X10_awaitsParts_54 N S)
def b_X10_awaitsParts_101 (N : Nat) (k101 : Int32 → Int32 → St → Option (Int32 × St)) (v2 : Int32) (v3 : Int32) (S : St) : Option (Int32 × St) := if v2 ≤ v3 then (if v2 ≤ 0 then (some (0, S)) else (some (1, S))) else (z_bv (f_X10_awaits N (101) S) fun S27 => k101 (v2) ((v3 + 1)) S27)
def f_X10_awaitsParts_101 (N : Nat) : Nat → Int32 → Int32 → St → Option (Int32 × St)
  | 0 => fun _ _ _ => none
  | n + 1 => b_X10_awaitsParts_101 N (f_X10_awaitsParts_101 N n)
def f_X10_awaitsParts (N : Nat) (a1 : Int32) (S : St) : Option (Int32 × St) := z_bd (f_X10_isIn N (a1) (48) (57) S) fun r2 S1 => if r2 = 0 then (z_bd (f_X10_isIn N (a1) (97) (102) S1) fun r6 S5 => if r6 = 0 then (if a1 = 76 then (b_X10_awaitsParts_42 N (a1) S5) else (if a1 = 83 then (b_X10_awaitsParts_42 N (a1) S5) else (if a1 = 70 then (b_X10_awaitsParts_42 N (a1) S5) else (if a1 = 89 then (z_bv (f_X10_awaits N (101) S5) fun S16 => z_bv (f_X10_awaits N (118) S16) fun S18 => z_bv (f_X10_awaits N (101) S18) fun S20 => some (1, S20)) else (z_bd (f_X10_manyOf N (a1) S5) fun r14 S13 => f_X10_awaitsParts_101 N N (r14) (0) S13))))) else (some (1, S5))) else (some (1, S1))
set_option maxHeartbeats 4000000 in
set_option maxRecDepth 100000 in
theorem c_X10_awaitsParts {l : Launch} {G : Cx} {X S S' : St} {N : Nat} {a1 : Int32} {r : Int32} (hq : z_inj (gq G)) (hf : f_X10_awaitsParts N a1 S = some (r, S')) : z_Ct l yX10_awaitsParts cX10_awaitsParts 4 (some .boolean) 1 22 G X S [.ref (gq G (65)), .int (a1)] (z_QI G X S' r) := by
  refine z_start (by decide +kernel) (Nat.le_of_ble_eq_true rfl) ?_
  intro p e s m below meth c ls E hr hlk hK hP hS hl
  have E : CallFix p m c cX10_awaitsParts 4 s _ lw_good RX10 := E
  have hx := E.1
  have hb := E.2.1
  have hown := E.2.2.2.1
  have hts := E.2.2.2.2
  have hJ54 : ∀ (S : St) (H : Heap) (locs : List Loc) (ls : Array Slot), b_X10_awaitsParts_54 N S = some (r, S') → z_P G X S H → z_S G s.heap H locs → lv_has ls 4 [(0, .ref (gq G (65)))] → W p l e (z_rm 1 22) s m ([.ref (gq G (65)), .int (a1)] : List Value).toArray below meth c H locs 0 0 (MQ below (z_QI G X S' r) ([.ref (gq G (65)), .int (a1)] : List Value).toArray s 0 0 (z_Aq (gq G))) (F0 m 54 ls []) := by
    intro S H locs ls hf hP hS hl
    unfold b_X10_awaitsParts_54 at hf
    refine lv_aload_n hx hb dX10_awaitsParts_54 rfl (lv_at hl 0 rfl) ?_
    refine lv_bipush (v := 101) hx hb dX10_awaitsParts_55 (by decide) ?_
    obtain ⟨S29, hz30, hf⟩ := z_bv_some hf
    refine z_cvo (z_runV (o := 65) (ci := 10) E hK hP hS (c_X10_awaits hq hz30) cv_X10_awaits tw1197 rfl (by decide) rfl rfl ⟨Nat.le_of_ble_eq_true rfl, Nat.le_of_ble_eq_true rfl⟩ ⟨Nat.le_refl 0, Nat.le_refl 0⟩ hl.1 (Nat.le_of_ble_eq_true rfl) rfl dX10_awaitsParts_57) hS (fun H locs hP hS => ?_)
    refine lv_aload_n hx hb dX10_awaitsParts_60 rfl (lv_at hl 0 rfl) ?_
    refine lv_bipush (v := 118) hx hb dX10_awaitsParts_61 (by decide) ?_
    obtain ⟨S31, hz32, hf⟩ := z_bv_some hf
    refine z_cvo (z_runV (o := 65) (ci := 10) E hK hP hS (c_X10_awaits hq hz32) cv_X10_awaits tw1197 rfl (by decide) rfl rfl ⟨Nat.le_of_ble_eq_true rfl, Nat.le_of_ble_eq_true rfl⟩ ⟨Nat.le_refl 0, Nat.le_refl 0⟩ hl.1 (Nat.le_of_ble_eq_true rfl) rfl dX10_awaitsParts_63) hS (fun H locs hP hS => ?_)
    refine lv_iconst (v := 1) hx hb dX10_awaitsParts_66 (by decide) ?_
    exact m_retz hx hb hr hlk rfl hf hP hS dX10_awaitsParts_67
  have hJ42 : ∀ (v1 : Int32) (S : St) (H : Heap) (locs : List Loc) (ls : Array Slot), b_X10_awaitsParts_42 N v1 S = some (r, S') → z_P G X S H → z_S G s.heap H locs → lv_has ls 4 [(0, .ref (gq G (65))), (1, .int (v1))] → W p l e (z_rm 1 22) s m ([.ref (gq G (65)), .int (a1)] : List Value).toArray below meth c H locs 0 0 (MQ below (z_QI G X S' r) ([.ref (gq G (65)), .int (a1)] : List Value).toArray s 0 0 (z_Aq (gq G))) (F0 m 42 ls []) := by
    intro v1 S H locs ls hf hP hS hl
    unfold b_X10_awaitsParts_42 at hf
    refine lv_iload_n hx hb dX10_awaitsParts_42 rfl (lv_at hl 1 rfl) ?_
    refine lv_bipush (v := 76) hx hb dX10_awaitsParts_43 (by decide) ?_
    refine lv_icmp_ne (tgt := 54) hx hb dX10_awaitsParts_45 (by decide) (fun hc22 => ?_) (fun hc22 => ?_)
    · replace hf := z_ifn hf hc22
      exact hJ54 S _ _ _ hf hP hS (lv_sub hl [0] rfl)
    · replace hf := z_ifp hf hc22
      refine lv_aload_n hx hb dX10_awaitsParts_48 rfl (lv_at hl 0 rfl) ?_
      refine lv_bipush (v := 101) hx hb dX10_awaitsParts_49 (by decide) ?_
      obtain ⟨S23, hz24, hf⟩ := z_bv_some hf
      refine z_cvo (z_runV (o := 65) (ci := 10) E hK hP hS (c_X10_awaits hq hz24) cv_X10_awaits tw1197 rfl (by decide) rfl rfl ⟨Nat.le_of_ble_eq_true rfl, Nat.le_of_ble_eq_true rfl⟩ ⟨Nat.le_refl 0, Nat.le_refl 0⟩ hl.1 (Nat.le_of_ble_eq_true rfl) rfl dX10_awaitsParts_51) hS (fun H locs hP hS => ?_)
      exact hJ54 S23 _ _ _ hf hP hS (lv_sub hl [0] rfl)
  have hB101 : ∀ (k101 : Int32 → Int32 → St → Option (Int32 × St)) (hk101 : ∀ (v2 : Int32) (v3 : Int32) (S : St) (H : Heap) (locs : List Loc) (ls : Array Slot), k101 v2 v3 S = some (r, S') → z_P G X S H → z_S G s.heap H locs → lv_has ls 4 [(0, .ref (gq G (65))), (2, .int (v2)), (3, .int (v3))] → W p l e (z_rm 1 22) s m ([.ref (gq G (65)), .int (a1)] : List Value).toArray below meth c H locs 0 0 (MQ below (z_QI G X S' r) ([.ref (gq G (65)), .int (a1)] : List Value).toArray s 0 0 (z_Aq (gq G))) (F0 m 101 ls [])), ∀ (v2 : Int32) (v3 : Int32) (S : St) (H : Heap) (locs : List Loc) (ls : Array Slot), b_X10_awaitsParts_101 N k101 v2 v3 S = some (r, S') → z_P G X S H → z_S G s.heap H locs → lv_has ls 4 [(0, .ref (gq G (65))), (2, .int (v2)), (3, .int (v3))] → W p l e (z_rm 1 22) s m ([.ref (gq G (65)), .int (a1)] : List Value).toArray below meth c H locs 0 0 (MQ below (z_QI G X S' r) ([.ref (gq G (65)), .int (a1)] : List Value).toArray s 0 0 (z_Aq (gq G))) (F0 m 101 ls []) := by
    intro k101 hk101 v2 v3 S H locs ls hf hP hS hl
    unfold b_X10_awaitsParts_101 at hf
    refine lv_iload_n hx hb dX10_awaitsParts_101 rfl (lv_at hl 2 rfl) ?_
    refine lv_iload_n hx hb dX10_awaitsParts_102 rfl (lv_at hl 1 rfl) ?_
    refine lv_icmp_ge (tgt := 118) hx hb dX10_awaitsParts_103 (by decide) (fun hc25 => ?_) (fun hc25 => ?_)
    · replace hf := z_ifp hf hc25
      refine lv_iload_n hx hb dX10_awaitsParts_118 rfl (lv_at hl 1 rfl) ?_
      refine lv_if_le (tgt := 126) hx hb dX10_awaitsParts_119 (by decide) (fun hc26 => ?_) (fun hc26 => ?_)
      · replace hf := z_ifp hf hc26
        refine lv_iconst (v := 0) hx hb dX10_awaitsParts_126 (by decide) ?_
        exact m_retz hx hb hr hlk rfl hf hP hS dX10_awaitsParts_127
      · replace hf := z_ifn hf hc26
        refine lv_iconst (v := 1) hx hb dX10_awaitsParts_122 (by decide) ?_
        refine lv_goto (tgt := 127) hx hb dX10_awaitsParts_123 (by decide) ?_
        exact m_retz hx hb hr hlk rfl hf hP hS dX10_awaitsParts_127
    · replace hf := z_ifn hf hc25
      refine lv_aload_n hx hb dX10_awaitsParts_106 rfl (lv_at hl 0 rfl) ?_
      refine lv_bipush (v := 101) hx hb dX10_awaitsParts_107 (by decide) ?_
      obtain ⟨S27, hz28, hf⟩ := z_bv_some hf
      refine z_cvo (z_runV (o := 65) (ci := 10) E hK hP hS (c_X10_awaits hq hz28) cv_X10_awaits tw1197 rfl (by decide) rfl rfl ⟨Nat.le_of_ble_eq_true rfl, Nat.le_of_ble_eq_true rfl⟩ ⟨Nat.le_refl 0, Nat.le_refl 0⟩ hl.1 (Nat.le_of_ble_eq_true rfl) rfl dX10_awaitsParts_109) hS (fun H locs hP hS => ?_)
      refine lv_iinc (v := (v3 + 1)) (lv' := [(3, .int ((v3 + 1))), (0, .ref (gq G (65))), (2, .int (v2))]) hx hb dX10_awaitsParts_112 hl (k := 2) rfl rfl (by decide) rfl (fun ls hl => ?_)
      refine lv_goto (tgt := 101) hx hb dX10_awaitsParts_115 (by decide) ?_
      exact hk101 (v2) ((v3 + 1)) S27 _ _ _ hf hP hS (lv_sub hl [1, 2, 0] rfl)
  have hL101 : ∀ (n : Nat), ∀ (v2 : Int32) (v3 : Int32) (S : St) (H : Heap) (locs : List Loc) (ls : Array Slot), f_X10_awaitsParts_101 N n v2 v3 S = some (r, S') → z_P G X S H → z_S G s.heap H locs → lv_has ls 4 [(0, .ref (gq G (65))), (2, .int (v2)), (3, .int (v3))] → W p l e (z_rm 1 22) s m ([.ref (gq G (65)), .int (a1)] : List Value).toArray below meth c H locs 0 0 (MQ below (z_QI G X S' r) ([.ref (gq G (65)), .int (a1)] : List Value).toArray s 0 0 (z_Aq (gq G))) (F0 m 101 ls []) := by
    intro  n
    induction n with
    | zero => intro _ _ _ _ _ _ hf; cases hf
    | succ n ih => exact hB101  _  ih
  have hl : lv_has ls 4 [(0, .ref (gq G (65))), (1, .int (a1))] := hl
  unfold f_X10_awaitsParts at hf
  refine lv_iload_n hx hb dX10_awaitsParts_0 rfl (lv_at hl 1 rfl) ?_
  refine lv_bipush (v := 48) hx hb dX10_awaitsParts_1 (by decide) ?_
  refine lv_bipush (v := 57) hx hb dX10_awaitsParts_3 (by decide) ?_
  obtain ⟨r2, S1, hz3, hf⟩ := z_bd_some hf
  refine z_ci (z_runS E hK hP hS (c_X10_isIn hq hz3) cs_X10_isIn tw943 rfl ⟨Nat.le_of_ble_eq_true rfl, Nat.le_of_ble_eq_true rfl⟩ ⟨Nat.le_refl 0, Nat.le_refl 0⟩ hl.1 (Nat.le_of_ble_eq_true rfl) rfl dX10_awaitsParts_5) hS (fun H locs hP hS => ?_)
  refine lv_if_ne (tgt := 22) hx hb dX10_awaitsParts_8 (by decide) (fun hc4 => ?_) (fun hc4 => ?_)
  · replace hf := z_ifn hf hc4
    refine lv_iconst (v := 1) hx hb dX10_awaitsParts_22 (by decide) ?_
    exact m_retz hx hb hr hlk rfl hf hP hS dX10_awaitsParts_23
  · replace hf := z_ifp hf hc4
    refine lv_iload_n hx hb dX10_awaitsParts_11 rfl (lv_at hl 1 rfl) ?_
    refine lv_bipush (v := 97) hx hb dX10_awaitsParts_12 (by decide) ?_
    refine lv_bipush (v := 102) hx hb dX10_awaitsParts_14 (by decide) ?_
    obtain ⟨r6, S5, hz7, hf⟩ := z_bd_some hf
    refine z_ci (z_runS E hK hP hS (c_X10_isIn hq hz7) cs_X10_isIn tw943 rfl ⟨Nat.le_of_ble_eq_true rfl, Nat.le_of_ble_eq_true rfl⟩ ⟨Nat.le_refl 0, Nat.le_refl 0⟩ hl.1 (Nat.le_of_ble_eq_true rfl) rfl dX10_awaitsParts_16) hS (fun H locs hP hS => ?_)
    refine lv_if_eq (tgt := 24) hx hb dX10_awaitsParts_19 (by decide) (fun hc8 => ?_) (fun hc8 => ?_)
    · replace hf := z_ifp hf hc8
      refine lv_iload_n hx hb dX10_awaitsParts_24 rfl (lv_at hl 1 rfl) ?_
      refine lv_bipush (v := 76) hx hb dX10_awaitsParts_25 (by decide) ?_
      refine lv_icmp_eq (tgt := 42) hx hb dX10_awaitsParts_27 (by decide) (fun hc9 => ?_) (fun hc9 => ?_)
      · replace hf := z_ifp hf hc9
        exact hJ42 (a1) S5 _ _ _ hf hP hS (lv_sub hl [0, 1] rfl)
      · replace hf := z_ifn hf hc9
        refine lv_iload_n hx hb dX10_awaitsParts_30 rfl (lv_at hl 1 rfl) ?_
        refine lv_bipush (v := 83) hx hb dX10_awaitsParts_31 (by decide) ?_
        refine lv_icmp_eq (tgt := 42) hx hb dX10_awaitsParts_33 (by decide) (fun hc10 => ?_) (fun hc10 => ?_)
        · replace hf := z_ifp hf hc10
          exact hJ42 (a1) S5 _ _ _ hf hP hS (lv_sub hl [0, 1] rfl)
        · replace hf := z_ifn hf hc10
          refine lv_iload_n hx hb dX10_awaitsParts_36 rfl (lv_at hl 1 rfl) ?_
          refine lv_bipush (v := 70) hx hb dX10_awaitsParts_37 (by decide) ?_
          refine lv_icmp_ne (tgt := 68) hx hb dX10_awaitsParts_39 (by decide) (fun hc11 => ?_) (fun hc11 => ?_)
          · replace hf := z_ifn hf hc11
            refine lv_iload_n hx hb dX10_awaitsParts_68 rfl (lv_at hl 1 rfl) ?_
            refine lv_bipush (v := 89) hx hb dX10_awaitsParts_69 (by decide) ?_
            refine lv_icmp_ne (tgt := 94) hx hb dX10_awaitsParts_71 (by decide) (fun hc12 => ?_) (fun hc12 => ?_)
            · replace hf := z_ifn hf hc12
              refine lv_iload_n hx hb dX10_awaitsParts_94 rfl (lv_at hl 1 rfl) ?_
              obtain ⟨r14, S13, hz15, hf⟩ := z_bd_some hf
              refine z_ci (z_runS E hK hP hS (c_X10_manyOf hq hz15) cs_X10_manyOf tw946 rfl ⟨Nat.le_of_ble_eq_true rfl, Nat.le_of_ble_eq_true rfl⟩ ⟨Nat.le_refl 0, Nat.le_refl 0⟩ hl.1 (Nat.le_of_ble_eq_true rfl) rfl dX10_awaitsParts_95) hS (fun H locs hP hS => ?_)
              refine lv_istore_n (lv' := [(2, .int (r14)), (0, .ref (gq G (65))), (1, .int (a1))]) hx hb dX10_awaitsParts_98 rfl hl (by decide) rfl (fun ls hl => ?_)
              refine lv_iconst (v := 0) hx hb dX10_awaitsParts_99 (by decide) ?_
              refine lv_istore_n (lv' := [(3, .int (0)), (2, .int (r14)), (0, .ref (gq G (65))), (1, .int (a1))]) hx hb dX10_awaitsParts_100 rfl hl (by decide) rfl (fun ls hl => ?_)
              exact hL101 N (r14) (0) S13 _ _ _ hf hP hS (lv_sub hl [2, 1, 0] rfl)
            · replace hf := z_ifp hf hc12
              refine lv_aload_n hx hb dX10_awaitsParts_74 rfl (lv_at hl 0 rfl) ?_
              refine lv_bipush (v := 101) hx hb dX10_awaitsParts_75 (by decide) ?_
              obtain ⟨S16, hz17, hf⟩ := z_bv_some hf
              refine z_cvo (z_runV (o := 65) (ci := 10) E hK hP hS (c_X10_awaits hq hz17) cv_X10_awaits tw1197 rfl (by decide) rfl rfl ⟨Nat.le_of_ble_eq_true rfl, Nat.le_of_ble_eq_true rfl⟩ ⟨Nat.le_refl 0, Nat.le_refl 0⟩ hl.1 (Nat.le_of_ble_eq_true rfl) rfl dX10_awaitsParts_77) hS (fun H locs hP hS => ?_)
              refine lv_aload_n hx hb dX10_awaitsParts_80 rfl (lv_at hl 0 rfl) ?_
              refine lv_bipush (v := 118) hx hb dX10_awaitsParts_81 (by decide) ?_
              obtain ⟨S18, hz19, hf⟩ := z_bv_some hf
              refine z_cvo (z_runV (o := 65) (ci := 10) E hK hP hS (c_X10_awaits hq hz19) cv_X10_awaits tw1197 rfl (by decide) rfl rfl ⟨Nat.le_of_ble_eq_true rfl, Nat.le_of_ble_eq_true rfl⟩ ⟨Nat.le_refl 0, Nat.le_refl 0⟩ hl.1 (Nat.le_of_ble_eq_true rfl) rfl dX10_awaitsParts_83) hS (fun H locs hP hS => ?_)
              refine lv_aload_n hx hb dX10_awaitsParts_86 rfl (lv_at hl 0 rfl) ?_
              refine lv_bipush (v := 101) hx hb dX10_awaitsParts_87 (by decide) ?_
              obtain ⟨S20, hz21, hf⟩ := z_bv_some hf
              refine z_cvo (z_runV (o := 65) (ci := 10) E hK hP hS (c_X10_awaits hq hz21) cv_X10_awaits tw1197 rfl (by decide) rfl rfl ⟨Nat.le_of_ble_eq_true rfl, Nat.le_of_ble_eq_true rfl⟩ ⟨Nat.le_refl 0, Nat.le_refl 0⟩ hl.1 (Nat.le_of_ble_eq_true rfl) rfl dX10_awaitsParts_89) hS (fun H locs hP hS => ?_)
              refine lv_iconst (v := 1) hx hb dX10_awaitsParts_92 (by decide) ?_
              exact m_retz hx hb hr hlk rfl hf hP hS dX10_awaitsParts_93
          · replace hf := z_ifp hf hc11
            exact hJ42 (a1) S5 _ _ _ hf hP hS (lv_sub hl [0, 1] rfl)
    · replace hf := z_ifn hf hc8
      refine lv_iconst (v := 1) hx hb dX10_awaitsParts_22 (by decide) ?_
      exact m_retz hx hb hr hlk rfl hf hP hS dX10_awaitsParts_23
theorem cv_X10_awaitsParts : z_cv yX10_awaitsParts cX10_awaitsParts 4 (some .boolean) RX10 1 := ⟨⟨tw1207, twp36⟩, tw1208, tw11, by decide +kernel⟩
def b_X10_readsOne_85 (N : Nat) (v1 : Int32) (S : St) : Option (Int32 × St) := z_lt (z_wr S 65 22 ((S 65 22) + 1)) fun S21 => z_bd (f_X10_isSite N (v1) S21) fun r23 S22 => if r23 = 0 then (z_lt (z_wr S22 65 23 ((S21 65 23) + 0)) fun S26 => some (1, S26)) else (z_lt (z_wr S22 65 23 ((S21 65 23) + 1)) fun S27 => some (1, S27))
def b_X10_readsOne_77 (N : Nat) (v1 : Int32) (S : St) : Option (Int32 × St) := z_lt (z_wr S 65 18 (S 65 17)) fun S20 => b_X10_readsOne_85 N (v1) S20
def b_X10_readsOne_19 (N : Nat) (v1 : Int32) (v2 : Int32) (t0 : Int32) (t1 : Int32) (S : St) : Option (Int32 × St) := z_gd (z_in t1 (z_ln 75)) (z_lt (z_wr S 75 (t1 : Int32).toNatClampNeg t0) fun S3 => if v2 = 118 then (z_bd (f_X10_isIn N (v1) (97) (102) S3) fun r17 S16 => z_gd (r17 = 0 ∨ r17 = 1) (some (r17, S16))) else (z_bd (f_X10_awaitsParts N (v1) S3) fun r6 S5 => if r6 = 0 then (some (0, S5)) else (if 0 ≤ (S5 65 18) then (b_X10_readsOne_85 N (v1) S5) else (if (S5 65 22) = 40 then (b_X10_readsOne_77 N (v1) S5) else (z_bd (f_X10_isSite N (v1) S5) fun r12 S11 => if r12 = 0 then (b_X10_readsOne_85 N (v1) S11) else (if (S11 65 23) = 10 then (b_X10_readsOne_77 N (v1) S11) else (b_X10_readsOne_85 N (v1) S11)))))))
def f_X10_readsOne (N : Nat) (a1 : Int32) (a2 : Int32) (S : St) : Option (Int32 × St) := if a2 = 118 then (b_X10_readsOne_19 N (a1) (a2) (1) ((S 65 17)) S) else (b_X10_readsOne_19 N (a1) (a2) (0) ((S 65 17)) S)
set_option maxHeartbeats 4000000 in
set_option maxRecDepth 100000 in
theorem c_X10_readsOne {l : Launch} {G : Cx} {X S S' : St} {N : Nat} {a1 : Int32} {a2 : Int32} {r : Int32} (hq : z_inj (gq G)) (hf : f_X10_readsOne N a1 a2 S = some (r, S')) : z_Ct l yX10_readsOne cX10_readsOne 3 (some .boolean) 2 45 G X S [.ref (gq G (65)), .int (a1), .int (a2)] (z_QI G X S' r) := by
  refine z_start (by decide +kernel) (Nat.le_of_ble_eq_true rfl) ?_
  intro p e s m below meth c ls E hr hlk hK hP hS hl
  have E : CallFix p m c cX10_readsOne 3 s _ lw_good RX10 := E
  have hx := E.1
  have hb := E.2.1
  have hown := E.2.2.2.1
  have hts := E.2.2.2.2
  have hJ85 : ∀ (v1 : Int32) (S : St) (H : Heap) (locs : List Loc) (ls : Array Slot), b_X10_readsOne_85 N v1 S = some (r, S') → z_P G X S H → z_S G s.heap H locs → lv_has ls 3 [(0, .ref (gq G (65))), (1, .int (v1))] → W p l e (z_rm 2 45) s m ([.ref (gq G (65)), .int (a1), .int (a2)] : List Value).toArray below meth c H locs 0 0 (MQ below (z_QI G X S' r) ([.ref (gq G (65)), .int (a1), .int (a2)] : List Value).toArray s 0 0 (z_Aq (gq G))) (F0 m 85 ls []) := by
    intro v1 S H locs ls hf hP hS hl
    unfold b_X10_readsOne_85 at hf
    refine lv_aload_n hx hb dX10_readsOne_85 rfl (lv_at hl 0 rfl) ?_
    refine lv_dup hx hb dX10_readsOne_86 rfl ?_
    refine m_getI (C := RX10) (T := TX10) (N := 75) (ci := 10) (k := 22) (o := 65) E hK hP iwX10 rfl rfl (by decide) (by decide) rfl rfl (by decide) tw974 dX10_readsOne_87 ?_
    refine lv_iconst (v := 1) hx hb dX10_readsOne_90 (by decide) ?_
    refine lv_iadd hx hb dX10_readsOne_91 ?_
    refine m_putI (C := RX10) (T := TX10) (N := 75) (ci := 10) (k := 22) (o := 65) (v := ((S 65 22) + 1)) (ty := .int) E hK hq hP hS iwX10 tyX10 tyX10_ok nmX10 rfl rfl (by decide) (by decide) rfl rfl (by decide) rfl (tyX10_ok 22 (by decide)) ⟨rfl, rfl⟩ tw974 dX10_readsOne_92 (fun H locs hP hS => ?_)
    obtain ⟨S21, hf, hP⟩ := z_ltM hf hP
    refine lv_aload_n hx hb dX10_readsOne_95 rfl (lv_at hl 0 rfl) ?_
    refine lv_dup hx hb dX10_readsOne_96 rfl ?_
    refine m_getI (C := RX10) (T := TX10) (N := 75) (ci := 10) (k := 23) (o := 65) E hK hP iwX10 rfl rfl (by decide) (by decide) rfl rfl (by decide) tw975 dX10_readsOne_97 ?_
    refine lv_iload_n hx hb dX10_readsOne_100 rfl (lv_at hl 1 rfl) ?_
    obtain ⟨r23, S22, hz24, hf⟩ := z_bd_some hf
    refine z_ci (z_runS E hK hP hS (c_X10_isSite hq hz24) cs_X10_isSite tw949 rfl ⟨Nat.le_of_ble_eq_true rfl, Nat.le_of_ble_eq_true rfl⟩ ⟨Nat.le_refl 0, Nat.le_refl 0⟩ hl.1 (Nat.le_of_ble_eq_true rfl) rfl dX10_readsOne_101) hS (fun H locs hP hS => ?_)
    refine lv_if_eq (tgt := 111) hx hb dX10_readsOne_104 (by decide) (fun hc25 => ?_) (fun hc25 => ?_)
    · replace hf := z_ifp hf hc25
      refine lv_iconst (v := 0) hx hb dX10_readsOne_111 (by decide) ?_
      refine lv_iadd hx hb dX10_readsOne_112 ?_
      refine m_putI (C := RX10) (T := TX10) (N := 75) (ci := 10) (k := 23) (o := 65) (v := ((S21 65 23) + 0)) (ty := .int) E hK hq hP hS iwX10 tyX10 tyX10_ok nmX10 rfl rfl (by decide) (by decide) rfl rfl (by decide) rfl (tyX10_ok 23 (by decide)) ⟨rfl, rfl⟩ tw975 dX10_readsOne_113 (fun H locs hP hS => ?_)
      obtain ⟨S26, hf, hP⟩ := z_ltM hf hP
      refine lv_iconst (v := 1) hx hb dX10_readsOne_116 (by decide) ?_
      exact m_retz hx hb hr hlk rfl hf hP hS dX10_readsOne_117
    · replace hf := z_ifn hf hc25
      refine lv_iconst (v := 1) hx hb dX10_readsOne_107 (by decide) ?_
      refine lv_goto (tgt := 112) hx hb dX10_readsOne_108 (by decide) ?_
      refine lv_iadd hx hb dX10_readsOne_112 ?_
      refine m_putI (C := RX10) (T := TX10) (N := 75) (ci := 10) (k := 23) (o := 65) (v := ((S21 65 23) + 1)) (ty := .int) E hK hq hP hS iwX10 tyX10 tyX10_ok nmX10 rfl rfl (by decide) (by decide) rfl rfl (by decide) rfl (tyX10_ok 23 (by decide)) ⟨rfl, rfl⟩ tw975 dX10_readsOne_113 (fun H locs hP hS => ?_)
      obtain ⟨S27, hf, hP⟩ := z_ltM hf hP
      refine lv_iconst (v := 1) hx hb dX10_readsOne_116 (by decide) ?_
      exact m_retz hx hb hr hlk rfl hf hP hS dX10_readsOne_117
  have hJ77 : ∀ (v1 : Int32) (S : St) (H : Heap) (locs : List Loc) (ls : Array Slot), b_X10_readsOne_77 N v1 S = some (r, S') → z_P G X S H → z_S G s.heap H locs → lv_has ls 3 [(0, .ref (gq G (65))), (1, .int (v1))] → W p l e (z_rm 2 45) s m ([.ref (gq G (65)), .int (a1), .int (a2)] : List Value).toArray below meth c H locs 0 0 (MQ below (z_QI G X S' r) ([.ref (gq G (65)), .int (a1), .int (a2)] : List Value).toArray s 0 0 (z_Aq (gq G))) (F0 m 77 ls []) := by
    intro v1 S H locs ls hf hP hS hl
    unfold b_X10_readsOne_77 at hf
    refine lv_aload_n hx hb dX10_readsOne_77 rfl (lv_at hl 0 rfl) ?_
    refine lv_aload_n hx hb dX10_readsOne_78 rfl (lv_at hl 0 rfl) ?_
    refine m_getI (C := RX10) (T := TX10) (N := 75) (ci := 10) (k := 17) (o := 65) E hK hP iwX10 rfl rfl (by decide) (by decide) rfl rfl (by decide) tw969 dX10_readsOne_79 ?_
    refine m_putI (C := RX10) (T := TX10) (N := 75) (ci := 10) (k := 18) (o := 65) (v := (S 65 17)) (ty := .int) E hK hq hP hS iwX10 tyX10 tyX10_ok nmX10 rfl rfl (by decide) (by decide) rfl rfl (by decide) rfl (tyX10_ok 18 (by decide)) ⟨rfl, rfl⟩ tw970 dX10_readsOne_82 (fun H locs hP hS => ?_)
    obtain ⟨S20, hf, hP⟩ := z_ltM hf hP
    exact hJ85 (v1) S20 _ _ _ hf hP hS (lv_sub hl [0, 1] rfl)
  have hJ19 : ∀ (v1 : Int32) (v2 : Int32) (t0 : Int32) (t1 : Int32) (S : St) (H : Heap) (locs : List Loc) (ls : Array Slot), b_X10_readsOne_19 N v1 v2 t0 t1 S = some (r, S') → z_P G X S H → z_S G s.heap H locs → lv_has ls 3 [(0, .ref (gq G (65))), (1, .int (v1)), (2, .int (v2))] → W p l e (z_rm 2 45) s m ([.ref (gq G (65)), .int (a1), .int (a2)] : List Value).toArray below meth c H locs 0 0 (MQ below (z_QI G X S' r) ([.ref (gq G (65)), .int (a1), .int (a2)] : List Value).toArray s 0 0 (z_Aq (gq G))) (F0 m 19 ls [.int (t0), .int (t1), .ref (gq G (75))]) := by
    intro v1 v2 t0 t1 S H locs ls hf hP hS hl
    unfold b_X10_readsOne_19 at hf
    obtain ⟨hg2, hf⟩ := z_gd_some hf
    refine m_ast (o := 75) (i := t1) (v := t0) E hK hq hP hS rfl (by decide) hg2 dX10_readsOne_19 (fun H locs hP hS => ?_)
    obtain ⟨S3, hf, hP⟩ := z_ltM hf hP
    refine lv_iload_n hx hb dX10_readsOne_20 rfl (lv_at hl 2 rfl) ?_
    refine lv_bipush (v := 118) hx hb dX10_readsOne_21 (by decide) ?_
    refine lv_icmp_ne (tgt := 35) hx hb dX10_readsOne_23 (by decide) (fun hc4 => ?_) (fun hc4 => ?_)
    · replace hf := z_ifn hf hc4
      refine lv_aload_n hx hb dX10_readsOne_35 rfl (lv_at hl 0 rfl) ?_
      refine lv_iload_n hx hb dX10_readsOne_36 rfl (lv_at hl 1 rfl) ?_
      obtain ⟨r6, S5, hz7, hf⟩ := z_bd_some hf
      refine z_ci (z_runV (o := 65) (ci := 10) E hK hP hS (c_X10_awaitsParts hq hz7) cv_X10_awaitsParts tw1205 rfl (by decide) rfl rfl ⟨Nat.le_of_ble_eq_true rfl, Nat.le_of_ble_eq_true rfl⟩ ⟨Nat.le_refl 0, Nat.le_refl 0⟩ hl.1 (Nat.le_of_ble_eq_true rfl) rfl dX10_readsOne_37) hS (fun H locs hP hS => ?_)
      refine lv_if_ne (tgt := 45) hx hb dX10_readsOne_40 (by decide) (fun hc8 => ?_) (fun hc8 => ?_)
      · replace hf := z_ifn hf hc8
        refine lv_aload_n hx hb dX10_readsOne_45 rfl (lv_at hl 0 rfl) ?_
        refine m_getI (C := RX10) (T := TX10) (N := 75) (ci := 10) (k := 18) (o := 65) E hK hP iwX10 rfl rfl (by decide) (by decide) rfl rfl (by decide) tw970 dX10_readsOne_46 ?_
        refine lv_if_ge (tgt := 85) hx hb dX10_readsOne_49 (by decide) (fun hc9 => ?_) (fun hc9 => ?_)
        · replace hf := z_ifp hf hc9
          exact hJ85 (v1) S5 _ _ _ hf hP hS (lv_sub hl [0, 1] rfl)
        · replace hf := z_ifn hf hc9
          refine lv_aload_n hx hb dX10_readsOne_52 rfl (lv_at hl 0 rfl) ?_
          refine m_getI (C := RX10) (T := TX10) (N := 75) (ci := 10) (k := 22) (o := 65) E hK hP iwX10 rfl rfl (by decide) (by decide) rfl rfl (by decide) tw974 dX10_readsOne_53 ?_
          refine lv_bipush (v := 40) hx hb dX10_readsOne_56 (by decide) ?_
          refine lv_icmp_eq (tgt := 77) hx hb dX10_readsOne_58 (by decide) (fun hc10 => ?_) (fun hc10 => ?_)
          · replace hf := z_ifp hf hc10
            exact hJ77 (v1) S5 _ _ _ hf hP hS (lv_sub hl [0, 1] rfl)
          · replace hf := z_ifn hf hc10
            refine lv_iload_n hx hb dX10_readsOne_61 rfl (lv_at hl 1 rfl) ?_
            obtain ⟨r12, S11, hz13, hf⟩ := z_bd_some hf
            refine z_ci (z_runS E hK hP hS (c_X10_isSite hq hz13) cs_X10_isSite tw949 rfl ⟨Nat.le_of_ble_eq_true rfl, Nat.le_of_ble_eq_true rfl⟩ ⟨Nat.le_refl 0, Nat.le_refl 0⟩ hl.1 (Nat.le_of_ble_eq_true rfl) rfl dX10_readsOne_62) hS (fun H locs hP hS => ?_)
            refine lv_if_eq (tgt := 85) hx hb dX10_readsOne_65 (by decide) (fun hc14 => ?_) (fun hc14 => ?_)
            · replace hf := z_ifp hf hc14
              exact hJ85 (v1) S11 _ _ _ hf hP hS (lv_sub hl [0, 1] rfl)
            · replace hf := z_ifn hf hc14
              refine lv_aload_n hx hb dX10_readsOne_68 rfl (lv_at hl 0 rfl) ?_
              refine m_getI (C := RX10) (T := TX10) (N := 75) (ci := 10) (k := 23) (o := 65) E hK hP iwX10 rfl rfl (by decide) (by decide) rfl rfl (by decide) tw975 dX10_readsOne_69 ?_
              refine lv_bipush (v := 10) hx hb dX10_readsOne_72 (by decide) ?_
              refine lv_icmp_ne (tgt := 85) hx hb dX10_readsOne_74 (by decide) (fun hc15 => ?_) (fun hc15 => ?_)
              · replace hf := z_ifn hf hc15
                exact hJ85 (v1) S11 _ _ _ hf hP hS (lv_sub hl [0, 1] rfl)
              · replace hf := z_ifp hf hc15
                exact hJ77 (v1) S11 _ _ _ hf hP hS (lv_sub hl [0, 1] rfl)
      · replace hf := z_ifp hf hc8
        refine lv_iconst (v := 0) hx hb dX10_readsOne_43 (by decide) ?_
        exact m_retz hx hb hr hlk rfl hf hP hS dX10_readsOne_44
    · replace hf := z_ifp hf hc4
      refine lv_iload_n hx hb dX10_readsOne_26 rfl (lv_at hl 1 rfl) ?_
      refine lv_bipush (v := 97) hx hb dX10_readsOne_27 (by decide) ?_
      refine lv_bipush (v := 102) hx hb dX10_readsOne_29 (by decide) ?_
      obtain ⟨r17, S16, hz18, hf⟩ := z_bd_some hf
      refine z_ci (z_runS E hK hP hS (c_X10_isIn hq hz18) cs_X10_isIn tw943 rfl ⟨Nat.le_of_ble_eq_true rfl, Nat.le_of_ble_eq_true rfl⟩ ⟨Nat.le_refl 0, Nat.le_refl 0⟩ hl.1 (Nat.le_of_ble_eq_true rfl) rfl dX10_readsOne_31) hS (fun H locs hP hS => ?_)
      obtain ⟨hg19, hf⟩ := z_gd_some hf
      exact m_retz hx hb hr hlk (z_bz hg19).1 hf hP hS dX10_readsOne_34
  have hl : lv_has ls 3 [(0, .ref (gq G (65))), (1, .int (a1)), (2, .int (a2))] := hl
  unfold f_X10_readsOne at hf
  refine lv_aload_n hx hb dX10_readsOne_0 rfl (lv_at hl 0 rfl) ?_
  refine z_getR (C := RX10) (T := TX10) (N := 75) (ci := 10) (k := 12) (o := 65) (t := 75) E hK hP iwX10 rfl rfl (by decide) (by decide) rfl rfl rfl tw964 dX10_readsOne_1 ?_
  refine lv_aload_n hx hb dX10_readsOne_4 rfl (lv_at hl 0 rfl) ?_
  refine m_getI (C := RX10) (T := TX10) (N := 75) (ci := 10) (k := 17) (o := 65) E hK hP iwX10 rfl rfl (by decide) (by decide) rfl rfl (by decide) tw969 dX10_readsOne_5 ?_
  refine lv_iload_n hx hb dX10_readsOne_8 rfl (lv_at hl 2 rfl) ?_
  refine lv_bipush (v := 118) hx hb dX10_readsOne_9 (by decide) ?_
  refine lv_icmp_ne (tgt := 18) hx hb dX10_readsOne_11 (by decide) (fun hc1 => ?_) (fun hc1 => ?_)
  · replace hf := z_ifn hf hc1
    refine lv_iconst (v := 0) hx hb dX10_readsOne_18 (by decide) ?_
    exact hJ19 (a1) (a2) (0) ((S 65 17)) S _ _ _ hf hP hS (lv_sub hl [0, 1, 2] rfl)
  · replace hf := z_ifp hf hc1
    refine lv_iconst (v := 1) hx hb dX10_readsOne_14 (by decide) ?_
    refine lv_goto (tgt := 19) hx hb dX10_readsOne_15 (by decide) ?_
    exact hJ19 (a1) (a2) (1) ((S 65 17)) S _ _ _ hf hP hS (lv_sub hl [0, 1, 2] rfl)
theorem cv_X10_readsOne : z_cv yX10_readsOne cX10_readsOne 3 (some .boolean) RX10 2 := ⟨⟨tw1203, twp35⟩, tw1204, tw11, by decide +kernel⟩
def b_X10_reads_31 (N : Nat) (k31 : St → Option (Int32 × St)) (S : St) : Option (Int32 × St) := if (S 65 19) ≤ 0 then (if (S 65 17) = (S 65 15) then (some (1, S)) else (some (0, S))) else (z_lt (z_wr S 65 19 ((S 65 19) - 1)) fun S10 => if (S10 65 17) = (S10 65 15) then (some (0, S10)) else (z_gd (z_in (S10 65 17) (z_ln 72)) (z_gd (z_in (S10 65 19) (z_ln 76)) (z_bd (f_X10_readsOne N ((S10 72 ((S10 65 17) : Int32).toNatClampNeg)) ((S10 76 ((S10 65 19) : Int32).toNatClampNeg)) S10) fun r15 S14 => if r15 = 0 then (some (0, S14)) else (z_lt (z_wr S14 65 17 ((S14 65 17) + 1)) fun S18 => k31 S18)))))
def f_X10_reads_31 (N : Nat) : Nat → St → Option (Int32 × St)
  | 0 => fun _ => none
  | n + 1 => b_X10_reads_31 N (f_X10_reads_31 N n)
def f_X10_reads (N : Nat) (S : St) : Option (Int32 × St) := z_lt (z_wr S 65 17 0) fun S1 => z_lt (z_wr S1 65 18 (-1)) fun S2 => z_lt (z_wr S2 65 19 0) fun S3 => z_lt (z_wr S3 65 22 0) fun S4 => z_lt (z_wr S4 65 23 0) fun S5 => z_bv (f_X10_awaits N (101) S5) fun S6 => f_X10_reads_31 N N S6
set_option maxHeartbeats 4000000 in
set_option maxRecDepth 100000 in
theorem c_X10_reads {l : Launch} {G : Cx} {X S S' : St} {N : Nat} {r : Int32} (hq : z_inj (gq G)) (hf : f_X10_reads N S = some (r, S')) : z_Ct l yX10_reads cX10_reads 1 (some .boolean) 3 67 G X S [.ref (gq G (65))] (z_QI G X S' r) := by
  refine z_start (by decide +kernel) (Nat.le_of_ble_eq_true rfl) ?_
  intro p e s m below meth c ls E hr hlk hK hP hS hl
  have E : CallFix p m c cX10_reads 1 s _ lw_good RX10 := E
  have hx := E.1
  have hb := E.2.1
  have hown := E.2.2.2.1
  have hts := E.2.2.2.2
  have hB31 : ∀ (k31 : St → Option (Int32 × St)) (hk31 : ∀ (S : St) (H : Heap) (locs : List Loc) (ls : Array Slot), k31 S = some (r, S') → z_P G X S H → z_S G s.heap H locs → lv_has ls 1 [(0, .ref (gq G (65)))] → W p l e (z_rm 3 67) s m ([.ref (gq G (65))] : List Value).toArray below meth c H locs 0 0 (MQ below (z_QI G X S' r) ([.ref (gq G (65))] : List Value).toArray s 0 0 (z_Aq (gq G))) (F0 m 31 ls [])), ∀ (S : St) (H : Heap) (locs : List Loc) (ls : Array Slot), b_X10_reads_31 N k31 S = some (r, S') → z_P G X S H → z_S G s.heap H locs → lv_has ls 1 [(0, .ref (gq G (65)))] → W p l e (z_rm 3 67) s m ([.ref (gq G (65))] : List Value).toArray below meth c H locs 0 0 (MQ below (z_QI G X S' r) ([.ref (gq G (65))] : List Value).toArray s 0 0 (z_Aq (gq G))) (F0 m 31 ls []) := by
    intro k31 hk31 S H locs ls hf hP hS hl
    unfold b_X10_reads_31 at hf
    refine lv_aload_n hx hb dX10_reads_31 rfl (lv_at hl 0 rfl) ?_
    refine m_getI (C := RX10) (T := TX10) (N := 75) (ci := 10) (k := 19) (o := 65) E hK hP iwX10 rfl rfl (by decide) (by decide) rfl rfl (by decide) tw971 dX10_reads_32 ?_
    refine lv_if_le (tgt := 99) hx hb dX10_reads_35 (by decide) (fun hc8 => ?_) (fun hc8 => ?_)
    · replace hf := z_ifp hf hc8
      refine lv_aload_n hx hb dX10_reads_99 rfl (lv_at hl 0 rfl) ?_
      refine m_getI (C := RX10) (T := TX10) (N := 75) (ci := 10) (k := 17) (o := 65) E hK hP iwX10 rfl rfl (by decide) (by decide) rfl rfl (by decide) tw969 dX10_reads_100 ?_
      refine lv_aload_n hx hb dX10_reads_103 rfl (lv_at hl 0 rfl) ?_
      refine m_getI (C := RX10) (T := TX10) (N := 75) (ci := 10) (k := 15) (o := 65) E hK hP iwX10 rfl rfl (by decide) (by decide) rfl rfl (by decide) tw967 dX10_reads_104 ?_
      refine lv_icmp_ne (tgt := 114) hx hb dX10_reads_107 (by decide) (fun hc9 => ?_) (fun hc9 => ?_)
      · replace hf := z_ifn hf hc9
        refine lv_iconst (v := 0) hx hb dX10_reads_114 (by decide) ?_
        exact m_retz hx hb hr hlk rfl hf hP hS dX10_reads_115
      · replace hf := z_ifp hf hc9
        refine lv_iconst (v := 1) hx hb dX10_reads_110 (by decide) ?_
        refine lv_goto (tgt := 115) hx hb dX10_reads_111 (by decide) ?_
        exact m_retz hx hb hr hlk rfl hf hP hS dX10_reads_115
    · replace hf := z_ifn hf hc8
      refine lv_aload_n hx hb dX10_reads_38 rfl (lv_at hl 0 rfl) ?_
      refine lv_dup hx hb dX10_reads_39 rfl ?_
      refine m_getI (C := RX10) (T := TX10) (N := 75) (ci := 10) (k := 19) (o := 65) E hK hP iwX10 rfl rfl (by decide) (by decide) rfl rfl (by decide) tw971 dX10_reads_40 ?_
      refine lv_iconst (v := 1) hx hb dX10_reads_43 (by decide) ?_
      refine lv_isub hx hb dX10_reads_44 ?_
      refine m_putI (C := RX10) (T := TX10) (N := 75) (ci := 10) (k := 19) (o := 65) (v := ((S 65 19) - 1)) (ty := .int) E hK hq hP hS iwX10 tyX10 tyX10_ok nmX10 rfl rfl (by decide) (by decide) rfl rfl (by decide) rfl (tyX10_ok 19 (by decide)) ⟨rfl, rfl⟩ tw971 dX10_reads_45 (fun H locs hP hS => ?_)
      obtain ⟨S10, hf, hP⟩ := z_ltM hf hP
      refine lv_aload_n hx hb dX10_reads_48 rfl (lv_at hl 0 rfl) ?_
      refine m_getI (C := RX10) (T := TX10) (N := 75) (ci := 10) (k := 17) (o := 65) E hK hP iwX10 rfl rfl (by decide) (by decide) rfl rfl (by decide) tw969 dX10_reads_49 ?_
      refine lv_aload_n hx hb dX10_reads_52 rfl (lv_at hl 0 rfl) ?_
      refine m_getI (C := RX10) (T := TX10) (N := 75) (ci := 10) (k := 15) (o := 65) E hK hP iwX10 rfl rfl (by decide) (by decide) rfl rfl (by decide) tw967 dX10_reads_53 ?_
      refine lv_icmp_eq (tgt := 84) hx hb dX10_reads_56 (by decide) (fun hc11 => ?_) (fun hc11 => ?_)
      · replace hf := z_ifp hf hc11
        refine lv_iconst (v := 0) hx hb dX10_reads_84 (by decide) ?_
        exact m_retz hx hb hr hlk rfl hf hP hS dX10_reads_85
      · replace hf := z_ifn hf hc11
        refine lv_aload_n hx hb dX10_reads_59 rfl (lv_at hl 0 rfl) ?_
        refine lv_aload_n hx hb dX10_reads_60 rfl (lv_at hl 0 rfl) ?_
        refine z_getR (C := RX10) (T := TX10) (N := 75) (ci := 10) (k := 9) (o := 65) (t := 72) E hK hP iwX10 rfl rfl (by decide) (by decide) rfl rfl rfl tw961 dX10_reads_61 ?_
        refine lv_aload_n hx hb dX10_reads_64 rfl (lv_at hl 0 rfl) ?_
        refine m_getI (C := RX10) (T := TX10) (N := 75) (ci := 10) (k := 17) (o := 65) E hK hP iwX10 rfl rfl (by decide) (by decide) rfl rfl (by decide) tw969 dX10_reads_65 ?_
        obtain ⟨hg12, hf⟩ := z_gd_some hf
        refine m_ald (o := 72) (i := (S10 65 17)) E hK hP rfl (by decide) hg12 dX10_reads_68 ?_
        refine lv_aload_n hx hb dX10_reads_69 rfl (lv_at hl 0 rfl) ?_
        refine z_getR (C := RX10) (T := TX10) (N := 75) (ci := 10) (k := 13) (o := 65) (t := 76) E hK hP iwX10 rfl rfl (by decide) (by decide) rfl rfl rfl tw965 dX10_reads_70 ?_
        refine lv_aload_n hx hb dX10_reads_73 rfl (lv_at hl 0 rfl) ?_
        refine m_getI (C := RX10) (T := TX10) (N := 75) (ci := 10) (k := 19) (o := 65) E hK hP iwX10 rfl rfl (by decide) (by decide) rfl rfl (by decide) tw971 dX10_reads_74 ?_
        obtain ⟨hg13, hf⟩ := z_gd_some hf
        refine m_ald (o := 76) (i := (S10 65 19)) E hK hP rfl (by decide) hg13 dX10_reads_77 ?_
        obtain ⟨r15, S14, hz16, hf⟩ := z_bd_some hf
        refine z_ci (z_runV (o := 65) (ci := 10) E hK hP hS (c_X10_readsOne hq hz16) cv_X10_readsOne tw1201 rfl (by decide) rfl rfl ⟨Nat.le_of_ble_eq_true rfl, Nat.le_of_ble_eq_true rfl⟩ ⟨Nat.le_refl 0, Nat.le_refl 0⟩ hl.1 (Nat.le_of_ble_eq_true rfl) rfl dX10_reads_78) hS (fun H locs hP hS => ?_)
        refine lv_if_ne (tgt := 86) hx hb dX10_reads_81 (by decide) (fun hc17 => ?_) (fun hc17 => ?_)
        · replace hf := z_ifn hf hc17
          refine lv_aload_n hx hb dX10_reads_86 rfl (lv_at hl 0 rfl) ?_
          refine lv_dup hx hb dX10_reads_87 rfl ?_
          refine m_getI (C := RX10) (T := TX10) (N := 75) (ci := 10) (k := 17) (o := 65) E hK hP iwX10 rfl rfl (by decide) (by decide) rfl rfl (by decide) tw969 dX10_reads_88 ?_
          refine lv_iconst (v := 1) hx hb dX10_reads_91 (by decide) ?_
          refine lv_iadd hx hb dX10_reads_92 ?_
          refine m_putI (C := RX10) (T := TX10) (N := 75) (ci := 10) (k := 17) (o := 65) (v := ((S14 65 17) + 1)) (ty := .int) E hK hq hP hS iwX10 tyX10 tyX10_ok nmX10 rfl rfl (by decide) (by decide) rfl rfl (by decide) rfl (tyX10_ok 17 (by decide)) ⟨rfl, rfl⟩ tw969 dX10_reads_93 (fun H locs hP hS => ?_)
          obtain ⟨S18, hf, hP⟩ := z_ltM hf hP
          refine lv_goto (tgt := 31) hx hb dX10_reads_96 (by decide) ?_
          exact hk31 S18 _ _ _ hf hP hS (lv_sub hl [0] rfl)
        · replace hf := z_ifp hf hc17
          refine lv_iconst (v := 0) hx hb dX10_reads_84 (by decide) ?_
          exact m_retz hx hb hr hlk rfl hf hP hS dX10_reads_85
  have hL31 : ∀ (n : Nat), ∀ (S : St) (H : Heap) (locs : List Loc) (ls : Array Slot), f_X10_reads_31 N n S = some (r, S') → z_P G X S H → z_S G s.heap H locs → lv_has ls 1 [(0, .ref (gq G (65)))] → W p l e (z_rm 3 67) s m ([.ref (gq G (65))] : List Value).toArray below meth c H locs 0 0 (MQ below (z_QI G X S' r) ([.ref (gq G (65))] : List Value).toArray s 0 0 (z_Aq (gq G))) (F0 m 31 ls []) := by
    intro  n
    induction n with
    | zero => intro _ _ _ _ hf; cases hf
    | succ n ih => exact hB31  _  ih
  have hl : lv_has ls 1 [(0, .ref (gq G (65)))] := hl
  unfold f_X10_reads at hf
  refine lv_aload_n hx hb dX10_reads_0 rfl (lv_at hl 0 rfl) ?_
  refine lv_iconst (v := 0) hx hb dX10_reads_1 (by decide) ?_
  refine m_putI (C := RX10) (T := TX10) (N := 75) (ci := 10) (k := 17) (o := 65) (v := 0) (ty := .int) E hK hq hP hS iwX10 tyX10 tyX10_ok nmX10 rfl rfl (by decide) (by decide) rfl rfl (by decide) rfl (tyX10_ok 17 (by decide)) ⟨rfl, rfl⟩ tw969 dX10_reads_2 (fun H locs hP hS => ?_)
  obtain ⟨S1, hf, hP⟩ := z_ltM hf hP
  refine lv_aload_n hx hb dX10_reads_5 rfl (lv_at hl 0 rfl) ?_
  refine lv_iconst (v := (-1)) hx hb dX10_reads_6 (by decide) ?_
  refine m_putI (C := RX10) (T := TX10) (N := 75) (ci := 10) (k := 18) (o := 65) (v := (-1)) (ty := .int) E hK hq hP hS iwX10 tyX10 tyX10_ok nmX10 rfl rfl (by decide) (by decide) rfl rfl (by decide) rfl (tyX10_ok 18 (by decide)) ⟨rfl, rfl⟩ tw970 dX10_reads_7 (fun H locs hP hS => ?_)
  obtain ⟨S2, hf, hP⟩ := z_ltM hf hP
  refine lv_aload_n hx hb dX10_reads_10 rfl (lv_at hl 0 rfl) ?_
  refine lv_iconst (v := 0) hx hb dX10_reads_11 (by decide) ?_
  refine m_putI (C := RX10) (T := TX10) (N := 75) (ci := 10) (k := 19) (o := 65) (v := 0) (ty := .int) E hK hq hP hS iwX10 tyX10 tyX10_ok nmX10 rfl rfl (by decide) (by decide) rfl rfl (by decide) rfl (tyX10_ok 19 (by decide)) ⟨rfl, rfl⟩ tw971 dX10_reads_12 (fun H locs hP hS => ?_)
  obtain ⟨S3, hf, hP⟩ := z_ltM hf hP
  refine lv_aload_n hx hb dX10_reads_15 rfl (lv_at hl 0 rfl) ?_
  refine lv_iconst (v := 0) hx hb dX10_reads_16 (by decide) ?_
  refine m_putI (C := RX10) (T := TX10) (N := 75) (ci := 10) (k := 22) (o := 65) (v := 0) (ty := .int) E hK hq hP hS iwX10 tyX10 tyX10_ok nmX10 rfl rfl (by decide) (by decide) rfl rfl (by decide) rfl (tyX10_ok 22 (by decide)) ⟨rfl, rfl⟩ tw974 dX10_reads_17 (fun H locs hP hS => ?_)
  obtain ⟨S4, hf, hP⟩ := z_ltM hf hP
  refine lv_aload_n hx hb dX10_reads_20 rfl (lv_at hl 0 rfl) ?_
  refine lv_iconst (v := 0) hx hb dX10_reads_21 (by decide) ?_
  refine m_putI (C := RX10) (T := TX10) (N := 75) (ci := 10) (k := 23) (o := 65) (v := 0) (ty := .int) E hK hq hP hS iwX10 tyX10 tyX10_ok nmX10 rfl rfl (by decide) (by decide) rfl rfl (by decide) rfl (tyX10_ok 23 (by decide)) ⟨rfl, rfl⟩ tw975 dX10_reads_22 (fun H locs hP hS => ?_)
  obtain ⟨S5, hf, hP⟩ := z_ltM hf hP
  refine lv_aload_n hx hb dX10_reads_25 rfl (lv_at hl 0 rfl) ?_
  refine lv_bipush (v := 101) hx hb dX10_reads_26 (by decide) ?_
  obtain ⟨S6, hz7, hf⟩ := z_bv_some hf
  refine z_cvo (z_runV (o := 65) (ci := 10) E hK hP hS (c_X10_awaits hq hz7) cv_X10_awaits tw1197 rfl (by decide) rfl rfl ⟨Nat.le_of_ble_eq_true rfl, Nat.le_of_ble_eq_true rfl⟩ ⟨Nat.le_refl 0, Nat.le_refl 0⟩ hl.1 (Nat.le_of_ble_eq_true rfl) rfl dX10_reads_28) hS (fun H locs hP hS => ?_)
  exact hL31 N S6 _ _ _ hf hP hS (lv_sub hl [0] rfl)
theorem cv_X10_reads : z_cv yX10_reads cX10_reads 1 (some .boolean) RX10 0 := ⟨⟨tw1195, twp33⟩, tw1196, tw11, by decide +kernel⟩
def f_X10_pops (N : Nat) (S : St) : Option (Int32 × St) := z_lt (z_wr S 65 20 ((S 65 20) - 1)) fun S1 => z_gd (z_in (S1 65 20) (z_ln 77)) (some ((S1 77 ((S1 65 20) : Int32).toNatClampNeg), S1))
set_option maxHeartbeats 4000000 in
set_option maxRecDepth 100000 in
theorem c_X10_pops {l : Launch} {G : Cx} {X S S' : St} {N : Nat} {r : Int32} (hq : z_inj (gq G)) (hf : f_X10_pops N S = some (r, S')) : z_Ct l yX10_pops cX10_pops 1 (some .int) 0 0 G X S [.ref (gq G (65))] (z_QI G X S' r) := by
  refine z_start (by decide +kernel) (Nat.le_of_ble_eq_true rfl) ?_
  intro p e s m below meth c ls E hr hlk hK hP hS hl
  have E : CallFix p m c cX10_pops 1 s _ lw_good RX10 := E
  have hx := E.1
  have hb := E.2.1
  have hown := E.2.2.2.1
  have hts := E.2.2.2.2
  have hl : lv_has ls 1 [(0, .ref (gq G (65)))] := hl
  unfold f_X10_pops at hf
  refine lv_aload_n hx hb dX10_pops_0 rfl (lv_at hl 0 rfl) ?_
  refine lv_dup hx hb dX10_pops_1 rfl ?_
  refine m_getI (C := RX10) (T := TX10) (N := 75) (ci := 10) (k := 20) (o := 65) E hK hP iwX10 rfl rfl (by decide) (by decide) rfl rfl (by decide) tw972 dX10_pops_2 ?_
  refine lv_iconst (v := 1) hx hb dX10_pops_5 (by decide) ?_
  refine lv_isub hx hb dX10_pops_6 ?_
  refine m_putI (C := RX10) (T := TX10) (N := 75) (ci := 10) (k := 20) (o := 65) (v := ((S 65 20) - 1)) (ty := .int) E hK hq hP hS iwX10 tyX10 tyX10_ok nmX10 rfl rfl (by decide) (by decide) rfl rfl (by decide) rfl (tyX10_ok 20 (by decide)) ⟨rfl, rfl⟩ tw972 dX10_pops_7 (fun H locs hP hS => ?_)
  obtain ⟨S1, hf, hP⟩ := z_ltM hf hP
  refine lv_aload_n hx hb dX10_pops_10 rfl (lv_at hl 0 rfl) ?_
  refine z_getR (C := RX10) (T := TX10) (N := 75) (ci := 10) (k := 14) (o := 65) (t := 77) E hK hP iwX10 rfl rfl (by decide) (by decide) rfl rfl rfl tw966 dX10_pops_11 ?_
  refine lv_aload_n hx hb dX10_pops_14 rfl (lv_at hl 0 rfl) ?_
  refine m_getI (C := RX10) (T := TX10) (N := 75) (ci := 10) (k := 20) (o := 65) E hK hP iwX10 rfl rfl (by decide) (by decide) rfl rfl (by decide) tw972 dX10_pops_15 ?_
  obtain ⟨hg2, hf⟩ := z_gd_some hf
  refine m_ald (o := 77) (i := (S1 65 20)) E hK hP rfl (by decide) hg2 dX10_pops_18 ?_
  exact m_reti hx hb hr hlk hf hP hS dX10_pops_19
theorem cv_X10_pops : z_cv yX10_pops cX10_pops 1 (some .int) RX10 0 := ⟨⟨tw941, twp31⟩, tw942, tw11, by decide +kernel⟩
def b_X10_buildsOne_130 (N : Nat) (v1 : Int32) (v2 : Int32) (S : St) : Option (St) := z_bd (f_X10_isSite N (v1) S) fun r48 S47 => if r48 = 0 then (some S47) else (z_lt (z_wr S47 65 21 ((S47 65 21) - 1)) fun S51 => z_gd (z_in v2 (z_ln 71)) (z_lt (z_wr S51 71 (v2 : Int32).toNatClampNeg (S51 65 21)) fun S53 => some S53))
def b_X10_buildsOne_114 (N : Nat) (v1 : Int32) (v2 : Int32) (S : St) : Option (St) := if v1 = 63 then (z_bd (f_X10_pops N S) fun r43 S42 => z_gd (z_in v2 (z_ln 70)) (z_lt (z_wr S42 70 (v2 : Int32).toNatClampNeg r43) fun S46 => b_X10_buildsOne_130 N (v1) (v2) S46)) else (b_X10_buildsOne_130 N (v1) (v2) S)
def b_X10_buildsOne_104 (N : Nat) (v1 : Int32) (v2 : Int32) (S : St) : Option (St) := z_bd (f_X10_pops N S) fun r37 S36 => z_gd (z_in v2 (z_ln 69)) (z_lt (z_wr S36 69 (v2 : Int32).toNatClampNeg r37) fun S40 => b_X10_buildsOne_114 N (v1) (v2) S40)
def b_X10_buildsOne_84 (N : Nat) (v1 : Int32) (v2 : Int32) (S : St) : Option (St) := if v1 = 76 then (b_X10_buildsOne_104 N (v1) (v2) S) else (if v1 = 89 then (b_X10_buildsOne_104 N (v1) (v2) S) else (z_bd (f_X10_manyOf N (v1) S) fun r33 S32 => if r33 ≤ 1 then (b_X10_buildsOne_114 N (v1) (v2) S32) else (b_X10_buildsOne_104 N (v1) (v2) S32)))
def b_X10_buildsOne_35 (N : Nat) (v1 : Int32) (v2 : Int32) (S : St) : Option (St) := z_bd (f_X10_isIn N (v1) (48) (57) S) fun r12 S11 => if r12 = 0 then (z_bd (f_X10_isIn N (v1) (97) (102) S11) fun r16 S15 => if r16 = 0 then (z_bd (f_X10_pops N S15) fun r20 S19 => z_gd (z_in v2 (z_ln 68)) (z_lt (z_wr S19 68 (v2 : Int32).toNatClampNeg r20) fun S23 => if v1 = 89 then (z_bd (f_X10_pops N S23) fun r26 S25 => z_gd (z_in v2 (z_ln 71)) (z_lt (z_wr S25 71 (v2 : Int32).toNatClampNeg r26) fun S29 => b_X10_buildsOne_84 N (v1) (v2) S29)) else (b_X10_buildsOne_84 N (v1) (v2) S23))) else (some S15)) else (some S11)
def b_X10_buildsOne_25 (N : Nat) (v1 : Int32) (v2 : Int32) (S : St) : Option (St) := z_bd (f_X10_pops N S) fun r7 S6 => z_gd (z_in v2 (z_ln 71)) (z_lt (z_wr S6 71 (v2 : Int32).toNatClampNeg r7) fun S10 => b_X10_buildsOne_35 N (v1) (v2) S10)
def f_X10_buildsOne (N : Nat) (a1 : Int32) (a2 : Int32) (S : St) : Option (St) := z_gd (z_in a2 (z_ln 67)) (z_lt (z_wr S 67 (a2 : Int32).toNatClampNeg a1) fun S2 => if a1 = 76 then (b_X10_buildsOne_25 N (a1) (a2) S2) else (if a1 = 83 then (b_X10_buildsOne_25 N (a1) (a2) S2) else (if a1 = 70 then (b_X10_buildsOne_25 N (a1) (a2) S2) else (b_X10_buildsOne_35 N (a1) (a2) S2))))
set_option maxHeartbeats 4000000 in
set_option maxRecDepth 100000 in
theorem c_X10_buildsOne {l : Launch} {G : Cx} {X S S' : St} {N : Nat} {a1 : Int32} {a2 : Int32} (hq : z_inj (gq G)) (hf : f_X10_buildsOne N a1 a2 S = some S') : z_Ct l yX10_buildsOne cX10_buildsOne 3 none 1 22 G X S [.ref (gq G (65)), .int (a1), .int (a2)] (z_QV G X S') := by
  refine z_start (by decide +kernel) (Nat.le_of_ble_eq_true rfl) ?_
  intro p e s m below meth c ls E hr hlk hK hP hS hl
  have E : CallFix p m c cX10_buildsOne 3 s _ lw_good RX10 := E
  have hx := E.1
  have hb := E.2.1
  have hown := E.2.2.2.1
  have hts := E.2.2.2.2
  have hJ130 : ∀ (v1 : Int32) (v2 : Int32) (S : St) (H : Heap) (locs : List Loc) (ls : Array Slot), b_X10_buildsOne_130 N v1 v2 S = some S' → z_P G X S H → z_S G s.heap H locs → lv_has ls 3 [(0, .ref (gq G (65))), (1, .int (v1)), (2, .int (v2))] → W p l e (z_rm 1 22) s m ([.ref (gq G (65)), .int (a1), .int (a2)] : List Value).toArray below meth c H locs 0 0 (MQ below (z_QV G X S') ([.ref (gq G (65)), .int (a1), .int (a2)] : List Value).toArray s 0 0 (z_Aq (gq G))) (F0 m 130 ls []) := by
    intro v1 v2 S H locs ls hf hP hS hl
    unfold b_X10_buildsOne_130 at hf
    refine lv_iload_n hx hb dX10_buildsOne_130 rfl (lv_at hl 1 rfl) ?_
    obtain ⟨r48, S47, hz49, hf⟩ := z_bd_some hf
    refine z_ci (z_runS E hK hP hS (c_X10_isSite hq hz49) cs_X10_isSite tw949 rfl ⟨Nat.le_of_ble_eq_true rfl, Nat.le_of_ble_eq_true rfl⟩ ⟨Nat.le_refl 0, Nat.le_refl 0⟩ hl.1 (Nat.le_of_ble_eq_true rfl) rfl dX10_buildsOne_131) hS (fun H locs hP hS => ?_)
    refine lv_if_ne (tgt := 138) hx hb dX10_buildsOne_134 (by decide) (fun hc50 => ?_) (fun hc50 => ?_)
    · replace hf := z_ifn hf hc50
      refine lv_aload_n hx hb dX10_buildsOne_138 rfl (lv_at hl 0 rfl) ?_
      refine lv_dup hx hb dX10_buildsOne_139 rfl ?_
      refine m_getI (C := RX10) (T := TX10) (N := 75) (ci := 10) (k := 21) (o := 65) E hK hP iwX10 rfl rfl (by decide) (by decide) rfl rfl (by decide) tw973 dX10_buildsOne_140 ?_
      refine lv_iconst (v := 1) hx hb dX10_buildsOne_143 (by decide) ?_
      refine lv_isub hx hb dX10_buildsOne_144 ?_
      refine m_putI (C := RX10) (T := TX10) (N := 75) (ci := 10) (k := 21) (o := 65) (v := ((S47 65 21) - 1)) (ty := .int) E hK hq hP hS iwX10 tyX10 tyX10_ok nmX10 rfl rfl (by decide) (by decide) rfl rfl (by decide) rfl (tyX10_ok 21 (by decide)) ⟨rfl, rfl⟩ tw973 dX10_buildsOne_145 (fun H locs hP hS => ?_)
      obtain ⟨S51, hf, hP⟩ := z_ltM hf hP
      refine lv_aload_n hx hb dX10_buildsOne_148 rfl (lv_at hl 0 rfl) ?_
      refine z_getR (C := RX10) (T := TX10) (N := 75) (ci := 10) (k := 5) (o := 65) (t := 71) E hK hP iwX10 rfl rfl (by decide) (by decide) rfl rfl rfl tw957 dX10_buildsOne_149 ?_
      refine lv_iload_n hx hb dX10_buildsOne_152 rfl (lv_at hl 2 rfl) ?_
      refine lv_aload_n hx hb dX10_buildsOne_153 rfl (lv_at hl 0 rfl) ?_
      refine m_getI (C := RX10) (T := TX10) (N := 75) (ci := 10) (k := 21) (o := 65) E hK hP iwX10 rfl rfl (by decide) (by decide) rfl rfl (by decide) tw973 dX10_buildsOne_154 ?_
      obtain ⟨hg52, hf⟩ := z_gd_some hf
      refine m_ast (o := 71) (i := v2) (v := (S51 65 21)) E hK hq hP hS rfl (by decide) hg52 dX10_buildsOne_157 (fun H locs hP hS => ?_)
      obtain ⟨S53, hf, hP⟩ := z_ltM hf hP
      exact m_retv hx hb hr hlk hf hP hS dX10_buildsOne_158
    · replace hf := z_ifp hf hc50
      exact m_retv hx hb hr hlk hf hP hS dX10_buildsOne_137
  have hJ114 : ∀ (v1 : Int32) (v2 : Int32) (S : St) (H : Heap) (locs : List Loc) (ls : Array Slot), b_X10_buildsOne_114 N v1 v2 S = some S' → z_P G X S H → z_S G s.heap H locs → lv_has ls 3 [(0, .ref (gq G (65))), (1, .int (v1)), (2, .int (v2))] → W p l e (z_rm 1 22) s m ([.ref (gq G (65)), .int (a1), .int (a2)] : List Value).toArray below meth c H locs 0 0 (MQ below (z_QV G X S') ([.ref (gq G (65)), .int (a1), .int (a2)] : List Value).toArray s 0 0 (z_Aq (gq G))) (F0 m 114 ls []) := by
    intro v1 v2 S H locs ls hf hP hS hl
    unfold b_X10_buildsOne_114 at hf
    refine lv_iload_n hx hb dX10_buildsOne_114 rfl (lv_at hl 1 rfl) ?_
    refine lv_bipush (v := 63) hx hb dX10_buildsOne_115 (by decide) ?_
    refine lv_icmp_ne (tgt := 130) hx hb dX10_buildsOne_117 (by decide) (fun hc41 => ?_) (fun hc41 => ?_)
    · replace hf := z_ifn hf hc41
      exact hJ130 (v1) (v2) S _ _ _ hf hP hS (lv_sub hl [0, 1, 2] rfl)
    · replace hf := z_ifp hf hc41
      refine lv_aload_n hx hb dX10_buildsOne_120 rfl (lv_at hl 0 rfl) ?_
      refine z_getR (C := RX10) (T := TX10) (N := 75) (ci := 10) (k := 4) (o := 65) (t := 70) E hK hP iwX10 rfl rfl (by decide) (by decide) rfl rfl rfl tw956 dX10_buildsOne_121 ?_
      refine lv_iload_n hx hb dX10_buildsOne_124 rfl (lv_at hl 2 rfl) ?_
      refine lv_aload_n hx hb dX10_buildsOne_125 rfl (lv_at hl 0 rfl) ?_
      obtain ⟨r43, S42, hz44, hf⟩ := z_bd_some hf
      refine z_ci (z_runV (o := 65) (ci := 10) E hK hP hS (c_X10_pops hq hz44) cv_X10_pops tw939 rfl (by decide) rfl rfl ⟨Nat.le_of_ble_eq_true rfl, Nat.le_of_ble_eq_true rfl⟩ ⟨Nat.le_refl 0, Nat.le_refl 0⟩ hl.1 (Nat.le_of_ble_eq_true rfl) rfl dX10_buildsOne_126) hS (fun H locs hP hS => ?_)
      obtain ⟨hg45, hf⟩ := z_gd_some hf
      refine m_ast (o := 70) (i := v2) (v := r43) E hK hq hP hS rfl (by decide) hg45 dX10_buildsOne_129 (fun H locs hP hS => ?_)
      obtain ⟨S46, hf, hP⟩ := z_ltM hf hP
      exact hJ130 (v1) (v2) S46 _ _ _ hf hP hS (lv_sub hl [0, 1, 2] rfl)
  have hJ104 : ∀ (v1 : Int32) (v2 : Int32) (S : St) (H : Heap) (locs : List Loc) (ls : Array Slot), b_X10_buildsOne_104 N v1 v2 S = some S' → z_P G X S H → z_S G s.heap H locs → lv_has ls 3 [(0, .ref (gq G (65))), (1, .int (v1)), (2, .int (v2))] → W p l e (z_rm 1 22) s m ([.ref (gq G (65)), .int (a1), .int (a2)] : List Value).toArray below meth c H locs 0 0 (MQ below (z_QV G X S') ([.ref (gq G (65)), .int (a1), .int (a2)] : List Value).toArray s 0 0 (z_Aq (gq G))) (F0 m 104 ls []) := by
    intro v1 v2 S H locs ls hf hP hS hl
    unfold b_X10_buildsOne_104 at hf
    refine lv_aload_n hx hb dX10_buildsOne_104 rfl (lv_at hl 0 rfl) ?_
    refine z_getR (C := RX10) (T := TX10) (N := 75) (ci := 10) (k := 3) (o := 65) (t := 69) E hK hP iwX10 rfl rfl (by decide) (by decide) rfl rfl rfl tw955 dX10_buildsOne_105 ?_
    refine lv_iload_n hx hb dX10_buildsOne_108 rfl (lv_at hl 2 rfl) ?_
    refine lv_aload_n hx hb dX10_buildsOne_109 rfl (lv_at hl 0 rfl) ?_
    obtain ⟨r37, S36, hz38, hf⟩ := z_bd_some hf
    refine z_ci (z_runV (o := 65) (ci := 10) E hK hP hS (c_X10_pops hq hz38) cv_X10_pops tw939 rfl (by decide) rfl rfl ⟨Nat.le_of_ble_eq_true rfl, Nat.le_of_ble_eq_true rfl⟩ ⟨Nat.le_refl 0, Nat.le_refl 0⟩ hl.1 (Nat.le_of_ble_eq_true rfl) rfl dX10_buildsOne_110) hS (fun H locs hP hS => ?_)
    obtain ⟨hg39, hf⟩ := z_gd_some hf
    refine m_ast (o := 69) (i := v2) (v := r37) E hK hq hP hS rfl (by decide) hg39 dX10_buildsOne_113 (fun H locs hP hS => ?_)
    obtain ⟨S40, hf, hP⟩ := z_ltM hf hP
    exact hJ114 (v1) (v2) S40 _ _ _ hf hP hS (lv_sub hl [0, 1, 2] rfl)
  have hJ84 : ∀ (v1 : Int32) (v2 : Int32) (S : St) (H : Heap) (locs : List Loc) (ls : Array Slot), b_X10_buildsOne_84 N v1 v2 S = some S' → z_P G X S H → z_S G s.heap H locs → lv_has ls 3 [(0, .ref (gq G (65))), (1, .int (v1)), (2, .int (v2))] → W p l e (z_rm 1 22) s m ([.ref (gq G (65)), .int (a1), .int (a2)] : List Value).toArray below meth c H locs 0 0 (MQ below (z_QV G X S') ([.ref (gq G (65)), .int (a1), .int (a2)] : List Value).toArray s 0 0 (z_Aq (gq G))) (F0 m 84 ls []) := by
    intro v1 v2 S H locs ls hf hP hS hl
    unfold b_X10_buildsOne_84 at hf
    refine lv_iload_n hx hb dX10_buildsOne_84 rfl (lv_at hl 1 rfl) ?_
    refine lv_bipush (v := 76) hx hb dX10_buildsOne_85 (by decide) ?_
    refine lv_icmp_eq (tgt := 104) hx hb dX10_buildsOne_87 (by decide) (fun hc30 => ?_) (fun hc30 => ?_)
    · replace hf := z_ifp hf hc30
      exact hJ104 (v1) (v2) S _ _ _ hf hP hS (lv_sub hl [0, 1, 2] rfl)
    · replace hf := z_ifn hf hc30
      refine lv_iload_n hx hb dX10_buildsOne_90 rfl (lv_at hl 1 rfl) ?_
      refine lv_bipush (v := 89) hx hb dX10_buildsOne_91 (by decide) ?_
      refine lv_icmp_eq (tgt := 104) hx hb dX10_buildsOne_93 (by decide) (fun hc31 => ?_) (fun hc31 => ?_)
      · replace hf := z_ifp hf hc31
        exact hJ104 (v1) (v2) S _ _ _ hf hP hS (lv_sub hl [0, 1, 2] rfl)
      · replace hf := z_ifn hf hc31
        refine lv_iload_n hx hb dX10_buildsOne_96 rfl (lv_at hl 1 rfl) ?_
        obtain ⟨r33, S32, hz34, hf⟩ := z_bd_some hf
        refine z_ci (z_runS E hK hP hS (c_X10_manyOf hq hz34) cs_X10_manyOf tw946 rfl ⟨Nat.le_of_ble_eq_true rfl, Nat.le_of_ble_eq_true rfl⟩ ⟨Nat.le_refl 0, Nat.le_refl 0⟩ hl.1 (Nat.le_of_ble_eq_true rfl) rfl dX10_buildsOne_97) hS (fun H locs hP hS => ?_)
        refine lv_iconst (v := 1) hx hb dX10_buildsOne_100 (by decide) ?_
        refine lv_icmp_le (tgt := 114) hx hb dX10_buildsOne_101 (by decide) (fun hc35 => ?_) (fun hc35 => ?_)
        · replace hf := z_ifp hf hc35
          exact hJ114 (v1) (v2) S32 _ _ _ hf hP hS (lv_sub hl [0, 1, 2] rfl)
        · replace hf := z_ifn hf hc35
          exact hJ104 (v1) (v2) S32 _ _ _ hf hP hS (lv_sub hl [0, 1, 2] rfl)
  have hJ35 : ∀ (v1 : Int32) (v2 : Int32) (S : St) (H : Heap) (locs : List Loc) (ls : Array Slot), b_X10_buildsOne_35 N v1 v2 S = some S' → z_P G X S H → z_S G s.heap H locs → lv_has ls 3 [(0, .ref (gq G (65))), (1, .int (v1)), (2, .int (v2))] → W p l e (z_rm 1 22) s m ([.ref (gq G (65)), .int (a1), .int (a2)] : List Value).toArray below meth c H locs 0 0 (MQ below (z_QV G X S') ([.ref (gq G (65)), .int (a1), .int (a2)] : List Value).toArray s 0 0 (z_Aq (gq G))) (F0 m 35 ls []) := by
    intro v1 v2 S H locs ls hf hP hS hl
    unfold b_X10_buildsOne_35 at hf
    refine lv_iload_n hx hb dX10_buildsOne_35 rfl (lv_at hl 1 rfl) ?_
    refine lv_bipush (v := 48) hx hb dX10_buildsOne_36 (by decide) ?_
    refine lv_bipush (v := 57) hx hb dX10_buildsOne_38 (by decide) ?_
    obtain ⟨r12, S11, hz13, hf⟩ := z_bd_some hf
    refine z_ci (z_runS E hK hP hS (c_X10_isIn hq hz13) cs_X10_isIn tw943 rfl ⟨Nat.le_of_ble_eq_true rfl, Nat.le_of_ble_eq_true rfl⟩ ⟨Nat.le_refl 0, Nat.le_refl 0⟩ hl.1 (Nat.le_of_ble_eq_true rfl) rfl dX10_buildsOne_40) hS (fun H locs hP hS => ?_)
    refine lv_if_ne (tgt := 57) hx hb dX10_buildsOne_43 (by decide) (fun hc14 => ?_) (fun hc14 => ?_)
    · replace hf := z_ifn hf hc14
      exact m_retv hx hb hr hlk hf hP hS dX10_buildsOne_57
    · replace hf := z_ifp hf hc14
      refine lv_iload_n hx hb dX10_buildsOne_46 rfl (lv_at hl 1 rfl) ?_
      refine lv_bipush (v := 97) hx hb dX10_buildsOne_47 (by decide) ?_
      refine lv_bipush (v := 102) hx hb dX10_buildsOne_49 (by decide) ?_
      obtain ⟨r16, S15, hz17, hf⟩ := z_bd_some hf
      refine z_ci (z_runS E hK hP hS (c_X10_isIn hq hz17) cs_X10_isIn tw943 rfl ⟨Nat.le_of_ble_eq_true rfl, Nat.le_of_ble_eq_true rfl⟩ ⟨Nat.le_refl 0, Nat.le_refl 0⟩ hl.1 (Nat.le_of_ble_eq_true rfl) rfl dX10_buildsOne_51) hS (fun H locs hP hS => ?_)
      refine lv_if_eq (tgt := 58) hx hb dX10_buildsOne_54 (by decide) (fun hc18 => ?_) (fun hc18 => ?_)
      · replace hf := z_ifp hf hc18
        refine lv_aload_n hx hb dX10_buildsOne_58 rfl (lv_at hl 0 rfl) ?_
        refine z_getR (C := RX10) (T := TX10) (N := 75) (ci := 10) (k := 2) (o := 65) (t := 68) E hK hP iwX10 rfl rfl (by decide) (by decide) rfl rfl rfl tw954 dX10_buildsOne_59 ?_
        refine lv_iload_n hx hb dX10_buildsOne_62 rfl (lv_at hl 2 rfl) ?_
        refine lv_aload_n hx hb dX10_buildsOne_63 rfl (lv_at hl 0 rfl) ?_
        obtain ⟨r20, S19, hz21, hf⟩ := z_bd_some hf
        refine z_ci (z_runV (o := 65) (ci := 10) E hK hP hS (c_X10_pops hq hz21) cv_X10_pops tw939 rfl (by decide) rfl rfl ⟨Nat.le_of_ble_eq_true rfl, Nat.le_of_ble_eq_true rfl⟩ ⟨Nat.le_refl 0, Nat.le_refl 0⟩ hl.1 (Nat.le_of_ble_eq_true rfl) rfl dX10_buildsOne_64) hS (fun H locs hP hS => ?_)
        obtain ⟨hg22, hf⟩ := z_gd_some hf
        refine m_ast (o := 68) (i := v2) (v := r20) E hK hq hP hS rfl (by decide) hg22 dX10_buildsOne_67 (fun H locs hP hS => ?_)
        obtain ⟨S23, hf, hP⟩ := z_ltM hf hP
        refine lv_iload_n hx hb dX10_buildsOne_68 rfl (lv_at hl 1 rfl) ?_
        refine lv_bipush (v := 89) hx hb dX10_buildsOne_69 (by decide) ?_
        refine lv_icmp_ne (tgt := 84) hx hb dX10_buildsOne_71 (by decide) (fun hc24 => ?_) (fun hc24 => ?_)
        · replace hf := z_ifn hf hc24
          exact hJ84 (v1) (v2) S23 _ _ _ hf hP hS (lv_sub hl [0, 1, 2] rfl)
        · replace hf := z_ifp hf hc24
          refine lv_aload_n hx hb dX10_buildsOne_74 rfl (lv_at hl 0 rfl) ?_
          refine z_getR (C := RX10) (T := TX10) (N := 75) (ci := 10) (k := 5) (o := 65) (t := 71) E hK hP iwX10 rfl rfl (by decide) (by decide) rfl rfl rfl tw957 dX10_buildsOne_75 ?_
          refine lv_iload_n hx hb dX10_buildsOne_78 rfl (lv_at hl 2 rfl) ?_
          refine lv_aload_n hx hb dX10_buildsOne_79 rfl (lv_at hl 0 rfl) ?_
          obtain ⟨r26, S25, hz27, hf⟩ := z_bd_some hf
          refine z_ci (z_runV (o := 65) (ci := 10) E hK hP hS (c_X10_pops hq hz27) cv_X10_pops tw939 rfl (by decide) rfl rfl ⟨Nat.le_of_ble_eq_true rfl, Nat.le_of_ble_eq_true rfl⟩ ⟨Nat.le_refl 0, Nat.le_refl 0⟩ hl.1 (Nat.le_of_ble_eq_true rfl) rfl dX10_buildsOne_80) hS (fun H locs hP hS => ?_)
          obtain ⟨hg28, hf⟩ := z_gd_some hf
          refine m_ast (o := 71) (i := v2) (v := r26) E hK hq hP hS rfl (by decide) hg28 dX10_buildsOne_83 (fun H locs hP hS => ?_)
          obtain ⟨S29, hf, hP⟩ := z_ltM hf hP
          exact hJ84 (v1) (v2) S29 _ _ _ hf hP hS (lv_sub hl [0, 1, 2] rfl)
      · replace hf := z_ifn hf hc18
        exact m_retv hx hb hr hlk hf hP hS dX10_buildsOne_57
  have hJ25 : ∀ (v1 : Int32) (v2 : Int32) (S : St) (H : Heap) (locs : List Loc) (ls : Array Slot), b_X10_buildsOne_25 N v1 v2 S = some S' → z_P G X S H → z_S G s.heap H locs → lv_has ls 3 [(0, .ref (gq G (65))), (1, .int (v1)), (2, .int (v2))] → W p l e (z_rm 1 22) s m ([.ref (gq G (65)), .int (a1), .int (a2)] : List Value).toArray below meth c H locs 0 0 (MQ below (z_QV G X S') ([.ref (gq G (65)), .int (a1), .int (a2)] : List Value).toArray s 0 0 (z_Aq (gq G))) (F0 m 25 ls []) := by
    intro v1 v2 S H locs ls hf hP hS hl
    unfold b_X10_buildsOne_25 at hf
    refine lv_aload_n hx hb dX10_buildsOne_25 rfl (lv_at hl 0 rfl) ?_
    refine z_getR (C := RX10) (T := TX10) (N := 75) (ci := 10) (k := 5) (o := 65) (t := 71) E hK hP iwX10 rfl rfl (by decide) (by decide) rfl rfl rfl tw957 dX10_buildsOne_26 ?_
    refine lv_iload_n hx hb dX10_buildsOne_29 rfl (lv_at hl 2 rfl) ?_
    refine lv_aload_n hx hb dX10_buildsOne_30 rfl (lv_at hl 0 rfl) ?_
    obtain ⟨r7, S6, hz8, hf⟩ := z_bd_some hf
    refine z_ci (z_runV (o := 65) (ci := 10) E hK hP hS (c_X10_pops hq hz8) cv_X10_pops tw939 rfl (by decide) rfl rfl ⟨Nat.le_of_ble_eq_true rfl, Nat.le_of_ble_eq_true rfl⟩ ⟨Nat.le_refl 0, Nat.le_refl 0⟩ hl.1 (Nat.le_of_ble_eq_true rfl) rfl dX10_buildsOne_31) hS (fun H locs hP hS => ?_)
    obtain ⟨hg9, hf⟩ := z_gd_some hf
    refine m_ast (o := 71) (i := v2) (v := r7) E hK hq hP hS rfl (by decide) hg9 dX10_buildsOne_34 (fun H locs hP hS => ?_)
    obtain ⟨S10, hf, hP⟩ := z_ltM hf hP
    exact hJ35 (v1) (v2) S10 _ _ _ hf hP hS (lv_sub hl [0, 1, 2] rfl)
  have hl : lv_has ls 3 [(0, .ref (gq G (65))), (1, .int (a1)), (2, .int (a2))] := hl
  unfold f_X10_buildsOne at hf
  refine lv_aload_n hx hb dX10_buildsOne_0 rfl (lv_at hl 0 rfl) ?_
  refine z_getR (C := RX10) (T := TX10) (N := 75) (ci := 10) (k := 1) (o := 65) (t := 67) E hK hP iwX10 rfl rfl (by decide) (by decide) rfl rfl rfl tw953 dX10_buildsOne_1 ?_
  refine lv_iload_n hx hb dX10_buildsOne_4 rfl (lv_at hl 2 rfl) ?_
  refine lv_iload_n hx hb dX10_buildsOne_5 rfl (lv_at hl 1 rfl) ?_
  obtain ⟨hg1, hf⟩ := z_gd_some hf
  refine m_ast (o := 67) (i := a2) (v := a1) E hK hq hP hS rfl (by decide) hg1 dX10_buildsOne_6 (fun H locs hP hS => ?_)
  obtain ⟨S2, hf, hP⟩ := z_ltM hf hP
  refine lv_iload_n hx hb dX10_buildsOne_7 rfl (lv_at hl 1 rfl) ?_
  refine lv_bipush (v := 76) hx hb dX10_buildsOne_8 (by decide) ?_
  refine lv_icmp_eq (tgt := 25) hx hb dX10_buildsOne_10 (by decide) (fun hc3 => ?_) (fun hc3 => ?_)
  · replace hf := z_ifp hf hc3
    exact hJ25 (a1) (a2) S2 _ _ _ hf hP hS (lv_sub hl [0, 1, 2] rfl)
  · replace hf := z_ifn hf hc3
    refine lv_iload_n hx hb dX10_buildsOne_13 rfl (lv_at hl 1 rfl) ?_
    refine lv_bipush (v := 83) hx hb dX10_buildsOne_14 (by decide) ?_
    refine lv_icmp_eq (tgt := 25) hx hb dX10_buildsOne_16 (by decide) (fun hc4 => ?_) (fun hc4 => ?_)
    · replace hf := z_ifp hf hc4
      exact hJ25 (a1) (a2) S2 _ _ _ hf hP hS (lv_sub hl [0, 1, 2] rfl)
    · replace hf := z_ifn hf hc4
      refine lv_iload_n hx hb dX10_buildsOne_19 rfl (lv_at hl 1 rfl) ?_
      refine lv_bipush (v := 70) hx hb dX10_buildsOne_20 (by decide) ?_
      refine lv_icmp_ne (tgt := 35) hx hb dX10_buildsOne_22 (by decide) (fun hc5 => ?_) (fun hc5 => ?_)
      · replace hf := z_ifn hf hc5
        exact hJ35 (a1) (a2) S2 _ _ _ hf hP hS (lv_sub hl [0, 1, 2] rfl)
      · replace hf := z_ifp hf hc5
        exact hJ25 (a1) (a2) S2 _ _ _ hf hP hS (lv_sub hl [0, 1, 2] rfl)
theorem cv_X10_buildsOne : z_cv yX10_buildsOne cX10_buildsOne 3 none RX10 2 := ⟨⟨tw937, twp30⟩, tw938, tw11, by decide +kernel⟩
