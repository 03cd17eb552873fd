def b_X10_calls_74 (N : Nat) (v1 : Int32) (v2 : Int32) (S : St) : Option (St) := z_gd (z_in v1 (z_ln 85)) (z_gd (z_in v1 (z_ln 84)) (z_gd (z_in v1 (z_ln 86)) (z_bd (f_X10_frameWith N ((S 84 (v1 : Int32).toNatClampNeg)) (v2) ((S 86 (v1 : Int32).toNatClampNeg)) S) fun r15 S14 => z_bv (f_X10_makes N ((S 85 (v1 : Int32).toNatClampNeg)) (r15) (1) S14) fun S17 => some S17)))
def b_X10_calls_66 (N : Nat) (v1 : Int32) (v2 : Int32) (t0 : Int32) (S : St) : Option (St) := z_lt (z_wr S 65 64 t0) fun S8 => z_bv (f_X10_waitsFor N ((-1)) S8) fun S9 => b_X10_calls_74 N (v1) (v2) S9
def f_X10_calls (N : Nat) (a1 : Int32) (a2 : Int32) (a3 : Int32) (S : St) : Option (St) := if a3 = 1 then (z_lt (z_wr S 65 65 ((S 65 65) + 1)) fun S7 => b_X10_calls_74 N (a1) (a2) S7) else (if (S 65 63) = 12 then (z_bv (f_X10_fails N (5) S) fun S5 => some S5) else (z_lt (z_wr S 65 63 ((S 65 63) + 1)) fun S3 => if (S3 65 63) ≤ (S3 65 64) then (b_X10_calls_66 N (a1) (a2) ((S3 65 64)) S3) else (b_X10_calls_66 N (a1) (a2) ((S3 65 63)) S3)))
set_option maxHeartbeats 4000000 in
set_option maxRecDepth 100000 in
theorem c_X10_calls {l : Launch} {G : Cx} {X S S' : St} {N : Nat} {a1 : Int32} {a2 : Int32} {a3 : Int32} (hq : z_inj (gq G)) (hf : f_X10_calls N a1 a2 a3 S = some S') : z_Ct l yX10_calls cX10_calls 4 none 2 43 G X S [.ref (gq G (65)), .int (a1), .int (a2), .int (a3)] (z_QV G X S') := by
  refine z_start (by decide +kernel) (Nat.le_of_ble_eq_true rfl) ?_
  intro p e s m below meth c ls E hr hlk hK hP hS hl
  have E : CallFix p m c cX10_calls 4 s _ lw_good RX10 := E
  have hx := E.1
  have hb := E.2.1
  have hown := E.2.2.2.1
  have hts := E.2.2.2.2
  have hJ74 : ∀ (v1 : Int32) (v2 : Int32) (S : St) (H : Heap) (locs : List Loc) (ls : Array Slot), b_X10_calls_74 N v1 v2 S = some S' → z_P G X S H → z_S G s.heap H locs → lv_has ls 4 [(0, .ref (gq G (65))), (1, .int (v1)), (2, .int (v2))] → W p l e (z_rm 2 43) s m ([.ref (gq G (65)), .int (a1), .int (a2), .int (a3)] : List Value).toArray below meth c H locs 0 0 (MQ below (z_QV G X S') ([.ref (gq G (65)), .int (a1), .int (a2), .int (a3)] : List Value).toArray s 0 0 (z_Aq (gq G))) (F0 m 74 ls []) := by
    intro v1 v2 S H locs ls hf hP hS hl
    unfold b_X10_calls_74 at hf
    refine lv_aload_n hx hb dX10_calls_74 rfl (lv_at hl 0 rfl) ?_
    refine lv_aload_n hx hb dX10_calls_75 rfl (lv_at hl 0 rfl) ?_
    refine z_getR (C := RX10) (T := TX10) (N := 75) (ci := 10) (k := 38) (o := 65) (t := 85) E hK hP iwX10 rfl rfl (by decide) (by decide) rfl rfl rfl tw990 dX10_calls_76 ?_
    refine lv_iload_n hx hb dX10_calls_79 rfl (lv_at hl 1 rfl) ?_
    obtain ⟨hg11, hf⟩ := z_gd_some hf
    refine m_ald (o := 85) (i := v1) E hK hP rfl (by decide) hg11 dX10_calls_80 ?_
    refine lv_aload_n hx hb dX10_calls_81 rfl (lv_at hl 0 rfl) ?_
    refine lv_aload_n hx hb dX10_calls_82 rfl (lv_at hl 0 rfl) ?_
    refine z_getR (C := RX10) (T := TX10) (N := 75) (ci := 10) (k := 37) (o := 65) (t := 84) E hK hP iwX10 rfl rfl (by decide) (by decide) rfl rfl rfl tw989 dX10_calls_83 ?_
    refine lv_iload_n hx hb dX10_calls_86 rfl (lv_at hl 1 rfl) ?_
    obtain ⟨hg12, hf⟩ := z_gd_some hf
    refine m_ald (o := 84) (i := v1) E hK hP rfl (by decide) hg12 dX10_calls_87 ?_
    refine lv_iload_n hx hb dX10_calls_88 rfl (lv_at hl 2 rfl) ?_
    refine lv_aload_n hx hb dX10_calls_89 rfl (lv_at hl 0 rfl) ?_
    refine z_getR (C := RX10) (T := TX10) (N := 75) (ci := 10) (k := 39) (o := 65) (t := 86) E hK hP iwX10 rfl rfl (by decide) (by decide) rfl rfl rfl tw991 dX10_calls_90 ?_
    refine lv_iload_n hx hb dX10_calls_93 rfl (lv_at hl 1 rfl) ?_
    obtain ⟨hg13, hf⟩ := z_gd_some hf
    refine m_ald (o := 86) (i := v1) E hK hP rfl (by decide) hg13 dX10_calls_94 ?_
    obtain ⟨r15, S14, hz16, hf⟩ := z_bd_some hf
    refine z_ci (z_runV (o := 65) (ci := 10) E hK hP hS (c_X10_frameWith hq hz16) cv_X10_frameWith tw1277 rfl (by decide) rfl rfl ⟨Nat.le_of_ble_eq_true rfl, Nat.le_of_ble_eq_true rfl⟩ ⟨Nat.le_refl 0, Nat.le_refl 0⟩ hl.1 (Nat.le_of_ble_eq_true rfl) rfl dX10_calls_95) hS (fun H locs hP hS => ?_)
    refine lv_iconst (v := 1) hx hb dX10_calls_98 (by decide) ?_
    obtain ⟨S17, hz18, hf⟩ := z_bv_some hf
    refine z_cvo (z_runV (o := 65) (ci := 10) E hK hP hS (c_X10_makes hq hz18) cv_X10_makes tw1217 rfl (by decide) rfl rfl ⟨Nat.le_of_ble_eq_true rfl, Nat.le_of_ble_eq_true rfl⟩ ⟨Nat.le_refl 0, Nat.le_refl 0⟩ hl.1 (Nat.le_of_ble_eq_true rfl) rfl dX10_calls_99) hS (fun H locs hP hS => ?_)
    exact m_retv hx hb hr hlk hf hP hS dX10_calls_102
  have hJ66 : ∀ (v1 : Int32) (v2 : Int32) (t0 : Int32) (S : St) (H : Heap) (locs : List Loc) (ls : Array Slot), b_X10_calls_66 N v1 v2 t0 S = some S' → z_P G X S H → z_S G s.heap H locs → lv_has ls 4 [(0, .ref (gq G (65))), (1, .int (v1)), (2, .int (v2))] → W p l e (z_rm 2 43) s m ([.ref (gq G (65)), .int (a1), .int (a2), .int (a3)] : List Value).toArray below meth c H locs 0 0 (MQ below (z_QV G X S') ([.ref (gq G (65)), .int (a1), .int (a2), .int (a3)] : List Value).toArray s 0 0 (z_Aq (gq G))) (F0 m 66 ls [.int (t0), .ref (gq G (65))]) := by
    intro v1 v2 t0 S H locs ls hf hP hS hl
    unfold b_X10_calls_66 at hf
    refine m_putI (C := RX10) (T := TX10) (N := 75) (ci := 10) (k := 64) (o := 65) (v := t0) (ty := .int) E hK hq hP hS iwX10 tyX10 tyX10_ok nmX10 rfl rfl (by decide) (by decide) rfl rfl (by decide) rfl (tyX10_ok 64 (by decide)) ⟨rfl, rfl⟩ tw1016 dX10_calls_66 (fun H locs hP hS => ?_)
    obtain ⟨S8, hf, hP⟩ := z_ltM hf hP
    refine lv_aload_n hx hb dX10_calls_69 rfl (lv_at hl 0 rfl) ?_
    refine lv_iconst (v := (-1)) hx hb dX10_calls_70 (by decide) ?_
    obtain ⟨S9, hz10, hf⟩ := z_bv_some hf
    refine z_cvo (z_runV (o := 65) (ci := 10) E hK hP hS (c_X10_waitsFor hq hz10) cv_X10_waitsFor tw1249 rfl (by decide) rfl rfl ⟨Nat.le_of_ble_eq_true rfl, Nat.le_of_ble_eq_true rfl⟩ ⟨Nat.le_refl 0, Nat.le_refl 0⟩ hl.1 (Nat.le_of_ble_eq_true rfl) rfl dX10_calls_71) hS (fun H locs hP hS => ?_)
    exact hJ74 (v1) (v2) S9 _ _ _ hf hP hS (lv_sub hl [0, 1, 2] rfl)
  have hl : lv_has ls 4 [(0, .ref (gq G (65))), (1, .int (a1)), (2, .int (a2)), (3, .int (a3))] := hl
  unfold f_X10_calls at hf
  refine lv_iload_n hx hb dX10_calls_0 rfl (lv_at hl 3 rfl) ?_
  refine lv_iconst (v := 1) hx hb dX10_calls_1 (by decide) ?_
  refine lv_icmp_ne (tgt := 18) hx hb dX10_calls_2 (by decide) (fun hc1 => ?_) (fun hc1 => ?_)
  · replace hf := z_ifn hf hc1
    refine lv_aload_n hx hb dX10_calls_18 rfl (lv_at hl 0 rfl) ?_
    refine m_getI (C := RX10) (T := TX10) (N := 75) (ci := 10) (k := 63) (o := 65) E hK hP iwX10 rfl rfl (by decide) (by decide) rfl rfl (by decide) tw1015 dX10_calls_19 ?_
    refine lv_bipush (v := 12) hx hb dX10_calls_22 (by decide) ?_
    refine lv_icmp_ne (tgt := 33) hx hb dX10_calls_24 (by decide) (fun hc2 => ?_) (fun hc2 => ?_)
    · replace hf := z_ifn hf hc2
      refine lv_aload_n hx hb dX10_calls_33 rfl (lv_at hl 0 rfl) ?_
      refine lv_dup hx hb dX10_calls_34 rfl ?_
      refine m_getI (C := RX10) (T := TX10) (N := 75) (ci := 10) (k := 63) (o := 65) E hK hP iwX10 rfl rfl (by decide) (by decide) rfl rfl (by decide) tw1015 dX10_calls_35 ?_
      refine lv_iconst (v := 1) hx hb dX10_calls_38 (by decide) ?_
      refine lv_iadd hx hb dX10_calls_39 ?_
      refine m_putI (C := RX10) (T := TX10) (N := 75) (ci := 10) (k := 63) (o := 65) (v := ((S 65 63) + 1)) (ty := .int) E hK hq hP hS iwX10 tyX10 tyX10_ok nmX10 rfl rfl (by decide) (by decide) rfl rfl (by decide) rfl (tyX10_ok 63 (by decide)) ⟨rfl, rfl⟩ tw1015 dX10_calls_40 (fun H locs hP hS => ?_)
      obtain ⟨S3, hf, hP⟩ := z_ltM hf hP
      refine lv_aload_n hx hb dX10_calls_43 rfl (lv_at hl 0 rfl) ?_
      refine lv_aload_n hx hb dX10_calls_44 rfl (lv_at hl 0 rfl) ?_
      refine m_getI (C := RX10) (T := TX10) (N := 75) (ci := 10) (k := 63) (o := 65) E hK hP iwX10 rfl rfl (by decide) (by decide) rfl rfl (by decide) tw1015 dX10_calls_45 ?_
      refine lv_aload_n hx hb dX10_calls_48 rfl (lv_at hl 0 rfl) ?_
      refine m_getI (C := RX10) (T := TX10) (N := 75) (ci := 10) (k := 64) (o := 65) E hK hP iwX10 rfl rfl (by decide) (by decide) rfl rfl (by decide) tw1016 dX10_calls_49 ?_
      refine lv_icmp_le (tgt := 62) hx hb dX10_calls_52 (by decide) (fun hc4 => ?_) (fun hc4 => ?_)
      · replace hf := z_ifp hf hc4
        refine lv_aload_n hx hb dX10_calls_62 rfl (lv_at hl 0 rfl) ?_
        refine m_getI (C := RX10) (T := TX10) (N := 75) (ci := 10) (k := 64) (o := 65) E hK hP iwX10 rfl rfl (by decide) (by decide) rfl rfl (by decide) tw1016 dX10_calls_63 ?_
        exact hJ66 (a1) (a2) ((S3 65 64)) S3 _ _ _ hf hP hS (lv_sub hl [0, 1, 2] rfl)
      · replace hf := z_ifn hf hc4
        refine lv_aload_n hx hb dX10_calls_55 rfl (lv_at hl 0 rfl) ?_
        refine m_getI (C := RX10) (T := TX10) (N := 75) (ci := 10) (k := 63) (o := 65) E hK hP iwX10 rfl rfl (by decide) (by decide) rfl rfl (by decide) tw1015 dX10_calls_56 ?_
        refine lv_goto (tgt := 66) hx hb dX10_calls_59 (by decide) ?_
        exact hJ66 (a1) (a2) ((S3 65 63)) S3 _ _ _ hf hP hS (lv_sub hl [0, 1, 2] rfl)
    · replace hf := z_ifp hf hc2
      refine lv_aload_n hx hb dX10_calls_27 rfl (lv_at hl 0 rfl) ?_
      refine lv_iconst (v := 5) hx hb dX10_calls_28 (by decide) ?_
      obtain ⟨S5, hz6, hf⟩ := z_bv_some hf
      refine z_cvo (z_runV (o := 65) (ci := 10) E hK hP hS (c_X10_fails hq hz6) cv_X10_fails tw1225 rfl (by decide) rfl rfl ⟨Nat.le_of_ble_eq_true rfl, Nat.le_of_ble_eq_true rfl⟩ ⟨Nat.le_refl 0, Nat.le_refl 0⟩ hl.1 (Nat.le_of_ble_eq_true rfl) rfl dX10_calls_29) hS (fun H locs hP hS => ?_)
      exact m_retv hx hb hr hlk hf hP hS dX10_calls_32
  · replace hf := z_ifp hf hc1
    refine lv_aload_n hx hb dX10_calls_5 rfl (lv_at hl 0 rfl) ?_
    refine lv_dup hx hb dX10_calls_6 rfl ?_
    refine m_getI (C := RX10) (T := TX10) (N := 75) (ci := 10) (k := 65) (o := 65) E hK hP iwX10 rfl rfl (by decide) (by decide) rfl rfl (by decide) tw1017 dX10_calls_7 ?_
    refine lv_iconst (v := 1) hx hb dX10_calls_10 (by decide) ?_
    refine lv_iadd hx hb dX10_calls_11 ?_
    refine m_putI (C := RX10) (T := TX10) (N := 75) (ci := 10) (k := 65) (o := 65) (v := ((S 65 65) + 1)) (ty := .int) E hK hq hP hS iwX10 tyX10 tyX10_ok nmX10 rfl rfl (by decide) (by decide) rfl rfl (by decide) rfl (tyX10_ok 65 (by decide)) ⟨rfl, rfl⟩ tw1017 dX10_calls_12 (fun H locs hP hS => ?_)
    obtain ⟨S7, hf, hP⟩ := z_ltM hf hP
    refine lv_goto (tgt := 74) hx hb dX10_calls_15 (by decide) ?_
    exact hJ74 (a1) (a2) S7 _ _ _ hf hP hS (lv_sub hl [0, 1, 2] rfl)
theorem cv_X10_calls : z_cv yX10_calls cX10_calls 4 none RX10 3 := ⟨⟨tw1287, twp55⟩, tw1288, tw11, by decide +kernel⟩
def f_X10_hasField (N : Nat) (a1 : Int32) (a2 : Int32) (S : St) : Option (Int32 × St) := if a2 = 112 then (if a1 = 1 then (some (0, S)) else (some (1, S))) else (if a1 = 0 then (some (0, S)) else (some (1, S)))
set_option maxHeartbeats 4000000 in
set_option maxRecDepth 100000 in
theorem c_X10_hasField {l : Launch} {G : Cx} {X S S' : St} {N : Nat} {a1 : Int32} {a2 : Int32} {r : Int32} (hq : z_inj (gq G)) (hf : f_X10_hasField N a1 a2 S = some (r, S')) : z_Ct l yX10_hasField cX10_hasField 2 (some .boolean) 0 0 G X S [.int (a1), .int (a2)] (z_QI G X S' r) := by
  refine z_start (by decide +kernel) (Nat.le_of_ble_eq_true rfl) ?_
  intro p e s m below meth c ls E hr hlk hK hP hS hl
  have E : CallFix p m c cX10_hasField 2 s _ lw_good RX10 := E
  have hx := E.1
  have hb := E.2.1
  have hown := E.2.2.2.1
  have hts := E.2.2.2.2
  have hl : lv_has ls 2 [(0, .int (a1)), (1, .int (a2))] := hl
  unfold f_X10_hasField at hf
  refine lv_iload_n hx hb dX10_hasField_0 rfl (lv_at hl 1 rfl) ?_
  refine lv_bipush (v := 112) hx hb dX10_hasField_1 (by decide) ?_
  refine lv_icmp_ne (tgt := 19) hx hb dX10_hasField_3 (by decide) (fun hc1 => ?_) (fun hc1 => ?_)
  · replace hf := z_ifn hf hc1
    refine lv_iload_n hx hb dX10_hasField_19 rfl (lv_at hl 0 rfl) ?_
    refine lv_if_eq (tgt := 27) hx hb dX10_hasField_20 (by decide) (fun hc2 => ?_) (fun hc2 => ?_)
    · replace hf := z_ifp hf hc2
      refine lv_iconst (v := 0) hx hb dX10_hasField_27 (by decide) ?_
      exact m_retz hx hb hr hlk rfl hf hP hS dX10_hasField_28
    · replace hf := z_ifn hf hc2
      refine lv_iconst (v := 1) hx hb dX10_hasField_23 (by decide) ?_
      refine lv_goto (tgt := 28) hx hb dX10_hasField_24 (by decide) ?_
      exact m_retz hx hb hr hlk rfl hf hP hS dX10_hasField_28
  · replace hf := z_ifp hf hc1
    refine lv_iload_n hx hb dX10_hasField_6 rfl (lv_at hl 0 rfl) ?_
    refine lv_iconst (v := 1) hx hb dX10_hasField_7 (by decide) ?_
    refine lv_icmp_eq (tgt := 15) hx hb dX10_hasField_8 (by decide) (fun hc3 => ?_) (fun hc3 => ?_)
    · replace hf := z_ifp hf hc3
      refine lv_iconst (v := 0) hx hb dX10_hasField_15 (by decide) ?_
      refine lv_goto (tgt := 28) hx hb dX10_hasField_16 (by decide) ?_
      exact m_retz hx hb hr hlk rfl hf hP hS dX10_hasField_28
    · replace hf := z_ifn hf hc3
      refine lv_iconst (v := 1) hx hb dX10_hasField_11 (by decide) ?_
      refine lv_goto (tgt := 28) hx hb dX10_hasField_12 (by decide) ?_
      exact m_retz hx hb hr hlk rfl hf hP hS dX10_hasField_28
theorem cs_X10_hasField : z_cs yX10_hasField cX10_hasField 2 (some .boolean) 2 := ⟨tw1294, tw1295, tw11, by decide +kernel⟩
def b_X10_passesCache_67 (N : Nat) (v1 : Int32) (v2 : Int32) (t0 : Int32) (t1 : Int32) (t2 : Int32) (S : St) : Option (St) := z_gd (z_in t2 (z_ln 81)) (z_lt (z_wr S 81 (t2 : Int32).toNatClampNeg (t1 + t0)) fun S15 => z_gd (z_in v1 (z_ln 79)) (z_gd (z_in v1 (z_ln 79)) (z_lt (z_wr S15 79 (v1 : Int32).toNatClampNeg ((S15 79 (v1 : Int32).toNatClampNeg) ||| (1 <<< (v2 &&& 31)))) fun S18 => some S18)))
def b_X10_passesCache_49 (N : Nat) (v1 : Int32) (v2 : Int32) (v3 : Int32) (t0 : Int32) (t1 : Int32) (t2 : Int32) (S : St) : Option (St) := z_gd (z_in t2 (z_ln 80)) (z_lt (z_wr S 80 (t2 : Int32).toNatClampNeg (t1 + t0)) fun S11 => z_gd (z_in v1 (z_ln 81)) (if v3 = 0 then (b_X10_passesCache_67 N (v1) (v2) (1) ((S11 81 (v1 : Int32).toNatClampNeg)) (v1) S11) else (b_X10_passesCache_67 N (v1) (v2) (0) ((S11 81 (v1 : Int32).toNatClampNeg)) (v1) S11)))
def b_X10_passesCache_32 (N : Nat) (v1 : Int32) (v2 : Int32) (t0 : Int32) (S : St) : Option (St) := z_gd (z_in v1 (z_ln 80)) (if t0 = 0 then (b_X10_passesCache_49 N (v1) (v2) (t0) (0) ((S 80 (v1 : Int32).toNatClampNeg)) (v1) S) else (b_X10_passesCache_49 N (v1) (v2) (t0) (1) ((S 80 (v1 : Int32).toNatClampNeg)) (v1) S))
def b_X10_passesCache_31 (N : Nat) (v1 : Int32) (v2 : Int32) (S : St) : Option (St) := b_X10_passesCache_32 N (v1) (v2) (0) S
def f_X10_passesCache (N : Nat) (a1 : Int32) (a2 : Int32) (S : St) : Option (St) := z_gd (z_in a1 (z_ln 79)) (if (((S 79 (a1 : Int32).toNatClampNeg) >>> (a2 &&& 31)) &&& 1) = 1 then (z_gd (z_in a1 (z_ln 79)) (z_bd (f_X10_bits N ((S 79 (a1 : Int32).toNatClampNeg)) S) fun r5 S4 => if 2 < r5 then (b_X10_passesCache_31 N (a1) (a2) S4) else (b_X10_passesCache_32 N (a1) (a2) (1) S4))) else (b_X10_passesCache_31 N (a1) (a2) S))
set_option maxHeartbeats 4000000 in
set_option maxRecDepth 100000 in
theorem c_X10_passesCache {l : Launch} {G : Cx} {X S S' : St} {N : Nat} {a1 : Int32} {a2 : Int32} (hq : z_inj (gq G)) (hf : f_X10_passesCache N a1 a2 S = some S') : z_Ct l yX10_passesCache cX10_passesCache 4 none 1 22 G X S [.ref (gq G (65)), .int (a1), .int (a2)] (z_QV G X S') := by
  refine z_start (by decide +kernel) (Nat.le_of_ble_eq_true rfl) ?_
  intro p e s m below meth c ls E hr hlk hK hP hS hl
  have E : CallFix p m c cX10_passesCache 4 s _ lw_good RX10 := E
  have hx := E.1
  have hb := E.2.1
  have hown := E.2.2.2.1
  have hts := E.2.2.2.2
  have hJ67 : ∀ (v1 : Int32) (v2 : Int32) (t0 : Int32) (t1 : Int32) (t2 : Int32) (S : St) (H : Heap) (locs : List Loc) (ls : Array Slot), b_X10_passesCache_67 N v1 v2 t0 t1 t2 S = some S' → z_P G X S H → z_S G s.heap H locs → lv_has ls 4 [(0, .ref (gq G (65))), (1, .int (v1)), (2, .int (v2))] → W p l e (z_rm 1 22) s m ([.ref (gq G (65)), .int (a1), .int (a2)] : List Value).toArray below meth c H locs 0 0 (MQ below (z_QV G X S') ([.ref (gq G (65)), .int (a1), .int (a2)] : List Value).toArray s 0 0 (z_Aq (gq G))) (F0 m 67 ls [.int (t0), .int (t1), .int (t2), .ref (gq G (81))]) := by
    intro v1 v2 t0 t1 t2 S H locs ls hf hP hS hl
    unfold b_X10_passesCache_67 at hf
    refine lv_iadd hx hb dX10_passesCache_67 ?_
    obtain ⟨hg14, hf⟩ := z_gd_some hf
    refine m_ast (o := 81) (i := t2) (v := (t1 + t0)) E hK hq hP hS rfl (by decide) hg14 dX10_passesCache_68 (fun H locs hP hS => ?_)
    obtain ⟨S15, hf, hP⟩ := z_ltM hf hP
    refine lv_aload_n hx hb dX10_passesCache_69 rfl (lv_at hl 0 rfl) ?_
    refine z_getR (C := RX10) (T := TX10) (N := 75) (ci := 10) (k := 25) (o := 65) (t := 79) E hK hP iwX10 rfl rfl (by decide) (by decide) rfl rfl rfl tw977 dX10_passesCache_70 ?_
    refine lv_iload_n hx hb dX10_passesCache_73 rfl (lv_at hl 1 rfl) ?_
    refine lv_dup2_11 hx hb dX10_passesCache_74 rfl rfl ?_
    obtain ⟨hg16, hf⟩ := z_gd_some hf
    refine m_ald (o := 79) (i := v1) E hK hP rfl (by decide) hg16 dX10_passesCache_75 ?_
    refine lv_iconst (v := 1) hx hb dX10_passesCache_76 (by decide) ?_
    refine lv_iload_n hx hb dX10_passesCache_77 rfl (lv_at hl 2 rfl) ?_
    refine lv_ishl hx hb dX10_passesCache_78 ?_
    refine lv_ior hx hb dX10_passesCache_79 ?_
    obtain ⟨hg17, hf⟩ := z_gd_some hf
    refine m_ast (o := 79) (i := v1) (v := ((S15 79 (v1 : Int32).toNatClampNeg) ||| (1 <<< (v2 &&& 31)))) E hK hq hP hS rfl (by decide) hg17 dX10_passesCache_80 (fun H locs hP hS => ?_)
    obtain ⟨S18, hf, hP⟩ := z_ltM hf hP
    exact m_retv hx hb hr hlk hf hP hS dX10_passesCache_81
  have hJ49 : ∀ (v1 : Int32) (v2 : Int32) (v3 : Int32) (t0 : Int32) (t1 : Int32) (t2 : Int32) (S : St) (H : Heap) (locs : List Loc) (ls : Array Slot), b_X10_passesCache_49 N v1 v2 v3 t0 t1 t2 S = some S' → z_P G X S H → z_S G s.heap H locs → lv_has ls 4 [(0, .ref (gq G (65))), (1, .int (v1)), (2, .int (v2)), (3, .int (v3))] → W p l e (z_rm 1 22) s m ([.ref (gq G (65)), .int (a1), .int (a2)] : List Value).toArray below meth c H locs 0 0 (MQ below (z_QV G X S') ([.ref (gq G (65)), .int (a1), .int (a2)] : List Value).toArray s 0 0 (z_Aq (gq G))) (F0 m 49 ls [.int (t0), .int (t1), .int (t2), .ref (gq G (80))]) := by
    intro v1 v2 v3 t0 t1 t2 S H locs ls hf hP hS hl
    unfold b_X10_passesCache_49 at hf
    refine lv_iadd hx hb dX10_passesCache_49 ?_
    obtain ⟨hg10, hf⟩ := z_gd_some hf
    refine m_ast (o := 80) (i := t2) (v := (t1 + t0)) E hK hq hP hS rfl (by decide) hg10 dX10_passesCache_50 (fun H locs hP hS => ?_)
    obtain ⟨S11, hf, hP⟩ := z_ltM hf hP
    refine lv_aload_n hx hb dX10_passesCache_51 rfl (lv_at hl 0 rfl) ?_
    refine z_getR (C := RX10) (T := TX10) (N := 75) (ci := 10) (k := 27) (o := 65) (t := 81) E hK hP iwX10 rfl rfl (by decide) (by decide) rfl rfl rfl tw979 dX10_passesCache_52 ?_
    refine lv_iload_n hx hb dX10_passesCache_55 rfl (lv_at hl 1 rfl) ?_
    refine lv_dup2_11 hx hb dX10_passesCache_56 rfl rfl ?_
    obtain ⟨hg12, hf⟩ := z_gd_some hf
    refine m_ald (o := 81) (i := v1) E hK hP rfl (by decide) hg12 dX10_passesCache_57 ?_
    refine lv_iload_n hx hb dX10_passesCache_58 rfl (lv_at hl 3 rfl) ?_
    refine lv_if_eq (tgt := 66) hx hb dX10_passesCache_59 (by decide) (fun hc13 => ?_) (fun hc13 => ?_)
    · replace hf := z_ifp hf hc13
      refine lv_iconst (v := 1) hx hb dX10_passesCache_66 (by decide) ?_
      exact hJ67 (v1) (v2) (1) ((S11 81 (v1 : Int32).toNatClampNeg)) (v1) S11 _ _ _ hf hP hS (lv_sub hl [0, 1, 2] rfl)
    · replace hf := z_ifn hf hc13
      refine lv_iconst (v := 0) hx hb dX10_passesCache_62 (by decide) ?_
      refine lv_goto (tgt := 67) hx hb dX10_passesCache_63 (by decide) ?_
      exact hJ67 (v1) (v2) (0) ((S11 81 (v1 : Int32).toNatClampNeg)) (v1) S11 _ _ _ hf hP hS (lv_sub hl [0, 1, 2] rfl)
  have hJ32 : ∀ (v1 : Int32) (v2 : Int32) (t0 : Int32) (S : St) (H : Heap) (locs : List Loc) (ls : Array Slot), b_X10_passesCache_32 N v1 v2 t0 S = some S' → z_P G X S H → z_S G s.heap H locs → lv_has ls 4 [(0, .ref (gq G (65))), (1, .int (v1)), (2, .int (v2))] → W p l e (z_rm 1 22) s m ([.ref (gq G (65)), .int (a1), .int (a2)] : List Value).toArray below meth c H locs 0 0 (MQ below (z_QV G X S') ([.ref (gq G (65)), .int (a1), .int (a2)] : List Value).toArray s 0 0 (z_Aq (gq G))) (F0 m 32 ls [.int (t0)]) := by
    intro v1 v2 t0 S H locs ls hf hP hS hl
    unfold b_X10_passesCache_32 at hf
    refine lv_istore_n (lv' := [(3, .int (t0)), (0, .ref (gq G (65))), (1, .int (v1)), (2, .int (v2))]) hx hb dX10_passesCache_32 rfl hl (by decide) rfl (fun ls hl => ?_)
    refine lv_aload_n hx hb dX10_passesCache_33 rfl (lv_at hl 1 rfl) ?_
    refine z_getR (C := RX10) (T := TX10) (N := 75) (ci := 10) (k := 26) (o := 65) (t := 80) E hK hP iwX10 rfl rfl (by decide) (by decide) rfl rfl rfl tw978 dX10_passesCache_34 ?_
    refine lv_iload_n hx hb dX10_passesCache_37 rfl (lv_at hl 2 rfl) ?_
    refine lv_dup2_11 hx hb dX10_passesCache_38 rfl rfl ?_
    obtain ⟨hg8, hf⟩ := z_gd_some hf
    refine m_ald (o := 80) (i := v1) E hK hP rfl (by decide) hg8 dX10_passesCache_39 ?_
    refine lv_iload_n hx hb dX10_passesCache_40 rfl (lv_at hl 0 rfl) ?_
    refine lv_if_eq (tgt := 48) hx hb dX10_passesCache_41 (by decide) (fun hc9 => ?_) (fun hc9 => ?_)
    · replace hf := z_ifp hf hc9
      refine lv_iconst (v := 0) hx hb dX10_passesCache_48 (by decide) ?_
      exact hJ49 (v1) (v2) (t0) (0) ((S 80 (v1 : Int32).toNatClampNeg)) (v1) S _ _ _ hf hP hS (lv_sub hl [1, 2, 3, 0] rfl)
    · replace hf := z_ifn hf hc9
      refine lv_iconst (v := 1) hx hb dX10_passesCache_44 (by decide) ?_
      refine lv_goto (tgt := 49) hx hb dX10_passesCache_45 (by decide) ?_
      exact hJ49 (v1) (v2) (t0) (1) ((S 80 (v1 : Int32).toNatClampNeg)) (v1) S _ _ _ hf hP hS (lv_sub hl [1, 2, 3, 0] rfl)
  have hJ31 : ∀ (v1 : Int32) (v2 : Int32) (S : St) (H : Heap) (locs : List Loc) (ls : Array Slot), b_X10_passesCache_31 N v1 v2 S = some S' → z_P G X S H → z_S G s.heap H locs → lv_has ls 4 [(0, .ref (gq G (65))), (1, .int (v1)), (2, .int (v2))] → W p l e (z_rm 1 22) s m ([.ref (gq G (65)), .int (a1), .int (a2)] : List Value).toArray below meth c H locs 0 0 (MQ below (z_QV G X S') ([.ref (gq G (65)), .int (a1), .int (a2)] : List Value).toArray s 0 0 (z_Aq (gq G))) (F0 m 31 ls []) := by
    intro v1 v2 S H locs ls hf hP hS hl
    unfold b_X10_passesCache_31 at hf
    refine lv_iconst (v := 0) hx hb dX10_passesCache_31 (by decide) ?_
    exact hJ32 (v1) (v2) (0) S _ _ _ hf hP hS (lv_sub hl [0, 1, 2] rfl)
  have hl : lv_has ls 4 [(0, .ref (gq G (65))), (1, .int (a1)), (2, .int (a2))] := hl
  unfold f_X10_passesCache at hf
  refine lv_aload_n hx hb dX10_passesCache_0 rfl (lv_at hl 0 rfl) ?_
  refine z_getR (C := RX10) (T := TX10) (N := 75) (ci := 10) (k := 25) (o := 65) (t := 79) E hK hP iwX10 rfl rfl (by decide) (by decide) rfl rfl rfl tw977 dX10_passesCache_1 ?_
  refine lv_iload_n hx hb dX10_passesCache_4 rfl (lv_at hl 1 rfl) ?_
  obtain ⟨hg1, hf⟩ := z_gd_some hf
  refine m_ald (o := 79) (i := a1) E hK hP rfl (by decide) hg1 dX10_passesCache_5 ?_
  refine lv_iload_n hx hb dX10_passesCache_6 rfl (lv_at hl 2 rfl) ?_
  refine lv_ishr hx hb dX10_passesCache_7 ?_
  refine lv_iconst (v := 1) hx hb dX10_passesCache_8 (by decide) ?_
  refine lv_iand hx hb dX10_passesCache_9 ?_
  refine lv_iconst (v := 1) hx hb dX10_passesCache_10 (by decide) ?_
  refine lv_icmp_ne (tgt := 31) hx hb dX10_passesCache_11 (by decide) (fun hc2 => ?_) (fun hc2 => ?_)
  · replace hf := z_ifn hf hc2
    exact hJ31 (a1) (a2) S _ _ _ hf hP hS (lv_sub hl [0, 1, 2] rfl)
  · replace hf := z_ifp hf hc2
    refine lv_aload_n hx hb dX10_passesCache_14 rfl (lv_at hl 0 rfl) ?_
    refine z_getR (C := RX10) (T := TX10) (N := 75) (ci := 10) (k := 25) (o := 65) (t := 79) E hK hP iwX10 rfl rfl (by decide) (by decide) rfl rfl rfl tw977 dX10_passesCache_15 ?_
    refine lv_iload_n hx hb dX10_passesCache_18 rfl (lv_at hl 1 rfl) ?_
    obtain ⟨hg3, hf⟩ := z_gd_some hf
    refine m_ald (o := 79) (i := a1) E hK hP rfl (by decide) hg3 dX10_passesCache_19 ?_
    obtain ⟨r5, S4, hz6, hf⟩ := z_bd_some hf
    refine z_ci (z_runS E hK hP hS (c_X10_bits hq hz6) cs_X10_bits tw1300 rfl ⟨Nat.le_of_ble_eq_true rfl, Nat.le_of_ble_eq_true rfl⟩ ⟨Nat.le_refl 0, Nat.le_refl 0⟩ hl.1 (Nat.le_of_ble_eq_true rfl) rfl dX10_passesCache_20) hS (fun H locs hP hS => ?_)
    refine lv_iconst (v := 2) hx hb dX10_passesCache_23 (by decide) ?_
    refine lv_icmp_gt (tgt := 31) hx hb dX10_passesCache_24 (by decide) (fun hc7 => ?_) (fun hc7 => ?_)
    · replace hf := z_ifp hf hc7
      exact hJ31 (a1) (a2) S4 _ _ _ hf hP hS (lv_sub hl [0, 1, 2] rfl)
    · replace hf := z_ifn hf hc7
      refine lv_iconst (v := 1) hx hb dX10_passesCache_27 (by decide) ?_
      refine lv_goto (tgt := 32) hx hb dX10_passesCache_28 (by decide) ?_
      exact hJ32 (a1) (a2) (1) S4 _ _ _ hf hP hS (lv_sub hl [0, 1, 2] rfl)
theorem cv_X10_passesCache : z_cv yX10_passesCache cX10_passesCache 4 none RX10 2 := ⟨⟨tw1298, twp57⟩, tw1299, tw11, by decide +kernel⟩
def b_X10_findsField_33 (N : Nat) (S : St) : Option (St) := z_bv (f_X10_fails N (3) S) fun S17 => some S17
def b_X10_findsField_125 (N : Nat) (t0 : Int32) (S : St) : Option (St) := z_bv (f_X10_has N (t0) S) fun S25 => some S25
def b_X10_findsField_104 (N : Nat) (v2 : Int32) (t0 : Int32) (S : St) : Option (St) := if t0 = 0 then (z_gd (z_in v2 (z_ln 86)) (b_X10_findsField_125 N ((S 86 (v2 : Int32).toNatClampNeg)) S)) else (z_gd (z_in v2 (z_ln 85)) (b_X10_findsField_125 N ((S 85 (v2 : Int32).toNatClampNeg)) S))
def b_X10_findsField_99 (N : Nat) (v2 : Int32) (S : St) : Option (St) := b_X10_findsField_104 N (v2) (1) S
def b_X10_findsField_96 (N : Nat) (v2 : Int32) (t0 : Int32) (t1 : Int32) (S : St) : Option (St) := if t1 = t0 then (b_X10_findsField_99 N (v2) S) else (b_X10_findsField_104 N (v2) (0) S)
def b_X10_findsField_80 (N : Nat) (v1 : Int32) (v2 : Int32) (t0 : Int32) (S : St) : Option (St) := z_gd (z_in v1 (z_ln 67)) (if (S 67 (v1 : Int32).toNatClampNeg) = 112 then (b_X10_findsField_96 N (v2) (1) (t0) S) else (b_X10_findsField_96 N (v2) (0) (t0) S))
def f_X10_findsField (N : Nat) (a1 : Int32) (S : St) : Option (St) := z_gd (z_in (S 65 60) (z_ln 83)) (if (S 83 ((S 65 60) : Int32).toNatClampNeg) = 2 then (z_gd (z_in (S 65 60) (z_ln 84)) (z_gd (z_in a1 (z_ln 67)) (z_bd (f_X10_hasField N ((S 84 ((S 65 60) : Int32).toNatClampNeg)) ((S 67 (a1 : Int32).toNatClampNeg)) S) fun r6 S5 => if r6 = 0 then (b_X10_findsField_33 N S5) else (z_gd (z_in a1 (z_ln 71)) (z_gd (z_in (S 65 60) (z_ln 84)) (z_bv (f_X10_passesCache N ((S5 71 (a1 : Int32).toNatClampNeg)) ((S5 84 ((S 65 60) : Int32).toNatClampNeg)) S5) fun S11 => z_gd (z_in (S 65 60) (z_ln 84)) (if (S11 84 ((S 65 60) : Int32).toNatClampNeg) < 2 then (b_X10_findsField_99 N ((S 65 60)) S11) else (z_gd (z_in (S 65 60) (z_ln 84)) (if (S11 84 ((S 65 60) : Int32).toNatClampNeg) = 2 then (b_X10_findsField_80 N (a1) ((S 65 60)) (1) S11) else (b_X10_findsField_80 N (a1) ((S 65 60)) (0) S11)))))))))) else (b_X10_findsField_33 N S))
set_option maxHeartbeats 4000000 in
set_option maxRecDepth 100000 in
theorem c_X10_findsField {l : Launch} {G : Cx} {X S S' : St} {N : Nat} {a1 : Int32} (hq : z_inj (gq G)) (hf : f_X10_findsField N a1 S = some S') : z_Ct l yX10_findsField cX10_findsField 4 none 2 45 G X S [.ref (gq G (65)), .int (a1)] (z_QV G X S') := by
  refine z_start (by decide +kernel) (Nat.le_of_ble_eq_true rfl) ?_
  intro p e s m below meth c ls E hr hlk hK hP hS hl
  have E : CallFix p m c cX10_findsField 4 s _ lw_good RX10 := E
  have hx := E.1
  have hb := E.2.1
  have hown := E.2.2.2.1
  have hts := E.2.2.2.2
  have hJ33 : ∀ (S : St) (H : Heap) (locs : List Loc) (ls : Array Slot), b_X10_findsField_33 N S = some S' → z_P G X S H → z_S G s.heap H locs → lv_has ls 4 [(0, .ref (gq G (65)))] → W p l e (z_rm 2 45) s m ([.ref (gq G (65)), .int (a1)] : List Value).toArray below meth c H locs 0 0 (MQ below (z_QV G X S') ([.ref (gq G (65)), .int (a1)] : List Value).toArray s 0 0 (z_Aq (gq G))) (F0 m 33 ls []) := by
    intro S H locs ls hf hP hS hl
    unfold b_X10_findsField_33 at hf
    refine lv_aload_n hx hb dX10_findsField_33 rfl (lv_at hl 0 rfl) ?_
    refine lv_iconst (v := 3) hx hb dX10_findsField_34 (by decide) ?_
    obtain ⟨S17, hz18, hf⟩ := z_bv_some hf
    refine z_cvo (z_runV (o := 65) (ci := 10) E hK hP hS (c_X10_fails hq hz18) cv_X10_fails tw1225 rfl (by decide) rfl rfl ⟨Nat.le_of_ble_eq_true rfl, Nat.le_of_ble_eq_true rfl⟩ ⟨Nat.le_refl 0, Nat.le_refl 0⟩ hl.1 (Nat.le_of_ble_eq_true rfl) rfl dX10_findsField_35) hS (fun H locs hP hS => ?_)
    exact m_retv hx hb hr hlk hf hP hS dX10_findsField_38
  have hJ125 : ∀ (t0 : Int32) (S : St) (H : Heap) (locs : List Loc) (ls : Array Slot), b_X10_findsField_125 N t0 S = some S' → z_P G X S H → z_S G s.heap H locs → lv_has ls 4 [] → W p l e (z_rm 2 45) s m ([.ref (gq G (65)), .int (a1)] : List Value).toArray below meth c H locs 0 0 (MQ below (z_QV G X S') ([.ref (gq G (65)), .int (a1)] : List Value).toArray s 0 0 (z_Aq (gq G))) (F0 m 125 ls [.int (t0), .ref (gq G (65))]) := by
    intro t0 S H locs ls hf hP hS hl
    unfold b_X10_findsField_125 at hf
    obtain ⟨S25, hz26, hf⟩ := z_bv_some hf
    refine z_cvo (z_runV (o := 65) (ci := 10) E hK hP hS (c_X10_has hq hz26) cv_X10_has tw1237 rfl (by decide) rfl rfl ⟨Nat.le_of_ble_eq_true rfl, Nat.le_of_ble_eq_true rfl⟩ ⟨Nat.le_refl 0, Nat.le_refl 0⟩ hl.1 (Nat.le_of_ble_eq_true rfl) rfl dX10_findsField_125) hS (fun H locs hP hS => ?_)
    exact m_retv hx hb hr hlk hf hP hS dX10_findsField_128
  have hJ104 : ∀ (v2 : Int32) (t0 : Int32) (S : St) (H : Heap) (locs : List Loc) (ls : Array Slot), b_X10_findsField_104 N v2 t0 S = some S' → z_P G X S H → z_S G s.heap H locs → lv_has ls 4 [(0, .ref (gq G (65))), (2, .int (v2))] → W p l e (z_rm 2 45) s m ([.ref (gq G (65)), .int (a1)] : List Value).toArray below meth c H locs 0 0 (MQ below (z_QV G X S') ([.ref (gq G (65)), .int (a1)] : List Value).toArray s 0 0 (z_Aq (gq G))) (F0 m 104 ls [.int (t0)]) := by
    intro v2 t0 S H locs ls hf hP hS hl
    unfold b_X10_findsField_104 at hf
    refine lv_istore_n (lv' := [(3, .int (t0)), (0, .ref (gq G (65))), (2, .int (v2))]) hx hb dX10_findsField_104 rfl hl (by decide) rfl (fun ls hl => ?_)
    refine lv_aload_n hx hb dX10_findsField_105 rfl (lv_at hl 1 rfl) ?_
    refine lv_iload_n hx hb dX10_findsField_106 rfl (lv_at hl 0 rfl) ?_
    refine lv_if_eq (tgt := 119) hx hb dX10_findsField_107 (by decide) (fun hc22 => ?_) (fun hc22 => ?_)
    · replace hf := z_ifp hf hc22
      refine lv_aload_n hx hb dX10_findsField_119 rfl (lv_at hl 1 rfl) ?_
      refine z_getR (C := RX10) (T := TX10) (N := 75) (ci := 10) (k := 39) (o := 65) (t := 86) E hK hP iwX10 rfl rfl (by decide) (by decide) rfl rfl rfl tw991 dX10_findsField_120 ?_
      refine lv_iload_n hx hb dX10_findsField_123 rfl (lv_at hl 2 rfl) ?_
      obtain ⟨hg23, hf⟩ := z_gd_some hf
      refine m_ald (o := 86) (i := v2) E hK hP rfl (by decide) hg23 dX10_findsField_124 ?_
      exact hJ125 ((S 86 (v2 : Int32).toNatClampNeg)) S _ _ _ hf hP hS (lv_sub hl [] rfl)
    · replace hf := z_ifn hf hc22
      refine lv_aload_n hx hb dX10_findsField_110 rfl (lv_at hl 1 rfl) ?_
      refine z_getR (C := RX10) (T := TX10) (N := 75) (ci := 10) (k := 38) (o := 65) (t := 85) E hK hP iwX10 rfl rfl (by decide) (by decide) rfl rfl rfl tw990 dX10_findsField_111 ?_
      refine lv_iload_n hx hb dX10_findsField_114 rfl (lv_at hl 2 rfl) ?_
      obtain ⟨hg24, hf⟩ := z_gd_some hf
      refine m_ald (o := 85) (i := v2) E hK hP rfl (by decide) hg24 dX10_findsField_115 ?_
      refine lv_goto (tgt := 125) hx hb dX10_findsField_116 (by decide) ?_
      exact hJ125 ((S 85 (v2 : Int32).toNatClampNeg)) S _ _ _ hf hP hS (lv_sub hl [] rfl)
  have hJ99 : ∀ (v2 : Int32) (S : St) (H : Heap) (locs : List Loc) (ls : Array Slot), b_X10_findsField_99 N v2 S = some S' → z_P G X S H → z_S G s.heap H locs → lv_has ls 4 [(0, .ref (gq G (65))), (2, .int (v2))] → W p l e (z_rm 2 45) s m ([.ref (gq G (65)), .int (a1)] : List Value).toArray below meth c H locs 0 0 (MQ below (z_QV G X S') ([.ref (gq G (65)), .int (a1)] : List Value).toArray s 0 0 (z_Aq (gq G))) (F0 m 99 ls []) := by
    intro v2 S H locs ls hf hP hS hl
    unfold b_X10_findsField_99 at hf
    refine lv_iconst (v := 1) hx hb dX10_findsField_99 (by decide) ?_
    refine lv_goto (tgt := 104) hx hb dX10_findsField_100 (by decide) ?_
    exact hJ104 (v2) (1) S _ _ _ hf hP hS (lv_sub hl [0, 1] rfl)
  have hJ96 : ∀ (v2 : Int32) (t0 : Int32) (t1 : Int32) (S : St) (H : Heap) (locs : List Loc) (ls : Array Slot), b_X10_findsField_96 N v2 t0 t1 S = some S' → z_P G X S H → z_S G s.heap H locs → lv_has ls 4 [(0, .ref (gq G (65))), (2, .int (v2))] → W p l e (z_rm 2 45) s m ([.ref (gq G (65)), .int (a1)] : List Value).toArray below meth c H locs 0 0 (MQ below (z_QV G X S') ([.ref (gq G (65)), .int (a1)] : List Value).toArray s 0 0 (z_Aq (gq G))) (F0 m 96 ls [.int (t0), .int (t1)]) := by
    intro v2 t0 t1 S H locs ls hf hP hS hl
    unfold b_X10_findsField_96 at hf
    refine lv_icmp_ne (tgt := 103) hx hb dX10_findsField_96 (by decide) (fun hc21 => ?_) (fun hc21 => ?_)
    · replace hf := z_ifn hf hc21
      refine lv_iconst (v := 0) hx hb dX10_findsField_103 (by decide) ?_
      exact hJ104 (v2) (0) S _ _ _ hf hP hS (lv_sub hl [0, 1] rfl)
    · replace hf := z_ifp hf hc21
      exact hJ99 (v2) S _ _ _ hf hP hS (lv_sub hl [0, 1] rfl)
  have hJ80 : ∀ (v1 : Int32) (v2 : Int32) (t0 : Int32) (S : St) (H : Heap) (locs : List Loc) (ls : Array Slot), b_X10_findsField_80 N v1 v2 t0 S = some S' → z_P G X S H → z_S G s.heap H locs → lv_has ls 4 [(0, .ref (gq G (65))), (1, .int (v1)), (2, .int (v2))] → W p l e (z_rm 2 45) s m ([.ref (gq G (65)), .int (a1)] : List Value).toArray below meth c H locs 0 0 (MQ below (z_QV G X S') ([.ref (gq G (65)), .int (a1)] : List Value).toArray s 0 0 (z_Aq (gq G))) (F0 m 80 ls [.int (t0)]) := by
    intro v1 v2 t0 S H locs ls hf hP hS hl
    unfold b_X10_findsField_80 at hf
    refine lv_aload_n hx hb dX10_findsField_80 rfl (lv_at hl 0 rfl) ?_
    refine z_getR (C := RX10) (T := TX10) (N := 75) (ci := 10) (k := 1) (o := 65) (t := 67) E hK hP iwX10 rfl rfl (by decide) (by decide) rfl rfl rfl tw953 dX10_findsField_81 ?_
    refine lv_iload_n hx hb dX10_findsField_84 rfl (lv_at hl 1 rfl) ?_
    obtain ⟨hg19, hf⟩ := z_gd_some hf
    refine m_ald (o := 67) (i := v1) E hK hP rfl (by decide) hg19 dX10_findsField_85 ?_
    refine lv_bipush (v := 112) hx hb dX10_findsField_86 (by decide) ?_
    refine lv_icmp_ne (tgt := 95) hx hb dX10_findsField_88 (by decide) (fun hc20 => ?_) (fun hc20 => ?_)
    · replace hf := z_ifn hf hc20
      refine lv_iconst (v := 0) hx hb dX10_findsField_95 (by decide) ?_
      exact hJ96 (v2) (0) (t0) S _ _ _ hf hP hS (lv_sub hl [0, 2] rfl)
    · replace hf := z_ifp hf hc20
      refine lv_iconst (v := 1) hx hb dX10_findsField_91 (by decide) ?_
      refine lv_goto (tgt := 96) hx hb dX10_findsField_92 (by decide) ?_
      exact hJ96 (v2) (1) (t0) S _ _ _ hf hP hS (lv_sub hl [0, 2] rfl)
  have hl : lv_has ls 4 [(0, .ref (gq G (65))), (1, .int (a1))] := hl
  unfold f_X10_findsField at hf
  refine lv_aload_n hx hb dX10_findsField_0 rfl (lv_at hl 0 rfl) ?_
  refine m_getI (C := RX10) (T := TX10) (N := 75) (ci := 10) (k := 60) (o := 65) E hK hP iwX10 rfl rfl (by decide) (by decide) rfl rfl (by decide) tw1012 dX10_findsField_1 ?_
  refine lv_istore_n (lv' := [(2, .int ((S 65 60))), (0, .ref (gq G (65))), (1, .int (a1))]) hx hb dX10_findsField_4 rfl hl (by decide) rfl (fun ls hl => ?_)
  refine lv_aload_n hx hb dX10_findsField_5 rfl (lv_at hl 1 rfl) ?_
  refine z_getR (C := RX10) (T := TX10) (N := 75) (ci := 10) (k := 36) (o := 65) (t := 83) E hK hP iwX10 rfl rfl (by decide) (by decide) rfl rfl rfl tw988 dX10_findsField_6 ?_
  refine lv_iload_n hx hb dX10_findsField_9 rfl (lv_at hl 0 rfl) ?_
  obtain ⟨hg1, hf⟩ := z_gd_some hf
  refine m_ald (o := 83) (i := (S 65 60)) E hK hP rfl (by decide) hg1 dX10_findsField_10 ?_
  refine lv_iconst (v := 2) hx hb dX10_findsField_11 (by decide) ?_
  refine lv_icmp_ne (tgt := 33) hx hb dX10_findsField_12 (by decide) (fun hc2 => ?_) (fun hc2 => ?_)
  · replace hf := z_ifn hf hc2
    exact hJ33 S _ _ _ hf hP hS (lv_sub hl [1] rfl)
  · replace hf := z_ifp hf hc2
    refine lv_aload_n hx hb dX10_findsField_15 rfl (lv_at hl 1 rfl) ?_
    refine z_getR (C := RX10) (T := TX10) (N := 75) (ci := 10) (k := 37) (o := 65) (t := 84) E hK hP iwX10 rfl rfl (by decide) (by decide) rfl rfl rfl tw989 dX10_findsField_16 ?_
    refine lv_iload_n hx hb dX10_findsField_19 rfl (lv_at hl 0 rfl) ?_
    obtain ⟨hg3, hf⟩ := z_gd_some hf
    refine m_ald (o := 84) (i := (S 65 60)) E hK hP rfl (by decide) hg3 dX10_findsField_20 ?_
    refine lv_aload_n hx hb dX10_findsField_21 rfl (lv_at hl 1 rfl) ?_
    refine z_getR (C := RX10) (T := TX10) (N := 75) (ci := 10) (k := 1) (o := 65) (t := 67) E hK hP iwX10 rfl rfl (by decide) (by decide) rfl rfl rfl tw953 dX10_findsField_22 ?_
    refine lv_iload_n hx hb dX10_findsField_25 rfl (lv_at hl 2 rfl) ?_
    obtain ⟨hg4, hf⟩ := z_gd_some hf
    refine m_ald (o := 67) (i := a1) E hK hP rfl (by decide) hg4 dX10_findsField_26 ?_
    obtain ⟨r6, S5, hz7, hf⟩ := z_bd_some hf
    refine z_ci (z_runS E hK hP hS (c_X10_hasField hq hz7) cs_X10_hasField tw1293 rfl ⟨Nat.le_of_ble_eq_true rfl, Nat.le_of_ble_eq_true rfl⟩ ⟨Nat.le_refl 0, Nat.le_refl 0⟩ hl.1 (Nat.le_of_ble_eq_true rfl) rfl dX10_findsField_27) hS (fun H locs hP hS => ?_)
    refine lv_if_ne (tgt := 39) hx hb dX10_findsField_30 (by decide) (fun hc8 => ?_) (fun hc8 => ?_)
    · replace hf := z_ifn hf hc8
      refine lv_aload_n hx hb dX10_findsField_39 rfl (lv_at hl 1 rfl) ?_
      refine lv_aload_n hx hb dX10_findsField_40 rfl (lv_at hl 1 rfl) ?_
      refine z_getR (C := RX10) (T := TX10) (N := 75) (ci := 10) (k := 5) (o := 65) (t := 71) E hK hP iwX10 rfl rfl (by decide) (by decide) rfl rfl rfl tw957 dX10_findsField_41 ?_
      refine lv_iload_n hx hb dX10_findsField_44 rfl (lv_at hl 2 rfl) ?_
      obtain ⟨hg9, hf⟩ := z_gd_some hf
      refine m_ald (o := 71) (i := a1) E hK hP rfl (by decide) hg9 dX10_findsField_45 ?_
      refine lv_aload_n hx hb dX10_findsField_46 rfl (lv_at hl 1 rfl) ?_
      refine z_getR (C := RX10) (T := TX10) (N := 75) (ci := 10) (k := 37) (o := 65) (t := 84) E hK hP iwX10 rfl rfl (by decide) (by decide) rfl rfl rfl tw989 dX10_findsField_47 ?_
      refine lv_iload_n hx hb dX10_findsField_50 rfl (lv_at hl 0 rfl) ?_
      obtain ⟨hg10, hf⟩ := z_gd_some hf
      refine m_ald (o := 84) (i := (S 65 60)) E hK hP rfl (by decide) hg10 dX10_findsField_51 ?_
      obtain ⟨S11, hz12, hf⟩ := z_bv_some hf
      refine z_cvo (z_runV (o := 65) (ci := 10) E hK hP hS (c_X10_passesCache hq hz12) cv_X10_passesCache tw1296 rfl (by decide) rfl rfl ⟨Nat.le_of_ble_eq_true rfl, Nat.le_of_ble_eq_true rfl⟩ ⟨Nat.le_refl 0, Nat.le_refl 0⟩ hl.1 (Nat.le_of_ble_eq_true rfl) rfl dX10_findsField_52) hS (fun H locs hP hS => ?_)
      refine lv_aload_n hx hb dX10_findsField_55 rfl (lv_at hl 1 rfl) ?_
      refine z_getR (C := RX10) (T := TX10) (N := 75) (ci := 10) (k := 37) (o := 65) (t := 84) E hK hP iwX10 rfl rfl (by decide) (by decide) rfl rfl rfl tw989 dX10_findsField_56 ?_
      refine lv_iload_n hx hb dX10_findsField_59 rfl (lv_at hl 0 rfl) ?_
      obtain ⟨hg13, hf⟩ := z_gd_some hf
      refine m_ald (o := 84) (i := (S 65 60)) E hK hP rfl (by decide) hg13 dX10_findsField_60 ?_
      refine lv_iconst (v := 2) hx hb dX10_findsField_61 (by decide) ?_
      refine lv_icmp_lt (tgt := 99) hx hb dX10_findsField_62 (by decide) (fun hc14 => ?_) (fun hc14 => ?_)
      · replace hf := z_ifp hf hc14
        exact hJ99 ((S 65 60)) S11 _ _ _ hf hP hS (lv_sub hl [1, 0] rfl)
      · replace hf := z_ifn hf hc14
        refine lv_aload_n hx hb dX10_findsField_65 rfl (lv_at hl 1 rfl) ?_
        refine z_getR (C := RX10) (T := TX10) (N := 75) (ci := 10) (k := 37) (o := 65) (t := 84) E hK hP iwX10 rfl rfl (by decide) (by decide) rfl rfl rfl tw989 dX10_findsField_66 ?_
        refine lv_iload_n hx hb dX10_findsField_69 rfl (lv_at hl 0 rfl) ?_
        obtain ⟨hg15, hf⟩ := z_gd_some hf
        refine m_ald (o := 84) (i := (S 65 60)) E hK hP rfl (by decide) hg15 dX10_findsField_70 ?_
        refine lv_iconst (v := 2) hx hb dX10_findsField_71 (by decide) ?_
        refine lv_icmp_ne (tgt := 79) hx hb dX10_findsField_72 (by decide) (fun hc16 => ?_) (fun hc16 => ?_)
        · replace hf := z_ifn hf hc16
          refine lv_iconst (v := 0) hx hb dX10_findsField_79 (by decide) ?_
          exact hJ80 (a1) ((S 65 60)) (0) S11 _ _ _ hf hP hS (lv_sub hl [1, 2, 0] rfl)
        · replace hf := z_ifp hf hc16
          refine lv_iconst (v := 1) hx hb dX10_findsField_75 (by decide) ?_
          refine lv_goto (tgt := 80) hx hb dX10_findsField_76 (by decide) ?_
          exact hJ80 (a1) ((S 65 60)) (1) S11 _ _ _ hf hP hS (lv_sub hl [1, 2, 0] rfl)
    · replace hf := z_ifp hf hc8
      exact hJ33 S5 _ _ _ hf hP hS (lv_sub hl [1] rfl)
theorem cv_X10_findsField : z_cv yX10_findsField cX10_findsField 4 none RX10 1 := ⟨⟨tw1291, twp56⟩, tw1292, tw11, by decide +kernel⟩
def f_X10_throwsNow (N : Nat) (S : St) : Option (St) := z_gd (z_in (S 65 60) (z_ln 83)) (if (S 83 ((S 65 60) : Int32).toNatClampNeg) = 0 then (z_gd (z_in (S 65 60) (z_ln 84)) (z_bd (f_X10_isIn N ((S 84 ((S 65 60) : Int32).toNatClampNeg)) (0) (9) S) fun r5 S4 => if r5 = 0 then (z_bv (f_X10_fails N (4) S4) fun S8 => some S8) else (z_gd (z_in (S4 65 60) (z_ln 84)) (z_bv (f_X10_fails N ((10 + (S4 84 ((S4 65 60) : Int32).toNatClampNeg))) S4) fun S11 => some S11)))) else (z_bv (f_X10_fails N (1) S) fun S13 => some S13))
set_option maxHeartbeats 4000000 in
set_option maxRecDepth 100000 in
theorem c_X10_throwsNow {l : Launch} {G : Cx} {X S S' : St} {N : Nat} (hq : z_inj (gq G)) (hf : f_X10_throwsNow N S = some S') : z_Ct l yX10_throwsNow cX10_throwsNow 1 none 2 43 G X S [.ref (gq G (65))] (z_QV G X S') := by
  refine z_start (by decide +kernel) (Nat.le_of_ble_eq_true rfl) ?_
  intro p e s m below meth c ls E hr hlk hK hP hS hl
  have E : CallFix p m c cX10_throwsNow 1 s _ lw_good RX10 := E
  have hx := E.1
  have hb := E.2.1
  have hown := E.2.2.2.1
  have hts := E.2.2.2.2
  have hl : lv_has ls 1 [(0, .ref (gq G (65)))] := hl
  unfold f_X10_throwsNow at hf
  refine lv_aload_n hx hb dX10_throwsNow_0 rfl (lv_at hl 0 rfl) ?_
  refine z_getR (C := RX10) (T := TX10) (N := 75) (ci := 10) (k := 36) (o := 65) (t := 83) E hK hP iwX10 rfl rfl (by decide) (by decide) rfl rfl rfl tw988 dX10_throwsNow_1 ?_
  refine lv_aload_n hx hb dX10_throwsNow_4 rfl (lv_at hl 0 rfl) ?_
  refine m_getI (C := RX10) (T := TX10) (N := 75) (ci := 10) (k := 60) (o := 65) E hK hP iwX10 rfl rfl (by decide) (by decide) rfl rfl (by decide) tw1012 dX10_throwsNow_5 ?_
  obtain ⟨hg1, hf⟩ := z_gd_some hf
  refine m_ald (o := 83) (i := (S 65 60)) E hK hP rfl (by decide) hg1 dX10_throwsNow_8 ?_
  refine lv_if_eq (tgt := 20) hx hb dX10_throwsNow_9 (by decide) (fun hc2 => ?_) (fun hc2 => ?_)
  · replace hf := z_ifp hf hc2
    refine lv_aload_n hx hb dX10_throwsNow_20 rfl (lv_at hl 0 rfl) ?_
    refine z_getR (C := RX10) (T := TX10) (N := 75) (ci := 10) (k := 37) (o := 65) (t := 84) E hK hP iwX10 rfl rfl (by decide) (by decide) rfl rfl rfl tw989 dX10_throwsNow_21 ?_
    refine lv_aload_n hx hb dX10_throwsNow_24 rfl (lv_at hl 0 rfl) ?_
    refine m_getI (C := RX10) (T := TX10) (N := 75) (ci := 10) (k := 60) (o := 65) E hK hP iwX10 rfl rfl (by decide) (by decide) rfl rfl (by decide) tw1012 dX10_throwsNow_25 ?_
    obtain ⟨hg3, hf⟩ := z_gd_some hf
    refine m_ald (o := 84) (i := (S 65 60)) E hK hP rfl (by decide) hg3 dX10_throwsNow_28 ?_
    refine lv_iconst (v := 0) hx hb dX10_throwsNow_29 (by decide) ?_
    refine lv_bipush (v := 9) hx hb dX10_throwsNow_30 (by decide) ?_
    obtain ⟨r5, S4, hz6, hf⟩ := z_bd_some hf
    refine z_ci (z_runS E hK hP hS (c_X10_isIn hq hz6) cs_X10_isIn tw943 rfl ⟨Nat.le_of_ble_eq_true rfl, Nat.le_of_ble_eq_true rfl⟩ ⟨Nat.le_refl 0, Nat.le_refl 0⟩ hl.1 (Nat.le_of_ble_eq_true rfl) rfl dX10_throwsNow_32) hS (fun H locs hP hS => ?_)
    refine lv_if_eq (tgt := 57) hx hb dX10_throwsNow_35 (by decide) (fun hc7 => ?_) (fun hc7 => ?_)
    · replace hf := z_ifp hf hc7
      refine lv_aload_n hx hb dX10_throwsNow_57 rfl (lv_at hl 0 rfl) ?_
      refine lv_iconst (v := 4) hx hb dX10_throwsNow_58 (by decide) ?_
      obtain ⟨S8, hz9, hf⟩ := z_bv_some hf
      refine z_cvo (z_runV (o := 65) (ci := 10) E hK hP hS (c_X10_fails hq hz9) cv_X10_fails tw1225 rfl (by decide) rfl rfl ⟨Nat.le_of_ble_eq_true rfl, Nat.le_of_ble_eq_true rfl⟩ ⟨Nat.le_refl 0, Nat.le_refl 0⟩ hl.1 (Nat.le_of_ble_eq_true rfl) rfl dX10_throwsNow_59) hS (fun H locs hP hS => ?_)
      exact m_retv hx hb hr hlk hf hP hS dX10_throwsNow_62
    · replace hf := z_ifn hf hc7
      refine lv_aload_n hx hb dX10_throwsNow_38 rfl (lv_at hl 0 rfl) ?_
      refine lv_bipush (v := 10) hx hb dX10_throwsNow_39 (by decide) ?_
      refine lv_aload_n hx hb dX10_throwsNow_41 rfl (lv_at hl 0 rfl) ?_
      refine z_getR (C := RX10) (T := TX10) (N := 75) (ci := 10) (k := 37) (o := 65) (t := 84) E hK hP iwX10 rfl rfl (by decide) (by decide) rfl rfl rfl tw989 dX10_throwsNow_42 ?_
      refine lv_aload_n hx hb dX10_throwsNow_45 rfl (lv_at hl 0 rfl) ?_
      refine m_getI (C := RX10) (T := TX10) (N := 75) (ci := 10) (k := 60) (o := 65) E hK hP iwX10 rfl rfl (by decide) (by decide) rfl rfl (by decide) tw1012 dX10_throwsNow_46 ?_
      obtain ⟨hg10, hf⟩ := z_gd_some hf
      refine m_ald (o := 84) (i := (S4 65 60)) E hK hP rfl (by decide) hg10 dX10_throwsNow_49 ?_
      refine lv_iadd hx hb dX10_throwsNow_50 ?_
      obtain ⟨S11, hz12, hf⟩ := z_bv_some hf
      refine z_cvo (z_runV (o := 65) (ci := 10) E hK hP hS (c_X10_fails hq hz12) cv_X10_fails tw1225 rfl (by decide) rfl rfl ⟨Nat.le_of_ble_eq_true rfl, Nat.le_of_ble_eq_true rfl⟩ ⟨Nat.le_refl 0, Nat.le_refl 0⟩ hl.1 (Nat.le_of_ble_eq_true rfl) rfl dX10_throwsNow_51) hS (fun H locs hP hS => ?_)
      refine lv_goto (tgt := 62) hx hb dX10_throwsNow_54 (by decide) ?_
      exact m_retv hx hb hr hlk hf hP hS dX10_throwsNow_62
  · replace hf := z_ifn hf hc2
    refine lv_aload_n hx hb dX10_throwsNow_12 rfl (lv_at hl 0 rfl) ?_
    refine lv_iconst (v := 1) hx hb dX10_throwsNow_13 (by decide) ?_
    obtain ⟨S13, hz14, hf⟩ := z_bv_some hf
    refine z_cvo (z_runV (o := 65) (ci := 10) E hK hP hS (c_X10_fails hq hz14) cv_X10_fails tw1225 rfl (by decide) rfl rfl ⟨Nat.le_of_ble_eq_true rfl, Nat.le_of_ble_eq_true rfl⟩ ⟨Nat.le_refl 0, Nat.le_refl 0⟩ hl.1 (Nat.le_of_ble_eq_true rfl) rfl dX10_throwsNow_14) hS (fun H locs hP hS => ?_)
    refine lv_goto (tgt := 62) hx hb dX10_throwsNow_17 (by decide) ?_
    exact m_retv hx hb hr hlk hf hP hS dX10_throwsNow_62
theorem cv_X10_throwsNow : z_cv yX10_throwsNow cX10_throwsNow 1 none RX10 0 := ⟨⟨tw1305, twp58⟩, tw1306, tw11, by decide +kernel⟩
def f_X10_keepsFirst (N : Nat) (a1 : Int32) (a2 : Int32) (S : St) : Option (St) := z_lt (z_wr S 65 55 (a2 + 1)) fun S1 => z_gd (z_in a2 (z_ln 94)) (z_lt (z_wr S1 94 (a2 : Int32).toNatClampNeg 1) fun S3 => z_gd (z_in a2 (z_ln 97)) (z_lt (z_wr S3 97 (a2 : Int32).toNatClampNeg (S3 65 60)) fun S5 => z_gd (z_in a1 (z_ln 69)) (z_gd (z_in a2 (z_ln 95)) (z_bv (f_X10_makes N ((S5 69 (a1 : Int32).toNatClampNeg)) ((S5 95 (a2 : Int32).toNatClampNeg)) (0) S5) fun S8 => some S8))))
set_option maxHeartbeats 4000000 in
set_option maxRecDepth 100000 in
theorem c_X10_keepsFirst {l : Launch} {G : Cx} {X S S' : St} {N : Nat} {a1 : Int32} {a2 : Int32} (hq : z_inj (gq G)) (hf : f_X10_keepsFirst N a1 a2 S = some S') : z_Ct l yX10_keepsFirst cX10_keepsFirst 3 none 1 23 G X S [.ref (gq G (65)), .int (a1), .int (a2)] (z_QV G X S') := by
  refine z_start (by decide +kernel) (Nat.le_of_ble_eq_true rfl) ?_
  intro p e s m below meth c ls E hr hlk hK hP hS hl
  have E : CallFix p m c cX10_keepsFirst 3 s _ lw_good RX10 := E
  have hx := E.1
  have hb := E.2.1
  have hown := E.2.2.2.1
  have hts := E.2.2.2.2
  have hl : lv_has ls 3 [(0, .ref (gq G (65))), (1, .int (a1)), (2, .int (a2))] := hl
  unfold f_X10_keepsFirst at hf
  refine lv_aload_n hx hb dX10_keepsFirst_0 rfl (lv_at hl 0 rfl) ?_
  refine lv_iload_n hx hb dX10_keepsFirst_1 rfl (lv_at hl 2 rfl) ?_
  refine lv_iconst (v := 1) hx hb dX10_keepsFirst_2 (by decide) ?_
  refine lv_iadd hx hb dX10_keepsFirst_3 ?_
  refine m_putI (C := RX10) (T := TX10) (N := 75) (ci := 10) (k := 55) (o := 65) (v := (a2 + 1)) (ty := .int) E hK hq hP hS iwX10 tyX10 tyX10_ok nmX10 rfl rfl (by decide) (by decide) rfl rfl (by decide) rfl (tyX10_ok 55 (by decide)) ⟨rfl, rfl⟩ tw1007 dX10_keepsFirst_4 (fun H locs hP hS => ?_)
  obtain ⟨S1, hf, hP⟩ := z_ltM hf hP
  refine lv_aload_n hx hb dX10_keepsFirst_7 rfl (lv_at hl 0 rfl) ?_
  refine z_getR (C := RX10) (T := TX10) (N := 75) (ci := 10) (k := 51) (o := 65) (t := 94) E hK hP iwX10 rfl rfl (by decide) (by decide) rfl rfl rfl tw1003 dX10_keepsFirst_8 ?_
  refine lv_iload_n hx hb dX10_keepsFirst_11 rfl (lv_at hl 2 rfl) ?_
  refine lv_iconst (v := 1) hx hb dX10_keepsFirst_12 (by decide) ?_
  obtain ⟨hg2, hf⟩ := z_gd_some hf
  refine m_ast (o := 94) (i := a2) (v := 1) E hK hq hP hS rfl (by decide) hg2 dX10_keepsFirst_13 (fun H locs hP hS => ?_)
  obtain ⟨S3, hf, hP⟩ := z_ltM hf hP
  refine lv_aload_n hx hb dX10_keepsFirst_14 rfl (lv_at hl 0 rfl) ?_
  refine z_getR (C := RX10) (T := TX10) (N := 75) (ci := 10) (k := 54) (o := 65) (t := 97) E hK hP iwX10 rfl rfl (by decide) (by decide) rfl rfl rfl tw1006 dX10_keepsFirst_15 ?_
  refine lv_iload_n hx hb dX10_keepsFirst_18 rfl (lv_at hl 2 rfl) ?_
  refine lv_aload_n hx hb dX10_keepsFirst_19 rfl (lv_at hl 0 rfl) ?_
  refine m_getI (C := RX10) (T := TX10) (N := 75) (ci := 10) (k := 60) (o := 65) E hK hP iwX10 rfl rfl (by decide) (by decide) rfl rfl (by decide) tw1012 dX10_keepsFirst_20 ?_
  obtain ⟨hg4, hf⟩ := z_gd_some hf
  refine m_ast (o := 97) (i := a2) (v := (S3 65 60)) E hK hq hP hS rfl (by decide) hg4 dX10_keepsFirst_23 (fun H locs hP hS => ?_)
  obtain ⟨S5, hf, hP⟩ := z_ltM hf hP
  refine lv_aload_n hx hb dX10_keepsFirst_24 rfl (lv_at hl 0 rfl) ?_
  refine lv_aload_n hx hb dX10_keepsFirst_25 rfl (lv_at hl 0 rfl) ?_
  refine z_getR (C := RX10) (T := TX10) (N := 75) (ci := 10) (k := 3) (o := 65) (t := 69) E hK hP iwX10 rfl rfl (by decide) (by decide) rfl rfl rfl tw955 dX10_keepsFirst_26 ?_
  refine lv_iload_n hx hb dX10_keepsFirst_29 rfl (lv_at hl 1 rfl) ?_
  obtain ⟨hg6, hf⟩ := z_gd_some hf
  refine m_ald (o := 69) (i := a1) E hK hP rfl (by decide) hg6 dX10_keepsFirst_30 ?_
  refine lv_aload_n hx hb dX10_keepsFirst_31 rfl (lv_at hl 0 rfl) ?_
  refine z_getR (C := RX10) (T := TX10) (N := 75) (ci := 10) (k := 52) (o := 65) (t := 95) E hK hP iwX10 rfl rfl (by decide) (by decide) rfl rfl rfl tw1004 dX10_keepsFirst_32 ?_
  refine lv_iload_n hx hb dX10_keepsFirst_35 rfl (lv_at hl 2 rfl) ?_
  obtain ⟨hg7, hf⟩ := z_gd_some hf
  refine m_ald (o := 95) (i := a2) E hK hP rfl (by decide) hg7 dX10_keepsFirst_36 ?_
  refine lv_iconst (v := 0) hx hb dX10_keepsFirst_37 (by decide) ?_
  obtain ⟨S8, hz9, hf⟩ := z_bv_some hf
  refine z_cvo (z_runV (o := 65) (ci := 10) E hK hP hS (c_X10_makes hq hz9) cv_X10_makes tw1217 rfl (by decide) rfl rfl ⟨Nat.le_of_ble_eq_true rfl, Nat.le_of_ble_eq_true rfl⟩ ⟨Nat.le_refl 0, Nat.le_refl 0⟩ hl.1 (Nat.le_of_ble_eq_true rfl) rfl dX10_keepsFirst_38) hS (fun H locs hP hS => ?_)
  exact m_retv hx hb hr hlk hf hP hS dX10_keepsFirst_41
theorem cv_X10_keepsFirst : z_cv yX10_keepsFirst cX10_keepsFirst 3 none RX10 2 := ⟨⟨tw1263, twp49⟩, tw1264, tw11, by decide +kernel⟩
def f_X10_isFirstOfTwo (N : Nat) (a1 : Int32) (a2 : Int32) (S : St) : Option (Int32 × St) := z_gd (z_in a2 (z_ln 94)) (if (S 94 (a2 : Int32).toNatClampNeg) = 0 then (if a1 = 43 then (some (1, S)) else (if a1 = 45 then (some (1, S)) else (if a1 = 42 then (some (1, S)) else (if a1 = 64 then (some (1, S)) else (if a1 = 66 then (some (1, S)) else (if a1 = 67 then (some (1, S)) else (some (0, S)))))))) else (some (0, S)))
set_option maxHeartbeats 4000000 in
set_option maxRecDepth 100000 in
theorem c_X10_isFirstOfTwo {l : Launch} {G : Cx} {X S S' : St} {N : Nat} {a1 : Int32} {a2 : Int32} {r : Int32} (hq : z_inj (gq G)) (hf : f_X10_isFirstOfTwo N a1 a2 S = some (r, S')) : z_Ct l yX10_isFirstOfTwo cX10_isFirstOfTwo 3 (some .boolean) 0 0 G X S [.ref (gq G (65)), .int (a1), .int (a2)] (z_QI G X S' r) := by
  refine z_start (by decide +kernel) (Nat.le_of_ble_eq_true rfl) ?_
  intro p e s m below meth c ls E hr hlk hK hP hS hl
  have E : CallFix p m c cX10_isFirstOfTwo 3 s _ lw_good RX10 := E
  have hx := E.1
  have hb := E.2.1
  have hown := E.2.2.2.1
  have hts := E.2.2.2.2
  have hl : lv_has ls 3 [(0, .ref (gq G (65))), (1, .int (a1)), (2, .int (a2))] := hl
  unfold f_X10_isFirstOfTwo at hf
  refine lv_aload_n hx hb dX10_isFirstOfTwo_0 rfl (lv_at hl 0 rfl) ?_
  refine z_getR (C := RX10) (T := TX10) (N := 75) (ci := 10) (k := 51) (o := 65) (t := 94) E hK hP iwX10 rfl rfl (by decide) (by decide) rfl rfl rfl tw1003 dX10_isFirstOfTwo_1 ?_
  refine lv_iload_n hx hb dX10_isFirstOfTwo_4 rfl (lv_at hl 2 rfl) ?_
  obtain ⟨hg1, hf⟩ := z_gd_some hf
  refine m_ald (o := 94) (i := a2) E hK hP rfl (by decide) hg1 dX10_isFirstOfTwo_5 ?_
  refine lv_if_ne (tgt := 49) hx hb dX10_isFirstOfTwo_6 (by decide) (fun hc2 => ?_) (fun hc2 => ?_)
  · replace hf := z_ifn hf hc2
    refine lv_iconst (v := 0) hx hb dX10_isFirstOfTwo_49 (by decide) ?_
    exact m_retz hx hb hr hlk rfl hf hP hS dX10_isFirstOfTwo_50
  · replace hf := z_ifp hf hc2
    refine lv_iload_n hx hb dX10_isFirstOfTwo_9 rfl (lv_at hl 1 rfl) ?_
    refine lv_bipush (v := 43) hx hb dX10_isFirstOfTwo_10 (by decide) ?_
    refine lv_icmp_eq (tgt := 45) hx hb dX10_isFirstOfTwo_12 (by decide) (fun hc3 => ?_) (fun hc3 => ?_)
    · replace hf := z_ifp hf hc3
      refine lv_iconst (v := 1) hx hb dX10_isFirstOfTwo_45 (by decide) ?_
      refine lv_goto (tgt := 50) hx hb dX10_isFirstOfTwo_46 (by decide) ?_
      exact m_retz hx hb hr hlk rfl hf hP hS dX10_isFirstOfTwo_50
    · replace hf := z_ifn hf hc3
      refine lv_iload_n hx hb dX10_isFirstOfTwo_15 rfl (lv_at hl 1 rfl) ?_
      refine lv_bipush (v := 45) hx hb dX10_isFirstOfTwo_16 (by decide) ?_
      refine lv_icmp_eq (tgt := 45) hx hb dX10_isFirstOfTwo_18 (by decide) (fun hc4 => ?_) (fun hc4 => ?_)
      · replace hf := z_ifp hf hc4
        refine lv_iconst (v := 1) hx hb dX10_isFirstOfTwo_45 (by decide) ?_
        refine lv_goto (tgt := 50) hx hb dX10_isFirstOfTwo_46 (by decide) ?_
        exact m_retz hx hb hr hlk rfl hf hP hS dX10_isFirstOfTwo_50
      · replace hf := z_ifn hf hc4
        refine lv_iload_n hx hb dX10_isFirstOfTwo_21 rfl (lv_at hl 1 rfl) ?_
        refine lv_bipush (v := 42) hx hb dX10_isFirstOfTwo_22 (by decide) ?_
        refine lv_icmp_eq (tgt := 45) hx hb dX10_isFirstOfTwo_24 (by decide) (fun hc5 => ?_) (fun hc5 => ?_)
        · replace hf := z_ifp hf hc5
          refine lv_iconst (v := 1) hx hb dX10_isFirstOfTwo_45 (by decide) ?_
          refine lv_goto (tgt := 50) hx hb dX10_isFirstOfTwo_46 (by decide) ?_
          exact m_retz hx hb hr hlk rfl hf hP hS dX10_isFirstOfTwo_50
        · replace hf := z_ifn hf hc5
          refine lv_iload_n hx hb dX10_isFirstOfTwo_27 rfl (lv_at hl 1 rfl) ?_
          refine lv_bipush (v := 64) hx hb dX10_isFirstOfTwo_28 (by decide) ?_
          refine lv_icmp_eq (tgt := 45) hx hb dX10_isFirstOfTwo_30 (by decide) (fun hc6 => ?_) (fun hc6 => ?_)
          · replace hf := z_ifp hf hc6
            refine lv_iconst (v := 1) hx hb dX10_isFirstOfTwo_45 (by decide) ?_
            refine lv_goto (tgt := 50) hx hb dX10_isFirstOfTwo_46 (by decide) ?_
            exact m_retz hx hb hr hlk rfl hf hP hS dX10_isFirstOfTwo_50
          · replace hf := z_ifn hf hc6
            refine lv_iload_n hx hb dX10_isFirstOfTwo_33 rfl (lv_at hl 1 rfl) ?_
            refine lv_bipush (v := 66) hx hb dX10_isFirstOfTwo_34 (by decide) ?_
            refine lv_icmp_eq (tgt := 45) hx hb dX10_isFirstOfTwo_36 (by decide) (fun hc7 => ?_) (fun hc7 => ?_)
            · replace hf := z_ifp hf hc7
              refine lv_iconst (v := 1) hx hb dX10_isFirstOfTwo_45 (by decide) ?_
              refine lv_goto (tgt := 50) hx hb dX10_isFirstOfTwo_46 (by decide) ?_
              exact m_retz hx hb hr hlk rfl hf hP hS dX10_isFirstOfTwo_50
            · replace hf := z_ifn hf hc7
              refine lv_iload_n hx hb dX10_isFirstOfTwo_39 rfl (lv_at hl 1 rfl) ?_
              refine lv_bipush (v := 67) hx hb dX10_isFirstOfTwo_40 (by decide) ?_
              refine lv_icmp_ne (tgt := 49) hx hb dX10_isFirstOfTwo_42 (by decide) (fun hc8 => ?_) (fun hc8 => ?_)
              · replace hf := z_ifn hf hc8
                refine lv_iconst (v := 0) hx hb dX10_isFirstOfTwo_49 (by decide) ?_
                exact m_retz hx hb hr hlk rfl hf hP hS dX10_isFirstOfTwo_50
              · replace hf := z_ifp hf hc8
                refine lv_iconst (v := 1) hx hb dX10_isFirstOfTwo_45 (by decide) ?_
                refine lv_goto (tgt := 50) hx hb dX10_isFirstOfTwo_46 (by decide) ?_
                exact m_retz hx hb hr hlk rfl hf hP hS dX10_isFirstOfTwo_50
theorem cv_X10_isFirstOfTwo : z_cv yX10_isFirstOfTwo cX10_isFirstOfTwo 3 (some .boolean) RX10 2 := ⟨⟨tw1259, twp48⟩, tw1260, tw11, by decide +kernel⟩
def b_X10_goesOnOf_140 (N : Nat) (v2 : Int32) (v3 : Int32) (S : St) : Option (St) := z_gd (z_in v2 (z_ln 97)) (z_bv (f_X10_reckons N (v3) ((S 97 (v2 : Int32).toNatClampNeg)) ((S 65 60)) S) fun S66 => some S66)
def b_X10_goesOnOf_355 (N : Nat) (v1 : Int32) (S : St) : Option (St) := z_bv (f_X10_findsField N (v1) S) fun S68 => some S68
def f_X10_goesOnOf (N : Nat) (a1 : Int32) (a2 : Int32) (S : St) : Option (St) := z_gd (z_in a1 (z_ln 67)) (if (S 67 (a1 : Int32).toNatClampNeg) = 42 then (b_X10_goesOnOf_140 N (a2) ((S 67 (a1 : Int32).toNatClampNeg)) S) else (if (S 67 (a1 : Int32).toNatClampNeg) = 43 then (b_X10_goesOnOf_140 N (a2) ((S 67 (a1 : Int32).toNatClampNeg)) S) else (if (S 67 (a1 : Int32).toNatClampNeg) = 44 then (z_gd (z_in a1 (z_ln 69)) (z_gd (z_in a2 (z_ln 95)) (z_gd (z_in a2 (z_ln 96)) (z_bv (f_X10_makes N ((S 69 (a1 : Int32).toNatClampNeg)) ((S 95 (a2 : Int32).toNatClampNeg)) ((S 96 (a2 : Int32).toNatClampNeg)) S) fun S8 => some S8)))) else (if (S 67 (a1 : Int32).toNatClampNeg) = 45 then (b_X10_goesOnOf_140 N (a2) ((S 67 (a1 : Int32).toNatClampNeg)) S) else (if (S 67 (a1 : Int32).toNatClampNeg) = 63 then (z_bv (f_X10_chooses N (a1) (a2) S) fun S12 => some S12) else (if (S 67 (a1 : Int32).toNatClampNeg) = 64 then (z_gd (z_in a2 (z_ln 97)) (z_gd (z_in a2 (z_ln 96)) (z_bv (f_X10_calls N ((S 97 (a2 : Int32).toNatClampNeg)) ((S 65 60)) ((S 96 (a2 : Int32).toNatClampNeg)) S) fun S17 => some S17))) else (if (S 67 (a1 : Int32).toNatClampNeg) = 66 then (z_gd (z_in a2 (z_ln 97)) (z_bd (f_X10_valueOf N (2) (2) ((S 97 (a2 : Int32).toNatClampNeg)) ((S 65 60)) S) fun r22 S21 => z_bv (f_X10_has N (r22) S21) fun S24 => some S24)) else (if (S 67 (a1 : Int32).toNatClampNeg) = 67 then (z_gd (z_in a2 (z_ln 97)) (z_bd (f_X10_valueOf N (2) (3) ((S 97 (a2 : Int32).toNatClampNeg)) ((S 65 60)) S) fun r29 S28 => z_bv (f_X10_has N (r29) S28) fun S31 => some S31)) else (if (S 67 (a1 : Int32).toNatClampNeg) = 76 then (z_gd (z_in a1 (z_ln 69)) (z_gd (z_in a1 (z_ln 71)) (z_gd (z_in a2 (z_ln 95)) (z_bd (f_X10_frameWith N ((S 71 (a1 : Int32).toNatClampNeg)) ((S 65 60)) ((S 95 (a2 : Int32).toNatClampNeg)) S) fun r38 S37 => z_gd (z_in a2 (z_ln 96)) (z_bv (f_X10_makes N ((S 69 (a1 : Int32).toNatClampNeg)) (r38) ((S37 96 (a2 : Int32).toNatClampNeg)) S37) fun S41 => some S41))))) else (if (S 67 (a1 : Int32).toNatClampNeg) = 80 then (z_bd (f_X10_valueOf N (2) (0) ((S 65 60)) (0) S) fun r45 S44 => z_bv (f_X10_has N (r45) S44) fun S47 => some S47) else (if (S 67 (a1 : Int32).toNatClampNeg) = 81 then (z_bd (f_X10_valueOf N (2) (1) ((S 65 60)) (0) S) fun r51 S50 => z_bv (f_X10_has N (r51) S50) fun S53 => some S53) else (if (S 67 (a1 : Int32).toNatClampNeg) = 83 then (z_gd (z_in a1 (z_ln 71)) (z_gd (z_in a2 (z_ln 95)) (z_bv (f_X10_puts N ((S 71 (a1 : Int32).toNatClampNeg)) ((S 95 (a2 : Int32).toNatClampNeg)) S) fun S58 => some S58))) else (if (S 67 (a1 : Int32).toNatClampNeg) = 88 then (z_bv (f_X10_throwsNow N S) fun S61 => some S61) else (if (S 67 (a1 : Int32).toNatClampNeg) = 112 then (b_X10_goesOnOf_355 N (a1) S) else (if (S 67 (a1 : Int32).toNatClampNeg) = 113 then (b_X10_goesOnOf_355 N (a1) S) else (some S))))))))))))))))
set_option maxHeartbeats 4000000 in
set_option maxRecDepth 100000 in
theorem c_X10_goesOnOf {l : Launch} {G : Cx} {X S S' : St} {N : Nat} {a1 : Int32} {a2 : Int32} (hq : z_inj (gq G)) (hf : f_X10_goesOnOf N a1 a2 S = some S') : z_Ct l yX10_goesOnOf cX10_goesOnOf 4 none 3 69 G X S [.ref (gq G (65)), .int (a1), .int (a2)] (z_QV G X S') := by
  refine z_start (by decide +kernel) (Nat.le_of_ble_eq_true rfl) ?_
  intro p e s m below meth c ls E hr hlk hK hP hS hl
  have E : CallFix p m c cX10_goesOnOf 4 s _ lw_good RX10 := E
  have hx := E.1
  have hb := E.2.1
  have hown := E.2.2.2.1
  have hts := E.2.2.2.2
  have hJ140 : ∀ (v2 : Int32) (v3 : Int32) (S : St) (H : Heap) (locs : List Loc) (ls : Array Slot), b_X10_goesOnOf_140 N v2 v3 S = some S' → z_P G X S H → z_S G s.heap H locs → lv_has ls 4 [(0, .ref (gq G (65))), (2, .int (v2)), (3, .int (v3))] → W p l e (z_rm 3 69) s m ([.ref (gq G (65)), .int (a1), .int (a2)] : List Value).toArray below meth c H locs 0 0 (MQ below (z_QV G X S') ([.ref (gq G (65)), .int (a1), .int (a2)] : List Value).toArray s 0 0 (z_Aq (gq G))) (F0 m 140 ls []) := by
    intro v2 v3 S H locs ls hf hP hS hl
    unfold b_X10_goesOnOf_140 at hf
    refine lv_aload_n hx hb dX10_goesOnOf_140 rfl (lv_at hl 0 rfl) ?_
    refine lv_iload_n hx hb dX10_goesOnOf_141 rfl (lv_at hl 2 rfl) ?_
    refine lv_aload_n hx hb dX10_goesOnOf_142 rfl (lv_at hl 0 rfl) ?_
    refine z_getR (C := RX10) (T := TX10) (N := 75) (ci := 10) (k := 54) (o := 65) (t := 97) E hK hP iwX10 rfl rfl (by decide) (by decide) rfl rfl rfl tw1006 dX10_goesOnOf_143 ?_
    refine lv_iload_n hx hb dX10_goesOnOf_146 rfl (lv_at hl 1 rfl) ?_
    obtain ⟨hg65, hf⟩ := z_gd_some hf
    refine m_ald (o := 97) (i := v2) E hK hP rfl (by decide) hg65 dX10_goesOnOf_147 ?_
    refine lv_aload_n hx hb dX10_goesOnOf_148 rfl (lv_at hl 0 rfl) ?_
    refine m_getI (C := RX10) (T := TX10) (N := 75) (ci := 10) (k := 60) (o := 65) E hK hP iwX10 rfl rfl (by decide) (by decide) rfl rfl (by decide) tw1012 dX10_goesOnOf_149 ?_
    obtain ⟨S66, hz67, hf⟩ := z_bv_some hf
    refine z_cvo (z_runV (o := 65) (ci := 10) E hK hP hS (c_X10_reckons hq hz67) cv_X10_reckons tw1269 rfl (by decide) rfl rfl ⟨Nat.le_of_ble_eq_true rfl, Nat.le_of_ble_eq_true rfl⟩ ⟨Nat.le_refl 0, Nat.le_refl 0⟩ hl.1 (Nat.le_of_ble_eq_true rfl) rfl dX10_goesOnOf_152) hS (fun H locs hP hS => ?_)
    refine lv_goto (tgt := 370) hx hb dX10_goesOnOf_155 (by decide) ?_
    exact m_retv hx hb hr hlk hf hP hS dX10_goesOnOf_370
  have hJ355 : ∀ (v1 : Int32) (S : St) (H : Heap) (locs : List Loc) (ls : Array Slot), b_X10_goesOnOf_355 N v1 S = some S' → z_P G X S H → z_S G s.heap H locs → lv_has ls 4 [(0, .ref (gq G (65))), (1, .int (v1))] → W p l e (z_rm 3 69) s m ([.ref (gq G (65)), .int (a1), .int (a2)] : List Value).toArray below meth c H locs 0 0 (MQ below (z_QV G X S') ([.ref (gq G (65)), .int (a1), .int (a2)] : List Value).toArray s 0 0 (z_Aq (gq G))) (F0 m 355 ls []) := by
    intro v1 S H locs ls hf hP hS hl
    unfold b_X10_goesOnOf_355 at hf
    refine lv_aload_n hx hb dX10_goesOnOf_355 rfl (lv_at hl 0 rfl) ?_
    refine lv_iload_n hx hb dX10_goesOnOf_356 rfl (lv_at hl 1 rfl) ?_
    obtain ⟨S68, hz69, hf⟩ := z_bv_some hf
    refine z_cvo (z_runV (o := 65) (ci := 10) E hK hP hS (c_X10_findsField hq hz69) cv_X10_findsField tw1289 rfl (by decide) rfl rfl ⟨Nat.le_of_ble_eq_true rfl, Nat.le_of_ble_eq_true rfl⟩ ⟨Nat.le_refl 0, Nat.le_refl 0⟩ hl.1 (Nat.le_of_ble_eq_true rfl) rfl dX10_goesOnOf_357) hS (fun H locs hP hS => ?_)
    refine lv_goto (tgt := 370) hx hb dX10_goesOnOf_360 (by decide) ?_
    exact m_retv hx hb hr hlk hf hP hS dX10_goesOnOf_370
  have hl : lv_has ls 4 [(0, .ref (gq G (65))), (1, .int (a1)), (2, .int (a2))] := hl
  unfold f_X10_goesOnOf at hf
  refine lv_aload_n hx hb dX10_goesOnOf_0 rfl (lv_at hl 0 rfl) ?_
  refine z_getR (C := RX10) (T := TX10) (N := 75) (ci := 10) (k := 1) (o := 65) (t := 67) E hK hP iwX10 rfl rfl (by decide) (by decide) rfl rfl rfl tw953 dX10_goesOnOf_1 ?_
  refine lv_iload_n hx hb dX10_goesOnOf_4 rfl (lv_at hl 1 rfl) ?_
  obtain ⟨hg1, hf⟩ := z_gd_some hf
  refine m_ald (o := 67) (i := a1) E hK hP rfl (by decide) hg1 dX10_goesOnOf_5 ?_
  refine lv_istore_n (lv' := [(3, .int ((S 67 (a1 : Int32).toNatClampNeg))), (0, .ref (gq G (65))), (1, .int (a1)), (2, .int (a2))]) hx hb dX10_goesOnOf_6 rfl hl (by decide) rfl (fun ls hl => ?_)
  refine lv_iload_n hx hb dX10_goesOnOf_7 rfl (lv_at hl 0 rfl) ?_
  by_cases hc2 : (S 67 (a1 : Int32).toNatClampNeg) = 42
  · replace hf := z_ifp hf hc2
    refine lv_lookup (off := 132) (tgt := 140) hx hb dX10_goesOnOf_8 (by decide) (by rw [hc2]; decide) (by decide) ?_
    exact hJ140 (a2) ((S 67 (a1 : Int32).toNatClampNeg)) S _ _ _ hf hP hS (lv_sub hl [1, 3, 0] rfl)
  · replace hf := z_ifn hf hc2
    by_cases hc3 : (S 67 (a1 : Int32).toNatClampNeg) = 43
    · replace hf := z_ifp hf hc3
      refine lv_lookup (off := 132) (tgt := 140) hx hb dX10_goesOnOf_8 (by decide) (by rw [hc3]; decide) (by decide) ?_
      exact hJ140 (a2) ((S 67 (a1 : Int32).toNatClampNeg)) S _ _ _ hf hP hS (lv_sub hl [1, 3, 0] rfl)
    · replace hf := z_ifn hf hc3
      by_cases hc4 : (S 67 (a1 : Int32).toNatClampNeg) = 44
      · replace hf := z_ifp hf hc4
        refine lv_lookup (off := 159) (tgt := 167) hx hb dX10_goesOnOf_8 (by decide) (by rw [hc4]; decide) (by decide) ?_
        refine lv_aload_n hx hb dX10_goesOnOf_167 rfl (lv_at hl 1 rfl) ?_
        refine lv_aload_n hx hb dX10_goesOnOf_168 rfl (lv_at hl 1 rfl) ?_
        refine z_getR (C := RX10) (T := TX10) (N := 75) (ci := 10) (k := 3) (o := 65) (t := 69) E hK hP iwX10 rfl rfl (by decide) (by decide) rfl rfl rfl tw955 dX10_goesOnOf_169 ?_
        refine lv_iload_n hx hb dX10_goesOnOf_172 rfl (lv_at hl 2 rfl) ?_
        obtain ⟨hg5, hf⟩ := z_gd_some hf
        refine m_ald (o := 69) (i := a1) E hK hP rfl (by decide) hg5 dX10_goesOnOf_173 ?_
        refine lv_aload_n hx hb dX10_goesOnOf_174 rfl (lv_at hl 1 rfl) ?_
        refine z_getR (C := RX10) (T := TX10) (N := 75) (ci := 10) (k := 52) (o := 65) (t := 95) E hK hP iwX10 rfl rfl (by decide) (by decide) rfl rfl rfl tw1004 dX10_goesOnOf_175 ?_
        refine lv_iload_n hx hb dX10_goesOnOf_178 rfl (lv_at hl 3 rfl) ?_
        obtain ⟨hg6, hf⟩ := z_gd_some hf
        refine m_ald (o := 95) (i := a2) E hK hP rfl (by decide) hg6 dX10_goesOnOf_179 ?_
        refine lv_aload_n hx hb dX10_goesOnOf_180 rfl (lv_at hl 1 rfl) ?_
        refine z_getR (C := RX10) (T := TX10) (N := 75) (ci := 10) (k := 53) (o := 65) (t := 96) E hK hP iwX10 rfl rfl (by decide) (by decide) rfl rfl rfl tw1005 dX10_goesOnOf_181 ?_
        refine lv_iload_n hx hb dX10_goesOnOf_184 rfl (lv_at hl 3 rfl) ?_
        obtain ⟨hg7, hf⟩ := z_gd_some hf
        refine m_ald (o := 96) (i := a2) E hK hP rfl (by decide) hg7 dX10_goesOnOf_185 ?_
        obtain ⟨S8, hz9, hf⟩ := z_bv_some hf
        refine z_cvo (z_runV (o := 65) (ci := 10) E hK hP hS (c_X10_makes hq hz9) cv_X10_makes tw1217 rfl (by decide) rfl rfl ⟨Nat.le_of_ble_eq_true rfl, Nat.le_of_ble_eq_true rfl⟩ ⟨Nat.le_refl 0, Nat.le_refl 0⟩ hl.1 (Nat.le_of_ble_eq_true rfl) rfl dX10_goesOnOf_186) hS (fun H locs hP hS => ?_)
        refine lv_goto (tgt := 370) hx hb dX10_goesOnOf_189 (by decide) ?_
        exact m_retv hx hb hr hlk hf hP hS dX10_goesOnOf_370
      · replace hf := z_ifn hf hc4
        by_cases hc10 : (S 67 (a1 : Int32).toNatClampNeg) = 45
        · replace hf := z_ifp hf hc10
          refine lv_lookup (off := 132) (tgt := 140) hx hb dX10_goesOnOf_8 (by decide) (by rw [hc10]; decide) (by decide) ?_
          exact hJ140 (a2) ((S 67 (a1 : Int32).toNatClampNeg)) S _ _ _ hf hP hS (lv_sub hl [1, 3, 0] rfl)
        · replace hf := z_ifn hf hc10
          by_cases hc11 : (S 67 (a1 : Int32).toNatClampNeg) = 63
          · replace hf := z_ifp hf hc11
            refine lv_lookup (off := 150) (tgt := 158) hx hb dX10_goesOnOf_8 (by decide) (by rw [hc11]; decide) (by decide) ?_
            refine lv_aload_n hx hb dX10_goesOnOf_158 rfl (lv_at hl 1 rfl) ?_
            refine lv_iload_n hx hb dX10_goesOnOf_159 rfl (lv_at hl 2 rfl) ?_
            refine lv_iload_n hx hb dX10_goesOnOf_160 rfl (lv_at hl 3 rfl) ?_
            obtain ⟨S12, hz13, hf⟩ := z_bv_some hf
            refine z_cvo (z_runV (o := 65) (ci := 10) E hK hP hS (c_X10_chooses hq hz13) cv_X10_chooses tw1273 rfl (by decide) rfl rfl ⟨Nat.le_of_ble_eq_true rfl, Nat.le_of_ble_eq_true rfl⟩ ⟨Nat.le_refl 0, Nat.le_refl 0⟩ hl.1 (Nat.le_of_ble_eq_true rfl) rfl dX10_goesOnOf_161) hS (fun H locs hP hS => ?_)
            refine lv_goto (tgt := 370) hx hb dX10_goesOnOf_164 (by decide) ?_
            exact m_retv hx hb hr hlk hf hP hS dX10_goesOnOf_370
          · replace hf := z_ifn hf hc11
            by_cases hc14 : (S 67 (a1 : Int32).toNatClampNeg) = 64
            · replace hf := z_ifp hf hc14
              refine lv_lookup (off := 242) (tgt := 250) hx hb dX10_goesOnOf_8 (by decide) (by rw [hc14]; decide) (by decide) ?_
              refine lv_aload_n hx hb dX10_goesOnOf_250 rfl (lv_at hl 1 rfl) ?_
              refine lv_aload_n hx hb dX10_goesOnOf_251 rfl (lv_at hl 1 rfl) ?_
              refine z_getR (C := RX10) (T := TX10) (N := 75) (ci := 10) (k := 54) (o := 65) (t := 97) E hK hP iwX10 rfl rfl (by decide) (by decide) rfl rfl rfl tw1006 dX10_goesOnOf_252 ?_
              refine lv_iload_n hx hb dX10_goesOnOf_255 rfl (lv_at hl 3 rfl) ?_
              obtain ⟨hg15, hf⟩ := z_gd_some hf
              refine m_ald (o := 97) (i := a2) E hK hP rfl (by decide) hg15 dX10_goesOnOf_256 ?_
              refine lv_aload_n hx hb dX10_goesOnOf_257 rfl (lv_at hl 1 rfl) ?_
              refine m_getI (C := RX10) (T := TX10) (N := 75) (ci := 10) (k := 60) (o := 65) E hK hP iwX10 rfl rfl (by decide) (by decide) rfl rfl (by decide) tw1012 dX10_goesOnOf_258 ?_
              refine lv_aload_n hx hb dX10_goesOnOf_261 rfl (lv_at hl 1 rfl) ?_
              refine z_getR (C := RX10) (T := TX10) (N := 75) (ci := 10) (k := 53) (o := 65) (t := 96) E hK hP iwX10 rfl rfl (by decide) (by decide) rfl rfl rfl tw1005 dX10_goesOnOf_262 ?_
              refine lv_iload_n hx hb dX10_goesOnOf_265 rfl (lv_at hl 3 rfl) ?_
              obtain ⟨hg16, hf⟩ := z_gd_some hf
              refine m_ald (o := 96) (i := a2) E hK hP rfl (by decide) hg16 dX10_goesOnOf_266 ?_
              obtain ⟨S17, hz18, hf⟩ := z_bv_some hf
              refine z_cvo (z_runV (o := 65) (ci := 10) E hK hP hS (c_X10_calls hq hz18) cv_X10_calls tw1285 rfl (by decide) rfl rfl ⟨Nat.le_of_ble_eq_true rfl, Nat.le_of_ble_eq_true rfl⟩ ⟨Nat.le_refl 0, Nat.le_refl 0⟩ hl.1 (Nat.le_of_ble_eq_true rfl) rfl dX10_goesOnOf_267) hS (fun H locs hP hS => ?_)
              refine lv_goto (tgt := 370) hx hb dX10_goesOnOf_270 (by decide) ?_
              exact m_retv hx hb hr hlk hf hP hS dX10_goesOnOf_370
            · replace hf := z_ifn hf hc14
              by_cases hc19 : (S 67 (a1 : Int32).toNatClampNeg) = 66
              · replace hf := z_ifp hf hc19
                refine lv_lookup (off := 301) (tgt := 309) hx hb dX10_goesOnOf_8 (by decide) (by rw [hc19]; decide) (by decide) ?_
                refine lv_aload_n hx hb dX10_goesOnOf_309 rfl (lv_at hl 1 rfl) ?_
                refine lv_aload_n hx hb dX10_goesOnOf_310 rfl (lv_at hl 1 rfl) ?_
                refine lv_iconst (v := 2) hx hb dX10_goesOnOf_311 (by decide) ?_
                refine lv_iconst (v := 2) hx hb dX10_goesOnOf_312 (by decide) ?_
                refine lv_aload_n hx hb dX10_goesOnOf_313 rfl (lv_at hl 1 rfl) ?_
                refine z_getR (C := RX10) (T := TX10) (N := 75) (ci := 10) (k := 54) (o := 65) (t := 97) E hK hP iwX10 rfl rfl (by decide) (by decide) rfl rfl rfl tw1006 dX10_goesOnOf_314 ?_
                refine lv_iload_n hx hb dX10_goesOnOf_317 rfl (lv_at hl 3 rfl) ?_
                obtain ⟨hg20, hf⟩ := z_gd_some hf
                refine m_ald (o := 97) (i := a2) E hK hP rfl (by decide) hg20 dX10_goesOnOf_318 ?_
                refine lv_aload_n hx hb dX10_goesOnOf_319 rfl (lv_at hl 1 rfl) ?_
                refine m_getI (C := RX10) (T := TX10) (N := 75) (ci := 10) (k := 60) (o := 65) E hK hP iwX10 rfl rfl (by decide) (by decide) rfl rfl (by decide) tw1012 dX10_goesOnOf_320 ?_
                obtain ⟨r22, S21, hz23, hf⟩ := z_bd_some hf
                refine z_ci (z_runV (o := 65) (ci := 10) E hK hP hS (c_X10_valueOf hq hz23) cv_X10_valueOf tw1233 rfl (by decide) rfl rfl ⟨Nat.le_of_ble_eq_true rfl, Nat.le_of_ble_eq_true rfl⟩ ⟨Nat.le_refl 0, Nat.le_refl 0⟩ hl.1 (Nat.le_of_ble_eq_true rfl) rfl dX10_goesOnOf_323) hS (fun H locs hP hS => ?_)
                obtain ⟨S24, hz25, hf⟩ := z_bv_some hf
                refine z_cvo (z_runV (o := 65) (ci := 10) E hK hP hS (c_X10_has hq hz25) cv_X10_has tw1237 rfl (by decide) rfl rfl ⟨Nat.le_of_ble_eq_true rfl, Nat.le_of_ble_eq_true rfl⟩ ⟨Nat.le_refl 0, Nat.le_refl 0⟩ hl.1 (Nat.le_of_ble_eq_true rfl) rfl dX10_goesOnOf_326) hS (fun H locs hP hS => ?_)
                refine lv_goto (tgt := 370) hx hb dX10_goesOnOf_329 (by decide) ?_
                exact m_retv hx hb hr hlk hf hP hS dX10_goesOnOf_370
              · replace hf := z_ifn hf hc19
                by_cases hc26 : (S 67 (a1 : Int32).toNatClampNeg) = 67
                · replace hf := z_ifp hf hc26
                  refine lv_lookup (off := 324) (tgt := 332) hx hb dX10_goesOnOf_8 (by decide) (by rw [hc26]; decide) (by decide) ?_
                  refine lv_aload_n hx hb dX10_goesOnOf_332 rfl (lv_at hl 1 rfl) ?_
                  refine lv_aload_n hx hb dX10_goesOnOf_333 rfl (lv_at hl 1 rfl) ?_
                  refine lv_iconst (v := 2) hx hb dX10_goesOnOf_334 (by decide) ?_
                  refine lv_iconst (v := 3) hx hb dX10_goesOnOf_335 (by decide) ?_
                  refine lv_aload_n hx hb dX10_goesOnOf_336 rfl (lv_at hl 1 rfl) ?_
                  refine z_getR (C := RX10) (T := TX10) (N := 75) (ci := 10) (k := 54) (o := 65) (t := 97) E hK hP iwX10 rfl rfl (by decide) (by decide) rfl rfl rfl tw1006 dX10_goesOnOf_337 ?_
                  refine lv_iload_n hx hb dX10_goesOnOf_340 rfl (lv_at hl 3 rfl) ?_
                  obtain ⟨hg27, hf⟩ := z_gd_some hf
                  refine m_ald (o := 97) (i := a2) E hK hP rfl (by decide) hg27 dX10_goesOnOf_341 ?_
                  refine lv_aload_n hx hb dX10_goesOnOf_342 rfl (lv_at hl 1 rfl) ?_
                  refine m_getI (C := RX10) (T := TX10) (N := 75) (ci := 10) (k := 60) (o := 65) E hK hP iwX10 rfl rfl (by decide) (by decide) rfl rfl (by decide) tw1012 dX10_goesOnOf_343 ?_
                  obtain ⟨r29, S28, hz30, hf⟩ := z_bd_some hf
                  refine z_ci (z_runV (o := 65) (ci := 10) E hK hP hS (c_X10_valueOf hq hz30) cv_X10_valueOf tw1233 rfl (by decide) rfl rfl ⟨Nat.le_of_ble_eq_true rfl, Nat.le_of_ble_eq_true rfl⟩ ⟨Nat.le_refl 0, Nat.le_refl 0⟩ hl.1 (Nat.le_of_ble_eq_true rfl) rfl dX10_goesOnOf_346) hS (fun H locs hP hS => ?_)
                  obtain ⟨S31, hz32, hf⟩ := z_bv_some hf
                  refine z_cvo (z_runV (o := 65) (ci := 10) E hK hP hS (c_X10_has hq hz32) cv_X10_has tw1237 rfl (by decide) rfl rfl ⟨Nat.le_of_ble_eq_true rfl, Nat.le_of_ble_eq_true rfl⟩ ⟨Nat.le_refl 0, Nat.le_refl 0⟩ hl.1 (Nat.le_of_ble_eq_true rfl) rfl dX10_goesOnOf_349) hS (fun H locs hP hS => ?_)
                  refine lv_goto (tgt := 370) hx hb dX10_goesOnOf_352 (by decide) ?_
                  exact m_retv hx hb hr hlk hf hP hS dX10_goesOnOf_370
                · replace hf := z_ifn hf hc26
                  by_cases hc33 : (S 67 (a1 : Int32).toNatClampNeg) = 76
                  · replace hf := z_ifp hf hc33
                    refine lv_lookup (off := 184) (tgt := 192) hx hb dX10_goesOnOf_8 (by decide) (by rw [hc33]; decide) (by decide) ?_
                    refine lv_aload_n hx hb dX10_goesOnOf_192 rfl (lv_at hl 1 rfl) ?_
                    refine lv_aload_n hx hb dX10_goesOnOf_193 rfl (lv_at hl 1 rfl) ?_
                    refine z_getR (C := RX10) (T := TX10) (N := 75) (ci := 10) (k := 3) (o := 65) (t := 69) E hK hP iwX10 rfl rfl (by decide) (by decide) rfl rfl rfl tw955 dX10_goesOnOf_194 ?_
                    refine lv_iload_n hx hb dX10_goesOnOf_197 rfl (lv_at hl 2 rfl) ?_
                    obtain ⟨hg34, hf⟩ := z_gd_some hf
                    refine m_ald (o := 69) (i := a1) E hK hP rfl (by decide) hg34 dX10_goesOnOf_198 ?_
                    refine lv_aload_n hx hb dX10_goesOnOf_199 rfl (lv_at hl 1 rfl) ?_
                    refine lv_aload_n hx hb dX10_goesOnOf_200 rfl (lv_at hl 1 rfl) ?_
                    refine z_getR (C := RX10) (T := TX10) (N := 75) (ci := 10) (k := 5) (o := 65) (t := 71) E hK hP iwX10 rfl rfl (by decide) (by decide) rfl rfl rfl tw957 dX10_goesOnOf_201 ?_
                    refine lv_iload_n hx hb dX10_goesOnOf_204 rfl (lv_at hl 2 rfl) ?_
                    obtain ⟨hg35, hf⟩ := z_gd_some hf
                    refine m_ald (o := 71) (i := a1) E hK hP rfl (by decide) hg35 dX10_goesOnOf_205 ?_
                    refine lv_aload_n hx hb dX10_goesOnOf_206 rfl (lv_at hl 1 rfl) ?_
                    refine m_getI (C := RX10) (T := TX10) (N := 75) (ci := 10) (k := 60) (o := 65) E hK hP iwX10 rfl rfl (by decide) (by decide) rfl rfl (by decide) tw1012 dX10_goesOnOf_207 ?_
                    refine lv_aload_n hx hb dX10_goesOnOf_210 rfl (lv_at hl 1 rfl) ?_
                    refine z_getR (C := RX10) (T := TX10) (N := 75) (ci := 10) (k := 52) (o := 65) (t := 95) E hK hP iwX10 rfl rfl (by decide) (by decide) rfl rfl rfl tw1004 dX10_goesOnOf_211 ?_
                    refine lv_iload_n hx hb dX10_goesOnOf_214 rfl (lv_at hl 3 rfl) ?_
                    obtain ⟨hg36, hf⟩ := z_gd_some hf
                    refine m_ald (o := 95) (i := a2) E hK hP rfl (by decide) hg36 dX10_goesOnOf_215 ?_
                    obtain ⟨r38, S37, hz39, hf⟩ := z_bd_some hf
                    refine z_ci (z_runV (o := 65) (ci := 10) E hK hP hS (c_X10_frameWith hq hz39) cv_X10_frameWith tw1277 rfl (by decide) rfl rfl ⟨Nat.le_of_ble_eq_true rfl, Nat.le_of_ble_eq_true rfl⟩ ⟨Nat.le_refl 0, Nat.le_refl 0⟩ hl.1 (Nat.le_of_ble_eq_true rfl) rfl dX10_goesOnOf_216) hS (fun H locs hP hS => ?_)
                    refine lv_aload_n hx hb dX10_goesOnOf_219 rfl (lv_at hl 1 rfl) ?_
                    refine z_getR (C := RX10) (T := TX10) (N := 75) (ci := 10) (k := 53) (o := 65) (t := 96) E hK hP iwX10 rfl rfl (by decide) (by decide) rfl rfl rfl tw1005 dX10_goesOnOf_220 ?_
                    refine lv_iload_n hx hb dX10_goesOnOf_223 rfl (lv_at hl 3 rfl) ?_
                    obtain ⟨hg40, hf⟩ := z_gd_some hf
                    refine m_ald (o := 96) (i := a2) E hK hP rfl (by decide) hg40 dX10_goesOnOf_224 ?_
                    obtain ⟨S41, hz42, hf⟩ := z_bv_some hf
                    refine z_cvo (z_runV (o := 65) (ci := 10) E hK hP hS (c_X10_makes hq hz42) cv_X10_makes tw1217 rfl (by decide) rfl rfl ⟨Nat.le_of_ble_eq_true rfl, Nat.le_of_ble_eq_true rfl⟩ ⟨Nat.le_refl 0, Nat.le_refl 0⟩ hl.1 (Nat.le_of_ble_eq_true rfl) rfl dX10_goesOnOf_225) hS (fun H locs hP hS => ?_)
                    refine lv_goto (tgt := 370) hx hb dX10_goesOnOf_228 (by decide) ?_
                    exact m_retv hx hb hr hlk hf hP hS dX10_goesOnOf_370
                  · replace hf := z_ifn hf hc33
                    by_cases hc43 : (S 67 (a1 : Int32).toNatClampNeg) = 80
                    · replace hf := z_ifp hf hc43
                      refine lv_lookup (off := 265) (tgt := 273) hx hb dX10_goesOnOf_8 (by decide) (by rw [hc43]; decide) (by decide) ?_
                      refine lv_aload_n hx hb dX10_goesOnOf_273 rfl (lv_at hl 1 rfl) ?_
                      refine lv_aload_n hx hb dX10_goesOnOf_274 rfl (lv_at hl 1 rfl) ?_
                      refine lv_iconst (v := 2) hx hb dX10_goesOnOf_275 (by decide) ?_
                      refine lv_iconst (v := 0) hx hb dX10_goesOnOf_276 (by decide) ?_
                      refine lv_aload_n hx hb dX10_goesOnOf_277 rfl (lv_at hl 1 rfl) ?_
                      refine m_getI (C := RX10) (T := TX10) (N := 75) (ci := 10) (k := 60) (o := 65) E hK hP iwX10 rfl rfl (by decide) (by decide) rfl rfl (by decide) tw1012 dX10_goesOnOf_278 ?_
                      refine lv_iconst (v := 0) hx hb dX10_goesOnOf_281 (by decide) ?_
                      obtain ⟨r45, S44, hz46, hf⟩ := z_bd_some hf
                      refine z_ci (z_runV (o := 65) (ci := 10) E hK hP hS (c_X10_valueOf hq hz46) cv_X10_valueOf tw1233 rfl (by decide) rfl rfl ⟨Nat.le_of_ble_eq_true rfl, Nat.le_of_ble_eq_true rfl⟩ ⟨Nat.le_refl 0, Nat.le_refl 0⟩ hl.1 (Nat.le_of_ble_eq_true rfl) rfl dX10_goesOnOf_282) hS (fun H locs hP hS => ?_)
                      obtain ⟨S47, hz48, hf⟩ := z_bv_some hf
                      refine z_cvo (z_runV (o := 65) (ci := 10) E hK hP hS (c_X10_has hq hz48) cv_X10_has tw1237 rfl (by decide) rfl rfl ⟨Nat.le_of_ble_eq_true rfl, Nat.le_of_ble_eq_true rfl⟩ ⟨Nat.le_refl 0, Nat.le_refl 0⟩ hl.1 (Nat.le_of_ble_eq_true rfl) rfl dX10_goesOnOf_285) hS (fun H locs hP hS => ?_)
                      refine lv_goto (tgt := 370) hx hb dX10_goesOnOf_288 (by decide) ?_
                      exact m_retv hx hb hr hlk hf hP hS dX10_goesOnOf_370
                    · replace hf := z_ifn hf hc43
                      by_cases hc49 : (S 67 (a1 : Int32).toNatClampNeg) = 81
                      · replace hf := z_ifp hf hc49
                        refine lv_lookup (off := 283) (tgt := 291) hx hb dX10_goesOnOf_8 (by decide) (by rw [hc49]; decide) (by decide) ?_
                        refine lv_aload_n hx hb dX10_goesOnOf_291 rfl (lv_at hl 1 rfl) ?_
                        refine lv_aload_n hx hb dX10_goesOnOf_292 rfl (lv_at hl 1 rfl) ?_
                        refine lv_iconst (v := 2) hx hb dX10_goesOnOf_293 (by decide) ?_
                        refine lv_iconst (v := 1) hx hb dX10_goesOnOf_294 (by decide) ?_
                        refine lv_aload_n hx hb dX10_goesOnOf_295 rfl (lv_at hl 1 rfl) ?_
                        refine m_getI (C := RX10) (T := TX10) (N := 75) (ci := 10) (k := 60) (o := 65) E hK hP iwX10 rfl rfl (by decide) (by decide) rfl rfl (by decide) tw1012 dX10_goesOnOf_296 ?_
                        refine lv_iconst (v := 0) hx hb dX10_goesOnOf_299 (by decide) ?_
                        obtain ⟨r51, S50, hz52, hf⟩ := z_bd_some hf
                        refine z_ci (z_runV (o := 65) (ci := 10) E hK hP hS (c_X10_valueOf hq hz52) cv_X10_valueOf tw1233 rfl (by decide) rfl rfl ⟨Nat.le_of_ble_eq_true rfl, Nat.le_of_ble_eq_true rfl⟩ ⟨Nat.le_refl 0, Nat.le_refl 0⟩ hl.1 (Nat.le_of_ble_eq_true rfl) rfl dX10_goesOnOf_300) hS (fun H locs hP hS => ?_)
                        obtain ⟨S53, hz54, hf⟩ := z_bv_some hf
                        refine z_cvo (z_runV (o := 65) (ci := 10) E hK hP hS (c_X10_has hq hz54) cv_X10_has tw1237 rfl (by decide) rfl rfl ⟨Nat.le_of_ble_eq_true rfl, Nat.le_of_ble_eq_true rfl⟩ ⟨Nat.le_refl 0, Nat.le_refl 0⟩ hl.1 (Nat.le_of_ble_eq_true rfl) rfl dX10_goesOnOf_303) hS (fun H locs hP hS => ?_)
                        refine lv_goto (tgt := 370) hx hb dX10_goesOnOf_306 (by decide) ?_
                        exact m_retv hx hb hr hlk hf hP hS dX10_goesOnOf_370
                      · replace hf := z_ifn hf hc49
                        by_cases hc55 : (S 67 (a1 : Int32).toNatClampNeg) = 83
                        · replace hf := z_ifp hf hc55
                          refine lv_lookup (off := 223) (tgt := 231) hx hb dX10_goesOnOf_8 (by decide) (by rw [hc55]; decide) (by decide) ?_
                          refine lv_aload_n hx hb dX10_goesOnOf_231 rfl (lv_at hl 1 rfl) ?_
                          refine lv_aload_n hx hb dX10_goesOnOf_232 rfl (lv_at hl 1 rfl) ?_
                          refine z_getR (C := RX10) (T := TX10) (N := 75) (ci := 10) (k := 5) (o := 65) (t := 71) E hK hP iwX10 rfl rfl (by decide) (by decide) rfl rfl rfl tw957 dX10_goesOnOf_233 ?_
                          refine lv_iload_n hx hb dX10_goesOnOf_236 rfl (lv_at hl 2 rfl) ?_
                          obtain ⟨hg56, hf⟩ := z_gd_some hf
                          refine m_ald (o := 71) (i := a1) E hK hP rfl (by decide) hg56 dX10_goesOnOf_237 ?_
                          refine lv_aload_n hx hb dX10_goesOnOf_238 rfl (lv_at hl 1 rfl) ?_
                          refine z_getR (C := RX10) (T := TX10) (N := 75) (ci := 10) (k := 52) (o := 65) (t := 95) E hK hP iwX10 rfl rfl (by decide) (by decide) rfl rfl rfl tw1004 dX10_goesOnOf_239 ?_
                          refine lv_iload_n hx hb dX10_goesOnOf_242 rfl (lv_at hl 3 rfl) ?_
                          obtain ⟨hg57, hf⟩ := z_gd_some hf
                          refine m_ald (o := 95) (i := a2) E hK hP rfl (by decide) hg57 dX10_goesOnOf_243 ?_
                          obtain ⟨S58, hz59, hf⟩ := z_bv_some hf
                          refine z_cvo (z_runV (o := 65) (ci := 10) E hK hP hS (c_X10_puts hq hz59) cv_X10_puts tw1281 rfl (by decide) rfl rfl ⟨Nat.le_of_ble_eq_true rfl, Nat.le_of_ble_eq_true rfl⟩ ⟨Nat.le_refl 0, Nat.le_refl 0⟩ hl.1 (Nat.le_of_ble_eq_true rfl) rfl dX10_goesOnOf_244) hS (fun H locs hP hS => ?_)
                          refine lv_goto (tgt := 370) hx hb dX10_goesOnOf_247 (by decide) ?_
                          exact m_retv hx hb hr hlk hf hP hS dX10_goesOnOf_370
                        · replace hf := z_ifn hf hc55
                          by_cases hc60 : (S 67 (a1 : Int32).toNatClampNeg) = 88
                          · replace hf := z_ifp hf hc60
                            refine lv_lookup (off := 355) (tgt := 363) hx hb dX10_goesOnOf_8 (by decide) (by rw [hc60]; decide) (by decide) ?_
                            refine lv_aload_n hx hb dX10_goesOnOf_363 rfl (lv_at hl 1 rfl) ?_
                            obtain ⟨S61, hz62, hf⟩ := z_bv_some hf
                            refine z_cvo (z_runV (o := 65) (ci := 10) E hK hP hS (c_X10_throwsNow hq hz62) cv_X10_throwsNow tw1303 rfl (by decide) rfl rfl ⟨Nat.le_of_ble_eq_true rfl, Nat.le_of_ble_eq_true rfl⟩ ⟨Nat.le_refl 0, Nat.le_refl 0⟩ hl.1 (Nat.le_of_ble_eq_true rfl) rfl dX10_goesOnOf_364) hS (fun H locs hP hS => ?_)
                            refine lv_goto (tgt := 370) hx hb dX10_goesOnOf_367 (by decide) ?_
                            exact m_retv hx hb hr hlk hf hP hS dX10_goesOnOf_370
                          · replace hf := z_ifn hf hc60
                            by_cases hc63 : (S 67 (a1 : Int32).toNatClampNeg) = 112
                            · replace hf := z_ifp hf hc63
                              refine lv_lookup (off := 347) (tgt := 355) hx hb dX10_goesOnOf_8 (by decide) (by rw [hc63]; decide) (by decide) ?_
                              exact hJ355 (a1) S _ _ _ hf hP hS (lv_sub hl [1, 2] rfl)
                            · replace hf := z_ifn hf hc63
                              by_cases hc64 : (S 67 (a1 : Int32).toNatClampNeg) = 113
                              · replace hf := z_ifp hf hc64
                                refine lv_lookup (off := 347) (tgt := 355) hx hb dX10_goesOnOf_8 (by decide) (by rw [hc64]; decide) (by decide) ?_
                                exact hJ355 (a1) S _ _ _ hf hP hS (lv_sub hl [1, 2] rfl)
                              · replace hf := z_ifn hf hc64
                                refine lv_lookup (off := (362)) (tgt := 370) hx hb dX10_goesOnOf_8 (by decide) (by refine (lv_osw (k := 42) hc2 (by decide)).trans ?_; refine (lv_osw (k := 43) hc3 (by decide)).trans ?_; refine (lv_osw (k := 44) hc4 (by decide)).trans ?_; refine (lv_osw (k := 45) hc10 (by decide)).trans ?_; refine (lv_osw (k := 63) hc11 (by decide)).trans ?_; refine (lv_osw (k := 64) hc14 (by decide)).trans ?_; refine (lv_osw (k := 66) hc19 (by decide)).trans ?_; refine (lv_osw (k := 67) hc26 (by decide)).trans ?_; refine (lv_osw (k := 76) hc33 (by decide)).trans ?_; refine (lv_osw (k := 80) hc43 (by decide)).trans ?_; refine (lv_osw (k := 81) hc49 (by decide)).trans ?_; refine (lv_osw (k := 83) hc55 (by decide)).trans ?_; refine (lv_osw (k := 88) hc60 (by decide)).trans ?_; refine (lv_osw (k := 112) hc63 (by decide)).trans ?_; refine (lv_osw (k := 113) hc64 (by decide)).trans ?_; rfl) (by decide) ?_
                                exact m_retv hx hb hr hlk hf hP hS dX10_goesOnOf_370
theorem cv_X10_goesOnOf : z_cv yX10_goesOnOf cX10_goesOnOf 4 none RX10 2 := ⟨⟨tw1267, twp50⟩, tw1268, tw11, by decide +kernel⟩
def b_X10_goesOn_81 (N : Nat) (v1 : Int32) (v2 : Int32) (S : St) : Option (St) := z_gd (z_in v2 (z_ln 67)) (z_bd (f_X10_isFirstOfTwo N ((S 67 (v2 : Int32).toNatClampNeg)) (v1) S) fun r15 S14 => if r15 = 0 then (z_bv (f_X10_goesOnOf N (v2) (v1) S14) fun S18 => some S18) else (z_bv (f_X10_keepsFirst N (v2) (v1) S14) fun S20 => some S20))
def f_X10_goesOn (N : Nat) (S : St) : Option (St) := z_lt (z_wr S 65 55 ((S 65 55) - 1)) fun S1 => z_gd (z_in (S1 65 55) (z_ln 93)) (if (S1 93 ((S1 65 55) : Int32).toNatClampNeg) = (-1) then (z_lt (z_wr S1 65 63 ((S1 65 63) - 1)) fun S12 => some S12) else (z_gd (z_in (S1 93 ((S1 65 55) : Int32).toNatClampNeg) (z_ln 67)) (if (S1 67 ((S1 93 ((S1 65 55) : Int32).toNatClampNeg) : Int32).toNatClampNeg) = 64 then (z_gd (z_in (S1 65 55) (z_ln 94)) (if (S1 94 ((S1 65 55) : Int32).toNatClampNeg) = 0 then (z_gd (z_in (S1 65 60) (z_ln 83)) (if (S1 83 ((S1 65 60) : Int32).toNatClampNeg) = 1 then (b_X10_goesOn_81 N ((S1 65 55)) ((S1 93 ((S1 65 55) : Int32).toNatClampNeg)) S1) else (z_bv (f_X10_fails N (2) S1) fun S10 => some S10))) else (b_X10_goesOn_81 N ((S1 65 55)) ((S1 93 ((S1 65 55) : Int32).toNatClampNeg)) S1))) else (b_X10_goesOn_81 N ((S1 65 55)) ((S1 93 ((S1 65 55) : Int32).toNatClampNeg)) S1))))
set_option maxHeartbeats 4000000 in
set_option maxRecDepth 100000 in
theorem c_X10_goesOn {l : Launch} {G : Cx} {X S S' : St} {N : Nat} (hq : z_inj (gq G)) (hf : f_X10_goesOn N S = some S') : z_Ct l yX10_goesOn cX10_goesOn 3 none 4 92 G X S [.ref (gq G (65))] (z_QV G X S') := by
  refine z_start (by decide +kernel) (Nat.le_of_ble_eq_true rfl) ?_
  intro p e s m below meth c ls E hr hlk hK hP hS hl
  have E : CallFix p m c cX10_goesOn 3 s _ lw_good RX10 := E
  have hx := E.1
  have hb := E.2.1
  have hown := E.2.2.2.1
  have hts := E.2.2.2.2
  have hJ81 : ∀ (v1 : Int32) (v2 : Int32) (S : St) (H : Heap) (locs : List Loc) (ls : Array Slot), b_X10_goesOn_81 N v1 v2 S = some S' → z_P G X S H → z_S G s.heap H locs → lv_has ls 3 [(0, .ref (gq G (65))), (1, .int (v1)), (2, .int (v2))] → W p l e (z_rm 4 92) s m ([.ref (gq G (65))] : List Value).toArray below meth c H locs 0 0 (MQ below (z_QV G X S') ([.ref (gq G (65))] : List Value).toArray s 0 0 (z_Aq (gq G))) (F0 m 81 ls []) := by
    intro v1 v2 S H locs ls hf hP hS hl
    unfold b_X10_goesOn_81 at hf
    refine lv_aload_n hx hb dX10_goesOn_81 rfl (lv_at hl 0 rfl) ?_
    refine lv_aload_n hx hb dX10_goesOn_82 rfl (lv_at hl 0 rfl) ?_
    refine z_getR (C := RX10) (T := TX10) (N := 75) (ci := 10) (k := 1) (o := 65) (t := 67) E hK hP iwX10 rfl rfl (by decide) (by decide) rfl rfl rfl tw953 dX10_goesOn_83 ?_
    refine lv_iload_n hx hb dX10_goesOn_86 rfl (lv_at hl 2 rfl) ?_
    obtain ⟨hg13, hf⟩ := z_gd_some hf
    refine m_ald (o := 67) (i := v2) E hK hP rfl (by decide) hg13 dX10_goesOn_87 ?_
    refine lv_iload_n hx hb dX10_goesOn_88 rfl (lv_at hl 1 rfl) ?_
    obtain ⟨r15, S14, hz16, hf⟩ := z_bd_some hf
    refine z_ci (z_runV (o := 65) (ci := 10) E hK hP hS (c_X10_isFirstOfTwo hq hz16) cv_X10_isFirstOfTwo tw1257 rfl (by decide) rfl rfl ⟨Nat.le_of_ble_eq_true rfl, Nat.le_of_ble_eq_true rfl⟩ ⟨Nat.le_refl 0, Nat.le_refl 0⟩ hl.1 (Nat.le_of_ble_eq_true rfl) rfl dX10_goesOn_89) hS (fun H locs hP hS => ?_)
    refine lv_if_eq (tgt := 104) hx hb dX10_goesOn_92 (by decide) (fun hc17 => ?_) (fun hc17 => ?_)
    · replace hf := z_ifp hf hc17
      refine lv_aload_n hx hb dX10_goesOn_104 rfl (lv_at hl 0 rfl) ?_
      refine lv_iload_n hx hb dX10_goesOn_105 rfl (lv_at hl 2 rfl) ?_
      refine lv_iload_n hx hb dX10_goesOn_106 rfl (lv_at hl 1 rfl) ?_
      obtain ⟨S18, hz19, hf⟩ := z_bv_some hf
      refine z_cvo (z_runV (o := 65) (ci := 10) E hK hP hS (c_X10_goesOnOf hq hz19) cv_X10_goesOnOf tw1265 rfl (by decide) rfl rfl ⟨Nat.le_of_ble_eq_true rfl, Nat.le_of_ble_eq_true rfl⟩ ⟨Nat.le_refl 0, Nat.le_refl 0⟩ hl.1 (Nat.le_of_ble_eq_true rfl) rfl dX10_goesOn_107) hS (fun H locs hP hS => ?_)
      exact m_retv hx hb hr hlk hf hP hS dX10_goesOn_110
    · replace hf := z_ifn hf hc17
      refine lv_aload_n hx hb dX10_goesOn_95 rfl (lv_at hl 0 rfl) ?_
      refine lv_iload_n hx hb dX10_goesOn_96 rfl (lv_at hl 2 rfl) ?_
      refine lv_iload_n hx hb dX10_goesOn_97 rfl (lv_at hl 1 rfl) ?_
      obtain ⟨S20, hz21, hf⟩ := z_bv_some hf
      refine z_cvo (z_runV (o := 65) (ci := 10) E hK hP hS (c_X10_keepsFirst hq hz21) cv_X10_keepsFirst tw1261 rfl (by decide) rfl rfl ⟨Nat.le_of_ble_eq_true rfl, Nat.le_of_ble_eq_true rfl⟩ ⟨Nat.le_refl 0, Nat.le_refl 0⟩ hl.1 (Nat.le_of_ble_eq_true rfl) rfl dX10_goesOn_98) hS (fun H locs hP hS => ?_)
      refine lv_goto (tgt := 110) hx hb dX10_goesOn_101 (by decide) ?_
      exact m_retv hx hb hr hlk hf hP hS dX10_goesOn_110
  have hl : lv_has ls 3 [(0, .ref (gq G (65)))] := hl
  unfold f_X10_goesOn at hf
  refine lv_aload_n hx hb dX10_goesOn_0 rfl (lv_at hl 0 rfl) ?_
  refine lv_dup hx hb dX10_goesOn_1 rfl ?_
  refine m_getI (C := RX10) (T := TX10) (N := 75) (ci := 10) (k := 55) (o := 65) E hK hP iwX10 rfl rfl (by decide) (by decide) rfl rfl (by decide) tw1007 dX10_goesOn_2 ?_
  refine lv_iconst (v := 1) hx hb dX10_goesOn_5 (by decide) ?_
  refine lv_isub hx hb dX10_goesOn_6 ?_
  refine m_putI (C := RX10) (T := TX10) (N := 75) (ci := 10) (k := 55) (o := 65) (v := ((S 65 55) - 1)) (ty := .int) E hK hq hP hS iwX10 tyX10 tyX10_ok nmX10 rfl rfl (by decide) (by decide) rfl rfl (by decide) rfl (tyX10_ok 55 (by decide)) ⟨rfl, rfl⟩ tw1007 dX10_goesOn_7 (fun H locs hP hS => ?_)
  obtain ⟨S1, hf, hP⟩ := z_ltM hf hP
  refine lv_aload_n hx hb dX10_goesOn_10 rfl (lv_at hl 0 rfl) ?_
  refine m_getI (C := RX10) (T := TX10) (N := 75) (ci := 10) (k := 55) (o := 65) E hK hP iwX10 rfl rfl (by decide) (by decide) rfl rfl (by decide) tw1007 dX10_goesOn_11 ?_
  refine lv_istore_n (lv' := [(1, .int ((S1 65 55))), (0, .ref (gq G (65)))]) hx hb dX10_goesOn_14 rfl hl (by decide) rfl (fun ls hl => ?_)
  refine lv_aload_n hx hb dX10_goesOn_15 rfl (lv_at hl 1 rfl) ?_
  refine z_getR (C := RX10) (T := TX10) (N := 75) (ci := 10) (k := 50) (o := 65) (t := 93) E hK hP iwX10 rfl rfl (by decide) (by decide) rfl rfl rfl tw1002 dX10_goesOn_16 ?_
  refine lv_iload_n hx hb dX10_goesOn_19 rfl (lv_at hl 0 rfl) ?_
  obtain ⟨hg2, hf⟩ := z_gd_some hf
  refine m_ald (o := 93) (i := (S1 65 55)) E hK hP rfl (by decide) hg2 dX10_goesOn_20 ?_
  refine lv_istore_n (lv' := [(2, .int ((S1 93 ((S1 65 55) : Int32).toNatClampNeg))), (1, .int ((S1 65 55))), (0, .ref (gq G (65)))]) hx hb dX10_goesOn_21 rfl hl (by decide) rfl (fun ls hl => ?_)
  refine lv_iload_n hx hb dX10_goesOn_22 rfl (lv_at hl 0 rfl) ?_
  refine lv_iconst (v := (-1)) hx hb dX10_goesOn_23 (by decide) ?_
  refine lv_icmp_ne (tgt := 40) hx hb dX10_goesOn_24 (by decide) (fun hc3 => ?_) (fun hc3 => ?_)
  · replace hf := z_ifn hf hc3
    refine lv_aload_n hx hb dX10_goesOn_40 rfl (lv_at hl 2 rfl) ?_
    refine z_getR (C := RX10) (T := TX10) (N := 75) (ci := 10) (k := 1) (o := 65) (t := 67) E hK hP iwX10 rfl rfl (by decide) (by decide) rfl rfl rfl tw953 dX10_goesOn_41 ?_
    refine lv_iload_n hx hb dX10_goesOn_44 rfl (lv_at hl 0 rfl) ?_
    obtain ⟨hg4, hf⟩ := z_gd_some hf
    refine m_ald (o := 67) (i := (S1 93 ((S1 65 55) : Int32).toNatClampNeg)) E hK hP rfl (by decide) hg4 dX10_goesOn_45 ?_
    refine lv_bipush (v := 64) hx hb dX10_goesOn_46 (by decide) ?_
    refine lv_icmp_ne (tgt := 81) hx hb dX10_goesOn_48 (by decide) (fun hc5 => ?_) (fun hc5 => ?_)
    · replace hf := z_ifn hf hc5
      exact hJ81 ((S1 65 55)) ((S1 93 ((S1 65 55) : Int32).toNatClampNeg)) S1 _ _ _ hf hP hS (lv_sub hl [2, 1, 0] rfl)
    · replace hf := z_ifp hf hc5
      refine lv_aload_n hx hb dX10_goesOn_51 rfl (lv_at hl 2 rfl) ?_
      refine z_getR (C := RX10) (T := TX10) (N := 75) (ci := 10) (k := 51) (o := 65) (t := 94) E hK hP iwX10 rfl rfl (by decide) (by decide) rfl rfl rfl tw1003 dX10_goesOn_52 ?_
      refine lv_iload_n hx hb dX10_goesOn_55 rfl (lv_at hl 1 rfl) ?_
      obtain ⟨hg6, hf⟩ := z_gd_some hf
      refine m_ald (o := 94) (i := (S1 65 55)) E hK hP rfl (by decide) hg6 dX10_goesOn_56 ?_
      refine lv_if_ne (tgt := 81) hx hb dX10_goesOn_57 (by decide) (fun hc7 => ?_) (fun hc7 => ?_)
      · replace hf := z_ifn hf hc7
        exact hJ81 ((S1 65 55)) ((S1 93 ((S1 65 55) : Int32).toNatClampNeg)) S1 _ _ _ hf hP hS (lv_sub hl [2, 1, 0] rfl)
      · replace hf := z_ifp hf hc7
        refine lv_aload_n hx hb dX10_goesOn_60 rfl (lv_at hl 2 rfl) ?_
        refine z_getR (C := RX10) (T := TX10) (N := 75) (ci := 10) (k := 36) (o := 65) (t := 83) E hK hP iwX10 rfl rfl (by decide) (by decide) rfl rfl rfl tw988 dX10_goesOn_61 ?_
        refine lv_aload_n hx hb dX10_goesOn_64 rfl (lv_at hl 2 rfl) ?_
        refine m_getI (C := RX10) (T := TX10) (N := 75) (ci := 10) (k := 60) (o := 65) E hK hP iwX10 rfl rfl (by decide) (by decide) rfl rfl (by decide) tw1012 dX10_goesOn_65 ?_
        obtain ⟨hg8, hf⟩ := z_gd_some hf
        refine m_ald (o := 83) (i := (S1 65 60)) E hK hP rfl (by decide) hg8 dX10_goesOn_68 ?_
        refine lv_iconst (v := 1) hx hb dX10_goesOn_69 (by decide) ?_
        refine lv_icmp_eq (tgt := 81) hx hb dX10_goesOn_70 (by decide) (fun hc9 => ?_) (fun hc9 => ?_)
        · replace hf := z_ifp hf hc9
          exact hJ81 ((S1 65 55)) ((S1 93 ((S1 65 55) : Int32).toNatClampNeg)) S1 _ _ _ hf hP hS (lv_sub hl [2, 1, 0] rfl)
        · replace hf := z_ifn hf hc9
          refine lv_aload_n hx hb dX10_goesOn_73 rfl (lv_at hl 2 rfl) ?_
          refine lv_iconst (v := 2) hx hb dX10_goesOn_74 (by decide) ?_
          obtain ⟨S10, hz11, hf⟩ := z_bv_some hf
          refine z_cvo (z_runV (o := 65) (ci := 10) E hK hP hS (c_X10_fails hq hz11) cv_X10_fails tw1225 rfl (by decide) rfl rfl ⟨Nat.le_of_ble_eq_true rfl, Nat.le_of_ble_eq_true rfl⟩ ⟨Nat.le_refl 0, Nat.le_refl 0⟩ hl.1 (Nat.le_of_ble_eq_true rfl) rfl dX10_goesOn_75) hS (fun H locs hP hS => ?_)
          refine lv_goto (tgt := 110) hx hb dX10_goesOn_78 (by decide) ?_
          exact m_retv hx hb hr hlk hf hP hS dX10_goesOn_110
  · replace hf := z_ifp hf hc3
    refine lv_aload_n hx hb dX10_goesOn_27 rfl (lv_at hl 2 rfl) ?_
    refine lv_dup hx hb dX10_goesOn_28 rfl ?_
    refine m_getI (C := RX10) (T := TX10) (N := 75) (ci := 10) (k := 63) (o := 65) E hK hP iwX10 rfl rfl (by decide) (by decide) rfl rfl (by decide) tw1015 dX10_goesOn_29 ?_
    refine lv_iconst (v := 1) hx hb dX10_goesOn_32 (by decide) ?_
    refine lv_isub hx hb dX10_goesOn_33 ?_
    refine m_putI (C := RX10) (T := TX10) (N := 75) (ci := 10) (k := 63) (o := 65) (v := ((S1 65 63) - 1)) (ty := .int) E hK hq hP hS iwX10 tyX10 tyX10_ok nmX10 rfl rfl (by decide) (by decide) rfl rfl (by decide) rfl (tyX10_ok 63 (by decide)) ⟨rfl, rfl⟩ tw1015 dX10_goesOn_34 (fun H locs hP hS => ?_)
    obtain ⟨S12, hf, hP⟩ := z_ltM hf hP
    refine lv_goto (tgt := 110) hx hb dX10_goesOn_37 (by decide) ?_
    exact m_retv hx hb hr hlk hf hP hS dX10_goesOn_110
theorem cv_X10_goesOn : z_cv yX10_goesOn cX10_goesOn 3 none RX10 0 := ⟨⟨tw1255, twp47⟩, tw1256, tw11, by decide +kernel⟩
def b_X10_falls_71 (N : Nat) (v1 : Int32) (v2 : Int32) (S : St) : Option (St) := z_gd (z_in v1 (z_ln 67)) (if (S 67 (v1 : Int32).toNatClampNeg) = 89 then (if v2 = 5 then (some S) else (if v2 = 6 then (some S) else (z_gd (z_in v1 (z_ln 69)) (z_gd (z_in v1 (z_ln 71)) (z_bd (f_X10_valueOf N (0) (v2) (0) (0) S) fun r19 S18 => z_gd (z_in (S18 65 55) (z_ln 95)) (z_bd (f_X10_frameWith N ((S 71 (v1 : Int32).toNatClampNeg)) (r19) ((S18 95 ((S18 65 55) : Int32).toNatClampNeg)) S18) fun r23 S22 => z_gd (z_in (S22 65 55) (z_ln 96)) (z_bv (f_X10_makes N ((S 69 (v1 : Int32).toNatClampNeg)) (r23) ((S22 96 ((S22 65 55) : Int32).toNatClampNeg)) S22) fun S26 => some S26))))))) else (some S))
def f_X10_falls (N : Nat) (S : St) : Option (St) := z_lt (z_wr S 65 55 ((S 65 55) - 1)) fun S1 => z_gd (z_in (S1 65 55) (z_ln 93)) (if (S1 93 ((S1 65 55) : Int32).toNatClampNeg) = (-1) then (z_lt (z_wr S1 65 63 ((S1 65 63) - 1)) fun S11 => some S11) else (z_gd (z_in (S1 65 61) (z_ln 91)) (z_gd (z_in (S1 93 ((S1 65 55) : Int32).toNatClampNeg) (z_ln 67)) (if (S1 67 ((S1 93 ((S1 65 55) : Int32).toNatClampNeg) : Int32).toNatClampNeg) = 87 then (z_bd (f_X10_faultOf N (7) ((S1 65 61)) S1) fun r8 S7 => z_lt (z_wr S7 65 61 r8) fun S10 => b_X10_falls_71 N ((S1 93 ((S1 65 55) : Int32).toNatClampNeg)) ((S1 91 ((S1 65 61) : Int32).toNatClampNeg)) S10) else (b_X10_falls_71 N ((S1 93 ((S1 65 55) : Int32).toNatClampNeg)) ((S1 91 ((S1 65 61) : Int32).toNatClampNeg)) S1)))))
set_option maxHeartbeats 4000000 in
set_option maxRecDepth 100000 in
theorem c_X10_falls {l : Launch} {G : Cx} {X S S' : St} {N : Nat} (hq : z_inj (gq G)) (hf : f_X10_falls N S = some S') : z_Ct l yX10_falls cX10_falls 3 none 1 24 G X S [.ref (gq G (65))] (z_QV G X S') := by
  refine z_start (by decide +kernel) (Nat.le_of_ble_eq_true rfl) ?_
  intro p e s m below meth c ls E hr hlk hK hP hS hl
  have E : CallFix p m c cX10_falls 3 s _ lw_good RX10 := E
  have hx := E.1
  have hb := E.2.1
  have hown := E.2.2.2.1
  have hts := E.2.2.2.2
  have hJ71 : ∀ (v1 : Int32) (v2 : Int32) (S : St) (H : Heap) (locs : List Loc) (ls : Array Slot), b_X10_falls_71 N v1 v2 S = some S' → z_P G X S H → z_S G s.heap H locs → lv_has ls 3 [(0, .ref (gq G (65))), (1, .int (v1)), (2, .int (v2))] → W p l e (z_rm 1 24) s m ([.ref (gq G (65))] : List Value).toArray below meth c H locs 0 0 (MQ below (z_QV G X S') ([.ref (gq G (65))] : List Value).toArray s 0 0 (z_Aq (gq G))) (F0 m 71 ls []) := by
    intro v1 v2 S H locs ls hf hP hS hl
    unfold b_X10_falls_71 at hf
    refine lv_aload_n hx hb dX10_falls_71 rfl (lv_at hl 0 rfl) ?_
    refine z_getR (C := RX10) (T := TX10) (N := 75) (ci := 10) (k := 1) (o := 65) (t := 67) E hK hP iwX10 rfl rfl (by decide) (by decide) rfl rfl rfl tw953 dX10_falls_72 ?_
    refine lv_iload_n hx hb dX10_falls_75 rfl (lv_at hl 1 rfl) ?_
    obtain ⟨hg12, hf⟩ := z_gd_some hf
    refine m_ald (o := 67) (i := v1) E hK hP rfl (by decide) hg12 dX10_falls_76 ?_
    refine lv_bipush (v := 89) hx hb dX10_falls_77 (by decide) ?_
    refine lv_icmp_ne (tgt := 93) hx hb dX10_falls_79 (by decide) (fun hc13 => ?_) (fun hc13 => ?_)
    · replace hf := z_ifn hf hc13
      exact m_retv hx hb hr hlk hf hP hS dX10_falls_93
    · replace hf := z_ifp hf hc13
      refine lv_iload_n hx hb dX10_falls_82 rfl (lv_at hl 2 rfl) ?_
      refine lv_iconst (v := 5) hx hb dX10_falls_83 (by decide) ?_
      refine lv_icmp_eq (tgt := 93) hx hb dX10_falls_84 (by decide) (fun hc14 => ?_) (fun hc14 => ?_)
      · replace hf := z_ifp hf hc14
        exact m_retv hx hb hr hlk hf hP hS dX10_falls_93
      · replace hf := z_ifn hf hc14
        refine lv_iload_n hx hb dX10_falls_87 rfl (lv_at hl 2 rfl) ?_
        refine lv_bipush (v := 6) hx hb dX10_falls_88 (by decide) ?_
        refine lv_icmp_ne (tgt := 94) hx hb dX10_falls_90 (by decide) (fun hc15 => ?_) (fun hc15 => ?_)
        · replace hf := z_ifn hf hc15
          refine lv_aload_n hx hb dX10_falls_94 rfl (lv_at hl 0 rfl) ?_
          refine lv_aload_n hx hb dX10_falls_95 rfl (lv_at hl 0 rfl) ?_
          refine z_getR (C := RX10) (T := TX10) (N := 75) (ci := 10) (k := 3) (o := 65) (t := 69) E hK hP iwX10 rfl rfl (by decide) (by decide) rfl rfl rfl tw955 dX10_falls_96 ?_
          refine lv_iload_n hx hb dX10_falls_99 rfl (lv_at hl 1 rfl) ?_
          obtain ⟨hg16, hf⟩ := z_gd_some hf
          refine m_ald (o := 69) (i := v1) E hK hP rfl (by decide) hg16 dX10_falls_100 ?_
          refine lv_aload_n hx hb dX10_falls_101 rfl (lv_at hl 0 rfl) ?_
          refine lv_aload_n hx hb dX10_falls_102 rfl (lv_at hl 0 rfl) ?_
          refine z_getR (C := RX10) (T := TX10) (N := 75) (ci := 10) (k := 5) (o := 65) (t := 71) E hK hP iwX10 rfl rfl (by decide) (by decide) rfl rfl rfl tw957 dX10_falls_103 ?_
          refine lv_iload_n hx hb dX10_falls_106 rfl (lv_at hl 1 rfl) ?_
          obtain ⟨hg17, hf⟩ := z_gd_some hf
          refine m_ald (o := 71) (i := v1) E hK hP rfl (by decide) hg17 dX10_falls_107 ?_
          refine lv_aload_n hx hb dX10_falls_108 rfl (lv_at hl 0 rfl) ?_
          refine lv_iconst (v := 0) hx hb dX10_falls_109 (by decide) ?_
          refine lv_iload_n hx hb dX10_falls_110 rfl (lv_at hl 2 rfl) ?_
          refine lv_iconst (v := 0) hx hb dX10_falls_111 (by decide) ?_
          refine lv_iconst (v := 0) hx hb dX10_falls_112 (by decide) ?_
          obtain ⟨r19, S18, hz20, hf⟩ := z_bd_some hf
          refine z_ci (z_runV (o := 65) (ci := 10) E hK hP hS (c_X10_valueOf hq hz20) cv_X10_valueOf tw1233 rfl (by decide) rfl rfl ⟨Nat.le_of_ble_eq_true rfl, Nat.le_of_ble_eq_true rfl⟩ ⟨Nat.le_refl 0, Nat.le_refl 0⟩ hl.1 (Nat.le_of_ble_eq_true rfl) rfl dX10_falls_113) hS (fun H locs hP hS => ?_)
          refine lv_aload_n hx hb dX10_falls_116 rfl (lv_at hl 0 rfl) ?_
          refine z_getR (C := RX10) (T := TX10) (N := 75) (ci := 10) (k := 52) (o := 65) (t := 95) E hK hP iwX10 rfl rfl (by decide) (by decide) rfl rfl rfl tw1004 dX10_falls_117 ?_
          refine lv_aload_n hx hb dX10_falls_120 rfl (lv_at hl 0 rfl) ?_
          refine m_getI (C := RX10) (T := TX10) (N := 75) (ci := 10) (k := 55) (o := 65) E hK hP iwX10 rfl rfl (by decide) (by decide) rfl rfl (by decide) tw1007 dX10_falls_121 ?_
          obtain ⟨hg21, hf⟩ := z_gd_some hf
          refine m_ald (o := 95) (i := (S18 65 55)) E hK hP rfl (by decide) hg21 dX10_falls_124 ?_
          obtain ⟨r23, S22, hz24, hf⟩ := z_bd_some hf
          refine z_ci (z_runV (o := 65) (ci := 10) E hK hP hS (c_X10_frameWith hq hz24) cv_X10_frameWith tw1277 rfl (by decide) rfl rfl ⟨Nat.le_of_ble_eq_true rfl, Nat.le_of_ble_eq_true rfl⟩ ⟨Nat.le_refl 0, Nat.le_refl 0⟩ hl.1 (Nat.le_of_ble_eq_true rfl) rfl dX10_falls_125) hS (fun H locs hP hS => ?_)
          refine lv_aload_n hx hb dX10_falls_128 rfl (lv_at hl 0 rfl) ?_
          refine z_getR (C := RX10) (T := TX10) (N := 75) (ci := 10) (k := 53) (o := 65) (t := 96) E hK hP iwX10 rfl rfl (by decide) (by decide) rfl rfl rfl tw1005 dX10_falls_129 ?_
          refine lv_aload_n hx hb dX10_falls_132 rfl (lv_at hl 0 rfl) ?_
          refine m_getI (C := RX10) (T := TX10) (N := 75) (ci := 10) (k := 55) (o := 65) E hK hP iwX10 rfl rfl (by decide) (by decide) rfl rfl (by decide) tw1007 dX10_falls_133 ?_
          obtain ⟨hg25, hf⟩ := z_gd_some hf
          refine m_ald (o := 96) (i := (S22 65 55)) E hK hP rfl (by decide) hg25 dX10_falls_136 ?_
          obtain ⟨S26, hz27, hf⟩ := z_bv_some hf
          refine z_cvo (z_runV (o := 65) (ci := 10) E hK hP hS (c_X10_makes hq hz27) cv_X10_makes tw1217 rfl (by decide) rfl rfl ⟨Nat.le_of_ble_eq_true rfl, Nat.le_of_ble_eq_true rfl⟩ ⟨Nat.le_refl 0, Nat.le_refl 0⟩ hl.1 (Nat.le_of_ble_eq_true rfl) rfl dX10_falls_137) hS (fun H locs hP hS => ?_)
          exact m_retv hx hb hr hlk hf hP hS dX10_falls_140
        · replace hf := z_ifp hf hc15
          exact m_retv hx hb hr hlk hf hP hS dX10_falls_93
  have hl : lv_has ls 3 [(0, .ref (gq G (65)))] := hl
  unfold f_X10_falls at hf
  refine lv_aload_n hx hb dX10_falls_0 rfl (lv_at hl 0 rfl) ?_
  refine lv_dup hx hb dX10_falls_1 rfl ?_
  refine m_getI (C := RX10) (T := TX10) (N := 75) (ci := 10) (k := 55) (o := 65) E hK hP iwX10 rfl rfl (by decide) (by decide) rfl rfl (by decide) tw1007 dX10_falls_2 ?_
  refine lv_iconst (v := 1) hx hb dX10_falls_5 (by decide) ?_
  refine lv_isub hx hb dX10_falls_6 ?_
  refine m_putI (C := RX10) (T := TX10) (N := 75) (ci := 10) (k := 55) (o := 65) (v := ((S 65 55) - 1)) (ty := .int) E hK hq hP hS iwX10 tyX10 tyX10_ok nmX10 rfl rfl (by decide) (by decide) rfl rfl (by decide) rfl (tyX10_ok 55 (by decide)) ⟨rfl, rfl⟩ tw1007 dX10_falls_7 (fun H locs hP hS => ?_)
  obtain ⟨S1, hf, hP⟩ := z_ltM hf hP
  refine lv_aload_n hx hb dX10_falls_10 rfl (lv_at hl 0 rfl) ?_
  refine z_getR (C := RX10) (T := TX10) (N := 75) (ci := 10) (k := 50) (o := 65) (t := 93) E hK hP iwX10 rfl rfl (by decide) (by decide) rfl rfl rfl tw1002 dX10_falls_11 ?_
  refine lv_aload_n hx hb dX10_falls_14 rfl (lv_at hl 0 rfl) ?_
  refine m_getI (C := RX10) (T := TX10) (N := 75) (ci := 10) (k := 55) (o := 65) E hK hP iwX10 rfl rfl (by decide) (by decide) rfl rfl (by decide) tw1007 dX10_falls_15 ?_
  obtain ⟨hg2, hf⟩ := z_gd_some hf
  refine m_ald (o := 93) (i := (S1 65 55)) E hK hP rfl (by decide) hg2 dX10_falls_18 ?_
  refine lv_istore_n (lv' := [(1, .int ((S1 93 ((S1 65 55) : Int32).toNatClampNeg))), (0, .ref (gq G (65)))]) hx hb dX10_falls_19 rfl hl (by decide) rfl (fun ls hl => ?_)
  refine lv_iload_n hx hb dX10_falls_20 rfl (lv_at hl 0 rfl) ?_
  refine lv_iconst (v := (-1)) hx hb dX10_falls_21 (by decide) ?_
  refine lv_icmp_ne (tgt := 36) hx hb dX10_falls_22 (by decide) (fun hc3 => ?_) (fun hc3 => ?_)
  · replace hf := z_ifn hf hc3
    refine lv_aload_n hx hb dX10_falls_36 rfl (lv_at hl 1 rfl) ?_
    refine z_getR (C := RX10) (T := TX10) (N := 75) (ci := 10) (k := 44) (o := 65) (t := 91) E hK hP iwX10 rfl rfl (by decide) (by decide) rfl rfl rfl tw996 dX10_falls_37 ?_
    refine lv_aload_n hx hb dX10_falls_40 rfl (lv_at hl 1 rfl) ?_
    refine m_getI (C := RX10) (T := TX10) (N := 75) (ci := 10) (k := 61) (o := 65) E hK hP iwX10 rfl rfl (by decide) (by decide) rfl rfl (by decide) tw1013 dX10_falls_41 ?_
    obtain ⟨hg4, hf⟩ := z_gd_some hf
    refine m_ald (o := 91) (i := (S1 65 61)) E hK hP rfl (by decide) hg4 dX10_falls_44 ?_
    refine lv_istore_n (lv' := [(2, .int ((S1 91 ((S1 65 61) : Int32).toNatClampNeg))), (1, .int ((S1 93 ((S1 65 55) : Int32).toNatClampNeg))), (0, .ref (gq G (65)))]) hx hb dX10_falls_45 rfl hl (by decide) rfl (fun ls hl => ?_)
    refine lv_aload_n hx hb dX10_falls_46 rfl (lv_at hl 2 rfl) ?_
    refine z_getR (C := RX10) (T := TX10) (N := 75) (ci := 10) (k := 1) (o := 65) (t := 67) E hK hP iwX10 rfl rfl (by decide) (by decide) rfl rfl rfl tw953 dX10_falls_47 ?_
    refine lv_iload_n hx hb dX10_falls_50 rfl (lv_at hl 1 rfl) ?_
    obtain ⟨hg5, hf⟩ := z_gd_some hf
    refine m_ald (o := 67) (i := (S1 93 ((S1 65 55) : Int32).toNatClampNeg)) E hK hP rfl (by decide) hg5 dX10_falls_51 ?_
    refine lv_bipush (v := 87) hx hb dX10_falls_52 (by decide) ?_
    refine lv_icmp_ne (tgt := 71) hx hb dX10_falls_54 (by decide) (fun hc6 => ?_) (fun hc6 => ?_)
    · replace hf := z_ifn hf hc6
      exact hJ71 ((S1 93 ((S1 65 55) : Int32).toNatClampNeg)) ((S1 91 ((S1 65 61) : Int32).toNatClampNeg)) S1 _ _ _ hf hP hS (lv_sub hl [2, 1, 0] rfl)
    · replace hf := z_ifp hf hc6
      refine lv_aload_n hx hb dX10_falls_57 rfl (lv_at hl 2 rfl) ?_
      refine lv_aload_n hx hb dX10_falls_58 rfl (lv_at hl 2 rfl) ?_
      refine lv_bipush (v := 7) hx hb dX10_falls_59 (by decide) ?_
      refine lv_aload_n hx hb dX10_falls_61 rfl (lv_at hl 2 rfl) ?_
      refine m_getI (C := RX10) (T := TX10) (N := 75) (ci := 10) (k := 61) (o := 65) E hK hP iwX10 rfl rfl (by decide) (by decide) rfl rfl (by decide) tw1013 dX10_falls_62 ?_
      obtain ⟨r8, S7, hz9, hf⟩ := z_bd_some hf
      refine z_ci (z_runV (o := 65) (ci := 10) E hK hP hS (c_X10_faultOf hq hz9) cv_X10_faultOf tw1229 rfl (by decide) rfl rfl ⟨Nat.le_of_ble_eq_true rfl, Nat.le_of_ble_eq_true rfl⟩ ⟨Nat.le_refl 0, Nat.le_refl 0⟩ hl.1 (Nat.le_of_ble_eq_true rfl) rfl dX10_falls_65) hS (fun H locs hP hS => ?_)
      refine m_putI (C := RX10) (T := TX10) (N := 75) (ci := 10) (k := 61) (o := 65) (v := r8) (ty := .int) E hK hq hP hS iwX10 tyX10 tyX10_ok nmX10 rfl rfl (by decide) (by decide) rfl rfl (by decide) rfl (tyX10_ok 61 (by decide)) ⟨rfl, rfl⟩ tw1013 dX10_falls_68 (fun H locs hP hS => ?_)
      obtain ⟨S10, hf, hP⟩ := z_ltM hf hP
      exact hJ71 ((S1 93 ((S1 65 55) : Int32).toNatClampNeg)) ((S1 91 ((S1 65 61) : Int32).toNatClampNeg)) S10 _ _ _ hf hP hS (lv_sub hl [2, 1, 0] rfl)
  · replace hf := z_ifp hf hc3
    refine lv_aload_n hx hb dX10_falls_25 rfl (lv_at hl 1 rfl) ?_
    refine lv_dup hx hb dX10_falls_26 rfl ?_
    refine m_getI (C := RX10) (T := TX10) (N := 75) (ci := 10) (k := 63) (o := 65) E hK hP iwX10 rfl rfl (by decide) (by decide) rfl rfl (by decide) tw1015 dX10_falls_27 ?_
    refine lv_iconst (v := 1) hx hb dX10_falls_30 (by decide) ?_
    refine lv_isub hx hb dX10_falls_31 ?_
    refine m_putI (C := RX10) (T := TX10) (N := 75) (ci := 10) (k := 63) (o := 65) (v := ((S1 65 63) - 1)) (ty := .int) E hK hq hP hS iwX10 tyX10 tyX10_ok nmX10 rfl rfl (by decide) (by decide) rfl rfl (by decide) rfl (tyX10_ok 63 (by decide)) ⟨rfl, rfl⟩ tw1015 dX10_falls_32 (fun H locs hP hS => ?_)
    obtain ⟨S11, hf, hP⟩ := z_ltM hf hP
    exact m_retv hx hb hr hlk hf hP hS dX10_falls_35
theorem cv_X10_falls : z_cv yX10_falls cX10_falls 3 none RX10 0 := ⟨⟨tw1309, twp59⟩, tw1310, tw11, by decide +kernel⟩
