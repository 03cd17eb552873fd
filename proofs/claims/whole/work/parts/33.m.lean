def b_X10_goes_69 (N : Nat) (k55 : St → Option (St)) (S : St) : Option (St) := if (S 65 56) = 0 then (z_bv (f_X10_begins N S) fun S20 => k55 S20) else (if (S 65 56) = 1 then (z_bv (f_X10_goesOn N S) fun S18 => k55 S18) else (z_bv (f_X10_falls N S) fun S16 => k55 S16))
def b_X10_goes_55 (N : Nat) (k55 : St → Option (St)) (S : St) : Option (St) := if (S 65 56) = 0 then (b_X10_goes_69 N k55 S) else (if (S 65 55) ≤ 0 then (some S) else (b_X10_goes_69 N k55 S))
def f_X10_goes_55 (N : Nat) : Nat → St → Option (St)
  | 0 => fun _ => none
  | n + 1 => b_X10_goes_55 N (f_X10_goes_55 N n)
def f_X10_goes (N : Nat) (S : St) : Option (St) := z_lt (z_wr S 65 46 0) fun S1 => z_lt (z_wr S1 65 47 0) fun S2 => z_lt (z_wr S2 65 48 1) fun S3 => z_lt (z_wr S3 65 49 0) fun S4 => z_lt (z_wr S4 65 55 0) fun S5 => z_lt (z_wr S5 65 62 0) fun S6 => z_lt (z_wr S6 65 63 0) fun S7 => z_lt (z_wr S7 65 64 0) fun S8 => z_lt (z_wr S8 65 65 0) fun S9 => z_bv (f_X10_makes N ((S9 65 8)) (0) (0) S9) fun S10 => f_X10_goes_55 N N S10
set_option maxHeartbeats 4000000 in
set_option maxRecDepth 100000 in
theorem c_X10_goes {l : Launch} {G : Cx} {X S S' : St} {N : Nat} (hq : z_inj (gq G)) (hf : f_X10_goes N S = some S') : z_Ct l yX10_goes cX10_goes 1 none 5 114 G X S [.ref (gq G (65))] (z_QV G X S') := by
  refine z_start (by decide +kernel) (Nat.le_of_ble_eq_true rfl) ?_
  intro p e s m below meth c ls E hr hlk hK hP hS hl
  have E : CallFix p m c cX10_goes 1 s _ lw_good RX10 := E
  have hx := E.1
  have hb := E.2.1
  have hown := E.2.2.2.1
  have hts := E.2.2.2.2
  have hJ69 : ∀ (k55 : St → Option (St)) (hk55 : ∀ (S : St) (H : Heap) (locs : List Loc) (ls : Array Slot), k55 S = some S' → z_P G X S H → z_S G s.heap H locs → lv_has ls 1 [(0, .ref (gq G (65)))] → W p l e (z_rm 5 114) s m ([.ref (gq G (65))] : List Value).toArray below meth c H locs 0 0 (MQ below (z_QV G X S') ([.ref (gq G (65))] : List Value).toArray s 0 0 (z_Aq (gq G))) (F0 m 55 ls [])), ∀ (S : St) (H : Heap) (locs : List Loc) (ls : Array Slot), b_X10_goes_69 N k55 S = some S' → z_P G X S H → z_S G s.heap H locs → lv_has ls 1 [(0, .ref (gq G (65)))] → W p l e (z_rm 5 114) s m ([.ref (gq G (65))] : List Value).toArray below meth c H locs 0 0 (MQ below (z_QV G X S') ([.ref (gq G (65))] : List Value).toArray s 0 0 (z_Aq (gq G))) (F0 m 69 ls []) := by
    intro k55 hk55 S H locs ls hf hP hS hl
    unfold b_X10_goes_69 at hf
    refine lv_aload_n hx hb dX10_goes_69 rfl (lv_at hl 0 rfl) ?_
    refine m_getI (C := RX10) (T := TX10) (N := 75) (ci := 10) (k := 56) (o := 65) E hK hP iwX10 rfl rfl (by decide) (by decide) rfl rfl (by decide) tw1008 dX10_goes_70 ?_
    refine lv_if_ne (tgt := 83) hx hb dX10_goes_73 (by decide) (fun hc14 => ?_) (fun hc14 => ?_)
    · replace hf := z_ifn hf hc14
      refine lv_aload_n hx hb dX10_goes_83 rfl (lv_at hl 0 rfl) ?_
      refine m_getI (C := RX10) (T := TX10) (N := 75) (ci := 10) (k := 56) (o := 65) E hK hP iwX10 rfl rfl (by decide) (by decide) rfl rfl (by decide) tw1008 dX10_goes_84 ?_
      refine lv_iconst (v := 1) hx hb dX10_goes_87 (by decide) ?_
      refine lv_icmp_ne (tgt := 98) hx hb dX10_goes_88 (by decide) (fun hc15 => ?_) (fun hc15 => ?_)
      · replace hf := z_ifn hf hc15
        refine lv_aload_n hx hb dX10_goes_98 rfl (lv_at hl 0 rfl) ?_
        obtain ⟨S16, hz17, hf⟩ := z_bv_some hf
        refine z_cvo (z_runV (o := 65) (ci := 10) E hK hP hS (c_X10_falls hq hz17) cv_X10_falls tw1307 rfl (by decide) rfl rfl ⟨Nat.le_of_ble_eq_true rfl, Nat.le_of_ble_eq_true rfl⟩ ⟨Nat.le_refl 0, Nat.le_refl 0⟩ hl.1 (Nat.le_of_ble_eq_true rfl) rfl dX10_goes_99) hS (fun H locs hP hS => ?_)
        refine lv_goto (tgt := 55) hx hb dX10_goes_102 (by decide) ?_
        exact hk55 S16 _ _ _ hf hP hS (lv_sub hl [0] rfl)
      · replace hf := z_ifp hf hc15
        refine lv_aload_n hx hb dX10_goes_91 rfl (lv_at hl 0 rfl) ?_
        obtain ⟨S18, hz19, hf⟩ := z_bv_some hf
        refine z_cvo (z_runV (o := 65) (ci := 10) E hK hP hS (c_X10_goesOn hq hz19) cv_X10_goesOn tw1253 rfl (by decide) rfl rfl ⟨Nat.le_of_ble_eq_true rfl, Nat.le_of_ble_eq_true rfl⟩ ⟨Nat.le_refl 0, Nat.le_refl 0⟩ hl.1 (Nat.le_of_ble_eq_true rfl) rfl dX10_goes_92) hS (fun H locs hP hS => ?_)
        refine lv_goto (tgt := 55) hx hb dX10_goes_95 (by decide) ?_
        exact hk55 S18 _ _ _ hf hP hS (lv_sub hl [0] rfl)
    · replace hf := z_ifp hf hc14
      refine lv_aload_n hx hb dX10_goes_76 rfl (lv_at hl 0 rfl) ?_
      obtain ⟨S20, hz21, hf⟩ := z_bv_some hf
      refine z_cvo (z_runV (o := 65) (ci := 10) E hK hP hS (c_X10_begins hq hz21) cv_X10_begins tw1221 rfl (by decide) rfl rfl ⟨Nat.le_of_ble_eq_true rfl, Nat.le_of_ble_eq_true rfl⟩ ⟨Nat.le_refl 0, Nat.le_refl 0⟩ hl.1 (Nat.le_of_ble_eq_true rfl) rfl dX10_goes_77) hS (fun H locs hP hS => ?_)
      refine lv_goto (tgt := 55) hx hb dX10_goes_80 (by decide) ?_
      exact hk55 S20 _ _ _ hf hP hS (lv_sub hl [0] rfl)
  have hB55 : ∀ (k55 : St → Option (St)) (hk55 : ∀ (S : St) (H : Heap) (locs : List Loc) (ls : Array Slot), k55 S = some S' → z_P G X S H → z_S G s.heap H locs → lv_has ls 1 [(0, .ref (gq G (65)))] → W p l e (z_rm 5 114) s m ([.ref (gq G (65))] : List Value).toArray below meth c H locs 0 0 (MQ below (z_QV G X S') ([.ref (gq G (65))] : List Value).toArray s 0 0 (z_Aq (gq G))) (F0 m 55 ls [])), ∀ (S : St) (H : Heap) (locs : List Loc) (ls : Array Slot), b_X10_goes_55 N k55 S = some S' → z_P G X S H → z_S G s.heap H locs → lv_has ls 1 [(0, .ref (gq G (65)))] → W p l e (z_rm 5 114) s m ([.ref (gq G (65))] : List Value).toArray below meth c H locs 0 0 (MQ below (z_QV G X S') ([.ref (gq G (65))] : List Value).toArray s 0 0 (z_Aq (gq G))) (F0 m 55 ls []) := by
    intro k55 hk55 S H locs ls hf hP hS hl
    unfold b_X10_goes_55 at hf
    refine lv_aload_n hx hb dX10_goes_55 rfl (lv_at hl 0 rfl) ?_
    refine m_getI (C := RX10) (T := TX10) (N := 75) (ci := 10) (k := 56) (o := 65) E hK hP iwX10 rfl rfl (by decide) (by decide) rfl rfl (by decide) tw1008 dX10_goes_56 ?_
    refine lv_if_eq (tgt := 69) hx hb dX10_goes_59 (by decide) (fun hc12 => ?_) (fun hc12 => ?_)
    · replace hf := z_ifp hf hc12
      exact hJ69 k55 hk55 S _ _ _ hf hP hS (lv_sub hl [0] rfl)
    · replace hf := z_ifn hf hc12
      refine lv_aload_n hx hb dX10_goes_62 rfl (lv_at hl 0 rfl) ?_
      refine m_getI (C := RX10) (T := TX10) (N := 75) (ci := 10) (k := 55) (o := 65) E hK hP iwX10 rfl rfl (by decide) (by decide) rfl rfl (by decide) tw1007 dX10_goes_63 ?_
      refine lv_if_le (tgt := 105) hx hb dX10_goes_66 (by decide) (fun hc13 => ?_) (fun hc13 => ?_)
      · replace hf := z_ifp hf hc13
        exact m_retv hx hb hr hlk hf hP hS dX10_goes_105
      · replace hf := z_ifn hf hc13
        exact hJ69 k55 hk55 S _ _ _ hf hP hS (lv_sub hl [0] rfl)
  have hL55 : ∀ (n : Nat), ∀ (S : St) (H : Heap) (locs : List Loc) (ls : Array Slot), f_X10_goes_55 N n S = some S' → z_P G X S H → z_S G s.heap H locs → lv_has ls 1 [(0, .ref (gq G (65)))] → W p l e (z_rm 5 114) s m ([.ref (gq G (65))] : List Value).toArray below meth c H locs 0 0 (MQ below (z_QV G X S') ([.ref (gq G (65))] : List Value).toArray s 0 0 (z_Aq (gq G))) (F0 m 55 ls []) := by
    intro  n
    induction n with
    | zero => intro _ _ _ _ hf; cases hf
    | succ n ih => exact hB55  _  ih
  have hl : lv_has ls 1 [(0, .ref (gq G (65)))] := hl
  unfold f_X10_goes at hf
  refine lv_aload_n hx hb dX10_goes_0 rfl (lv_at hl 0 rfl) ?_
  refine lv_iconst (v := 0) hx hb dX10_goes_1 (by decide) ?_
  refine m_putI (C := RX10) (T := TX10) (N := 75) (ci := 10) (k := 46) (o := 65) (v := 0) (ty := .int) E hK hq hP hS iwX10 tyX10 tyX10_ok nmX10 rfl rfl (by decide) (by decide) rfl rfl (by decide) rfl (tyX10_ok 46 (by decide)) ⟨rfl, rfl⟩ tw998 dX10_goes_2 (fun H locs hP hS => ?_)
  obtain ⟨S1, hf, hP⟩ := z_ltM hf hP
  refine lv_aload_n hx hb dX10_goes_5 rfl (lv_at hl 0 rfl) ?_
  refine lv_iconst (v := 0) hx hb dX10_goes_6 (by decide) ?_
  refine m_putI (C := RX10) (T := TX10) (N := 75) (ci := 10) (k := 47) (o := 65) (v := 0) (ty := .int) E hK hq hP hS iwX10 tyX10 tyX10_ok nmX10 rfl rfl (by decide) (by decide) rfl rfl (by decide) rfl (tyX10_ok 47 (by decide)) ⟨rfl, rfl⟩ tw999 dX10_goes_7 (fun H locs hP hS => ?_)
  obtain ⟨S2, hf, hP⟩ := z_ltM hf hP
  refine lv_aload_n hx hb dX10_goes_10 rfl (lv_at hl 0 rfl) ?_
  refine lv_iconst (v := 1) hx hb dX10_goes_11 (by decide) ?_
  refine m_putI (C := RX10) (T := TX10) (N := 75) (ci := 10) (k := 48) (o := 65) (v := 1) (ty := .int) E hK hq hP hS iwX10 tyX10 tyX10_ok nmX10 rfl rfl (by decide) (by decide) rfl rfl (by decide) rfl (tyX10_ok 48 (by decide)) ⟨rfl, rfl⟩ tw1000 dX10_goes_12 (fun H locs hP hS => ?_)
  obtain ⟨S3, hf, hP⟩ := z_ltM hf hP
  refine lv_aload_n hx hb dX10_goes_15 rfl (lv_at hl 0 rfl) ?_
  refine lv_iconst (v := 0) hx hb dX10_goes_16 (by decide) ?_
  refine m_putI (C := RX10) (T := TX10) (N := 75) (ci := 10) (k := 49) (o := 65) (v := 0) (ty := .int) E hK hq hP hS iwX10 tyX10 tyX10_ok nmX10 rfl rfl (by decide) (by decide) rfl rfl (by decide) rfl (tyX10_ok 49 (by decide)) ⟨rfl, rfl⟩ tw1001 dX10_goes_17 (fun H locs hP hS => ?_)
  obtain ⟨S4, hf, hP⟩ := z_ltM hf hP
  refine lv_aload_n hx hb dX10_goes_20 rfl (lv_at hl 0 rfl) ?_
  refine lv_iconst (v := 0) hx hb dX10_goes_21 (by decide) ?_
  refine m_putI (C := RX10) (T := TX10) (N := 75) (ci := 10) (k := 55) (o := 65) (v := 0) (ty := .int) E hK hq hP hS iwX10 tyX10 tyX10_ok nmX10 rfl rfl (by decide) (by decide) rfl rfl (by decide) rfl (tyX10_ok 55 (by decide)) ⟨rfl, rfl⟩ tw1007 dX10_goes_22 (fun H locs hP hS => ?_)
  obtain ⟨S5, hf, hP⟩ := z_ltM hf hP
  refine lv_aload_n hx hb dX10_goes_25 rfl (lv_at hl 0 rfl) ?_
  refine lv_iconst (v := 0) hx hb dX10_goes_26 (by decide) ?_
  refine m_putI (C := RX10) (T := TX10) (N := 75) (ci := 10) (k := 62) (o := 65) (v := 0) (ty := .int) E hK hq hP hS iwX10 tyX10 tyX10_ok nmX10 rfl rfl (by decide) (by decide) rfl rfl (by decide) rfl (tyX10_ok 62 (by decide)) ⟨rfl, rfl⟩ tw1014 dX10_goes_27 (fun H locs hP hS => ?_)
  obtain ⟨S6, hf, hP⟩ := z_ltM hf hP
  refine lv_aload_n hx hb dX10_goes_30 rfl (lv_at hl 0 rfl) ?_
  refine lv_iconst (v := 0) hx hb dX10_goes_31 (by decide) ?_
  refine m_putI (C := RX10) (T := TX10) (N := 75) (ci := 10) (k := 63) (o := 65) (v := 0) (ty := .int) E hK hq hP hS iwX10 tyX10 tyX10_ok nmX10 rfl rfl (by decide) (by decide) rfl rfl (by decide) rfl (tyX10_ok 63 (by decide)) ⟨rfl, rfl⟩ tw1015 dX10_goes_32 (fun H locs hP hS => ?_)
  obtain ⟨S7, hf, hP⟩ := z_ltM hf hP
  refine lv_aload_n hx hb dX10_goes_35 rfl (lv_at hl 0 rfl) ?_
  refine lv_iconst (v := 0) hx hb dX10_goes_36 (by decide) ?_
  refine m_putI (C := RX10) (T := TX10) (N := 75) (ci := 10) (k := 64) (o := 65) (v := 0) (ty := .int) E hK hq hP hS iwX10 tyX10 tyX10_ok nmX10 rfl rfl (by decide) (by decide) rfl rfl (by decide) rfl (tyX10_ok 64 (by decide)) ⟨rfl, rfl⟩ tw1016 dX10_goes_37 (fun H locs hP hS => ?_)
  obtain ⟨S8, hf, hP⟩ := z_ltM hf hP
  refine lv_aload_n hx hb dX10_goes_40 rfl (lv_at hl 0 rfl) ?_
  refine lv_iconst (v := 0) hx hb dX10_goes_41 (by decide) ?_
  refine m_putI (C := RX10) (T := TX10) (N := 75) (ci := 10) (k := 65) (o := 65) (v := 0) (ty := .int) E hK hq hP hS iwX10 tyX10 tyX10_ok nmX10 rfl rfl (by decide) (by decide) rfl rfl (by decide) rfl (tyX10_ok 65 (by decide)) ⟨rfl, rfl⟩ tw1017 dX10_goes_42 (fun H locs hP hS => ?_)
  obtain ⟨S9, hf, hP⟩ := z_ltM hf hP
  refine lv_aload_n hx hb dX10_goes_45 rfl (lv_at hl 0 rfl) ?_
  refine lv_aload_n hx hb dX10_goes_46 rfl (lv_at hl 0 rfl) ?_
  refine m_getI (C := RX10) (T := TX10) (N := 75) (ci := 10) (k := 8) (o := 65) E hK hP iwX10 rfl rfl (by decide) (by decide) rfl rfl (by decide) tw960 dX10_goes_47 ?_
  refine lv_iconst (v := 0) hx hb dX10_goes_50 (by decide) ?_
  refine lv_iconst (v := 0) hx hb dX10_goes_51 (by decide) ?_
  obtain ⟨S10, hz11, hf⟩ := z_bv_some hf
  refine z_cvo (z_runV (o := 65) (ci := 10) E hK hP hS (c_X10_makes hq hz11) cv_X10_makes tw1217 rfl (by decide) rfl rfl ⟨Nat.le_of_ble_eq_true rfl, Nat.le_of_ble_eq_true rfl⟩ ⟨Nat.le_refl 0, Nat.le_refl 0⟩ hl.1 (Nat.le_of_ble_eq_true rfl) rfl dX10_goes_52) hS (fun H locs hP hS => ?_)
  exact hL55 N S10 _ _ _ hf hP hS (lv_sub hl [0] rfl)
theorem cv_X10_goes : z_cv yX10_goes cX10_goes 1 none RX10 0 := ⟨⟨tw1215, twp37⟩, tw1216, tw11, by decide +kernel⟩
def f_X10_howNow (N : Nat) (S : St) : Option (Int32 × St) := if (S 65 56) = 2 then (some (3, S)) else (z_gd (z_in (S 65 60) (z_ln 83)) (some ((S 83 ((S 65 60) : Int32).toNatClampNeg), S)))
set_option maxHeartbeats 4000000 in
set_option maxRecDepth 100000 in
theorem c_X10_howNow {l : Launch} {G : Cx} {X S S' : St} {N : Nat} {r : Int32} (hq : z_inj (gq G)) (hf : f_X10_howNow N S = some (r, S')) : z_Ct l yX10_howNow cX10_howNow 1 (some .int) 0 0 G X S [.ref (gq G (65))] (z_QI G X S' r) := by
  refine z_start (by decide +kernel) (Nat.le_of_ble_eq_true rfl) ?_
  intro p e s m below meth c ls E hr hlk hK hP hS hl
  have E : CallFix p m c cX10_howNow 1 s _ lw_good RX10 := E
  have hx := E.1
  have hb := E.2.1
  have hown := E.2.2.2.1
  have hts := E.2.2.2.2
  have hl : lv_has ls 1 [(0, .ref (gq G (65)))] := hl
  unfold f_X10_howNow at hf
  refine lv_aload_n hx hb dX10_howNow_0 rfl (lv_at hl 0 rfl) ?_
  refine m_getI (C := RX10) (T := TX10) (N := 75) (ci := 10) (k := 56) (o := 65) E hK hP iwX10 rfl rfl (by decide) (by decide) rfl rfl (by decide) tw1008 dX10_howNow_1 ?_
  refine lv_iconst (v := 2) hx hb dX10_howNow_4 (by decide) ?_
  refine lv_icmp_ne (tgt := 12) hx hb dX10_howNow_5 (by decide) (fun hc1 => ?_) (fun hc1 => ?_)
  · replace hf := z_ifn hf hc1
    refine lv_aload_n hx hb dX10_howNow_12 rfl (lv_at hl 0 rfl) ?_
    refine z_getR (C := RX10) (T := TX10) (N := 75) (ci := 10) (k := 36) (o := 65) (t := 83) E hK hP iwX10 rfl rfl (by decide) (by decide) rfl rfl rfl tw988 dX10_howNow_13 ?_
    refine lv_aload_n hx hb dX10_howNow_16 rfl (lv_at hl 0 rfl) ?_
    refine m_getI (C := RX10) (T := TX10) (N := 75) (ci := 10) (k := 60) (o := 65) E hK hP iwX10 rfl rfl (by decide) (by decide) rfl rfl (by decide) tw1012 dX10_howNow_17 ?_
    obtain ⟨hg2, hf⟩ := z_gd_some hf
    refine m_ald (o := 83) (i := (S 65 60)) E hK hP rfl (by decide) hg2 dX10_howNow_20 ?_
    exact m_reti hx hb hr hlk hf hP hS dX10_howNow_21
  · replace hf := z_ifp hf hc1
    refine lv_iconst (v := 3) hx hb dX10_howNow_8 (by decide) ?_
    refine lv_goto (tgt := 21) hx hb dX10_howNow_9 (by decide) ?_
    exact m_reti hx hb hr hlk hf hP hS dX10_howNow_21
theorem cv_X10_howNow : z_cv yX10_howNow cX10_howNow 1 (some .int) RX10 0 := ⟨⟨tw1317, twp61⟩, tw1318, tw11, by decide +kernel⟩
def f_X10_numberNow (N : Nat) (S : St) : Option (Int32 × St) := if (S 65 56) = 2 then (z_gd (z_in (S 65 61) (z_ln 91)) (some ((S 91 ((S 65 61) : Int32).toNatClampNeg), S))) else (z_gd (z_in (S 65 60) (z_ln 84)) (some ((S 84 ((S 65 60) : Int32).toNatClampNeg), S)))
set_option maxHeartbeats 4000000 in
set_option maxRecDepth 100000 in
theorem c_X10_numberNow {l : Launch} {G : Cx} {X S S' : St} {N : Nat} {r : Int32} (hq : z_inj (gq G)) (hf : f_X10_numberNow N S = some (r, S')) : z_Ct l yX10_numberNow cX10_numberNow 1 (some .int) 0 0 G X S [.ref (gq G (65))] (z_QI G X S' r) := by
  refine z_start (by decide +kernel) (Nat.le_of_ble_eq_true rfl) ?_
  intro p e s m below meth c ls E hr hlk hK hP hS hl
  have E : CallFix p m c cX10_numberNow 1 s _ lw_good RX10 := E
  have hx := E.1
  have hb := E.2.1
  have hown := E.2.2.2.1
  have hts := E.2.2.2.2
  have hl : lv_has ls 1 [(0, .ref (gq G (65)))] := hl
  unfold f_X10_numberNow at hf
  refine lv_aload_n hx hb dX10_numberNow_0 rfl (lv_at hl 0 rfl) ?_
  refine m_getI (C := RX10) (T := TX10) (N := 75) (ci := 10) (k := 56) (o := 65) E hK hP iwX10 rfl rfl (by decide) (by decide) rfl rfl (by decide) tw1008 dX10_numberNow_1 ?_
  refine lv_iconst (v := 2) hx hb dX10_numberNow_4 (by decide) ?_
  refine lv_icmp_ne (tgt := 20) hx hb dX10_numberNow_5 (by decide) (fun hc1 => ?_) (fun hc1 => ?_)
  · replace hf := z_ifn hf hc1
    refine lv_aload_n hx hb dX10_numberNow_20 rfl (lv_at hl 0 rfl) ?_
    refine z_getR (C := RX10) (T := TX10) (N := 75) (ci := 10) (k := 37) (o := 65) (t := 84) E hK hP iwX10 rfl rfl (by decide) (by decide) rfl rfl rfl tw989 dX10_numberNow_21 ?_
    refine lv_aload_n hx hb dX10_numberNow_24 rfl (lv_at hl 0 rfl) ?_
    refine m_getI (C := RX10) (T := TX10) (N := 75) (ci := 10) (k := 60) (o := 65) E hK hP iwX10 rfl rfl (by decide) (by decide) rfl rfl (by decide) tw1012 dX10_numberNow_25 ?_
    obtain ⟨hg2, hf⟩ := z_gd_some hf
    refine m_ald (o := 84) (i := (S 65 60)) E hK hP rfl (by decide) hg2 dX10_numberNow_28 ?_
    exact m_reti hx hb hr hlk hf hP hS dX10_numberNow_29
  · replace hf := z_ifp hf hc1
    refine lv_aload_n hx hb dX10_numberNow_8 rfl (lv_at hl 0 rfl) ?_
    refine z_getR (C := RX10) (T := TX10) (N := 75) (ci := 10) (k := 44) (o := 65) (t := 91) E hK hP iwX10 rfl rfl (by decide) (by decide) rfl rfl rfl tw996 dX10_numberNow_9 ?_
    refine lv_aload_n hx hb dX10_numberNow_12 rfl (lv_at hl 0 rfl) ?_
    refine m_getI (C := RX10) (T := TX10) (N := 75) (ci := 10) (k := 61) (o := 65) E hK hP iwX10 rfl rfl (by decide) (by decide) rfl rfl (by decide) tw1013 dX10_numberNow_13 ?_
    obtain ⟨hg3, hf⟩ := z_gd_some hf
    refine m_ald (o := 91) (i := (S 65 61)) E hK hP rfl (by decide) hg3 dX10_numberNow_16 ?_
    refine lv_goto (tgt := 29) hx hb dX10_numberNow_17 (by decide) ?_
    exact m_reti hx hb hr hlk hf hP hS dX10_numberNow_29
theorem cv_X10_numberNow : z_cv yX10_numberNow cX10_numberNow 1 (some .int) RX10 0 := ⟨⟨tw1321, twp62⟩, tw1322, tw11, by decide +kernel⟩
def b_X10_causesNow_25 (N : Nat) (k25 : Int32 → Int32 → St → Option (Int32 × St)) (v1 : Int32) (v2 : Int32) (S : St) : Option (Int32 × St) := if v2 < 0 then (some (v1, S)) else (z_gd (z_in v2 (z_ln 92)) (k25 ((v1 + 1)) ((S 92 (v2 : Int32).toNatClampNeg)) S))
def f_X10_causesNow_25 (N : Nat) : Nat → Int32 → Int32 → St → Option (Int32 × St)
  | 0 => fun _ _ _ => none
  | n + 1 => b_X10_causesNow_25 N (f_X10_causesNow_25 N n)
def b_X10_causesNow_24 (N : Nat) (v1 : Int32) (t0 : Int32) (S : St) : Option (Int32 × St) := f_X10_causesNow_25 N N (v1) (t0) S
def f_X10_causesNow (N : Nat) (S : St) : Option (Int32 × St) := if (S 65 56) = 2 then (z_gd (z_in (S 65 61) (z_ln 92)) (b_X10_causesNow_24 N (0) ((S 92 ((S 65 61) : Int32).toNatClampNeg)) S)) else (b_X10_causesNow_24 N (0) ((-9)) S)
set_option maxHeartbeats 4000000 in
set_option maxRecDepth 100000 in
theorem c_X10_causesNow {l : Launch} {G : Cx} {X S S' : St} {N : Nat} {r : Int32} (hq : z_inj (gq G)) (hf : f_X10_causesNow N S = some (r, S')) : z_Ct l yX10_causesNow cX10_causesNow 3 (some .int) 0 0 G X S [.ref (gq G (65))] (z_QI G X S' r) := by
  refine z_start (by decide +kernel) (Nat.le_of_ble_eq_true rfl) ?_
  intro p e s m below meth c ls E hr hlk hK hP hS hl
  have E : CallFix p m c cX10_causesNow 3 s _ lw_good RX10 := E
  have hx := E.1
  have hb := E.2.1
  have hown := E.2.2.2.1
  have hts := E.2.2.2.2
  have hB25 : ∀ (k25 : Int32 → Int32 → St → Option (Int32 × St)) (hk25 : ∀ (v1 : Int32) (v2 : Int32) (S : St) (H : Heap) (locs : List Loc) (ls : Array Slot), k25 v1 v2 S = some (r, S') → z_P G X S H → z_S G s.heap H locs → lv_has ls 3 [(0, .ref (gq G (65))), (1, .int (v1)), (2, .int (v2))] → W p l e (z_rm 0 0) s m ([.ref (gq G (65))] : List Value).toArray below meth c H locs 0 0 (MQ below (z_QI G X S' r) ([.ref (gq G (65))] : List Value).toArray s 0 0 (z_Aq (gq G))) (F0 m 25 ls [])), ∀ (v1 : Int32) (v2 : Int32) (S : St) (H : Heap) (locs : List Loc) (ls : Array Slot), b_X10_causesNow_25 N k25 v1 v2 S = some (r, S') → z_P G X S H → z_S G s.heap H locs → lv_has ls 3 [(0, .ref (gq G (65))), (1, .int (v1)), (2, .int (v2))] → W p l e (z_rm 0 0) s m ([.ref (gq G (65))] : List Value).toArray below meth c H locs 0 0 (MQ below (z_QI G X S' r) ([.ref (gq G (65))] : List Value).toArray s 0 0 (z_Aq (gq G))) (F0 m 25 ls []) := by
    intro k25 hk25 v1 v2 S H locs ls hf hP hS hl
    unfold b_X10_causesNow_25 at hf
    refine lv_iload_n hx hb dX10_causesNow_25 rfl (lv_at hl 2 rfl) ?_
    refine lv_if_lt (tgt := 42) hx hb dX10_causesNow_26 (by decide) (fun hc3 => ?_) (fun hc3 => ?_)
    · replace hf := z_ifp hf hc3
      refine lv_iload_n hx hb dX10_causesNow_42 rfl (lv_at hl 1 rfl) ?_
      exact m_reti hx hb hr hlk hf hP hS dX10_causesNow_43
    · replace hf := z_ifn hf hc3
      refine lv_iinc (v := (v1 + 1)) (lv' := [(1, .int ((v1 + 1))), (0, .ref (gq G (65))), (2, .int (v2))]) hx hb dX10_causesNow_29 hl (k := 1) rfl rfl (by decide) rfl (fun ls hl => ?_)
      refine lv_aload_n hx hb dX10_causesNow_32 rfl (lv_at hl 1 rfl) ?_
      refine z_getR (C := RX10) (T := TX10) (N := 75) (ci := 10) (k := 45) (o := 65) (t := 92) E hK hP iwX10 rfl rfl (by decide) (by decide) rfl rfl rfl tw997 dX10_causesNow_33 ?_
      refine lv_iload_n hx hb dX10_causesNow_36 rfl (lv_at hl 2 rfl) ?_
      obtain ⟨hg4, hf⟩ := z_gd_some hf
      refine m_ald (o := 92) (i := v2) E hK hP rfl (by decide) hg4 dX10_causesNow_37 ?_
      refine lv_istore_n (lv' := [(2, .int ((S 92 (v2 : Int32).toNatClampNeg))), (1, .int ((v1 + 1))), (0, .ref (gq G (65)))]) hx hb dX10_causesNow_38 rfl hl (by decide) rfl (fun ls hl => ?_)
      refine lv_goto (tgt := 25) hx hb dX10_causesNow_39 (by decide) ?_
      exact hk25 ((v1 + 1)) ((S 92 (v2 : Int32).toNatClampNeg)) S _ _ _ hf hP hS (lv_sub hl [2, 1, 0] rfl)
  have hL25 : ∀ (n : Nat), ∀ (v1 : Int32) (v2 : Int32) (S : St) (H : Heap) (locs : List Loc) (ls : Array Slot), f_X10_causesNow_25 N n v1 v2 S = some (r, S') → z_P G X S H → z_S G s.heap H locs → lv_has ls 3 [(0, .ref (gq G (65))), (1, .int (v1)), (2, .int (v2))] → W p l e (z_rm 0 0) s m ([.ref (gq G (65))] : List Value).toArray below meth c H locs 0 0 (MQ below (z_QI G X S' r) ([.ref (gq G (65))] : List Value).toArray s 0 0 (z_Aq (gq G))) (F0 m 25 ls []) := by
    intro  n
    induction n with
    | zero => intro _ _ _ _ _ _ hf; cases hf
    | succ n ih => exact hB25  _  ih
  have hJ24 : ∀ (v1 : Int32) (t0 : Int32) (S : St) (H : Heap) (locs : List Loc) (ls : Array Slot), b_X10_causesNow_24 N v1 t0 S = some (r, S') → z_P G X S H → z_S G s.heap H locs → lv_has ls 3 [(0, .ref (gq G (65))), (1, .int (v1))] → W p l e (z_rm 0 0) s m ([.ref (gq G (65))] : List Value).toArray below meth c H locs 0 0 (MQ below (z_QI G X S' r) ([.ref (gq G (65))] : List Value).toArray s 0 0 (z_Aq (gq G))) (F0 m 24 ls [.int (t0)]) := by
    intro v1 t0 S H locs ls hf hP hS hl
    unfold b_X10_causesNow_24 at hf
    refine lv_istore_n (lv' := [(2, .int (t0)), (0, .ref (gq G (65))), (1, .int (v1))]) hx hb dX10_causesNow_24 rfl hl (by decide) rfl (fun ls hl => ?_)
    exact hL25 N (v1) (t0) S _ _ _ hf hP hS (lv_sub hl [1, 2, 0] rfl)
  have hl : lv_has ls 3 [(0, .ref (gq G (65)))] := hl
  unfold f_X10_causesNow at hf
  refine lv_iconst (v := 0) hx hb dX10_causesNow_0 (by decide) ?_
  refine lv_istore_n (lv' := [(1, .int (0)), (0, .ref (gq G (65)))]) hx hb dX10_causesNow_1 rfl hl (by decide) rfl (fun ls hl => ?_)
  refine lv_aload_n hx hb dX10_causesNow_2 rfl (lv_at hl 1 rfl) ?_
  refine m_getI (C := RX10) (T := TX10) (N := 75) (ci := 10) (k := 56) (o := 65) E hK hP iwX10 rfl rfl (by decide) (by decide) rfl rfl (by decide) tw1008 dX10_causesNow_3 ?_
  refine lv_iconst (v := 2) hx hb dX10_causesNow_6 (by decide) ?_
  refine lv_icmp_ne (tgt := 22) hx hb dX10_causesNow_7 (by decide) (fun hc1 => ?_) (fun hc1 => ?_)
  · replace hf := z_ifn hf hc1
    refine lv_bipush (v := (-9)) hx hb dX10_causesNow_22 (by decide) ?_
    exact hJ24 (0) ((-9)) S _ _ _ hf hP hS (lv_sub hl [1, 0] rfl)
  · replace hf := z_ifp hf hc1
    refine lv_aload_n hx hb dX10_causesNow_10 rfl (lv_at hl 1 rfl) ?_
    refine z_getR (C := RX10) (T := TX10) (N := 75) (ci := 10) (k := 45) (o := 65) (t := 92) E hK hP iwX10 rfl rfl (by decide) (by decide) rfl rfl rfl tw997 dX10_causesNow_11 ?_
    refine lv_aload_n hx hb dX10_causesNow_14 rfl (lv_at hl 1 rfl) ?_
    refine m_getI (C := RX10) (T := TX10) (N := 75) (ci := 10) (k := 61) (o := 65) E hK hP iwX10 rfl rfl (by decide) (by decide) rfl rfl (by decide) tw1013 dX10_causesNow_15 ?_
    obtain ⟨hg2, hf⟩ := z_gd_some hf
    refine m_ald (o := 92) (i := (S 65 61)) E hK hP rfl (by decide) hg2 dX10_causesNow_18 ?_
    refine lv_goto (tgt := 24) hx hb dX10_causesNow_19 (by decide) ?_
    exact hJ24 (0) ((S 92 ((S 65 61) : Int32).toNatClampNeg)) S _ _ _ hf hP hS (lv_sub hl [1, 0] rfl)
theorem cv_X10_causesNow : z_cv yX10_causesNow cX10_causesNow 3 (some .int) RX10 0 := ⟨⟨tw1325, twp63⟩, tw1326, tw11, by decide +kernel⟩
def f_X10_endedNow (N : Nat) (a1 : Int32) (S : St) : Option (Int32 × St) := if a1 = 0 then (z_bd (f_X10_howNow N S) fun r3 S2 => some (r3, S2)) else (if a1 = 1 then (z_bd (f_X10_numberNow N S) fun r7 S6 => some (r7, S6)) else (if a1 = 2 then (some ((S 65 62), S)) else (if a1 = 3 then (some ((S 65 64), S)) else (if a1 = 4 then (some ((S 65 65), S)) else (z_bd (f_X10_causesNow N S) fun r13 S12 => some (r13, S12))))))
set_option maxHeartbeats 4000000 in
set_option maxRecDepth 100000 in
theorem c_X10_endedNow {l : Launch} {G : Cx} {X S S' : St} {N : Nat} {a1 : Int32} {r : Int32} (hq : z_inj (gq G)) (hf : f_X10_endedNow N a1 S = some (r, S')) : z_Ct l yX10_endedNow cX10_endedNow 2 (some .int) 1 22 G X S [.ref (gq G (65)), .int (a1)] (z_QI G X S' r) := by
  refine z_start (by decide +kernel) (Nat.le_of_ble_eq_true rfl) ?_
  intro p e s m below meth c ls E hr hlk hK hP hS hl
  have E : CallFix p m c cX10_endedNow 2 s _ lw_good RX10 := E
  have hx := E.1
  have hb := E.2.1
  have hown := E.2.2.2.1
  have hts := E.2.2.2.2
  have hl : lv_has ls 2 [(0, .ref (gq G (65))), (1, .int (a1))] := hl
  unfold f_X10_endedNow at hf
  refine lv_iload_n hx hb dX10_endedNow_0 rfl (lv_at hl 1 rfl) ?_
  by_cases hc1 : a1 = 0
  · replace hf := z_ifp hf hc1
    refine lv_tableIn (off := 35) (tgt := 36) hx hb dX10_endedNow_1 (by rw [hc1]; decide) (by rw [hc1]; decide) (by rw [hc1]; decide) (by decide) ?_
    refine lv_aload_n hx hb dX10_endedNow_36 rfl (lv_at hl 0 rfl) ?_
    obtain ⟨r3, S2, hz4, hf⟩ := z_bd_some hf
    refine z_ci (z_runV (o := 65) (ci := 10) E hK hP hS (c_X10_howNow hq hz4) cv_X10_howNow tw1315 rfl (by decide) rfl rfl ⟨Nat.le_of_ble_eq_true rfl, Nat.le_of_ble_eq_true rfl⟩ ⟨Nat.le_refl 0, Nat.le_refl 0⟩ hl.1 (Nat.le_of_ble_eq_true rfl) rfl dX10_endedNow_37) hS (fun H locs hP hS => ?_)
    exact m_reti hx hb hr hlk hf hP hS dX10_endedNow_40
  · replace hf := z_ifn hf hc1
    by_cases hc5 : a1 = 1
    · replace hf := z_ifp hf hc5
      refine lv_tableIn (off := 40) (tgt := 41) hx hb dX10_endedNow_1 (by rw [hc5]; decide) (by rw [hc5]; decide) (by rw [hc5]; decide) (by decide) ?_
      refine lv_aload_n hx hb dX10_endedNow_41 rfl (lv_at hl 0 rfl) ?_
      obtain ⟨r7, S6, hz8, hf⟩ := z_bd_some hf
      refine z_ci (z_runV (o := 65) (ci := 10) E hK hP hS (c_X10_numberNow hq hz8) cv_X10_numberNow tw1319 rfl (by decide) rfl rfl ⟨Nat.le_of_ble_eq_true rfl, Nat.le_of_ble_eq_true rfl⟩ ⟨Nat.le_refl 0, Nat.le_refl 0⟩ hl.1 (Nat.le_of_ble_eq_true rfl) rfl dX10_endedNow_42) hS (fun H locs hP hS => ?_)
      exact m_reti hx hb hr hlk hf hP hS dX10_endedNow_45
    · replace hf := z_ifn hf hc5
      by_cases hc9 : a1 = 2
      · replace hf := z_ifp hf hc9
        refine lv_tableIn (off := 45) (tgt := 46) hx hb dX10_endedNow_1 (by rw [hc9]; decide) (by rw [hc9]; decide) (by rw [hc9]; decide) (by decide) ?_
        refine lv_aload_n hx hb dX10_endedNow_46 rfl (lv_at hl 0 rfl) ?_
        refine m_getI (C := RX10) (T := TX10) (N := 75) (ci := 10) (k := 62) (o := 65) E hK hP iwX10 rfl rfl (by decide) (by decide) rfl rfl (by decide) tw1014 dX10_endedNow_47 ?_
        exact m_reti hx hb hr hlk hf hP hS dX10_endedNow_50
      · replace hf := z_ifn hf hc9
        by_cases hc10 : a1 = 3
        · replace hf := z_ifp hf hc10
          refine lv_tableIn (off := 50) (tgt := 51) hx hb dX10_endedNow_1 (by rw [hc10]; decide) (by rw [hc10]; decide) (by rw [hc10]; decide) (by decide) ?_
          refine lv_aload_n hx hb dX10_endedNow_51 rfl (lv_at hl 0 rfl) ?_
          refine m_getI (C := RX10) (T := TX10) (N := 75) (ci := 10) (k := 64) (o := 65) E hK hP iwX10 rfl rfl (by decide) (by decide) rfl rfl (by decide) tw1016 dX10_endedNow_52 ?_
          exact m_reti hx hb hr hlk hf hP hS dX10_endedNow_55
        · replace hf := z_ifn hf hc10
          by_cases hc11 : a1 = 4
          · replace hf := z_ifp hf hc11
            refine lv_tableIn (off := 55) (tgt := 56) hx hb dX10_endedNow_1 (by rw [hc11]; decide) (by rw [hc11]; decide) (by rw [hc11]; decide) (by decide) ?_
            refine lv_aload_n hx hb dX10_endedNow_56 rfl (lv_at hl 0 rfl) ?_
            refine m_getI (C := RX10) (T := TX10) (N := 75) (ci := 10) (k := 65) (o := 65) E hK hP iwX10 rfl rfl (by decide) (by decide) rfl rfl (by decide) tw1017 dX10_endedNow_57 ?_
            exact m_reti hx hb hr hlk hf hP hS dX10_endedNow_60
          · replace hf := z_ifn hf hc11
            refine lv_tableOut (tgt := 61) hx hb dX10_endedNow_1 (by have := lv_neT (a := 0) hc1 (by decide); have := lv_neT (a := 1) hc5 (by decide); have := lv_neT (a := 2) hc9 (by decide); have := lv_neT (a := 3) hc10 (by decide); have := lv_neT (a := 4) hc11 (by decide); omega) (by decide) ?_
            refine lv_aload_n hx hb dX10_endedNow_61 rfl (lv_at hl 0 rfl) ?_
            obtain ⟨r13, S12, hz14, hf⟩ := z_bd_some hf
            refine z_ci (z_runV (o := 65) (ci := 10) E hK hP hS (c_X10_causesNow hq hz14) cv_X10_causesNow tw1323 rfl (by decide) rfl rfl ⟨Nat.le_of_ble_eq_true rfl, Nat.le_of_ble_eq_true rfl⟩ ⟨Nat.le_refl 0, Nat.le_refl 0⟩ hl.1 (Nat.le_of_ble_eq_true rfl) rfl dX10_endedNow_62) hS (fun H locs hP hS => ?_)
            exact m_reti hx hb hr hlk hf hP hS dX10_endedNow_65
theorem cv_X10_endedNow : z_cv yX10_endedNow cX10_endedNow 2 (some .int) RX10 1 := ⟨⟨tw1377, twp69⟩, tw1378, tw11, by decide +kernel⟩
def b_X10_tellsLast_68 (N : Nat) (k68 : Int32 → Int32 → St → Option (St)) (v1 : Int32) (v2 : Int32) (S : St) : Option (St) := if v2 < 0 then (some S) else (z_gd (z_in v2 (z_ln 91)) (z_gd (z_in v1 (z_ln 82)) (z_lt (z_wr S 82 (v1 : Int32).toNatClampNeg (S 91 (v2 : Int32).toNatClampNeg)) fun S20 => z_gd (z_in v2 (z_ln 92)) (k68 ((v1 + 1)) ((S20 92 (v2 : Int32).toNatClampNeg)) S20))))
def f_X10_tellsLast_68 (N : Nat) : Nat → Int32 → Int32 → St → Option (St)
  | 0 => fun _ _ _ => none
  | n + 1 => b_X10_tellsLast_68 N (f_X10_tellsLast_68 N n)
def b_X10_tellsLast_67 (N : Nat) (v1 : Int32) (t0 : Int32) (S : St) : Option (St) := f_X10_tellsLast_68 N N (v1) (t0) S
def f_X10_tellsLast (N : Nat) (S : St) : Option (St) := z_bd (f_X10_howNow N S) fun r2 S1 => z_lt (z_wr S1 65 29 r2) fun S4 => z_bd (f_X10_numberNow N S4) fun r6 S5 => z_lt (z_wr S5 65 30 r6) fun S8 => z_lt (z_wr S8 65 31 (S8 65 62)) fun S9 => z_lt (z_wr S9 65 32 (S9 65 64)) fun S10 => z_lt (z_wr S10 65 33 (S10 65 65)) fun S11 => z_bd (f_X10_causesNow N S11) fun r13 S12 => z_lt (z_wr S12 65 34 r13) fun S15 => if (S15 65 56) = 2 then (b_X10_tellsLast_67 N (0) ((S15 65 61)) S15) else (b_X10_tellsLast_67 N (0) ((-9)) S15)
set_option maxHeartbeats 4000000 in
set_option maxRecDepth 100000 in
theorem c_X10_tellsLast {l : Launch} {G : Cx} {X S S' : St} {N : Nat} (hq : z_inj (gq G)) (hf : f_X10_tellsLast N S = some S') : z_Ct l yX10_tellsLast cX10_tellsLast 3 none 1 22 G X S [.ref (gq G (65))] (z_QV G X S') := by
  refine z_start (by decide +kernel) (Nat.le_of_ble_eq_true rfl) ?_
  intro p e s m below meth c ls E hr hlk hK hP hS hl
  have E : CallFix p m c cX10_tellsLast 3 s _ lw_good RX10 := E
  have hx := E.1
  have hb := E.2.1
  have hown := E.2.2.2.1
  have hts := E.2.2.2.2
  have hB68 : ∀ (k68 : Int32 → Int32 → St → Option (St)) (hk68 : ∀ (v1 : Int32) (v2 : Int32) (S : St) (H : Heap) (locs : List Loc) (ls : Array Slot), k68 v1 v2 S = some S' → z_P G X S H → z_S G s.heap H locs → lv_has ls 3 [(0, .ref (gq G (65))), (1, .int (v1)), (2, .int (v2))] → W p l e (z_rm 1 22) s m ([.ref (gq G (65))] : List Value).toArray below meth c H locs 0 0 (MQ below (z_QV G X S') ([.ref (gq G (65))] : List Value).toArray s 0 0 (z_Aq (gq G))) (F0 m 68 ls [])), ∀ (v1 : Int32) (v2 : Int32) (S : St) (H : Heap) (locs : List Loc) (ls : Array Slot), b_X10_tellsLast_68 N k68 v1 v2 S = some S' → z_P G X S H → z_S G s.heap H locs → lv_has ls 3 [(0, .ref (gq G (65))), (1, .int (v1)), (2, .int (v2))] → W p l e (z_rm 1 22) s m ([.ref (gq G (65))] : List Value).toArray below meth c H locs 0 0 (MQ below (z_QV G X S') ([.ref (gq G (65))] : List Value).toArray s 0 0 (z_Aq (gq G))) (F0 m 68 ls []) := by
    intro k68 hk68 v1 v2 S H locs ls hf hP hS hl
    unfold b_X10_tellsLast_68 at hf
    refine lv_iload_n hx hb dX10_tellsLast_68 rfl (lv_at hl 2 rfl) ?_
    refine lv_if_lt (tgt := 97) hx hb dX10_tellsLast_69 (by decide) (fun hc17 => ?_) (fun hc17 => ?_)
    · replace hf := z_ifp hf hc17
      exact m_retv hx hb hr hlk hf hP hS dX10_tellsLast_97
    · replace hf := z_ifn hf hc17
      refine lv_aload_n hx hb dX10_tellsLast_72 rfl (lv_at hl 0 rfl) ?_
      refine z_getR (C := RX10) (T := TX10) (N := 75) (ci := 10) (k := 28) (o := 65) (t := 82) E hK hP iwX10 rfl rfl (by decide) (by decide) rfl rfl rfl tw980 dX10_tellsLast_73 ?_
      refine lv_iload_n hx hb dX10_tellsLast_76 rfl (lv_at hl 1 rfl) ?_
      refine lv_aload_n hx hb dX10_tellsLast_77 rfl (lv_at hl 0 rfl) ?_
      refine z_getR (C := RX10) (T := TX10) (N := 75) (ci := 10) (k := 44) (o := 65) (t := 91) E hK hP iwX10 rfl rfl (by decide) (by decide) rfl rfl rfl tw996 dX10_tellsLast_78 ?_
      refine lv_iload_n hx hb dX10_tellsLast_81 rfl (lv_at hl 2 rfl) ?_
      obtain ⟨hg18, hf⟩ := z_gd_some hf
      refine m_ald (o := 91) (i := v2) E hK hP rfl (by decide) hg18 dX10_tellsLast_82 ?_
      obtain ⟨hg19, hf⟩ := z_gd_some hf
      refine m_ast (o := 82) (i := v1) (v := (S 91 (v2 : Int32).toNatClampNeg)) E hK hq hP hS rfl (by decide) hg19 dX10_tellsLast_83 (fun H locs hP hS => ?_)
      obtain ⟨S20, hf, hP⟩ := z_ltM hf hP
      refine lv_iinc (v := (v1 + 1)) (lv' := [(1, .int ((v1 + 1))), (0, .ref (gq G (65))), (2, .int (v2))]) hx hb dX10_tellsLast_84 hl (k := 1) rfl rfl (by decide) rfl (fun ls hl => ?_)
      refine lv_aload_n hx hb dX10_tellsLast_87 rfl (lv_at hl 1 rfl) ?_
      refine z_getR (C := RX10) (T := TX10) (N := 75) (ci := 10) (k := 45) (o := 65) (t := 92) E hK hP iwX10 rfl rfl (by decide) (by decide) rfl rfl rfl tw997 dX10_tellsLast_88 ?_
      refine lv_iload_n hx hb dX10_tellsLast_91 rfl (lv_at hl 2 rfl) ?_
      obtain ⟨hg21, hf⟩ := z_gd_some hf
      refine m_ald (o := 92) (i := v2) E hK hP rfl (by decide) hg21 dX10_tellsLast_92 ?_
      refine lv_istore_n (lv' := [(2, .int ((S20 92 (v2 : Int32).toNatClampNeg))), (1, .int ((v1 + 1))), (0, .ref (gq G (65)))]) hx hb dX10_tellsLast_93 rfl hl (by decide) rfl (fun ls hl => ?_)
      refine lv_goto (tgt := 68) hx hb dX10_tellsLast_94 (by decide) ?_
      exact hk68 ((v1 + 1)) ((S20 92 (v2 : Int32).toNatClampNeg)) S20 _ _ _ hf hP hS (lv_sub hl [2, 1, 0] rfl)
  have hL68 : ∀ (n : Nat), ∀ (v1 : Int32) (v2 : Int32) (S : St) (H : Heap) (locs : List Loc) (ls : Array Slot), f_X10_tellsLast_68 N n v1 v2 S = some S' → z_P G X S H → z_S G s.heap H locs → lv_has ls 3 [(0, .ref (gq G (65))), (1, .int (v1)), (2, .int (v2))] → W p l e (z_rm 1 22) s m ([.ref (gq G (65))] : List Value).toArray below meth c H locs 0 0 (MQ below (z_QV G X S') ([.ref (gq G (65))] : List Value).toArray s 0 0 (z_Aq (gq G))) (F0 m 68 ls []) := by
    intro  n
    induction n with
    | zero => intro _ _ _ _ _ _ hf; cases hf
    | succ n ih => exact hB68  _  ih
  have hJ67 : ∀ (v1 : Int32) (t0 : Int32) (S : St) (H : Heap) (locs : List Loc) (ls : Array Slot), b_X10_tellsLast_67 N v1 t0 S = some S' → z_P G X S H → z_S G s.heap H locs → lv_has ls 3 [(0, .ref (gq G (65))), (1, .int (v1))] → W p l e (z_rm 1 22) s m ([.ref (gq G (65))] : List Value).toArray below meth c H locs 0 0 (MQ below (z_QV G X S') ([.ref (gq G (65))] : List Value).toArray s 0 0 (z_Aq (gq G))) (F0 m 67 ls [.int (t0)]) := by
    intro v1 t0 S H locs ls hf hP hS hl
    unfold b_X10_tellsLast_67 at hf
    refine lv_istore_n (lv' := [(2, .int (t0)), (0, .ref (gq G (65))), (1, .int (v1))]) hx hb dX10_tellsLast_67 rfl hl (by decide) rfl (fun ls hl => ?_)
    exact hL68 N (v1) (t0) S _ _ _ hf hP hS (lv_sub hl [1, 2, 0] rfl)
  have hl : lv_has ls 3 [(0, .ref (gq G (65)))] := hl
  unfold f_X10_tellsLast at hf
  refine lv_aload_n hx hb dX10_tellsLast_0 rfl (lv_at hl 0 rfl) ?_
  refine lv_aload_n hx hb dX10_tellsLast_1 rfl (lv_at hl 0 rfl) ?_
  obtain ⟨r2, S1, hz3, hf⟩ := z_bd_some hf
  refine z_ci (z_runV (o := 65) (ci := 10) E hK hP hS (c_X10_howNow hq hz3) cv_X10_howNow tw1315 rfl (by decide) rfl rfl ⟨Nat.le_of_ble_eq_true rfl, Nat.le_of_ble_eq_true rfl⟩ ⟨Nat.le_refl 0, Nat.le_refl 0⟩ hl.1 (Nat.le_of_ble_eq_true rfl) rfl dX10_tellsLast_2) hS (fun H locs hP hS => ?_)
  refine m_putI (C := RX10) (T := TX10) (N := 75) (ci := 10) (k := 29) (o := 65) (v := r2) (ty := .int) E hK hq hP hS iwX10 tyX10 tyX10_ok nmX10 rfl rfl (by decide) (by decide) rfl rfl (by decide) rfl (tyX10_ok 29 (by decide)) ⟨rfl, rfl⟩ tw981 dX10_tellsLast_5 (fun H locs hP hS => ?_)
  obtain ⟨S4, hf, hP⟩ := z_ltM hf hP
  refine lv_aload_n hx hb dX10_tellsLast_8 rfl (lv_at hl 0 rfl) ?_
  refine lv_aload_n hx hb dX10_tellsLast_9 rfl (lv_at hl 0 rfl) ?_
  obtain ⟨r6, S5, hz7, hf⟩ := z_bd_some hf
  refine z_ci (z_runV (o := 65) (ci := 10) E hK hP hS (c_X10_numberNow hq hz7) cv_X10_numberNow tw1319 rfl (by decide) rfl rfl ⟨Nat.le_of_ble_eq_true rfl, Nat.le_of_ble_eq_true rfl⟩ ⟨Nat.le_refl 0, Nat.le_refl 0⟩ hl.1 (Nat.le_of_ble_eq_true rfl) rfl dX10_tellsLast_10) hS (fun H locs hP hS => ?_)
  refine m_putI (C := RX10) (T := TX10) (N := 75) (ci := 10) (k := 30) (o := 65) (v := r6) (ty := .int) E hK hq hP hS iwX10 tyX10 tyX10_ok nmX10 rfl rfl (by decide) (by decide) rfl rfl (by decide) rfl (tyX10_ok 30 (by decide)) ⟨rfl, rfl⟩ tw982 dX10_tellsLast_13 (fun H locs hP hS => ?_)
  obtain ⟨S8, hf, hP⟩ := z_ltM hf hP
  refine lv_aload_n hx hb dX10_tellsLast_16 rfl (lv_at hl 0 rfl) ?_
  refine lv_aload_n hx hb dX10_tellsLast_17 rfl (lv_at hl 0 rfl) ?_
  refine m_getI (C := RX10) (T := TX10) (N := 75) (ci := 10) (k := 62) (o := 65) E hK hP iwX10 rfl rfl (by decide) (by decide) rfl rfl (by decide) tw1014 dX10_tellsLast_18 ?_
  refine m_putI (C := RX10) (T := TX10) (N := 75) (ci := 10) (k := 31) (o := 65) (v := (S8 65 62)) (ty := .int) E hK hq hP hS iwX10 tyX10 tyX10_ok nmX10 rfl rfl (by decide) (by decide) rfl rfl (by decide) rfl (tyX10_ok 31 (by decide)) ⟨rfl, rfl⟩ tw983 dX10_tellsLast_21 (fun H locs hP hS => ?_)
  obtain ⟨S9, hf, hP⟩ := z_ltM hf hP
  refine lv_aload_n hx hb dX10_tellsLast_24 rfl (lv_at hl 0 rfl) ?_
  refine lv_aload_n hx hb dX10_tellsLast_25 rfl (lv_at hl 0 rfl) ?_
  refine m_getI (C := RX10) (T := TX10) (N := 75) (ci := 10) (k := 64) (o := 65) E hK hP iwX10 rfl rfl (by decide) (by decide) rfl rfl (by decide) tw1016 dX10_tellsLast_26 ?_
  refine m_putI (C := RX10) (T := TX10) (N := 75) (ci := 10) (k := 32) (o := 65) (v := (S9 65 64)) (ty := .int) E hK hq hP hS iwX10 tyX10 tyX10_ok nmX10 rfl rfl (by decide) (by decide) rfl rfl (by decide) rfl (tyX10_ok 32 (by decide)) ⟨rfl, rfl⟩ tw984 dX10_tellsLast_29 (fun H locs hP hS => ?_)
  obtain ⟨S10, hf, hP⟩ := z_ltM hf hP
  refine lv_aload_n hx hb dX10_tellsLast_32 rfl (lv_at hl 0 rfl) ?_
  refine lv_aload_n hx hb dX10_tellsLast_33 rfl (lv_at hl 0 rfl) ?_
  refine m_getI (C := RX10) (T := TX10) (N := 75) (ci := 10) (k := 65) (o := 65) E hK hP iwX10 rfl rfl (by decide) (by decide) rfl rfl (by decide) tw1017 dX10_tellsLast_34 ?_
  refine m_putI (C := RX10) (T := TX10) (N := 75) (ci := 10) (k := 33) (o := 65) (v := (S10 65 65)) (ty := .int) E hK hq hP hS iwX10 tyX10 tyX10_ok nmX10 rfl rfl (by decide) (by decide) rfl rfl (by decide) rfl (tyX10_ok 33 (by decide)) ⟨rfl, rfl⟩ tw985 dX10_tellsLast_37 (fun H locs hP hS => ?_)
  obtain ⟨S11, hf, hP⟩ := z_ltM hf hP
  refine lv_aload_n hx hb dX10_tellsLast_40 rfl (lv_at hl 0 rfl) ?_
  refine lv_aload_n hx hb dX10_tellsLast_41 rfl (lv_at hl 0 rfl) ?_
  obtain ⟨r13, S12, hz14, hf⟩ := z_bd_some hf
  refine z_ci (z_runV (o := 65) (ci := 10) E hK hP hS (c_X10_causesNow hq hz14) cv_X10_causesNow tw1323 rfl (by decide) rfl rfl ⟨Nat.le_of_ble_eq_true rfl, Nat.le_of_ble_eq_true rfl⟩ ⟨Nat.le_refl 0, Nat.le_refl 0⟩ hl.1 (Nat.le_of_ble_eq_true rfl) rfl dX10_tellsLast_42) hS (fun H locs hP hS => ?_)
  refine m_putI (C := RX10) (T := TX10) (N := 75) (ci := 10) (k := 34) (o := 65) (v := r13) (ty := .int) E hK hq hP hS iwX10 tyX10 tyX10_ok nmX10 rfl rfl (by decide) (by decide) rfl rfl (by decide) rfl (tyX10_ok 34 (by decide)) ⟨rfl, rfl⟩ tw986 dX10_tellsLast_45 (fun H locs hP hS => ?_)
  obtain ⟨S15, hf, hP⟩ := z_ltM hf hP
  refine lv_iconst (v := 0) hx hb dX10_tellsLast_48 (by decide) ?_
  refine lv_istore_n (lv' := [(1, .int (0)), (0, .ref (gq G (65)))]) hx hb dX10_tellsLast_49 rfl hl (by decide) rfl (fun ls hl => ?_)
  refine lv_aload_n hx hb dX10_tellsLast_50 rfl (lv_at hl 1 rfl) ?_
  refine m_getI (C := RX10) (T := TX10) (N := 75) (ci := 10) (k := 56) (o := 65) E hK hP iwX10 rfl rfl (by decide) (by decide) rfl rfl (by decide) tw1008 dX10_tellsLast_51 ?_
  refine lv_iconst (v := 2) hx hb dX10_tellsLast_54 (by decide) ?_
  refine lv_icmp_ne (tgt := 65) hx hb dX10_tellsLast_55 (by decide) (fun hc16 => ?_) (fun hc16 => ?_)
  · replace hf := z_ifn hf hc16
    refine lv_bipush (v := (-9)) hx hb dX10_tellsLast_65 (by decide) ?_
    exact hJ67 (0) ((-9)) S15 _ _ _ hf hP hS (lv_sub hl [1, 0] rfl)
  · replace hf := z_ifp hf hc16
    refine lv_aload_n hx hb dX10_tellsLast_58 rfl (lv_at hl 1 rfl) ?_
    refine m_getI (C := RX10) (T := TX10) (N := 75) (ci := 10) (k := 61) (o := 65) E hK hP iwX10 rfl rfl (by decide) (by decide) rfl rfl (by decide) tw1013 dX10_tellsLast_59 ?_
    refine lv_goto (tgt := 67) hx hb dX10_tellsLast_62 (by decide) ?_
    exact hJ67 (0) ((S15 65 61)) S15 _ _ _ hf hP hS (lv_sub hl [1, 0] rfl)
theorem cv_X10_tellsLast : z_cv yX10_tellsLast cX10_tellsLast 3 none RX10 0 := ⟨⟨tw1313, twp60⟩, tw1314, tw11, by decide +kernel⟩
def f_X10_run (N : Nat) (S : St) : Option (Int32 × St) := z_bv (f_X10_goes N S) fun S1 => z_bv (f_X10_tellsLast N S1) fun S3 => if 99 ≤ (S3 65 35) then (z_lt (z_wr S3 65 35 (S3 65 35)) fun S6 => some ((S6 65 29), S6)) else (z_lt (z_wr S3 65 35 ((S3 65 35) + 1)) fun S7 => some ((S7 65 29), S7))
set_option maxHeartbeats 4000000 in
set_option maxRecDepth 100000 in
theorem c_X10_run {l : Launch} {G : Cx} {X S S' : St} {N : Nat} {r : Int32} (hq : z_inj (gq G)) (hf : f_X10_run N S = some (r, S')) : z_Ct l yX10_run cX10_run 1 (some .int) 6 134 G X S [.ref (gq G (65))] (z_QI G X S' r) := by
  refine z_start (by decide +kernel) (Nat.le_of_ble_eq_true rfl) ?_
  intro p e s m below meth c ls E hr hlk hK hP hS hl
  have E : CallFix p m c cX10_run 1 s _ lw_good RX10 := E
  have hx := E.1
  have hb := E.2.1
  have hown := E.2.2.2.1
  have hts := E.2.2.2.2
  have hl : lv_has ls 1 [(0, .ref (gq G (65)))] := hl
  unfold f_X10_run at hf
  refine lv_aload_n hx hb dX10_run_0 rfl (lv_at hl 0 rfl) ?_
  obtain ⟨S1, hz2, hf⟩ := z_bv_some hf
  refine z_cvo (z_runV (o := 65) (ci := 10) E hK hP hS (c_X10_goes hq hz2) cv_X10_goes tw1213 rfl (by decide) rfl rfl ⟨Nat.le_of_ble_eq_true rfl, Nat.le_of_ble_eq_true rfl⟩ ⟨Nat.le_refl 0, Nat.le_refl 0⟩ hl.1 (Nat.le_of_ble_eq_true rfl) rfl dX10_run_1) hS (fun H locs hP hS => ?_)
  refine lv_aload_n hx hb dX10_run_4 rfl (lv_at hl 0 rfl) ?_
  obtain ⟨S3, hz4, hf⟩ := z_bv_some hf
  refine z_cvo (z_runV (o := 65) (ci := 10) E hK hP hS (c_X10_tellsLast hq hz4) cv_X10_tellsLast tw1311 rfl (by decide) rfl rfl ⟨Nat.le_of_ble_eq_true rfl, Nat.le_of_ble_eq_true rfl⟩ ⟨Nat.le_refl 0, Nat.le_refl 0⟩ hl.1 (Nat.le_of_ble_eq_true rfl) rfl dX10_run_5) hS (fun H locs hP hS => ?_)
  refine lv_aload_n hx hb dX10_run_8 rfl (lv_at hl 0 rfl) ?_
  refine lv_aload_n hx hb dX10_run_9 rfl (lv_at hl 0 rfl) ?_
  refine m_getI (C := RX10) (T := TX10) (N := 75) (ci := 10) (k := 35) (o := 65) E hK hP iwX10 rfl rfl (by decide) (by decide) rfl rfl (by decide) tw987 dX10_run_10 ?_
  refine lv_bipush (v := 99) hx hb dX10_run_13 (by decide) ?_
  refine lv_icmp_ge (tgt := 27) hx hb dX10_run_15 (by decide) (fun hc5 => ?_) (fun hc5 => ?_)
  · replace hf := z_ifp hf hc5
    refine lv_aload_n hx hb dX10_run_27 rfl (lv_at hl 0 rfl) ?_
    refine m_getI (C := RX10) (T := TX10) (N := 75) (ci := 10) (k := 35) (o := 65) E hK hP iwX10 rfl rfl (by decide) (by decide) rfl rfl (by decide) tw987 dX10_run_28 ?_
    refine m_putI (C := RX10) (T := TX10) (N := 75) (ci := 10) (k := 35) (o := 65) (v := (S3 65 35)) (ty := .int) E hK hq hP hS iwX10 tyX10 tyX10_ok nmX10 rfl rfl (by decide) (by decide) rfl rfl (by decide) rfl (tyX10_ok 35 (by decide)) ⟨rfl, rfl⟩ tw987 dX10_run_31 (fun H locs hP hS => ?_)
    obtain ⟨S6, hf, hP⟩ := z_ltM hf hP
    refine lv_aload_n hx hb dX10_run_34 rfl (lv_at hl 0 rfl) ?_
    refine m_getI (C := RX10) (T := TX10) (N := 75) (ci := 10) (k := 29) (o := 65) E hK hP iwX10 rfl rfl (by decide) (by decide) rfl rfl (by decide) tw981 dX10_run_35 ?_
    exact m_reti hx hb hr hlk hf hP hS dX10_run_38
  · replace hf := z_ifn hf hc5
    refine lv_aload_n hx hb dX10_run_18 rfl (lv_at hl 0 rfl) ?_
    refine m_getI (C := RX10) (T := TX10) (N := 75) (ci := 10) (k := 35) (o := 65) E hK hP iwX10 rfl rfl (by decide) (by decide) rfl rfl (by decide) tw987 dX10_run_19 ?_
    refine lv_iconst (v := 1) hx hb dX10_run_22 (by decide) ?_
    refine lv_iadd hx hb dX10_run_23 ?_
    refine lv_goto (tgt := 31) hx hb dX10_run_24 (by decide) ?_
    refine m_putI (C := RX10) (T := TX10) (N := 75) (ci := 10) (k := 35) (o := 65) (v := ((S3 65 35) + 1)) (ty := .int) E hK hq hP hS iwX10 tyX10 tyX10_ok nmX10 rfl rfl (by decide) (by decide) rfl rfl (by decide) rfl (tyX10_ok 35 (by decide)) ⟨rfl, rfl⟩ tw987 dX10_run_31 (fun H locs hP hS => ?_)
    obtain ⟨S7, hf, hP⟩ := z_ltM hf hP
    refine lv_aload_n hx hb dX10_run_34 rfl (lv_at hl 0 rfl) ?_
    refine m_getI (C := RX10) (T := TX10) (N := 75) (ci := 10) (k := 29) (o := 65) E hK hP iwX10 rfl rfl (by decide) (by decide) rfl rfl (by decide) tw981 dX10_run_35 ?_
    exact m_reti hx hb hr hlk hf hP hS dX10_run_38
theorem cv_X10_run : z_cv yX10_run cX10_run 1 (some .int) RX10 0 := ⟨⟨tw1210, tw1211⟩, tw1212, tw11, by decide +kernel⟩
def b_X10_ended_27 (N : Nat) (v1 : Int32) (t0 : Int32) (S : St) : Option (Int32 × St) := if t0 = 0 then (z_gd (z_in 0 (z_ln 98)) (z_lt (z_wr S 98 (0 : Int32).toNatClampNeg (S 65 29)) fun S8 => z_gd (z_in 1 (z_ln 98)) (z_lt (z_wr S8 98 (1 : Int32).toNatClampNeg (S8 65 30)) fun S10 => z_gd (z_in 2 (z_ln 98)) (z_lt (z_wr S10 98 (2 : Int32).toNatClampNeg (S10 65 31)) fun S12 => z_gd (z_in 3 (z_ln 98)) (z_lt (z_wr S12 98 (3 : Int32).toNatClampNeg (S12 65 32)) fun S14 => z_gd (z_in 4 (z_ln 98)) (z_lt (z_wr S14 98 (4 : Int32).toNatClampNeg (S14 65 33)) fun S16 => z_gd (z_in 5 (z_ln 98)) (z_lt (z_wr S16 98 (5 : Int32).toNatClampNeg (S16 65 34)) fun S18 => z_gd (z_in v1 (z_ln 98)) (some ((S18 98 (v1 : Int32).toNatClampNeg), S18))))))))) else (z_bd (f_X10_lower N (t0) S) fun r21 S20 => some (r21, S20))
def f_X10_ended (N : Nat) (a1 : Int32) (S : St) : Option (Int32 × St) := z_bd (f_X10_isIn N (a1) (0) (5) S) fun r2 S1 => if r2 = 0 then (b_X10_ended_27 N (a1) ((-2)) S1) else (if 0 ≤ (S1 65 29) then (b_X10_ended_27 N (a1) (0) S1) else (b_X10_ended_27 N (a1) ((-3)) S1))
set_option maxHeartbeats 4000000 in
set_option maxRecDepth 100000 in
theorem c_X10_ended {l : Launch} {G : Cx} {X S S' : St} {N : Nat} {a1 : Int32} {r : Int32} (hq : z_inj (gq G)) (hf : f_X10_ended N a1 S = some (r, S')) : z_Ct l yX10_ended cX10_ended 4 (some .int) 1 22 G X S [.ref (gq G (65)), .int (a1)] (z_QI G X S' r) := by
  refine z_start (by decide +kernel) (Nat.le_of_ble_eq_true rfl) ?_
  intro p e s m below meth c ls E hr hlk hK hP hS hl
  have E : CallFix p m c cX10_ended 4 s _ lw_good RX10 := E
  have hx := E.1
  have hb := E.2.1
  have hown := E.2.2.2.1
  have hts := E.2.2.2.2
  have hJ27 : ∀ (v1 : Int32) (t0 : Int32) (S : St) (H : Heap) (locs : List Loc) (ls : Array Slot), b_X10_ended_27 N v1 t0 S = some (r, S') → z_P G X S H → z_S G s.heap H locs → lv_has ls 4 [(0, .ref (gq G (65))), (1, .int (v1))] → W p l e (z_rm 1 22) s m ([.ref (gq G (65)), .int (a1)] : List Value).toArray below meth c H locs 0 0 (MQ below (z_QI G X S' r) ([.ref (gq G (65)), .int (a1)] : List Value).toArray s 0 0 (z_Aq (gq G))) (F0 m 27 ls [.int (t0)]) := by
    intro v1 t0 S H locs ls hf hP hS hl
    unfold b_X10_ended_27 at hf
    refine lv_istore_n (lv' := [(2, .int (t0)), (0, .ref (gq G (65))), (1, .int (v1))]) hx hb dX10_ended_27 rfl hl (by decide) rfl (fun ls hl => ?_)
    refine lv_iload_n hx hb dX10_ended_28 rfl (lv_at hl 0 rfl) ?_
    refine lv_if_eq (tgt := 38) hx hb dX10_ended_29 (by decide) (fun hc6 => ?_) (fun hc6 => ?_)
    · replace hf := z_ifp hf hc6
      refine lv_aload_n hx hb dX10_ended_38 rfl (lv_at hl 1 rfl) ?_
      refine z_getR (C := RX10) (T := TX10) (N := 75) (ci := 10) (k := 66) (o := 65) (t := 98) E hK hP iwX10 rfl rfl (by decide) (by decide) rfl rfl rfl tw1018 dX10_ended_39 ?_
      refine lv_astore_n (lv' := [(3, .ref (gq G (98))), (2, .int (t0)), (0, .ref (gq G (65))), (1, .int (v1))]) hx hb dX10_ended_42 rfl hl (by decide) rfl (fun ls hl => ?_)
      refine lv_aload_n hx hb dX10_ended_43 rfl (lv_at hl 0 rfl) ?_
      refine lv_iconst (v := 0) hx hb dX10_ended_44 (by decide) ?_
      refine lv_aload_n hx hb dX10_ended_45 rfl (lv_at hl 2 rfl) ?_
      refine m_getI (C := RX10) (T := TX10) (N := 75) (ci := 10) (k := 29) (o := 65) E hK hP iwX10 rfl rfl (by decide) (by decide) rfl rfl (by decide) tw981 dX10_ended_46 ?_
      obtain ⟨hg7, hf⟩ := z_gd_some hf
      refine m_ast (o := 98) (i := 0) (v := (S 65 29)) E hK hq hP hS rfl (by decide) hg7 dX10_ended_49 (fun H locs hP hS => ?_)
      obtain ⟨S8, hf, hP⟩ := z_ltM hf hP
      refine lv_aload_n hx hb dX10_ended_50 rfl (lv_at hl 0 rfl) ?_
      refine lv_iconst (v := 1) hx hb dX10_ended_51 (by decide) ?_
      refine lv_aload_n hx hb dX10_ended_52 rfl (lv_at hl 2 rfl) ?_
      refine m_getI (C := RX10) (T := TX10) (N := 75) (ci := 10) (k := 30) (o := 65) E hK hP iwX10 rfl rfl (by decide) (by decide) rfl rfl (by decide) tw982 dX10_ended_53 ?_
      obtain ⟨hg9, hf⟩ := z_gd_some hf
      refine m_ast (o := 98) (i := 1) (v := (S8 65 30)) E hK hq hP hS rfl (by decide) hg9 dX10_ended_56 (fun H locs hP hS => ?_)
      obtain ⟨S10, hf, hP⟩ := z_ltM hf hP
      refine lv_aload_n hx hb dX10_ended_57 rfl (lv_at hl 0 rfl) ?_
      refine lv_iconst (v := 2) hx hb dX10_ended_58 (by decide) ?_
      refine lv_aload_n hx hb dX10_ended_59 rfl (lv_at hl 2 rfl) ?_
      refine m_getI (C := RX10) (T := TX10) (N := 75) (ci := 10) (k := 31) (o := 65) E hK hP iwX10 rfl rfl (by decide) (by decide) rfl rfl (by decide) tw983 dX10_ended_60 ?_
      obtain ⟨hg11, hf⟩ := z_gd_some hf
      refine m_ast (o := 98) (i := 2) (v := (S10 65 31)) E hK hq hP hS rfl (by decide) hg11 dX10_ended_63 (fun H locs hP hS => ?_)
      obtain ⟨S12, hf, hP⟩ := z_ltM hf hP
      refine lv_aload_n hx hb dX10_ended_64 rfl (lv_at hl 0 rfl) ?_
      refine lv_iconst (v := 3) hx hb dX10_ended_65 (by decide) ?_
      refine lv_aload_n hx hb dX10_ended_66 rfl (lv_at hl 2 rfl) ?_
      refine m_getI (C := RX10) (T := TX10) (N := 75) (ci := 10) (k := 32) (o := 65) E hK hP iwX10 rfl rfl (by decide) (by decide) rfl rfl (by decide) tw984 dX10_ended_67 ?_
      obtain ⟨hg13, hf⟩ := z_gd_some hf
      refine m_ast (o := 98) (i := 3) (v := (S12 65 32)) E hK hq hP hS rfl (by decide) hg13 dX10_ended_70 (fun H locs hP hS => ?_)
      obtain ⟨S14, hf, hP⟩ := z_ltM hf hP
      refine lv_aload_n hx hb dX10_ended_71 rfl (lv_at hl 0 rfl) ?_
      refine lv_iconst (v := 4) hx hb dX10_ended_72 (by decide) ?_
      refine lv_aload_n hx hb dX10_ended_73 rfl (lv_at hl 2 rfl) ?_
      refine m_getI (C := RX10) (T := TX10) (N := 75) (ci := 10) (k := 33) (o := 65) E hK hP iwX10 rfl rfl (by decide) (by decide) rfl rfl (by decide) tw985 dX10_ended_74 ?_
      obtain ⟨hg15, hf⟩ := z_gd_some hf
      refine m_ast (o := 98) (i := 4) (v := (S14 65 33)) E hK hq hP hS rfl (by decide) hg15 dX10_ended_77 (fun H locs hP hS => ?_)
      obtain ⟨S16, hf, hP⟩ := z_ltM hf hP
      refine lv_aload_n hx hb dX10_ended_78 rfl (lv_at hl 0 rfl) ?_
      refine lv_iconst (v := 5) hx hb dX10_ended_79 (by decide) ?_
      refine lv_aload_n hx hb dX10_ended_80 rfl (lv_at hl 2 rfl) ?_
      refine m_getI (C := RX10) (T := TX10) (N := 75) (ci := 10) (k := 34) (o := 65) E hK hP iwX10 rfl rfl (by decide) (by decide) rfl rfl (by decide) tw986 dX10_ended_81 ?_
      obtain ⟨hg17, hf⟩ := z_gd_some hf
      refine m_ast (o := 98) (i := 5) (v := (S16 65 34)) E hK hq hP hS rfl (by decide) hg17 dX10_ended_84 (fun H locs hP hS => ?_)
      obtain ⟨S18, hf, hP⟩ := z_ltM hf hP
      refine lv_aload_n hx hb dX10_ended_85 rfl (lv_at hl 0 rfl) ?_
      refine lv_iload_n hx hb dX10_ended_86 rfl (lv_at hl 3 rfl) ?_
      obtain ⟨hg19, hf⟩ := z_gd_some hf
      refine m_ald (o := 98) (i := v1) E hK hP rfl (by decide) hg19 dX10_ended_87 ?_
      exact m_reti hx hb hr hlk hf hP hS dX10_ended_88
    · replace hf := z_ifn hf hc6
      refine lv_aload_n hx hb dX10_ended_32 rfl (lv_at hl 1 rfl) ?_
      refine lv_iload_n hx hb dX10_ended_33 rfl (lv_at hl 0 rfl) ?_
      obtain ⟨r21, S20, hz22, hf⟩ := z_bd_some hf
      refine z_ci (z_runV (o := 65) (ci := 10) E hK hP hS (c_X10_lower hq hz22) cv_X10_lower tw1331 rfl (by decide) rfl rfl ⟨Nat.le_of_ble_eq_true rfl, Nat.le_of_ble_eq_true rfl⟩ ⟨Nat.le_refl 0, Nat.le_refl 0⟩ hl.1 (Nat.le_of_ble_eq_true rfl) rfl dX10_ended_34) hS (fun H locs hP hS => ?_)
      exact m_reti hx hb hr hlk hf hP hS dX10_ended_37
  have hl : lv_has ls 4 [(0, .ref (gq G (65))), (1, .int (a1))] := hl
  unfold f_X10_ended at hf
  refine lv_iload_n hx hb dX10_ended_0 rfl (lv_at hl 1 rfl) ?_
  refine lv_iconst (v := 0) hx hb dX10_ended_1 (by decide) ?_
  refine lv_iconst (v := 5) hx hb dX10_ended_2 (by decide) ?_
  obtain ⟨r2, S1, hz3, hf⟩ := z_bd_some hf
  refine z_ci (z_runS E hK hP hS (c_X10_isIn hq hz3) cs_X10_isIn tw943 rfl ⟨Nat.le_of_ble_eq_true rfl, Nat.le_of_ble_eq_true rfl⟩ ⟨Nat.le_refl 0, Nat.le_refl 0⟩ hl.1 (Nat.le_of_ble_eq_true rfl) rfl dX10_ended_3) hS (fun H locs hP hS => ?_)
  refine lv_if_ne (tgt := 14) hx hb dX10_ended_6 (by decide) (fun hc4 => ?_) (fun hc4 => ?_)
  · replace hf := z_ifn hf hc4
    refine lv_aload_n hx hb dX10_ended_14 rfl (lv_at hl 0 rfl) ?_
    refine m_getI (C := RX10) (T := TX10) (N := 75) (ci := 10) (k := 29) (o := 65) E hK hP iwX10 rfl rfl (by decide) (by decide) rfl rfl (by decide) tw981 dX10_ended_15 ?_
    refine lv_if_ge (tgt := 26) hx hb dX10_ended_18 (by decide) (fun hc5 => ?_) (fun hc5 => ?_)
    · replace hf := z_ifp hf hc5
      refine lv_iconst (v := 0) hx hb dX10_ended_26 (by decide) ?_
      exact hJ27 (a1) (0) S1 _ _ _ hf hP hS (lv_sub hl [0, 1] rfl)
    · replace hf := z_ifn hf hc5
      refine lv_bipush (v := (-3)) hx hb dX10_ended_21 (by decide) ?_
      refine lv_goto (tgt := 27) hx hb dX10_ended_23 (by decide) ?_
      exact hJ27 (a1) ((-3)) S1 _ _ _ hf hP hS (lv_sub hl [0, 1] rfl)
  · replace hf := z_ifp hf hc4
    refine lv_bipush (v := (-2)) hx hb dX10_ended_9 (by decide) ?_
    refine lv_goto (tgt := 27) hx hb dX10_ended_11 (by decide) ?_
    exact hJ27 (a1) ((-2)) S1 _ _ _ hf hP hS (lv_sub hl [0, 1] rfl)
theorem cv_X10_ended : z_cv yX10_ended cX10_ended 4 (some .int) RX10 1 := ⟨⟨tw1328, tw1329⟩, tw1330, tw11, by decide +kernel⟩
def f_X10_code (N : Nat) (a1 : Int32) (S : St) : Option (Int32 × St) := if (S 65 29) = 3 then (z_bd (f_X10_isIn N (a1) (0) ((S 65 34)) S) fun r3 S2 => if r3 = 0 then (z_bd (f_X10_no N ((-1)) S2) fun r7 S6 => some (r7, S6)) else (z_gd (z_in a1 (z_ln 82)) (some ((S2 82 (a1 : Int32).toNatClampNeg), S2)))) else (z_bd (f_X10_no N ((-3)) S) fun r11 S10 => some (r11, S10))
set_option maxHeartbeats 4000000 in
set_option maxRecDepth 100000 in
theorem c_X10_code {l : Launch} {G : Cx} {X S S' : St} {N : Nat} {a1 : Int32} {r : Int32} (hq : z_inj (gq G)) (hf : f_X10_code N a1 S = some (r, S')) : z_Ct l yX10_code cX10_code 2 (some .int) 1 22 G X S [.ref (gq G (65)), .int (a1)] (z_QI G X S' r) := by
  refine z_start (by decide +kernel) (Nat.le_of_ble_eq_true rfl) ?_
  intro p e s m below meth c ls E hr hlk hK hP hS hl
  have E : CallFix p m c cX10_code 2 s _ lw_good RX10 := E
  have hx := E.1
  have hb := E.2.1
  have hown := E.2.2.2.1
  have hts := E.2.2.2.2
  have hl : lv_has ls 2 [(0, .ref (gq G (65))), (1, .int (a1))] := hl
  unfold f_X10_code at hf
  refine lv_aload_n hx hb dX10_code_0 rfl (lv_at hl 0 rfl) ?_
  refine m_getI (C := RX10) (T := TX10) (N := 75) (ci := 10) (k := 29) (o := 65) E hK hP iwX10 rfl rfl (by decide) (by decide) rfl rfl (by decide) tw981 dX10_code_1 ?_
  refine lv_iconst (v := 3) hx hb dX10_code_4 (by decide) ?_
  refine lv_icmp_eq (tgt := 15) hx hb dX10_code_5 (by decide) (fun hc1 => ?_) (fun hc1 => ?_)
  · replace hf := z_ifp hf hc1
    refine lv_iload_n hx hb dX10_code_15 rfl (lv_at hl 1 rfl) ?_
    refine lv_iconst (v := 0) hx hb dX10_code_16 (by decide) ?_
    refine lv_aload_n hx hb dX10_code_17 rfl (lv_at hl 0 rfl) ?_
    refine m_getI (C := RX10) (T := TX10) (N := 75) (ci := 10) (k := 34) (o := 65) E hK hP iwX10 rfl rfl (by decide) (by decide) rfl rfl (by decide) tw986 dX10_code_18 ?_
    obtain ⟨r3, S2, hz4, hf⟩ := z_bd_some hf
    refine z_ci (z_runS E hK hP hS (c_X10_isIn hq hz4) cs_X10_isIn tw943 rfl ⟨Nat.le_of_ble_eq_true rfl, Nat.le_of_ble_eq_true rfl⟩ ⟨Nat.le_refl 0, Nat.le_refl 0⟩ hl.1 (Nat.le_of_ble_eq_true rfl) rfl dX10_code_21) hS (fun H locs hP hS => ?_)
    refine lv_if_eq (tgt := 36) hx hb dX10_code_24 (by decide) (fun hc5 => ?_) (fun hc5 => ?_)
    · replace hf := z_ifp hf hc5
      refine lv_aload_n hx hb dX10_code_36 rfl (lv_at hl 0 rfl) ?_
      refine lv_iconst (v := (-1)) hx hb dX10_code_37 (by decide) ?_
      obtain ⟨r7, S6, hz8, hf⟩ := z_bd_some hf
      refine z_ci (z_runV (o := 65) (ci := 10) E hK hP hS (c_X10_no hq hz8) cv_X10_no tw1185 rfl (by decide) rfl rfl ⟨Nat.le_of_ble_eq_true rfl, Nat.le_of_ble_eq_true rfl⟩ ⟨Nat.le_refl 0, Nat.le_refl 0⟩ hl.1 (Nat.le_of_ble_eq_true rfl) rfl dX10_code_38) hS (fun H locs hP hS => ?_)
      exact m_reti hx hb hr hlk hf hP hS dX10_code_41
    · replace hf := z_ifn hf hc5
      refine lv_aload_n hx hb dX10_code_27 rfl (lv_at hl 0 rfl) ?_
      refine z_getR (C := RX10) (T := TX10) (N := 75) (ci := 10) (k := 28) (o := 65) (t := 82) E hK hP iwX10 rfl rfl (by decide) (by decide) rfl rfl rfl tw980 dX10_code_28 ?_
      refine lv_iload_n hx hb dX10_code_31 rfl (lv_at hl 1 rfl) ?_
      obtain ⟨hg9, hf⟩ := z_gd_some hf
      refine m_ald (o := 82) (i := a1) E hK hP rfl (by decide) hg9 dX10_code_32 ?_
      refine lv_goto (tgt := 41) hx hb dX10_code_33 (by decide) ?_
      exact m_reti hx hb hr hlk hf hP hS dX10_code_41
  · replace hf := z_ifn hf hc1
    refine lv_aload_n hx hb dX10_code_8 rfl (lv_at hl 0 rfl) ?_
    refine lv_bipush (v := (-3)) hx hb dX10_code_9 (by decide) ?_
    obtain ⟨r11, S10, hz12, hf⟩ := z_bd_some hf
    refine z_ci (z_runV (o := 65) (ci := 10) E hK hP hS (c_X10_no hq hz12) cv_X10_no tw1185 rfl (by decide) rfl rfl ⟨Nat.le_of_ble_eq_true rfl, Nat.le_of_ble_eq_true rfl⟩ ⟨Nat.le_refl 0, Nat.le_refl 0⟩ hl.1 (Nat.le_of_ble_eq_true rfl) rfl dX10_code_11) hS (fun H locs hP hS => ?_)
    exact m_reti hx hb hr hlk hf hP hS dX10_code_14
theorem cv_X10_code : z_cv yX10_code cX10_code 2 (some .int) RX10 1 := ⟨⟨tw1337, tw1338⟩, tw1339, tw11, by decide +kernel⟩
def f_X10_global (N : Nat) (a1 : Int32) (S : St) : Option (Int32 × St) := z_bd (f_X10_isVariable N (a1) S) fun r2 S1 => if r2 = 0 then (z_bd (f_X10_lower N ((-1)) S1) fun r6 S5 => some (r6, S5)) else (z_gd (z_in a1 (z_ln 78)) (some ((S1 78 (a1 : Int32).toNatClampNeg), S1)))
set_option maxHeartbeats 4000000 in
set_option maxRecDepth 100000 in
theorem c_X10_global {l : Launch} {G : Cx} {X S S' : St} {N : Nat} {a1 : Int32} {r : Int32} (hq : z_inj (gq G)) (hf : f_X10_global N a1 S = some (r, S')) : z_Ct l yX10_global cX10_global 2 (some .int) 2 42 G X S [.ref (gq G (65)), .int (a1)] (z_QI G X S' r) := by
  refine z_start (by decide +kernel) (Nat.le_of_ble_eq_true rfl) ?_
  intro p e s m below meth c ls E hr hlk hK hP hS hl
  have E : CallFix p m c cX10_global 2 s _ lw_good RX10 := E
  have hx := E.1
  have hb := E.2.1
  have hown := E.2.2.2.1
  have hts := E.2.2.2.2
  have hl : lv_has ls 2 [(0, .ref (gq G (65))), (1, .int (a1))] := hl
  unfold f_X10_global at hf
  refine lv_iload_n hx hb dX10_global_0 rfl (lv_at hl 1 rfl) ?_
  obtain ⟨r2, S1, hz3, hf⟩ := z_bd_some hf
  refine z_ci (z_runS E hK hP hS (c_X10_isVariable hq hz3) cs_X10_isVariable tw1344 rfl ⟨Nat.le_of_ble_eq_true rfl, Nat.le_of_ble_eq_true rfl⟩ ⟨Nat.le_refl 0, Nat.le_refl 0⟩ hl.1 (Nat.le_of_ble_eq_true rfl) rfl dX10_global_1) hS (fun H locs hP hS => ?_)
  refine lv_if_eq (tgt := 16) hx hb dX10_global_4 (by decide) (fun hc4 => ?_) (fun hc4 => ?_)
  · replace hf := z_ifp hf hc4
    refine lv_aload_n hx hb dX10_global_16 rfl (lv_at hl 0 rfl) ?_
    refine lv_iconst (v := (-1)) hx hb dX10_global_17 (by decide) ?_
    obtain ⟨r6, S5, hz7, hf⟩ := z_bd_some hf
    refine z_ci (z_runV (o := 65) (ci := 10) E hK hP hS (c_X10_lower hq hz7) cv_X10_lower tw1331 rfl (by decide) rfl rfl ⟨Nat.le_of_ble_eq_true rfl, Nat.le_of_ble_eq_true rfl⟩ ⟨Nat.le_refl 0, Nat.le_refl 0⟩ hl.1 (Nat.le_of_ble_eq_true rfl) rfl dX10_global_18) hS (fun H locs hP hS => ?_)
    exact m_reti hx hb hr hlk hf hP hS dX10_global_21
  · replace hf := z_ifn hf hc4
    refine lv_aload_n hx hb dX10_global_7 rfl (lv_at hl 0 rfl) ?_
    refine z_getR (C := RX10) (T := TX10) (N := 75) (ci := 10) (k := 24) (o := 65) (t := 78) E hK hP iwX10 rfl rfl (by decide) (by decide) rfl rfl rfl tw976 dX10_global_8 ?_
    refine lv_iload_n hx hb dX10_global_11 rfl (lv_at hl 1 rfl) ?_
    obtain ⟨hg8, hf⟩ := z_gd_some hf
    refine m_ald (o := 78) (i := a1) E hK hP rfl (by decide) hg8 dX10_global_12 ?_
    refine lv_goto (tgt := 21) hx hb dX10_global_13 (by decide) ?_
    exact m_reti hx hb hr hlk hf hP hS dX10_global_21
theorem cv_X10_global : z_cv yX10_global cX10_global 2 (some .int) RX10 1 := ⟨⟨tw1341, tw1342⟩, tw1343, tw11, by decide +kernel⟩
def b_X10_sets_21 (N : Nat) (v1 : Int32) (v2 : Int32) (t0 : Int32) (S : St) : Option (Int32 × St) := if t0 = 0 then (z_gd (z_in v1 (z_ln 78)) (z_gd (z_in v1 (z_ln 78)) (z_lt (z_wr S 78 (v1 : Int32).toNatClampNeg v2) fun S11 => some ((S 78 (v1 : Int32).toNatClampNeg), S11)))) else (z_bd (f_X10_lower N (t0) S) fun r13 S12 => some (r13, S12))
def f_X10_sets (N : Nat) (a1 : Int32) (a2 : Int32) (S : St) : Option (Int32 × St) := z_bd (f_X10_isVariable N (a1) S) fun r2 S1 => if r2 = 0 then (b_X10_sets_21 N (a1) (a2) ((-1)) S1) else (z_bd (f_X10_bound N (a2) ((-9999)) (9999) S1) fun r6 S5 => b_X10_sets_21 N (a1) (a2) (r6) S5)
set_option maxHeartbeats 4000000 in
set_option maxRecDepth 100000 in
theorem c_X10_sets {l : Launch} {G : Cx} {X S S' : St} {N : Nat} {a1 : Int32} {a2 : Int32} {r : Int32} (hq : z_inj (gq G)) (hf : f_X10_sets N a1 a2 S = some (r, S')) : z_Ct l yX10_sets cX10_sets 5 (some .int) 2 42 G X S [.ref (gq G (65)), .int (a1), .int (a2)] (z_QI G X S' r) := by
  refine z_start (by decide +kernel) (Nat.le_of_ble_eq_true rfl) ?_
  intro p e s m below meth c ls E hr hlk hK hP hS hl
  have E : CallFix p m c cX10_sets 5 s _ lw_good RX10 := E
  have hx := E.1
  have hb := E.2.1
  have hown := E.2.2.2.1
  have hts := E.2.2.2.2
  have hJ21 : ∀ (v1 : Int32) (v2 : Int32) (t0 : Int32) (S : St) (H : Heap) (locs : List Loc) (ls : Array Slot), b_X10_sets_21 N v1 v2 t0 S = some (r, S') → z_P G X S H → z_S G s.heap H locs → lv_has ls 5 [(0, .ref (gq G (65))), (1, .int (v1)), (2, .int (v2))] → W p l e (z_rm 2 42) s m ([.ref (gq G (65)), .int (a1), .int (a2)] : List Value).toArray below meth c H locs 0 0 (MQ below (z_QI G X S' r) ([.ref (gq G (65)), .int (a1), .int (a2)] : List Value).toArray s 0 0 (z_Aq (gq G))) (F0 m 21 ls [.int (t0)]) := by
    intro v1 v2 t0 S H locs ls hf hP hS hl
    unfold b_X10_sets_21 at hf
    refine lv_istore_n (lv' := [(3, .int (t0)), (0, .ref (gq G (65))), (1, .int (v1)), (2, .int (v2))]) hx hb dX10_sets_21 rfl hl (by decide) rfl (fun ls hl => ?_)
    refine lv_iload_n hx hb dX10_sets_22 rfl (lv_at hl 0 rfl) ?_
    refine lv_if_eq (tgt := 32) hx hb dX10_sets_23 (by decide) (fun hc8 => ?_) (fun hc8 => ?_)
    · replace hf := z_ifp hf hc8
      refine lv_aload_n hx hb dX10_sets_32 rfl (lv_at hl 1 rfl) ?_
      refine z_getR (C := RX10) (T := TX10) (N := 75) (ci := 10) (k := 24) (o := 65) (t := 78) E hK hP iwX10 rfl rfl (by decide) (by decide) rfl rfl rfl tw976 dX10_sets_33 ?_
      refine lv_iload_n hx hb dX10_sets_36 rfl (lv_at hl 2 rfl) ?_
      obtain ⟨hg9, hf⟩ := z_gd_some hf
      refine m_ald (o := 78) (i := v1) E hK hP rfl (by decide) hg9 dX10_sets_37 ?_
      refine lv_istore (lv' := [(4, .int ((S 78 (v1 : Int32).toNatClampNeg))), (3, .int (t0)), (0, .ref (gq G (65))), (1, .int (v1)), (2, .int (v2))]) hx hb dX10_sets_38 hl (by decide) rfl (fun ls hl => ?_)
      refine lv_aload_n hx hb dX10_sets_40 rfl (lv_at hl 2 rfl) ?_
      refine z_getR (C := RX10) (T := TX10) (N := 75) (ci := 10) (k := 24) (o := 65) (t := 78) E hK hP iwX10 rfl rfl (by decide) (by decide) rfl rfl rfl tw976 dX10_sets_41 ?_
      refine lv_iload_n hx hb dX10_sets_44 rfl (lv_at hl 3 rfl) ?_
      refine lv_iload_n hx hb dX10_sets_45 rfl (lv_at hl 4 rfl) ?_
      obtain ⟨hg10, hf⟩ := z_gd_some hf
      refine m_ast (o := 78) (i := v1) (v := v2) E hK hq hP hS rfl (by decide) hg10 dX10_sets_46 (fun H locs hP hS => ?_)
      obtain ⟨S11, hf, hP⟩ := z_ltM hf hP
      refine lv_iload hx hb dX10_sets_47 (lv_at hl 0 rfl) ?_
      exact m_reti hx hb hr hlk hf hP hS dX10_sets_49
    · replace hf := z_ifn hf hc8
      refine lv_aload_n hx hb dX10_sets_26 rfl (lv_at hl 1 rfl) ?_
      refine lv_iload_n hx hb dX10_sets_27 rfl (lv_at hl 0 rfl) ?_
      obtain ⟨r13, S12, hz14, hf⟩ := z_bd_some hf
      refine z_ci (z_runV (o := 65) (ci := 10) E hK hP hS (c_X10_lower hq hz14) cv_X10_lower tw1331 rfl (by decide) rfl rfl ⟨Nat.le_of_ble_eq_true rfl, Nat.le_of_ble_eq_true rfl⟩ ⟨Nat.le_refl 0, Nat.le_refl 0⟩ hl.1 (Nat.le_of_ble_eq_true rfl) rfl dX10_sets_28) hS (fun H locs hP hS => ?_)
      exact m_reti hx hb hr hlk hf hP hS dX10_sets_31
  have hl : lv_has ls 5 [(0, .ref (gq G (65))), (1, .int (a1)), (2, .int (a2))] := hl
  unfold f_X10_sets at hf
  refine lv_iload_n hx hb dX10_sets_0 rfl (lv_at hl 1 rfl) ?_
  obtain ⟨r2, S1, hz3, hf⟩ := z_bd_some hf
  refine z_ci (z_runS E hK hP hS (c_X10_isVariable hq hz3) cs_X10_isVariable tw1344 rfl ⟨Nat.le_of_ble_eq_true rfl, Nat.le_of_ble_eq_true rfl⟩ ⟨Nat.le_refl 0, Nat.le_refl 0⟩ hl.1 (Nat.le_of_ble_eq_true rfl) rfl dX10_sets_1) hS (fun H locs hP hS => ?_)
  refine lv_if_ne (tgt := 11) hx hb dX10_sets_4 (by decide) (fun hc4 => ?_) (fun hc4 => ?_)
  · replace hf := z_ifn hf hc4
    refine lv_iload_n hx hb dX10_sets_11 rfl (lv_at hl 2 rfl) ?_
    refine lv_sipush (v := (-9999)) hx hb dX10_sets_12 (by decide) ?_
    refine lv_sipush (v := 9999) hx hb dX10_sets_15 (by decide) ?_
    obtain ⟨r6, S5, hz7, hf⟩ := z_bd_some hf
    refine z_ci (z_runS E hK hP hS (c_X10_bound hq hz7) cs_X10_bound tw1182 rfl ⟨Nat.le_of_ble_eq_true rfl, Nat.le_of_ble_eq_true rfl⟩ ⟨Nat.le_refl 0, Nat.le_refl 0⟩ hl.1 (Nat.le_of_ble_eq_true rfl) rfl dX10_sets_18) hS (fun H locs hP hS => ?_)
    exact hJ21 (a1) (a2) (r6) S5 _ _ _ hf hP hS (lv_sub hl [0, 1, 2] rfl)
  · replace hf := z_ifp hf hc4
    refine lv_iconst (v := (-1)) hx hb dX10_sets_7 (by decide) ?_
    refine lv_goto (tgt := 21) hx hb dX10_sets_8 (by decide) ?_
    exact hJ21 (a1) (a2) ((-1)) S1 _ _ _ hf hP hS (lv_sub hl [0, 1, 2] rfl)
theorem cv_X10_sets : z_cv yX10_sets cX10_sets 5 (some .int) RX10 2 := ⟨⟨tw1348, tw1349⟩, tw1350, tw11, by decide +kernel⟩
def f_X10_stateOf (N : Nat) (a1 : Int32) (S : St) : Option (Int32 × St) := z_gd (z_in a1 (z_ln 79)) (z_bd (f_X10_bits N ((S 79 (a1 : Int32).toNatClampNeg)) S) fun r3 S2 => if r3 ≤ 3 then (z_gd (z_in a1 (z_ln 79)) (z_bd (f_X10_bits N ((S2 79 (a1 : Int32).toNatClampNeg)) S2) fun r8 S7 => some (r8, S7))) else (some (3, S2)))
set_option maxHeartbeats 4000000 in
set_option maxRecDepth 100000 in
theorem c_X10_stateOf {l : Launch} {G : Cx} {X S S' : St} {N : Nat} {a1 : Int32} {r : Int32} (hq : z_inj (gq G)) (hf : f_X10_stateOf N a1 S = some (r, S')) : z_Ct l yX10_stateOf cX10_stateOf 2 (some .int) 1 22 G X S [.ref (gq G (65)), .int (a1)] (z_QI G X S' r) := by
  refine z_start (by decide +kernel) (Nat.le_of_ble_eq_true rfl) ?_
  intro p e s m below meth c ls E hr hlk hK hP hS hl
  have E : CallFix p m c cX10_stateOf 2 s _ lw_good RX10 := E
  have hx := E.1
  have hb := E.2.1
  have hown := E.2.2.2.1
  have hts := E.2.2.2.2
  have hl : lv_has ls 2 [(0, .ref (gq G (65))), (1, .int (a1))] := hl
  unfold f_X10_stateOf at hf
  refine lv_aload_n hx hb dX10_stateOf_0 rfl (lv_at hl 0 rfl) ?_
  refine z_getR (C := RX10) (T := TX10) (N := 75) (ci := 10) (k := 25) (o := 65) (t := 79) E hK hP iwX10 rfl rfl (by decide) (by decide) rfl rfl rfl tw977 dX10_stateOf_1 ?_
  refine lv_iload_n hx hb dX10_stateOf_4 rfl (lv_at hl 1 rfl) ?_
  obtain ⟨hg1, hf⟩ := z_gd_some hf
  refine m_ald (o := 79) (i := a1) E hK hP rfl (by decide) hg1 dX10_stateOf_5 ?_
  obtain ⟨r3, S2, hz4, hf⟩ := z_bd_some hf
  refine z_ci (z_runS E hK hP hS (c_X10_bits hq hz4) cs_X10_bits tw1300 rfl ⟨Nat.le_of_ble_eq_true rfl, Nat.le_of_ble_eq_true rfl⟩ ⟨Nat.le_refl 0, Nat.le_refl 0⟩ hl.1 (Nat.le_of_ble_eq_true rfl) rfl dX10_stateOf_6) hS (fun H locs hP hS => ?_)
  refine lv_iconst (v := 3) hx hb dX10_stateOf_9 (by decide) ?_
  refine lv_icmp_le (tgt := 17) hx hb dX10_stateOf_10 (by decide) (fun hc5 => ?_) (fun hc5 => ?_)
  · replace hf := z_ifp hf hc5
    refine lv_aload_n hx hb dX10_stateOf_17 rfl (lv_at hl 0 rfl) ?_
    refine z_getR (C := RX10) (T := TX10) (N := 75) (ci := 10) (k := 25) (o := 65) (t := 79) E hK hP iwX10 rfl rfl (by decide) (by decide) rfl rfl rfl tw977 dX10_stateOf_18 ?_
    refine lv_iload_n hx hb dX10_stateOf_21 rfl (lv_at hl 1 rfl) ?_
    obtain ⟨hg6, hf⟩ := z_gd_some hf
    refine m_ald (o := 79) (i := a1) E hK hP rfl (by decide) hg6 dX10_stateOf_22 ?_
    obtain ⟨r8, S7, hz9, hf⟩ := z_bd_some hf
    refine z_ci (z_runS E hK hP hS (c_X10_bits hq hz9) cs_X10_bits tw1300 rfl ⟨Nat.le_of_ble_eq_true rfl, Nat.le_of_ble_eq_true rfl⟩ ⟨Nat.le_refl 0, Nat.le_refl 0⟩ hl.1 (Nat.le_of_ble_eq_true rfl) rfl dX10_stateOf_23) hS (fun H locs hP hS => ?_)
    exact m_reti hx hb hr hlk hf hP hS dX10_stateOf_26
  · replace hf := z_ifn hf hc5
    refine lv_iconst (v := 3) hx hb dX10_stateOf_13 (by decide) ?_
    refine lv_goto (tgt := 26) hx hb dX10_stateOf_14 (by decide) ?_
    exact m_reti hx hb hr hlk hf hP hS dX10_stateOf_26
theorem cv_X10_stateOf : z_cv yX10_stateOf cX10_stateOf 2 (some .int) RX10 1 := ⟨⟨tw1357, twp65⟩, tw1358, tw11, by decide +kernel⟩
def f_X10_cache (N : Nat) (a1 : Int32) (a2 : Int32) (S : St) : Option (Int32 × St) := z_bd (f_X10_isIn N (a1) (0) (((S 65 7) - 1)) S) fun r2 S1 => if r2 = 0 then (z_bd (f_X10_no N ((-1)) S1) fun r19 S18 => some (r19, S18)) else (if a2 = 0 then (z_bd (f_X10_stateOf N (a1) S1) fun r7 S6 => some (r7, S6)) else (if a2 = 1 then (z_gd (z_in a1 (z_ln 79)) (some ((S1 79 (a1 : Int32).toNatClampNeg), S1))) else (if a2 = 2 then (z_gd (z_in a1 (z_ln 80)) (some ((S1 80 (a1 : Int32).toNatClampNeg), S1))) else (if a2 = 3 then (z_gd (z_in a1 (z_ln 81)) (some ((S1 81 (a1 : Int32).toNatClampNeg), S1))) else (z_bd (f_X10_no N ((-2)) S1) fun r16 S15 => some (r16, S15))))))
set_option maxHeartbeats 4000000 in
set_option maxRecDepth 100000 in
theorem c_X10_cache {l : Launch} {G : Cx} {X S S' : St} {N : Nat} {a1 : Int32} {a2 : Int32} {r : Int32} (hq : z_inj (gq G)) (hf : f_X10_cache N a1 a2 S = some (r, S')) : z_Ct l yX10_cache cX10_cache 3 (some .int) 2 43 G X S [.ref (gq G (65)), .int (a1), .int (a2)] (z_QI G X S' r) := by
  refine z_start (by decide +kernel) (Nat.le_of_ble_eq_true rfl) ?_
  intro p e s m below meth c ls E hr hlk hK hP hS hl
  have E : CallFix p m c cX10_cache 3 s _ lw_good RX10 := E
  have hx := E.1
  have hb := E.2.1
  have hown := E.2.2.2.1
  have hts := E.2.2.2.2
  have hl : lv_has ls 3 [(0, .ref (gq G (65))), (1, .int (a1)), (2, .int (a2))] := hl
  unfold f_X10_cache at hf
  refine lv_iload_n hx hb dX10_cache_0 rfl (lv_at hl 1 rfl) ?_
  refine lv_iconst (v := 0) hx hb dX10_cache_1 (by decide) ?_
  refine lv_aload_n hx hb dX10_cache_2 rfl (lv_at hl 0 rfl) ?_
  refine m_getI (C := RX10) (T := TX10) (N := 75) (ci := 10) (k := 7) (o := 65) E hK hP iwX10 rfl rfl (by decide) (by decide) rfl rfl (by decide) tw959 dX10_cache_3 ?_
  refine lv_iconst (v := 1) hx hb dX10_cache_6 (by decide) ?_
  refine lv_isub hx hb dX10_cache_7 ?_
  obtain ⟨r2, S1, hz3, hf⟩ := z_bd_some hf
  refine z_ci (z_runS E hK hP hS (c_X10_isIn hq hz3) cs_X10_isIn tw943 rfl ⟨Nat.le_of_ble_eq_true rfl, Nat.le_of_ble_eq_true rfl⟩ ⟨Nat.le_refl 0, Nat.le_refl 0⟩ hl.1 (Nat.le_of_ble_eq_true rfl) rfl dX10_cache_8) hS (fun H locs hP hS => ?_)
  refine lv_if_ne (tgt := 20) hx hb dX10_cache_11 (by decide) (fun hc4 => ?_) (fun hc4 => ?_)
  · replace hf := z_ifn hf hc4
    refine lv_iload_n hx hb dX10_cache_20 rfl (lv_at hl 2 rfl) ?_
    by_cases hc5 : a2 = 0
    · replace hf := z_ifp hf hc5
      refine lv_tableIn (off := 31) (tgt := 52) hx hb dX10_cache_21 (by rw [hc5]; decide) (by rw [hc5]; decide) (by rw [hc5]; decide) (by decide) ?_
      refine lv_aload_n hx hb dX10_cache_52 rfl (lv_at hl 0 rfl) ?_
      refine lv_iload_n hx hb dX10_cache_53 rfl (lv_at hl 1 rfl) ?_
      obtain ⟨r7, S6, hz8, hf⟩ := z_bd_some hf
      refine z_ci (z_runV (o := 65) (ci := 10) E hK hP hS (c_X10_stateOf hq hz8) cv_X10_stateOf tw1355 rfl (by decide) rfl rfl ⟨Nat.le_of_ble_eq_true rfl, Nat.le_of_ble_eq_true rfl⟩ ⟨Nat.le_refl 0, Nat.le_refl 0⟩ hl.1 (Nat.le_of_ble_eq_true rfl) rfl dX10_cache_54) hS (fun H locs hP hS => ?_)
      exact m_reti hx hb hr hlk hf hP hS dX10_cache_57
    · replace hf := z_ifn hf hc5
      by_cases hc9 : a2 = 1
      · replace hf := z_ifp hf hc9
        refine lv_tableIn (off := 37) (tgt := 58) hx hb dX10_cache_21 (by rw [hc9]; decide) (by rw [hc9]; decide) (by rw [hc9]; decide) (by decide) ?_
        refine lv_aload_n hx hb dX10_cache_58 rfl (lv_at hl 0 rfl) ?_
        refine z_getR (C := RX10) (T := TX10) (N := 75) (ci := 10) (k := 25) (o := 65) (t := 79) E hK hP iwX10 rfl rfl (by decide) (by decide) rfl rfl rfl tw977 dX10_cache_59 ?_
        refine lv_iload_n hx hb dX10_cache_62 rfl (lv_at hl 1 rfl) ?_
        obtain ⟨hg10, hf⟩ := z_gd_some hf
        refine m_ald (o := 79) (i := a1) E hK hP rfl (by decide) hg10 dX10_cache_63 ?_
        exact m_reti hx hb hr hlk hf hP hS dX10_cache_64
      · replace hf := z_ifn hf hc9
        by_cases hc11 : a2 = 2
        · replace hf := z_ifp hf hc11
          refine lv_tableIn (off := 44) (tgt := 65) hx hb dX10_cache_21 (by rw [hc11]; decide) (by rw [hc11]; decide) (by rw [hc11]; decide) (by decide) ?_
          refine lv_aload_n hx hb dX10_cache_65 rfl (lv_at hl 0 rfl) ?_
          refine z_getR (C := RX10) (T := TX10) (N := 75) (ci := 10) (k := 26) (o := 65) (t := 80) E hK hP iwX10 rfl rfl (by decide) (by decide) rfl rfl rfl tw978 dX10_cache_66 ?_
          refine lv_iload_n hx hb dX10_cache_69 rfl (lv_at hl 1 rfl) ?_
          obtain ⟨hg12, hf⟩ := z_gd_some hf
          refine m_ald (o := 80) (i := a1) E hK hP rfl (by decide) hg12 dX10_cache_70 ?_
          exact m_reti hx hb hr hlk hf hP hS dX10_cache_71
        · replace hf := z_ifn hf hc11
          by_cases hc13 : a2 = 3
          · replace hf := z_ifp hf hc13
            refine lv_tableIn (off := 51) (tgt := 72) hx hb dX10_cache_21 (by rw [hc13]; decide) (by rw [hc13]; decide) (by rw [hc13]; decide) (by decide) ?_
            refine lv_aload_n hx hb dX10_cache_72 rfl (lv_at hl 0 rfl) ?_
            refine z_getR (C := RX10) (T := TX10) (N := 75) (ci := 10) (k := 27) (o := 65) (t := 81) E hK hP iwX10 rfl rfl (by decide) (by decide) rfl rfl rfl tw979 dX10_cache_73 ?_
            refine lv_iload_n hx hb dX10_cache_76 rfl (lv_at hl 1 rfl) ?_
            obtain ⟨hg14, hf⟩ := z_gd_some hf
            refine m_ald (o := 81) (i := a1) E hK hP rfl (by decide) hg14 dX10_cache_77 ?_
            exact m_reti hx hb hr hlk hf hP hS dX10_cache_78
          · replace hf := z_ifn hf hc13
            refine lv_tableOut (tgt := 79) hx hb dX10_cache_21 (by have := lv_neT (a := 0) hc5 (by decide); have := lv_neT (a := 1) hc9 (by decide); have := lv_neT (a := 2) hc11 (by decide); have := lv_neT (a := 3) hc13 (by decide); omega) (by decide) ?_
            refine lv_aload_n hx hb dX10_cache_79 rfl (lv_at hl 0 rfl) ?_
            refine lv_bipush (v := (-2)) hx hb dX10_cache_80 (by decide) ?_
            obtain ⟨r16, S15, hz17, hf⟩ := z_bd_some hf
            refine z_ci (z_runV (o := 65) (ci := 10) E hK hP hS (c_X10_no hq hz17) cv_X10_no tw1185 rfl (by decide) rfl rfl ⟨Nat.le_of_ble_eq_true rfl, Nat.le_of_ble_eq_true rfl⟩ ⟨Nat.le_refl 0, Nat.le_refl 0⟩ hl.1 (Nat.le_of_ble_eq_true rfl) rfl dX10_cache_82) hS (fun H locs hP hS => ?_)
            exact m_reti hx hb hr hlk hf hP hS dX10_cache_85
  · replace hf := z_ifp hf hc4
    refine lv_aload_n hx hb dX10_cache_14 rfl (lv_at hl 0 rfl) ?_
    refine lv_iconst (v := (-1)) hx hb dX10_cache_15 (by decide) ?_
    obtain ⟨r19, S18, hz20, hf⟩ := z_bd_some hf
    refine z_ci (z_runV (o := 65) (ci := 10) E hK hP hS (c_X10_no hq hz20) cv_X10_no tw1185 rfl (by decide) rfl rfl ⟨Nat.le_of_ble_eq_true rfl, Nat.le_of_ble_eq_true rfl⟩ ⟨Nat.le_refl 0, Nat.le_refl 0⟩ hl.1 (Nat.le_of_ble_eq_true rfl) rfl dX10_cache_16) hS (fun H locs hP hS => ?_)
    exact m_reti hx hb hr hlk hf hP hS dX10_cache_19
theorem cv_X10_cache : z_cv yX10_cache cX10_cache 3 (some .int) RX10 2 := ⟨⟨tw1352, tw1353⟩, tw1354, tw11, by decide +kernel⟩
def b_X10_minds_28 (N : Nat) (k28 : Int32 → St → Option (St)) (v1 : Int32) (S : St) : Option (St) := if 10 ≤ v1 then (some S) else (z_gd (z_in v1 (z_ln 79)) (z_gd (z_in (6 + v1) (z_ln 99)) (z_lt (z_wr S 99 ((6 + v1) : Int32).toNatClampNeg (S 79 (v1 : Int32).toNatClampNeg)) fun S8 => z_gd (z_in v1 (z_ln 80)) (z_gd (z_in (16 + v1) (z_ln 99)) (z_lt (z_wr S8 99 ((16 + v1) : Int32).toNatClampNeg (S8 80 (v1 : Int32).toNatClampNeg)) fun S11 => z_gd (z_in v1 (z_ln 81)) (z_gd (z_in (26 + v1) (z_ln 99)) (z_lt (z_wr S11 99 ((26 + v1) : Int32).toNatClampNeg (S11 81 (v1 : Int32).toNatClampNeg)) fun S14 => k28 ((v1 + 1)) S14)))))))
def f_X10_minds_28 (N : Nat) : Nat → Int32 → St → Option (St)
  | 0 => fun _ _ => none
  | n + 1 => b_X10_minds_28 N (f_X10_minds_28 N n)
def b_X10_minds_2 (N : Nat) (k2 : Int32 → St → Option (St)) (v1 : Int32) (S : St) : Option (St) := if 6 ≤ v1 then (f_X10_minds_28 N N (0) S) else (z_gd (z_in v1 (z_ln 78)) (z_gd (z_in v1 (z_ln 99)) (z_lt (z_wr S 99 (v1 : Int32).toNatClampNeg (S 78 (v1 : Int32).toNatClampNeg)) fun S4 => k2 ((v1 + 1)) S4)))
def f_X10_minds_2 (N : Nat) : Nat → Int32 → St → Option (St)
  | 0 => fun _ _ => none
  | n + 1 => b_X10_minds_2 N (f_X10_minds_2 N n)
def f_X10_minds (N : Nat) (S : St) : Option (St) := f_X10_minds_2 N N (0) S
set_option maxHeartbeats 4000000 in
set_option maxRecDepth 100000 in
theorem c_X10_minds {l : Launch} {G : Cx} {X S S' : St} {N : Nat} (hq : z_inj (gq G)) (hf : f_X10_minds N S = some S') : z_Ct l yX10_minds cX10_minds 2 none 0 0 G X S [.ref (gq G (65))] (z_QV G X S') := by
  refine z_start (by decide +kernel) (Nat.le_of_ble_eq_true rfl) ?_
  intro p e s m below meth c ls E hr hlk hK hP hS hl
  have E : CallFix p m c cX10_minds 2 s _ lw_good RX10 := E
  have hx := E.1
  have hb := E.2.1
  have hown := E.2.2.2.1
  have hts := E.2.2.2.2
  have hB28 : ∀ (k28 : Int32 → St → Option (St)) (hk28 : ∀ (v1 : Int32) (S : St) (H : Heap) (locs : List Loc) (ls : Array Slot), k28 v1 S = some S' → z_P G X S H → z_S G s.heap H locs → lv_has ls 2 [(0, .ref (gq G (65))), (1, .int (v1))] → W p l e (z_rm 0 0) s m ([.ref (gq G (65))] : List Value).toArray below meth c H locs 0 0 (MQ below (z_QV G X S') ([.ref (gq G (65))] : List Value).toArray s 0 0 (z_Aq (gq G))) (F0 m 28 ls [])), ∀ (v1 : Int32) (S : St) (H : Heap) (locs : List Loc) (ls : Array Slot), b_X10_minds_28 N k28 v1 S = some S' → z_P G X S H → z_S G s.heap H locs → lv_has ls 2 [(0, .ref (gq G (65))), (1, .int (v1))] → W p l e (z_rm 0 0) s m ([.ref (gq G (65))] : List Value).toArray below meth c H locs 0 0 (MQ below (z_QV G X S') ([.ref (gq G (65))] : List Value).toArray s 0 0 (z_Aq (gq G))) (F0 m 28 ls []) := by
    intro k28 hk28 v1 S H locs ls hf hP hS hl
    unfold b_X10_minds_28 at hf
    refine lv_iload_n hx hb dX10_minds_28 rfl (lv_at hl 1 rfl) ?_
    refine lv_bipush (v := 10) hx hb dX10_minds_29 (by decide) ?_
    refine lv_icmp_ge (tgt := 85) hx hb dX10_minds_31 (by decide) (fun hc5 => ?_) (fun hc5 => ?_)
    · replace hf := z_ifp hf hc5
      exact m_retv hx hb hr hlk hf hP hS dX10_minds_85
    · replace hf := z_ifn hf hc5
      refine lv_aload_n hx hb dX10_minds_34 rfl (lv_at hl 0 rfl) ?_
      refine z_getR (C := RX10) (T := TX10) (N := 75) (ci := 10) (k := 67) (o := 65) (t := 99) E hK hP iwX10 rfl rfl (by decide) (by decide) rfl rfl rfl tw1019 dX10_minds_35 ?_
      refine lv_bipush (v := 6) hx hb dX10_minds_38 (by decide) ?_
      refine lv_iload_n hx hb dX10_minds_40 rfl (lv_at hl 1 rfl) ?_
      refine lv_iadd hx hb dX10_minds_41 ?_
      refine lv_aload_n hx hb dX10_minds_42 rfl (lv_at hl 0 rfl) ?_
      refine z_getR (C := RX10) (T := TX10) (N := 75) (ci := 10) (k := 25) (o := 65) (t := 79) E hK hP iwX10 rfl rfl (by decide) (by decide) rfl rfl rfl tw977 dX10_minds_43 ?_
      refine lv_iload_n hx hb dX10_minds_46 rfl (lv_at hl 1 rfl) ?_
      obtain ⟨hg6, hf⟩ := z_gd_some hf
      refine m_ald (o := 79) (i := v1) E hK hP rfl (by decide) hg6 dX10_minds_47 ?_
      obtain ⟨hg7, hf⟩ := z_gd_some hf
      refine m_ast (o := 99) (i := (6 + v1)) (v := (S 79 (v1 : Int32).toNatClampNeg)) E hK hq hP hS rfl (by decide) hg7 dX10_minds_48 (fun H locs hP hS => ?_)
      obtain ⟨S8, hf, hP⟩ := z_ltM hf hP
      refine lv_aload_n hx hb dX10_minds_49 rfl (lv_at hl 0 rfl) ?_
      refine z_getR (C := RX10) (T := TX10) (N := 75) (ci := 10) (k := 67) (o := 65) (t := 99) E hK hP iwX10 rfl rfl (by decide) (by decide) rfl rfl rfl tw1019 dX10_minds_50 ?_
      refine lv_bipush (v := 16) hx hb dX10_minds_53 (by decide) ?_
      refine lv_iload_n hx hb dX10_minds_55 rfl (lv_at hl 1 rfl) ?_
      refine lv_iadd hx hb dX10_minds_56 ?_
      refine lv_aload_n hx hb dX10_minds_57 rfl (lv_at hl 0 rfl) ?_
      refine z_getR (C := RX10) (T := TX10) (N := 75) (ci := 10) (k := 26) (o := 65) (t := 80) E hK hP iwX10 rfl rfl (by decide) (by decide) rfl rfl rfl tw978 dX10_minds_58 ?_
      refine lv_iload_n hx hb dX10_minds_61 rfl (lv_at hl 1 rfl) ?_
      obtain ⟨hg9, hf⟩ := z_gd_some hf
      refine m_ald (o := 80) (i := v1) E hK hP rfl (by decide) hg9 dX10_minds_62 ?_
      obtain ⟨hg10, hf⟩ := z_gd_some hf
      refine m_ast (o := 99) (i := (16 + v1)) (v := (S8 80 (v1 : Int32).toNatClampNeg)) E hK hq hP hS rfl (by decide) hg10 dX10_minds_63 (fun H locs hP hS => ?_)
      obtain ⟨S11, hf, hP⟩ := z_ltM hf hP
      refine lv_aload_n hx hb dX10_minds_64 rfl (lv_at hl 0 rfl) ?_
      refine z_getR (C := RX10) (T := TX10) (N := 75) (ci := 10) (k := 67) (o := 65) (t := 99) E hK hP iwX10 rfl rfl (by decide) (by decide) rfl rfl rfl tw1019 dX10_minds_65 ?_
      refine lv_bipush (v := 26) hx hb dX10_minds_68 (by decide) ?_
      refine lv_iload_n hx hb dX10_minds_70 rfl (lv_at hl 1 rfl) ?_
      refine lv_iadd hx hb dX10_minds_71 ?_
      refine lv_aload_n hx hb dX10_minds_72 rfl (lv_at hl 0 rfl) ?_
      refine z_getR (C := RX10) (T := TX10) (N := 75) (ci := 10) (k := 27) (o := 65) (t := 81) E hK hP iwX10 rfl rfl (by decide) (by decide) rfl rfl rfl tw979 dX10_minds_73 ?_
      refine lv_iload_n hx hb dX10_minds_76 rfl (lv_at hl 1 rfl) ?_
      obtain ⟨hg12, hf⟩ := z_gd_some hf
      refine m_ald (o := 81) (i := v1) E hK hP rfl (by decide) hg12 dX10_minds_77 ?_
      obtain ⟨hg13, hf⟩ := z_gd_some hf
      refine m_ast (o := 99) (i := (26 + v1)) (v := (S11 81 (v1 : Int32).toNatClampNeg)) E hK hq hP hS rfl (by decide) hg13 dX10_minds_78 (fun H locs hP hS => ?_)
      obtain ⟨S14, hf, hP⟩ := z_ltM hf hP
      refine lv_iinc (v := (v1 + 1)) (lv' := [(1, .int ((v1 + 1))), (0, .ref (gq G (65)))]) hx hb dX10_minds_79 hl (k := 1) rfl rfl (by decide) rfl (fun ls hl => ?_)
      refine lv_goto (tgt := 28) hx hb dX10_minds_82 (by decide) ?_
      exact hk28 ((v1 + 1)) S14 _ _ _ hf hP hS (lv_sub hl [1, 0] rfl)
  have hL28 : ∀ (n : Nat), ∀ (v1 : Int32) (S : St) (H : Heap) (locs : List Loc) (ls : Array Slot), f_X10_minds_28 N n v1 S = some S' → z_P G X S H → z_S G s.heap H locs → lv_has ls 2 [(0, .ref (gq G (65))), (1, .int (v1))] → W p l e (z_rm 0 0) s m ([.ref (gq G (65))] : List Value).toArray below meth c H locs 0 0 (MQ below (z_QV G X S') ([.ref (gq G (65))] : List Value).toArray s 0 0 (z_Aq (gq G))) (F0 m 28 ls []) := by
    intro  n
    induction n with
    | zero => intro _ _ _ _ _ hf; cases hf
    | succ n ih => exact hB28  _  ih
  have hB2 : ∀ (k2 : Int32 → St → Option (St)) (hk2 : ∀ (v1 : Int32) (S : St) (H : Heap) (locs : List Loc) (ls : Array Slot), k2 v1 S = some S' → z_P G X S H → z_S G s.heap H locs → lv_has ls 2 [(0, .ref (gq G (65))), (1, .int (v1))] → W p l e (z_rm 0 0) s m ([.ref (gq G (65))] : List Value).toArray below meth c H locs 0 0 (MQ below (z_QV G X S') ([.ref (gq G (65))] : List Value).toArray s 0 0 (z_Aq (gq G))) (F0 m 2 ls [])), ∀ (v1 : Int32) (S : St) (H : Heap) (locs : List Loc) (ls : Array Slot), b_X10_minds_2 N k2 v1 S = some S' → z_P G X S H → z_S G s.heap H locs → lv_has ls 2 [(0, .ref (gq G (65))), (1, .int (v1))] → W p l e (z_rm 0 0) s m ([.ref (gq G (65))] : List Value).toArray below meth c H locs 0 0 (MQ below (z_QV G X S') ([.ref (gq G (65))] : List Value).toArray s 0 0 (z_Aq (gq G))) (F0 m 2 ls []) := by
    intro k2 hk2 v1 S H locs ls hf hP hS hl
    unfold b_X10_minds_2 at hf
    refine lv_iload_n hx hb dX10_minds_2 rfl (lv_at hl 1 rfl) ?_
    refine lv_bipush (v := 6) hx hb dX10_minds_3 (by decide) ?_
    refine lv_icmp_ge (tgt := 26) hx hb dX10_minds_5 (by decide) (fun hc1 => ?_) (fun hc1 => ?_)
    · replace hf := z_ifp hf hc1
      refine lv_iconst (v := 0) hx hb dX10_minds_26 (by decide) ?_
      refine lv_istore_n (lv' := [(1, .int (0)), (0, .ref (gq G (65)))]) hx hb dX10_minds_27 rfl hl (by decide) rfl (fun ls hl => ?_)
      exact hL28 N (0) S _ _ _ hf hP hS (lv_sub hl [1, 0] rfl)
    · replace hf := z_ifn hf hc1
      refine lv_aload_n hx hb dX10_minds_8 rfl (lv_at hl 0 rfl) ?_
      refine z_getR (C := RX10) (T := TX10) (N := 75) (ci := 10) (k := 67) (o := 65) (t := 99) E hK hP iwX10 rfl rfl (by decide) (by decide) rfl rfl rfl tw1019 dX10_minds_9 ?_
      refine lv_iload_n hx hb dX10_minds_12 rfl (lv_at hl 1 rfl) ?_
      refine lv_aload_n hx hb dX10_minds_13 rfl (lv_at hl 0 rfl) ?_
      refine z_getR (C := RX10) (T := TX10) (N := 75) (ci := 10) (k := 24) (o := 65) (t := 78) E hK hP iwX10 rfl rfl (by decide) (by decide) rfl rfl rfl tw976 dX10_minds_14 ?_
      refine lv_iload_n hx hb dX10_minds_17 rfl (lv_at hl 1 rfl) ?_
      obtain ⟨hg2, hf⟩ := z_gd_some hf
      refine m_ald (o := 78) (i := v1) E hK hP rfl (by decide) hg2 dX10_minds_18 ?_
      obtain ⟨hg3, hf⟩ := z_gd_some hf
      refine m_ast (o := 99) (i := v1) (v := (S 78 (v1 : Int32).toNatClampNeg)) E hK hq hP hS rfl (by decide) hg3 dX10_minds_19 (fun H locs hP hS => ?_)
      obtain ⟨S4, hf, hP⟩ := z_ltM hf hP
      refine lv_iinc (v := (v1 + 1)) (lv' := [(1, .int ((v1 + 1))), (0, .ref (gq G (65)))]) hx hb dX10_minds_20 hl (k := 1) rfl rfl (by decide) rfl (fun ls hl => ?_)
      refine lv_goto (tgt := 2) hx hb dX10_minds_23 (by decide) ?_
      exact hk2 ((v1 + 1)) S4 _ _ _ hf hP hS (lv_sub hl [1, 0] rfl)
  have hL2 : ∀ (n : Nat), ∀ (v1 : Int32) (S : St) (H : Heap) (locs : List Loc) (ls : Array Slot), f_X10_minds_2 N n v1 S = some S' → z_P G X S H → z_S G s.heap H locs → lv_has ls 2 [(0, .ref (gq G (65))), (1, .int (v1))] → W p l e (z_rm 0 0) s m ([.ref (gq G (65))] : List Value).toArray below meth c H locs 0 0 (MQ below (z_QV G X S') ([.ref (gq G (65))] : List Value).toArray s 0 0 (z_Aq (gq G))) (F0 m 2 ls []) := by
    intro  n
    induction n with
    | zero => intro _ _ _ _ _ hf; cases hf
    | succ n ih => exact hB2  _  ih
  have hl : lv_has ls 2 [(0, .ref (gq G (65)))] := hl
  unfold f_X10_minds at hf
  refine lv_iconst (v := 0) hx hb dX10_minds_0 (by decide) ?_
  refine lv_istore_n (lv' := [(1, .int (0)), (0, .ref (gq G (65)))]) hx hb dX10_minds_1 rfl hl (by decide) rfl (fun ls hl => ?_)
  exact hL2 N (0) S _ _ _ hf hP hS (lv_sub hl [1, 0] rfl)
theorem cv_X10_minds : z_cv yX10_minds cX10_minds 2 none RX10 0 := ⟨⟨tw1369, twp67⟩, tw1370, tw11, by decide +kernel⟩
def b_X10_forgets_28 (N : Nat) (k28 : Int32 → St → Option (St)) (v1 : Int32) (S : St) : Option (St) := if 10 ≤ v1 then (some S) else (z_gd (z_in (6 + v1) (z_ln 99)) (z_gd (z_in v1 (z_ln 79)) (z_lt (z_wr S 79 (v1 : Int32).toNatClampNeg (S 99 ((6 + v1) : Int32).toNatClampNeg)) fun S8 => z_gd (z_in (16 + v1) (z_ln 99)) (z_gd (z_in v1 (z_ln 80)) (z_lt (z_wr S8 80 (v1 : Int32).toNatClampNeg (S8 99 ((16 + v1) : Int32).toNatClampNeg)) fun S11 => z_gd (z_in (26 + v1) (z_ln 99)) (z_gd (z_in v1 (z_ln 81)) (z_lt (z_wr S11 81 (v1 : Int32).toNatClampNeg (S11 99 ((26 + v1) : Int32).toNatClampNeg)) fun S14 => k28 ((v1 + 1)) S14)))))))
def f_X10_forgets_28 (N : Nat) : Nat → Int32 → St → Option (St)
  | 0 => fun _ _ => none
  | n + 1 => b_X10_forgets_28 N (f_X10_forgets_28 N n)
def b_X10_forgets_2 (N : Nat) (k2 : Int32 → St → Option (St)) (v1 : Int32) (S : St) : Option (St) := if 6 ≤ v1 then (f_X10_forgets_28 N N (0) S) else (z_gd (z_in v1 (z_ln 99)) (z_gd (z_in v1 (z_ln 78)) (z_lt (z_wr S 78 (v1 : Int32).toNatClampNeg (S 99 (v1 : Int32).toNatClampNeg)) fun S4 => k2 ((v1 + 1)) S4)))
def f_X10_forgets_2 (N : Nat) : Nat → Int32 → St → Option (St)
  | 0 => fun _ _ => none
  | n + 1 => b_X10_forgets_2 N (f_X10_forgets_2 N n)
def f_X10_forgets (N : Nat) (S : St) : Option (St) := f_X10_forgets_2 N N (0) S
set_option maxHeartbeats 4000000 in
set_option maxRecDepth 100000 in
theorem c_X10_forgets {l : Launch} {G : Cx} {X S S' : St} {N : Nat} (hq : z_inj (gq G)) (hf : f_X10_forgets N S = some S') : z_Ct l yX10_forgets cX10_forgets 2 none 0 0 G X S [.ref (gq G (65))] (z_QV G X S') := by
  refine z_start (by decide +kernel) (Nat.le_of_ble_eq_true rfl) ?_
  intro p e s m below meth c ls E hr hlk hK hP hS hl
  have E : CallFix p m c cX10_forgets 2 s _ lw_good RX10 := E
  have hx := E.1
  have hb := E.2.1
  have hown := E.2.2.2.1
  have hts := E.2.2.2.2
  have hB28 : ∀ (k28 : Int32 → St → Option (St)) (hk28 : ∀ (v1 : Int32) (S : St) (H : Heap) (locs : List Loc) (ls : Array Slot), k28 v1 S = some S' → z_P G X S H → z_S G s.heap H locs → lv_has ls 2 [(0, .ref (gq G (65))), (1, .int (v1))] → W p l e (z_rm 0 0) s m ([.ref (gq G (65))] : List Value).toArray below meth c H locs 0 0 (MQ below (z_QV G X S') ([.ref (gq G (65))] : List Value).toArray s 0 0 (z_Aq (gq G))) (F0 m 28 ls [])), ∀ (v1 : Int32) (S : St) (H : Heap) (locs : List Loc) (ls : Array Slot), b_X10_forgets_28 N k28 v1 S = some S' → z_P G X S H → z_S G s.heap H locs → lv_has ls 2 [(0, .ref (gq G (65))), (1, .int (v1))] → W p l e (z_rm 0 0) s m ([.ref (gq G (65))] : List Value).toArray below meth c H locs 0 0 (MQ below (z_QV G X S') ([.ref (gq G (65))] : List Value).toArray s 0 0 (z_Aq (gq G))) (F0 m 28 ls []) := by
    intro k28 hk28 v1 S H locs ls hf hP hS hl
    unfold b_X10_forgets_28 at hf
    refine lv_iload_n hx hb dX10_forgets_28 rfl (lv_at hl 1 rfl) ?_
    refine lv_bipush (v := 10) hx hb dX10_forgets_29 (by decide) ?_
    refine lv_icmp_ge (tgt := 85) hx hb dX10_forgets_31 (by decide) (fun hc5 => ?_) (fun hc5 => ?_)
    · replace hf := z_ifp hf hc5
      exact m_retv hx hb hr hlk hf hP hS dX10_forgets_85
    · replace hf := z_ifn hf hc5
      refine lv_aload_n hx hb dX10_forgets_34 rfl (lv_at hl 0 rfl) ?_
      refine z_getR (C := RX10) (T := TX10) (N := 75) (ci := 10) (k := 25) (o := 65) (t := 79) E hK hP iwX10 rfl rfl (by decide) (by decide) rfl rfl rfl tw977 dX10_forgets_35 ?_
      refine lv_iload_n hx hb dX10_forgets_38 rfl (lv_at hl 1 rfl) ?_
      refine lv_aload_n hx hb dX10_forgets_39 rfl (lv_at hl 0 rfl) ?_
      refine z_getR (C := RX10) (T := TX10) (N := 75) (ci := 10) (k := 67) (o := 65) (t := 99) E hK hP iwX10 rfl rfl (by decide) (by decide) rfl rfl rfl tw1019 dX10_forgets_40 ?_
      refine lv_bipush (v := 6) hx hb dX10_forgets_43 (by decide) ?_
      refine lv_iload_n hx hb dX10_forgets_45 rfl (lv_at hl 1 rfl) ?_
      refine lv_iadd hx hb dX10_forgets_46 ?_
      obtain ⟨hg6, hf⟩ := z_gd_some hf
      refine m_ald (o := 99) (i := (6 + v1)) E hK hP rfl (by decide) hg6 dX10_forgets_47 ?_
      obtain ⟨hg7, hf⟩ := z_gd_some hf
      refine m_ast (o := 79) (i := v1) (v := (S 99 ((6 + v1) : Int32).toNatClampNeg)) E hK hq hP hS rfl (by decide) hg7 dX10_forgets_48 (fun H locs hP hS => ?_)
      obtain ⟨S8, hf, hP⟩ := z_ltM hf hP
      refine lv_aload_n hx hb dX10_forgets_49 rfl (lv_at hl 0 rfl) ?_
      refine z_getR (C := RX10) (T := TX10) (N := 75) (ci := 10) (k := 26) (o := 65) (t := 80) E hK hP iwX10 rfl rfl (by decide) (by decide) rfl rfl rfl tw978 dX10_forgets_50 ?_
      refine lv_iload_n hx hb dX10_forgets_53 rfl (lv_at hl 1 rfl) ?_
      refine lv_aload_n hx hb dX10_forgets_54 rfl (lv_at hl 0 rfl) ?_
      refine z_getR (C := RX10) (T := TX10) (N := 75) (ci := 10) (k := 67) (o := 65) (t := 99) E hK hP iwX10 rfl rfl (by decide) (by decide) rfl rfl rfl tw1019 dX10_forgets_55 ?_
      refine lv_bipush (v := 16) hx hb dX10_forgets_58 (by decide) ?_
      refine lv_iload_n hx hb dX10_forgets_60 rfl (lv_at hl 1 rfl) ?_
      refine lv_iadd hx hb dX10_forgets_61 ?_
      obtain ⟨hg9, hf⟩ := z_gd_some hf
      refine m_ald (o := 99) (i := (16 + v1)) E hK hP rfl (by decide) hg9 dX10_forgets_62 ?_
      obtain ⟨hg10, hf⟩ := z_gd_some hf
      refine m_ast (o := 80) (i := v1) (v := (S8 99 ((16 + v1) : Int32).toNatClampNeg)) E hK hq hP hS rfl (by decide) hg10 dX10_forgets_63 (fun H locs hP hS => ?_)
      obtain ⟨S11, hf, hP⟩ := z_ltM hf hP
      refine lv_aload_n hx hb dX10_forgets_64 rfl (lv_at hl 0 rfl) ?_
      refine z_getR (C := RX10) (T := TX10) (N := 75) (ci := 10) (k := 27) (o := 65) (t := 81) E hK hP iwX10 rfl rfl (by decide) (by decide) rfl rfl rfl tw979 dX10_forgets_65 ?_
      refine lv_iload_n hx hb dX10_forgets_68 rfl (lv_at hl 1 rfl) ?_
      refine lv_aload_n hx hb dX10_forgets_69 rfl (lv_at hl 0 rfl) ?_
      refine z_getR (C := RX10) (T := TX10) (N := 75) (ci := 10) (k := 67) (o := 65) (t := 99) E hK hP iwX10 rfl rfl (by decide) (by decide) rfl rfl rfl tw1019 dX10_forgets_70 ?_
      refine lv_bipush (v := 26) hx hb dX10_forgets_73 (by decide) ?_
      refine lv_iload_n hx hb dX10_forgets_75 rfl (lv_at hl 1 rfl) ?_
      refine lv_iadd hx hb dX10_forgets_76 ?_
      obtain ⟨hg12, hf⟩ := z_gd_some hf
      refine m_ald (o := 99) (i := (26 + v1)) E hK hP rfl (by decide) hg12 dX10_forgets_77 ?_
      obtain ⟨hg13, hf⟩ := z_gd_some hf
      refine m_ast (o := 81) (i := v1) (v := (S11 99 ((26 + v1) : Int32).toNatClampNeg)) E hK hq hP hS rfl (by decide) hg13 dX10_forgets_78 (fun H locs hP hS => ?_)
      obtain ⟨S14, hf, hP⟩ := z_ltM hf hP
      refine lv_iinc (v := (v1 + 1)) (lv' := [(1, .int ((v1 + 1))), (0, .ref (gq G (65)))]) hx hb dX10_forgets_79 hl (k := 1) rfl rfl (by decide) rfl (fun ls hl => ?_)
      refine lv_goto (tgt := 28) hx hb dX10_forgets_82 (by decide) ?_
      exact hk28 ((v1 + 1)) S14 _ _ _ hf hP hS (lv_sub hl [1, 0] rfl)
  have hL28 : ∀ (n : Nat), ∀ (v1 : Int32) (S : St) (H : Heap) (locs : List Loc) (ls : Array Slot), f_X10_forgets_28 N n v1 S = some S' → z_P G X S H → z_S G s.heap H locs → lv_has ls 2 [(0, .ref (gq G (65))), (1, .int (v1))] → W p l e (z_rm 0 0) s m ([.ref (gq G (65))] : List Value).toArray below meth c H locs 0 0 (MQ below (z_QV G X S') ([.ref (gq G (65))] : List Value).toArray s 0 0 (z_Aq (gq G))) (F0 m 28 ls []) := by
    intro  n
    induction n with
    | zero => intro _ _ _ _ _ hf; cases hf
    | succ n ih => exact hB28  _  ih
  have hB2 : ∀ (k2 : Int32 → St → Option (St)) (hk2 : ∀ (v1 : Int32) (S : St) (H : Heap) (locs : List Loc) (ls : Array Slot), k2 v1 S = some S' → z_P G X S H → z_S G s.heap H locs → lv_has ls 2 [(0, .ref (gq G (65))), (1, .int (v1))] → W p l e (z_rm 0 0) s m ([.ref (gq G (65))] : List Value).toArray below meth c H locs 0 0 (MQ below (z_QV G X S') ([.ref (gq G (65))] : List Value).toArray s 0 0 (z_Aq (gq G))) (F0 m 2 ls [])), ∀ (v1 : Int32) (S : St) (H : Heap) (locs : List Loc) (ls : Array Slot), b_X10_forgets_2 N k2 v1 S = some S' → z_P G X S H → z_S G s.heap H locs → lv_has ls 2 [(0, .ref (gq G (65))), (1, .int (v1))] → W p l e (z_rm 0 0) s m ([.ref (gq G (65))] : List Value).toArray below meth c H locs 0 0 (MQ below (z_QV G X S') ([.ref (gq G (65))] : List Value).toArray s 0 0 (z_Aq (gq G))) (F0 m 2 ls []) := by
    intro k2 hk2 v1 S H locs ls hf hP hS hl
    unfold b_X10_forgets_2 at hf
    refine lv_iload_n hx hb dX10_forgets_2 rfl (lv_at hl 1 rfl) ?_
    refine lv_bipush (v := 6) hx hb dX10_forgets_3 (by decide) ?_
    refine lv_icmp_ge (tgt := 26) hx hb dX10_forgets_5 (by decide) (fun hc1 => ?_) (fun hc1 => ?_)
    · replace hf := z_ifp hf hc1
      refine lv_iconst (v := 0) hx hb dX10_forgets_26 (by decide) ?_
      refine lv_istore_n (lv' := [(1, .int (0)), (0, .ref (gq G (65)))]) hx hb dX10_forgets_27 rfl hl (by decide) rfl (fun ls hl => ?_)
      exact hL28 N (0) S _ _ _ hf hP hS (lv_sub hl [1, 0] rfl)
    · replace hf := z_ifn hf hc1
      refine lv_aload_n hx hb dX10_forgets_8 rfl (lv_at hl 0 rfl) ?_
      refine z_getR (C := RX10) (T := TX10) (N := 75) (ci := 10) (k := 24) (o := 65) (t := 78) E hK hP iwX10 rfl rfl (by decide) (by decide) rfl rfl rfl tw976 dX10_forgets_9 ?_
      refine lv_iload_n hx hb dX10_forgets_12 rfl (lv_at hl 1 rfl) ?_
      refine lv_aload_n hx hb dX10_forgets_13 rfl (lv_at hl 0 rfl) ?_
      refine z_getR (C := RX10) (T := TX10) (N := 75) (ci := 10) (k := 67) (o := 65) (t := 99) E hK hP iwX10 rfl rfl (by decide) (by decide) rfl rfl rfl tw1019 dX10_forgets_14 ?_
      refine lv_iload_n hx hb dX10_forgets_17 rfl (lv_at hl 1 rfl) ?_
      obtain ⟨hg2, hf⟩ := z_gd_some hf
      refine m_ald (o := 99) (i := v1) E hK hP rfl (by decide) hg2 dX10_forgets_18 ?_
      obtain ⟨hg3, hf⟩ := z_gd_some hf
      refine m_ast (o := 78) (i := v1) (v := (S 99 (v1 : Int32).toNatClampNeg)) E hK hq hP hS rfl (by decide) hg3 dX10_forgets_19 (fun H locs hP hS => ?_)
      obtain ⟨S4, hf, hP⟩ := z_ltM hf hP
      refine lv_iinc (v := (v1 + 1)) (lv' := [(1, .int ((v1 + 1))), (0, .ref (gq G (65)))]) hx hb dX10_forgets_20 hl (k := 1) rfl rfl (by decide) rfl (fun ls hl => ?_)
      refine lv_goto (tgt := 2) hx hb dX10_forgets_23 (by decide) ?_
      exact hk2 ((v1 + 1)) S4 _ _ _ hf hP hS (lv_sub hl [1, 0] rfl)
  have hL2 : ∀ (n : Nat), ∀ (v1 : Int32) (S : St) (H : Heap) (locs : List Loc) (ls : Array Slot), f_X10_forgets_2 N n v1 S = some S' → z_P G X S H → z_S G s.heap H locs → lv_has ls 2 [(0, .ref (gq G (65))), (1, .int (v1))] → W p l e (z_rm 0 0) s m ([.ref (gq G (65))] : List Value).toArray below meth c H locs 0 0 (MQ below (z_QV G X S') ([.ref (gq G (65))] : List Value).toArray s 0 0 (z_Aq (gq G))) (F0 m 2 ls []) := by
    intro  n
    induction n with
    | zero => intro _ _ _ _ _ hf; cases hf
    | succ n ih => exact hB2  _  ih
  have hl : lv_has ls 2 [(0, .ref (gq G (65)))] := hl
  unfold f_X10_forgets at hf
  refine lv_iconst (v := 0) hx hb dX10_forgets_0 (by decide) ?_
  refine lv_istore_n (lv' := [(1, .int (0)), (0, .ref (gq G (65)))]) hx hb dX10_forgets_1 rfl hl (by decide) rfl (fun ls hl => ?_)
  exact hL2 N (0) S _ _ _ hf hP hS (lv_sub hl [1, 0] rfl)
theorem cv_X10_forgets : z_cv yX10_forgets cX10_forgets 2 none RX10 0 := ⟨⟨tw1373, twp68⟩, tw1374, tw11, by decide +kernel⟩
def f_X10_goesWith (N : Nat) (a1 : Int32) (a2 : Int32) (S : St) : Option (St) := z_bv (f_X10_minds N S) fun S1 => z_gd (z_in a1 (z_ln 78)) (z_lt (z_wr S1 78 (a1 : Int32).toNatClampNeg a2) fun S4 => z_bv (f_X10_goes N S4) fun S5 => z_bv (f_X10_forgets N S5) fun S7 => some S7)
set_option maxHeartbeats 4000000 in
set_option maxRecDepth 100000 in
theorem c_X10_goesWith {l : Launch} {G : Cx} {X S S' : St} {N : Nat} {a1 : Int32} {a2 : Int32} (hq : z_inj (gq G)) (hf : f_X10_goesWith N a1 a2 S = some S') : z_Ct l yX10_goesWith cX10_goesWith 3 none 6 134 G X S [.ref (gq G (65)), .int (a1), .int (a2)] (z_QV G X S') := by
  refine z_start (by decide +kernel) (Nat.le_of_ble_eq_true rfl) ?_
  intro p e s m below meth c ls E hr hlk hK hP hS hl
  have E : CallFix p m c cX10_goesWith 3 s _ lw_good RX10 := E
  have hx := E.1
  have hb := E.2.1
  have hown := E.2.2.2.1
  have hts := E.2.2.2.2
  have hl : lv_has ls 3 [(0, .ref (gq G (65))), (1, .int (a1)), (2, .int (a2))] := hl
  unfold f_X10_goesWith at hf
  refine lv_aload_n hx hb dX10_goesWith_0 rfl (lv_at hl 0 rfl) ?_
  obtain ⟨S1, hz2, hf⟩ := z_bv_some hf
  refine z_cvo (z_runV (o := 65) (ci := 10) E hK hP hS (c_X10_minds hq hz2) cv_X10_minds tw1367 rfl (by decide) rfl rfl ⟨Nat.le_of_ble_eq_true rfl, Nat.le_of_ble_eq_true rfl⟩ ⟨Nat.le_refl 0, Nat.le_refl 0⟩ hl.1 (Nat.le_of_ble_eq_true rfl) rfl dX10_goesWith_1) hS (fun H locs hP hS => ?_)
  refine lv_aload_n hx hb dX10_goesWith_4 rfl (lv_at hl 0 rfl) ?_
  refine z_getR (C := RX10) (T := TX10) (N := 75) (ci := 10) (k := 24) (o := 65) (t := 78) E hK hP iwX10 rfl rfl (by decide) (by decide) rfl rfl rfl tw976 dX10_goesWith_5 ?_
  refine lv_iload_n hx hb dX10_goesWith_8 rfl (lv_at hl 1 rfl) ?_
  refine lv_iload_n hx hb dX10_goesWith_9 rfl (lv_at hl 2 rfl) ?_
  obtain ⟨hg3, hf⟩ := z_gd_some hf
  refine m_ast (o := 78) (i := a1) (v := a2) E hK hq hP hS rfl (by decide) hg3 dX10_goesWith_10 (fun H locs hP hS => ?_)
  obtain ⟨S4, hf, hP⟩ := z_ltM hf hP
  refine lv_aload_n hx hb dX10_goesWith_11 rfl (lv_at hl 0 rfl) ?_
  obtain ⟨S5, hz6, hf⟩ := z_bv_some hf
  refine z_cvo (z_runV (o := 65) (ci := 10) E hK hP hS (c_X10_goes hq hz6) cv_X10_goes tw1213 rfl (by decide) rfl rfl ⟨Nat.le_of_ble_eq_true rfl, Nat.le_of_ble_eq_true rfl⟩ ⟨Nat.le_refl 0, Nat.le_refl 0⟩ hl.1 (Nat.le_of_ble_eq_true rfl) rfl dX10_goesWith_12) hS (fun H locs hP hS => ?_)
  refine lv_aload_n hx hb dX10_goesWith_15 rfl (lv_at hl 0 rfl) ?_
  obtain ⟨S7, hz8, hf⟩ := z_bv_some hf
  refine z_cvo (z_runV (o := 65) (ci := 10) E hK hP hS (c_X10_forgets hq hz8) cv_X10_forgets tw1371 rfl (by decide) rfl rfl ⟨Nat.le_of_ble_eq_true rfl, Nat.le_of_ble_eq_true rfl⟩ ⟨Nat.le_refl 0, Nat.le_refl 0⟩ hl.1 (Nat.le_of_ble_eq_true rfl) rfl dX10_goesWith_16) hS (fun H locs hP hS => ?_)
  exact m_retv hx hb hr hlk hf hP hS dX10_goesWith_19
theorem cv_X10_goesWith : z_cv yX10_goesWith cX10_goesWith 3 none RX10 2 := ⟨⟨tw1365, twp66⟩, tw1366, tw11, by decide +kernel⟩
def f_X10_thinks (N : Nat) (a1 : Int32) (S : St) : Option (Int32 × St) := z_bd (f_X10_isIn N (a1) (0) (5) S) fun r2 S1 => if r2 = 0 then (z_bd (f_X10_lower N ((-2)) S1) fun r12 S11 => some (r12, S11)) else (z_gd (z_in 0 (z_ln 78)) (z_bv (f_X10_goesWith N (0) ((S1 78 (0 : Int32).toNatClampNeg)) S1) fun S6 => z_bd (f_X10_endedNow N (a1) S6) fun r9 S8 => some (r9, S8)))
set_option maxHeartbeats 4000000 in
set_option maxRecDepth 100000 in
theorem c_X10_thinks {l : Launch} {G : Cx} {X S S' : St} {N : Nat} {a1 : Int32} {r : Int32} (hq : z_inj (gq G)) (hf : f_X10_thinks N a1 S = some (r, S')) : z_Ct l yX10_thinks cX10_thinks 2 (some .int) 7 156 G X S [.ref (gq G (65)), .int (a1)] (z_QI G X S' r) := by
  refine z_start (by decide +kernel) (Nat.le_of_ble_eq_true rfl) ?_
  intro p e s m below meth c ls E hr hlk hK hP hS hl
  have E : CallFix p m c cX10_thinks 2 s _ lw_good RX10 := E
  have hx := E.1
  have hb := E.2.1
  have hown := E.2.2.2.1
  have hts := E.2.2.2.2
  have hl : lv_has ls 2 [(0, .ref (gq G (65))), (1, .int (a1))] := hl
  unfold f_X10_thinks at hf
  refine lv_iload_n hx hb dX10_thinks_0 rfl (lv_at hl 1 rfl) ?_
  refine lv_iconst (v := 0) hx hb dX10_thinks_1 (by decide) ?_
  refine lv_iconst (v := 5) hx hb dX10_thinks_2 (by decide) ?_
  obtain ⟨r2, S1, hz3, hf⟩ := z_bd_some hf
  refine z_ci (z_runS E hK hP hS (c_X10_isIn hq hz3) cs_X10_isIn tw943 rfl ⟨Nat.le_of_ble_eq_true rfl, Nat.le_of_ble_eq_true rfl⟩ ⟨Nat.le_refl 0, Nat.le_refl 0⟩ hl.1 (Nat.le_of_ble_eq_true rfl) rfl dX10_thinks_3) hS (fun H locs hP hS => ?_)
  refine lv_if_ne (tgt := 16) hx hb dX10_thinks_6 (by decide) (fun hc4 => ?_) (fun hc4 => ?_)
  · replace hf := z_ifn hf hc4
    refine lv_aload_n hx hb dX10_thinks_16 rfl (lv_at hl 0 rfl) ?_
    refine lv_iconst (v := 0) hx hb dX10_thinks_17 (by decide) ?_
    refine lv_aload_n hx hb dX10_thinks_18 rfl (lv_at hl 0 rfl) ?_
    refine z_getR (C := RX10) (T := TX10) (N := 75) (ci := 10) (k := 24) (o := 65) (t := 78) E hK hP iwX10 rfl rfl (by decide) (by decide) rfl rfl rfl tw976 dX10_thinks_19 ?_
    refine lv_iconst (v := 0) hx hb dX10_thinks_22 (by decide) ?_
    obtain ⟨hg5, hf⟩ := z_gd_some hf
    refine m_ald (o := 78) (i := 0) E hK hP rfl (by decide) hg5 dX10_thinks_23 ?_
    obtain ⟨S6, hz7, hf⟩ := z_bv_some hf
    refine z_cvo (z_runV (o := 65) (ci := 10) E hK hP hS (c_X10_goesWith hq hz7) cv_X10_goesWith tw1363 rfl (by decide) rfl rfl ⟨Nat.le_of_ble_eq_true rfl, Nat.le_of_ble_eq_true rfl⟩ ⟨Nat.le_refl 0, Nat.le_refl 0⟩ hl.1 (Nat.le_of_ble_eq_true rfl) rfl dX10_thinks_24) hS (fun H locs hP hS => ?_)
    refine lv_aload_n hx hb dX10_thinks_27 rfl (lv_at hl 0 rfl) ?_
    refine lv_iload_n hx hb dX10_thinks_28 rfl (lv_at hl 1 rfl) ?_
    obtain ⟨r9, S8, hz10, hf⟩ := z_bd_some hf
    refine z_ci (z_runV (o := 65) (ci := 10) E hK hP hS (c_X10_endedNow hq hz10) cv_X10_endedNow tw1375 rfl (by decide) rfl rfl ⟨Nat.le_of_ble_eq_true rfl, Nat.le_of_ble_eq_true rfl⟩ ⟨Nat.le_refl 0, Nat.le_refl 0⟩ hl.1 (Nat.le_of_ble_eq_true rfl) rfl dX10_thinks_29) hS (fun H locs hP hS => ?_)
    exact m_reti hx hb hr hlk hf hP hS dX10_thinks_32
  · replace hf := z_ifp hf hc4
    refine lv_aload_n hx hb dX10_thinks_9 rfl (lv_at hl 0 rfl) ?_
    refine lv_bipush (v := (-2)) hx hb dX10_thinks_10 (by decide) ?_
    obtain ⟨r12, S11, hz13, hf⟩ := z_bd_some hf
    refine z_ci (z_runV (o := 65) (ci := 10) E hK hP hS (c_X10_lower hq hz13) cv_X10_lower tw1331 rfl (by decide) rfl rfl ⟨Nat.le_of_ble_eq_true rfl, Nat.le_of_ble_eq_true rfl⟩ ⟨Nat.le_refl 0, Nat.le_refl 0⟩ hl.1 (Nat.le_of_ble_eq_true rfl) rfl dX10_thinks_12) hS (fun H locs hP hS => ?_)
    exact m_reti hx hb hr hlk hf hP hS dX10_thinks_15
theorem cv_X10_thinks : z_cv yX10_thinks cX10_thinks 2 (some .int) RX10 1 := ⟨⟨tw1360, tw1361⟩, tw1362, tw11, by decide +kernel⟩
