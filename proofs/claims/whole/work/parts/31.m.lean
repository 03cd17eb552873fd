def b_X10_builds_78 (N : Nat) (k22 : Int32 → Int32 → St → Option (St)) (v1 : Int32) (v2 : Int32) (S : St) : Option (St) := z_lt (z_wr S 65 20 ((S 65 20) + 1)) fun S17 => k22 (v1) ((v2 + (-1))) S17
def b_X10_builds_22 (N : Nat) (k22 : Int32 → Int32 → St → Option (St)) (v1 : Int32) (v2 : Int32) (S : St) : Option (St) := if v2 < 0 then (z_bd (f_X10_pops N S) fun r5 S4 => z_lt (z_wr S4 65 8 r5) fun S7 => some S7) else (z_gd (z_in v2 (z_ln 73)) (z_gd (z_in v2 (z_ln 74)) (if (S 74 (v2 : Int32).toNatClampNeg) = 1 then (z_gd (z_in (S 65 20) (z_ln 77)) (z_lt (z_wr S 77 ((S 65 20) : Int32).toNatClampNeg ((S 73 (v2 : Int32).toNatClampNeg) - 97)) fun S16 => b_X10_builds_78 N k22 (v1) (v2) S16)) else (z_bv (f_X10_buildsOne N ((S 73 (v2 : Int32).toNatClampNeg)) (v1) S) fun S11 => z_gd (z_in (S11 65 20) (z_ln 77)) (z_lt (z_wr S11 77 ((S11 65 20) : Int32).toNatClampNeg v1) fun S14 => b_X10_builds_78 N k22 ((v1 + 1)) (v2) S14)))))
def f_X10_builds_22 (N : Nat) : Nat → Int32 → Int32 → St → Option (St)
  | 0 => fun _ _ _ => none
  | n + 1 => b_X10_builds_22 N (f_X10_builds_22 N n)
def f_X10_builds (N : Nat) (S : St) : Option (St) := z_lt (z_wr S 65 21 (S 65 7)) fun S1 => z_lt (z_wr S1 65 20 0) fun S2 => f_X10_builds_22 N N (0) (((S2 65 16) - 1)) S2
set_option maxHeartbeats 4000000 in
set_option maxRecDepth 100000 in
theorem c_X10_builds {l : Launch} {G : Cx} {X S S' : St} {N : Nat} (hq : z_inj (gq G)) (hf : f_X10_builds N S = some S') : z_Ct l yX10_builds cX10_builds 4 none 2 44 G X S [.ref (gq G (65))] (z_QV G X S') := by
  refine z_start (by decide +kernel) (Nat.le_of_ble_eq_true rfl) ?_
  intro p e s m below meth c ls E hr hlk hK hP hS hl
  have E : CallFix p m c cX10_builds 4 s _ lw_good RX10 := E
  have hx := E.1
  have hb := E.2.1
  have hown := E.2.2.2.1
  have hts := E.2.2.2.2
  have hJ78 : ∀ (k22 : Int32 → Int32 → St → Option (St)) (hk22 : ∀ (v1 : Int32) (v2 : Int32) (S : St) (H : Heap) (locs : List Loc) (ls : Array Slot), k22 v1 v2 S = some S' → z_P G X S H → z_S G s.heap H locs → lv_has ls 4 [(0, .ref (gq G (65))), (1, .int (v1)), (2, .int (v2))] → W p l e (z_rm 2 44) s m ([.ref (gq G (65))] : List Value).toArray below meth c H locs 0 0 (MQ below (z_QV G X S') ([.ref (gq G (65))] : List Value).toArray s 0 0 (z_Aq (gq G))) (F0 m 22 ls [])), ∀ (v1 : Int32) (v2 : Int32) (S : St) (H : Heap) (locs : List Loc) (ls : Array Slot), b_X10_builds_78 N k22 v1 v2 S = some S' → z_P G X S H → z_S G s.heap H locs → lv_has ls 4 [(0, .ref (gq G (65))), (1, .int (v1)), (2, .int (v2))] → W p l e (z_rm 2 44) s m ([.ref (gq G (65))] : List Value).toArray below meth c H locs 0 0 (MQ below (z_QV G X S') ([.ref (gq G (65))] : List Value).toArray s 0 0 (z_Aq (gq G))) (F0 m 78 ls []) := by
    intro k22 hk22 v1 v2 S H locs ls hf hP hS hl
    unfold b_X10_builds_78 at hf
    refine lv_aload_n hx hb dX10_builds_78 rfl (lv_at hl 0 rfl) ?_
    refine lv_dup hx hb dX10_builds_79 rfl ?_
    refine m_getI (C := RX10) (T := TX10) (N := 75) (ci := 10) (k := 20) (o := 65) E hK hP iwX10 rfl rfl (by decide) (by decide) rfl rfl (by decide) tw972 dX10_builds_80 ?_
    refine lv_iconst (v := 1) hx hb dX10_builds_83 (by decide) ?_
    refine lv_iadd hx hb dX10_builds_84 ?_
    refine m_putI (C := RX10) (T := TX10) (N := 75) (ci := 10) (k := 20) (o := 65) (v := ((S 65 20) + 1)) (ty := .int) E hK hq hP hS iwX10 tyX10 tyX10_ok nmX10 rfl rfl (by decide) (by decide) rfl rfl (by decide) rfl (tyX10_ok 20 (by decide)) ⟨rfl, rfl⟩ tw972 dX10_builds_85 (fun H locs hP hS => ?_)
    obtain ⟨S17, hf, hP⟩ := z_ltM hf hP
    refine lv_iinc (v := (v2 + (-1))) (lv' := [(2, .int ((v2 + (-1)))), (0, .ref (gq G (65))), (1, .int (v1))]) hx hb dX10_builds_88 hl (k := 2) rfl rfl (by decide) rfl (fun ls hl => ?_)
    refine lv_goto (tgt := 22) hx hb dX10_builds_91 (by decide) ?_
    exact hk22 (v1) ((v2 + (-1))) S17 _ _ _ hf hP hS (lv_sub hl [1, 2, 0] rfl)
  have hB22 : ∀ (k22 : Int32 → Int32 → St → Option (St)) (hk22 : ∀ (v1 : Int32) (v2 : Int32) (S : St) (H : Heap) (locs : List Loc) (ls : Array Slot), k22 v1 v2 S = some S' → z_P G X S H → z_S G s.heap H locs → lv_has ls 4 [(0, .ref (gq G (65))), (1, .int (v1)), (2, .int (v2))] → W p l e (z_rm 2 44) s m ([.ref (gq G (65))] : List Value).toArray below meth c H locs 0 0 (MQ below (z_QV G X S') ([.ref (gq G (65))] : List Value).toArray s 0 0 (z_Aq (gq G))) (F0 m 22 ls [])), ∀ (v1 : Int32) (v2 : Int32) (S : St) (H : Heap) (locs : List Loc) (ls : Array Slot), b_X10_builds_22 N k22 v1 v2 S = some S' → z_P G X S H → z_S G s.heap H locs → lv_has ls 4 [(0, .ref (gq G (65))), (1, .int (v1)), (2, .int (v2))] → W p l e (z_rm 2 44) s m ([.ref (gq G (65))] : List Value).toArray below meth c H locs 0 0 (MQ below (z_QV G X S') ([.ref (gq G (65))] : List Value).toArray s 0 0 (z_Aq (gq G))) (F0 m 22 ls []) := by
    intro k22 hk22 v1 v2 S H locs ls hf hP hS hl
    unfold b_X10_builds_22 at hf
    refine lv_iload_n hx hb dX10_builds_22 rfl (lv_at hl 2 rfl) ?_
    refine lv_if_lt (tgt := 94) hx hb dX10_builds_23 (by decide) (fun hc3 => ?_) (fun hc3 => ?_)
    · replace hf := z_ifp hf hc3
      refine lv_aload_n hx hb dX10_builds_94 rfl (lv_at hl 0 rfl) ?_
      refine lv_aload_n hx hb dX10_builds_95 rfl (lv_at hl 0 rfl) ?_
      obtain ⟨r5, S4, hz6, hf⟩ := z_bd_some hf
      refine z_ci (z_runV (o := 65) (ci := 10) E hK hP hS (c_X10_pops hq hz6) cv_X10_pops tw939 rfl (by decide) rfl rfl ⟨Nat.le_of_ble_eq_true rfl, Nat.le_of_ble_eq_true rfl⟩ ⟨Nat.le_refl 0, Nat.le_refl 0⟩ hl.1 (Nat.le_of_ble_eq_true rfl) rfl dX10_builds_96) hS (fun H locs hP hS => ?_)
      refine m_putI (C := RX10) (T := TX10) (N := 75) (ci := 10) (k := 8) (o := 65) (v := r5) (ty := .int) E hK hq hP hS iwX10 tyX10 tyX10_ok nmX10 rfl rfl (by decide) (by decide) rfl rfl (by decide) rfl (tyX10_ok 8 (by decide)) ⟨rfl, rfl⟩ tw960 dX10_builds_99 (fun H locs hP hS => ?_)
      obtain ⟨S7, hf, hP⟩ := z_ltM hf hP
      exact m_retv hx hb hr hlk hf hP hS dX10_builds_102
    · replace hf := z_ifn hf hc3
      refine lv_aload_n hx hb dX10_builds_26 rfl (lv_at hl 0 rfl) ?_
      refine z_getR (C := RX10) (T := TX10) (N := 75) (ci := 10) (k := 10) (o := 65) (t := 73) E hK hP iwX10 rfl rfl (by decide) (by decide) rfl rfl rfl tw962 dX10_builds_27 ?_
      refine lv_iload_n hx hb dX10_builds_30 rfl (lv_at hl 2 rfl) ?_
      obtain ⟨hg8, hf⟩ := z_gd_some hf
      refine m_ald (o := 73) (i := v2) E hK hP rfl (by decide) hg8 dX10_builds_31 ?_
      refine lv_istore_n (lv' := [(3, .int ((S 73 (v2 : Int32).toNatClampNeg))), (0, .ref (gq G (65))), (1, .int (v1)), (2, .int (v2))]) hx hb dX10_builds_32 rfl hl (by decide) rfl (fun ls hl => ?_)
      refine lv_aload_n hx hb dX10_builds_33 rfl (lv_at hl 1 rfl) ?_
      refine z_getR (C := RX10) (T := TX10) (N := 75) (ci := 10) (k := 11) (o := 65) (t := 74) E hK hP iwX10 rfl rfl (by decide) (by decide) rfl rfl rfl tw963 dX10_builds_34 ?_
      refine lv_iload_n hx hb dX10_builds_37 rfl (lv_at hl 3 rfl) ?_
      obtain ⟨hg9, hf⟩ := z_gd_some hf
      refine m_ald (o := 74) (i := v2) E hK hP rfl (by decide) hg9 dX10_builds_38 ?_
      refine lv_iconst (v := 1) hx hb dX10_builds_39 (by decide) ?_
      refine lv_icmp_ne (tgt := 59) hx hb dX10_builds_40 (by decide) (fun hc10 => ?_) (fun hc10 => ?_)
      · replace hf := z_ifn hf hc10
        refine lv_aload_n hx hb dX10_builds_59 rfl (lv_at hl 1 rfl) ?_
        refine lv_iload_n hx hb dX10_builds_60 rfl (lv_at hl 0 rfl) ?_
        refine lv_iload_n hx hb dX10_builds_61 rfl (lv_at hl 2 rfl) ?_
        obtain ⟨S11, hz12, hf⟩ := z_bv_some hf
        refine z_cvo (z_runV (o := 65) (ci := 10) E hK hP hS (c_X10_buildsOne hq hz12) cv_X10_buildsOne tw935 rfl (by decide) rfl rfl ⟨Nat.le_of_ble_eq_true rfl, Nat.le_of_ble_eq_true rfl⟩ ⟨Nat.le_refl 0, Nat.le_refl 0⟩ hl.1 (Nat.le_of_ble_eq_true rfl) rfl dX10_builds_62) hS (fun H locs hP hS => ?_)
        refine lv_aload_n hx hb dX10_builds_65 rfl (lv_at hl 1 rfl) ?_
        refine z_getR (C := RX10) (T := TX10) (N := 75) (ci := 10) (k := 14) (o := 65) (t := 77) E hK hP iwX10 rfl rfl (by decide) (by decide) rfl rfl rfl tw966 dX10_builds_66 ?_
        refine lv_aload_n hx hb dX10_builds_69 rfl (lv_at hl 1 rfl) ?_
        refine m_getI (C := RX10) (T := TX10) (N := 75) (ci := 10) (k := 20) (o := 65) E hK hP iwX10 rfl rfl (by decide) (by decide) rfl rfl (by decide) tw972 dX10_builds_70 ?_
        refine lv_iload_n hx hb dX10_builds_73 rfl (lv_at hl 2 rfl) ?_
        obtain ⟨hg13, hf⟩ := z_gd_some hf
        refine m_ast (o := 77) (i := (S11 65 20)) (v := v1) E hK hq hP hS rfl (by decide) hg13 dX10_builds_74 (fun H locs hP hS => ?_)
        obtain ⟨S14, hf, hP⟩ := z_ltM hf hP
        refine lv_iinc (v := (v1 + 1)) (lv' := [(1, .int ((v1 + 1))), (3, .int ((S 73 (v2 : Int32).toNatClampNeg))), (0, .ref (gq G (65))), (2, .int (v2))]) hx hb dX10_builds_75 hl (k := 2) rfl rfl (by decide) rfl (fun ls hl => ?_)
        exact hJ78 k22 hk22 ((v1 + 1)) (v2) S14 _ _ _ hf hP hS (lv_sub hl [2, 0, 3] rfl)
      · replace hf := z_ifp hf hc10
        refine lv_aload_n hx hb dX10_builds_43 rfl (lv_at hl 1 rfl) ?_
        refine z_getR (C := RX10) (T := TX10) (N := 75) (ci := 10) (k := 14) (o := 65) (t := 77) E hK hP iwX10 rfl rfl (by decide) (by decide) rfl rfl rfl tw966 dX10_builds_44 ?_
        refine lv_aload_n hx hb dX10_builds_47 rfl (lv_at hl 1 rfl) ?_
        refine m_getI (C := RX10) (T := TX10) (N := 75) (ci := 10) (k := 20) (o := 65) E hK hP iwX10 rfl rfl (by decide) (by decide) rfl rfl (by decide) tw972 dX10_builds_48 ?_
        refine lv_iload_n hx hb dX10_builds_51 rfl (lv_at hl 0 rfl) ?_
        refine lv_bipush (v := 97) hx hb dX10_builds_52 (by decide) ?_
        refine lv_isub hx hb dX10_builds_54 ?_
        obtain ⟨hg15, hf⟩ := z_gd_some hf
        refine m_ast (o := 77) (i := (S 65 20)) (v := ((S 73 (v2 : Int32).toNatClampNeg) - 97)) E hK hq hP hS rfl (by decide) hg15 dX10_builds_55 (fun H locs hP hS => ?_)
        obtain ⟨S16, hf, hP⟩ := z_ltM hf hP
        refine lv_goto (tgt := 78) hx hb dX10_builds_56 (by decide) ?_
        exact hJ78 k22 hk22 (v1) (v2) S16 _ _ _ hf hP hS (lv_sub hl [1, 2, 3] rfl)
  have hL22 : ∀ (n : Nat), ∀ (v1 : Int32) (v2 : Int32) (S : St) (H : Heap) (locs : List Loc) (ls : Array Slot), f_X10_builds_22 N n v1 v2 S = some S' → z_P G X S H → z_S G s.heap H locs → lv_has ls 4 [(0, .ref (gq G (65))), (1, .int (v1)), (2, .int (v2))] → W p l e (z_rm 2 44) s m ([.ref (gq G (65))] : List Value).toArray below meth c H locs 0 0 (MQ below (z_QV G X S') ([.ref (gq G (65))] : List Value).toArray s 0 0 (z_Aq (gq G))) (F0 m 22 ls []) := by
    intro  n
    induction n with
    | zero => intro _ _ _ _ _ _ hf; cases hf
    | succ n ih => exact hB22  _  ih
  have hl : lv_has ls 4 [(0, .ref (gq G (65)))] := hl
  unfold f_X10_builds at hf
  refine lv_aload_n hx hb dX10_builds_0 rfl (lv_at hl 0 rfl) ?_
  refine lv_aload_n hx hb dX10_builds_1 rfl (lv_at hl 0 rfl) ?_
  refine m_getI (C := RX10) (T := TX10) (N := 75) (ci := 10) (k := 7) (o := 65) E hK hP iwX10 rfl rfl (by decide) (by decide) rfl rfl (by decide) tw959 dX10_builds_2 ?_
  refine m_putI (C := RX10) (T := TX10) (N := 75) (ci := 10) (k := 21) (o := 65) (v := (S 65 7)) (ty := .int) E hK hq hP hS iwX10 tyX10 tyX10_ok nmX10 rfl rfl (by decide) (by decide) rfl rfl (by decide) rfl (tyX10_ok 21 (by decide)) ⟨rfl, rfl⟩ tw973 dX10_builds_5 (fun H locs hP hS => ?_)
  obtain ⟨S1, hf, hP⟩ := z_ltM hf hP
  refine lv_aload_n hx hb dX10_builds_8 rfl (lv_at hl 0 rfl) ?_
  refine lv_iconst (v := 0) hx hb dX10_builds_9 (by decide) ?_
  refine m_putI (C := RX10) (T := TX10) (N := 75) (ci := 10) (k := 20) (o := 65) (v := 0) (ty := .int) E hK hq hP hS iwX10 tyX10 tyX10_ok nmX10 rfl rfl (by decide) (by decide) rfl rfl (by decide) rfl (tyX10_ok 20 (by decide)) ⟨rfl, rfl⟩ tw972 dX10_builds_10 (fun H locs hP hS => ?_)
  obtain ⟨S2, hf, hP⟩ := z_ltM hf hP
  refine lv_iconst (v := 0) hx hb dX10_builds_13 (by decide) ?_
  refine lv_istore_n (lv' := [(1, .int (0)), (0, .ref (gq G (65)))]) hx hb dX10_builds_14 rfl hl (by decide) rfl (fun ls hl => ?_)
  refine lv_aload_n hx hb dX10_builds_15 rfl (lv_at hl 1 rfl) ?_
  refine m_getI (C := RX10) (T := TX10) (N := 75) (ci := 10) (k := 16) (o := 65) E hK hP iwX10 rfl rfl (by decide) (by decide) rfl rfl (by decide) tw968 dX10_builds_16 ?_
  refine lv_iconst (v := 1) hx hb dX10_builds_19 (by decide) ?_
  refine lv_isub hx hb dX10_builds_20 ?_
  refine lv_istore_n (lv' := [(2, .int (((S2 65 16) - 1))), (1, .int (0)), (0, .ref (gq G (65)))]) hx hb dX10_builds_21 rfl hl (by decide) rfl (fun ls hl => ?_)
  exact hL22 N (0) (((S2 65 16) - 1)) S2 _ _ _ hf hP hS (lv_sub hl [2, 1, 0] rfl)
theorem cv_X10_builds : z_cv yX10_builds cX10_builds 4 none RX10 0 := ⟨⟨tw933, twp29⟩, tw934, tw11, by decide +kernel⟩
def b_X10_program_108 (N : Nat) (k108 : Int32 → St → Option (Int32 × St)) (v3 : Int32) (S : St) : Option (Int32 × St) := if 10 ≤ v3 then (z_lt (z_wr S 65 29 (-9)) fun S20 => z_lt (z_wr S20 65 35 0) fun S21 => some ((S21 65 6), S21)) else (z_gd (z_in v3 (z_ln 79)) (z_lt (z_wr S 79 (v3 : Int32).toNatClampNeg 0) fun S23 => z_gd (z_in v3 (z_ln 80)) (z_lt (z_wr S23 80 (v3 : Int32).toNatClampNeg 0) fun S25 => z_gd (z_in v3 (z_ln 81)) (z_lt (z_wr S25 81 (v3 : Int32).toNatClampNeg 0) fun S27 => k108 ((v3 + 1)) S27))))
def f_X10_program_108 (N : Nat) : Nat → Int32 → St → Option (Int32 × St)
  | 0 => fun _ _ => none
  | n + 1 => b_X10_program_108 N (f_X10_program_108 N n)
def b_X10_program_46 (N : Nat) (k46 : Int32 → Int32 → St → Option (Int32 × St)) (v2 : Int32) (v3 : Int32) (S : St) : Option (Int32 × St) := if v2 ≤ v3 then (z_lt (z_wr S 65 16 v2) fun S8 => z_lt (z_wr S8 65 6 (S8 65 22)) fun S9 => z_lt (z_wr S9 65 7 (S9 65 23)) fun S10 => z_bv (f_X10_builds N S10) fun S11 => f_X10_program_108 N N (0) S11) else (z_gd (z_in v3 (z_ln 72)) (z_gd (z_in v3 (z_ln 73)) (z_lt (z_wr S 73 (v3 : Int32).toNatClampNeg (S 72 (v3 : Int32).toNatClampNeg)) fun S15 => z_gd (z_in v3 (z_ln 75)) (z_gd (z_in v3 (z_ln 74)) (z_lt (z_wr S15 74 (v3 : Int32).toNatClampNeg (S15 75 (v3 : Int32).toNatClampNeg)) fun S18 => k46 (v2) ((v3 + 1)) S18)))))
def f_X10_program_46 (N : Nat) : Nat → Int32 → Int32 → St → Option (Int32 × St)
  | 0 => fun _ _ _ => none
  | n + 1 => b_X10_program_46 N (f_X10_program_46 N n)
def f_X10_program (N : Nat) (S : St) : Option (Int32 × St) := z_bd (f_X10_reads N S) fun r2 S1 => z_lt (z_wr S1 65 15 0) fun S4 => if r2 = 0 then (some (((-1000) - (S4 65 17)), S4)) else (if (S4 65 18) < 0 then (f_X10_program_46 N N ((S1 65 15)) (0) S4) else (some (((-2000) - (S4 65 18)), S4)))
set_option maxHeartbeats 4000000 in
set_option maxRecDepth 100000 in
theorem c_X10_program {l : Launch} {G : Cx} {X S S' : St} {N : Nat} {r : Int32} (hq : z_inj (gq G)) (hf : f_X10_program N S = some (r, S')) : z_Ct l yX10_program cX10_program 4 (some .int) 4 87 G X S [.ref (gq G (65))] (z_QI G X S' r) := by
  refine z_start (by decide +kernel) (Nat.le_of_ble_eq_true rfl) ?_
  intro p e s m below meth c ls E hr hlk hK hP hS hl
  have E : CallFix p m c cX10_program 4 s _ lw_good RX10 := E
  have hx := E.1
  have hb := E.2.1
  have hown := E.2.2.2.1
  have hts := E.2.2.2.2
  have hB108 : ∀ (k108 : Int32 → St → Option (Int32 × St)) (hk108 : ∀ (v3 : Int32) (S : St) (H : Heap) (locs : List Loc) (ls : Array Slot), k108 v3 S = some (r, S') → z_P G X S H → z_S G s.heap H locs → lv_has ls 4 [(0, .ref (gq G (65))), (3, .int (v3))] → W p l e (z_rm 4 87) s m ([.ref (gq G (65))] : List Value).toArray below meth c H locs 0 0 (MQ below (z_QI G X S' r) ([.ref (gq G (65))] : List Value).toArray s 0 0 (z_Aq (gq G))) (F0 m 108 ls [])), ∀ (v3 : Int32) (S : St) (H : Heap) (locs : List Loc) (ls : Array Slot), b_X10_program_108 N k108 v3 S = some (r, S') → z_P G X S H → z_S G s.heap H locs → lv_has ls 4 [(0, .ref (gq G (65))), (3, .int (v3))] → W p l e (z_rm 4 87) s m ([.ref (gq G (65))] : List Value).toArray below meth c H locs 0 0 (MQ below (z_QI G X S' r) ([.ref (gq G (65))] : List Value).toArray s 0 0 (z_Aq (gq G))) (F0 m 108 ls []) := by
    intro k108 hk108 v3 S H locs ls hf hP hS hl
    unfold b_X10_program_108 at hf
    refine lv_iload_n hx hb dX10_program_108 rfl (lv_at hl 1 rfl) ?_
    refine lv_bipush (v := 10) hx hb dX10_program_109 (by decide) ?_
    refine lv_icmp_ge (tgt := 141) hx hb dX10_program_111 (by decide) (fun hc19 => ?_) (fun hc19 => ?_)
    · replace hf := z_ifp hf hc19
      refine lv_aload_n hx hb dX10_program_141 rfl (lv_at hl 0 rfl) ?_
      refine lv_bipush (v := (-9)) hx hb dX10_program_142 (by decide) ?_
      refine m_putI (C := RX10) (T := TX10) (N := 75) (ci := 10) (k := 29) (o := 65) (v := (-9)) (ty := .int) E hK hq hP hS iwX10 tyX10 tyX10_ok nmX10 rfl rfl (by decide) (by decide) rfl rfl (by decide) rfl (tyX10_ok 29 (by decide)) ⟨rfl, rfl⟩ tw981 dX10_program_144 (fun H locs hP hS => ?_)
      obtain ⟨S20, hf, hP⟩ := z_ltM hf hP
      refine lv_aload_n hx hb dX10_program_147 rfl (lv_at hl 0 rfl) ?_
      refine lv_iconst (v := 0) hx hb dX10_program_148 (by decide) ?_
      refine m_putI (C := RX10) (T := TX10) (N := 75) (ci := 10) (k := 35) (o := 65) (v := 0) (ty := .int) E hK hq hP hS iwX10 tyX10 tyX10_ok nmX10 rfl rfl (by decide) (by decide) rfl rfl (by decide) rfl (tyX10_ok 35 (by decide)) ⟨rfl, rfl⟩ tw987 dX10_program_149 (fun H locs hP hS => ?_)
      obtain ⟨S21, hf, hP⟩ := z_ltM hf hP
      refine lv_aload_n hx hb dX10_program_152 rfl (lv_at hl 0 rfl) ?_
      refine m_getI (C := RX10) (T := TX10) (N := 75) (ci := 10) (k := 6) (o := 65) E hK hP iwX10 rfl rfl (by decide) (by decide) rfl rfl (by decide) tw958 dX10_program_153 ?_
      exact m_reti hx hb hr hlk hf hP hS dX10_program_156
    · replace hf := z_ifn hf hc19
      refine lv_aload_n hx hb dX10_program_114 rfl (lv_at hl 0 rfl) ?_
      refine z_getR (C := RX10) (T := TX10) (N := 75) (ci := 10) (k := 25) (o := 65) (t := 79) E hK hP iwX10 rfl rfl (by decide) (by decide) rfl rfl rfl tw977 dX10_program_115 ?_
      refine lv_iload_n hx hb dX10_program_118 rfl (lv_at hl 1 rfl) ?_
      refine lv_iconst (v := 0) hx hb dX10_program_119 (by decide) ?_
      obtain ⟨hg22, hf⟩ := z_gd_some hf
      refine m_ast (o := 79) (i := v3) (v := 0) E hK hq hP hS rfl (by decide) hg22 dX10_program_120 (fun H locs hP hS => ?_)
      obtain ⟨S23, hf, hP⟩ := z_ltM hf hP
      refine lv_aload_n hx hb dX10_program_121 rfl (lv_at hl 0 rfl) ?_
      refine z_getR (C := RX10) (T := TX10) (N := 75) (ci := 10) (k := 26) (o := 65) (t := 80) E hK hP iwX10 rfl rfl (by decide) (by decide) rfl rfl rfl tw978 dX10_program_122 ?_
      refine lv_iload_n hx hb dX10_program_125 rfl (lv_at hl 1 rfl) ?_
      refine lv_iconst (v := 0) hx hb dX10_program_126 (by decide) ?_
      obtain ⟨hg24, hf⟩ := z_gd_some hf
      refine m_ast (o := 80) (i := v3) (v := 0) E hK hq hP hS rfl (by decide) hg24 dX10_program_127 (fun H locs hP hS => ?_)
      obtain ⟨S25, hf, hP⟩ := z_ltM hf hP
      refine lv_aload_n hx hb dX10_program_128 rfl (lv_at hl 0 rfl) ?_
      refine z_getR (C := RX10) (T := TX10) (N := 75) (ci := 10) (k := 27) (o := 65) (t := 81) E hK hP iwX10 rfl rfl (by decide) (by decide) rfl rfl rfl tw979 dX10_program_129 ?_
      refine lv_iload_n hx hb dX10_program_132 rfl (lv_at hl 1 rfl) ?_
      refine lv_iconst (v := 0) hx hb dX10_program_133 (by decide) ?_
      obtain ⟨hg26, hf⟩ := z_gd_some hf
      refine m_ast (o := 81) (i := v3) (v := 0) E hK hq hP hS rfl (by decide) hg26 dX10_program_134 (fun H locs hP hS => ?_)
      obtain ⟨S27, hf, hP⟩ := z_ltM hf hP
      refine lv_iinc (v := (v3 + 1)) (lv' := [(3, .int ((v3 + 1))), (0, .ref (gq G (65)))]) hx hb dX10_program_135 hl (k := 1) rfl rfl (by decide) rfl (fun ls hl => ?_)
      refine lv_goto (tgt := 108) hx hb dX10_program_138 (by decide) ?_
      exact hk108 ((v3 + 1)) S27 _ _ _ hf hP hS (lv_sub hl [1, 0] rfl)
  have hL108 : ∀ (n : Nat), ∀ (v3 : Int32) (S : St) (H : Heap) (locs : List Loc) (ls : Array Slot), f_X10_program_108 N n v3 S = some (r, S') → z_P G X S H → z_S G s.heap H locs → lv_has ls 4 [(0, .ref (gq G (65))), (3, .int (v3))] → W p l e (z_rm 4 87) s m ([.ref (gq G (65))] : List Value).toArray below meth c H locs 0 0 (MQ below (z_QI G X S' r) ([.ref (gq G (65))] : List Value).toArray s 0 0 (z_Aq (gq G))) (F0 m 108 ls []) := by
    intro  n
    induction n with
    | zero => intro _ _ _ _ _ hf; cases hf
    | succ n ih => exact hB108  _  ih
  have hB46 : ∀ (k46 : Int32 → Int32 → St → Option (Int32 × St)) (hk46 : ∀ (v2 : Int32) (v3 : Int32) (S : St) (H : Heap) (locs : List Loc) (ls : Array Slot), k46 v2 v3 S = some (r, S') → z_P G X S H → z_S G s.heap H locs → lv_has ls 4 [(0, .ref (gq G (65))), (2, .int (v2)), (3, .int (v3))] → W p l e (z_rm 4 87) s m ([.ref (gq G (65))] : List Value).toArray below meth c H locs 0 0 (MQ below (z_QI G X S' r) ([.ref (gq G (65))] : List Value).toArray s 0 0 (z_Aq (gq G))) (F0 m 46 ls [])), ∀ (v2 : Int32) (v3 : Int32) (S : St) (H : Heap) (locs : List Loc) (ls : Array Slot), b_X10_program_46 N k46 v2 v3 S = some (r, S') → z_P G X S H → z_S G s.heap H locs → lv_has ls 4 [(0, .ref (gq G (65))), (2, .int (v2)), (3, .int (v3))] → W p l e (z_rm 4 87) s m ([.ref (gq G (65))] : List Value).toArray below meth c H locs 0 0 (MQ below (z_QI G X S' r) ([.ref (gq G (65))] : List Value).toArray s 0 0 (z_Aq (gq G))) (F0 m 46 ls []) := by
    intro k46 hk46 v2 v3 S H locs ls hf hP hS hl
    unfold b_X10_program_46 at hf
    refine lv_iload_n hx hb dX10_program_46 rfl (lv_at hl 2 rfl) ?_
    refine lv_iload_n hx hb dX10_program_47 rfl (lv_at hl 1 rfl) ?_
    refine lv_icmp_ge (tgt := 81) hx hb dX10_program_48 (by decide) (fun hc7 => ?_) (fun hc7 => ?_)
    · replace hf := z_ifp hf hc7
      refine lv_aload_n hx hb dX10_program_81 rfl (lv_at hl 0 rfl) ?_
      refine lv_iload_n hx hb dX10_program_82 rfl (lv_at hl 1 rfl) ?_
      refine m_putI (C := RX10) (T := TX10) (N := 75) (ci := 10) (k := 16) (o := 65) (v := v2) (ty := .int) E hK hq hP hS iwX10 tyX10 tyX10_ok nmX10 rfl rfl (by decide) (by decide) rfl rfl (by decide) rfl (tyX10_ok 16 (by decide)) ⟨rfl, rfl⟩ tw968 dX10_program_83 (fun H locs hP hS => ?_)
      obtain ⟨S8, hf, hP⟩ := z_ltM hf hP
      refine lv_aload_n hx hb dX10_program_86 rfl (lv_at hl 0 rfl) ?_
      refine lv_aload_n hx hb dX10_program_87 rfl (lv_at hl 0 rfl) ?_
      refine m_getI (C := RX10) (T := TX10) (N := 75) (ci := 10) (k := 22) (o := 65) E hK hP iwX10 rfl rfl (by decide) (by decide) rfl rfl (by decide) tw974 dX10_program_88 ?_
      refine m_putI (C := RX10) (T := TX10) (N := 75) (ci := 10) (k := 6) (o := 65) (v := (S8 65 22)) (ty := .int) E hK hq hP hS iwX10 tyX10 tyX10_ok nmX10 rfl rfl (by decide) (by decide) rfl rfl (by decide) rfl (tyX10_ok 6 (by decide)) ⟨rfl, rfl⟩ tw958 dX10_program_91 (fun H locs hP hS => ?_)
      obtain ⟨S9, hf, hP⟩ := z_ltM hf hP
      refine lv_aload_n hx hb dX10_program_94 rfl (lv_at hl 0 rfl) ?_
      refine lv_aload_n hx hb dX10_program_95 rfl (lv_at hl 0 rfl) ?_
      refine m_getI (C := RX10) (T := TX10) (N := 75) (ci := 10) (k := 23) (o := 65) E hK hP iwX10 rfl rfl (by decide) (by decide) rfl rfl (by decide) tw975 dX10_program_96 ?_
      refine m_putI (C := RX10) (T := TX10) (N := 75) (ci := 10) (k := 7) (o := 65) (v := (S9 65 23)) (ty := .int) E hK hq hP hS iwX10 tyX10 tyX10_ok nmX10 rfl rfl (by decide) (by decide) rfl rfl (by decide) rfl (tyX10_ok 7 (by decide)) ⟨rfl, rfl⟩ tw959 dX10_program_99 (fun H locs hP hS => ?_)
      obtain ⟨S10, hf, hP⟩ := z_ltM hf hP
      refine lv_aload_n hx hb dX10_program_102 rfl (lv_at hl 0 rfl) ?_
      obtain ⟨S11, hz12, hf⟩ := z_bv_some hf
      refine z_cvo (z_runV (o := 65) (ci := 10) E hK hP hS (c_X10_builds hq hz12) cv_X10_builds tw931 rfl (by decide) rfl rfl ⟨Nat.le_of_ble_eq_true rfl, Nat.le_of_ble_eq_true rfl⟩ ⟨Nat.le_refl 0, Nat.le_refl 0⟩ hl.1 (Nat.le_of_ble_eq_true rfl) rfl dX10_program_103) hS (fun H locs hP hS => ?_)
      refine lv_iconst (v := 0) hx hb dX10_program_106 (by decide) ?_
      refine lv_istore_n (lv' := [(3, .int (0)), (0, .ref (gq G (65))), (2, .int (v2))]) hx hb dX10_program_107 rfl hl (by decide) rfl (fun ls hl => ?_)
      exact hL108 N (0) S11 _ _ _ hf hP hS (lv_sub hl [1, 0] rfl)
    · replace hf := z_ifn hf hc7
      refine lv_aload_n hx hb dX10_program_51 rfl (lv_at hl 0 rfl) ?_
      refine z_getR (C := RX10) (T := TX10) (N := 75) (ci := 10) (k := 10) (o := 65) (t := 73) E hK hP iwX10 rfl rfl (by decide) (by decide) rfl rfl rfl tw962 dX10_program_52 ?_
      refine lv_iload_n hx hb dX10_program_55 rfl (lv_at hl 2 rfl) ?_
      refine lv_aload_n hx hb dX10_program_56 rfl (lv_at hl 0 rfl) ?_
      refine z_getR (C := RX10) (T := TX10) (N := 75) (ci := 10) (k := 9) (o := 65) (t := 72) E hK hP iwX10 rfl rfl (by decide) (by decide) rfl rfl rfl tw961 dX10_program_57 ?_
      refine lv_iload_n hx hb dX10_program_60 rfl (lv_at hl 2 rfl) ?_
      obtain ⟨hg13, hf⟩ := z_gd_some hf
      refine m_ald (o := 72) (i := v3) E hK hP rfl (by decide) hg13 dX10_program_61 ?_
      obtain ⟨hg14, hf⟩ := z_gd_some hf
      refine m_ast (o := 73) (i := v3) (v := (S 72 (v3 : Int32).toNatClampNeg)) E hK hq hP hS rfl (by decide) hg14 dX10_program_62 (fun H locs hP hS => ?_)
      obtain ⟨S15, hf, hP⟩ := z_ltM hf hP
      refine lv_aload_n hx hb dX10_program_63 rfl (lv_at hl 0 rfl) ?_
      refine z_getR (C := RX10) (T := TX10) (N := 75) (ci := 10) (k := 11) (o := 65) (t := 74) E hK hP iwX10 rfl rfl (by decide) (by decide) rfl rfl rfl tw963 dX10_program_64 ?_
      refine lv_iload_n hx hb dX10_program_67 rfl (lv_at hl 2 rfl) ?_
      refine lv_aload_n hx hb dX10_program_68 rfl (lv_at hl 0 rfl) ?_
      refine z_getR (C := RX10) (T := TX10) (N := 75) (ci := 10) (k := 12) (o := 65) (t := 75) E hK hP iwX10 rfl rfl (by decide) (by decide) rfl rfl rfl tw964 dX10_program_69 ?_
      refine lv_iload_n hx hb dX10_program_72 rfl (lv_at hl 2 rfl) ?_
      obtain ⟨hg16, hf⟩ := z_gd_some hf
      refine m_ald (o := 75) (i := v3) E hK hP rfl (by decide) hg16 dX10_program_73 ?_
      obtain ⟨hg17, hf⟩ := z_gd_some hf
      refine m_ast (o := 74) (i := v3) (v := (S15 75 (v3 : Int32).toNatClampNeg)) E hK hq hP hS rfl (by decide) hg17 dX10_program_74 (fun H locs hP hS => ?_)
      obtain ⟨S18, hf, hP⟩ := z_ltM hf hP
      refine lv_iinc (v := (v3 + 1)) (lv' := [(3, .int ((v3 + 1))), (0, .ref (gq G (65))), (2, .int (v2))]) hx hb dX10_program_75 hl (k := 2) rfl rfl (by decide) rfl (fun ls hl => ?_)
      refine lv_goto (tgt := 46) hx hb dX10_program_78 (by decide) ?_
      exact hk46 (v2) ((v3 + 1)) S18 _ _ _ hf hP hS (lv_sub hl [1, 2, 0] rfl)
  have hL46 : ∀ (n : Nat), ∀ (v2 : Int32) (v3 : Int32) (S : St) (H : Heap) (locs : List Loc) (ls : Array Slot), f_X10_program_46 N n v2 v3 S = some (r, S') → z_P G X S H → z_S G s.heap H locs → lv_has ls 4 [(0, .ref (gq G (65))), (2, .int (v2)), (3, .int (v3))] → W p l e (z_rm 4 87) s m ([.ref (gq G (65))] : List Value).toArray below meth c H locs 0 0 (MQ below (z_QI G X S' r) ([.ref (gq G (65))] : List Value).toArray s 0 0 (z_Aq (gq G))) (F0 m 46 ls []) := by
    intro  n
    induction n with
    | zero => intro _ _ _ _ _ _ hf; cases hf
    | succ n ih => exact hB46  _  ih
  have hl : lv_has ls 4 [(0, .ref (gq G (65)))] := hl
  unfold f_X10_program at hf
  refine lv_aload_n hx hb dX10_program_0 rfl (lv_at hl 0 rfl) ?_
  obtain ⟨r2, S1, hz3, hf⟩ := z_bd_some hf
  refine z_ci (z_runV (o := 65) (ci := 10) E hK hP hS (c_X10_reads hq hz3) cv_X10_reads tw1193 rfl (by decide) rfl rfl ⟨Nat.le_of_ble_eq_true rfl, Nat.le_of_ble_eq_true rfl⟩ ⟨Nat.le_refl 0, Nat.le_refl 0⟩ hl.1 (Nat.le_of_ble_eq_true rfl) rfl dX10_program_1) hS (fun H locs hP hS => ?_)
  refine lv_istore_n (lv' := [(1, .int (r2)), (0, .ref (gq G (65)))]) hx hb dX10_program_4 rfl hl (by decide) rfl (fun ls hl => ?_)
  refine lv_aload_n hx hb dX10_program_5 rfl (lv_at hl 1 rfl) ?_
  refine m_getI (C := RX10) (T := TX10) (N := 75) (ci := 10) (k := 15) (o := 65) E hK hP iwX10 rfl rfl (by decide) (by decide) rfl rfl (by decide) tw967 dX10_program_6 ?_
  refine lv_istore_n (lv' := [(2, .int ((S1 65 15))), (1, .int (r2)), (0, .ref (gq G (65)))]) hx hb dX10_program_9 rfl hl (by decide) rfl (fun ls hl => ?_)
  refine lv_aload_n hx hb dX10_program_10 rfl (lv_at hl 2 rfl) ?_
  refine lv_iconst (v := 0) hx hb dX10_program_11 (by decide) ?_
  refine m_putI (C := RX10) (T := TX10) (N := 75) (ci := 10) (k := 15) (o := 65) (v := 0) (ty := .int) E hK hq hP hS iwX10 tyX10 tyX10_ok nmX10 rfl rfl (by decide) (by decide) rfl rfl (by decide) rfl (tyX10_ok 15 (by decide)) ⟨rfl, rfl⟩ tw967 dX10_program_12 (fun H locs hP hS => ?_)
  obtain ⟨S4, hf, hP⟩ := z_ltM hf hP
  refine lv_iload_n hx hb dX10_program_15 rfl (lv_at hl 1 rfl) ?_
  refine lv_if_ne (tgt := 28) hx hb dX10_program_16 (by decide) (fun hc5 => ?_) (fun hc5 => ?_)
  · replace hf := z_ifn hf hc5
    refine lv_aload_n hx hb dX10_program_28 rfl (lv_at hl 2 rfl) ?_
    refine m_getI (C := RX10) (T := TX10) (N := 75) (ci := 10) (k := 18) (o := 65) E hK hP iwX10 rfl rfl (by decide) (by decide) rfl rfl (by decide) tw970 dX10_program_29 ?_
    refine lv_if_lt (tgt := 44) hx hb dX10_program_32 (by decide) (fun hc6 => ?_) (fun hc6 => ?_)
    · replace hf := z_ifp hf hc6
      refine lv_iconst (v := 0) hx hb dX10_program_44 (by decide) ?_
      refine lv_istore_n (lv' := [(3, .int (0)), (2, .int ((S1 65 15))), (1, .int (r2)), (0, .ref (gq G (65)))]) hx hb dX10_program_45 rfl hl (by decide) rfl (fun ls hl => ?_)
      exact hL46 N ((S1 65 15)) (0) S4 _ _ _ hf hP hS (lv_sub hl [3, 1, 0] rfl)
    · replace hf := z_ifn hf hc6
      refine lv_sipush (v := (-2000)) hx hb dX10_program_35 (by decide) ?_
      refine lv_aload_n hx hb dX10_program_38 rfl (lv_at hl 2 rfl) ?_
      refine m_getI (C := RX10) (T := TX10) (N := 75) (ci := 10) (k := 18) (o := 65) E hK hP iwX10 rfl rfl (by decide) (by decide) rfl rfl (by decide) tw970 dX10_program_39 ?_
      refine lv_isub hx hb dX10_program_42 ?_
      exact m_reti hx hb hr hlk hf hP hS dX10_program_43
  · replace hf := z_ifp hf hc5
    refine lv_sipush (v := (-1000)) hx hb dX10_program_19 (by decide) ?_
    refine lv_aload_n hx hb dX10_program_22 rfl (lv_at hl 2 rfl) ?_
    refine m_getI (C := RX10) (T := TX10) (N := 75) (ci := 10) (k := 17) (o := 65) E hK hP iwX10 rfl rfl (by decide) (by decide) rfl rfl (by decide) tw969 dX10_program_23 ?_
    refine lv_isub hx hb dX10_program_26 ?_
    exact m_reti hx hb hr hlk hf hP hS dX10_program_27
theorem cv_X10_program : z_cv yX10_program cX10_program 4 (some .int) RX10 0 := ⟨⟨tw1190, tw1191⟩, tw1192, tw11, by decide +kernel⟩
def f_X10_valueOf (N : Nat) (a1 : Int32) (a2 : Int32) (a3 : Int32) (a4 : Int32) (S : St) : Option (Int32 × St) := z_gd (z_in (S 65 46) (z_ln 83)) (z_lt (z_wr S 83 ((S 65 46) : Int32).toNatClampNeg a1) fun S2 => z_gd (z_in (S2 65 46) (z_ln 84)) (z_lt (z_wr S2 84 ((S2 65 46) : Int32).toNatClampNeg a2) fun S4 => z_gd (z_in (S4 65 46) (z_ln 85)) (z_lt (z_wr S4 85 ((S4 65 46) : Int32).toNatClampNeg a3) fun S6 => z_gd (z_in (S6 65 46) (z_ln 86)) (z_lt (z_wr S6 86 ((S6 65 46) : Int32).toNatClampNeg a4) fun S8 => z_lt (z_wr S8 65 46 ((S8 65 46) + 1)) fun S9 => some (((S9 65 46) - 1), S9)))))
set_option maxHeartbeats 4000000 in
set_option maxRecDepth 100000 in
theorem c_X10_valueOf {l : Launch} {G : Cx} {X S S' : St} {N : Nat} {a1 : Int32} {a2 : Int32} {a3 : Int32} {a4 : Int32} {r : Int32} (hq : z_inj (gq G)) (hf : f_X10_valueOf N a1 a2 a3 a4 S = some (r, S')) : z_Ct l yX10_valueOf cX10_valueOf 5 (some .int) 0 0 G X S [.ref (gq G (65)), .int (a1), .int (a2), .int (a3), .int (a4)] (z_QI G X S' r) := by
  refine z_start (by decide +kernel) (Nat.le_of_ble_eq_true rfl) ?_
  intro p e s m below meth c ls E hr hlk hK hP hS hl
  have E : CallFix p m c cX10_valueOf 5 s _ lw_good RX10 := E
  have hx := E.1
  have hb := E.2.1
  have hown := E.2.2.2.1
  have hts := E.2.2.2.2
  have hl : lv_has ls 5 [(0, .ref (gq G (65))), (1, .int (a1)), (2, .int (a2)), (3, .int (a3)), (4, .int (a4))] := hl
  unfold f_X10_valueOf at hf
  refine lv_aload_n hx hb dX10_valueOf_0 rfl (lv_at hl 0 rfl) ?_
  refine z_getR (C := RX10) (T := TX10) (N := 75) (ci := 10) (k := 36) (o := 65) (t := 83) E hK hP iwX10 rfl rfl (by decide) (by decide) rfl rfl rfl tw988 dX10_valueOf_1 ?_
  refine lv_aload_n hx hb dX10_valueOf_4 rfl (lv_at hl 0 rfl) ?_
  refine m_getI (C := RX10) (T := TX10) (N := 75) (ci := 10) (k := 46) (o := 65) E hK hP iwX10 rfl rfl (by decide) (by decide) rfl rfl (by decide) tw998 dX10_valueOf_5 ?_
  refine lv_iload_n hx hb dX10_valueOf_8 rfl (lv_at hl 1 rfl) ?_
  obtain ⟨hg1, hf⟩ := z_gd_some hf
  refine m_ast (o := 83) (i := (S 65 46)) (v := a1) E hK hq hP hS rfl (by decide) hg1 dX10_valueOf_9 (fun H locs hP hS => ?_)
  obtain ⟨S2, hf, hP⟩ := z_ltM hf hP
  refine lv_aload_n hx hb dX10_valueOf_10 rfl (lv_at hl 0 rfl) ?_
  refine z_getR (C := RX10) (T := TX10) (N := 75) (ci := 10) (k := 37) (o := 65) (t := 84) E hK hP iwX10 rfl rfl (by decide) (by decide) rfl rfl rfl tw989 dX10_valueOf_11 ?_
  refine lv_aload_n hx hb dX10_valueOf_14 rfl (lv_at hl 0 rfl) ?_
  refine m_getI (C := RX10) (T := TX10) (N := 75) (ci := 10) (k := 46) (o := 65) E hK hP iwX10 rfl rfl (by decide) (by decide) rfl rfl (by decide) tw998 dX10_valueOf_15 ?_
  refine lv_iload_n hx hb dX10_valueOf_18 rfl (lv_at hl 2 rfl) ?_
  obtain ⟨hg3, hf⟩ := z_gd_some hf
  refine m_ast (o := 84) (i := (S2 65 46)) (v := a2) E hK hq hP hS rfl (by decide) hg3 dX10_valueOf_19 (fun H locs hP hS => ?_)
  obtain ⟨S4, hf, hP⟩ := z_ltM hf hP
  refine lv_aload_n hx hb dX10_valueOf_20 rfl (lv_at hl 0 rfl) ?_
  refine z_getR (C := RX10) (T := TX10) (N := 75) (ci := 10) (k := 38) (o := 65) (t := 85) E hK hP iwX10 rfl rfl (by decide) (by decide) rfl rfl rfl tw990 dX10_valueOf_21 ?_
  refine lv_aload_n hx hb dX10_valueOf_24 rfl (lv_at hl 0 rfl) ?_
  refine m_getI (C := RX10) (T := TX10) (N := 75) (ci := 10) (k := 46) (o := 65) E hK hP iwX10 rfl rfl (by decide) (by decide) rfl rfl (by decide) tw998 dX10_valueOf_25 ?_
  refine lv_iload_n hx hb dX10_valueOf_28 rfl (lv_at hl 3 rfl) ?_
  obtain ⟨hg5, hf⟩ := z_gd_some hf
  refine m_ast (o := 85) (i := (S4 65 46)) (v := a3) E hK hq hP hS rfl (by decide) hg5 dX10_valueOf_29 (fun H locs hP hS => ?_)
  obtain ⟨S6, hf, hP⟩ := z_ltM hf hP
  refine lv_aload_n hx hb dX10_valueOf_30 rfl (lv_at hl 0 rfl) ?_
  refine z_getR (C := RX10) (T := TX10) (N := 75) (ci := 10) (k := 39) (o := 65) (t := 86) E hK hP iwX10 rfl rfl (by decide) (by decide) rfl rfl rfl tw991 dX10_valueOf_31 ?_
  refine lv_aload_n hx hb dX10_valueOf_34 rfl (lv_at hl 0 rfl) ?_
  refine m_getI (C := RX10) (T := TX10) (N := 75) (ci := 10) (k := 46) (o := 65) E hK hP iwX10 rfl rfl (by decide) (by decide) rfl rfl (by decide) tw998 dX10_valueOf_35 ?_
  refine lv_iload hx hb dX10_valueOf_38 (lv_at hl 4 rfl) ?_
  obtain ⟨hg7, hf⟩ := z_gd_some hf
  refine m_ast (o := 86) (i := (S6 65 46)) (v := a4) E hK hq hP hS rfl (by decide) hg7 dX10_valueOf_40 (fun H locs hP hS => ?_)
  obtain ⟨S8, hf, hP⟩ := z_ltM hf hP
  refine lv_aload_n hx hb dX10_valueOf_41 rfl (lv_at hl 0 rfl) ?_
  refine lv_dup hx hb dX10_valueOf_42 rfl ?_
  refine m_getI (C := RX10) (T := TX10) (N := 75) (ci := 10) (k := 46) (o := 65) E hK hP iwX10 rfl rfl (by decide) (by decide) rfl rfl (by decide) tw998 dX10_valueOf_43 ?_
  refine lv_iconst (v := 1) hx hb dX10_valueOf_46 (by decide) ?_
  refine lv_iadd hx hb dX10_valueOf_47 ?_
  refine m_putI (C := RX10) (T := TX10) (N := 75) (ci := 10) (k := 46) (o := 65) (v := ((S8 65 46) + 1)) (ty := .int) E hK hq hP hS iwX10 tyX10 tyX10_ok nmX10 rfl rfl (by decide) (by decide) rfl rfl (by decide) rfl (tyX10_ok 46 (by decide)) ⟨rfl, rfl⟩ tw998 dX10_valueOf_48 (fun H locs hP hS => ?_)
  obtain ⟨S9, hf, hP⟩ := z_ltM hf hP
  refine lv_aload_n hx hb dX10_valueOf_51 rfl (lv_at hl 0 rfl) ?_
  refine m_getI (C := RX10) (T := TX10) (N := 75) (ci := 10) (k := 46) (o := 65) E hK hP iwX10 rfl rfl (by decide) (by decide) rfl rfl (by decide) tw998 dX10_valueOf_52 ?_
  refine lv_iconst (v := 1) hx hb dX10_valueOf_55 (by decide) ?_
  refine lv_isub hx hb dX10_valueOf_56 ?_
  exact m_reti hx hb hr hlk hf hP hS dX10_valueOf_57
theorem cv_X10_valueOf : z_cv yX10_valueOf cX10_valueOf 5 (some .int) RX10 4 := ⟨⟨tw1235, twp42⟩, tw1236, tw11, by decide +kernel⟩
def f_X10_frameWith (N : Nat) (a1 : Int32) (a2 : Int32) (a3 : Int32) (S : St) : Option (Int32 × St) := z_gd (z_in (S 65 47) (z_ln 87)) (z_lt (z_wr S 87 ((S 65 47) : Int32).toNatClampNeg a2) fun S2 => z_gd (z_in (S2 65 48) (z_ln 88)) (z_lt (z_wr S2 88 ((S2 65 48) : Int32).toNatClampNeg a1) fun S4 => z_gd (z_in (S4 65 48) (z_ln 89)) (z_lt (z_wr S4 89 ((S4 65 48) : Int32).toNatClampNeg (S4 65 47)) fun S6 => z_gd (z_in (S6 65 48) (z_ln 90)) (z_lt (z_wr S6 90 ((S6 65 48) : Int32).toNatClampNeg a3) fun S8 => z_lt (z_wr S8 65 47 ((S8 65 47) + 1)) fun S9 => z_lt (z_wr S9 65 48 ((S9 65 48) + 1)) fun S10 => some (((S10 65 48) - 1), S10)))))
set_option maxHeartbeats 4000000 in
set_option maxRecDepth 100000 in
theorem c_X10_frameWith {l : Launch} {G : Cx} {X S S' : St} {N : Nat} {a1 : Int32} {a2 : Int32} {a3 : Int32} {r : Int32} (hq : z_inj (gq G)) (hf : f_X10_frameWith N a1 a2 a3 S = some (r, S')) : z_Ct l yX10_frameWith cX10_frameWith 4 (some .int) 0 0 G X S [.ref (gq G (65)), .int (a1), .int (a2), .int (a3)] (z_QI G X S' r) := by
  refine z_start (by decide +kernel) (Nat.le_of_ble_eq_true rfl) ?_
  intro p e s m below meth c ls E hr hlk hK hP hS hl
  have E : CallFix p m c cX10_frameWith 4 s _ lw_good RX10 := E
  have hx := E.1
  have hb := E.2.1
  have hown := E.2.2.2.1
  have hts := E.2.2.2.2
  have hl : lv_has ls 4 [(0, .ref (gq G (65))), (1, .int (a1)), (2, .int (a2)), (3, .int (a3))] := hl
  unfold f_X10_frameWith at hf
  refine lv_aload_n hx hb dX10_frameWith_0 rfl (lv_at hl 0 rfl) ?_
  refine z_getR (C := RX10) (T := TX10) (N := 75) (ci := 10) (k := 40) (o := 65) (t := 87) E hK hP iwX10 rfl rfl (by decide) (by decide) rfl rfl rfl tw992 dX10_frameWith_1 ?_
  refine lv_aload_n hx hb dX10_frameWith_4 rfl (lv_at hl 0 rfl) ?_
  refine m_getI (C := RX10) (T := TX10) (N := 75) (ci := 10) (k := 47) (o := 65) E hK hP iwX10 rfl rfl (by decide) (by decide) rfl rfl (by decide) tw999 dX10_frameWith_5 ?_
  refine lv_iload_n hx hb dX10_frameWith_8 rfl (lv_at hl 2 rfl) ?_
  obtain ⟨hg1, hf⟩ := z_gd_some hf
  refine m_ast (o := 87) (i := (S 65 47)) (v := a2) E hK hq hP hS rfl (by decide) hg1 dX10_frameWith_9 (fun H locs hP hS => ?_)
  obtain ⟨S2, hf, hP⟩ := z_ltM hf hP
  refine lv_aload_n hx hb dX10_frameWith_10 rfl (lv_at hl 0 rfl) ?_
  refine z_getR (C := RX10) (T := TX10) (N := 75) (ci := 10) (k := 41) (o := 65) (t := 88) E hK hP iwX10 rfl rfl (by decide) (by decide) rfl rfl rfl tw993 dX10_frameWith_11 ?_
  refine lv_aload_n hx hb dX10_frameWith_14 rfl (lv_at hl 0 rfl) ?_
  refine m_getI (C := RX10) (T := TX10) (N := 75) (ci := 10) (k := 48) (o := 65) E hK hP iwX10 rfl rfl (by decide) (by decide) rfl rfl (by decide) tw1000 dX10_frameWith_15 ?_
  refine lv_iload_n hx hb dX10_frameWith_18 rfl (lv_at hl 1 rfl) ?_
  obtain ⟨hg3, hf⟩ := z_gd_some hf
  refine m_ast (o := 88) (i := (S2 65 48)) (v := a1) E hK hq hP hS rfl (by decide) hg3 dX10_frameWith_19 (fun H locs hP hS => ?_)
  obtain ⟨S4, hf, hP⟩ := z_ltM hf hP
  refine lv_aload_n hx hb dX10_frameWith_20 rfl (lv_at hl 0 rfl) ?_
  refine z_getR (C := RX10) (T := TX10) (N := 75) (ci := 10) (k := 42) (o := 65) (t := 89) E hK hP iwX10 rfl rfl (by decide) (by decide) rfl rfl rfl tw994 dX10_frameWith_21 ?_
  refine lv_aload_n hx hb dX10_frameWith_24 rfl (lv_at hl 0 rfl) ?_
  refine m_getI (C := RX10) (T := TX10) (N := 75) (ci := 10) (k := 48) (o := 65) E hK hP iwX10 rfl rfl (by decide) (by decide) rfl rfl (by decide) tw1000 dX10_frameWith_25 ?_
  refine lv_aload_n hx hb dX10_frameWith_28 rfl (lv_at hl 0 rfl) ?_
  refine m_getI (C := RX10) (T := TX10) (N := 75) (ci := 10) (k := 47) (o := 65) E hK hP iwX10 rfl rfl (by decide) (by decide) rfl rfl (by decide) tw999 dX10_frameWith_29 ?_
  obtain ⟨hg5, hf⟩ := z_gd_some hf
  refine m_ast (o := 89) (i := (S4 65 48)) (v := (S4 65 47)) E hK hq hP hS rfl (by decide) hg5 dX10_frameWith_32 (fun H locs hP hS => ?_)
  obtain ⟨S6, hf, hP⟩ := z_ltM hf hP
  refine lv_aload_n hx hb dX10_frameWith_33 rfl (lv_at hl 0 rfl) ?_
  refine z_getR (C := RX10) (T := TX10) (N := 75) (ci := 10) (k := 43) (o := 65) (t := 90) E hK hP iwX10 rfl rfl (by decide) (by decide) rfl rfl rfl tw995 dX10_frameWith_34 ?_
  refine lv_aload_n hx hb dX10_frameWith_37 rfl (lv_at hl 0 rfl) ?_
  refine m_getI (C := RX10) (T := TX10) (N := 75) (ci := 10) (k := 48) (o := 65) E hK hP iwX10 rfl rfl (by decide) (by decide) rfl rfl (by decide) tw1000 dX10_frameWith_38 ?_
  refine lv_iload_n hx hb dX10_frameWith_41 rfl (lv_at hl 3 rfl) ?_
  obtain ⟨hg7, hf⟩ := z_gd_some hf
  refine m_ast (o := 90) (i := (S6 65 48)) (v := a3) E hK hq hP hS rfl (by decide) hg7 dX10_frameWith_42 (fun H locs hP hS => ?_)
  obtain ⟨S8, hf, hP⟩ := z_ltM hf hP
  refine lv_aload_n hx hb dX10_frameWith_43 rfl (lv_at hl 0 rfl) ?_
  refine lv_dup hx hb dX10_frameWith_44 rfl ?_
  refine m_getI (C := RX10) (T := TX10) (N := 75) (ci := 10) (k := 47) (o := 65) E hK hP iwX10 rfl rfl (by decide) (by decide) rfl rfl (by decide) tw999 dX10_frameWith_45 ?_
  refine lv_iconst (v := 1) hx hb dX10_frameWith_48 (by decide) ?_
  refine lv_iadd hx hb dX10_frameWith_49 ?_
  refine m_putI (C := RX10) (T := TX10) (N := 75) (ci := 10) (k := 47) (o := 65) (v := ((S8 65 47) + 1)) (ty := .int) E hK hq hP hS iwX10 tyX10 tyX10_ok nmX10 rfl rfl (by decide) (by decide) rfl rfl (by decide) rfl (tyX10_ok 47 (by decide)) ⟨rfl, rfl⟩ tw999 dX10_frameWith_50 (fun H locs hP hS => ?_)
  obtain ⟨S9, hf, hP⟩ := z_ltM hf hP
  refine lv_aload_n hx hb dX10_frameWith_53 rfl (lv_at hl 0 rfl) ?_
  refine lv_dup hx hb dX10_frameWith_54 rfl ?_
  refine m_getI (C := RX10) (T := TX10) (N := 75) (ci := 10) (k := 48) (o := 65) E hK hP iwX10 rfl rfl (by decide) (by decide) rfl rfl (by decide) tw1000 dX10_frameWith_55 ?_
  refine lv_iconst (v := 1) hx hb dX10_frameWith_58 (by decide) ?_
  refine lv_iadd hx hb dX10_frameWith_59 ?_
  refine m_putI (C := RX10) (T := TX10) (N := 75) (ci := 10) (k := 48) (o := 65) (v := ((S9 65 48) + 1)) (ty := .int) E hK hq hP hS iwX10 tyX10 tyX10_ok nmX10 rfl rfl (by decide) (by decide) rfl rfl (by decide) rfl (tyX10_ok 48 (by decide)) ⟨rfl, rfl⟩ tw1000 dX10_frameWith_60 (fun H locs hP hS => ?_)
  obtain ⟨S10, hf, hP⟩ := z_ltM hf hP
  refine lv_aload_n hx hb dX10_frameWith_63 rfl (lv_at hl 0 rfl) ?_
  refine m_getI (C := RX10) (T := TX10) (N := 75) (ci := 10) (k := 48) (o := 65) E hK hP iwX10 rfl rfl (by decide) (by decide) rfl rfl (by decide) tw1000 dX10_frameWith_64 ?_
  refine lv_iconst (v := 1) hx hb dX10_frameWith_67 (by decide) ?_
  refine lv_isub hx hb dX10_frameWith_68 ?_
  exact m_reti hx hb hr hlk hf hP hS dX10_frameWith_69
theorem cv_X10_frameWith : z_cv yX10_frameWith cX10_frameWith 4 (some .int) RX10 3 := ⟨⟨tw1279, twp53⟩, tw1280, tw11, by decide +kernel⟩
def b_X10_cellOf_26 (N : Nat) (v3 : Int32) (S : St) : Option (Int32 × St) := if v3 ≤ 0 then (some ((-9), S)) else (z_gd (z_in v3 (z_ln 89)) (some ((S 89 (v3 : Int32).toNatClampNeg), S)))
def b_X10_cellOf_2 (N : Nat) (k2 : Int32 → Int32 → St → Option (Int32 × St)) (v1 : Int32) (v3 : Int32) (S : St) : Option (Int32 × St) := if v3 ≤ 0 then (b_X10_cellOf_26 N (v3) S) else (z_gd (z_in v3 (z_ln 88)) (if (S 88 (v3 : Int32).toNatClampNeg) = v1 then (b_X10_cellOf_26 N (v3) S) else (z_gd (z_in v3 (z_ln 90)) (k2 (v1) ((S 90 (v3 : Int32).toNatClampNeg)) S))))
def f_X10_cellOf_2 (N : Nat) : Nat → Int32 → Int32 → St → Option (Int32 × St)
  | 0 => fun _ _ _ => none
  | n + 1 => b_X10_cellOf_2 N (f_X10_cellOf_2 N n)
def f_X10_cellOf (N : Nat) (a1 : Int32) (a2 : Int32) (S : St) : Option (Int32 × St) := f_X10_cellOf_2 N N (a1) (a2) S
set_option maxHeartbeats 4000000 in
set_option maxRecDepth 100000 in
theorem c_X10_cellOf {l : Launch} {G : Cx} {X S S' : St} {N : Nat} {a1 : Int32} {a2 : Int32} {r : Int32} (hq : z_inj (gq G)) (hf : f_X10_cellOf N a1 a2 S = some (r, S')) : z_Ct l yX10_cellOf cX10_cellOf 4 (some .int) 0 0 G X S [.ref (gq G (65)), .int (a1), .int (a2)] (z_QI G X S' r) := by
  refine z_start (by decide +kernel) (Nat.le_of_ble_eq_true rfl) ?_
  intro p e s m below meth c ls E hr hlk hK hP hS hl
  have E : CallFix p m c cX10_cellOf 4 s _ lw_good RX10 := E
  have hx := E.1
  have hb := E.2.1
  have hown := E.2.2.2.1
  have hts := E.2.2.2.2
  have hJ26 : ∀ (v3 : Int32) (S : St) (H : Heap) (locs : List Loc) (ls : Array Slot), b_X10_cellOf_26 N v3 S = some (r, S') → z_P G X S H → z_S G s.heap H locs → lv_has ls 4 [(0, .ref (gq G (65))), (3, .int (v3))] → W p l e (z_rm 0 0) s m ([.ref (gq G (65)), .int (a1), .int (a2)] : List Value).toArray below meth c H locs 0 0 (MQ below (z_QI G X S' r) ([.ref (gq G (65)), .int (a1), .int (a2)] : List Value).toArray s 0 0 (z_Aq (gq G))) (F0 m 26 ls []) := by
    intro v3 S H locs ls hf hP hS hl
    unfold b_X10_cellOf_26 at hf
    refine lv_iload_n hx hb dX10_cellOf_26 rfl (lv_at hl 1 rfl) ?_
    refine lv_if_le (tgt := 39) hx hb dX10_cellOf_27 (by decide) (fun hc5 => ?_) (fun hc5 => ?_)
    · replace hf := z_ifp hf hc5
      refine lv_bipush (v := (-9)) hx hb dX10_cellOf_39 (by decide) ?_
      exact m_reti hx hb hr hlk hf hP hS dX10_cellOf_41
    · replace hf := z_ifn hf hc5
      refine lv_aload_n hx hb dX10_cellOf_30 rfl (lv_at hl 0 rfl) ?_
      refine z_getR (C := RX10) (T := TX10) (N := 75) (ci := 10) (k := 42) (o := 65) (t := 89) E hK hP iwX10 rfl rfl (by decide) (by decide) rfl rfl rfl tw994 dX10_cellOf_31 ?_
      refine lv_iload_n hx hb dX10_cellOf_34 rfl (lv_at hl 1 rfl) ?_
      obtain ⟨hg6, hf⟩ := z_gd_some hf
      refine m_ald (o := 89) (i := v3) E hK hP rfl (by decide) hg6 dX10_cellOf_35 ?_
      refine lv_goto (tgt := 41) hx hb dX10_cellOf_36 (by decide) ?_
      exact m_reti hx hb hr hlk hf hP hS dX10_cellOf_41
  have hB2 : ∀ (k2 : Int32 → Int32 → St → Option (Int32 × St)) (hk2 : ∀ (v1 : Int32) (v3 : Int32) (S : St) (H : Heap) (locs : List Loc) (ls : Array Slot), k2 v1 v3 S = some (r, S') → z_P G X S H → z_S G s.heap H locs → lv_has ls 4 [(0, .ref (gq G (65))), (1, .int (v1)), (3, .int (v3))] → W p l e (z_rm 0 0) s m ([.ref (gq G (65)), .int (a1), .int (a2)] : List Value).toArray below meth c H locs 0 0 (MQ below (z_QI G X S' r) ([.ref (gq G (65)), .int (a1), .int (a2)] : List Value).toArray s 0 0 (z_Aq (gq G))) (F0 m 2 ls [])), ∀ (v1 : Int32) (v3 : Int32) (S : St) (H : Heap) (locs : List Loc) (ls : Array Slot), b_X10_cellOf_2 N k2 v1 v3 S = some (r, S') → z_P G X S H → z_S G s.heap H locs → lv_has ls 4 [(0, .ref (gq G (65))), (1, .int (v1)), (3, .int (v3))] → W p l e (z_rm 0 0) s m ([.ref (gq G (65)), .int (a1), .int (a2)] : List Value).toArray below meth c H locs 0 0 (MQ below (z_QI G X S' r) ([.ref (gq G (65)), .int (a1), .int (a2)] : List Value).toArray s 0 0 (z_Aq (gq G))) (F0 m 2 ls []) := by
    intro k2 hk2 v1 v3 S H locs ls hf hP hS hl
    unfold b_X10_cellOf_2 at hf
    refine lv_iload_n hx hb dX10_cellOf_2 rfl (lv_at hl 2 rfl) ?_
    refine lv_if_le (tgt := 26) hx hb dX10_cellOf_3 (by decide) (fun hc1 => ?_) (fun hc1 => ?_)
    · replace hf := z_ifp hf hc1
      exact hJ26 (v3) S _ _ _ hf hP hS (lv_sub hl [0, 2] rfl)
    · replace hf := z_ifn hf hc1
      refine lv_aload_n hx hb dX10_cellOf_6 rfl (lv_at hl 0 rfl) ?_
      refine z_getR (C := RX10) (T := TX10) (N := 75) (ci := 10) (k := 41) (o := 65) (t := 88) E hK hP iwX10 rfl rfl (by decide) (by decide) rfl rfl rfl tw993 dX10_cellOf_7 ?_
      refine lv_iload_n hx hb dX10_cellOf_10 rfl (lv_at hl 2 rfl) ?_
      obtain ⟨hg2, hf⟩ := z_gd_some hf
      refine m_ald (o := 88) (i := v3) E hK hP rfl (by decide) hg2 dX10_cellOf_11 ?_
      refine lv_iload_n hx hb dX10_cellOf_12 rfl (lv_at hl 1 rfl) ?_
      refine lv_icmp_eq (tgt := 26) hx hb dX10_cellOf_13 (by decide) (fun hc3 => ?_) (fun hc3 => ?_)
      · replace hf := z_ifp hf hc3
        exact hJ26 (v3) S _ _ _ hf hP hS (lv_sub hl [0, 2] rfl)
      · replace hf := z_ifn hf hc3
        refine lv_aload_n hx hb dX10_cellOf_16 rfl (lv_at hl 0 rfl) ?_
        refine z_getR (C := RX10) (T := TX10) (N := 75) (ci := 10) (k := 43) (o := 65) (t := 90) E hK hP iwX10 rfl rfl (by decide) (by decide) rfl rfl rfl tw995 dX10_cellOf_17 ?_
        refine lv_iload_n hx hb dX10_cellOf_20 rfl (lv_at hl 2 rfl) ?_
        obtain ⟨hg4, hf⟩ := z_gd_some hf
        refine m_ald (o := 90) (i := v3) E hK hP rfl (by decide) hg4 dX10_cellOf_21 ?_
        refine lv_istore_n (lv' := [(3, .int ((S 90 (v3 : Int32).toNatClampNeg))), (0, .ref (gq G (65))), (1, .int (v1))]) hx hb dX10_cellOf_22 rfl hl (by decide) rfl (fun ls hl => ?_)
        refine lv_goto (tgt := 2) hx hb dX10_cellOf_23 (by decide) ?_
        exact hk2 (v1) ((S 90 (v3 : Int32).toNatClampNeg)) S _ _ _ hf hP hS (lv_sub hl [1, 2, 0] rfl)
  have hL2 : ∀ (n : Nat), ∀ (v1 : Int32) (v3 : Int32) (S : St) (H : Heap) (locs : List Loc) (ls : Array Slot), f_X10_cellOf_2 N n v1 v3 S = some (r, S') → z_P G X S H → z_S G s.heap H locs → lv_has ls 4 [(0, .ref (gq G (65))), (1, .int (v1)), (3, .int (v3))] → W p l e (z_rm 0 0) s m ([.ref (gq G (65)), .int (a1), .int (a2)] : List Value).toArray below meth c H locs 0 0 (MQ below (z_QI G X S' r) ([.ref (gq G (65)), .int (a1), .int (a2)] : List Value).toArray s 0 0 (z_Aq (gq G))) (F0 m 2 ls []) := by
    intro  n
    induction n with
    | zero => intro _ _ _ _ _ _ hf; cases hf
    | succ n ih => exact hB2  _  ih
  have hl : lv_has ls 4 [(0, .ref (gq G (65))), (1, .int (a1)), (2, .int (a2))] := hl
  unfold f_X10_cellOf at hf
  refine lv_iload_n hx hb dX10_cellOf_0 rfl (lv_at hl 2 rfl) ?_
  refine lv_istore_n (lv' := [(3, .int (a2)), (0, .ref (gq G (65))), (1, .int (a1)), (2, .int (a2))]) hx hb dX10_cellOf_1 rfl hl (by decide) rfl (fun ls hl => ?_)
  exact hL2 N (a1) (a2) S _ _ _ hf hP hS (lv_sub hl [1, 2, 0] rfl)
theorem cv_X10_cellOf : z_cv yX10_cellOf cX10_cellOf 4 (some .int) RX10 2 := ⟨⟨tw1247, twp45⟩, tw1248, tw11, by decide +kernel⟩
def f_X10_faultOf (N : Nat) (a1 : Int32) (a2 : Int32) (S : St) : Option (Int32 × St) := z_gd (z_in (S 65 49) (z_ln 91)) (z_lt (z_wr S 91 ((S 65 49) : Int32).toNatClampNeg a1) fun S2 => z_gd (z_in (S2 65 49) (z_ln 92)) (z_lt (z_wr S2 92 ((S2 65 49) : Int32).toNatClampNeg a2) fun S4 => z_lt (z_wr S4 65 49 ((S4 65 49) + 1)) fun S5 => some (((S5 65 49) - 1), S5)))
set_option maxHeartbeats 4000000 in
set_option maxRecDepth 100000 in
theorem c_X10_faultOf {l : Launch} {G : Cx} {X S S' : St} {N : Nat} {a1 : Int32} {a2 : Int32} {r : Int32} (hq : z_inj (gq G)) (hf : f_X10_faultOf N a1 a2 S = some (r, S')) : z_Ct l yX10_faultOf cX10_faultOf 3 (some .int) 0 0 G X S [.ref (gq G (65)), .int (a1), .int (a2)] (z_QI G X S' r) := by
  refine z_start (by decide +kernel) (Nat.le_of_ble_eq_true rfl) ?_
  intro p e s m below meth c ls E hr hlk hK hP hS hl
  have E : CallFix p m c cX10_faultOf 3 s _ lw_good RX10 := E
  have hx := E.1
  have hb := E.2.1
  have hown := E.2.2.2.1
  have hts := E.2.2.2.2
  have hl : lv_has ls 3 [(0, .ref (gq G (65))), (1, .int (a1)), (2, .int (a2))] := hl
  unfold f_X10_faultOf at hf
  refine lv_aload_n hx hb dX10_faultOf_0 rfl (lv_at hl 0 rfl) ?_
  refine z_getR (C := RX10) (T := TX10) (N := 75) (ci := 10) (k := 44) (o := 65) (t := 91) E hK hP iwX10 rfl rfl (by decide) (by decide) rfl rfl rfl tw996 dX10_faultOf_1 ?_
  refine lv_aload_n hx hb dX10_faultOf_4 rfl (lv_at hl 0 rfl) ?_
  refine m_getI (C := RX10) (T := TX10) (N := 75) (ci := 10) (k := 49) (o := 65) E hK hP iwX10 rfl rfl (by decide) (by decide) rfl rfl (by decide) tw1001 dX10_faultOf_5 ?_
  refine lv_iload_n hx hb dX10_faultOf_8 rfl (lv_at hl 1 rfl) ?_
  obtain ⟨hg1, hf⟩ := z_gd_some hf
  refine m_ast (o := 91) (i := (S 65 49)) (v := a1) E hK hq hP hS rfl (by decide) hg1 dX10_faultOf_9 (fun H locs hP hS => ?_)
  obtain ⟨S2, hf, hP⟩ := z_ltM hf hP
  refine lv_aload_n hx hb dX10_faultOf_10 rfl (lv_at hl 0 rfl) ?_
  refine z_getR (C := RX10) (T := TX10) (N := 75) (ci := 10) (k := 45) (o := 65) (t := 92) E hK hP iwX10 rfl rfl (by decide) (by decide) rfl rfl rfl tw997 dX10_faultOf_11 ?_
  refine lv_aload_n hx hb dX10_faultOf_14 rfl (lv_at hl 0 rfl) ?_
  refine m_getI (C := RX10) (T := TX10) (N := 75) (ci := 10) (k := 49) (o := 65) E hK hP iwX10 rfl rfl (by decide) (by decide) rfl rfl (by decide) tw1001 dX10_faultOf_15 ?_
  refine lv_iload_n hx hb dX10_faultOf_18 rfl (lv_at hl 2 rfl) ?_
  obtain ⟨hg3, hf⟩ := z_gd_some hf
  refine m_ast (o := 92) (i := (S2 65 49)) (v := a2) E hK hq hP hS rfl (by decide) hg3 dX10_faultOf_19 (fun H locs hP hS => ?_)
  obtain ⟨S4, hf, hP⟩ := z_ltM hf hP
  refine lv_aload_n hx hb dX10_faultOf_20 rfl (lv_at hl 0 rfl) ?_
  refine lv_dup hx hb dX10_faultOf_21 rfl ?_
  refine m_getI (C := RX10) (T := TX10) (N := 75) (ci := 10) (k := 49) (o := 65) E hK hP iwX10 rfl rfl (by decide) (by decide) rfl rfl (by decide) tw1001 dX10_faultOf_22 ?_
  refine lv_iconst (v := 1) hx hb dX10_faultOf_25 (by decide) ?_
  refine lv_iadd hx hb dX10_faultOf_26 ?_
  refine m_putI (C := RX10) (T := TX10) (N := 75) (ci := 10) (k := 49) (o := 65) (v := ((S4 65 49) + 1)) (ty := .int) E hK hq hP hS iwX10 tyX10 tyX10_ok nmX10 rfl rfl (by decide) (by decide) rfl rfl (by decide) rfl (tyX10_ok 49 (by decide)) ⟨rfl, rfl⟩ tw1001 dX10_faultOf_27 (fun H locs hP hS => ?_)
  obtain ⟨S5, hf, hP⟩ := z_ltM hf hP
  refine lv_aload_n hx hb dX10_faultOf_30 rfl (lv_at hl 0 rfl) ?_
  refine m_getI (C := RX10) (T := TX10) (N := 75) (ci := 10) (k := 49) (o := 65) E hK hP iwX10 rfl rfl (by decide) (by decide) rfl rfl (by decide) tw1001 dX10_faultOf_31 ?_
  refine lv_iconst (v := 1) hx hb dX10_faultOf_34 (by decide) ?_
  refine lv_isub hx hb dX10_faultOf_35 ?_
  exact m_reti hx hb hr hlk hf hP hS dX10_faultOf_36
theorem cv_X10_faultOf : z_cv yX10_faultOf cX10_faultOf 3 (some .int) RX10 2 := ⟨⟨tw1231, twp41⟩, tw1232, tw11, by decide +kernel⟩
def f_X10_makes (N : Nat) (a1 : Int32) (a2 : Int32) (a3 : Int32) (S : St) : Option (St) := z_lt (z_wr S 65 56 0) fun S1 => z_lt (z_wr S1 65 57 a1) fun S2 => z_lt (z_wr S2 65 58 a2) fun S3 => z_lt (z_wr S3 65 59 a3) fun S4 => some S4
set_option maxHeartbeats 4000000 in
set_option maxRecDepth 100000 in
theorem c_X10_makes {l : Launch} {G : Cx} {X S S' : St} {N : Nat} {a1 : Int32} {a2 : Int32} {a3 : Int32} (hq : z_inj (gq G)) (hf : f_X10_makes N a1 a2 a3 S = some S') : z_Ct l yX10_makes cX10_makes 4 none 0 0 G X S [.ref (gq G (65)), .int (a1), .int (a2), .int (a3)] (z_QV G X S') := by
  refine z_start (by decide +kernel) (Nat.le_of_ble_eq_true rfl) ?_
  intro p e s m below meth c ls E hr hlk hK hP hS hl
  have E : CallFix p m c cX10_makes 4 s _ lw_good RX10 := E
  have hx := E.1
  have hb := E.2.1
  have hown := E.2.2.2.1
  have hts := E.2.2.2.2
  have hl : lv_has ls 4 [(0, .ref (gq G (65))), (1, .int (a1)), (2, .int (a2)), (3, .int (a3))] := hl
  unfold f_X10_makes at hf
  refine lv_aload_n hx hb dX10_makes_0 rfl (lv_at hl 0 rfl) ?_
  refine lv_iconst (v := 0) hx hb dX10_makes_1 (by decide) ?_
  refine m_putI (C := RX10) (T := TX10) (N := 75) (ci := 10) (k := 56) (o := 65) (v := 0) (ty := .int) E hK hq hP hS iwX10 tyX10 tyX10_ok nmX10 rfl rfl (by decide) (by decide) rfl rfl (by decide) rfl (tyX10_ok 56 (by decide)) ⟨rfl, rfl⟩ tw1008 dX10_makes_2 (fun H locs hP hS => ?_)
  obtain ⟨S1, hf, hP⟩ := z_ltM hf hP
  refine lv_aload_n hx hb dX10_makes_5 rfl (lv_at hl 0 rfl) ?_
  refine lv_iload_n hx hb dX10_makes_6 rfl (lv_at hl 1 rfl) ?_
  refine m_putI (C := RX10) (T := TX10) (N := 75) (ci := 10) (k := 57) (o := 65) (v := a1) (ty := .int) E hK hq hP hS iwX10 tyX10 tyX10_ok nmX10 rfl rfl (by decide) (by decide) rfl rfl (by decide) rfl (tyX10_ok 57 (by decide)) ⟨rfl, rfl⟩ tw1009 dX10_makes_7 (fun H locs hP hS => ?_)
  obtain ⟨S2, hf, hP⟩ := z_ltM hf hP
  refine lv_aload_n hx hb dX10_makes_10 rfl (lv_at hl 0 rfl) ?_
  refine lv_iload_n hx hb dX10_makes_11 rfl (lv_at hl 2 rfl) ?_
  refine m_putI (C := RX10) (T := TX10) (N := 75) (ci := 10) (k := 58) (o := 65) (v := a2) (ty := .int) E hK hq hP hS iwX10 tyX10 tyX10_ok nmX10 rfl rfl (by decide) (by decide) rfl rfl (by decide) rfl (tyX10_ok 58 (by decide)) ⟨rfl, rfl⟩ tw1010 dX10_makes_12 (fun H locs hP hS => ?_)
  obtain ⟨S3, hf, hP⟩ := z_ltM hf hP
  refine lv_aload_n hx hb dX10_makes_15 rfl (lv_at hl 0 rfl) ?_
  refine lv_iload_n hx hb dX10_makes_16 rfl (lv_at hl 3 rfl) ?_
  refine m_putI (C := RX10) (T := TX10) (N := 75) (ci := 10) (k := 59) (o := 65) (v := a3) (ty := .int) E hK hq hP hS iwX10 tyX10 tyX10_ok nmX10 rfl rfl (by decide) (by decide) rfl rfl (by decide) rfl (tyX10_ok 59 (by decide)) ⟨rfl, rfl⟩ tw1011 dX10_makes_17 (fun H locs hP hS => ?_)
  obtain ⟨S4, hf, hP⟩ := z_ltM hf hP
  exact m_retv hx hb hr hlk hf hP hS dX10_makes_20
theorem cv_X10_makes : z_cv yX10_makes cX10_makes 4 none RX10 3 := ⟨⟨tw1219, twp38⟩, tw1220, tw11, by decide +kernel⟩
def f_X10_has (N : Nat) (a1 : Int32) (S : St) : Option (St) := z_lt (z_wr S 65 56 1) fun S1 => z_lt (z_wr S1 65 60 a1) fun S2 => some S2
set_option maxHeartbeats 4000000 in
set_option maxRecDepth 100000 in
theorem c_X10_has {l : Launch} {G : Cx} {X S S' : St} {N : Nat} {a1 : Int32} (hq : z_inj (gq G)) (hf : f_X10_has N a1 S = some S') : z_Ct l yX10_has cX10_has 2 none 0 0 G X S [.ref (gq G (65)), .int (a1)] (z_QV G X S') := by
  refine z_start (by decide +kernel) (Nat.le_of_ble_eq_true rfl) ?_
  intro p e s m below meth c ls E hr hlk hK hP hS hl
  have E : CallFix p m c cX10_has 2 s _ lw_good RX10 := E
  have hx := E.1
  have hb := E.2.1
  have hown := E.2.2.2.1
  have hts := E.2.2.2.2
  have hl : lv_has ls 2 [(0, .ref (gq G (65))), (1, .int (a1))] := hl
  unfold f_X10_has at hf
  refine lv_aload_n hx hb dX10_has_0 rfl (lv_at hl 0 rfl) ?_
  refine lv_iconst (v := 1) hx hb dX10_has_1 (by decide) ?_
  refine m_putI (C := RX10) (T := TX10) (N := 75) (ci := 10) (k := 56) (o := 65) (v := 1) (ty := .int) E hK hq hP hS iwX10 tyX10 tyX10_ok nmX10 rfl rfl (by decide) (by decide) rfl rfl (by decide) rfl (tyX10_ok 56 (by decide)) ⟨rfl, rfl⟩ tw1008 dX10_has_2 (fun H locs hP hS => ?_)
  obtain ⟨S1, hf, hP⟩ := z_ltM hf hP
  refine lv_aload_n hx hb dX10_has_5 rfl (lv_at hl 0 rfl) ?_
  refine lv_iload_n hx hb dX10_has_6 rfl (lv_at hl 1 rfl) ?_
  refine m_putI (C := RX10) (T := TX10) (N := 75) (ci := 10) (k := 60) (o := 65) (v := a1) (ty := .int) E hK hq hP hS iwX10 tyX10 tyX10_ok nmX10 rfl rfl (by decide) (by decide) rfl rfl (by decide) rfl (tyX10_ok 60 (by decide)) ⟨rfl, rfl⟩ tw1012 dX10_has_7 (fun H locs hP hS => ?_)
  obtain ⟨S2, hf, hP⟩ := z_ltM hf hP
  exact m_retv hx hb hr hlk hf hP hS dX10_has_10
theorem cv_X10_has : z_cv yX10_has cX10_has 2 none RX10 1 := ⟨⟨tw1239, twp43⟩, tw1240, tw11, by decide +kernel⟩
def f_X10_fails (N : Nat) (a1 : Int32) (S : St) : Option (St) := z_lt (z_wr S 65 56 2) fun S1 => z_bd (f_X10_faultOf N (a1) ((-9)) S1) fun r3 S2 => z_lt (z_wr S2 65 61 r3) fun S5 => some S5
set_option maxHeartbeats 4000000 in
set_option maxRecDepth 100000 in
theorem c_X10_fails {l : Launch} {G : Cx} {X S S' : St} {N : Nat} {a1 : Int32} (hq : z_inj (gq G)) (hf : f_X10_fails N a1 S = some S') : z_Ct l yX10_fails cX10_fails 2 none 1 22 G X S [.ref (gq G (65)), .int (a1)] (z_QV G X S') := by
  refine z_start (by decide +kernel) (Nat.le_of_ble_eq_true rfl) ?_
  intro p e s m below meth c ls E hr hlk hK hP hS hl
  have E : CallFix p m c cX10_fails 2 s _ lw_good RX10 := E
  have hx := E.1
  have hb := E.2.1
  have hown := E.2.2.2.1
  have hts := E.2.2.2.2
  have hl : lv_has ls 2 [(0, .ref (gq G (65))), (1, .int (a1))] := hl
  unfold f_X10_fails at hf
  refine lv_aload_n hx hb dX10_fails_0 rfl (lv_at hl 0 rfl) ?_
  refine lv_iconst (v := 2) hx hb dX10_fails_1 (by decide) ?_
  refine m_putI (C := RX10) (T := TX10) (N := 75) (ci := 10) (k := 56) (o := 65) (v := 2) (ty := .int) E hK hq hP hS iwX10 tyX10 tyX10_ok nmX10 rfl rfl (by decide) (by decide) rfl rfl (by decide) rfl (tyX10_ok 56 (by decide)) ⟨rfl, rfl⟩ tw1008 dX10_fails_2 (fun H locs hP hS => ?_)
  obtain ⟨S1, hf, hP⟩ := z_ltM hf hP
  refine lv_aload_n hx hb dX10_fails_5 rfl (lv_at hl 0 rfl) ?_
  refine lv_aload_n hx hb dX10_fails_6 rfl (lv_at hl 0 rfl) ?_
  refine lv_iload_n hx hb dX10_fails_7 rfl (lv_at hl 1 rfl) ?_
  refine lv_bipush (v := (-9)) hx hb dX10_fails_8 (by decide) ?_
  obtain ⟨r3, S2, hz4, hf⟩ := z_bd_some hf
  refine z_ci (z_runV (o := 65) (ci := 10) E hK hP hS (c_X10_faultOf hq hz4) cv_X10_faultOf tw1229 rfl (by decide) rfl rfl ⟨Nat.le_of_ble_eq_true rfl, Nat.le_of_ble_eq_true rfl⟩ ⟨Nat.le_refl 0, Nat.le_refl 0⟩ hl.1 (Nat.le_of_ble_eq_true rfl) rfl dX10_fails_10) hS (fun H locs hP hS => ?_)
  refine m_putI (C := RX10) (T := TX10) (N := 75) (ci := 10) (k := 61) (o := 65) (v := r3) (ty := .int) E hK hq hP hS iwX10 tyX10 tyX10_ok nmX10 rfl rfl (by decide) (by decide) rfl rfl (by decide) rfl (tyX10_ok 61 (by decide)) ⟨rfl, rfl⟩ tw1013 dX10_fails_13 (fun H locs hP hS => ?_)
  obtain ⟨S5, hf, hP⟩ := z_ltM hf hP
  exact m_retv hx hb hr hlk hf hP hS dX10_fails_16
theorem cv_X10_fails : z_cv yX10_fails cX10_fails 2 none RX10 1 := ⟨⟨tw1227, twp40⟩, tw1228, tw11, by decide +kernel⟩
def f_X10_waitsFor (N : Nat) (a1 : Int32) (S : St) : Option (St) := z_gd (z_in (S 65 55) (z_ln 93)) (z_lt (z_wr S 93 ((S 65 55) : Int32).toNatClampNeg a1) fun S2 => z_gd (z_in (S2 65 55) (z_ln 94)) (z_lt (z_wr S2 94 ((S2 65 55) : Int32).toNatClampNeg 0) fun S4 => z_gd (z_in (S4 65 55) (z_ln 95)) (z_lt (z_wr S4 95 ((S4 65 55) : Int32).toNatClampNeg (S4 65 58)) fun S6 => z_gd (z_in (S6 65 55) (z_ln 96)) (z_lt (z_wr S6 96 ((S6 65 55) : Int32).toNatClampNeg (S6 65 59)) fun S8 => z_lt (z_wr S8 65 55 ((S8 65 55) + 1)) fun S9 => some S9))))
set_option maxHeartbeats 4000000 in
set_option maxRecDepth 100000 in
theorem c_X10_waitsFor {l : Launch} {G : Cx} {X S S' : St} {N : Nat} {a1 : Int32} (hq : z_inj (gq G)) (hf : f_X10_waitsFor N a1 S = some S') : z_Ct l yX10_waitsFor cX10_waitsFor 2 none 0 0 G X S [.ref (gq G (65)), .int (a1)] (z_QV G X S') := by
  refine z_start (by decide +kernel) (Nat.le_of_ble_eq_true rfl) ?_
  intro p e s m below meth c ls E hr hlk hK hP hS hl
  have E : CallFix p m c cX10_waitsFor 2 s _ lw_good RX10 := E
  have hx := E.1
  have hb := E.2.1
  have hown := E.2.2.2.1
  have hts := E.2.2.2.2
  have hl : lv_has ls 2 [(0, .ref (gq G (65))), (1, .int (a1))] := hl
  unfold f_X10_waitsFor at hf
  refine lv_aload_n hx hb dX10_waitsFor_0 rfl (lv_at hl 0 rfl) ?_
  refine z_getR (C := RX10) (T := TX10) (N := 75) (ci := 10) (k := 50) (o := 65) (t := 93) E hK hP iwX10 rfl rfl (by decide) (by decide) rfl rfl rfl tw1002 dX10_waitsFor_1 ?_
  refine lv_aload_n hx hb dX10_waitsFor_4 rfl (lv_at hl 0 rfl) ?_
  refine m_getI (C := RX10) (T := TX10) (N := 75) (ci := 10) (k := 55) (o := 65) E hK hP iwX10 rfl rfl (by decide) (by decide) rfl rfl (by decide) tw1007 dX10_waitsFor_5 ?_
  refine lv_iload_n hx hb dX10_waitsFor_8 rfl (lv_at hl 1 rfl) ?_
  obtain ⟨hg1, hf⟩ := z_gd_some hf
  refine m_ast (o := 93) (i := (S 65 55)) (v := a1) E hK hq hP hS rfl (by decide) hg1 dX10_waitsFor_9 (fun H locs hP hS => ?_)
  obtain ⟨S2, hf, hP⟩ := z_ltM hf hP
  refine lv_aload_n hx hb dX10_waitsFor_10 rfl (lv_at hl 0 rfl) ?_
  refine z_getR (C := RX10) (T := TX10) (N := 75) (ci := 10) (k := 51) (o := 65) (t := 94) E hK hP iwX10 rfl rfl (by decide) (by decide) rfl rfl rfl tw1003 dX10_waitsFor_11 ?_
  refine lv_aload_n hx hb dX10_waitsFor_14 rfl (lv_at hl 0 rfl) ?_
  refine m_getI (C := RX10) (T := TX10) (N := 75) (ci := 10) (k := 55) (o := 65) E hK hP iwX10 rfl rfl (by decide) (by decide) rfl rfl (by decide) tw1007 dX10_waitsFor_15 ?_
  refine lv_iconst (v := 0) hx hb dX10_waitsFor_18 (by decide) ?_
  obtain ⟨hg3, hf⟩ := z_gd_some hf
  refine m_ast (o := 94) (i := (S2 65 55)) (v := 0) E hK hq hP hS rfl (by decide) hg3 dX10_waitsFor_19 (fun H locs hP hS => ?_)
  obtain ⟨S4, hf, hP⟩ := z_ltM hf hP
  refine lv_aload_n hx hb dX10_waitsFor_20 rfl (lv_at hl 0 rfl) ?_
  refine z_getR (C := RX10) (T := TX10) (N := 75) (ci := 10) (k := 52) (o := 65) (t := 95) E hK hP iwX10 rfl rfl (by decide) (by decide) rfl rfl rfl tw1004 dX10_waitsFor_21 ?_
  refine lv_aload_n hx hb dX10_waitsFor_24 rfl (lv_at hl 0 rfl) ?_
  refine m_getI (C := RX10) (T := TX10) (N := 75) (ci := 10) (k := 55) (o := 65) E hK hP iwX10 rfl rfl (by decide) (by decide) rfl rfl (by decide) tw1007 dX10_waitsFor_25 ?_
  refine lv_aload_n hx hb dX10_waitsFor_28 rfl (lv_at hl 0 rfl) ?_
  refine m_getI (C := RX10) (T := TX10) (N := 75) (ci := 10) (k := 58) (o := 65) E hK hP iwX10 rfl rfl (by decide) (by decide) rfl rfl (by decide) tw1010 dX10_waitsFor_29 ?_
  obtain ⟨hg5, hf⟩ := z_gd_some hf
  refine m_ast (o := 95) (i := (S4 65 55)) (v := (S4 65 58)) E hK hq hP hS rfl (by decide) hg5 dX10_waitsFor_32 (fun H locs hP hS => ?_)
  obtain ⟨S6, hf, hP⟩ := z_ltM hf hP
  refine lv_aload_n hx hb dX10_waitsFor_33 rfl (lv_at hl 0 rfl) ?_
  refine z_getR (C := RX10) (T := TX10) (N := 75) (ci := 10) (k := 53) (o := 65) (t := 96) E hK hP iwX10 rfl rfl (by decide) (by decide) rfl rfl rfl tw1005 dX10_waitsFor_34 ?_
  refine lv_aload_n hx hb dX10_waitsFor_37 rfl (lv_at hl 0 rfl) ?_
  refine m_getI (C := RX10) (T := TX10) (N := 75) (ci := 10) (k := 55) (o := 65) E hK hP iwX10 rfl rfl (by decide) (by decide) rfl rfl (by decide) tw1007 dX10_waitsFor_38 ?_
  refine lv_aload_n hx hb dX10_waitsFor_41 rfl (lv_at hl 0 rfl) ?_
  refine m_getI (C := RX10) (T := TX10) (N := 75) (ci := 10) (k := 59) (o := 65) E hK hP iwX10 rfl rfl (by decide) (by decide) rfl rfl (by decide) tw1011 dX10_waitsFor_42 ?_
  obtain ⟨hg7, hf⟩ := z_gd_some hf
  refine m_ast (o := 96) (i := (S6 65 55)) (v := (S6 65 59)) E hK hq hP hS rfl (by decide) hg7 dX10_waitsFor_45 (fun H locs hP hS => ?_)
  obtain ⟨S8, hf, hP⟩ := z_ltM hf hP
  refine lv_aload_n hx hb dX10_waitsFor_46 rfl (lv_at hl 0 rfl) ?_
  refine lv_dup hx hb dX10_waitsFor_47 rfl ?_
  refine m_getI (C := RX10) (T := TX10) (N := 75) (ci := 10) (k := 55) (o := 65) E hK hP iwX10 rfl rfl (by decide) (by decide) rfl rfl (by decide) tw1007 dX10_waitsFor_48 ?_
  refine lv_iconst (v := 1) hx hb dX10_waitsFor_51 (by decide) ?_
  refine lv_iadd hx hb dX10_waitsFor_52 ?_
  refine m_putI (C := RX10) (T := TX10) (N := 75) (ci := 10) (k := 55) (o := 65) (v := ((S8 65 55) + 1)) (ty := .int) E hK hq hP hS iwX10 tyX10 tyX10_ok nmX10 rfl rfl (by decide) (by decide) rfl rfl (by decide) rfl (tyX10_ok 55 (by decide)) ⟨rfl, rfl⟩ tw1007 dX10_waitsFor_53 (fun H locs hP hS => ?_)
  obtain ⟨S9, hf, hP⟩ := z_ltM hf hP
  exact m_retv hx hb hr hlk hf hP hS dX10_waitsFor_56
theorem cv_X10_waitsFor : z_cv yX10_waitsFor cX10_waitsFor 2 none RX10 1 := ⟨⟨tw1251, twp46⟩, tw1252, tw11, by decide +kernel⟩
def b_X10_looksUp_37 (N : Nat) (t0 : Int32) (S : St) : Option (St) := z_bv (f_X10_has N (t0) S) fun S10 => some S10
def f_X10_looksUp (N : Nat) (a1 : Int32) (S : St) : Option (St) := z_bd (f_X10_cellOf N (a1) ((S 65 58)) S) fun r2 S1 => if 0 ≤ r2 then (z_gd (z_in r2 (z_ln 87)) (b_X10_looksUp_37 N ((S1 87 (r2 : Int32).toNatClampNeg)) S1)) else (z_gd (z_in a1 (z_ln 78)) (z_bd (f_X10_valueOf N (0) ((S1 78 (a1 : Int32).toNatClampNeg)) (0) (0) S1) fun r8 S7 => b_X10_looksUp_37 N (r8) S7))
set_option maxHeartbeats 4000000 in
set_option maxRecDepth 100000 in
theorem c_X10_looksUp {l : Launch} {G : Cx} {X S S' : St} {N : Nat} {a1 : Int32} (hq : z_inj (gq G)) (hf : f_X10_looksUp N a1 S = some S') : z_Ct l yX10_looksUp cX10_looksUp 3 none 1 24 G X S [.ref (gq G (65)), .int (a1)] (z_QV G X S') := by
  refine z_start (by decide +kernel) (Nat.le_of_ble_eq_true rfl) ?_
  intro p e s m below meth c ls E hr hlk hK hP hS hl
  have E : CallFix p m c cX10_looksUp 3 s _ lw_good RX10 := E
  have hx := E.1
  have hb := E.2.1
  have hown := E.2.2.2.1
  have hts := E.2.2.2.2
  have hJ37 : ∀ (t0 : Int32) (S : St) (H : Heap) (locs : List Loc) (ls : Array Slot), b_X10_looksUp_37 N t0 S = some S' → z_P G X S H → z_S G s.heap H locs → lv_has ls 3 [] → W p l e (z_rm 1 24) s m ([.ref (gq G (65)), .int (a1)] : List Value).toArray below meth c H locs 0 0 (MQ below (z_QV G X S') ([.ref (gq G (65)), .int (a1)] : List Value).toArray s 0 0 (z_Aq (gq G))) (F0 m 37 ls [.int (t0), .ref (gq G (65))]) := by
    intro t0 S H locs ls hf hP hS hl
    unfold b_X10_looksUp_37 at hf
    obtain ⟨S10, hz11, hf⟩ := z_bv_some hf
    refine z_cvo (z_runV (o := 65) (ci := 10) E hK hP hS (c_X10_has hq hz11) cv_X10_has tw1237 rfl (by decide) rfl rfl ⟨Nat.le_of_ble_eq_true rfl, Nat.le_of_ble_eq_true rfl⟩ ⟨Nat.le_refl 0, Nat.le_refl 0⟩ hl.1 (Nat.le_of_ble_eq_true rfl) rfl dX10_looksUp_37) hS (fun H locs hP hS => ?_)
    exact m_retv hx hb hr hlk hf hP hS dX10_looksUp_40
  have hl : lv_has ls 3 [(0, .ref (gq G (65))), (1, .int (a1))] := hl
  unfold f_X10_looksUp at hf
  refine lv_aload_n hx hb dX10_looksUp_0 rfl (lv_at hl 0 rfl) ?_
  refine lv_iload_n hx hb dX10_looksUp_1 rfl (lv_at hl 1 rfl) ?_
  refine lv_aload_n hx hb dX10_looksUp_2 rfl (lv_at hl 0 rfl) ?_
  refine m_getI (C := RX10) (T := TX10) (N := 75) (ci := 10) (k := 58) (o := 65) E hK hP iwX10 rfl rfl (by decide) (by decide) rfl rfl (by decide) tw1010 dX10_looksUp_3 ?_
  obtain ⟨r2, S1, hz3, hf⟩ := z_bd_some hf
  refine z_ci (z_runV (o := 65) (ci := 10) E hK hP hS (c_X10_cellOf hq hz3) cv_X10_cellOf tw1245 rfl (by decide) rfl rfl ⟨Nat.le_of_ble_eq_true rfl, Nat.le_of_ble_eq_true rfl⟩ ⟨Nat.le_refl 0, Nat.le_refl 0⟩ hl.1 (Nat.le_of_ble_eq_true rfl) rfl dX10_looksUp_6) hS (fun H locs hP hS => ?_)
  refine lv_istore_n (lv' := [(2, .int (r2)), (0, .ref (gq G (65))), (1, .int (a1))]) hx hb dX10_looksUp_9 rfl hl (by decide) rfl (fun ls hl => ?_)
  refine lv_aload_n hx hb dX10_looksUp_10 rfl (lv_at hl 1 rfl) ?_
  refine lv_iload_n hx hb dX10_looksUp_11 rfl (lv_at hl 0 rfl) ?_
  refine lv_if_ge (tgt := 31) hx hb dX10_looksUp_12 (by decide) (fun hc4 => ?_) (fun hc4 => ?_)
  · replace hf := z_ifp hf hc4
    refine lv_aload_n hx hb dX10_looksUp_31 rfl (lv_at hl 1 rfl) ?_
    refine z_getR (C := RX10) (T := TX10) (N := 75) (ci := 10) (k := 40) (o := 65) (t := 87) E hK hP iwX10 rfl rfl (by decide) (by decide) rfl rfl rfl tw992 dX10_looksUp_32 ?_
    refine lv_iload_n hx hb dX10_looksUp_35 rfl (lv_at hl 0 rfl) ?_
    obtain ⟨hg5, hf⟩ := z_gd_some hf
    refine m_ald (o := 87) (i := r2) E hK hP rfl (by decide) hg5 dX10_looksUp_36 ?_
    exact hJ37 ((S1 87 (r2 : Int32).toNatClampNeg)) S1 _ _ _ hf hP hS (lv_sub hl [] rfl)
  · replace hf := z_ifn hf hc4
    refine lv_aload_n hx hb dX10_looksUp_15 rfl (lv_at hl 1 rfl) ?_
    refine lv_iconst (v := 0) hx hb dX10_looksUp_16 (by decide) ?_
    refine lv_aload_n hx hb dX10_looksUp_17 rfl (lv_at hl 1 rfl) ?_
    refine z_getR (C := RX10) (T := TX10) (N := 75) (ci := 10) (k := 24) (o := 65) (t := 78) E hK hP iwX10 rfl rfl (by decide) (by decide) rfl rfl rfl tw976 dX10_looksUp_18 ?_
    refine lv_iload_n hx hb dX10_looksUp_21 rfl (lv_at hl 2 rfl) ?_
    obtain ⟨hg6, hf⟩ := z_gd_some hf
    refine m_ald (o := 78) (i := a1) E hK hP rfl (by decide) hg6 dX10_looksUp_22 ?_
    refine lv_iconst (v := 0) hx hb dX10_looksUp_23 (by decide) ?_
    refine lv_iconst (v := 0) hx hb dX10_looksUp_24 (by decide) ?_
    obtain ⟨r8, S7, hz9, hf⟩ := z_bd_some hf
    refine z_ci (z_runV (o := 65) (ci := 10) E hK hP hS (c_X10_valueOf hq hz9) cv_X10_valueOf tw1233 rfl (by decide) rfl rfl ⟨Nat.le_of_ble_eq_true rfl, Nat.le_of_ble_eq_true rfl⟩ ⟨Nat.le_refl 0, Nat.le_refl 0⟩ hl.1 (Nat.le_of_ble_eq_true rfl) rfl dX10_looksUp_25) hS (fun H locs hP hS => ?_)
    refine lv_goto (tgt := 37) hx hb dX10_looksUp_28 (by decide) ?_
    exact hJ37 (r8) S7 _ _ _ hf hP hS (lv_sub hl [] rfl)
theorem cv_X10_looksUp : z_cv yX10_looksUp cX10_looksUp 3 none RX10 1 := ⟨⟨tw1243, twp44⟩, tw1244, tw11, by decide +kernel⟩
def f_X10_begins (N : Nat) (S : St) : Option (St) := if (S 65 62) = 400 then (z_bv (f_X10_fails N (6) S) fun S32 => some S32) else (z_lt (z_wr S 65 62 ((S 65 62) + 1)) fun S2 => z_gd (z_in (S2 65 57) (z_ln 67)) (z_bd (f_X10_isIn N ((S2 67 ((S2 65 57) : Int32).toNatClampNeg)) (48) (57) S2) fun r5 S4 => if r5 = 0 then (z_bd (f_X10_isIn N ((S2 67 ((S2 65 57) : Int32).toNatClampNeg)) (97) (102) S4) fun r9 S8 => if r9 = 0 then (if (S2 67 ((S2 65 57) : Int32).toNatClampNeg) = 70 then (z_gd (z_in (S2 65 57) (z_ln 71)) (z_gd (z_in (S2 65 57) (z_ln 68)) (z_bd (f_X10_valueOf N (1) ((S8 71 ((S2 65 57) : Int32).toNatClampNeg)) ((S8 68 ((S2 65 57) : Int32).toNatClampNeg)) ((S8 65 58)) S8) fun r21 S20 => z_bv (f_X10_has N (r21) S20) fun S23 => some S23))) else (z_bv (f_X10_waitsFor N ((S2 65 57)) S8) fun S13 => z_gd (z_in (S2 65 57) (z_ln 68)) (z_bv (f_X10_makes N ((S13 68 ((S2 65 57) : Int32).toNatClampNeg)) ((S13 65 58)) (0) S13) fun S16 => some S16))) else (z_bv (f_X10_looksUp N (((S2 67 ((S2 65 57) : Int32).toNatClampNeg) - 97)) S8) fun S25 => some S25)) else (z_bd (f_X10_valueOf N (0) (((S2 67 ((S2 65 57) : Int32).toNatClampNeg) - 48)) (0) (0) S4) fun r28 S27 => z_bv (f_X10_has N (r28) S27) fun S30 => some S30)))
set_option maxHeartbeats 4000000 in
set_option maxRecDepth 100000 in
theorem c_X10_begins {l : Launch} {G : Cx} {X S S' : St} {N : Nat} (hq : z_inj (gq G)) (hf : f_X10_begins N S = some S') : z_Ct l yX10_begins cX10_begins 3 none 2 46 G X S [.ref (gq G (65))] (z_QV G X S') := by
  refine z_start (by decide +kernel) (Nat.le_of_ble_eq_true rfl) ?_
  intro p e s m below meth c ls E hr hlk hK hP hS hl
  have E : CallFix p m c cX10_begins 3 s _ lw_good RX10 := E
  have hx := E.1
  have hb := E.2.1
  have hown := E.2.2.2.1
  have hts := E.2.2.2.2
  have hl : lv_has ls 3 [(0, .ref (gq G (65)))] := hl
  unfold f_X10_begins at hf
  refine lv_aload_n hx hb dX10_begins_0 rfl (lv_at hl 0 rfl) ?_
  refine m_getI (C := RX10) (T := TX10) (N := 75) (ci := 10) (k := 62) (o := 65) E hK hP iwX10 rfl rfl (by decide) (by decide) rfl rfl (by decide) tw1014 dX10_begins_1 ?_
  refine lv_sipush (v := 400) hx hb dX10_begins_4 (by decide) ?_
  refine lv_icmp_ne (tgt := 17) hx hb dX10_begins_7 (by decide) (fun hc1 => ?_) (fun hc1 => ?_)
  · replace hf := z_ifn hf hc1
    refine lv_aload_n hx hb dX10_begins_17 rfl (lv_at hl 0 rfl) ?_
    refine lv_dup hx hb dX10_begins_18 rfl ?_
    refine m_getI (C := RX10) (T := TX10) (N := 75) (ci := 10) (k := 62) (o := 65) E hK hP iwX10 rfl rfl (by decide) (by decide) rfl rfl (by decide) tw1014 dX10_begins_19 ?_
    refine lv_iconst (v := 1) hx hb dX10_begins_22 (by decide) ?_
    refine lv_iadd hx hb dX10_begins_23 ?_
    refine m_putI (C := RX10) (T := TX10) (N := 75) (ci := 10) (k := 62) (o := 65) (v := ((S 65 62) + 1)) (ty := .int) E hK hq hP hS iwX10 tyX10 tyX10_ok nmX10 rfl rfl (by decide) (by decide) rfl rfl (by decide) rfl (tyX10_ok 62 (by decide)) ⟨rfl, rfl⟩ tw1014 dX10_begins_24 (fun H locs hP hS => ?_)
    obtain ⟨S2, hf, hP⟩ := z_ltM hf hP
    refine lv_aload_n hx hb dX10_begins_27 rfl (lv_at hl 0 rfl) ?_
    refine m_getI (C := RX10) (T := TX10) (N := 75) (ci := 10) (k := 57) (o := 65) E hK hP iwX10 rfl rfl (by decide) (by decide) rfl rfl (by decide) tw1009 dX10_begins_28 ?_
    refine lv_istore_n (lv' := [(1, .int ((S2 65 57))), (0, .ref (gq G (65)))]) hx hb dX10_begins_31 rfl hl (by decide) rfl (fun ls hl => ?_)
    refine lv_aload_n hx hb dX10_begins_32 rfl (lv_at hl 1 rfl) ?_
    refine z_getR (C := RX10) (T := TX10) (N := 75) (ci := 10) (k := 1) (o := 65) (t := 67) E hK hP iwX10 rfl rfl (by decide) (by decide) rfl rfl rfl tw953 dX10_begins_33 ?_
    refine lv_iload_n hx hb dX10_begins_36 rfl (lv_at hl 0 rfl) ?_
    obtain ⟨hg3, hf⟩ := z_gd_some hf
    refine m_ald (o := 67) (i := (S2 65 57)) E hK hP rfl (by decide) hg3 dX10_begins_37 ?_
    refine lv_istore_n (lv' := [(2, .int ((S2 67 ((S2 65 57) : Int32).toNatClampNeg))), (1, .int ((S2 65 57))), (0, .ref (gq G (65)))]) hx hb dX10_begins_38 rfl hl (by decide) rfl (fun ls hl => ?_)
    refine lv_iload_n hx hb dX10_begins_39 rfl (lv_at hl 0 rfl) ?_
    refine lv_bipush (v := 48) hx hb dX10_begins_40 (by decide) ?_
    refine lv_bipush (v := 57) hx hb dX10_begins_42 (by decide) ?_
    obtain ⟨r5, S4, hz6, hf⟩ := z_bd_some hf
    refine z_ci (z_runS E hK hP hS (c_X10_isIn hq hz6) cs_X10_isIn tw943 rfl ⟨Nat.le_of_ble_eq_true rfl, Nat.le_of_ble_eq_true rfl⟩ ⟨Nat.le_refl 0, Nat.le_refl 0⟩ hl.1 (Nat.le_of_ble_eq_true rfl) rfl dX10_begins_44) hS (fun H locs hP hS => ?_)
    refine lv_if_eq (tgt := 68) hx hb dX10_begins_47 (by decide) (fun hc7 => ?_) (fun hc7 => ?_)
    · replace hf := z_ifp hf hc7
      refine lv_iload_n hx hb dX10_begins_68 rfl (lv_at hl 0 rfl) ?_
      refine lv_bipush (v := 97) hx hb dX10_begins_69 (by decide) ?_
      refine lv_bipush (v := 102) hx hb dX10_begins_71 (by decide) ?_
      obtain ⟨r9, S8, hz10, hf⟩ := z_bd_some hf
      refine z_ci (z_runS E hK hP hS (c_X10_isIn hq hz10) cs_X10_isIn tw943 rfl ⟨Nat.le_of_ble_eq_true rfl, Nat.le_of_ble_eq_true rfl⟩ ⟨Nat.le_refl 0, Nat.le_refl 0⟩ hl.1 (Nat.le_of_ble_eq_true rfl) rfl dX10_begins_73) hS (fun H locs hP hS => ?_)
      refine lv_if_eq (tgt := 90) hx hb dX10_begins_76 (by decide) (fun hc11 => ?_) (fun hc11 => ?_)
      · replace hf := z_ifp hf hc11
        refine lv_iload_n hx hb dX10_begins_90 rfl (lv_at hl 0 rfl) ?_
        refine lv_bipush (v := 70) hx hb dX10_begins_91 (by decide) ?_
        refine lv_icmp_ne (tgt := 124) hx hb dX10_begins_93 (by decide) (fun hc12 => ?_) (fun hc12 => ?_)
        · replace hf := z_ifn hf hc12
          refine lv_aload_n hx hb dX10_begins_124 rfl (lv_at hl 2 rfl) ?_
          refine lv_iload_n hx hb dX10_begins_125 rfl (lv_at hl 1 rfl) ?_
          obtain ⟨S13, hz14, hf⟩ := z_bv_some hf
          refine z_cvo (z_runV (o := 65) (ci := 10) E hK hP hS (c_X10_waitsFor hq hz14) cv_X10_waitsFor tw1249 rfl (by decide) rfl rfl ⟨Nat.le_of_ble_eq_true rfl, Nat.le_of_ble_eq_true rfl⟩ ⟨Nat.le_refl 0, Nat.le_refl 0⟩ hl.1 (Nat.le_of_ble_eq_true rfl) rfl dX10_begins_126) hS (fun H locs hP hS => ?_)
          refine lv_aload_n hx hb dX10_begins_129 rfl (lv_at hl 2 rfl) ?_
          refine lv_aload_n hx hb dX10_begins_130 rfl (lv_at hl 2 rfl) ?_
          refine z_getR (C := RX10) (T := TX10) (N := 75) (ci := 10) (k := 2) (o := 65) (t := 68) E hK hP iwX10 rfl rfl (by decide) (by decide) rfl rfl rfl tw954 dX10_begins_131 ?_
          refine lv_iload_n hx hb dX10_begins_134 rfl (lv_at hl 1 rfl) ?_
          obtain ⟨hg15, hf⟩ := z_gd_some hf
          refine m_ald (o := 68) (i := (S2 65 57)) E hK hP rfl (by decide) hg15 dX10_begins_135 ?_
          refine lv_aload_n hx hb dX10_begins_136 rfl (lv_at hl 2 rfl) ?_
          refine m_getI (C := RX10) (T := TX10) (N := 75) (ci := 10) (k := 58) (o := 65) E hK hP iwX10 rfl rfl (by decide) (by decide) rfl rfl (by decide) tw1010 dX10_begins_137 ?_
          refine lv_iconst (v := 0) hx hb dX10_begins_140 (by decide) ?_
          obtain ⟨S16, hz17, hf⟩ := z_bv_some hf
          refine z_cvo (z_runV (o := 65) (ci := 10) E hK hP hS (c_X10_makes hq hz17) cv_X10_makes tw1217 rfl (by decide) rfl rfl ⟨Nat.le_of_ble_eq_true rfl, Nat.le_of_ble_eq_true rfl⟩ ⟨Nat.le_refl 0, Nat.le_refl 0⟩ hl.1 (Nat.le_of_ble_eq_true rfl) rfl dX10_begins_141) hS (fun H locs hP hS => ?_)
          exact m_retv hx hb hr hlk hf hP hS dX10_begins_144
        · replace hf := z_ifp hf hc12
          refine lv_aload_n hx hb dX10_begins_96 rfl (lv_at hl 2 rfl) ?_
          refine lv_aload_n hx hb dX10_begins_97 rfl (lv_at hl 2 rfl) ?_
          refine lv_iconst (v := 1) hx hb dX10_begins_98 (by decide) ?_
          refine lv_aload_n hx hb dX10_begins_99 rfl (lv_at hl 2 rfl) ?_
          refine z_getR (C := RX10) (T := TX10) (N := 75) (ci := 10) (k := 5) (o := 65) (t := 71) E hK hP iwX10 rfl rfl (by decide) (by decide) rfl rfl rfl tw957 dX10_begins_100 ?_
          refine lv_iload_n hx hb dX10_begins_103 rfl (lv_at hl 1 rfl) ?_
          obtain ⟨hg18, hf⟩ := z_gd_some hf
          refine m_ald (o := 71) (i := (S2 65 57)) E hK hP rfl (by decide) hg18 dX10_begins_104 ?_
          refine lv_aload_n hx hb dX10_begins_105 rfl (lv_at hl 2 rfl) ?_
          refine z_getR (C := RX10) (T := TX10) (N := 75) (ci := 10) (k := 2) (o := 65) (t := 68) E hK hP iwX10 rfl rfl (by decide) (by decide) rfl rfl rfl tw954 dX10_begins_106 ?_
          refine lv_iload_n hx hb dX10_begins_109 rfl (lv_at hl 1 rfl) ?_
          obtain ⟨hg19, hf⟩ := z_gd_some hf
          refine m_ald (o := 68) (i := (S2 65 57)) E hK hP rfl (by decide) hg19 dX10_begins_110 ?_
          refine lv_aload_n hx hb dX10_begins_111 rfl (lv_at hl 2 rfl) ?_
          refine m_getI (C := RX10) (T := TX10) (N := 75) (ci := 10) (k := 58) (o := 65) E hK hP iwX10 rfl rfl (by decide) (by decide) rfl rfl (by decide) tw1010 dX10_begins_112 ?_
          obtain ⟨r21, S20, hz22, hf⟩ := z_bd_some hf
          refine z_ci (z_runV (o := 65) (ci := 10) E hK hP hS (c_X10_valueOf hq hz22) cv_X10_valueOf tw1233 rfl (by decide) rfl rfl ⟨Nat.le_of_ble_eq_true rfl, Nat.le_of_ble_eq_true rfl⟩ ⟨Nat.le_refl 0, Nat.le_refl 0⟩ hl.1 (Nat.le_of_ble_eq_true rfl) rfl dX10_begins_115) hS (fun H locs hP hS => ?_)
          obtain ⟨S23, hz24, hf⟩ := z_bv_some hf
          refine z_cvo (z_runV (o := 65) (ci := 10) E hK hP hS (c_X10_has hq hz24) cv_X10_has tw1237 rfl (by decide) rfl rfl ⟨Nat.le_of_ble_eq_true rfl, Nat.le_of_ble_eq_true rfl⟩ ⟨Nat.le_refl 0, Nat.le_refl 0⟩ hl.1 (Nat.le_of_ble_eq_true rfl) rfl dX10_begins_118) hS (fun H locs hP hS => ?_)
          refine lv_goto (tgt := 144) hx hb dX10_begins_121 (by decide) ?_
          exact m_retv hx hb hr hlk hf hP hS dX10_begins_144
      · replace hf := z_ifn hf hc11
        refine lv_aload_n hx hb dX10_begins_79 rfl (lv_at hl 2 rfl) ?_
        refine lv_iload_n hx hb dX10_begins_80 rfl (lv_at hl 0 rfl) ?_
        refine lv_bipush (v := 97) hx hb dX10_begins_81 (by decide) ?_
        refine lv_isub hx hb dX10_begins_83 ?_
        obtain ⟨S25, hz26, hf⟩ := z_bv_some hf
        refine z_cvo (z_runV (o := 65) (ci := 10) E hK hP hS (c_X10_looksUp hq hz26) cv_X10_looksUp tw1241 rfl (by decide) rfl rfl ⟨Nat.le_of_ble_eq_true rfl, Nat.le_of_ble_eq_true rfl⟩ ⟨Nat.le_refl 0, Nat.le_refl 0⟩ hl.1 (Nat.le_of_ble_eq_true rfl) rfl dX10_begins_84) hS (fun H locs hP hS => ?_)
        refine lv_goto (tgt := 144) hx hb dX10_begins_87 (by decide) ?_
        exact m_retv hx hb hr hlk hf hP hS dX10_begins_144
    · replace hf := z_ifn hf hc7
      refine lv_aload_n hx hb dX10_begins_50 rfl (lv_at hl 2 rfl) ?_
      refine lv_aload_n hx hb dX10_begins_51 rfl (lv_at hl 2 rfl) ?_
      refine lv_iconst (v := 0) hx hb dX10_begins_52 (by decide) ?_
      refine lv_iload_n hx hb dX10_begins_53 rfl (lv_at hl 0 rfl) ?_
      refine lv_bipush (v := 48) hx hb dX10_begins_54 (by decide) ?_
      refine lv_isub hx hb dX10_begins_56 ?_
      refine lv_iconst (v := 0) hx hb dX10_begins_57 (by decide) ?_
      refine lv_iconst (v := 0) hx hb dX10_begins_58 (by decide) ?_
      obtain ⟨r28, S27, hz29, hf⟩ := z_bd_some hf
      refine z_ci (z_runV (o := 65) (ci := 10) E hK hP hS (c_X10_valueOf hq hz29) cv_X10_valueOf tw1233 rfl (by decide) rfl rfl ⟨Nat.le_of_ble_eq_true rfl, Nat.le_of_ble_eq_true rfl⟩ ⟨Nat.le_refl 0, Nat.le_refl 0⟩ hl.1 (Nat.le_of_ble_eq_true rfl) rfl dX10_begins_59) hS (fun H locs hP hS => ?_)
      obtain ⟨S30, hz31, hf⟩ := z_bv_some hf
      refine z_cvo (z_runV (o := 65) (ci := 10) E hK hP hS (c_X10_has hq hz31) cv_X10_has tw1237 rfl (by decide) rfl rfl ⟨Nat.le_of_ble_eq_true rfl, Nat.le_of_ble_eq_true rfl⟩ ⟨Nat.le_refl 0, Nat.le_refl 0⟩ hl.1 (Nat.le_of_ble_eq_true rfl) rfl dX10_begins_62) hS (fun H locs hP hS => ?_)
      refine lv_goto (tgt := 144) hx hb dX10_begins_65 (by decide) ?_
      exact m_retv hx hb hr hlk hf hP hS dX10_begins_144
  · replace hf := z_ifp hf hc1
    refine lv_aload_n hx hb dX10_begins_10 rfl (lv_at hl 0 rfl) ?_
    refine lv_bipush (v := 6) hx hb dX10_begins_11 (by decide) ?_
    obtain ⟨S32, hz33, hf⟩ := z_bv_some hf
    refine z_cvo (z_runV (o := 65) (ci := 10) E hK hP hS (c_X10_fails hq hz33) cv_X10_fails tw1225 rfl (by decide) rfl rfl ⟨Nat.le_of_ble_eq_true rfl, Nat.le_of_ble_eq_true rfl⟩ ⟨Nat.le_refl 0, Nat.le_refl 0⟩ hl.1 (Nat.le_of_ble_eq_true rfl) rfl dX10_begins_13) hS (fun H locs hP hS => ?_)
    exact m_retv hx hb hr hlk hf hP hS dX10_begins_16
theorem cv_X10_begins : z_cv yX10_begins cX10_begins 3 none RX10 0 := ⟨⟨tw1223, twp39⟩, tw1224, tw11, by decide +kernel⟩
def b_X10_reckons_18 (N : Nat) (S : St) : Option (St) := z_bv (f_X10_fails N (1) S) fun S9 => some S9
def b_X10_reckons_73 (N : Nat) (t0 : Int32) (S : St) : Option (St) := z_bd (f_X10_isIn N (t0) ((-9999)) (9999) S) fun r12 S11 => if r12 = 0 then (z_bv (f_X10_fails N (4) S11) fun S15 => some S15) else (z_bd (f_X10_valueOf N (0) (t0) (0) (0) S11) fun r18 S17 => z_bv (f_X10_has N (r18) S17) fun S20 => some S20)
def f_X10_reckons (N : Nat) (a1 : Int32) (a2 : Int32) (a3 : Int32) (S : St) : Option (St) := z_gd (z_in a2 (z_ln 83)) (if (S 83 (a2 : Int32).toNatClampNeg) = 0 then (z_gd (z_in a3 (z_ln 83)) (if (S 83 (a3 : Int32).toNatClampNeg) = 0 then (z_gd (z_in a2 (z_ln 84)) (z_gd (z_in a3 (z_ln 84)) (if a1 = 43 then (b_X10_reckons_73 N (((S 84 (a2 : Int32).toNatClampNeg) + (S 84 (a3 : Int32).toNatClampNeg))) S) else (if a1 = 45 then (b_X10_reckons_73 N (((S 84 (a2 : Int32).toNatClampNeg) - (S 84 (a3 : Int32).toNatClampNeg))) S) else (b_X10_reckons_73 N (((S 84 (a2 : Int32).toNatClampNeg) * (S 84 (a3 : Int32).toNatClampNeg))) S))))) else (b_X10_reckons_18 N S))) else (b_X10_reckons_18 N S))
set_option maxHeartbeats 4000000 in
set_option maxRecDepth 100000 in
theorem c_X10_reckons {l : Launch} {G : Cx} {X S S' : St} {N : Nat} {a1 : Int32} {a2 : Int32} {a3 : Int32} (hq : z_inj (gq G)) (hf : f_X10_reckons N a1 a2 a3 S = some S') : z_Ct l yX10_reckons cX10_reckons 7 none 2 43 G X S [.ref (gq G (65)), .int (a1), .int (a2), .int (a3)] (z_QV G X S') := by
  refine z_start (by decide +kernel) (Nat.le_of_ble_eq_true rfl) ?_
  intro p e s m below meth c ls E hr hlk hK hP hS hl
  have E : CallFix p m c cX10_reckons 7 s _ lw_good RX10 := E
  have hx := E.1
  have hb := E.2.1
  have hown := E.2.2.2.1
  have hts := E.2.2.2.2
  have hJ18 : ∀ (S : St) (H : Heap) (locs : List Loc) (ls : Array Slot), b_X10_reckons_18 N S = some S' → z_P G X S H → z_S G s.heap H locs → lv_has ls 7 [(0, .ref (gq G (65)))] → W p l e (z_rm 2 43) s m ([.ref (gq G (65)), .int (a1), .int (a2), .int (a3)] : List Value).toArray below meth c H locs 0 0 (MQ below (z_QV G X S') ([.ref (gq G (65)), .int (a1), .int (a2), .int (a3)] : List Value).toArray s 0 0 (z_Aq (gq G))) (F0 m 18 ls []) := by
    intro S H locs ls hf hP hS hl
    unfold b_X10_reckons_18 at hf
    refine lv_aload_n hx hb dX10_reckons_18 rfl (lv_at hl 0 rfl) ?_
    refine lv_iconst (v := 1) hx hb dX10_reckons_19 (by decide) ?_
    obtain ⟨S9, hz10, hf⟩ := z_bv_some hf
    refine z_cvo (z_runV (o := 65) (ci := 10) E hK hP hS (c_X10_fails hq hz10) cv_X10_fails tw1225 rfl (by decide) rfl rfl ⟨Nat.le_of_ble_eq_true rfl, Nat.le_of_ble_eq_true rfl⟩ ⟨Nat.le_refl 0, Nat.le_refl 0⟩ hl.1 (Nat.le_of_ble_eq_true rfl) rfl dX10_reckons_20) hS (fun H locs hP hS => ?_)
    exact m_retv hx hb hr hlk hf hP hS dX10_reckons_23
  have hJ73 : ∀ (t0 : Int32) (S : St) (H : Heap) (locs : List Loc) (ls : Array Slot), b_X10_reckons_73 N t0 S = some S' → z_P G X S H → z_S G s.heap H locs → lv_has ls 7 [(0, .ref (gq G (65)))] → W p l e (z_rm 2 43) s m ([.ref (gq G (65)), .int (a1), .int (a2), .int (a3)] : List Value).toArray below meth c H locs 0 0 (MQ below (z_QV G X S') ([.ref (gq G (65)), .int (a1), .int (a2), .int (a3)] : List Value).toArray s 0 0 (z_Aq (gq G))) (F0 m 73 ls [.int (t0)]) := by
    intro t0 S H locs ls hf hP hS hl
    unfold b_X10_reckons_73 at hf
    refine lv_istore (lv' := [(6, .int (t0)), (0, .ref (gq G (65)))]) hx hb dX10_reckons_73 hl (by decide) rfl (fun ls hl => ?_)
    refine lv_iload hx hb dX10_reckons_75 (lv_at hl 0 rfl) ?_
    refine lv_sipush (v := (-9999)) hx hb dX10_reckons_77 (by decide) ?_
    refine lv_sipush (v := 9999) hx hb dX10_reckons_80 (by decide) ?_
    obtain ⟨r12, S11, hz13, hf⟩ := z_bd_some hf
    refine z_ci (z_runS E hK hP hS (c_X10_isIn hq hz13) cs_X10_isIn tw943 rfl ⟨Nat.le_of_ble_eq_true rfl, Nat.le_of_ble_eq_true rfl⟩ ⟨Nat.le_refl 0, Nat.le_refl 0⟩ hl.1 (Nat.le_of_ble_eq_true rfl) rfl dX10_reckons_83) hS (fun H locs hP hS => ?_)
    refine lv_if_eq (tgt := 105) hx hb dX10_reckons_86 (by decide) (fun hc14 => ?_) (fun hc14 => ?_)
    · replace hf := z_ifp hf hc14
      refine lv_aload_n hx hb dX10_reckons_105 rfl (lv_at hl 1 rfl) ?_
      refine lv_iconst (v := 4) hx hb dX10_reckons_106 (by decide) ?_
      obtain ⟨S15, hz16, hf⟩ := z_bv_some hf
      refine z_cvo (z_runV (o := 65) (ci := 10) E hK hP hS (c_X10_fails hq hz16) cv_X10_fails tw1225 rfl (by decide) rfl rfl ⟨Nat.le_of_ble_eq_true rfl, Nat.le_of_ble_eq_true rfl⟩ ⟨Nat.le_refl 0, Nat.le_refl 0⟩ hl.1 (Nat.le_of_ble_eq_true rfl) rfl dX10_reckons_107) hS (fun H locs hP hS => ?_)
      exact m_retv hx hb hr hlk hf hP hS dX10_reckons_110
    · replace hf := z_ifn hf hc14
      refine lv_aload_n hx hb dX10_reckons_89 rfl (lv_at hl 1 rfl) ?_
      refine lv_aload_n hx hb dX10_reckons_90 rfl (lv_at hl 1 rfl) ?_
      refine lv_iconst (v := 0) hx hb dX10_reckons_91 (by decide) ?_
      refine lv_iload hx hb dX10_reckons_92 (lv_at hl 0 rfl) ?_
      refine lv_iconst (v := 0) hx hb dX10_reckons_94 (by decide) ?_
      refine lv_iconst (v := 0) hx hb dX10_reckons_95 (by decide) ?_
      obtain ⟨r18, S17, hz19, hf⟩ := z_bd_some hf
      refine z_ci (z_runV (o := 65) (ci := 10) E hK hP hS (c_X10_valueOf hq hz19) cv_X10_valueOf tw1233 rfl (by decide) rfl rfl ⟨Nat.le_of_ble_eq_true rfl, Nat.le_of_ble_eq_true rfl⟩ ⟨Nat.le_refl 0, Nat.le_refl 0⟩ hl.1 (Nat.le_of_ble_eq_true rfl) rfl dX10_reckons_96) hS (fun H locs hP hS => ?_)
      obtain ⟨S20, hz21, hf⟩ := z_bv_some hf
      refine z_cvo (z_runV (o := 65) (ci := 10) E hK hP hS (c_X10_has hq hz21) cv_X10_has tw1237 rfl (by decide) rfl rfl ⟨Nat.le_of_ble_eq_true rfl, Nat.le_of_ble_eq_true rfl⟩ ⟨Nat.le_refl 0, Nat.le_refl 0⟩ hl.1 (Nat.le_of_ble_eq_true rfl) rfl dX10_reckons_99) hS (fun H locs hP hS => ?_)
      refine lv_goto (tgt := 110) hx hb dX10_reckons_102 (by decide) ?_
      exact m_retv hx hb hr hlk hf hP hS dX10_reckons_110
  have hl : lv_has ls 7 [(0, .ref (gq G (65))), (1, .int (a1)), (2, .int (a2)), (3, .int (a3))] := hl
  unfold f_X10_reckons at hf
  refine lv_aload_n hx hb dX10_reckons_0 rfl (lv_at hl 0 rfl) ?_
  refine z_getR (C := RX10) (T := TX10) (N := 75) (ci := 10) (k := 36) (o := 65) (t := 83) E hK hP iwX10 rfl rfl (by decide) (by decide) rfl rfl rfl tw988 dX10_reckons_1 ?_
  refine lv_iload_n hx hb dX10_reckons_4 rfl (lv_at hl 2 rfl) ?_
  obtain ⟨hg1, hf⟩ := z_gd_some hf
  refine m_ald (o := 83) (i := a2) E hK hP rfl (by decide) hg1 dX10_reckons_5 ?_
  refine lv_if_ne (tgt := 18) hx hb dX10_reckons_6 (by decide) (fun hc2 => ?_) (fun hc2 => ?_)
  · replace hf := z_ifn hf hc2
    exact hJ18 S _ _ _ hf hP hS (lv_sub hl [0] rfl)
  · replace hf := z_ifp hf hc2
    refine lv_aload_n hx hb dX10_reckons_9 rfl (lv_at hl 0 rfl) ?_
    refine z_getR (C := RX10) (T := TX10) (N := 75) (ci := 10) (k := 36) (o := 65) (t := 83) E hK hP iwX10 rfl rfl (by decide) (by decide) rfl rfl rfl tw988 dX10_reckons_10 ?_
    refine lv_iload_n hx hb dX10_reckons_13 rfl (lv_at hl 3 rfl) ?_
    obtain ⟨hg3, hf⟩ := z_gd_some hf
    refine m_ald (o := 83) (i := a3) E hK hP rfl (by decide) hg3 dX10_reckons_14 ?_
    refine lv_if_eq (tgt := 24) hx hb dX10_reckons_15 (by decide) (fun hc4 => ?_) (fun hc4 => ?_)
    · replace hf := z_ifp hf hc4
      refine lv_aload_n hx hb dX10_reckons_24 rfl (lv_at hl 0 rfl) ?_
      refine z_getR (C := RX10) (T := TX10) (N := 75) (ci := 10) (k := 37) (o := 65) (t := 84) E hK hP iwX10 rfl rfl (by decide) (by decide) rfl rfl rfl tw989 dX10_reckons_25 ?_
      refine lv_iload_n hx hb dX10_reckons_28 rfl (lv_at hl 2 rfl) ?_
      obtain ⟨hg5, hf⟩ := z_gd_some hf
      refine m_ald (o := 84) (i := a2) E hK hP rfl (by decide) hg5 dX10_reckons_29 ?_
      refine lv_istore (lv' := [(4, .int ((S 84 (a2 : Int32).toNatClampNeg))), (0, .ref (gq G (65))), (1, .int (a1)), (2, .int (a2)), (3, .int (a3))]) hx hb dX10_reckons_30 hl (by decide) rfl (fun ls hl => ?_)
      refine lv_aload_n hx hb dX10_reckons_32 rfl (lv_at hl 1 rfl) ?_
      refine z_getR (C := RX10) (T := TX10) (N := 75) (ci := 10) (k := 37) (o := 65) (t := 84) E hK hP iwX10 rfl rfl (by decide) (by decide) rfl rfl rfl tw989 dX10_reckons_33 ?_
      refine lv_iload_n hx hb dX10_reckons_36 rfl (lv_at hl 4 rfl) ?_
      obtain ⟨hg6, hf⟩ := z_gd_some hf
      refine m_ald (o := 84) (i := a3) E hK hP rfl (by decide) hg6 dX10_reckons_37 ?_
      refine lv_istore (lv' := [(5, .int ((S 84 (a3 : Int32).toNatClampNeg))), (4, .int ((S 84 (a2 : Int32).toNatClampNeg))), (0, .ref (gq G (65))), (1, .int (a1)), (2, .int (a2)), (3, .int (a3))]) hx hb dX10_reckons_38 hl (by decide) rfl (fun ls hl => ?_)
      refine lv_iload_n hx hb dX10_reckons_40 rfl (lv_at hl 3 rfl) ?_
      refine lv_bipush (v := 43) hx hb dX10_reckons_41 (by decide) ?_
      refine lv_icmp_ne (tgt := 54) hx hb dX10_reckons_43 (by decide) (fun hc7 => ?_) (fun hc7 => ?_)
      · replace hf := z_ifn hf hc7
        refine lv_iload_n hx hb dX10_reckons_54 rfl (lv_at hl 3 rfl) ?_
        refine lv_bipush (v := 45) hx hb dX10_reckons_55 (by decide) ?_
        refine lv_icmp_ne (tgt := 68) hx hb dX10_reckons_57 (by decide) (fun hc8 => ?_) (fun hc8 => ?_)
        · replace hf := z_ifn hf hc8
          refine lv_iload hx hb dX10_reckons_68 (lv_at hl 1 rfl) ?_
          refine lv_iload hx hb dX10_reckons_70 (lv_at hl 0 rfl) ?_
          refine lv_imul hx hb dX10_reckons_72 ?_
          exact hJ73 (((S 84 (a2 : Int32).toNatClampNeg) * (S 84 (a3 : Int32).toNatClampNeg))) S _ _ _ hf hP hS (lv_sub hl [2] rfl)
        · replace hf := z_ifp hf hc8
          refine lv_iload hx hb dX10_reckons_60 (lv_at hl 1 rfl) ?_
          refine lv_iload hx hb dX10_reckons_62 (lv_at hl 0 rfl) ?_
          refine lv_isub hx hb dX10_reckons_64 ?_
          refine lv_goto (tgt := 73) hx hb dX10_reckons_65 (by decide) ?_
          exact hJ73 (((S 84 (a2 : Int32).toNatClampNeg) - (S 84 (a3 : Int32).toNatClampNeg))) S _ _ _ hf hP hS (lv_sub hl [2] rfl)
      · replace hf := z_ifp hf hc7
        refine lv_iload hx hb dX10_reckons_46 (lv_at hl 1 rfl) ?_
        refine lv_iload hx hb dX10_reckons_48 (lv_at hl 0 rfl) ?_
        refine lv_iadd hx hb dX10_reckons_50 ?_
        refine lv_goto (tgt := 73) hx hb dX10_reckons_51 (by decide) ?_
        exact hJ73 (((S 84 (a2 : Int32).toNatClampNeg) + (S 84 (a3 : Int32).toNatClampNeg))) S _ _ _ hf hP hS (lv_sub hl [2] rfl)
    · replace hf := z_ifn hf hc4
      exact hJ18 S _ _ _ hf hP hS (lv_sub hl [0] rfl)
theorem cv_X10_reckons : z_cv yX10_reckons cX10_reckons 7 none RX10 3 := ⟨⟨tw1271, twp51⟩, tw1272, tw11, by decide +kernel⟩
def b_X10_chooses_48 (N : Nat) (v2 : Int32) (t0 : Int32) (S : St) : Option (St) := z_gd (z_in v2 (z_ln 95)) (z_gd (z_in v2 (z_ln 96)) (z_bv (f_X10_makes N (t0) ((S 95 (v2 : Int32).toNatClampNeg)) ((S 96 (v2 : Int32).toNatClampNeg)) S) fun S11 => some S11))
def f_X10_chooses (N : Nat) (a1 : Int32) (a2 : Int32) (S : St) : Option (St) := z_gd (z_in (S 65 60) (z_ln 83)) (if (S 83 ((S 65 60) : Int32).toNatClampNeg) = 0 then (z_gd (z_in (S 65 60) (z_ln 84)) (if (S 84 ((S 65 60) : Int32).toNatClampNeg) = 0 then (z_gd (z_in a1 (z_ln 70)) (b_X10_chooses_48 N (a2) ((S 70 (a1 : Int32).toNatClampNeg)) S)) else (z_gd (z_in a1 (z_ln 69)) (b_X10_chooses_48 N (a2) ((S 69 (a1 : Int32).toNatClampNeg)) S)))) else (z_bv (f_X10_fails N (1) S) fun S7 => some S7))
set_option maxHeartbeats 4000000 in
set_option maxRecDepth 100000 in
theorem c_X10_chooses {l : Launch} {G : Cx} {X S S' : St} {N : Nat} {a1 : Int32} {a2 : Int32} (hq : z_inj (gq G)) (hf : f_X10_chooses N a1 a2 S = some S') : z_Ct l yX10_chooses cX10_chooses 3 none 2 43 G X S [.ref (gq G (65)), .int (a1), .int (a2)] (z_QV G X S') := by
  refine z_start (by decide +kernel) (Nat.le_of_ble_eq_true rfl) ?_
  intro p e s m below meth c ls E hr hlk hK hP hS hl
  have E : CallFix p m c cX10_chooses 3 s _ lw_good RX10 := E
  have hx := E.1
  have hb := E.2.1
  have hown := E.2.2.2.1
  have hts := E.2.2.2.2
  have hJ48 : ∀ (v2 : Int32) (t0 : Int32) (S : St) (H : Heap) (locs : List Loc) (ls : Array Slot), b_X10_chooses_48 N v2 t0 S = some S' → z_P G X S H → z_S G s.heap H locs → lv_has ls 3 [(0, .ref (gq G (65))), (2, .int (v2))] → W p l e (z_rm 2 43) s m ([.ref (gq G (65)), .int (a1), .int (a2)] : List Value).toArray below meth c H locs 0 0 (MQ below (z_QV G X S') ([.ref (gq G (65)), .int (a1), .int (a2)] : List Value).toArray s 0 0 (z_Aq (gq G))) (F0 m 48 ls [.int (t0), .ref (gq G (65))]) := by
    intro v2 t0 S H locs ls hf hP hS hl
    unfold b_X10_chooses_48 at hf
    refine lv_aload_n hx hb dX10_chooses_48 rfl (lv_at hl 0 rfl) ?_
    refine z_getR (C := RX10) (T := TX10) (N := 75) (ci := 10) (k := 52) (o := 65) (t := 95) E hK hP iwX10 rfl rfl (by decide) (by decide) rfl rfl rfl tw1004 dX10_chooses_49 ?_
    refine lv_iload_n hx hb dX10_chooses_52 rfl (lv_at hl 1 rfl) ?_
    obtain ⟨hg9, hf⟩ := z_gd_some hf
    refine m_ald (o := 95) (i := v2) E hK hP rfl (by decide) hg9 dX10_chooses_53 ?_
    refine lv_aload_n hx hb dX10_chooses_54 rfl (lv_at hl 0 rfl) ?_
    refine z_getR (C := RX10) (T := TX10) (N := 75) (ci := 10) (k := 53) (o := 65) (t := 96) E hK hP iwX10 rfl rfl (by decide) (by decide) rfl rfl rfl tw1005 dX10_chooses_55 ?_
    refine lv_iload_n hx hb dX10_chooses_58 rfl (lv_at hl 1 rfl) ?_
    obtain ⟨hg10, hf⟩ := z_gd_some hf
    refine m_ald (o := 96) (i := v2) E hK hP rfl (by decide) hg10 dX10_chooses_59 ?_
    obtain ⟨S11, hz12, hf⟩ := z_bv_some hf
    refine z_cvo (z_runV (o := 65) (ci := 10) E hK hP hS (c_X10_makes hq hz12) cv_X10_makes tw1217 rfl (by decide) rfl rfl ⟨Nat.le_of_ble_eq_true rfl, Nat.le_of_ble_eq_true rfl⟩ ⟨Nat.le_refl 0, Nat.le_refl 0⟩ hl.1 (Nat.le_of_ble_eq_true rfl) rfl dX10_chooses_60) hS (fun H locs hP hS => ?_)
    exact m_retv hx hb hr hlk hf hP hS dX10_chooses_63
  have hl : lv_has ls 3 [(0, .ref (gq G (65))), (1, .int (a1)), (2, .int (a2))] := hl
  unfold f_X10_chooses at hf
  refine lv_aload_n hx hb dX10_chooses_0 rfl (lv_at hl 0 rfl) ?_
  refine z_getR (C := RX10) (T := TX10) (N := 75) (ci := 10) (k := 36) (o := 65) (t := 83) E hK hP iwX10 rfl rfl (by decide) (by decide) rfl rfl rfl tw988 dX10_chooses_1 ?_
  refine lv_aload_n hx hb dX10_chooses_4 rfl (lv_at hl 0 rfl) ?_
  refine m_getI (C := RX10) (T := TX10) (N := 75) (ci := 10) (k := 60) (o := 65) E hK hP iwX10 rfl rfl (by decide) (by decide) rfl rfl (by decide) tw1012 dX10_chooses_5 ?_
  obtain ⟨hg1, hf⟩ := z_gd_some hf
  refine m_ald (o := 83) (i := (S 65 60)) E hK hP rfl (by decide) hg1 dX10_chooses_8 ?_
  refine lv_if_eq (tgt := 20) hx hb dX10_chooses_9 (by decide) (fun hc2 => ?_) (fun hc2 => ?_)
  · replace hf := z_ifp hf hc2
    refine lv_aload_n hx hb dX10_chooses_20 rfl (lv_at hl 0 rfl) ?_
    refine lv_aload_n hx hb dX10_chooses_21 rfl (lv_at hl 0 rfl) ?_
    refine z_getR (C := RX10) (T := TX10) (N := 75) (ci := 10) (k := 37) (o := 65) (t := 84) E hK hP iwX10 rfl rfl (by decide) (by decide) rfl rfl rfl tw989 dX10_chooses_22 ?_
    refine lv_aload_n hx hb dX10_chooses_25 rfl (lv_at hl 0 rfl) ?_
    refine m_getI (C := RX10) (T := TX10) (N := 75) (ci := 10) (k := 60) (o := 65) E hK hP iwX10 rfl rfl (by decide) (by decide) rfl rfl (by decide) tw1012 dX10_chooses_26 ?_
    obtain ⟨hg3, hf⟩ := z_gd_some hf
    refine m_ald (o := 84) (i := (S 65 60)) E hK hP rfl (by decide) hg3 dX10_chooses_29 ?_
    refine lv_if_eq (tgt := 42) hx hb dX10_chooses_30 (by decide) (fun hc4 => ?_) (fun hc4 => ?_)
    · replace hf := z_ifp hf hc4
      refine lv_aload_n hx hb dX10_chooses_42 rfl (lv_at hl 0 rfl) ?_
      refine z_getR (C := RX10) (T := TX10) (N := 75) (ci := 10) (k := 4) (o := 65) (t := 70) E hK hP iwX10 rfl rfl (by decide) (by decide) rfl rfl rfl tw956 dX10_chooses_43 ?_
      refine lv_iload_n hx hb dX10_chooses_46 rfl (lv_at hl 1 rfl) ?_
      obtain ⟨hg5, hf⟩ := z_gd_some hf
      refine m_ald (o := 70) (i := a1) E hK hP rfl (by decide) hg5 dX10_chooses_47 ?_
      exact hJ48 (a2) ((S 70 (a1 : Int32).toNatClampNeg)) S _ _ _ hf hP hS (lv_sub hl [0, 2] rfl)
    · replace hf := z_ifn hf hc4
      refine lv_aload_n hx hb dX10_chooses_33 rfl (lv_at hl 0 rfl) ?_
      refine z_getR (C := RX10) (T := TX10) (N := 75) (ci := 10) (k := 3) (o := 65) (t := 69) E hK hP iwX10 rfl rfl (by decide) (by decide) rfl rfl rfl tw955 dX10_chooses_34 ?_
      refine lv_iload_n hx hb dX10_chooses_37 rfl (lv_at hl 1 rfl) ?_
      obtain ⟨hg6, hf⟩ := z_gd_some hf
      refine m_ald (o := 69) (i := a1) E hK hP rfl (by decide) hg6 dX10_chooses_38 ?_
      refine lv_goto (tgt := 48) hx hb dX10_chooses_39 (by decide) ?_
      exact hJ48 (a2) ((S 69 (a1 : Int32).toNatClampNeg)) S _ _ _ hf hP hS (lv_sub hl [0, 2] rfl)
  · replace hf := z_ifn hf hc2
    refine lv_aload_n hx hb dX10_chooses_12 rfl (lv_at hl 0 rfl) ?_
    refine lv_iconst (v := 1) hx hb dX10_chooses_13 (by decide) ?_
    obtain ⟨S7, hz8, hf⟩ := z_bv_some hf
    refine z_cvo (z_runV (o := 65) (ci := 10) E hK hP hS (c_X10_fails hq hz8) cv_X10_fails tw1225 rfl (by decide) rfl rfl ⟨Nat.le_of_ble_eq_true rfl, Nat.le_of_ble_eq_true rfl⟩ ⟨Nat.le_refl 0, Nat.le_refl 0⟩ hl.1 (Nat.le_of_ble_eq_true rfl) rfl dX10_chooses_14) hS (fun H locs hP hS => ?_)
    refine lv_goto (tgt := 63) hx hb dX10_chooses_17 (by decide) ?_
    exact m_retv hx hb hr hlk hf hP hS dX10_chooses_63
theorem cv_X10_chooses : z_cv yX10_chooses cX10_chooses 3 none RX10 2 := ⟨⟨tw1275, twp52⟩, tw1276, tw11, by decide +kernel⟩
def f_X10_puts (N : Nat) (a1 : Int32) (a2 : Int32) (S : St) : Option (St) := z_bd (f_X10_cellOf N (a1) (a2) S) fun r2 S1 => if r2 < 0 then (z_gd (z_in (S1 65 60) (z_ln 83)) (if (S1 83 ((S1 65 60) : Int32).toNatClampNeg) = 0 then (z_gd (z_in (S1 65 60) (z_ln 84)) (z_gd (z_in a1 (z_ln 78)) (z_lt (z_wr S1 78 (a1 : Int32).toNatClampNeg (S1 84 ((S1 65 60) : Int32).toNatClampNeg)) fun S11 => some S11))) else (z_bv (f_X10_fails N (1) S1) fun S7 => some S7))) else (z_gd (z_in r2 (z_ln 87)) (z_lt (z_wr S1 87 (r2 : Int32).toNatClampNeg (S1 65 60)) fun S13 => some S13))
set_option maxHeartbeats 4000000 in
set_option maxRecDepth 100000 in
theorem c_X10_puts {l : Launch} {G : Cx} {X S S' : St} {N : Nat} {a1 : Int32} {a2 : Int32} (hq : z_inj (gq G)) (hf : f_X10_puts N a1 a2 S = some S') : z_Ct l yX10_puts cX10_puts 4 none 2 43 G X S [.ref (gq G (65)), .int (a1), .int (a2)] (z_QV G X S') := by
  refine z_start (by decide +kernel) (Nat.le_of_ble_eq_true rfl) ?_
  intro p e s m below meth c ls E hr hlk hK hP hS hl
  have E : CallFix p m c cX10_puts 4 s _ lw_good RX10 := E
  have hx := E.1
  have hb := E.2.1
  have hown := E.2.2.2.1
  have hts := E.2.2.2.2
  have hl : lv_has ls 4 [(0, .ref (gq G (65))), (1, .int (a1)), (2, .int (a2))] := hl
  unfold f_X10_puts at hf
  refine lv_aload_n hx hb dX10_puts_0 rfl (lv_at hl 0 rfl) ?_
  refine lv_iload_n hx hb dX10_puts_1 rfl (lv_at hl 1 rfl) ?_
  refine lv_iload_n hx hb dX10_puts_2 rfl (lv_at hl 2 rfl) ?_
  obtain ⟨r2, S1, hz3, hf⟩ := z_bd_some hf
  refine z_ci (z_runV (o := 65) (ci := 10) E hK hP hS (c_X10_cellOf hq hz3) cv_X10_cellOf tw1245 rfl (by decide) rfl rfl ⟨Nat.le_of_ble_eq_true rfl, Nat.le_of_ble_eq_true rfl⟩ ⟨Nat.le_refl 0, Nat.le_refl 0⟩ hl.1 (Nat.le_of_ble_eq_true rfl) rfl dX10_puts_3) hS (fun H locs hP hS => ?_)
  refine lv_istore_n (lv' := [(3, .int (r2)), (0, .ref (gq G (65))), (1, .int (a1)), (2, .int (a2))]) hx hb dX10_puts_6 rfl hl (by decide) rfl (fun ls hl => ?_)
  refine lv_iload_n hx hb dX10_puts_7 rfl (lv_at hl 0 rfl) ?_
  refine lv_if_lt (tgt := 24) hx hb dX10_puts_8 (by decide) (fun hc4 => ?_) (fun hc4 => ?_)
  · replace hf := z_ifp hf hc4
    refine lv_aload_n hx hb dX10_puts_24 rfl (lv_at hl 1 rfl) ?_
    refine z_getR (C := RX10) (T := TX10) (N := 75) (ci := 10) (k := 36) (o := 65) (t := 83) E hK hP iwX10 rfl rfl (by decide) (by decide) rfl rfl rfl tw988 dX10_puts_25 ?_
    refine lv_aload_n hx hb dX10_puts_28 rfl (lv_at hl 1 rfl) ?_
    refine m_getI (C := RX10) (T := TX10) (N := 75) (ci := 10) (k := 60) (o := 65) E hK hP iwX10 rfl rfl (by decide) (by decide) rfl rfl (by decide) tw1012 dX10_puts_29 ?_
    obtain ⟨hg5, hf⟩ := z_gd_some hf
    refine m_ald (o := 83) (i := (S1 65 60)) E hK hP rfl (by decide) hg5 dX10_puts_32 ?_
    refine lv_if_ne (tgt := 54) hx hb dX10_puts_33 (by decide) (fun hc6 => ?_) (fun hc6 => ?_)
    · replace hf := z_ifn hf hc6
      refine lv_aload_n hx hb dX10_puts_54 rfl (lv_at hl 1 rfl) ?_
      refine lv_iconst (v := 1) hx hb dX10_puts_55 (by decide) ?_
      obtain ⟨S7, hz8, hf⟩ := z_bv_some hf
      refine z_cvo (z_runV (o := 65) (ci := 10) E hK hP hS (c_X10_fails hq hz8) cv_X10_fails tw1225 rfl (by decide) rfl rfl ⟨Nat.le_of_ble_eq_true rfl, Nat.le_of_ble_eq_true rfl⟩ ⟨Nat.le_refl 0, Nat.le_refl 0⟩ hl.1 (Nat.le_of_ble_eq_true rfl) rfl dX10_puts_56) hS (fun H locs hP hS => ?_)
      exact m_retv hx hb hr hlk hf hP hS dX10_puts_59
    · replace hf := z_ifp hf hc6
      refine lv_aload_n hx hb dX10_puts_36 rfl (lv_at hl 1 rfl) ?_
      refine z_getR (C := RX10) (T := TX10) (N := 75) (ci := 10) (k := 24) (o := 65) (t := 78) E hK hP iwX10 rfl rfl (by decide) (by decide) rfl rfl rfl tw976 dX10_puts_37 ?_
      refine lv_iload_n hx hb dX10_puts_40 rfl (lv_at hl 2 rfl) ?_
      refine lv_aload_n hx hb dX10_puts_41 rfl (lv_at hl 1 rfl) ?_
      refine z_getR (C := RX10) (T := TX10) (N := 75) (ci := 10) (k := 37) (o := 65) (t := 84) E hK hP iwX10 rfl rfl (by decide) (by decide) rfl rfl rfl tw989 dX10_puts_42 ?_
      refine lv_aload_n hx hb dX10_puts_45 rfl (lv_at hl 1 rfl) ?_
      refine m_getI (C := RX10) (T := TX10) (N := 75) (ci := 10) (k := 60) (o := 65) E hK hP iwX10 rfl rfl (by decide) (by decide) rfl rfl (by decide) tw1012 dX10_puts_46 ?_
      obtain ⟨hg9, hf⟩ := z_gd_some hf
      refine m_ald (o := 84) (i := (S1 65 60)) E hK hP rfl (by decide) hg9 dX10_puts_49 ?_
      obtain ⟨hg10, hf⟩ := z_gd_some hf
      refine m_ast (o := 78) (i := a1) (v := (S1 84 ((S1 65 60) : Int32).toNatClampNeg)) E hK hq hP hS rfl (by decide) hg10 dX10_puts_50 (fun H locs hP hS => ?_)
      obtain ⟨S11, hf, hP⟩ := z_ltM hf hP
      refine lv_goto (tgt := 59) hx hb dX10_puts_51 (by decide) ?_
      exact m_retv hx hb hr hlk hf hP hS dX10_puts_59
  · replace hf := z_ifn hf hc4
    refine lv_aload_n hx hb dX10_puts_11 rfl (lv_at hl 1 rfl) ?_
    refine z_getR (C := RX10) (T := TX10) (N := 75) (ci := 10) (k := 40) (o := 65) (t := 87) E hK hP iwX10 rfl rfl (by decide) (by decide) rfl rfl rfl tw992 dX10_puts_12 ?_
    refine lv_iload_n hx hb dX10_puts_15 rfl (lv_at hl 0 rfl) ?_
    refine lv_aload_n hx hb dX10_puts_16 rfl (lv_at hl 1 rfl) ?_
    refine m_getI (C := RX10) (T := TX10) (N := 75) (ci := 10) (k := 60) (o := 65) E hK hP iwX10 rfl rfl (by decide) (by decide) rfl rfl (by decide) tw1012 dX10_puts_17 ?_
    obtain ⟨hg12, hf⟩ := z_gd_some hf
    refine m_ast (o := 87) (i := r2) (v := (S1 65 60)) E hK hq hP hS rfl (by decide) hg12 dX10_puts_20 (fun H locs hP hS => ?_)
    obtain ⟨S13, hf, hP⟩ := z_ltM hf hP
    refine lv_goto (tgt := 59) hx hb dX10_puts_21 (by decide) ?_
    exact m_retv hx hb hr hlk hf hP hS dX10_puts_59
theorem cv_X10_puts : z_cv yX10_puts cX10_puts 4 none RX10 2 := ⟨⟨tw1283, twp54⟩, tw1284, tw11, by decide +kernel⟩
