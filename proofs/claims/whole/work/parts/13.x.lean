def f_X4_tellEnding (N : Nat) (S : St) : Option (St) := if (S 29 12) = 0 then (z_bd (f_X7_isNumber N ((S 29 10)) S) fun r3 S2 => if r3 = 0 then (z_bd (f_X7_isFunction N ((S2 29 10)) S2) fun r7 S6 => if r7 = 0 then (z_lt (z_wr S6 35 0 2) fun S10 => z_bd (f_X7_kindOf N ((S10 29 10)) S10) fun r12 S11 => z_lt (z_wr S11 35 1 r12) fun S14 => some S14) else (z_lt (z_wr S6 35 0 1) fun S15 => z_bd (f_X7_expressionOf N ((S15 29 10)) S15) fun r17 S16 => z_bd (f_X5_variableOf N ((z_pr S15)) (r17) S16) fun r20 S19 => z_lt (z_wr S19 35 1 r20) fun S22 => some S22)) else (z_lt (z_wr S2 35 0 0) fun S23 => z_lt (z_wr S23 35 1 (S23 29 10)) fun S24 => some S24)) else (z_lt (z_wr S 35 0 3) fun S25 => z_bd (f_X2_codeAt N (35) (0) S25) fun r27 S26 => z_lt (z_wr S26 35 1 r27) fun S29 => some S29)
set_option maxHeartbeats 4000000 in
set_option maxRecDepth 100000 in
theorem c_X4_tellEnding {l : Launch} {G : Cx} {M S S' : St} {N : Nat} (hq : z_inj (gq G)) (hf : f_X4_tellEnding N S = some S') : z_Ct l yX4_tellEnding cX4_tellEnding 1 none 2 43 G S M [.ref (gq G (29))] (z_QV G S' M) := by
  refine z_start (by decide +kernel) (Nat.le_of_ble_eq_true rfl) ?_
  intro p e s m below meth c ls E hr hlk hK hP hS hl
  have E : CallFix p m c cX4_tellEnding 1 s _ lw_good RX4 := E
  have hx := E.1
  have hb := E.2.1
  have hown := E.2.2.2.1
  have hts := E.2.2.2.2
  have hl : lv_has ls 1 [(0, .ref (gq G (29)))] := hl
  unfold f_X4_tellEnding at hf
  refine lv_aload_n hx hb dX4_tellEnding_0 rfl (lv_at hl 0 rfl) ?_
  refine x_getI (C := RX4) (T := TX4) (N := 13) (ci := 4) (k := 12) (o := 29) E hK hP iwX4 rfl rfl (by decide) (by decide) rfl rfl (by decide) tw238 dX4_tellEnding_1 ?_
  refine lv_if_eq (tgt := 33) hx hb dX4_tellEnding_4 (by decide) (fun hc1 => ?_) (fun hc1 => ?_)
  · replace hf := z_ifp hf hc1
    refine lv_aload_n hx hb dX4_tellEnding_33 rfl (lv_at hl 0 rfl) ?_
    refine x_getI (C := RX4) (T := TX4) (N := 13) (ci := 4) (k := 10) (o := 29) E hK hP iwX4 rfl rfl (by decide) (by decide) rfl rfl (by decide) tw236 dX4_tellEnding_34 ?_
    obtain ⟨r3, S2, hz4, hf⟩ := z_bd_some hf
    refine z_ci (z_runS E hK hP hS (c_X7_isNumber hq hz4) cs_X7_isNumber tw651 rfl ⟨Nat.le_of_ble_eq_true rfl, Nat.le_of_ble_eq_true rfl⟩ ⟨Nat.le_refl 0, Nat.le_refl 0⟩ hl.1 (Nat.le_of_ble_eq_true rfl) rfl dX4_tellEnding_37) hS (fun H locs hP hS => ?_)
    refine lv_if_eq (tgt := 65) hx hb dX4_tellEnding_40 (by decide) (fun hc5 => ?_) (fun hc5 => ?_)
    · replace hf := z_ifp hf hc5
      refine lv_aload_n hx hb dX4_tellEnding_65 rfl (lv_at hl 0 rfl) ?_
      refine z_getR (C := RX4) (T := TX4) (N := 13) (ci := 4) (k := 4) (o := 29) (t := 40) E hK hP iwX4 rfl rfl (by decide) (by decide) rfl rfl rfl tw230 dX4_tellEnding_66 ?_
      refine lv_aload_n hx hb dX4_tellEnding_69 rfl (lv_at hl 0 rfl) ?_
      refine x_getI (C := RX4) (T := TX4) (N := 13) (ci := 4) (k := 10) (o := 29) E hK hP iwX4 rfl rfl (by decide) (by decide) rfl rfl (by decide) tw236 dX4_tellEnding_70 ?_
      obtain ⟨r7, S6, hz8, hf⟩ := z_bd_some hf
      refine z_ci (z_runV (o := 40) (ci := 7) E hK hP hS (c_X7_isFunction hq hz8) cv_X7_isFunction tw680 rfl (by decide) rfl rfl ⟨Nat.le_of_ble_eq_true rfl, Nat.le_of_ble_eq_true rfl⟩ ⟨Nat.le_refl 0, Nat.le_refl 0⟩ hl.1 (Nat.le_of_ble_eq_true rfl) rfl dX4_tellEnding_73) hS (fun H locs hP hS => ?_)
      refine lv_if_eq (tgt := 115) hx hb dX4_tellEnding_76 (by decide) (fun hc9 => ?_) (fun hc9 => ?_)
      · replace hf := z_ifp hf hc9
        refine lv_aload_n hx hb dX4_tellEnding_115 rfl (lv_at hl 0 rfl) ?_
        refine z_getR (C := RX4) (T := TX4) (N := 13) (ci := 4) (k := 2) (o := 29) (t := 35) E hK hP iwX4 rfl rfl (by decide) (by decide) rfl rfl rfl tw228 dX4_tellEnding_116 ?_
        refine lv_iconst (v := 2) hx hb dX4_tellEnding_119 (by decide) ?_
        refine x_putI (C := RX2) (T := TX2) (N := 7) (ci := 2) (k := 0) (o := 35) (v := 2) (ty := .int) E hK hq hP hS iwX2 tyX2 tyX2_ok nmX2 rfl rfl (by decide) (by decide) rfl rfl (by decide) rfl (tyX2_ok 0 (by decide)) ⟨rfl, rfl⟩ tw90 dX4_tellEnding_120 (fun H locs hP hS => ?_)
        obtain ⟨S10, hf, hP⟩ := z_ltX hf hP
        refine lv_aload_n hx hb dX4_tellEnding_123 rfl (lv_at hl 0 rfl) ?_
        refine z_getR (C := RX4) (T := TX4) (N := 13) (ci := 4) (k := 2) (o := 29) (t := 35) E hK hP iwX4 rfl rfl (by decide) (by decide) rfl rfl rfl tw228 dX4_tellEnding_124 ?_
        refine lv_aload_n hx hb dX4_tellEnding_127 rfl (lv_at hl 0 rfl) ?_
        refine z_getR (C := RX4) (T := TX4) (N := 13) (ci := 4) (k := 4) (o := 29) (t := 40) E hK hP iwX4 rfl rfl (by decide) (by decide) rfl rfl rfl tw230 dX4_tellEnding_128 ?_
        refine lv_aload_n hx hb dX4_tellEnding_131 rfl (lv_at hl 0 rfl) ?_
        refine x_getI (C := RX4) (T := TX4) (N := 13) (ci := 4) (k := 10) (o := 29) E hK hP iwX4 rfl rfl (by decide) (by decide) rfl rfl (by decide) tw236 dX4_tellEnding_132 ?_
        obtain ⟨r12, S11, hz13, hf⟩ := z_bd_some hf
        refine z_ci (z_runV (o := 40) (ci := 7) E hK hP hS (c_X7_kindOf hq hz13) cv_X7_kindOf tw721 rfl (by decide) rfl rfl ⟨Nat.le_of_ble_eq_true rfl, Nat.le_of_ble_eq_true rfl⟩ ⟨Nat.le_refl 0, Nat.le_refl 0⟩ hl.1 (Nat.le_of_ble_eq_true rfl) rfl dX4_tellEnding_135) hS (fun H locs hP hS => ?_)
        refine x_putI (C := RX2) (T := TX2) (N := 7) (ci := 2) (k := 1) (o := 35) (v := r12) (ty := .int) E hK hq hP hS iwX2 tyX2 tyX2_ok nmX2 rfl rfl (by decide) (by decide) rfl rfl (by decide) rfl (tyX2_ok 1 (by decide)) ⟨rfl, rfl⟩ tw93 dX4_tellEnding_138 (fun H locs hP hS => ?_)
        obtain ⟨S14, hf, hP⟩ := z_ltX hf hP
        exact x_retv hx hb hr hlk hf hP hS dX4_tellEnding_141
      · replace hf := z_ifn hf hc9
        refine lv_aload_n hx hb dX4_tellEnding_79 rfl (lv_at hl 0 rfl) ?_
        refine z_getR (C := RX4) (T := TX4) (N := 13) (ci := 4) (k := 2) (o := 29) (t := 35) E hK hP iwX4 rfl rfl (by decide) (by decide) rfl rfl rfl tw228 dX4_tellEnding_80 ?_
        refine lv_iconst (v := 1) hx hb dX4_tellEnding_83 (by decide) ?_
        refine x_putI (C := RX2) (T := TX2) (N := 7) (ci := 2) (k := 0) (o := 35) (v := 1) (ty := .int) E hK hq hP hS iwX2 tyX2 tyX2_ok nmX2 rfl rfl (by decide) (by decide) rfl rfl (by decide) rfl (tyX2_ok 0 (by decide)) ⟨rfl, rfl⟩ tw90 dX4_tellEnding_84 (fun H locs hP hS => ?_)
        obtain ⟨S15, hf, hP⟩ := z_ltX hf hP
        refine lv_aload_n hx hb dX4_tellEnding_87 rfl (lv_at hl 0 rfl) ?_
        refine z_getR (C := RX4) (T := TX4) (N := 13) (ci := 4) (k := 2) (o := 29) (t := 35) E hK hP iwX4 rfl rfl (by decide) (by decide) rfl rfl rfl tw228 dX4_tellEnding_88 ?_
        refine lv_aload_n hx hb dX4_tellEnding_91 rfl (lv_at hl 0 rfl) ?_
        refine z_getR (C := RX4) (T := TX4) (N := 13) (ci := 4) (k := 6) (o := 29) (t := (z_pr S15)) E hK hP iwX4 rfl rfl (by decide) (by decide) rfl rfl z_rf_pr tw232 dX4_tellEnding_92 ?_
        refine lv_aload_n hx hb dX4_tellEnding_95 rfl (lv_at hl 0 rfl) ?_
        refine z_getR (C := RX4) (T := TX4) (N := 13) (ci := 4) (k := 4) (o := 29) (t := 40) E hK hP iwX4 rfl rfl (by decide) (by decide) rfl rfl rfl tw230 dX4_tellEnding_96 ?_
        refine lv_aload_n hx hb dX4_tellEnding_99 rfl (lv_at hl 0 rfl) ?_
        refine x_getI (C := RX4) (T := TX4) (N := 13) (ci := 4) (k := 10) (o := 29) E hK hP iwX4 rfl rfl (by decide) (by decide) rfl rfl (by decide) tw236 dX4_tellEnding_100 ?_
        obtain ⟨r17, S16, hz18, hf⟩ := z_bd_some hf
        refine z_ci (z_runV (o := 40) (ci := 7) E hK hP hS (c_X7_expressionOf hq hz18) cv_X7_expressionOf tw662 rfl (by decide) rfl rfl ⟨Nat.le_of_ble_eq_true rfl, Nat.le_of_ble_eq_true rfl⟩ ⟨Nat.le_refl 0, Nat.le_refl 0⟩ hl.1 (Nat.le_of_ble_eq_true rfl) rfl dX4_tellEnding_103) hS (fun H locs hP hS => ?_)
        obtain ⟨r20, S19, hz21, hf⟩ := z_bd_some hf
        refine z_ci (z_runV (o := (z_pr S15)) (ci := 5) E hK hP hS (c_X5_variableOf hq z_pr_kd z_pr_65 hz21) cv_X5_variableOf tw578 z_pr_kd (by decide) rfl rfl ⟨Nat.le_of_ble_eq_true rfl, Nat.le_of_ble_eq_true rfl⟩ ⟨Nat.le_refl 0, Nat.le_refl 0⟩ hl.1 (Nat.le_of_ble_eq_true rfl) rfl dX4_tellEnding_106) hS (fun H locs hP hS => ?_)
        refine x_putI (C := RX2) (T := TX2) (N := 7) (ci := 2) (k := 1) (o := 35) (v := r20) (ty := .int) E hK hq hP hS iwX2 tyX2 tyX2_ok nmX2 rfl rfl (by decide) (by decide) rfl rfl (by decide) rfl (tyX2_ok 1 (by decide)) ⟨rfl, rfl⟩ tw93 dX4_tellEnding_109 (fun H locs hP hS => ?_)
        obtain ⟨S22, hf, hP⟩ := z_ltX hf hP
        refine lv_goto (tgt := 141) hx hb dX4_tellEnding_112 (by decide) ?_
        exact x_retv hx hb hr hlk hf hP hS dX4_tellEnding_141
    · replace hf := z_ifn hf hc5
      refine lv_aload_n hx hb dX4_tellEnding_43 rfl (lv_at hl 0 rfl) ?_
      refine z_getR (C := RX4) (T := TX4) (N := 13) (ci := 4) (k := 2) (o := 29) (t := 35) E hK hP iwX4 rfl rfl (by decide) (by decide) rfl rfl rfl tw228 dX4_tellEnding_44 ?_
      refine lv_iconst (v := 0) hx hb dX4_tellEnding_47 (by decide) ?_
      refine x_putI (C := RX2) (T := TX2) (N := 7) (ci := 2) (k := 0) (o := 35) (v := 0) (ty := .int) E hK hq hP hS iwX2 tyX2 tyX2_ok nmX2 rfl rfl (by decide) (by decide) rfl rfl (by decide) rfl (tyX2_ok 0 (by decide)) ⟨rfl, rfl⟩ tw90 dX4_tellEnding_48 (fun H locs hP hS => ?_)
      obtain ⟨S23, hf, hP⟩ := z_ltX hf hP
      refine lv_aload_n hx hb dX4_tellEnding_51 rfl (lv_at hl 0 rfl) ?_
      refine z_getR (C := RX4) (T := TX4) (N := 13) (ci := 4) (k := 2) (o := 29) (t := 35) E hK hP iwX4 rfl rfl (by decide) (by decide) rfl rfl rfl tw228 dX4_tellEnding_52 ?_
      refine lv_aload_n hx hb dX4_tellEnding_55 rfl (lv_at hl 0 rfl) ?_
      refine x_getI (C := RX4) (T := TX4) (N := 13) (ci := 4) (k := 10) (o := 29) E hK hP iwX4 rfl rfl (by decide) (by decide) rfl rfl (by decide) tw236 dX4_tellEnding_56 ?_
      refine x_putI (C := RX2) (T := TX2) (N := 7) (ci := 2) (k := 1) (o := 35) (v := (S23 29 10)) (ty := .int) E hK hq hP hS iwX2 tyX2 tyX2_ok nmX2 rfl rfl (by decide) (by decide) rfl rfl (by decide) rfl (tyX2_ok 1 (by decide)) ⟨rfl, rfl⟩ tw93 dX4_tellEnding_59 (fun H locs hP hS => ?_)
      obtain ⟨S24, hf, hP⟩ := z_ltX hf hP
      refine lv_goto (tgt := 141) hx hb dX4_tellEnding_62 (by decide) ?_
      exact x_retv hx hb hr hlk hf hP hS dX4_tellEnding_141
  · replace hf := z_ifn hf hc1
    refine lv_aload_n hx hb dX4_tellEnding_7 rfl (lv_at hl 0 rfl) ?_
    refine z_getR (C := RX4) (T := TX4) (N := 13) (ci := 4) (k := 2) (o := 29) (t := 35) E hK hP iwX4 rfl rfl (by decide) (by decide) rfl rfl rfl tw228 dX4_tellEnding_8 ?_
    refine lv_iconst (v := 3) hx hb dX4_tellEnding_11 (by decide) ?_
    refine x_putI (C := RX2) (T := TX2) (N := 7) (ci := 2) (k := 0) (o := 35) (v := 3) (ty := .int) E hK hq hP hS iwX2 tyX2 tyX2_ok nmX2 rfl rfl (by decide) (by decide) rfl rfl (by decide) rfl (tyX2_ok 0 (by decide)) ⟨rfl, rfl⟩ tw90 dX4_tellEnding_12 (fun H locs hP hS => ?_)
    obtain ⟨S25, hf, hP⟩ := z_ltX hf hP
    refine lv_aload_n hx hb dX4_tellEnding_15 rfl (lv_at hl 0 rfl) ?_
    refine z_getR (C := RX4) (T := TX4) (N := 13) (ci := 4) (k := 2) (o := 29) (t := 35) E hK hP iwX4 rfl rfl (by decide) (by decide) rfl rfl rfl tw228 dX4_tellEnding_16 ?_
    refine lv_aload_n hx hb dX4_tellEnding_19 rfl (lv_at hl 0 rfl) ?_
    refine z_getR (C := RX4) (T := TX4) (N := 13) (ci := 4) (k := 2) (o := 29) (t := 35) E hK hP iwX4 rfl rfl (by decide) (by decide) rfl rfl rfl tw228 dX4_tellEnding_20 ?_
    refine lv_iconst (v := 0) hx hb dX4_tellEnding_23 (by decide) ?_
    obtain ⟨r27, S26, hz28, hf⟩ := z_bd_some hf
    refine z_ci (z_runV (o := 35) (ci := 2) E hK hP hS (c_X2_codeAt hq rfl (by decide) hz28) cv_X2_codeAt tw745 rfl (by decide) rfl rfl ⟨Nat.le_of_ble_eq_true rfl, Nat.le_of_ble_eq_true rfl⟩ ⟨Nat.le_refl 0, Nat.le_refl 0⟩ hl.1 (Nat.le_of_ble_eq_true rfl) rfl dX4_tellEnding_24) hS (fun H locs hP hS => ?_)
    refine x_putI (C := RX2) (T := TX2) (N := 7) (ci := 2) (k := 1) (o := 35) (v := r27) (ty := .int) E hK hq hP hS iwX2 tyX2 tyX2_ok nmX2 rfl rfl (by decide) (by decide) rfl rfl (by decide) rfl (tyX2_ok 1 (by decide)) ⟨rfl, rfl⟩ tw93 dX4_tellEnding_27 (fun H locs hP hS => ?_)
    obtain ⟨S29, hf, hP⟩ := z_ltX hf hP
    refine lv_goto (tgt := 141) hx hb dX4_tellEnding_30 (by decide) ?_
    exact x_retv hx hb hr hlk hf hP hS dX4_tellEnding_141
theorem cv_X4_tellEnding : z_cv yX4_tellEnding cX4_tellEnding 1 none RX4 0 := ⟨⟨tw754, twp25⟩, tw755, tw6, by decide +kernel⟩
def f_X7_frameOf (N : Nat) (a1 : Int32) (S : St) : Option (Int32 × St) := z_bd (f_X9_at N (43) ((a1 - 10000)) S) fun r2 S1 => some (r2, S1)
set_option maxHeartbeats 4000000 in
set_option maxRecDepth 100000 in
theorem c_X7_frameOf {l : Launch} {G : Cx} {M S S' : St} {N : Nat} {a1 : Int32} {r : Int32} (hq : z_inj (gq G)) (hf : f_X7_frameOf N a1 S = some (r, S')) : z_Ct l yX7_frameOf cX7_frameOf 2 (some .int) 1 21 G S M [.ref (gq G (40)), .int (a1)] (z_QI G S' M r) := by
  refine z_start (by decide +kernel) (Nat.le_of_ble_eq_true rfl) ?_
  intro p e s m below meth c ls E hr hlk hK hP hS hl
  have E : CallFix p m c cX7_frameOf 2 s _ lw_good RX7 := E
  have hx := E.1
  have hb := E.2.1
  have hown := E.2.2.2.1
  have hts := E.2.2.2.2
  have hl : lv_has ls 2 [(0, .ref (gq G (40))), (1, .int (a1))] := hl
  unfold f_X7_frameOf at hf
  refine lv_aload_n hx hb dX7_frameOf_0 rfl (lv_at hl 0 rfl) ?_
  refine z_getR (C := RX7) (T := TX7) (N := 4) (ci := 7) (k := 2) (o := 40) (t := 43) E hK hP iwX7 rfl rfl (by decide) (by decide) rfl rfl rfl tw187 dX7_frameOf_1 ?_
  refine lv_iload_n hx hb dX7_frameOf_4 rfl (lv_at hl 1 rfl) ?_
  refine lv_sipush (v := 10000) hx hb dX7_frameOf_5 (by decide) ?_
  refine lv_isub hx hb dX7_frameOf_8 ?_
  obtain ⟨r2, S1, hz3, hf⟩ := z_bd_some hf
  refine z_ci (z_runSN (host := RX9) E hK hP hS (c_X9_at hq rfl (by decide) hz3) cs_X9_at (by decide +kernel) rfl ⟨Nat.le_of_ble_eq_true rfl, Nat.le_of_ble_eq_true rfl⟩ ⟨Nat.le_refl 0, Nat.le_refl 0⟩ hl.1 (Nat.le_of_ble_eq_true rfl) rfl dX7_frameOf_9) hS (fun H locs hP hS => ?_)
  exact x_reti hx hb hr hlk hf hP hS dX7_frameOf_12
theorem cv_X7_frameOf : z_cv yX7_frameOf cX7_frameOf 2 (some .int) RX7 1 := ⟨⟨tw668, tw669⟩, tw670, tw8, by decide +kernel⟩
def b_X4_call_84 (N : Nat) (v3 : Int32) (S : St) : Option (St) := z_bd (f_X7_expressionOf N (v3) S) fun r14 S13 => z_bd (f_X5_variableOf N ((z_pr S13)) (r14) S13) fun r17 S16 => z_bd (f_X7_frameOf N (v3) S16) fun r20 S19 => z_bd (f_X1_add N (r17) ((S16 29 10)) (r20) S19) fun r23 S22 => z_bd (f_X5_firstOf N ((z_pr S22)) (r14) S22) fun r26 S25 => z_bv (f_X4_begin N (r26) (r23) S25) fun S28 => some S28
def f_X4_call (N : Nat) (a1 : Int32) (a2 : Int32) (a3 : Int32) (S : St) : Option (St) := z_bd (f_X5_isAtEnd N ((z_pr S)) (a1) S) fun r2 S1 => if r2 = 0 then (if (S1 29 11) < 12 then (z_lt (z_wr S1 29 11 ((S1 29 11) + 1)) fun S6 => z_lt (z_wr S6 35 3 (if (S6 35 3) < (S6 29 11) then (S6 29 11) else (S6 35 3))) fun S7 => z_bv (f_X8_push N (a1) (a2) (2) (0) S7) fun S8 => b_X4_call_84 N (a3) S8) else (z_bv (f_X4_fail N (5) S1) fun S10 => some S10)) else (z_lt (z_wr S1 35 4 ((S1 35 4) + 1)) fun S12 => b_X4_call_84 N (a3) S12)
set_option maxHeartbeats 4000000 in
set_option maxRecDepth 100000 in
theorem c_X4_call {l : Launch} {G : Cx} {M S S' : St} {N : Nat} {a1 : Int32} {a2 : Int32} {a3 : Int32} (hq : z_inj (gq G)) (hf : f_X4_call N a1 a2 a3 S = some S') : z_Ct l yX4_call cX4_call 6 none 2 46 G S M [.ref (gq G (29)), .int (a1), .int (a2), .int (a3)] (z_QV G S' M) := by
  refine z_start (by decide +kernel) (Nat.le_of_ble_eq_true rfl) ?_
  intro p e s m below meth c ls E hr hlk hK hP hS hl
  have E : CallFix p m c cX4_call 6 s _ lw_good RX4 := E
  have hx := E.1
  have hb := E.2.1
  have hown := E.2.2.2.1
  have hts := E.2.2.2.2
  have hJ84 : ∀ (v3 : Int32) (S : St) (H : Heap) (locs : List Loc) (ls : Array Slot), b_X4_call_84 N v3 S = some S' → z_P G S M H → z_S G s.heap H locs → lv_has ls 6 [(0, .ref (gq G (29))), (3, .int (v3))] → W p l e (z_rm 2 46) s m ([.ref (gq G (29)), .int (a1), .int (a2), .int (a3)] : List Value).toArray below meth c H locs 0 0 (MQ below (z_QV G S' M) ([.ref (gq G (29)), .int (a1), .int (a2), .int (a3)] : List Value).toArray s 0 0 (z_Aq (gq G))) (F0 m 84 ls []) := by
    intro v3 S H locs ls hf hP hS hl
    unfold b_X4_call_84 at hf
    refine lv_aload_n hx hb dX4_call_84 rfl (lv_at hl 0 rfl) ?_
    refine z_getR (C := RX4) (T := TX4) (N := 13) (ci := 4) (k := 4) (o := 29) (t := 40) E hK hP iwX4 rfl rfl (by decide) (by decide) rfl rfl rfl tw230 dX4_call_85 ?_
    refine lv_iload_n hx hb dX4_call_88 rfl (lv_at hl 1 rfl) ?_
    obtain ⟨r14, S13, hz15, hf⟩ := z_bd_some hf
    refine z_ci (z_runV (o := 40) (ci := 7) E hK hP hS (c_X7_expressionOf hq hz15) cv_X7_expressionOf tw662 rfl (by decide) rfl rfl ⟨Nat.le_of_ble_eq_true rfl, Nat.le_of_ble_eq_true rfl⟩ ⟨Nat.le_refl 0, Nat.le_refl 0⟩ hl.1 (Nat.le_of_ble_eq_true rfl) rfl dX4_call_89) hS (fun H locs hP hS => ?_)
    refine lv_istore (lv' := [(4, .int (r14)), (0, .ref (gq G (29))), (3, .int (v3))]) hx hb dX4_call_92 hl (by decide) rfl (fun ls hl => ?_)
    refine lv_aload_n hx hb dX4_call_94 rfl (lv_at hl 1 rfl) ?_
    refine z_getR (C := RX4) (T := TX4) (N := 13) (ci := 4) (k := 3) (o := 29) (t := 36) E hK hP iwX4 rfl rfl (by decide) (by decide) rfl rfl rfl tw229 dX4_call_95 ?_
    refine lv_aload_n hx hb dX4_call_98 rfl (lv_at hl 1 rfl) ?_
    refine z_getR (C := RX4) (T := TX4) (N := 13) (ci := 4) (k := 6) (o := 29) (t := (z_pr S13)) E hK hP iwX4 rfl rfl (by decide) (by decide) rfl rfl z_rf_pr tw232 dX4_call_99 ?_
    refine lv_iload hx hb dX4_call_102 (lv_at hl 0 rfl) ?_
    obtain ⟨r17, S16, hz18, hf⟩ := z_bd_some hf
    refine z_ci (z_runV (o := (z_pr S13)) (ci := 5) E hK hP hS (c_X5_variableOf hq z_pr_kd z_pr_65 hz18) cv_X5_variableOf tw578 z_pr_kd (by decide) rfl rfl ⟨Nat.le_of_ble_eq_true rfl, Nat.le_of_ble_eq_true rfl⟩ ⟨Nat.le_refl 0, Nat.le_refl 0⟩ hl.1 (Nat.le_of_ble_eq_true rfl) rfl dX4_call_104) hS (fun H locs hP hS => ?_)
    refine lv_aload_n hx hb dX4_call_107 rfl (lv_at hl 1 rfl) ?_
    refine x_getI (C := RX4) (T := TX4) (N := 13) (ci := 4) (k := 10) (o := 29) E hK hP iwX4 rfl rfl (by decide) (by decide) rfl rfl (by decide) tw236 dX4_call_108 ?_
    refine lv_aload_n hx hb dX4_call_111 rfl (lv_at hl 1 rfl) ?_
    refine z_getR (C := RX4) (T := TX4) (N := 13) (ci := 4) (k := 4) (o := 29) (t := 40) E hK hP iwX4 rfl rfl (by decide) (by decide) rfl rfl rfl tw230 dX4_call_112 ?_
    refine lv_iload_n hx hb dX4_call_115 rfl (lv_at hl 2 rfl) ?_
    obtain ⟨r20, S19, hz21, hf⟩ := z_bd_some hf
    refine z_ci (z_runV (o := 40) (ci := 7) E hK hP hS (c_X7_frameOf hq hz21) cv_X7_frameOf tw667 rfl (by decide) rfl rfl ⟨Nat.le_of_ble_eq_true rfl, Nat.le_of_ble_eq_true rfl⟩ ⟨Nat.le_refl 0, Nat.le_refl 0⟩ hl.1 (Nat.le_of_ble_eq_true rfl) rfl dX4_call_116) hS (fun H locs hP hS => ?_)
    obtain ⟨r23, S22, hz24, hf⟩ := z_bd_some hf
    refine z_ci (z_runV (o := 36) (ci := 1) E hK hP hS (c_X1_add hq hz24) cv_X1_add tw671 rfl (by decide) rfl rfl ⟨Nat.le_of_ble_eq_true rfl, Nat.le_of_ble_eq_true rfl⟩ ⟨Nat.le_refl 0, Nat.le_refl 0⟩ hl.1 (Nat.le_of_ble_eq_true rfl) rfl dX4_call_119) hS (fun H locs hP hS => ?_)
    refine lv_istore (lv' := [(5, .int (r23)), (4, .int (r14)), (0, .ref (gq G (29))), (3, .int (v3))]) hx hb dX4_call_122 hl (by decide) rfl (fun ls hl => ?_)
    refine lv_aload_n hx hb dX4_call_124 rfl (lv_at hl 2 rfl) ?_
    refine lv_aload_n hx hb dX4_call_125 rfl (lv_at hl 2 rfl) ?_
    refine z_getR (C := RX4) (T := TX4) (N := 13) (ci := 4) (k := 6) (o := 29) (t := (z_pr S22)) E hK hP iwX4 rfl rfl (by decide) (by decide) rfl rfl z_rf_pr tw232 dX4_call_126 ?_
    refine lv_iload hx hb dX4_call_129 (lv_at hl 1 rfl) ?_
    obtain ⟨r26, S25, hz27, hf⟩ := z_bd_some hf
    refine z_ci (z_runV (o := (z_pr S22)) (ci := 5) E hK hP hS (c_X5_firstOf hq z_pr_kd z_pr_65 hz27) cv_X5_firstOf tw606 z_pr_kd (by decide) rfl rfl ⟨Nat.le_of_ble_eq_true rfl, Nat.le_of_ble_eq_true rfl⟩ ⟨Nat.le_refl 0, Nat.le_refl 0⟩ hl.1 (Nat.le_of_ble_eq_true rfl) rfl dX4_call_131) hS (fun H locs hP hS => ?_)
    refine lv_iload hx hb dX4_call_134 (lv_at hl 0 rfl) ?_
    obtain ⟨S28, hz29, hf⟩ := z_bv_some hf
    refine z_cvo (z_runV (o := 29) (ci := 4) E hK hP hS (c_X4_begin hq hz29) cv_X4_begin tw558 rfl (by decide) rfl rfl ⟨Nat.le_of_ble_eq_true rfl, Nat.le_of_ble_eq_true rfl⟩ ⟨Nat.le_refl 0, Nat.le_refl 0⟩ hl.1 (Nat.le_of_ble_eq_true rfl) rfl dX4_call_136) hS (fun H locs hP hS => ?_)
    exact x_retv hx hb hr hlk hf hP hS dX4_call_139
  have hl : lv_has ls 6 [(0, .ref (gq G (29))), (1, .int (a1)), (2, .int (a2)), (3, .int (a3))] := hl
  unfold f_X4_call at hf
  refine lv_aload_n hx hb dX4_call_0 rfl (lv_at hl 0 rfl) ?_
  refine z_getR (C := RX4) (T := TX4) (N := 13) (ci := 4) (k := 6) (o := 29) (t := (z_pr S)) E hK hP iwX4 rfl rfl (by decide) (by decide) rfl rfl z_rf_pr tw232 dX4_call_1 ?_
  refine lv_iload_n hx hb dX4_call_4 rfl (lv_at hl 1 rfl) ?_
  obtain ⟨r2, S1, hz3, hf⟩ := z_bd_some hf
  refine z_ci (z_runV (o := (z_pr S)) (ci := 5) E hK hP hS (c_X5_isAtEnd hq z_pr_kd z_pr_65 hz3) cv_X5_isAtEnd tw658 z_pr_kd (by decide) rfl rfl ⟨Nat.le_of_ble_eq_true rfl, Nat.le_of_ble_eq_true rfl⟩ ⟨Nat.le_refl 0, Nat.le_refl 0⟩ hl.1 (Nat.le_of_ble_eq_true rfl) rfl dX4_call_5) hS (fun H locs hP hS => ?_)
  refine lv_if_eq (tgt := 27) hx hb dX4_call_8 (by decide) (fun hc4 => ?_) (fun hc4 => ?_)
  · replace hf := z_ifp hf hc4
    refine lv_aload_n hx hb dX4_call_27 rfl (lv_at hl 0 rfl) ?_
    refine x_getI (C := RX4) (T := TX4) (N := 13) (ci := 4) (k := 11) (o := 29) E hK hP iwX4 rfl rfl (by decide) (by decide) rfl rfl (by decide) tw237 dX4_call_28 ?_
    refine lv_bipush (v := 12) hx hb dX4_call_31 (by decide) ?_
    refine lv_icmp_lt (tgt := 42) hx hb dX4_call_33 (by decide) (fun hc5 => ?_) (fun hc5 => ?_)
    · replace hf := z_ifp hf hc5
      refine lv_aload_n hx hb dX4_call_42 rfl (lv_at hl 0 rfl) ?_
      refine lv_dup hx hb dX4_call_43 rfl ?_
      refine x_getI (C := RX4) (T := TX4) (N := 13) (ci := 4) (k := 11) (o := 29) E hK hP iwX4 rfl rfl (by decide) (by decide) rfl rfl (by decide) tw237 dX4_call_44 ?_
      refine lv_iconst (v := 1) hx hb dX4_call_47 (by decide) ?_
      refine lv_iadd hx hb dX4_call_48 ?_
      refine x_putI (C := RX4) (T := TX4) (N := 13) (ci := 4) (k := 11) (o := 29) (v := ((S1 29 11) + 1)) (ty := .int) E hK hq hP hS iwX4 tyX4 tyX4_ok nmX4 rfl rfl (by decide) (by decide) rfl rfl (by decide) rfl (tyX4_ok 11 (by decide)) ⟨rfl, rfl⟩ tw237 dX4_call_49 (fun H locs hP hS => ?_)
      obtain ⟨S6, hf, hP⟩ := z_ltX hf hP
      refine lv_aload_n hx hb dX4_call_52 rfl (lv_at hl 0 rfl) ?_
      refine z_getR (C := RX4) (T := TX4) (N := 13) (ci := 4) (k := 2) (o := 29) (t := 35) E hK hP iwX4 rfl rfl (by decide) (by decide) rfl rfl rfl tw228 dX4_call_53 ?_
      refine lv_aload_n hx hb dX4_call_56 rfl (lv_at hl 0 rfl) ?_
      refine z_getR (C := RX4) (T := TX4) (N := 13) (ci := 4) (k := 2) (o := 29) (t := 35) E hK hP iwX4 rfl rfl (by decide) (by decide) rfl rfl rfl tw228 dX4_call_57 ?_
      refine x_getI (C := RX2) (T := TX2) (N := 7) (ci := 2) (k := 3) (o := 35) E hK hP iwX2 rfl rfl (by decide) (by decide) rfl rfl (by decide) tw99 dX4_call_60 ?_
      refine lv_aload_n hx hb dX4_call_63 rfl (lv_at hl 0 rfl) ?_
      refine x_getI (C := RX4) (T := TX4) (N := 13) (ci := 4) (k := 11) (o := 29) E hK hP iwX4 rfl rfl (by decide) (by decide) rfl rfl (by decide) tw237 dX4_call_64 ?_
      refine z_mmax E hl.1 tw659 (by decide) (Nat.le_of_ble_eq_true rfl) ⟨Nat.le_refl 0, Nat.le_refl 0⟩ dX4_call_67 ?_
      refine x_putI (C := RX2) (T := TX2) (N := 7) (ci := 2) (k := 3) (o := 35) (v := (if (S6 35 3) < (S6 29 11) then (S6 29 11) else (S6 35 3))) (ty := .int) E hK hq hP hS iwX2 tyX2 tyX2_ok nmX2 rfl rfl (by decide) (by decide) rfl rfl (by decide) rfl (tyX2_ok 3 (by decide)) ⟨rfl, rfl⟩ tw99 dX4_call_70 (fun H locs hP hS => ?_)
      obtain ⟨S7, hf, hP⟩ := z_ltX hf hP
      refine lv_aload_n hx hb dX4_call_73 rfl (lv_at hl 0 rfl) ?_
      refine z_getR (C := RX4) (T := TX4) (N := 13) (ci := 4) (k := 5) (o := 29) (t := 44) E hK hP iwX4 rfl rfl (by decide) (by decide) rfl rfl rfl tw231 dX4_call_74 ?_
      refine lv_iload_n hx hb dX4_call_77 rfl (lv_at hl 1 rfl) ?_
      refine lv_iload_n hx hb dX4_call_78 rfl (lv_at hl 2 rfl) ?_
      refine lv_iconst (v := 2) hx hb dX4_call_79 (by decide) ?_
      refine lv_iconst (v := 0) hx hb dX4_call_80 (by decide) ?_
      obtain ⟨S8, hz9, hf⟩ := z_bv_some hf
      refine z_cvo (z_runV (o := 44) (ci := 8) E hK hP hS (c_X8_push hq hz9) cv_X8_push tw601 rfl (by decide) rfl rfl ⟨Nat.le_of_ble_eq_true rfl, Nat.le_of_ble_eq_true rfl⟩ ⟨Nat.le_refl 0, Nat.le_refl 0⟩ hl.1 (Nat.le_of_ble_eq_true rfl) rfl dX4_call_81) hS (fun H locs hP hS => ?_)
      exact hJ84 (a3) S8 _ _ _ hf hP hS (lv_sub hl [0, 3] rfl)
    · replace hf := z_ifn hf hc5
      refine lv_aload_n hx hb dX4_call_36 rfl (lv_at hl 0 rfl) ?_
      refine lv_iconst (v := 5) hx hb dX4_call_37 (by decide) ?_
      obtain ⟨S10, hz11, hf⟩ := z_bv_some hf
      refine z_cvo (z_runV (o := 29) (ci := 4) E hK hP hS (c_X4_fail hq hz11) cv_X4_fail tw567 rfl (by decide) rfl rfl ⟨Nat.le_of_ble_eq_true rfl, Nat.le_of_ble_eq_true rfl⟩ ⟨Nat.le_refl 0, Nat.le_refl 0⟩ hl.1 (Nat.le_of_ble_eq_true rfl) rfl dX4_call_38) hS (fun H locs hP hS => ?_)
      exact x_retv hx hb hr hlk hf hP hS dX4_call_41
  · replace hf := z_ifn hf hc4
    refine lv_aload_n hx hb dX4_call_11 rfl (lv_at hl 0 rfl) ?_
    refine z_getR (C := RX4) (T := TX4) (N := 13) (ci := 4) (k := 2) (o := 29) (t := 35) E hK hP iwX4 rfl rfl (by decide) (by decide) rfl rfl rfl tw228 dX4_call_12 ?_
    refine lv_dup hx hb dX4_call_15 rfl ?_
    refine x_getI (C := RX2) (T := TX2) (N := 7) (ci := 2) (k := 4) (o := 35) E hK hP iwX2 rfl rfl (by decide) (by decide) rfl rfl (by decide) tw101 dX4_call_16 ?_
    refine lv_iconst (v := 1) hx hb dX4_call_19 (by decide) ?_
    refine lv_iadd hx hb dX4_call_20 ?_
    refine x_putI (C := RX2) (T := TX2) (N := 7) (ci := 2) (k := 4) (o := 35) (v := ((S1 35 4) + 1)) (ty := .int) E hK hq hP hS iwX2 tyX2 tyX2_ok nmX2 rfl rfl (by decide) (by decide) rfl rfl (by decide) rfl (tyX2_ok 4 (by decide)) ⟨rfl, rfl⟩ tw101 dX4_call_21 (fun H locs hP hS => ?_)
    obtain ⟨S12, hf, hP⟩ := z_ltX hf hP
    refine lv_goto (tgt := 84) hx hb dX4_call_24 (by decide) ?_
    exact hJ84 (a3) S12 _ _ _ hf hP hS (lv_sub hl [0, 3] rfl)
theorem cv_X4_call : z_cv yX4_call cX4_call 6 none RX4 3 := ⟨⟨tw656, twp17⟩, tw657, tw6, by decide +kernel⟩
def f_X5_thirdOf (N : Nat) (o0 : Nat) (a1 : Int32) (S : St) : Option (Int32 × St) := z_bd (f_X9_at N ((z_rfS o0 3)) (a1) S) fun r2 S1 => some (r2, S1)
set_option maxHeartbeats 4000000 in
set_option maxRecDepth 100000 in
theorem c_X5_thirdOf {l : Launch} {G : Cx} {M S S' : St} {N : Nat} {o0 : Nat} {a1 : Int32} {r : Int32} (hq : z_inj (gq G)) (hko0 : z_kd o0 = 5) (hxo0 : o0 < 65) (hf : f_X5_thirdOf N o0 a1 S = some (r, S')) : z_Ct l yX5_thirdOf cX5_thirdOf 2 (some .int) 1 21 G S M [.ref (gq G (o0)), .int (a1)] (z_QI G S' M r) := by
  refine z_start (by decide +kernel) (Nat.le_of_ble_eq_true rfl) ?_
  intro p e s m below meth c ls E hr hlk hK hP hS hl
  have E : CallFix p m c cX5_thirdOf 2 s _ lw_good RX5 := E
  have hx := E.1
  have hb := E.2.1
  have hown := E.2.2.2.1
  have hts := E.2.2.2.2
  have hl : lv_has ls 2 [(0, .ref (gq G (o0))), (1, .int (a1))] := hl
  unfold f_X5_thirdOf at hf
  refine lv_aload_n hx hb dX5_thirdOf_0 rfl (lv_at hl 0 rfl) ?_
  refine z_getR (C := RX5) (T := TX5) (N := 8) (ci := 5) (k := 3) (o := o0) (t := (z_rfS o0 3)) E hK hP iwX5 rfl rfl (by decide) (by decide) rfl hko0 (z_rf_S (by rw [hko0]; decide)) tw42 dX5_thirdOf_1 ?_
  refine lv_iload_n hx hb dX5_thirdOf_4 rfl (lv_at hl 1 rfl) ?_
  obtain ⟨r2, S1, hz3, hf⟩ := z_bd_some hf
  refine z_ci (z_runSN (host := RX9) E hK hP hS (c_X9_at hq (z_rk5_3 hko0) (z_rl5_3 hko0) hz3) cs_X9_at (by decide +kernel) rfl ⟨Nat.le_of_ble_eq_true rfl, Nat.le_of_ble_eq_true rfl⟩ ⟨Nat.le_refl 0, Nat.le_refl 0⟩ hl.1 (Nat.le_of_ble_eq_true rfl) rfl dX5_thirdOf_5) hS (fun H locs hP hS => ?_)
  exact x_reti hx hb hr hlk hf hP hS dX5_thirdOf_8
theorem cv_X5_thirdOf : z_cv yX5_thirdOf cX5_thirdOf 2 (some .int) RX5 1 := ⟨⟨tw693, tw694⟩, tw695, tw3, by decide +kernel⟩
def b_X4_choose_45 (N : Nat) (v2 : Int32) (t0 : Int32) (S : St) : Option (St) := z_bv (f_X4_begin N (t0) (v2) S) fun S14 => some S14
def f_X4_choose (N : Nat) (a1 : Int32) (a2 : Int32) (S : St) : Option (St) := z_bd (f_X7_isNumber N ((S 29 10)) S) fun r2 S1 => if r2 = 0 then (z_bv (f_X4_fail N (1) S1) fun S12 => some S12) else (if (S1 29 10) = 0 then (z_bd (f_X5_thirdOf N ((z_pr S1)) (a1) S1) fun r7 S6 => b_X4_choose_45 N (a2) (r7) S6) else (z_bd (f_X5_secondOf N ((z_pr S1)) (a1) S1) fun r10 S9 => b_X4_choose_45 N (a2) (r10) S9))
set_option maxHeartbeats 4000000 in
set_option maxRecDepth 100000 in
theorem c_X4_choose {l : Launch} {G : Cx} {M S S' : St} {N : Nat} {a1 : Int32} {a2 : Int32} (hq : z_inj (gq G)) (hf : f_X4_choose N a1 a2 S = some S') : z_Ct l yX4_choose cX4_choose 3 none 2 42 G S M [.ref (gq G (29)), .int (a1), .int (a2)] (z_QV G S' M) := by
  refine z_start (by decide +kernel) (Nat.le_of_ble_eq_true rfl) ?_
  intro p e s m below meth c ls E hr hlk hK hP hS hl
  have E : CallFix p m c cX4_choose 3 s _ lw_good RX4 := E
  have hx := E.1
  have hb := E.2.1
  have hown := E.2.2.2.1
  have hts := E.2.2.2.2
  have hJ45 : ∀ (v2 : Int32) (t0 : Int32) (S : St) (H : Heap) (locs : List Loc) (ls : Array Slot), b_X4_choose_45 N v2 t0 S = some S' → z_P G S M H → z_S G s.heap H locs → lv_has ls 3 [(2, .int (v2))] → W p l e (z_rm 2 42) s m ([.ref (gq G (29)), .int (a1), .int (a2)] : List Value).toArray below meth c H locs 0 0 (MQ below (z_QV G S' M) ([.ref (gq G (29)), .int (a1), .int (a2)] : List Value).toArray s 0 0 (z_Aq (gq G))) (F0 m 45 ls [.int (t0), .ref (gq G (29))]) := by
    intro v2 t0 S H locs ls hf hP hS hl
    unfold b_X4_choose_45 at hf
    refine lv_iload_n hx hb dX4_choose_45 rfl (lv_at hl 0 rfl) ?_
    obtain ⟨S14, hz15, hf⟩ := z_bv_some hf
    refine z_cvo (z_runV (o := 29) (ci := 4) E hK hP hS (c_X4_begin hq hz15) cv_X4_begin tw558 rfl (by decide) rfl rfl ⟨Nat.le_of_ble_eq_true rfl, Nat.le_of_ble_eq_true rfl⟩ ⟨Nat.le_refl 0, Nat.le_refl 0⟩ hl.1 (Nat.le_of_ble_eq_true rfl) rfl dX4_choose_46) hS (fun H locs hP hS => ?_)
    exact x_retv hx hb hr hlk hf hP hS dX4_choose_49
  have hl : lv_has ls 3 [(0, .ref (gq G (29))), (1, .int (a1)), (2, .int (a2))] := hl
  unfold f_X4_choose at hf
  refine lv_aload_n hx hb dX4_choose_0 rfl (lv_at hl 0 rfl) ?_
  refine x_getI (C := RX4) (T := TX4) (N := 13) (ci := 4) (k := 10) (o := 29) E hK hP iwX4 rfl rfl (by decide) (by decide) rfl rfl (by decide) tw236 dX4_choose_1 ?_
  obtain ⟨r2, S1, hz3, hf⟩ := z_bd_some hf
  refine z_ci (z_runS E hK hP hS (c_X7_isNumber hq hz3) cs_X7_isNumber tw651 rfl ⟨Nat.le_of_ble_eq_true rfl, Nat.le_of_ble_eq_true rfl⟩ ⟨Nat.le_refl 0, Nat.le_refl 0⟩ hl.1 (Nat.le_of_ble_eq_true rfl) rfl dX4_choose_4) hS (fun H locs hP hS => ?_)
  refine lv_if_ne (tgt := 18) hx hb dX4_choose_7 (by decide) (fun hc4 => ?_) (fun hc4 => ?_)
  · replace hf := z_ifn hf hc4
    refine lv_aload_n hx hb dX4_choose_18 rfl (lv_at hl 0 rfl) ?_
    refine lv_aload_n hx hb dX4_choose_19 rfl (lv_at hl 0 rfl) ?_
    refine x_getI (C := RX4) (T := TX4) (N := 13) (ci := 4) (k := 10) (o := 29) E hK hP iwX4 rfl rfl (by decide) (by decide) rfl rfl (by decide) tw236 dX4_choose_20 ?_
    refine lv_if_eq (tgt := 37) hx hb dX4_choose_23 (by decide) (fun hc5 => ?_) (fun hc5 => ?_)
    · replace hf := z_ifp hf hc5
      refine lv_aload_n hx hb dX4_choose_37 rfl (lv_at hl 0 rfl) ?_
      refine z_getR (C := RX4) (T := TX4) (N := 13) (ci := 4) (k := 6) (o := 29) (t := (z_pr S1)) E hK hP iwX4 rfl rfl (by decide) (by decide) rfl rfl z_rf_pr tw232 dX4_choose_38 ?_
      refine lv_iload_n hx hb dX4_choose_41 rfl (lv_at hl 1 rfl) ?_
      obtain ⟨r7, S6, hz8, hf⟩ := z_bd_some hf
      refine z_ci (z_runV (o := (z_pr S1)) (ci := 5) E hK hP hS (c_X5_thirdOf hq z_pr_kd z_pr_65 hz8) cv_X5_thirdOf tw692 z_pr_kd (by decide) rfl rfl ⟨Nat.le_of_ble_eq_true rfl, Nat.le_of_ble_eq_true rfl⟩ ⟨Nat.le_refl 0, Nat.le_refl 0⟩ hl.1 (Nat.le_of_ble_eq_true rfl) rfl dX4_choose_42) hS (fun H locs hP hS => ?_)
      exact hJ45 (a2) (r7) S6 _ _ _ hf hP hS (lv_sub hl [2] rfl)
    · replace hf := z_ifn hf hc5
      refine lv_aload_n hx hb dX4_choose_26 rfl (lv_at hl 0 rfl) ?_
      refine z_getR (C := RX4) (T := TX4) (N := 13) (ci := 4) (k := 6) (o := 29) (t := (z_pr S1)) E hK hP iwX4 rfl rfl (by decide) (by decide) rfl rfl z_rf_pr tw232 dX4_choose_27 ?_
      refine lv_iload_n hx hb dX4_choose_30 rfl (lv_at hl 1 rfl) ?_
      obtain ⟨r10, S9, hz11, hf⟩ := z_bd_some hf
      refine z_ci (z_runV (o := (z_pr S1)) (ci := 5) E hK hP hS (c_X5_secondOf hq z_pr_kd z_pr_65 hz11) cv_X5_secondOf tw639 z_pr_kd (by decide) rfl rfl ⟨Nat.le_of_ble_eq_true rfl, Nat.le_of_ble_eq_true rfl⟩ ⟨Nat.le_refl 0, Nat.le_refl 0⟩ hl.1 (Nat.le_of_ble_eq_true rfl) rfl dX4_choose_31) hS (fun H locs hP hS => ?_)
      refine lv_goto (tgt := 45) hx hb dX4_choose_34 (by decide) ?_
      exact hJ45 (a2) (r10) S9 _ _ _ hf hP hS (lv_sub hl [2] rfl)
  · replace hf := z_ifp hf hc4
    refine lv_aload_n hx hb dX4_choose_10 rfl (lv_at hl 0 rfl) ?_
    refine lv_iconst (v := 1) hx hb dX4_choose_11 (by decide) ?_
    obtain ⟨S12, hz13, hf⟩ := z_bv_some hf
    refine z_cvo (z_runV (o := 29) (ci := 4) E hK hP hS (c_X4_fail hq hz13) cv_X4_fail tw567 rfl (by decide) rfl rfl ⟨Nat.le_of_ble_eq_true rfl, Nat.le_of_ble_eq_true rfl⟩ ⟨Nat.le_refl 0, Nat.le_refl 0⟩ hl.1 (Nat.le_of_ble_eq_true rfl) rfl dX4_choose_12) hS (fun H locs hP hS => ?_)
    refine lv_goto (tgt := 49) hx hb dX4_choose_15 (by decide) ?_
    exact x_retv hx hb hr hlk hf hP hS dX4_choose_49
theorem cv_X4_choose : z_cv yX4_choose cX4_choose 3 none RX4 2 := ⟨⟨tw690, twp19⟩, tw691, tw6, by decide +kernel⟩
def b_X4_failAsTold_46 (N : Nat) (t0 : Int32) (S : St) : Option (St) := z_bv (f_X4_fail N (t0) S) fun S9 => some S9
def b_X4_failAsTold_45 (N : Nat) (S : St) : Option (St) := b_X4_failAsTold_46 N (4) S
def f_X4_failAsTold (N : Nat) (S : St) : Option (St) := z_bd (f_X7_isNumber N ((S 29 10)) S) fun r2 S1 => if r2 = 0 then (z_bv (f_X4_fail N (1) S1) fun S7 => some S7) else (if (S1 29 10) < 0 then (b_X4_failAsTold_45 N S1) else (if 9 < (S1 29 10) then (b_X4_failAsTold_45 N S1) else (b_X4_failAsTold_46 N ((10 + (S1 29 10))) S1)))
set_option maxHeartbeats 4000000 in
set_option maxRecDepth 100000 in
theorem c_X4_failAsTold {l : Launch} {G : Cx} {M S S' : St} {N : Nat} (hq : z_inj (gq G)) (hf : f_X4_failAsTold N S = some S') : z_Ct l yX4_failAsTold cX4_failAsTold 1 none 1 21 G S M [.ref (gq G (29))] (z_QV G S' M) := by
  refine z_start (by decide +kernel) (Nat.le_of_ble_eq_true rfl) ?_
  intro p e s m below meth c ls E hr hlk hK hP hS hl
  have E : CallFix p m c cX4_failAsTold 1 s _ lw_good RX4 := E
  have hx := E.1
  have hb := E.2.1
  have hown := E.2.2.2.1
  have hts := E.2.2.2.2
  have hJ46 : ∀ (t0 : Int32) (S : St) (H : Heap) (locs : List Loc) (ls : Array Slot), b_X4_failAsTold_46 N t0 S = some S' → z_P G S M H → z_S G s.heap H locs → lv_has ls 1 [] → W p l e (z_rm 1 21) s m ([.ref (gq G (29))] : List Value).toArray below meth c H locs 0 0 (MQ below (z_QV G S' M) ([.ref (gq G (29))] : List Value).toArray s 0 0 (z_Aq (gq G))) (F0 m 46 ls [.int (t0), .ref (gq G (29))]) := by
    intro t0 S H locs ls hf hP hS hl
    unfold b_X4_failAsTold_46 at hf
    obtain ⟨S9, hz10, hf⟩ := z_bv_some hf
    refine z_cvo (z_runV (o := 29) (ci := 4) E hK hP hS (c_X4_fail hq hz10) cv_X4_fail tw567 rfl (by decide) rfl rfl ⟨Nat.le_of_ble_eq_true rfl, Nat.le_of_ble_eq_true rfl⟩ ⟨Nat.le_refl 0, Nat.le_refl 0⟩ hl.1 (Nat.le_of_ble_eq_true rfl) rfl dX4_failAsTold_46) hS (fun H locs hP hS => ?_)
    exact x_retv hx hb hr hlk hf hP hS dX4_failAsTold_49
  have hJ45 : ∀ (S : St) (H : Heap) (locs : List Loc) (ls : Array Slot), b_X4_failAsTold_45 N S = some S' → z_P G S M H → z_S G s.heap H locs → lv_has ls 1 [] → W p l e (z_rm 1 21) s m ([.ref (gq G (29))] : List Value).toArray below meth c H locs 0 0 (MQ below (z_QV G S' M) ([.ref (gq G (29))] : List Value).toArray s 0 0 (z_Aq (gq G))) (F0 m 45 ls [.ref (gq G (29))]) := by
    intro S H locs ls hf hP hS hl
    unfold b_X4_failAsTold_45 at hf
    refine lv_iconst (v := 4) hx hb dX4_failAsTold_45 (by decide) ?_
    exact hJ46 (4) S _ _ _ hf hP hS (lv_sub hl [] rfl)
  have hl : lv_has ls 1 [(0, .ref (gq G (29)))] := hl
  unfold f_X4_failAsTold at hf
  refine lv_aload_n hx hb dX4_failAsTold_0 rfl (lv_at hl 0 rfl) ?_
  refine x_getI (C := RX4) (T := TX4) (N := 13) (ci := 4) (k := 10) (o := 29) E hK hP iwX4 rfl rfl (by decide) (by decide) rfl rfl (by decide) tw236 dX4_failAsTold_1 ?_
  obtain ⟨r2, S1, hz3, hf⟩ := z_bd_some hf
  refine z_ci (z_runS E hK hP hS (c_X7_isNumber hq hz3) cs_X7_isNumber tw651 rfl ⟨Nat.le_of_ble_eq_true rfl, Nat.le_of_ble_eq_true rfl⟩ ⟨Nat.le_refl 0, Nat.le_refl 0⟩ hl.1 (Nat.le_of_ble_eq_true rfl) rfl dX4_failAsTold_4) hS (fun H locs hP hS => ?_)
  refine lv_if_ne (tgt := 18) hx hb dX4_failAsTold_7 (by decide) (fun hc4 => ?_) (fun hc4 => ?_)
  · replace hf := z_ifn hf hc4
    refine lv_aload_n hx hb dX4_failAsTold_18 rfl (lv_at hl 0 rfl) ?_
    refine lv_aload_n hx hb dX4_failAsTold_19 rfl (lv_at hl 0 rfl) ?_
    refine x_getI (C := RX4) (T := TX4) (N := 13) (ci := 4) (k := 10) (o := 29) E hK hP iwX4 rfl rfl (by decide) (by decide) rfl rfl (by decide) tw236 dX4_failAsTold_20 ?_
    refine lv_if_lt (tgt := 45) hx hb dX4_failAsTold_23 (by decide) (fun hc5 => ?_) (fun hc5 => ?_)
    · replace hf := z_ifp hf hc5
      exact hJ45 S1 _ _ _ hf hP hS (lv_sub hl [] rfl)
    · replace hf := z_ifn hf hc5
      refine lv_aload_n hx hb dX4_failAsTold_26 rfl (lv_at hl 0 rfl) ?_
      refine x_getI (C := RX4) (T := TX4) (N := 13) (ci := 4) (k := 10) (o := 29) E hK hP iwX4 rfl rfl (by decide) (by decide) rfl rfl (by decide) tw236 dX4_failAsTold_27 ?_
      refine lv_bipush (v := 9) hx hb dX4_failAsTold_30 (by decide) ?_
      refine lv_icmp_gt (tgt := 45) hx hb dX4_failAsTold_32 (by decide) (fun hc6 => ?_) (fun hc6 => ?_)
      · replace hf := z_ifp hf hc6
        exact hJ45 S1 _ _ _ hf hP hS (lv_sub hl [] rfl)
      · replace hf := z_ifn hf hc6
        refine lv_bipush (v := 10) hx hb dX4_failAsTold_35 (by decide) ?_
        refine lv_aload_n hx hb dX4_failAsTold_37 rfl (lv_at hl 0 rfl) ?_
        refine x_getI (C := RX4) (T := TX4) (N := 13) (ci := 4) (k := 10) (o := 29) E hK hP iwX4 rfl rfl (by decide) (by decide) rfl rfl (by decide) tw236 dX4_failAsTold_38 ?_
        refine lv_iadd hx hb dX4_failAsTold_41 ?_
        refine lv_goto (tgt := 46) hx hb dX4_failAsTold_42 (by decide) ?_
        exact hJ46 ((10 + (S1 29 10))) S1 _ _ _ hf hP hS (lv_sub hl [] rfl)
  · replace hf := z_ifp hf hc4
    refine lv_aload_n hx hb dX4_failAsTold_10 rfl (lv_at hl 0 rfl) ?_
    refine lv_iconst (v := 1) hx hb dX4_failAsTold_11 (by decide) ?_
    obtain ⟨S7, hz8, hf⟩ := z_bv_some hf
    refine z_cvo (z_runV (o := 29) (ci := 4) E hK hP hS (c_X4_fail hq hz8) cv_X4_fail tw567 rfl (by decide) rfl rfl ⟨Nat.le_of_ble_eq_true rfl, Nat.le_of_ble_eq_true rfl⟩ ⟨Nat.le_refl 0, Nat.le_refl 0⟩ hl.1 (Nat.le_of_ble_eq_true rfl) rfl dX4_failAsTold_12) hS (fun H locs hP hS => ?_)
    refine lv_goto (tgt := 49) hx hb dX4_failAsTold_15 (by decide) ?_
    exact x_retv hx hb hr hlk hf hP hS dX4_failAsTold_49
theorem cv_X4_failAsTold : z_cv yX4_failAsTold cX4_failAsTold 1 none RX4 0 := ⟨⟨tw739, twp23⟩, tw740, tw6, by decide +kernel⟩
def f_X5_siteOf (N : Nat) (o0 : Nat) (a1 : Int32) (S : St) : Option (Int32 × St) := z_bd (f_X9_at N ((z_rfS o0 4)) (a1) S) fun r2 S1 => some (r2, S1)
set_option maxHeartbeats 4000000 in
set_option maxRecDepth 100000 in
theorem c_X5_siteOf {l : Launch} {G : Cx} {M S S' : St} {N : Nat} {o0 : Nat} {a1 : Int32} {r : Int32} (hq : z_inj (gq G)) (hko0 : z_kd o0 = 5) (hxo0 : o0 < 65) (hf : f_X5_siteOf N o0 a1 S = some (r, S')) : z_Ct l yX5_siteOf cX5_siteOf 2 (some .int) 1 21 G S M [.ref (gq G (o0)), .int (a1)] (z_QI G S' M r) := by
  refine z_start (by decide +kernel) (Nat.le_of_ble_eq_true rfl) ?_
  intro p e s m below meth c ls E hr hlk hK hP hS hl
  have E : CallFix p m c cX5_siteOf 2 s _ lw_good RX5 := E
  have hx := E.1
  have hb := E.2.1
  have hown := E.2.2.2.1
  have hts := E.2.2.2.2
  have hl : lv_has ls 2 [(0, .ref (gq G (o0))), (1, .int (a1))] := hl
  unfold f_X5_siteOf at hf
  refine lv_aload_n hx hb dX5_siteOf_0 rfl (lv_at hl 0 rfl) ?_
  refine z_getR (C := RX5) (T := TX5) (N := 8) (ci := 5) (k := 4) (o := o0) (t := (z_rfS o0 4)) E hK hP iwX5 rfl rfl (by decide) (by decide) rfl hko0 (z_rf_S (by rw [hko0]; decide)) tw43 dX5_siteOf_1 ?_
  refine lv_iload_n hx hb dX5_siteOf_4 rfl (lv_at hl 1 rfl) ?_
  obtain ⟨r2, S1, hz3, hf⟩ := z_bd_some hf
  refine z_ci (z_runSN (host := RX9) E hK hP hS (c_X9_at hq (z_rk5_4 hko0) (z_rl5_4 hko0) hz3) cs_X9_at (by decide +kernel) rfl ⟨Nat.le_of_ble_eq_true rfl, Nat.le_of_ble_eq_true rfl⟩ ⟨Nat.le_refl 0, Nat.le_refl 0⟩ hl.1 (Nat.le_of_ble_eq_true rfl) rfl dX5_siteOf_5) hS (fun H locs hP hS => ?_)
  exact x_reti hx hb hr hlk hf hP hS dX5_siteOf_8
theorem cv_X5_siteOf : z_cv yX5_siteOf cX5_siteOf 2 (some .int) RX5 1 := ⟨⟨tw718, tw719⟩, tw720, tw3, by decide +kernel⟩
def f_X7_fieldOf (N : Nat) (a1 : Int32) (a2 : Int32) (S : St) : Option (Int32 × St) := if a2 = 112 then (z_bd (f_X9_at N (42) ((a1 - 10000)) S) fun r6 S5 => some (r6, S5)) else (z_bd (f_X9_at N (43) ((a1 - 10000)) S) fun r3 S2 => some (r3, S2))
set_option maxHeartbeats 4000000 in
set_option maxRecDepth 100000 in
theorem c_X7_fieldOf {l : Launch} {G : Cx} {M S S' : St} {N : Nat} {a1 : Int32} {a2 : Int32} {r : Int32} (hq : z_inj (gq G)) (hf : f_X7_fieldOf N a1 a2 S = some (r, S')) : z_Ct l yX7_fieldOf cX7_fieldOf 3 (some .int) 1 21 G S M [.ref (gq G (40)), .int (a1), .int (a2)] (z_QI G S' M r) := by
  refine z_start (by decide +kernel) (Nat.le_of_ble_eq_true rfl) ?_
  intro p e s m below meth c ls E hr hlk hK hP hS hl
  have E : CallFix p m c cX7_fieldOf 3 s _ lw_good RX7 := E
  have hx := E.1
  have hb := E.2.1
  have hown := E.2.2.2.1
  have hts := E.2.2.2.2
  have hl : lv_has ls 3 [(0, .ref (gq G (40))), (1, .int (a1)), (2, .int (a2))] := hl
  unfold f_X7_fieldOf at hf
  refine lv_iload_n hx hb dX7_fieldOf_0 rfl (lv_at hl 2 rfl) ?_
  refine lv_bipush (v := 112) hx hb dX7_fieldOf_1 (by decide) ?_
  refine lv_icmp_ne (tgt := 13) hx hb dX7_fieldOf_3 (by decide) (fun hc1 => ?_) (fun hc1 => ?_)
  · replace hf := z_ifn hf hc1
    refine lv_aload_n hx hb dX7_fieldOf_13 rfl (lv_at hl 0 rfl) ?_
    refine z_getR (C := RX7) (T := TX7) (N := 4) (ci := 7) (k := 2) (o := 40) (t := 43) E hK hP iwX7 rfl rfl (by decide) (by decide) rfl rfl rfl tw187 dX7_fieldOf_14 ?_
    refine lv_iload_n hx hb dX7_fieldOf_17 rfl (lv_at hl 1 rfl) ?_
    refine lv_sipush (v := 10000) hx hb dX7_fieldOf_18 (by decide) ?_
    refine lv_isub hx hb dX7_fieldOf_21 ?_
    obtain ⟨r3, S2, hz4, hf⟩ := z_bd_some hf
    refine z_ci (z_runSN (host := RX9) E hK hP hS (c_X9_at hq rfl (by decide) hz4) cs_X9_at (by decide +kernel) rfl ⟨Nat.le_of_ble_eq_true rfl, Nat.le_of_ble_eq_true rfl⟩ ⟨Nat.le_refl 0, Nat.le_refl 0⟩ hl.1 (Nat.le_of_ble_eq_true rfl) rfl dX7_fieldOf_22) hS (fun H locs hP hS => ?_)
    exact x_reti hx hb hr hlk hf hP hS dX7_fieldOf_25
  · replace hf := z_ifp hf hc1
    refine lv_aload_n hx hb dX7_fieldOf_6 rfl (lv_at hl 0 rfl) ?_
    refine z_getR (C := RX7) (T := TX7) (N := 4) (ci := 7) (k := 1) (o := 40) (t := 42) E hK hP iwX7 rfl rfl (by decide) (by decide) rfl rfl rfl tw186 dX7_fieldOf_7 ?_
    refine lv_goto (tgt := 17) hx hb dX7_fieldOf_10 (by decide) ?_
    refine lv_iload_n hx hb dX7_fieldOf_17 rfl (lv_at hl 1 rfl) ?_
    refine lv_sipush (v := 10000) hx hb dX7_fieldOf_18 (by decide) ?_
    refine lv_isub hx hb dX7_fieldOf_21 ?_
    obtain ⟨r6, S5, hz7, hf⟩ := z_bd_some hf
    refine z_ci (z_runSN (host := RX9) E hK hP hS (c_X9_at hq rfl (by decide) hz7) cs_X9_at (by decide +kernel) rfl ⟨Nat.le_of_ble_eq_true rfl, Nat.le_of_ble_eq_true rfl⟩ ⟨Nat.le_refl 0, Nat.le_refl 0⟩ hl.1 (Nat.le_of_ble_eq_true rfl) rfl dX7_fieldOf_22) hS (fun H locs hP hS => ?_)
    exact x_reti hx hb hr hlk hf hP hS dX7_fieldOf_25
theorem cv_X7_fieldOf : z_cv yX7_fieldOf cX7_fieldOf 3 (some .int) RX7 2 := ⟨⟨tw734, tw735⟩, tw736, tw8, by decide +kernel⟩
def b_X7_hasField_23 (N : Nat) (t0 : Int32) (t1 : Int32) (S : St) : Option (Int32 × St) := if t1 = t0 then (some (0, S)) else (some (1, S))
def f_X7_hasField (N : Nat) (a1 : Int32) (a2 : Int32) (S : St) : Option (Int32 × St) := z_bd (f_X7_kindOf N (a1) S) fun r2 S1 => if 3 < r2 then (some (0, S1)) else (if a2 = 112 then (b_X7_hasField_23 N (1) (r2) S1) else (b_X7_hasField_23 N (0) (r2) S1))
set_option maxHeartbeats 4000000 in
set_option maxRecDepth 100000 in
theorem c_X7_hasField {l : Launch} {G : Cx} {M S S' : St} {N : Nat} {a1 : Int32} {a2 : Int32} {r : Int32} (hq : z_inj (gq G)) (hf : f_X7_hasField N a1 a2 S = some (r, S')) : z_Ct l yX7_hasField cX7_hasField 4 (some .boolean) 1 22 G S M [.ref (gq G (40)), .int (a1), .int (a2)] (z_QI G S' M r) := by
  refine z_start (by decide +kernel) (Nat.le_of_ble_eq_true rfl) ?_
  intro p e s m below meth c ls E hr hlk hK hP hS hl
  have E : CallFix p m c cX7_hasField 4 s _ lw_good RX7 := E
  have hx := E.1
  have hb := E.2.1
  have hown := E.2.2.2.1
  have hts := E.2.2.2.2
  have hJ23 : ∀ (t0 : Int32) (t1 : Int32) (S : St) (H : Heap) (locs : List Loc) (ls : Array Slot), b_X7_hasField_23 N t0 t1 S = some (r, S') → z_P G S M H → z_S G s.heap H locs → lv_has ls 4 [] → W p l e (z_rm 1 22) s m ([.ref (gq G (40)), .int (a1), .int (a2)] : List Value).toArray below meth c H locs 0 0 (MQ below (z_QI G S' M r) ([.ref (gq G (40)), .int (a1), .int (a2)] : List Value).toArray s 0 0 (z_Aq (gq G))) (F0 m 23 ls [.int (t0), .int (t1)]) := by
    intro t0 t1 S H locs ls hf hP hS hl
    unfold b_X7_hasField_23 at hf
    refine lv_icmp_eq (tgt := 30) hx hb dX7_hasField_23 (by decide) (fun hc6 => ?_) (fun hc6 => ?_)
    · replace hf := z_ifp hf hc6
      refine lv_iconst (v := 0) hx hb dX7_hasField_30 (by decide) ?_
      exact x_retz hx hb hr hlk rfl hf hP hS dX7_hasField_31
    · replace hf := z_ifn hf hc6
      refine lv_iconst (v := 1) hx hb dX7_hasField_26 (by decide) ?_
      refine lv_goto (tgt := 31) hx hb dX7_hasField_27 (by decide) ?_
      exact x_retz hx hb hr hlk rfl hf hP hS dX7_hasField_31
  have hl : lv_has ls 4 [(0, .ref (gq G (40))), (1, .int (a1)), (2, .int (a2))] := hl
  unfold f_X7_hasField at hf
  refine lv_aload_n hx hb dX7_hasField_0 rfl (lv_at hl 0 rfl) ?_
  refine lv_iload_n hx hb dX7_hasField_1 rfl (lv_at hl 1 rfl) ?_
  obtain ⟨r2, S1, hz3, hf⟩ := z_bd_some hf
  refine z_ci (z_runV (o := 40) (ci := 7) E hK hP hS (c_X7_kindOf hq hz3) cv_X7_kindOf tw684 rfl (by decide) rfl rfl ⟨Nat.le_of_ble_eq_true rfl, Nat.le_of_ble_eq_true rfl⟩ ⟨Nat.le_refl 0, Nat.le_refl 0⟩ hl.1 (Nat.le_of_ble_eq_true rfl) rfl dX7_hasField_2) hS (fun H locs hP hS => ?_)
  refine lv_istore_n (lv' := [(3, .int (r2)), (0, .ref (gq G (40))), (1, .int (a1)), (2, .int (a2))]) hx hb dX7_hasField_5 rfl hl (by decide) rfl (fun ls hl => ?_)
  refine lv_iload_n hx hb dX7_hasField_6 rfl (lv_at hl 0 rfl) ?_
  refine lv_iconst (v := 3) hx hb dX7_hasField_7 (by decide) ?_
  refine lv_icmp_gt (tgt := 30) hx hb dX7_hasField_8 (by decide) (fun hc4 => ?_) (fun hc4 => ?_)
  · replace hf := z_ifp hf hc4
    refine lv_iconst (v := 0) hx hb dX7_hasField_30 (by decide) ?_
    exact x_retz hx hb hr hlk rfl hf hP hS dX7_hasField_31
  · replace hf := z_ifn hf hc4
    refine lv_iload_n hx hb dX7_hasField_11 rfl (lv_at hl 0 rfl) ?_
    refine lv_iload_n hx hb dX7_hasField_12 rfl (lv_at hl 3 rfl) ?_
    refine lv_bipush (v := 112) hx hb dX7_hasField_13 (by decide) ?_
    refine lv_icmp_ne (tgt := 22) hx hb dX7_hasField_15 (by decide) (fun hc5 => ?_) (fun hc5 => ?_)
    · replace hf := z_ifn hf hc5
      refine lv_iconst (v := 0) hx hb dX7_hasField_22 (by decide) ?_
      exact hJ23 (0) (r2) S1 _ _ _ hf hP hS (lv_sub hl [] rfl)
    · replace hf := z_ifp hf hc5
      refine lv_iconst (v := 1) hx hb dX7_hasField_18 (by decide) ?_
      refine lv_goto (tgt := 23) hx hb dX7_hasField_19 (by decide) ?_
      exact hJ23 (1) (r2) S1 _ _ _ hf hP hS (lv_sub hl [] rfl)
theorem cv_X7_hasField : z_cv yX7_hasField cX7_hasField 4 (some .boolean) RX7 2 := ⟨⟨tw714, tw715⟩, tw716, tw8, by decide +kernel⟩
def f_X4_findField (N : Nat) (a1 : Int32) (a2 : Int32) (S : St) : Option (St) := z_bd (f_X7_hasField N ((S 29 10)) (a2) S) fun r2 S1 => if r2 = 0 then (z_bv (f_X4_fail N (3) S1) fun S18 => some S18) else (z_bd (f_X5_siteOf N ((z_pr S1)) (a1) S1) fun r6 S5 => z_bd (f_X7_kindOf N ((S5 29 10)) S5) fun r9 S8 => z_bv (f_X0_see N (31) (r6) (r9) S8) fun S11 => z_bd (f_X7_fieldOf N ((S11 29 10)) (a2) S11) fun r14 S13 => z_bv (f_X4_give N (r14) S13) fun S16 => some S16)
set_option maxHeartbeats 4000000 in
set_option maxRecDepth 100000 in
theorem c_X4_findField {l : Launch} {G : Cx} {M S S' : St} {N : Nat} {a1 : Int32} {a2 : Int32} (hq : z_inj (gq G)) (hf : f_X4_findField N a1 a2 S = some S') : z_Ct l yX4_findField cX4_findField 3 none 2 46 G S M [.ref (gq G (29)), .int (a1), .int (a2)] (z_QV G S' M) := by
  refine z_start (by decide +kernel) (Nat.le_of_ble_eq_true rfl) ?_
  intro p e s m below meth c ls E hr hlk hK hP hS hl
  have E : CallFix p m c cX4_findField 3 s _ lw_good RX4 := E
  have hx := E.1
  have hb := E.2.1
  have hown := E.2.2.2.1
  have hts := E.2.2.2.2
  have hl : lv_has ls 3 [(0, .ref (gq G (29))), (1, .int (a1)), (2, .int (a2))] := hl
  unfold f_X4_findField at hf
  refine lv_aload_n hx hb dX4_findField_0 rfl (lv_at hl 0 rfl) ?_
  refine z_getR (C := RX4) (T := TX4) (N := 13) (ci := 4) (k := 4) (o := 29) (t := 40) E hK hP iwX4 rfl rfl (by decide) (by decide) rfl rfl rfl tw230 dX4_findField_1 ?_
  refine lv_aload_n hx hb dX4_findField_4 rfl (lv_at hl 0 rfl) ?_
  refine x_getI (C := RX4) (T := TX4) (N := 13) (ci := 4) (k := 10) (o := 29) E hK hP iwX4 rfl rfl (by decide) (by decide) rfl rfl (by decide) tw236 dX4_findField_5 ?_
  refine lv_iload_n hx hb dX4_findField_8 rfl (lv_at hl 2 rfl) ?_
  obtain ⟨r2, S1, hz3, hf⟩ := z_bd_some hf
  refine z_ci (z_runV (o := 40) (ci := 7) E hK hP hS (c_X7_hasField hq hz3) cv_X7_hasField tw713 rfl (by decide) rfl rfl ⟨Nat.le_of_ble_eq_true rfl, Nat.le_of_ble_eq_true rfl⟩ ⟨Nat.le_refl 0, Nat.le_refl 0⟩ hl.1 (Nat.le_of_ble_eq_true rfl) rfl dX4_findField_9) hS (fun H locs hP hS => ?_)
  refine lv_if_ne (tgt := 21) hx hb dX4_findField_12 (by decide) (fun hc4 => ?_) (fun hc4 => ?_)
  · replace hf := z_ifn hf hc4
    refine lv_aload_n hx hb dX4_findField_21 rfl (lv_at hl 0 rfl) ?_
    refine z_getR (C := RX4) (T := TX4) (N := 13) (ci := 4) (k := 1) (o := 29) (t := 31) E hK hP iwX4 rfl rfl (by decide) (by decide) rfl rfl rfl tw225 dX4_findField_22 ?_
    refine lv_aload_n hx hb dX4_findField_25 rfl (lv_at hl 0 rfl) ?_
    refine z_getR (C := RX4) (T := TX4) (N := 13) (ci := 4) (k := 6) (o := 29) (t := (z_pr S1)) E hK hP iwX4 rfl rfl (by decide) (by decide) rfl rfl z_rf_pr tw232 dX4_findField_26 ?_
    refine lv_iload_n hx hb dX4_findField_29 rfl (lv_at hl 1 rfl) ?_
    obtain ⟨r6, S5, hz7, hf⟩ := z_bd_some hf
    refine z_ci (z_runV (o := (z_pr S1)) (ci := 5) E hK hP hS (c_X5_siteOf hq z_pr_kd z_pr_65 hz7) cv_X5_siteOf tw717 z_pr_kd (by decide) rfl rfl ⟨Nat.le_of_ble_eq_true rfl, Nat.le_of_ble_eq_true rfl⟩ ⟨Nat.le_refl 0, Nat.le_refl 0⟩ hl.1 (Nat.le_of_ble_eq_true rfl) rfl dX4_findField_30) hS (fun H locs hP hS => ?_)
    refine lv_aload_n hx hb dX4_findField_33 rfl (lv_at hl 0 rfl) ?_
    refine z_getR (C := RX4) (T := TX4) (N := 13) (ci := 4) (k := 4) (o := 29) (t := 40) E hK hP iwX4 rfl rfl (by decide) (by decide) rfl rfl rfl tw230 dX4_findField_34 ?_
    refine lv_aload_n hx hb dX4_findField_37 rfl (lv_at hl 0 rfl) ?_
    refine x_getI (C := RX4) (T := TX4) (N := 13) (ci := 4) (k := 10) (o := 29) E hK hP iwX4 rfl rfl (by decide) (by decide) rfl rfl (by decide) tw236 dX4_findField_38 ?_
    obtain ⟨r9, S8, hz10, hf⟩ := z_bd_some hf
    refine z_ci (z_runV (o := 40) (ci := 7) E hK hP hS (c_X7_kindOf hq hz10) cv_X7_kindOf tw721 rfl (by decide) rfl rfl ⟨Nat.le_of_ble_eq_true rfl, Nat.le_of_ble_eq_true rfl⟩ ⟨Nat.le_refl 0, Nat.le_refl 0⟩ hl.1 (Nat.le_of_ble_eq_true rfl) rfl dX4_findField_41) hS (fun H locs hP hS => ?_)
    obtain ⟨S11, hz12, hf⟩ := z_bv_some hf
    refine z_cvo (z_runV (o := 31) (ci := 0) E hK hP hS (c_X0_see hq rfl (by decide) hz12) cv_X0_see tw722 rfl (by decide) rfl rfl ⟨Nat.le_of_ble_eq_true rfl, Nat.le_of_ble_eq_true rfl⟩ ⟨Nat.le_refl 0, Nat.le_refl 0⟩ hl.1 (Nat.le_of_ble_eq_true rfl) rfl dX4_findField_44) hS (fun H locs hP hS => ?_)
    refine lv_aload_n hx hb dX4_findField_47 rfl (lv_at hl 0 rfl) ?_
    refine lv_aload_n hx hb dX4_findField_48 rfl (lv_at hl 0 rfl) ?_
    refine z_getR (C := RX4) (T := TX4) (N := 13) (ci := 4) (k := 4) (o := 29) (t := 40) E hK hP iwX4 rfl rfl (by decide) (by decide) rfl rfl rfl tw230 dX4_findField_49 ?_
    refine lv_aload_n hx hb dX4_findField_52 rfl (lv_at hl 0 rfl) ?_
    refine x_getI (C := RX4) (T := TX4) (N := 13) (ci := 4) (k := 10) (o := 29) E hK hP iwX4 rfl rfl (by decide) (by decide) rfl rfl (by decide) tw236 dX4_findField_53 ?_
    refine lv_iload_n hx hb dX4_findField_56 rfl (lv_at hl 2 rfl) ?_
    obtain ⟨r14, S13, hz15, hf⟩ := z_bd_some hf
    refine z_ci (z_runV (o := 40) (ci := 7) E hK hP hS (c_X7_fieldOf hq hz15) cv_X7_fieldOf tw733 rfl (by decide) rfl rfl ⟨Nat.le_of_ble_eq_true rfl, Nat.le_of_ble_eq_true rfl⟩ ⟨Nat.le_refl 0, Nat.le_refl 0⟩ hl.1 (Nat.le_of_ble_eq_true rfl) rfl dX4_findField_57) hS (fun H locs hP hS => ?_)
    obtain ⟨S16, hz17, hf⟩ := z_bv_some hf
    refine z_cvo (z_runV (o := 29) (ci := 4) E hK hP hS (c_X4_give hq hz17) cv_X4_give tw573 rfl (by decide) rfl rfl ⟨Nat.le_of_ble_eq_true rfl, Nat.le_of_ble_eq_true rfl⟩ ⟨Nat.le_refl 0, Nat.le_refl 0⟩ hl.1 (Nat.le_of_ble_eq_true rfl) rfl dX4_findField_60) hS (fun H locs hP hS => ?_)
    exact x_retv hx hb hr hlk hf hP hS dX4_findField_63
  · replace hf := z_ifp hf hc4
    refine lv_aload_n hx hb dX4_findField_15 rfl (lv_at hl 0 rfl) ?_
    refine lv_iconst (v := 3) hx hb dX4_findField_16 (by decide) ?_
    obtain ⟨S18, hz19, hf⟩ := z_bv_some hf
    refine z_cvo (z_runV (o := 29) (ci := 4) E hK hP hS (c_X4_fail hq hz19) cv_X4_fail tw567 rfl (by decide) rfl rfl ⟨Nat.le_of_ble_eq_true rfl, Nat.le_of_ble_eq_true rfl⟩ ⟨Nat.le_refl 0, Nat.le_refl 0⟩ hl.1 (Nat.le_of_ble_eq_true rfl) rfl dX4_findField_17) hS (fun H locs hP hS => ?_)
    exact x_retv hx hb hr hlk hf hP hS dX4_findField_20
theorem cv_X4_findField : z_cv yX4_findField cX4_findField 3 none RX4 2 := ⟨⟨tw711, twp22⟩, tw712, tw6, by decide +kernel⟩
def f_X4_store (N : Nat) (a1 : Int32) (a2 : Int32) (S : St) : Option (St) := z_bd (f_X1_innermost N (a1) (a2) S) fun r2 S1 => if r2 = (-1) then (z_bd (f_X7_isNumber N ((S1 29 10)) S1) fun r6 S5 => if r6 = 0 then (z_bv (f_X4_fail N (1) S5) fun S9 => some S9) else (z_bv (f_X9_put N (30) (a1) ((S5 29 10)) S5) fun S11 => some S11)) else (z_bv (f_X1_change N (r2) ((S1 29 10)) S1) fun S13 => some S13)
set_option maxHeartbeats 4000000 in
set_option maxRecDepth 100000 in
theorem c_X4_store {l : Launch} {G : Cx} {M S S' : St} {N : Nat} {a1 : Int32} {a2 : Int32} (hq : z_inj (gq G)) (hf : f_X4_store N a1 a2 S = some S') : z_Ct l yX4_store cX4_store 4 none 2 45 G S M [.ref (gq G (29)), .int (a1), .int (a2)] (z_QV G S' M) := by
  refine z_start (by decide +kernel) (Nat.le_of_ble_eq_true rfl) ?_
  intro p e s m below meth c ls E hr hlk hK hP hS hl
  have E : CallFix p m c cX4_store 4 s _ lw_good RX4 := E
  have hx := E.1
  have hb := E.2.1
  have hown := E.2.2.2.1
  have hts := E.2.2.2.2
  have hl : lv_has ls 4 [(0, .ref (gq G (29))), (1, .int (a1)), (2, .int (a2))] := hl
  unfold f_X4_store at hf
  refine lv_aload_n hx hb dX4_store_0 rfl (lv_at hl 0 rfl) ?_
  refine z_getR (C := RX4) (T := TX4) (N := 13) (ci := 4) (k := 3) (o := 29) (t := 36) E hK hP iwX4 rfl rfl (by decide) (by decide) rfl rfl rfl tw229 dX4_store_1 ?_
  refine lv_iload_n hx hb dX4_store_4 rfl (lv_at hl 1 rfl) ?_
  refine lv_iload_n hx hb dX4_store_5 rfl (lv_at hl 2 rfl) ?_
  obtain ⟨r2, S1, hz3, hf⟩ := z_bd_some hf
  refine z_ci (z_runV (o := 36) (ci := 1) E hK hP hS (c_X1_innermost hq hz3) cv_X1_innermost tw586 rfl (by decide) rfl rfl ⟨Nat.le_of_ble_eq_true rfl, Nat.le_of_ble_eq_true rfl⟩ ⟨Nat.le_refl 0, Nat.le_refl 0⟩ hl.1 (Nat.le_of_ble_eq_true rfl) rfl dX4_store_6) hS (fun H locs hP hS => ?_)
  refine lv_istore_n (lv' := [(3, .int (r2)), (0, .ref (gq G (29))), (1, .int (a1)), (2, .int (a2))]) hx hb dX4_store_9 rfl hl (by decide) rfl (fun ls hl => ?_)
  refine lv_iload_n hx hb dX4_store_10 rfl (lv_at hl 0 rfl) ?_
  refine lv_iconst (v := (-1)) hx hb dX4_store_11 (by decide) ?_
  refine lv_icmp_eq (tgt := 30) hx hb dX4_store_12 (by decide) (fun hc4 => ?_) (fun hc4 => ?_)
  · replace hf := z_ifp hf hc4
    refine lv_aload_n hx hb dX4_store_30 rfl (lv_at hl 1 rfl) ?_
    refine x_getI (C := RX4) (T := TX4) (N := 13) (ci := 4) (k := 10) (o := 29) E hK hP iwX4 rfl rfl (by decide) (by decide) rfl rfl (by decide) tw236 dX4_store_31 ?_
    obtain ⟨r6, S5, hz7, hf⟩ := z_bd_some hf
    refine z_ci (z_runS E hK hP hS (c_X7_isNumber hq hz7) cs_X7_isNumber tw651 rfl ⟨Nat.le_of_ble_eq_true rfl, Nat.le_of_ble_eq_true rfl⟩ ⟨Nat.le_refl 0, Nat.le_refl 0⟩ hl.1 (Nat.le_of_ble_eq_true rfl) rfl dX4_store_34) hS (fun H locs hP hS => ?_)
    refine lv_if_eq (tgt := 55) hx hb dX4_store_37 (by decide) (fun hc8 => ?_) (fun hc8 => ?_)
    · replace hf := z_ifp hf hc8
      refine lv_aload_n hx hb dX4_store_55 rfl (lv_at hl 1 rfl) ?_
      refine lv_iconst (v := 1) hx hb dX4_store_56 (by decide) ?_
      obtain ⟨S9, hz10, hf⟩ := z_bv_some hf
      refine z_cvo (z_runV (o := 29) (ci := 4) E hK hP hS (c_X4_fail hq hz10) cv_X4_fail tw567 rfl (by decide) rfl rfl ⟨Nat.le_of_ble_eq_true rfl, Nat.le_of_ble_eq_true rfl⟩ ⟨Nat.le_refl 0, Nat.le_refl 0⟩ hl.1 (Nat.le_of_ble_eq_true rfl) rfl dX4_store_57) hS (fun H locs hP hS => ?_)
      exact x_retv hx hb hr hlk hf hP hS dX4_store_60
    · replace hf := z_ifn hf hc8
      refine lv_aload_n hx hb dX4_store_40 rfl (lv_at hl 1 rfl) ?_
      refine z_getR (C := RX4) (T := TX4) (N := 13) (ci := 4) (k := 0) (o := 29) (t := 30) E hK hP iwX4 rfl rfl (by decide) (by decide) rfl rfl rfl tw222 dX4_store_41 ?_
      refine lv_iload_n hx hb dX4_store_44 rfl (lv_at hl 2 rfl) ?_
      refine lv_aload_n hx hb dX4_store_45 rfl (lv_at hl 1 rfl) ?_
      refine x_getI (C := RX4) (T := TX4) (N := 13) (ci := 4) (k := 10) (o := 29) E hK hP iwX4 rfl rfl (by decide) (by decide) rfl rfl (by decide) tw236 dX4_store_46 ?_
      obtain ⟨S11, hz12, hf⟩ := z_bv_some hf
      refine z_cvo (z_runSN (host := RX9) E hK hP hS (c_X9_put hq rfl (by decide) hz12) cs_X9_put (by decide +kernel) rfl ⟨Nat.le_of_ble_eq_true rfl, Nat.le_of_ble_eq_true rfl⟩ ⟨Nat.le_refl 0, Nat.le_refl 0⟩ hl.1 (Nat.le_of_ble_eq_true rfl) rfl dX4_store_49) hS (fun H locs hP hS => ?_)
      refine lv_goto (tgt := 60) hx hb dX4_store_52 (by decide) ?_
      exact x_retv hx hb hr hlk hf hP hS dX4_store_60
  · replace hf := z_ifn hf hc4
    refine lv_aload_n hx hb dX4_store_15 rfl (lv_at hl 1 rfl) ?_
    refine z_getR (C := RX4) (T := TX4) (N := 13) (ci := 4) (k := 3) (o := 29) (t := 36) E hK hP iwX4 rfl rfl (by decide) (by decide) rfl rfl rfl tw229 dX4_store_16 ?_
    refine lv_iload_n hx hb dX4_store_19 rfl (lv_at hl 0 rfl) ?_
    refine lv_aload_n hx hb dX4_store_20 rfl (lv_at hl 1 rfl) ?_
    refine x_getI (C := RX4) (T := TX4) (N := 13) (ci := 4) (k := 10) (o := 29) E hK hP iwX4 rfl rfl (by decide) (by decide) rfl rfl (by decide) tw236 dX4_store_21 ?_
    obtain ⟨S13, hz14, hf⟩ := z_bv_some hf
    refine z_cvo (z_runV (o := 36) (ci := 1) E hK hP hS (c_X1_change hq hz14) cv_X1_change tw704 rfl (by decide) rfl rfl ⟨Nat.le_of_ble_eq_true rfl, Nat.le_of_ble_eq_true rfl⟩ ⟨Nat.le_refl 0, Nat.le_refl 0⟩ hl.1 (Nat.le_of_ble_eq_true rfl) rfl dX4_store_24) hS (fun H locs hP hS => ?_)
    refine lv_goto (tgt := 60) hx hb dX4_store_27 (by decide) ?_
    exact x_retv hx hb hr hlk hf hP hS dX4_store_60
theorem cv_X4_store : z_cv yX4_store cX4_store 4 none RX4 2 := ⟨⟨tw702, twp21⟩, tw703, tw6, by decide +kernel⟩
def f_X4_useForCall (N : Nat) (a1 : Int32) (a2 : Int32) (S : St) : Option (St) := z_bd (f_X8_stage N S) fun r2 S1 => if r2 = 2 then (z_lt (z_wr S1 29 11 ((S1 29 11) - 1)) fun S18 => some S18) else (z_bd (f_X7_isFunction N ((S1 29 10)) S1) fun r6 S5 => if r6 = 0 then (z_bv (f_X4_fail N (2) S5) fun S16 => some S16) else (z_bv (f_X8_push N (a1) (a2) (1) ((S5 29 10)) S5) fun S9 => z_bd (f_X5_secondOf N ((z_pr S9)) (a1) S9) fun r12 S11 => z_bv (f_X4_begin N (r12) (a2) S11) fun S14 => some S14))
set_option maxHeartbeats 4000000 in
set_option maxRecDepth 100000 in
theorem c_X4_useForCall {l : Launch} {G : Cx} {M S S' : St} {N : Nat} {a1 : Int32} {a2 : Int32} (hq : z_inj (gq G)) (hf : f_X4_useForCall N a1 a2 S = some S') : z_Ct l yX4_useForCall cX4_useForCall 3 none 2 46 G S M [.ref (gq G (29)), .int (a1), .int (a2)] (z_QV G S' M) := by
  refine z_start (by decide +kernel) (Nat.le_of_ble_eq_true rfl) ?_
  intro p e s m below meth c ls E hr hlk hK hP hS hl
  have E : CallFix p m c cX4_useForCall 3 s _ lw_good RX4 := E
  have hx := E.1
  have hb := E.2.1
  have hown := E.2.2.2.1
  have hts := E.2.2.2.2
  have hl : lv_has ls 3 [(0, .ref (gq G (29))), (1, .int (a1)), (2, .int (a2))] := hl
  unfold f_X4_useForCall at hf
  refine lv_aload_n hx hb dX4_useForCall_0 rfl (lv_at hl 0 rfl) ?_
  refine z_getR (C := RX4) (T := TX4) (N := 13) (ci := 4) (k := 5) (o := 29) (t := 44) E hK hP iwX4 rfl rfl (by decide) (by decide) rfl rfl rfl tw231 dX4_useForCall_1 ?_
  obtain ⟨r2, S1, hz3, hf⟩ := z_bd_some hf
  refine z_ci (z_runV (o := 44) (ci := 8) E hK hP hS (c_X8_stage hq hz3) cv_X8_stage tw635 rfl (by decide) rfl rfl ⟨Nat.le_of_ble_eq_true rfl, Nat.le_of_ble_eq_true rfl⟩ ⟨Nat.le_refl 0, Nat.le_refl 0⟩ hl.1 (Nat.le_of_ble_eq_true rfl) rfl dX4_useForCall_4) hS (fun H locs hP hS => ?_)
  refine lv_iconst (v := 2) hx hb dX4_useForCall_7 (by decide) ?_
  refine lv_icmp_ne (tgt := 24) hx hb dX4_useForCall_8 (by decide) (fun hc4 => ?_) (fun hc4 => ?_)
  · replace hf := z_ifn hf hc4
    refine lv_aload_n hx hb dX4_useForCall_24 rfl (lv_at hl 0 rfl) ?_
    refine z_getR (C := RX4) (T := TX4) (N := 13) (ci := 4) (k := 4) (o := 29) (t := 40) E hK hP iwX4 rfl rfl (by decide) (by decide) rfl rfl rfl tw230 dX4_useForCall_25 ?_
    refine lv_aload_n hx hb dX4_useForCall_28 rfl (lv_at hl 0 rfl) ?_
    refine x_getI (C := RX4) (T := TX4) (N := 13) (ci := 4) (k := 10) (o := 29) E hK hP iwX4 rfl rfl (by decide) (by decide) rfl rfl (by decide) tw236 dX4_useForCall_29 ?_
    obtain ⟨r6, S5, hz7, hf⟩ := z_bd_some hf
    refine z_ci (z_runV (o := 40) (ci := 7) E hK hP hS (c_X7_isFunction hq hz7) cv_X7_isFunction tw680 rfl (by decide) rfl rfl ⟨Nat.le_of_ble_eq_true rfl, Nat.le_of_ble_eq_true rfl⟩ ⟨Nat.le_refl 0, Nat.le_refl 0⟩ hl.1 (Nat.le_of_ble_eq_true rfl) rfl dX4_useForCall_32) hS (fun H locs hP hS => ?_)
    refine lv_if_ne (tgt := 46) hx hb dX4_useForCall_35 (by decide) (fun hc8 => ?_) (fun hc8 => ?_)
    · replace hf := z_ifn hf hc8
      refine lv_aload_n hx hb dX4_useForCall_46 rfl (lv_at hl 0 rfl) ?_
      refine z_getR (C := RX4) (T := TX4) (N := 13) (ci := 4) (k := 5) (o := 29) (t := 44) E hK hP iwX4 rfl rfl (by decide) (by decide) rfl rfl rfl tw231 dX4_useForCall_47 ?_
      refine lv_iload_n hx hb dX4_useForCall_50 rfl (lv_at hl 1 rfl) ?_
      refine lv_iload_n hx hb dX4_useForCall_51 rfl (lv_at hl 2 rfl) ?_
      refine lv_iconst (v := 1) hx hb dX4_useForCall_52 (by decide) ?_
      refine lv_aload_n hx hb dX4_useForCall_53 rfl (lv_at hl 0 rfl) ?_
      refine x_getI (C := RX4) (T := TX4) (N := 13) (ci := 4) (k := 10) (o := 29) E hK hP iwX4 rfl rfl (by decide) (by decide) rfl rfl (by decide) tw236 dX4_useForCall_54 ?_
      obtain ⟨S9, hz10, hf⟩ := z_bv_some hf
      refine z_cvo (z_runV (o := 44) (ci := 8) E hK hP hS (c_X8_push hq hz10) cv_X8_push tw601 rfl (by decide) rfl rfl ⟨Nat.le_of_ble_eq_true rfl, Nat.le_of_ble_eq_true rfl⟩ ⟨Nat.le_refl 0, Nat.le_refl 0⟩ hl.1 (Nat.le_of_ble_eq_true rfl) rfl dX4_useForCall_57) hS (fun H locs hP hS => ?_)
      refine lv_aload_n hx hb dX4_useForCall_60 rfl (lv_at hl 0 rfl) ?_
      refine lv_aload_n hx hb dX4_useForCall_61 rfl (lv_at hl 0 rfl) ?_
      refine z_getR (C := RX4) (T := TX4) (N := 13) (ci := 4) (k := 6) (o := 29) (t := (z_pr S9)) E hK hP iwX4 rfl rfl (by decide) (by decide) rfl rfl z_rf_pr tw232 dX4_useForCall_62 ?_
      refine lv_iload_n hx hb dX4_useForCall_65 rfl (lv_at hl 1 rfl) ?_
      obtain ⟨r12, S11, hz13, hf⟩ := z_bd_some hf
      refine z_ci (z_runV (o := (z_pr S9)) (ci := 5) E hK hP hS (c_X5_secondOf hq z_pr_kd z_pr_65 hz13) cv_X5_secondOf tw639 z_pr_kd (by decide) rfl rfl ⟨Nat.le_of_ble_eq_true rfl, Nat.le_of_ble_eq_true rfl⟩ ⟨Nat.le_refl 0, Nat.le_refl 0⟩ hl.1 (Nat.le_of_ble_eq_true rfl) rfl dX4_useForCall_66) hS (fun H locs hP hS => ?_)
      refine lv_iload_n hx hb dX4_useForCall_69 rfl (lv_at hl 2 rfl) ?_
      obtain ⟨S14, hz15, hf⟩ := z_bv_some hf
      refine z_cvo (z_runV (o := 29) (ci := 4) E hK hP hS (c_X4_begin hq hz15) cv_X4_begin tw558 rfl (by decide) rfl rfl ⟨Nat.le_of_ble_eq_true rfl, Nat.le_of_ble_eq_true rfl⟩ ⟨Nat.le_refl 0, Nat.le_refl 0⟩ hl.1 (Nat.le_of_ble_eq_true rfl) rfl dX4_useForCall_70) hS (fun H locs hP hS => ?_)
      exact x_retv hx hb hr hlk hf hP hS dX4_useForCall_73
    · replace hf := z_ifp hf hc8
      refine lv_aload_n hx hb dX4_useForCall_38 rfl (lv_at hl 0 rfl) ?_
      refine lv_iconst (v := 2) hx hb dX4_useForCall_39 (by decide) ?_
      obtain ⟨S16, hz17, hf⟩ := z_bv_some hf
      refine z_cvo (z_runV (o := 29) (ci := 4) E hK hP hS (c_X4_fail hq hz17) cv_X4_fail tw567 rfl (by decide) rfl rfl ⟨Nat.le_of_ble_eq_true rfl, Nat.le_of_ble_eq_true rfl⟩ ⟨Nat.le_refl 0, Nat.le_refl 0⟩ hl.1 (Nat.le_of_ble_eq_true rfl) rfl dX4_useForCall_40) hS (fun H locs hP hS => ?_)
      refine lv_goto (tgt := 73) hx hb dX4_useForCall_43 (by decide) ?_
      exact x_retv hx hb hr hlk hf hP hS dX4_useForCall_73
  · replace hf := z_ifp hf hc4
    refine lv_aload_n hx hb dX4_useForCall_11 rfl (lv_at hl 0 rfl) ?_
    refine lv_dup hx hb dX4_useForCall_12 rfl ?_
    refine x_getI (C := RX4) (T := TX4) (N := 13) (ci := 4) (k := 11) (o := 29) E hK hP iwX4 rfl rfl (by decide) (by decide) rfl rfl (by decide) tw237 dX4_useForCall_13 ?_
    refine lv_iconst (v := 1) hx hb dX4_useForCall_16 (by decide) ?_
    refine lv_isub hx hb dX4_useForCall_17 ?_
    refine x_putI (C := RX4) (T := TX4) (N := 13) (ci := 4) (k := 11) (o := 29) (v := ((S1 29 11) - 1)) (ty := .int) E hK hq hP hS iwX4 tyX4 tyX4_ok nmX4 rfl rfl (by decide) (by decide) rfl rfl (by decide) rfl (tyX4_ok 11 (by decide)) ⟨rfl, rfl⟩ tw237 dX4_useForCall_18 (fun H locs hP hS => ?_)
    obtain ⟨S18, hf, hP⟩ := z_ltX hf hP
    refine lv_goto (tgt := 73) hx hb dX4_useForCall_21 (by decide) ?_
    exact x_retv hx hb hr hlk hf hP hS dX4_useForCall_73
theorem cv_X4_useForCall : z_cv yX4_useForCall cX4_useForCall 3 none RX4 2 := ⟨⟨tw678, twp18⟩, tw679, tw6, by decide +kernel⟩
def b_X4_reckon_14 (N : Nat) (S : St) : Option (St) := z_bv (f_X4_fail N (1) S) fun S11 => some S11
def b_X4_reckon_65 (N : Nat) (S : St) : Option (St) := z_bv (f_X4_fail N (4) S) fun S17 => some S17
def b_X4_reckon_47 (N : Nat) (t0 : Int32) (S : St) : Option (St) := if t0 < (-9999) then (b_X4_reckon_65 N S) else (if t0 ≤ 9999 then (z_bv (f_X4_give N (t0) S) fun S15 => some S15) else (b_X4_reckon_65 N S))
def f_X4_reckon (N : Nat) (a1 : Int32) (a2 : Int32) (a3 : Int32) (S : St) : Option (St) := z_bd (f_X7_isNumber N (a2) S) fun r2 S1 => if r2 = 0 then (b_X4_reckon_14 N S1) else (z_bd (f_X7_isNumber N (a3) S1) fun r6 S5 => if r6 = 0 then (b_X4_reckon_14 N S5) else (if a1 = 43 then (b_X4_reckon_47 N ((a2 + a3)) S5) else (if a1 = 45 then (b_X4_reckon_47 N ((a2 - a3)) S5) else (b_X4_reckon_47 N ((a2 * a3)) S5))))
set_option maxHeartbeats 4000000 in
set_option maxRecDepth 100000 in
theorem c_X4_reckon {l : Launch} {G : Cx} {M S S' : St} {N : Nat} {a1 : Int32} {a2 : Int32} {a3 : Int32} (hq : z_inj (gq G)) (hf : f_X4_reckon N a1 a2 a3 S = some S') : z_Ct l yX4_reckon cX4_reckon 5 none 1 21 G S M [.ref (gq G (29)), .int (a1), .int (a2), .int (a3)] (z_QV G S' M) := by
  refine z_start (by decide +kernel) (Nat.le_of_ble_eq_true rfl) ?_
  intro p e s m below meth c ls E hr hlk hK hP hS hl
  have E : CallFix p m c cX4_reckon 5 s _ lw_good RX4 := E
  have hx := E.1
  have hb := E.2.1
  have hown := E.2.2.2.1
  have hts := E.2.2.2.2
  have hJ14 : ∀ (S : St) (H : Heap) (locs : List Loc) (ls : Array Slot), b_X4_reckon_14 N S = some S' → z_P G S M H → z_S G s.heap H locs → lv_has ls 5 [(0, .ref (gq G (29)))] → W p l e (z_rm 1 21) s m ([.ref (gq G (29)), .int (a1), .int (a2), .int (a3)] : List Value).toArray below meth c H locs 0 0 (MQ below (z_QV G S' M) ([.ref (gq G (29)), .int (a1), .int (a2), .int (a3)] : List Value).toArray s 0 0 (z_Aq (gq G))) (F0 m 14 ls []) := by
    intro S H locs ls hf hP hS hl
    unfold b_X4_reckon_14 at hf
    refine lv_aload_n hx hb dX4_reckon_14 rfl (lv_at hl 0 rfl) ?_
    refine lv_iconst (v := 1) hx hb dX4_reckon_15 (by decide) ?_
    obtain ⟨S11, hz12, hf⟩ := z_bv_some hf
    refine z_cvo (z_runV (o := 29) (ci := 4) E hK hP hS (c_X4_fail hq hz12) cv_X4_fail tw567 rfl (by decide) rfl rfl ⟨Nat.le_of_ble_eq_true rfl, Nat.le_of_ble_eq_true rfl⟩ ⟨Nat.le_refl 0, Nat.le_refl 0⟩ hl.1 (Nat.le_of_ble_eq_true rfl) rfl dX4_reckon_16) hS (fun H locs hP hS => ?_)
    exact x_retv hx hb hr hlk hf hP hS dX4_reckon_19
  have hJ65 : ∀ (S : St) (H : Heap) (locs : List Loc) (ls : Array Slot), b_X4_reckon_65 N S = some S' → z_P G S M H → z_S G s.heap H locs → lv_has ls 5 [(0, .ref (gq G (29)))] → W p l e (z_rm 1 21) s m ([.ref (gq G (29)), .int (a1), .int (a2), .int (a3)] : List Value).toArray below meth c H locs 0 0 (MQ below (z_QV G S' M) ([.ref (gq G (29)), .int (a1), .int (a2), .int (a3)] : List Value).toArray s 0 0 (z_Aq (gq G))) (F0 m 65 ls []) := by
    intro S H locs ls hf hP hS hl
    unfold b_X4_reckon_65 at hf
    refine lv_aload_n hx hb dX4_reckon_65 rfl (lv_at hl 0 rfl) ?_
    refine lv_iconst (v := 4) hx hb dX4_reckon_66 (by decide) ?_
    obtain ⟨S17, hz18, hf⟩ := z_bv_some hf
    refine z_cvo (z_runV (o := 29) (ci := 4) E hK hP hS (c_X4_fail hq hz18) cv_X4_fail tw567 rfl (by decide) rfl rfl ⟨Nat.le_of_ble_eq_true rfl, Nat.le_of_ble_eq_true rfl⟩ ⟨Nat.le_refl 0, Nat.le_refl 0⟩ hl.1 (Nat.le_of_ble_eq_true rfl) rfl dX4_reckon_67) hS (fun H locs hP hS => ?_)
    refine lv_goto (tgt := 79) hx hb dX4_reckon_70 (by decide) ?_
    exact x_retv hx hb hr hlk hf hP hS dX4_reckon_79
  have hJ47 : ∀ (t0 : Int32) (S : St) (H : Heap) (locs : List Loc) (ls : Array Slot), b_X4_reckon_47 N t0 S = some S' → z_P G S M H → z_S G s.heap H locs → lv_has ls 5 [(0, .ref (gq G (29)))] → W p l e (z_rm 1 21) s m ([.ref (gq G (29)), .int (a1), .int (a2), .int (a3)] : List Value).toArray below meth c H locs 0 0 (MQ below (z_QV G S' M) ([.ref (gq G (29)), .int (a1), .int (a2), .int (a3)] : List Value).toArray s 0 0 (z_Aq (gq G))) (F0 m 47 ls [.int (t0)]) := by
    intro t0 S H locs ls hf hP hS hl
    unfold b_X4_reckon_47 at hf
    refine lv_istore (lv' := [(4, .int (t0)), (0, .ref (gq G (29)))]) hx hb dX4_reckon_47 hl (by decide) rfl (fun ls hl => ?_)
    refine lv_iload hx hb dX4_reckon_49 (lv_at hl 0 rfl) ?_
    refine lv_sipush (v := (-9999)) hx hb dX4_reckon_51 (by decide) ?_
    refine lv_icmp_lt (tgt := 65) hx hb dX4_reckon_54 (by decide) (fun hc13 => ?_) (fun hc13 => ?_)
    · replace hf := z_ifp hf hc13
      exact hJ65 S _ _ _ hf hP hS (lv_sub hl [1] rfl)
    · replace hf := z_ifn hf hc13
      refine lv_iload hx hb dX4_reckon_57 (lv_at hl 0 rfl) ?_
      refine lv_sipush (v := 9999) hx hb dX4_reckon_59 (by decide) ?_
      refine lv_icmp_le (tgt := 73) hx hb dX4_reckon_62 (by decide) (fun hc14 => ?_) (fun hc14 => ?_)
      · replace hf := z_ifp hf hc14
        refine lv_aload_n hx hb dX4_reckon_73 rfl (lv_at hl 1 rfl) ?_
        refine lv_iload hx hb dX4_reckon_74 (lv_at hl 0 rfl) ?_
        obtain ⟨S15, hz16, hf⟩ := z_bv_some hf
        refine z_cvo (z_runV (o := 29) (ci := 4) E hK hP hS (c_X4_give hq hz16) cv_X4_give tw573 rfl (by decide) rfl rfl ⟨Nat.le_of_ble_eq_true rfl, Nat.le_of_ble_eq_true rfl⟩ ⟨Nat.le_refl 0, Nat.le_refl 0⟩ hl.1 (Nat.le_of_ble_eq_true rfl) rfl dX4_reckon_76) hS (fun H locs hP hS => ?_)
        exact x_retv hx hb hr hlk hf hP hS dX4_reckon_79
      · replace hf := z_ifn hf hc14
        exact hJ65 S _ _ _ hf hP hS (lv_sub hl [1] rfl)
  have hl : lv_has ls 5 [(0, .ref (gq G (29))), (1, .int (a1)), (2, .int (a2)), (3, .int (a3))] := hl
  unfold f_X4_reckon at hf
  refine lv_iload_n hx hb dX4_reckon_0 rfl (lv_at hl 2 rfl) ?_
  obtain ⟨r2, S1, hz3, hf⟩ := z_bd_some hf
  refine z_ci (z_runS E hK hP hS (c_X7_isNumber hq hz3) cs_X7_isNumber tw651 rfl ⟨Nat.le_of_ble_eq_true rfl, Nat.le_of_ble_eq_true rfl⟩ ⟨Nat.le_refl 0, Nat.le_refl 0⟩ hl.1 (Nat.le_of_ble_eq_true rfl) rfl dX4_reckon_1) hS (fun H locs hP hS => ?_)
  refine lv_if_eq (tgt := 14) hx hb dX4_reckon_4 (by decide) (fun hc4 => ?_) (fun hc4 => ?_)
  · replace hf := z_ifp hf hc4
    exact hJ14 S1 _ _ _ hf hP hS (lv_sub hl [0] rfl)
  · replace hf := z_ifn hf hc4
    refine lv_iload_n hx hb dX4_reckon_7 rfl (lv_at hl 3 rfl) ?_
    obtain ⟨r6, S5, hz7, hf⟩ := z_bd_some hf
    refine z_ci (z_runS E hK hP hS (c_X7_isNumber hq hz7) cs_X7_isNumber tw651 rfl ⟨Nat.le_of_ble_eq_true rfl, Nat.le_of_ble_eq_true rfl⟩ ⟨Nat.le_refl 0, Nat.le_refl 0⟩ hl.1 (Nat.le_of_ble_eq_true rfl) rfl dX4_reckon_8) hS (fun H locs hP hS => ?_)
    refine lv_if_ne (tgt := 20) hx hb dX4_reckon_11 (by decide) (fun hc8 => ?_) (fun hc8 => ?_)
    · replace hf := z_ifn hf hc8
      refine lv_iload_n hx hb dX4_reckon_20 rfl (lv_at hl 1 rfl) ?_
      refine lv_bipush (v := 43) hx hb dX4_reckon_21 (by decide) ?_
      refine lv_icmp_ne (tgt := 32) hx hb dX4_reckon_23 (by decide) (fun hc9 => ?_) (fun hc9 => ?_)
      · replace hf := z_ifn hf hc9
        refine lv_iload_n hx hb dX4_reckon_32 rfl (lv_at hl 1 rfl) ?_
        refine lv_bipush (v := 45) hx hb dX4_reckon_33 (by decide) ?_
        refine lv_icmp_ne (tgt := 44) hx hb dX4_reckon_35 (by decide) (fun hc10 => ?_) (fun hc10 => ?_)
        · replace hf := z_ifn hf hc10
          refine lv_iload_n hx hb dX4_reckon_44 rfl (lv_at hl 2 rfl) ?_
          refine lv_iload_n hx hb dX4_reckon_45 rfl (lv_at hl 3 rfl) ?_
          refine lv_imul hx hb dX4_reckon_46 ?_
          exact hJ47 ((a2 * a3)) S5 _ _ _ hf hP hS (lv_sub hl [0] rfl)
        · replace hf := z_ifp hf hc10
          refine lv_iload_n hx hb dX4_reckon_38 rfl (lv_at hl 2 rfl) ?_
          refine lv_iload_n hx hb dX4_reckon_39 rfl (lv_at hl 3 rfl) ?_
          refine lv_isub hx hb dX4_reckon_40 ?_
          refine lv_goto (tgt := 47) hx hb dX4_reckon_41 (by decide) ?_
          exact hJ47 ((a2 - a3)) S5 _ _ _ hf hP hS (lv_sub hl [0] rfl)
      · replace hf := z_ifp hf hc9
        refine lv_iload_n hx hb dX4_reckon_26 rfl (lv_at hl 2 rfl) ?_
        refine lv_iload_n hx hb dX4_reckon_27 rfl (lv_at hl 3 rfl) ?_
        refine lv_iadd hx hb dX4_reckon_28 ?_
        refine lv_goto (tgt := 47) hx hb dX4_reckon_29 (by decide) ?_
        exact hJ47 ((a2 + a3)) S5 _ _ _ hf hP hS (lv_sub hl [0] rfl)
    · replace hf := z_ifp hf hc8
      exact hJ14 S5 _ _ _ hf hP hS (lv_sub hl [0] rfl)
theorem cv_X4_reckon : z_cv yX4_reckon cX4_reckon 5 none RX4 3 := ⟨⟨tw649, twp16⟩, tw650, tw6, by decide +kernel⟩
def f_X8_first (N : Nat) (S : St) : Option (Int32 × St) := z_bd (f_X9_at N (48) ((S 44 4)) S) fun r2 S1 => some (r2, S1)
set_option maxHeartbeats 4000000 in
set_option maxRecDepth 100000 in
theorem c_X8_first {l : Launch} {G : Cx} {M S S' : St} {N : Nat} {r : Int32} (hq : z_inj (gq G)) (hf : f_X8_first N S = some (r, S')) : z_Ct l yX8_first cX8_first 1 (some .int) 1 21 G S M [.ref (gq G (44))] (z_QI G S' M r) := by
  refine z_start (by decide +kernel) (Nat.le_of_ble_eq_true rfl) ?_
  intro p e s m below meth c ls E hr hlk hK hP hS hl
  have E : CallFix p m c cX8_first 1 s _ lw_good RX8 := E
  have hx := E.1
  have hb := E.2.1
  have hown := E.2.2.2.1
  have hts := E.2.2.2.2
  have hl : lv_has ls 1 [(0, .ref (gq G (44)))] := hl
  unfold f_X8_first at hf
  refine lv_aload_n hx hb dX8_first_0 rfl (lv_at hl 0 rfl) ?_
  refine z_getR (C := RX8) (T := TX8) (N := 5) (ci := 8) (k := 3) (o := 44) (t := 48) E hK hP iwX8 rfl rfl (by decide) (by decide) rfl rfl rfl tw207 dX8_first_1 ?_
  refine lv_aload_n hx hb dX8_first_4 rfl (lv_at hl 0 rfl) ?_
  refine x_getI (C := RX8) (T := TX8) (N := 5) (ci := 8) (k := 4) (o := 44) E hK hP iwX8 rfl rfl (by decide) (by decide) rfl rfl (by decide) tw208 dX8_first_5 ?_
  obtain ⟨r2, S1, hz3, hf⟩ := z_bd_some hf
  refine z_ci (z_runSN (host := RX9) E hK hP hS (c_X9_at hq rfl (by decide) hz3) cs_X9_at (by decide +kernel) rfl ⟨Nat.le_of_ble_eq_true rfl, Nat.le_of_ble_eq_true rfl⟩ ⟨Nat.le_refl 0, Nat.le_refl 0⟩ hl.1 (Nat.le_of_ble_eq_true rfl) rfl dX8_first_8) hS (fun H locs hP hS => ?_)
  exact x_reti hx hb hr hlk hf hP hS dX8_first_11
theorem cv_X8_first : z_cv yX8_first cX8_first 1 (some .int) RX8 0 := ⟨⟨tw644, tw645⟩, tw646, tw9, by decide +kernel⟩
def f_X4_useOneOfTwo (N : Nat) (a1 : Int32) (a2 : Int32) (a3 : Int32) (S : St) : Option (St) := z_bd (f_X8_stage N S) fun r2 S1 => if r2 = 0 then (z_bv (f_X8_push N (a1) (a2) (1) ((S1 29 10)) S1) fun S22 => z_bd (f_X5_secondOf N ((z_pr S22)) (a1) S22) fun r25 S24 => z_bv (f_X4_begin N (r25) (a2) S24) fun S27 => some S27) else (z_bd (f_X8_first N S1) fun r6 S5 => if a3 = 66 then (z_bd (f_X7_add N (2) (r6) ((S5 29 10)) S5) fun r18 S17 => z_bv (f_X4_give N (r18) S17) fun S20 => some S20) else (if a3 = 67 then (z_bd (f_X7_add N (3) ((S5 29 10)) (r6) S5) fun r13 S12 => z_bv (f_X4_give N (r13) S12) fun S15 => some S15) else (z_bv (f_X4_reckon N (a3) (r6) ((S5 29 10)) S5) fun S10 => some S10)))
set_option maxHeartbeats 4000000 in
set_option maxRecDepth 100000 in
theorem c_X4_useOneOfTwo {l : Launch} {G : Cx} {M S S' : St} {N : Nat} {a1 : Int32} {a2 : Int32} {a3 : Int32} (hq : z_inj (gq G)) (hf : f_X4_useOneOfTwo N a1 a2 a3 S = some S') : z_Ct l yX4_useOneOfTwo cX4_useOneOfTwo 5 none 2 46 G S M [.ref (gq G (29)), .int (a1), .int (a2), .int (a3)] (z_QV G S' M) := by
  refine z_start (by decide +kernel) (Nat.le_of_ble_eq_true rfl) ?_
  intro p e s m below meth c ls E hr hlk hK hP hS hl
  have E : CallFix p m c cX4_useOneOfTwo 5 s _ lw_good RX4 := E
  have hx := E.1
  have hb := E.2.1
  have hown := E.2.2.2.1
  have hts := E.2.2.2.2
  have hl : lv_has ls 5 [(0, .ref (gq G (29))), (1, .int (a1)), (2, .int (a2)), (3, .int (a3))] := hl
  unfold f_X4_useOneOfTwo at hf
  refine lv_aload_n hx hb dX4_useOneOfTwo_0 rfl (lv_at hl 0 rfl) ?_
  refine z_getR (C := RX4) (T := TX4) (N := 13) (ci := 4) (k := 5) (o := 29) (t := 44) E hK hP iwX4 rfl rfl (by decide) (by decide) rfl rfl rfl tw231 dX4_useOneOfTwo_1 ?_
  obtain ⟨r2, S1, hz3, hf⟩ := z_bd_some hf
  refine z_ci (z_runV (o := 44) (ci := 8) E hK hP hS (c_X8_stage hq hz3) cv_X8_stage tw635 rfl (by decide) rfl rfl ⟨Nat.le_of_ble_eq_true rfl, Nat.le_of_ble_eq_true rfl⟩ ⟨Nat.le_refl 0, Nat.le_refl 0⟩ hl.1 (Nat.le_of_ble_eq_true rfl) rfl dX4_useOneOfTwo_4) hS (fun H locs hP hS => ?_)
  refine lv_if_ne (tgt := 38) hx hb dX4_useOneOfTwo_7 (by decide) (fun hc4 => ?_) (fun hc4 => ?_)
  · replace hf := z_ifn hf hc4
    refine lv_aload_n hx hb dX4_useOneOfTwo_38 rfl (lv_at hl 0 rfl) ?_
    refine z_getR (C := RX4) (T := TX4) (N := 13) (ci := 4) (k := 5) (o := 29) (t := 44) E hK hP iwX4 rfl rfl (by decide) (by decide) rfl rfl rfl tw231 dX4_useOneOfTwo_39 ?_
    obtain ⟨r6, S5, hz7, hf⟩ := z_bd_some hf
    refine z_ci (z_runV (o := 44) (ci := 8) E hK hP hS (c_X8_first hq hz7) cv_X8_first tw643 rfl (by decide) rfl rfl ⟨Nat.le_of_ble_eq_true rfl, Nat.le_of_ble_eq_true rfl⟩ ⟨Nat.le_refl 0, Nat.le_refl 0⟩ hl.1 (Nat.le_of_ble_eq_true rfl) rfl dX4_useOneOfTwo_42) hS (fun H locs hP hS => ?_)
    refine lv_istore (lv' := [(4, .int (r6)), (0, .ref (gq G (29))), (1, .int (a1)), (2, .int (a2)), (3, .int (a3))]) hx hb dX4_useOneOfTwo_45 hl (by decide) rfl (fun ls hl => ?_)
    refine lv_iload_n hx hb dX4_useOneOfTwo_47 rfl (lv_at hl 4 rfl) ?_
    refine lv_bipush (v := 66) hx hb dX4_useOneOfTwo_48 (by decide) ?_
    refine lv_icmp_ne (tgt := 74) hx hb dX4_useOneOfTwo_50 (by decide) (fun hc8 => ?_) (fun hc8 => ?_)
    · replace hf := z_ifn hf hc8
      refine lv_iload_n hx hb dX4_useOneOfTwo_74 rfl (lv_at hl 4 rfl) ?_
      refine lv_bipush (v := 67) hx hb dX4_useOneOfTwo_75 (by decide) ?_
      refine lv_icmp_ne (tgt := 101) hx hb dX4_useOneOfTwo_77 (by decide) (fun hc9 => ?_) (fun hc9 => ?_)
      · replace hf := z_ifn hf hc9
        refine lv_aload_n hx hb dX4_useOneOfTwo_101 rfl (lv_at hl 1 rfl) ?_
        refine lv_iload_n hx hb dX4_useOneOfTwo_102 rfl (lv_at hl 4 rfl) ?_
        refine lv_iload hx hb dX4_useOneOfTwo_103 (lv_at hl 0 rfl) ?_
        refine lv_aload_n hx hb dX4_useOneOfTwo_105 rfl (lv_at hl 1 rfl) ?_
        refine x_getI (C := RX4) (T := TX4) (N := 13) (ci := 4) (k := 10) (o := 29) E hK hP iwX4 rfl rfl (by decide) (by decide) rfl rfl (by decide) tw236 dX4_useOneOfTwo_106 ?_
        obtain ⟨S10, hz11, hf⟩ := z_bv_some hf
        refine z_cvo (z_runV (o := 29) (ci := 4) E hK hP hS (c_X4_reckon hq hz11) cv_X4_reckon tw647 rfl (by decide) rfl rfl ⟨Nat.le_of_ble_eq_true rfl, Nat.le_of_ble_eq_true rfl⟩ ⟨Nat.le_refl 0, Nat.le_refl 0⟩ hl.1 (Nat.le_of_ble_eq_true rfl) rfl dX4_useOneOfTwo_109) hS (fun H locs hP hS => ?_)
        exact x_retv hx hb hr hlk hf hP hS dX4_useOneOfTwo_112
      · replace hf := z_ifp hf hc9
        refine lv_aload_n hx hb dX4_useOneOfTwo_80 rfl (lv_at hl 1 rfl) ?_
        refine lv_aload_n hx hb dX4_useOneOfTwo_81 rfl (lv_at hl 1 rfl) ?_
        refine z_getR (C := RX4) (T := TX4) (N := 13) (ci := 4) (k := 4) (o := 29) (t := 40) E hK hP iwX4 rfl rfl (by decide) (by decide) rfl rfl rfl tw230 dX4_useOneOfTwo_82 ?_
        refine lv_iconst (v := 3) hx hb dX4_useOneOfTwo_85 (by decide) ?_
        refine lv_aload_n hx hb dX4_useOneOfTwo_86 rfl (lv_at hl 1 rfl) ?_
        refine x_getI (C := RX4) (T := TX4) (N := 13) (ci := 4) (k := 10) (o := 29) E hK hP iwX4 rfl rfl (by decide) (by decide) rfl rfl (by decide) tw236 dX4_useOneOfTwo_87 ?_
        refine lv_iload hx hb dX4_useOneOfTwo_90 (lv_at hl 0 rfl) ?_
        obtain ⟨r13, S12, hz14, hf⟩ := z_bd_some hf
        refine z_ci (z_runV (o := 40) (ci := 7) E hK hP hS (c_X7_add hq hz14) cv_X7_add tw596 rfl (by decide) rfl rfl ⟨Nat.le_of_ble_eq_true rfl, Nat.le_of_ble_eq_true rfl⟩ ⟨Nat.le_refl 0, Nat.le_refl 0⟩ hl.1 (Nat.le_of_ble_eq_true rfl) rfl dX4_useOneOfTwo_92) hS (fun H locs hP hS => ?_)
        obtain ⟨S15, hz16, hf⟩ := z_bv_some hf
        refine z_cvo (z_runV (o := 29) (ci := 4) E hK hP hS (c_X4_give hq hz16) cv_X4_give tw573 rfl (by decide) rfl rfl ⟨Nat.le_of_ble_eq_true rfl, Nat.le_of_ble_eq_true rfl⟩ ⟨Nat.le_refl 0, Nat.le_refl 0⟩ hl.1 (Nat.le_of_ble_eq_true rfl) rfl dX4_useOneOfTwo_95) hS (fun H locs hP hS => ?_)
        refine lv_goto (tgt := 112) hx hb dX4_useOneOfTwo_98 (by decide) ?_
        exact x_retv hx hb hr hlk hf hP hS dX4_useOneOfTwo_112
    · replace hf := z_ifp hf hc8
      refine lv_aload_n hx hb dX4_useOneOfTwo_53 rfl (lv_at hl 1 rfl) ?_
      refine lv_aload_n hx hb dX4_useOneOfTwo_54 rfl (lv_at hl 1 rfl) ?_
      refine z_getR (C := RX4) (T := TX4) (N := 13) (ci := 4) (k := 4) (o := 29) (t := 40) E hK hP iwX4 rfl rfl (by decide) (by decide) rfl rfl rfl tw230 dX4_useOneOfTwo_55 ?_
      refine lv_iconst (v := 2) hx hb dX4_useOneOfTwo_58 (by decide) ?_
      refine lv_iload hx hb dX4_useOneOfTwo_59 (lv_at hl 0 rfl) ?_
      refine lv_aload_n hx hb dX4_useOneOfTwo_61 rfl (lv_at hl 1 rfl) ?_
      refine x_getI (C := RX4) (T := TX4) (N := 13) (ci := 4) (k := 10) (o := 29) E hK hP iwX4 rfl rfl (by decide) (by decide) rfl rfl (by decide) tw236 dX4_useOneOfTwo_62 ?_
      obtain ⟨r18, S17, hz19, hf⟩ := z_bd_some hf
      refine z_ci (z_runV (o := 40) (ci := 7) E hK hP hS (c_X7_add hq hz19) cv_X7_add tw596 rfl (by decide) rfl rfl ⟨Nat.le_of_ble_eq_true rfl, Nat.le_of_ble_eq_true rfl⟩ ⟨Nat.le_refl 0, Nat.le_refl 0⟩ hl.1 (Nat.le_of_ble_eq_true rfl) rfl dX4_useOneOfTwo_65) hS (fun H locs hP hS => ?_)
      obtain ⟨S20, hz21, hf⟩ := z_bv_some hf
      refine z_cvo (z_runV (o := 29) (ci := 4) E hK hP hS (c_X4_give hq hz21) cv_X4_give tw573 rfl (by decide) rfl rfl ⟨Nat.le_of_ble_eq_true rfl, Nat.le_of_ble_eq_true rfl⟩ ⟨Nat.le_refl 0, Nat.le_refl 0⟩ hl.1 (Nat.le_of_ble_eq_true rfl) rfl dX4_useOneOfTwo_68) hS (fun H locs hP hS => ?_)
      refine lv_goto (tgt := 112) hx hb dX4_useOneOfTwo_71 (by decide) ?_
      exact x_retv hx hb hr hlk hf hP hS dX4_useOneOfTwo_112
  · replace hf := z_ifp hf hc4
    refine lv_aload_n hx hb dX4_useOneOfTwo_10 rfl (lv_at hl 0 rfl) ?_
    refine z_getR (C := RX4) (T := TX4) (N := 13) (ci := 4) (k := 5) (o := 29) (t := 44) E hK hP iwX4 rfl rfl (by decide) (by decide) rfl rfl rfl tw231 dX4_useOneOfTwo_11 ?_
    refine lv_iload_n hx hb dX4_useOneOfTwo_14 rfl (lv_at hl 1 rfl) ?_
    refine lv_iload_n hx hb dX4_useOneOfTwo_15 rfl (lv_at hl 2 rfl) ?_
    refine lv_iconst (v := 1) hx hb dX4_useOneOfTwo_16 (by decide) ?_
    refine lv_aload_n hx hb dX4_useOneOfTwo_17 rfl (lv_at hl 0 rfl) ?_
    refine x_getI (C := RX4) (T := TX4) (N := 13) (ci := 4) (k := 10) (o := 29) E hK hP iwX4 rfl rfl (by decide) (by decide) rfl rfl (by decide) tw236 dX4_useOneOfTwo_18 ?_
    obtain ⟨S22, hz23, hf⟩ := z_bv_some hf
    refine z_cvo (z_runV (o := 44) (ci := 8) E hK hP hS (c_X8_push hq hz23) cv_X8_push tw601 rfl (by decide) rfl rfl ⟨Nat.le_of_ble_eq_true rfl, Nat.le_of_ble_eq_true rfl⟩ ⟨Nat.le_refl 0, Nat.le_refl 0⟩ hl.1 (Nat.le_of_ble_eq_true rfl) rfl dX4_useOneOfTwo_21) hS (fun H locs hP hS => ?_)
    refine lv_aload_n hx hb dX4_useOneOfTwo_24 rfl (lv_at hl 0 rfl) ?_
    refine lv_aload_n hx hb dX4_useOneOfTwo_25 rfl (lv_at hl 0 rfl) ?_
    refine z_getR (C := RX4) (T := TX4) (N := 13) (ci := 4) (k := 6) (o := 29) (t := (z_pr S22)) E hK hP iwX4 rfl rfl (by decide) (by decide) rfl rfl z_rf_pr tw232 dX4_useOneOfTwo_26 ?_
    refine lv_iload_n hx hb dX4_useOneOfTwo_29 rfl (lv_at hl 1 rfl) ?_
    obtain ⟨r25, S24, hz26, hf⟩ := z_bd_some hf
    refine z_ci (z_runV (o := (z_pr S22)) (ci := 5) E hK hP hS (c_X5_secondOf hq z_pr_kd z_pr_65 hz26) cv_X5_secondOf tw639 z_pr_kd (by decide) rfl rfl ⟨Nat.le_of_ble_eq_true rfl, Nat.le_of_ble_eq_true rfl⟩ ⟨Nat.le_refl 0, Nat.le_refl 0⟩ hl.1 (Nat.le_of_ble_eq_true rfl) rfl dX4_useOneOfTwo_30) hS (fun H locs hP hS => ?_)
    refine lv_iload_n hx hb dX4_useOneOfTwo_33 rfl (lv_at hl 2 rfl) ?_
    obtain ⟨S27, hz28, hf⟩ := z_bv_some hf
    refine z_cvo (z_runV (o := 29) (ci := 4) E hK hP hS (c_X4_begin hq hz28) cv_X4_begin tw558 rfl (by decide) rfl rfl ⟨Nat.le_of_ble_eq_true rfl, Nat.le_of_ble_eq_true rfl⟩ ⟨Nat.le_refl 0, Nat.le_refl 0⟩ hl.1 (Nat.le_of_ble_eq_true rfl) rfl dX4_useOneOfTwo_34) hS (fun H locs hP hS => ?_)
    exact x_retv hx hb hr hlk hf hP hS dX4_useOneOfTwo_37
theorem cv_X4_useOneOfTwo : z_cv yX4_useOneOfTwo cX4_useOneOfTwo 5 none RX4 3 := ⟨⟨tw633, twp15⟩, tw634, tw6, by decide +kernel⟩
def b_X4_useValue_180 (N : Nat) (v1 : Int32) (v2 : Int32) (v3 : Int32) (S : St) : Option (St) := z_bv (f_X4_useOneOfTwo N (v1) (v2) (v3) S) fun S69 => some S69
def b_X4_useValue_320 (N : Nat) (v1 : Int32) (v3 : Int32) (S : St) : Option (St) := z_bv (f_X4_findField N (v1) (v3) S) fun S71 => some S71
def f_X4_useValue (N : Nat) (S : St) : Option (St) := z_bd (f_X8_isEmpty N S) fun r2 S1 => if r2 = 0 then (z_bv (f_X8_pop N S1) fun S5 => z_bd (f_X8_expression N S5) fun r8 S7 => z_bd (f_X8_frame N S7) fun r11 S10 => z_bd (f_X5_signOf N ((z_pr S10)) (r8) S10) fun r14 S13 => if r14 = 42 then (b_X4_useValue_180 N (r8) (r11) (r14) S13) else (if r14 = 43 then (b_X4_useValue_180 N (r8) (r11) (r14) S13) else (if r14 = 44 then (z_bd (f_X5_secondOf N ((z_pr S13)) (r8) S13) fun r20 S19 => z_bv (f_X4_begin N (r20) (r11) S19) fun S22 => some S22) else (if r14 = 45 then (b_X4_useValue_180 N (r8) (r11) (r14) S13) else (if r14 = 63 then (z_bv (f_X4_choose N (r8) (r11) S13) fun S26 => some S26) else (if r14 = 64 then (z_bd (f_X8_stage N S13) fun r30 S29 => if r30 = 1 then (z_bd (f_X8_first N S29) fun r36 S35 => z_bv (f_X4_call N (r8) (r11) (r36) S35) fun S38 => some S38) else (z_bv (f_X4_useForCall N (r8) (r11) S29) fun S33 => some S33)) else (if r14 = 66 then (b_X4_useValue_180 N (r8) (r11) (r14) S13) else (if r14 = 67 then (b_X4_useValue_180 N (r8) (r11) (r14) S13) else (if r14 = 76 then (z_bv (f_X4_beginSecondWithCell N (r8) (r11) ((S13 29 10)) S13) fun S43 => some S43) else (if r14 = 80 then (z_bd (f_X7_add N (0) ((S13 29 10)) (0) S13) fun r47 S46 => z_bv (f_X4_give N (r47) S46) fun S49 => some S49) else (if r14 = 81 then (z_bd (f_X7_add N (1) (0) ((S13 29 10)) S13) fun r53 S52 => z_bv (f_X4_give N (r53) S52) fun S55 => some S55) else (if r14 = 83 then (z_bd (f_X5_variableOf N ((z_pr S13)) (r8) S13) fun r59 S58 => z_bv (f_X4_store N (r59) (r11) S58) fun S61 => some S61) else (if r14 = 88 then (z_bv (f_X4_failAsTold N S13) fun S64 => some S64) else (if r14 = 112 then (b_X4_useValue_320 N (r8) (r14) S13) else (if r14 = 113 then (b_X4_useValue_320 N (r8) (r14) S13) else (some S13)))))))))))))))) else (z_lt (z_wr S1 29 7 3) fun S68 => some S68)
set_option maxHeartbeats 4000000 in
set_option maxRecDepth 100000 in
theorem c_X4_useValue {l : Launch} {G : Cx} {M S S' : St} {N : Nat} (hq : z_inj (gq G)) (hf : f_X4_useValue N S = some S') : z_Ct l yX4_useValue cX4_useValue 4 none 3 71 G S M [.ref (gq G (29))] (z_QV G S' M) := by
  refine z_start (by decide +kernel) (Nat.le_of_ble_eq_true rfl) ?_
  intro p e s m below meth c ls E hr hlk hK hP hS hl
  have E : CallFix p m c cX4_useValue 4 s _ lw_good RX4 := E
  have hx := E.1
  have hb := E.2.1
  have hown := E.2.2.2.1
  have hts := E.2.2.2.2
  have hJ180 : ∀ (v1 : Int32) (v2 : Int32) (v3 : Int32) (S : St) (H : Heap) (locs : List Loc) (ls : Array Slot), b_X4_useValue_180 N v1 v2 v3 S = some S' → z_P G S M H → z_S G s.heap H locs → lv_has ls 4 [(0, .ref (gq G (29))), (1, .int (v1)), (2, .int (v2)), (3, .int (v3))] → W p l e (z_rm 3 71) s m ([.ref (gq G (29))] : List Value).toArray below meth c H locs 0 0 (MQ below (z_QV G S' M) ([.ref (gq G (29))] : List Value).toArray s 0 0 (z_Aq (gq G))) (F0 m 180 ls []) := by
    intro v1 v2 v3 S H locs ls hf hP hS hl
    unfold b_X4_useValue_180 at hf
    refine lv_aload_n hx hb dX4_useValue_180 rfl (lv_at hl 0 rfl) ?_
    refine lv_iload_n hx hb dX4_useValue_181 rfl (lv_at hl 1 rfl) ?_
    refine lv_iload_n hx hb dX4_useValue_182 rfl (lv_at hl 2 rfl) ?_
    refine lv_iload_n hx hb dX4_useValue_183 rfl (lv_at hl 3 rfl) ?_
    obtain ⟨S69, hz70, hf⟩ := z_bv_some hf
    refine z_cvo (z_runV (o := 29) (ci := 4) E hK hP hS (c_X4_useOneOfTwo hq hz70) cv_X4_useOneOfTwo tw631 rfl (by decide) rfl rfl ⟨Nat.le_of_ble_eq_true rfl, Nat.le_of_ble_eq_true rfl⟩ ⟨Nat.le_refl 0, Nat.le_refl 0⟩ hl.1 (Nat.le_of_ble_eq_true rfl) rfl dX4_useValue_184) hS (fun H locs hP hS => ?_)
    refine lv_goto (tgt := 336) hx hb dX4_useValue_187 (by decide) ?_
    exact x_retv hx hb hr hlk hf hP hS dX4_useValue_336
  have hJ320 : ∀ (v1 : Int32) (v3 : Int32) (S : St) (H : Heap) (locs : List Loc) (ls : Array Slot), b_X4_useValue_320 N v1 v3 S = some S' → z_P G S M H → z_S G s.heap H locs → lv_has ls 4 [(0, .ref (gq G (29))), (1, .int (v1)), (3, .int (v3))] → W p l e (z_rm 3 71) s m ([.ref (gq G (29))] : List Value).toArray below meth c H locs 0 0 (MQ below (z_QV G S' M) ([.ref (gq G (29))] : List Value).toArray s 0 0 (z_Aq (gq G))) (F0 m 320 ls []) := by
    intro v1 v3 S H locs ls hf hP hS hl
    unfold b_X4_useValue_320 at hf
    refine lv_aload_n hx hb dX4_useValue_320 rfl (lv_at hl 0 rfl) ?_
    refine lv_iload_n hx hb dX4_useValue_321 rfl (lv_at hl 1 rfl) ?_
    refine lv_iload_n hx hb dX4_useValue_322 rfl (lv_at hl 2 rfl) ?_
    obtain ⟨S71, hz72, hf⟩ := z_bv_some hf
    refine z_cvo (z_runV (o := 29) (ci := 4) E hK hP hS (c_X4_findField hq hz72) cv_X4_findField tw709 rfl (by decide) rfl rfl ⟨Nat.le_of_ble_eq_true rfl, Nat.le_of_ble_eq_true rfl⟩ ⟨Nat.le_refl 0, Nat.le_refl 0⟩ hl.1 (Nat.le_of_ble_eq_true rfl) rfl dX4_useValue_323) hS (fun H locs hP hS => ?_)
    refine lv_goto (tgt := 336) hx hb dX4_useValue_326 (by decide) ?_
    exact x_retv hx hb hr hlk hf hP hS dX4_useValue_336
  have hl : lv_has ls 4 [(0, .ref (gq G (29)))] := hl
  unfold f_X4_useValue at hf
  refine lv_aload_n hx hb dX4_useValue_0 rfl (lv_at hl 0 rfl) ?_
  refine z_getR (C := RX4) (T := TX4) (N := 13) (ci := 4) (k := 5) (o := 29) (t := 44) E hK hP iwX4 rfl rfl (by decide) (by decide) rfl rfl rfl tw231 dX4_useValue_1 ?_
  obtain ⟨r2, S1, hz3, hf⟩ := z_bd_some hf
  refine z_ci (z_runV (o := 44) (ci := 8) E hK hP hS (c_X8_isEmpty hq hz3) cv_X8_isEmpty tw614 rfl (by decide) rfl rfl ⟨Nat.le_of_ble_eq_true rfl, Nat.le_of_ble_eq_true rfl⟩ ⟨Nat.le_refl 0, Nat.le_refl 0⟩ hl.1 (Nat.le_of_ble_eq_true rfl) rfl dX4_useValue_4) hS (fun H locs hP hS => ?_)
  refine lv_if_eq (tgt := 16) hx hb dX4_useValue_7 (by decide) (fun hc4 => ?_) (fun hc4 => ?_)
  · replace hf := z_ifp hf hc4
    refine lv_aload_n hx hb dX4_useValue_16 rfl (lv_at hl 0 rfl) ?_
    refine z_getR (C := RX4) (T := TX4) (N := 13) (ci := 4) (k := 5) (o := 29) (t := 44) E hK hP iwX4 rfl rfl (by decide) (by decide) rfl rfl rfl tw231 dX4_useValue_17 ?_
    obtain ⟨S5, hz6, hf⟩ := z_bv_some hf
    refine z_cvo (z_runV (o := 44) (ci := 8) E hK hP hS (c_X8_pop hq hz6) cv_X8_pop tw618 rfl (by decide) rfl rfl ⟨Nat.le_of_ble_eq_true rfl, Nat.le_of_ble_eq_true rfl⟩ ⟨Nat.le_refl 0, Nat.le_refl 0⟩ hl.1 (Nat.le_of_ble_eq_true rfl) rfl dX4_useValue_20) hS (fun H locs hP hS => ?_)
    refine lv_aload_n hx hb dX4_useValue_23 rfl (lv_at hl 0 rfl) ?_
    refine z_getR (C := RX4) (T := TX4) (N := 13) (ci := 4) (k := 5) (o := 29) (t := 44) E hK hP iwX4 rfl rfl (by decide) (by decide) rfl rfl rfl tw231 dX4_useValue_24 ?_
    obtain ⟨r8, S7, hz9, hf⟩ := z_bd_some hf
    refine z_ci (z_runV (o := 44) (ci := 8) E hK hP hS (c_X8_expression hq hz9) cv_X8_expression tw622 rfl (by decide) rfl rfl ⟨Nat.le_of_ble_eq_true rfl, Nat.le_of_ble_eq_true rfl⟩ ⟨Nat.le_refl 0, Nat.le_refl 0⟩ hl.1 (Nat.le_of_ble_eq_true rfl) rfl dX4_useValue_27) hS (fun H locs hP hS => ?_)
    refine lv_istore_n (lv' := [(1, .int (r8)), (0, .ref (gq G (29)))]) hx hb dX4_useValue_30 rfl hl (by decide) rfl (fun ls hl => ?_)
    refine lv_aload_n hx hb dX4_useValue_31 rfl (lv_at hl 1 rfl) ?_
    refine z_getR (C := RX4) (T := TX4) (N := 13) (ci := 4) (k := 5) (o := 29) (t := 44) E hK hP iwX4 rfl rfl (by decide) (by decide) rfl rfl rfl tw231 dX4_useValue_32 ?_
    obtain ⟨r11, S10, hz12, hf⟩ := z_bd_some hf
    refine z_ci (z_runV (o := 44) (ci := 8) E hK hP hS (c_X8_frame hq hz12) cv_X8_frame tw627 rfl (by decide) rfl rfl ⟨Nat.le_of_ble_eq_true rfl, Nat.le_of_ble_eq_true rfl⟩ ⟨Nat.le_refl 0, Nat.le_refl 0⟩ hl.1 (Nat.le_of_ble_eq_true rfl) rfl dX4_useValue_35) hS (fun H locs hP hS => ?_)
    refine lv_istore_n (lv' := [(2, .int (r11)), (1, .int (r8)), (0, .ref (gq G (29)))]) hx hb dX4_useValue_38 rfl hl (by decide) rfl (fun ls hl => ?_)
    refine lv_aload_n hx hb dX4_useValue_39 rfl (lv_at hl 2 rfl) ?_
    refine z_getR (C := RX4) (T := TX4) (N := 13) (ci := 4) (k := 6) (o := 29) (t := (z_pr S10)) E hK hP iwX4 rfl rfl (by decide) (by decide) rfl rfl z_rf_pr tw232 dX4_useValue_40 ?_
    refine lv_iload_n hx hb dX4_useValue_43 rfl (lv_at hl 1 rfl) ?_
    obtain ⟨r14, S13, hz15, hf⟩ := z_bd_some hf
    refine z_ci (z_runV (o := (z_pr S10)) (ci := 5) E hK hP hS (c_X5_signOf hq z_pr_kd z_pr_65 hz15) cv_X5_signOf tw571 z_pr_kd (by decide) rfl rfl ⟨Nat.le_of_ble_eq_true rfl, Nat.le_of_ble_eq_true rfl⟩ ⟨Nat.le_refl 0, Nat.le_refl 0⟩ hl.1 (Nat.le_of_ble_eq_true rfl) rfl dX4_useValue_44) hS (fun H locs hP hS => ?_)
    refine lv_istore_n (lv' := [(3, .int (r14)), (2, .int (r11)), (1, .int (r8)), (0, .ref (gq G (29)))]) hx hb dX4_useValue_47 rfl hl (by decide) rfl (fun ls hl => ?_)
    refine lv_iload_n hx hb dX4_useValue_48 rfl (lv_at hl 0 rfl) ?_
    by_cases hc16 : r14 = 42
    · replace hf := z_ifp hf hc16
      refine lv_lookup (off := 131) (tgt := 180) hx hb dX4_useValue_49 (by decide) (by rw [hc16]; decide) (by decide) ?_
      exact hJ180 (r8) (r11) (r14) S13 _ _ _ hf hP hS (lv_sub hl [3, 2, 1, 0] rfl)
    · replace hf := z_ifn hf hc16
      by_cases hc17 : r14 = 43
      · replace hf := z_ifp hf hc17
        refine lv_lookup (off := 131) (tgt := 180) hx hb dX4_useValue_49 (by decide) (by rw [hc17]; decide) (by decide) ?_
        exact hJ180 (r8) (r11) (r14) S13 _ _ _ hf hP hS (lv_sub hl [3, 2, 1, 0] rfl)
      · replace hf := z_ifn hf hc17
        by_cases hc18 : r14 = 44
        · replace hf := z_ifp hf hc18
          refine lv_lookup (off := 186) (tgt := 235) hx hb dX4_useValue_49 (by decide) (by rw [hc18]; decide) (by decide) ?_
          refine lv_aload_n hx hb dX4_useValue_235 rfl (lv_at hl 3 rfl) ?_
          refine lv_aload_n hx hb dX4_useValue_236 rfl (lv_at hl 3 rfl) ?_
          refine z_getR (C := RX4) (T := TX4) (N := 13) (ci := 4) (k := 6) (o := 29) (t := (z_pr S13)) E hK hP iwX4 rfl rfl (by decide) (by decide) rfl rfl z_rf_pr tw232 dX4_useValue_237 ?_
          refine lv_iload_n hx hb dX4_useValue_240 rfl (lv_at hl 2 rfl) ?_
          obtain ⟨r20, S19, hz21, hf⟩ := z_bd_some hf
          refine z_ci (z_runV (o := (z_pr S13)) (ci := 5) E hK hP hS (c_X5_secondOf hq z_pr_kd z_pr_65 hz21) cv_X5_secondOf tw639 z_pr_kd (by decide) rfl rfl ⟨Nat.le_of_ble_eq_true rfl, Nat.le_of_ble_eq_true rfl⟩ ⟨Nat.le_refl 0, Nat.le_refl 0⟩ hl.1 (Nat.le_of_ble_eq_true rfl) rfl dX4_useValue_241) hS (fun H locs hP hS => ?_)
          refine lv_iload_n hx hb dX4_useValue_244 rfl (lv_at hl 1 rfl) ?_
          obtain ⟨S22, hz23, hf⟩ := z_bv_some hf
          refine z_cvo (z_runV (o := 29) (ci := 4) E hK hP hS (c_X4_begin hq hz23) cv_X4_begin tw558 rfl (by decide) rfl rfl ⟨Nat.le_of_ble_eq_true rfl, Nat.le_of_ble_eq_true rfl⟩ ⟨Nat.le_refl 0, Nat.le_refl 0⟩ hl.1 (Nat.le_of_ble_eq_true rfl) rfl dX4_useValue_245) hS (fun H locs hP hS => ?_)
          refine lv_goto (tgt := 336) hx hb dX4_useValue_248 (by decide) ?_
          exact x_retv hx hb hr hlk hf hP hS dX4_useValue_336
        · replace hf := z_ifn hf hc18
          by_cases hc24 : r14 = 45
          · replace hf := z_ifp hf hc24
            refine lv_lookup (off := 131) (tgt := 180) hx hb dX4_useValue_49 (by decide) (by rw [hc24]; decide) (by decide) ?_
            exact hJ180 (r8) (r11) (r14) S13 _ _ _ hf hP hS (lv_sub hl [3, 2, 1, 0] rfl)
          · replace hf := z_ifn hf hc24
            by_cases hc25 : r14 = 63
            · replace hf := z_ifp hf hc25
              refine lv_lookup (off := 177) (tgt := 226) hx hb dX4_useValue_49 (by decide) (by rw [hc25]; decide) (by decide) ?_
              refine lv_aload_n hx hb dX4_useValue_226 rfl (lv_at hl 3 rfl) ?_
              refine lv_iload_n hx hb dX4_useValue_227 rfl (lv_at hl 2 rfl) ?_
              refine lv_iload_n hx hb dX4_useValue_228 rfl (lv_at hl 1 rfl) ?_
              obtain ⟨S26, hz27, hf⟩ := z_bv_some hf
              refine z_cvo (z_runV (o := 29) (ci := 4) E hK hP hS (c_X4_choose hq hz27) cv_X4_choose tw688 rfl (by decide) rfl rfl ⟨Nat.le_of_ble_eq_true rfl, Nat.le_of_ble_eq_true rfl⟩ ⟨Nat.le_refl 0, Nat.le_refl 0⟩ hl.1 (Nat.le_of_ble_eq_true rfl) rfl dX4_useValue_229) hS (fun H locs hP hS => ?_)
              refine lv_goto (tgt := 336) hx hb dX4_useValue_232 (by decide) ?_
              exact x_retv hx hb hr hlk hf hP hS dX4_useValue_336
            · replace hf := z_ifn hf hc25
              by_cases hc28 : r14 = 64
              · replace hf := z_ifp hf hc28
                refine lv_lookup (off := 141) (tgt := 190) hx hb dX4_useValue_49 (by decide) (by rw [hc28]; decide) (by decide) ?_
                refine lv_aload_n hx hb dX4_useValue_190 rfl (lv_at hl 3 rfl) ?_
                refine z_getR (C := RX4) (T := TX4) (N := 13) (ci := 4) (k := 5) (o := 29) (t := 44) E hK hP iwX4 rfl rfl (by decide) (by decide) rfl rfl rfl tw231 dX4_useValue_191 ?_
                obtain ⟨r30, S29, hz31, hf⟩ := z_bd_some hf
                refine z_ci (z_runV (o := 44) (ci := 8) E hK hP hS (c_X8_stage hq hz31) cv_X8_stage tw635 rfl (by decide) rfl rfl ⟨Nat.le_of_ble_eq_true rfl, Nat.le_of_ble_eq_true rfl⟩ ⟨Nat.le_refl 0, Nat.le_refl 0⟩ hl.1 (Nat.le_of_ble_eq_true rfl) rfl dX4_useValue_194) hS (fun H locs hP hS => ?_)
                refine lv_iconst (v := 1) hx hb dX4_useValue_197 (by decide) ?_
                refine lv_icmp_ne (tgt := 217) hx hb dX4_useValue_198 (by decide) (fun hc32 => ?_) (fun hc32 => ?_)
                · replace hf := z_ifn hf hc32
                  refine lv_aload_n hx hb dX4_useValue_217 rfl (lv_at hl 3 rfl) ?_
                  refine lv_iload_n hx hb dX4_useValue_218 rfl (lv_at hl 2 rfl) ?_
                  refine lv_iload_n hx hb dX4_useValue_219 rfl (lv_at hl 1 rfl) ?_
                  obtain ⟨S33, hz34, hf⟩ := z_bv_some hf
                  refine z_cvo (z_runV (o := 29) (ci := 4) E hK hP hS (c_X4_useForCall hq hz34) cv_X4_useForCall tw676 rfl (by decide) rfl rfl ⟨Nat.le_of_ble_eq_true rfl, Nat.le_of_ble_eq_true rfl⟩ ⟨Nat.le_refl 0, Nat.le_refl 0⟩ hl.1 (Nat.le_of_ble_eq_true rfl) rfl dX4_useValue_220) hS (fun H locs hP hS => ?_)
                  refine lv_goto (tgt := 336) hx hb dX4_useValue_223 (by decide) ?_
                  exact x_retv hx hb hr hlk hf hP hS dX4_useValue_336
                · replace hf := z_ifp hf hc32
                  refine lv_aload_n hx hb dX4_useValue_201 rfl (lv_at hl 3 rfl) ?_
                  refine lv_iload_n hx hb dX4_useValue_202 rfl (lv_at hl 2 rfl) ?_
                  refine lv_iload_n hx hb dX4_useValue_203 rfl (lv_at hl 1 rfl) ?_
                  refine lv_aload_n hx hb dX4_useValue_204 rfl (lv_at hl 3 rfl) ?_
                  refine z_getR (C := RX4) (T := TX4) (N := 13) (ci := 4) (k := 5) (o := 29) (t := 44) E hK hP iwX4 rfl rfl (by decide) (by decide) rfl rfl rfl tw231 dX4_useValue_205 ?_
                  obtain ⟨r36, S35, hz37, hf⟩ := z_bd_some hf
                  refine z_ci (z_runV (o := 44) (ci := 8) E hK hP hS (c_X8_first hq hz37) cv_X8_first tw643 rfl (by decide) rfl rfl ⟨Nat.le_of_ble_eq_true rfl, Nat.le_of_ble_eq_true rfl⟩ ⟨Nat.le_refl 0, Nat.le_refl 0⟩ hl.1 (Nat.le_of_ble_eq_true rfl) rfl dX4_useValue_208) hS (fun H locs hP hS => ?_)
                  obtain ⟨S38, hz39, hf⟩ := z_bv_some hf
                  refine z_cvo (z_runV (o := 29) (ci := 4) E hK hP hS (c_X4_call hq hz39) cv_X4_call tw654 rfl (by decide) rfl rfl ⟨Nat.le_of_ble_eq_true rfl, Nat.le_of_ble_eq_true rfl⟩ ⟨Nat.le_refl 0, Nat.le_refl 0⟩ hl.1 (Nat.le_of_ble_eq_true rfl) rfl dX4_useValue_211) hS (fun H locs hP hS => ?_)
                  refine lv_goto (tgt := 336) hx hb dX4_useValue_214 (by decide) ?_
                  exact x_retv hx hb hr hlk hf hP hS dX4_useValue_336
              · replace hf := z_ifn hf hc28
                by_cases hc40 : r14 = 66
                · replace hf := z_ifp hf hc40
                  refine lv_lookup (off := 131) (tgt := 180) hx hb dX4_useValue_49 (by decide) (by rw [hc40]; decide) (by decide) ?_
                  exact hJ180 (r8) (r11) (r14) S13 _ _ _ hf hP hS (lv_sub hl [3, 2, 1, 0] rfl)
                · replace hf := z_ifn hf hc40
                  by_cases hc41 : r14 = 67
                  · replace hf := z_ifp hf hc41
                    refine lv_lookup (off := 131) (tgt := 180) hx hb dX4_useValue_49 (by decide) (by rw [hc41]; decide) (by decide) ?_
                    exact hJ180 (r8) (r11) (r14) S13 _ _ _ hf hP hS (lv_sub hl [3, 2, 1, 0] rfl)
                  · replace hf := z_ifn hf hc41
                    by_cases hc42 : r14 = 76
                    · replace hf := z_ifp hf hc42
                      refine lv_lookup (off := 202) (tgt := 251) hx hb dX4_useValue_49 (by decide) (by rw [hc42]; decide) (by decide) ?_
                      refine lv_aload_n hx hb dX4_useValue_251 rfl (lv_at hl 3 rfl) ?_
                      refine lv_iload_n hx hb dX4_useValue_252 rfl (lv_at hl 2 rfl) ?_
                      refine lv_iload_n hx hb dX4_useValue_253 rfl (lv_at hl 1 rfl) ?_
                      refine lv_aload_n hx hb dX4_useValue_254 rfl (lv_at hl 3 rfl) ?_
                      refine x_getI (C := RX4) (T := TX4) (N := 13) (ci := 4) (k := 10) (o := 29) E hK hP iwX4 rfl rfl (by decide) (by decide) rfl rfl (by decide) tw236 dX4_useValue_255 ?_
                      obtain ⟨S43, hz44, hf⟩ := z_bv_some hf
                      refine z_cvo (z_runV (o := 29) (ci := 4) E hK hP hS (c_X4_beginSecondWithCell hq hz44) cv_X4_beginSecondWithCell tw696 rfl (by decide) rfl rfl ⟨Nat.le_of_ble_eq_true rfl, Nat.le_of_ble_eq_true rfl⟩ ⟨Nat.le_refl 0, Nat.le_refl 0⟩ hl.1 (Nat.le_of_ble_eq_true rfl) rfl dX4_useValue_258) hS (fun H locs hP hS => ?_)
                      refine lv_goto (tgt := 336) hx hb dX4_useValue_261 (by decide) ?_
                      exact x_retv hx hb hr hlk hf hP hS dX4_useValue_336
                    · replace hf := z_ifn hf hc42
                      by_cases hc45 : r14 = 80
                      · replace hf := z_ifp hf hc45
                        refine lv_lookup (off := 231) (tgt := 280) hx hb dX4_useValue_49 (by decide) (by rw [hc45]; decide) (by decide) ?_
                        refine lv_aload_n hx hb dX4_useValue_280 rfl (lv_at hl 3 rfl) ?_
                        refine lv_aload_n hx hb dX4_useValue_281 rfl (lv_at hl 3 rfl) ?_
                        refine z_getR (C := RX4) (T := TX4) (N := 13) (ci := 4) (k := 4) (o := 29) (t := 40) E hK hP iwX4 rfl rfl (by decide) (by decide) rfl rfl rfl tw230 dX4_useValue_282 ?_
                        refine lv_iconst (v := 0) hx hb dX4_useValue_285 (by decide) ?_
                        refine lv_aload_n hx hb dX4_useValue_286 rfl (lv_at hl 3 rfl) ?_
                        refine x_getI (C := RX4) (T := TX4) (N := 13) (ci := 4) (k := 10) (o := 29) E hK hP iwX4 rfl rfl (by decide) (by decide) rfl rfl (by decide) tw236 dX4_useValue_287 ?_
                        refine lv_iconst (v := 0) hx hb dX4_useValue_290 (by decide) ?_
                        obtain ⟨r47, S46, hz48, hf⟩ := z_bd_some hf
                        refine z_ci (z_runV (o := 40) (ci := 7) E hK hP hS (c_X7_add hq hz48) cv_X7_add tw596 rfl (by decide) rfl rfl ⟨Nat.le_of_ble_eq_true rfl, Nat.le_of_ble_eq_true rfl⟩ ⟨Nat.le_refl 0, Nat.le_refl 0⟩ hl.1 (Nat.le_of_ble_eq_true rfl) rfl dX4_useValue_291) hS (fun H locs hP hS => ?_)
                        obtain ⟨S49, hz50, hf⟩ := z_bv_some hf
                        refine z_cvo (z_runV (o := 29) (ci := 4) E hK hP hS (c_X4_give hq hz50) cv_X4_give tw573 rfl (by decide) rfl rfl ⟨Nat.le_of_ble_eq_true rfl, Nat.le_of_ble_eq_true rfl⟩ ⟨Nat.le_refl 0, Nat.le_refl 0⟩ hl.1 (Nat.le_of_ble_eq_true rfl) rfl dX4_useValue_294) hS (fun H locs hP hS => ?_)
                        refine lv_goto (tgt := 336) hx hb dX4_useValue_297 (by decide) ?_
                        exact x_retv hx hb hr hlk hf hP hS dX4_useValue_336
                      · replace hf := z_ifn hf hc45
                        by_cases hc51 : r14 = 81
                        · replace hf := z_ifp hf hc51
                          refine lv_lookup (off := 251) (tgt := 300) hx hb dX4_useValue_49 (by decide) (by rw [hc51]; decide) (by decide) ?_
                          refine lv_aload_n hx hb dX4_useValue_300 rfl (lv_at hl 3 rfl) ?_
                          refine lv_aload_n hx hb dX4_useValue_301 rfl (lv_at hl 3 rfl) ?_
                          refine z_getR (C := RX4) (T := TX4) (N := 13) (ci := 4) (k := 4) (o := 29) (t := 40) E hK hP iwX4 rfl rfl (by decide) (by decide) rfl rfl rfl tw230 dX4_useValue_302 ?_
                          refine lv_iconst (v := 1) hx hb dX4_useValue_305 (by decide) ?_
                          refine lv_iconst (v := 0) hx hb dX4_useValue_306 (by decide) ?_
                          refine lv_aload_n hx hb dX4_useValue_307 rfl (lv_at hl 3 rfl) ?_
                          refine x_getI (C := RX4) (T := TX4) (N := 13) (ci := 4) (k := 10) (o := 29) E hK hP iwX4 rfl rfl (by decide) (by decide) rfl rfl (by decide) tw236 dX4_useValue_308 ?_
                          obtain ⟨r53, S52, hz54, hf⟩ := z_bd_some hf
                          refine z_ci (z_runV (o := 40) (ci := 7) E hK hP hS (c_X7_add hq hz54) cv_X7_add tw596 rfl (by decide) rfl rfl ⟨Nat.le_of_ble_eq_true rfl, Nat.le_of_ble_eq_true rfl⟩ ⟨Nat.le_refl 0, Nat.le_refl 0⟩ hl.1 (Nat.le_of_ble_eq_true rfl) rfl dX4_useValue_311) hS (fun H locs hP hS => ?_)
                          obtain ⟨S55, hz56, hf⟩ := z_bv_some hf
                          refine z_cvo (z_runV (o := 29) (ci := 4) E hK hP hS (c_X4_give hq hz56) cv_X4_give tw573 rfl (by decide) rfl rfl ⟨Nat.le_of_ble_eq_true rfl, Nat.le_of_ble_eq_true rfl⟩ ⟨Nat.le_refl 0, Nat.le_refl 0⟩ hl.1 (Nat.le_of_ble_eq_true rfl) rfl dX4_useValue_314) hS (fun H locs hP hS => ?_)
                          refine lv_goto (tgt := 336) hx hb dX4_useValue_317 (by decide) ?_
                          exact x_retv hx hb hr hlk hf hP hS dX4_useValue_336
                        · replace hf := z_ifn hf hc51
                          by_cases hc57 : r14 = 83
                          · replace hf := z_ifp hf hc57
                            refine lv_lookup (off := 215) (tgt := 264) hx hb dX4_useValue_49 (by decide) (by rw [hc57]; decide) (by decide) ?_
                            refine lv_aload_n hx hb dX4_useValue_264 rfl (lv_at hl 3 rfl) ?_
                            refine lv_aload_n hx hb dX4_useValue_265 rfl (lv_at hl 3 rfl) ?_
                            refine z_getR (C := RX4) (T := TX4) (N := 13) (ci := 4) (k := 6) (o := 29) (t := (z_pr S13)) E hK hP iwX4 rfl rfl (by decide) (by decide) rfl rfl z_rf_pr tw232 dX4_useValue_266 ?_
                            refine lv_iload_n hx hb dX4_useValue_269 rfl (lv_at hl 2 rfl) ?_
                            obtain ⟨r59, S58, hz60, hf⟩ := z_bd_some hf
                            refine z_ci (z_runV (o := (z_pr S13)) (ci := 5) E hK hP hS (c_X5_variableOf hq z_pr_kd z_pr_65 hz60) cv_X5_variableOf tw578 z_pr_kd (by decide) rfl rfl ⟨Nat.le_of_ble_eq_true rfl, Nat.le_of_ble_eq_true rfl⟩ ⟨Nat.le_refl 0, Nat.le_refl 0⟩ hl.1 (Nat.le_of_ble_eq_true rfl) rfl dX4_useValue_270) hS (fun H locs hP hS => ?_)
                            refine lv_iload_n hx hb dX4_useValue_273 rfl (lv_at hl 1 rfl) ?_
                            obtain ⟨S61, hz62, hf⟩ := z_bv_some hf
                            refine z_cvo (z_runV (o := 29) (ci := 4) E hK hP hS (c_X4_store hq hz62) cv_X4_store tw700 rfl (by decide) rfl rfl ⟨Nat.le_of_ble_eq_true rfl, Nat.le_of_ble_eq_true rfl⟩ ⟨Nat.le_refl 0, Nat.le_refl 0⟩ hl.1 (Nat.le_of_ble_eq_true rfl) rfl dX4_useValue_274) hS (fun H locs hP hS => ?_)
                            refine lv_goto (tgt := 336) hx hb dX4_useValue_277 (by decide) ?_
                            exact x_retv hx hb hr hlk hf hP hS dX4_useValue_336
                          · replace hf := z_ifn hf hc57
                            by_cases hc63 : r14 = 88
                            · replace hf := z_ifp hf hc63
                              refine lv_lookup (off := 280) (tgt := 329) hx hb dX4_useValue_49 (by decide) (by rw [hc63]; decide) (by decide) ?_
                              refine lv_aload_n hx hb dX4_useValue_329 rfl (lv_at hl 3 rfl) ?_
                              obtain ⟨S64, hz65, hf⟩ := z_bv_some hf
                              refine z_cvo (z_runV (o := 29) (ci := 4) E hK hP hS (c_X4_failAsTold hq hz65) cv_X4_failAsTold tw737 rfl (by decide) rfl rfl ⟨Nat.le_of_ble_eq_true rfl, Nat.le_of_ble_eq_true rfl⟩ ⟨Nat.le_refl 0, Nat.le_refl 0⟩ hl.1 (Nat.le_of_ble_eq_true rfl) rfl dX4_useValue_330) hS (fun H locs hP hS => ?_)
                              refine lv_goto (tgt := 336) hx hb dX4_useValue_333 (by decide) ?_
                              exact x_retv hx hb hr hlk hf hP hS dX4_useValue_336
                            · replace hf := z_ifn hf hc63
                              by_cases hc66 : r14 = 112
                              · replace hf := z_ifp hf hc66
                                refine lv_lookup (off := 271) (tgt := 320) hx hb dX4_useValue_49 (by decide) (by rw [hc66]; decide) (by decide) ?_
                                exact hJ320 (r8) (r14) S13 _ _ _ hf hP hS (lv_sub hl [3, 2, 0] rfl)
                              · replace hf := z_ifn hf hc66
                                by_cases hc67 : r14 = 113
                                · replace hf := z_ifp hf hc67
                                  refine lv_lookup (off := 271) (tgt := 320) hx hb dX4_useValue_49 (by decide) (by rw [hc67]; decide) (by decide) ?_
                                  exact hJ320 (r8) (r14) S13 _ _ _ hf hP hS (lv_sub hl [3, 2, 0] rfl)
                                · replace hf := z_ifn hf hc67
                                  refine lv_lookup (off := (287)) (tgt := 336) hx hb dX4_useValue_49 (by decide) (by refine (lv_osw (k := 42) hc16 (by decide)).trans ?_; refine (lv_osw (k := 43) hc17 (by decide)).trans ?_; refine (lv_osw (k := 44) hc18 (by decide)).trans ?_; refine (lv_osw (k := 45) hc24 (by decide)).trans ?_; refine (lv_osw (k := 63) hc25 (by decide)).trans ?_; refine (lv_osw (k := 64) hc28 (by decide)).trans ?_; refine (lv_osw (k := 66) hc40 (by decide)).trans ?_; refine (lv_osw (k := 67) hc41 (by decide)).trans ?_; refine (lv_osw (k := 76) hc42 (by decide)).trans ?_; refine (lv_osw (k := 80) hc45 (by decide)).trans ?_; refine (lv_osw (k := 81) hc51 (by decide)).trans ?_; refine (lv_osw (k := 83) hc57 (by decide)).trans ?_; refine (lv_osw (k := 88) hc63 (by decide)).trans ?_; refine (lv_osw (k := 112) hc66 (by decide)).trans ?_; refine (lv_osw (k := 113) hc67 (by decide)).trans ?_; rfl) (by decide) ?_
                                  exact x_retv hx hb hr hlk hf hP hS dX4_useValue_336
  · replace hf := z_ifn hf hc4
    refine lv_aload_n hx hb dX4_useValue_10 rfl (lv_at hl 0 rfl) ?_
    refine lv_iconst (v := 3) hx hb dX4_useValue_11 (by decide) ?_
    refine x_putI (C := RX4) (T := TX4) (N := 13) (ci := 4) (k := 7) (o := 29) (v := 3) (ty := .int) E hK hq hP hS iwX4 tyX4 tyX4_ok nmX4 rfl rfl (by decide) (by decide) rfl rfl (by decide) rfl (tyX4_ok 7 (by decide)) ⟨rfl, rfl⟩ tw233 dX4_useValue_12 (fun H locs hP hS => ?_)
    obtain ⟨S68, hf, hP⟩ := z_ltX hf hP
    exact x_retv hx hb hr hlk hf hP hS dX4_useValue_15
theorem cv_X4_useValue : z_cv yX4_useValue cX4_useValue 4 none RX4 0 := ⟨⟨tw612, twp14⟩, tw613, tw6, by decide +kernel⟩
