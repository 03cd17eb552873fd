def b_X4_perform_59 (N : Nat) (S : St) : Option (St) := z_bv (f_X4_tellEnding N S) fun S13 => some S13
def b_X4_perform_53 (N : Nat) (k6 : Int32 → St → Option (St)) (v1 : Int32) (S : St) : Option (St) := k6 ((v1 + 1)) S
def b_X4_perform_6 (N : Nat) (k6 : Int32 → St → Option (St)) (v1 : Int32) (S : St) : Option (St) := if 1000000 ≤ v1 then (b_X4_perform_59 N S) else (if (S 29 7) = 3 then (b_X4_perform_59 N S) else (if (S 29 7) = 0 then (z_bv (f_X4_beginExpression N S) fun S11 => b_X4_perform_53 N k6 (v1) S11) else (if (S 29 7) = 1 then (z_bv (f_X4_useValue N S) fun S9 => b_X4_perform_53 N k6 (v1) S9) else (z_bv (f_X4_passFaultOn N S) fun S7 => b_X4_perform_53 N k6 (v1) S7))))
def f_X4_perform_6 (N : Nat) : Nat → Int32 → St → Option (St)
  | 0 => fun _ _ => none
  | n + 1 => b_X4_perform_6 N (f_X4_perform_6 N n)
def f_X4_perform (N : Nat) (S : St) : Option (St) := z_bv (f_X4_start N S) fun S1 => f_X4_perform_6 N N (0) S1
set_option maxHeartbeats 4000000 in
set_option maxRecDepth 100000 in
theorem c_X4_perform {l : Launch} {G : Cx} {M S S' : St} {N : Nat} (hq : z_inj (gq G)) (hf : f_X4_perform N S = some S') : z_Ct l yX4_perform cX4_perform 2 (some (.object "ClosuresThatBounce$Ending")) 4 94 G S M [.ref (gq G (29))] (z_QR G S' M (gq G 35)) := by
  refine z_start (by decide +kernel) (Nat.le_of_ble_eq_true rfl) ?_
  intro p e s m below meth c ls E hr hlk hK hP hS hl
  have E : CallFix p m c cX4_perform 2 s _ lw_good RX4 := E
  have hx := E.1
  have hb := E.2.1
  have hown := E.2.2.2.1
  have hts := E.2.2.2.2
  have hJ59 : ∀ (S : St) (H : Heap) (locs : List Loc) (ls : Array Slot), b_X4_perform_59 N S = some S' → z_P G S M H → z_S G s.heap H locs → lv_has ls 2 [(0, .ref (gq G (29)))] → W p l e (z_rm 4 94) s m ([.ref (gq G (29))] : List Value).toArray below meth c H locs 0 0 (MQ below (z_QR G S' M (gq G 35)) ([.ref (gq G (29))] : List Value).toArray s 0 0 (z_Aq (gq G))) (F0 m 59 ls []) := by
    intro S H locs ls hf hP hS hl
    unfold b_X4_perform_59 at hf
    refine lv_aload_n hx hb dX4_perform_59 rfl (lv_at hl 0 rfl) ?_
    obtain ⟨S13, hz14, hf⟩ := z_bv_some hf
    refine z_cvo (z_runV (o := 29) (ci := 4) E hK hP hS (c_X4_tellEnding hq hz14) cv_X4_tellEnding tw752 rfl (by decide) rfl rfl ⟨Nat.le_of_ble_eq_true rfl, Nat.le_of_ble_eq_true rfl⟩ ⟨Nat.le_refl 0, Nat.le_refl 0⟩ hl.1 (Nat.le_of_ble_eq_true rfl) rfl dX4_perform_60) hS (fun H locs hP hS => ?_)
    refine lv_aload_n hx hb dX4_perform_63 rfl (lv_at hl 0 rfl) ?_
    refine z_getR (C := RX4) (T := TX4) (N := 13) (ci := 4) (k := 2) (o := 29) (t := 35) E hK hP iwX4 rfl rfl (by decide) (by decide) rfl rfl rfl tw228 dX4_perform_64 ?_
    exact x_retr hx hb hr hlk hf hP hS dX4_perform_67
  have hJ53 : ∀ (k6 : Int32 → St → Option (St)) (hk6 : ∀ (v1 : Int32) (S : St) (H : Heap) (locs : List Loc) (ls : Array Slot), k6 v1 S = some S' → z_P G S M H → z_S G s.heap H locs → lv_has ls 2 [(0, .ref (gq G (29))), (1, .int (v1))] → W p l e (z_rm 4 94) s m ([.ref (gq G (29))] : List Value).toArray below meth c H locs 0 0 (MQ below (z_QR G S' M (gq G 35)) ([.ref (gq G (29))] : List Value).toArray s 0 0 (z_Aq (gq G))) (F0 m 6 ls [])), ∀ (v1 : Int32) (S : St) (H : Heap) (locs : List Loc) (ls : Array Slot), b_X4_perform_53 N k6 v1 S = some S' → z_P G S M H → z_S G s.heap H locs → lv_has ls 2 [(0, .ref (gq G (29))), (1, .int (v1))] → W p l e (z_rm 4 94) s m ([.ref (gq G (29))] : List Value).toArray below meth c H locs 0 0 (MQ below (z_QR G S' M (gq G 35)) ([.ref (gq G (29))] : List Value).toArray s 0 0 (z_Aq (gq G))) (F0 m 53 ls []) := by
    intro k6 hk6 v1 S H locs ls hf hP hS hl
    unfold b_X4_perform_53 at hf
    refine lv_iinc (v := (v1 + 1)) (lv' := [(1, .int ((v1 + 1))), (0, .ref (gq G (29)))]) hx hb dX4_perform_53 hl (k := 1) rfl rfl (by decide) rfl (fun ls hl => ?_)
    refine lv_goto (tgt := 6) hx hb dX4_perform_56 (by decide) ?_
    exact hk6 ((v1 + 1)) S _ _ _ hf hP hS (lv_sub hl [1, 0] rfl)
  have hB6 : ∀ (k6 : Int32 → St → Option (St)) (hk6 : ∀ (v1 : Int32) (S : St) (H : Heap) (locs : List Loc) (ls : Array Slot), k6 v1 S = some S' → z_P G S M H → z_S G s.heap H locs → lv_has ls 2 [(0, .ref (gq G (29))), (1, .int (v1))] → W p l e (z_rm 4 94) s m ([.ref (gq G (29))] : List Value).toArray below meth c H locs 0 0 (MQ below (z_QR G S' M (gq G 35)) ([.ref (gq G (29))] : List Value).toArray s 0 0 (z_Aq (gq G))) (F0 m 6 ls [])), ∀ (v1 : Int32) (S : St) (H : Heap) (locs : List Loc) (ls : Array Slot), b_X4_perform_6 N k6 v1 S = some S' → z_P G S M H → z_S G s.heap H locs → lv_has ls 2 [(0, .ref (gq G (29))), (1, .int (v1))] → W p l e (z_rm 4 94) s m ([.ref (gq G (29))] : List Value).toArray below meth c H locs 0 0 (MQ below (z_QR G S' M (gq G 35)) ([.ref (gq G (29))] : List Value).toArray s 0 0 (z_Aq (gq G))) (F0 m 6 ls []) := by
    intro k6 hk6 v1 S H locs ls hf hP hS hl
    unfold b_X4_perform_6 at hf
    refine lv_iload_n hx hb dX4_perform_6 rfl (lv_at hl 1 rfl) ?_
    refine lv_ldc (v := 1000000) hx hb hown (hts _ tw562) dX4_perform_7 ?_
    refine lv_icmp_ge (tgt := 59) hx hb dX4_perform_9 (by decide) (fun hc3 => ?_) (fun hc3 => ?_)
    · replace hf := z_ifp hf hc3
      exact hJ59 S _ _ _ hf hP hS (lv_sub hl [0] rfl)
    · replace hf := z_ifn hf hc3
      refine lv_aload_n hx hb dX4_perform_12 rfl (lv_at hl 0 rfl) ?_
      refine x_getI (C := RX4) (T := TX4) (N := 13) (ci := 4) (k := 7) (o := 29) E hK hP iwX4 rfl rfl (by decide) (by decide) rfl rfl (by decide) tw233 dX4_perform_13 ?_
      refine lv_iconst (v := 3) hx hb dX4_perform_16 (by decide) ?_
      refine lv_icmp_eq (tgt := 59) hx hb dX4_perform_17 (by decide) (fun hc4 => ?_) (fun hc4 => ?_)
      · replace hf := z_ifp hf hc4
        exact hJ59 S _ _ _ hf hP hS (lv_sub hl [0] rfl)
      · replace hf := z_ifn hf hc4
        refine lv_aload_n hx hb dX4_perform_20 rfl (lv_at hl 0 rfl) ?_
        refine x_getI (C := RX4) (T := TX4) (N := 13) (ci := 4) (k := 7) (o := 29) E hK hP iwX4 rfl rfl (by decide) (by decide) rfl rfl (by decide) tw233 dX4_perform_21 ?_
        refine lv_if_ne (tgt := 34) hx hb dX4_perform_24 (by decide) (fun hc5 => ?_) (fun hc5 => ?_)
        · replace hf := z_ifn hf hc5
          refine lv_aload_n hx hb dX4_perform_34 rfl (lv_at hl 0 rfl) ?_
          refine x_getI (C := RX4) (T := TX4) (N := 13) (ci := 4) (k := 7) (o := 29) E hK hP iwX4 rfl rfl (by decide) (by decide) rfl rfl (by decide) tw233 dX4_perform_35 ?_
          refine lv_iconst (v := 1) hx hb dX4_perform_38 (by decide) ?_
          refine lv_icmp_ne (tgt := 49) hx hb dX4_perform_39 (by decide) (fun hc6 => ?_) (fun hc6 => ?_)
          · replace hf := z_ifn hf hc6
            refine lv_aload_n hx hb dX4_perform_49 rfl (lv_at hl 0 rfl) ?_
            obtain ⟨S7, hz8, hf⟩ := z_bv_some hf
            refine z_cvo (z_runV (o := 29) (ci := 4) E hK hP hS (c_X4_passFaultOn hq hz8) cv_X4_passFaultOn tw741 rfl (by decide) rfl rfl ⟨Nat.le_of_ble_eq_true rfl, Nat.le_of_ble_eq_true rfl⟩ ⟨Nat.le_refl 0, Nat.le_refl 0⟩ hl.1 (Nat.le_of_ble_eq_true rfl) rfl dX4_perform_50) hS (fun H locs hP hS => ?_)
            exact hJ53 k6 hk6 (v1) S7 _ _ _ hf hP hS (lv_sub hl [0, 1] rfl)
          · replace hf := z_ifp hf hc6
            refine lv_aload_n hx hb dX4_perform_42 rfl (lv_at hl 0 rfl) ?_
            obtain ⟨S9, hz10, hf⟩ := z_bv_some hf
            refine z_cvo (z_runV (o := 29) (ci := 4) E hK hP hS (c_X4_useValue hq hz10) cv_X4_useValue tw610 rfl (by decide) rfl rfl ⟨Nat.le_of_ble_eq_true rfl, Nat.le_of_ble_eq_true rfl⟩ ⟨Nat.le_refl 0, Nat.le_refl 0⟩ hl.1 (Nat.le_of_ble_eq_true rfl) rfl dX4_perform_43) hS (fun H locs hP hS => ?_)
            refine lv_goto (tgt := 53) hx hb dX4_perform_46 (by decide) ?_
            exact hJ53 k6 hk6 (v1) S9 _ _ _ hf hP hS (lv_sub hl [0, 1] rfl)
        · replace hf := z_ifp hf hc5
          refine lv_aload_n hx hb dX4_perform_27 rfl (lv_at hl 0 rfl) ?_
          obtain ⟨S11, hz12, hf⟩ := z_bv_some hf
          refine z_cvo (z_runV (o := 29) (ci := 4) E hK hP hS (c_X4_beginExpression hq hz12) cv_X4_beginExpression tw563 rfl (by decide) rfl rfl ⟨Nat.le_of_ble_eq_true rfl, Nat.le_of_ble_eq_true rfl⟩ ⟨Nat.le_refl 0, Nat.le_refl 0⟩ hl.1 (Nat.le_of_ble_eq_true rfl) rfl dX4_perform_28) hS (fun H locs hP hS => ?_)
          refine lv_goto (tgt := 53) hx hb dX4_perform_31 (by decide) ?_
          exact hJ53 k6 hk6 (v1) S11 _ _ _ hf hP hS (lv_sub hl [0, 1] rfl)
  have hL6 : ∀ (n : Nat), ∀ (v1 : Int32) (S : St) (H : Heap) (locs : List Loc) (ls : Array Slot), f_X4_perform_6 N n v1 S = some S' → z_P G S M H → z_S G s.heap H locs → lv_has ls 2 [(0, .ref (gq G (29))), (1, .int (v1))] → W p l e (z_rm 4 94) s m ([.ref (gq G (29))] : List Value).toArray below meth c H locs 0 0 (MQ below (z_QR G S' M (gq G 35)) ([.ref (gq G (29))] : List Value).toArray s 0 0 (z_Aq (gq G))) (F0 m 6 ls []) := by
    intro  n
    induction n with
    | zero => intro _ _ _ _ _ hf; cases hf
    | succ n ih => exact hB6  _  ih
  have hl : lv_has ls 2 [(0, .ref (gq G (29)))] := hl
  unfold f_X4_perform at hf
  refine lv_aload_n hx hb dX4_perform_0 rfl (lv_at hl 0 rfl) ?_
  obtain ⟨S1, hz2, hf⟩ := z_bv_some hf
  refine z_cvo (z_runV (o := 29) (ci := 4) E hK hP hS (c_X4_start hq hz2) cv_X4_start tw538 rfl (by decide) rfl rfl ⟨Nat.le_of_ble_eq_true rfl, Nat.le_of_ble_eq_true rfl⟩ ⟨Nat.le_refl 0, Nat.le_refl 0⟩ hl.1 (Nat.le_of_ble_eq_true rfl) rfl dX4_perform_1) hS (fun H locs hP hS => ?_)
  refine lv_iconst (v := 0) hx hb dX4_perform_4 (by decide) ?_
  refine lv_istore_n (lv' := [(1, .int (0)), (0, .ref (gq G (29)))]) hx hb dX4_perform_5 rfl hl (by decide) rfl (fun ls hl => ?_)
  exact hL6 N (0) S1 _ _ _ hf hP hS (lv_sub hl [1, 0] rfl)
theorem cv_X4_perform : z_cv yX4_perform cX4_perform 2 (some (.object "ClosuresThatBounce$Ending")) RX4 0 := ⟨⟨tw535, tw536⟩, tw537, tw6, by decide +kernel⟩
def f_X5_copyFrom (N : Nat) (o0 : Nat) (o1 : Nat) (S : St) : Option (St) := z_bv (f_X9_copyRow N ((z_rfS o1 0)) ((z_rfS o0 0)) S) fun S1 => z_bv (f_X9_copyRow N ((z_rfS o1 1)) ((z_rfS o0 1)) S1) fun S3 => z_bv (f_X9_copyRow N ((z_rfS o1 2)) ((z_rfS o0 2)) S3) fun S5 => z_bv (f_X9_copyRow N ((z_rfS o1 3)) ((z_rfS o0 3)) S5) fun S7 => z_bv (f_X9_copyRow N ((z_rfS o1 4)) ((z_rfS o0 4)) S7) fun S9 => z_bv (f_X9_copyRow N ((z_rfS o1 5)) ((z_rfS o0 5)) S9) fun S11 => z_lt (z_wr S11 o0 6 (S11 o1 6)) fun S13 => z_lt (z_wr S13 o0 7 (S13 o1 7)) fun S14 => some S14
set_option maxHeartbeats 4000000 in
set_option maxRecDepth 100000 in
theorem c_X5_copyFrom {l : Launch} {G : Cx} {M S S' : St} {N : Nat} {o0 : Nat} {o1 : Nat} (hq : z_inj (gq G)) (hko0 : z_kd o0 = 5) (hxo0 : o0 < 65) (hko1 : z_kd o1 = 5) (hxo1 : o1 < 65) (hf : f_X5_copyFrom N o0 o1 S = some S') : z_Ct l yX5_copyFrom cX5_copyFrom 2 none 2 42 G S M [.ref (gq G (o0)), .ref (gq G (o1))] (z_QV G S' M) := by
  refine z_start (by decide +kernel) (Nat.le_of_ble_eq_true rfl) ?_
  intro p e s m below meth c ls E hr hlk hK hP hS hl
  have E : CallFix p m c cX5_copyFrom 2 s _ lw_good RX5 := E
  have hx := E.1
  have hb := E.2.1
  have hown := E.2.2.2.1
  have hts := E.2.2.2.2
  have hl : lv_has ls 2 [(0, .ref (gq G (o0))), (1, .ref (gq G (o1)))] := hl
  unfold f_X5_copyFrom at hf
  refine lv_aload_n hx hb dX5_copyFrom_0 rfl (lv_at hl 1 rfl) ?_
  refine z_getR (C := RX5) (T := TX5) (N := 8) (ci := 5) (k := 0) (o := o1) (t := (z_rfS o1 0)) E hK hP iwX5 rfl rfl (by decide) (by decide) rfl hko1 (z_rf_S (by rw [hko1]; decide)) tw39 dX5_copyFrom_1 ?_
  refine lv_aload_n hx hb dX5_copyFrom_4 rfl (lv_at hl 0 rfl) ?_
  refine z_getR (C := RX5) (T := TX5) (N := 8) (ci := 5) (k := 0) (o := o0) (t := (z_rfS o0 0)) E hK hP iwX5 rfl rfl (by decide) (by decide) rfl hko0 (z_rf_S (by rw [hko0]; decide)) tw39 dX5_copyFrom_5 ?_
  obtain ⟨S1, hz2, hf⟩ := z_bv_some hf
  refine z_cvo (z_runSN (host := RX9) E hK hP hS (c_X9_copyRow hq (z_rk5_0 hko1) (z_rl5_0 hko1) (z_rk5_0 hko0) (z_rl5_0 hko0) hz2) cs_X9_copyRow (by decide +kernel) rfl ⟨Nat.le_of_ble_eq_true rfl, Nat.le_of_ble_eq_true rfl⟩ ⟨Nat.le_refl 0, Nat.le_refl 0⟩ hl.1 (Nat.le_of_ble_eq_true rfl) rfl dX5_copyFrom_8) hS (fun H locs hP hS => ?_)
  refine lv_aload_n hx hb dX5_copyFrom_11 rfl (lv_at hl 1 rfl) ?_
  refine z_getR (C := RX5) (T := TX5) (N := 8) (ci := 5) (k := 1) (o := o1) (t := (z_rfS o1 1)) E hK hP iwX5 rfl rfl (by decide) (by decide) rfl hko1 (z_rf_S (by rw [hko1]; decide)) tw40 dX5_copyFrom_12 ?_
  refine lv_aload_n hx hb dX5_copyFrom_15 rfl (lv_at hl 0 rfl) ?_
  refine z_getR (C := RX5) (T := TX5) (N := 8) (ci := 5) (k := 1) (o := o0) (t := (z_rfS o0 1)) E hK hP iwX5 rfl rfl (by decide) (by decide) rfl hko0 (z_rf_S (by rw [hko0]; decide)) tw40 dX5_copyFrom_16 ?_
  obtain ⟨S3, hz4, hf⟩ := z_bv_some hf
  refine z_cvo (z_runSN (host := RX9) E hK hP hS (c_X9_copyRow hq (z_rk5_1 hko1) (z_rl5_1 hko1) (z_rk5_1 hko0) (z_rl5_1 hko0) hz4) cs_X9_copyRow (by decide +kernel) rfl ⟨Nat.le_of_ble_eq_true rfl, Nat.le_of_ble_eq_true rfl⟩ ⟨Nat.le_refl 0, Nat.le_refl 0⟩ hl.1 (Nat.le_of_ble_eq_true rfl) rfl dX5_copyFrom_19) hS (fun H locs hP hS => ?_)
  refine lv_aload_n hx hb dX5_copyFrom_22 rfl (lv_at hl 1 rfl) ?_
  refine z_getR (C := RX5) (T := TX5) (N := 8) (ci := 5) (k := 2) (o := o1) (t := (z_rfS o1 2)) E hK hP iwX5 rfl rfl (by decide) (by decide) rfl hko1 (z_rf_S (by rw [hko1]; decide)) tw41 dX5_copyFrom_23 ?_
  refine lv_aload_n hx hb dX5_copyFrom_26 rfl (lv_at hl 0 rfl) ?_
  refine z_getR (C := RX5) (T := TX5) (N := 8) (ci := 5) (k := 2) (o := o0) (t := (z_rfS o0 2)) E hK hP iwX5 rfl rfl (by decide) (by decide) rfl hko0 (z_rf_S (by rw [hko0]; decide)) tw41 dX5_copyFrom_27 ?_
  obtain ⟨S5, hz6, hf⟩ := z_bv_some hf
  refine z_cvo (z_runSN (host := RX9) E hK hP hS (c_X9_copyRow hq (z_rk5_2 hko1) (z_rl5_2 hko1) (z_rk5_2 hko0) (z_rl5_2 hko0) hz6) cs_X9_copyRow (by decide +kernel) rfl ⟨Nat.le_of_ble_eq_true rfl, Nat.le_of_ble_eq_true rfl⟩ ⟨Nat.le_refl 0, Nat.le_refl 0⟩ hl.1 (Nat.le_of_ble_eq_true rfl) rfl dX5_copyFrom_30) hS (fun H locs hP hS => ?_)
  refine lv_aload_n hx hb dX5_copyFrom_33 rfl (lv_at hl 1 rfl) ?_
  refine z_getR (C := RX5) (T := TX5) (N := 8) (ci := 5) (k := 3) (o := o1) (t := (z_rfS o1 3)) E hK hP iwX5 rfl rfl (by decide) (by decide) rfl hko1 (z_rf_S (by rw [hko1]; decide)) tw42 dX5_copyFrom_34 ?_
  refine lv_aload_n hx hb dX5_copyFrom_37 rfl (lv_at hl 0 rfl) ?_
  refine z_getR (C := RX5) (T := TX5) (N := 8) (ci := 5) (k := 3) (o := o0) (t := (z_rfS o0 3)) E hK hP iwX5 rfl rfl (by decide) (by decide) rfl hko0 (z_rf_S (by rw [hko0]; decide)) tw42 dX5_copyFrom_38 ?_
  obtain ⟨S7, hz8, hf⟩ := z_bv_some hf
  refine z_cvo (z_runSN (host := RX9) E hK hP hS (c_X9_copyRow hq (z_rk5_3 hko1) (z_rl5_3 hko1) (z_rk5_3 hko0) (z_rl5_3 hko0) hz8) cs_X9_copyRow (by decide +kernel) rfl ⟨Nat.le_of_ble_eq_true rfl, Nat.le_of_ble_eq_true rfl⟩ ⟨Nat.le_refl 0, Nat.le_refl 0⟩ hl.1 (Nat.le_of_ble_eq_true rfl) rfl dX5_copyFrom_41) hS (fun H locs hP hS => ?_)
  refine lv_aload_n hx hb dX5_copyFrom_44 rfl (lv_at hl 1 rfl) ?_
  refine z_getR (C := RX5) (T := TX5) (N := 8) (ci := 5) (k := 4) (o := o1) (t := (z_rfS o1 4)) E hK hP iwX5 rfl rfl (by decide) (by decide) rfl hko1 (z_rf_S (by rw [hko1]; decide)) tw43 dX5_copyFrom_45 ?_
  refine lv_aload_n hx hb dX5_copyFrom_48 rfl (lv_at hl 0 rfl) ?_
  refine z_getR (C := RX5) (T := TX5) (N := 8) (ci := 5) (k := 4) (o := o0) (t := (z_rfS o0 4)) E hK hP iwX5 rfl rfl (by decide) (by decide) rfl hko0 (z_rf_S (by rw [hko0]; decide)) tw43 dX5_copyFrom_49 ?_
  obtain ⟨S9, hz10, hf⟩ := z_bv_some hf
  refine z_cvo (z_runSN (host := RX9) E hK hP hS (c_X9_copyRow hq (z_rk5_4 hko1) (z_rl5_4 hko1) (z_rk5_4 hko0) (z_rl5_4 hko0) hz10) cs_X9_copyRow (by decide +kernel) rfl ⟨Nat.le_of_ble_eq_true rfl, Nat.le_of_ble_eq_true rfl⟩ ⟨Nat.le_refl 0, Nat.le_refl 0⟩ hl.1 (Nat.le_of_ble_eq_true rfl) rfl dX5_copyFrom_52) hS (fun H locs hP hS => ?_)
  refine lv_aload_n hx hb dX5_copyFrom_55 rfl (lv_at hl 1 rfl) ?_
  refine z_getR (C := RX5) (T := TX5) (N := 8) (ci := 5) (k := 5) (o := o1) (t := (z_rfS o1 5)) E hK hP iwX5 rfl rfl (by decide) (by decide) rfl hko1 (z_rf_S (by rw [hko1]; decide)) tw44 dX5_copyFrom_56 ?_
  refine lv_aload_n hx hb dX5_copyFrom_59 rfl (lv_at hl 0 rfl) ?_
  refine z_getR (C := RX5) (T := TX5) (N := 8) (ci := 5) (k := 5) (o := o0) (t := (z_rfS o0 5)) E hK hP iwX5 rfl rfl (by decide) (by decide) rfl hko0 (z_rf_S (by rw [hko0]; decide)) tw44 dX5_copyFrom_60 ?_
  obtain ⟨S11, hz12, hf⟩ := z_bv_some hf
  refine z_cvo (z_runSN (host := RX9) E hK hP hS (c_X9_copyRow hq (z_rk5_5 hko1) (z_rl5_5 hko1) (z_rk5_5 hko0) (z_rl5_5 hko0) hz12) cs_X9_copyRow (by decide +kernel) rfl ⟨Nat.le_of_ble_eq_true rfl, Nat.le_of_ble_eq_true rfl⟩ ⟨Nat.le_refl 0, Nat.le_refl 0⟩ hl.1 (Nat.le_of_ble_eq_true rfl) rfl dX5_copyFrom_63) hS (fun H locs hP hS => ?_)
  refine lv_aload_n hx hb dX5_copyFrom_66 rfl (lv_at hl 0 rfl) ?_
  refine lv_aload_n hx hb dX5_copyFrom_67 rfl (lv_at hl 1 rfl) ?_
  refine x_getI (C := RX5) (T := TX5) (N := 8) (ci := 5) (k := 6) (o := o1) E hK hP iwX5 rfl rfl (by decide) (by decide) rfl hko1 hxo1 tw45 dX5_copyFrom_68 ?_
  refine x_putI (C := RX5) (T := TX5) (N := 8) (ci := 5) (k := 6) (o := o0) (v := (S11 o1 6)) (ty := .int) E hK hq hP hS iwX5 tyX5 tyX5_ok nmX5 rfl rfl (by decide) (by decide) rfl hko0 hxo0 rfl (tyX5_ok 6 (by decide)) ⟨rfl, rfl⟩ tw45 dX5_copyFrom_71 (fun H locs hP hS => ?_)
  obtain ⟨S13, hf, hP⟩ := z_ltX hf hP
  refine lv_aload_n hx hb dX5_copyFrom_74 rfl (lv_at hl 0 rfl) ?_
  refine lv_aload_n hx hb dX5_copyFrom_75 rfl (lv_at hl 1 rfl) ?_
  refine x_getI (C := RX5) (T := TX5) (N := 8) (ci := 5) (k := 7) (o := o1) E hK hP iwX5 rfl rfl (by decide) (by decide) rfl hko1 hxo1 tw47 dX5_copyFrom_76 ?_
  refine x_putI (C := RX5) (T := TX5) (N := 8) (ci := 5) (k := 7) (o := o0) (v := (S13 o1 7)) (ty := .int) E hK hq hP hS iwX5 tyX5 tyX5_ok nmX5 rfl rfl (by decide) (by decide) rfl hko0 hxo0 rfl (tyX5_ok 7 (by decide)) ⟨rfl, rfl⟩ tw47 dX5_copyFrom_79 (fun H locs hP hS => ?_)
  obtain ⟨S14, hf, hP⟩ := z_ltX hf hP
  exact x_retv hx hb hr hlk hf hP hS dX5_copyFrom_82
theorem cv_X5_copyFrom : z_cv yX5_copyFrom cX5_copyFrom 2 none RX5 1 := ⟨⟨tw902, tw903⟩, tw904, tw3, by decide +kernel⟩
def f_X6_startAnew (N : Nat) (S : St) : Option (St) := z_bv (f_X0_forget N (10) S) fun S1 => z_lt (z_wr S1 1 4 0) fun S3 => z_lt (z_wr S3 1 5 0) fun S4 => some S4
set_option maxHeartbeats 4000000 in
set_option maxRecDepth 100000 in
theorem c_X6_startAnew {l : Launch} {G : Cx} {M S S' : St} {N : Nat} (hq : z_inj (gq G)) (hf : f_X6_startAnew N S = some S') : z_Ct l yX6_startAnew cX6_startAnew 1 none 2 43 G S M [.ref (gq G (1))] (z_QV G S' M) := by
  refine z_start (by decide +kernel) (Nat.le_of_ble_eq_true rfl) ?_
  intro p e s m below meth c ls E hr hlk hK hP hS hl
  have E : CallFix p m c cX6_startAnew 1 s _ lw_good RX6 := E
  have hx := E.1
  have hb := E.2.1
  have hown := E.2.2.2.1
  have hts := E.2.2.2.2
  have hl : lv_has ls 1 [(0, .ref (gq G (1)))] := hl
  unfold f_X6_startAnew at hf
  refine lv_aload_n hx hb dX6_startAnew_0 rfl (lv_at hl 0 rfl) ?_
  refine z_getR (C := RX6) (T := TX6) (N := 6) (ci := 6) (k := 2) (o := 1) (t := 10) E hK hP iwX6 rfl rfl (by decide) (by decide) rfl rfl rfl tw128 dX6_startAnew_1 ?_
  obtain ⟨S1, hz2, hf⟩ := z_bv_some hf
  refine z_cvo (z_runV (o := 10) (ci := 0) E hK hP hS (c_X0_forget hq rfl (by decide) hz2) cv_X0_forget tw479 rfl (by decide) rfl rfl ⟨Nat.le_of_ble_eq_true rfl, Nat.le_of_ble_eq_true rfl⟩ ⟨Nat.le_refl 0, Nat.le_refl 0⟩ hl.1 (Nat.le_of_ble_eq_true rfl) rfl dX6_startAnew_4) hS (fun H locs hP hS => ?_)
  refine lv_aload_n hx hb dX6_startAnew_7 rfl (lv_at hl 0 rfl) ?_
  refine lv_iconst (v := 0) hx hb dX6_startAnew_8 (by decide) ?_
  refine x_putI (C := RX6) (T := TX6) (N := 6) (ci := 6) (k := 4) (o := 1) (v := 0) (ty := .boolean) E hK hq hP hS iwX6 tyX6 tyX6_ok nmX6 rfl rfl (by decide) (by decide) rfl rfl (by decide) rfl (tyX6_ok 4 (by decide)) ⟨rfl, rfl⟩ tw133 dX6_startAnew_9 (fun H locs hP hS => ?_)
  obtain ⟨S3, hf, hP⟩ := z_ltX hf hP
  refine lv_aload_n hx hb dX6_startAnew_12 rfl (lv_at hl 0 rfl) ?_
  refine lv_iconst (v := 0) hx hb dX6_startAnew_13 (by decide) ?_
  refine x_putI (C := RX6) (T := TX6) (N := 6) (ci := 6) (k := 5) (o := 1) (v := 0) (ty := .int) E hK hq hP hS iwX6 tyX6 tyX6_ok nmX6 rfl rfl (by decide) (by decide) rfl rfl (by decide) rfl (tyX6_ok 5 (by decide)) ⟨rfl, rfl⟩ tw135 dX6_startAnew_14 (fun H locs hP hS => ?_)
  obtain ⟨S4, hf, hP⟩ := z_ltX hf hP
  exact x_retv hx hb hr hlk hf hP hS dX6_startAnew_17
theorem cv_X6_startAnew : z_cv yX6_startAnew cX6_startAnew 1 none RX6 0 := ⟨⟨tw476, tw477⟩, tw478, tw2, by decide +kernel⟩
def f_X6_keepRun (N : Nat) (S : St) : Option (St) := z_bv (f_X9_copyRow N (30) (9) S) fun S1 => z_bv (f_X0_copyFrom N (10) (31) S1) fun S3 => z_bv (f_X2_copyFrom N (14) (35) S3) fun S5 => z_lt (z_wr S5 1 4 1) fun S7 => z_lt (z_wr S7 1 5 (if 99 < ((S7 1 5) + 1) then 99 else ((S7 1 5) + 1))) fun S8 => some S8
set_option maxHeartbeats 4000000 in
set_option maxRecDepth 100000 in
theorem c_X6_keepRun {l : Launch} {G : Cx} {M S S' : St} {N : Nat} (hq : z_inj (gq G)) (hf : f_X6_keepRun N S = some S') : z_Ct l yX6_keepRun cX6_keepRun 3 none 3 63 G S M [.ref (gq G (1)), .ref (gq G (29)), .ref (gq G (35))] (z_QV G S' M) := by
  refine z_start (by decide +kernel) (Nat.le_of_ble_eq_true rfl) ?_
  intro p e s m below meth c ls E hr hlk hK hP hS hl
  have E : CallFix p m c cX6_keepRun 3 s _ lw_good RX6 := E
  have hx := E.1
  have hb := E.2.1
  have hown := E.2.2.2.1
  have hts := E.2.2.2.2
  have hl : lv_has ls 3 [(0, .ref (gq G (1))), (1, .ref (gq G (29))), (2, .ref (gq G (35)))] := hl
  unfold f_X6_keepRun at hf
  refine lv_aload_n hx hb dX6_keepRun_0 rfl (lv_at hl 1 rfl) ?_
  refine z_getR (C := RX4) (T := TX4) (N := 13) (ci := 4) (k := 0) (o := 29) (t := 30) E hK hP iwX4 rfl rfl (by decide) (by decide) rfl rfl rfl tw223 dX6_keepRun_1 ?_
  refine lv_aload_n hx hb dX6_keepRun_4 rfl (lv_at hl 0 rfl) ?_
  refine z_getR (C := RX6) (T := TX6) (N := 6) (ci := 6) (k := 1) (o := 1) (t := 9) E hK hP iwX6 rfl rfl (by decide) (by decide) rfl rfl rfl tw125 dX6_keepRun_5 ?_
  obtain ⟨S1, hz2, hf⟩ := z_bv_some hf
  refine z_cvo (z_runSN (host := RX9) E hK hP hS (c_X9_copyRow hq rfl (by decide) rfl (by decide) hz2) cs_X9_copyRow (by decide +kernel) rfl ⟨Nat.le_of_ble_eq_true rfl, Nat.le_of_ble_eq_true rfl⟩ ⟨Nat.le_refl 0, Nat.le_refl 0⟩ hl.1 (Nat.le_of_ble_eq_true rfl) rfl dX6_keepRun_8) hS (fun H locs hP hS => ?_)
  refine lv_aload_n hx hb dX6_keepRun_11 rfl (lv_at hl 0 rfl) ?_
  refine z_getR (C := RX6) (T := TX6) (N := 6) (ci := 6) (k := 2) (o := 1) (t := 10) E hK hP iwX6 rfl rfl (by decide) (by decide) rfl rfl rfl tw128 dX6_keepRun_12 ?_
  refine lv_aload_n hx hb dX6_keepRun_15 rfl (lv_at hl 1 rfl) ?_
  refine z_getR (C := RX4) (T := TX4) (N := 13) (ci := 4) (k := 1) (o := 29) (t := 31) E hK hP iwX4 rfl rfl (by decide) (by decide) rfl rfl rfl tw226 dX6_keepRun_16 ?_
  obtain ⟨S3, hz4, hf⟩ := z_bv_some hf
  refine z_cvo (z_runV (o := 10) (ci := 0) E hK hP hS (c_X0_copyFrom hq rfl (by decide) rfl (by decide) hz4) cv_X0_copyFrom tw761 rfl (by decide) rfl rfl ⟨Nat.le_of_ble_eq_true rfl, Nat.le_of_ble_eq_true rfl⟩ ⟨Nat.le_refl 0, Nat.le_refl 0⟩ hl.1 (Nat.le_of_ble_eq_true rfl) rfl dX6_keepRun_19) hS (fun H locs hP hS => ?_)
  refine lv_aload_n hx hb dX6_keepRun_22 rfl (lv_at hl 0 rfl) ?_
  refine z_getR (C := RX6) (T := TX6) (N := 6) (ci := 6) (k := 3) (o := 1) (t := 14) E hK hP iwX6 rfl rfl (by decide) (by decide) rfl rfl rfl tw131 dX6_keepRun_23 ?_
  refine lv_aload_n hx hb dX6_keepRun_26 rfl (lv_at hl 2 rfl) ?_
  obtain ⟨S5, hz6, hf⟩ := z_bv_some hf
  refine z_cvo (z_runV (o := 14) (ci := 2) E hK hP hS (c_X2_copyFrom hq rfl (by decide) rfl (by decide) hz6) cv_X2_copyFrom tw762 rfl (by decide) rfl rfl ⟨Nat.le_of_ble_eq_true rfl, Nat.le_of_ble_eq_true rfl⟩ ⟨Nat.le_refl 0, Nat.le_refl 0⟩ hl.1 (Nat.le_of_ble_eq_true rfl) rfl dX6_keepRun_27) hS (fun H locs hP hS => ?_)
  refine lv_aload_n hx hb dX6_keepRun_30 rfl (lv_at hl 0 rfl) ?_
  refine lv_iconst (v := 1) hx hb dX6_keepRun_31 (by decide) ?_
  refine x_putI (C := RX6) (T := TX6) (N := 6) (ci := 6) (k := 4) (o := 1) (v := 1) (ty := .boolean) E hK hq hP hS iwX6 tyX6 tyX6_ok nmX6 rfl rfl (by decide) (by decide) rfl rfl (by decide) rfl (tyX6_ok 4 (by decide)) ⟨rfl, rfl⟩ tw133 dX6_keepRun_32 (fun H locs hP hS => ?_)
  obtain ⟨S7, hf, hP⟩ := z_ltX hf hP
  refine lv_aload_n hx hb dX6_keepRun_35 rfl (lv_at hl 0 rfl) ?_
  refine lv_aload_n hx hb dX6_keepRun_36 rfl (lv_at hl 0 rfl) ?_
  refine x_getI (C := RX6) (T := TX6) (N := 6) (ci := 6) (k := 5) (o := 1) E hK hP iwX6 rfl rfl (by decide) (by decide) rfl rfl (by decide) tw135 dX6_keepRun_37 ?_
  refine lv_iconst (v := 1) hx hb dX6_keepRun_40 (by decide) ?_
  refine lv_iadd hx hb dX6_keepRun_41 ?_
  refine lv_bipush (v := 99) hx hb dX6_keepRun_42 (by decide) ?_
  refine z_mmin E hl.1 tw766 (by decide) (Nat.le_of_ble_eq_true rfl) ⟨Nat.le_refl 0, Nat.le_refl 0⟩ dX6_keepRun_44 ?_
  refine x_putI (C := RX6) (T := TX6) (N := 6) (ci := 6) (k := 5) (o := 1) (v := (if 99 < ((S7 1 5) + 1) then 99 else ((S7 1 5) + 1))) (ty := .int) E hK hq hP hS iwX6 tyX6 tyX6_ok nmX6 rfl rfl (by decide) (by decide) rfl rfl (by decide) rfl (tyX6_ok 5 (by decide)) ⟨rfl, rfl⟩ tw135 dX6_keepRun_47 (fun H locs hP hS => ?_)
  obtain ⟨S8, hf, hP⟩ := z_ltX hf hP
  exact x_retv hx hb hr hlk hf hP hS dX6_keepRun_50
theorem cv_X6_keepRun : z_cv yX6_keepRun cX6_keepRun 3 none RX6 2 := ⟨⟨tw757, tw758⟩, tw759, tw2, by decide +kernel⟩
def f_X6_copyFrom (N : Nat) (o0 : Nat) (o1 : Nat) (S : St) : Option (St) := z_bv (f_X5_copyFrom N ((z_rfS o0 0)) ((z_rfS o1 0)) S) fun S1 => z_bv (f_X9_copyRow N ((z_rfS o1 1)) ((z_rfS o0 1)) S1) fun S3 => z_bv (f_X0_copyFrom N ((z_rfS o0 2)) ((z_rfS o1 2)) S3) fun S5 => z_bv (f_X2_copyFrom N ((z_rfS o0 3)) ((z_rfS o1 3)) S5) fun S7 => z_gd ((S7 o1 4) = 0 ∨ (S7 o1 4) = 1) (z_lt (z_wr S7 o0 4 (S7 o1 4)) fun S10 => z_lt (z_wr S10 o0 5 (S10 o1 5)) fun S11 => some S11)
set_option maxHeartbeats 4000000 in
set_option maxRecDepth 100000 in
theorem c_X6_copyFrom {l : Launch} {G : Cx} {M S S' : St} {N : Nat} {o0 : Nat} {o1 : Nat} (hq : z_inj (gq G)) (hko0 : z_kd o0 = 6) (hxo0 : o0 < 65) (hko1 : z_kd o1 = 6) (hxo1 : o1 < 65) (hf : f_X6_copyFrom N o0 o1 S = some S') : z_Ct l yX6_copyFrom cX6_copyFrom 2 none 3 63 G S M [.ref (gq G (o0)), .ref (gq G (o1))] (z_QV G S' M) := by
  refine z_start (by decide +kernel) (Nat.le_of_ble_eq_true rfl) ?_
  intro p e s m below meth c ls E hr hlk hK hP hS hl
  have E : CallFix p m c cX6_copyFrom 2 s _ lw_good RX6 := E
  have hx := E.1
  have hb := E.2.1
  have hown := E.2.2.2.1
  have hts := E.2.2.2.2
  have hl : lv_has ls 2 [(0, .ref (gq G (o0))), (1, .ref (gq G (o1)))] := hl
  unfold f_X6_copyFrom at hf
  refine lv_aload_n hx hb dX6_copyFrom_0 rfl (lv_at hl 0 rfl) ?_
  refine z_getR (C := RX6) (T := TX6) (N := 6) (ci := 6) (k := 0) (o := o0) (t := (z_rfS o0 0)) E hK hP iwX6 rfl rfl (by decide) (by decide) rfl hko0 (z_rf_S (by rw [hko0]; decide)) tw122 dX6_copyFrom_1 ?_
  refine lv_aload_n hx hb dX6_copyFrom_4 rfl (lv_at hl 1 rfl) ?_
  refine z_getR (C := RX6) (T := TX6) (N := 6) (ci := 6) (k := 0) (o := o1) (t := (z_rfS o1 0)) E hK hP iwX6 rfl rfl (by decide) (by decide) rfl hko1 (z_rf_S (by rw [hko1]; decide)) tw122 dX6_copyFrom_5 ?_
  obtain ⟨S1, hz2, hf⟩ := z_bv_some hf
  refine z_cvo (z_runV (o := (z_rfS o0 0)) (ci := 5) E hK hP hS (c_X5_copyFrom hq (z_rk6_0 hko0) (z_rl6_0 hko0) (z_rk6_0 hko1) (z_rl6_0 hko1) hz2) cv_X5_copyFrom tw901 (z_rk6_0 hko0) (by decide) rfl rfl ⟨Nat.le_of_ble_eq_true rfl, Nat.le_of_ble_eq_true rfl⟩ ⟨Nat.le_refl 0, Nat.le_refl 0⟩ hl.1 (Nat.le_of_ble_eq_true rfl) rfl dX6_copyFrom_8) hS (fun H locs hP hS => ?_)
  refine lv_aload_n hx hb dX6_copyFrom_11 rfl (lv_at hl 1 rfl) ?_
  refine z_getR (C := RX6) (T := TX6) (N := 6) (ci := 6) (k := 1) (o := o1) (t := (z_rfS o1 1)) E hK hP iwX6 rfl rfl (by decide) (by decide) rfl hko1 (z_rf_S (by rw [hko1]; decide)) tw125 dX6_copyFrom_12 ?_
  refine lv_aload_n hx hb dX6_copyFrom_15 rfl (lv_at hl 0 rfl) ?_
  refine z_getR (C := RX6) (T := TX6) (N := 6) (ci := 6) (k := 1) (o := o0) (t := (z_rfS o0 1)) E hK hP iwX6 rfl rfl (by decide) (by decide) rfl hko0 (z_rf_S (by rw [hko0]; decide)) tw125 dX6_copyFrom_16 ?_
  obtain ⟨S3, hz4, hf⟩ := z_bv_some hf
  refine z_cvo (z_runSN (host := RX9) E hK hP hS (c_X9_copyRow hq (z_rk6_1 hko1) (z_rl6_1 hko1) (z_rk6_1 hko0) (z_rl6_1 hko0) hz4) cs_X9_copyRow (by decide +kernel) rfl ⟨Nat.le_of_ble_eq_true rfl, Nat.le_of_ble_eq_true rfl⟩ ⟨Nat.le_refl 0, Nat.le_refl 0⟩ hl.1 (Nat.le_of_ble_eq_true rfl) rfl dX6_copyFrom_19) hS (fun H locs hP hS => ?_)
  refine lv_aload_n hx hb dX6_copyFrom_22 rfl (lv_at hl 0 rfl) ?_
  refine z_getR (C := RX6) (T := TX6) (N := 6) (ci := 6) (k := 2) (o := o0) (t := (z_rfS o0 2)) E hK hP iwX6 rfl rfl (by decide) (by decide) rfl hko0 (z_rf_S (by rw [hko0]; decide)) tw128 dX6_copyFrom_23 ?_
  refine lv_aload_n hx hb dX6_copyFrom_26 rfl (lv_at hl 1 rfl) ?_
  refine z_getR (C := RX6) (T := TX6) (N := 6) (ci := 6) (k := 2) (o := o1) (t := (z_rfS o1 2)) E hK hP iwX6 rfl rfl (by decide) (by decide) rfl hko1 (z_rf_S (by rw [hko1]; decide)) tw128 dX6_copyFrom_27 ?_
  obtain ⟨S5, hz6, hf⟩ := z_bv_some hf
  refine z_cvo (z_runV (o := (z_rfS o0 2)) (ci := 0) E hK hP hS (c_X0_copyFrom hq (z_rk6_2 hko0) (z_rl6_2 hko0) (z_rk6_2 hko1) (z_rl6_2 hko1) hz6) cv_X0_copyFrom tw761 (z_rk6_2 hko0) (by decide) rfl rfl ⟨Nat.le_of_ble_eq_true rfl, Nat.le_of_ble_eq_true rfl⟩ ⟨Nat.le_refl 0, Nat.le_refl 0⟩ hl.1 (Nat.le_of_ble_eq_true rfl) rfl dX6_copyFrom_30) hS (fun H locs hP hS => ?_)
  refine lv_aload_n hx hb dX6_copyFrom_33 rfl (lv_at hl 0 rfl) ?_
  refine z_getR (C := RX6) (T := TX6) (N := 6) (ci := 6) (k := 3) (o := o0) (t := (z_rfS o0 3)) E hK hP iwX6 rfl rfl (by decide) (by decide) rfl hko0 (z_rf_S (by rw [hko0]; decide)) tw131 dX6_copyFrom_34 ?_
  refine lv_aload_n hx hb dX6_copyFrom_37 rfl (lv_at hl 1 rfl) ?_
  refine z_getR (C := RX6) (T := TX6) (N := 6) (ci := 6) (k := 3) (o := o1) (t := (z_rfS o1 3)) E hK hP iwX6 rfl rfl (by decide) (by decide) rfl hko1 (z_rf_S (by rw [hko1]; decide)) tw131 dX6_copyFrom_38 ?_
  obtain ⟨S7, hz8, hf⟩ := z_bv_some hf
  refine z_cvo (z_runV (o := (z_rfS o0 3)) (ci := 2) E hK hP hS (c_X2_copyFrom hq (z_rk6_3 hko0) (z_rl6_3 hko0) (z_rk6_3 hko1) (z_rl6_3 hko1) hz8) cv_X2_copyFrom tw762 (z_rk6_3 hko0) (by decide) rfl rfl ⟨Nat.le_of_ble_eq_true rfl, Nat.le_of_ble_eq_true rfl⟩ ⟨Nat.le_refl 0, Nat.le_refl 0⟩ hl.1 (Nat.le_of_ble_eq_true rfl) rfl dX6_copyFrom_41) hS (fun H locs hP hS => ?_)
  refine lv_aload_n hx hb dX6_copyFrom_44 rfl (lv_at hl 0 rfl) ?_
  refine lv_aload_n hx hb dX6_copyFrom_45 rfl (lv_at hl 1 rfl) ?_
  refine x_getI (C := RX6) (T := TX6) (N := 6) (ci := 6) (k := 4) (o := o1) E hK hP iwX6 rfl rfl (by decide) (by decide) rfl hko1 hxo1 tw133 dX6_copyFrom_46 ?_
  obtain ⟨hg9, hf⟩ := z_gd_some hf
  refine x_putI (C := RX6) (T := TX6) (N := 6) (ci := 6) (k := 4) (o := o0) (v := (S7 o1 4)) (ty := .boolean) E hK hq hP hS iwX6 tyX6 tyX6_ok nmX6 rfl rfl (by decide) (by decide) rfl hko0 hxo0 rfl (tyX6_ok 4 (by decide)) (z_bz hg9) tw133 dX6_copyFrom_49 (fun H locs hP hS => ?_)
  obtain ⟨S10, hf, hP⟩ := z_ltX hf hP
  refine lv_aload_n hx hb dX6_copyFrom_52 rfl (lv_at hl 0 rfl) ?_
  refine lv_aload_n hx hb dX6_copyFrom_53 rfl (lv_at hl 1 rfl) ?_
  refine x_getI (C := RX6) (T := TX6) (N := 6) (ci := 6) (k := 5) (o := o1) E hK hP iwX6 rfl rfl (by decide) (by decide) rfl hko1 hxo1 tw135 dX6_copyFrom_54 ?_
  refine x_putI (C := RX6) (T := TX6) (N := 6) (ci := 6) (k := 5) (o := o0) (v := (S10 o1 5)) (ty := .int) E hK hq hP hS iwX6 tyX6 tyX6_ok nmX6 rfl rfl (by decide) (by decide) rfl hko0 hxo0 rfl (tyX6_ok 5 (by decide)) ⟨rfl, rfl⟩ tw135 dX6_copyFrom_57 (fun H locs hP hS => ?_)
  obtain ⟨S11, hf, hP⟩ := z_ltX hf hP
  exact x_retv hx hb hr hlk hf hP hS dX6_copyFrom_60
theorem cv_X6_copyFrom : z_cv yX6_copyFrom cX6_copyFrom 2 none RX6 1 := ⟨⟨tw898, tw899⟩, tw900, tw2, by decide +kernel⟩
def f_X9_refuse (N : Nat) (a1 : Int32) (S : St) : Option (Int32 × St) := z_bd (f_X9_at N (63) ((-a1)) S) fun r2 S1 => z_bv (f_X9_put N (63) ((-a1)) ((r2 + 1)) S1) fun S4 => some (a1, S4)
set_option maxHeartbeats 4000000 in
set_option maxRecDepth 100000 in
theorem c_X9_refuse {l : Launch} {G : Cx} {M S S' : St} {N : Nat} {a1 : Int32} {r : Int32} (hq : z_inj (gq G)) (hf : f_X9_refuse N a1 S = some (r, S')) : z_Ct l yX9_refuse cX9_refuse 2 (some .int) 1 22 G S M [.ref (gq G (0)), .int (a1)] (z_QI G S' M r) := by
  refine z_start (by decide +kernel) (Nat.le_of_ble_eq_true rfl) ?_
  intro p e s m below meth c ls E hr hlk hK hP hS hl
  have E : CallFix p m c cX9_refuse 2 s _ lw_good RX9 := E
  have hx := E.1
  have hb := E.2.1
  have hown := E.2.2.2.1
  have hts := E.2.2.2.2
  have hl : lv_has ls 2 [(0, .ref (gq G (0))), (1, .int (a1))] := hl
  unfold f_X9_refuse at hf
  refine lv_aload_n hx hb dX9_refuse_0 rfl (lv_at hl 0 rfl) ?_
  refine z_getR (C := RX9) (T := TX9) (N := 9) (ci := 9) (k := 5) (o := 0) (t := 63) E hK hP iwX9 rfl rfl (by decide) (by decide) rfl rfl rfl tw303 dX9_refuse_1 ?_
  refine lv_iload_n hx hb dX9_refuse_4 rfl (lv_at hl 1 rfl) ?_
  refine lv_ineg hx hb dX9_refuse_5 ?_
  refine lv_aload_n hx hb dX9_refuse_6 rfl (lv_at hl 0 rfl) ?_
  refine z_getR (C := RX9) (T := TX9) (N := 9) (ci := 9) (k := 5) (o := 0) (t := 63) E hK hP iwX9 rfl rfl (by decide) (by decide) rfl rfl rfl tw303 dX9_refuse_7 ?_
  refine lv_iload_n hx hb dX9_refuse_10 rfl (lv_at hl 1 rfl) ?_
  refine lv_ineg hx hb dX9_refuse_11 ?_
  obtain ⟨r2, S1, hz3, hf⟩ := z_bd_some hf
  refine z_ci (z_runS E hK hP hS (c_X9_at hq rfl (by decide) hz3) cs_X9_at tw334 rfl ⟨Nat.le_of_ble_eq_true rfl, Nat.le_of_ble_eq_true rfl⟩ ⟨Nat.le_refl 0, Nat.le_refl 0⟩ hl.1 (Nat.le_of_ble_eq_true rfl) rfl dX9_refuse_12) hS (fun H locs hP hS => ?_)
  refine lv_iconst (v := 1) hx hb dX9_refuse_15 (by decide) ?_
  refine lv_iadd hx hb dX9_refuse_16 ?_
  obtain ⟨S4, hz5, hf⟩ := z_bv_some hf
  refine z_cvo (z_runS E hK hP hS (c_X9_put hq rfl (by decide) hz5) cs_X9_put tw337 rfl ⟨Nat.le_of_ble_eq_true rfl, Nat.le_of_ble_eq_true rfl⟩ ⟨Nat.le_refl 0, Nat.le_refl 0⟩ hl.1 (Nat.le_of_ble_eq_true rfl) rfl dX9_refuse_17) hS (fun H locs hP hS => ?_)
  refine lv_iload_n hx hb dX9_refuse_20 rfl (lv_at hl 1 rfl) ?_
  exact x_reti hx hb hr hlk hf hP hS dX9_refuse_21
theorem cv_X9_refuse : z_cv yX9_refuse cX9_refuse 2 (some .int) RX9 1 := ⟨⟨tw332, twp0⟩, tw333, tw1, by decide +kernel⟩
def b_X9_letter_28 (N : Nat) (S : St) : Option (Int32 × St) := z_bd (f_X9_refuse N ((-6)) S) fun r14 S13 => some (r14, S13)
def f_X9_letter (N : Nat) (a1 : Int32) (S : St) : Option (Int32 × St) := if 0 ≤ a1 then (if 255 < a1 then (b_X9_letter_28 N S) else (z_bd (f_X3_isFull N S) fun r4 S3 => if r4 = 0 then (z_bd (f_X3_add N (a1) S3) fun r8 S7 => some (r8, S7)) else (b_X9_letter_28 N S3))) else (z_bd (f_X9_refuse N ((-4)) S) fun r11 S10 => some (r11, S10))
set_option maxHeartbeats 4000000 in
set_option maxRecDepth 100000 in
theorem c_X9_letter {l : Launch} {G : Cx} {M S S' : St} {N : Nat} {a1 : Int32} {r : Int32} (hq : z_inj (gq G)) (hf : f_X9_letter N a1 S = some (r, S')) : z_Ct l yX9_letter cX9_letter 2 (some .int) 2 43 G S M [.ref (gq G (0)), .int (a1)] (z_QI G S' M r) := by
  refine z_start (by decide +kernel) (Nat.le_of_ble_eq_true rfl) ?_
  intro p e s m below meth c ls E hr hlk hK hP hS hl
  have E : CallFix p m c cX9_letter 2 s _ lw_good RX9 := E
  have hx := E.1
  have hb := E.2.1
  have hown := E.2.2.2.1
  have hts := E.2.2.2.2
  have hJ28 : ∀ (S : St) (H : Heap) (locs : List Loc) (ls : Array Slot), b_X9_letter_28 N S = some (r, S') → z_P G S M H → z_S G s.heap H locs → lv_has ls 2 [(0, .ref (gq G (0)))] → W p l e (z_rm 2 43) s m ([.ref (gq G (0)), .int (a1)] : List Value).toArray below meth c H locs 0 0 (MQ below (z_QI G S' M r) ([.ref (gq G (0)), .int (a1)] : List Value).toArray s 0 0 (z_Aq (gq G))) (F0 m 28 ls []) := by
    intro S H locs ls hf hP hS hl
    unfold b_X9_letter_28 at hf
    refine lv_aload_n hx hb dX9_letter_28 rfl (lv_at hl 0 rfl) ?_
    refine lv_bipush (v := (-6)) hx hb dX9_letter_29 (by decide) ?_
    obtain ⟨r14, S13, hz15, hf⟩ := z_bd_some hf
    refine z_ci (z_runV (o := 0) (ci := 9) E hK hP hS (c_X9_refuse hq hz15) cv_X9_refuse tw330 rfl (by decide) rfl rfl ⟨Nat.le_of_ble_eq_true rfl, Nat.le_of_ble_eq_true rfl⟩ ⟨Nat.le_refl 0, Nat.le_refl 0⟩ hl.1 (Nat.le_of_ble_eq_true rfl) rfl dX9_letter_31) hS (fun H locs hP hS => ?_)
    exact x_reti hx hb hr hlk hf hP hS dX9_letter_34
  have hl : lv_has ls 2 [(0, .ref (gq G (0))), (1, .int (a1))] := hl
  unfold f_X9_letter at hf
  refine lv_iload_n hx hb dX9_letter_0 rfl (lv_at hl 1 rfl) ?_
  refine lv_if_ge (tgt := 11) hx hb dX9_letter_1 (by decide) (fun hc1 => ?_) (fun hc1 => ?_)
  · replace hf := z_ifp hf hc1
    refine lv_iload_n hx hb dX9_letter_11 rfl (lv_at hl 1 rfl) ?_
    refine lv_sipush (v := 255) hx hb dX9_letter_12 (by decide) ?_
    refine lv_icmp_gt (tgt := 28) hx hb dX9_letter_15 (by decide) (fun hc2 => ?_) (fun hc2 => ?_)
    · replace hf := z_ifp hf hc2
      exact hJ28 S _ _ _ hf hP hS (lv_sub hl [0] rfl)
    · replace hf := z_ifn hf hc2
      refine lv_aload_n hx hb dX9_letter_18 rfl (lv_at hl 0 rfl) ?_
      refine z_getR (C := RX9) (T := TX9) (N := 9) (ci := 9) (k := 3) (o := 0) (t := 56) E hK hP iwX9 rfl rfl (by decide) (by decide) rfl rfl rfl tw301 dX9_letter_19 ?_
      obtain ⟨r4, S3, hz5, hf⟩ := z_bd_some hf
      refine z_ci (z_runV (o := 56) (ci := 3) E hK hP hS (c_X3_isFull hq hz5) cv_X3_isFull tw340 rfl (by decide) rfl rfl ⟨Nat.le_of_ble_eq_true rfl, Nat.le_of_ble_eq_true rfl⟩ ⟨Nat.le_refl 0, Nat.le_refl 0⟩ hl.1 (Nat.le_of_ble_eq_true rfl) rfl dX9_letter_22) hS (fun H locs hP hS => ?_)
      refine lv_if_eq (tgt := 35) hx hb dX9_letter_25 (by decide) (fun hc6 => ?_) (fun hc6 => ?_)
      · replace hf := z_ifp hf hc6
        refine lv_aload_n hx hb dX9_letter_35 rfl (lv_at hl 0 rfl) ?_
        refine z_getR (C := RX9) (T := TX9) (N := 9) (ci := 9) (k := 3) (o := 0) (t := 56) E hK hP iwX9 rfl rfl (by decide) (by decide) rfl rfl rfl tw301 dX9_letter_36 ?_
        refine lv_iload_n hx hb dX9_letter_39 rfl (lv_at hl 1 rfl) ?_
        obtain ⟨r8, S7, hz9, hf⟩ := z_bd_some hf
        refine z_ci (z_runV (o := 56) (ci := 3) E hK hP hS (c_X3_add hq hz9) cv_X3_add tw344 rfl (by decide) rfl rfl ⟨Nat.le_of_ble_eq_true rfl, Nat.le_of_ble_eq_true rfl⟩ ⟨Nat.le_refl 0, Nat.le_refl 0⟩ hl.1 (Nat.le_of_ble_eq_true rfl) rfl dX9_letter_40) hS (fun H locs hP hS => ?_)
        exact x_reti hx hb hr hlk hf hP hS dX9_letter_43
      · replace hf := z_ifn hf hc6
        exact hJ28 S3 _ _ _ hf hP hS (lv_sub hl [0] rfl)
  · replace hf := z_ifn hf hc1
    refine lv_aload_n hx hb dX9_letter_4 rfl (lv_at hl 0 rfl) ?_
    refine lv_bipush (v := (-4)) hx hb dX9_letter_5 (by decide) ?_
    obtain ⟨r11, S10, hz12, hf⟩ := z_bd_some hf
    refine z_ci (z_runV (o := 0) (ci := 9) E hK hP hS (c_X9_refuse hq hz12) cv_X9_refuse tw330 rfl (by decide) rfl rfl ⟨Nat.le_of_ble_eq_true rfl, Nat.le_of_ble_eq_true rfl⟩ ⟨Nat.le_refl 0, Nat.le_refl 0⟩ hl.1 (Nat.le_of_ble_eq_true rfl) rfl dX9_letter_7) hS (fun H locs hP hS => ?_)
    exact x_reti hx hb hr hlk hf hP hS dX9_letter_10
theorem cv_X9_letter : z_cv yX9_letter cX9_letter 2 (some .int) RX9 1 := ⟨⟨tw327, tw328⟩, tw329, tw1, by decide +kernel⟩
def b_X9_program_33 (N : Nat) (v1 : Int32) (S : St) : Option (Int32 × St) := z_bv (f_X3_forget N S) fun S9 => if v1 = 0 then (some ((S9 2 6), S9)) else (some (v1, S9))
def f_X9_program (N : Nat) (S : St) : Option (Int32 × St) := z_bd (f_X3_findFault N S) fun r2 S1 => if r2 = 0 then (z_bv (f_X3_writeInto N S1) fun S5 => z_bv (f_X6_startAnew N S5) fun S7 => b_X9_program_33 N (r2) S7) else (b_X9_program_33 N (r2) S1)
set_option maxHeartbeats 4000000 in
set_option maxRecDepth 100000 in
theorem c_X9_program {l : Launch} {G : Cx} {M S S' : St} {N : Nat} {r : Int32} (hq : z_inj (gq G)) (hf : f_X9_program N S = some (r, S')) : z_Ct l yX9_program cX9_program 2 (some .int) 6 131 G S M [.ref (gq G (0))] (z_QI G S' M r) := by
  refine z_start (by decide +kernel) (Nat.le_of_ble_eq_true rfl) ?_
  intro p e s m below meth c ls E hr hlk hK hP hS hl
  have E : CallFix p m c cX9_program 2 s _ lw_good RX9 := E
  have hx := E.1
  have hb := E.2.1
  have hown := E.2.2.2.1
  have hts := E.2.2.2.2
  have hJ33 : ∀ (v1 : Int32) (S : St) (H : Heap) (locs : List Loc) (ls : Array Slot), b_X9_program_33 N v1 S = some (r, S') → z_P G S M H → z_S G s.heap H locs → lv_has ls 2 [(0, .ref (gq G (0))), (1, .int (v1))] → W p l e (z_rm 6 131) s m ([.ref (gq G (0))] : List Value).toArray below meth c H locs 0 0 (MQ below (z_QI G S' M r) ([.ref (gq G (0))] : List Value).toArray s 0 0 (z_Aq (gq G))) (F0 m 33 ls []) := by
    intro v1 S H locs ls hf hP hS hl
    unfold b_X9_program_33 at hf
    refine lv_aload_n hx hb dX9_program_33 rfl (lv_at hl 0 rfl) ?_
    refine z_getR (C := RX9) (T := TX9) (N := 9) (ci := 9) (k := 3) (o := 0) (t := 56) E hK hP iwX9 rfl rfl (by decide) (by decide) rfl rfl rfl tw301 dX9_program_34 ?_
    obtain ⟨S9, hz10, hf⟩ := z_bv_some hf
    refine z_cvo (z_runV (o := 56) (ci := 3) E hK hP hS (c_X3_forget hq hz10) cv_X3_forget tw484 rfl (by decide) rfl rfl ⟨Nat.le_of_ble_eq_true rfl, Nat.le_of_ble_eq_true rfl⟩ ⟨Nat.le_refl 0, Nat.le_refl 0⟩ hl.1 (Nat.le_of_ble_eq_true rfl) rfl dX9_program_37) hS (fun H locs hP hS => ?_)
    refine lv_iload_n hx hb dX9_program_40 rfl (lv_at hl 1 rfl) ?_
    refine lv_if_ne (tgt := 57) hx hb dX9_program_41 (by decide) (fun hc11 => ?_) (fun hc11 => ?_)
    · replace hf := z_ifn hf hc11
      refine lv_iload_n hx hb dX9_program_57 rfl (lv_at hl 1 rfl) ?_
      exact x_reti hx hb hr hlk hf hP hS dX9_program_58
    · replace hf := z_ifp hf hc11
      refine lv_aload_n hx hb dX9_program_44 rfl (lv_at hl 0 rfl) ?_
      refine z_getR (C := RX9) (T := TX9) (N := 9) (ci := 9) (k := 0) (o := 0) (t := 1) E hK hP iwX9 rfl rfl (by decide) (by decide) rfl rfl rfl tw298 dX9_program_45 ?_
      refine z_getR (C := RX6) (T := TX6) (N := 6) (ci := 6) (k := 0) (o := 1) (t := 2) E hK hP iwX6 rfl rfl (by decide) (by decide) rfl rfl rfl tw124 dX9_program_48 ?_
      refine x_getI (C := RX5) (T := TX5) (N := 8) (ci := 5) (k := 6) (o := 2) E hK hP iwX5 rfl rfl (by decide) (by decide) rfl rfl (by decide) tw46 dX9_program_51 ?_
      refine lv_goto (tgt := 58) hx hb dX9_program_54 (by decide) ?_
      exact x_reti hx hb hr hlk hf hP hS dX9_program_58
  have hl : lv_has ls 2 [(0, .ref (gq G (0)))] := hl
  unfold f_X9_program at hf
  refine lv_aload_n hx hb dX9_program_0 rfl (lv_at hl 0 rfl) ?_
  refine z_getR (C := RX9) (T := TX9) (N := 9) (ci := 9) (k := 3) (o := 0) (t := 56) E hK hP iwX9 rfl rfl (by decide) (by decide) rfl rfl rfl tw301 dX9_program_1 ?_
  obtain ⟨r2, S1, hz3, hf⟩ := z_bd_some hf
  refine z_ci (z_runV (o := 56) (ci := 3) E hK hP hS (c_X3_findFault hq hz3) cv_X3_findFault tw353 rfl (by decide) rfl rfl ⟨Nat.le_of_ble_eq_true rfl, Nat.le_of_ble_eq_true rfl⟩ ⟨Nat.le_refl 0, Nat.le_refl 0⟩ hl.1 (Nat.le_of_ble_eq_true rfl) rfl dX9_program_4) hS (fun H locs hP hS => ?_)
  refine lv_istore_n (lv' := [(1, .int (r2)), (0, .ref (gq G (0)))]) hx hb dX9_program_7 rfl hl (by decide) rfl (fun ls hl => ?_)
  refine lv_iload_n hx hb dX9_program_8 rfl (lv_at hl 0 rfl) ?_
  refine lv_if_ne (tgt := 33) hx hb dX9_program_9 (by decide) (fun hc4 => ?_) (fun hc4 => ?_)
  · replace hf := z_ifn hf hc4
    exact hJ33 (r2) S1 _ _ _ hf hP hS (lv_sub hl [1, 0] rfl)
  · replace hf := z_ifp hf hc4
    refine lv_aload_n hx hb dX9_program_12 rfl (lv_at hl 1 rfl) ?_
    refine z_getR (C := RX9) (T := TX9) (N := 9) (ci := 9) (k := 3) (o := 0) (t := 56) E hK hP iwX9 rfl rfl (by decide) (by decide) rfl rfl rfl tw301 dX9_program_13 ?_
    refine lv_aload_n hx hb dX9_program_16 rfl (lv_at hl 1 rfl) ?_
    refine z_getR (C := RX9) (T := TX9) (N := 9) (ci := 9) (k := 0) (o := 0) (t := 1) E hK hP iwX9 rfl rfl (by decide) (by decide) rfl rfl rfl tw298 dX9_program_17 ?_
    refine z_getR (C := RX6) (T := TX6) (N := 6) (ci := 6) (k := 0) (o := 1) (t := 2) E hK hP iwX6 rfl rfl (by decide) (by decide) rfl rfl rfl tw124 dX9_program_20 ?_
    obtain ⟨S5, hz6, hf⟩ := z_bv_some hf
    refine z_cvo (z_runV (o := 56) (ci := 3) E hK hP hS (c_X3_writeInto hq hz6) cv_X3_writeInto tw444 rfl (by decide) rfl rfl ⟨Nat.le_of_ble_eq_true rfl, Nat.le_of_ble_eq_true rfl⟩ ⟨Nat.le_refl 0, Nat.le_refl 0⟩ hl.1 (Nat.le_of_ble_eq_true rfl) rfl dX9_program_23) hS (fun H locs hP hS => ?_)
    refine lv_aload_n hx hb dX9_program_26 rfl (lv_at hl 1 rfl) ?_
    refine z_getR (C := RX9) (T := TX9) (N := 9) (ci := 9) (k := 0) (o := 0) (t := 1) E hK hP iwX9 rfl rfl (by decide) (by decide) rfl rfl rfl tw298 dX9_program_27 ?_
    obtain ⟨S7, hz8, hf⟩ := z_bv_some hf
    refine z_cvo (z_runV (o := 1) (ci := 6) E hK hP hS (c_X6_startAnew hq hz8) cv_X6_startAnew tw475 rfl (by decide) rfl rfl ⟨Nat.le_of_ble_eq_true rfl, Nat.le_of_ble_eq_true rfl⟩ ⟨Nat.le_refl 0, Nat.le_refl 0⟩ hl.1 (Nat.le_of_ble_eq_true rfl) rfl dX9_program_30) hS (fun H locs hP hS => ?_)
    exact hJ33 (r2) S7 _ _ _ hf hP hS (lv_sub hl [1, 0] rfl)
theorem cv_X9_program : z_cv yX9_program cX9_program 2 (some .int) RX9 0 := ⟨⟨tw350, tw351⟩, tw352, tw1, by decide +kernel⟩
def f_X9_isVariable (N : Nat) (a1 : Int32) (S : St) : Option (Int32 × St) := if a1 < 0 then (some (0, S)) else (if 6 ≤ a1 then (some (0, S)) else (some (1, S)))
set_option maxHeartbeats 4000000 in
set_option maxRecDepth 100000 in
theorem c_X9_isVariable {l : Launch} {G : Cx} {M S S' : St} {N : Nat} {a1 : Int32} {r : Int32} (hq : z_inj (gq G)) (hf : f_X9_isVariable N a1 S = some (r, S')) : z_Ct l yX9_isVariable cX9_isVariable 1 (some .boolean) 0 0 G S M [.int (a1)] (z_QI G S' M r) := by
  refine z_start (by decide +kernel) (Nat.le_of_ble_eq_true rfl) ?_
  intro p e s m below meth c ls E hr hlk hK hP hS hl
  have E : CallFix p m c cX9_isVariable 1 s _ lw_good RX9 := E
  have hx := E.1
  have hb := E.2.1
  have hown := E.2.2.2.1
  have hts := E.2.2.2.2
  have hl : lv_has ls 1 [(0, .int (a1))] := hl
  unfold f_X9_isVariable at hf
  refine lv_iload_n hx hb dX9_isVariable_0 rfl (lv_at hl 0 rfl) ?_
  refine lv_if_lt (tgt := 14) hx hb dX9_isVariable_1 (by decide) (fun hc1 => ?_) (fun hc1 => ?_)
  · replace hf := z_ifp hf hc1
    refine lv_iconst (v := 0) hx hb dX9_isVariable_14 (by decide) ?_
    exact x_retz hx hb hr hlk rfl hf hP hS dX9_isVariable_15
  · replace hf := z_ifn hf hc1
    refine lv_iload_n hx hb dX9_isVariable_4 rfl (lv_at hl 0 rfl) ?_
    refine lv_bipush (v := 6) hx hb dX9_isVariable_5 (by decide) ?_
    refine lv_icmp_ge (tgt := 14) hx hb dX9_isVariable_7 (by decide) (fun hc2 => ?_) (fun hc2 => ?_)
    · replace hf := z_ifp hf hc2
      refine lv_iconst (v := 0) hx hb dX9_isVariable_14 (by decide) ?_
      exact x_retz hx hb hr hlk rfl hf hP hS dX9_isVariable_15
    · replace hf := z_ifn hf hc2
      refine lv_iconst (v := 1) hx hb dX9_isVariable_10 (by decide) ?_
      refine lv_goto (tgt := 15) hx hb dX9_isVariable_11 (by decide) ?_
      exact x_retz hx hb hr hlk rfl hf hP hS dX9_isVariable_15
theorem cs_X9_isVariable : z_cs yX9_isVariable cX9_isVariable 1 (some .boolean) 1 := ⟨tw494, tw495, tw1, by decide +kernel⟩
def f_X9_refuseNumber (N : Nat) (a1 : Int32) (S : St) : Option (Int32 × St) := z_bd (f_X9_refuse N (a1) S) fun r2 S1 => some ((1000000000 - r2), S1)
set_option maxHeartbeats 4000000 in
set_option maxRecDepth 100000 in
theorem c_X9_refuseNumber {l : Launch} {G : Cx} {M S S' : St} {N : Nat} {a1 : Int32} {r : Int32} (hq : z_inj (gq G)) (hf : f_X9_refuseNumber N a1 S = some (r, S')) : z_Ct l yX9_refuseNumber cX9_refuseNumber 2 (some .int) 2 43 G S M [.ref (gq G (0)), .int (a1)] (z_QI G S' M r) := by
  refine z_start (by decide +kernel) (Nat.le_of_ble_eq_true rfl) ?_
  intro p e s m below meth c ls E hr hlk hK hP hS hl
  have E : CallFix p m c cX9_refuseNumber 2 s _ lw_good RX9 := E
  have hx := E.1
  have hb := E.2.1
  have hown := E.2.2.2.1
  have hts := E.2.2.2.2
  have hl : lv_has ls 2 [(0, .ref (gq G (0))), (1, .int (a1))] := hl
  unfold f_X9_refuseNumber at hf
  refine lv_ldc (v := 1000000000) hx hb hown (hts _ tw500) dX9_refuseNumber_0 ?_
  refine lv_aload_n hx hb dX9_refuseNumber_2 rfl (lv_at hl 0 rfl) ?_
  refine lv_iload_n hx hb dX9_refuseNumber_3 rfl (lv_at hl 1 rfl) ?_
  obtain ⟨r2, S1, hz3, hf⟩ := z_bd_some hf
  refine z_ci (z_runV (o := 0) (ci := 9) E hK hP hS (c_X9_refuse hq hz3) cv_X9_refuse tw330 rfl (by decide) rfl rfl ⟨Nat.le_of_ble_eq_true rfl, Nat.le_of_ble_eq_true rfl⟩ ⟨Nat.le_refl 0, Nat.le_refl 0⟩ hl.1 (Nat.le_of_ble_eq_true rfl) rfl dX9_refuseNumber_4) hS (fun H locs hP hS => ?_)
  refine lv_isub hx hb dX9_refuseNumber_7 ?_
  exact x_reti hx hb hr hlk hf hP hS dX9_refuseNumber_8
theorem cv_X9_refuseNumber : z_cv yX9_refuseNumber cX9_refuseNumber 2 (some .int) RX9 1 := ⟨⟨tw498, twp5⟩, tw499, tw1, by decide +kernel⟩
def f_X9_global (N : Nat) (a1 : Int32) (S : St) : Option (Int32 × St) := z_bd (f_X9_isVariable N (a1) S) fun r2 S1 => if r2 = 0 then (z_bd (f_X9_refuseNumber N ((-1)) S1) fun r9 S8 => some (r9, S8)) else (z_bd (f_X9_at N (9) (a1) S1) fun r6 S5 => some (r6, S5))
set_option maxHeartbeats 4000000 in
set_option maxRecDepth 100000 in
theorem c_X9_global {l : Launch} {G : Cx} {M S S' : St} {N : Nat} {a1 : Int32} {r : Int32} (hq : z_inj (gq G)) (hf : f_X9_global N a1 S = some (r, S')) : z_Ct l yX9_global cX9_global 2 (some .int) 3 64 G S M [.ref (gq G (0)), .int (a1)] (z_QI G S' M r) := by
  refine z_start (by decide +kernel) (Nat.le_of_ble_eq_true rfl) ?_
  intro p e s m below meth c ls E hr hlk hK hP hS hl
  have E : CallFix p m c cX9_global 2 s _ lw_good RX9 := E
  have hx := E.1
  have hb := E.2.1
  have hown := E.2.2.2.1
  have hts := E.2.2.2.2
  have hl : lv_has ls 2 [(0, .ref (gq G (0))), (1, .int (a1))] := hl
  unfold f_X9_global at hf
  refine lv_iload_n hx hb dX9_global_0 rfl (lv_at hl 1 rfl) ?_
  obtain ⟨r2, S1, hz3, hf⟩ := z_bd_some hf
  refine z_ci (z_runS E hK hP hS (c_X9_isVariable hq hz3) cs_X9_isVariable tw493 rfl ⟨Nat.le_of_ble_eq_true rfl, Nat.le_of_ble_eq_true rfl⟩ ⟨Nat.le_refl 0, Nat.le_refl 0⟩ hl.1 (Nat.le_of_ble_eq_true rfl) rfl dX9_global_1) hS (fun H locs hP hS => ?_)
  refine lv_if_ne (tgt := 13) hx hb dX9_global_4 (by decide) (fun hc4 => ?_) (fun hc4 => ?_)
  · replace hf := z_ifn hf hc4
    refine lv_aload_n hx hb dX9_global_13 rfl (lv_at hl 0 rfl) ?_
    refine z_getR (C := RX9) (T := TX9) (N := 9) (ci := 9) (k := 0) (o := 0) (t := 1) E hK hP iwX9 rfl rfl (by decide) (by decide) rfl rfl rfl tw298 dX9_global_14 ?_
    refine z_getR (C := RX6) (T := TX6) (N := 6) (ci := 6) (k := 1) (o := 1) (t := 9) E hK hP iwX6 rfl rfl (by decide) (by decide) rfl rfl rfl tw127 dX9_global_17 ?_
    refine lv_iload_n hx hb dX9_global_20 rfl (lv_at hl 1 rfl) ?_
    obtain ⟨r6, S5, hz7, hf⟩ := z_bd_some hf
    refine z_ci (z_runS E hK hP hS (c_X9_at hq rfl (by decide) hz7) cs_X9_at tw334 rfl ⟨Nat.le_of_ble_eq_true rfl, Nat.le_of_ble_eq_true rfl⟩ ⟨Nat.le_refl 0, Nat.le_refl 0⟩ hl.1 (Nat.le_of_ble_eq_true rfl) rfl dX9_global_21) hS (fun H locs hP hS => ?_)
    exact x_reti hx hb hr hlk hf hP hS dX9_global_24
  · replace hf := z_ifp hf hc4
    refine lv_aload_n hx hb dX9_global_7 rfl (lv_at hl 0 rfl) ?_
    refine lv_iconst (v := (-1)) hx hb dX9_global_8 (by decide) ?_
    obtain ⟨r9, S8, hz10, hf⟩ := z_bd_some hf
    refine z_ci (z_runV (o := 0) (ci := 9) E hK hP hS (c_X9_refuseNumber hq hz10) cv_X9_refuseNumber tw496 rfl (by decide) rfl rfl ⟨Nat.le_of_ble_eq_true rfl, Nat.le_of_ble_eq_true rfl⟩ ⟨Nat.le_refl 0, Nat.le_refl 0⟩ hl.1 (Nat.le_of_ble_eq_true rfl) rfl dX9_global_9) hS (fun H locs hP hS => ?_)
    exact x_reti hx hb hr hlk hf hP hS dX9_global_12
theorem cv_X9_global : z_cv yX9_global cX9_global 2 (some .int) RX9 1 := ⟨⟨tw490, tw491⟩, tw492, tw1, by decide +kernel⟩
def f_X9_refusalOfGlobal (N : Nat) (a1 : Int32) (a2 : Int32) (S : St) : Option (Int32 × St) := z_bd (f_X9_isVariable N (a1) S) fun r2 S1 => if r2 = 0 then (some ((-1), S1)) else (if (-9999) ≤ a2 then (if a2 ≤ 9999 then (some (0, S1)) else (some ((-6), S1))) else (some ((-4), S1)))
set_option maxHeartbeats 4000000 in
set_option maxRecDepth 100000 in
theorem c_X9_refusalOfGlobal {l : Launch} {G : Cx} {M S S' : St} {N : Nat} {a1 : Int32} {a2 : Int32} {r : Int32} (hq : z_inj (gq G)) (hf : f_X9_refusalOfGlobal N a1 a2 S = some (r, S')) : z_Ct l yX9_refusalOfGlobal cX9_refusalOfGlobal 2 (some .int) 1 20 G S M [.int (a1), .int (a2)] (z_QI G S' M r) := by
  refine z_start (by decide +kernel) (Nat.le_of_ble_eq_true rfl) ?_
  intro p e s m below meth c ls E hr hlk hK hP hS hl
  have E : CallFix p m c cX9_refusalOfGlobal 2 s _ lw_good RX9 := E
  have hx := E.1
  have hb := E.2.1
  have hown := E.2.2.2.1
  have hts := E.2.2.2.2
  have hl : lv_has ls 2 [(0, .int (a1)), (1, .int (a2))] := hl
  unfold f_X9_refusalOfGlobal at hf
  refine lv_iload_n hx hb dX9_refusalOfGlobal_0 rfl (lv_at hl 0 rfl) ?_
  obtain ⟨r2, S1, hz3, hf⟩ := z_bd_some hf
  refine z_ci (z_runS E hK hP hS (c_X9_isVariable hq hz3) cs_X9_isVariable tw493 rfl ⟨Nat.le_of_ble_eq_true rfl, Nat.le_of_ble_eq_true rfl⟩ ⟨Nat.le_refl 0, Nat.le_refl 0⟩ hl.1 (Nat.le_of_ble_eq_true rfl) rfl dX9_refusalOfGlobal_1) hS (fun H locs hP hS => ?_)
  refine lv_if_ne (tgt := 9) hx hb dX9_refusalOfGlobal_4 (by decide) (fun hc4 => ?_) (fun hc4 => ?_)
  · replace hf := z_ifn hf hc4
    refine lv_iload_n hx hb dX9_refusalOfGlobal_9 rfl (lv_at hl 1 rfl) ?_
    refine lv_sipush (v := (-9999)) hx hb dX9_refusalOfGlobal_10 (by decide) ?_
    refine lv_icmp_ge (tgt := 19) hx hb dX9_refusalOfGlobal_13 (by decide) (fun hc5 => ?_) (fun hc5 => ?_)
    · replace hf := z_ifp hf hc5
      refine lv_iload_n hx hb dX9_refusalOfGlobal_19 rfl (lv_at hl 1 rfl) ?_
      refine lv_sipush (v := 9999) hx hb dX9_refusalOfGlobal_20 (by decide) ?_
      refine lv_icmp_le (tgt := 31) hx hb dX9_refusalOfGlobal_23 (by decide) (fun hc6 => ?_) (fun hc6 => ?_)
      · replace hf := z_ifp hf hc6
        refine lv_iconst (v := 0) hx hb dX9_refusalOfGlobal_31 (by decide) ?_
        exact x_reti hx hb hr hlk hf hP hS dX9_refusalOfGlobal_32
      · replace hf := z_ifn hf hc6
        refine lv_bipush (v := (-6)) hx hb dX9_refusalOfGlobal_26 (by decide) ?_
        refine lv_goto (tgt := 32) hx hb dX9_refusalOfGlobal_28 (by decide) ?_
        exact x_reti hx hb hr hlk hf hP hS dX9_refusalOfGlobal_32
    · replace hf := z_ifn hf hc5
      refine lv_bipush (v := (-4)) hx hb dX9_refusalOfGlobal_16 (by decide) ?_
      exact x_reti hx hb hr hlk hf hP hS dX9_refusalOfGlobal_18
  · replace hf := z_ifp hf hc4
    refine lv_iconst (v := (-1)) hx hb dX9_refusalOfGlobal_7 (by decide) ?_
    exact x_reti hx hb hr hlk hf hP hS dX9_refusalOfGlobal_8
theorem cs_X9_refusalOfGlobal : z_cs yX9_refusalOfGlobal cX9_refusalOfGlobal 2 (some .int) 2 := ⟨tw506, tw507, tw1, by decide +kernel⟩
def f_X9_sets (N : Nat) (a1 : Int32) (a2 : Int32) (S : St) : Option (Int32 × St) := z_bd (f_X9_refusalOfGlobal N (a1) (a2) S) fun r2 S1 => if r2 = 0 then (z_bd (f_X9_at N (9) (a1) S1) fun r6 S5 => z_bv (f_X9_put N (9) (a1) (a2) S5) fun S8 => some (r6, S8)) else (z_bd (f_X9_refuseNumber N (r2) S1) fun r11 S10 => some (r11, S10))
set_option maxHeartbeats 4000000 in
set_option maxRecDepth 100000 in
theorem c_X9_sets {l : Launch} {G : Cx} {M S S' : St} {N : Nat} {a1 : Int32} {a2 : Int32} {r : Int32} (hq : z_inj (gq G)) (hf : f_X9_sets N a1 a2 S = some (r, S')) : z_Ct l yX9_sets cX9_sets 5 (some .int) 3 64 G S M [.ref (gq G (0)), .int (a1), .int (a2)] (z_QI G S' M r) := by
  refine z_start (by decide +kernel) (Nat.le_of_ble_eq_true rfl) ?_
  intro p e s m below meth c ls E hr hlk hK hP hS hl
  have E : CallFix p m c cX9_sets 5 s _ lw_good RX9 := E
  have hx := E.1
  have hb := E.2.1
  have hown := E.2.2.2.1
  have hts := E.2.2.2.2
  have hl : lv_has ls 5 [(0, .ref (gq G (0))), (1, .int (a1)), (2, .int (a2))] := hl
  unfold f_X9_sets at hf
  refine lv_iload_n hx hb dX9_sets_0 rfl (lv_at hl 1 rfl) ?_
  refine lv_iload_n hx hb dX9_sets_1 rfl (lv_at hl 2 rfl) ?_
  obtain ⟨r2, S1, hz3, hf⟩ := z_bd_some hf
  refine z_ci (z_runS E hK hP hS (c_X9_refusalOfGlobal hq hz3) cs_X9_refusalOfGlobal tw505 rfl ⟨Nat.le_of_ble_eq_true rfl, Nat.le_of_ble_eq_true rfl⟩ ⟨Nat.le_refl 0, Nat.le_refl 0⟩ hl.1 (Nat.le_of_ble_eq_true rfl) rfl dX9_sets_2) hS (fun H locs hP hS => ?_)
  refine lv_istore_n (lv' := [(3, .int (r2)), (0, .ref (gq G (0))), (1, .int (a1)), (2, .int (a2))]) hx hb dX9_sets_5 rfl hl (by decide) rfl (fun ls hl => ?_)
  refine lv_iload_n hx hb dX9_sets_6 rfl (lv_at hl 0 rfl) ?_
  refine lv_if_eq (tgt := 16) hx hb dX9_sets_7 (by decide) (fun hc4 => ?_) (fun hc4 => ?_)
  · replace hf := z_ifp hf hc4
    refine lv_aload_n hx hb dX9_sets_16 rfl (lv_at hl 1 rfl) ?_
    refine z_getR (C := RX9) (T := TX9) (N := 9) (ci := 9) (k := 0) (o := 0) (t := 1) E hK hP iwX9 rfl rfl (by decide) (by decide) rfl rfl rfl tw298 dX9_sets_17 ?_
    refine z_getR (C := RX6) (T := TX6) (N := 6) (ci := 6) (k := 1) (o := 1) (t := 9) E hK hP iwX6 rfl rfl (by decide) (by decide) rfl rfl rfl tw127 dX9_sets_20 ?_
    refine lv_iload_n hx hb dX9_sets_23 rfl (lv_at hl 2 rfl) ?_
    obtain ⟨r6, S5, hz7, hf⟩ := z_bd_some hf
    refine z_ci (z_runS E hK hP hS (c_X9_at hq rfl (by decide) hz7) cs_X9_at tw334 rfl ⟨Nat.le_of_ble_eq_true rfl, Nat.le_of_ble_eq_true rfl⟩ ⟨Nat.le_refl 0, Nat.le_refl 0⟩ hl.1 (Nat.le_of_ble_eq_true rfl) rfl dX9_sets_24) hS (fun H locs hP hS => ?_)
    refine lv_istore (lv' := [(4, .int (r6)), (3, .int (r2)), (0, .ref (gq G (0))), (1, .int (a1)), (2, .int (a2))]) hx hb dX9_sets_27 hl (by decide) rfl (fun ls hl => ?_)
    refine lv_aload_n hx hb dX9_sets_29 rfl (lv_at hl 2 rfl) ?_
    refine z_getR (C := RX9) (T := TX9) (N := 9) (ci := 9) (k := 0) (o := 0) (t := 1) E hK hP iwX9 rfl rfl (by decide) (by decide) rfl rfl rfl tw298 dX9_sets_30 ?_
    refine z_getR (C := RX6) (T := TX6) (N := 6) (ci := 6) (k := 1) (o := 1) (t := 9) E hK hP iwX6 rfl rfl (by decide) (by decide) rfl rfl rfl tw127 dX9_sets_33 ?_
    refine lv_iload_n hx hb dX9_sets_36 rfl (lv_at hl 3 rfl) ?_
    refine lv_iload_n hx hb dX9_sets_37 rfl (lv_at hl 4 rfl) ?_
    obtain ⟨S8, hz9, hf⟩ := z_bv_some hf
    refine z_cvo (z_runS E hK hP hS (c_X9_put hq rfl (by decide) hz9) cs_X9_put tw337 rfl ⟨Nat.le_of_ble_eq_true rfl, Nat.le_of_ble_eq_true rfl⟩ ⟨Nat.le_refl 0, Nat.le_refl 0⟩ hl.1 (Nat.le_of_ble_eq_true rfl) rfl dX9_sets_38) hS (fun H locs hP hS => ?_)
    refine lv_iload hx hb dX9_sets_41 (lv_at hl 0 rfl) ?_
    exact x_reti hx hb hr hlk hf hP hS dX9_sets_43
  · replace hf := z_ifn hf hc4
    refine lv_aload_n hx hb dX9_sets_10 rfl (lv_at hl 1 rfl) ?_
    refine lv_iload_n hx hb dX9_sets_11 rfl (lv_at hl 0 rfl) ?_
    obtain ⟨r11, S10, hz12, hf⟩ := z_bd_some hf
    refine z_ci (z_runV (o := 0) (ci := 9) E hK hP hS (c_X9_refuseNumber hq hz12) cv_X9_refuseNumber tw496 rfl (by decide) rfl rfl ⟨Nat.le_of_ble_eq_true rfl, Nat.le_of_ble_eq_true rfl⟩ ⟨Nat.le_refl 0, Nat.le_refl 0⟩ hl.1 (Nat.le_of_ble_eq_true rfl) rfl dX9_sets_12) hS (fun H locs hP hS => ?_)
    exact x_reti hx hb hr hlk hf hP hS dX9_sets_15
theorem cv_X9_sets : z_cv yX9_sets cX9_sets 5 (some .int) RX9 2 := ⟨⟨tw502, tw503⟩, tw504, tw1, by decide +kernel⟩
def f_X9_thinkOf (N : Nat) (S : St) : Option (St) := z_bv (f_X4_takeUp N S) fun S1 => z_bv (f_X4_perform N S1) fun S3 => some S3
set_option maxHeartbeats 4000000 in
set_option maxRecDepth 100000 in
theorem c_X9_thinkOf {l : Launch} {G : Cx} {M S S' : St} {N : Nat} (hq : z_inj (gq G)) (hf : f_X9_thinkOf N S = some S') : z_Ct l yX9_thinkOf cX9_thinkOf 1 (some (.object "ClosuresThatBounce$Ending")) 5 115 G S M [.ref (gq G (0))] (z_QR G S' M (gq G 35)) := by
  refine z_start (by decide +kernel) (Nat.le_of_ble_eq_true rfl) ?_
  intro p e s m below meth c ls E hr hlk hK hP hS hl
  have E : CallFix p m c cX9_thinkOf 1 s _ lw_good RX9 := E
  have hx := E.1
  have hb := E.2.1
  have hown := E.2.2.2.1
  have hts := E.2.2.2.2
  have hl : lv_has ls 1 [(0, .ref (gq G (0)))] := hl
  unfold f_X9_thinkOf at hf
  refine lv_aload_n hx hb dX9_thinkOf_0 rfl (lv_at hl 0 rfl) ?_
  refine z_getR (C := RX9) (T := TX9) (N := 9) (ci := 9) (k := 2) (o := 0) (t := 29) E hK hP iwX9 rfl rfl (by decide) (by decide) rfl rfl rfl tw300 dX9_thinkOf_1 ?_
  refine lv_aload_n hx hb dX9_thinkOf_4 rfl (lv_at hl 0 rfl) ?_
  refine z_getR (C := RX9) (T := TX9) (N := 9) (ci := 9) (k := 0) (o := 0) (t := 1) E hK hP iwX9 rfl rfl (by decide) (by decide) rfl rfl rfl tw298 dX9_thinkOf_5 ?_
  obtain ⟨S1, hz2, hf⟩ := z_bv_some hf
  refine z_cvo (z_runV (o := 29) (ci := 4) E hK hP hS (c_X4_takeUp hq hz2) cv_X4_takeUp tw516 rfl (by decide) rfl rfl ⟨Nat.le_of_ble_eq_true rfl, Nat.le_of_ble_eq_true rfl⟩ ⟨Nat.le_refl 0, Nat.le_refl 0⟩ hl.1 (Nat.le_of_ble_eq_true rfl) rfl dX9_thinkOf_8) hS (fun H locs hP hS => ?_)
  refine lv_aload_n hx hb dX9_thinkOf_11 rfl (lv_at hl 0 rfl) ?_
  refine z_getR (C := RX9) (T := TX9) (N := 9) (ci := 9) (k := 2) (o := 0) (t := 29) E hK hP iwX9 rfl rfl (by decide) (by decide) rfl rfl rfl tw300 dX9_thinkOf_12 ?_
  obtain ⟨S3, hz4, hf⟩ := z_bv_some hf
  refine z_cr (z_runV (o := 29) (ci := 4) E hK hP hS (c_X4_perform hq hz4) cv_X4_perform tw534 rfl (by decide) rfl rfl ⟨Nat.le_of_ble_eq_true rfl, Nat.le_of_ble_eq_true rfl⟩ ⟨Nat.le_refl 0, Nat.le_refl 0⟩ hl.1 (Nat.le_of_ble_eq_true rfl) rfl dX9_thinkOf_15) hS (fun H locs hP hS => ?_)
  exact x_retr hx hb hr hlk hf hP hS dX9_thinkOf_18
theorem cv_X9_thinkOf : z_cv yX9_thinkOf cX9_thinkOf 1 (some (.object "ClosuresThatBounce$Ending")) RX9 0 := ⟨⟨tw514, twp6⟩, tw515, tw1, by decide +kernel⟩
def f_X9_run (N : Nat) (S : St) : Option (Int32 × St) := z_bv (f_X9_thinkOf N S) fun S1 => z_bv (f_X6_keepRun N S1) fun S3 => some ((S3 14 0), S3)
set_option maxHeartbeats 4000000 in
set_option maxRecDepth 100000 in
theorem c_X9_run {l : Launch} {G : Cx} {M S S' : St} {N : Nat} {r : Int32} (hq : z_inj (gq G)) (hf : f_X9_run N S = some (r, S')) : z_Ct l yX9_run cX9_run 1 (some .int) 6 135 G S M [.ref (gq G (0))] (z_QI G S' M r) := by
  refine z_start (by decide +kernel) (Nat.le_of_ble_eq_true rfl) ?_
  intro p e s m below meth c ls E hr hlk hK hP hS hl
  have E : CallFix p m c cX9_run 1 s _ lw_good RX9 := E
  have hx := E.1
  have hb := E.2.1
  have hown := E.2.2.2.1
  have hts := E.2.2.2.2
  have hl : lv_has ls 1 [(0, .ref (gq G (0)))] := hl
  unfold f_X9_run at hf
  refine lv_aload_n hx hb dX9_run_0 rfl (lv_at hl 0 rfl) ?_
  refine z_getR (C := RX9) (T := TX9) (N := 9) (ci := 9) (k := 0) (o := 0) (t := 1) E hK hP iwX9 rfl rfl (by decide) (by decide) rfl rfl rfl tw298 dX9_run_1 ?_
  refine lv_aload_n hx hb dX9_run_4 rfl (lv_at hl 0 rfl) ?_
  refine z_getR (C := RX9) (T := TX9) (N := 9) (ci := 9) (k := 2) (o := 0) (t := 29) E hK hP iwX9 rfl rfl (by decide) (by decide) rfl rfl rfl tw300 dX9_run_5 ?_
  refine lv_aload_n hx hb dX9_run_8 rfl (lv_at hl 0 rfl) ?_
  obtain ⟨S1, hz2, hf⟩ := z_bv_some hf
  refine z_cr (z_runV (o := 0) (ci := 9) E hK hP hS (c_X9_thinkOf hq hz2) cv_X9_thinkOf tw512 rfl (by decide) rfl rfl ⟨Nat.le_of_ble_eq_true rfl, Nat.le_of_ble_eq_true rfl⟩ ⟨Nat.le_refl 0, Nat.le_refl 0⟩ hl.1 (Nat.le_of_ble_eq_true rfl) rfl dX9_run_9) hS (fun H locs hP hS => ?_)
  obtain ⟨S3, hz4, hf⟩ := z_bv_some hf
  refine z_cvo (z_runV (o := 1) (ci := 6) E hK hP hS (c_X6_keepRun hq hz4) cv_X6_keepRun tw756 rfl (by decide) rfl rfl ⟨Nat.le_of_ble_eq_true rfl, Nat.le_of_ble_eq_true rfl⟩ ⟨Nat.le_refl 0, Nat.le_refl 0⟩ hl.1 (Nat.le_of_ble_eq_true rfl) rfl dX9_run_12) hS (fun H locs hP hS => ?_)
  refine lv_aload_n hx hb dX9_run_15 rfl (lv_at hl 0 rfl) ?_
  refine z_getR (C := RX9) (T := TX9) (N := 9) (ci := 9) (k := 0) (o := 0) (t := 1) E hK hP iwX9 rfl rfl (by decide) (by decide) rfl rfl rfl tw298 dX9_run_16 ?_
  refine z_getR (C := RX6) (T := TX6) (N := 6) (ci := 6) (k := 3) (o := 1) (t := 14) E hK hP iwX6 rfl rfl (by decide) (by decide) rfl rfl rfl tw132 dX9_run_19 ?_
  refine x_getI (C := RX2) (T := TX2) (N := 7) (ci := 2) (k := 0) (o := 14) E hK hP iwX2 rfl rfl (by decide) (by decide) rfl rfl (by decide) tw91 dX9_run_22 ?_
  exact x_reti hx hb hr hlk hf hP hS dX9_run_25
theorem cv_X9_run : z_cv yX9_run cX9_run 1 (some .int) RX9 0 := ⟨⟨tw509, tw510⟩, tw511, tw1, by decide +kernel⟩
def f_X9_isOfEnding (N : Nat) (a1 : Int32) (S : St) : Option (Int32 × St) := if a1 < 0 then (some (0, S)) else (if 5 < a1 then (some (0, S)) else (some (1, S)))
set_option maxHeartbeats 4000000 in
set_option maxRecDepth 100000 in
theorem c_X9_isOfEnding {l : Launch} {G : Cx} {M S S' : St} {N : Nat} {a1 : Int32} {r : Int32} (hq : z_inj (gq G)) (hf : f_X9_isOfEnding N a1 S = some (r, S')) : z_Ct l yX9_isOfEnding cX9_isOfEnding 1 (some .boolean) 0 0 G S M [.int (a1)] (z_QI G S' M r) := by
  refine z_start (by decide +kernel) (Nat.le_of_ble_eq_true rfl) ?_
  intro p e s m below meth c ls E hr hlk hK hP hS hl
  have E : CallFix p m c cX9_isOfEnding 1 s _ lw_good RX9 := E
  have hx := E.1
  have hb := E.2.1
  have hown := E.2.2.2.1
  have hts := E.2.2.2.2
  have hl : lv_has ls 1 [(0, .int (a1))] := hl
  unfold f_X9_isOfEnding at hf
  refine lv_iload_n hx hb dX9_isOfEnding_0 rfl (lv_at hl 0 rfl) ?_
  refine lv_if_lt (tgt := 13) hx hb dX9_isOfEnding_1 (by decide) (fun hc1 => ?_) (fun hc1 => ?_)
  · replace hf := z_ifp hf hc1
    refine lv_iconst (v := 0) hx hb dX9_isOfEnding_13 (by decide) ?_
    exact x_retz hx hb hr hlk rfl hf hP hS dX9_isOfEnding_14
  · replace hf := z_ifn hf hc1
    refine lv_iload_n hx hb dX9_isOfEnding_4 rfl (lv_at hl 0 rfl) ?_
    refine lv_iconst (v := 5) hx hb dX9_isOfEnding_5 (by decide) ?_
    refine lv_icmp_gt (tgt := 13) hx hb dX9_isOfEnding_6 (by decide) (fun hc2 => ?_) (fun hc2 => ?_)
    · replace hf := z_ifp hf hc2
      refine lv_iconst (v := 0) hx hb dX9_isOfEnding_13 (by decide) ?_
      exact x_retz hx hb hr hlk rfl hf hP hS dX9_isOfEnding_14
    · replace hf := z_ifn hf hc2
      refine lv_iconst (v := 1) hx hb dX9_isOfEnding_9 (by decide) ?_
      refine lv_goto (tgt := 14) hx hb dX9_isOfEnding_10 (by decide) ?_
      exact x_retz hx hb hr hlk rfl hf hP hS dX9_isOfEnding_14
theorem cs_X9_isOfEnding : z_cs yX9_isOfEnding cX9_isOfEnding 1 (some .boolean) 1 := ⟨tw772, tw773, tw1, by decide +kernel⟩
def f_X9_ended (N : Nat) (a1 : Int32) (S : St) : Option (Int32 × St) := z_bd (f_X9_isOfEnding N (a1) S) fun r2 S1 => if r2 = 0 then (z_bd (f_X9_refuseNumber N ((-2)) S1) fun r13 S12 => some (r13, S12)) else (if (S1 1 4) = 0 then (z_bd (f_X9_refuseNumber N ((-3)) S1) fun r10 S9 => some (r10, S9)) else (z_bd (f_X2_tell N (14) (a1) S1) fun r7 S6 => some (r7, S6)))
set_option maxHeartbeats 4000000 in
set_option maxRecDepth 100000 in
theorem c_X9_ended {l : Launch} {G : Cx} {M S S' : St} {N : Nat} {a1 : Int32} {r : Int32} (hq : z_inj (gq G)) (hf : f_X9_ended N a1 S = some (r, S')) : z_Ct l yX9_ended cX9_ended 2 (some .int) 3 64 G S M [.ref (gq G (0)), .int (a1)] (z_QI G S' M r) := by
  refine z_start (by decide +kernel) (Nat.le_of_ble_eq_true rfl) ?_
  intro p e s m below meth c ls E hr hlk hK hP hS hl
  have E : CallFix p m c cX9_ended 2 s _ lw_good RX9 := E
  have hx := E.1
  have hb := E.2.1
  have hown := E.2.2.2.1
  have hts := E.2.2.2.2
  have hl : lv_has ls 2 [(0, .ref (gq G (0))), (1, .int (a1))] := hl
  unfold f_X9_ended at hf
  refine lv_iload_n hx hb dX9_ended_0 rfl (lv_at hl 1 rfl) ?_
  obtain ⟨r2, S1, hz3, hf⟩ := z_bd_some hf
  refine z_ci (z_runS E hK hP hS (c_X9_isOfEnding hq hz3) cs_X9_isOfEnding tw771 rfl ⟨Nat.le_of_ble_eq_true rfl, Nat.le_of_ble_eq_true rfl⟩ ⟨Nat.le_refl 0, Nat.le_refl 0⟩ hl.1 (Nat.le_of_ble_eq_true rfl) rfl dX9_ended_1) hS (fun H locs hP hS => ?_)
  refine lv_if_ne (tgt := 14) hx hb dX9_ended_4 (by decide) (fun hc4 => ?_) (fun hc4 => ?_)
  · replace hf := z_ifn hf hc4
    refine lv_aload_n hx hb dX9_ended_14 rfl (lv_at hl 0 rfl) ?_
    refine z_getR (C := RX9) (T := TX9) (N := 9) (ci := 9) (k := 0) (o := 0) (t := 1) E hK hP iwX9 rfl rfl (by decide) (by decide) rfl rfl rfl tw298 dX9_ended_15 ?_
    refine x_getI (C := RX6) (T := TX6) (N := 6) (ci := 6) (k := 4) (o := 1) E hK hP iwX6 rfl rfl (by decide) (by decide) rfl rfl (by decide) tw134 dX9_ended_18 ?_
    refine lv_if_ne (tgt := 31) hx hb dX9_ended_21 (by decide) (fun hc5 => ?_) (fun hc5 => ?_)
    · replace hf := z_ifn hf hc5
      refine lv_aload_n hx hb dX9_ended_31 rfl (lv_at hl 0 rfl) ?_
      refine z_getR (C := RX9) (T := TX9) (N := 9) (ci := 9) (k := 0) (o := 0) (t := 1) E hK hP iwX9 rfl rfl (by decide) (by decide) rfl rfl rfl tw298 dX9_ended_32 ?_
      refine z_getR (C := RX6) (T := TX6) (N := 6) (ci := 6) (k := 3) (o := 1) (t := 14) E hK hP iwX6 rfl rfl (by decide) (by decide) rfl rfl rfl tw132 dX9_ended_35 ?_
      refine lv_iload_n hx hb dX9_ended_38 rfl (lv_at hl 1 rfl) ?_
      obtain ⟨r7, S6, hz8, hf⟩ := z_bd_some hf
      refine z_ci (z_runV (o := 14) (ci := 2) E hK hP hS (c_X2_tell hq rfl (by decide) hz8) cv_X2_tell tw774 rfl (by decide) rfl rfl ⟨Nat.le_of_ble_eq_true rfl, Nat.le_of_ble_eq_true rfl⟩ ⟨Nat.le_refl 0, Nat.le_refl 0⟩ hl.1 (Nat.le_of_ble_eq_true rfl) rfl dX9_ended_39) hS (fun H locs hP hS => ?_)
      exact x_reti hx hb hr hlk hf hP hS dX9_ended_42
    · replace hf := z_ifp hf hc5
      refine lv_aload_n hx hb dX9_ended_24 rfl (lv_at hl 0 rfl) ?_
      refine lv_bipush (v := (-3)) hx hb dX9_ended_25 (by decide) ?_
      obtain ⟨r10, S9, hz11, hf⟩ := z_bd_some hf
      refine z_ci (z_runV (o := 0) (ci := 9) E hK hP hS (c_X9_refuseNumber hq hz11) cv_X9_refuseNumber tw496 rfl (by decide) rfl rfl ⟨Nat.le_of_ble_eq_true rfl, Nat.le_of_ble_eq_true rfl⟩ ⟨Nat.le_refl 0, Nat.le_refl 0⟩ hl.1 (Nat.le_of_ble_eq_true rfl) rfl dX9_ended_27) hS (fun H locs hP hS => ?_)
      exact x_reti hx hb hr hlk hf hP hS dX9_ended_30
  · replace hf := z_ifp hf hc4
    refine lv_aload_n hx hb dX9_ended_7 rfl (lv_at hl 0 rfl) ?_
    refine lv_bipush (v := (-2)) hx hb dX9_ended_8 (by decide) ?_
    obtain ⟨r13, S12, hz14, hf⟩ := z_bd_some hf
    refine z_ci (z_runV (o := 0) (ci := 9) E hK hP hS (c_X9_refuseNumber hq hz14) cv_X9_refuseNumber tw496 rfl (by decide) rfl rfl ⟨Nat.le_of_ble_eq_true rfl, Nat.le_of_ble_eq_true rfl⟩ ⟨Nat.le_refl 0, Nat.le_refl 0⟩ hl.1 (Nat.le_of_ble_eq_true rfl) rfl dX9_ended_10) hS (fun H locs hP hS => ?_)
    exact x_reti hx hb hr hlk hf hP hS dX9_ended_13
theorem cv_X9_ended : z_cv yX9_ended cX9_ended 2 (some .int) RX9 1 := ⟨⟨tw768, tw769⟩, tw770, tw1, by decide +kernel⟩
def b_X9_code_24 (N : Nat) (S : St) : Option (Int32 × St) := z_bd (f_X9_refuse N ((-3)) S) fun r9 S8 => some (r9, S8)
def b_X9_code_49 (N : Nat) (S : St) : Option (Int32 × St) := z_bd (f_X9_refuse N ((-1)) S) fun r12 S11 => some (r12, S11)
def f_X9_code (N : Nat) (a1 : Int32) (S : St) : Option (Int32 × St) := if (S 1 4) = 0 then (b_X9_code_24 N S) else (if (S 14 0) = 3 then (if a1 < 0 then (b_X9_code_49 N S) else (if a1 ≤ (S 14 5) then (z_bd (f_X2_codeAt N (14) (a1) S) fun r6 S5 => some (r6, S5)) else (b_X9_code_49 N S))) else (b_X9_code_24 N S))
set_option maxHeartbeats 4000000 in
set_option maxRecDepth 100000 in
theorem c_X9_code {l : Launch} {G : Cx} {M S S' : St} {N : Nat} {a1 : Int32} {r : Int32} (hq : z_inj (gq G)) (hf : f_X9_code N a1 S = some (r, S')) : z_Ct l yX9_code cX9_code 2 (some .int) 2 43 G S M [.ref (gq G (0)), .int (a1)] (z_QI G S' M r) := by
  refine z_start (by decide +kernel) (Nat.le_of_ble_eq_true rfl) ?_
  intro p e s m below meth c ls E hr hlk hK hP hS hl
  have E : CallFix p m c cX9_code 2 s _ lw_good RX9 := E
  have hx := E.1
  have hb := E.2.1
  have hown := E.2.2.2.1
  have hts := E.2.2.2.2
  have hJ24 : ∀ (S : St) (H : Heap) (locs : List Loc) (ls : Array Slot), b_X9_code_24 N S = some (r, S') → z_P G S M H → z_S G s.heap H locs → lv_has ls 2 [(0, .ref (gq G (0)))] → W p l e (z_rm 2 43) s m ([.ref (gq G (0)), .int (a1)] : List Value).toArray below meth c H locs 0 0 (MQ below (z_QI G S' M r) ([.ref (gq G (0)), .int (a1)] : List Value).toArray s 0 0 (z_Aq (gq G))) (F0 m 24 ls []) := by
    intro S H locs ls hf hP hS hl
    unfold b_X9_code_24 at hf
    refine lv_aload_n hx hb dX9_code_24 rfl (lv_at hl 0 rfl) ?_
    refine lv_bipush (v := (-3)) hx hb dX9_code_25 (by decide) ?_
    obtain ⟨r9, S8, hz10, hf⟩ := z_bd_some hf
    refine z_ci (z_runV (o := 0) (ci := 9) E hK hP hS (c_X9_refuse hq hz10) cv_X9_refuse tw330 rfl (by decide) rfl rfl ⟨Nat.le_of_ble_eq_true rfl, Nat.le_of_ble_eq_true rfl⟩ ⟨Nat.le_refl 0, Nat.le_refl 0⟩ hl.1 (Nat.le_of_ble_eq_true rfl) rfl dX9_code_27) hS (fun H locs hP hS => ?_)
    exact x_reti hx hb hr hlk hf hP hS dX9_code_30
  have hJ49 : ∀ (S : St) (H : Heap) (locs : List Loc) (ls : Array Slot), b_X9_code_49 N S = some (r, S') → z_P G S M H → z_S G s.heap H locs → lv_has ls 2 [(0, .ref (gq G (0)))] → W p l e (z_rm 2 43) s m ([.ref (gq G (0)), .int (a1)] : List Value).toArray below meth c H locs 0 0 (MQ below (z_QI G S' M r) ([.ref (gq G (0)), .int (a1)] : List Value).toArray s 0 0 (z_Aq (gq G))) (F0 m 49 ls []) := by
    intro S H locs ls hf hP hS hl
    unfold b_X9_code_49 at hf
    refine lv_aload_n hx hb dX9_code_49 rfl (lv_at hl 0 rfl) ?_
    refine lv_iconst (v := (-1)) hx hb dX9_code_50 (by decide) ?_
    obtain ⟨r12, S11, hz13, hf⟩ := z_bd_some hf
    refine z_ci (z_runV (o := 0) (ci := 9) E hK hP hS (c_X9_refuse hq hz13) cv_X9_refuse tw330 rfl (by decide) rfl rfl ⟨Nat.le_of_ble_eq_true rfl, Nat.le_of_ble_eq_true rfl⟩ ⟨Nat.le_refl 0, Nat.le_refl 0⟩ hl.1 (Nat.le_of_ble_eq_true rfl) rfl dX9_code_51) hS (fun H locs hP hS => ?_)
    exact x_reti hx hb hr hlk hf hP hS dX9_code_54
  have hl : lv_has ls 2 [(0, .ref (gq G (0))), (1, .int (a1))] := hl
  unfold f_X9_code at hf
  refine lv_aload_n hx hb dX9_code_0 rfl (lv_at hl 0 rfl) ?_
  refine z_getR (C := RX9) (T := TX9) (N := 9) (ci := 9) (k := 0) (o := 0) (t := 1) E hK hP iwX9 rfl rfl (by decide) (by decide) rfl rfl rfl tw298 dX9_code_1 ?_
  refine x_getI (C := RX6) (T := TX6) (N := 6) (ci := 6) (k := 4) (o := 1) E hK hP iwX6 rfl rfl (by decide) (by decide) rfl rfl (by decide) tw134 dX9_code_4 ?_
  refine lv_if_eq (tgt := 24) hx hb dX9_code_7 (by decide) (fun hc1 => ?_) (fun hc1 => ?_)
  · replace hf := z_ifp hf hc1
    exact hJ24 S _ _ _ hf hP hS (lv_sub hl [0] rfl)
  · replace hf := z_ifn hf hc1
    refine lv_aload_n hx hb dX9_code_10 rfl (lv_at hl 0 rfl) ?_
    refine z_getR (C := RX9) (T := TX9) (N := 9) (ci := 9) (k := 0) (o := 0) (t := 1) E hK hP iwX9 rfl rfl (by decide) (by decide) rfl rfl rfl tw298 dX9_code_11 ?_
    refine z_getR (C := RX6) (T := TX6) (N := 6) (ci := 6) (k := 3) (o := 1) (t := 14) E hK hP iwX6 rfl rfl (by decide) (by decide) rfl rfl rfl tw132 dX9_code_14 ?_
    refine x_getI (C := RX2) (T := TX2) (N := 7) (ci := 2) (k := 0) (o := 14) E hK hP iwX2 rfl rfl (by decide) (by decide) rfl rfl (by decide) tw91 dX9_code_17 ?_
    refine lv_iconst (v := 3) hx hb dX9_code_20 (by decide) ?_
    refine lv_icmp_eq (tgt := 31) hx hb dX9_code_21 (by decide) (fun hc2 => ?_) (fun hc2 => ?_)
    · replace hf := z_ifp hf hc2
      refine lv_iload_n hx hb dX9_code_31 rfl (lv_at hl 1 rfl) ?_
      refine lv_if_lt (tgt := 49) hx hb dX9_code_32 (by decide) (fun hc3 => ?_) (fun hc3 => ?_)
      · replace hf := z_ifp hf hc3
        exact hJ49 S _ _ _ hf hP hS (lv_sub hl [0] rfl)
      · replace hf := z_ifn hf hc3
        refine lv_iload_n hx hb dX9_code_35 rfl (lv_at hl 1 rfl) ?_
        refine lv_aload_n hx hb dX9_code_36 rfl (lv_at hl 0 rfl) ?_
        refine z_getR (C := RX9) (T := TX9) (N := 9) (ci := 9) (k := 0) (o := 0) (t := 1) E hK hP iwX9 rfl rfl (by decide) (by decide) rfl rfl rfl tw298 dX9_code_37 ?_
        refine z_getR (C := RX6) (T := TX6) (N := 6) (ci := 6) (k := 3) (o := 1) (t := 14) E hK hP iwX6 rfl rfl (by decide) (by decide) rfl rfl rfl tw132 dX9_code_40 ?_
        refine x_getI (C := RX2) (T := TX2) (N := 7) (ci := 2) (k := 5) (o := 14) E hK hP iwX2 rfl rfl (by decide) (by decide) rfl rfl (by decide) tw104 dX9_code_43 ?_
        refine lv_icmp_le (tgt := 55) hx hb dX9_code_46 (by decide) (fun hc4 => ?_) (fun hc4 => ?_)
        · replace hf := z_ifp hf hc4
          refine lv_aload_n hx hb dX9_code_55 rfl (lv_at hl 0 rfl) ?_
          refine z_getR (C := RX9) (T := TX9) (N := 9) (ci := 9) (k := 0) (o := 0) (t := 1) E hK hP iwX9 rfl rfl (by decide) (by decide) rfl rfl rfl tw298 dX9_code_56 ?_
          refine z_getR (C := RX6) (T := TX6) (N := 6) (ci := 6) (k := 3) (o := 1) (t := 14) E hK hP iwX6 rfl rfl (by decide) (by decide) rfl rfl rfl tw132 dX9_code_59 ?_
          refine lv_iload_n hx hb dX9_code_62 rfl (lv_at hl 1 rfl) ?_
          obtain ⟨r6, S5, hz7, hf⟩ := z_bd_some hf
          refine z_ci (z_runV (o := 14) (ci := 2) E hK hP hS (c_X2_codeAt hq rfl (by decide) hz7) cv_X2_codeAt tw782 rfl (by decide) rfl rfl ⟨Nat.le_of_ble_eq_true rfl, Nat.le_of_ble_eq_true rfl⟩ ⟨Nat.le_refl 0, Nat.le_refl 0⟩ hl.1 (Nat.le_of_ble_eq_true rfl) rfl dX9_code_63) hS (fun H locs hP hS => ?_)
          exact x_reti hx hb hr hlk hf hP hS dX9_code_66
        · replace hf := z_ifn hf hc4
          exact hJ49 S _ _ _ hf hP hS (lv_sub hl [0] rfl)
    · replace hf := z_ifn hf hc2
      exact hJ24 S _ _ _ hf hP hS (lv_sub hl [0] rfl)
theorem cv_X9_code : z_cv yX9_code cX9_code 2 (some .int) RX9 1 := ⟨⟨tw779, tw780⟩, tw781, tw1, by decide +kernel⟩
def b_X9_cache_18 (N : Nat) (S : St) : Option (Int32 × St) := z_bd (f_X9_refuse N ((-1)) S) fun r9 S8 => some (r9, S8)
def b_X9_cache_33 (N : Nat) (S : St) : Option (Int32 × St) := z_bd (f_X9_refuse N ((-2)) S) fun r12 S11 => some (r12, S11)
def f_X9_cache (N : Nat) (a1 : Int32) (a2 : Int32) (S : St) : Option (Int32 × St) := if a1 < 0 then (b_X9_cache_18 N S) else (if a1 < (S 2 7) then (if a2 < 0 then (b_X9_cache_33 N S) else (if a2 ≤ 3 then (z_bd (f_X0_tell N (10) (a1) (a2) S) fun r6 S5 => some (r6, S5)) else (b_X9_cache_33 N S))) else (b_X9_cache_18 N S))
set_option maxHeartbeats 4000000 in
set_option maxRecDepth 100000 in
theorem c_X9_cache {l : Launch} {G : Cx} {M S S' : St} {N : Nat} {a1 : Int32} {a2 : Int32} {r : Int32} (hq : z_inj (gq G)) (hf : f_X9_cache N a1 a2 S = some (r, S')) : z_Ct l yX9_cache cX9_cache 3 (some .int) 3 64 G S M [.ref (gq G (0)), .int (a1), .int (a2)] (z_QI G S' M r) := by
  refine z_start (by decide +kernel) (Nat.le_of_ble_eq_true rfl) ?_
  intro p e s m below meth c ls E hr hlk hK hP hS hl
  have E : CallFix p m c cX9_cache 3 s _ lw_good RX9 := E
  have hx := E.1
  have hb := E.2.1
  have hown := E.2.2.2.1
  have hts := E.2.2.2.2
  have hJ18 : ∀ (S : St) (H : Heap) (locs : List Loc) (ls : Array Slot), b_X9_cache_18 N S = some (r, S') → z_P G S M H → z_S G s.heap H locs → lv_has ls 3 [(0, .ref (gq G (0)))] → W p l e (z_rm 3 64) s m ([.ref (gq G (0)), .int (a1), .int (a2)] : List Value).toArray below meth c H locs 0 0 (MQ below (z_QI G S' M r) ([.ref (gq G (0)), .int (a1), .int (a2)] : List Value).toArray s 0 0 (z_Aq (gq G))) (F0 m 18 ls []) := by
    intro S H locs ls hf hP hS hl
    unfold b_X9_cache_18 at hf
    refine lv_aload_n hx hb dX9_cache_18 rfl (lv_at hl 0 rfl) ?_
    refine lv_iconst (v := (-1)) hx hb dX9_cache_19 (by decide) ?_
    obtain ⟨r9, S8, hz10, hf⟩ := z_bd_some hf
    refine z_ci (z_runV (o := 0) (ci := 9) E hK hP hS (c_X9_refuse hq hz10) cv_X9_refuse tw330 rfl (by decide) rfl rfl ⟨Nat.le_of_ble_eq_true rfl, Nat.le_of_ble_eq_true rfl⟩ ⟨Nat.le_refl 0, Nat.le_refl 0⟩ hl.1 (Nat.le_of_ble_eq_true rfl) rfl dX9_cache_20) hS (fun H locs hP hS => ?_)
    exact x_reti hx hb hr hlk hf hP hS dX9_cache_23
  have hJ33 : ∀ (S : St) (H : Heap) (locs : List Loc) (ls : Array Slot), b_X9_cache_33 N S = some (r, S') → z_P G S M H → z_S G s.heap H locs → lv_has ls 3 [(0, .ref (gq G (0)))] → W p l e (z_rm 3 64) s m ([.ref (gq G (0)), .int (a1), .int (a2)] : List Value).toArray below meth c H locs 0 0 (MQ below (z_QI G S' M r) ([.ref (gq G (0)), .int (a1), .int (a2)] : List Value).toArray s 0 0 (z_Aq (gq G))) (F0 m 33 ls []) := by
    intro S H locs ls hf hP hS hl
    unfold b_X9_cache_33 at hf
    refine lv_aload_n hx hb dX9_cache_33 rfl (lv_at hl 0 rfl) ?_
    refine lv_bipush (v := (-2)) hx hb dX9_cache_34 (by decide) ?_
    obtain ⟨r12, S11, hz13, hf⟩ := z_bd_some hf
    refine z_ci (z_runV (o := 0) (ci := 9) E hK hP hS (c_X9_refuse hq hz13) cv_X9_refuse tw330 rfl (by decide) rfl rfl ⟨Nat.le_of_ble_eq_true rfl, Nat.le_of_ble_eq_true rfl⟩ ⟨Nat.le_refl 0, Nat.le_refl 0⟩ hl.1 (Nat.le_of_ble_eq_true rfl) rfl dX9_cache_36) hS (fun H locs hP hS => ?_)
    exact x_reti hx hb hr hlk hf hP hS dX9_cache_39
  have hl : lv_has ls 3 [(0, .ref (gq G (0))), (1, .int (a1)), (2, .int (a2))] := hl
  unfold f_X9_cache at hf
  refine lv_iload_n hx hb dX9_cache_0 rfl (lv_at hl 1 rfl) ?_
  refine lv_if_lt (tgt := 18) hx hb dX9_cache_1 (by decide) (fun hc1 => ?_) (fun hc1 => ?_)
  · replace hf := z_ifp hf hc1
    exact hJ18 S _ _ _ hf hP hS (lv_sub hl [0] rfl)
  · replace hf := z_ifn hf hc1
    refine lv_iload_n hx hb dX9_cache_4 rfl (lv_at hl 1 rfl) ?_
    refine lv_aload_n hx hb dX9_cache_5 rfl (lv_at hl 0 rfl) ?_
    refine z_getR (C := RX9) (T := TX9) (N := 9) (ci := 9) (k := 0) (o := 0) (t := 1) E hK hP iwX9 rfl rfl (by decide) (by decide) rfl rfl rfl tw298 dX9_cache_6 ?_
    refine z_getR (C := RX6) (T := TX6) (N := 6) (ci := 6) (k := 0) (o := 1) (t := 2) E hK hP iwX6 rfl rfl (by decide) (by decide) rfl rfl rfl tw124 dX9_cache_9 ?_
    refine x_getI (C := RX5) (T := TX5) (N := 8) (ci := 5) (k := 7) (o := 2) E hK hP iwX5 rfl rfl (by decide) (by decide) rfl rfl (by decide) tw48 dX9_cache_12 ?_
    refine lv_icmp_lt (tgt := 24) hx hb dX9_cache_15 (by decide) (fun hc2 => ?_) (fun hc2 => ?_)
    · replace hf := z_ifp hf hc2
      refine lv_iload_n hx hb dX9_cache_24 rfl (lv_at hl 2 rfl) ?_
      refine lv_if_lt (tgt := 33) hx hb dX9_cache_25 (by decide) (fun hc3 => ?_) (fun hc3 => ?_)
      · replace hf := z_ifp hf hc3
        exact hJ33 S _ _ _ hf hP hS (lv_sub hl [0] rfl)
      · replace hf := z_ifn hf hc3
        refine lv_iload_n hx hb dX9_cache_28 rfl (lv_at hl 2 rfl) ?_
        refine lv_iconst (v := 3) hx hb dX9_cache_29 (by decide) ?_
        refine lv_icmp_le (tgt := 40) hx hb dX9_cache_30 (by decide) (fun hc4 => ?_) (fun hc4 => ?_)
        · replace hf := z_ifp hf hc4
          refine lv_aload_n hx hb dX9_cache_40 rfl (lv_at hl 0 rfl) ?_
          refine z_getR (C := RX9) (T := TX9) (N := 9) (ci := 9) (k := 0) (o := 0) (t := 1) E hK hP iwX9 rfl rfl (by decide) (by decide) rfl rfl rfl tw298 dX9_cache_41 ?_
          refine z_getR (C := RX6) (T := TX6) (N := 6) (ci := 6) (k := 2) (o := 1) (t := 10) E hK hP iwX6 rfl rfl (by decide) (by decide) rfl rfl rfl tw130 dX9_cache_44 ?_
          refine lv_iload_n hx hb dX9_cache_47 rfl (lv_at hl 1 rfl) ?_
          refine lv_iload_n hx hb dX9_cache_48 rfl (lv_at hl 2 rfl) ?_
          obtain ⟨r6, S5, hz7, hf⟩ := z_bd_some hf
          refine z_ci (z_runV (o := 10) (ci := 0) E hK hP hS (c_X0_tell hq rfl (by decide) hz7) cv_X0_tell tw787 rfl (by decide) rfl rfl ⟨Nat.le_of_ble_eq_true rfl, Nat.le_of_ble_eq_true rfl⟩ ⟨Nat.le_refl 0, Nat.le_refl 0⟩ hl.1 (Nat.le_of_ble_eq_true rfl) rfl dX9_cache_49) hS (fun H locs hP hS => ?_)
          exact x_reti hx hb hr hlk hf hP hS dX9_cache_52
        · replace hf := z_ifn hf hc4
          exact hJ33 S _ _ _ hf hP hS (lv_sub hl [0] rfl)
    · replace hf := z_ifn hf hc2
      exact hJ18 S _ _ _ hf hP hS (lv_sub hl [0] rfl)
theorem cv_X9_cache : z_cv yX9_cache cX9_cache 3 (some .int) RX9 2 := ⟨⟨tw784, tw785⟩, tw786, tw1, by decide +kernel⟩
def f_X9_thinks (N : Nat) (a1 : Int32) (S : St) : Option (Int32 × St) := z_bd (f_X9_isOfEnding N (a1) S) fun r2 S1 => if r2 = 0 then (z_bd (f_X9_refuseNumber N ((-2)) S1) fun r11 S10 => some (r11, S10)) else (z_bv (f_X9_thinkOf N S1) fun S5 => z_bd (f_X2_tell N (35) (a1) S5) fun r8 S7 => some (r8, S7))
set_option maxHeartbeats 4000000 in
set_option maxRecDepth 100000 in
theorem c_X9_thinks {l : Launch} {G : Cx} {M S S' : St} {N : Nat} {a1 : Int32} {r : Int32} (hq : z_inj (gq G)) (hf : f_X9_thinks N a1 S = some (r, S')) : z_Ct l yX9_thinks cX9_thinks 2 (some .int) 6 135 G S M [.ref (gq G (0)), .int (a1)] (z_QI G S' M r) := by
  refine z_start (by decide +kernel) (Nat.le_of_ble_eq_true rfl) ?_
  intro p e s m below meth c ls E hr hlk hK hP hS hl
  have E : CallFix p m c cX9_thinks 2 s _ lw_good RX9 := E
  have hx := E.1
  have hb := E.2.1
  have hown := E.2.2.2.1
  have hts := E.2.2.2.2
  have hl : lv_has ls 2 [(0, .ref (gq G (0))), (1, .int (a1))] := hl
  unfold f_X9_thinks at hf
  refine lv_iload_n hx hb dX9_thinks_0 rfl (lv_at hl 1 rfl) ?_
  obtain ⟨r2, S1, hz3, hf⟩ := z_bd_some hf
  refine z_ci (z_runS E hK hP hS (c_X9_isOfEnding hq hz3) cs_X9_isOfEnding tw771 rfl ⟨Nat.le_of_ble_eq_true rfl, Nat.le_of_ble_eq_true rfl⟩ ⟨Nat.le_refl 0, Nat.le_refl 0⟩ hl.1 (Nat.le_of_ble_eq_true rfl) rfl dX9_thinks_1) hS (fun H locs hP hS => ?_)
  refine lv_if_ne (tgt := 14) hx hb dX9_thinks_4 (by decide) (fun hc4 => ?_) (fun hc4 => ?_)
  · replace hf := z_ifn hf hc4
    refine lv_aload_n hx hb dX9_thinks_14 rfl (lv_at hl 0 rfl) ?_
    obtain ⟨S5, hz6, hf⟩ := z_bv_some hf
    refine z_cr (z_runV (o := 0) (ci := 9) E hK hP hS (c_X9_thinkOf hq hz6) cv_X9_thinkOf tw512 rfl (by decide) rfl rfl ⟨Nat.le_of_ble_eq_true rfl, Nat.le_of_ble_eq_true rfl⟩ ⟨Nat.le_refl 0, Nat.le_refl 0⟩ hl.1 (Nat.le_of_ble_eq_true rfl) rfl dX9_thinks_15) hS (fun H locs hP hS => ?_)
    refine lv_iload_n hx hb dX9_thinks_18 rfl (lv_at hl 1 rfl) ?_
    obtain ⟨r8, S7, hz9, hf⟩ := z_bd_some hf
    refine z_ci (z_runV (o := 35) (ci := 2) E hK hP hS (c_X2_tell hq rfl (by decide) hz9) cv_X2_tell tw774 rfl (by decide) rfl rfl ⟨Nat.le_of_ble_eq_true rfl, Nat.le_of_ble_eq_true rfl⟩ ⟨Nat.le_refl 0, Nat.le_refl 0⟩ hl.1 (Nat.le_of_ble_eq_true rfl) rfl dX9_thinks_19) hS (fun H locs hP hS => ?_)
    exact x_reti hx hb hr hlk hf hP hS dX9_thinks_22
  · replace hf := z_ifp hf hc4
    refine lv_aload_n hx hb dX9_thinks_7 rfl (lv_at hl 0 rfl) ?_
    refine lv_bipush (v := (-2)) hx hb dX9_thinks_8 (by decide) ?_
    obtain ⟨r11, S10, hz12, hf⟩ := z_bd_some hf
    refine z_ci (z_runV (o := 0) (ci := 9) E hK hP hS (c_X9_refuseNumber hq hz12) cv_X9_refuseNumber tw496 rfl (by decide) rfl rfl ⟨Nat.le_of_ble_eq_true rfl, Nat.le_of_ble_eq_true rfl⟩ ⟨Nat.le_refl 0, Nat.le_refl 0⟩ hl.1 (Nat.le_of_ble_eq_true rfl) rfl dX9_thinks_10) hS (fun H locs hP hS => ?_)
    exact x_reti hx hb hr hlk hf hP hS dX9_thinks_13
theorem cv_X9_thinks : z_cv yX9_thinks cX9_thinks 2 (some .int) RX9 1 := ⟨⟨tw797, tw798⟩, tw799, tw1, by decide +kernel⟩
def f_X9_thinkWith (N : Nat) (a1 : Int32) (a2 : Int32) (S : St) : Option (St) := z_bv (f_X4_takeUp N S) fun S1 => z_bv (f_X9_put N (30) (a1) (a2) S1) fun S3 => z_bv (f_X4_perform N S3) fun S5 => some S5
set_option maxHeartbeats 4000000 in
set_option maxRecDepth 100000 in
theorem c_X9_thinkWith {l : Launch} {G : Cx} {M S S' : St} {N : Nat} {a1 : Int32} {a2 : Int32} (hq : z_inj (gq G)) (hf : f_X9_thinkWith N a1 a2 S = some S') : z_Ct l yX9_thinkWith cX9_thinkWith 3 (some (.object "ClosuresThatBounce$Ending")) 5 115 G S M [.ref (gq G (0)), .int (a1), .int (a2)] (z_QR G S' M (gq G 35)) := by
  refine z_start (by decide +kernel) (Nat.le_of_ble_eq_true rfl) ?_
  intro p e s m below meth c ls E hr hlk hK hP hS hl
  have E : CallFix p m c cX9_thinkWith 3 s _ lw_good RX9 := E
  have hx := E.1
  have hb := E.2.1
  have hown := E.2.2.2.1
  have hts := E.2.2.2.2
  have hl : lv_has ls 3 [(0, .ref (gq G (0))), (1, .int (a1)), (2, .int (a2))] := hl
  unfold f_X9_thinkWith at hf
  refine lv_aload_n hx hb dX9_thinkWith_0 rfl (lv_at hl 0 rfl) ?_
  refine z_getR (C := RX9) (T := TX9) (N := 9) (ci := 9) (k := 2) (o := 0) (t := 29) E hK hP iwX9 rfl rfl (by decide) (by decide) rfl rfl rfl tw300 dX9_thinkWith_1 ?_
  refine lv_aload_n hx hb dX9_thinkWith_4 rfl (lv_at hl 0 rfl) ?_
  refine z_getR (C := RX9) (T := TX9) (N := 9) (ci := 9) (k := 0) (o := 0) (t := 1) E hK hP iwX9 rfl rfl (by decide) (by decide) rfl rfl rfl tw298 dX9_thinkWith_5 ?_
  obtain ⟨S1, hz2, hf⟩ := z_bv_some hf
  refine z_cvo (z_runV (o := 29) (ci := 4) E hK hP hS (c_X4_takeUp hq hz2) cv_X4_takeUp tw516 rfl (by decide) rfl rfl ⟨Nat.le_of_ble_eq_true rfl, Nat.le_of_ble_eq_true rfl⟩ ⟨Nat.le_refl 0, Nat.le_refl 0⟩ hl.1 (Nat.le_of_ble_eq_true rfl) rfl dX9_thinkWith_8) hS (fun H locs hP hS => ?_)
  refine lv_aload_n hx hb dX9_thinkWith_11 rfl (lv_at hl 0 rfl) ?_
  refine z_getR (C := RX9) (T := TX9) (N := 9) (ci := 9) (k := 2) (o := 0) (t := 29) E hK hP iwX9 rfl rfl (by decide) (by decide) rfl rfl rfl tw300 dX9_thinkWith_12 ?_
  refine z_getR (C := RX4) (T := TX4) (N := 13) (ci := 4) (k := 0) (o := 29) (t := 30) E hK hP iwX4 rfl rfl (by decide) (by decide) rfl rfl rfl tw224 dX9_thinkWith_15 ?_
  refine lv_iload_n hx hb dX9_thinkWith_18 rfl (lv_at hl 1 rfl) ?_
  refine lv_iload_n hx hb dX9_thinkWith_19 rfl (lv_at hl 2 rfl) ?_
  obtain ⟨S3, hz4, hf⟩ := z_bv_some hf
  refine z_cvo (z_runS E hK hP hS (c_X9_put hq rfl (by decide) hz4) cs_X9_put tw337 rfl ⟨Nat.le_of_ble_eq_true rfl, Nat.le_of_ble_eq_true rfl⟩ ⟨Nat.le_refl 0, Nat.le_refl 0⟩ hl.1 (Nat.le_of_ble_eq_true rfl) rfl dX9_thinkWith_20) hS (fun H locs hP hS => ?_)
  refine lv_aload_n hx hb dX9_thinkWith_23 rfl (lv_at hl 0 rfl) ?_
  refine z_getR (C := RX9) (T := TX9) (N := 9) (ci := 9) (k := 2) (o := 0) (t := 29) E hK hP iwX9 rfl rfl (by decide) (by decide) rfl rfl rfl tw300 dX9_thinkWith_24 ?_
  obtain ⟨S5, hz6, hf⟩ := z_bv_some hf
  refine z_cr (z_runV (o := 29) (ci := 4) E hK hP hS (c_X4_perform hq hz6) cv_X4_perform tw534 rfl (by decide) rfl rfl ⟨Nat.le_of_ble_eq_true rfl, Nat.le_of_ble_eq_true rfl⟩ ⟨Nat.le_refl 0, Nat.le_refl 0⟩ hl.1 (Nat.le_of_ble_eq_true rfl) rfl dX9_thinkWith_27) hS (fun H locs hP hS => ?_)
  exact x_retr hx hb hr hlk hf hP hS dX9_thinkWith_30
theorem cv_X9_thinkWith : z_cv yX9_thinkWith cX9_thinkWith 3 (some (.object "ClosuresThatBounce$Ending")) RX9 2 := ⟨⟨tw806, twp26⟩, tw807, tw1, by decide +kernel⟩
def b_X9_with_23 (N : Nat) (v1 : Int32) (v2 : Int32) (v3 : Int32) (v4 : Int32) (S : St) : Option (Int32 × St) := if v4 = 0 then (z_bv (f_X9_thinkWith N (v1) (v2) S) fun S10 => z_bd (f_X2_tell N (35) (v3) S10) fun r13 S12 => some (r13, S12)) else (z_bd (f_X9_refuseNumber N (v4) S) fun r16 S15 => some (r16, S15))
def f_X9_with (N : Nat) (a1 : Int32) (a2 : Int32) (a3 : Int32) (S : St) : Option (Int32 × St) := z_bd (f_X9_refusalOfGlobal N (a1) (a2) S) fun r2 S1 => if r2 = 0 then (z_bd (f_X9_isOfEnding N (a3) S1) fun r6 S5 => if r6 = 0 then (b_X9_with_23 N (a1) (a2) (a3) ((-2)) S5) else (b_X9_with_23 N (a1) (a2) (a3) (r2) S5)) else (b_X9_with_23 N (a1) (a2) (a3) (r2) S1)
set_option maxHeartbeats 4000000 in
set_option maxRecDepth 100000 in
theorem c_X9_with {l : Launch} {G : Cx} {M S S' : St} {N : Nat} {a1 : Int32} {a2 : Int32} {a3 : Int32} {r : Int32} (hq : z_inj (gq G)) (hf : f_X9_with N a1 a2 a3 S = some (r, S')) : z_Ct l yX9_with cX9_with 5 (some .int) 6 137 G S M [.ref (gq G (0)), .int (a1), .int (a2), .int (a3)] (z_QI G S' M r) := by
  refine z_start (by decide +kernel) (Nat.le_of_ble_eq_true rfl) ?_
  intro p e s m below meth c ls E hr hlk hK hP hS hl
  have E : CallFix p m c cX9_with 5 s _ lw_good RX9 := E
  have hx := E.1
  have hb := E.2.1
  have hown := E.2.2.2.1
  have hts := E.2.2.2.2
  have hJ23 : ∀ (v1 : Int32) (v2 : Int32) (v3 : Int32) (v4 : Int32) (S : St) (H : Heap) (locs : List Loc) (ls : Array Slot), b_X9_with_23 N v1 v2 v3 v4 S = some (r, S') → z_P G S M H → z_S G s.heap H locs → lv_has ls 5 [(0, .ref (gq G (0))), (1, .int (v1)), (2, .int (v2)), (3, .int (v3)), (4, .int (v4))] → W p l e (z_rm 6 137) s m ([.ref (gq G (0)), .int (a1), .int (a2), .int (a3)] : List Value).toArray below meth c H locs 0 0 (MQ below (z_QI G S' M r) ([.ref (gq G (0)), .int (a1), .int (a2), .int (a3)] : List Value).toArray s 0 0 (z_Aq (gq G))) (F0 m 23 ls []) := by
    intro v1 v2 v3 v4 S H locs ls hf hP hS hl
    unfold b_X9_with_23 at hf
    refine lv_iload hx hb dX9_with_23 (lv_at hl 4 rfl) ?_
    refine lv_if_eq (tgt := 35) hx hb dX9_with_25 (by decide) (fun hc9 => ?_) (fun hc9 => ?_)
    · replace hf := z_ifp hf hc9
      refine lv_aload_n hx hb dX9_with_35 rfl (lv_at hl 0 rfl) ?_
      refine lv_iload_n hx hb dX9_with_36 rfl (lv_at hl 1 rfl) ?_
      refine lv_iload_n hx hb dX9_with_37 rfl (lv_at hl 2 rfl) ?_
      obtain ⟨S10, hz11, hf⟩ := z_bv_some hf
      refine z_cr (z_runV (o := 0) (ci := 9) E hK hP hS (c_X9_thinkWith hq hz11) cv_X9_thinkWith tw804 rfl (by decide) rfl rfl ⟨Nat.le_of_ble_eq_true rfl, Nat.le_of_ble_eq_true rfl⟩ ⟨Nat.le_refl 0, Nat.le_refl 0⟩ hl.1 (Nat.le_of_ble_eq_true rfl) rfl dX9_with_38) hS (fun H locs hP hS => ?_)
      refine lv_iload_n hx hb dX9_with_41 rfl (lv_at hl 3 rfl) ?_
      obtain ⟨r13, S12, hz14, hf⟩ := z_bd_some hf
      refine z_ci (z_runV (o := 35) (ci := 2) E hK hP hS (c_X2_tell hq rfl (by decide) hz14) cv_X2_tell tw774 rfl (by decide) rfl rfl ⟨Nat.le_of_ble_eq_true rfl, Nat.le_of_ble_eq_true rfl⟩ ⟨Nat.le_refl 0, Nat.le_refl 0⟩ hl.1 (Nat.le_of_ble_eq_true rfl) rfl dX9_with_42) hS (fun H locs hP hS => ?_)
      exact x_reti hx hb hr hlk hf hP hS dX9_with_45
    · replace hf := z_ifn hf hc9
      refine lv_aload_n hx hb dX9_with_28 rfl (lv_at hl 0 rfl) ?_
      refine lv_iload hx hb dX9_with_29 (lv_at hl 4 rfl) ?_
      obtain ⟨r16, S15, hz17, hf⟩ := z_bd_some hf
      refine z_ci (z_runV (o := 0) (ci := 9) E hK hP hS (c_X9_refuseNumber hq hz17) cv_X9_refuseNumber tw496 rfl (by decide) rfl rfl ⟨Nat.le_of_ble_eq_true rfl, Nat.le_of_ble_eq_true rfl⟩ ⟨Nat.le_refl 0, Nat.le_refl 0⟩ hl.1 (Nat.le_of_ble_eq_true rfl) rfl dX9_with_31) hS (fun H locs hP hS => ?_)
      exact x_reti hx hb hr hlk hf hP hS dX9_with_34
  have hl : lv_has ls 5 [(0, .ref (gq G (0))), (1, .int (a1)), (2, .int (a2)), (3, .int (a3))] := hl
  unfold f_X9_with at hf
  refine lv_iload_n hx hb dX9_with_0 rfl (lv_at hl 1 rfl) ?_
  refine lv_iload_n hx hb dX9_with_1 rfl (lv_at hl 2 rfl) ?_
  obtain ⟨r2, S1, hz3, hf⟩ := z_bd_some hf
  refine z_ci (z_runS E hK hP hS (c_X9_refusalOfGlobal hq hz3) cs_X9_refusalOfGlobal tw505 rfl ⟨Nat.le_of_ble_eq_true rfl, Nat.le_of_ble_eq_true rfl⟩ ⟨Nat.le_refl 0, Nat.le_refl 0⟩ hl.1 (Nat.le_of_ble_eq_true rfl) rfl dX9_with_2) hS (fun H locs hP hS => ?_)
  refine lv_istore (lv' := [(4, .int (r2)), (0, .ref (gq G (0))), (1, .int (a1)), (2, .int (a2)), (3, .int (a3))]) hx hb dX9_with_5 hl (by decide) rfl (fun ls hl => ?_)
  refine lv_iload hx hb dX9_with_7 (lv_at hl 0 rfl) ?_
  refine lv_if_ne (tgt := 23) hx hb dX9_with_9 (by decide) (fun hc4 => ?_) (fun hc4 => ?_)
  · replace hf := z_ifn hf hc4
    exact hJ23 (a1) (a2) (a3) (r2) S1 _ _ _ hf hP hS (lv_sub hl [1, 2, 3, 4, 0] rfl)
  · replace hf := z_ifp hf hc4
    refine lv_iload_n hx hb dX9_with_12 rfl (lv_at hl 4 rfl) ?_
    obtain ⟨r6, S5, hz7, hf⟩ := z_bd_some hf
    refine z_ci (z_runS E hK hP hS (c_X9_isOfEnding hq hz7) cs_X9_isOfEnding tw771 rfl ⟨Nat.le_of_ble_eq_true rfl, Nat.le_of_ble_eq_true rfl⟩ ⟨Nat.le_refl 0, Nat.le_refl 0⟩ hl.1 (Nat.le_of_ble_eq_true rfl) rfl dX9_with_13) hS (fun H locs hP hS => ?_)
    refine lv_if_ne (tgt := 23) hx hb dX9_with_16 (by decide) (fun hc8 => ?_) (fun hc8 => ?_)
    · replace hf := z_ifn hf hc8
      exact hJ23 (a1) (a2) (a3) (r2) S5 _ _ _ hf hP hS (lv_sub hl [1, 2, 3, 4, 0] rfl)
    · replace hf := z_ifp hf hc8
      refine lv_bipush (v := (-2)) hx hb dX9_with_19 (by decide) ?_
      refine lv_istore (lv' := [(4, .int ((-2))), (0, .ref (gq G (0))), (1, .int (a1)), (2, .int (a2)), (3, .int (a3))]) hx hb dX9_with_21 hl (by decide) rfl (fun ls hl => ?_)
      exact hJ23 (a1) (a2) (a3) ((-2)) S5 _ _ _ hf hP hS (lv_sub hl [1, 2, 3, 4, 0] rfl)
theorem cv_X9_with : z_cv yX9_with cX9_with 5 (some .int) RX9 3 := ⟨⟨tw801, tw802⟩, tw803, tw1, by decide +kernel⟩
def b_X9_solve_20 (N : Nat) (k20 : Int32 → Int32 → Int32 → St → Option (Int32 × St)) (v1 : Int32) (v2 : Int32) (v4 : Int32) (S : St) : Option (Int32 × St) := if 20 < v4 then (some (999999999, S)) else (z_bv (f_X9_thinkWith N (v1) (v4) S) fun S9 => z_bd (f_X2_isNumber N (35) (v2) S9) fun r12 S11 => if r12 = 0 then (k20 (v1) (v2) ((v4 + 1)) S11) else (some (v4, S11)))
def f_X9_solve_20 (N : Nat) : Nat → Int32 → Int32 → Int32 → St → Option (Int32 × St)
  | 0 => fun _ _ _ _ => none
  | n + 1 => b_X9_solve_20 N (f_X9_solve_20 N n)
def f_X9_solve (N : Nat) (a1 : Int32) (a2 : Int32) (S : St) : Option (Int32 × St) := z_bd (f_X9_refusalOfGlobal N (a1) (a2) S) fun r2 S1 => if r2 = 0 then (f_X9_solve_20 N N (a1) (a2) ((-20)) S1) else (z_bd (f_X9_refuseNumber N (r2) S1) fun r6 S5 => some (r6, S5))
set_option maxHeartbeats 4000000 in
set_option maxRecDepth 100000 in
theorem c_X9_solve {l : Launch} {G : Cx} {M S S' : St} {N : Nat} {a1 : Int32} {a2 : Int32} {r : Int32} (hq : z_inj (gq G)) (hf : f_X9_solve N a1 a2 S = some (r, S')) : z_Ct l yX9_solve cX9_solve 5 (some .int) 6 137 G S M [.ref (gq G (0)), .int (a1), .int (a2)] (z_QI G S' M r) := by
  refine z_start (by decide +kernel) (Nat.le_of_ble_eq_true rfl) ?_
  intro p e s m below meth c ls E hr hlk hK hP hS hl
  have E : CallFix p m c cX9_solve 5 s _ lw_good RX9 := E
  have hx := E.1
  have hb := E.2.1
  have hown := E.2.2.2.1
  have hts := E.2.2.2.2
  have hB20 : ∀ (k20 : Int32 → Int32 → Int32 → St → Option (Int32 × St)) (hk20 : ∀ (v1 : Int32) (v2 : Int32) (v4 : Int32) (S : St) (H : Heap) (locs : List Loc) (ls : Array Slot), k20 v1 v2 v4 S = some (r, S') → z_P G S M H → z_S G s.heap H locs → lv_has ls 5 [(0, .ref (gq G (0))), (1, .int (v1)), (2, .int (v2)), (4, .int (v4))] → W p l e (z_rm 6 137) s m ([.ref (gq G (0)), .int (a1), .int (a2)] : List Value).toArray below meth c H locs 0 0 (MQ below (z_QI G S' M r) ([.ref (gq G (0)), .int (a1), .int (a2)] : List Value).toArray s 0 0 (z_Aq (gq G))) (F0 m 20 ls [])), ∀ (v1 : Int32) (v2 : Int32) (v4 : Int32) (S : St) (H : Heap) (locs : List Loc) (ls : Array Slot), b_X9_solve_20 N k20 v1 v2 v4 S = some (r, S') → z_P G S M H → z_S G s.heap H locs → lv_has ls 5 [(0, .ref (gq G (0))), (1, .int (v1)), (2, .int (v2)), (4, .int (v4))] → W p l e (z_rm 6 137) s m ([.ref (gq G (0)), .int (a1), .int (a2)] : List Value).toArray below meth c H locs 0 0 (MQ below (z_QI G S' M r) ([.ref (gq G (0)), .int (a1), .int (a2)] : List Value).toArray s 0 0 (z_Aq (gq G))) (F0 m 20 ls []) := by
    intro k20 hk20 v1 v2 v4 S H locs ls hf hP hS hl
    unfold b_X9_solve_20 at hf
    refine lv_iload hx hb dX9_solve_20 (lv_at hl 3 rfl) ?_
    refine lv_bipush (v := 20) hx hb dX9_solve_22 (by decide) ?_
    refine lv_icmp_gt (tgt := 50) hx hb dX9_solve_24 (by decide) (fun hc8 => ?_) (fun hc8 => ?_)
    · replace hf := z_ifp hf hc8
      refine lv_ldc (v := 999999999) hx hb hown (hts _ tw816) dX9_solve_50 ?_
      exact x_reti hx hb hr hlk hf hP hS dX9_solve_52
    · replace hf := z_ifn hf hc8
      refine lv_aload_n hx hb dX9_solve_27 rfl (lv_at hl 0 rfl) ?_
      refine lv_iload_n hx hb dX9_solve_28 rfl (lv_at hl 1 rfl) ?_
      refine lv_iload hx hb dX9_solve_29 (lv_at hl 3 rfl) ?_
      obtain ⟨S9, hz10, hf⟩ := z_bv_some hf
      refine z_cr (z_runV (o := 0) (ci := 9) E hK hP hS (c_X9_thinkWith hq hz10) cv_X9_thinkWith tw804 rfl (by decide) rfl rfl ⟨Nat.le_of_ble_eq_true rfl, Nat.le_of_ble_eq_true rfl⟩ ⟨Nat.le_refl 0, Nat.le_refl 0⟩ hl.1 (Nat.le_of_ble_eq_true rfl) rfl dX9_solve_31) hS (fun H locs hP hS => ?_)
      refine lv_iload_n hx hb dX9_solve_34 rfl (lv_at hl 2 rfl) ?_
      obtain ⟨r12, S11, hz13, hf⟩ := z_bd_some hf
      refine z_ci (z_runV (o := 35) (ci := 2) E hK hP hS (c_X2_isNumber hq rfl (by decide) hz13) cv_X2_isNumber tw812 rfl (by decide) rfl rfl ⟨Nat.le_of_ble_eq_true rfl, Nat.le_of_ble_eq_true rfl⟩ ⟨Nat.le_refl 0, Nat.le_refl 0⟩ hl.1 (Nat.le_of_ble_eq_true rfl) rfl dX9_solve_35) hS (fun H locs hP hS => ?_)
      refine lv_if_eq (tgt := 44) hx hb dX9_solve_38 (by decide) (fun hc14 => ?_) (fun hc14 => ?_)
      · replace hf := z_ifp hf hc14
        refine lv_iinc (v := (v4 + 1)) (lv' := [(4, .int ((v4 + 1))), (0, .ref (gq G (0))), (1, .int (v1)), (2, .int (v2))]) hx hb dX9_solve_44 hl (k := 3) rfl rfl (by decide) rfl (fun ls hl => ?_)
        refine lv_goto (tgt := 20) hx hb dX9_solve_47 (by decide) ?_
        exact hk20 (v1) (v2) ((v4 + 1)) S11 _ _ _ hf hP hS (lv_sub hl [1, 2, 3, 0] rfl)
      · replace hf := z_ifn hf hc14
        refine lv_iload hx hb dX9_solve_41 (lv_at hl 3 rfl) ?_
        exact x_reti hx hb hr hlk hf hP hS dX9_solve_43
  have hL20 : ∀ (n : Nat), ∀ (v1 : Int32) (v2 : Int32) (v4 : Int32) (S : St) (H : Heap) (locs : List Loc) (ls : Array Slot), f_X9_solve_20 N n v1 v2 v4 S = some (r, S') → z_P G S M H → z_S G s.heap H locs → lv_has ls 5 [(0, .ref (gq G (0))), (1, .int (v1)), (2, .int (v2)), (4, .int (v4))] → W p l e (z_rm 6 137) s m ([.ref (gq G (0)), .int (a1), .int (a2)] : List Value).toArray below meth c H locs 0 0 (MQ below (z_QI G S' M r) ([.ref (gq G (0)), .int (a1), .int (a2)] : List Value).toArray s 0 0 (z_Aq (gq G))) (F0 m 20 ls []) := by
    intro  n
    induction n with
    | zero => intro _ _ _ _ _ _ _ hf; cases hf
    | succ n ih => exact hB20  _  ih
  have hl : lv_has ls 5 [(0, .ref (gq G (0))), (1, .int (a1)), (2, .int (a2))] := hl
  unfold f_X9_solve at hf
  refine lv_iload_n hx hb dX9_solve_0 rfl (lv_at hl 1 rfl) ?_
  refine lv_iload_n hx hb dX9_solve_1 rfl (lv_at hl 2 rfl) ?_
  obtain ⟨r2, S1, hz3, hf⟩ := z_bd_some hf
  refine z_ci (z_runS E hK hP hS (c_X9_refusalOfGlobal hq hz3) cs_X9_refusalOfGlobal tw505 rfl ⟨Nat.le_of_ble_eq_true rfl, Nat.le_of_ble_eq_true rfl⟩ ⟨Nat.le_refl 0, Nat.le_refl 0⟩ hl.1 (Nat.le_of_ble_eq_true rfl) rfl dX9_solve_2) hS (fun H locs hP hS => ?_)
  refine lv_istore_n (lv' := [(3, .int (r2)), (0, .ref (gq G (0))), (1, .int (a1)), (2, .int (a2))]) hx hb dX9_solve_5 rfl hl (by decide) rfl (fun ls hl => ?_)
  refine lv_iload_n hx hb dX9_solve_6 rfl (lv_at hl 0 rfl) ?_
  refine lv_if_eq (tgt := 16) hx hb dX9_solve_7 (by decide) (fun hc4 => ?_) (fun hc4 => ?_)
  · replace hf := z_ifp hf hc4
    refine lv_bipush (v := (-20)) hx hb dX9_solve_16 (by decide) ?_
    refine lv_istore (lv' := [(4, .int ((-20))), (3, .int (r2)), (0, .ref (gq G (0))), (1, .int (a1)), (2, .int (a2))]) hx hb dX9_solve_18 hl (by decide) rfl (fun ls hl => ?_)
    exact hL20 N (a1) (a2) ((-20)) S1 _ _ _ hf hP hS (lv_sub hl [2, 3, 4, 0] rfl)
  · replace hf := z_ifn hf hc4
    refine lv_aload_n hx hb dX9_solve_10 rfl (lv_at hl 1 rfl) ?_
    refine lv_iload_n hx hb dX9_solve_11 rfl (lv_at hl 0 rfl) ?_
    obtain ⟨r6, S5, hz7, hf⟩ := z_bd_some hf
    refine z_ci (z_runV (o := 0) (ci := 9) E hK hP hS (c_X9_refuseNumber hq hz7) cv_X9_refuseNumber tw496 rfl (by decide) rfl rfl ⟨Nat.le_of_ble_eq_true rfl, Nat.le_of_ble_eq_true rfl⟩ ⟨Nat.le_refl 0, Nat.le_refl 0⟩ hl.1 (Nat.le_of_ble_eq_true rfl) rfl dX9_solve_12) hS (fun H locs hP hS => ?_)
    exact x_reti hx hb hr hlk hf hP hS dX9_solve_15
theorem cv_X9_solve : z_cv yX9_solve cX9_solve 5 (some .int) RX9 2 := ⟨⟨tw809, tw810⟩, tw811, tw1, by decide +kernel⟩
