def b_X9_fewest_22 (N : Nat) (S : St) : Option (Int32 × St) := z_bd (f_X9_refuseNumber N ((-2)) S) fun r11 S10 => some (r11, S10)
def b_X9_fewest_85 (N : Nat) (k40 : Int32 → Int32 → Int32 → Int32 → Int32 → St → Option (Int32 × St)) (v1 : Int32) (v2 : Int32) (v3 : Int32) (v4 : Int32) (v5 : Int32) (S : St) : Option (Int32 × St) := k40 (v1) (v2) (v3) (v4) ((v5 + 1)) S
def b_X9_fewest_40 (N : Nat) (k40 : Int32 → Int32 → Int32 → Int32 → Int32 → St → Option (Int32 × St)) (v1 : Int32) (v2 : Int32) (v3 : Int32) (v4 : Int32) (v5 : Int32) (S : St) : Option (Int32 × St) := if 20 < v5 then (if v2 = 0 then (some (v3, S)) else (some (v4, S))) else (z_bv (f_X9_thinkWith N (v1) (v5) S) fun S15 => if (S15 35 0) = 3 then (b_X9_fewest_85 N k40 (v1) (v2) (v3) (v4) (v5) S15) else (if v4 ≤ (S15 35 2) then (b_X9_fewest_85 N k40 (v1) (v2) (v3) (v4) (v5) S15) else (b_X9_fewest_85 N k40 (v1) (v2) (v5) ((S15 35 2)) (v5) S15)))
def f_X9_fewest_40 (N : Nat) : Nat → Int32 → Int32 → Int32 → Int32 → Int32 → St → Option (Int32 × St)
  | 0 => fun _ _ _ _ _ _ => none
  | n + 1 => b_X9_fewest_40 N (f_X9_fewest_40 N n)
def f_X9_fewest (N : Nat) (a1 : Int32) (a2 : Int32) (S : St) : Option (Int32 × St) := z_bd (f_X9_isVariable N (a1) S) fun r2 S1 => if r2 = 0 then (z_bd (f_X9_refuseNumber N ((-1)) S1) fun r8 S7 => some (r8, S7)) else (if a2 < 0 then (b_X9_fewest_22 N S1) else (if a2 ≤ 1 then (f_X9_fewest_40 N N (a1) (a2) (999999999) (999999999) ((-20)) S1) else (b_X9_fewest_22 N S1)))
set_option maxHeartbeats 4000000 in
set_option maxRecDepth 100000 in
theorem c_X9_fewest {l : Launch} {G : Cx} {M S S' : St} {N : Nat} {a1 : Int32} {a2 : Int32} {r : Int32} (hq : z_inj (gq G)) (hf : f_X9_fewest N a1 a2 S = some (r, S')) : z_Ct l yX9_fewest cX9_fewest 7 (some .int) 6 137 G S M [.ref (gq G (0)), .int (a1), .int (a2)] (z_QI G S' M r) := by
  refine z_start (by decide +kernel) (Nat.le_of_ble_eq_true rfl) ?_
  intro p e s m below meth c ls E hr hlk hK hP hS hl
  have E : CallFix p m c cX9_fewest 7 s _ lw_good RX9 := E
  have hx := E.1
  have hb := E.2.1
  have hown := E.2.2.2.1
  have hts := E.2.2.2.2
  have hJ22 : ∀ (S : St) (H : Heap) (locs : List Loc) (ls : Array Slot), b_X9_fewest_22 N S = some (r, S') → z_P G S M H → z_S G s.heap H locs → lv_has ls 7 [(0, .ref (gq G (0)))] → W p l e (z_rm 6 137) s m ([.ref (gq G (0)), .int (a1), .int (a2)] : List Value).toArray below meth c H locs 0 0 (MQ below (z_QI G S' M r) ([.ref (gq G (0)), .int (a1), .int (a2)] : List Value).toArray s 0 0 (z_Aq (gq G))) (F0 m 22 ls []) := by
    intro S H locs ls hf hP hS hl
    unfold b_X9_fewest_22 at hf
    refine lv_aload_n hx hb dX9_fewest_22 rfl (lv_at hl 0 rfl) ?_
    refine lv_bipush (v := (-2)) hx hb dX9_fewest_23 (by decide) ?_
    obtain ⟨r11, S10, hz12, hf⟩ := z_bd_some hf
    refine z_ci (z_runV (o := 0) (ci := 9) E hK hP hS (c_X9_refuseNumber hq hz12) cv_X9_refuseNumber tw496 rfl (by decide) rfl rfl ⟨Nat.le_of_ble_eq_true rfl, Nat.le_of_ble_eq_true rfl⟩ ⟨Nat.le_refl 0, Nat.le_refl 0⟩ hl.1 (Nat.le_of_ble_eq_true rfl) rfl dX9_fewest_25) hS (fun H locs hP hS => ?_)
    exact x_reti hx hb hr hlk hf hP hS dX9_fewest_28
  have hJ85 : ∀ (k40 : Int32 → Int32 → Int32 → Int32 → Int32 → St → Option (Int32 × St)) (hk40 : ∀ (v1 : Int32) (v2 : Int32) (v3 : Int32) (v4 : Int32) (v5 : Int32) (S : St) (H : Heap) (locs : List Loc) (ls : Array Slot), k40 v1 v2 v3 v4 v5 S = some (r, S') → z_P G S M H → z_S G s.heap H locs → lv_has ls 7 [(0, .ref (gq G (0))), (1, .int (v1)), (2, .int (v2)), (3, .int (v3)), (4, .int (v4)), (5, .int (v5))] → W p l e (z_rm 6 137) s m ([.ref (gq G (0)), .int (a1), .int (a2)] : List Value).toArray below meth c H locs 0 0 (MQ below (z_QI G S' M r) ([.ref (gq G (0)), .int (a1), .int (a2)] : List Value).toArray s 0 0 (z_Aq (gq G))) (F0 m 40 ls [])), ∀ (v1 : Int32) (v2 : Int32) (v3 : Int32) (v4 : Int32) (v5 : Int32) (S : St) (H : Heap) (locs : List Loc) (ls : Array Slot), b_X9_fewest_85 N k40 v1 v2 v3 v4 v5 S = some (r, S') → z_P G S M H → z_S G s.heap H locs → lv_has ls 7 [(0, .ref (gq G (0))), (1, .int (v1)), (2, .int (v2)), (3, .int (v3)), (4, .int (v4)), (5, .int (v5))] → W p l e (z_rm 6 137) s m ([.ref (gq G (0)), .int (a1), .int (a2)] : List Value).toArray below meth c H locs 0 0 (MQ below (z_QI G S' M r) ([.ref (gq G (0)), .int (a1), .int (a2)] : List Value).toArray s 0 0 (z_Aq (gq G))) (F0 m 85 ls []) := by
    intro k40 hk40 v1 v2 v3 v4 v5 S H locs ls hf hP hS hl
    unfold b_X9_fewest_85 at hf
    refine lv_iinc (v := (v5 + 1)) (lv' := [(5, .int ((v5 + 1))), (0, .ref (gq G (0))), (1, .int (v1)), (2, .int (v2)), (3, .int (v3)), (4, .int (v4))]) hx hb dX9_fewest_85 hl (k := 5) rfl rfl (by decide) rfl (fun ls hl => ?_)
    refine lv_goto (tgt := 40) hx hb dX9_fewest_88 (by decide) ?_
    exact hk40 (v1) (v2) (v3) (v4) ((v5 + 1)) S _ _ _ hf hP hS (lv_sub hl [1, 2, 3, 4, 5, 0] rfl)
  have hB40 : ∀ (k40 : Int32 → Int32 → Int32 → Int32 → Int32 → St → Option (Int32 × St)) (hk40 : ∀ (v1 : Int32) (v2 : Int32) (v3 : Int32) (v4 : Int32) (v5 : Int32) (S : St) (H : Heap) (locs : List Loc) (ls : Array Slot), k40 v1 v2 v3 v4 v5 S = some (r, S') → z_P G S M H → z_S G s.heap H locs → lv_has ls 7 [(0, .ref (gq G (0))), (1, .int (v1)), (2, .int (v2)), (3, .int (v3)), (4, .int (v4)), (5, .int (v5))] → W p l e (z_rm 6 137) s m ([.ref (gq G (0)), .int (a1), .int (a2)] : List Value).toArray below meth c H locs 0 0 (MQ below (z_QI G S' M r) ([.ref (gq G (0)), .int (a1), .int (a2)] : List Value).toArray s 0 0 (z_Aq (gq G))) (F0 m 40 ls [])), ∀ (v1 : Int32) (v2 : Int32) (v3 : Int32) (v4 : Int32) (v5 : Int32) (S : St) (H : Heap) (locs : List Loc) (ls : Array Slot), b_X9_fewest_40 N k40 v1 v2 v3 v4 v5 S = some (r, S') → z_P G S M H → z_S G s.heap H locs → lv_has ls 7 [(0, .ref (gq G (0))), (1, .int (v1)), (2, .int (v2)), (3, .int (v3)), (4, .int (v4)), (5, .int (v5))] → W p l e (z_rm 6 137) s m ([.ref (gq G (0)), .int (a1), .int (a2)] : List Value).toArray below meth c H locs 0 0 (MQ below (z_QI G S' M r) ([.ref (gq G (0)), .int (a1), .int (a2)] : List Value).toArray s 0 0 (z_Aq (gq G))) (F0 m 40 ls []) := by
    intro k40 hk40 v1 v2 v3 v4 v5 S H locs ls hf hP hS hl
    unfold b_X9_fewest_40 at hf
    refine lv_iload hx hb dX9_fewest_40 (lv_at hl 5 rfl) ?_
    refine lv_bipush (v := 20) hx hb dX9_fewest_42 (by decide) ?_
    refine lv_icmp_gt (tgt := 91) hx hb dX9_fewest_44 (by decide) (fun hc13 => ?_) (fun hc13 => ?_)
    · replace hf := z_ifp hf hc13
      refine lv_iload_n hx hb dX9_fewest_91 rfl (lv_at hl 2 rfl) ?_
      refine lv_if_ne (tgt := 99) hx hb dX9_fewest_92 (by decide) (fun hc14 => ?_) (fun hc14 => ?_)
      · replace hf := z_ifn hf hc14
        refine lv_iload hx hb dX9_fewest_99 (lv_at hl 4 rfl) ?_
        exact x_reti hx hb hr hlk hf hP hS dX9_fewest_101
      · replace hf := z_ifp hf hc14
        refine lv_iload_n hx hb dX9_fewest_95 rfl (lv_at hl 3 rfl) ?_
        refine lv_goto (tgt := 101) hx hb dX9_fewest_96 (by decide) ?_
        exact x_reti hx hb hr hlk hf hP hS dX9_fewest_101
    · replace hf := z_ifn hf hc13
      refine lv_aload_n hx hb dX9_fewest_47 rfl (lv_at hl 0 rfl) ?_
      refine lv_iload_n hx hb dX9_fewest_48 rfl (lv_at hl 1 rfl) ?_
      refine lv_iload hx hb dX9_fewest_49 (lv_at hl 5 rfl) ?_
      obtain ⟨S15, hz16, hf⟩ := z_bv_some hf
      refine z_cr (z_runV (o := 0) (ci := 9) E hK hP hS (c_X9_thinkWith hq hz16) cv_X9_thinkWith tw804 rfl (by decide) rfl rfl ⟨Nat.le_of_ble_eq_true rfl, Nat.le_of_ble_eq_true rfl⟩ ⟨Nat.le_refl 0, Nat.le_refl 0⟩ hl.1 (Nat.le_of_ble_eq_true rfl) rfl dX9_fewest_51) hS (fun H locs hP hS => ?_)
      refine lv_astore (lv' := [(6, .ref (gq G (35))), (0, .ref (gq G (0))), (1, .int (v1)), (2, .int (v2)), (3, .int (v3)), (4, .int (v4)), (5, .int (v5))]) hx hb dX9_fewest_54 hl (by decide) rfl (fun ls hl => ?_)
      refine lv_aload hx hb dX9_fewest_56 (lv_at hl 0 rfl) ?_
      refine x_getI (C := RX2) (T := TX2) (N := 7) (ci := 2) (k := 0) (o := 35) E hK hP iwX2 rfl rfl (by decide) (by decide) rfl rfl (by decide) tw91 dX9_fewest_58 ?_
      refine lv_iconst (v := 3) hx hb dX9_fewest_61 (by decide) ?_
      refine lv_icmp_eq (tgt := 85) hx hb dX9_fewest_62 (by decide) (fun hc17 => ?_) (fun hc17 => ?_)
      · replace hf := z_ifp hf hc17
        exact hJ85 k40 hk40 (v1) (v2) (v3) (v4) (v5) S15 _ _ _ hf hP hS (lv_sub hl [1, 2, 3, 4, 5, 6] rfl)
      · replace hf := z_ifn hf hc17
        refine lv_aload hx hb dX9_fewest_65 (lv_at hl 0 rfl) ?_
        refine x_getI (C := RX2) (T := TX2) (N := 7) (ci := 2) (k := 2) (o := 35) E hK hP iwX2 rfl rfl (by decide) (by decide) rfl rfl (by decide) tw97 dX9_fewest_67 ?_
        refine lv_iload hx hb dX9_fewest_70 (lv_at hl 5 rfl) ?_
        refine lv_icmp_ge (tgt := 85) hx hb dX9_fewest_72 (by decide) (fun hc18 => ?_) (fun hc18 => ?_)
        · replace hf := z_ifp hf hc18
          exact hJ85 k40 hk40 (v1) (v2) (v3) (v4) (v5) S15 _ _ _ hf hP hS (lv_sub hl [1, 2, 3, 4, 5, 6] rfl)
        · replace hf := z_ifn hf hc18
          refine lv_iload hx hb dX9_fewest_75 (lv_at hl 6 rfl) ?_
          refine lv_istore_n (lv' := [(3, .int (v5)), (6, .ref (gq G (35))), (0, .ref (gq G (0))), (1, .int (v1)), (2, .int (v2)), (4, .int (v4)), (5, .int (v5))]) hx hb dX9_fewest_77 rfl hl (by decide) rfl (fun ls hl => ?_)
          refine lv_aload hx hb dX9_fewest_78 (lv_at hl 1 rfl) ?_
          refine x_getI (C := RX2) (T := TX2) (N := 7) (ci := 2) (k := 2) (o := 35) E hK hP iwX2 rfl rfl (by decide) (by decide) rfl rfl (by decide) tw97 dX9_fewest_80 ?_
          refine lv_istore (lv' := [(4, .int ((S15 35 2))), (3, .int (v5)), (6, .ref (gq G (35))), (0, .ref (gq G (0))), (1, .int (v1)), (2, .int (v2)), (5, .int (v5))]) hx hb dX9_fewest_83 hl (by decide) rfl (fun ls hl => ?_)
          exact hJ85 k40 hk40 (v1) (v2) (v5) ((S15 35 2)) (v5) S15 _ _ _ hf hP hS (lv_sub hl [3, 4, 5, 1, 0, 6] rfl)
  have hL40 : ∀ (n : Nat), ∀ (v1 : Int32) (v2 : Int32) (v3 : Int32) (v4 : Int32) (v5 : Int32) (S : St) (H : Heap) (locs : List Loc) (ls : Array Slot), f_X9_fewest_40 N n v1 v2 v3 v4 v5 S = some (r, S') → z_P G S M H → z_S G s.heap H locs → lv_has ls 7 [(0, .ref (gq G (0))), (1, .int (v1)), (2, .int (v2)), (3, .int (v3)), (4, .int (v4)), (5, .int (v5))] → W p l e (z_rm 6 137) s m ([.ref (gq G (0)), .int (a1), .int (a2)] : List Value).toArray below meth c H locs 0 0 (MQ below (z_QI G S' M r) ([.ref (gq G (0)), .int (a1), .int (a2)] : List Value).toArray s 0 0 (z_Aq (gq G))) (F0 m 40 ls []) := by
    intro  n
    induction n with
    | zero => intro _ _ _ _ _ _ _ _ _ hf; cases hf
    | succ n ih => exact hB40  _  ih
  have hl : lv_has ls 7 [(0, .ref (gq G (0))), (1, .int (a1)), (2, .int (a2))] := hl
  unfold f_X9_fewest at hf
  refine lv_iload_n hx hb dX9_fewest_0 rfl (lv_at hl 1 rfl) ?_
  obtain ⟨r2, S1, hz3, hf⟩ := z_bd_some hf
  refine z_ci (z_runS E hK hP hS (c_X9_isVariable hq hz3) cs_X9_isVariable tw493 rfl ⟨Nat.le_of_ble_eq_true rfl, Nat.le_of_ble_eq_true rfl⟩ ⟨Nat.le_refl 0, Nat.le_refl 0⟩ hl.1 (Nat.le_of_ble_eq_true rfl) rfl dX9_fewest_1) hS (fun H locs hP hS => ?_)
  refine lv_if_ne (tgt := 13) hx hb dX9_fewest_4 (by decide) (fun hc4 => ?_) (fun hc4 => ?_)
  · replace hf := z_ifn hf hc4
    refine lv_iload_n hx hb dX9_fewest_13 rfl (lv_at hl 2 rfl) ?_
    refine lv_if_lt (tgt := 22) hx hb dX9_fewest_14 (by decide) (fun hc5 => ?_) (fun hc5 => ?_)
    · replace hf := z_ifp hf hc5
      exact hJ22 S1 _ _ _ hf hP hS (lv_sub hl [0] rfl)
    · replace hf := z_ifn hf hc5
      refine lv_iload_n hx hb dX9_fewest_17 rfl (lv_at hl 2 rfl) ?_
      refine lv_iconst (v := 1) hx hb dX9_fewest_18 (by decide) ?_
      refine lv_icmp_le (tgt := 29) hx hb dX9_fewest_19 (by decide) (fun hc6 => ?_) (fun hc6 => ?_)
      · replace hf := z_ifp hf hc6
        refine lv_ldc (v := 999999999) hx hb hown (hts _ tw816) dX9_fewest_29 ?_
        refine lv_istore_n (lv' := [(3, .int (999999999)), (0, .ref (gq G (0))), (1, .int (a1)), (2, .int (a2))]) hx hb dX9_fewest_31 rfl hl (by decide) rfl (fun ls hl => ?_)
        refine lv_ldc (v := 999999999) hx hb hown (hts _ tw816) dX9_fewest_32 ?_
        refine lv_istore (lv' := [(4, .int (999999999)), (3, .int (999999999)), (0, .ref (gq G (0))), (1, .int (a1)), (2, .int (a2))]) hx hb dX9_fewest_34 hl (by decide) rfl (fun ls hl => ?_)
        refine lv_bipush (v := (-20)) hx hb dX9_fewest_36 (by decide) ?_
        refine lv_istore (lv' := [(5, .int ((-20))), (4, .int (999999999)), (3, .int (999999999)), (0, .ref (gq G (0))), (1, .int (a1)), (2, .int (a2))]) hx hb dX9_fewest_38 hl (by decide) rfl (fun ls hl => ?_)
        exact hL40 N (a1) (a2) (999999999) (999999999) ((-20)) S1 _ _ _ hf hP hS (lv_sub hl [3, 4, 5, 2, 1, 0] rfl)
      · replace hf := z_ifn hf hc6
        exact hJ22 S1 _ _ _ hf hP hS (lv_sub hl [0] rfl)
  · replace hf := z_ifp hf hc4
    refine lv_aload_n hx hb dX9_fewest_7 rfl (lv_at hl 0 rfl) ?_
    refine lv_iconst (v := (-1)) hx hb dX9_fewest_8 (by decide) ?_
    obtain ⟨r8, S7, hz9, hf⟩ := z_bd_some hf
    refine z_ci (z_runV (o := 0) (ci := 9) E hK hP hS (c_X9_refuseNumber hq hz9) cv_X9_refuseNumber tw496 rfl (by decide) rfl rfl ⟨Nat.le_of_ble_eq_true rfl, Nat.le_of_ble_eq_true rfl⟩ ⟨Nat.le_refl 0, Nat.le_refl 0⟩ hl.1 (Nat.le_of_ble_eq_true rfl) rfl dX9_fewest_9) hS (fun H locs hP hS => ?_)
    exact x_reti hx hb hr hlk hf hP hS dX9_fewest_12
theorem cv_X9_fewest : z_cv yX9_fewest cX9_fewest 7 (some .int) RX9 2 := ⟨⟨tw818, tw819⟩, tw820, tw1, by decide +kernel⟩
def b_X9_sameRows_2 (N : Nat) (o1 : Nat) (o2 : Nat) (k2 : Int32 → St → Option (Int32 × St)) (v2 : Int32) (S : St) : Option (Int32 × St) := if (nI (z_ln o1)) ≤ v2 then (if (nI (z_ln o1)) = (nI (z_ln o2)) then (some (1, S)) else (some (0, S))) else (z_gd (z_in v2 (z_ln o1)) (z_bd (f_X9_at N (o2) (v2) S) fun r5 S4 => if (S o1 (v2 : Int32).toNatClampNeg) = r5 then (k2 ((v2 + 1)) S4) else (some (0, S4))))
def f_X9_sameRows_2 (N : Nat) (o1 : Nat) (o2 : Nat) : Nat → Int32 → St → Option (Int32 × St)
  | 0 => fun _ _ => none
  | n + 1 => b_X9_sameRows_2 N o1 o2 (f_X9_sameRows_2 N o1 o2 n)
def f_X9_sameRows (N : Nat) (o1 : Nat) (o2 : Nat) (S : St) : Option (Int32 × St) := f_X9_sameRows_2 N o1 o2 N (0) S
set_option maxHeartbeats 4000000 in
set_option maxRecDepth 100000 in
theorem c_X9_sameRows {l : Launch} {G : Cx} {M S S' : St} {N : Nat} {o1 : Nat} {o2 : Nat} {r : Int32} (hq : z_inj (gq G)) (hko1 : z_kd o1 = 11) (hxo1 : o1 < 65) (hko2 : z_kd o2 = 11) (hxo2 : o2 < 65) (hf : f_X9_sameRows N o1 o2 S = some (r, S')) : z_Ct l yX9_sameRows cX9_sameRows 3 (some .boolean) 1 21 G S M [.ref (gq G (o1)), .ref (gq G (o2))] (z_QI G S' M r) := by
  refine z_start (by decide +kernel) (Nat.le_of_ble_eq_true rfl) ?_
  intro p e s m below meth c ls E hr hlk hK hP hS hl
  have E : CallFix p m c cX9_sameRows 3 s _ lw_good RX9 := E
  have hx := E.1
  have hb := E.2.1
  have hown := E.2.2.2.1
  have hts := E.2.2.2.2
  have hB2 : ∀ (k2 : Int32 → St → Option (Int32 × St)) (hk2 : ∀ (v2 : Int32) (S : St) (H : Heap) (locs : List Loc) (ls : Array Slot), k2 v2 S = some (r, S') → z_P G S M H → z_S G s.heap H locs → lv_has ls 3 [(0, .ref (gq G (o1))), (1, .ref (gq G (o2))), (2, .int (v2))] → W p l e (z_rm 1 21) s m ([.ref (gq G (o1)), .ref (gq G (o2))] : List Value).toArray below meth c H locs 0 0 (MQ below (z_QI G S' M r) ([.ref (gq G (o1)), .ref (gq G (o2))] : List Value).toArray s 0 0 (z_Aq (gq G))) (F0 m 2 ls [])), ∀ (v2 : Int32) (S : St) (H : Heap) (locs : List Loc) (ls : Array Slot), b_X9_sameRows_2 N o1 o2 k2 v2 S = some (r, S') → z_P G S M H → z_S G s.heap H locs → lv_has ls 3 [(0, .ref (gq G (o1))), (1, .ref (gq G (o2))), (2, .int (v2))] → W p l e (z_rm 1 21) s m ([.ref (gq G (o1)), .ref (gq G (o2))] : List Value).toArray below meth c H locs 0 0 (MQ below (z_QI G S' M r) ([.ref (gq G (o1)), .ref (gq G (o2))] : List Value).toArray s 0 0 (z_Aq (gq G))) (F0 m 2 ls []) := by
    intro k2 hk2 v2 S H locs ls hf hP hS hl
    unfold b_X9_sameRows_2 at hf
    refine lv_iload_n hx hb dX9_sameRows_2 rfl (lv_at hl 2 rfl) ?_
    refine lv_aload_n hx hb dX9_sameRows_3 rfl (lv_at hl 0 rfl) ?_
    refine z_aln (o := o1) E hK hP hko1 dX9_sameRows_4 ?_
    refine lv_icmp_ge (tgt := 27) hx hb dX9_sameRows_5 (by decide) (fun hc1 => ?_) (fun hc1 => ?_)
    · replace hf := z_ifp hf hc1
      refine lv_aload_n hx hb dX9_sameRows_27 rfl (lv_at hl 0 rfl) ?_
      refine z_aln (o := o1) E hK hP hko1 dX9_sameRows_28 ?_
      refine lv_aload_n hx hb dX9_sameRows_29 rfl (lv_at hl 1 rfl) ?_
      refine z_aln (o := o2) E hK hP hko2 dX9_sameRows_30 ?_
      refine lv_icmp_ne (tgt := 38) hx hb dX9_sameRows_31 (by decide) (fun hc2 => ?_) (fun hc2 => ?_)
      · replace hf := z_ifn hf hc2
        refine lv_iconst (v := 0) hx hb dX9_sameRows_38 (by decide) ?_
        exact x_retz hx hb hr hlk rfl hf hP hS dX9_sameRows_39
      · replace hf := z_ifp hf hc2
        refine lv_iconst (v := 1) hx hb dX9_sameRows_34 (by decide) ?_
        refine lv_goto (tgt := 39) hx hb dX9_sameRows_35 (by decide) ?_
        exact x_retz hx hb hr hlk rfl hf hP hS dX9_sameRows_39
    · replace hf := z_ifn hf hc1
      refine lv_aload_n hx hb dX9_sameRows_8 rfl (lv_at hl 0 rfl) ?_
      refine lv_iload_n hx hb dX9_sameRows_9 rfl (lv_at hl 2 rfl) ?_
      obtain ⟨hg3, hf⟩ := z_gd_some hf
      refine x_ald (o := o1) (i := v2) E hK hP hko1 hxo1 hg3 dX9_sameRows_10 ?_
      refine lv_aload_n hx hb dX9_sameRows_11 rfl (lv_at hl 1 rfl) ?_
      refine lv_iload_n hx hb dX9_sameRows_12 rfl (lv_at hl 2 rfl) ?_
      obtain ⟨r5, S4, hz6, hf⟩ := z_bd_some hf
      refine z_ci (z_runS E hK hP hS (c_X9_at hq hko2 hxo2 hz6) cs_X9_at tw334 rfl ⟨Nat.le_of_ble_eq_true rfl, Nat.le_of_ble_eq_true rfl⟩ ⟨Nat.le_refl 0, Nat.le_refl 0⟩ hl.1 (Nat.le_of_ble_eq_true rfl) rfl dX9_sameRows_13) hS (fun H locs hP hS => ?_)
      refine lv_icmp_eq (tgt := 21) hx hb dX9_sameRows_16 (by decide) (fun hc7 => ?_) (fun hc7 => ?_)
      · replace hf := z_ifp hf hc7
        refine lv_iinc (v := (v2 + 1)) (lv' := [(2, .int ((v2 + 1))), (0, .ref (gq G (o1))), (1, .ref (gq G (o2)))]) hx hb dX9_sameRows_21 hl (k := 2) rfl rfl (by decide) rfl (fun ls hl => ?_)
        refine lv_goto (tgt := 2) hx hb dX9_sameRows_24 (by decide) ?_
        exact hk2 ((v2 + 1)) S4 _ _ _ hf hP hS (lv_sub hl [1, 2, 0] rfl)
      · replace hf := z_ifn hf hc7
        refine lv_iconst (v := 0) hx hb dX9_sameRows_19 (by decide) ?_
        exact x_retz hx hb hr hlk rfl hf hP hS dX9_sameRows_20
  have hL2 : ∀ (n : Nat), ∀ (v2 : Int32) (S : St) (H : Heap) (locs : List Loc) (ls : Array Slot), f_X9_sameRows_2 N o1 o2 n v2 S = some (r, S') → z_P G S M H → z_S G s.heap H locs → lv_has ls 3 [(0, .ref (gq G (o1))), (1, .ref (gq G (o2))), (2, .int (v2))] → W p l e (z_rm 1 21) s m ([.ref (gq G (o1)), .ref (gq G (o2))] : List Value).toArray below meth c H locs 0 0 (MQ below (z_QI G S' M r) ([.ref (gq G (o1)), .ref (gq G (o2))] : List Value).toArray s 0 0 (z_Aq (gq G))) (F0 m 2 ls []) := by
    intro  n
    induction n with
    | zero => intro _ _ _ _ _ hf; cases hf
    | succ n ih => exact hB2  _  ih
  have hl : lv_has ls 3 [(0, .ref (gq G (o1))), (1, .ref (gq G (o2)))] := hl
  unfold f_X9_sameRows at hf
  refine lv_iconst (v := 0) hx hb dX9_sameRows_0 (by decide) ?_
  refine lv_istore_n (lv' := [(2, .int (0)), (0, .ref (gq G (o1))), (1, .ref (gq G (o2)))]) hx hb dX9_sameRows_1 rfl hl (by decide) rfl (fun ls hl => ?_)
  exact hL2 N (0) S _ _ _ hf hP hS (lv_sub hl [1, 2, 0] rfl)
theorem cs_X9_sameRows : z_cs yX9_sameRows cX9_sameRows 3 (some .boolean) 2 := ⟨tw826, tw827, tw1, by decide +kernel⟩
def b_X9_pure_44 (N : Nat) (t0 : Int32) (S : St) : Option (Int32 × St) := if t0 = 0 then (some (0, S)) else (z_bd (f_X9_sameRows N (30) (9) S) fun r9 S8 => if r9 = 0 then (some (0, S8)) else (some (1, S8)))
def b_X9_pure_43 (N : Nat) (S : St) : Option (Int32 × St) := b_X9_pure_44 N (0) S
def f_X9_pure (N : Nat) (S : St) : Option (Int32 × St) := z_bv (f_X9_thinkOf N S) fun S1 => z_bv (f_X4_perform N S1) fun S3 => if (S3 35 0) = (S1 35 0) then (if (S3 35 1) = (S1 35 1) then (b_X9_pure_44 N (1) S3) else (b_X9_pure_43 N S3)) else (b_X9_pure_43 N S3)
set_option maxHeartbeats 4000000 in
set_option maxRecDepth 100000 in
theorem c_X9_pure {l : Launch} {G : Cx} {M S S' : St} {N : Nat} {r : Int32} (hq : z_inj (gq G)) (hf : f_X9_pure N S = some (r, S')) : z_Ct l yX9_pure cX9_pure 5 (some .int) 6 135 G S M [.ref (gq G (0))] (z_QI G S' M r) := by
  refine z_start (by decide +kernel) (Nat.le_of_ble_eq_true rfl) ?_
  intro p e s m below meth c ls E hr hlk hK hP hS hl
  have E : CallFix p m c cX9_pure 5 s _ lw_good RX9 := E
  have hx := E.1
  have hb := E.2.1
  have hown := E.2.2.2.1
  have hts := E.2.2.2.2
  have hJ44 : ∀ (t0 : Int32) (S : St) (H : Heap) (locs : List Loc) (ls : Array Slot), b_X9_pure_44 N t0 S = some (r, S') → z_P G S M H → z_S G s.heap H locs → lv_has ls 5 [(0, .ref (gq G (0)))] → W p l e (z_rm 6 135) s m ([.ref (gq G (0))] : List Value).toArray below meth c H locs 0 0 (MQ below (z_QI G S' M r) ([.ref (gq G (0))] : List Value).toArray s 0 0 (z_Aq (gq G))) (F0 m 44 ls [.int (t0)]) := by
    intro t0 S H locs ls hf hP hS hl
    unfold b_X9_pure_44 at hf
    refine lv_istore (lv' := [(4, .int (t0)), (0, .ref (gq G (0)))]) hx hb dX9_pure_44 hl (by decide) rfl (fun ls hl => ?_)
    refine lv_iload hx hb dX9_pure_46 (lv_at hl 0 rfl) ?_
    refine lv_if_eq (tgt := 75) hx hb dX9_pure_48 (by decide) (fun hc7 => ?_) (fun hc7 => ?_)
    · replace hf := z_ifp hf hc7
      refine lv_iconst (v := 0) hx hb dX9_pure_75 (by decide) ?_
      exact x_reti hx hb hr hlk hf hP hS dX9_pure_76
    · replace hf := z_ifn hf hc7
      refine lv_aload_n hx hb dX9_pure_51 rfl (lv_at hl 1 rfl) ?_
      refine z_getR (C := RX9) (T := TX9) (N := 9) (ci := 9) (k := 2) (o := 0) (t := 29) E hK hP iwX9 rfl rfl (by decide) (by decide) rfl rfl rfl tw300 dX9_pure_52 ?_
      refine z_getR (C := RX4) (T := TX4) (N := 13) (ci := 4) (k := 0) (o := 29) (t := 30) E hK hP iwX4 rfl rfl (by decide) (by decide) rfl rfl rfl tw224 dX9_pure_55 ?_
      refine lv_aload_n hx hb dX9_pure_58 rfl (lv_at hl 1 rfl) ?_
      refine z_getR (C := RX9) (T := TX9) (N := 9) (ci := 9) (k := 0) (o := 0) (t := 1) E hK hP iwX9 rfl rfl (by decide) (by decide) rfl rfl rfl tw298 dX9_pure_59 ?_
      refine z_getR (C := RX6) (T := TX6) (N := 6) (ci := 6) (k := 1) (o := 1) (t := 9) E hK hP iwX6 rfl rfl (by decide) (by decide) rfl rfl rfl tw127 dX9_pure_62 ?_
      obtain ⟨r9, S8, hz10, hf⟩ := z_bd_some hf
      refine z_ci (z_runS E hK hP hS (c_X9_sameRows hq rfl (by decide) rfl (by decide) hz10) cs_X9_sameRows tw825 rfl ⟨Nat.le_of_ble_eq_true rfl, Nat.le_of_ble_eq_true rfl⟩ ⟨Nat.le_refl 0, Nat.le_refl 0⟩ hl.1 (Nat.le_of_ble_eq_true rfl) rfl dX9_pure_65) hS (fun H locs hP hS => ?_)
      refine lv_if_eq (tgt := 75) hx hb dX9_pure_68 (by decide) (fun hc11 => ?_) (fun hc11 => ?_)
      · replace hf := z_ifp hf hc11
        refine lv_iconst (v := 0) hx hb dX9_pure_75 (by decide) ?_
        exact x_reti hx hb hr hlk hf hP hS dX9_pure_76
      · replace hf := z_ifn hf hc11
        refine lv_iconst (v := 1) hx hb dX9_pure_71 (by decide) ?_
        refine lv_goto (tgt := 76) hx hb dX9_pure_72 (by decide) ?_
        exact x_reti hx hb hr hlk hf hP hS dX9_pure_76
  have hJ43 : ∀ (S : St) (H : Heap) (locs : List Loc) (ls : Array Slot), b_X9_pure_43 N S = some (r, S') → z_P G S M H → z_S G s.heap H locs → lv_has ls 5 [(0, .ref (gq G (0)))] → W p l e (z_rm 6 135) s m ([.ref (gq G (0))] : List Value).toArray below meth c H locs 0 0 (MQ below (z_QI G S' M r) ([.ref (gq G (0))] : List Value).toArray s 0 0 (z_Aq (gq G))) (F0 m 43 ls []) := by
    intro S H locs ls hf hP hS hl
    unfold b_X9_pure_43 at hf
    refine lv_iconst (v := 0) hx hb dX9_pure_43 (by decide) ?_
    exact hJ44 (0) S _ _ _ hf hP hS (lv_sub hl [0] rfl)
  have hl : lv_has ls 5 [(0, .ref (gq G (0)))] := hl
  unfold f_X9_pure at hf
  refine lv_aload_n hx hb dX9_pure_0 rfl (lv_at hl 0 rfl) ?_
  obtain ⟨S1, hz2, hf⟩ := z_bv_some hf
  refine z_cr (z_runV (o := 0) (ci := 9) E hK hP hS (c_X9_thinkOf hq hz2) cv_X9_thinkOf tw512 rfl (by decide) rfl rfl ⟨Nat.le_of_ble_eq_true rfl, Nat.le_of_ble_eq_true rfl⟩ ⟨Nat.le_refl 0, Nat.le_refl 0⟩ hl.1 (Nat.le_of_ble_eq_true rfl) rfl dX9_pure_1) hS (fun H locs hP hS => ?_)
  refine lv_astore_n (lv' := [(1, .ref (gq G (35))), (0, .ref (gq G (0)))]) hx hb dX9_pure_4 rfl hl (by decide) rfl (fun ls hl => ?_)
  refine lv_aload_n hx hb dX9_pure_5 rfl (lv_at hl 0 rfl) ?_
  refine x_getI (C := RX2) (T := TX2) (N := 7) (ci := 2) (k := 0) (o := 35) E hK hP iwX2 rfl rfl (by decide) (by decide) rfl rfl (by decide) tw91 dX9_pure_6 ?_
  refine lv_istore_n (lv' := [(2, .int ((S1 35 0))), (1, .ref (gq G (35))), (0, .ref (gq G (0)))]) hx hb dX9_pure_9 rfl hl (by decide) rfl (fun ls hl => ?_)
  refine lv_aload_n hx hb dX9_pure_10 rfl (lv_at hl 1 rfl) ?_
  refine x_getI (C := RX2) (T := TX2) (N := 7) (ci := 2) (k := 1) (o := 35) E hK hP iwX2 rfl rfl (by decide) (by decide) rfl rfl (by decide) tw94 dX9_pure_11 ?_
  refine lv_istore_n (lv' := [(3, .int ((S1 35 1))), (2, .int ((S1 35 0))), (1, .ref (gq G (35))), (0, .ref (gq G (0)))]) hx hb dX9_pure_14 rfl hl (by decide) rfl (fun ls hl => ?_)
  refine lv_aload_n hx hb dX9_pure_15 rfl (lv_at hl 3 rfl) ?_
  refine z_getR (C := RX9) (T := TX9) (N := 9) (ci := 9) (k := 2) (o := 0) (t := 29) E hK hP iwX9 rfl rfl (by decide) (by decide) rfl rfl rfl tw300 dX9_pure_16 ?_
  obtain ⟨S3, hz4, hf⟩ := z_bv_some hf
  refine z_cr (z_runV (o := 29) (ci := 4) E hK hP hS (c_X4_perform hq hz4) cv_X4_perform tw534 rfl (by decide) rfl rfl ⟨Nat.le_of_ble_eq_true rfl, Nat.le_of_ble_eq_true rfl⟩ ⟨Nat.le_refl 0, Nat.le_refl 0⟩ hl.1 (Nat.le_of_ble_eq_true rfl) rfl dX9_pure_19) hS (fun H locs hP hS => ?_)
  refine lv_pop hx hb dX9_pure_22 rfl ?_
  refine lv_aload_n hx hb dX9_pure_23 rfl (lv_at hl 2 rfl) ?_
  refine x_getI (C := RX2) (T := TX2) (N := 7) (ci := 2) (k := 0) (o := 35) E hK hP iwX2 rfl rfl (by decide) (by decide) rfl rfl (by decide) tw91 dX9_pure_24 ?_
  refine lv_iload_n hx hb dX9_pure_27 rfl (lv_at hl 1 rfl) ?_
  refine lv_icmp_ne (tgt := 43) hx hb dX9_pure_28 (by decide) (fun hc5 => ?_) (fun hc5 => ?_)
  · replace hf := z_ifn hf hc5
    exact hJ43 S3 _ _ _ hf hP hS (lv_sub hl [3] rfl)
  · replace hf := z_ifp hf hc5
    refine lv_aload_n hx hb dX9_pure_31 rfl (lv_at hl 2 rfl) ?_
    refine x_getI (C := RX2) (T := TX2) (N := 7) (ci := 2) (k := 1) (o := 35) E hK hP iwX2 rfl rfl (by decide) (by decide) rfl rfl (by decide) tw94 dX9_pure_32 ?_
    refine lv_iload_n hx hb dX9_pure_35 rfl (lv_at hl 0 rfl) ?_
    refine lv_icmp_ne (tgt := 43) hx hb dX9_pure_36 (by decide) (fun hc6 => ?_) (fun hc6 => ?_)
    · replace hf := z_ifn hf hc6
      exact hJ43 S3 _ _ _ hf hP hS (lv_sub hl [3] rfl)
    · replace hf := z_ifp hf hc6
      refine lv_iconst (v := 1) hx hb dX9_pure_39 (by decide) ?_
      refine lv_goto (tgt := 44) hx hb dX9_pure_40 (by decide) ?_
      exact hJ44 (1) S3 _ _ _ hf hP hS (lv_sub hl [3] rfl)
theorem cv_X9_pure : z_cv yX9_pure cX9_pure 5 (some .int) RX9 0 := ⟨⟨tw822, tw823⟩, tw824, tw1, by decide +kernel⟩
def b_X9_changes_43 (N : Nat) (k9 : Int32 → Int32 → St → Option (Int32 × St)) (v1 : Int32) (v2 : Int32) (S : St) : Option (Int32 × St) := k9 (v1) ((v2 + 1)) S
def b_X9_changes_9 (N : Nat) (k9 : Int32 → Int32 → St → Option (Int32 × St)) (v1 : Int32) (v2 : Int32) (S : St) : Option (Int32 × St) := if 10 ≤ v2 then (some (v1, S)) else (z_bd (f_X0_stateOf N (31) (v2) S) fun r5 S4 => z_bd (f_X0_stateOf N (10) (v2) S4) fun r8 S7 => if r5 = r8 then (b_X9_changes_43 N k9 (v1) (v2) S7) else (b_X9_changes_43 N k9 ((v1 + 1)) (v2) S7))
def f_X9_changes_9 (N : Nat) : Nat → Int32 → Int32 → St → Option (Int32 × St)
  | 0 => fun _ _ _ => none
  | n + 1 => b_X9_changes_9 N (f_X9_changes_9 N n)
def f_X9_changes (N : Nat) (S : St) : Option (Int32 × St) := z_bv (f_X9_thinkOf N S) fun S1 => f_X9_changes_9 N N (0) (0) S1
set_option maxHeartbeats 4000000 in
set_option maxRecDepth 100000 in
theorem c_X9_changes {l : Launch} {G : Cx} {M S S' : St} {N : Nat} {r : Int32} (hq : z_inj (gq G)) (hf : f_X9_changes N S = some (r, S')) : z_Ct l yX9_changes cX9_changes 3 (some .int) 6 135 G S M [.ref (gq G (0))] (z_QI G S' M r) := by
  refine z_start (by decide +kernel) (Nat.le_of_ble_eq_true rfl) ?_
  intro p e s m below meth c ls E hr hlk hK hP hS hl
  have E : CallFix p m c cX9_changes 3 s _ lw_good RX9 := E
  have hx := E.1
  have hb := E.2.1
  have hown := E.2.2.2.1
  have hts := E.2.2.2.2
  have hJ43 : ∀ (k9 : Int32 → Int32 → St → Option (Int32 × St)) (hk9 : ∀ (v1 : Int32) (v2 : Int32) (S : St) (H : Heap) (locs : List Loc) (ls : Array Slot), k9 v1 v2 S = some (r, S') → z_P G S M H → z_S G s.heap H locs → lv_has ls 3 [(0, .ref (gq G (0))), (1, .int (v1)), (2, .int (v2))] → W p l e (z_rm 6 135) s m ([.ref (gq G (0))] : List Value).toArray below meth c H locs 0 0 (MQ below (z_QI G S' M r) ([.ref (gq G (0))] : List Value).toArray s 0 0 (z_Aq (gq G))) (F0 m 9 ls [])), ∀ (v1 : Int32) (v2 : Int32) (S : St) (H : Heap) (locs : List Loc) (ls : Array Slot), b_X9_changes_43 N k9 v1 v2 S = some (r, S') → z_P G S M H → z_S G s.heap H locs → lv_has ls 3 [(0, .ref (gq G (0))), (1, .int (v1)), (2, .int (v2))] → W p l e (z_rm 6 135) s m ([.ref (gq G (0))] : List Value).toArray below meth c H locs 0 0 (MQ below (z_QI G S' M r) ([.ref (gq G (0))] : List Value).toArray s 0 0 (z_Aq (gq G))) (F0 m 43 ls []) := by
    intro k9 hk9 v1 v2 S H locs ls hf hP hS hl
    unfold b_X9_changes_43 at hf
    refine lv_iinc (v := (v2 + 1)) (lv' := [(2, .int ((v2 + 1))), (0, .ref (gq G (0))), (1, .int (v1))]) hx hb dX9_changes_43 hl (k := 2) rfl rfl (by decide) rfl (fun ls hl => ?_)
    refine lv_goto (tgt := 9) hx hb dX9_changes_46 (by decide) ?_
    exact hk9 (v1) ((v2 + 1)) S _ _ _ hf hP hS (lv_sub hl [1, 2, 0] rfl)
  have hB9 : ∀ (k9 : Int32 → Int32 → St → Option (Int32 × St)) (hk9 : ∀ (v1 : Int32) (v2 : Int32) (S : St) (H : Heap) (locs : List Loc) (ls : Array Slot), k9 v1 v2 S = some (r, S') → z_P G S M H → z_S G s.heap H locs → lv_has ls 3 [(0, .ref (gq G (0))), (1, .int (v1)), (2, .int (v2))] → W p l e (z_rm 6 135) s m ([.ref (gq G (0))] : List Value).toArray below meth c H locs 0 0 (MQ below (z_QI G S' M r) ([.ref (gq G (0))] : List Value).toArray s 0 0 (z_Aq (gq G))) (F0 m 9 ls [])), ∀ (v1 : Int32) (v2 : Int32) (S : St) (H : Heap) (locs : List Loc) (ls : Array Slot), b_X9_changes_9 N k9 v1 v2 S = some (r, S') → z_P G S M H → z_S G s.heap H locs → lv_has ls 3 [(0, .ref (gq G (0))), (1, .int (v1)), (2, .int (v2))] → W p l e (z_rm 6 135) s m ([.ref (gq G (0))] : List Value).toArray below meth c H locs 0 0 (MQ below (z_QI G S' M r) ([.ref (gq G (0))] : List Value).toArray s 0 0 (z_Aq (gq G))) (F0 m 9 ls []) := by
    intro k9 hk9 v1 v2 S H locs ls hf hP hS hl
    unfold b_X9_changes_9 at hf
    refine lv_iload_n hx hb dX9_changes_9 rfl (lv_at hl 2 rfl) ?_
    refine lv_bipush (v := 10) hx hb dX9_changes_10 (by decide) ?_
    refine lv_icmp_ge (tgt := 49) hx hb dX9_changes_12 (by decide) (fun hc3 => ?_) (fun hc3 => ?_)
    · replace hf := z_ifp hf hc3
      refine lv_iload_n hx hb dX9_changes_49 rfl (lv_at hl 1 rfl) ?_
      exact x_reti hx hb hr hlk hf hP hS dX9_changes_50
    · replace hf := z_ifn hf hc3
      refine lv_aload_n hx hb dX9_changes_15 rfl (lv_at hl 0 rfl) ?_
      refine z_getR (C := RX9) (T := TX9) (N := 9) (ci := 9) (k := 2) (o := 0) (t := 29) E hK hP iwX9 rfl rfl (by decide) (by decide) rfl rfl rfl tw300 dX9_changes_16 ?_
      refine z_getR (C := RX4) (T := TX4) (N := 13) (ci := 4) (k := 1) (o := 29) (t := 31) E hK hP iwX4 rfl rfl (by decide) (by decide) rfl rfl rfl tw227 dX9_changes_19 ?_
      refine lv_iload_n hx hb dX9_changes_22 rfl (lv_at hl 2 rfl) ?_
      obtain ⟨r5, S4, hz6, hf⟩ := z_bd_some hf
      refine z_ci (z_runV (o := 31) (ci := 0) E hK hP hS (c_X0_stateOf hq rfl (by decide) hz6) cv_X0_stateOf tw832 rfl (by decide) rfl rfl ⟨Nat.le_of_ble_eq_true rfl, Nat.le_of_ble_eq_true rfl⟩ ⟨Nat.le_refl 0, Nat.le_refl 0⟩ hl.1 (Nat.le_of_ble_eq_true rfl) rfl dX9_changes_23) hS (fun H locs hP hS => ?_)
      refine lv_aload_n hx hb dX9_changes_26 rfl (lv_at hl 0 rfl) ?_
      refine z_getR (C := RX9) (T := TX9) (N := 9) (ci := 9) (k := 0) (o := 0) (t := 1) E hK hP iwX9 rfl rfl (by decide) (by decide) rfl rfl rfl tw298 dX9_changes_27 ?_
      refine z_getR (C := RX6) (T := TX6) (N := 6) (ci := 6) (k := 2) (o := 1) (t := 10) E hK hP iwX6 rfl rfl (by decide) (by decide) rfl rfl rfl tw130 dX9_changes_30 ?_
      refine lv_iload_n hx hb dX9_changes_33 rfl (lv_at hl 2 rfl) ?_
      obtain ⟨r8, S7, hz9, hf⟩ := z_bd_some hf
      refine z_ci (z_runV (o := 10) (ci := 0) E hK hP hS (c_X0_stateOf hq rfl (by decide) hz9) cv_X0_stateOf tw832 rfl (by decide) rfl rfl ⟨Nat.le_of_ble_eq_true rfl, Nat.le_of_ble_eq_true rfl⟩ ⟨Nat.le_refl 0, Nat.le_refl 0⟩ hl.1 (Nat.le_of_ble_eq_true rfl) rfl dX9_changes_34) hS (fun H locs hP hS => ?_)
      refine lv_icmp_eq (tgt := 43) hx hb dX9_changes_37 (by decide) (fun hc10 => ?_) (fun hc10 => ?_)
      · replace hf := z_ifp hf hc10
        exact hJ43 k9 hk9 (v1) (v2) S7 _ _ _ hf hP hS (lv_sub hl [0, 1, 2] rfl)
      · replace hf := z_ifn hf hc10
        refine lv_iinc (v := (v1 + 1)) (lv' := [(1, .int ((v1 + 1))), (0, .ref (gq G (0))), (2, .int (v2))]) hx hb dX9_changes_40 hl (k := 1) rfl rfl (by decide) rfl (fun ls hl => ?_)
        exact hJ43 k9 hk9 ((v1 + 1)) (v2) S7 _ _ _ hf hP hS (lv_sub hl [1, 0, 2] rfl)
  have hL9 : ∀ (n : Nat), ∀ (v1 : Int32) (v2 : Int32) (S : St) (H : Heap) (locs : List Loc) (ls : Array Slot), f_X9_changes_9 N n v1 v2 S = some (r, S') → z_P G S M H → z_S G s.heap H locs → lv_has ls 3 [(0, .ref (gq G (0))), (1, .int (v1)), (2, .int (v2))] → W p l e (z_rm 6 135) s m ([.ref (gq G (0))] : List Value).toArray below meth c H locs 0 0 (MQ below (z_QI G S' M r) ([.ref (gq G (0))] : List Value).toArray s 0 0 (z_Aq (gq G))) (F0 m 9 ls []) := by
    intro  n
    induction n with
    | zero => intro _ _ _ _ _ _ hf; cases hf
    | succ n ih => exact hB9  _  ih
  have hl : lv_has ls 3 [(0, .ref (gq G (0)))] := hl
  unfold f_X9_changes at hf
  refine lv_aload_n hx hb dX9_changes_0 rfl (lv_at hl 0 rfl) ?_
  obtain ⟨S1, hz2, hf⟩ := z_bv_some hf
  refine z_cr (z_runV (o := 0) (ci := 9) E hK hP hS (c_X9_thinkOf hq hz2) cv_X9_thinkOf tw512 rfl (by decide) rfl rfl ⟨Nat.le_of_ble_eq_true rfl, Nat.le_of_ble_eq_true rfl⟩ ⟨Nat.le_refl 0, Nat.le_refl 0⟩ hl.1 (Nat.le_of_ble_eq_true rfl) rfl dX9_changes_1) hS (fun H locs hP hS => ?_)
  refine lv_pop hx hb dX9_changes_4 rfl ?_
  refine lv_iconst (v := 0) hx hb dX9_changes_5 (by decide) ?_
  refine lv_istore_n (lv' := [(1, .int (0)), (0, .ref (gq G (0)))]) hx hb dX9_changes_6 rfl hl (by decide) rfl (fun ls hl => ?_)
  refine lv_iconst (v := 0) hx hb dX9_changes_7 (by decide) ?_
  refine lv_istore_n (lv' := [(2, .int (0)), (1, .int (0)), (0, .ref (gq G (0)))]) hx hb dX9_changes_8 rfl hl (by decide) rfl (fun ls hl => ?_)
  exact hL9 N (0) (0) S1 _ _ _ hf hP hS (lv_sub hl [2, 1, 0] rfl)
theorem cv_X9_changes : z_cv yX9_changes cX9_changes 3 (some .int) RX9 0 := ⟨⟨tw829, tw830⟩, tw831, tw1, by decide +kernel⟩
def f_X9_refusalOfMany (N : Nat) (a1 : Int32) (a2 : Int32) (a3 : Int32) (a4 : Int32) (S : St) : Option (Int32 × St) := if a2 ≤ a1 then (if a1 ≤ a3 then (if a4 < 0 then (some ((-2), S)) else (if a4 ≤ 1 then (some (0, S)) else (some ((-2), S)))) else (some ((-6), S))) else (some ((-4), S))
set_option maxHeartbeats 4000000 in
set_option maxRecDepth 100000 in
theorem c_X9_refusalOfMany {l : Launch} {G : Cx} {M S S' : St} {N : Nat} {a1 : Int32} {a2 : Int32} {a3 : Int32} {a4 : Int32} {r : Int32} (hq : z_inj (gq G)) (hf : f_X9_refusalOfMany N a1 a2 a3 a4 S = some (r, S')) : z_Ct l yX9_refusalOfMany cX9_refusalOfMany 4 (some .int) 0 0 G S M [.int (a1), .int (a2), .int (a3), .int (a4)] (z_QI G S' M r) := by
  refine z_start (by decide +kernel) (Nat.le_of_ble_eq_true rfl) ?_
  intro p e s m below meth c ls E hr hlk hK hP hS hl
  have E : CallFix p m c cX9_refusalOfMany 4 s _ lw_good RX9 := E
  have hx := E.1
  have hb := E.2.1
  have hown := E.2.2.2.1
  have hts := E.2.2.2.2
  have hl : lv_has ls 4 [(0, .int (a1)), (1, .int (a2)), (2, .int (a3)), (3, .int (a4))] := hl
  unfold f_X9_refusalOfMany at hf
  refine lv_iload_n hx hb dX9_refusalOfMany_0 rfl (lv_at hl 0 rfl) ?_
  refine lv_iload_n hx hb dX9_refusalOfMany_1 rfl (lv_at hl 1 rfl) ?_
  refine lv_icmp_ge (tgt := 8) hx hb dX9_refusalOfMany_2 (by decide) (fun hc1 => ?_) (fun hc1 => ?_)
  · replace hf := z_ifp hf hc1
    refine lv_iload_n hx hb dX9_refusalOfMany_8 rfl (lv_at hl 0 rfl) ?_
    refine lv_iload_n hx hb dX9_refusalOfMany_9 rfl (lv_at hl 2 rfl) ?_
    refine lv_icmp_le (tgt := 16) hx hb dX9_refusalOfMany_10 (by decide) (fun hc2 => ?_) (fun hc2 => ?_)
    · replace hf := z_ifp hf hc2
      refine lv_iload_n hx hb dX9_refusalOfMany_16 rfl (lv_at hl 3 rfl) ?_
      refine lv_if_lt (tgt := 25) hx hb dX9_refusalOfMany_17 (by decide) (fun hc3 => ?_) (fun hc3 => ?_)
      · replace hf := z_ifp hf hc3
        refine lv_bipush (v := (-2)) hx hb dX9_refusalOfMany_25 (by decide) ?_
        refine lv_goto (tgt := 31) hx hb dX9_refusalOfMany_27 (by decide) ?_
        exact x_reti hx hb hr hlk hf hP hS dX9_refusalOfMany_31
      · replace hf := z_ifn hf hc3
        refine lv_iload_n hx hb dX9_refusalOfMany_20 rfl (lv_at hl 3 rfl) ?_
        refine lv_iconst (v := 1) hx hb dX9_refusalOfMany_21 (by decide) ?_
        refine lv_icmp_le (tgt := 30) hx hb dX9_refusalOfMany_22 (by decide) (fun hc4 => ?_) (fun hc4 => ?_)
        · replace hf := z_ifp hf hc4
          refine lv_iconst (v := 0) hx hb dX9_refusalOfMany_30 (by decide) ?_
          exact x_reti hx hb hr hlk hf hP hS dX9_refusalOfMany_31
        · replace hf := z_ifn hf hc4
          refine lv_bipush (v := (-2)) hx hb dX9_refusalOfMany_25 (by decide) ?_
          refine lv_goto (tgt := 31) hx hb dX9_refusalOfMany_27 (by decide) ?_
          exact x_reti hx hb hr hlk hf hP hS dX9_refusalOfMany_31
    · replace hf := z_ifn hf hc2
      refine lv_bipush (v := (-6)) hx hb dX9_refusalOfMany_13 (by decide) ?_
      exact x_reti hx hb hr hlk hf hP hS dX9_refusalOfMany_15
  · replace hf := z_ifn hf hc1
    refine lv_bipush (v := (-4)) hx hb dX9_refusalOfMany_5 (by decide) ?_
    exact x_reti hx hb hr hlk hf hP hS dX9_refusalOfMany_7
theorem cs_X9_refusalOfMany : z_cs yX9_refusalOfMany cX9_refusalOfMany 4 (some .int) 4 := ⟨tw838, tw839, tw1, by decide +kernel⟩
def b_X9_again_59 (N : Nat) (k36 : Int32 → Int32 → Int32 → Int32 → St → Option (Int32 × St)) (v1 : Int32) (v2 : Int32) (v4 : Int32) (v5 : Int32) (S : St) : Option (Int32 × St) := k36 (v1) (v2) (v4) ((v5 + 1)) S
def b_X9_again_36 (N : Nat) (k36 : Int32 → Int32 → Int32 → Int32 → St → Option (Int32 × St)) (v1 : Int32) (v2 : Int32) (v4 : Int32) (v5 : Int32) (S : St) : Option (Int32 × St) := if v1 ≤ v5 then (if v2 = 0 then (some (v4, S)) else (z_bd (f_X9_at N (30) (0) S) fun r13 S12 => some (r13, S12))) else (z_bv (f_X4_perform N S) fun S15 => if (S15 35 0) = 3 then (b_X9_again_59 N k36 (v1) (v2) ((v4 + 1)) (v5) S15) else (b_X9_again_59 N k36 (v1) (v2) (v4) (v5) S15))
def f_X9_again_36 (N : Nat) : Nat → Int32 → Int32 → Int32 → Int32 → St → Option (Int32 × St)
  | 0 => fun _ _ _ _ _ => none
  | n + 1 => b_X9_again_36 N (f_X9_again_36 N n)
def f_X9_again (N : Nat) (a1 : Int32) (a2 : Int32) (S : St) : Option (Int32 × St) := z_bd (f_X9_refusalOfMany N (a1) (1) (20) (a2) S) fun r2 S1 => if r2 = 0 then (z_bv (f_X4_takeUp N S1) fun S5 => f_X9_again_36 N N (a1) (a2) (0) (0) S5) else (z_bd (f_X9_refuseNumber N (r2) S1) fun r8 S7 => some (r8, S7))
set_option maxHeartbeats 4000000 in
set_option maxRecDepth 100000 in
theorem c_X9_again {l : Launch} {G : Cx} {M S S' : St} {N : Nat} {a1 : Int32} {a2 : Int32} {r : Int32} (hq : z_inj (gq G)) (hf : f_X9_again N a1 a2 S = some (r, S')) : z_Ct l yX9_again cX9_again 6 (some .int) 5 115 G S M [.ref (gq G (0)), .int (a1), .int (a2)] (z_QI G S' M r) := by
  refine z_start (by decide +kernel) (Nat.le_of_ble_eq_true rfl) ?_
  intro p e s m below meth c ls E hr hlk hK hP hS hl
  have E : CallFix p m c cX9_again 6 s _ lw_good RX9 := E
  have hx := E.1
  have hb := E.2.1
  have hown := E.2.2.2.1
  have hts := E.2.2.2.2
  have hJ59 : ∀ (k36 : Int32 → Int32 → Int32 → Int32 → St → Option (Int32 × St)) (hk36 : ∀ (v1 : Int32) (v2 : Int32) (v4 : Int32) (v5 : Int32) (S : St) (H : Heap) (locs : List Loc) (ls : Array Slot), k36 v1 v2 v4 v5 S = some (r, S') → z_P G S M H → z_S G s.heap H locs → lv_has ls 6 [(0, .ref (gq G (0))), (1, .int (v1)), (2, .int (v2)), (4, .int (v4)), (5, .int (v5))] → W p l e (z_rm 5 115) s m ([.ref (gq G (0)), .int (a1), .int (a2)] : List Value).toArray below meth c H locs 0 0 (MQ below (z_QI G S' M r) ([.ref (gq G (0)), .int (a1), .int (a2)] : List Value).toArray s 0 0 (z_Aq (gq G))) (F0 m 36 ls [])), ∀ (v1 : Int32) (v2 : Int32) (v4 : Int32) (v5 : Int32) (S : St) (H : Heap) (locs : List Loc) (ls : Array Slot), b_X9_again_59 N k36 v1 v2 v4 v5 S = some (r, S') → z_P G S M H → z_S G s.heap H locs → lv_has ls 6 [(0, .ref (gq G (0))), (1, .int (v1)), (2, .int (v2)), (4, .int (v4)), (5, .int (v5))] → W p l e (z_rm 5 115) s m ([.ref (gq G (0)), .int (a1), .int (a2)] : List Value).toArray below meth c H locs 0 0 (MQ below (z_QI G S' M r) ([.ref (gq G (0)), .int (a1), .int (a2)] : List Value).toArray s 0 0 (z_Aq (gq G))) (F0 m 59 ls []) := by
    intro k36 hk36 v1 v2 v4 v5 S H locs ls hf hP hS hl
    unfold b_X9_again_59 at hf
    refine lv_iinc (v := (v5 + 1)) (lv' := [(5, .int ((v5 + 1))), (0, .ref (gq G (0))), (1, .int (v1)), (2, .int (v2)), (4, .int (v4))]) hx hb dX9_again_59 hl (k := 4) rfl rfl (by decide) rfl (fun ls hl => ?_)
    refine lv_goto (tgt := 36) hx hb dX9_again_62 (by decide) ?_
    exact hk36 (v1) (v2) (v4) ((v5 + 1)) S _ _ _ hf hP hS (lv_sub hl [1, 2, 3, 4, 0] rfl)
  have hB36 : ∀ (k36 : Int32 → Int32 → Int32 → Int32 → St → Option (Int32 × St)) (hk36 : ∀ (v1 : Int32) (v2 : Int32) (v4 : Int32) (v5 : Int32) (S : St) (H : Heap) (locs : List Loc) (ls : Array Slot), k36 v1 v2 v4 v5 S = some (r, S') → z_P G S M H → z_S G s.heap H locs → lv_has ls 6 [(0, .ref (gq G (0))), (1, .int (v1)), (2, .int (v2)), (4, .int (v4)), (5, .int (v5))] → W p l e (z_rm 5 115) s m ([.ref (gq G (0)), .int (a1), .int (a2)] : List Value).toArray below meth c H locs 0 0 (MQ below (z_QI G S' M r) ([.ref (gq G (0)), .int (a1), .int (a2)] : List Value).toArray s 0 0 (z_Aq (gq G))) (F0 m 36 ls [])), ∀ (v1 : Int32) (v2 : Int32) (v4 : Int32) (v5 : Int32) (S : St) (H : Heap) (locs : List Loc) (ls : Array Slot), b_X9_again_36 N k36 v1 v2 v4 v5 S = some (r, S') → z_P G S M H → z_S G s.heap H locs → lv_has ls 6 [(0, .ref (gq G (0))), (1, .int (v1)), (2, .int (v2)), (4, .int (v4)), (5, .int (v5))] → W p l e (z_rm 5 115) s m ([.ref (gq G (0)), .int (a1), .int (a2)] : List Value).toArray below meth c H locs 0 0 (MQ below (z_QI G S' M r) ([.ref (gq G (0)), .int (a1), .int (a2)] : List Value).toArray s 0 0 (z_Aq (gq G))) (F0 m 36 ls []) := by
    intro k36 hk36 v1 v2 v4 v5 S H locs ls hf hP hS hl
    unfold b_X9_again_36 at hf
    refine lv_iload hx hb dX9_again_36 (lv_at hl 4 rfl) ?_
    refine lv_iload_n hx hb dX9_again_38 rfl (lv_at hl 1 rfl) ?_
    refine lv_icmp_ge (tgt := 65) hx hb dX9_again_39 (by decide) (fun hc10 => ?_) (fun hc10 => ?_)
    · replace hf := z_ifp hf hc10
      refine lv_iload_n hx hb dX9_again_65 rfl (lv_at hl 2 rfl) ?_
      refine lv_if_ne (tgt := 74) hx hb dX9_again_66 (by decide) (fun hc11 => ?_) (fun hc11 => ?_)
      · replace hf := z_ifn hf hc11
        refine lv_aload_n hx hb dX9_again_74 rfl (lv_at hl 0 rfl) ?_
        refine z_getR (C := RX9) (T := TX9) (N := 9) (ci := 9) (k := 2) (o := 0) (t := 29) E hK hP iwX9 rfl rfl (by decide) (by decide) rfl rfl rfl tw300 dX9_again_75 ?_
        refine z_getR (C := RX4) (T := TX4) (N := 13) (ci := 4) (k := 0) (o := 29) (t := 30) E hK hP iwX4 rfl rfl (by decide) (by decide) rfl rfl rfl tw224 dX9_again_78 ?_
        refine lv_iconst (v := 0) hx hb dX9_again_81 (by decide) ?_
        obtain ⟨r13, S12, hz14, hf⟩ := z_bd_some hf
        refine z_ci (z_runS E hK hP hS (c_X9_at hq rfl (by decide) hz14) cs_X9_at tw334 rfl ⟨Nat.le_of_ble_eq_true rfl, Nat.le_of_ble_eq_true rfl⟩ ⟨Nat.le_refl 0, Nat.le_refl 0⟩ hl.1 (Nat.le_of_ble_eq_true rfl) rfl dX9_again_82) hS (fun H locs hP hS => ?_)
        exact x_reti hx hb hr hlk hf hP hS dX9_again_85
      · replace hf := z_ifp hf hc11
        refine lv_iload hx hb dX9_again_69 (lv_at hl 3 rfl) ?_
        refine lv_goto (tgt := 85) hx hb dX9_again_71 (by decide) ?_
        exact x_reti hx hb hr hlk hf hP hS dX9_again_85
    · replace hf := z_ifn hf hc10
      refine lv_aload_n hx hb dX9_again_42 rfl (lv_at hl 0 rfl) ?_
      refine z_getR (C := RX9) (T := TX9) (N := 9) (ci := 9) (k := 2) (o := 0) (t := 29) E hK hP iwX9 rfl rfl (by decide) (by decide) rfl rfl rfl tw300 dX9_again_43 ?_
      obtain ⟨S15, hz16, hf⟩ := z_bv_some hf
      refine z_cr (z_runV (o := 29) (ci := 4) E hK hP hS (c_X4_perform hq hz16) cv_X4_perform tw534 rfl (by decide) rfl rfl ⟨Nat.le_of_ble_eq_true rfl, Nat.le_of_ble_eq_true rfl⟩ ⟨Nat.le_refl 0, Nat.le_refl 0⟩ hl.1 (Nat.le_of_ble_eq_true rfl) rfl dX9_again_46) hS (fun H locs hP hS => ?_)
      refine x_getI (C := RX2) (T := TX2) (N := 7) (ci := 2) (k := 0) (o := 35) E hK hP iwX2 rfl rfl (by decide) (by decide) rfl rfl (by decide) tw91 dX9_again_49 ?_
      refine lv_iconst (v := 3) hx hb dX9_again_52 (by decide) ?_
      refine lv_icmp_ne (tgt := 59) hx hb dX9_again_53 (by decide) (fun hc17 => ?_) (fun hc17 => ?_)
      · replace hf := z_ifn hf hc17
        exact hJ59 k36 hk36 (v1) (v2) (v4) (v5) S15 _ _ _ hf hP hS (lv_sub hl [0, 1, 2, 3, 4] rfl)
      · replace hf := z_ifp hf hc17
        refine lv_iinc (v := (v4 + 1)) (lv' := [(4, .int ((v4 + 1))), (0, .ref (gq G (0))), (1, .int (v1)), (2, .int (v2)), (5, .int (v5))]) hx hb dX9_again_56 hl (k := 3) rfl rfl (by decide) rfl (fun ls hl => ?_)
        exact hJ59 k36 hk36 (v1) (v2) ((v4 + 1)) (v5) S15 _ _ _ hf hP hS (lv_sub hl [1, 2, 3, 0, 4] rfl)
  have hL36 : ∀ (n : Nat), ∀ (v1 : Int32) (v2 : Int32) (v4 : Int32) (v5 : Int32) (S : St) (H : Heap) (locs : List Loc) (ls : Array Slot), f_X9_again_36 N n v1 v2 v4 v5 S = some (r, S') → z_P G S M H → z_S G s.heap H locs → lv_has ls 6 [(0, .ref (gq G (0))), (1, .int (v1)), (2, .int (v2)), (4, .int (v4)), (5, .int (v5))] → W p l e (z_rm 5 115) s m ([.ref (gq G (0)), .int (a1), .int (a2)] : List Value).toArray below meth c H locs 0 0 (MQ below (z_QI G S' M r) ([.ref (gq G (0)), .int (a1), .int (a2)] : List Value).toArray s 0 0 (z_Aq (gq G))) (F0 m 36 ls []) := by
    intro  n
    induction n with
    | zero => intro _ _ _ _ _ _ _ _ hf; cases hf
    | succ n ih => exact hB36  _  ih
  have hl : lv_has ls 6 [(0, .ref (gq G (0))), (1, .int (a1)), (2, .int (a2))] := hl
  unfold f_X9_again at hf
  refine lv_iload_n hx hb dX9_again_0 rfl (lv_at hl 1 rfl) ?_
  refine lv_iconst (v := 1) hx hb dX9_again_1 (by decide) ?_
  refine lv_bipush (v := 20) hx hb dX9_again_2 (by decide) ?_
  refine lv_iload_n hx hb dX9_again_4 rfl (lv_at hl 2 rfl) ?_
  obtain ⟨r2, S1, hz3, hf⟩ := z_bd_some hf
  refine z_ci (z_runS E hK hP hS (c_X9_refusalOfMany hq hz3) cs_X9_refusalOfMany tw837 rfl ⟨Nat.le_of_ble_eq_true rfl, Nat.le_of_ble_eq_true rfl⟩ ⟨Nat.le_refl 0, Nat.le_refl 0⟩ hl.1 (Nat.le_of_ble_eq_true rfl) rfl dX9_again_5) hS (fun H locs hP hS => ?_)
  refine lv_istore_n (lv' := [(3, .int (r2)), (0, .ref (gq G (0))), (1, .int (a1)), (2, .int (a2))]) hx hb dX9_again_8 rfl hl (by decide) rfl (fun ls hl => ?_)
  refine lv_iload_n hx hb dX9_again_9 rfl (lv_at hl 0 rfl) ?_
  refine lv_if_eq (tgt := 19) hx hb dX9_again_10 (by decide) (fun hc4 => ?_) (fun hc4 => ?_)
  · replace hf := z_ifp hf hc4
    refine lv_iconst (v := 0) hx hb dX9_again_19 (by decide) ?_
    refine lv_istore (lv' := [(4, .int (0)), (3, .int (r2)), (0, .ref (gq G (0))), (1, .int (a1)), (2, .int (a2))]) hx hb dX9_again_20 hl (by decide) rfl (fun ls hl => ?_)
    refine lv_aload_n hx hb dX9_again_22 rfl (lv_at hl 2 rfl) ?_
    refine z_getR (C := RX9) (T := TX9) (N := 9) (ci := 9) (k := 2) (o := 0) (t := 29) E hK hP iwX9 rfl rfl (by decide) (by decide) rfl rfl rfl tw300 dX9_again_23 ?_
    refine lv_aload_n hx hb dX9_again_26 rfl (lv_at hl 2 rfl) ?_
    refine z_getR (C := RX9) (T := TX9) (N := 9) (ci := 9) (k := 0) (o := 0) (t := 1) E hK hP iwX9 rfl rfl (by decide) (by decide) rfl rfl rfl tw298 dX9_again_27 ?_
    obtain ⟨S5, hz6, hf⟩ := z_bv_some hf
    refine z_cvo (z_runV (o := 29) (ci := 4) E hK hP hS (c_X4_takeUp hq hz6) cv_X4_takeUp tw516 rfl (by decide) rfl rfl ⟨Nat.le_of_ble_eq_true rfl, Nat.le_of_ble_eq_true rfl⟩ ⟨Nat.le_refl 0, Nat.le_refl 0⟩ hl.1 (Nat.le_of_ble_eq_true rfl) rfl dX9_again_30) hS (fun H locs hP hS => ?_)
    refine lv_iconst (v := 0) hx hb dX9_again_33 (by decide) ?_
    refine lv_istore (lv' := [(5, .int (0)), (4, .int (0)), (3, .int (r2)), (0, .ref (gq G (0))), (1, .int (a1)), (2, .int (a2))]) hx hb dX9_again_34 hl (by decide) rfl (fun ls hl => ?_)
    exact hL36 N (a1) (a2) (0) (0) S5 _ _ _ hf hP hS (lv_sub hl [3, 4, 5, 1, 0] rfl)
  · replace hf := z_ifn hf hc4
    refine lv_aload_n hx hb dX9_again_13 rfl (lv_at hl 1 rfl) ?_
    refine lv_iload_n hx hb dX9_again_14 rfl (lv_at hl 0 rfl) ?_
    obtain ⟨r8, S7, hz9, hf⟩ := z_bd_some hf
    refine z_ci (z_runV (o := 0) (ci := 9) E hK hP hS (c_X9_refuseNumber hq hz9) cv_X9_refuseNumber tw496 rfl (by decide) rfl rfl ⟨Nat.le_of_ble_eq_true rfl, Nat.le_of_ble_eq_true rfl⟩ ⟨Nat.le_refl 0, Nat.le_refl 0⟩ hl.1 (Nat.le_of_ble_eq_true rfl) rfl dX9_again_15) hS (fun H locs hP hS => ?_)
    exact x_reti hx hb hr hlk hf hP hS dX9_again_18
theorem cv_X9_again : z_cv yX9_again cX9_again 6 (some .int) RX9 2 := ⟨⟨tw834, tw835⟩, tw836, tw1, by decide +kernel⟩
def b_X9_greatestDivisor_9 (N : Nat) (k9 : Int64 → Int64 → Int32 → St → Option (Int64 × St)) (v4 : Int64) (v6 : Int64) (v8 : Int32) (S : St) : Option (Int64 × St) := if 100 ≤ v8 then (some (v4, S)) else (if (lg_cmp v6 0) = 0 then (some (v4, S)) else (z_gd (¬ v6 = 0) (k9 (v6) ((v4 - v4 / v6 * v6)) ((v8 + 1)) S)))
def f_X9_greatestDivisor_9 (N : Nat) : Nat → Int64 → Int64 → Int32 → St → Option (Int64 × St)
  | 0 => fun _ _ _ _ => none
  | n + 1 => b_X9_greatestDivisor_9 N (f_X9_greatestDivisor_9 N n)
def f_X9_greatestDivisor (N : Nat) (a1 : Int64) (a2 : Int64) (S : St) : Option (Int64 × St) := f_X9_greatestDivisor_9 N N (a1) (a2) (0) S
set_option maxHeartbeats 4000000 in
set_option maxRecDepth 100000 in
theorem c_X9_greatestDivisor {l : Launch} {G : Cx} {M S S' : St} {N : Nat} {a1 : Int64} {a2 : Int64} {r : Int64} (hq : z_inj (gq G)) (hf : f_X9_greatestDivisor N a1 a2 S = some (r, S')) : z_Ct l yX9_greatestDivisor cX9_greatestDivisor 11 (some .long) 0 0 G S M [.long (a1), .long (a2)] (z_QL G S' M r) := by
  refine z_start (by decide +kernel) (Nat.le_of_ble_eq_true rfl) ?_
  intro p e s m below meth c ls E hr hlk hK hP hS hl
  have E : CallFix p m c cX9_greatestDivisor 11 s _ lw_good RX9 := E
  have hx := E.1
  have hb := E.2.1
  have hown := E.2.2.2.1
  have hts := E.2.2.2.2
  have hB9 : ∀ (k9 : Int64 → Int64 → Int32 → St → Option (Int64 × St)) (hk9 : ∀ (v4 : Int64) (v6 : Int64) (v8 : Int32) (S : St) (H : Heap) (locs : List Loc) (ls : Array Slot), k9 v4 v6 v8 S = some (r, S') → z_P G S M H → z_S G s.heap H locs → lv_has ls 11 [(4, .long (v4)), (6, .long (v6)), (8, .int (v8))] → W p l e (z_rm 0 0) s m ([.long (a1), .long (a2)] : List Value).toArray below meth c H locs 0 0 (MQ below (z_QL G S' M r) ([.long (a1), .long (a2)] : List Value).toArray s 0 0 (z_Aq (gq G))) (F0 m 9 ls [])), ∀ (v4 : Int64) (v6 : Int64) (v8 : Int32) (S : St) (H : Heap) (locs : List Loc) (ls : Array Slot), b_X9_greatestDivisor_9 N k9 v4 v6 v8 S = some (r, S') → z_P G S M H → z_S G s.heap H locs → lv_has ls 11 [(4, .long (v4)), (6, .long (v6)), (8, .int (v8))] → W p l e (z_rm 0 0) s m ([.long (a1), .long (a2)] : List Value).toArray below meth c H locs 0 0 (MQ below (z_QL G S' M r) ([.long (a1), .long (a2)] : List Value).toArray s 0 0 (z_Aq (gq G))) (F0 m 9 ls []) := by
    intro k9 hk9 v4 v6 v8 S H locs ls hf hP hS hl
    unfold b_X9_greatestDivisor_9 at hf
    refine lv_iload hx hb dX9_greatestDivisor_9 (lv_at hl 2 rfl) ?_
    refine lv_bipush (v := 100) hx hb dX9_greatestDivisor_11 (by decide) ?_
    refine lv_icmp_ge (tgt := 44) hx hb dX9_greatestDivisor_13 (by decide) (fun hc1 => ?_) (fun hc1 => ?_)
    · replace hf := z_ifp hf hc1
      refine lv_lload hx hb dX9_greatestDivisor_44 (lv_at hl 0 rfl) ?_
      exact x_retl hx hb hr hlk hf hP hS dX9_greatestDivisor_46
    · replace hf := z_ifn hf hc1
      refine lv_lload hx hb dX9_greatestDivisor_16 (lv_at hl 1 rfl) ?_
      refine lv_lconst (v := 0) hx hb dX9_greatestDivisor_18 (by decide) ?_
      refine W.lcmp hx hb dX9_greatestDivisor_19 ?_
      refine lv_if_eq (tgt := 44) hx hb dX9_greatestDivisor_20 (by decide) (fun hc2 => ?_) (fun hc2 => ?_)
      · replace hf := z_ifp hf hc2
        refine lv_lload hx hb dX9_greatestDivisor_44 (lv_at hl 0 rfl) ?_
        exact x_retl hx hb hr hlk hf hP hS dX9_greatestDivisor_46
      · replace hf := z_ifn hf hc2
        refine lv_lload hx hb dX9_greatestDivisor_23 (lv_at hl 0 rfl) ?_
        refine lv_lload hx hb dX9_greatestDivisor_25 (lv_at hl 1 rfl) ?_
        obtain ⟨hg3, hf⟩ := z_gd_some hf
        refine lv_lrem hx hb dX9_greatestDivisor_27 hg3 ?_
        refine lv_lstore (lv' := [(9, .long ((v4 - v4 / v6 * v6))), (4, .long (v4)), (6, .long (v6)), (8, .int (v8))]) hx hb dX9_greatestDivisor_28 hl (by decide) rfl (fun ls hl => ?_)
        refine lv_lload hx hb dX9_greatestDivisor_30 (lv_at hl 2 rfl) ?_
        refine lv_lstore (lv' := [(4, .long (v6)), (9, .long ((v4 - v4 / v6 * v6))), (6, .long (v6)), (8, .int (v8))]) hx hb dX9_greatestDivisor_32 hl (by decide) rfl (fun ls hl => ?_)
        refine lv_lload hx hb dX9_greatestDivisor_34 (lv_at hl 1 rfl) ?_
        refine lv_lstore (lv' := [(6, .long ((v4 - v4 / v6 * v6))), (4, .long (v6)), (9, .long ((v4 - v4 / v6 * v6))), (8, .int (v8))]) hx hb dX9_greatestDivisor_36 hl (by decide) rfl (fun ls hl => ?_)
        refine lv_iinc (v := (v8 + 1)) (lv' := [(8, .int ((v8 + 1))), (6, .long ((v4 - v4 / v6 * v6))), (4, .long (v6)), (9, .long ((v4 - v4 / v6 * v6)))]) hx hb dX9_greatestDivisor_38 hl (k := 3) rfl rfl (by decide) rfl (fun ls hl => ?_)
        refine lv_goto (tgt := 9) hx hb dX9_greatestDivisor_41 (by decide) ?_
        exact hk9 (v6) ((v4 - v4 / v6 * v6)) ((v8 + 1)) S _ _ _ hf hP hS (lv_sub hl [2, 1, 0] rfl)
  have hL9 : ∀ (n : Nat), ∀ (v4 : Int64) (v6 : Int64) (v8 : Int32) (S : St) (H : Heap) (locs : List Loc) (ls : Array Slot), f_X9_greatestDivisor_9 N n v4 v6 v8 S = some (r, S') → z_P G S M H → z_S G s.heap H locs → lv_has ls 11 [(4, .long (v4)), (6, .long (v6)), (8, .int (v8))] → W p l e (z_rm 0 0) s m ([.long (a1), .long (a2)] : List Value).toArray below meth c H locs 0 0 (MQ below (z_QL G S' M r) ([.long (a1), .long (a2)] : List Value).toArray s 0 0 (z_Aq (gq G))) (F0 m 9 ls []) := by
    intro  n
    induction n with
    | zero => intro _ _ _ _ _ _ _ hf; cases hf
    | succ n ih => exact hB9  _  ih
  have hl : lv_has ls 11 [(0, .long (a1)), (2, .long (a2))] := hl
  unfold f_X9_greatestDivisor at hf
  refine lv_lload_n hx hb dX9_greatestDivisor_0 rfl (lv_at hl 0 rfl) ?_
  refine lv_lstore (lv' := [(4, .long (a1)), (0, .long (a1)), (2, .long (a2))]) hx hb dX9_greatestDivisor_1 hl (by decide) rfl (fun ls hl => ?_)
  refine lv_lload_n hx hb dX9_greatestDivisor_3 rfl (lv_at hl 2 rfl) ?_
  refine lv_lstore (lv' := [(6, .long (a2)), (4, .long (a1)), (0, .long (a1)), (2, .long (a2))]) hx hb dX9_greatestDivisor_4 hl (by decide) rfl (fun ls hl => ?_)
  refine lv_iconst (v := 0) hx hb dX9_greatestDivisor_6 (by decide) ?_
  refine lv_istore (lv' := [(8, .int (0)), (6, .long (a2)), (4, .long (a1)), (0, .long (a1)), (2, .long (a2))]) hx hb dX9_greatestDivisor_7 hl (by decide) rfl (fun ls hl => ?_)
  exact hL9 N (a1) (a2) (0) S _ _ _ hf hP hS (lv_sub hl [2, 1, 0] rfl)
theorem cs_X9_greatestDivisor : z_cs yX9_greatestDivisor cX9_greatestDivisor 11 (some .long) 2 := ⟨tw853, tw854, tw1, by decide +kernel⟩
def f_X9_partOfFraction (N : Nat) (a1 : Int64) (a2 : Int64) (a3 : Int32) (S : St) : Option (Int64 × St) := z_bd (f_X9_greatestDivisor N (a1) (a2) S) fun r2 S1 => if (lg_cmp r2 0) = 0 then (some (0, S1)) else (if a3 = 0 then (z_gd (¬ r2 = 0) (some ((a1 / r2), S1))) else (z_gd (¬ r2 = 0) (some ((a2 / r2), S1))))
set_option maxHeartbeats 4000000 in
set_option maxRecDepth 100000 in
theorem c_X9_partOfFraction {l : Launch} {G : Cx} {M S S' : St} {N : Nat} {a1 : Int64} {a2 : Int64} {a3 : Int32} {r : Int64} (hq : z_inj (gq G)) (hf : f_X9_partOfFraction N a1 a2 a3 S = some (r, S')) : z_Ct l yX9_partOfFraction cX9_partOfFraction 7 (some .long) 1 30 G S M [.long (a1), .long (a2), .int (a3)] (z_QL G S' M r) := by
  refine z_start (by decide +kernel) (Nat.le_of_ble_eq_true rfl) ?_
  intro p e s m below meth c ls E hr hlk hK hP hS hl
  have E : CallFix p m c cX9_partOfFraction 7 s _ lw_good RX9 := E
  have hx := E.1
  have hb := E.2.1
  have hown := E.2.2.2.1
  have hts := E.2.2.2.2
  have hl : lv_has ls 7 [(0, .long (a1)), (2, .long (a2)), (4, .int (a3))] := hl
  unfold f_X9_partOfFraction at hf
  refine lv_lload_n hx hb dX9_partOfFraction_0 rfl (lv_at hl 0 rfl) ?_
  refine lv_lload_n hx hb dX9_partOfFraction_1 rfl (lv_at hl 1 rfl) ?_
  obtain ⟨r2, S1, hz3, hf⟩ := z_bd_some hf
  refine z_cl (z_runS E hK hP hS (c_X9_greatestDivisor hq hz3) cs_X9_greatestDivisor tw852 rfl ⟨Nat.le_of_ble_eq_true rfl, Nat.le_of_ble_eq_true rfl⟩ ⟨Nat.le_refl 0, Nat.le_refl 0⟩ hl.1 (Nat.le_of_ble_eq_true rfl) rfl dX9_partOfFraction_2) hS (fun H locs hP hS => ?_)
  refine lv_lstore (lv' := [(5, .long (r2)), (0, .long (a1)), (2, .long (a2)), (4, .int (a3))]) hx hb dX9_partOfFraction_5 hl (by decide) rfl (fun ls hl => ?_)
  refine lv_lload hx hb dX9_partOfFraction_7 (lv_at hl 0 rfl) ?_
  refine lv_lconst (v := 0) hx hb dX9_partOfFraction_9 (by decide) ?_
  refine W.lcmp hx hb dX9_partOfFraction_10 ?_
  refine lv_if_ne (tgt := 16) hx hb dX9_partOfFraction_11 (by decide) (fun hc4 => ?_) (fun hc4 => ?_)
  · replace hf := z_ifn hf hc4
    refine lv_iload hx hb dX9_partOfFraction_16 (lv_at hl 3 rfl) ?_
    refine lv_if_ne (tgt := 28) hx hb dX9_partOfFraction_18 (by decide) (fun hc5 => ?_) (fun hc5 => ?_)
    · replace hf := z_ifn hf hc5
      refine lv_lload_n hx hb dX9_partOfFraction_28 rfl (lv_at hl 2 rfl) ?_
      refine lv_lload hx hb dX9_partOfFraction_29 (lv_at hl 0 rfl) ?_
      obtain ⟨hg6, hf⟩ := z_gd_some hf
      refine lv_ldiv hx hb dX9_partOfFraction_31 hg6 ?_
      exact x_retl hx hb hr hlk hf hP hS dX9_partOfFraction_32
    · replace hf := z_ifp hf hc5
      refine lv_lload_n hx hb dX9_partOfFraction_21 rfl (lv_at hl 1 rfl) ?_
      refine lv_lload hx hb dX9_partOfFraction_22 (lv_at hl 0 rfl) ?_
      obtain ⟨hg7, hf⟩ := z_gd_some hf
      refine lv_ldiv hx hb dX9_partOfFraction_24 hg7 ?_
      refine lv_goto (tgt := 32) hx hb dX9_partOfFraction_25 (by decide) ?_
      exact x_retl hx hb hr hlk hf hP hS dX9_partOfFraction_32
  · replace hf := z_ifp hf hc4
    refine lv_lconst (v := 0) hx hb dX9_partOfFraction_14 (by decide) ?_
    exact x_retl hx hb hr hlk hf hP hS dX9_partOfFraction_15
theorem cs_X9_partOfFraction : z_cs yX9_partOfFraction cX9_partOfFraction 7 (some .long) 3 := ⟨tw850, tw851, tw1, by decide +kernel⟩
def f_X9_refuseLong (N : Nat) (a1 : Int32) (S : St) : Option (Int64 × St) := z_bd (f_X9_refuse N (a1) S) fun r2 S1 => some ((4000000000000000000 - ((r2 : Int32).toInt64)), S1)
set_option maxHeartbeats 4000000 in
set_option maxRecDepth 100000 in
theorem c_X9_refuseLong {l : Launch} {G : Cx} {M S S' : St} {N : Nat} {a1 : Int32} {r : Int64} (hq : z_inj (gq G)) (hf : f_X9_refuseLong N a1 S = some (r, S')) : z_Ct l yX9_refuseLong cX9_refuseLong 2 (some .long) 2 43 G S M [.ref (gq G (0)), .int (a1)] (z_QL G S' M r) := by
  refine z_start (by decide +kernel) (Nat.le_of_ble_eq_true rfl) ?_
  intro p e s m below meth c ls E hr hlk hK hP hS hl
  have E : CallFix p m c cX9_refuseLong 2 s _ lw_good RX9 := E
  have hx := E.1
  have hb := E.2.1
  have hown := E.2.2.2.1
  have hts := E.2.2.2.2
  have hl : lv_has ls 2 [(0, .ref (gq G (0))), (1, .int (a1))] := hl
  unfold f_X9_refuseLong at hf
  refine lv_ldc2 (v := 4000000000000000000) hx hb hown (hts _ tw848) dX9_refuseLong_0 ?_
  refine lv_aload_n hx hb dX9_refuseLong_3 rfl (lv_at hl 0 rfl) ?_
  refine lv_iload_n hx hb dX9_refuseLong_4 rfl (lv_at hl 1 rfl) ?_
  obtain ⟨r2, S1, hz3, hf⟩ := z_bd_some hf
  refine z_ci (z_runV (o := 0) (ci := 9) E hK hP hS (c_X9_refuse hq hz3) cv_X9_refuse tw330 rfl (by decide) rfl rfl ⟨Nat.le_of_ble_eq_true rfl, Nat.le_of_ble_eq_true rfl⟩ ⟨Nat.le_refl 0, Nat.le_refl 0⟩ hl.1 (Nat.le_of_ble_eq_true rfl) rfl dX9_refuseLong_5) hS (fun H locs hP hS => ?_)
  refine lv_i2l (v := (r2 : Int32).toInt64) hx hb dX9_refuseLong_8 rfl ?_
  refine lv_lsub hx hb dX9_refuseLong_9 ?_
  exact x_retl hx hb hr hlk hf hP hS dX9_refuseLong_10
theorem cv_X9_refuseLong : z_cv yX9_refuseLong cX9_refuseLong 2 (some .long) RX9 1 := ⟨⟨tw846, twp27⟩, tw847, tw1, by decide +kernel⟩
def b_X9_likely_124 (N : Nat) (k25 : Int32 → Int32 → Int64 → Int32 → St → Option (Int64 × St)) (v1 : Int32) (v2 : Int32) (v4 : Int64) (v6 : Int32) (S : St) : Option (Int64 × St) := k25 (v1) (v2) (v4) ((v6 + 1)) S
def b_X9_likely_94 (N : Nat) (k25 : Int32 → Int32 → Int64 → Int32 → St → Option (Int64 × St)) (k49 : Int32 → Int32 → Int64 → Int32 → Int64 → Int32 → St → Option (Int64 × St)) (v1 : Int32) (v2 : Int32) (v4 : Int64) (v6 : Int32) (v9 : Int32) (t0 : Int64) (t1 : Int64) (S : St) : Option (Int64 × St) := k49 (v1) (v2) (v4) (v6) ((t1 * t0)) ((v9 + 1)) S
def b_X9_likely_49 (N : Nat) (k25 : Int32 → Int32 → Int64 → Int32 → St → Option (Int64 × St)) (k49 : Int32 → Int32 → Int64 → Int32 → Int64 → Int32 → St → Option (Int64 × St)) (v1 : Int32) (v2 : Int32) (v4 : Int64) (v6 : Int32) (v7 : Int64) (v9 : Int32) (S : St) : Option (Int64 × St) := if 3 ≤ v9 then (z_bv (f_X4_perform N S) fun S15 => if (S15 35 0) = 3 then (b_X9_likely_124 N k25 (v1) (v2) (v4) (v6) S15) else (b_X9_likely_124 N k25 (v1) (v2) ((v4 + v7)) (v6) S15)) else (z_bv (f_X9_put N (30) (v9) (((v6 >>> (v9 &&& 31)) &&& 1)) S) fun S18 => if ((v6 >>> (v9 &&& 31)) &&& 1) = 1 then (b_X9_likely_94 N k25 k49 (v1) (v2) (v4) (v6) (v9) (1) (v7) S18) else (b_X9_likely_94 N k25 k49 (v1) (v2) (v4) (v6) (v9) ((((v1 - 1) : Int32).toInt64)) (v7) S18))
def f_X9_likely_49 (N : Nat) (k25 : Int32 → Int32 → Int64 → Int32 → St → Option (Int64 × St)) : Nat → Int32 → Int32 → Int64 → Int32 → Int64 → Int32 → St → Option (Int64 × St)
  | 0 => fun _ _ _ _ _ _ _ => none
  | n + 1 => b_X9_likely_49 N k25 (f_X9_likely_49 N k25 n)
def b_X9_likely_25 (N : Nat) (k25 : Int32 → Int32 → Int64 → Int32 → St → Option (Int64 × St)) (v1 : Int32) (v2 : Int32) (v4 : Int64) (v6 : Int32) (S : St) : Option (Int64 × St) := if 8 ≤ v6 then (z_bd (f_X9_partOfFraction N (v4) (((((v1 : Int32).toInt64) * ((v1 : Int32).toInt64)) * ((v1 : Int32).toInt64))) (v2) S) fun r10 S9 => some (r10, S9)) else (z_bv (f_X4_takeUp N S) fun S12 => f_X9_likely_49 N k25 N (v1) (v2) (v4) (v6) (1) (0) S12)
def f_X9_likely_25 (N : Nat) : Nat → Int32 → Int32 → Int64 → Int32 → St → Option (Int64 × St)
  | 0 => fun _ _ _ _ _ => none
  | n + 1 => b_X9_likely_25 N (f_X9_likely_25 N n)
def f_X9_likely (N : Nat) (a1 : Int32) (a2 : Int32) (S : St) : Option (Int64 × St) := z_bd (f_X9_refusalOfMany N (a1) (2) (20) (a2) S) fun r2 S1 => if r2 = 0 then (f_X9_likely_25 N N (a1) (a2) (0) (0) S1) else (z_bd (f_X9_refuseLong N (r2) S1) fun r6 S5 => some (r6, S5))
set_option maxHeartbeats 4000000 in
set_option maxRecDepth 100000 in
theorem c_X9_likely {l : Launch} {G : Cx} {M S S' : St} {N : Nat} {a1 : Int32} {a2 : Int32} {r : Int64} (hq : z_inj (gq G)) (hf : f_X9_likely N a1 a2 S = some (r, S')) : z_Ct l yX9_likely cX9_likely 11 (some .long) 5 115 G S M [.ref (gq G (0)), .int (a1), .int (a2)] (z_QL G S' M r) := by
  refine z_start (by decide +kernel) (Nat.le_of_ble_eq_true rfl) ?_
  intro p e s m below meth c ls E hr hlk hK hP hS hl
  have E : CallFix p m c cX9_likely 11 s _ lw_good RX9 := E
  have hx := E.1
  have hb := E.2.1
  have hown := E.2.2.2.1
  have hts := E.2.2.2.2
  have hJ124 : ∀ (k25 : Int32 → Int32 → Int64 → Int32 → St → Option (Int64 × St)) (hk25 : ∀ (v1 : Int32) (v2 : Int32) (v4 : Int64) (v6 : Int32) (S : St) (H : Heap) (locs : List Loc) (ls : Array Slot), k25 v1 v2 v4 v6 S = some (r, S') → z_P G S M H → z_S G s.heap H locs → lv_has ls 11 [(0, .ref (gq G (0))), (1, .int (v1)), (2, .int (v2)), (4, .long (v4)), (6, .int (v6))] → W p l e (z_rm 5 115) s m ([.ref (gq G (0)), .int (a1), .int (a2)] : List Value).toArray below meth c H locs 0 0 (MQ below (z_QL G S' M r) ([.ref (gq G (0)), .int (a1), .int (a2)] : List Value).toArray s 0 0 (z_Aq (gq G))) (F0 m 25 ls [])), ∀ (v1 : Int32) (v2 : Int32) (v4 : Int64) (v6 : Int32) (S : St) (H : Heap) (locs : List Loc) (ls : Array Slot), b_X9_likely_124 N k25 v1 v2 v4 v6 S = some (r, S') → z_P G S M H → z_S G s.heap H locs → lv_has ls 11 [(0, .ref (gq G (0))), (1, .int (v1)), (2, .int (v2)), (4, .long (v4)), (6, .int (v6))] → W p l e (z_rm 5 115) s m ([.ref (gq G (0)), .int (a1), .int (a2)] : List Value).toArray below meth c H locs 0 0 (MQ below (z_QL G S' M r) ([.ref (gq G (0)), .int (a1), .int (a2)] : List Value).toArray s 0 0 (z_Aq (gq G))) (F0 m 124 ls []) := by
    intro k25 hk25 v1 v2 v4 v6 S H locs ls hf hP hS hl
    unfold b_X9_likely_124 at hf
    refine lv_iinc (v := (v6 + 1)) (lv' := [(6, .int ((v6 + 1))), (0, .ref (gq G (0))), (1, .int (v1)), (2, .int (v2)), (4, .long (v4))]) hx hb dX9_likely_124 hl (k := 4) rfl rfl (by decide) rfl (fun ls hl => ?_)
    refine lv_goto (tgt := 25) hx hb dX9_likely_127 (by decide) ?_
    exact hk25 (v1) (v2) (v4) ((v6 + 1)) S _ _ _ hf hP hS (lv_sub hl [1, 2, 3, 4, 0] rfl)
  have hJ94 : ∀ (k25 : Int32 → Int32 → Int64 → Int32 → St → Option (Int64 × St)) (k49 : Int32 → Int32 → Int64 → Int32 → Int64 → Int32 → St → Option (Int64 × St)) (hk25 : ∀ (v1 : Int32) (v2 : Int32) (v4 : Int64) (v6 : Int32) (S : St) (H : Heap) (locs : List Loc) (ls : Array Slot), k25 v1 v2 v4 v6 S = some (r, S') → z_P G S M H → z_S G s.heap H locs → lv_has ls 11 [(0, .ref (gq G (0))), (1, .int (v1)), (2, .int (v2)), (4, .long (v4)), (6, .int (v6))] → W p l e (z_rm 5 115) s m ([.ref (gq G (0)), .int (a1), .int (a2)] : List Value).toArray below meth c H locs 0 0 (MQ below (z_QL G S' M r) ([.ref (gq G (0)), .int (a1), .int (a2)] : List Value).toArray s 0 0 (z_Aq (gq G))) (F0 m 25 ls [])) (hk49 : ∀ (v1 : Int32) (v2 : Int32) (v4 : Int64) (v6 : Int32) (v7 : Int64) (v9 : Int32) (S : St) (H : Heap) (locs : List Loc) (ls : Array Slot), k49 v1 v2 v4 v6 v7 v9 S = some (r, S') → z_P G S M H → z_S G s.heap H locs → lv_has ls 11 [(0, .ref (gq G (0))), (1, .int (v1)), (2, .int (v2)), (4, .long (v4)), (6, .int (v6)), (7, .long (v7)), (9, .int (v9))] → W p l e (z_rm 5 115) s m ([.ref (gq G (0)), .int (a1), .int (a2)] : List Value).toArray below meth c H locs 0 0 (MQ below (z_QL G S' M r) ([.ref (gq G (0)), .int (a1), .int (a2)] : List Value).toArray s 0 0 (z_Aq (gq G))) (F0 m 49 ls [])), ∀ (v1 : Int32) (v2 : Int32) (v4 : Int64) (v6 : Int32) (v9 : Int32) (t0 : Int64) (t1 : Int64) (S : St) (H : Heap) (locs : List Loc) (ls : Array Slot), b_X9_likely_94 N k25 k49 v1 v2 v4 v6 v9 t0 t1 S = some (r, S') → z_P G S M H → z_S G s.heap H locs → lv_has ls 11 [(0, .ref (gq G (0))), (1, .int (v1)), (2, .int (v2)), (4, .long (v4)), (6, .int (v6)), (9, .int (v9))] → W p l e (z_rm 5 115) s m ([.ref (gq G (0)), .int (a1), .int (a2)] : List Value).toArray below meth c H locs 0 0 (MQ below (z_QL G S' M r) ([.ref (gq G (0)), .int (a1), .int (a2)] : List Value).toArray s 0 0 (z_Aq (gq G))) (F0 m 94 ls [.long (t0), .long (t1)]) := by
    intro k25 k49 hk25 hk49 v1 v2 v4 v6 v9 t0 t1 S H locs ls hf hP hS hl
    unfold b_X9_likely_94 at hf
    refine lv_lmul hx hb dX9_likely_94 ?_
    refine lv_lstore (lv' := [(7, .long ((t1 * t0))), (0, .ref (gq G (0))), (1, .int (v1)), (2, .int (v2)), (4, .long (v4)), (6, .int (v6)), (9, .int (v9))]) hx hb dX9_likely_95 hl (by decide) rfl (fun ls hl => ?_)
    refine lv_iinc (v := (v9 + 1)) (lv' := [(9, .int ((v9 + 1))), (7, .long ((t1 * t0))), (0, .ref (gq G (0))), (1, .int (v1)), (2, .int (v2)), (4, .long (v4)), (6, .int (v6))]) hx hb dX9_likely_97 hl (k := 6) rfl rfl (by decide) rfl (fun ls hl => ?_)
    refine lv_goto (tgt := 49) hx hb dX9_likely_100 (by decide) ?_
    exact hk49 (v1) (v2) (v4) (v6) ((t1 * t0)) ((v9 + 1)) S _ _ _ hf hP hS (lv_sub hl [2, 3, 4, 5, 6, 1, 0] rfl)
  have hB49 : ∀ (k25 : Int32 → Int32 → Int64 → Int32 → St → Option (Int64 × St)) (k49 : Int32 → Int32 → Int64 → Int32 → Int64 → Int32 → St → Option (Int64 × St)) (hk25 : ∀ (v1 : Int32) (v2 : Int32) (v4 : Int64) (v6 : Int32) (S : St) (H : Heap) (locs : List Loc) (ls : Array Slot), k25 v1 v2 v4 v6 S = some (r, S') → z_P G S M H → z_S G s.heap H locs → lv_has ls 11 [(0, .ref (gq G (0))), (1, .int (v1)), (2, .int (v2)), (4, .long (v4)), (6, .int (v6))] → W p l e (z_rm 5 115) s m ([.ref (gq G (0)), .int (a1), .int (a2)] : List Value).toArray below meth c H locs 0 0 (MQ below (z_QL G S' M r) ([.ref (gq G (0)), .int (a1), .int (a2)] : List Value).toArray s 0 0 (z_Aq (gq G))) (F0 m 25 ls [])) (hk49 : ∀ (v1 : Int32) (v2 : Int32) (v4 : Int64) (v6 : Int32) (v7 : Int64) (v9 : Int32) (S : St) (H : Heap) (locs : List Loc) (ls : Array Slot), k49 v1 v2 v4 v6 v7 v9 S = some (r, S') → z_P G S M H → z_S G s.heap H locs → lv_has ls 11 [(0, .ref (gq G (0))), (1, .int (v1)), (2, .int (v2)), (4, .long (v4)), (6, .int (v6)), (7, .long (v7)), (9, .int (v9))] → W p l e (z_rm 5 115) s m ([.ref (gq G (0)), .int (a1), .int (a2)] : List Value).toArray below meth c H locs 0 0 (MQ below (z_QL G S' M r) ([.ref (gq G (0)), .int (a1), .int (a2)] : List Value).toArray s 0 0 (z_Aq (gq G))) (F0 m 49 ls [])), ∀ (v1 : Int32) (v2 : Int32) (v4 : Int64) (v6 : Int32) (v7 : Int64) (v9 : Int32) (S : St) (H : Heap) (locs : List Loc) (ls : Array Slot), b_X9_likely_49 N k25 k49 v1 v2 v4 v6 v7 v9 S = some (r, S') → z_P G S M H → z_S G s.heap H locs → lv_has ls 11 [(0, .ref (gq G (0))), (1, .int (v1)), (2, .int (v2)), (4, .long (v4)), (6, .int (v6)), (7, .long (v7)), (9, .int (v9))] → W p l e (z_rm 5 115) s m ([.ref (gq G (0)), .int (a1), .int (a2)] : List Value).toArray below meth c H locs 0 0 (MQ below (z_QL G S' M r) ([.ref (gq G (0)), .int (a1), .int (a2)] : List Value).toArray s 0 0 (z_Aq (gq G))) (F0 m 49 ls []) := by
    intro k25 k49 hk25 hk49 v1 v2 v4 v6 v7 v9 S H locs ls hf hP hS hl
    unfold b_X9_likely_49 at hf
    refine lv_iload hx hb dX9_likely_49 (lv_at hl 6 rfl) ?_
    refine lv_iconst (v := 3) hx hb dX9_likely_51 (by decide) ?_
    refine lv_icmp_ge (tgt := 103) hx hb dX9_likely_52 (by decide) (fun hc14 => ?_) (fun hc14 => ?_)
    · replace hf := z_ifp hf hc14
      refine lv_aload_n hx hb dX9_likely_103 rfl (lv_at hl 0 rfl) ?_
      refine z_getR (C := RX9) (T := TX9) (N := 9) (ci := 9) (k := 2) (o := 0) (t := 29) E hK hP iwX9 rfl rfl (by decide) (by decide) rfl rfl rfl tw300 dX9_likely_104 ?_
      obtain ⟨S15, hz16, hf⟩ := z_bv_some hf
      refine z_cr (z_runV (o := 29) (ci := 4) E hK hP hS (c_X4_perform hq hz16) cv_X4_perform tw534 rfl (by decide) rfl rfl ⟨Nat.le_of_ble_eq_true rfl, Nat.le_of_ble_eq_true rfl⟩ ⟨Nat.le_refl 0, Nat.le_refl 0⟩ hl.1 (Nat.le_of_ble_eq_true rfl) rfl dX9_likely_107) hS (fun H locs hP hS => ?_)
      refine x_getI (C := RX2) (T := TX2) (N := 7) (ci := 2) (k := 0) (o := 35) E hK hP iwX2 rfl rfl (by decide) (by decide) rfl rfl (by decide) tw91 dX9_likely_110 ?_
      refine lv_iconst (v := 3) hx hb dX9_likely_113 (by decide) ?_
      refine lv_icmp_eq (tgt := 124) hx hb dX9_likely_114 (by decide) (fun hc17 => ?_) (fun hc17 => ?_)
      · replace hf := z_ifp hf hc17
        exact hJ124 k25 hk25 (v1) (v2) (v4) (v6) S15 _ _ _ hf hP hS (lv_sub hl [0, 1, 2, 3, 4] rfl)
      · replace hf := z_ifn hf hc17
        refine lv_lload hx hb dX9_likely_117 (lv_at hl 3 rfl) ?_
        refine lv_lload hx hb dX9_likely_119 (lv_at hl 5 rfl) ?_
        refine lv_ladd hx hb dX9_likely_121 ?_
        refine lv_lstore (lv' := [(4, .long ((v4 + v7))), (0, .ref (gq G (0))), (1, .int (v1)), (2, .int (v2)), (6, .int (v6)), (7, .long (v7)), (9, .int (v9))]) hx hb dX9_likely_122 hl (by decide) rfl (fun ls hl => ?_)
        exact hJ124 k25 hk25 (v1) (v2) ((v4 + v7)) (v6) S15 _ _ _ hf hP hS (lv_sub hl [1, 2, 3, 0, 4] rfl)
    · replace hf := z_ifn hf hc14
      refine lv_iload hx hb dX9_likely_55 (lv_at hl 4 rfl) ?_
      refine lv_iload hx hb dX9_likely_57 (lv_at hl 6 rfl) ?_
      refine lv_ishr hx hb dX9_likely_59 ?_
      refine lv_iconst (v := 1) hx hb dX9_likely_60 (by decide) ?_
      refine lv_iand hx hb dX9_likely_61 ?_
      refine lv_istore (lv' := [(10, .int (((v6 >>> (v9 &&& 31)) &&& 1))), (0, .ref (gq G (0))), (1, .int (v1)), (2, .int (v2)), (4, .long (v4)), (6, .int (v6)), (7, .long (v7)), (9, .int (v9))]) hx hb dX9_likely_62 hl (by decide) rfl (fun ls hl => ?_)
      refine lv_aload_n hx hb dX9_likely_64 rfl (lv_at hl 1 rfl) ?_
      refine z_getR (C := RX9) (T := TX9) (N := 9) (ci := 9) (k := 2) (o := 0) (t := 29) E hK hP iwX9 rfl rfl (by decide) (by decide) rfl rfl rfl tw300 dX9_likely_65 ?_
      refine z_getR (C := RX4) (T := TX4) (N := 13) (ci := 4) (k := 0) (o := 29) (t := 30) E hK hP iwX4 rfl rfl (by decide) (by decide) rfl rfl rfl tw224 dX9_likely_68 ?_
      refine lv_iload hx hb dX9_likely_71 (lv_at hl 7 rfl) ?_
      refine lv_iload hx hb dX9_likely_73 (lv_at hl 0 rfl) ?_
      obtain ⟨S18, hz19, hf⟩ := z_bv_some hf
      refine z_cvo (z_runS E hK hP hS (c_X9_put hq rfl (by decide) hz19) cs_X9_put tw337 rfl ⟨Nat.le_of_ble_eq_true rfl, Nat.le_of_ble_eq_true rfl⟩ ⟨Nat.le_refl 0, Nat.le_refl 0⟩ hl.1 (Nat.le_of_ble_eq_true rfl) rfl dX9_likely_75) hS (fun H locs hP hS => ?_)
      refine lv_lload hx hb dX9_likely_78 (lv_at hl 6 rfl) ?_
      refine lv_iload hx hb dX9_likely_80 (lv_at hl 0 rfl) ?_
      refine lv_iconst (v := 1) hx hb dX9_likely_82 (by decide) ?_
      refine lv_icmp_ne (tgt := 90) hx hb dX9_likely_83 (by decide) (fun hc20 => ?_) (fun hc20 => ?_)
      · replace hf := z_ifn hf hc20
        refine lv_iload_n hx hb dX9_likely_90 rfl (lv_at hl 2 rfl) ?_
        refine lv_iconst (v := 1) hx hb dX9_likely_91 (by decide) ?_
        refine lv_isub hx hb dX9_likely_92 ?_
        refine lv_i2l (v := ((v1 - 1) : Int32).toInt64) hx hb dX9_likely_93 rfl ?_
        exact hJ94 k25 k49 hk25 hk49 (v1) (v2) (v4) (v6) (v9) ((((v1 - 1) : Int32).toInt64)) (v7) S18 _ _ _ hf hP hS (lv_sub hl [1, 2, 3, 4, 5, 7] rfl)
      · replace hf := z_ifp hf hc20
        refine lv_lconst (v := 1) hx hb dX9_likely_86 (by decide) ?_
        refine lv_goto (tgt := 94) hx hb dX9_likely_87 (by decide) ?_
        exact hJ94 k25 k49 hk25 hk49 (v1) (v2) (v4) (v6) (v9) (1) (v7) S18 _ _ _ hf hP hS (lv_sub hl [1, 2, 3, 4, 5, 7] rfl)
  have hL49 : ∀ (k25 : Int32 → Int32 → Int64 → Int32 → St → Option (Int64 × St)) (hk25 : ∀ (v1 : Int32) (v2 : Int32) (v4 : Int64) (v6 : Int32) (S : St) (H : Heap) (locs : List Loc) (ls : Array Slot), k25 v1 v2 v4 v6 S = some (r, S') → z_P G S M H → z_S G s.heap H locs → lv_has ls 11 [(0, .ref (gq G (0))), (1, .int (v1)), (2, .int (v2)), (4, .long (v4)), (6, .int (v6))] → W p l e (z_rm 5 115) s m ([.ref (gq G (0)), .int (a1), .int (a2)] : List Value).toArray below meth c H locs 0 0 (MQ below (z_QL G S' M r) ([.ref (gq G (0)), .int (a1), .int (a2)] : List Value).toArray s 0 0 (z_Aq (gq G))) (F0 m 25 ls [])) (n : Nat), ∀ (v1 : Int32) (v2 : Int32) (v4 : Int64) (v6 : Int32) (v7 : Int64) (v9 : Int32) (S : St) (H : Heap) (locs : List Loc) (ls : Array Slot), f_X9_likely_49 N k25 n v1 v2 v4 v6 v7 v9 S = some (r, S') → z_P G S M H → z_S G s.heap H locs → lv_has ls 11 [(0, .ref (gq G (0))), (1, .int (v1)), (2, .int (v2)), (4, .long (v4)), (6, .int (v6)), (7, .long (v7)), (9, .int (v9))] → W p l e (z_rm 5 115) s m ([.ref (gq G (0)), .int (a1), .int (a2)] : List Value).toArray below meth c H locs 0 0 (MQ below (z_QL G S' M r) ([.ref (gq G (0)), .int (a1), .int (a2)] : List Value).toArray s 0 0 (z_Aq (gq G))) (F0 m 49 ls []) := by
    intro k25 hk25 n
    induction n with
    | zero => intro _ _ _ _ _ _ _ _ _ _ hf; cases hf
    | succ n ih => exact hB49 k25 _ hk25 ih
  have hB25 : ∀ (k25 : Int32 → Int32 → Int64 → Int32 → St → Option (Int64 × St)) (hk25 : ∀ (v1 : Int32) (v2 : Int32) (v4 : Int64) (v6 : Int32) (S : St) (H : Heap) (locs : List Loc) (ls : Array Slot), k25 v1 v2 v4 v6 S = some (r, S') → z_P G S M H → z_S G s.heap H locs → lv_has ls 11 [(0, .ref (gq G (0))), (1, .int (v1)), (2, .int (v2)), (4, .long (v4)), (6, .int (v6))] → W p l e (z_rm 5 115) s m ([.ref (gq G (0)), .int (a1), .int (a2)] : List Value).toArray below meth c H locs 0 0 (MQ below (z_QL G S' M r) ([.ref (gq G (0)), .int (a1), .int (a2)] : List Value).toArray s 0 0 (z_Aq (gq G))) (F0 m 25 ls [])), ∀ (v1 : Int32) (v2 : Int32) (v4 : Int64) (v6 : Int32) (S : St) (H : Heap) (locs : List Loc) (ls : Array Slot), b_X9_likely_25 N k25 v1 v2 v4 v6 S = some (r, S') → z_P G S M H → z_S G s.heap H locs → lv_has ls 11 [(0, .ref (gq G (0))), (1, .int (v1)), (2, .int (v2)), (4, .long (v4)), (6, .int (v6))] → W p l e (z_rm 5 115) s m ([.ref (gq G (0)), .int (a1), .int (a2)] : List Value).toArray below meth c H locs 0 0 (MQ below (z_QL G S' M r) ([.ref (gq G (0)), .int (a1), .int (a2)] : List Value).toArray s 0 0 (z_Aq (gq G))) (F0 m 25 ls []) := by
    intro k25 hk25 v1 v2 v4 v6 S H locs ls hf hP hS hl
    unfold b_X9_likely_25 at hf
    refine lv_iload hx hb dX9_likely_25 (lv_at hl 4 rfl) ?_
    refine lv_bipush (v := 8) hx hb dX9_likely_27 (by decide) ?_
    refine lv_icmp_ge (tgt := 130) hx hb dX9_likely_29 (by decide) (fun hc8 => ?_) (fun hc8 => ?_)
    · replace hf := z_ifp hf hc8
      refine lv_lload hx hb dX9_likely_130 (lv_at hl 3 rfl) ?_
      refine lv_iload_n hx hb dX9_likely_132 rfl (lv_at hl 1 rfl) ?_
      refine lv_i2l (v := (v1 : Int32).toInt64) hx hb dX9_likely_133 rfl ?_
      refine lv_iload_n hx hb dX9_likely_134 rfl (lv_at hl 1 rfl) ?_
      refine lv_i2l (v := (v1 : Int32).toInt64) hx hb dX9_likely_135 rfl ?_
      refine lv_lmul hx hb dX9_likely_136 ?_
      refine lv_iload_n hx hb dX9_likely_137 rfl (lv_at hl 1 rfl) ?_
      refine lv_i2l (v := (v1 : Int32).toInt64) hx hb dX9_likely_138 rfl ?_
      refine lv_lmul hx hb dX9_likely_139 ?_
      refine lv_iload_n hx hb dX9_likely_140 rfl (lv_at hl 2 rfl) ?_
      obtain ⟨r10, S9, hz11, hf⟩ := z_bd_some hf
      refine z_cl (z_runS E hK hP hS (c_X9_partOfFraction hq hz11) cs_X9_partOfFraction tw849 rfl ⟨Nat.le_of_ble_eq_true rfl, Nat.le_of_ble_eq_true rfl⟩ ⟨Nat.le_refl 0, Nat.le_refl 0⟩ hl.1 (Nat.le_of_ble_eq_true rfl) rfl dX9_likely_141) hS (fun H locs hP hS => ?_)
      exact x_retl hx hb hr hlk hf hP hS dX9_likely_144
    · replace hf := z_ifn hf hc8
      refine lv_aload_n hx hb dX9_likely_32 rfl (lv_at hl 0 rfl) ?_
      refine z_getR (C := RX9) (T := TX9) (N := 9) (ci := 9) (k := 2) (o := 0) (t := 29) E hK hP iwX9 rfl rfl (by decide) (by decide) rfl rfl rfl tw300 dX9_likely_33 ?_
      refine lv_aload_n hx hb dX9_likely_36 rfl (lv_at hl 0 rfl) ?_
      refine z_getR (C := RX9) (T := TX9) (N := 9) (ci := 9) (k := 0) (o := 0) (t := 1) E hK hP iwX9 rfl rfl (by decide) (by decide) rfl rfl rfl tw298 dX9_likely_37 ?_
      obtain ⟨S12, hz13, hf⟩ := z_bv_some hf
      refine z_cvo (z_runV (o := 29) (ci := 4) E hK hP hS (c_X4_takeUp hq hz13) cv_X4_takeUp tw516 rfl (by decide) rfl rfl ⟨Nat.le_of_ble_eq_true rfl, Nat.le_of_ble_eq_true rfl⟩ ⟨Nat.le_refl 0, Nat.le_refl 0⟩ hl.1 (Nat.le_of_ble_eq_true rfl) rfl dX9_likely_40) hS (fun H locs hP hS => ?_)
      refine lv_lconst (v := 1) hx hb dX9_likely_43 (by decide) ?_
      refine lv_lstore (lv' := [(7, .long (1)), (0, .ref (gq G (0))), (1, .int (v1)), (2, .int (v2)), (4, .long (v4)), (6, .int (v6))]) hx hb dX9_likely_44 hl (by decide) rfl (fun ls hl => ?_)
      refine lv_iconst (v := 0) hx hb dX9_likely_46 (by decide) ?_
      refine lv_istore (lv' := [(9, .int (0)), (7, .long (1)), (0, .ref (gq G (0))), (1, .int (v1)), (2, .int (v2)), (4, .long (v4)), (6, .int (v6))]) hx hb dX9_likely_47 hl (by decide) rfl (fun ls hl => ?_)
      exact hL49 k25 hk25 N (v1) (v2) (v4) (v6) (1) (0) S12 _ _ _ hf hP hS (lv_sub hl [2, 3, 4, 5, 6, 1, 0] rfl)
  have hL25 : ∀ (n : Nat), ∀ (v1 : Int32) (v2 : Int32) (v4 : Int64) (v6 : Int32) (S : St) (H : Heap) (locs : List Loc) (ls : Array Slot), f_X9_likely_25 N n v1 v2 v4 v6 S = some (r, S') → z_P G S M H → z_S G s.heap H locs → lv_has ls 11 [(0, .ref (gq G (0))), (1, .int (v1)), (2, .int (v2)), (4, .long (v4)), (6, .int (v6))] → W p l e (z_rm 5 115) s m ([.ref (gq G (0)), .int (a1), .int (a2)] : List Value).toArray below meth c H locs 0 0 (MQ below (z_QL G S' M r) ([.ref (gq G (0)), .int (a1), .int (a2)] : List Value).toArray s 0 0 (z_Aq (gq G))) (F0 m 25 ls []) := by
    intro  n
    induction n with
    | zero => intro _ _ _ _ _ _ _ _ hf; cases hf
    | succ n ih => exact hB25  _  ih
  have hl : lv_has ls 11 [(0, .ref (gq G (0))), (1, .int (a1)), (2, .int (a2))] := hl
  unfold f_X9_likely at hf
  refine lv_iload_n hx hb dX9_likely_0 rfl (lv_at hl 1 rfl) ?_
  refine lv_iconst (v := 2) hx hb dX9_likely_1 (by decide) ?_
  refine lv_bipush (v := 20) hx hb dX9_likely_2 (by decide) ?_
  refine lv_iload_n hx hb dX9_likely_4 rfl (lv_at hl 2 rfl) ?_
  obtain ⟨r2, S1, hz3, hf⟩ := z_bd_some hf
  refine z_ci (z_runS E hK hP hS (c_X9_refusalOfMany hq hz3) cs_X9_refusalOfMany tw837 rfl ⟨Nat.le_of_ble_eq_true rfl, Nat.le_of_ble_eq_true rfl⟩ ⟨Nat.le_refl 0, Nat.le_refl 0⟩ hl.1 (Nat.le_of_ble_eq_true rfl) rfl dX9_likely_5) hS (fun H locs hP hS => ?_)
  refine lv_istore_n (lv' := [(3, .int (r2)), (0, .ref (gq G (0))), (1, .int (a1)), (2, .int (a2))]) hx hb dX9_likely_8 rfl hl (by decide) rfl (fun ls hl => ?_)
  refine lv_iload_n hx hb dX9_likely_9 rfl (lv_at hl 0 rfl) ?_
  refine lv_if_eq (tgt := 19) hx hb dX9_likely_10 (by decide) (fun hc4 => ?_) (fun hc4 => ?_)
  · replace hf := z_ifp hf hc4
    refine lv_lconst (v := 0) hx hb dX9_likely_19 (by decide) ?_
    refine lv_lstore (lv' := [(4, .long (0)), (3, .int (r2)), (0, .ref (gq G (0))), (1, .int (a1)), (2, .int (a2))]) hx hb dX9_likely_20 hl (by decide) rfl (fun ls hl => ?_)
    refine lv_iconst (v := 0) hx hb dX9_likely_22 (by decide) ?_
    refine lv_istore (lv' := [(6, .int (0)), (4, .long (0)), (3, .int (r2)), (0, .ref (gq G (0))), (1, .int (a1)), (2, .int (a2))]) hx hb dX9_likely_23 hl (by decide) rfl (fun ls hl => ?_)
    exact hL25 N (a1) (a2) (0) (0) S1 _ _ _ hf hP hS (lv_sub hl [3, 4, 5, 1, 0] rfl)
  · replace hf := z_ifn hf hc4
    refine lv_aload_n hx hb dX9_likely_13 rfl (lv_at hl 1 rfl) ?_
    refine lv_iload_n hx hb dX9_likely_14 rfl (lv_at hl 0 rfl) ?_
    obtain ⟨r6, S5, hz7, hf⟩ := z_bd_some hf
    refine z_cl (z_runV (o := 0) (ci := 9) E hK hP hS (c_X9_refuseLong hq hz7) cv_X9_refuseLong tw844 rfl (by decide) rfl rfl ⟨Nat.le_of_ble_eq_true rfl, Nat.le_of_ble_eq_true rfl⟩ ⟨Nat.le_refl 0, Nat.le_refl 0⟩ hl.1 (Nat.le_of_ble_eq_true rfl) rfl dX9_likely_15) hS (fun H locs hP hS => ?_)
    exact x_retl hx hb hr hlk hf hP hS dX9_likely_18
theorem cv_X9_likely : z_cv yX9_likely cX9_likely 11 (some .long) RX9 2 := ⟨⟨tw841, tw842⟩, tw843, tw1, by decide +kernel⟩
def b_X9_mean_22 (N : Nat) (S : St) : Option (Int64 × St) := z_bd (f_X9_refuseLong N ((-2)) S) fun r11 S10 => some (r11, S10)
def b_X9_mean_34 (N : Nat) (k34 : Int32 → Int32 → Int64 → Int32 → St → Option (Int64 × St)) (v1 : Int32) (v2 : Int32) (v3 : Int64) (v5 : Int32) (S : St) : Option (Int64 × St) := if 10 ≤ v5 then (z_bd (f_X9_partOfFraction N (v3) (10) (v2) S) fun r15 S14 => some (r15, S14)) else (z_bv (f_X9_thinkWith N (v1) (v5) S) fun S17 => k34 (v1) (v2) ((v3 + (((S17 35 2) : Int32).toInt64))) ((v5 + 1)) S17)
def f_X9_mean_34 (N : Nat) : Nat → Int32 → Int32 → Int64 → Int32 → St → Option (Int64 × St)
  | 0 => fun _ _ _ _ _ => none
  | n + 1 => b_X9_mean_34 N (f_X9_mean_34 N n)
def f_X9_mean (N : Nat) (a1 : Int32) (a2 : Int32) (S : St) : Option (Int64 × St) := z_bd (f_X9_isVariable N (a1) S) fun r2 S1 => if r2 = 0 then (z_bd (f_X9_refuseLong N ((-1)) S1) fun r8 S7 => some (r8, S7)) else (if a2 < 0 then (b_X9_mean_22 N S1) else (if a2 ≤ 1 then (f_X9_mean_34 N N (a1) (a2) (0) (0) S1) else (b_X9_mean_22 N S1)))
set_option maxHeartbeats 4000000 in
set_option maxRecDepth 100000 in
theorem c_X9_mean {l : Launch} {G : Cx} {M S S' : St} {N : Nat} {a1 : Int32} {a2 : Int32} {r : Int64} (hq : z_inj (gq G)) (hf : f_X9_mean N a1 a2 S = some (r, S')) : z_Ct l yX9_mean cX9_mean 6 (some .long) 6 137 G S M [.ref (gq G (0)), .int (a1), .int (a2)] (z_QL G S' M r) := by
  refine z_start (by decide +kernel) (Nat.le_of_ble_eq_true rfl) ?_
  intro p e s m below meth c ls E hr hlk hK hP hS hl
  have E : CallFix p m c cX9_mean 6 s _ lw_good RX9 := E
  have hx := E.1
  have hb := E.2.1
  have hown := E.2.2.2.1
  have hts := E.2.2.2.2
  have hJ22 : ∀ (S : St) (H : Heap) (locs : List Loc) (ls : Array Slot), b_X9_mean_22 N S = some (r, S') → z_P G S M H → z_S G s.heap H locs → lv_has ls 6 [(0, .ref (gq G (0)))] → W p l e (z_rm 6 137) s m ([.ref (gq G (0)), .int (a1), .int (a2)] : List Value).toArray below meth c H locs 0 0 (MQ below (z_QL G S' M r) ([.ref (gq G (0)), .int (a1), .int (a2)] : List Value).toArray s 0 0 (z_Aq (gq G))) (F0 m 22 ls []) := by
    intro S H locs ls hf hP hS hl
    unfold b_X9_mean_22 at hf
    refine lv_aload_n hx hb dX9_mean_22 rfl (lv_at hl 0 rfl) ?_
    refine lv_bipush (v := (-2)) hx hb dX9_mean_23 (by decide) ?_
    obtain ⟨r11, S10, hz12, hf⟩ := z_bd_some hf
    refine z_cl (z_runV (o := 0) (ci := 9) E hK hP hS (c_X9_refuseLong hq hz12) cv_X9_refuseLong tw844 rfl (by decide) rfl rfl ⟨Nat.le_of_ble_eq_true rfl, Nat.le_of_ble_eq_true rfl⟩ ⟨Nat.le_refl 0, Nat.le_refl 0⟩ hl.1 (Nat.le_of_ble_eq_true rfl) rfl dX9_mean_25) hS (fun H locs hP hS => ?_)
    exact x_retl hx hb hr hlk hf hP hS dX9_mean_28
  have hB34 : ∀ (k34 : Int32 → Int32 → Int64 → Int32 → St → Option (Int64 × St)) (hk34 : ∀ (v1 : Int32) (v2 : Int32) (v3 : Int64) (v5 : Int32) (S : St) (H : Heap) (locs : List Loc) (ls : Array Slot), k34 v1 v2 v3 v5 S = some (r, S') → z_P G S M H → z_S G s.heap H locs → lv_has ls 6 [(0, .ref (gq G (0))), (1, .int (v1)), (2, .int (v2)), (3, .long (v3)), (5, .int (v5))] → W p l e (z_rm 6 137) s m ([.ref (gq G (0)), .int (a1), .int (a2)] : List Value).toArray below meth c H locs 0 0 (MQ below (z_QL G S' M r) ([.ref (gq G (0)), .int (a1), .int (a2)] : List Value).toArray s 0 0 (z_Aq (gq G))) (F0 m 34 ls [])), ∀ (v1 : Int32) (v2 : Int32) (v3 : Int64) (v5 : Int32) (S : St) (H : Heap) (locs : List Loc) (ls : Array Slot), b_X9_mean_34 N k34 v1 v2 v3 v5 S = some (r, S') → z_P G S M H → z_S G s.heap H locs → lv_has ls 6 [(0, .ref (gq G (0))), (1, .int (v1)), (2, .int (v2)), (3, .long (v3)), (5, .int (v5))] → W p l e (z_rm 6 137) s m ([.ref (gq G (0)), .int (a1), .int (a2)] : List Value).toArray below meth c H locs 0 0 (MQ below (z_QL G S' M r) ([.ref (gq G (0)), .int (a1), .int (a2)] : List Value).toArray s 0 0 (z_Aq (gq G))) (F0 m 34 ls []) := by
    intro k34 hk34 v1 v2 v3 v5 S H locs ls hf hP hS hl
    unfold b_X9_mean_34 at hf
    refine lv_iload hx hb dX9_mean_34 (lv_at hl 4 rfl) ?_
    refine lv_bipush (v := 10) hx hb dX9_mean_36 (by decide) ?_
    refine lv_icmp_ge (tgt := 61) hx hb dX9_mean_38 (by decide) (fun hc13 => ?_) (fun hc13 => ?_)
    · replace hf := z_ifp hf hc13
      refine lv_lload_n hx hb dX9_mean_61 rfl (lv_at hl 3 rfl) ?_
      refine lv_ldc2 (v := 10) hx hb hown (hts _ tw859) dX9_mean_62 ?_
      refine lv_iload_n hx hb dX9_mean_65 rfl (lv_at hl 2 rfl) ?_
      obtain ⟨r15, S14, hz16, hf⟩ := z_bd_some hf
      refine z_cl (z_runS E hK hP hS (c_X9_partOfFraction hq hz16) cs_X9_partOfFraction tw849 rfl ⟨Nat.le_of_ble_eq_true rfl, Nat.le_of_ble_eq_true rfl⟩ ⟨Nat.le_refl 0, Nat.le_refl 0⟩ hl.1 (Nat.le_of_ble_eq_true rfl) rfl dX9_mean_66) hS (fun H locs hP hS => ?_)
      exact x_retl hx hb hr hlk hf hP hS dX9_mean_69
    · replace hf := z_ifn hf hc13
      refine lv_lload_n hx hb dX9_mean_41 rfl (lv_at hl 3 rfl) ?_
      refine lv_aload_n hx hb dX9_mean_42 rfl (lv_at hl 0 rfl) ?_
      refine lv_iload_n hx hb dX9_mean_43 rfl (lv_at hl 1 rfl) ?_
      refine lv_iload hx hb dX9_mean_44 (lv_at hl 4 rfl) ?_
      obtain ⟨S17, hz18, hf⟩ := z_bv_some hf
      refine z_cr (z_runV (o := 0) (ci := 9) E hK hP hS (c_X9_thinkWith hq hz18) cv_X9_thinkWith tw804 rfl (by decide) rfl rfl ⟨Nat.le_of_ble_eq_true rfl, Nat.le_of_ble_eq_true rfl⟩ ⟨Nat.le_refl 0, Nat.le_refl 0⟩ hl.1 (Nat.le_of_ble_eq_true rfl) rfl dX9_mean_46) hS (fun H locs hP hS => ?_)
      refine x_getI (C := RX2) (T := TX2) (N := 7) (ci := 2) (k := 2) (o := 35) E hK hP iwX2 rfl rfl (by decide) (by decide) rfl rfl (by decide) tw97 dX9_mean_49 ?_
      refine lv_i2l (v := ((S17 35 2) : Int32).toInt64) hx hb dX9_mean_52 rfl ?_
      refine lv_ladd hx hb dX9_mean_53 ?_
      refine lv_lstore_n (lv' := [(3, .long ((v3 + (((S17 35 2) : Int32).toInt64)))), (0, .ref (gq G (0))), (1, .int (v1)), (2, .int (v2)), (5, .int (v5))]) hx hb dX9_mean_54 rfl hl (by decide) rfl (fun ls hl => ?_)
      refine lv_iinc (v := (v5 + 1)) (lv' := [(5, .int ((v5 + 1))), (3, .long ((v3 + (((S17 35 2) : Int32).toInt64)))), (0, .ref (gq G (0))), (1, .int (v1)), (2, .int (v2))]) hx hb dX9_mean_55 hl (k := 4) rfl rfl (by decide) rfl (fun ls hl => ?_)
      refine lv_goto (tgt := 34) hx hb dX9_mean_58 (by decide) ?_
      exact hk34 (v1) (v2) ((v3 + (((S17 35 2) : Int32).toInt64))) ((v5 + 1)) S17 _ _ _ hf hP hS (lv_sub hl [2, 3, 4, 1, 0] rfl)
  have hL34 : ∀ (n : Nat), ∀ (v1 : Int32) (v2 : Int32) (v3 : Int64) (v5 : Int32) (S : St) (H : Heap) (locs : List Loc) (ls : Array Slot), f_X9_mean_34 N n v1 v2 v3 v5 S = some (r, S') → z_P G S M H → z_S G s.heap H locs → lv_has ls 6 [(0, .ref (gq G (0))), (1, .int (v1)), (2, .int (v2)), (3, .long (v3)), (5, .int (v5))] → W p l e (z_rm 6 137) s m ([.ref (gq G (0)), .int (a1), .int (a2)] : List Value).toArray below meth c H locs 0 0 (MQ below (z_QL G S' M r) ([.ref (gq G (0)), .int (a1), .int (a2)] : List Value).toArray s 0 0 (z_Aq (gq G))) (F0 m 34 ls []) := by
    intro  n
    induction n with
    | zero => intro _ _ _ _ _ _ _ _ hf; cases hf
    | succ n ih => exact hB34  _  ih
  have hl : lv_has ls 6 [(0, .ref (gq G (0))), (1, .int (a1)), (2, .int (a2))] := hl
  unfold f_X9_mean at hf
  refine lv_iload_n hx hb dX9_mean_0 rfl (lv_at hl 1 rfl) ?_
  obtain ⟨r2, S1, hz3, hf⟩ := z_bd_some hf
  refine z_ci (z_runS E hK hP hS (c_X9_isVariable hq hz3) cs_X9_isVariable tw493 rfl ⟨Nat.le_of_ble_eq_true rfl, Nat.le_of_ble_eq_true rfl⟩ ⟨Nat.le_refl 0, Nat.le_refl 0⟩ hl.1 (Nat.le_of_ble_eq_true rfl) rfl dX9_mean_1) hS (fun H locs hP hS => ?_)
  refine lv_if_ne (tgt := 13) hx hb dX9_mean_4 (by decide) (fun hc4 => ?_) (fun hc4 => ?_)
  · replace hf := z_ifn hf hc4
    refine lv_iload_n hx hb dX9_mean_13 rfl (lv_at hl 2 rfl) ?_
    refine lv_if_lt (tgt := 22) hx hb dX9_mean_14 (by decide) (fun hc5 => ?_) (fun hc5 => ?_)
    · replace hf := z_ifp hf hc5
      exact hJ22 S1 _ _ _ hf hP hS (lv_sub hl [0] rfl)
    · replace hf := z_ifn hf hc5
      refine lv_iload_n hx hb dX9_mean_17 rfl (lv_at hl 2 rfl) ?_
      refine lv_iconst (v := 1) hx hb dX9_mean_18 (by decide) ?_
      refine lv_icmp_le (tgt := 29) hx hb dX9_mean_19 (by decide) (fun hc6 => ?_) (fun hc6 => ?_)
      · replace hf := z_ifp hf hc6
        refine lv_lconst (v := 0) hx hb dX9_mean_29 (by decide) ?_
        refine lv_lstore_n (lv' := [(3, .long (0)), (0, .ref (gq G (0))), (1, .int (a1)), (2, .int (a2))]) hx hb dX9_mean_30 rfl hl (by decide) rfl (fun ls hl => ?_)
        refine lv_iconst (v := 0) hx hb dX9_mean_31 (by decide) ?_
        refine lv_istore (lv' := [(5, .int (0)), (3, .long (0)), (0, .ref (gq G (0))), (1, .int (a1)), (2, .int (a2))]) hx hb dX9_mean_32 hl (by decide) rfl (fun ls hl => ?_)
        exact hL34 N (a1) (a2) (0) (0) S1 _ _ _ hf hP hS (lv_sub hl [2, 3, 4, 1, 0] rfl)
      · replace hf := z_ifn hf hc6
        exact hJ22 S1 _ _ _ hf hP hS (lv_sub hl [0] rfl)
  · replace hf := z_ifp hf hc4
    refine lv_aload_n hx hb dX9_mean_7 rfl (lv_at hl 0 rfl) ?_
    refine lv_iconst (v := (-1)) hx hb dX9_mean_8 (by decide) ?_
    obtain ⟨r8, S7, hz9, hf⟩ := z_bd_some hf
    refine z_cl (z_runV (o := 0) (ci := 9) E hK hP hS (c_X9_refuseLong hq hz9) cv_X9_refuseLong tw844 rfl (by decide) rfl rfl ⟨Nat.le_of_ble_eq_true rfl, Nat.le_of_ble_eq_true rfl⟩ ⟨Nat.le_refl 0, Nat.le_refl 0⟩ hl.1 (Nat.le_of_ble_eq_true rfl) rfl dX9_mean_9) hS (fun H locs hP hS => ?_)
    exact x_retl hx hb hr hlk hf hP hS dX9_mean_12
theorem cv_X9_mean : z_cv yX9_mean cX9_mean 6 (some .long) RX9 2 := ⟨⟨tw856, tw857⟩, tw858, tw1, by decide +kernel⟩
def b_X9_rowTellsEndsFrom_2 (N : Nat) (k2 : Int32 → Int32 → St → Option (Int32 × St)) (v1 : Int32) (v2 : Int32) (S : St) : Option (Int32 × St) := if (S 0 7) ≤ v2 then (some (1, S)) else (z_bd (f_X9_at N (62) (v2) S) fun r3 S2 => z_bd (f_X9_at N (64) ((v1 + v2)) S2) fun r6 S5 => if r3 = r6 then (k2 (v1) ((v2 + 1)) S5) else (some (0, S5)))
def f_X9_rowTellsEndsFrom_2 (N : Nat) : Nat → Int32 → Int32 → St → Option (Int32 × St)
  | 0 => fun _ _ _ => none
  | n + 1 => b_X9_rowTellsEndsFrom_2 N (f_X9_rowTellsEndsFrom_2 N n)
def f_X9_rowTellsEndsFrom (N : Nat) (a1 : Int32) (S : St) : Option (Int32 × St) := f_X9_rowTellsEndsFrom_2 N N (a1) (0) S
set_option maxHeartbeats 4000000 in
set_option maxRecDepth 100000 in
theorem c_X9_rowTellsEndsFrom {l : Launch} {G : Cx} {M S S' : St} {N : Nat} {a1 : Int32} {r : Int32} (hq : z_inj (gq G)) (hf : f_X9_rowTellsEndsFrom N a1 S = some (r, S')) : z_Ct l yX9_rowTellsEndsFrom cX9_rowTellsEndsFrom 3 (some .boolean) 1 21 G S M [.ref (gq G (0)), .int (a1)] (z_QI G S' M r) := by
  refine z_start (by decide +kernel) (Nat.le_of_ble_eq_true rfl) ?_
  intro p e s m below meth c ls E hr hlk hK hP hS hl
  have E : CallFix p m c cX9_rowTellsEndsFrom 3 s _ lw_good RX9 := E
  have hx := E.1
  have hb := E.2.1
  have hown := E.2.2.2.1
  have hts := E.2.2.2.2
  have hB2 : ∀ (k2 : Int32 → Int32 → St → Option (Int32 × St)) (hk2 : ∀ (v1 : Int32) (v2 : Int32) (S : St) (H : Heap) (locs : List Loc) (ls : Array Slot), k2 v1 v2 S = some (r, S') → z_P G S M H → z_S G s.heap H locs → lv_has ls 3 [(0, .ref (gq G (0))), (1, .int (v1)), (2, .int (v2))] → W p l e (z_rm 1 21) s m ([.ref (gq G (0)), .int (a1)] : List Value).toArray below meth c H locs 0 0 (MQ below (z_QI G S' M r) ([.ref (gq G (0)), .int (a1)] : List Value).toArray s 0 0 (z_Aq (gq G))) (F0 m 2 ls [])), ∀ (v1 : Int32) (v2 : Int32) (S : St) (H : Heap) (locs : List Loc) (ls : Array Slot), b_X9_rowTellsEndsFrom_2 N k2 v1 v2 S = some (r, S') → z_P G S M H → z_S G s.heap H locs → lv_has ls 3 [(0, .ref (gq G (0))), (1, .int (v1)), (2, .int (v2))] → W p l e (z_rm 1 21) s m ([.ref (gq G (0)), .int (a1)] : List Value).toArray below meth c H locs 0 0 (MQ below (z_QI G S' M r) ([.ref (gq G (0)), .int (a1)] : List Value).toArray s 0 0 (z_Aq (gq G))) (F0 m 2 ls []) := by
    intro k2 hk2 v1 v2 S H locs ls hf hP hS hl
    unfold b_X9_rowTellsEndsFrom_2 at hf
    refine lv_iload_n hx hb dX9_rowTellsEndsFrom_2 rfl (lv_at hl 2 rfl) ?_
    refine lv_aload_n hx hb dX9_rowTellsEndsFrom_3 rfl (lv_at hl 0 rfl) ?_
    refine x_getI (C := RX9) (T := TX9) (N := 9) (ci := 9) (k := 7) (o := 0) E hK hP iwX9 rfl rfl (by decide) (by decide) rfl rfl (by decide) tw305 dX9_rowTellsEndsFrom_4 ?_
    refine lv_icmp_ge (tgt := 39) hx hb dX9_rowTellsEndsFrom_7 (by decide) (fun hc1 => ?_) (fun hc1 => ?_)
    · replace hf := z_ifp hf hc1
      refine lv_iconst (v := 1) hx hb dX9_rowTellsEndsFrom_39 (by decide) ?_
      exact x_retz hx hb hr hlk rfl hf hP hS dX9_rowTellsEndsFrom_40
    · replace hf := z_ifn hf hc1
      refine lv_aload_n hx hb dX9_rowTellsEndsFrom_10 rfl (lv_at hl 0 rfl) ?_
      refine z_getR (C := RX9) (T := TX9) (N := 9) (ci := 9) (k := 4) (o := 0) (t := 62) E hK hP iwX9 rfl rfl (by decide) (by decide) rfl rfl rfl tw302 dX9_rowTellsEndsFrom_11 ?_
      refine lv_iload_n hx hb dX9_rowTellsEndsFrom_14 rfl (lv_at hl 2 rfl) ?_
      obtain ⟨r3, S2, hz4, hf⟩ := z_bd_some hf
      refine z_ci (z_runS E hK hP hS (c_X9_at hq rfl (by decide) hz4) cs_X9_at tw334 rfl ⟨Nat.le_of_ble_eq_true rfl, Nat.le_of_ble_eq_true rfl⟩ ⟨Nat.le_refl 0, Nat.le_refl 0⟩ hl.1 (Nat.le_of_ble_eq_true rfl) rfl dX9_rowTellsEndsFrom_15) hS (fun H locs hP hS => ?_)
      refine lv_aload_n hx hb dX9_rowTellsEndsFrom_18 rfl (lv_at hl 0 rfl) ?_
      refine z_getR (C := RX9) (T := TX9) (N := 9) (ci := 9) (k := 6) (o := 0) (t := 64) E hK hP iwX9 rfl rfl (by decide) (by decide) rfl rfl rfl tw304 dX9_rowTellsEndsFrom_19 ?_
      refine lv_iload_n hx hb dX9_rowTellsEndsFrom_22 rfl (lv_at hl 1 rfl) ?_
      refine lv_iload_n hx hb dX9_rowTellsEndsFrom_23 rfl (lv_at hl 2 rfl) ?_
      refine lv_iadd hx hb dX9_rowTellsEndsFrom_24 ?_
      obtain ⟨r6, S5, hz7, hf⟩ := z_bd_some hf
      refine z_ci (z_runS E hK hP hS (c_X9_at hq rfl (by decide) hz7) cs_X9_at tw334 rfl ⟨Nat.le_of_ble_eq_true rfl, Nat.le_of_ble_eq_true rfl⟩ ⟨Nat.le_refl 0, Nat.le_refl 0⟩ hl.1 (Nat.le_of_ble_eq_true rfl) rfl dX9_rowTellsEndsFrom_25) hS (fun H locs hP hS => ?_)
      refine lv_icmp_eq (tgt := 33) hx hb dX9_rowTellsEndsFrom_28 (by decide) (fun hc8 => ?_) (fun hc8 => ?_)
      · replace hf := z_ifp hf hc8
        refine lv_iinc (v := (v2 + 1)) (lv' := [(2, .int ((v2 + 1))), (0, .ref (gq G (0))), (1, .int (v1))]) hx hb dX9_rowTellsEndsFrom_33 hl (k := 2) rfl rfl (by decide) rfl (fun ls hl => ?_)
        refine lv_goto (tgt := 2) hx hb dX9_rowTellsEndsFrom_36 (by decide) ?_
        exact hk2 (v1) ((v2 + 1)) S5 _ _ _ hf hP hS (lv_sub hl [1, 2, 0] rfl)
      · replace hf := z_ifn hf hc8
        refine lv_iconst (v := 0) hx hb dX9_rowTellsEndsFrom_31 (by decide) ?_
        exact x_retz hx hb hr hlk rfl hf hP hS dX9_rowTellsEndsFrom_32
  have hL2 : ∀ (n : Nat), ∀ (v1 : Int32) (v2 : Int32) (S : St) (H : Heap) (locs : List Loc) (ls : Array Slot), f_X9_rowTellsEndsFrom_2 N n v1 v2 S = some (r, S') → z_P G S M H → z_S G s.heap H locs → lv_has ls 3 [(0, .ref (gq G (0))), (1, .int (v1)), (2, .int (v2))] → W p l e (z_rm 1 21) s m ([.ref (gq G (0)), .int (a1)] : List Value).toArray below meth c H locs 0 0 (MQ below (z_QI G S' M r) ([.ref (gq G (0)), .int (a1)] : List Value).toArray s 0 0 (z_Aq (gq G))) (F0 m 2 ls []) := by
    intro  n
    induction n with
    | zero => intro _ _ _ _ _ _ hf; cases hf
    | succ n ih => exact hB2  _  ih
  have hl : lv_has ls 3 [(0, .ref (gq G (0))), (1, .int (a1))] := hl
  unfold f_X9_rowTellsEndsFrom at hf
  refine lv_iconst (v := 0) hx hb dX9_rowTellsEndsFrom_0 (by decide) ?_
  refine lv_istore_n (lv' := [(2, .int (0)), (0, .ref (gq G (0))), (1, .int (a1))]) hx hb dX9_rowTellsEndsFrom_1 rfl hl (by decide) rfl (fun ls hl => ?_)
  exact hL2 N (a1) (0) S _ _ _ hf hP hS (lv_sub hl [1, 2, 0] rfl)
theorem cv_X9_rowTellsEndsFrom : z_cv yX9_rowTellsEndsFrom cX9_rowTellsEndsFrom 3 (some .boolean) RX9 1 := ⟨⟨tw866, twp28⟩, tw867, tw1, by decide +kernel⟩
def b_X9_whatIs_92 (N : Nat) (k69 : Int32 → Int32 → St → Option (Int32 × St)) (v3 : Int32) (v4 : Int32) (S : St) : Option (Int32 × St) := k69 (v3) ((v4 + 1)) S
def b_X9_whatIs_69 (N : Nat) (k69 : Int32 → Int32 → St → Option (Int32 × St)) (v3 : Int32) (v4 : Int32) (S : St) : Option (Int32 × St) := if 16 ≤ v4 then (some (v3, S)) else (z_bd (f_X9_rowTellsEndsFrom N (v4) S) fun r16 S15 => if r16 = 0 then (b_X9_whatIs_92 N k69 (v3) (v4) S15) else (b_X9_whatIs_92 N k69 ((v3 ||| (1 <<< (v4 &&& 31)))) (v4) S15))
def f_X9_whatIs_69 (N : Nat) : Nat → Int32 → Int32 → St → Option (Int32 × St)
  | 0 => fun _ _ _ => none
  | n + 1 => b_X9_whatIs_69 N (f_X9_whatIs_69 N n)
def b_X9_whatIs_36 (N : Nat) (k36 : Int32 → Int32 → Int32 → St → Option (Int32 × St)) (v1 : Int32) (v2 : Int32) (v3 : Int32) (S : St) : Option (Int32 × St) := if v2 ≤ v3 then (f_X9_whatIs_69 N N (0) (0) S) else (z_bv (f_X9_thinkWith N (v1) (v3) S) fun S10 => z_bv (f_X9_put N (64) (v3) ((S10 35 0)) S10) fun S12 => k36 (v1) (v2) ((v3 + 1)) S12)
def f_X9_whatIs_36 (N : Nat) : Nat → Int32 → Int32 → Int32 → St → Option (Int32 × St)
  | 0 => fun _ _ _ _ => none
  | n + 1 => b_X9_whatIs_36 N (f_X9_whatIs_36 N n)
def b_X9_whatIs_33 (N : Nat) (v1 : Int32) (t0 : Int32) (S : St) : Option (Int32 × St) := f_X9_whatIs_36 N N (v1) (t0) (0) S
def f_X9_whatIs (N : Nat) (a1 : Int32) (S : St) : Option (Int32 × St) := z_bd (f_X9_isVariable N (a1) S) fun r2 S1 => if r2 = 0 then (z_bd (f_X9_refuse N ((-1)) S1) fun r7 S6 => some (r7, S6)) else (if (S1 0 7) = 0 then (b_X9_whatIs_33 N (a1) (0) S1) else (b_X9_whatIs_33 N (a1) (((16 + (S1 0 7)) - 1)) S1))
set_option maxHeartbeats 4000000 in
set_option maxRecDepth 100000 in
theorem c_X9_whatIs {l : Launch} {G : Cx} {M S S' : St} {N : Nat} {a1 : Int32} {r : Int32} (hq : z_inj (gq G)) (hf : f_X9_whatIs N a1 S = some (r, S')) : z_Ct l yX9_whatIs cX9_whatIs 5 (some .int) 6 137 G S M [.ref (gq G (0)), .int (a1)] (z_QI G S' M r) := by
  refine z_start (by decide +kernel) (Nat.le_of_ble_eq_true rfl) ?_
  intro p e s m below meth c ls E hr hlk hK hP hS hl
  have E : CallFix p m c cX9_whatIs 5 s _ lw_good RX9 := E
  have hx := E.1
  have hb := E.2.1
  have hown := E.2.2.2.1
  have hts := E.2.2.2.2
  have hJ92 : ∀ (k69 : Int32 → Int32 → St → Option (Int32 × St)) (hk69 : ∀ (v3 : Int32) (v4 : Int32) (S : St) (H : Heap) (locs : List Loc) (ls : Array Slot), k69 v3 v4 S = some (r, S') → z_P G S M H → z_S G s.heap H locs → lv_has ls 5 [(0, .ref (gq G (0))), (3, .int (v3)), (4, .int (v4))] → W p l e (z_rm 6 137) s m ([.ref (gq G (0)), .int (a1)] : List Value).toArray below meth c H locs 0 0 (MQ below (z_QI G S' M r) ([.ref (gq G (0)), .int (a1)] : List Value).toArray s 0 0 (z_Aq (gq G))) (F0 m 69 ls [])), ∀ (v3 : Int32) (v4 : Int32) (S : St) (H : Heap) (locs : List Loc) (ls : Array Slot), b_X9_whatIs_92 N k69 v3 v4 S = some (r, S') → z_P G S M H → z_S G s.heap H locs → lv_has ls 5 [(0, .ref (gq G (0))), (3, .int (v3)), (4, .int (v4))] → W p l e (z_rm 6 137) s m ([.ref (gq G (0)), .int (a1)] : List Value).toArray below meth c H locs 0 0 (MQ below (z_QI G S' M r) ([.ref (gq G (0)), .int (a1)] : List Value).toArray s 0 0 (z_Aq (gq G))) (F0 m 92 ls []) := by
    intro k69 hk69 v3 v4 S H locs ls hf hP hS hl
    unfold b_X9_whatIs_92 at hf
    refine lv_iinc (v := (v4 + 1)) (lv' := [(4, .int ((v4 + 1))), (0, .ref (gq G (0))), (3, .int (v3))]) hx hb dX9_whatIs_92 hl (k := 2) rfl rfl (by decide) rfl (fun ls hl => ?_)
    refine lv_goto (tgt := 69) hx hb dX9_whatIs_95 (by decide) ?_
    exact hk69 (v3) ((v4 + 1)) S _ _ _ hf hP hS (lv_sub hl [1, 2, 0] rfl)
  have hB69 : ∀ (k69 : Int32 → Int32 → St → Option (Int32 × St)) (hk69 : ∀ (v3 : Int32) (v4 : Int32) (S : St) (H : Heap) (locs : List Loc) (ls : Array Slot), k69 v3 v4 S = some (r, S') → z_P G S M H → z_S G s.heap H locs → lv_has ls 5 [(0, .ref (gq G (0))), (3, .int (v3)), (4, .int (v4))] → W p l e (z_rm 6 137) s m ([.ref (gq G (0)), .int (a1)] : List Value).toArray below meth c H locs 0 0 (MQ below (z_QI G S' M r) ([.ref (gq G (0)), .int (a1)] : List Value).toArray s 0 0 (z_Aq (gq G))) (F0 m 69 ls [])), ∀ (v3 : Int32) (v4 : Int32) (S : St) (H : Heap) (locs : List Loc) (ls : Array Slot), b_X9_whatIs_69 N k69 v3 v4 S = some (r, S') → z_P G S M H → z_S G s.heap H locs → lv_has ls 5 [(0, .ref (gq G (0))), (3, .int (v3)), (4, .int (v4))] → W p l e (z_rm 6 137) s m ([.ref (gq G (0)), .int (a1)] : List Value).toArray below meth c H locs 0 0 (MQ below (z_QI G S' M r) ([.ref (gq G (0)), .int (a1)] : List Value).toArray s 0 0 (z_Aq (gq G))) (F0 m 69 ls []) := by
    intro k69 hk69 v3 v4 S H locs ls hf hP hS hl
    unfold b_X9_whatIs_69 at hf
    refine lv_iload hx hb dX9_whatIs_69 (lv_at hl 2 rfl) ?_
    refine lv_bipush (v := 16) hx hb dX9_whatIs_71 (by decide) ?_
    refine lv_icmp_ge (tgt := 98) hx hb dX9_whatIs_73 (by decide) (fun hc14 => ?_) (fun hc14 => ?_)
    · replace hf := z_ifp hf hc14
      refine lv_iload_n hx hb dX9_whatIs_98 rfl (lv_at hl 1 rfl) ?_
      exact x_reti hx hb hr hlk hf hP hS dX9_whatIs_99
    · replace hf := z_ifn hf hc14
      refine lv_aload_n hx hb dX9_whatIs_76 rfl (lv_at hl 0 rfl) ?_
      refine lv_iload hx hb dX9_whatIs_77 (lv_at hl 2 rfl) ?_
      obtain ⟨r16, S15, hz17, hf⟩ := z_bd_some hf
      refine z_ci (z_runV (o := 0) (ci := 9) E hK hP hS (c_X9_rowTellsEndsFrom hq hz17) cv_X9_rowTellsEndsFrom tw864 rfl (by decide) rfl rfl ⟨Nat.le_of_ble_eq_true rfl, Nat.le_of_ble_eq_true rfl⟩ ⟨Nat.le_refl 0, Nat.le_refl 0⟩ hl.1 (Nat.le_of_ble_eq_true rfl) rfl dX9_whatIs_79) hS (fun H locs hP hS => ?_)
      refine lv_if_eq (tgt := 92) hx hb dX9_whatIs_82 (by decide) (fun hc18 => ?_) (fun hc18 => ?_)
      · replace hf := z_ifp hf hc18
        exact hJ92 k69 hk69 (v3) (v4) S15 _ _ _ hf hP hS (lv_sub hl [0, 1, 2] rfl)
      · replace hf := z_ifn hf hc18
        refine lv_iload_n hx hb dX9_whatIs_85 rfl (lv_at hl 1 rfl) ?_
        refine lv_iconst (v := 1) hx hb dX9_whatIs_86 (by decide) ?_
        refine lv_iload hx hb dX9_whatIs_87 (lv_at hl 2 rfl) ?_
        refine lv_ishl hx hb dX9_whatIs_89 ?_
        refine lv_ior hx hb dX9_whatIs_90 ?_
        refine lv_istore_n (lv' := [(3, .int ((v3 ||| (1 <<< (v4 &&& 31))))), (0, .ref (gq G (0))), (4, .int (v4))]) hx hb dX9_whatIs_91 rfl hl (by decide) rfl (fun ls hl => ?_)
        exact hJ92 k69 hk69 ((v3 ||| (1 <<< (v4 &&& 31)))) (v4) S15 _ _ _ hf hP hS (lv_sub hl [1, 0, 2] rfl)
  have hL69 : ∀ (n : Nat), ∀ (v3 : Int32) (v4 : Int32) (S : St) (H : Heap) (locs : List Loc) (ls : Array Slot), f_X9_whatIs_69 N n v3 v4 S = some (r, S') → z_P G S M H → z_S G s.heap H locs → lv_has ls 5 [(0, .ref (gq G (0))), (3, .int (v3)), (4, .int (v4))] → W p l e (z_rm 6 137) s m ([.ref (gq G (0)), .int (a1)] : List Value).toArray below meth c H locs 0 0 (MQ below (z_QI G S' M r) ([.ref (gq G (0)), .int (a1)] : List Value).toArray s 0 0 (z_Aq (gq G))) (F0 m 69 ls []) := by
    intro  n
    induction n with
    | zero => intro _ _ _ _ _ _ hf; cases hf
    | succ n ih => exact hB69  _  ih
  have hB36 : ∀ (k36 : Int32 → Int32 → Int32 → St → Option (Int32 × St)) (hk36 : ∀ (v1 : Int32) (v2 : Int32) (v3 : Int32) (S : St) (H : Heap) (locs : List Loc) (ls : Array Slot), k36 v1 v2 v3 S = some (r, S') → z_P G S M H → z_S G s.heap H locs → lv_has ls 5 [(0, .ref (gq G (0))), (1, .int (v1)), (2, .int (v2)), (3, .int (v3))] → W p l e (z_rm 6 137) s m ([.ref (gq G (0)), .int (a1)] : List Value).toArray below meth c H locs 0 0 (MQ below (z_QI G S' M r) ([.ref (gq G (0)), .int (a1)] : List Value).toArray s 0 0 (z_Aq (gq G))) (F0 m 36 ls [])), ∀ (v1 : Int32) (v2 : Int32) (v3 : Int32) (S : St) (H : Heap) (locs : List Loc) (ls : Array Slot), b_X9_whatIs_36 N k36 v1 v2 v3 S = some (r, S') → z_P G S M H → z_S G s.heap H locs → lv_has ls 5 [(0, .ref (gq G (0))), (1, .int (v1)), (2, .int (v2)), (3, .int (v3))] → W p l e (z_rm 6 137) s m ([.ref (gq G (0)), .int (a1)] : List Value).toArray below meth c H locs 0 0 (MQ below (z_QI G S' M r) ([.ref (gq G (0)), .int (a1)] : List Value).toArray s 0 0 (z_Aq (gq G))) (F0 m 36 ls []) := by
    intro k36 hk36 v1 v2 v3 S H locs ls hf hP hS hl
    unfold b_X9_whatIs_36 at hf
    refine lv_iload_n hx hb dX9_whatIs_36 rfl (lv_at hl 3 rfl) ?_
    refine lv_iload_n hx hb dX9_whatIs_37 rfl (lv_at hl 2 rfl) ?_
    refine lv_icmp_ge (tgt := 64) hx hb dX9_whatIs_38 (by decide) (fun hc9 => ?_) (fun hc9 => ?_)
    · replace hf := z_ifp hf hc9
      refine lv_iconst (v := 0) hx hb dX9_whatIs_64 (by decide) ?_
      refine lv_istore_n (lv' := [(3, .int (0)), (0, .ref (gq G (0))), (1, .int (v1)), (2, .int (v2))]) hx hb dX9_whatIs_65 rfl hl (by decide) rfl (fun ls hl => ?_)
      refine lv_iconst (v := 0) hx hb dX9_whatIs_66 (by decide) ?_
      refine lv_istore (lv' := [(4, .int (0)), (3, .int (0)), (0, .ref (gq G (0))), (1, .int (v1)), (2, .int (v2))]) hx hb dX9_whatIs_67 hl (by decide) rfl (fun ls hl => ?_)
      exact hL69 N (0) (0) S _ _ _ hf hP hS (lv_sub hl [2, 1, 0] rfl)
    · replace hf := z_ifn hf hc9
      refine lv_aload_n hx hb dX9_whatIs_41 rfl (lv_at hl 0 rfl) ?_
      refine z_getR (C := RX9) (T := TX9) (N := 9) (ci := 9) (k := 6) (o := 0) (t := 64) E hK hP iwX9 rfl rfl (by decide) (by decide) rfl rfl rfl tw304 dX9_whatIs_42 ?_
      refine lv_iload_n hx hb dX9_whatIs_45 rfl (lv_at hl 3 rfl) ?_
      refine lv_aload_n hx hb dX9_whatIs_46 rfl (lv_at hl 0 rfl) ?_
      refine lv_iload_n hx hb dX9_whatIs_47 rfl (lv_at hl 1 rfl) ?_
      refine lv_iload_n hx hb dX9_whatIs_48 rfl (lv_at hl 3 rfl) ?_
      obtain ⟨S10, hz11, hf⟩ := z_bv_some hf
      refine z_cr (z_runV (o := 0) (ci := 9) E hK hP hS (c_X9_thinkWith hq hz11) cv_X9_thinkWith tw804 rfl (by decide) rfl rfl ⟨Nat.le_of_ble_eq_true rfl, Nat.le_of_ble_eq_true rfl⟩ ⟨Nat.le_refl 0, Nat.le_refl 0⟩ hl.1 (Nat.le_of_ble_eq_true rfl) rfl dX9_whatIs_49) hS (fun H locs hP hS => ?_)
      refine x_getI (C := RX2) (T := TX2) (N := 7) (ci := 2) (k := 0) (o := 35) E hK hP iwX2 rfl rfl (by decide) (by decide) rfl rfl (by decide) tw91 dX9_whatIs_52 ?_
      obtain ⟨S12, hz13, hf⟩ := z_bv_some hf
      refine z_cvo (z_runS E hK hP hS (c_X9_put hq rfl (by decide) hz13) cs_X9_put tw337 rfl ⟨Nat.le_of_ble_eq_true rfl, Nat.le_of_ble_eq_true rfl⟩ ⟨Nat.le_refl 0, Nat.le_refl 0⟩ hl.1 (Nat.le_of_ble_eq_true rfl) rfl dX9_whatIs_55) hS (fun H locs hP hS => ?_)
      refine lv_iinc (v := (v3 + 1)) (lv' := [(3, .int ((v3 + 1))), (0, .ref (gq G (0))), (1, .int (v1)), (2, .int (v2))]) hx hb dX9_whatIs_58 hl (k := 3) rfl rfl (by decide) rfl (fun ls hl => ?_)
      refine lv_goto (tgt := 36) hx hb dX9_whatIs_61 (by decide) ?_
      exact hk36 (v1) (v2) ((v3 + 1)) S12 _ _ _ hf hP hS (lv_sub hl [1, 2, 3, 0] rfl)
  have hL36 : ∀ (n : Nat), ∀ (v1 : Int32) (v2 : Int32) (v3 : Int32) (S : St) (H : Heap) (locs : List Loc) (ls : Array Slot), f_X9_whatIs_36 N n v1 v2 v3 S = some (r, S') → z_P G S M H → z_S G s.heap H locs → lv_has ls 5 [(0, .ref (gq G (0))), (1, .int (v1)), (2, .int (v2)), (3, .int (v3))] → W p l e (z_rm 6 137) s m ([.ref (gq G (0)), .int (a1)] : List Value).toArray below meth c H locs 0 0 (MQ below (z_QI G S' M r) ([.ref (gq G (0)), .int (a1)] : List Value).toArray s 0 0 (z_Aq (gq G))) (F0 m 36 ls []) := by
    intro  n
    induction n with
    | zero => intro _ _ _ _ _ _ _ hf; cases hf
    | succ n ih => exact hB36  _  ih
  have hJ33 : ∀ (v1 : Int32) (t0 : Int32) (S : St) (H : Heap) (locs : List Loc) (ls : Array Slot), b_X9_whatIs_33 N v1 t0 S = some (r, S') → z_P G S M H → z_S G s.heap H locs → lv_has ls 5 [(0, .ref (gq G (0))), (1, .int (v1))] → W p l e (z_rm 6 137) s m ([.ref (gq G (0)), .int (a1)] : List Value).toArray below meth c H locs 0 0 (MQ below (z_QI G S' M r) ([.ref (gq G (0)), .int (a1)] : List Value).toArray s 0 0 (z_Aq (gq G))) (F0 m 33 ls [.int (t0)]) := by
    intro v1 t0 S H locs ls hf hP hS hl
    unfold b_X9_whatIs_33 at hf
    refine lv_istore_n (lv' := [(2, .int (t0)), (0, .ref (gq G (0))), (1, .int (v1))]) hx hb dX9_whatIs_33 rfl hl (by decide) rfl (fun ls hl => ?_)
    refine lv_iconst (v := 0) hx hb dX9_whatIs_34 (by decide) ?_
    refine lv_istore_n (lv' := [(3, .int (0)), (2, .int (t0)), (0, .ref (gq G (0))), (1, .int (v1))]) hx hb dX9_whatIs_35 rfl hl (by decide) rfl (fun ls hl => ?_)
    exact hL36 N (v1) (t0) (0) S _ _ _ hf hP hS (lv_sub hl [2, 3, 1, 0] rfl)
  have hl : lv_has ls 5 [(0, .ref (gq G (0))), (1, .int (a1))] := hl
  unfold f_X9_whatIs at hf
  refine lv_iload_n hx hb dX9_whatIs_0 rfl (lv_at hl 1 rfl) ?_
  obtain ⟨r2, S1, hz3, hf⟩ := z_bd_some hf
  refine z_ci (z_runS E hK hP hS (c_X9_isVariable hq hz3) cs_X9_isVariable tw493 rfl ⟨Nat.le_of_ble_eq_true rfl, Nat.le_of_ble_eq_true rfl⟩ ⟨Nat.le_refl 0, Nat.le_refl 0⟩ hl.1 (Nat.le_of_ble_eq_true rfl) rfl dX9_whatIs_1) hS (fun H locs hP hS => ?_)
  refine lv_if_ne (tgt := 13) hx hb dX9_whatIs_4 (by decide) (fun hc4 => ?_) (fun hc4 => ?_)
  · replace hf := z_ifn hf hc4
    refine lv_aload_n hx hb dX9_whatIs_13 rfl (lv_at hl 0 rfl) ?_
    refine x_getI (C := RX9) (T := TX9) (N := 9) (ci := 9) (k := 7) (o := 0) E hK hP iwX9 rfl rfl (by decide) (by decide) rfl rfl (by decide) tw305 dX9_whatIs_14 ?_
    refine lv_if_ne (tgt := 24) hx hb dX9_whatIs_17 (by decide) (fun hc5 => ?_) (fun hc5 => ?_)
    · replace hf := z_ifn hf hc5
      refine lv_bipush (v := 16) hx hb dX9_whatIs_24 (by decide) ?_
      refine lv_aload_n hx hb dX9_whatIs_26 rfl (lv_at hl 0 rfl) ?_
      refine x_getI (C := RX9) (T := TX9) (N := 9) (ci := 9) (k := 7) (o := 0) E hK hP iwX9 rfl rfl (by decide) (by decide) rfl rfl (by decide) tw305 dX9_whatIs_27 ?_
      refine lv_iadd hx hb dX9_whatIs_30 ?_
      refine lv_iconst (v := 1) hx hb dX9_whatIs_31 (by decide) ?_
      refine lv_isub hx hb dX9_whatIs_32 ?_
      exact hJ33 (a1) (((16 + (S1 0 7)) - 1)) S1 _ _ _ hf hP hS (lv_sub hl [0, 1] rfl)
    · replace hf := z_ifp hf hc5
      refine lv_iconst (v := 0) hx hb dX9_whatIs_20 (by decide) ?_
      refine lv_goto (tgt := 33) hx hb dX9_whatIs_21 (by decide) ?_
      exact hJ33 (a1) (0) S1 _ _ _ hf hP hS (lv_sub hl [0, 1] rfl)
  · replace hf := z_ifp hf hc4
    refine lv_aload_n hx hb dX9_whatIs_7 rfl (lv_at hl 0 rfl) ?_
    refine lv_iconst (v := (-1)) hx hb dX9_whatIs_8 (by decide) ?_
    obtain ⟨r7, S6, hz8, hf⟩ := z_bd_some hf
    refine z_ci (z_runV (o := 0) (ci := 9) E hK hP hS (c_X9_refuse hq hz8) cv_X9_refuse tw330 rfl (by decide) rfl rfl ⟨Nat.le_of_ble_eq_true rfl, Nat.le_of_ble_eq_true rfl⟩ ⟨Nat.le_refl 0, Nat.le_refl 0⟩ hl.1 (Nat.le_of_ble_eq_true rfl) rfl dX9_whatIs_9) hS (fun H locs hP hS => ?_)
    exact x_reti hx hb hr hlk hf hP hS dX9_whatIs_12
theorem cv_X9_whatIs : z_cv yX9_whatIs cX9_whatIs 5 (some .int) RX9 1 := ⟨⟨tw861, tw862⟩, tw863, tw1, by decide +kernel⟩
def b_X9_row_26 (N : Nat) (S : St) : Option (Int32 × St) := z_bd (f_X9_refuse N ((-6)) S) fun r11 S10 => some (r11, S10)
def f_X9_row (N : Nat) (a1 : Int32) (S : St) : Option (Int32 × St) := if 0 ≤ a1 then (if 99 < a1 then (b_X9_row_26 N S) else (if (S 0 7) < 16 then (z_bv (f_X9_put N (62) ((S 0 7)) (a1) S) fun S4 => z_lt (z_wr S4 0 7 ((S4 0 7) + 1)) fun S6 => some ((S6 0 7), S6)) else (b_X9_row_26 N S))) else (z_bd (f_X9_refuse N ((-4)) S) fun r8 S7 => some (r8, S7))
set_option maxHeartbeats 4000000 in
set_option maxRecDepth 100000 in
theorem c_X9_row {l : Launch} {G : Cx} {M S S' : St} {N : Nat} {a1 : Int32} {r : Int32} (hq : z_inj (gq G)) (hf : f_X9_row N a1 S = some (r, S')) : z_Ct l yX9_row cX9_row 2 (some .int) 2 43 G S M [.ref (gq G (0)), .int (a1)] (z_QI G S' M r) := by
  refine z_start (by decide +kernel) (Nat.le_of_ble_eq_true rfl) ?_
  intro p e s m below meth c ls E hr hlk hK hP hS hl
  have E : CallFix p m c cX9_row 2 s _ lw_good RX9 := E
  have hx := E.1
  have hb := E.2.1
  have hown := E.2.2.2.1
  have hts := E.2.2.2.2
  have hJ26 : ∀ (S : St) (H : Heap) (locs : List Loc) (ls : Array Slot), b_X9_row_26 N S = some (r, S') → z_P G S M H → z_S G s.heap H locs → lv_has ls 2 [(0, .ref (gq G (0)))] → W p l e (z_rm 2 43) s m ([.ref (gq G (0)), .int (a1)] : List Value).toArray below meth c H locs 0 0 (MQ below (z_QI G S' M r) ([.ref (gq G (0)), .int (a1)] : List Value).toArray s 0 0 (z_Aq (gq G))) (F0 m 26 ls []) := by
    intro S H locs ls hf hP hS hl
    unfold b_X9_row_26 at hf
    refine lv_aload_n hx hb dX9_row_26 rfl (lv_at hl 0 rfl) ?_
    refine lv_bipush (v := (-6)) hx hb dX9_row_27 (by decide) ?_
    obtain ⟨r11, S10, hz12, hf⟩ := z_bd_some hf
    refine z_ci (z_runV (o := 0) (ci := 9) E hK hP hS (c_X9_refuse hq hz12) cv_X9_refuse tw330 rfl (by decide) rfl rfl ⟨Nat.le_of_ble_eq_true rfl, Nat.le_of_ble_eq_true rfl⟩ ⟨Nat.le_refl 0, Nat.le_refl 0⟩ hl.1 (Nat.le_of_ble_eq_true rfl) rfl dX9_row_29) hS (fun H locs hP hS => ?_)
    exact x_reti hx hb hr hlk hf hP hS dX9_row_32
  have hl : lv_has ls 2 [(0, .ref (gq G (0))), (1, .int (a1))] := hl
  unfold f_X9_row at hf
  refine lv_iload_n hx hb dX9_row_0 rfl (lv_at hl 1 rfl) ?_
  refine lv_if_ge (tgt := 11) hx hb dX9_row_1 (by decide) (fun hc1 => ?_) (fun hc1 => ?_)
  · replace hf := z_ifp hf hc1
    refine lv_iload_n hx hb dX9_row_11 rfl (lv_at hl 1 rfl) ?_
    refine lv_bipush (v := 99) hx hb dX9_row_12 (by decide) ?_
    refine lv_icmp_gt (tgt := 26) hx hb dX9_row_14 (by decide) (fun hc2 => ?_) (fun hc2 => ?_)
    · replace hf := z_ifp hf hc2
      exact hJ26 S _ _ _ hf hP hS (lv_sub hl [0] rfl)
    · replace hf := z_ifn hf hc2
      refine lv_aload_n hx hb dX9_row_17 rfl (lv_at hl 0 rfl) ?_
      refine x_getI (C := RX9) (T := TX9) (N := 9) (ci := 9) (k := 7) (o := 0) E hK hP iwX9 rfl rfl (by decide) (by decide) rfl rfl (by decide) tw305 dX9_row_18 ?_
      refine lv_bipush (v := 16) hx hb dX9_row_21 (by decide) ?_
      refine lv_icmp_lt (tgt := 33) hx hb dX9_row_23 (by decide) (fun hc3 => ?_) (fun hc3 => ?_)
      · replace hf := z_ifp hf hc3
        refine lv_aload_n hx hb dX9_row_33 rfl (lv_at hl 0 rfl) ?_
        refine z_getR (C := RX9) (T := TX9) (N := 9) (ci := 9) (k := 4) (o := 0) (t := 62) E hK hP iwX9 rfl rfl (by decide) (by decide) rfl rfl rfl tw302 dX9_row_34 ?_
        refine lv_aload_n hx hb dX9_row_37 rfl (lv_at hl 0 rfl) ?_
        refine x_getI (C := RX9) (T := TX9) (N := 9) (ci := 9) (k := 7) (o := 0) E hK hP iwX9 rfl rfl (by decide) (by decide) rfl rfl (by decide) tw305 dX9_row_38 ?_
        refine lv_iload_n hx hb dX9_row_41 rfl (lv_at hl 1 rfl) ?_
        obtain ⟨S4, hz5, hf⟩ := z_bv_some hf
        refine z_cvo (z_runS E hK hP hS (c_X9_put hq rfl (by decide) hz5) cs_X9_put tw337 rfl ⟨Nat.le_of_ble_eq_true rfl, Nat.le_of_ble_eq_true rfl⟩ ⟨Nat.le_refl 0, Nat.le_refl 0⟩ hl.1 (Nat.le_of_ble_eq_true rfl) rfl dX9_row_42) hS (fun H locs hP hS => ?_)
        refine lv_aload_n hx hb dX9_row_45 rfl (lv_at hl 0 rfl) ?_
        refine lv_dup hx hb dX9_row_46 rfl ?_
        refine x_getI (C := RX9) (T := TX9) (N := 9) (ci := 9) (k := 7) (o := 0) E hK hP iwX9 rfl rfl (by decide) (by decide) rfl rfl (by decide) tw305 dX9_row_47 ?_
        refine lv_iconst (v := 1) hx hb dX9_row_50 (by decide) ?_
        refine lv_iadd hx hb dX9_row_51 ?_
        refine x_putI (C := RX9) (T := TX9) (N := 9) (ci := 9) (k := 7) (o := 0) (v := ((S4 0 7) + 1)) (ty := .int) E hK hq hP hS iwX9 tyX9 tyX9_ok nmX9 rfl rfl (by decide) (by decide) rfl rfl (by decide) rfl (tyX9_ok 7 (by decide)) ⟨rfl, rfl⟩ tw305 dX9_row_52 (fun H locs hP hS => ?_)
        obtain ⟨S6, hf, hP⟩ := z_ltX hf hP
        refine lv_aload_n hx hb dX9_row_55 rfl (lv_at hl 0 rfl) ?_
        refine x_getI (C := RX9) (T := TX9) (N := 9) (ci := 9) (k := 7) (o := 0) E hK hP iwX9 rfl rfl (by decide) (by decide) rfl rfl (by decide) tw305 dX9_row_56 ?_
        exact x_reti hx hb hr hlk hf hP hS dX9_row_59
      · replace hf := z_ifn hf hc3
        exact hJ26 S _ _ _ hf hP hS (lv_sub hl [0] rfl)
  · replace hf := z_ifn hf hc1
    refine lv_aload_n hx hb dX9_row_4 rfl (lv_at hl 0 rfl) ?_
    refine lv_bipush (v := (-4)) hx hb dX9_row_5 (by decide) ?_
    obtain ⟨r8, S7, hz9, hf⟩ := z_bd_some hf
    refine z_ci (z_runV (o := 0) (ci := 9) E hK hP hS (c_X9_refuse hq hz9) cv_X9_refuse tw330 rfl (by decide) rfl rfl ⟨Nat.le_of_ble_eq_true rfl, Nat.le_of_ble_eq_true rfl⟩ ⟨Nat.le_refl 0, Nat.le_refl 0⟩ hl.1 (Nat.le_of_ble_eq_true rfl) rfl dX9_row_7) hS (fun H locs hP hS => ?_)
    exact x_reti hx hb hr hlk hf hP hS dX9_row_10
theorem cv_X9_row : z_cv yX9_row cX9_row 2 (some .int) RX9 1 := ⟨⟨tw869, tw870⟩, tw871, tw1, by decide +kernel⟩
