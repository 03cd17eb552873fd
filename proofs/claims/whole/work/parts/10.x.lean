theorem z_rk0_0 {o : Nat} (h : z_kd o = 0) : z_kd (z_rfS o 0) = 11 := z_dec (P := fun o => z_kd (z_rfS o 0) = 11) (by decide +kernel) (by decide) h
theorem z_rl0_0 {o : Nat} (h : z_kd o = 0) : z_rfS o 0 < 65 := z_dec (P := fun o => z_rfS o 0 < 65) (by decide +kernel) (by decide) h
theorem z_rk0_1 {o : Nat} (h : z_kd o = 0) : z_kd (z_rfS o 1) = 11 := z_dec (P := fun o => z_kd (z_rfS o 1) = 11) (by decide +kernel) (by decide) h
theorem z_rl0_1 {o : Nat} (h : z_kd o = 0) : z_rfS o 1 < 65 := z_dec (P := fun o => z_rfS o 1 < 65) (by decide +kernel) (by decide) h
theorem z_rk0_2 {o : Nat} (h : z_kd o = 0) : z_kd (z_rfS o 2) = 11 := z_dec (P := fun o => z_kd (z_rfS o 2) = 11) (by decide +kernel) (by decide) h
theorem z_rl0_2 {o : Nat} (h : z_kd o = 0) : z_rfS o 2 < 65 := z_dec (P := fun o => z_rfS o 2 < 65) (by decide +kernel) (by decide) h
theorem z_rk5_0 {o : Nat} (h : z_kd o = 5) : z_kd (z_rfS o 0) = 11 := z_dec (P := fun o => z_kd (z_rfS o 0) = 11) (by decide +kernel) (by decide) h
theorem z_rl5_0 {o : Nat} (h : z_kd o = 5) : z_rfS o 0 < 65 := z_dec (P := fun o => z_rfS o 0 < 65) (by decide +kernel) (by decide) h
theorem z_rk5_1 {o : Nat} (h : z_kd o = 5) : z_kd (z_rfS o 1) = 11 := z_dec (P := fun o => z_kd (z_rfS o 1) = 11) (by decide +kernel) (by decide) h
theorem z_rl5_1 {o : Nat} (h : z_kd o = 5) : z_rfS o 1 < 65 := z_dec (P := fun o => z_rfS o 1 < 65) (by decide +kernel) (by decide) h
theorem z_rk5_2 {o : Nat} (h : z_kd o = 5) : z_kd (z_rfS o 2) = 11 := z_dec (P := fun o => z_kd (z_rfS o 2) = 11) (by decide +kernel) (by decide) h
theorem z_rl5_2 {o : Nat} (h : z_kd o = 5) : z_rfS o 2 < 65 := z_dec (P := fun o => z_rfS o 2 < 65) (by decide +kernel) (by decide) h
theorem z_rk5_3 {o : Nat} (h : z_kd o = 5) : z_kd (z_rfS o 3) = 11 := z_dec (P := fun o => z_kd (z_rfS o 3) = 11) (by decide +kernel) (by decide) h
theorem z_rl5_3 {o : Nat} (h : z_kd o = 5) : z_rfS o 3 < 65 := z_dec (P := fun o => z_rfS o 3 < 65) (by decide +kernel) (by decide) h
theorem z_rk5_4 {o : Nat} (h : z_kd o = 5) : z_kd (z_rfS o 4) = 11 := z_dec (P := fun o => z_kd (z_rfS o 4) = 11) (by decide +kernel) (by decide) h
theorem z_rl5_4 {o : Nat} (h : z_kd o = 5) : z_rfS o 4 < 65 := z_dec (P := fun o => z_rfS o 4 < 65) (by decide +kernel) (by decide) h
theorem z_rk5_5 {o : Nat} (h : z_kd o = 5) : z_kd (z_rfS o 5) = 11 := z_dec (P := fun o => z_kd (z_rfS o 5) = 11) (by decide +kernel) (by decide) h
theorem z_rl5_5 {o : Nat} (h : z_kd o = 5) : z_rfS o 5 < 65 := z_dec (P := fun o => z_rfS o 5 < 65) (by decide +kernel) (by decide) h
theorem z_rk6_0 {o : Nat} (h : z_kd o = 6) : z_kd (z_rfS o 0) = 5 := z_dec (P := fun o => z_kd (z_rfS o 0) = 5) (by decide +kernel) (by decide) h
theorem z_rl6_0 {o : Nat} (h : z_kd o = 6) : z_rfS o 0 < 65 := z_dec (P := fun o => z_rfS o 0 < 65) (by decide +kernel) (by decide) h
theorem z_rk6_1 {o : Nat} (h : z_kd o = 6) : z_kd (z_rfS o 1) = 11 := z_dec (P := fun o => z_kd (z_rfS o 1) = 11) (by decide +kernel) (by decide) h
theorem z_rl6_1 {o : Nat} (h : z_kd o = 6) : z_rfS o 1 < 65 := z_dec (P := fun o => z_rfS o 1 < 65) (by decide +kernel) (by decide) h
theorem z_rk6_2 {o : Nat} (h : z_kd o = 6) : z_kd (z_rfS o 2) = 0 := z_dec (P := fun o => z_kd (z_rfS o 2) = 0) (by decide +kernel) (by decide) h
theorem z_rl6_2 {o : Nat} (h : z_kd o = 6) : z_rfS o 2 < 65 := z_dec (P := fun o => z_rfS o 2 < 65) (by decide +kernel) (by decide) h
theorem z_rk6_3 {o : Nat} (h : z_kd o = 6) : z_kd (z_rfS o 3) = 2 := z_dec (P := fun o => z_kd (z_rfS o 3) = 2) (by decide +kernel) (by decide) h
theorem z_rl6_3 {o : Nat} (h : z_kd o = 6) : z_rfS o 3 < 65 := z_dec (P := fun o => z_rfS o 3 < 65) (by decide +kernel) (by decide) h
def b_J6_bitCount_0f7a4_48 (N : Nat) (v0 : Int32) (S : St) : Option (Int32 × St) := some ((v0 &&& 63), S)
def b_J6_bitCount_0f7a4_41 (N : Nat) (v0 : Int32) (S : St) : Option (Int32 × St) := b_J6_bitCount_0f7a4_48 N ((v0 + ((v0.toUInt32 >>> ((16 : Int32).toUInt32 &&& Int32.toUInt32 31)).toInt32))) S
def b_J6_bitCount_0f7a4_34 (N : Nat) (v0 : Int32) (S : St) : Option (Int32 × St) := b_J6_bitCount_0f7a4_41 N ((v0 + ((v0.toUInt32 >>> ((8 : Int32).toUInt32 &&& Int32.toUInt32 31)).toInt32))) S
def b_J6_bitCount_0f7a4_24 (N : Nat) (v0 : Int32) (S : St) : Option (Int32 × St) := b_J6_bitCount_0f7a4_34 N (((v0 + ((v0.toUInt32 >>> ((4 : Int32).toUInt32 &&& Int32.toUInt32 31)).toInt32)) &&& 252645135)) S
def b_J6_bitCount_0f7a4_10 (N : Nat) (v0 : Int32) (S : St) : Option (Int32 × St) := b_J6_bitCount_0f7a4_24 N (((v0 &&& 858993459) + (((v0.toUInt32 >>> ((2 : Int32).toUInt32 &&& Int32.toUInt32 31)).toInt32) &&& 858993459))) S
def f_J6_bitCount_0f7a4 (N : Nat) (a1 : Int32) (S : St) : Option (Int32 × St) := b_J6_bitCount_0f7a4_10 N ((a1 - (((a1.toUInt32 >>> ((1 : Int32).toUInt32 &&& Int32.toUInt32 31)).toInt32) &&& 1431655765))) S
set_option maxHeartbeats 4000000 in
set_option maxRecDepth 100000 in
theorem c_J6_bitCount_0f7a4 {l : Launch} {G : Cx} {M S S' : St} {N : Nat} {a1 : Int32} {r : Int32} (hq : z_inj (gq G)) (hf : f_J6_bitCount_0f7a4 N a1 S = some (r, S')) : z_Ct l yJ6_bitCount_0f7a4 cJ6_bitCount_0f7a4 1 (some .int) 0 0 G S M [.int (a1)] (z_QI G S' M r) := by
  refine z_start (by decide +kernel) (Nat.le_of_ble_eq_true rfl) ?_
  intro p e s m below meth c ls E hr hlk hK hP hS hl
  have E : CallFix p m c cJ6_bitCount_0f7a4 1 s _ lw_good RJ6 := E
  have hx := E.1
  have hb := E.2.1
  have hown := E.2.2.2.1
  have hts := E.2.2.2.2
  have hJ48 : ∀ (v0 : Int32) (S : St) (H : Heap) (locs : List Loc) (ls : Array Slot), b_J6_bitCount_0f7a4_48 N v0 S = some (r, S') → z_P G S M H → z_S G s.heap H locs → lv_has ls 1 [(0, .int (v0))] → W p l e (z_rm 0 0) s m ([.int (a1)] : List Value).toArray below meth c H locs 0 0 (MQ below (z_QI G S' M r) ([.int (a1)] : List Value).toArray s 0 0 (z_Aq (gq G))) (F0 m 48 ls []) := by
    intro v0 S H locs ls hf hP hS hl
    unfold b_J6_bitCount_0f7a4_48 at hf
    refine lv_iload_n hx hb dJ6_bitCount_0f7a4_48 rfl (lv_at hl 0 rfl) ?_
    refine lv_bipush (v := 63) hx hb dJ6_bitCount_0f7a4_49 (by decide) ?_
    refine lv_iand hx hb dJ6_bitCount_0f7a4_51 ?_
    exact x_reti hx hb hr hlk hf hP hS dJ6_bitCount_0f7a4_52
  have hJ41 : ∀ (v0 : Int32) (S : St) (H : Heap) (locs : List Loc) (ls : Array Slot), b_J6_bitCount_0f7a4_41 N v0 S = some (r, S') → z_P G S M H → z_S G s.heap H locs → lv_has ls 1 [(0, .int (v0))] → W p l e (z_rm 0 0) s m ([.int (a1)] : List Value).toArray below meth c H locs 0 0 (MQ below (z_QI G S' M r) ([.int (a1)] : List Value).toArray s 0 0 (z_Aq (gq G))) (F0 m 41 ls []) := by
    intro v0 S H locs ls hf hP hS hl
    unfold b_J6_bitCount_0f7a4_41 at hf
    refine lv_iload_n hx hb dJ6_bitCount_0f7a4_41 rfl (lv_at hl 0 rfl) ?_
    refine lv_iload_n hx hb dJ6_bitCount_0f7a4_42 rfl (lv_at hl 0 rfl) ?_
    refine lv_bipush (v := 16) hx hb dJ6_bitCount_0f7a4_43 (by decide) ?_
    refine lv_iushr (v := (v0.toUInt32 >>> ((16 : Int32).toUInt32 &&& Int32.toUInt32 31)).toInt32) hx hb dJ6_bitCount_0f7a4_45 rfl ?_
    refine lv_iadd hx hb dJ6_bitCount_0f7a4_46 ?_
    refine lv_istore_n (lv' := [(0, .int ((v0 + ((v0.toUInt32 >>> ((16 : Int32).toUInt32 &&& Int32.toUInt32 31)).toInt32))))]) hx hb dJ6_bitCount_0f7a4_47 rfl hl (by decide) rfl (fun ls hl => ?_)
    exact hJ48 ((v0 + ((v0.toUInt32 >>> ((16 : Int32).toUInt32 &&& Int32.toUInt32 31)).toInt32))) S _ _ _ hf hP hS (lv_sub hl [0] rfl)
  have hJ34 : ∀ (v0 : Int32) (S : St) (H : Heap) (locs : List Loc) (ls : Array Slot), b_J6_bitCount_0f7a4_34 N v0 S = some (r, S') → z_P G S M H → z_S G s.heap H locs → lv_has ls 1 [(0, .int (v0))] → W p l e (z_rm 0 0) s m ([.int (a1)] : List Value).toArray below meth c H locs 0 0 (MQ below (z_QI G S' M r) ([.int (a1)] : List Value).toArray s 0 0 (z_Aq (gq G))) (F0 m 34 ls []) := by
    intro v0 S H locs ls hf hP hS hl
    unfold b_J6_bitCount_0f7a4_34 at hf
    refine lv_iload_n hx hb dJ6_bitCount_0f7a4_34 rfl (lv_at hl 0 rfl) ?_
    refine lv_iload_n hx hb dJ6_bitCount_0f7a4_35 rfl (lv_at hl 0 rfl) ?_
    refine lv_bipush (v := 8) hx hb dJ6_bitCount_0f7a4_36 (by decide) ?_
    refine lv_iushr (v := (v0.toUInt32 >>> ((8 : Int32).toUInt32 &&& Int32.toUInt32 31)).toInt32) hx hb dJ6_bitCount_0f7a4_38 rfl ?_
    refine lv_iadd hx hb dJ6_bitCount_0f7a4_39 ?_
    refine lv_istore_n (lv' := [(0, .int ((v0 + ((v0.toUInt32 >>> ((8 : Int32).toUInt32 &&& Int32.toUInt32 31)).toInt32))))]) hx hb dJ6_bitCount_0f7a4_40 rfl hl (by decide) rfl (fun ls hl => ?_)
    exact hJ41 ((v0 + ((v0.toUInt32 >>> ((8 : Int32).toUInt32 &&& Int32.toUInt32 31)).toInt32))) S _ _ _ hf hP hS (lv_sub hl [0] rfl)
  have hJ24 : ∀ (v0 : Int32) (S : St) (H : Heap) (locs : List Loc) (ls : Array Slot), b_J6_bitCount_0f7a4_24 N v0 S = some (r, S') → z_P G S M H → z_S G s.heap H locs → lv_has ls 1 [(0, .int (v0))] → W p l e (z_rm 0 0) s m ([.int (a1)] : List Value).toArray below meth c H locs 0 0 (MQ below (z_QI G S' M r) ([.int (a1)] : List Value).toArray s 0 0 (z_Aq (gq G))) (F0 m 24 ls []) := by
    intro v0 S H locs ls hf hP hS hl
    unfold b_J6_bitCount_0f7a4_24 at hf
    refine lv_iload_n hx hb dJ6_bitCount_0f7a4_24 rfl (lv_at hl 0 rfl) ?_
    refine lv_iload_n hx hb dJ6_bitCount_0f7a4_25 rfl (lv_at hl 0 rfl) ?_
    refine lv_iconst (v := 4) hx hb dJ6_bitCount_0f7a4_26 (by decide) ?_
    refine lv_iushr (v := (v0.toUInt32 >>> ((4 : Int32).toUInt32 &&& Int32.toUInt32 31)).toInt32) hx hb dJ6_bitCount_0f7a4_27 rfl ?_
    refine lv_iadd hx hb dJ6_bitCount_0f7a4_28 ?_
    refine lv_ldcw (v := 252645135) hx hb hown (hts _ tw732) dJ6_bitCount_0f7a4_29 ?_
    refine lv_iand hx hb dJ6_bitCount_0f7a4_32 ?_
    refine lv_istore_n (lv' := [(0, .int (((v0 + ((v0.toUInt32 >>> ((4 : Int32).toUInt32 &&& Int32.toUInt32 31)).toInt32)) &&& 252645135)))]) hx hb dJ6_bitCount_0f7a4_33 rfl hl (by decide) rfl (fun ls hl => ?_)
    exact hJ34 (((v0 + ((v0.toUInt32 >>> ((4 : Int32).toUInt32 &&& Int32.toUInt32 31)).toInt32)) &&& 252645135)) S _ _ _ hf hP hS (lv_sub hl [0] rfl)
  have hJ10 : ∀ (v0 : Int32) (S : St) (H : Heap) (locs : List Loc) (ls : Array Slot), b_J6_bitCount_0f7a4_10 N v0 S = some (r, S') → z_P G S M H → z_S G s.heap H locs → lv_has ls 1 [(0, .int (v0))] → W p l e (z_rm 0 0) s m ([.int (a1)] : List Value).toArray below meth c H locs 0 0 (MQ below (z_QI G S' M r) ([.int (a1)] : List Value).toArray s 0 0 (z_Aq (gq G))) (F0 m 10 ls []) := by
    intro v0 S H locs ls hf hP hS hl
    unfold b_J6_bitCount_0f7a4_10 at hf
    refine lv_iload_n hx hb dJ6_bitCount_0f7a4_10 rfl (lv_at hl 0 rfl) ?_
    refine lv_ldcw (v := 858993459) hx hb hown (hts _ tw731) dJ6_bitCount_0f7a4_11 ?_
    refine lv_iand hx hb dJ6_bitCount_0f7a4_14 ?_
    refine lv_iload_n hx hb dJ6_bitCount_0f7a4_15 rfl (lv_at hl 0 rfl) ?_
    refine lv_iconst (v := 2) hx hb dJ6_bitCount_0f7a4_16 (by decide) ?_
    refine lv_iushr (v := (v0.toUInt32 >>> ((2 : Int32).toUInt32 &&& Int32.toUInt32 31)).toInt32) hx hb dJ6_bitCount_0f7a4_17 rfl ?_
    refine lv_ldcw (v := 858993459) hx hb hown (hts _ tw731) dJ6_bitCount_0f7a4_18 ?_
    refine lv_iand hx hb dJ6_bitCount_0f7a4_21 ?_
    refine lv_iadd hx hb dJ6_bitCount_0f7a4_22 ?_
    refine lv_istore_n (lv' := [(0, .int (((v0 &&& 858993459) + (((v0.toUInt32 >>> ((2 : Int32).toUInt32 &&& Int32.toUInt32 31)).toInt32) &&& 858993459))))]) hx hb dJ6_bitCount_0f7a4_23 rfl hl (by decide) rfl (fun ls hl => ?_)
    exact hJ24 (((v0 &&& 858993459) + (((v0.toUInt32 >>> ((2 : Int32).toUInt32 &&& Int32.toUInt32 31)).toInt32) &&& 858993459))) S _ _ _ hf hP hS (lv_sub hl [0] rfl)
  have hl : lv_has ls 1 [(0, .int (a1))] := hl
  unfold f_J6_bitCount_0f7a4 at hf
  refine lv_iload_n hx hb dJ6_bitCount_0f7a4_0 rfl (lv_at hl 0 rfl) ?_
  refine lv_iload_n hx hb dJ6_bitCount_0f7a4_1 rfl (lv_at hl 0 rfl) ?_
  refine lv_iconst (v := 1) hx hb dJ6_bitCount_0f7a4_2 (by decide) ?_
  refine lv_iushr (v := (a1.toUInt32 >>> ((1 : Int32).toUInt32 &&& Int32.toUInt32 31)).toInt32) hx hb dJ6_bitCount_0f7a4_3 rfl ?_
  refine lv_ldcw (v := 1431655765) hx hb hown (hts _ tw730) dJ6_bitCount_0f7a4_4 ?_
  refine lv_iand hx hb dJ6_bitCount_0f7a4_7 ?_
  refine lv_isub hx hb dJ6_bitCount_0f7a4_8 ?_
  refine lv_istore_n (lv' := [(0, .int ((a1 - (((a1.toUInt32 >>> ((1 : Int32).toUInt32 &&& Int32.toUInt32 31)).toInt32) &&& 1431655765))))]) hx hb dJ6_bitCount_0f7a4_9 rfl hl (by decide) rfl (fun ls hl => ?_)
  exact hJ10 ((a1 - (((a1.toUInt32 >>> ((1 : Int32).toUInt32 &&& Int32.toUInt32 31)).toInt32) &&& 1431655765))) S _ _ _ hf hP hS (lv_sub hl [0] rfl)
theorem cs_J6_bitCount_0f7a4 : z_cs yJ6_bitCount_0f7a4 cJ6_bitCount_0f7a4 1 (some .int) 1 := ⟨tw728, tw729, tw18, by decide +kernel⟩
def f_X9_at (N : Nat) (o1 : Nat) (a2 : Int32) (S : St) : Option (Int32 × St) := if a2 < 0 then (some (0, S)) else (if (nI (z_ln o1)) ≤ a2 then (some (0, S)) else (z_gd (z_in a2 (z_ln o1)) (some ((S o1 (a2 : Int32).toNatClampNeg), S))))
set_option maxHeartbeats 4000000 in
set_option maxRecDepth 100000 in
theorem c_X9_at {l : Launch} {G : Cx} {M S S' : St} {N : Nat} {o1 : Nat} {a2 : Int32} {r : Int32} (hq : z_inj (gq G)) (hko1 : z_kd o1 = 11) (hxo1 : o1 < 65) (hf : f_X9_at N o1 a2 S = some (r, S')) : z_Ct l yX9_at cX9_at 2 (some .int) 0 0 G S M [.ref (gq G (o1)), .int (a2)] (z_QI G S' M r) := by
  refine z_start (by decide +kernel) (Nat.le_of_ble_eq_true rfl) ?_
  intro p e s m below meth c ls E hr hlk hK hP hS hl
  have E : CallFix p m c cX9_at 2 s _ lw_good RX9 := E
  have hx := E.1
  have hb := E.2.1
  have hown := E.2.2.2.1
  have hts := E.2.2.2.2
  have hl : lv_has ls 2 [(0, .ref (gq G (o1))), (1, .int (a2))] := hl
  unfold f_X9_at at hf
  refine lv_iload_n hx hb dX9_at_0 rfl (lv_at hl 1 rfl) ?_
  refine lv_if_lt (tgt := 16) hx hb dX9_at_1 (by decide) (fun hc1 => ?_) (fun hc1 => ?_)
  · replace hf := z_ifp hf hc1
    refine lv_iconst (v := 0) hx hb dX9_at_16 (by decide) ?_
    exact x_reti hx hb hr hlk hf hP hS dX9_at_17
  · replace hf := z_ifn hf hc1
    refine lv_iload_n hx hb dX9_at_4 rfl (lv_at hl 1 rfl) ?_
    refine lv_aload_n hx hb dX9_at_5 rfl (lv_at hl 0 rfl) ?_
    refine z_aln (o := o1) E hK hP hko1 dX9_at_6 ?_
    refine lv_icmp_ge (tgt := 16) hx hb dX9_at_7 (by decide) (fun hc2 => ?_) (fun hc2 => ?_)
    · replace hf := z_ifp hf hc2
      refine lv_iconst (v := 0) hx hb dX9_at_16 (by decide) ?_
      exact x_reti hx hb hr hlk hf hP hS dX9_at_17
    · replace hf := z_ifn hf hc2
      refine lv_aload_n hx hb dX9_at_10 rfl (lv_at hl 0 rfl) ?_
      refine lv_iload_n hx hb dX9_at_11 rfl (lv_at hl 1 rfl) ?_
      obtain ⟨hg3, hf⟩ := z_gd_some hf
      refine x_ald (o := o1) (i := a2) E hK hP hko1 hxo1 hg3 dX9_at_12 ?_
      refine lv_goto (tgt := 17) hx hb dX9_at_13 (by decide) ?_
      exact x_reti hx hb hr hlk hf hP hS dX9_at_17
theorem cs_X9_at : z_cs yX9_at cX9_at 2 (some .int) 2 := ⟨tw335, tw336, tw1, by decide +kernel⟩
def f_X9_put (N : Nat) (o1 : Nat) (a2 : Int32) (a3 : Int32) (S : St) : Option (St) := if a2 < 0 then (some S) else (if (nI (z_ln o1)) ≤ a2 then (some S) else (z_gd (z_in a2 (z_ln o1)) (z_lt (z_wr S o1 (a2 : Int32).toNatClampNeg a3) fun S4 => some S4)))
set_option maxHeartbeats 4000000 in
set_option maxRecDepth 100000 in
theorem c_X9_put {l : Launch} {G : Cx} {M S S' : St} {N : Nat} {o1 : Nat} {a2 : Int32} {a3 : Int32} (hq : z_inj (gq G)) (hko1 : z_kd o1 = 11) (hxo1 : o1 < 65) (hf : f_X9_put N o1 a2 a3 S = some S') : z_Ct l yX9_put cX9_put 3 none 0 0 G S M [.ref (gq G (o1)), .int (a2), .int (a3)] (z_QV G S' M) := by
  refine z_start (by decide +kernel) (Nat.le_of_ble_eq_true rfl) ?_
  intro p e s m below meth c ls E hr hlk hK hP hS hl
  have E : CallFix p m c cX9_put 3 s _ lw_good RX9 := E
  have hx := E.1
  have hb := E.2.1
  have hown := E.2.2.2.1
  have hts := E.2.2.2.2
  have hl : lv_has ls 3 [(0, .ref (gq G (o1))), (1, .int (a2)), (2, .int (a3))] := hl
  unfold f_X9_put at hf
  refine lv_iload_n hx hb dX9_put_0 rfl (lv_at hl 1 rfl) ?_
  refine lv_if_lt (tgt := 14) hx hb dX9_put_1 (by decide) (fun hc1 => ?_) (fun hc1 => ?_)
  · replace hf := z_ifp hf hc1
    exact x_retv hx hb hr hlk hf hP hS dX9_put_14
  · replace hf := z_ifn hf hc1
    refine lv_iload_n hx hb dX9_put_4 rfl (lv_at hl 1 rfl) ?_
    refine lv_aload_n hx hb dX9_put_5 rfl (lv_at hl 0 rfl) ?_
    refine z_aln (o := o1) E hK hP hko1 dX9_put_6 ?_
    refine lv_icmp_ge (tgt := 14) hx hb dX9_put_7 (by decide) (fun hc2 => ?_) (fun hc2 => ?_)
    · replace hf := z_ifp hf hc2
      exact x_retv hx hb hr hlk hf hP hS dX9_put_14
    · replace hf := z_ifn hf hc2
      refine lv_aload_n hx hb dX9_put_10 rfl (lv_at hl 0 rfl) ?_
      refine lv_iload_n hx hb dX9_put_11 rfl (lv_at hl 1 rfl) ?_
      refine lv_iload_n hx hb dX9_put_12 rfl (lv_at hl 2 rfl) ?_
      obtain ⟨hg3, hf⟩ := z_gd_some hf
      refine x_ast (o := o1) (i := a2) (v := a3) E hK hq hP hS hko1 hxo1 hg3 dX9_put_13 (fun H locs hP hS => ?_)
      obtain ⟨S4, hf, hP⟩ := z_ltX hf hP
      exact x_retv hx hb hr hlk hf hP hS dX9_put_14
theorem cs_X9_put : z_cs yX9_put cX9_put 3 none 3 := ⟨tw338, tw339, tw1, by decide +kernel⟩
def b_X0_see_50 (N : Nat) (o0 : Nat) (v1 : Int32) (v3 : Int32) (v4 : Int32) (S : St) : Option (St) := z_bd (f_X9_at N ((z_rfS o0 2)) (v1) S) fun r15 S14 => z_bv (f_X9_put N ((z_rfS o0 2)) (v1) ((r15 + 1)) S14) fun S17 => z_bv (f_X9_put N ((z_rfS o0 0)) (v1) ((v3 ||| v4)) S17) fun S19 => some S19
def f_X0_see (N : Nat) (o0 : Nat) (a1 : Int32) (a2 : Int32) (S : St) : Option (St) := z_bd (f_X9_at N ((z_rfS o0 0)) (a1) S) fun r2 S1 => if (r2 &&& (1 <<< (a2 &&& 31))) = 0 then (b_X0_see_50 N o0 (a1) (r2) ((1 <<< (a2 &&& 31))) S1) else (z_bd (f_J6_bitCount_0f7a4 N (r2) S1) fun r6 S5 => if 2 < r6 then (b_X0_see_50 N o0 (a1) (r2) ((1 <<< (a2 &&& 31))) S5) else (z_bd (f_X9_at N ((z_rfS o0 1)) (a1) S5) fun r10 S9 => z_bv (f_X9_put N ((z_rfS o0 1)) (a1) ((r10 + 1)) S9) fun S12 => some S12))
set_option maxHeartbeats 4000000 in
set_option maxRecDepth 100000 in
theorem c_X0_see {l : Launch} {G : Cx} {M S S' : St} {N : Nat} {o0 : Nat} {a1 : Int32} {a2 : Int32} (hq : z_inj (gq G)) (hko0 : z_kd o0 = 0) (hxo0 : o0 < 65) (hf : f_X0_see N o0 a1 a2 S = some S') : z_Ct l yX0_see cX0_see 5 none 1 22 G S M [.ref (gq G (o0)), .int (a1), .int (a2)] (z_QV G S' M) := by
  refine z_start (by decide +kernel) (Nat.le_of_ble_eq_true rfl) ?_
  intro p e s m below meth c ls E hr hlk hK hP hS hl
  have E : CallFix p m c cX0_see 5 s _ lw_good RX0 := E
  have hx := E.1
  have hb := E.2.1
  have hown := E.2.2.2.1
  have hts := E.2.2.2.2
  have hJ50 : ∀ (v1 : Int32) (v3 : Int32) (v4 : Int32) (S : St) (H : Heap) (locs : List Loc) (ls : Array Slot), b_X0_see_50 N o0 v1 v3 v4 S = some S' → z_P G S M H → z_S G s.heap H locs → lv_has ls 5 [(0, .ref (gq G (o0))), (1, .int (v1)), (3, .int (v3)), (4, .int (v4))] → W p l e (z_rm 1 22) s m ([.ref (gq G (o0)), .int (a1), .int (a2)] : List Value).toArray below meth c H locs 0 0 (MQ below (z_QV G S' M) ([.ref (gq G (o0)), .int (a1), .int (a2)] : List Value).toArray s 0 0 (z_Aq (gq G))) (F0 m 50 ls []) := by
    intro v1 v3 v4 S H locs ls hf hP hS hl
    unfold b_X0_see_50 at hf
    refine lv_aload_n hx hb dX0_see_50 rfl (lv_at hl 0 rfl) ?_
    refine z_getR (C := RX0) (T := TX0) (N := 3) (ci := 0) (k := 2) (o := o0) (t := (z_rfS o0 2)) E hK hP iwX0 rfl rfl (by decide) (by decide) rfl hko0 (z_rf_S (by rw [hko0]; decide)) tw75 dX0_see_51 ?_
    refine lv_iload_n hx hb dX0_see_54 rfl (lv_at hl 1 rfl) ?_
    refine lv_aload_n hx hb dX0_see_55 rfl (lv_at hl 0 rfl) ?_
    refine z_getR (C := RX0) (T := TX0) (N := 3) (ci := 0) (k := 2) (o := o0) (t := (z_rfS o0 2)) E hK hP iwX0 rfl rfl (by decide) (by decide) rfl hko0 (z_rf_S (by rw [hko0]; decide)) tw75 dX0_see_56 ?_
    refine lv_iload_n hx hb dX0_see_59 rfl (lv_at hl 1 rfl) ?_
    obtain ⟨r15, S14, hz16, hf⟩ := z_bd_some hf
    refine z_ci (z_runSN (host := RX9) E hK hP hS (c_X9_at hq (z_rk0_2 hko0) (z_rl0_2 hko0) hz16) cs_X9_at (by decide +kernel) rfl ⟨Nat.le_of_ble_eq_true rfl, Nat.le_of_ble_eq_true rfl⟩ ⟨Nat.le_refl 0, Nat.le_refl 0⟩ hl.1 (Nat.le_of_ble_eq_true rfl) rfl dX0_see_60) hS (fun H locs hP hS => ?_)
    refine lv_iconst (v := 1) hx hb dX0_see_63 (by decide) ?_
    refine lv_iadd hx hb dX0_see_64 ?_
    obtain ⟨S17, hz18, hf⟩ := z_bv_some hf
    refine z_cvo (z_runSN (host := RX9) E hK hP hS (c_X9_put hq (z_rk0_2 hko0) (z_rl0_2 hko0) hz18) cs_X9_put (by decide +kernel) rfl ⟨Nat.le_of_ble_eq_true rfl, Nat.le_of_ble_eq_true rfl⟩ ⟨Nat.le_refl 0, Nat.le_refl 0⟩ hl.1 (Nat.le_of_ble_eq_true rfl) rfl dX0_see_65) hS (fun H locs hP hS => ?_)
    refine lv_aload_n hx hb dX0_see_68 rfl (lv_at hl 0 rfl) ?_
    refine z_getR (C := RX0) (T := TX0) (N := 3) (ci := 0) (k := 0) (o := o0) (t := (z_rfS o0 0)) E hK hP iwX0 rfl rfl (by decide) (by decide) rfl hko0 (z_rf_S (by rw [hko0]; decide)) tw73 dX0_see_69 ?_
    refine lv_iload_n hx hb dX0_see_72 rfl (lv_at hl 1 rfl) ?_
    refine lv_iload_n hx hb dX0_see_73 rfl (lv_at hl 2 rfl) ?_
    refine lv_iload hx hb dX0_see_74 (lv_at hl 3 rfl) ?_
    refine lv_ior hx hb dX0_see_76 ?_
    obtain ⟨S19, hz20, hf⟩ := z_bv_some hf
    refine z_cvo (z_runSN (host := RX9) E hK hP hS (c_X9_put hq (z_rk0_0 hko0) (z_rl0_0 hko0) hz20) cs_X9_put (by decide +kernel) rfl ⟨Nat.le_of_ble_eq_true rfl, Nat.le_of_ble_eq_true rfl⟩ ⟨Nat.le_refl 0, Nat.le_refl 0⟩ hl.1 (Nat.le_of_ble_eq_true rfl) rfl dX0_see_77) hS (fun H locs hP hS => ?_)
    exact x_retv hx hb hr hlk hf hP hS dX0_see_80
  have hl : lv_has ls 5 [(0, .ref (gq G (o0))), (1, .int (a1)), (2, .int (a2))] := hl
  unfold f_X0_see at hf
  refine lv_aload_n hx hb dX0_see_0 rfl (lv_at hl 0 rfl) ?_
  refine z_getR (C := RX0) (T := TX0) (N := 3) (ci := 0) (k := 0) (o := o0) (t := (z_rfS o0 0)) E hK hP iwX0 rfl rfl (by decide) (by decide) rfl hko0 (z_rf_S (by rw [hko0]; decide)) tw73 dX0_see_1 ?_
  refine lv_iload_n hx hb dX0_see_4 rfl (lv_at hl 1 rfl) ?_
  obtain ⟨r2, S1, hz3, hf⟩ := z_bd_some hf
  refine z_ci (z_runSN (host := RX9) E hK hP hS (c_X9_at hq (z_rk0_0 hko0) (z_rl0_0 hko0) hz3) cs_X9_at (by decide +kernel) rfl ⟨Nat.le_of_ble_eq_true rfl, Nat.le_of_ble_eq_true rfl⟩ ⟨Nat.le_refl 0, Nat.le_refl 0⟩ hl.1 (Nat.le_of_ble_eq_true rfl) rfl dX0_see_5) hS (fun H locs hP hS => ?_)
  refine lv_istore_n (lv' := [(3, .int (r2)), (0, .ref (gq G (o0))), (1, .int (a1)), (2, .int (a2))]) hx hb dX0_see_8 rfl hl (by decide) rfl (fun ls hl => ?_)
  refine lv_iconst (v := 1) hx hb dX0_see_9 (by decide) ?_
  refine lv_iload_n hx hb dX0_see_10 rfl (lv_at hl 3 rfl) ?_
  refine lv_ishl hx hb dX0_see_11 ?_
  refine lv_istore (lv' := [(4, .int ((1 <<< (a2 &&& 31)))), (3, .int (r2)), (0, .ref (gq G (o0))), (1, .int (a1)), (2, .int (a2))]) hx hb dX0_see_12 hl (by decide) rfl (fun ls hl => ?_)
  refine lv_iload_n hx hb dX0_see_14 rfl (lv_at hl 1 rfl) ?_
  refine lv_iload hx hb dX0_see_15 (lv_at hl 0 rfl) ?_
  refine lv_iand hx hb dX0_see_17 ?_
  refine lv_if_eq (tgt := 50) hx hb dX0_see_18 (by decide) (fun hc4 => ?_) (fun hc4 => ?_)
  · replace hf := z_ifp hf hc4
    exact hJ50 (a1) (r2) ((1 <<< (a2 &&& 31))) S1 _ _ _ hf hP hS (lv_sub hl [2, 3, 1, 0] rfl)
  · replace hf := z_ifn hf hc4
    refine lv_iload_n hx hb dX0_see_21 rfl (lv_at hl 1 rfl) ?_
    obtain ⟨r6, S5, hz7, hf⟩ := z_bd_some hf
    refine z_ci (z_runS E hK hP hS (c_J6_bitCount_0f7a4 hq hz7) cs_J6_bitCount_0f7a4 tw727 rfl ⟨Nat.le_of_ble_eq_true rfl, Nat.le_of_ble_eq_true rfl⟩ ⟨Nat.le_refl 0, Nat.le_refl 0⟩ hl.1 (Nat.le_of_ble_eq_true rfl) rfl dX0_see_22) hS (fun H locs hP hS => ?_)
    refine lv_iconst (v := 2) hx hb dX0_see_25 (by decide) ?_
    refine lv_icmp_gt (tgt := 50) hx hb dX0_see_26 (by decide) (fun hc8 => ?_) (fun hc8 => ?_)
    · replace hf := z_ifp hf hc8
      exact hJ50 (a1) (r2) ((1 <<< (a2 &&& 31))) S5 _ _ _ hf hP hS (lv_sub hl [2, 3, 1, 0] rfl)
    · replace hf := z_ifn hf hc8
      refine lv_aload_n hx hb dX0_see_29 rfl (lv_at hl 2 rfl) ?_
      refine z_getR (C := RX0) (T := TX0) (N := 3) (ci := 0) (k := 1) (o := o0) (t := (z_rfS o0 1)) E hK hP iwX0 rfl rfl (by decide) (by decide) rfl hko0 (z_rf_S (by rw [hko0]; decide)) tw74 dX0_see_30 ?_
      refine lv_iload_n hx hb dX0_see_33 rfl (lv_at hl 3 rfl) ?_
      refine lv_aload_n hx hb dX0_see_34 rfl (lv_at hl 2 rfl) ?_
      refine z_getR (C := RX0) (T := TX0) (N := 3) (ci := 0) (k := 1) (o := o0) (t := (z_rfS o0 1)) E hK hP iwX0 rfl rfl (by decide) (by decide) rfl hko0 (z_rf_S (by rw [hko0]; decide)) tw74 dX0_see_35 ?_
      refine lv_iload_n hx hb dX0_see_38 rfl (lv_at hl 3 rfl) ?_
      obtain ⟨r10, S9, hz11, hf⟩ := z_bd_some hf
      refine z_ci (z_runSN (host := RX9) E hK hP hS (c_X9_at hq (z_rk0_1 hko0) (z_rl0_1 hko0) hz11) cs_X9_at (by decide +kernel) rfl ⟨Nat.le_of_ble_eq_true rfl, Nat.le_of_ble_eq_true rfl⟩ ⟨Nat.le_refl 0, Nat.le_refl 0⟩ hl.1 (Nat.le_of_ble_eq_true rfl) rfl dX0_see_39) hS (fun H locs hP hS => ?_)
      refine lv_iconst (v := 1) hx hb dX0_see_42 (by decide) ?_
      refine lv_iadd hx hb dX0_see_43 ?_
      obtain ⟨S12, hz13, hf⟩ := z_bv_some hf
      refine z_cvo (z_runSN (host := RX9) E hK hP hS (c_X9_put hq (z_rk0_1 hko0) (z_rl0_1 hko0) hz13) cs_X9_put (by decide +kernel) rfl ⟨Nat.le_of_ble_eq_true rfl, Nat.le_of_ble_eq_true rfl⟩ ⟨Nat.le_refl 0, Nat.le_refl 0⟩ hl.1 (Nat.le_of_ble_eq_true rfl) rfl dX0_see_44) hS (fun H locs hP hS => ?_)
      refine lv_goto (tgt := 80) hx hb dX0_see_47 (by decide) ?_
      exact x_retv hx hb hr hlk hf hP hS dX0_see_80
theorem cv_X0_see : z_cv yX0_see cX0_see 5 none RX0 2 := ⟨⟨tw723, tw724⟩, tw725, tw4, by decide +kernel⟩
def f_X0_stateOf (N : Nat) (o0 : Nat) (a1 : Int32) (S : St) : Option (Int32 × St) := z_bd (f_X9_at N ((z_rfS o0 0)) (a1) S) fun r2 S1 => z_bd (f_J6_bitCount_0f7a4 N (r2) S1) fun r5 S4 => some ((if 3 < r5 then 3 else r5), S4)
set_option maxHeartbeats 4000000 in
set_option maxRecDepth 100000 in
theorem c_X0_stateOf {l : Launch} {G : Cx} {M S S' : St} {N : Nat} {o0 : Nat} {a1 : Int32} {r : Int32} (hq : z_inj (gq G)) (hko0 : z_kd o0 = 0) (hxo0 : o0 < 65) (hf : f_X0_stateOf N o0 a1 S = some (r, S')) : z_Ct l yX0_stateOf cX0_stateOf 2 (some .int) 1 21 G S M [.ref (gq G (o0)), .int (a1)] (z_QI G S' M r) := by
  refine z_start (by decide +kernel) (Nat.le_of_ble_eq_true rfl) ?_
  intro p e s m below meth c ls E hr hlk hK hP hS hl
  have E : CallFix p m c cX0_stateOf 2 s _ lw_good RX0 := E
  have hx := E.1
  have hb := E.2.1
  have hown := E.2.2.2.1
  have hts := E.2.2.2.2
  have hl : lv_has ls 2 [(0, .ref (gq G (o0))), (1, .int (a1))] := hl
  unfold f_X0_stateOf at hf
  refine lv_aload_n hx hb dX0_stateOf_0 rfl (lv_at hl 0 rfl) ?_
  refine z_getR (C := RX0) (T := TX0) (N := 3) (ci := 0) (k := 0) (o := o0) (t := (z_rfS o0 0)) E hK hP iwX0 rfl rfl (by decide) (by decide) rfl hko0 (z_rf_S (by rw [hko0]; decide)) tw73 dX0_stateOf_1 ?_
  refine lv_iload_n hx hb dX0_stateOf_4 rfl (lv_at hl 1 rfl) ?_
  obtain ⟨r2, S1, hz3, hf⟩ := z_bd_some hf
  refine z_ci (z_runSN (host := RX9) E hK hP hS (c_X9_at hq (z_rk0_0 hko0) (z_rl0_0 hko0) hz3) cs_X9_at (by decide +kernel) rfl ⟨Nat.le_of_ble_eq_true rfl, Nat.le_of_ble_eq_true rfl⟩ ⟨Nat.le_refl 0, Nat.le_refl 0⟩ hl.1 (Nat.le_of_ble_eq_true rfl) rfl dX0_stateOf_5) hS (fun H locs hP hS => ?_)
  obtain ⟨r5, S4, hz6, hf⟩ := z_bd_some hf
  refine z_ci (z_runS E hK hP hS (c_J6_bitCount_0f7a4 hq hz6) cs_J6_bitCount_0f7a4 tw727 rfl ⟨Nat.le_of_ble_eq_true rfl, Nat.le_of_ble_eq_true rfl⟩ ⟨Nat.le_refl 0, Nat.le_refl 0⟩ hl.1 (Nat.le_of_ble_eq_true rfl) rfl dX0_stateOf_8) hS (fun H locs hP hS => ?_)
  refine lv_iconst (v := 3) hx hb dX0_stateOf_11 (by decide) ?_
  refine z_mmin E hl.1 tw795 (by decide) (Nat.le_of_ble_eq_true rfl) ⟨Nat.le_refl 0, Nat.le_refl 0⟩ dX0_stateOf_12 ?_
  exact x_reti hx hb hr hlk hf hP hS dX0_stateOf_15
theorem cv_X0_stateOf : z_cv yX0_stateOf cX0_stateOf 2 (some .int) RX0 1 := ⟨⟨tw792, tw793⟩, tw794, tw4, by decide +kernel⟩
def f_X0_tell (N : Nat) (o0 : Nat) (a1 : Int32) (a2 : Int32) (S : St) : Option (Int32 × St) := if a2 = 0 then (z_bd (f_X0_stateOf N (o0) (a1) S) fun r3 S2 => some (r3, S2)) else (if a2 = 1 then (z_bd (f_X9_at N ((z_rfS o0 0)) (a1) S) fun r7 S6 => some (r7, S6)) else (if a2 = 2 then (z_bd (f_X9_at N ((z_rfS o0 1)) (a1) S) fun r11 S10 => some (r11, S10)) else (z_bd (f_X9_at N ((z_rfS o0 2)) (a1) S) fun r14 S13 => some (r14, S13))))
set_option maxHeartbeats 4000000 in
set_option maxRecDepth 100000 in
theorem c_X0_tell {l : Launch} {G : Cx} {M S S' : St} {N : Nat} {o0 : Nat} {a1 : Int32} {a2 : Int32} {r : Int32} (hq : z_inj (gq G)) (hko0 : z_kd o0 = 0) (hxo0 : o0 < 65) (hf : f_X0_tell N o0 a1 a2 S = some (r, S')) : z_Ct l yX0_tell cX0_tell 3 (some .int) 2 42 G S M [.ref (gq G (o0)), .int (a1), .int (a2)] (z_QI G S' M r) := by
  refine z_start (by decide +kernel) (Nat.le_of_ble_eq_true rfl) ?_
  intro p e s m below meth c ls E hr hlk hK hP hS hl
  have E : CallFix p m c cX0_tell 3 s _ lw_good RX0 := E
  have hx := E.1
  have hb := E.2.1
  have hown := E.2.2.2.1
  have hts := E.2.2.2.2
  have hl : lv_has ls 3 [(0, .ref (gq G (o0))), (1, .int (a1)), (2, .int (a2))] := hl
  unfold f_X0_tell at hf
  refine lv_iload_n hx hb dX0_tell_0 rfl (lv_at hl 2 rfl) ?_
  by_cases hc1 : a2 = 0
  · replace hf := z_ifp hf hc1
    refine lv_tableIn (off := 27) (tgt := 28) hx hb dX0_tell_1 (by rw [hc1]; decide) (by rw [hc1]; decide) (by rw [hc1]; decide) (by decide) ?_
    refine lv_aload_n hx hb dX0_tell_28 rfl (lv_at hl 0 rfl) ?_
    refine lv_iload_n hx hb dX0_tell_29 rfl (lv_at hl 1 rfl) ?_
    obtain ⟨r3, S2, hz4, hf⟩ := z_bd_some hf
    refine z_ci (z_runV (o := o0) (ci := 0) E hK hP hS (c_X0_stateOf hq hko0 hxo0 hz4) cv_X0_stateOf tw791 hko0 (by decide) rfl rfl ⟨Nat.le_of_ble_eq_true rfl, Nat.le_of_ble_eq_true rfl⟩ ⟨Nat.le_refl 0, Nat.le_refl 0⟩ hl.1 (Nat.le_of_ble_eq_true rfl) rfl dX0_tell_30) hS (fun H locs hP hS => ?_)
    exact x_reti hx hb hr hlk hf hP hS dX0_tell_33
  · replace hf := z_ifn hf hc1
    by_cases hc5 : a2 = 1
    · replace hf := z_ifp hf hc5
      refine lv_tableIn (off := 33) (tgt := 34) hx hb dX0_tell_1 (by rw [hc5]; decide) (by rw [hc5]; decide) (by rw [hc5]; decide) (by decide) ?_
      refine lv_aload_n hx hb dX0_tell_34 rfl (lv_at hl 0 rfl) ?_
      refine z_getR (C := RX0) (T := TX0) (N := 3) (ci := 0) (k := 0) (o := o0) (t := (z_rfS o0 0)) E hK hP iwX0 rfl rfl (by decide) (by decide) rfl hko0 (z_rf_S (by rw [hko0]; decide)) tw73 dX0_tell_35 ?_
      refine lv_iload_n hx hb dX0_tell_38 rfl (lv_at hl 1 rfl) ?_
      obtain ⟨r7, S6, hz8, hf⟩ := z_bd_some hf
      refine z_ci (z_runSN (host := RX9) E hK hP hS (c_X9_at hq (z_rk0_0 hko0) (z_rl0_0 hko0) hz8) cs_X9_at (by decide +kernel) rfl ⟨Nat.le_of_ble_eq_true rfl, Nat.le_of_ble_eq_true rfl⟩ ⟨Nat.le_refl 0, Nat.le_refl 0⟩ hl.1 (Nat.le_of_ble_eq_true rfl) rfl dX0_tell_39) hS (fun H locs hP hS => ?_)
      exact x_reti hx hb hr hlk hf hP hS dX0_tell_42
    · replace hf := z_ifn hf hc5
      by_cases hc9 : a2 = 2
      · replace hf := z_ifp hf hc9
        refine lv_tableIn (off := 42) (tgt := 43) hx hb dX0_tell_1 (by rw [hc9]; decide) (by rw [hc9]; decide) (by rw [hc9]; decide) (by decide) ?_
        refine lv_aload_n hx hb dX0_tell_43 rfl (lv_at hl 0 rfl) ?_
        refine z_getR (C := RX0) (T := TX0) (N := 3) (ci := 0) (k := 1) (o := o0) (t := (z_rfS o0 1)) E hK hP iwX0 rfl rfl (by decide) (by decide) rfl hko0 (z_rf_S (by rw [hko0]; decide)) tw74 dX0_tell_44 ?_
        refine lv_iload_n hx hb dX0_tell_47 rfl (lv_at hl 1 rfl) ?_
        obtain ⟨r11, S10, hz12, hf⟩ := z_bd_some hf
        refine z_ci (z_runSN (host := RX9) E hK hP hS (c_X9_at hq (z_rk0_1 hko0) (z_rl0_1 hko0) hz12) cs_X9_at (by decide +kernel) rfl ⟨Nat.le_of_ble_eq_true rfl, Nat.le_of_ble_eq_true rfl⟩ ⟨Nat.le_refl 0, Nat.le_refl 0⟩ hl.1 (Nat.le_of_ble_eq_true rfl) rfl dX0_tell_48) hS (fun H locs hP hS => ?_)
        exact x_reti hx hb hr hlk hf hP hS dX0_tell_51
      · replace hf := z_ifn hf hc9
        refine lv_tableOut (tgt := 52) hx hb dX0_tell_1 (by have := lv_neT (a := 0) hc1 (by decide); have := lv_neT (a := 1) hc5 (by decide); have := lv_neT (a := 2) hc9 (by decide); omega) (by decide) ?_
        refine lv_aload_n hx hb dX0_tell_52 rfl (lv_at hl 0 rfl) ?_
        refine z_getR (C := RX0) (T := TX0) (N := 3) (ci := 0) (k := 2) (o := o0) (t := (z_rfS o0 2)) E hK hP iwX0 rfl rfl (by decide) (by decide) rfl hko0 (z_rf_S (by rw [hko0]; decide)) tw75 dX0_tell_53 ?_
        refine lv_iload_n hx hb dX0_tell_56 rfl (lv_at hl 1 rfl) ?_
        obtain ⟨r14, S13, hz15, hf⟩ := z_bd_some hf
        refine z_ci (z_runSN (host := RX9) E hK hP hS (c_X9_at hq (z_rk0_2 hko0) (z_rl0_2 hko0) hz15) cs_X9_at (by decide +kernel) rfl ⟨Nat.le_of_ble_eq_true rfl, Nat.le_of_ble_eq_true rfl⟩ ⟨Nat.le_refl 0, Nat.le_refl 0⟩ hl.1 (Nat.le_of_ble_eq_true rfl) rfl dX0_tell_57) hS (fun H locs hP hS => ?_)
        exact x_reti hx hb hr hlk hf hP hS dX0_tell_60
theorem cv_X0_tell : z_cv yX0_tell cX0_tell 3 (some .int) RX0 2 := ⟨⟨tw788, tw789⟩, tw790, tw4, by decide +kernel⟩
def b_X0_sumOf_10 (N : Nat) (o1 : Nat) (k10 : Int32 → Int32 → Int32 → St → Option (Int32 × St)) (v1 : Int32) (v3 : Int32) (v4 : Int32) (S : St) : Option (Int32 × St) := if v3 ≤ v4 then (some (v1, S)) else (z_gd (z_in v4 (z_ln o1)) (k10 ((v1 + (S o1 (v4 : Int32).toNatClampNeg))) (v3) ((v4 + 1)) S))
def f_X0_sumOf_10 (N : Nat) (o1 : Nat) : Nat → Int32 → Int32 → Int32 → St → Option (Int32 × St)
  | 0 => fun _ _ _ _ => none
  | n + 1 => b_X0_sumOf_10 N o1 (f_X0_sumOf_10 N o1 n)
def f_X0_sumOf (N : Nat) (o1 : Nat) (S : St) : Option (Int32 × St) := f_X0_sumOf_10 N o1 N (0) ((nI (z_ln o1))) (0) S
set_option maxHeartbeats 4000000 in
set_option maxRecDepth 100000 in
theorem c_X0_sumOf {l : Launch} {G : Cx} {M S S' : St} {N : Nat} {o1 : Nat} {r : Int32} (hq : z_inj (gq G)) (hko1 : z_kd o1 = 11) (hxo1 : o1 < 65) (hf : f_X0_sumOf N o1 S = some (r, S')) : z_Ct l yX0_sumOf cX0_sumOf 6 (some .int) 0 0 G S M [.ref (gq G (o1))] (z_QI G S' M r) := by
  refine z_start (by decide +kernel) (Nat.le_of_ble_eq_true rfl) ?_
  intro p e s m below meth c ls E hr hlk hK hP hS hl
  have E : CallFix p m c cX0_sumOf 6 s _ lw_good RX0 := E
  have hx := E.1
  have hb := E.2.1
  have hown := E.2.2.2.1
  have hts := E.2.2.2.2
  have hB10 : ∀ (k10 : Int32 → Int32 → Int32 → St → Option (Int32 × St)) (hk10 : ∀ (v1 : Int32) (v3 : Int32) (v4 : Int32) (S : St) (H : Heap) (locs : List Loc) (ls : Array Slot), k10 v1 v3 v4 S = some (r, S') → z_P G S M H → z_S G s.heap H locs → lv_has ls 6 [(1, .int (v1)), (2, .ref (gq G (o1))), (3, .int (v3)), (4, .int (v4))] → W p l e (z_rm 0 0) s m ([.ref (gq G (o1))] : List Value).toArray below meth c H locs 0 0 (MQ below (z_QI G S' M r) ([.ref (gq G (o1))] : List Value).toArray s 0 0 (z_Aq (gq G))) (F0 m 10 ls [])), ∀ (v1 : Int32) (v3 : Int32) (v4 : Int32) (S : St) (H : Heap) (locs : List Loc) (ls : Array Slot), b_X0_sumOf_10 N o1 k10 v1 v3 v4 S = some (r, S') → z_P G S M H → z_S G s.heap H locs → lv_has ls 6 [(1, .int (v1)), (2, .ref (gq G (o1))), (3, .int (v3)), (4, .int (v4))] → W p l e (z_rm 0 0) s m ([.ref (gq G (o1))] : List Value).toArray below meth c H locs 0 0 (MQ below (z_QI G S' M r) ([.ref (gq G (o1))] : List Value).toArray s 0 0 (z_Aq (gq G))) (F0 m 10 ls []) := by
    intro k10 hk10 v1 v3 v4 S H locs ls hf hP hS hl
    unfold b_X0_sumOf_10 at hf
    refine lv_iload hx hb dX0_sumOf_10 (lv_at hl 3 rfl) ?_
    refine lv_iload_n hx hb dX0_sumOf_12 rfl (lv_at hl 2 rfl) ?_
    refine lv_icmp_ge (tgt := 33) hx hb dX0_sumOf_13 (by decide) (fun hc1 => ?_) (fun hc1 => ?_)
    · replace hf := z_ifp hf hc1
      refine lv_iload_n hx hb dX0_sumOf_33 rfl (lv_at hl 0 rfl) ?_
      exact x_reti hx hb hr hlk hf hP hS dX0_sumOf_34
    · replace hf := z_ifn hf hc1
      refine lv_aload_n hx hb dX0_sumOf_16 rfl (lv_at hl 1 rfl) ?_
      refine lv_iload hx hb dX0_sumOf_17 (lv_at hl 3 rfl) ?_
      obtain ⟨hg2, hf⟩ := z_gd_some hf
      refine x_ald (o := o1) (i := v4) E hK hP hko1 hxo1 hg2 dX0_sumOf_19 ?_
      refine lv_istore (lv' := [(5, .int ((S o1 (v4 : Int32).toNatClampNeg))), (1, .int (v1)), (2, .ref (gq G (o1))), (3, .int (v3)), (4, .int (v4))]) hx hb dX0_sumOf_20 hl (by decide) rfl (fun ls hl => ?_)
      refine lv_iload_n hx hb dX0_sumOf_22 rfl (lv_at hl 1 rfl) ?_
      refine lv_iload hx hb dX0_sumOf_23 (lv_at hl 0 rfl) ?_
      refine lv_iadd hx hb dX0_sumOf_25 ?_
      refine lv_istore_n (lv' := [(1, .int ((v1 + (S o1 (v4 : Int32).toNatClampNeg)))), (5, .int ((S o1 (v4 : Int32).toNatClampNeg))), (2, .ref (gq G (o1))), (3, .int (v3)), (4, .int (v4))]) hx hb dX0_sumOf_26 rfl hl (by decide) rfl (fun ls hl => ?_)
      refine lv_iinc (v := (v4 + 1)) (lv' := [(4, .int ((v4 + 1))), (1, .int ((v1 + (S o1 (v4 : Int32).toNatClampNeg)))), (5, .int ((S o1 (v4 : Int32).toNatClampNeg))), (2, .ref (gq G (o1))), (3, .int (v3))]) hx hb dX0_sumOf_27 hl (k := 4) rfl rfl (by decide) rfl (fun ls hl => ?_)
      refine lv_goto (tgt := 10) hx hb dX0_sumOf_30 (by decide) ?_
      exact hk10 ((v1 + (S o1 (v4 : Int32).toNatClampNeg))) (v3) ((v4 + 1)) S _ _ _ hf hP hS (lv_sub hl [1, 3, 4, 0] rfl)
  have hL10 : ∀ (n : Nat), ∀ (v1 : Int32) (v3 : Int32) (v4 : Int32) (S : St) (H : Heap) (locs : List Loc) (ls : Array Slot), f_X0_sumOf_10 N o1 n v1 v3 v4 S = some (r, S') → z_P G S M H → z_S G s.heap H locs → lv_has ls 6 [(1, .int (v1)), (2, .ref (gq G (o1))), (3, .int (v3)), (4, .int (v4))] → W p l e (z_rm 0 0) s m ([.ref (gq G (o1))] : List Value).toArray below meth c H locs 0 0 (MQ below (z_QI G S' M r) ([.ref (gq G (o1))] : List Value).toArray s 0 0 (z_Aq (gq G))) (F0 m 10 ls []) := by
    intro  n
    induction n with
    | zero => intro _ _ _ _ _ _ _ hf; cases hf
    | succ n ih => exact hB10  _  ih
  have hl : lv_has ls 6 [(0, .ref (gq G (o1)))] := hl
  unfold f_X0_sumOf at hf
  refine lv_iconst (v := 0) hx hb dX0_sumOf_0 (by decide) ?_
  refine lv_istore_n (lv' := [(1, .int (0)), (0, .ref (gq G (o1)))]) hx hb dX0_sumOf_1 rfl hl (by decide) rfl (fun ls hl => ?_)
  refine lv_aload_n hx hb dX0_sumOf_2 rfl (lv_at hl 1 rfl) ?_
  refine lv_astore_n (lv' := [(2, .ref (gq G (o1))), (1, .int (0)), (0, .ref (gq G (o1)))]) hx hb dX0_sumOf_3 rfl hl (by decide) rfl (fun ls hl => ?_)
  refine lv_aload_n hx hb dX0_sumOf_4 rfl (lv_at hl 0 rfl) ?_
  refine z_aln (o := o1) E hK hP hko1 dX0_sumOf_5 ?_
  refine lv_istore_n (lv' := [(3, .int ((nI (z_ln o1)))), (2, .ref (gq G (o1))), (1, .int (0)), (0, .ref (gq G (o1)))]) hx hb dX0_sumOf_6 rfl hl (by decide) rfl (fun ls hl => ?_)
  refine lv_iconst (v := 0) hx hb dX0_sumOf_7 (by decide) ?_
  refine lv_istore (lv' := [(4, .int (0)), (3, .int ((nI (z_ln o1)))), (2, .ref (gq G (o1))), (1, .int (0)), (0, .ref (gq G (o1)))]) hx hb dX0_sumOf_8 hl (by decide) rfl (fun ls hl => ?_)
  exact hL10 N (0) ((nI (z_ln o1))) (0) S _ _ _ hf hP hS (lv_sub hl [3, 2, 1, 0] rfl)
theorem cs_X0_sumOf : z_cs yX0_sumOf cX0_sumOf 6 (some .int) 1 := ⟨tw919, tw920, tw4, by decide +kernel⟩
def f_X0_allHits (N : Nat) (o0 : Nat) (S : St) : Option (Int32 × St) := z_bd (f_X0_sumOf N ((z_rfS o0 1)) S) fun r2 S1 => some (r2, S1)
set_option maxHeartbeats 4000000 in
set_option maxRecDepth 100000 in
theorem c_X0_allHits {l : Launch} {G : Cx} {M S S' : St} {N : Nat} {o0 : Nat} {r : Int32} (hq : z_inj (gq G)) (hko0 : z_kd o0 = 0) (hxo0 : o0 < 65) (hf : f_X0_allHits N o0 S = some (r, S')) : z_Ct l yX0_allHits cX0_allHits 1 (some .int) 1 25 G S M [.ref (gq G (o0))] (z_QI G S' M r) := by
  refine z_start (by decide +kernel) (Nat.le_of_ble_eq_true rfl) ?_
  intro p e s m below meth c ls E hr hlk hK hP hS hl
  have E : CallFix p m c cX0_allHits 1 s _ lw_good RX0 := E
  have hx := E.1
  have hb := E.2.1
  have hown := E.2.2.2.1
  have hts := E.2.2.2.2
  have hl : lv_has ls 1 [(0, .ref (gq G (o0)))] := hl
  unfold f_X0_allHits at hf
  refine lv_aload_n hx hb dX0_allHits_0 rfl (lv_at hl 0 rfl) ?_
  refine z_getR (C := RX0) (T := TX0) (N := 3) (ci := 0) (k := 1) (o := o0) (t := (z_rfS o0 1)) E hK hP iwX0 rfl rfl (by decide) (by decide) rfl hko0 (z_rf_S (by rw [hko0]; decide)) tw74 dX0_allHits_1 ?_
  obtain ⟨r2, S1, hz3, hf⟩ := z_bd_some hf
  refine z_ci (z_runS E hK hP hS (c_X0_sumOf hq (z_rk0_1 hko0) (z_rl0_1 hko0) hz3) cs_X0_sumOf tw918 rfl ⟨Nat.le_of_ble_eq_true rfl, Nat.le_of_ble_eq_true rfl⟩ ⟨Nat.le_refl 0, Nat.le_refl 0⟩ hl.1 (Nat.le_of_ble_eq_true rfl) rfl dX0_allHits_4) hS (fun H locs hP hS => ?_)
  exact x_reti hx hb hr hlk hf hP hS dX0_allHits_7
theorem cv_X0_allHits : z_cv yX0_allHits cX0_allHits 1 (some .int) RX0 0 := ⟨⟨tw915, tw916⟩, tw917, tw4, by decide +kernel⟩
def f_X0_allMisses (N : Nat) (o0 : Nat) (S : St) : Option (Int32 × St) := z_bd (f_X0_sumOf N ((z_rfS o0 2)) S) fun r2 S1 => some (r2, S1)
set_option maxHeartbeats 4000000 in
set_option maxRecDepth 100000 in
theorem c_X0_allMisses {l : Launch} {G : Cx} {M S S' : St} {N : Nat} {o0 : Nat} {r : Int32} (hq : z_inj (gq G)) (hko0 : z_kd o0 = 0) (hxo0 : o0 < 65) (hf : f_X0_allMisses N o0 S = some (r, S')) : z_Ct l yX0_allMisses cX0_allMisses 1 (some .int) 1 25 G S M [.ref (gq G (o0))] (z_QI G S' M r) := by
  refine z_start (by decide +kernel) (Nat.le_of_ble_eq_true rfl) ?_
  intro p e s m below meth c ls E hr hlk hK hP hS hl
  have E : CallFix p m c cX0_allMisses 1 s _ lw_good RX0 := E
  have hx := E.1
  have hb := E.2.1
  have hown := E.2.2.2.1
  have hts := E.2.2.2.2
  have hl : lv_has ls 1 [(0, .ref (gq G (o0)))] := hl
  unfold f_X0_allMisses at hf
  refine lv_aload_n hx hb dX0_allMisses_0 rfl (lv_at hl 0 rfl) ?_
  refine z_getR (C := RX0) (T := TX0) (N := 3) (ci := 0) (k := 2) (o := o0) (t := (z_rfS o0 2)) E hK hP iwX0 rfl rfl (by decide) (by decide) rfl hko0 (z_rf_S (by rw [hko0]; decide)) tw75 dX0_allMisses_1 ?_
  obtain ⟨r2, S1, hz3, hf⟩ := z_bd_some hf
  refine z_ci (z_runS E hK hP hS (c_X0_sumOf hq (z_rk0_2 hko0) (z_rl0_2 hko0) hz3) cs_X0_sumOf tw918 rfl ⟨Nat.le_of_ble_eq_true rfl, Nat.le_of_ble_eq_true rfl⟩ ⟨Nat.le_refl 0, Nat.le_refl 0⟩ hl.1 (Nat.le_of_ble_eq_true rfl) rfl dX0_allMisses_4) hS (fun H locs hP hS => ?_)
  exact x_reti hx hb hr hlk hf hP hS dX0_allMisses_7
theorem cv_X0_allMisses : z_cv yX0_allMisses cX0_allMisses 1 (some .int) RX0 0 := ⟨⟨tw922, tw923⟩, tw924, tw4, by decide +kernel⟩
def b_X0_forget_2 (N : Nat) (o0 : Nat) (k2 : Int32 → St → Option (St)) (v1 : Int32) (S : St) : Option (St) := if 10 ≤ v1 then (some S) else (z_bv (f_X9_put N ((z_rfS o0 0)) (v1) (0) S) fun S2 => z_bv (f_X9_put N ((z_rfS o0 1)) (v1) (0) S2) fun S4 => z_bv (f_X9_put N ((z_rfS o0 2)) (v1) (0) S4) fun S6 => k2 ((v1 + 1)) S6)
def f_X0_forget_2 (N : Nat) (o0 : Nat) : Nat → Int32 → St → Option (St)
  | 0 => fun _ _ => none
  | n + 1 => b_X0_forget_2 N o0 (f_X0_forget_2 N o0 n)
def f_X0_forget (N : Nat) (o0 : Nat) (S : St) : Option (St) := f_X0_forget_2 N o0 N (0) S
set_option maxHeartbeats 4000000 in
set_option maxRecDepth 100000 in
theorem c_X0_forget {l : Launch} {G : Cx} {M S S' : St} {N : Nat} {o0 : Nat} (hq : z_inj (gq G)) (hko0 : z_kd o0 = 0) (hxo0 : o0 < 65) (hf : f_X0_forget N o0 S = some S') : z_Ct l yX0_forget cX0_forget 2 none 1 22 G S M [.ref (gq G (o0))] (z_QV G S' M) := by
  refine z_start (by decide +kernel) (Nat.le_of_ble_eq_true rfl) ?_
  intro p e s m below meth c ls E hr hlk hK hP hS hl
  have E : CallFix p m c cX0_forget 2 s _ lw_good RX0 := E
  have hx := E.1
  have hb := E.2.1
  have hown := E.2.2.2.1
  have hts := E.2.2.2.2
  have hB2 : ∀ (k2 : Int32 → St → Option (St)) (hk2 : ∀ (v1 : Int32) (S : St) (H : Heap) (locs : List Loc) (ls : Array Slot), k2 v1 S = some S' → z_P G S M H → z_S G s.heap H locs → lv_has ls 2 [(0, .ref (gq G (o0))), (1, .int (v1))] → W p l e (z_rm 1 22) s m ([.ref (gq G (o0))] : List Value).toArray below meth c H locs 0 0 (MQ below (z_QV G S' M) ([.ref (gq G (o0))] : List Value).toArray s 0 0 (z_Aq (gq G))) (F0 m 2 ls [])), ∀ (v1 : Int32) (S : St) (H : Heap) (locs : List Loc) (ls : Array Slot), b_X0_forget_2 N o0 k2 v1 S = some S' → z_P G S M H → z_S G s.heap H locs → lv_has ls 2 [(0, .ref (gq G (o0))), (1, .int (v1))] → W p l e (z_rm 1 22) s m ([.ref (gq G (o0))] : List Value).toArray below meth c H locs 0 0 (MQ below (z_QV G S' M) ([.ref (gq G (o0))] : List Value).toArray s 0 0 (z_Aq (gq G))) (F0 m 2 ls []) := by
    intro k2 hk2 v1 S H locs ls hf hP hS hl
    unfold b_X0_forget_2 at hf
    refine lv_iload_n hx hb dX0_forget_2 rfl (lv_at hl 1 rfl) ?_
    refine lv_bipush (v := 10) hx hb dX0_forget_3 (by decide) ?_
    refine lv_icmp_ge (tgt := 41) hx hb dX0_forget_5 (by decide) (fun hc1 => ?_) (fun hc1 => ?_)
    · replace hf := z_ifp hf hc1
      exact x_retv hx hb hr hlk hf hP hS dX0_forget_41
    · replace hf := z_ifn hf hc1
      refine lv_aload_n hx hb dX0_forget_8 rfl (lv_at hl 0 rfl) ?_
      refine z_getR (C := RX0) (T := TX0) (N := 3) (ci := 0) (k := 0) (o := o0) (t := (z_rfS o0 0)) E hK hP iwX0 rfl rfl (by decide) (by decide) rfl hko0 (z_rf_S (by rw [hko0]; decide)) tw73 dX0_forget_9 ?_
      refine lv_iload_n hx hb dX0_forget_12 rfl (lv_at hl 1 rfl) ?_
      refine lv_iconst (v := 0) hx hb dX0_forget_13 (by decide) ?_
      obtain ⟨S2, hz3, hf⟩ := z_bv_some hf
      refine z_cvo (z_runSN (host := RX9) E hK hP hS (c_X9_put hq (z_rk0_0 hko0) (z_rl0_0 hko0) hz3) cs_X9_put (by decide +kernel) rfl ⟨Nat.le_of_ble_eq_true rfl, Nat.le_of_ble_eq_true rfl⟩ ⟨Nat.le_refl 0, Nat.le_refl 0⟩ hl.1 (Nat.le_of_ble_eq_true rfl) rfl dX0_forget_14) hS (fun H locs hP hS => ?_)
      refine lv_aload_n hx hb dX0_forget_17 rfl (lv_at hl 0 rfl) ?_
      refine z_getR (C := RX0) (T := TX0) (N := 3) (ci := 0) (k := 1) (o := o0) (t := (z_rfS o0 1)) E hK hP iwX0 rfl rfl (by decide) (by decide) rfl hko0 (z_rf_S (by rw [hko0]; decide)) tw74 dX0_forget_18 ?_
      refine lv_iload_n hx hb dX0_forget_21 rfl (lv_at hl 1 rfl) ?_
      refine lv_iconst (v := 0) hx hb dX0_forget_22 (by decide) ?_
      obtain ⟨S4, hz5, hf⟩ := z_bv_some hf
      refine z_cvo (z_runSN (host := RX9) E hK hP hS (c_X9_put hq (z_rk0_1 hko0) (z_rl0_1 hko0) hz5) cs_X9_put (by decide +kernel) rfl ⟨Nat.le_of_ble_eq_true rfl, Nat.le_of_ble_eq_true rfl⟩ ⟨Nat.le_refl 0, Nat.le_refl 0⟩ hl.1 (Nat.le_of_ble_eq_true rfl) rfl dX0_forget_23) hS (fun H locs hP hS => ?_)
      refine lv_aload_n hx hb dX0_forget_26 rfl (lv_at hl 0 rfl) ?_
      refine z_getR (C := RX0) (T := TX0) (N := 3) (ci := 0) (k := 2) (o := o0) (t := (z_rfS o0 2)) E hK hP iwX0 rfl rfl (by decide) (by decide) rfl hko0 (z_rf_S (by rw [hko0]; decide)) tw75 dX0_forget_27 ?_
      refine lv_iload_n hx hb dX0_forget_30 rfl (lv_at hl 1 rfl) ?_
      refine lv_iconst (v := 0) hx hb dX0_forget_31 (by decide) ?_
      obtain ⟨S6, hz7, hf⟩ := z_bv_some hf
      refine z_cvo (z_runSN (host := RX9) E hK hP hS (c_X9_put hq (z_rk0_2 hko0) (z_rl0_2 hko0) hz7) cs_X9_put (by decide +kernel) rfl ⟨Nat.le_of_ble_eq_true rfl, Nat.le_of_ble_eq_true rfl⟩ ⟨Nat.le_refl 0, Nat.le_refl 0⟩ hl.1 (Nat.le_of_ble_eq_true rfl) rfl dX0_forget_32) hS (fun H locs hP hS => ?_)
      refine lv_iinc (v := (v1 + 1)) (lv' := [(1, .int ((v1 + 1))), (0, .ref (gq G (o0)))]) hx hb dX0_forget_35 hl (k := 1) rfl rfl (by decide) rfl (fun ls hl => ?_)
      refine lv_goto (tgt := 2) hx hb dX0_forget_38 (by decide) ?_
      exact hk2 ((v1 + 1)) S6 _ _ _ hf hP hS (lv_sub hl [1, 0] rfl)
  have hL2 : ∀ (n : Nat), ∀ (v1 : Int32) (S : St) (H : Heap) (locs : List Loc) (ls : Array Slot), f_X0_forget_2 N o0 n v1 S = some S' → z_P G S M H → z_S G s.heap H locs → lv_has ls 2 [(0, .ref (gq G (o0))), (1, .int (v1))] → W p l e (z_rm 1 22) s m ([.ref (gq G (o0))] : List Value).toArray below meth c H locs 0 0 (MQ below (z_QV G S' M) ([.ref (gq G (o0))] : List Value).toArray s 0 0 (z_Aq (gq G))) (F0 m 2 ls []) := by
    intro  n
    induction n with
    | zero => intro _ _ _ _ _ hf; cases hf
    | succ n ih => exact hB2  _  ih
  have hl : lv_has ls 2 [(0, .ref (gq G (o0)))] := hl
  unfold f_X0_forget at hf
  refine lv_iconst (v := 0) hx hb dX0_forget_0 (by decide) ?_
  refine lv_istore_n (lv' := [(1, .int (0)), (0, .ref (gq G (o0)))]) hx hb dX0_forget_1 rfl hl (by decide) rfl (fun ls hl => ?_)
  exact hL2 N (0) S _ _ _ hf hP hS (lv_sub hl [1, 0] rfl)
theorem cv_X0_forget : z_cv yX0_forget cX0_forget 2 none RX0 0 := ⟨⟨tw480, tw481⟩, tw482, tw4, by decide +kernel⟩
def f_X9_copyRow (N : Nat) (o1 : Nat) (o2 : Nat) (S : St) : Option (St) := z_gd (¬ (if (nI (z_ln o2)) < (nI (z_ln o1)) then (nI (z_ln o2)) else (nI (z_ln o1))) < 0 ∧ ((if (nI (z_ln o2)) < (nI (z_ln o1)) then (nI (z_ln o2)) else (nI (z_ln o1))) : Int32).toNatClampNeg ≤ z_ln o1 ∧ ((if (nI (z_ln o2)) < (nI (z_ln o1)) then (nI (z_ln o2)) else (nI (z_ln o1))) : Int32).toNatClampNeg ≤ z_ln o2) (z_lt (z_cp S o1 o2 ((if (nI (z_ln o2)) < (nI (z_ln o1)) then (nI (z_ln o2)) else (nI (z_ln o1))) : Int32).toNatClampNeg) fun S2 => some S2)
set_option maxHeartbeats 4000000 in
set_option maxRecDepth 100000 in
theorem c_X9_copyRow {l : Launch} {G : Cx} {M S S' : St} {N : Nat} {o1 : Nat} {o2 : Nat} (hq : z_inj (gq G)) (hko1 : z_kd o1 = 11) (hxo1 : o1 < 65) (hko2 : z_kd o2 = 11) (hxo2 : o2 < 65) (hf : f_X9_copyRow N o1 o2 S = some S') : z_Ct l yX9_copyRow cX9_copyRow 2 none 1 21 G S M [.ref (gq G (o1)), .ref (gq G (o2))] (z_QV G S' M) := by
  refine z_start (by decide +kernel) (Nat.le_of_ble_eq_true rfl) ?_
  intro p e s m below meth c ls E hr hlk hK hP hS hl
  have E : CallFix p m c cX9_copyRow 2 s _ lw_good RX9 := E
  have hx := E.1
  have hb := E.2.1
  have hown := E.2.2.2.1
  have hts := E.2.2.2.2
  have hl : lv_has ls 2 [(0, .ref (gq G (o1))), (1, .ref (gq G (o2)))] := hl
  unfold f_X9_copyRow at hf
  refine lv_aload_n hx hb dX9_copyRow_0 rfl (lv_at hl 0 rfl) ?_
  refine lv_iconst (v := 0) hx hb dX9_copyRow_1 (by decide) ?_
  refine lv_aload_n hx hb dX9_copyRow_2 rfl (lv_at hl 1 rfl) ?_
  refine lv_iconst (v := 0) hx hb dX9_copyRow_3 (by decide) ?_
  refine lv_aload_n hx hb dX9_copyRow_4 rfl (lv_at hl 0 rfl) ?_
  refine z_aln (o := o1) E hK hP hko1 dX9_copyRow_5 ?_
  refine lv_aload_n hx hb dX9_copyRow_6 rfl (lv_at hl 1 rfl) ?_
  refine z_aln (o := o2) E hK hP hko2 dX9_copyRow_7 ?_
  refine z_mmin E hl.1 tw523 (by decide) (Nat.le_of_ble_eq_true rfl) ⟨Nat.le_refl 0, Nat.le_refl 0⟩ dX9_copyRow_8 ?_
  obtain ⟨hg1, hf⟩ := z_gd_some hf
  refine x_cpy (a := o1) (b := o2) E hl.1 hK hq hP hS hko1 hko2 hxo1 hxo2 hg1 tw526 tw528 tw527 tw17 (by decide) (by decide) dX9_copyRow_11 (fun H locs hP hS => ?_)
  obtain ⟨S2, hf, hP⟩ := z_ltX hf hP
  exact x_retv hx hb hr hlk hf hP hS dX9_copyRow_14
theorem cs_X9_copyRow : z_cs yX9_copyRow cX9_copyRow 2 none 2 := ⟨tw521, tw522, tw1, by decide +kernel⟩
def f_X0_copyFrom (N : Nat) (o0 : Nat) (o1 : Nat) (S : St) : Option (St) := z_bv (f_X9_copyRow N ((z_rfS o1 0)) ((z_rfS o0 0)) S) fun S1 => z_bv (f_X9_copyRow N ((z_rfS o1 1)) ((z_rfS o0 1)) S1) fun S3 => z_bv (f_X9_copyRow N ((z_rfS o1 2)) ((z_rfS o0 2)) S3) fun S5 => some S5
set_option maxHeartbeats 4000000 in
set_option maxRecDepth 100000 in
theorem c_X0_copyFrom {l : Launch} {G : Cx} {M S S' : St} {N : Nat} {o0 : Nat} {o1 : Nat} (hq : z_inj (gq G)) (hko0 : z_kd o0 = 0) (hxo0 : o0 < 65) (hko1 : z_kd o1 = 0) (hxo1 : o1 < 65) (hf : f_X0_copyFrom N o0 o1 S = some S') : z_Ct l yX0_copyFrom cX0_copyFrom 2 none 2 42 G S M [.ref (gq G (o0)), .ref (gq G (o1))] (z_QV G S' M) := by
  refine z_start (by decide +kernel) (Nat.le_of_ble_eq_true rfl) ?_
  intro p e s m below meth c ls E hr hlk hK hP hS hl
  have E : CallFix p m c cX0_copyFrom 2 s _ lw_good RX0 := E
  have hx := E.1
  have hb := E.2.1
  have hown := E.2.2.2.1
  have hts := E.2.2.2.2
  have hl : lv_has ls 2 [(0, .ref (gq G (o0))), (1, .ref (gq G (o1)))] := hl
  unfold f_X0_copyFrom at hf
  refine lv_aload_n hx hb dX0_copyFrom_0 rfl (lv_at hl 1 rfl) ?_
  refine z_getR (C := RX0) (T := TX0) (N := 3) (ci := 0) (k := 0) (o := o1) (t := (z_rfS o1 0)) E hK hP iwX0 rfl rfl (by decide) (by decide) rfl hko1 (z_rf_S (by rw [hko1]; decide)) tw73 dX0_copyFrom_1 ?_
  refine lv_aload_n hx hb dX0_copyFrom_4 rfl (lv_at hl 0 rfl) ?_
  refine z_getR (C := RX0) (T := TX0) (N := 3) (ci := 0) (k := 0) (o := o0) (t := (z_rfS o0 0)) E hK hP iwX0 rfl rfl (by decide) (by decide) rfl hko0 (z_rf_S (by rw [hko0]; decide)) tw73 dX0_copyFrom_5 ?_
  obtain ⟨S1, hz2, hf⟩ := z_bv_some hf
  refine z_cvo (z_runSN (host := RX9) E hK hP hS (c_X9_copyRow hq (z_rk0_0 hko1) (z_rl0_0 hko1) (z_rk0_0 hko0) (z_rl0_0 hko0) hz2) cs_X9_copyRow (by decide +kernel) rfl ⟨Nat.le_of_ble_eq_true rfl, Nat.le_of_ble_eq_true rfl⟩ ⟨Nat.le_refl 0, Nat.le_refl 0⟩ hl.1 (Nat.le_of_ble_eq_true rfl) rfl dX0_copyFrom_8) hS (fun H locs hP hS => ?_)
  refine lv_aload_n hx hb dX0_copyFrom_11 rfl (lv_at hl 1 rfl) ?_
  refine z_getR (C := RX0) (T := TX0) (N := 3) (ci := 0) (k := 1) (o := o1) (t := (z_rfS o1 1)) E hK hP iwX0 rfl rfl (by decide) (by decide) rfl hko1 (z_rf_S (by rw [hko1]; decide)) tw74 dX0_copyFrom_12 ?_
  refine lv_aload_n hx hb dX0_copyFrom_15 rfl (lv_at hl 0 rfl) ?_
  refine z_getR (C := RX0) (T := TX0) (N := 3) (ci := 0) (k := 1) (o := o0) (t := (z_rfS o0 1)) E hK hP iwX0 rfl rfl (by decide) (by decide) rfl hko0 (z_rf_S (by rw [hko0]; decide)) tw74 dX0_copyFrom_16 ?_
  obtain ⟨S3, hz4, hf⟩ := z_bv_some hf
  refine z_cvo (z_runSN (host := RX9) E hK hP hS (c_X9_copyRow hq (z_rk0_1 hko1) (z_rl0_1 hko1) (z_rk0_1 hko0) (z_rl0_1 hko0) hz4) cs_X9_copyRow (by decide +kernel) rfl ⟨Nat.le_of_ble_eq_true rfl, Nat.le_of_ble_eq_true rfl⟩ ⟨Nat.le_refl 0, Nat.le_refl 0⟩ hl.1 (Nat.le_of_ble_eq_true rfl) rfl dX0_copyFrom_19) hS (fun H locs hP hS => ?_)
  refine lv_aload_n hx hb dX0_copyFrom_22 rfl (lv_at hl 1 rfl) ?_
  refine z_getR (C := RX0) (T := TX0) (N := 3) (ci := 0) (k := 2) (o := o1) (t := (z_rfS o1 2)) E hK hP iwX0 rfl rfl (by decide) (by decide) rfl hko1 (z_rf_S (by rw [hko1]; decide)) tw75 dX0_copyFrom_23 ?_
  refine lv_aload_n hx hb dX0_copyFrom_26 rfl (lv_at hl 0 rfl) ?_
  refine z_getR (C := RX0) (T := TX0) (N := 3) (ci := 0) (k := 2) (o := o0) (t := (z_rfS o0 2)) E hK hP iwX0 rfl rfl (by decide) (by decide) rfl hko0 (z_rf_S (by rw [hko0]; decide)) tw75 dX0_copyFrom_27 ?_
  obtain ⟨S5, hz6, hf⟩ := z_bv_some hf
  refine z_cvo (z_runSN (host := RX9) E hK hP hS (c_X9_copyRow hq (z_rk0_2 hko1) (z_rl0_2 hko1) (z_rk0_2 hko0) (z_rl0_2 hko0) hz6) cs_X9_copyRow (by decide +kernel) rfl ⟨Nat.le_of_ble_eq_true rfl, Nat.le_of_ble_eq_true rfl⟩ ⟨Nat.le_refl 0, Nat.le_refl 0⟩ hl.1 (Nat.le_of_ble_eq_true rfl) rfl dX0_copyFrom_30) hS (fun H locs hP hS => ?_)
  exact x_retv hx hb hr hlk hf hP hS dX0_copyFrom_33
theorem cv_X0_copyFrom : z_cv yX0_copyFrom cX0_copyFrom 2 none RX0 1 := ⟨⟨tw530, tw531⟩, tw532, tw4, by decide +kernel⟩
def f_X1_forget (N : Nat) (S : St) : Option (St) := z_lt (z_wr S 36 3 0) fun S1 => some S1
set_option maxHeartbeats 4000000 in
set_option maxRecDepth 100000 in
theorem c_X1_forget {l : Launch} {G : Cx} {M S S' : St} {N : Nat} (hq : z_inj (gq G)) (hf : f_X1_forget N S = some S') : z_Ct l yX1_forget cX1_forget 1 none 0 0 G S M [.ref (gq G (36))] (z_QV G S' M) := by
  refine z_start (by decide +kernel) (Nat.le_of_ble_eq_true rfl) ?_
  intro p e s m below meth c ls E hr hlk hK hP hS hl
  have E : CallFix p m c cX1_forget 1 s _ lw_good RX1 := E
  have hx := E.1
  have hb := E.2.1
  have hown := E.2.2.2.1
  have hts := E.2.2.2.2
  have hl : lv_has ls 1 [(0, .ref (gq G (36)))] := hl
  unfold f_X1_forget at hf
  refine lv_aload_n hx hb dX1_forget_0 rfl (lv_at hl 0 rfl) ?_
  refine lv_iconst (v := 0) hx hb dX1_forget_1 (by decide) ?_
  refine x_putI (C := RX1) (T := TX1) (N := 4) (ci := 1) (k := 3) (o := 36) (v := 0) (ty := .int) E hK hq hP hS iwX1 tyX1 tyX1_ok nmX1 rfl rfl (by decide) (by decide) rfl rfl (by decide) rfl (tyX1_ok 3 (by decide)) ⟨rfl, rfl⟩ tw169 dX1_forget_2 (fun H locs hP hS => ?_)
  obtain ⟨S1, hf, hP⟩ := z_ltX hf hP
  exact x_retv hx hb hr hlk hf hP hS dX1_forget_5
theorem cv_X1_forget : z_cv yX1_forget cX1_forget 1 none RX1 0 := ⟨⟨tw543, tw544⟩, tw545, tw7, by decide +kernel⟩
def f_X1_add (N : Nat) (a1 : Int32) (a2 : Int32) (a3 : Int32) (S : St) : Option (Int32 × St) := z_bv (f_X9_put N (37) ((S 36 3)) (a1) S) fun S1 => z_bv (f_X9_put N (38) ((S1 36 3)) (a2) S1) fun S3 => z_bv (f_X9_put N (39) ((S3 36 3)) (a3) S3) fun S5 => z_lt (z_wr S5 36 3 ((S5 36 3) + 1)) fun S7 => some (((S7 36 3) - 1), S7)
set_option maxHeartbeats 4000000 in
set_option maxRecDepth 100000 in
theorem c_X1_add {l : Launch} {G : Cx} {M S S' : St} {N : Nat} {a1 : Int32} {a2 : Int32} {a3 : Int32} {r : Int32} (hq : z_inj (gq G)) (hf : f_X1_add N a1 a2 a3 S = some (r, S')) : z_Ct l yX1_add cX1_add 4 (some .int) 1 22 G S M [.ref (gq G (36)), .int (a1), .int (a2), .int (a3)] (z_QI G S' M r) := by
  refine z_start (by decide +kernel) (Nat.le_of_ble_eq_true rfl) ?_
  intro p e s m below meth c ls E hr hlk hK hP hS hl
  have E : CallFix p m c cX1_add 4 s _ lw_good RX1 := E
  have hx := E.1
  have hb := E.2.1
  have hown := E.2.2.2.1
  have hts := E.2.2.2.2
  have hl : lv_has ls 4 [(0, .ref (gq G (36))), (1, .int (a1)), (2, .int (a2)), (3, .int (a3))] := hl
  unfold f_X1_add at hf
  refine lv_aload_n hx hb dX1_add_0 rfl (lv_at hl 0 rfl) ?_
  refine z_getR (C := RX1) (T := TX1) (N := 4) (ci := 1) (k := 0) (o := 36) (t := 37) E hK hP iwX1 rfl rfl (by decide) (by decide) rfl rfl rfl tw166 dX1_add_1 ?_
  refine lv_aload_n hx hb dX1_add_4 rfl (lv_at hl 0 rfl) ?_
  refine x_getI (C := RX1) (T := TX1) (N := 4) (ci := 1) (k := 3) (o := 36) E hK hP iwX1 rfl rfl (by decide) (by decide) rfl rfl (by decide) tw169 dX1_add_5 ?_
  refine lv_iload_n hx hb dX1_add_8 rfl (lv_at hl 1 rfl) ?_
  obtain ⟨S1, hz2, hf⟩ := z_bv_some hf
  refine z_cvo (z_runSN (host := RX9) E hK hP hS (c_X9_put hq rfl (by decide) hz2) cs_X9_put (by decide +kernel) rfl ⟨Nat.le_of_ble_eq_true rfl, Nat.le_of_ble_eq_true rfl⟩ ⟨Nat.le_refl 0, Nat.le_refl 0⟩ hl.1 (Nat.le_of_ble_eq_true rfl) rfl dX1_add_9) hS (fun H locs hP hS => ?_)
  refine lv_aload_n hx hb dX1_add_12 rfl (lv_at hl 0 rfl) ?_
  refine z_getR (C := RX1) (T := TX1) (N := 4) (ci := 1) (k := 1) (o := 36) (t := 38) E hK hP iwX1 rfl rfl (by decide) (by decide) rfl rfl rfl tw167 dX1_add_13 ?_
  refine lv_aload_n hx hb dX1_add_16 rfl (lv_at hl 0 rfl) ?_
  refine x_getI (C := RX1) (T := TX1) (N := 4) (ci := 1) (k := 3) (o := 36) E hK hP iwX1 rfl rfl (by decide) (by decide) rfl rfl (by decide) tw169 dX1_add_17 ?_
  refine lv_iload_n hx hb dX1_add_20 rfl (lv_at hl 2 rfl) ?_
  obtain ⟨S3, hz4, hf⟩ := z_bv_some hf
  refine z_cvo (z_runSN (host := RX9) E hK hP hS (c_X9_put hq rfl (by decide) hz4) cs_X9_put (by decide +kernel) rfl ⟨Nat.le_of_ble_eq_true rfl, Nat.le_of_ble_eq_true rfl⟩ ⟨Nat.le_refl 0, Nat.le_refl 0⟩ hl.1 (Nat.le_of_ble_eq_true rfl) rfl dX1_add_21) hS (fun H locs hP hS => ?_)
  refine lv_aload_n hx hb dX1_add_24 rfl (lv_at hl 0 rfl) ?_
  refine z_getR (C := RX1) (T := TX1) (N := 4) (ci := 1) (k := 2) (o := 36) (t := 39) E hK hP iwX1 rfl rfl (by decide) (by decide) rfl rfl rfl tw168 dX1_add_25 ?_
  refine lv_aload_n hx hb dX1_add_28 rfl (lv_at hl 0 rfl) ?_
  refine x_getI (C := RX1) (T := TX1) (N := 4) (ci := 1) (k := 3) (o := 36) E hK hP iwX1 rfl rfl (by decide) (by decide) rfl rfl (by decide) tw169 dX1_add_29 ?_
  refine lv_iload_n hx hb dX1_add_32 rfl (lv_at hl 3 rfl) ?_
  obtain ⟨S5, hz6, hf⟩ := z_bv_some hf
  refine z_cvo (z_runSN (host := RX9) E hK hP hS (c_X9_put hq rfl (by decide) hz6) cs_X9_put (by decide +kernel) rfl ⟨Nat.le_of_ble_eq_true rfl, Nat.le_of_ble_eq_true rfl⟩ ⟨Nat.le_refl 0, Nat.le_refl 0⟩ hl.1 (Nat.le_of_ble_eq_true rfl) rfl dX1_add_33) hS (fun H locs hP hS => ?_)
  refine lv_aload_n hx hb dX1_add_36 rfl (lv_at hl 0 rfl) ?_
  refine lv_dup hx hb dX1_add_37 rfl ?_
  refine x_getI (C := RX1) (T := TX1) (N := 4) (ci := 1) (k := 3) (o := 36) E hK hP iwX1 rfl rfl (by decide) (by decide) rfl rfl (by decide) tw169 dX1_add_38 ?_
  refine lv_iconst (v := 1) hx hb dX1_add_41 (by decide) ?_
  refine lv_iadd hx hb dX1_add_42 ?_
  refine x_putI (C := RX1) (T := TX1) (N := 4) (ci := 1) (k := 3) (o := 36) (v := ((S5 36 3) + 1)) (ty := .int) E hK hq hP hS iwX1 tyX1 tyX1_ok nmX1 rfl rfl (by decide) (by decide) rfl rfl (by decide) rfl (tyX1_ok 3 (by decide)) ⟨rfl, rfl⟩ tw169 dX1_add_43 (fun H locs hP hS => ?_)
  obtain ⟨S7, hf, hP⟩ := z_ltX hf hP
  refine lv_aload_n hx hb dX1_add_46 rfl (lv_at hl 0 rfl) ?_
  refine x_getI (C := RX1) (T := TX1) (N := 4) (ci := 1) (k := 3) (o := 36) E hK hP iwX1 rfl rfl (by decide) (by decide) rfl rfl (by decide) tw169 dX1_add_47 ?_
  refine lv_iconst (v := 1) hx hb dX1_add_50 (by decide) ?_
  refine lv_isub hx hb dX1_add_51 ?_
  exact x_reti hx hb hr hlk hf hP hS dX1_add_52
theorem cv_X1_add : z_cv yX1_add cX1_add 4 (some .int) RX1 3 := ⟨⟨tw672, tw673⟩, tw674, tw7, by decide +kernel⟩
def b_X1_innermost_5 (N : Nat) (k5 : Int32 → Int32 → Int32 → St → Option (Int32 × St)) (v1 : Int32) (v3 : Int32) (v4 : Int32) (S : St) : Option (Int32 × St) := if 400 ≤ v4 then (some ((-1), S)) else (if v3 = (-1) then (some ((-1), S)) else (z_bd (f_X9_at N (37) (v3) S) fun r4 S3 => if r4 = v1 then (some (v3, S3)) else (z_bd (f_X9_at N (39) (v3) S3) fun r8 S7 => k5 (v1) (r8) ((v4 + 1)) S7)))
def f_X1_innermost_5 (N : Nat) : Nat → Int32 → Int32 → Int32 → St → Option (Int32 × St)
  | 0 => fun _ _ _ _ => none
  | n + 1 => b_X1_innermost_5 N (f_X1_innermost_5 N n)
def f_X1_innermost (N : Nat) (a1 : Int32) (a2 : Int32) (S : St) : Option (Int32 × St) := f_X1_innermost_5 N N (a1) (a2) (0) S
set_option maxHeartbeats 4000000 in
set_option maxRecDepth 100000 in
theorem c_X1_innermost {l : Launch} {G : Cx} {M S S' : St} {N : Nat} {a1 : Int32} {a2 : Int32} {r : Int32} (hq : z_inj (gq G)) (hf : f_X1_innermost N a1 a2 S = some (r, S')) : z_Ct l yX1_innermost cX1_innermost 5 (some .int) 1 21 G S M [.ref (gq G (36)), .int (a1), .int (a2)] (z_QI G S' M r) := by
  refine z_start (by decide +kernel) (Nat.le_of_ble_eq_true rfl) ?_
  intro p e s m below meth c ls E hr hlk hK hP hS hl
  have E : CallFix p m c cX1_innermost 5 s _ lw_good RX1 := E
  have hx := E.1
  have hb := E.2.1
  have hown := E.2.2.2.1
  have hts := E.2.2.2.2
  have hB5 : ∀ (k5 : Int32 → Int32 → Int32 → St → Option (Int32 × St)) (hk5 : ∀ (v1 : Int32) (v3 : Int32) (v4 : Int32) (S : St) (H : Heap) (locs : List Loc) (ls : Array Slot), k5 v1 v3 v4 S = some (r, S') → z_P G S M H → z_S G s.heap H locs → lv_has ls 5 [(0, .ref (gq G (36))), (1, .int (v1)), (3, .int (v3)), (4, .int (v4))] → W p l e (z_rm 1 21) s m ([.ref (gq G (36)), .int (a1), .int (a2)] : List Value).toArray below meth c H locs 0 0 (MQ below (z_QI G S' M r) ([.ref (gq G (36)), .int (a1), .int (a2)] : List Value).toArray s 0 0 (z_Aq (gq G))) (F0 m 5 ls [])), ∀ (v1 : Int32) (v3 : Int32) (v4 : Int32) (S : St) (H : Heap) (locs : List Loc) (ls : Array Slot), b_X1_innermost_5 N k5 v1 v3 v4 S = some (r, S') → z_P G S M H → z_S G s.heap H locs → lv_has ls 5 [(0, .ref (gq G (36))), (1, .int (v1)), (3, .int (v3)), (4, .int (v4))] → W p l e (z_rm 1 21) s m ([.ref (gq G (36)), .int (a1), .int (a2)] : List Value).toArray below meth c H locs 0 0 (MQ below (z_QI G S' M r) ([.ref (gq G (36)), .int (a1), .int (a2)] : List Value).toArray s 0 0 (z_Aq (gq G))) (F0 m 5 ls []) := by
    intro k5 hk5 v1 v3 v4 S H locs ls hf hP hS hl
    unfold b_X1_innermost_5 at hf
    refine lv_iload hx hb dX1_innermost_5 (lv_at hl 3 rfl) ?_
    refine lv_sipush (v := 400) hx hb dX1_innermost_7 (by decide) ?_
    refine lv_icmp_ge (tgt := 47) hx hb dX1_innermost_10 (by decide) (fun hc1 => ?_) (fun hc1 => ?_)
    · replace hf := z_ifp hf hc1
      refine lv_iconst (v := (-1)) hx hb dX1_innermost_47 (by decide) ?_
      exact x_reti hx hb hr hlk hf hP hS dX1_innermost_48
    · replace hf := z_ifn hf hc1
      refine lv_iload_n hx hb dX1_innermost_13 rfl (lv_at hl 2 rfl) ?_
      refine lv_iconst (v := (-1)) hx hb dX1_innermost_14 (by decide) ?_
      refine lv_icmp_eq (tgt := 47) hx hb dX1_innermost_15 (by decide) (fun hc2 => ?_) (fun hc2 => ?_)
      · replace hf := z_ifp hf hc2
        refine lv_iconst (v := (-1)) hx hb dX1_innermost_47 (by decide) ?_
        exact x_reti hx hb hr hlk hf hP hS dX1_innermost_48
      · replace hf := z_ifn hf hc2
        refine lv_aload_n hx hb dX1_innermost_18 rfl (lv_at hl 0 rfl) ?_
        refine z_getR (C := RX1) (T := TX1) (N := 4) (ci := 1) (k := 0) (o := 36) (t := 37) E hK hP iwX1 rfl rfl (by decide) (by decide) rfl rfl rfl tw166 dX1_innermost_19 ?_
        refine lv_iload_n hx hb dX1_innermost_22 rfl (lv_at hl 2 rfl) ?_
        obtain ⟨r4, S3, hz5, hf⟩ := z_bd_some hf
        refine z_ci (z_runSN (host := RX9) E hK hP hS (c_X9_at hq rfl (by decide) hz5) cs_X9_at (by decide +kernel) rfl ⟨Nat.le_of_ble_eq_true rfl, Nat.le_of_ble_eq_true rfl⟩ ⟨Nat.le_refl 0, Nat.le_refl 0⟩ hl.1 (Nat.le_of_ble_eq_true rfl) rfl dX1_innermost_23) hS (fun H locs hP hS => ?_)
        refine lv_iload_n hx hb dX1_innermost_26 rfl (lv_at hl 1 rfl) ?_
        refine lv_icmp_ne (tgt := 32) hx hb dX1_innermost_27 (by decide) (fun hc6 => ?_) (fun hc6 => ?_)
        · replace hf := z_ifn hf hc6
          refine lv_aload_n hx hb dX1_innermost_32 rfl (lv_at hl 0 rfl) ?_
          refine z_getR (C := RX1) (T := TX1) (N := 4) (ci := 1) (k := 2) (o := 36) (t := 39) E hK hP iwX1 rfl rfl (by decide) (by decide) rfl rfl rfl tw168 dX1_innermost_33 ?_
          refine lv_iload_n hx hb dX1_innermost_36 rfl (lv_at hl 2 rfl) ?_
          obtain ⟨r8, S7, hz9, hf⟩ := z_bd_some hf
          refine z_ci (z_runSN (host := RX9) E hK hP hS (c_X9_at hq rfl (by decide) hz9) cs_X9_at (by decide +kernel) rfl ⟨Nat.le_of_ble_eq_true rfl, Nat.le_of_ble_eq_true rfl⟩ ⟨Nat.le_refl 0, Nat.le_refl 0⟩ hl.1 (Nat.le_of_ble_eq_true rfl) rfl dX1_innermost_37) hS (fun H locs hP hS => ?_)
          refine lv_istore_n (lv' := [(3, .int (r8)), (0, .ref (gq G (36))), (1, .int (v1)), (4, .int (v4))]) hx hb dX1_innermost_40 rfl hl (by decide) rfl (fun ls hl => ?_)
          refine lv_iinc (v := (v4 + 1)) (lv' := [(4, .int ((v4 + 1))), (3, .int (r8)), (0, .ref (gq G (36))), (1, .int (v1))]) hx hb dX1_innermost_41 hl (k := 3) rfl rfl (by decide) rfl (fun ls hl => ?_)
          refine lv_goto (tgt := 5) hx hb dX1_innermost_44 (by decide) ?_
          exact hk5 (v1) (r8) ((v4 + 1)) S7 _ _ _ hf hP hS (lv_sub hl [2, 3, 1, 0] rfl)
        · replace hf := z_ifp hf hc6
          refine lv_iload_n hx hb dX1_innermost_30 rfl (lv_at hl 2 rfl) ?_
          exact x_reti hx hb hr hlk hf hP hS dX1_innermost_31
  have hL5 : ∀ (n : Nat), ∀ (v1 : Int32) (v3 : Int32) (v4 : Int32) (S : St) (H : Heap) (locs : List Loc) (ls : Array Slot), f_X1_innermost_5 N n v1 v3 v4 S = some (r, S') → z_P G S M H → z_S G s.heap H locs → lv_has ls 5 [(0, .ref (gq G (36))), (1, .int (v1)), (3, .int (v3)), (4, .int (v4))] → W p l e (z_rm 1 21) s m ([.ref (gq G (36)), .int (a1), .int (a2)] : List Value).toArray below meth c H locs 0 0 (MQ below (z_QI G S' M r) ([.ref (gq G (36)), .int (a1), .int (a2)] : List Value).toArray s 0 0 (z_Aq (gq G))) (F0 m 5 ls []) := by
    intro  n
    induction n with
    | zero => intro _ _ _ _ _ _ _ hf; cases hf
    | succ n ih => exact hB5  _  ih
  have hl : lv_has ls 5 [(0, .ref (gq G (36))), (1, .int (a1)), (2, .int (a2))] := hl
  unfold f_X1_innermost at hf
  refine lv_iload_n hx hb dX1_innermost_0 rfl (lv_at hl 2 rfl) ?_
  refine lv_istore_n (lv' := [(3, .int (a2)), (0, .ref (gq G (36))), (1, .int (a1)), (2, .int (a2))]) hx hb dX1_innermost_1 rfl hl (by decide) rfl (fun ls hl => ?_)
  refine lv_iconst (v := 0) hx hb dX1_innermost_2 (by decide) ?_
  refine lv_istore (lv' := [(4, .int (0)), (3, .int (a2)), (0, .ref (gq G (36))), (1, .int (a1)), (2, .int (a2))]) hx hb dX1_innermost_3 hl (by decide) rfl (fun ls hl => ?_)
  exact hL5 N (a1) (a2) (0) S _ _ _ hf hP hS (lv_sub hl [2, 3, 1, 0] rfl)
theorem cv_X1_innermost : z_cv yX1_innermost cX1_innermost 5 (some .int) RX1 2 := ⟨⟨tw587, tw588⟩, tw589, tw7, by decide +kernel⟩
def f_X1_valueIn (N : Nat) (a1 : Int32) (S : St) : Option (Int32 × St) := z_bd (f_X9_at N (38) (a1) S) fun r2 S1 => some (r2, S1)
set_option maxHeartbeats 4000000 in
set_option maxRecDepth 100000 in
theorem c_X1_valueIn {l : Launch} {G : Cx} {M S S' : St} {N : Nat} {a1 : Int32} {r : Int32} (hq : z_inj (gq G)) (hf : f_X1_valueIn N a1 S = some (r, S')) : z_Ct l yX1_valueIn cX1_valueIn 2 (some .int) 1 21 G S M [.ref (gq G (36)), .int (a1)] (z_QI G S' M r) := by
  refine z_start (by decide +kernel) (Nat.le_of_ble_eq_true rfl) ?_
  intro p e s m below meth c ls E hr hlk hK hP hS hl
  have E : CallFix p m c cX1_valueIn 2 s _ lw_good RX1 := E
  have hx := E.1
  have hb := E.2.1
  have hown := E.2.2.2.1
  have hts := E.2.2.2.2
  have hl : lv_has ls 2 [(0, .ref (gq G (36))), (1, .int (a1))] := hl
  unfold f_X1_valueIn at hf
  refine lv_aload_n hx hb dX1_valueIn_0 rfl (lv_at hl 0 rfl) ?_
  refine z_getR (C := RX1) (T := TX1) (N := 4) (ci := 1) (k := 1) (o := 36) (t := 38) E hK hP iwX1 rfl rfl (by decide) (by decide) rfl rfl rfl tw167 dX1_valueIn_1 ?_
  refine lv_iload_n hx hb dX1_valueIn_4 rfl (lv_at hl 1 rfl) ?_
  obtain ⟨r2, S1, hz3, hf⟩ := z_bd_some hf
  refine z_ci (z_runSN (host := RX9) E hK hP hS (c_X9_at hq rfl (by decide) hz3) cs_X9_at (by decide +kernel) rfl ⟨Nat.le_of_ble_eq_true rfl, Nat.le_of_ble_eq_true rfl⟩ ⟨Nat.le_refl 0, Nat.le_refl 0⟩ hl.1 (Nat.le_of_ble_eq_true rfl) rfl dX1_valueIn_5) hS (fun H locs hP hS => ?_)
  exact x_reti hx hb hr hlk hf hP hS dX1_valueIn_8
theorem cv_X1_valueIn : z_cv yX1_valueIn cX1_valueIn 2 (some .int) RX1 1 := ⟨⟨tw593, tw594⟩, tw595, tw7, by decide +kernel⟩
def f_X1_change (N : Nat) (a1 : Int32) (a2 : Int32) (S : St) : Option (St) := z_bv (f_X9_put N (38) (a1) (a2) S) fun S1 => some S1
set_option maxHeartbeats 4000000 in
set_option maxRecDepth 100000 in
theorem c_X1_change {l : Launch} {G : Cx} {M S S' : St} {N : Nat} {a1 : Int32} {a2 : Int32} (hq : z_inj (gq G)) (hf : f_X1_change N a1 a2 S = some S') : z_Ct l yX1_change cX1_change 3 none 1 22 G S M [.ref (gq G (36)), .int (a1), .int (a2)] (z_QV G S' M) := by
  refine z_start (by decide +kernel) (Nat.le_of_ble_eq_true rfl) ?_
  intro p e s m below meth c ls E hr hlk hK hP hS hl
  have E : CallFix p m c cX1_change 3 s _ lw_good RX1 := E
  have hx := E.1
  have hb := E.2.1
  have hown := E.2.2.2.1
  have hts := E.2.2.2.2
  have hl : lv_has ls 3 [(0, .ref (gq G (36))), (1, .int (a1)), (2, .int (a2))] := hl
  unfold f_X1_change at hf
  refine lv_aload_n hx hb dX1_change_0 rfl (lv_at hl 0 rfl) ?_
  refine z_getR (C := RX1) (T := TX1) (N := 4) (ci := 1) (k := 1) (o := 36) (t := 38) E hK hP iwX1 rfl rfl (by decide) (by decide) rfl rfl rfl tw167 dX1_change_1 ?_
  refine lv_iload_n hx hb dX1_change_4 rfl (lv_at hl 1 rfl) ?_
  refine lv_iload_n hx hb dX1_change_5 rfl (lv_at hl 2 rfl) ?_
  obtain ⟨S1, hz2, hf⟩ := z_bv_some hf
  refine z_cvo (z_runSN (host := RX9) E hK hP hS (c_X9_put hq rfl (by decide) hz2) cs_X9_put (by decide +kernel) rfl ⟨Nat.le_of_ble_eq_true rfl, Nat.le_of_ble_eq_true rfl⟩ ⟨Nat.le_refl 0, Nat.le_refl 0⟩ hl.1 (Nat.le_of_ble_eq_true rfl) rfl dX1_change_6) hS (fun H locs hP hS => ?_)
  exact x_retv hx hb hr hlk hf hP hS dX1_change_9
theorem cv_X1_change : z_cv yX1_change cX1_change 3 none RX1 2 := ⟨⟨tw705, tw706⟩, tw707, tw7, by decide +kernel⟩
def f_X2_tell (N : Nat) (o0 : Nat) (a1 : Int32) (S : St) : Option (Int32 × St) := if a1 = 0 then (some ((S o0 0), S)) else (if a1 = 1 then (some ((S o0 1), S)) else (if a1 = 2 then (some ((S o0 2), S)) else (if a1 = 3 then (some ((S o0 3), S)) else (if a1 = 4 then (some ((S o0 4), S)) else (some ((S o0 5), S))))))
set_option maxHeartbeats 4000000 in
set_option maxRecDepth 100000 in
theorem c_X2_tell {l : Launch} {G : Cx} {M S S' : St} {N : Nat} {o0 : Nat} {a1 : Int32} {r : Int32} (hq : z_inj (gq G)) (hko0 : z_kd o0 = 2) (hxo0 : o0 < 65) (hf : f_X2_tell N o0 a1 S = some (r, S')) : z_Ct l yX2_tell cX2_tell 2 (some .int) 0 0 G S M [.ref (gq G (o0)), .int (a1)] (z_QI G S' M r) := by
  refine z_start (by decide +kernel) (Nat.le_of_ble_eq_true rfl) ?_
  intro p e s m below meth c ls E hr hlk hK hP hS hl
  have E : CallFix p m c cX2_tell 2 s _ lw_good RX2 := E
  have hx := E.1
  have hb := E.2.1
  have hown := E.2.2.2.1
  have hts := E.2.2.2.2
  have hl : lv_has ls 2 [(0, .ref (gq G (o0))), (1, .int (a1))] := hl
  unfold f_X2_tell at hf
  refine lv_iload_n hx hb dX2_tell_0 rfl (lv_at hl 1 rfl) ?_
  by_cases hc1 : a1 = 0
  · replace hf := z_ifp hf hc1
    refine lv_tableIn (off := 35) (tgt := 36) hx hb dX2_tell_1 (by rw [hc1]; decide) (by rw [hc1]; decide) (by rw [hc1]; decide) (by decide) ?_
    refine lv_aload_n hx hb dX2_tell_36 rfl (lv_at hl 0 rfl) ?_
    refine x_getI (C := RX2) (T := TX2) (N := 7) (ci := 2) (k := 0) (o := o0) E hK hP iwX2 rfl rfl (by decide) (by decide) rfl hko0 hxo0 tw89 dX2_tell_37 ?_
    exact x_reti hx hb hr hlk hf hP hS dX2_tell_40
  · replace hf := z_ifn hf hc1
    by_cases hc2 : a1 = 1
    · replace hf := z_ifp hf hc2
      refine lv_tableIn (off := 40) (tgt := 41) hx hb dX2_tell_1 (by rw [hc2]; decide) (by rw [hc2]; decide) (by rw [hc2]; decide) (by decide) ?_
      refine lv_aload_n hx hb dX2_tell_41 rfl (lv_at hl 0 rfl) ?_
      refine x_getI (C := RX2) (T := TX2) (N := 7) (ci := 2) (k := 1) (o := o0) E hK hP iwX2 rfl rfl (by decide) (by decide) rfl hko0 hxo0 tw92 dX2_tell_42 ?_
      exact x_reti hx hb hr hlk hf hP hS dX2_tell_45
    · replace hf := z_ifn hf hc2
      by_cases hc3 : a1 = 2
      · replace hf := z_ifp hf hc3
        refine lv_tableIn (off := 45) (tgt := 46) hx hb dX2_tell_1 (by rw [hc3]; decide) (by rw [hc3]; decide) (by rw [hc3]; decide) (by decide) ?_
        refine lv_aload_n hx hb dX2_tell_46 rfl (lv_at hl 0 rfl) ?_
        refine x_getI (C := RX2) (T := TX2) (N := 7) (ci := 2) (k := 2) (o := o0) E hK hP iwX2 rfl rfl (by decide) (by decide) rfl hko0 hxo0 tw95 dX2_tell_47 ?_
        exact x_reti hx hb hr hlk hf hP hS dX2_tell_50
      · replace hf := z_ifn hf hc3
        by_cases hc4 : a1 = 3
        · replace hf := z_ifp hf hc4
          refine lv_tableIn (off := 50) (tgt := 51) hx hb dX2_tell_1 (by rw [hc4]; decide) (by rw [hc4]; decide) (by rw [hc4]; decide) (by decide) ?_
          refine lv_aload_n hx hb dX2_tell_51 rfl (lv_at hl 0 rfl) ?_
          refine x_getI (C := RX2) (T := TX2) (N := 7) (ci := 2) (k := 3) (o := o0) E hK hP iwX2 rfl rfl (by decide) (by decide) rfl hko0 hxo0 tw98 dX2_tell_52 ?_
          exact x_reti hx hb hr hlk hf hP hS dX2_tell_55
        · replace hf := z_ifn hf hc4
          by_cases hc5 : a1 = 4
          · replace hf := z_ifp hf hc5
            refine lv_tableIn (off := 55) (tgt := 56) hx hb dX2_tell_1 (by rw [hc5]; decide) (by rw [hc5]; decide) (by rw [hc5]; decide) (by decide) ?_
            refine lv_aload_n hx hb dX2_tell_56 rfl (lv_at hl 0 rfl) ?_
            refine x_getI (C := RX2) (T := TX2) (N := 7) (ci := 2) (k := 4) (o := o0) E hK hP iwX2 rfl rfl (by decide) (by decide) rfl hko0 hxo0 tw100 dX2_tell_57 ?_
            exact x_reti hx hb hr hlk hf hP hS dX2_tell_60
          · replace hf := z_ifn hf hc5
            refine lv_tableOut (tgt := 61) hx hb dX2_tell_1 (by have := lv_neT (a := 0) hc1 (by decide); have := lv_neT (a := 1) hc2 (by decide); have := lv_neT (a := 2) hc3 (by decide); have := lv_neT (a := 3) hc4 (by decide); have := lv_neT (a := 4) hc5 (by decide); omega) (by decide) ?_
            refine lv_aload_n hx hb dX2_tell_61 rfl (lv_at hl 0 rfl) ?_
            refine x_getI (C := RX2) (T := TX2) (N := 7) (ci := 2) (k := 5) (o := o0) E hK hP iwX2 rfl rfl (by decide) (by decide) rfl hko0 hxo0 tw102 dX2_tell_62 ?_
            exact x_reti hx hb hr hlk hf hP hS dX2_tell_65
theorem cv_X2_tell : z_cv yX2_tell cX2_tell 2 (some .int) RX2 1 := ⟨⟨tw775, tw776⟩, tw777, tw5, by decide +kernel⟩
def f_X2_codeAt (N : Nat) (o0 : Nat) (a1 : Int32) (S : St) : Option (Int32 × St) := if (S o0 5) ≤ a1 then (some ((S o0 6), S)) else (some (7, S))
set_option maxHeartbeats 4000000 in
set_option maxRecDepth 100000 in
theorem c_X2_codeAt {l : Launch} {G : Cx} {M S S' : St} {N : Nat} {o0 : Nat} {a1 : Int32} {r : Int32} (hq : z_inj (gq G)) (hko0 : z_kd o0 = 2) (hxo0 : o0 < 65) (hf : f_X2_codeAt N o0 a1 S = some (r, S')) : z_Ct l yX2_codeAt cX2_codeAt 2 (some .int) 0 0 G S M [.ref (gq G (o0)), .int (a1)] (z_QI G S' M r) := by
  refine z_start (by decide +kernel) (Nat.le_of_ble_eq_true rfl) ?_
  intro p e s m below meth c ls E hr hlk hK hP hS hl
  have E : CallFix p m c cX2_codeAt 2 s _ lw_good RX2 := E
  have hx := E.1
  have hb := E.2.1
  have hown := E.2.2.2.1
  have hts := E.2.2.2.2
  have hl : lv_has ls 2 [(0, .ref (gq G (o0))), (1, .int (a1))] := hl
  unfold f_X2_codeAt at hf
  refine lv_iload_n hx hb dX2_codeAt_0 rfl (lv_at hl 1 rfl) ?_
  refine lv_aload_n hx hb dX2_codeAt_1 rfl (lv_at hl 0 rfl) ?_
  refine x_getI (C := RX2) (T := TX2) (N := 7) (ci := 2) (k := 5) (o := o0) E hK hP iwX2 rfl rfl (by decide) (by decide) rfl hko0 hxo0 tw102 dX2_codeAt_2 ?_
  refine lv_icmp_ge (tgt := 13) hx hb dX2_codeAt_5 (by decide) (fun hc1 => ?_) (fun hc1 => ?_)
  · replace hf := z_ifp hf hc1
    refine lv_aload_n hx hb dX2_codeAt_13 rfl (lv_at hl 0 rfl) ?_
    refine x_getI (C := RX2) (T := TX2) (N := 7) (ci := 2) (k := 6) (o := o0) E hK hP iwX2 rfl rfl (by decide) (by decide) rfl hko0 hxo0 tw105 dX2_codeAt_14 ?_
    exact x_reti hx hb hr hlk hf hP hS dX2_codeAt_17
  · replace hf := z_ifn hf hc1
    refine lv_bipush (v := 7) hx hb dX2_codeAt_8 (by decide) ?_
    refine lv_goto (tgt := 17) hx hb dX2_codeAt_10 (by decide) ?_
    exact x_reti hx hb hr hlk hf hP hS dX2_codeAt_17
theorem cv_X2_codeAt : z_cv yX2_codeAt cX2_codeAt 2 (some .int) RX2 1 := ⟨⟨tw746, tw747⟩, tw748, tw5, by decide +kernel⟩
def f_X2_isNumber (N : Nat) (o0 : Nat) (a1 : Int32) (S : St) : Option (Int32 × St) := if (S o0 0) = 0 then (if (S o0 1) = a1 then (some (1, S)) else (some (0, S))) else (some (0, S))
set_option maxHeartbeats 4000000 in
set_option maxRecDepth 100000 in
theorem c_X2_isNumber {l : Launch} {G : Cx} {M S S' : St} {N : Nat} {o0 : Nat} {a1 : Int32} {r : Int32} (hq : z_inj (gq G)) (hko0 : z_kd o0 = 2) (hxo0 : o0 < 65) (hf : f_X2_isNumber N o0 a1 S = some (r, S')) : z_Ct l yX2_isNumber cX2_isNumber 2 (some .boolean) 0 0 G S M [.ref (gq G (o0)), .int (a1)] (z_QI G S' M r) := by
  refine z_start (by decide +kernel) (Nat.le_of_ble_eq_true rfl) ?_
  intro p e s m below meth c ls E hr hlk hK hP hS hl
  have E : CallFix p m c cX2_isNumber 2 s _ lw_good RX2 := E
  have hx := E.1
  have hb := E.2.1
  have hown := E.2.2.2.1
  have hts := E.2.2.2.2
  have hl : lv_has ls 2 [(0, .ref (gq G (o0))), (1, .int (a1))] := hl
  unfold f_X2_isNumber at hf
  refine lv_aload_n hx hb dX2_isNumber_0 rfl (lv_at hl 0 rfl) ?_
  refine x_getI (C := RX2) (T := TX2) (N := 7) (ci := 2) (k := 0) (o := o0) E hK hP iwX2 rfl rfl (by decide) (by decide) rfl hko0 hxo0 tw89 dX2_isNumber_1 ?_
  refine lv_if_ne (tgt := 19) hx hb dX2_isNumber_4 (by decide) (fun hc1 => ?_) (fun hc1 => ?_)
  · replace hf := z_ifn hf hc1
    refine lv_iconst (v := 0) hx hb dX2_isNumber_19 (by decide) ?_
    exact x_retz hx hb hr hlk rfl hf hP hS dX2_isNumber_20
  · replace hf := z_ifp hf hc1
    refine lv_aload_n hx hb dX2_isNumber_7 rfl (lv_at hl 0 rfl) ?_
    refine x_getI (C := RX2) (T := TX2) (N := 7) (ci := 2) (k := 1) (o := o0) E hK hP iwX2 rfl rfl (by decide) (by decide) rfl hko0 hxo0 tw92 dX2_isNumber_8 ?_
    refine lv_iload_n hx hb dX2_isNumber_11 rfl (lv_at hl 1 rfl) ?_
    refine lv_icmp_ne (tgt := 19) hx hb dX2_isNumber_12 (by decide) (fun hc2 => ?_) (fun hc2 => ?_)
    · replace hf := z_ifn hf hc2
      refine lv_iconst (v := 0) hx hb dX2_isNumber_19 (by decide) ?_
      exact x_retz hx hb hr hlk rfl hf hP hS dX2_isNumber_20
    · replace hf := z_ifp hf hc2
      refine lv_iconst (v := 1) hx hb dX2_isNumber_15 (by decide) ?_
      refine lv_goto (tgt := 20) hx hb dX2_isNumber_16 (by decide) ?_
      exact x_retz hx hb hr hlk rfl hf hP hS dX2_isNumber_20
theorem cv_X2_isNumber : z_cv yX2_isNumber cX2_isNumber 2 (some .boolean) RX2 1 := ⟨⟨tw813, tw814⟩, tw815, tw5, by decide +kernel⟩
def f_X2_copyFrom (N : Nat) (o0 : Nat) (o1 : Nat) (S : St) : Option (St) := z_lt (z_wr S o0 0 (S o1 0)) fun S1 => z_lt (z_wr S1 o0 1 (S1 o1 1)) fun S2 => z_lt (z_wr S2 o0 2 (S2 o1 2)) fun S3 => z_lt (z_wr S3 o0 3 (S3 o1 3)) fun S4 => z_lt (z_wr S4 o0 4 (S4 o1 4)) fun S5 => z_lt (z_wr S5 o0 5 (S5 o1 5)) fun S6 => z_lt (z_wr S6 o0 6 (S6 o1 6)) fun S7 => some S7
set_option maxHeartbeats 4000000 in
set_option maxRecDepth 100000 in
theorem c_X2_copyFrom {l : Launch} {G : Cx} {M S S' : St} {N : Nat} {o0 : Nat} {o1 : Nat} (hq : z_inj (gq G)) (hko0 : z_kd o0 = 2) (hxo0 : o0 < 65) (hko1 : z_kd o1 = 2) (hxo1 : o1 < 65) (hf : f_X2_copyFrom N o0 o1 S = some S') : z_Ct l yX2_copyFrom cX2_copyFrom 2 none 0 0 G S M [.ref (gq G (o0)), .ref (gq G (o1))] (z_QV G S' M) := by
  refine z_start (by decide +kernel) (Nat.le_of_ble_eq_true rfl) ?_
  intro p e s m below meth c ls E hr hlk hK hP hS hl
  have E : CallFix p m c cX2_copyFrom 2 s _ lw_good RX2 := E
  have hx := E.1
  have hb := E.2.1
  have hown := E.2.2.2.1
  have hts := E.2.2.2.2
  have hl : lv_has ls 2 [(0, .ref (gq G (o0))), (1, .ref (gq G (o1)))] := hl
  unfold f_X2_copyFrom at hf
  refine lv_aload_n hx hb dX2_copyFrom_0 rfl (lv_at hl 0 rfl) ?_
  refine lv_aload_n hx hb dX2_copyFrom_1 rfl (lv_at hl 1 rfl) ?_
  refine x_getI (C := RX2) (T := TX2) (N := 7) (ci := 2) (k := 0) (o := o1) E hK hP iwX2 rfl rfl (by decide) (by decide) rfl hko1 hxo1 tw89 dX2_copyFrom_2 ?_
  refine x_putI (C := RX2) (T := TX2) (N := 7) (ci := 2) (k := 0) (o := o0) (v := (S o1 0)) (ty := .int) E hK hq hP hS iwX2 tyX2 tyX2_ok nmX2 rfl rfl (by decide) (by decide) rfl hko0 hxo0 rfl (tyX2_ok 0 (by decide)) ⟨rfl, rfl⟩ tw89 dX2_copyFrom_5 (fun H locs hP hS => ?_)
  obtain ⟨S1, hf, hP⟩ := z_ltX hf hP
  refine lv_aload_n hx hb dX2_copyFrom_8 rfl (lv_at hl 0 rfl) ?_
  refine lv_aload_n hx hb dX2_copyFrom_9 rfl (lv_at hl 1 rfl) ?_
  refine x_getI (C := RX2) (T := TX2) (N := 7) (ci := 2) (k := 1) (o := o1) E hK hP iwX2 rfl rfl (by decide) (by decide) rfl hko1 hxo1 tw92 dX2_copyFrom_10 ?_
  refine x_putI (C := RX2) (T := TX2) (N := 7) (ci := 2) (k := 1) (o := o0) (v := (S1 o1 1)) (ty := .int) E hK hq hP hS iwX2 tyX2 tyX2_ok nmX2 rfl rfl (by decide) (by decide) rfl hko0 hxo0 rfl (tyX2_ok 1 (by decide)) ⟨rfl, rfl⟩ tw92 dX2_copyFrom_13 (fun H locs hP hS => ?_)
  obtain ⟨S2, hf, hP⟩ := z_ltX hf hP
  refine lv_aload_n hx hb dX2_copyFrom_16 rfl (lv_at hl 0 rfl) ?_
  refine lv_aload_n hx hb dX2_copyFrom_17 rfl (lv_at hl 1 rfl) ?_
  refine x_getI (C := RX2) (T := TX2) (N := 7) (ci := 2) (k := 2) (o := o1) E hK hP iwX2 rfl rfl (by decide) (by decide) rfl hko1 hxo1 tw95 dX2_copyFrom_18 ?_
  refine x_putI (C := RX2) (T := TX2) (N := 7) (ci := 2) (k := 2) (o := o0) (v := (S2 o1 2)) (ty := .int) E hK hq hP hS iwX2 tyX2 tyX2_ok nmX2 rfl rfl (by decide) (by decide) rfl hko0 hxo0 rfl (tyX2_ok 2 (by decide)) ⟨rfl, rfl⟩ tw95 dX2_copyFrom_21 (fun H locs hP hS => ?_)
  obtain ⟨S3, hf, hP⟩ := z_ltX hf hP
  refine lv_aload_n hx hb dX2_copyFrom_24 rfl (lv_at hl 0 rfl) ?_
  refine lv_aload_n hx hb dX2_copyFrom_25 rfl (lv_at hl 1 rfl) ?_
  refine x_getI (C := RX2) (T := TX2) (N := 7) (ci := 2) (k := 3) (o := o1) E hK hP iwX2 rfl rfl (by decide) (by decide) rfl hko1 hxo1 tw98 dX2_copyFrom_26 ?_
  refine x_putI (C := RX2) (T := TX2) (N := 7) (ci := 2) (k := 3) (o := o0) (v := (S3 o1 3)) (ty := .int) E hK hq hP hS iwX2 tyX2 tyX2_ok nmX2 rfl rfl (by decide) (by decide) rfl hko0 hxo0 rfl (tyX2_ok 3 (by decide)) ⟨rfl, rfl⟩ tw98 dX2_copyFrom_29 (fun H locs hP hS => ?_)
  obtain ⟨S4, hf, hP⟩ := z_ltX hf hP
  refine lv_aload_n hx hb dX2_copyFrom_32 rfl (lv_at hl 0 rfl) ?_
  refine lv_aload_n hx hb dX2_copyFrom_33 rfl (lv_at hl 1 rfl) ?_
  refine x_getI (C := RX2) (T := TX2) (N := 7) (ci := 2) (k := 4) (o := o1) E hK hP iwX2 rfl rfl (by decide) (by decide) rfl hko1 hxo1 tw100 dX2_copyFrom_34 ?_
  refine x_putI (C := RX2) (T := TX2) (N := 7) (ci := 2) (k := 4) (o := o0) (v := (S4 o1 4)) (ty := .int) E hK hq hP hS iwX2 tyX2 tyX2_ok nmX2 rfl rfl (by decide) (by decide) rfl hko0 hxo0 rfl (tyX2_ok 4 (by decide)) ⟨rfl, rfl⟩ tw100 dX2_copyFrom_37 (fun H locs hP hS => ?_)
  obtain ⟨S5, hf, hP⟩ := z_ltX hf hP
  refine lv_aload_n hx hb dX2_copyFrom_40 rfl (lv_at hl 0 rfl) ?_
  refine lv_aload_n hx hb dX2_copyFrom_41 rfl (lv_at hl 1 rfl) ?_
  refine x_getI (C := RX2) (T := TX2) (N := 7) (ci := 2) (k := 5) (o := o1) E hK hP iwX2 rfl rfl (by decide) (by decide) rfl hko1 hxo1 tw102 dX2_copyFrom_42 ?_
  refine x_putI (C := RX2) (T := TX2) (N := 7) (ci := 2) (k := 5) (o := o0) (v := (S5 o1 5)) (ty := .int) E hK hq hP hS iwX2 tyX2 tyX2_ok nmX2 rfl rfl (by decide) (by decide) rfl hko0 hxo0 rfl (tyX2_ok 5 (by decide)) ⟨rfl, rfl⟩ tw102 dX2_copyFrom_45 (fun H locs hP hS => ?_)
  obtain ⟨S6, hf, hP⟩ := z_ltX hf hP
  refine lv_aload_n hx hb dX2_copyFrom_48 rfl (lv_at hl 0 rfl) ?_
  refine lv_aload_n hx hb dX2_copyFrom_49 rfl (lv_at hl 1 rfl) ?_
  refine x_getI (C := RX2) (T := TX2) (N := 7) (ci := 2) (k := 6) (o := o1) E hK hP iwX2 rfl rfl (by decide) (by decide) rfl hko1 hxo1 tw105 dX2_copyFrom_50 ?_
  refine x_putI (C := RX2) (T := TX2) (N := 7) (ci := 2) (k := 6) (o := o0) (v := (S6 o1 6)) (ty := .int) E hK hq hP hS iwX2 tyX2 tyX2_ok nmX2 rfl rfl (by decide) (by decide) rfl hko0 hxo0 rfl (tyX2_ok 6 (by decide)) ⟨rfl, rfl⟩ tw105 dX2_copyFrom_53 (fun H locs hP hS => ?_)
  obtain ⟨S7, hf, hP⟩ := z_ltX hf hP
  exact x_retv hx hb hr hlk hf hP hS dX2_copyFrom_56
theorem cv_X2_copyFrom : z_cv yX2_copyFrom cX2_copyFrom 2 none RX2 1 := ⟨⟨tw763, tw764⟩, tw765, tw5, by decide +kernel⟩
def f_X3_isFull (N : Nat) (S : St) : Option (Int32 × St) := if (S 56 7) < 96 then (some (0, S)) else (some (1, S))
set_option maxHeartbeats 4000000 in
set_option maxRecDepth 100000 in
theorem c_X3_isFull {l : Launch} {G : Cx} {M S S' : St} {N : Nat} {r : Int32} (hq : z_inj (gq G)) (hf : f_X3_isFull N S = some (r, S')) : z_Ct l yX3_isFull cX3_isFull 1 (some .boolean) 0 0 G S M [.ref (gq G (56))] (z_QI G S' M r) := by
  refine z_start (by decide +kernel) (Nat.le_of_ble_eq_true rfl) ?_
  intro p e s m below meth c ls E hr hlk hK hP hS hl
  have E : CallFix p m c cX3_isFull 1 s _ lw_good RX3 := E
  have hx := E.1
  have hb := E.2.1
  have hown := E.2.2.2.1
  have hts := E.2.2.2.2
  have hl : lv_has ls 1 [(0, .ref (gq G (56)))] := hl
  unfold f_X3_isFull at hf
  refine lv_aload_n hx hb dX3_isFull_0 rfl (lv_at hl 0 rfl) ?_
  refine x_getI (C := RX3) (T := TX3) (N := 8) (ci := 3) (k := 7) (o := 56) E hK hP iwX3 rfl rfl (by decide) (by decide) rfl rfl (by decide) tw279 dX3_isFull_1 ?_
  refine lv_bipush (v := 96) hx hb dX3_isFull_4 (by decide) ?_
  refine lv_icmp_lt (tgt := 13) hx hb dX3_isFull_6 (by decide) (fun hc1 => ?_) (fun hc1 => ?_)
  · replace hf := z_ifp hf hc1
    refine lv_iconst (v := 0) hx hb dX3_isFull_13 (by decide) ?_
    exact x_retz hx hb hr hlk rfl hf hP hS dX3_isFull_14
  · replace hf := z_ifn hf hc1
    refine lv_iconst (v := 1) hx hb dX3_isFull_9 (by decide) ?_
    refine lv_goto (tgt := 14) hx hb dX3_isFull_10 (by decide) ?_
    exact x_retz hx hb hr hlk rfl hf hP hS dX3_isFull_14
theorem cv_X3_isFull : z_cv yX3_isFull cX3_isFull 1 (some .boolean) RX3 0 := ⟨⟨tw341, tw342⟩, tw343, tw10, by decide +kernel⟩
def f_X3_add (N : Nat) (a1 : Int32) (S : St) : Option (Int32 × St) := z_bv (f_X9_put N (57) ((S 56 7)) (a1) S) fun S1 => z_lt (z_wr S1 56 7 ((S1 56 7) + 1)) fun S3 => some ((S3 56 7), S3)
set_option maxHeartbeats 4000000 in
set_option maxRecDepth 100000 in
theorem c_X3_add {l : Launch} {G : Cx} {M S S' : St} {N : Nat} {a1 : Int32} {r : Int32} (hq : z_inj (gq G)) (hf : f_X3_add N a1 S = some (r, S')) : z_Ct l yX3_add cX3_add 2 (some .int) 1 22 G S M [.ref (gq G (56)), .int (a1)] (z_QI G S' M r) := by
  refine z_start (by decide +kernel) (Nat.le_of_ble_eq_true rfl) ?_
  intro p e s m below meth c ls E hr hlk hK hP hS hl
  have E : CallFix p m c cX3_add 2 s _ lw_good RX3 := E
  have hx := E.1
  have hb := E.2.1
  have hown := E.2.2.2.1
  have hts := E.2.2.2.2
  have hl : lv_has ls 2 [(0, .ref (gq G (56))), (1, .int (a1))] := hl
  unfold f_X3_add at hf
  refine lv_aload_n hx hb dX3_add_0 rfl (lv_at hl 0 rfl) ?_
  refine z_getR (C := RX3) (T := TX3) (N := 8) (ci := 3) (k := 0) (o := 56) (t := 57) E hK hP iwX3 rfl rfl (by decide) (by decide) rfl rfl rfl tw272 dX3_add_1 ?_
  refine lv_aload_n hx hb dX3_add_4 rfl (lv_at hl 0 rfl) ?_
  refine x_getI (C := RX3) (T := TX3) (N := 8) (ci := 3) (k := 7) (o := 56) E hK hP iwX3 rfl rfl (by decide) (by decide) rfl rfl (by decide) tw279 dX3_add_5 ?_
  refine lv_iload_n hx hb dX3_add_8 rfl (lv_at hl 1 rfl) ?_
  obtain ⟨S1, hz2, hf⟩ := z_bv_some hf
  refine z_cvo (z_runSN (host := RX9) E hK hP hS (c_X9_put hq rfl (by decide) hz2) cs_X9_put (by decide +kernel) rfl ⟨Nat.le_of_ble_eq_true rfl, Nat.le_of_ble_eq_true rfl⟩ ⟨Nat.le_refl 0, Nat.le_refl 0⟩ hl.1 (Nat.le_of_ble_eq_true rfl) rfl dX3_add_9) hS (fun H locs hP hS => ?_)
  refine lv_aload_n hx hb dX3_add_12 rfl (lv_at hl 0 rfl) ?_
  refine lv_dup hx hb dX3_add_13 rfl ?_
  refine x_getI (C := RX3) (T := TX3) (N := 8) (ci := 3) (k := 7) (o := 56) E hK hP iwX3 rfl rfl (by decide) (by decide) rfl rfl (by decide) tw279 dX3_add_14 ?_
  refine lv_iconst (v := 1) hx hb dX3_add_17 (by decide) ?_
  refine lv_iadd hx hb dX3_add_18 ?_
  refine x_putI (C := RX3) (T := TX3) (N := 8) (ci := 3) (k := 7) (o := 56) (v := ((S1 56 7) + 1)) (ty := .int) E hK hq hP hS iwX3 tyX3 tyX3_ok nmX3 rfl rfl (by decide) (by decide) rfl rfl (by decide) rfl (tyX3_ok 7 (by decide)) ⟨rfl, rfl⟩ tw279 dX3_add_19 (fun H locs hP hS => ?_)
  obtain ⟨S3, hf, hP⟩ := z_ltX hf hP
  refine lv_aload_n hx hb dX3_add_22 rfl (lv_at hl 0 rfl) ?_
  refine x_getI (C := RX3) (T := TX3) (N := 8) (ci := 3) (k := 7) (o := 56) E hK hP iwX3 rfl rfl (by decide) (by decide) rfl rfl (by decide) tw279 dX3_add_23 ?_
  exact x_reti hx hb hr hlk hf hP hS dX3_add_26
theorem cv_X3_add : z_cv yX3_add cX3_add 2 (some .int) RX3 1 := ⟨⟨tw345, tw346⟩, tw347, tw10, by decide +kernel⟩
def f_X3_forget (N : Nat) (S : St) : Option (St) := z_lt (z_wr S 56 7 0) fun S1 => some S1
set_option maxHeartbeats 4000000 in
set_option maxRecDepth 100000 in
theorem c_X3_forget {l : Launch} {G : Cx} {M S S' : St} {N : Nat} (hq : z_inj (gq G)) (hf : f_X3_forget N S = some S') : z_Ct l yX3_forget cX3_forget 1 none 0 0 G S M [.ref (gq G (56))] (z_QV G S' M) := by
  refine z_start (by decide +kernel) (Nat.le_of_ble_eq_true rfl) ?_
  intro p e s m below meth c ls E hr hlk hK hP hS hl
  have E : CallFix p m c cX3_forget 1 s _ lw_good RX3 := E
  have hx := E.1
  have hb := E.2.1
  have hown := E.2.2.2.1
  have hts := E.2.2.2.2
  have hl : lv_has ls 1 [(0, .ref (gq G (56)))] := hl
  unfold f_X3_forget at hf
  refine lv_aload_n hx hb dX3_forget_0 rfl (lv_at hl 0 rfl) ?_
  refine lv_iconst (v := 0) hx hb dX3_forget_1 (by decide) ?_
  refine x_putI (C := RX3) (T := TX3) (N := 8) (ci := 3) (k := 7) (o := 56) (v := 0) (ty := .int) E hK hq hP hS iwX3 tyX3 tyX3_ok nmX3 rfl rfl (by decide) (by decide) rfl rfl (by decide) rfl (tyX3_ok 7 (by decide)) ⟨rfl, rfl⟩ tw279 dX3_forget_2 (fun H locs hP hS => ?_)
  obtain ⟨S1, hf, hP⟩ := z_ltX hf hP
  exact x_retv hx hb hr hlk hf hP hS dX3_forget_5
theorem cv_X3_forget : z_cv yX3_forget cX3_forget 1 none RX3 0 := ⟨⟨tw485, tw486⟩, tw487, tw10, by decide +kernel⟩
def f_X3_await (N : Nat) (a1 : Int32) (a2 : Int32) (S : St) : Option (St) := z_bv (f_X9_put N (60) ((S 56 5)) (a1) S) fun S1 => z_bv (f_X9_put N (61) ((S1 56 5)) (a2) S1) fun S3 => z_lt (z_wr S3 56 5 ((S3 56 5) + 1)) fun S5 => some S5
set_option maxHeartbeats 4000000 in
set_option maxRecDepth 100000 in
theorem c_X3_await {l : Launch} {G : Cx} {M S S' : St} {N : Nat} {a1 : Int32} {a2 : Int32} (hq : z_inj (gq G)) (hf : f_X3_await N a1 a2 S = some S') : z_Ct l yX3_await cX3_await 3 none 1 22 G S M [.ref (gq G (56)), .int (a1), .int (a2)] (z_QV G S' M) := by
  refine z_start (by decide +kernel) (Nat.le_of_ble_eq_true rfl) ?_
  intro p e s m below meth c ls E hr hlk hK hP hS hl
  have E : CallFix p m c cX3_await 3 s _ lw_good RX3 := E
  have hx := E.1
  have hb := E.2.1
  have hown := E.2.2.2.1
  have hts := E.2.2.2.2
  have hl : lv_has ls 3 [(0, .ref (gq G (56))), (1, .int (a1)), (2, .int (a2))] := hl
  unfold f_X3_await at hf
  refine lv_aload_n hx hb dX3_await_0 rfl (lv_at hl 0 rfl) ?_
  refine z_getR (C := RX3) (T := TX3) (N := 8) (ci := 3) (k := 3) (o := 56) (t := 60) E hK hP iwX3 rfl rfl (by decide) (by decide) rfl rfl rfl tw275 dX3_await_1 ?_
  refine lv_aload_n hx hb dX3_await_4 rfl (lv_at hl 0 rfl) ?_
  refine x_getI (C := RX3) (T := TX3) (N := 8) (ci := 3) (k := 5) (o := 56) E hK hP iwX3 rfl rfl (by decide) (by decide) rfl rfl (by decide) tw277 dX3_await_5 ?_
  refine lv_iload_n hx hb dX3_await_8 rfl (lv_at hl 1 rfl) ?_
  obtain ⟨S1, hz2, hf⟩ := z_bv_some hf
  refine z_cvo (z_runSN (host := RX9) E hK hP hS (c_X9_put hq rfl (by decide) hz2) cs_X9_put (by decide +kernel) rfl ⟨Nat.le_of_ble_eq_true rfl, Nat.le_of_ble_eq_true rfl⟩ ⟨Nat.le_refl 0, Nat.le_refl 0⟩ hl.1 (Nat.le_of_ble_eq_true rfl) rfl dX3_await_9) hS (fun H locs hP hS => ?_)
  refine lv_aload_n hx hb dX3_await_12 rfl (lv_at hl 0 rfl) ?_
  refine z_getR (C := RX3) (T := TX3) (N := 8) (ci := 3) (k := 4) (o := 56) (t := 61) E hK hP iwX3 rfl rfl (by decide) (by decide) rfl rfl rfl tw276 dX3_await_13 ?_
  refine lv_aload_n hx hb dX3_await_16 rfl (lv_at hl 0 rfl) ?_
  refine x_getI (C := RX3) (T := TX3) (N := 8) (ci := 3) (k := 5) (o := 56) E hK hP iwX3 rfl rfl (by decide) (by decide) rfl rfl (by decide) tw277 dX3_await_17 ?_
  refine lv_iload_n hx hb dX3_await_20 rfl (lv_at hl 2 rfl) ?_
  obtain ⟨S3, hz4, hf⟩ := z_bv_some hf
  refine z_cvo (z_runSN (host := RX9) E hK hP hS (c_X9_put hq rfl (by decide) hz4) cs_X9_put (by decide +kernel) rfl ⟨Nat.le_of_ble_eq_true rfl, Nat.le_of_ble_eq_true rfl⟩ ⟨Nat.le_refl 0, Nat.le_refl 0⟩ hl.1 (Nat.le_of_ble_eq_true rfl) rfl dX3_await_21) hS (fun H locs hP hS => ?_)
  refine lv_aload_n hx hb dX3_await_24 rfl (lv_at hl 0 rfl) ?_
  refine lv_dup hx hb dX3_await_25 rfl ?_
  refine x_getI (C := RX3) (T := TX3) (N := 8) (ci := 3) (k := 5) (o := 56) E hK hP iwX3 rfl rfl (by decide) (by decide) rfl rfl (by decide) tw277 dX3_await_26 ?_
  refine lv_iconst (v := 1) hx hb dX3_await_29 (by decide) ?_
  refine lv_iadd hx hb dX3_await_30 ?_
  refine x_putI (C := RX3) (T := TX3) (N := 8) (ci := 3) (k := 5) (o := 56) (v := ((S3 56 5) + 1)) (ty := .int) E hK hq hP hS iwX3 tyX3 tyX3_ok nmX3 rfl rfl (by decide) (by decide) rfl rfl (by decide) rfl (tyX3_ok 5 (by decide)) ⟨rfl, rfl⟩ tw277 dX3_await_31 (fun H locs hP hS => ?_)
  obtain ⟨S5, hf, hP⟩ := z_ltX hf hP
  exact x_retv hx hb hr hlk hf hP hS dX3_await_34
theorem cv_X3_await : z_cv yX3_await cX3_await 3 none RX3 2 := ⟨⟨tw359, twp1⟩, tw360, tw10, by decide +kernel⟩
def f_X3_isName (N : Nat) (a1 : Int32) (S : St) : Option (Int32 × St) := if a1 < 97 then (some (0, S)) else (if 102 < a1 then (some (0, S)) else (some (1, S)))
set_option maxHeartbeats 4000000 in
set_option maxRecDepth 100000 in
theorem c_X3_isName {l : Launch} {G : Cx} {M S S' : St} {N : Nat} {a1 : Int32} {r : Int32} (hq : z_inj (gq G)) (hf : f_X3_isName N a1 S = some (r, S')) : z_Ct l yX3_isName cX3_isName 1 (some .boolean) 0 0 G S M [.int (a1)] (z_QI G S' M r) := by
  refine z_start (by decide +kernel) (Nat.le_of_ble_eq_true rfl) ?_
  intro p e s m below meth c ls E hr hlk hK hP hS hl
  have E : CallFix p m c cX3_isName 1 s _ lw_good RX3 := E
  have hx := E.1
  have hb := E.2.1
  have hown := E.2.2.2.1
  have hts := E.2.2.2.2
  have hl : lv_has ls 1 [(0, .int (a1))] := hl
  unfold f_X3_isName at hf
  refine lv_iload_n hx hb dX3_isName_0 rfl (lv_at hl 0 rfl) ?_
  refine lv_bipush (v := 97) hx hb dX3_isName_1 (by decide) ?_
  refine lv_icmp_lt (tgt := 16) hx hb dX3_isName_3 (by decide) (fun hc1 => ?_) (fun hc1 => ?_)
  · replace hf := z_ifp hf hc1
    refine lv_iconst (v := 0) hx hb dX3_isName_16 (by decide) ?_
    exact x_retz hx hb hr hlk rfl hf hP hS dX3_isName_17
  · replace hf := z_ifn hf hc1
    refine lv_iload_n hx hb dX3_isName_6 rfl (lv_at hl 0 rfl) ?_
    refine lv_bipush (v := 102) hx hb dX3_isName_7 (by decide) ?_
    refine lv_icmp_gt (tgt := 16) hx hb dX3_isName_9 (by decide) (fun hc2 => ?_) (fun hc2 => ?_)
    · replace hf := z_ifp hf hc2
      refine lv_iconst (v := 0) hx hb dX3_isName_16 (by decide) ?_
      exact x_retz hx hb hr hlk rfl hf hP hS dX3_isName_17
    · replace hf := z_ifn hf hc2
      refine lv_iconst (v := 1) hx hb dX3_isName_12 (by decide) ?_
      refine lv_goto (tgt := 17) hx hb dX3_isName_13 (by decide) ?_
      exact x_retz hx hb hr hlk rfl hf hP hS dX3_isName_17
theorem cs_X3_isName : z_cs yX3_isName cX3_isName 1 (some .boolean) 1 := ⟨tw367, tw368, tw10, by decide +kernel⟩
def f_X3_isDigit (N : Nat) (a1 : Int32) (S : St) : Option (Int32 × St) := if a1 < 48 then (some (0, S)) else (if 57 < a1 then (some (0, S)) else (some (1, S)))
set_option maxHeartbeats 4000000 in
set_option maxRecDepth 100000 in
theorem c_X3_isDigit {l : Launch} {G : Cx} {M S S' : St} {N : Nat} {a1 : Int32} {r : Int32} (hq : z_inj (gq G)) (hf : f_X3_isDigit N a1 S = some (r, S')) : z_Ct l yX3_isDigit cX3_isDigit 1 (some .boolean) 0 0 G S M [.int (a1)] (z_QI G S' M r) := by
  refine z_start (by decide +kernel) (Nat.le_of_ble_eq_true rfl) ?_
  intro p e s m below meth c ls E hr hlk hK hP hS hl
  have E : CallFix p m c cX3_isDigit 1 s _ lw_good RX3 := E
  have hx := E.1
  have hb := E.2.1
  have hown := E.2.2.2.1
  have hts := E.2.2.2.2
  have hl : lv_has ls 1 [(0, .int (a1))] := hl
  unfold f_X3_isDigit at hf
  refine lv_iload_n hx hb dX3_isDigit_0 rfl (lv_at hl 0 rfl) ?_
  refine lv_bipush (v := 48) hx hb dX3_isDigit_1 (by decide) ?_
  refine lv_icmp_lt (tgt := 16) hx hb dX3_isDigit_3 (by decide) (fun hc1 => ?_) (fun hc1 => ?_)
  · replace hf := z_ifp hf hc1
    refine lv_iconst (v := 0) hx hb dX3_isDigit_16 (by decide) ?_
    exact x_retz hx hb hr hlk rfl hf hP hS dX3_isDigit_17
  · replace hf := z_ifn hf hc1
    refine lv_iload_n hx hb dX3_isDigit_6 rfl (lv_at hl 0 rfl) ?_
    refine lv_bipush (v := 57) hx hb dX3_isDigit_7 (by decide) ?_
    refine lv_icmp_gt (tgt := 16) hx hb dX3_isDigit_9 (by decide) (fun hc2 => ?_) (fun hc2 => ?_)
    · replace hf := z_ifp hf hc2
      refine lv_iconst (v := 0) hx hb dX3_isDigit_16 (by decide) ?_
      exact x_retz hx hb hr hlk rfl hf hP hS dX3_isDigit_17
    · replace hf := z_ifn hf hc2
      refine lv_iconst (v := 1) hx hb dX3_isDigit_12 (by decide) ?_
      refine lv_goto (tgt := 17) hx hb dX3_isDigit_13 (by decide) ?_
      exact x_retz hx hb hr hlk rfl hf hP hS dX3_isDigit_17
theorem cs_X3_isDigit : z_cs yX3_isDigit cX3_isDigit 1 (some .boolean) 1 := ⟨tw373, tw374, tw10, by decide +kernel⟩
