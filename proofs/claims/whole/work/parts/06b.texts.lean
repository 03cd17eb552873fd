/-! the texts -/
def f_J0_length_8abf5 (N : Nat) (i : Nat) (S : St) : Option (Int32 × St) := z_gd (i < 7) (some (nI (z_lens.getD i 0), S))
def f_J0_isEmpty_aae02 (N : Nat) (i : Nat) (S : St) : Option (Int32 × St) := z_gd (i < 7) (some ((if z_lens.getD i 0 = 0 then 1 else 0), S))
def z_ch (i k : Nat) : Int32 := (z_byts.getD i []).getD k 0 &&& 255
def f_J0_charAt_5068e (N : Nat) (i : Nat) (a1 : Int32) (S : St) : Option (Int32 × St) := z_gd (i < 7 ∧ z_in a1 (z_lens.getD i 0)) (some (z_ch i a1.toNatClampNeg, S))
theorem z_chr : ∀ i, i < 7 → ∀ k, k < z_lens.getD i 0 → ((((z_byts.getD i []).getD k 0 &&& 255).toUInt32 % 65536).toInt32 = z_ch i k ∧ narrow .char (.int (z_ch i k)) = .int (z_ch i k)) := by decide +kernel
theorem z_shl7 : ∀ i, i < 7 → nI (z_lens.getD i 0) >>> ((0 : Int32) &&& 31) = nI (z_lens.getD i 0) := by decide +kernel
theorem z_len7 : ∀ i, i < 7 → z_lens.getD i 0 < 4 := by decide +kernel
theorem z_emp7 : ∀ i, i < 7 → (¬ nI (z_lens.getD i 0) = 0 → (if z_lens.getD i 0 = 0 then (1 : Int32) else 0) = 0) ∧ (nI (z_lens.getD i 0) = 0 → (if z_lens.getD i 0 = 0 then (1 : Int32) else 0) = 1) := by decide +kernel
set_option maxHeartbeats 4000000 in
theorem c_J3_checkIndex_8e157 {l : Launch} {G : Cx} {X M : St} {a b : Int32} {v : Value} (hv : v = .null ∨ ∃ t, v = .ref t) (h0 : ¬ a < 0) (h1 : a < b) : z_Ct l yJ3_checkIndex_8e157 cJ3_checkIndex_8e157 3 (some .int) 0 0 G X M [.int a, .int b, v] (z_QI G X M a) := by
  refine z_start (by decide +kernel) (by rcases hv with rfl | ⟨t, rfl⟩ <;> exact Nat.le_of_ble_eq_true rfl) ?_
  intro p e s m below meth c ls E hr hlk hK hP hS hl
  have hx := E.1
  have hb := E.2.1
  have hl : lv_has ls 3 [(0, .int a), (1, .int b)] := by
    rcases hv with rfl | ⟨t, rfl⟩ <;> exact lv_sub hl [0, 1] rfl
  refine lv_iload_n hx hb dJ3_checkIndex_8e157_0 rfl (lv_at hl 0 rfl) ?_
  refine lv_if_lt (tgt := 9) hx hb dJ3_checkIndex_8e157_1 (by decide) (fun q => absurd q h0) (fun _ => ?_)
  refine lv_iload_n hx hb dJ3_checkIndex_8e157_4 rfl (lv_at hl 0 rfl) ?_
  refine lv_iload_n hx hb dJ3_checkIndex_8e157_5 rfl (lv_at hl 1 rfl) ?_
  refine lv_icmp_lt (tgt := 16) hx hb dJ3_checkIndex_8e157_6 (by decide) (fun _ => ?_) (fun q => absurd h1 q)
  refine lv_iload_n hx hb dJ3_checkIndex_8e157_16 rfl (lv_at hl 0 rfl) ?_
  exact z_reti hx hb hr hlk hP hS dJ3_checkIndex_8e157_17
theorem cs_J3 : z_cs yJ3_checkIndex_8e157 cJ3_checkIndex_8e157 3 (some .int) 3 := ⟨tw416, tw417, tw14, by decide +kernel⟩
set_option maxHeartbeats 4000000 in
theorem c_J0_checkIndex_df160 {l : Launch} {G : Cx} {X M : St} {a b : Int32} (h0 : ¬ a < 0) (h1 : a < b) : z_Ct l yJ0_checkIndex_df160 cJ0_checkIndex_df160 2 none 1 22 G X M [.int a, .int b] (z_QV G X M) := by
  refine z_start (by decide +kernel) (Nat.le_of_ble_eq_true rfl) ?_
  intro p e s m below meth c ls E hr hlk hK hP hS hl
  have E : CallFix p m c cJ0_checkIndex_df160 2 s _ lw_good RJ0 := E
  have hx := E.1
  have hb := E.2.1
  have hl : lv_has ls 2 [(0, .int a), (1, .int b)] := hl
  refine lv_iload_n hx hb dJ0_checkIndex_df160_0 rfl (lv_at hl 0 rfl) ?_
  refine lv_iload_n hx hb dJ0_checkIndex_df160_1 rfl (lv_at hl 1 rfl) ?_
  have go : ∀ v : Value, (v = .null ∨ ∃ t, v = .ref t) → va_Z "jdk/internal/util/Preconditions" "SIOOBE_FORMATTER" "Ljava/util/function/BiFunction;" v (z_Aq (gq G)) s s.heap → W p l e (z_rm 1 22) s m ([.int a, .int b] : List Value).toArray below meth c s.heap [] 0 0 (MQ below (z_QV G X M) ([.int a, .int b] : List Value).toArray s 0 0 (z_Aq (gq G))) (F0 m 2 ls [.int b, .int a]) := by
    intro v hv hZ
    refine va_gets hx hb hZ hS E.2.2.2.1 (E.2.2.2.2 _ tw413) (fun _ h => h) dJ0_checkIndex_df160_2 ?_
    refine z_ci (z_runS E hK hP hS (c_J3_checkIndex_8e157 hv h0 h1) cs_J3 tw415 rfl ⟨Nat.le_of_ble_eq_true rfl, Nat.le_of_ble_eq_true rfl⟩ ⟨Nat.le_refl 0, Nat.le_refl 0⟩ hl.1 (Nat.le_of_ble_eq_true rfl) (rest := []) rfl dJ0_checkIndex_df160_5) hS (fun H locs hP hS => ?_)
    refine lv_pop hx hb dJ0_checkIndex_df160_8 rfl ?_
    exact z_retv hx hb hr hlk hP hS dJ0_checkIndex_df160_9
  rcases hK.2.2.1.2.2 with hZ | ⟨t, hZ⟩
  · exact go _ (Or.inl rfl) hZ
  · exact go _ (Or.inr ⟨t, rfl⟩) hZ
theorem cs_J0c : z_cs yJ0_checkIndex_df160 cJ0_checkIndex_df160 2 none 2 := ⟨tw411, tw412, tw12, by decide +kernel⟩
set_option maxHeartbeats 4000000 in
theorem c_J1_charAt {l : Launch} {G : Cx} {X M : St} {i : Nat} {a : Int32} (hi : i < 7) (ha : z_in a (z_lens.getD i 0)) : z_Ct l yJ1_charAt_3b067 cJ1_charAt_3b067 2 (some .char) 2 43 G X M [.ref (G.2.2.2.2 i), .int a] (z_QI G X M (z_ch i a.toNatClampNeg)) := by
  refine z_start (by decide +kernel) (Nat.le_of_ble_eq_true rfl) ?_
  intro p e s m below meth c ls E hr hlk hK hP hS hl
  have E : CallFix p m c cJ1_charAt_3b067 2 s _ lw_good RJ1 := E
  have hx := E.1
  have hb := E.2.1
  have hl : lv_has ls 2 [(0, .ref (G.2.2.2.2 i)), (1, .int a)] := hl
  have hT := (hK.2.2.1.1.1 i hi).2.2.2
  have h0 : ¬ a < 0 := Int32.not_lt.mpr ha.1
  have h1 : a < nI (z_lens.getD i 0) := by
    obtain ⟨j, hj, rfl⟩ := nI_of h0
    have h2 := ha.2
    rw [nI_clamp hj] at h2
    exact nI_lt h2 (Nat.lt_trans (z_len7 i hi) (by decide))
  refine lv_iload_n hx hb dJ1_charAt_3b067_0 rfl (lv_at hl 1 rfl) ?_
  refine lv_aload_n hx hb dJ1_charAt_3b067_1 rfl (lv_at hl 0 rfl) ?_
  refine va_tlen (v := nI (z_lens.getD i 0)) hx hb hT hS rfl dJ1_charAt_3b067_2 ?_
  refine z_cvo (z_runS E hK hP hS (c_J0_checkIndex_df160 h0 h1) cs_J0c tw410 rfl ⟨Nat.le_of_ble_eq_true rfl, Nat.le_of_ble_eq_true rfl⟩ ⟨Nat.le_refl 0, Nat.le_refl 0⟩ hl.1 (Nat.le_of_ble_eq_true rfl) (rest := []) rfl dJ1_charAt_3b067_3) hS (fun H locs hP hS => ?_)
  refine lv_aload_n hx hb dJ1_charAt_3b067_6 rfl (lv_at hl 0 rfl) ?_
  refine lv_iload_n hx hb dJ1_charAt_3b067_7 rfl (lv_at hl 1 rfl) ?_
  refine va_tb hx hb hT hS (z_in_vp ha) rfl dJ1_charAt_3b067_8 ?_
  refine lv_sipush (v := 255) hx hb dJ1_charAt_3b067_9 (by decide) ?_
  refine lv_iand hx hb dJ1_charAt_3b067_12 ?_
  have hc := z_chr i hi a.toNatClampNeg ha.2
  refine lv_i2c hx hb dJ1_charAt_3b067_13 hc.1 ?_
  exact z_retz hx hb hr hlk hc.2 hP hS dJ1_charAt_3b067_14
theorem cs_J1 : z_cs yJ1_charAt_3b067 cJ1_charAt_3b067 2 (some .char) 2 := ⟨tw408, tw409, tw13, by decide +kernel⟩
set_option maxHeartbeats 4000000 in
theorem c_J0_isLatin1 {l : Launch} {G : Cx} {X M : St} {i : Nat} (hi : i < 7) : z_Ct l yJ0_isLatin1_aae02 cJ0_isLatin1_aae02 1 (some .boolean) 0 0 G X M [.ref (G.2.2.2.1 i)] (z_QI G X M 1) := by
  refine z_start (by decide +kernel) (Nat.le_of_ble_eq_true rfl) ?_
  intro p e s m below meth c ls E hr hlk hK hP hS hl
  have E : CallFix p m c cJ0_isLatin1_aae02 1 s _ lw_good RJ0 := E
  have hx := E.1
  have hb := E.2.1
  have hl : lv_has ls 1 [(0, .ref (G.2.2.2.1 i))] := hl
  refine va_gets hx hb hK.2.2.1.2.1 hS E.2.2.2.1 (E.2.2.2.2 _ tw397) (fun _ h => h) dJ0_isLatin1_aae02_0 ?_
  refine lv_if_eq (tgt := 17) hx hb dJ0_isLatin1_aae02_3 (by decide) (fun q => absurd q (by decide)) (fun _ => ?_)
  refine lv_aload_n hx hb dJ0_isLatin1_aae02_6 rfl (lv_at hl 0 rfl) ?_
  refine vk_getf hx hb (hK.2.2.1.1.1 i hi).2.1 hS E.2.2.2.1 (E.2.2.2.2 _ tw1483) (fun _ h => h) dJ0_isLatin1_aae02_7 ?_
  refine lv_if_ne (tgt := 17) hx hb dJ0_isLatin1_aae02_10 (by decide) (fun q => absurd rfl q) (fun _ => ?_)
  refine lv_iconst (v := 1) hx hb dJ0_isLatin1_aae02_13 (by decide) ?_
  refine lv_goto (tgt := 18) hx hb dJ0_isLatin1_aae02_14 (by decide) ?_
  exact z_retz hx hb hr hlk rfl hP hS dJ0_isLatin1_aae02_18
theorem cv_J0l : z_cv yJ0_isLatin1_aae02 cJ0_isLatin1_aae02 1 (some .boolean) RJ0 0 := ⟨⟨tw404, tw405⟩, tw406, tw12, by decide +kernel⟩
set_option maxHeartbeats 4000000 in
theorem c_J0_coder {l : Launch} {G : Cx} {X M : St} {i : Nat} (hi : i < 7) : z_Ct l yJ0_coder_7d493 cJ0_coder_7d493 1 (some .byte) 0 0 G X M [.ref (G.2.2.2.1 i)] (z_QI G X M 0) := by
  refine z_start (by decide +kernel) (Nat.le_of_ble_eq_true rfl) ?_
  intro p e s m below meth c ls E hr hlk hK hP hS hl
  have E : CallFix p m c cJ0_coder_7d493 1 s _ lw_good RJ0 := E
  have hx := E.1
  have hb := E.2.1
  have hl : lv_has ls 1 [(0, .ref (G.2.2.2.1 i))] := hl
  refine va_gets hx hb hK.2.2.1.2.1 hS E.2.2.2.1 (E.2.2.2.2 _ tw397) (fun _ h => h) dJ0_coder_7d493_0 ?_
  refine lv_if_eq (tgt := 13) hx hb dJ0_coder_7d493_3 (by decide) (fun q => absurd q (by decide)) (fun _ => ?_)
  refine lv_aload_n hx hb dJ0_coder_7d493_6 rfl (lv_at hl 0 rfl) ?_
  refine vk_getf hx hb (hK.2.2.1.1.1 i hi).2.1 hS E.2.2.2.1 (E.2.2.2.2 _ tw1483) (fun _ h => h) dJ0_coder_7d493_7 ?_
  refine lv_goto (tgt := 14) hx hb dJ0_coder_7d493_10 (by decide) ?_
  exact z_retz hx hb hr hlk rfl hP hS dJ0_coder_7d493_14
theorem cv_J0d : z_cv yJ0_coder_7d493 cJ0_coder_7d493 1 (some .byte) RJ0 0 := ⟨⟨tw394, tw395⟩, tw396, tw12, by decide +kernel⟩
set_option maxHeartbeats 4000000 in
theorem c_J0_length_8abf5 {l : Launch} {G : Cx} {M S S' : St} {N : Nat} {i : Nat} {r : Int32} (hq : z_inj (gq G)) (hf : f_J0_length_8abf5 N i S = some (r, S')) : i < 7 ∧ z_Ct l yJ0_length_8abf5 cJ0_length_8abf5 1 (some .int) 1 20 G S M [.ref (G.2.2.2.1 i)] (z_QI G S' M r) := by
  obtain ⟨hi, hf⟩ := z_gd_some hf
  refine ⟨hi, ?_⟩
  refine z_start (by decide +kernel) (Nat.le_of_ble_eq_true rfl) ?_
  intro p e s m below meth c ls E hr hlk hK hP hS hl
  have E : CallFix p m c cJ0_length_8abf5 1 s _ lw_good RJ0 := E
  have hx := E.1
  have hb := E.2.1
  have hl : lv_has ls 1 [(0, .ref (G.2.2.2.1 i))] := hl
  refine lv_aload_n hx hb dJ0_length_8abf5_0 rfl (lv_at hl 0 rfl) ?_
  refine vk_getf hx hb (hK.2.2.1.1.1 i hi).2.2.1 hS E.2.2.2.1 (E.2.2.2.2 _ tw1482) (fun _ h => h) dJ0_length_8abf5_1 ?_
  refine va_tlen (v := nI (z_lens.getD i 0)) hx hb (hK.2.2.1.1.1 i hi).2.2.2 hS rfl dJ0_length_8abf5_4 ?_
  refine lv_aload_n hx hb dJ0_length_8abf5_5 rfl (lv_at hl 0 rfl) ?_
  refine z_ci (z_runVS E hK hP hS ⟨hi, c_J0_coder hi⟩ cv_J0d tw393 rfl ⟨Nat.le_of_ble_eq_true rfl, Nat.le_of_ble_eq_true rfl⟩ ⟨Nat.le_refl 0, Nat.le_refl 0⟩ hl.1 (Nat.le_of_ble_eq_true rfl) (rest := [.int (nI (z_lens.getD i 0))]) rfl dJ0_length_8abf5_6) hS (fun H locs hP hS => ?_)
  refine lv_ishr hx hb dJ0_length_8abf5_9 ?_
  rw [z_shl7 i hi]
  exact x_reti hx hb hr hlk hf hP hS dJ0_length_8abf5_10
theorem cv_J0_length_8abf5 : z_cv yJ0_length_8abf5 cJ0_length_8abf5 1 (some .int) RJ0 0 := ⟨⟨tw390, tw391⟩, tw392, tw12, by decide +kernel⟩
set_option maxHeartbeats 4000000 in
theorem c_J0_isEmpty_aae02 {l : Launch} {G : Cx} {M S S' : St} {N : Nat} {i : Nat} {r : Int32} (hq : z_inj (gq G)) (hf : f_J0_isEmpty_aae02 N i S = some (r, S')) : i < 7 ∧ z_Ct l yJ0_isEmpty_aae02 cJ0_isEmpty_aae02 1 (some .boolean) 0 0 G S M [.ref (G.2.2.2.1 i)] (z_QI G S' M r) := by
  obtain ⟨hi, hf⟩ := z_gd_some hf
  refine ⟨hi, ?_⟩
  refine z_start (by decide +kernel) (Nat.le_of_ble_eq_true rfl) ?_
  intro p e s m below meth c ls E hr hlk hK hP hS hl
  have E : CallFix p m c cJ0_isEmpty_aae02 1 s _ lw_good RJ0 := E
  have hx := E.1
  have hb := E.2.1
  have hl : lv_has ls 1 [(0, .ref (G.2.2.2.1 i))] := hl
  refine lv_aload_n hx hb dJ0_isEmpty_aae02_0 rfl (lv_at hl 0 rfl) ?_
  refine vk_getf hx hb (hK.2.2.1.1.1 i hi).2.2.1 hS E.2.2.2.1 (E.2.2.2.2 _ tw1482) (fun _ h => h) dJ0_isEmpty_aae02_1 ?_
  refine va_tlen (v := nI (z_lens.getD i 0)) hx hb (hK.2.2.1.1.1 i hi).2.2.2 hS rfl dJ0_isEmpty_aae02_4 ?_
  refine lv_if_ne (tgt := 12) hx hb dJ0_isEmpty_aae02_5 (by decide) (fun q => ?_) (fun q => ?_)
  · rw [(z_emp7 i hi).1 q] at hf
    refine lv_iconst (v := 0) hx hb dJ0_isEmpty_aae02_12 (by decide) ?_
    exact x_retz hx hb hr hlk rfl hf hP hS dJ0_isEmpty_aae02_13
  · rw [(z_emp7 i hi).2 q] at hf
    refine lv_iconst (v := 1) hx hb dJ0_isEmpty_aae02_8 (by decide) ?_
    refine lv_goto (tgt := 13) hx hb dJ0_isEmpty_aae02_9 (by decide) ?_
    exact x_retz hx hb hr hlk rfl hf hP hS dJ0_isEmpty_aae02_13
theorem cv_J0_isEmpty_aae02 : z_cv yJ0_isEmpty_aae02 cJ0_isEmpty_aae02 1 (some .boolean) RJ0 0 := ⟨⟨tw386, tw387⟩, tw388, tw12, by decide +kernel⟩
set_option maxHeartbeats 4000000 in
theorem c_J0_charAt_5068e {l : Launch} {G : Cx} {M S S' : St} {N : Nat} {i : Nat} {a1 r : Int32} (hq : z_inj (gq G)) (hf : f_J0_charAt_5068e N i a1 S = some (r, S')) : i < 7 ∧ z_Ct l yJ0_charAt_5068e cJ0_charAt_5068e 2 (some .char) 3 64 G S M [.ref (G.2.2.2.1 i), .int a1] (z_QI G S' M r) := by
  obtain ⟨⟨hi, ha⟩, hf⟩ := z_gd_some hf
  refine ⟨hi, ?_⟩
  refine z_start (by decide +kernel) (Nat.le_of_ble_eq_true rfl) ?_
  intro p e s m below meth c ls E hr hlk hK hP hS hl
  have E : CallFix p m c cJ0_charAt_5068e 2 s _ lw_good RJ0 := E
  have hx := E.1
  have hb := E.2.1
  have hl : lv_has ls 2 [(0, .ref (G.2.2.2.1 i)), (1, .int a1)] := hl
  refine lv_aload_n hx hb dJ0_charAt_5068e_0 rfl (lv_at hl 0 rfl) ?_
  refine z_ci (z_runVS E hK hP hS ⟨hi, c_J0_isLatin1 hi⟩ cv_J0l tw403 rfl ⟨Nat.le_of_ble_eq_true rfl, Nat.le_of_ble_eq_true rfl⟩ ⟨Nat.le_refl 0, Nat.le_refl 0⟩ hl.1 (Nat.le_of_ble_eq_true rfl) (rest := []) rfl dJ0_charAt_5068e_1) hS (fun H locs hP hS => ?_)
  refine lv_if_eq (tgt := 16) hx hb dJ0_charAt_5068e_4 (by decide) (fun q => absurd q (by decide)) (fun _ => ?_)
  refine lv_aload_n hx hb dJ0_charAt_5068e_7 rfl (lv_at hl 0 rfl) ?_
  refine vk_getf hx hb (hK.2.2.1.1.1 i hi).2.2.1 hS E.2.2.2.1 (E.2.2.2.2 _ tw1482) (fun _ h => h) dJ0_charAt_5068e_8 ?_
  refine lv_iload_n hx hb dJ0_charAt_5068e_11 rfl (lv_at hl 1 rfl) ?_
  refine z_ci (z_runS E hK hP hS (c_J1_charAt hi ha) cs_J1 tw407 rfl ⟨Nat.le_of_ble_eq_true rfl, Nat.le_of_ble_eq_true rfl⟩ ⟨Nat.le_refl 0, Nat.le_refl 0⟩ hl.1 (Nat.le_of_ble_eq_true rfl) (rest := []) rfl dJ0_charAt_5068e_12) hS (fun H locs hP hS => ?_)
  exact x_retz hx hb hr hlk (z_chr i hi _ ha.2).2 hf hP hS dJ0_charAt_5068e_15
theorem cv_J0_charAt_5068e : z_cv yJ0_charAt_5068e cJ0_charAt_5068e 2 (some .char) RJ0 1 := ⟨⟨tw400, tw401⟩, tw402, tw12, by decide +kernel⟩
