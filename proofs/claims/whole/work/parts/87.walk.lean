/-! the law's loop, and its start -/
theorem lw_len {L : Nat} (hL : L ≤ 2048) : (Int32.ofNat L - 4).toInt = (L : Int) - 4 := by
  have e1 : (Int32.ofNat L).toInt = (L : Int) := nI_toInt (n := L) (by omega)
  have e2 : (4 : Int32).toInt = 4 := rfl
  rw [Int32.toInt_sub, e1, e2, Int.bmod_eq_of_le (by omega) (by omega)]
section LP
variable {p : Program} {l : Launch} {e : Env} {s : State} {m : MethodId} {args : Array Value} {below : List Frame} {meth : Method} {c : Code} {H : Heap} {locs : List Loc} {Q : State → Prop} {ls : Array Slot} {rest : List Value} {G : Cx} {X M : St} {b L i pc : Nat} {xs : Nat → Int32}
theorem law_head (E : CallFix p m c cL_law 4 s args lw_good RL) (hX : va_X b L xs s s.heap) (hbl : b < s.heap.size) (hbA : ¬ z_Aq (gq G) b) (hL : L ≤ 2048) (hi : i ≤ 4096) (hS : z_S G s.heap H locs) (hl : lv_has ls 4 (lwL G b i))
    (k1 : L < i + 4 → W p l e room_1 s m args below meth c H locs 102 26091 Q (F0 m 761 ls [])) (k2 : i + 4 ≤ L → W p l e room_1 s m args below meth c H locs 102 26091 Q (F0 m 26 ls [])) : W p l e room_1 s m args below meth c H locs 102 26091 Q (F0 m 18 ls []) := by
  refine lv_iload_n E.1 E.2.1 dL_law_18 rfl (lv_at hl 3 rfl) ?_
  refine lv_aload_n E.1 E.2.1 dL_law_19 rfl (lv_at hl 0 rfl) ?_
  refine va_slen E.1 E.2.1 hX hbl hbA hS dL_law_20 ?_
  refine lv_iconst (v := 4) E.1 E.2.1 dL_law_21 (by decide) ?_
  refine lv_isub E.1 E.2.1 dL_law_22 ?_
  refine lv_icmp_gt (tgt := 761) E.1 E.2.1 dL_law_23 (by decide) (fun h => k1 ?_) (fun h => k2 ?_)
  · rw [Int32.lt_iff_toInt_lt, lw_len hL, nI_toInt (by omega)] at h
    omega
  · rw [Int32.lt_iff_toInt_lt, lw_len hL, nI_toInt (by omega)] at h
    omega
set_option maxHeartbeats 2000000 in
set_option maxRecDepth 20000 in
theorem law_turn (E : CallFix p m c cL_law 4 s args lw_good RL) (hK : z_kW G s) (hq : z_inj (gq G)) (hX : va_X b L xs s s.heap) (hbl : b < s.heap.size) (hbA : ¬ z_Aq (gq G) b) (hL : L ≤ 2048) (hi : i + 4 ≤ L) (hR : Rel X M) (hP : z_P G X M H) (hS : z_S G s.heap H locs) (hl : lv_has ls 4 (lwL G b i))
    (kk : ∀ (X' M' : St) (H1 : Heap) (locs1 : List Loc), Rel X' M' → z_P G X' M' H1 → z_S G s.heap H1 locs1 → W p l e room_1 s m args below meth c H1 locs1 102 26091 Q (F0 m 755 ls [])) : W p l e room_1 s m args below meth c H locs 102 26091 Q (F0 m 26 ls []) := by
  refine lv_aload_n E.1 E.2.1 dL_law_26 rfl (lv_at hl 0 rfl) ?_
  refine lv_iload_n E.1 E.2.1 dL_law_27 rfl (lv_at hl 3 rfl) ?_
  refine va_sld E.1 E.2.1 hX hbl hbA hS (nI_in (show i < L by omega) (by omega)) dL_law_28 ?_
  refine lv_bipush (v := 31) E.1 E.2.1 dL_law_29 (by decide) ?_
  refine lv_iand E.1 E.2.1 dL_law_31 ?_
  obtain ⟨k, hk, ek⟩ := pk_andE (xs (nI i).toNatClampNeg) (m := 31) 5 (by decide)
  rw [ek]
  have hk : k < 32 := hk
  rcases (show k = 0 ∨ k = 1 ∨ k = 2 ∨ k = 3 ∨ k = 4 ∨ k = 5 ∨ k = 6 ∨ k = 7 ∨ k = 8 ∨ k = 9 ∨ k = 10 ∨ k = 11 ∨ k = 12 ∨ k = 13 ∨ k = 14 ∨ k = 15 ∨ k = 16 ∨ k = 17 ∨ k = 18 ∨ k = 19 ∨ k = 20 ∨ k = 21 ∨ k = 22 ∨ k = 23 ∨ k = 24 ∨ 25 ≤ k by omega) with hk | hk | hk | hk | hk | hk | hk | hk | hk | hk | hk | hk | hk | hk | hk | hk | hk | hk | hk | hk | hk | hk | hk | hk | hk | hk
  · subst hk
    exact lv_tableIn (off := 116) (tgt := 148) E.1 E.2.1 dL_law_32 (by decide +kernel) (by decide +kernel) (by decide +kernel) (by decide) (lc_letter E hK hq hX hbl hbA hL hi hR hP hS hl kk)
  · subst hk
    exact lv_tableIn (off := 139) (tgt := 171) E.1 E.2.1 dL_law_32 (by decide +kernel) (by decide +kernel) (by decide +kernel) (by decide) (lc_program E hK hq hX hbl hbA hL hi hR hP hS hl kk)
  · subst hk
    exact lv_tableIn (off := 152) (tgt := 184) E.1 E.2.1 dL_law_32 (by decide +kernel) (by decide +kernel) (by decide +kernel) (by decide) (lc_global E hK hq hX hbl hbA hL hi hR hP hS hl kk)
  · subst hk
    exact lv_tableIn (off := 175) (tgt := 207) E.1 E.2.1 dL_law_32 (by decide +kernel) (by decide +kernel) (by decide +kernel) (by decide) (lc_sets E hK hq hX hbl hbA hL hi hR hP hS hl kk)
  · subst hk
    exact lv_tableIn (off := 208) (tgt := 240) E.1 E.2.1 dL_law_32 (by decide +kernel) (by decide +kernel) (by decide +kernel) (by decide) (lc_run E hK hq hX hbl hbA hL hi hR hP hS hl kk)
  · subst hk
    exact lv_tableIn (off := 221) (tgt := 253) E.1 E.2.1 dL_law_32 (by decide +kernel) (by decide +kernel) (by decide +kernel) (by decide) (lc_ended E hK hq hX hbl hbA hL hi hR hP hS hl kk)
  · subst hk
    exact lv_tableIn (off := 244) (tgt := 276) E.1 E.2.1 dL_law_32 (by decide +kernel) (by decide +kernel) (by decide +kernel) (by decide) (lc_code E hK hq hX hbl hbA hL hi hR hP hS hl kk)
  · subst hk
    exact lv_tableIn (off := 267) (tgt := 299) E.1 E.2.1 dL_law_32 (by decide +kernel) (by decide +kernel) (by decide +kernel) (by decide) (lc_cache E hK hq hX hbl hbA hL hi hR hP hS hl kk)
  · subst hk
    exact lv_tableIn (off := 300) (tgt := 332) E.1 E.2.1 dL_law_32 (by decide +kernel) (by decide +kernel) (by decide +kernel) (by decide) (lc_thinks E hK hq hX hbl hbA hL hi hR hP hS hl kk)
  · subst hk
    exact lv_tableIn (off := 323) (tgt := 355) E.1 E.2.1 dL_law_32 (by decide +kernel) (by decide +kernel) (by decide +kernel) (by decide) (lc_with E hK hq hX hbl hbA hL hi hR hP hS hl kk)
  · subst hk
    exact lv_tableIn (off := 366) (tgt := 398) E.1 E.2.1 dL_law_32 (by decide +kernel) (by decide +kernel) (by decide +kernel) (by decide) (lc_solve E hK hq hX hbl hbA hL hi hR hP hS hl kk)
  · subst hk
    exact lv_tableIn (off := 399) (tgt := 431) E.1 E.2.1 dL_law_32 (by decide +kernel) (by decide +kernel) (by decide +kernel) (by decide) (lc_fewest E hK hq hX hbl hbA hL hi hR hP hS hl kk)
  · subst hk
    exact lv_tableIn (off := 432) (tgt := 464) E.1 E.2.1 dL_law_32 (by decide +kernel) (by decide +kernel) (by decide +kernel) (by decide) (lc_pure E hK hq hX hbl hbA hL hi hR hP hS hl kk)
  · subst hk
    exact lv_tableIn (off := 445) (tgt := 477) E.1 E.2.1 dL_law_32 (by decide +kernel) (by decide +kernel) (by decide +kernel) (by decide) (lc_changes E hK hq hX hbl hbA hL hi hR hP hS hl kk)
  · subst hk
    exact lv_tableIn (off := 458) (tgt := 490) E.1 E.2.1 dL_law_32 (by decide +kernel) (by decide +kernel) (by decide +kernel) (by decide) (lc_again E hK hq hX hbl hbA hL hi hR hP hS hl kk)
  · subst hk
    exact lv_tableIn (off := 491) (tgt := 523) E.1 E.2.1 dL_law_32 (by decide +kernel) (by decide +kernel) (by decide +kernel) (by decide) (lc_likely E hK hq hX hbl hbA hL hi hR hP hS hl kk)
  · subst hk
    exact lv_tableIn (off := 525) (tgt := 557) E.1 E.2.1 dL_law_32 (by decide +kernel) (by decide +kernel) (by decide +kernel) (by decide) (lc_mean E hK hq hX hbl hbA hL hi hR hP hS hl kk)
  · subst hk
    exact lv_tableIn (off := 559) (tgt := 591) E.1 E.2.1 dL_law_32 (by decide +kernel) (by decide +kernel) (by decide +kernel) (by decide) (lc_whatIs E hK hq hX hbl hbA hL hi hR hP hS hl kk)
  · subst hk
    exact lv_tableIn (off := 582) (tgt := 614) E.1 E.2.1 dL_law_32 (by decide +kernel) (by decide +kernel) (by decide +kernel) (by decide) (lc_row E hK hq hX hbl hbA hL hi hR hP hS hl kk)
  · subst hk
    exact lv_tableIn (off := 605) (tgt := 637) E.1 E.2.1 dL_law_32 (by decide +kernel) (by decide +kernel) (by decide +kernel) (by decide) (lc_judge E hK hq hX hbl hbA hL hi hR hP hS hl kk)
  · subst hk
    exact lv_tableIn (off := 618) (tgt := 650) E.1 E.2.1 dL_law_32 (by decide +kernel) (by decide +kernel) (by decide +kernel) (by decide) (lc_clear E hK hq hX hbl hbA hL hi hR hP hS hl kk)
  · subst hk
    exact lv_tableIn (off := 631) (tgt := 663) E.1 E.2.1 dL_law_32 (by decide +kernel) (by decide +kernel) (by decide +kernel) (by decide) (lc_lots E hK hq hX hbl hbA hL hi hR hP hS hl kk)
  · subst hk
    exact lv_tableIn (off := 674) (tgt := 706) E.1 E.2.1 dL_law_32 (by decide +kernel) (by decide +kernel) (by decide +kernel) (by decide) (lc_image E hK hq hX hbl hbA hL hi hR hP hS hl kk)
  · subst hk
    exact lv_tableIn (off := 687) (tgt := 719) E.1 E.2.1 dL_law_32 (by decide +kernel) (by decide +kernel) (by decide +kernel) (by decide) (lc_on E hK hq hX hbl hbA hL hi hR hP hS hl kk)
  · subst hk
    exact lv_tableIn (off := 700) (tgt := 732) E.1 E.2.1 dL_law_32 (by decide +kernel) (by decide +kernel) (by decide +kernel) (by decide) (lc_count E hK hq hX hbl hbA hL hi hR hP hS hl kk)
  · exact lv_tableOut (tgt := 755) E.1 E.2.1 dL_law_32 (Or.inr (by rw [nI_toInt (by omega)]; omega)) (by decide) (kk _ _ _ _ hR hP hS)
theorem law_loop (E : CallFix p m c cL_law 4 s #[Value.ref b] lw_good RL) (hr : meth.sig.returnType = ret) (hlk : meth.locks = false) (hK : z_kW G s) (hq : z_inj (gq G)) (hge : ∀ a, z_Aq (gq G) a → s.heap.size ≤ a) (hX : va_X b L xs s s.heap) (hbl : b < s.heap.size) (hL : L ≤ 2048) : ∀ (n i : Nat) (X M : St) (H : Heap) (locs : List Loc) (ls : Array Slot), L + 4 ≤ i + n → i ≤ 2052 → Rel X M → z_P G X M H → z_S G s.heap H locs → lv_has ls 4 (lwL G b i) → W p l e room_1 s m #[Value.ref b] below meth c H locs 102 26091 (lw_Z below #[Value.ref b] s) (F0 m 18 ls []) := by
  have hbA : ¬ z_Aq (gq G) b := fun h => absurd (hge b h) (Nat.not_le.mpr hbl)
  have fin : ∀ (H : Heap) (locs : List Loc) (ls : Array Slot), z_S G s.heap H locs → W p l e room_1 s m #[Value.ref b] below meth c H locs 102 26091 (lw_Z below #[Value.ref b] s) (F0 m 761 ls []) := by
    intro H locs ls hS
    refine va_forget (fun q hq => hge _ (hS.2.2 q hq)) ?_
    refine lv_iconst (v := 1) E.1 E.2.1 dL_law_761 (by decide) ?_
    exact lw_ret E.1 E.2.1 hr hlk dL_law_762
  intro n
  induction n with
  | zero =>
    intro i X M H locs ls hn hi hR hP hS hl
    exact law_head E hX hbl hbA hL (by omega) hS hl (fun _ => fin H locs ls hS) (fun h => absurd h (by omega))
  | succ n ih =>
    intro i X M H locs ls hn hi hR hP hS hl
    refine law_head E hX hbl hbA hL (by omega) hS hl (fun _ => fin H locs ls hS) (fun h => ?_)
    refine law_turn E hK hq hX hbl hbA hL h hR hP hS hl (fun X' M' H1 locs1 hR1 hP1 hS1 => ?_)
    refine lv_iinc (v := nI (i + 4)) (lv' := [(3, .int (nI (i + 4))), (0, .ref b), (1, .ref (gq G 0)), (2, .ref (gq G 65))]) E.1 E.2.1 dL_law_755 hl (k := 3) rfl (nI_add i 4) (by decide) rfl (fun ls hl => ?_)
    refine lv_goto (tgt := 18) E.1 E.2.1 dL_law_758 (by decide) ?_
    exact ih (i + 4) X' M' H1 locs1 ls (by omega) (by omega) hR1 hP1 hS1 (lv_sub hl [1, 2, 3, 0] rfl)
end LP
/-! what the start gives -/
def tmS (i : Nat) : Term := .string RX3 (z_six.getD i 0)
abbrev lwF : List Cond := flatC (Jvm.Cond.and given_1 narrow_1)
theorem fl_ex : ∀ i, i < 7 → Cond.exactly (tmS i) "java/lang/String" ∈ lwF := by decide +kernel
theorem fl_co : ∀ i, i < 7 → Cond.eq (.field (tmS i) "java/lang/String" "coder" "B") (.int 0) ∈ lwF := by decide +kernel
theorem fl_ar : ∀ i, i < 7 → Cond.arrayOf (.field (tmS i) "java/lang/String" "value" "[B") .byte ∈ lwF := by decide +kernel
theorem fl_le : ∀ i, i < 7 → Cond.eq (.length (.field (tmS i) "java/lang/String" "value" "[B")) (.int (Int32.ofNat (z_lens.getD i 0))) ∈ lwF := by decide +kernel
theorem fl_el : ∀ i, i < 7 → ∀ j, j < z_lens.getD i 0 → Cond.eq (.elem (.field (tmS i) "java/lang/String" "value" "[B") (.int (Int32.ofNat j))) (.int ((z_byts.getD i []).getD j 0)) ∈ lwF := by decide +kernel
theorem fl_ne : ∀ j, j < 7 → ∀ i, i < j → Cond.not (Cond.eq (tmS i) (tmS j)) ∈ lwF := by decide +kernel
theorem fl_cs : Cond.eq (.static "java/lang/String" "COMPACT_STRINGS" "Z") (.int 1) ∈ lwF := by decide +kernel
theorem fl_sf : Cond.isRef (.static "jdk/internal/util/Preconditions" "SIOOBE_FORMATTER" "Ljava/util/function/BiFunction;") ∈ lwF := by decide +kernel
theorem tb_cs : Cond.laysStatic "java/lang/String" "COMPACT_STRINGS" "Z" ∈ lw_tbl := List.mem_append_right _ (List.mem_of_getElem? (i := 398) (by decide +kernel))
theorem tb_sf : Cond.laysStatic "jdk/internal/util/Preconditions" "SIOOBE_FORMATTER" "Ljava/util/function/BiFunction;" ∈ lw_tbl := List.mem_append_right _ (List.mem_of_getElem? (i := 414) (by decide +kernel))
theorem tb_s0 : Cond.stringRef RX3 (z_six.getD 0 0) (z_stx.getD 0 "") ∈ lw_tbl := List.mem_append_right _ (List.mem_of_getElem? (i := 378) (by decide +kernel))
theorem tb_s1 : Cond.stringRef RX3 (z_six.getD 1 0) (z_stx.getD 1 "") ∈ lw_tbl := List.mem_append_right _ (List.mem_of_getElem? (i := 379) (by decide +kernel))
theorem tb_s2 : Cond.stringRef RX3 (z_six.getD 2 0) (z_stx.getD 2 "") ∈ lw_tbl := List.mem_append_right _ (List.mem_of_getElem? (i := 380) (by decide +kernel))
theorem tb_s3 : Cond.stringRef RX3 (z_six.getD 3 0) (z_stx.getD 3 "") ∈ lw_tbl := List.mem_append_right _ (List.mem_of_getElem? (i := 381) (by decide +kernel))
theorem tb_s4 : Cond.stringRef RX3 (z_six.getD 4 0) (z_stx.getD 4 "") ∈ lw_tbl := List.mem_append_right _ (List.mem_of_getElem? (i := 382) (by decide +kernel))
theorem tb_s5 : Cond.stringRef RX3 (z_six.getD 5 0) (z_stx.getD 5 "") ∈ lw_tbl := List.mem_append_right _ (List.mem_of_getElem? (i := 383) (by decide +kernel))
theorem tb_s6 : Cond.stringRef RX3 (z_six.getD 6 0) (z_stx.getD 6 "") ∈ lw_tbl := List.mem_append_right _ (List.mem_of_getElem? (i := 384) (by decide +kernel))
theorem tb_s : ∀ i, i < 7 → Cond.stringRef RX3 (z_six.getD i 0) (z_stx.getD i "") ∈ lw_tbl
  | 0, _ => tb_s0
  | 1, _ => tb_s1
  | 2, _ => tb_s2
  | 3, _ => tb_s3
  | 4, _ => tb_s4
  | 5, _ => tb_s5
  | 6, _ => tb_s6
  | _ + 7, h => absurd h (by omega)
theorem tb_n : ∀ w ∈ lw_nest, w ∈ lw_tbl := by decide +kernel
set_option maxHeartbeats 8000000 in
set_option maxRecDepth 100000 in
/-- the law, from its entry -/
theorem whole_start {p : Program} {e : Env} {s : State} {m : MethodId} {below : List Frame} {meth : Method} {c : Code} (l : Launch) (hflags : l.flags = flags0) {b L : Nat} {xs : Nat → Int32} (hL : L ≤ 2048) (C0 : lw_At p s m meth c b L xs) : W p l e room_1 s m #[Value.ref b] below meth c s.heap [] 0 0 (lw_Z below #[Value.ref b] s) (entryFrame m ([Value.ref b] : List Value).toArray 4) := by
  obtain ⟨hx, hb, hr, hml, hown, hts, hX, hbl, hlk, hgv⟩ := id C0
  have hg : ∀ w ∈ lw_good, w.before #[Value.ref b] s = true := fun w h => hts w (List.mem_filter.mp h).1
  have hown : s.vm.findClass RL = some m.cls := hown
  have E : CallFix p m c cL_law 4 s #[Value.ref b] lw_good RL := ⟨hx, hb, hml, hown, hg⟩
  have hF := flat_of_before _ hgv
  have hA0 : ∀ a : Nat, a < s.heap.size → ¬ (fun a => s.heap.size ≤ a) a := fun a h => Nat.not_le.mpr h
  obtain ⟨c0, i0, k0⟩ := u_known (C := RX0) (T := TX0) (N := 3) (n := 3) hg iwX0 (hg _ tw68)
  obtain ⟨c1, i1, k1⟩ := u_known (C := RX1) (T := TX1) (N := 4) (n := 4) hg iwX1 (hg _ tw161)
  obtain ⟨c2, i2, k2⟩ := u_known (C := RX2) (T := TX2) (N := 7) (n := 7) hg iwX2 (hg _ tw84)
  obtain ⟨c3, i3, k3⟩ := u_known (C := RX3) (T := TX3) (N := 8) (n := 8) hg iwX3 (hg _ tw267)
  obtain ⟨c4, i4, k4⟩ := u_known (C := RX4) (T := TX4) (N := 13) (n := 13) hg iwX4 (hg _ tw151)
  obtain ⟨c5, i5, k5⟩ := u_known (C := RX5) (T := TX5) (N := 8) (n := 8) hg iwX5 (hg _ tw34)
  obtain ⟨c6, i6, k6⟩ := u_known (C := RX6) (T := TX6) (N := 6) (n := 6) hg iwX6 (hg _ tw28)
  obtain ⟨c7, i7, k7⟩ := u_known (C := RX7) (T := TX7) (N := 4) (n := 4) hg iwX7 (hg _ tw180)
  obtain ⟨c8, i8, k8⟩ := u_known (C := RX8) (T := TX8) (N := 5) (n := 5) hg iwX8 (hg _ tw199)
  obtain ⟨c9, i9, k9⟩ := u_known (C := RX9) (T := TX9) (N := 9) (n := 9) hg iwX9 (hg _ tw20)
  obtain ⟨c10, i10, k10⟩ := u_known (C := RX10) (T := TX10) (N := 75) (n := 75) hg iwX10 (hg _ tw926)
  obtain ⟨D, hKc⟩ : ∃ D : va_G, ∀ (k : Nat) (q : vw_C), vwC[k]? = some q → u_Kn s q.1 q.2.1 q.2.2 (D.1 k) (D.2 k) := by
    refine ⟨(fun k => ([c0, c1, c2, c3, c4, c5, c6, c7, c8, c9, c10] : List ClassId).getD k c0, fun k => ([i0, i1, i2, i3, i4, i5, i6, i7, i8, i9, i10] : List (Nat → Nat)).getD k i0), ?_⟩
    intro k q hq
    match k, hq with
    | 0, hq => cases hq; exact k0
    | 1, hq => cases hq; exact k1
    | 2, hq => cases hq; exact k2
    | 3, hq => cases hq; exact k3
    | 4, hq => cases hq; exact k4
    | 5, hq => cases hq; exact k5
    | 6, hq => cases hq; exact k6
    | 7, hq => cases hq; exact k7
    | 8, hq => cases hq; exact k8
    | 9, hq => cases hq; exact k9
    | 10, hq => cases hq; exact k10
    | k + 11, hq => simp [vwC] at hq
  obtain ⟨cy, kA, comp, a1, a2, a3⟩ := Cond.arrayClass_spec (hg _ tw66)
  have hK : va_K D vwC [(cy, .int)] s := by
    refine ⟨hKc, fun k q h => ?_⟩
    match k, h with
    | 0, h => cases h; exact ⟨fun n z => ⟨fun k h => (by cases h), kA, a2, comp, a3⟩, a1⟩
    | k + 1, h => simp at h
  have hI : kI D cy s := by
    refine ⟨hK, fun w hw => ?_⟩
    obtain ⟨x1, x2, x3, x4, rfl⟩ := z_nestw hw
    exact va_Nw.of rfl (hts _ (tb_n _ hw))
  obtain ⟨sx, sy, hS7, hev⟩ := vk_Sof (args := #[Value.ref b]) (s := s) (N := 7) (tm := tmS) (len := z_lens) (byt := z_byts) (A := fun a => s.heap.size ≤ a) (by decide +kernel) (fun i hi => hF _ (fl_ex i hi)) (fun i hi => hF _ (fl_co i hi)) (fun i hi => hF _ (fl_ar i hi)) (fun i hi => hF _ (fl_le i hi)) (fun i hi j hj => hF _ (fl_el i hi j hj)) (fun i j hi hj hij => by
    rcases Nat.lt_or_gt_of_ne hij with h | h
    · exact Or.inl (hF _ (fl_ne j hj i h))
    · exact Or.inr (hF _ (fl_ne i hi j h))) hA0
  have hZ : kS sx sy (fun a => s.heap.size ≤ a) s s.heap := ⟨⟨hS7, va_Zof (hts _ tb_cs) (hg _ tw12) (va_eqt (hF _ fl_cs)) hA0, va_Zqof (hts _ tb_sf) (hg _ tw14) (hF _ fl_sf) hA0⟩, fun i hi => vk_R.of (hts _ (tb_s i hi)) (hev i hi)⟩
  have hS : va_S (fun a => s.heap.size ≤ a) s.heap s.heap [] := va_S.rf
  have hA : ∀ q, s.heap.size ≤ q → (fun a => s.heap.size ≤ a) q := fun _ h => h
  have hP : va_P D vwC [] s.heap := fun k q h => by simp at h
  have hD : va_D (fun a => s.heap.size ≤ a) [] := ⟨fun i j p q h => by simp at h, fun k q h => by simp at h⟩
  have hl := lv_entry ([.ref b]) (n := 4) (Nat.le_of_ble_eq_true rfl)
  rw [lg_entry_eq]
  generalize (lg_sl ([.ref b]) ++ List.replicate (4 - (lg_sl ([.ref b])).length) Slot.unset).toArray = ls at hl ⊢
  have hl : lv_has ls 4 [(0, .ref b)] := hl
  refine z_iNewM (Cj := RX9) (Tj := TX9) (Nj := 9) (i2 := 9) E hI hP hD hS hA hl.1 (i_X9 l D cy) iwX9 tyX9 tyX9_ok rfl tw19 tw20 tw1 tw22 tw23 ⟨rfl, rfl⟩ (by decide +kernel) dfX9 tw21 ⟨(Nat.le_of_ble_eq_true rfl), (Nat.le_of_ble_eq_true rfl)⟩ (Nat.le_of_ble_eq_true rfl) (Nat.le_of_ble_eq_true rfl) (Nat.le_of_ble_eq_true rfl) dL_law_0 dL_law_3 dL_law_4 (fun q1 w1 H locs hw hP hD hS => ?_)
  obtain ⟨qx, hq0, etw⟩ := rX9_w hw
  have hP : va_P D vwC w1 H := hP
  have hD : va_D (fun a => s.heap.size ≤ a) w1 := hD
  refine lv_astore_n (lv' := [(1, .ref q1), (0, .ref b)]) E.1 E.2.1 dL_law_7 rfl hl (by decide) rfl (fun ls hl => ?_)
  refine va_new (ci := 10) (fs := [.null, .null, .null, .null, .null, .null, .int 0, .int 0, .int 0, .null, .null, .null, .null, .null, .null, .int 0, .int 0, .int 0, .int 0, .int 0, .int 0, .int 0, .int 0, .int 0, .null, .null, .null, .null, .null, .int 0, .int 0, .int 0, .int 0, .int 0, .int 0, .int 0, .null, .null, .null, .null, .null, .null, .null, .null, .null, .null, .int 0, .int 0, .int 0, .int 0, .null, .null, .null, .null, .null, .int 0, .int 0, .int 0, .int 0, .int 0, .int 0, .int 0, .int 0, .int 0, .int 0, .int 0, .null, .null, .null, .int 0, .int 0, .null, .int 0, .int 0, .int 0]) (C := RX10) (T := TX10) (N := 75) E.1 E.2.1 hg iwX10 tyX10 tyX10_ok hown (hg _ tw925) (hg _ tw926) (hg _ tw11) hK hP hD hS hA rfl dfX10 (Nat.le_of_ble_eq_true rfl) (Nat.le_of_ble_eq_true rfl) dL_law_8 (fun h0 H hP hD hS => ?_)
  refine lv_dup E.1 E.2.1 dL_law_11 rfl ?_
  have hP2 : va_P D vwC ((h0, .inr (10, [.null, .null, .null, .null, .null, .null, .int 0, .int 0, .int 0, .null, .null, .null, .null, .null, .null, .int 0, .int 0, .int 0, .int 0, .int 0, .int 0, .int 0, .int 0, .int 0, .null, .null, .null, .null, .null, .int 0, .int 0, .int 0, .int 0, .int 0, .int 0, .int 0, .null, .null, .null, .null, .null, .null, .null, .null, .null, .null, .int 0, .int 0, .int 0, .int 0, .null, .null, .null, .null, .null, .int 0, .int 0, .int 0, .int 0, .int 0, .int 0, .int 0, .int 0, .int 0, .int 0, .int 0, .null, .null, .null, .int 0, .int 0, .null, .int 0, .int 0, .int 0])) :: w1) H := P_fr hP
  have hD2 : va_D (fun a => s.heap.size ≤ a) ((h0, .inr (10, [.null, .null, .null, .null, .null, .null, .int 0, .int 0, .int 0, .null, .null, .null, .null, .null, .null, .int 0, .int 0, .int 0, .int 0, .int 0, .int 0, .int 0, .int 0, .int 0, .null, .null, .null, .null, .null, .int 0, .int 0, .int 0, .int 0, .int 0, .int 0, .int 0, .null, .null, .null, .null, .null, .null, .null, .null, .null, .null, .int 0, .int 0, .int 0, .int 0, .null, .null, .null, .null, .null, .int 0, .int 0, .int 0, .int 0, .int 0, .int 0, .int 0, .int 0, .int 0, .int 0, .int 0, .null, .null, .null, .int 0, .int 0, .null, .int 0, .int 0, .int 0])) :: w1) := D_fr hD
  obtain ⟨M2, hb2, hrel⟩ := rel_0 (N := 5000) (Nat.le_of_ble_eq_true rfl)
  refine va_callv (va_runI (As := []) (rest := [.ref h0]) E (i_X10 l D cy sx sy qx s.heap.size hb2 h0 etw) ⟨callB_of 0 hg (z_goodIn tw929) rfl rfl rfl (hg _ tw11) (hg _ tw927) (by decide +kernel) ⟨(Nat.le_of_ble_eq_true rfl), (Nat.le_of_ble_eq_true rfl)⟩, rfl, hg _ tw928⟩ ⟨fun a U g mk h => ⟨h.1, h.2.1, h.2.2.1, h.2.2.2.1.blind g mk a, h.2.2.2.2.1.blind g mk a, h.2.2.2.2.2⟩, fun U hU hW => ⟨rfl, by rw [hU]; exact hP2, hD2, hI.warm hW, by rw [hU]; exact hZ.go hW hS.2.1, by rw [hU]; exact hS.1⟩⟩ rfl rfl hl.1 rfl (lv_room (Nat.le_of_ble_eq_true rfl)) dL_law_12 ⟨(Nat.le_of_ble_eq_true rfl), (Nat.le_of_ble_eq_true rfl)⟩) hS (fun x _ h => h) (fun x h => h) (fun q t H1 locs1 ht1 hvm hw1 hB hz1 hk1 hS1 => ?_)
  obtain ⟨hinj, hge, e0, e65⟩ := hw1
  subst ht1
  refine W.widen (k := 102) (n := 26091) (Nat.le_of_ble_eq_true rfl) (Nat.le_of_ble_eq_true rfl) ?_
  refine va_forget hS1.2.2 ?_
  refine lv_astore_n (lv' := [(2, .ref h0), (1, .ref q1), (0, .ref b)]) E.1 E.2.1 dL_law_15 rfl hl (by decide) rfl (fun ls hl => ?_)
  refine lv_iconst (v := 0) E.1 E.2.1 dL_law_16 (by decide) ?_
  refine lv_istore_n (lv' := [(3, .int 0), (2, .ref h0), (1, .ref q1), (0, .ref b)]) E.1 E.2.1 dL_law_17 rfl hl (by decide) rfl (fun ls hl => ?_)
  have hAq : ∀ a, z_Aq (gq ((D, q, cy, sx, sy) : Cx)) a → s.heap.size ≤ a := fun a ⟨k, hk, e⟩ => by rw [← e]; exact hge k hk
  have hl : lv_has ls 4 (lwL ((D, q, cy, sx, sy) : Cx) b 0) := by
    show lv_has ls 4 [(0, .ref b), (1, .ref (q 0)), (2, .ref (q 65)), (3, .int (nI 0))]
    rw [e0, e65, hq0, nI_0]
    exact lv_sub hl [3, 2, 1, 0] rfl
  exact law_loop (G := (D, q, cy, sx, sy)) E hr hlk (hZ.kW hI hAq) hinj hAq hX hbl hL (L + 4) 0 X0 M2 _ [] ls (by omega) (by omega) hrel hB ⟨hS1.1, fun a h1 _ => hS1.2.1 a h1 (Nat.not_le.mpr h1), fun _ h => by cases h⟩ hl
