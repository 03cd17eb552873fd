/-! the JDK's own methods: Math.min, Math.max; the texts' length, isEmpty, charAt -/
theorem z_ymin : yJ9_min_7cf53 = Lib.Math.min.name := by decide +kernel
theorem z_cmin : cJ9_min_7cf53 = Lib.Math.min.code := by decide +kernel
theorem z_ymax : yJ9_max_7cf53 = Lib.Math.max.name := by decide +kernel
theorem z_cmax : cJ9_max_7cf53 = Lib.Math.max.code := by decide +kernel
section ZJ
variable {p : Program} {l : Launch} {e : Env} {R : Room} {s : State} {m : MethodId} {args : Array Value} {below : List Frame} {meth : Method} {c : Code} {H : Heap} {locs : List Loc} {cells slots : Nat} {Q : State → Prop}
variable {cc : ByteArray} {nL pc : Nat} {ls : Array Slot} {rest : List Value} {G : Cx} {X M X' M' : St} {own : String} {H0 : Heap}
theorem z_mmin (E : CallFix p m c cc nL s args lw_good own) (hls : ls.size = nL) {index : Nat} (hlink : Cond.methodLink own index yJ9_min_7cf53 ∈ lw_good) (hfr : 1 ≤ R.frames) (hlo : (rest.map fun v => v.category).sum + 13 ≤ R.locals) (hcs : cells ≤ R.cells ∧ slots ≤ R.slots) {x y : Int32} (hdg : decode cc pc = .ok (.invokestatic index, 3))
    (kk : W p l e R s m args below meth c H locs cells slots Q (F0 m (pc + 3) ls (.int (if y < x then y else x) :: rest))) : W p l e R s m args below meth c H locs cells slots Q (F0 m pc ls (.int y :: .int x :: rest)) := by
  have ht := E.2.2.2.2
  refine va_mmin E.1 E.2.1 (by rw [hls]; exact E.2.2.1) E.2.2.2.1 (by rw [← z_ymin]; exact ht _ hlink) (by rw [← z_ymin]; exact ht _ tw524) (ht _ tw16) (by rw [← z_ymin, ← z_cmin]; exact ht _ tw525) hfr hlo hcs.1 hcs.2 hdg kk
theorem z_mmax (E : CallFix p m c cc nL s args lw_good own) (hls : ls.size = nL) {index : Nat} (hlink : Cond.methodLink own index yJ9_max_7cf53 ∈ lw_good) (hfr : 1 ≤ R.frames) (hlo : (rest.map fun v => v.category).sum + 13 ≤ R.locals) (hcs : cells ≤ R.cells ∧ slots ≤ R.slots) {x y : Int32} (hdg : decode cc pc = .ok (.invokestatic index, 3))
    (kk : W p l e R s m args below meth c H locs cells slots Q (F0 m (pc + 3) ls (.int (if x < y then y else x) :: rest))) : W p l e R s m args below meth c H locs cells slots Q (F0 m pc ls (.int y :: .int x :: rest)) := by
  have ht := E.2.2.2.2
  refine va_mmax E.1 E.2.1 (by rw [hls]; exact E.2.2.1) E.2.2.2.1 (by rw [← z_ymax]; exact ht _ hlink) (by rw [← z_ymax]; exact ht _ tw660) (ht _ tw16) (by rw [← z_ymax, ← z_cmax]; exact ht _ tw661) hfr hlo hcs.1 hcs.2 hdg kk
/-- a call on a text -/
theorem z_runVS (E : CallFix p m c cc nL s args lw_good own) (hK : z_kW G s) (hP : z_P G X M H) (hS : z_S G s.heap H locs) {y : MethodName} {bytes : ByteArray} {maxL n f t index i : Nat} {rt : Option FieldType} {As : List Value} {Qc : Array Value → State → Outcome → State → Prop}
    (hM : i < 7 ∧ z_Ct l y bytes maxL rt f t G X M (.ref (G.2.2.2.1 i) :: As) Qc) (hv : z_cv y bytes maxL rt RJ0 n) (hlink : Cond.methodLink own index y ∈ lw_good) (hn : As.length = n) (hR : f + 1 ≤ R.frames ∧ 8 + (maxL + 11) + t ≤ R.locals) (hf : cells + 0 ≤ R.cells ∧ slots + 0 ≤ R.slots) (hls : ls.size = nL) (hrest : (rest.map fun v => v.category).sum ≤ 8) {st0 : List Value} (hst : st0 = As.reverse ++ .ref (G.2.2.2.1 i) :: rest) (hdg : decode cc pc = .ok (.invokevirtual index, 3)) :
    va_Run p l e R s m args below meth c H locs cells slots 0 0 (F0 m pc ls st0) rest (Qc (Value.ref (G.2.2.2.1 i) :: As).toArray) (z_Aq (gq G)) := by
  obtain ⟨⟨hi, hse⟩, hco, hini, hd⟩ := hv
  have ht := E.2.2.2.2
  refine va_runV E hM.2 ⟨callB_of n ht (z_goodIn hco) rfl rfl rfl (ht _ hini) (ht _ hlink) hd hR, ht _ hi, ht _ hse⟩ ⟨z_blind, vk_recv hK.2.2.1.1 hM.1 hS, fun U hU hW => ⟨rfl, by rw [hU]; exact hP, hK.warm (locs := locs) hW (by rw [hU]; exact hS)⟩⟩ rfl hn hls (by rw [← hst]) (lv_room hrest) hdg hf
end ZJ
