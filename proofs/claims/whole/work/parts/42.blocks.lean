/-! how a turn ends: an expression begins, a value, a fault -/
section
variable {N : Nat} {X M X0 M0 : St} {z h st dp cn tn vn fn μ : Nat} {θ : Nat → Nat}
theorem j_begin {e : Nat} {a b c : Int32} (hB : RB X M z h st dp cn tn vn fn θ) (he : e < z) (hf : FR a b cn) (h12 : X 29 12 = 0) (h5 : X 35 5 = 0) (hc : c = X 8 e) (hp : fn + phi 2 1 0 (X 47) h + 1 ≤ 2 * st + 1) (hμ : 10 * (400 - st) + phi 7 5 3 (X 47) h + 1 ≤ μ) (hX : FX X0 X) (hM : FM M0 M) : JJ X0 M0 z μ (f_X4_begin N (nI e) a X) (f_X10_makes N (nI (z - 1 - e)) b c M) := by
  refine ⟨_, _, x_begin, m_makes, Or.inl ⟨h, st, dp, cn, tn, vn, fn, θ, hB, ⟨rfl, rfl, h12, h5, e, he, rfl, rfl, hf, hc⟩, hp, hμ⟩, ?_, ?_⟩
  · exact ((hX.wr (by omega) (by omega)).wr (by omega) (by omega)).wr (by omega) (by omega)
  · exact (((hM.wf (by omega)).wf (by omega)).wf (by omega)).wf (by omega)
theorem j_give {a b : Int32} (hB : RB X M z h st dp cn tn vn fn θ) (hv : gV M θ tn vn a b) (h12 : X 29 12 = 0) (h5 : X 35 5 = 0) (hp : fn + phi 2 1 0 (X 47) h ≤ 2 * st + 1) (hμ : 10 * (400 - st) + phi 7 5 3 (X 47) h ≤ μ) (hX : FX X0 X) (hM : FM M0 M) : JJ X0 M0 z μ (f_X4_give N a X) (f_X10_has N b M) := by
  refine ⟨_, _, x_give, m_has, Or.inr (Or.inl ⟨h, st, dp, cn, tn, vn, fn, θ, hB, ⟨rfl, rfl, h12, h5, hv⟩, hp, hμ⟩), ?_, ?_⟩
  · exact (hX.wr (by omega) (by omega)).wr (by omega) (by omega)
  · exact (hM.wf (by omega)).wf (by omega)
theorem j_keep (hB : RB X M z h st dp cn tn vn fn θ) (hD : D1 X M tn vn θ) (hp : fn + phi 2 1 0 (X 47) h ≤ 2 * st + 1) (hμ : 10 * (400 - st) + phi 7 5 3 (X 47) h ≤ μ) (hX : FX X0 X) (hM : FM M0 M) : JJ X0 M0 z μ (some X) (some M) :=
  ⟨_, _, rfl, rfl, Or.inr (Or.inl ⟨h, st, dp, cn, tn, vn, fn, θ, hB, hD, hp, hμ⟩), hX, hM⟩
theorem j_keepF (hB : RB X M z h st dp cn tn vn fn θ) (hD : D2 X M fn h st) (hp : fn + phi 2 1 0 (X 47) h ≤ 2 * st + 1) (hμ : 10 * (400 - st) + phi 7 5 3 (X 47) h ≤ μ) (hX : FX X0 X) (hM : FM M0 M) : JJ X0 M0 z μ (some X) (some M) :=
  ⟨_, _, rfl, rfl, Or.inr (Or.inr ⟨h, st, dp, cn, tn, vn, fn, θ, hB, hD, hp, hμ⟩), hX, hM⟩
theorem j_fail {c : Int32} (hcr : -9999 ≤ c ∧ c ≤ 9999) (hB : RB X M z h st dp cn tn vn fn θ) (hp : fn + 1 + phi 2 1 0 (X 47) h ≤ 2 * st + 1) (hμ : 10 * (400 - st) + phi 7 5 3 (X 47) h ≤ μ) (hX : FX X0 X) (hM : FM M0 M) : JJ X0 M0 z μ (f_X4_fail N c X) (f_X10_fails N c M) := by
  obtain ⟨b1, b2, b3, b4, b5, b6, b7, b8⟩ := hB
  have e49 : M 65 49 = nI fn := b2.2.2.2.2.2.2.2.2.2.2.2.2.2.2.2.2.2
  have hst : st ≤ 400 := b2.2.2.2.2.1
  have hhs : h ≤ st := b2.2.2.2.1
  refine ⟨_, _, x_fail, m_fails e49 (by omega), Or.inr (Or.inr ⟨h, st, dp, cn, tn, vn, fn + 1, θ, ⟨b1, ?_, b3, b4, b5, b6, b7, b8⟩, ⟨rfl, rfl, rfl, 0, fn, rfl, rfl, by omega, by omega, ⟨?_, ?_⟩, hcr⟩, hp, hμ⟩), ?_, ?_⟩
  · obtain ⟨a1, a2, a3, a4, a5, a6, a7, a8, a9, a10, a11, a12, a13, a14, a15, a16, a17, a18⟩ := b2
    exact ⟨a1, a2, a3, a4, a5, a6, a7, a8, a9, a10, a11, a12, a13, a14, a15, a16, a17, rfl⟩
  · exact q_up_s
  · exact q_up_s
  · exact (((hX.wr (by omega) (by omega)).wr (by omega) (by omega)).wr (by omega) (by omega)).wr (by omega) (by omega)
  · exact ((((hM.wf (by omega)).wr (by omega)).wr (by omega)).wf (by omega)).wf (by omega)
end
