/-! what is between the two memories at the start -/
def VlB (o k : Nat) : Bool := decide ((o = 0 ∧ 8 ≤ k ∧ k ≤ 11) ∨ (1 ≤ o ∧ o ≤ 4 ∧ k < 4) ∨ (5 ≤ o ∧ o ≤ 7 ∧ k < 2))
theorem vlB {o k : Nat} (h : Vl o k) : o < 8 ∧ k < 12 ∧ VlB o k = true := by
  unfold Vl at h
  exact ⟨by omega, by omega, decide_eq_true h⟩
def f00 (i : Nat) : Nat := if i = 3 then 1 else (mz10 1 i).toNatClampNeg
theorem f00_RA : RA (mz10 1) f00 := by
  constructor
  · have : ∀ i, i < 42 → (i ≠ 3 → mz10 1 i = nI (f00 i)) := by decide +kernel
    exact fun i hi h => this i hi h
  · decide +kernel
theorem f00_CR : CR cz 1 f00 := by
  have key : ∀ o, o < 8 → ∀ k, k < 12 → (VlB o k = true → cz (1 + o) k = if o = 0 ∧ k = 10 then nI (f00 3) - 1 else nI (f00 (fl o k))) := by decide +kernel
  intro o k hv
  have hb := vlB hv
  exact key o hb.1 k hb.2.1 hb.2.2
theorem f00_Inv : Inv f00 := by
  refine ⟨by decide +kernel, by decide +kernel, by decide +kernel, fun k hk => ?_, ?_, ?_⟩
  · have z0 : f00 0 = 0 := by decide +kernel
    omega
  · have : ∀ p, p < 4 → (f00 (20 + 4 * p) < 9 ∧ 1 ≤ f00 (21 + 4 * p) ∧ f00 (21 + 4 * p) ≤ 4 ∧ f00 (22 + 4 * p) ≤ 99 ∧ f00 (23 + 4 * p) ≤ 1) := by decide +kernel
    exact this
  · have : ∀ s, s < 2 → (f00 (36 + 3 * s) ≤ 1 ∧ f00 (37 + 3 * s) ≤ 3) := by decide +kernel
    exact this
theorem All_start {ρ : RM} {kf : KF} (h1 : ∀ c, c ≠ 45 → ρ c = fun _ => none) (h2 : ∀ k, k < 8 → ∃ q, ρ 45 k = some q ∧ kf q = some (k, nI 0)) : All cz ρ kf mz10 := by
  have z0 : f00 0 = 0 := by decide +kernel
  refine ⟨⟨f00, f00_Inv, by decide +kernel, f00_CR, fun k hk => absurd hk (by omega), f00_RA⟩, Or.inl ⟨by decide +kernel, by decide +kernel⟩, fun d hd => Or.inl ⟨?_, ?_, ?_⟩, h2⟩
  · exact k8 (P := fun d => mz10 7 d = 0) (by decide +kernel) (by decide +kernel) (by decide +kernel) (by decide +kernel) (by decide +kernel) (by decide +kernel) (by decide +kernel) (by decide +kernel) hd
  · exact k8 (P := fun d => cz (29 + 2 * d) 2 = -1) (by decide +kernel) (by decide +kernel) (by decide +kernel) (by decide +kernel) (by decide +kernel) (by decide +kernel) (by decide +kernel) (by decide +kernel) hd
  · rw [h1 _ (by omega)]
