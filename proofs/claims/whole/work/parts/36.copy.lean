/-! copies, become -/
theorem R_copies_loop {μ : IM} {r0 r1 : Nat} (hne : r0 ≠ r1) : ∀ (m n x : Nat) (ν : IM), x + m = 42 → m < n → (∀ i, i ≠ r1 → ν i = μ i) → (∀ j, j < x → ν r1 j = μ r0 j) → ∃ μ', X12_copies_b2 r0 r1 n (nI x) ν = some μ' ∧ (∀ i, i ≠ r1 → μ' i = μ i) ∧ ∀ j, j < 42 → μ' r1 j = μ r0 j := by
  intro m
  induction m with
  | zero =>
    intro n x ν hx hn h1 h2
    obtain ⟨n, rfl⟩ : ∃ n', n = n' + 1 := ⟨n - 1, by omega⟩
    refine ⟨ν, ?_, h1, fun j hj => h2 j (by omega)⟩
    show X12_copies_s2 r0 r1 _ (nI x) ν = _
    unfold X12_copies_s2
    rw [if_pos (show (42 : Int32) ≤ nI x from nI_le (a := 42) (by omega) (by omega))]
  | succ m ih =>
    intro n x ν hx hn h1 h2
    obtain ⟨n, rfl⟩ : ∃ n', n = n' + 1 := ⟨n - 1, by omega⟩
    show ∃ μ', X12_copies_s2 r0 r1 (X12_copies_b2 r0 r1 n) (nI x) ν = some μ' ∧ _
    unfold X12_copies_s2
    rw [if_neg (show ¬ (42 : Int32) ≤ nI x from fun q => absurd ((nI_leI (a := 42) (by omega) (by omega)).mp q) (by omega)), rdN (by omega) (by omega), wrN (by omega) (by omega), nI_1, bd_e]
    refine ih n (x + 1) _ (by omega) (by omega) (fun i hi => by rw [up2_o hi, h1 i hi]) (fun j hj => ?_)
    by_cases e : j = x
    · rw [e, up2_ss, h1 r0 hne]
    · rw [up2_oo (Or.inr e), h2 j (by omega)]
theorem R_copies {μ : IM} {r0 r1 : Nat} (hne : r0 ≠ r1) : ∃ μ', X12_copies μ r0 r1 = some μ' ∧ (∀ i, i ≠ r1 → μ' i = μ i) ∧ ∀ j, j < 42 → μ' r1 j = μ r0 j :=
  R_copies_loop hne 42 1000 0 μ (by omega) (by omega) (fun _ _ => rfl) (fun j hj => absurd hj (by omega))
theorem RA.eq {a b : Nat → Int32} {f : Nat → Nat} (h : RA a f) (e : ∀ j, j < 42 → b j = a j) : RA b f := ⟨fun i hi h3 => by rw [e i hi]; exact h.1 i hi h3, by rw [e 3 (by omega)]; exact h.2⟩
theorem acN {β : Type} {σ : IM} {i ni j nj m : Nat} {n : Int32} {k : IM → Option β} (hn : n = nI m) (h1 : m ≤ ni) (h2 : m ≤ nj) (hm : m < 1000) : ac σ i ni j nj 0 0 n k = k (va_up σ j (va_cpy (σ i) (σ j) 0 0 m)) := by
  subst hn
  unfold ac
  have z : (0 : Int32).toNatClampNeg = 0 := rfl
  rw [nI_clamp (by omega), z, if_neg]
  rintro (q | q | q | q | q)
  · exact absurd q (by decide)
  · exact absurd q (by decide)
  · exact nI_pos (by omega) q
  · omega
  · omega
theorem C_become_loop {kf : KF} {c0 c1 : Nat} {f : Nat → Nat} {ρ : RM} (hne : c1 + 8 ≠ c0 + 8) (hS : SR ρ kf c1 f) (hN : f 0 ≤ 8) {σ : IM} (hk : σ c0 8 = nI (f 0)) : ∀ (m n x : Nat) (τ : RM), x + m = f 0 → m < n → (∀ i, i ≠ c0 + 8 → τ i = ρ i) → (∀ j, j < x → τ (c0 + 8) j = ρ (c1 + 8) j) → ∃ ρ', X1_become_b108 kf c0 c1 n (nI x) σ τ = some (up2 (up2 (up2 σ c0 9 (σ c1 9)) c0 10 (up2 σ c0 9 (σ c1 9) c1 10)) c0 11 (up2 (up2 σ c0 9 (σ c1 9)) c0 10 (up2 σ c0 9 (σ c1 9) c1 10) c1 11), ρ') ∧ (∀ i, i ≠ c0 + 8 → ρ' i = ρ i) ∧ ∀ j, j < f 0 → ρ' (c0 + 8) j = ρ (c1 + 8) j := by
  intro m
  induction m with
  | zero =>
    intro n x τ hx hn h1 h2
    obtain ⟨n, rfl⟩ : ∃ n', n = n' + 1 := ⟨n - 1, by omega⟩
    refine ⟨τ, ?_, h1, fun j hj => h2 j (by omega)⟩
    show X1_become_s108 kf c0 c1 _ (nI x) σ τ = _
    unfold X1_become_s108
    rw [if_pos (by rw [hk]; exact nI_le (by omega) (by omega))]
    rfl
  | succ m ih =>
    intro n x τ hx hn h1 h2
    obtain ⟨n, rfl⟩ : ∃ n', n = n' + 1 := ⟨n - 1, by omega⟩
    obtain ⟨q, e1, e2⟩ := hS x (by omega)
    show ∃ ρ', X1_become_s108 kf c0 c1 (X1_become_b108 kf c0 c1 n) (nI x) σ τ = _ ∧ _
    unfold X1_become_s108
    rw [if_neg (by rw [hk]; exact fun q => absurd ((nI_leI (by omega) (by omega)).mp q) (by omega)), rqN (by omega) (by omega), h1 _ hne, e1, bd1_s]
    have w : ∀ (K : RM → Option (IM × RM)), wq kf τ (c0 + 8) 8 (nI x) q K = K (upr τ (c0 + 8) x (some q)) := by
      intro K
      unfold wq
      rw [if_neg (nI_in (by omega) (by omega)), nI_clamp (by omega), e2, bd1_s]
    rw [w, nI_1, bd_e]
    refine ih n (x + 1) _ (by omega) (by omega) (fun i hi => by rw [upr_o hi, h1 i hi]) (fun j hj => ?_)
    rw [upr_i]
    by_cases e : j = x
    · rw [e, va_up_self, e1]
    · rw [va_up_ne _ _ e, h2 j (by omega)]
theorem C_become {kf : KF} {σ : IM} {ρ : RM} {c0 c1 : Nat} {f : Nat → Nat} (hd : c1 + 8 < c0 ∨ c0 + 8 < c1) (h : CR σ c1 f) (hS : SR ρ kf c1 f) (hN : f 0 ≤ 8) : ∃ σ' ρ', X1_become kf σ ρ c0 c1 = some (σ', ρ') ∧ CR σ' c0 f ∧ SR ρ' kf c0 f ∧ (∀ i, i < c0 ∨ c0 + 7 < i → σ' i = σ i) ∧ ∀ i, i ≠ c0 + 8 → ρ' i = ρ i := by
  have c4 : (4 : Int32) = nI 4 := rfl
  have c2 : (2 : Int32) = nI 2 := rfl
  unfold X1_become
  rw [acN c4 (by omega) (by omega) (by omega), acN c4 (by omega) (by omega) (by omega), acN c4 (by omega) (by omega) (by omega), acN c4 (by omega) (by omega) (by omega), acN c2 (by omega) (by omega) (by omega), acN c2 (by omega) (by omega) (by omega), acN c2 (by omega) (by omega) (by omega), bd_e]
  obtain ⟨σ1, e1⟩ : ∃ z, z = va_up σ (c0 + 1) (va_cpy (σ (c1 + 1)) (σ (c0 + 1)) 0 0 4) := ⟨_, rfl⟩
  rw [← e1]
  obtain ⟨σ2, e2⟩ : ∃ z, z = va_up σ1 (c0 + 2) (va_cpy (σ1 (c1 + 2)) (σ1 (c0 + 2)) 0 0 4) := ⟨_, rfl⟩
  rw [← e2]
  obtain ⟨σ3, e3⟩ : ∃ z, z = va_up σ2 (c0 + 3) (va_cpy (σ2 (c1 + 3)) (σ2 (c0 + 3)) 0 0 4) := ⟨_, rfl⟩
  rw [← e3]
  obtain ⟨σ4, e4⟩ : ∃ z, z = va_up σ3 (c0 + 4) (va_cpy (σ3 (c1 + 4)) (σ3 (c0 + 4)) 0 0 4) := ⟨_, rfl⟩
  rw [← e4]
  obtain ⟨σ5, e5⟩ : ∃ z, z = va_up σ4 (c0 + 5) (va_cpy (σ4 (c1 + 5)) (σ4 (c0 + 5)) 0 0 2) := ⟨_, rfl⟩
  rw [← e5]
  obtain ⟨σ6, e6⟩ : ∃ z, z = va_up σ5 (c0 + 6) (va_cpy (σ5 (c1 + 6)) (σ5 (c0 + 6)) 0 0 2) := ⟨_, rfl⟩
  rw [← e6]
  obtain ⟨σ7, e7⟩ : ∃ z, z = va_up σ6 (c0 + 7) (va_cpy (σ6 (c1 + 7)) (σ6 (c0 + 7)) 0 0 2) := ⟨_, rfl⟩
  rw [← e7]
  have o7 : ∀ i, i < c0 + 1 ∨ c0 + 7 < i → σ7 i = σ i := fun i hi => by
    rw [e7, va_up_ne _ _ (by omega), e6, va_up_ne _ _ (by omega), e5, va_up_ne _ _ (by omega), e4, va_up_ne _ _ (by omega), e3, va_up_ne _ _ (by omega), e2, va_up_ne _ _ (by omega), e1, va_up_ne _ _ (by omega)]
  have cp : ∀ (F G : Nat → Int32) (n k : Nat), k < n → va_cpy F G 0 0 n k = F k := fun F G n k hk => by rw [pk_cpy_in (by omega) (by omega)]; congr 1; omega
  have v1 : ∀ k, k < 4 → σ7 (c0 + 1) k = σ (c1 + 1) k := fun k hk => by
    rw [e7, va_up_ne _ _ (by omega), e6, va_up_ne _ _ (by omega), e5, va_up_ne _ _ (by omega), e4, va_up_ne _ _ (by omega), e3, va_up_ne _ _ (by omega), e2, va_up_ne _ _ (by omega), e1, va_up_self, cp _ _ _ _ hk]
  have v2 : ∀ k, k < 4 → σ7 (c0 + 2) k = σ (c1 + 2) k := fun k hk => by
    rw [e7, va_up_ne _ _ (by omega), e6, va_up_ne _ _ (by omega), e5, va_up_ne _ _ (by omega), e4, va_up_ne _ _ (by omega), e3, va_up_ne _ _ (by omega), e2, va_up_self, cp _ _ _ _ hk, e1, va_up_ne _ _ (by omega)]
  have v3 : ∀ k, k < 4 → σ7 (c0 + 3) k = σ (c1 + 3) k := fun k hk => by
    rw [e7, va_up_ne _ _ (by omega), e6, va_up_ne _ _ (by omega), e5, va_up_ne _ _ (by omega), e4, va_up_ne _ _ (by omega), e3, va_up_self, cp _ _ _ _ hk, e2, va_up_ne _ _ (by omega), e1, va_up_ne _ _ (by omega)]
  have v4 : ∀ k, k < 4 → σ7 (c0 + 4) k = σ (c1 + 4) k := fun k hk => by
    rw [e7, va_up_ne _ _ (by omega), e6, va_up_ne _ _ (by omega), e5, va_up_ne _ _ (by omega), e4, va_up_self, cp _ _ _ _ hk, e3, va_up_ne _ _ (by omega), e2, va_up_ne _ _ (by omega), e1, va_up_ne _ _ (by omega)]
  have v5 : ∀ k, k < 2 → σ7 (c0 + 5) k = σ (c1 + 5) k := fun k hk => by
    rw [e7, va_up_ne _ _ (by omega), e6, va_up_ne _ _ (by omega), e5, va_up_self, cp _ _ _ _ hk, e4, va_up_ne _ _ (by omega), e3, va_up_ne _ _ (by omega), e2, va_up_ne _ _ (by omega), e1, va_up_ne _ _ (by omega)]
  have v6 : ∀ k, k < 2 → σ7 (c0 + 6) k = σ (c1 + 6) k := fun k hk => by
    rw [e7, va_up_ne _ _ (by omega), e6, va_up_self, cp _ _ _ _ hk, e5, va_up_ne _ _ (by omega), e4, va_up_ne _ _ (by omega), e3, va_up_ne _ _ (by omega), e2, va_up_ne _ _ (by omega), e1, va_up_ne _ _ (by omega)]
  have v7 : ∀ k, k < 2 → σ7 (c0 + 7) k = σ (c1 + 7) k := fun k hk => by
    rw [e7, va_up_self, cp _ _ _ _ hk, e6, va_up_ne _ _ (by omega), e5, va_up_ne _ _ (by omega), e4, va_up_ne _ _ (by omega), e3, va_up_ne _ _ (by omega), e2, va_up_ne _ _ (by omega), e1, va_up_ne _ _ (by omega)]
  have k8 : up2 σ7 c0 8 (σ7 c1 8) c0 8 = nI (f 0) := by rw [up2_ss, o7 c1 (by omega), h.known]
  obtain ⟨ρ', q1, q2, q3⟩ := C_become_loop (c1 := c1) (ρ := ρ) (by omega) hS hN k8 (f 0) 1000 0 ρ (by omega) (by omega) (fun _ _ => rfl) (fun j hj => absurd hj (by omega))
  refine ⟨_, ρ', q1, ?_, ?_, ?_, q2⟩
  · have hc1 : c1 ≠ c0 := by omega
    simp only [up2_o hc1, o7 c1 (show c1 < c0 + 1 ∨ c0 + 7 < c1 by omega)]
    intro o k hv
    rw [← h o k hv]
    unfold Vl at hv
    rcases hv with ⟨rfl, a, b⟩ | ⟨a, b, hk⟩ | ⟨a, b, hk⟩
    · rcases (show k = 8 ∨ k = 9 ∨ k = 10 ∨ k = 11 by omega) with rfl | rfl | rfl | rfl
      · rw [Nat.add_zero, up2_oo (by omega), up2_oo (by omega), up2_oo (by omega), up2_ss, Nat.add_zero]
      · rw [Nat.add_zero, up2_oo (by omega), up2_oo (by omega), up2_ss, Nat.add_zero]
      · rw [Nat.add_zero, up2_oo (by omega), up2_ss, Nat.add_zero]
      · rw [Nat.add_zero, up2_ss, Nat.add_zero]
    · rw [up2_o (by omega), up2_o (by omega), up2_o (by omega), up2_o (by omega)]
      rcases (show o = 1 ∨ o = 2 ∨ o = 3 ∨ o = 4 by omega) with rfl | rfl | rfl | rfl
      · exact v1 k hk
      · exact v2 k hk
      · exact v3 k hk
      · exact v4 k hk
    · rw [up2_o (by omega), up2_o (by omega), up2_o (by omega), up2_o (by omega)]
      rcases (show o = 5 ∨ o = 6 ∨ o = 7 by omega) with rfl | rfl | rfl
      · exact v5 k hk
      · exact v6 k hk
      · exact v7 k hk
  · intro k hk
    obtain ⟨q, w1, w2⟩ := hS k hk
    exact ⟨q, (q3 k hk).trans w1, w2⟩
  · intro i hi
    rw [up2_o (by omega), up2_o (by omega), up2_o (by omega), up2_o (by omega), o7 i (by omega)]
