/-! rallies gone through -/
theorem loop_j {σ : Type} (W : Nat → Nat → σ → Prop) (I : Nat → σ → Prop) (e : Nat) (hx : ∀ n s, I e s → W (n + 1) e s)
    (hs : ∀ n i s, i < e → 0 < n → I i s → (∀ s', I (i + 1) s' → W n (i + 1) s') → W (n + 1) i s) : ∀ n i s, i ≤ e → e - i < n → I i s → W n i s := by
  intro n
  induction n with
  | zero => intro i s _ h; omega
  | succ n ih =>
    intro i s hi hn hI
    by_cases h : i = e
    · subst h
      exact hx n s hI
    · exact hs n i s (by omega) (by omega) hI (fun s' h' => ih (i + 1) s' (by omega) (by omega) h')
theorem wantL {σ : IM} {ρ : RM} {kf : KF} {μ : IM} {f : Nat → Nat} (hf : Now σ ρ kf μ f) (h : ∀ d, d < 8 → ShE σ ρ kf μ d) (x : Int32) : (∃ d so sz, d < 8 ∧ x = nI d ∧ ShR σ ρ μ d so sz ∧ sz % 2 = 0 ∧ (∀ i, 2 * i < sz → ∃ k c, k < f 0 ∧ c < 9 ∧ μ 12 (100 * d + 2 * i) = nI k ∧ μ 12 (100 * d + (2 * i + 1)) = nI c) ∧ X11_refusalOfRally kf σ ρ x = some 0 ∧ X12_wrongRally μ x = some 0) ∨ ∃ r, r ≠ 0 ∧ X11_refusalOfRally kf σ ρ x = some r ∧ X12_wrongRally μ x = some r := by
  unfold X11_refusalOfRally X12_wrongRally X12_wrongRally_b26
  have stop : ∀ (n : Nat) (r : Int32) (a b : Int32), r ≠ 0 → X12_wrongRally_b28 μ (n + 1) a r b = some r := by
    intro n r a b hr
    show X12_wrongRally_s28 μ _ a r b = _
    unfold X12_wrongRally_s28
    rw [if_neg hr]
  rcases wantH h x with ⟨d, so, sz, hd, rfl, g, p, q1, q2⟩ | ⟨d, so, sz, hd, rfl, g, p, q1, q2⟩ | ⟨r, hr0, q1, q2⟩
  · have hsz := g.2.2.2.1
    have key := loop_j (σ := Unit) (fun n i _ => (X11_refusalOfRally_b22 kf σ ρ n d (nI (2 * i)) = some 0 ∧ X12_wrongRally_b28 μ n (nI d) 0 (nI (2 * i)) = some 0 ∧ (∀ i, 2 * i < sz → ∃ k c, k < f 0 ∧ c < 9 ∧ μ 12 (100 * d + 2 * i) = nI k ∧ μ 12 (100 * d + (2 * i + 1)) = nI c)) ∨ (X11_refusalOfRally_b22 kf σ ρ n d (nI (2 * i)) = some (-13) ∧ X12_wrongRally_b28 μ n (nI d) 0 (nI (2 * i)) = some (-13))) (fun i _ => ∀ j, j < i → ∃ k c, k < f 0 ∧ c < 9 ∧ μ 12 (100 * d + 2 * j) = nI k ∧ μ 12 (100 * d + (2 * j + 1)) = nI c) (sz / 2) ?_ ?_ 1000 0 () (by omega) (by omega) (fun j hj => absurd hj (by omega))
    · rcases key with ⟨k1, k2, k3⟩ | ⟨k1, k2⟩
      · refine Or.inl ⟨d, so, sz, hd, rfl, g, p, k3, ?_, ?_⟩
        · rw [q1, bd1_s, if_pos rfl, ixN (by omega) (by omega)]
          exact k1
        · rw [q2, bd1_s, if_pos rfl, szR hd g, rem2 (by omega), if_neg (show ¬ nI (sz % 2) = 1 by rw [p]; decide)]
          exact k2
      · refine Or.inr ⟨-13, by decide, ?_, ?_⟩
        · rw [q1, bd1_s, if_pos rfl, ixN (by omega) (by omega)]
          exact k1
        · rw [q2, bd1_s, if_pos rfl, szR hd g, rem2 (by omega), if_neg (show ¬ nI (sz % 2) = 1 by rw [p]; decide)]
          exact k2
    · intro n _ hh
      refine Or.inl ⟨?_, ?_, fun i hi => hh i (by omega)⟩
      · show X11_refusalOfRally_s22 kf σ ρ _ d (nI (2 * (sz / 2))) = _
        unfold X11_refusalOfRally_s22
        rw [g.2.2.2.2.2.2.1, nI_1, if_pos (nI_le (by omega) (by omega))]
      · show X12_wrongRally_s28 μ _ (nI d) 0 (nI (2 * (sz / 2))) = _
        unfold X12_wrongRally_s28
        rw [if_pos rfl, szR hd g, if_pos (nI_le (by omega) (by omega))]
    · intro n i _ hi hn hh kk
      have eC : X11_refusalOfRally_b22 kf σ ρ (n + 1) d (nI (2 * i)) = bd1 (X1_isHit kf σ ρ 1 (μ 12 (100 * d + 2 * i)) (μ 12 (100 * d + (2 * i + 1)))) fun r => if r = 0 then some (-13) else X11_refusalOfRally_b22 kf σ ρ n d (nI (2 * (i + 1))) := by
        show X11_refusalOfRally_s22 kf σ ρ (X11_refusalOfRally_b22 kf σ ρ n) d (nI (2 * i)) = _
        unfold X11_refusalOfRally_s22
        rw [g.2.2.2.2.2.2.1, nI_1, if_neg (nI_ge (by omega) (by omega)), elC g (by omega), elC g (by omega), show nI (2 * i) + 2 = nI (2 * (i + 1)) from nI_add (2 * i) 2]
        rfl
      have eR : X12_wrongRally_b28 μ (n + 1) (nI d) 0 (nI (2 * i)) = bd1 (X12_isHit μ (μ 12 (100 * d + 2 * i)) (μ 12 (100 * d + (2 * i + 1)))) fun r => if r = 0 then X12_wrongRally_b28 μ n (nI d) (-13) (nI (2 * (i + 1))) else X12_wrongRally_b28 μ n (nI d) 0 (nI (2 * (i + 1))) := by
        show X12_wrongRally_s28 μ (X12_wrongRally_b28 μ n) (nI d) 0 (nI (2 * i)) = _
        unfold X12_wrongRally_s28 X12_wrongRally_b76
        rw [if_pos rfl, szR hd g, if_neg (nI_ge (by omega) (by omega)), elR hd (by omega), show (100 : Int32) * nI d + nI (2 * i) + 1 = 100 * nI d + nI (2 * i + 1) by rw [Int32.add_assoc, nI_1], elR hd (by omega), show nI (2 * i) + 2 = nI (2 * (i + 1)) from nI_add (2 * i) 2]
        rfl
      rw [eC, eR]
      rcases isHi hf (μ 12 (100 * d + 2 * i)) (μ 12 (100 * d + (2 * i + 1))) with ⟨s, c, hs, hc, e1, e2, w1, w2⟩ | ⟨w1, w2⟩
      · rw [w1, w2, bd1_s, bd1_s, if_neg n10, if_neg n10]
        refine kk () (fun j hj => ?_)
        by_cases e : j = i
        · subst e
          exact ⟨s, c, hs, hc, e1, e2⟩
        · exact hh j (by omega)
      · rw [w1, w2, bd1_s, bd1_s, if_pos rfl, if_pos rfl]
        obtain ⟨n, rfl⟩ : ∃ n', n = n' + 1 := ⟨n - 1, by omega⟩
        exact Or.inr ⟨rfl, stop _ _ _ _ (by decide)⟩
  · have hsz := g.2.2.2.1
    refine Or.inr ⟨-13, by decide, ?_, ?_⟩
    · rw [q1, bd1_s, if_neg (by decide)]
    · rw [q2, bd1_s, if_pos rfl, szR hd g, rem2 (by omega), if_pos (show nI (sz % 2) = 1 by rw [p]; rfl)]
      exact stop 999 (-13) _ _ (by decide)
  · refine Or.inr ⟨r, hr0, ?_, ?_⟩
    · rw [q1, bd1_s, if_neg hr0]
    · rw [q2, bd1_s, if_neg hr0]
      exact stop 999 r _ _ hr0
theorem C_gone {kf : KF} {τ : IM} {ω : RM} {a b : Nat → Nat} (ha : ∀ q, q < 4 → a q < 9 ∧ τ 46 q = nI (a q)) (hb : ∀ q, q < 4 → b q < 9 ∧ τ 11 q = nI (b q)) : ∃ τ', X11_addWaysGone kf τ ω = some (τ', ω) ∧ (∀ q, q < 4 → τ' 47 q = τ 47 q + nI (wayN (a q) (b q))) ∧ ∀ i, i ≠ 47 → τ' i = τ i := by
  unfold X11_addWaysGone
  refine loop_i (σ := IM) (fun n i ξ => ∃ τ', X11_addWaysGone_b2 kf n (nI i) ξ ω = some (τ', ω) ∧ (∀ q, q < 4 → τ' 47 q = τ 47 q + nI (wayN (a q) (b q))) ∧ ∀ i, i ≠ 47 → τ' i = τ i) (fun i ξ => (∀ q, q < 4 → ξ 47 q = if q < i then τ 47 q + nI (wayN (a q) (b q)) else τ 47 q) ∧ ∀ i, i ≠ 47 → ξ i = τ i) 4 ?_ ?_ 1000 0 τ (by omega) (by omega) ⟨fun q hq => by rw [if_neg (by omega)], fun _ _ => rfl⟩
  · rintro n ξ ⟨h1, h2⟩
    refine ⟨ξ, ?_, fun q hq => by rw [h1 q hq, if_pos hq], h2⟩
    show X11_addWaysGone_s2 kf _ (nI 4) ξ ω = _
    unfold X11_addWaysGone_s2
    rw [if_pos (show (4 : Int32) ≤ nI 4 by decide)]
  · rintro n i ξ hi ⟨h1, h2⟩ k
    show ∃ τ', X11_addWaysGone_s2 kf (X11_addWaysGone_b2 kf n) (nI i) ξ ω = _ ∧ _
    unfold X11_addWaysGone_s2
    rw [if_neg (show ¬ (4 : Int32) ≤ nI i from nI_ge (b := 4) hi (by omega)), rdN hi (by omega), rdN hi (by omega), rdN hi (by omega), h2 46 (by omega), show ξ (10 + 1) = τ 11 from h2 11 (by omega), (ha i hi).2, (hb i hi).2, C_way _ (ha i hi).1 _ (hb i hi).1, bd1_s, wrN hi (by omega), bd_e, nI_1]
    refine k _ ⟨fun q hq => ?_, fun j hj => by rw [up2_o hj, h2 j hj]⟩
    by_cases e : q = i
    · subst e
      rw [up2_ss, h1 q hq, if_neg (by omega), if_pos (by omega)]
    · rw [up2_oo (Or.inr e), h1 q hq]
      by_cases c : q < i
      · rw [if_pos c, if_pos (by omega)]
      · rw [if_neg c, if_neg (by omega)]
theorem C_zero {kf : KF} {ω : RM} {d : Nat} (τ : IM) : ∃ τ', X11_playRally_b13 kf d 1000 0 τ ω = X11_playRally_b33 kf d 1000 0 τ' ω ∧ (∀ q, q < 4 → τ' 47 q = 0) ∧ ∀ i, i ≠ 47 → τ' i = τ i := by
  refine loop_i (σ := IM) (fun n i ξ => ∃ τ', X11_playRally_b13 kf d n (nI i) ξ ω = X11_playRally_b33 kf d 1000 0 τ' ω ∧ (∀ q, q < 4 → τ' 47 q = 0) ∧ ∀ i, i ≠ 47 → τ' i = τ i) (fun i ξ => (∀ q, q < i → ξ 47 q = 0) ∧ ∀ i, i ≠ 47 → ξ i = τ i) 4 ?_ ?_ 1000 0 τ (by omega) (by omega) ⟨fun q hq => absurd hq (by omega), fun _ _ => rfl⟩
  · rintro n ξ ⟨h1, h2⟩
    refine ⟨ξ, ?_, h1, h2⟩
    show X11_playRally_s13 kf d _ (nI 4) ξ ω = _
    unfold X11_playRally_s13
    rw [if_pos (show (4 : Int32) ≤ nI 4 by decide)]
  · rintro n i ξ hi ⟨h1, h2⟩ k
    show ∃ τ', X11_playRally_s13 kf d (X11_playRally_b13 kf d n) (nI i) ξ ω = _ ∧ _
    unfold X11_playRally_s13
    rw [if_neg (show ¬ (4 : Int32) ≤ nI i from nI_ge (b := 4) hi (by omega)), wrN hi (by omega), bd_e, nI_1]
    refine k _ ⟨fun q hq => ?_, fun j hj => by rw [up2_o hj, h2 j hj]⟩
    by_cases e : q = i
    · subst e
      rw [up2_ss]
    · rw [up2_oo (Or.inr e), h1 q (by omega)]
theorem R_zero {x : Int32} (ν : IM) : ∃ ν', X12_rallies_b13 1000 x 0 ν = X12_rallies_b43 1000 x 0 ν' ∧ (∀ q, q < 4 → ν' 5 q = 0) ∧ (∀ i, i ≠ 5 → i ≠ 0 → ν' i = ν i) ∧ ν' 0 10 = 0 ∧ ν' 0 11 = 2 ∧ ν' 0 5 = ν 0 5 := by
  refine loop_i (σ := IM) (fun n i ξ => ∃ ν', X12_rallies_b13 n x (nI i) ξ = X12_rallies_b43 1000 x 0 ν' ∧ (∀ q, q < 4 → ν' 5 q = 0) ∧ (∀ i, i ≠ 5 → i ≠ 0 → ν' i = ν i) ∧ ν' 0 10 = 0 ∧ ν' 0 11 = 2 ∧ ν' 0 5 = ν 0 5) (fun i ξ => (∀ q, q < i → ξ 5 q = 0) ∧ ∀ i, i ≠ 5 → ξ i = ν i) 4 ?_ ?_ 1000 0 ν (by omega) (by omega) ⟨fun q hq => absurd hq (by omega), fun _ _ => rfl⟩
  · rintro n ξ ⟨h1, h2⟩
    refine ⟨up2 (up2 ξ 0 10 0) 0 11 2, ?_, fun q hq => ?_, fun i hi h0 => ?_, ?_, ?_, ?_⟩
    · show X12_rallies_s13 _ x (nI 4) ξ = _
      unfold X12_rallies_s13
      rw [if_pos (show (4 : Int32) ≤ nI 4 by decide), bd_e, bd_e]
    · rw [up2_o (by omega), up2_o (by omega), h1 q hq]
    · rw [up2_o h0, up2_o h0, h2 i hi]
    · rw [up2_oo (by omega), up2_ss]
    · rw [up2_ss]
    · rw [up2_oo (by omega), up2_oo (by omega), h2 0 (by omega)]
  · rintro n i ξ hi ⟨h1, h2⟩ k
    show ∃ ν', X12_rallies_s13 (X12_rallies_b13 n) x (nI i) ξ = _ ∧ _
    unfold X12_rallies_s13
    rw [if_neg (show ¬ (4 : Int32) ≤ nI i from nI_ge (b := 4) hi (by omega)), wrN hi (by omega), bd_e, nI_1]
    refine k _ ⟨fun q hq => ?_, fun j hj => by rw [up2_o hj, h2 j hj]⟩
    by_cases e : q = i
    · subst e
      rw [up2_ss]
    · rw [up2_oo (Or.inr e), h1 q (by omega)]
/-- how a rally ends -/
def RalEnd (σ : IM) (ρ : RM) (kf : KF) (μ : IM) (f : Nat → Nat) (x : Option (Int32 × IM × RM)) (y : Option IM) : Prop :=
  ∃ r σ' ρ' μ' g sc, x = some (r, σ', ρ') ∧ y = some μ' ∧ μ' 0 10 = r ∧ μ' 0 11 = nI sc ∧ sc ≤ 2 ∧ MC σ' ρ' kf g ∧ RA (μ' 2) g ∧ Inv g ∧ (∀ s, s < 2 → g (38 + 3 * s) = f (38 + 3 * s) + (if sc = s then 1 else 0)) ∧ (∀ q, q < 4 → σ' 47 q = μ' 5 q) ∧ FC σ ρ σ' ρ' ∧ FR μ μ'
theorem M_rally {σ : IM} {ρ : RM} {kf : KF} {μ : IM} {f : Nat → Nat} (hf : Now σ ρ kf μ f) {d so sz : Nat} (hd : d < 8) (g : ShR σ ρ μ d so sz) (p : sz % 2 = 0) (hh : ∀ i, 2 * i < sz → ∃ k c, k < f 0 ∧ c < 9 ∧ μ 12 (100 * d + 2 * i) = nI k ∧ μ 12 (100 * d + (2 * i + 1)) = nI c) : RalEnd σ ρ kf μ f (X11_playRally kf σ ρ d) (X12_rallies μ (nI d)) := by
  have hI := hf.1
  have hsz := g.2.2.2.1
  obtain ⟨τ1, ω1, b1, m1, g1, -⟩ := M_become hf
  obtain ⟨ν1, c1, m2, g2, -⟩ := N_copies hf.2.2.2.2
  obtain ⟨τ2, b2, z1, o1⟩ := C_zero (kf := kf) (ω := ω1) (d := d) τ1
  obtain ⟨ν2, c2, z2, o2, z3, z4, z5⟩ := R_zero (x := nI d) ν1
  unfold X11_playRally X12_rallies
  rw [b1, bd2_s, b2, c1, bd1_s, c2]
  have m1' : MC τ2 ω1 kf f := ⟨m1.1.congr (fun i l1 l2 => o1 i (by omega)), m1.2⟩
  have m2' : RA (ν2 2) f := by rw [o2 2 (by omega) (by omega)]; exact m2
  have fc2 : FC σ ρ τ2 ω1 := g1.tr ⟨fun i l1 l2 => o1 i (by omega), fun i l1 l2 => o1 i (by omega), by rw [o1 0 (by omega)], fun _ _ => rfl⟩
  have fr2 : FR μ ν2 := g2.tr ⟨o2 1 (by omega) (by omega), o2 3 (by omega) (by omega), fun i hi => o2 i (by omega) (by omega), z5⟩
  refine loop_j (σ := (Nat → Nat) × IM × IM) (fun n i z => RalEnd σ ρ kf μ f (X11_playRally_b33 kf d n (nI (2 * i)) z.2.1 ω1) (X12_rallies_b43 n (nI d) (nI (2 * i)) z.2.2)) (fun i z => MC z.2.1 ω1 kf z.1 ∧ RA (z.2.2 2) z.1 ∧ Inv z.1 ∧ z.1 0 = f 0 ∧ (∀ s, s < 2 → z.1 (38 + 3 * s) = f (38 + 3 * s)) ∧ (∀ q, q < 4 → z.2.1 47 q = z.2.2 5 q) ∧ z.2.2 0 10 = nI i ∧ z.2.2 0 11 = 2 ∧ FC σ ρ z.2.1 ω1 ∧ FR μ z.2.2) (sz / 2) ?_ ?_ 1000 0 (f, τ2, ν2) (by omega) (by omega) ⟨m1', m2', hI, rfl, fun _ _ => rfl, fun q hq => (z1 q hq).trans (z2 q hq).symm, z3, z4, fc2, fr2⟩
  · rintro n ⟨k, τ, ν⟩ ⟨m1, m2, hk, hk0, hp, hg, r1, r2, fc, fr⟩
    dsimp only at m1 m2 hk hk0 hp hg r1 r2 fc fr
    have gg := g.fr hd fc fr
    refine ⟨nI (sz / 2), τ, ω1, ν, k, 2, ?_, ?_, r1, r2, Nat.le_refl 2, m1, m2, hk, fun s hs => by rw [if_neg (by omega), Nat.add_zero]; exact hp s hs, hg, fc, fr⟩
    · show X11_playRally_s33 kf d _ (nI (2 * (sz / 2))) τ ω1 = _
      unfold X11_playRally_s33
      rw [gg.2.2.2.2.2.2.1, nI_1, if_pos (nI_le (by omega) (by omega)), div2 (by omega)]
    · show X12_rallies_s43 _ (nI d) (nI (2 * (sz / 2))) ν = _
      unfold X12_rallies_s43
      rw [szR hd gg, if_pos (nI_le (by omega) (by omega))]
  · rintro n i ⟨k, τ, ν⟩ hi hn ⟨m1, m2, hk, hk0, hp, hg, r1, r2, fc, fr⟩ kk
    dsimp only at m1 m2 hk hk0 hp hg r1 r2 fc fr
    have gg := g.fr hd fc fr
    obtain ⟨s, c, hs, hc, e1, e2⟩ := hh i (by omega)
    have h2 := hk.2.1
    have hP := hk.2.2.2.2.1
    have en : ∀ j, ν 12 j = μ 12 j := fun j => by rw [fr.2.2.1 12 (by omega)]
    -- the places stood at
    have s1 : ∀ q, q < 4 → va_cpy (τ (10 + 1)) (τ 46) 0 0 4 q = nI (k (20 + 4 * q)) := fun q hq => by
      rw [pk_cpy_in (Nat.zero_le _) (by omega), show 0 + (q - 0) = q by omega, m1.1.at hq]
    obtain ⟨τs, eτs⟩ : ∃ z, z = va_up τ 46 (va_cpy (τ (10 + 1)) (τ 46) 0 0 4) := ⟨_, rfl⟩
    have os : ∀ i, i ≠ 46 → τs i = τ i := fun i hi => by rw [eτs, va_up_ne _ _ hi]
    have s2 : ∀ q, q < 4 → τs 46 q = nI (k (20 + 4 * q)) := fun q hq => by rw [eτs, va_up_self, s1 q hq]
    have ms : MC τs ω1 kf k := ⟨m1.1.congr (fun i l1 l2 => os i (by omega)), m1.2⟩
    have fcs : FC σ ρ τs ω1 := fc.tr ⟨fun i l1 l2 => os i (by omega), fun i l1 l2 => os i (by omega), by rw [os 0 (by omega)], fun _ _ => rfl⟩
    have gs := g.fr hd fcs fr
    obtain ⟨τ3, b3, m3, g3, o3⟩ := M_strike (k := s) (x := c) ms hk (by omega) hc
    obtain ⟨ν3, c3, m4, g4, o4, q4⟩ := N_hits (k := s) (x := c) m2 hk (by omega) hc
    have hI3 := hitN_Inv (k := s) (c := c) hk (by omega) hc
    have fc3 := fcs.tr g3
    have fr3 := fr.tr g4
    have n10' : ν3 0 10 = nI i := by rw [o4 0 (by omega) (by omega)]; exact r1
    have n11' : ν3 0 11 = 2 := by rw [o4 0 (by omega) (by omega)]; exact r2
    have pts : ∀ t, t < 2 → hitN k s c (38 + 3 * t) = f (38 + 3 * t) + (if ptN k s c ∧ t = k 2 / 2 then 1 else 0) := fun t ht => by rw [hitN_pt h2 ht, hp t ht]
    have eC : X11_playRally_b33 kf d (n + 1) (nI (2 * i)) τ ω1 = (if nI (ptB k s c) = 0 then (bd2 (X11_addWaysGone kf τ3 ω1) fun σ15 ρ16 => X11_playRally_b33 kf d n (nI (2 * (i + 1))) σ15 ρ16) else some (nI (i + 1), τ3, ω1)) := by
      show X11_playRally_s33 kf d (X11_playRally_b33 kf d n) (nI (2 * i)) τ ω1 = _
      unfold X11_playRally_s33
      rw [gg.2.2.2.2.2.2.1, nI_1, if_neg (nI_ge (by omega) (by omega)), acN (show (4 : Int32) = nI 4 from rfl) (by omega) (by omega) (by omega), ← eτs, elC gs (by omega), elC gs (by omega), en, en, e1, e2, b3, bd3_s, div2 (by omega), show 2 * i / 2 = i by omega, nI_1, show nI (2 * i) + 2 = nI (2 * (i + 1)) from nI_add (2 * i) 2]
      rfl
    have eR : X12_rallies_b43 (n + 1) (nI d) (nI (2 * i)) ν = (if nI (ptB k s c) = 0 then X12_rallies_b43 n (nI d) (nI (2 * (i + 1))) (up2 ν3 0 10 (nI (i + 1))) else X12_rallies_b43 n (nI d) (nI (2 * (i + 1))) (up2 (up2 ν3 0 11 (nI (k 2 / 2))) 0 10 (nI (i + 1)))) := by
      show X12_rallies_s43 (X12_rallies_b43 n) (nI d) (nI (2 * i)) ν = _
      unfold X12_rallies_s43 X12_rallies_b111
      rw [szR hd gg, if_neg (nI_ge (by omega) (by omega)), r2, if_pos rfl, rd42_2, m2.1 2 (by omega) (by omega), R_sideOf h2, bd1_s, elR hd (by omega), show (100 : Int32) * nI d + nI (2 * i) + 1 = 100 * nI d + nI (2 * i + 1) by rw [Int32.add_assoc, nI_1], elR hd (by omega), en, en, e1, e2, c3, bd2_s, show nI (2 * i) + 2 = nI (2 * (i + 1)) from nI_add (2 * i) 2]
      simp only [bd_e]
      rw [up2_oo (show (0 : Nat) ≠ 0 ∨ 10 ≠ 11 by omega), n10', nI_1]
    rw [eC, eR]
    rcases ptB_or k s c with w | w
    · have np : ¬ ptN k s c := fun q => by unfold ptN at q; omega
      rw [w, if_pos z00, if_pos z00]
      obtain ⟨τ4, b4, a1, a2⟩ := C_gone (kf := kf) (ω := ω1) (τ := τ3) (a := fun q => k (20 + 4 * q)) (b := fun q => hitN k s c (20 + 4 * q)) (fun q hq => ⟨(hP q hq).1, by rw [o3 46 (by omega)]; exact s2 q hq⟩) (fun q hq => ⟨(hI3.2.2.2.2.1 q hq).1, m3.1.at hq⟩)
      rw [b4, bd2_s]
      have y1 : MC τ4 ω1 kf (hitN k s c) := ⟨m3.1.congr (fun i l1 l2 => a2 i (by omega)), m3.2⟩
      have y2 : RA (up2 ν3 0 10 (nI (i + 1)) 2) (hitN k s c) := by
        rw [up2_o (by omega)]
        exact m4
      have y3 : FC τ3 ω1 τ4 ω1 := ⟨fun i l1 l2 => a2 i (by omega), fun i l1 l2 => a2 i (by omega), by rw [a2 0 (by omega)], fun _ _ => rfl⟩
      have y5 : up2 ν3 0 10 (nI (i + 1)) 0 10 = nI (i + 1) := up2_ss
      have y4 : FR ν3 (up2 ν3 0 10 (nI (i + 1))) := ⟨up2_o (by omega), up2_o (by omega), fun i hi => up2_o (by omega), up2_oo (by omega)⟩
      refine kk (hitN k s c, τ4, up2 ν3 0 10 (nI (i + 1))) ⟨y1, y2, hI3, (f1_0 hk).trans hk0, fun t ht => ?_, fun q hq => ?_, y5, ?_, fc3.tr y3, fr3.tr y4⟩
      · show hitN k s c (38 + 3 * t) = f (38 + 3 * t)
        rw [pts t ht, if_neg (fun q => np q.1), Nat.add_zero]
      · show τ4 47 q = up2 ν3 0 10 (nI (i + 1)) 5 q
        rw [a1 q hq, up2_o (by omega), q4 q hq, if_neg np, o3 47 (by omega), os 47 (by omega), hg q hq]
      · show up2 ν3 0 10 (nI (i + 1)) 0 11 = 2
        rw [up2_oo (by omega)]
        exact n11'
    · rw [w, if_neg z10, if_neg z10]
      obtain ⟨n, rfl⟩ : ∃ n', n = n' + 1 := ⟨n - 1, by omega⟩
      have pk : ptN k s c := w
      obtain ⟨ξ, eξ⟩ : ∃ z, z = up2 (up2 ν3 0 11 (nI (k 2 / 2))) 0 10 (nI (i + 1)) := ⟨_, rfl⟩
      have o5 : ∀ i, i ≠ 0 → ξ i = ν3 i := fun i hi => by rw [eξ, up2_o hi, up2_o hi]
      have x10 : ξ 0 10 = nI (i + 1) := by rw [eξ, up2_ss]
      have x11 : ξ 0 11 = nI (k 2 / 2) := by rw [eξ, up2_oo (by omega), up2_ss]
      have x5 : ξ 0 5 = ν3 0 5 := by rw [eξ, up2_oo (by omega), up2_oo (by omega)]
      have frx : FR μ ξ := fr3.tr ⟨o5 1 (by omega), o5 3 (by omega), fun i hi => o5 i (by omega), x5⟩
      rw [← eξ]
      refine ⟨nI (i + 1), τ3, ω1, ξ, hitN k s c, k 2 / 2, rfl, ?_, x10, x11, by omega, m3, by rw [o5 2 (by omega)]; exact m4, hI3, fun t ht => ?_, fun q hq => ?_, fc3, frx⟩
      · show X12_rallies_s43 _ (nI d) (nI (2 * (i + 1))) ξ = _
        have gx := g.fr hd fc3 frx
        unfold X12_rallies_s43
        rw [szR hd gx, x11, if_neg (show ¬ nI (k 2 / 2) = 2 from fun q => by have := (nI_iff (b := 2) (by omega) (by omega)).mp q; omega)]
        split <;> rfl
      · rw [pts t ht]
        by_cases e : k 2 / 2 = t
        · rw [if_pos ⟨pk, e.symm⟩, if_pos e]
        · rw [if_neg (fun q => e q.2.symm), if_neg e]
      · rw [o5 5 (by omega), q4 q hq, if_pos pk, o3 47 (by omega), os 47 (by omega), hg q hq, nI_0, Int32.add_zero]
theorem E_rally {σ : IM} {ρ : RM} {kf : KF} {μ : IM} (h : All σ ρ kf μ) (a1 a2 : Int32) : Same3 kf (X11_rally kf σ ρ a1 a2) (X12_rally μ a1 a2) := by
  unfold X11_rally X12_rally
  obtain ⟨⟨f, hf⟩, hr⟩ := h
  have h0 : All σ ρ kf μ := ⟨⟨f, hf⟩, hr⟩
  rcases rng a2 2 (by omega) with ⟨w, hw, rfl, w1, w2⟩ | ⟨w1, w2, -⟩
  · rw [show X11_isBelow (nI w) 2 = some 1 from w1, show X12_isIn (nI w) 0 1 = some 1 from w2, bd1_s, bd1_s, if_neg n10, if_neg n10]
    rcases wantL hf hr.2.1 a1 with ⟨d, so, sz, hd, rfl, g, p, hh, q1, q2⟩ | ⟨r, hr0, q1, q2⟩
    · obtain ⟨r, τ, ω, ν, k, sc, x1, x2, x3, x4, x5, m1, m2, hk, hp, hg, fc, fr⟩ := M_rally hf hd g p hh
      have hn : Now τ ω kf ν f := hf.fr fc fr
      have fin := h0.fr fc fr
      have es : X11_sideWithMorePoints kf τ ω = some (nI sc) := by
        unfold X11_sideWithMorePoints
        have r0 := hp 0 (by omega)
        have r1 := hp 1 (by omega)
        have b0 := hn.2.1
        have u0 : τ (10 + 7) 0 = nI (k 38) := m1.1.points (s := 0) (by omega)
        have u1 : τ (10 + 7) 1 = nI (k 41) := m1.1.points (s := 1) (by omega)
        have v0 : τ (1 + 7) 0 = nI (f 38) := hn.2.2.1.points (s := 0) (by omega)
        have v1 : τ (1 + 7) 1 = nI (f 41) := hn.2.2.1.points (s := 1) (by omega)
        rw [show 38 + 3 * 0 = 38 from rfl] at r0
        rw [show 38 + 3 * 1 = 41 from rfl] at r1
        show X11_sideWithMorePoints_s2 kf τ ω (X11_sideWithMorePoints_b2 kf τ ω 999) 0 = _
        unfold X11_sideWithMorePoints_s2
        rw [if_neg (by decide), rd2_0, rd2_0, u0, v0]
        by_cases c0 : sc = 0
        · rw [if_pos c0] at r0
          rw [if_neg (nI_ge (by omega) (by omega)), c0]
          rfl
        · rw [if_neg c0] at r0
          rw [if_pos (nI_le (by omega) (by omega)), bd_e]
          show X11_sideWithMorePoints_s2 kf τ ω (X11_sideWithMorePoints_b2 kf τ ω 998) 1 = _
          unfold X11_sideWithMorePoints_s2
          rw [if_neg (by decide), rd2_1, rd2_1, u1, v1]
          by_cases c1 : sc = 1
          · rw [if_pos c1] at r1
            rw [if_neg (nI_ge (by omega) (by omega)), c1]
            rfl
          · rw [if_neg c1] at r1
            rw [if_pos (nI_le (by omega) (by omega)), bd_e, show sc = 2 by omega]
            rfl
      rw [q1, q2, bd1_s, bd1_s, if_pos rfl, if_pos rfl, ixN (by omega) (by omega), x1, x2, bd3_s, bd1_s, es, bd1_s, x3, x4]
      rcases (show w = 0 ∨ w = 1 by omega) with rfl | rfl
      · exact ⟨_, τ, ω, ν, rfl, rfl, fin⟩
      · exact ⟨_, τ, ω, ν, rfl, rfl, fin⟩
    · rw [q1, q2, bd1_s, bd1_s, if_neg hr0, if_neg hr0]
      exact Same3.no h0 rfl rfl
  · exact Same3.no h0 (r := -1) (by rw [show X11_isBelow a2 2 = some 0 from w1]; rfl) (by rw [show X12_isIn a2 0 1 = some 0 from w2]; rfl)
theorem E_ways {σ : IM} {ρ : RM} {kf : KF} {μ : IM} (h : All σ ρ kf μ) (a1 a2 : Int32) : Same3 kf (X11_ways kf σ ρ a1 a2) (X12_ways μ a1 a2) := by
  unfold X11_ways X12_ways
  obtain ⟨⟨f, hf⟩, hr⟩ := h
  have h0 : All σ ρ kf μ := ⟨⟨f, hf⟩, hr⟩
  rcases isPl a2 with ⟨w, hw, rfl, w1, w2⟩ | ⟨w1, w2⟩
  · rw [w1, w2, bd1_s, bd1_s, if_neg n10, if_neg n10]
    rcases wantL hf hr.2.1 a1 with ⟨d, so, sz, hd, rfl, g, p, hh, q1, q2⟩ | ⟨r, hr0, q1, q2⟩
    · obtain ⟨r, τ, ω, ν, k, sc, x1, x2, x3, x4, x5, m1, m2, hk, hp, hg, fc, fr⟩ := M_rally hf hd g p hh
      rw [q1, q2, bd1_s, bd1_s, if_pos rfl, if_pos rfl, ixN (by omega) (by omega), x1, x2, bd3_s, bd1_s, rdN hw (by omega), rdN hw (by omega), hg w hw]
      exact ⟨_, τ, ω, ν, rfl, rfl, h0.fr fc fr⟩
    · rw [q1, q2, bd1_s, bd1_s, if_neg hr0, if_neg hr0]
      exact Same3.no h0 rfl rfl
  · exact Same3.no h0 (r := -1) (by rw [w1]; rfl) (by rw [w2]; rfl)
theorem E_spent {σ : IM} {ρ : RM} {kf : KF} {μ : IM} (h : All σ ρ kf μ) (a1 : Int32) : Same3 kf (X11_spent kf σ ρ a1) (X12_spent μ a1) := by
  unfold X11_spent X12_spent
  obtain ⟨⟨f, hf⟩, hr⟩ := h
  have h0 : All σ ρ kf μ := ⟨⟨f, hf⟩, hr⟩
  rcases wantL hf hr.2.1 a1 with ⟨d, so, sz, hd, rfl, g, p, hh, q1, q2⟩ | ⟨r, hr0, q1, q2⟩
  · obtain ⟨r, τ, ω, ν, k, sc, x1, x2, x3, x4, x5, m1, m2, hk, hp, hg, fc, fr⟩ := M_rally hf hd g p hh
    have fin := h0.fr fc fr
    have hP := hk.2.2.2.2.1
    rw [q1, q2, bd1_s, bd1_s, if_pos rfl, if_pos rfl, ixN (by omega) (by omega), x1, x2, bd3_s, bd1_s]
    have first : X12_spent_b22 1000 0 0 ν = X12_spent_b22 999 0 1 ν := by
      show X12_spent_s22 (X12_spent_b22 999) 0 (nI 0) ν = _
      unfold X12_spent_s22 X12_spent_b55
      rw [if_neg (by decide), show (0 : Int32) = nI 0 from rfl, R_ofP2, bd1_s, rdN (by omega) (by omega), bd1_s, rdN (by omega) (by omega), if_pos (Int32.le_refl _), bd_e]
      rfl
    rw [first]
    refine loop_i (σ := Nat) (fun n i b => Same3 kf (X11_spent_b28 kf (n + 1) (nI b) (nI i) τ ω) (X12_spent_b22 n (nI b) (nI i) ν)) (fun i b => b < 4) 4 ?_ ?_ 999 1 0 (by omega) (by omega) (by omega)
    · intro n b hb
      refine ⟨nI b, τ, ω, ν, ?_, ?_, fin⟩
      · show X11_spent_s28 kf _ (nI b) (nI 4) τ ω = _
        unfold X11_spent_s28
        rw [if_pos (show (4 : Int32) ≤ nI 4 by decide)]
      · show X12_spent_s22 _ (nI b) (nI 4) ν = _
        unfold X12_spent_s22
        rw [if_pos (show (4 : Int32) ≤ nI 4 by decide)]
    · intro n i b hi hb kk
      have t1 := (hP i hi).2.2.2.1
      have t2 := (hP b hb).2.2.2.1
      show Same3 kf (X11_spent_s28 kf (X11_spent_b28 kf (n + 1)) (nI b) (nI i) τ ω) (X12_spent_s22 (X12_spent_b22 n) (nI b) (nI i) ν)
      unfold X11_spent_s28 X12_spent_s22 X11_spent_b59 X12_spent_b55
      rw [if_neg (show ¬ (4 : Int32) ≤ nI i from nI_ge (b := 4) hi (by omega)), if_neg (show ¬ (4 : Int32) ≤ nI i from nI_ge (b := 4) hi (by omega)), rdN hi (by omega), rdN hb (by omega), m1.1.tired hi, m1.1.tired hb, R_ofP2, bd1_s, rdN (by omega) (by omega), R_ofP2, bd1_s, rdN (by omega) (by omega), m2.1 _ (by omega) (by omega), m2.1 _ (by omega) (by omega)]
      simp only [bd_e, nI_1]
      by_cases c : k (22 + 4 * i) ≤ k (22 + 4 * b)
      · rw [if_pos (nI_le c (by omega)), if_pos (nI_le c (by omega))]
        exact kk b hb
      · rw [if_neg (nI_ge (by omega) (by omega)), if_neg (nI_ge (by omega) (by omega))]
        exact kk i hi
  · rw [q1, q2, bd1_s, bd1_s, if_neg hr0, if_neg hr0]
    exact Same3.no h0 rfl rfl
