/-! the image; what is told; two who choose; nights -/
theorem E_image {σ : IM} {ρ : RM} {kf : KF} {μ : IM} (h : All σ ρ kf μ) : Same3 kf (X11_image kf σ ρ) (X12_image μ) := by
  obtain ⟨⟨f, hI, hB, hC, hS, hA⟩, h1, h2, h3⟩ := h
  obtain ⟨σ1, ρ1, e1, a1, a2, a3, a4⟩ := C_become (c0 := 19) (c1 := 1) (Or.inl (by omega)) hC hS hI.1
  obtain ⟨μ1, e2, b1, b2⟩ := R_copies (μ := μ) (r0 := 1) (r1 := 3) (by omega)
  unfold X11_image X12_image
  rw [e1, e2, bd2_s, bd1_s, bd_e, bd_e, rd42_1]
  have s1 : ∀ i, i < 19 ∨ 26 < i → 0 < i → up2 σ1 0 3 1 i = σ i := fun i hi h0 => by rw [up2_o (by omega), a3 i (by omega)]
  have m1 : ∀ i, i ≠ 3 → 0 < i → up2 μ1 0 5 1 i = μ i := fun i hi h0 => by rw [up2_o (by omega), b1 i hi]
  have c1 : CR (up2 σ1 0 3 1) 1 f := hC.congr (fun i l1 l2 => s1 i (by omega) (by omega))
  refine ⟨nI (f 1), _, ρ1, _, ?_, ?_, ⟨f, hI, hB, c1, hS.congr (a4 _ (by omega)), by rw [m1 1 (by omega) (by omega)]; exact hA⟩, Or.inr ⟨up2_ss, up2_ss, f, hI, hB, a1.congr (fun i l1 l2 => up2_o (by omega)), a2, ?_⟩, ?_, ?_⟩
  · rw [c1.hits]
  · rw [m1 1 (by omega) (by omega), hA.1 1 (by omega) (by omega)]
  · rw [up2_o (by omega)]
    exact hA.eq b2
  · intro d hd
    have g := h2 d hd
    unfold ShE at g ⊢
    rw [s1 _ (by omega) (by omega), s1 _ (by omega) (by omega), a4 _ (by omega), m1 7 (by omega) (by omega), m1 8 (by omega) (by omega), m1 9 (by omega) (by omega), m1 10 (by omega) (by omega), m1 11 (by omega) (by omega), m1 12 (by omega) (by omega)]
    exact g
  · intro k hk
    rw [a4 _ (by omega)]
    exact h3 k hk
theorem E_restore {σ : IM} {ρ : RM} {kf : KF} {μ : IM} (h : All σ ρ kf μ) : Same3 kf (X11_restore kf σ ρ) (X12_restore μ) := by
  obtain ⟨⟨f, hI, hB, hC, hS, hA⟩, hr⟩ := h
  have h0 : All σ ρ kf μ := ⟨⟨f, hI, hB, hC, hS, hA⟩, hr⟩
  unfold X11_restore X12_restore
  rcases hr.1 with ⟨q1, q2⟩ | ⟨q1, q2, g, i1, i2, i3, i4, i5⟩
  · rw [q1, q2, if_pos rfl, if_pos rfl]
    exact Same3.no h0 rfl rfl
  · obtain ⟨σ1, ρ1, e1, a1, a2, a3, a4⟩ := C_become (c0 := 1) (c1 := 19) (Or.inr (by omega)) i3 i4 i1.1
    obtain ⟨μ1, e2, b1, b2⟩ := R_copies (μ := μ) (r0 := 3) (r1 := 1) (by omega)
    have hA1 : RA (μ1 1) g := i5.eq b2
    rw [q1, q2, if_neg n10, if_neg n10, e1, e2, bd2_s, bd1_s, rd42_1, a1.hits, hA1.1 1 (by omega) (by omega)]
    exact ⟨_, _, _, _, rfl, rfl, ⟨g, i1, i2, a1, a2, hA1⟩, hr.keep ⟨fun i l1 l2 => a3 i (by omega), by rw [a3 0 (by omega)], fun i l1 l2 => a4 i (by omega)⟩ ⟨b1 3 (by omega), fun i hi => b1 i (by omega), by rw [b1 0 (by omega)]⟩⟩
/-! how tired all are; who is left-handed -/
theorem R_allTired {μ : IM} {f : Nat → Nat} (hA : RA (μ 1) f) : X12_allTired μ = some (nI (cntN (fun p => f (22 + 4 * p)) 4)) := by
  refine loop_i (σ := Int32) (fun n i a => X12_allTired_b4 μ n a (nI i) = some (nI (cntN (fun p => f (22 + 4 * p)) 4))) (fun i a => a = nI (cntN (fun p => f (22 + 4 * p)) i)) 4 ?_ ?_ 1000 0 0 (by omega) (by omega) rfl
  · rintro n a rfl
    show X12_allTired_s4 μ _ _ (nI 4) = _
    unfold X12_allTired_s4
    rw [if_pos (show (4 : Int32) ≤ nI 4 by decide)]
  · rintro n i a hi rfl k
    show X12_allTired_s4 μ (X12_allTired_b4 μ n) _ (nI i) = _
    unfold X12_allTired_s4
    rw [if_neg (show ¬ (4 : Int32) ≤ nI i from nI_ge (b := 4) hi (by omega)), R_ofP2, bd1_s, rdN (by omega) (by omega), hA.1 _ (by omega) (by omega), bd_e, bd_e, nI_1, nI_add]
    exact k _ rfl
theorem C_allTired {σ : IM} {ρ : RM} {kf : KF} {c : Nat} {f : Nat → Nat} (hC : CR σ c f) : X1_allTired kf σ ρ c = some (nI (cntN (fun p => f (22 + 4 * p)) 4)) := by
  have r : ∀ (a : Nat → Int32) (j : Nat) (K : Int32 → Option Int32), j < 4 → rd a 4 (nI j) K = K (a j) := fun a j K hj => rdN hj (by omega)
  unfold X1_allTired
  rw [show ∀ a K, rd (β := Int32) a 4 0 K = K (a 0) from fun a K => r a 0 K (by omega), show ∀ a K, rd (β := Int32) a 4 1 K = K (a 1) from fun a K => r a 1 K (by omega), show ∀ a K, rd (β := Int32) a 4 2 K = K (a 2) from fun a K => r a 2 K (by omega), show ∀ a K, rd (β := Int32) a 4 3 K = K (a 3) from fun a K => r a 3 K (by omega), hC.tired (p := 0) (by omega), hC.tired (p := 1) (by omega), hC.tired (p := 2) (by omega), hC.tired (p := 3) (by omega), nI_add, nI_add, nI_add]
  show some (nI (f (22 + 4 * 0) + f (22 + 4 * 1) + f (22 + 4 * 2) + f (22 + 4 * 3))) = some (nI (0 + f (22 + 4 * 0) + f (22 + 4 * 1) + f (22 + 4 * 2) + f (22 + 4 * 3)))
  rw [Nat.zero_add]
theorem E_count {σ : IM} {ρ : RM} {kf : KF} {μ : IM} {f : Nat → Nat} (h : Now σ ρ kf μ f) (a1 : Int32) : Same0 (X11_count kf σ ρ a1) (X12_count μ a1) := by
  obtain ⟨hI, hB, hC, hS, hA⟩ := h
  unfold X11_count X12_count
  by_cases c0 : a1 = 0
  · rw [if_pos c0, if_pos c0]
    unfold X12_count_b40
    rw [c0, rd42_0, hC.known, hA.1 0 (by omega) (by omega)]
    exact ⟨_, rfl, rfl⟩
  rw [if_neg c0, if_neg c0]
  by_cases c1 : a1 = 1
  · rw [if_pos c1, if_pos c1]
    unfold X12_count_b40
    rw [c1, rd42_1, hC.hits, hA.1 1 (by omega) (by omega)]
    exact ⟨_, rfl, rfl⟩
  rw [if_neg c1, if_neg c1]
  by_cases c2 : a1 = 2
  · rw [if_pos c2, if_pos c2]
    unfold X12_count_b40
    rw [c2, rd42_2, hC.has, hA.1 2 (by omega) (by omega)]
    exact ⟨_, rfl, rfl⟩
  rw [if_neg c2, if_neg c2]
  by_cases c3 : a1 = 3
  · rw [if_pos c3, if_pos c3, rd42_3, hC.draught, hA.2]
    exact ⟨_, rfl, rfl⟩
  rw [if_neg c3, if_neg c3]
  by_cases c4 : a1 = 4
  · rw [if_pos c4, if_pos c4, C_allTired hC, R_allTired hA]
    exact ⟨_, rfl, rfl⟩
  rw [if_neg c4, if_neg c4]
  by_cases c5 : a1 = 5
  · rw [if_pos c5, if_pos c5]
    have key : X12_count_b63 μ 1000 0 0 = some ((((0 ||| (nI (f 23) <<< ((0 : Int32) &&& 31))) ||| (nI (f 27) <<< ((1 : Int32) &&& 31))) ||| (nI (f 31) <<< ((2 : Int32) &&& 31))) ||| (nI (f 35) <<< ((3 : Int32) &&& 31))) := by
      refine loop_i (σ := Int32) (fun n i a => X12_count_b63 μ n a (nI i) = some ((((0 ||| (nI (f 23) <<< ((0 : Int32) &&& 31))) ||| (nI (f 27) <<< ((1 : Int32) &&& 31))) ||| (nI (f 31) <<< ((2 : Int32) &&& 31))) ||| (nI (f 35) <<< ((3 : Int32) &&& 31)))) (fun i a => (i = 0 ∧ a = 0) ∨ (i = 1 ∧ a = 0 ||| (nI (f 23) <<< ((0 : Int32) &&& 31))) ∨ (i = 2 ∧ a = (0 ||| (nI (f 23) <<< ((0 : Int32) &&& 31))) ||| (nI (f 27) <<< ((1 : Int32) &&& 31))) ∨ (i = 3 ∧ a = ((0 ||| (nI (f 23) <<< ((0 : Int32) &&& 31))) ||| (nI (f 27) <<< ((1 : Int32) &&& 31))) ||| (nI (f 31) <<< ((2 : Int32) &&& 31))) ∨ (i = 4 ∧ a = (((0 ||| (nI (f 23) <<< ((0 : Int32) &&& 31))) ||| (nI (f 27) <<< ((1 : Int32) &&& 31))) ||| (nI (f 31) <<< ((2 : Int32) &&& 31))) ||| (nI (f 35) <<< ((3 : Int32) &&& 31)))) 4 ?_ ?_ 1000 0 0 (by omega) (by omega) (Or.inl ⟨rfl, rfl⟩)
      · intro n a h
        show X12_count_s63 μ _ a (nI 4) = _
        unfold X12_count_s63
        rw [if_pos (show (4 : Int32) ≤ nI 4 by decide)]
        rcases h with ⟨h, -⟩ | ⟨h, -⟩ | ⟨h, -⟩ | ⟨h, -⟩ | ⟨-, rfl⟩
        · omega
        · omega
        · omega
        · omega
        · rfl
      · intro n i a hi h k
        show X12_count_s63 μ (X12_count_b63 μ n) a (nI i) = _
        unfold X12_count_s63
        rw [if_neg (show ¬ (4 : Int32) ≤ nI i from nI_ge (b := 4) hi (by omega)), R_ofP3, bd1_s, rdN (by omega) (by omega), hA.1 _ (by omega) (by omega), bd_e, bd_e, nI_1]
        refine k _ ?_
        rcases h with ⟨rfl, rfl⟩ | ⟨rfl, rfl⟩ | ⟨rfl, rfl⟩ | ⟨rfl, rfl⟩ | ⟨h, -⟩
        · exact Or.inr (Or.inl ⟨rfl, rfl⟩)
        · exact Or.inr (Or.inr (Or.inl ⟨rfl, rfl⟩))
        · exact Or.inr (Or.inr (Or.inr (Or.inl ⟨rfl, rfl⟩)))
        · exact Or.inr (Or.inr (Or.inr (Or.inr ⟨rfl, rfl⟩)))
        · omega
    have dec : ∀ a, a < 2 → ∀ b, b < 2 → ∀ c, c < 2 → ∀ d, d < 2 → (((nI a ||| (nI b <<< ((1 : Int32) &&& 31))) ||| (nI c <<< ((2 : Int32) &&& 31))) ||| (nI d <<< ((3 : Int32) &&& 31))) = ((((0 ||| (nI a <<< ((0 : Int32) &&& 31))) ||| (nI b <<< ((1 : Int32) &&& 31))) ||| (nI c <<< ((2 : Int32) &&& 31))) ||| (nI d <<< ((3 : Int32) &&& 31))) := by decide +kernel
    have hP := hI.2.2.2.2.1
    have r : ∀ (a : Nat → Int32) (j : Nat) (K : Int32 → Option Int32), j < 4 → rd a 4 (nI j) K = K (a j) := fun a j K hj => rdN hj (by omega)
    refine ⟨_, ?_, key⟩
    unfold X1_leftOnes
    rw [show ∀ a K, rd (β := Int32) a 4 0 K = K (a 0) from fun a K => r a 0 K (by omega), show ∀ a K, rd (β := Int32) a 4 1 K = K (a 1) from fun a K => r a 1 K (by omega), show ∀ a K, rd (β := Int32) a 4 2 K = K (a 2) from fun a K => r a 2 K (by omega), show ∀ a K, rd (β := Int32) a 4 3 K = K (a 3) from fun a K => r a 3 K (by omega), hC.left (p := 0) (by omega), hC.left (p := 1) (by omega), hC.left (p := 2) (by omega), hC.left (p := 3) (by omega), bd1_s]
    exact congrArg some (dec _ (by have := (hP 0 (by omega)).2.2.2.2; omega) _ (by have := (hP 1 (by omega)).2.2.2.2; omega) _ (by have := (hP 2 (by omega)).2.2.2.2; omega) _ (by have := (hP 3 (by omega)).2.2.2.2; omega))
  · rw [if_neg c5, if_neg c5]
    exact ⟨_, rfl, rfl⟩
/-! nights -/
theorem isBt (x : Int32) (lo hi : Nat) (h1 : hi < 1000) : (∃ j, lo ≤ j ∧ j ≤ hi ∧ x = nI j ∧ ¬ x < nI lo ∧ ¬ nI hi < x ∧ X12_isIn x (nI lo) (nI hi) = some 1) ∨ ((x < nI lo ∨ (¬ x < nI lo ∧ nI hi < x)) ∧ X12_isIn x (nI lo) (nI hi) = some 0) ∨ 1000 ≤ lo := by
  by_cases hlo : 1000 ≤ lo
  · exact Or.inr (Or.inr hlo)
  by_cases h1 : x < nI lo
  · refine Or.inr (Or.inl ⟨Or.inl h1, ?_⟩)
    unfold X12_isIn
    rw [if_pos h1]
  · by_cases h2 : nI hi < x
    · refine Or.inr (Or.inl ⟨Or.inr ⟨h1, h2⟩, ?_⟩)
      unfold X12_isIn
      rw [if_neg h1, if_pos h2]
    · have t0 : (0 : Int32).toInt = 0 := rfl
      have h0 : ¬ x < 0 := by
        rw [Int32.lt_iff_toInt_lt, nI_toInt (by omega)] at h1
        rw [Int32.lt_iff_toInt_lt]
        omega
      obtain ⟨j, hj, rfl⟩ := nI_of2 (M := nI hi) (n := hi) (nI_toInt (by omega)) h0 (Int32.not_lt.mp h2)
      have hj1 : lo ≤ j := by
        rw [Int32.lt_iff_toInt_lt, nI_toInt (by omega), nI_toInt (by omega)] at h1
        omega
      refine Or.inl ⟨j, hj1, hj, rfl, h1, h2, ?_⟩
      unfold X12_isIn
      rw [if_neg h1, if_neg h2]
theorem drawV (s : Int32) {b : Nat} (h0 : 0 < b) (hb : b < 1000) : ∃ j, j < b ∧ rem32 ((s &&& 2147483647) / 65536) (nI b) = nI j := by
  refine ⟨s.toBitVec.toNat % 2 ^ 31 / 65536 % b, Nat.mod_lt _ h0, ?_⟩
  have hm : s.toBitVec.toNat % 2 ^ 31 < 2 ^ 31 := Nat.mod_lt _ (by omega)
  rw [pk_and s (m := 2147483647) 31 rfl, show (65536 : Int32) = nI 65536 from rfl, nI_div (by omega) (by omega) (by omega), nI_rem (by omega) (by omega) (by omega)]
theorem E_nights {σ : IM} {ρ : RM} {kf : KF} {μ : IM} (h : All σ ρ kf μ) (a1 a2 a3 : Int32) : Same3 kf (X11_nights kf σ ρ a1 a2 a3) (X12_nights μ a1 a2 a3) := by
  unfold X11_nights X12_nights
  obtain ⟨⟨f, hf⟩, hr⟩ := h
  have h0 : All σ ρ kf μ := ⟨⟨f, hf⟩, hr⟩
  have hI := hf.1
  have hN := hI.1
  have hA := hf.2.2.2.2
  rcases isBt a1 1 20 (by omega) with ⟨j, j1, j2, rfl, v1, v2, v3⟩ | ⟨v1, v3⟩ | q
  · rw [if_neg (show ¬ nI j < 1 from v1), if_neg (show ¬ (20 : Int32) < nI j from v2), show X12_isIn (nI j) 1 20 = some 1 from v3, bd1_s, if_neg n10]
    rcases rng a3 2 (by omega) with ⟨w, hw, rfl, w1, w2⟩ | ⟨w1, w2, -⟩
    · rw [show X11_isBelow (nI w) 2 = some 1 from w1, show X12_isIn (nI w) 0 1 = some 1 from w2, bd1_s, bd1_s, if_neg n10, if_neg n10, rd42_0, hf.2.2.1.known, hA.1 0 (by omega) (by omega)]
      by_cases z : f 0 = 0
      · refine Same3.no h0 (r := -3) ?_ ?_
        · rw [z]
          rfl
        · rw [z]
          rfl
      · have hnz : ¬ nI (f 0) = 0 := nI_ne0 (by omega) (by omega)
        rw [if_neg hnz, if_neg hnz, bd_e, bd_e]
        have i0 : FC σ ρ (up2 σ 0 8 a2) ρ := ⟨fun i l1 l2 => up2_o (by omega), fun i l1 l2 => up2_o (by omega), up2_oo (by omega), fun _ _ => rfl⟩
        have i1 : FR μ (up2 μ 0 12 a2) := ⟨up2_o (by omega), up2_o (by omega), fun i hi => up2_o (by omega), up2_oo (by omega)⟩
        have i2 : up2 σ 0 8 a2 0 8 = up2 μ 0 12 a2 0 12 := by rw [up2_ss, up2_ss]
        refine loop_i (σ := Int32 × IM × RM × IM) (fun n i z => Same3 kf (X11_nights_b45 kf n (nI j) (nI w) z.1 (nI i) z.2.1 z.2.2.1) (X12_nights_b44 n (nI j) (nI w) z.1 (nI i) z.2.2.2)) (fun i z => FC σ ρ z.2.1 z.2.2.1 ∧ FR μ z.2.2.2 ∧ z.2.1 0 8 = z.2.2.2 0 12) j ?_ ?_ 1000 0 (0, up2 σ 0 8 a2, ρ, up2 μ 0 12 a2) (by omega) (by omega) ⟨i0, i1, i2⟩
        · rintro n ⟨v, τ, ω, ν⟩ ⟨fc, fr, -⟩
          refine ⟨v, τ, ω, ν, ?_, ?_, h0.fr fc fr⟩
          · show X11_nights_s45 kf _ (nI j) (nI w) v (nI j) τ ω = _
            unfold X11_nights_s45
            rw [if_pos (nI_le (Nat.le_refl _) (by omega))]
          · show X12_nights_s44 _ (nI j) (nI w) v (nI j) ν = _
            unfold X12_nights_s44
            rw [if_pos (nI_le (Nat.le_refl _) (by omega))]
        · rintro n i ⟨v, τ, ω, ν⟩ hi ⟨fc, fr, hs⟩ kk
          have hn : Now τ ω kf ν f := hf.fr fc fr
          obtain ⟨τ1, ω1, b1, m1, g1, o1⟩ := M_become hn
          obtain ⟨ν1, c1, m2, g2, o2⟩ := N_copies hn.2.2.2.2
          have hs1 : τ1 0 8 = ν1 0 12 := by rw [o1 0 (by omega), o2 0 (by omega)]; exact hs
          show Same3 kf (X11_nights_s45 kf (X11_nights_b45 kf n) (nI j) (nI w) v (nI i) τ ω) (X12_nights_s44 (X12_nights_b44 n) (nI j) (nI w) v (nI i) ν)
          unfold X11_nights_s45 X12_nights_s44
          rw [if_neg (nI_ge (by omega) (by omega)), if_neg (nI_ge (by omega) (by omega)), b1, bd2_s, c1, bd1_s]
          refine loop_i (σ := (Nat → Nat) × IM × IM) (fun n' x z => Same3 kf (X11_nights_b65 kf (X11_nights_b45 kf n) n' (nI j) (nI w) v (nI i) (nI x) z.2.1 ω1) (X12_nights_b64 (X12_nights_b44 n) n' (nI j) (nI w) v (nI i) (nI x) z.2.2)) (fun x z => FC σ ρ z.2.1 ω1 ∧ FR μ z.2.2 ∧ z.2.1 0 8 = z.2.2 0 12 ∧ MC z.2.1 ω1 kf z.1 ∧ RA (z.2.2 2) z.1 ∧ Inv z.1 ∧ z.1 0 = f 0) 12 ?_ ?_ 1000 0 (f, τ1, ν1) (by omega) (by omega) ⟨fc.tr g1, fr.tr g2, hs1, m1, m2, hI, rfl⟩
          · rintro n' ⟨g, τ, ν⟩ ⟨fc, fr, hs, m1, m2, hg, hg0⟩
            dsimp only at fc fr hs m1 m2 hg hg0
            have hn : Now τ ω1 kf ν f := hf.fr fc fr
            show Same3 kf (X11_nights_s65 kf (X11_nights_b45 kf n) _ (nI j) (nI w) v (nI i) (nI 12) τ ω1) (X12_nights_s64 (X12_nights_b44 n) _ (nI j) (nI w) v (nI i) (nI 12) ν)
            unfold X11_nights_s65 X12_nights_s64
            rw [if_pos (show (12 : Int32) ≤ nI 12 by decide), if_pos (show (12 : Int32) ≤ nI 12 by decide)]
            have e2 : X12_ofSide (nI w) 2 = some (nI (38 + 3 * w)) := by rw [show (2 : Int32) = nI 2 from rfl, R_ofSn, show 36 + 3 * w + 2 = 38 + 3 * w by omega]
            simp (disch := omega) only [e2, bd1_s, rdN, bd_e, nI_1]
            rw [m1.1.points hw, hn.2.2.1.points hw, m2.1 _ (by omega) (by omega), hn.2.2.2.2.1 _ (by omega) (by omega)]
            exact kk (v + (nI (g (38 + 3 * w)) - nI (f (38 + 3 * w))), τ, ω1, ν) ⟨fc, fr, hs⟩
          · rintro n' x ⟨g, τ, ν⟩ hx ⟨fc, fr, hs, m1, m2, hg, hg0⟩ k2
            dsimp only at fc fr hs m1 m2 hg hg0
            have hn : Now τ ω1 kf ν f := hf.fr fc fr
            obtain ⟨d1, hd1, ed1⟩ := drawV (τ 0 8 * 1103515245 + 12345) (b := f 0) (by omega) (by omega)
            obtain ⟨d2, hd2, ed2⟩ := drawV ((τ 0 8 * 1103515245 + 12345) * 1103515245 + 12345) (b := 9) (by omega) (by omega)
            show Same3 kf (X11_nights_s65 kf (X11_nights_b45 kf n) (X11_nights_b65 kf (X11_nights_b45 kf n) n') (nI j) (nI w) v (nI i) (nI x) τ ω1) (X12_nights_s64 (X12_nights_b44 n) (X12_nights_b64 (X12_nights_b44 n) n') (nI j) (nI w) v (nI i) (nI x) ν)
            unfold X11_nights_s65 X12_nights_s64
            rw [if_neg (show ¬ (12 : Int32) ≤ nI x from nI_ge (b := 12) hx (by omega)), if_neg (show ¬ (12 : Int32) ≤ nI x from nI_ge (b := 12) hx (by omega)), hn.2.2.1.known, rd42_0, hn.2.2.2.2.1 0 (by omega) (by omega)]
            have D1 : X11_draw kf τ ω1 (nI (f 0)) = some (nI d1, up2 τ 0 8 (τ 0 8 * 1103515245 + 12345), ω1) := by
              unfold X11_draw nz
              rw [bd_e, if_neg hnz, up2_ss, ed1]
            have D2 : X12_drawn ν (nI (f 0)) = some (nI d1, up2 ν 0 12 (τ 0 8 * 1103515245 + 12345)) := by
              unfold X12_drawn nz
              rw [bd_e, if_neg hnz, up2_ss, ← hs, ed1]
            have D3 : X11_draw kf (up2 τ 0 8 (τ 0 8 * 1103515245 + 12345)) ω1 9 = some (nI d2, up2 (up2 τ 0 8 (τ 0 8 * 1103515245 + 12345)) 0 8 ((τ 0 8 * 1103515245 + 12345) * 1103515245 + 12345), ω1) := by
              unfold X11_draw nz
              rw [bd_e, if_neg (by decide), up2_ss, up2_ss, show (9 : Int32) = nI 9 from rfl, ed2]
            have D4 : X12_drawn (up2 ν 0 12 (τ 0 8 * 1103515245 + 12345)) 9 = some (nI d2, up2 (up2 ν 0 12 (τ 0 8 * 1103515245 + 12345)) 0 12 ((τ 0 8 * 1103515245 + 12345) * 1103515245 + 12345)) := by
              unfold X12_drawn nz
              rw [bd_e, if_neg (by decide), up2_ss, up2_ss, show (9 : Int32) = nI 9 from rfl, ed2]
            rw [D1, bd3_s, D3, bd3_s, D2, bd2_s, D4, bd2_s]
            generalize hs' : (τ 0 8 * 1103515245 + 12345) * 1103515245 + 12345 = s' at *
            generalize hs'' : τ 0 8 * 1103515245 + 12345 = s'' at *
            have m1' : MC (up2 (up2 τ 0 8 s'') 0 8 s') ω1 kf g := ⟨m1.1.congr (fun i l1 l2 => by rw [up2_o (by omega), up2_o (by omega)]), m1.2⟩
            have m2' : RA (up2 (up2 ν 0 12 s'') 0 12 s' 2) g := by
              rw [up2_o (by omega), up2_o (by omega)]
              exact m2
            obtain ⟨τ2, b2, m3, g3, o3⟩ := M_strike m1' hg (k := d1) (x := d2) (by omega) hd2
            obtain ⟨ν2, c2, m4, g4, o4, -⟩ := N_hits m2' hg (k := d1) (x := d2) (by omega) hd2
            rw [b2, bd3_s, c2, bd2_s, bd_e, bd_e, nI_1]
            refine k2 (hitN g d1 d2, τ2, ν2) ⟨(fc.tr ?_).tr g3, (fr.tr ?_).tr g4, ?_, m3, m4, hitN_Inv hg (by omega) hd2, (f1_0 hg).trans hg0⟩
            · exact ⟨fun i l1 l2 => by rw [up2_o (by omega), up2_o (by omega)], fun i l1 l2 => by rw [up2_o (by omega), up2_o (by omega)], by rw [up2_oo (by omega), up2_oo (by omega)], fun _ _ => rfl⟩
            · exact ⟨by rw [up2_o (by omega), up2_o (by omega)], by rw [up2_o (by omega), up2_o (by omega)], fun i hi => by rw [up2_o (by omega), up2_o (by omega)], by rw [up2_oo (by omega), up2_oo (by omega)]⟩
            · show τ2 0 8 = ν2 0 12
              rw [o3 0 (by omega), o4 0 (by omega) (by omega), up2_ss, up2_ss]
    · exact Same3.no h0 (r := -1) (by rw [show X11_isBelow a3 2 = some 0 from w1]; rfl) (by rw [show X12_isIn a3 0 1 = some 0 from w2]; rfl)
  · refine Same3.no h0 (r := -1) ?_ (by rw [show X12_isIn a1 1 20 = some 0 from v3]; rfl)
    rcases v1 with v1 | ⟨v1, v2⟩
    · rw [if_pos (show a1 < 1 from v1)]
    · rw [if_neg (show ¬ a1 < 1 from v1), if_pos (show (20 : Int32) < a1 from v2)]
  · omega
