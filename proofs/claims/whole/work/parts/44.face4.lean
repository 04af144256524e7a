/-! queries: whose it is, points, cells -/
def FirstR (p : Nat → Prop) (M : Nat) (r : Int32) : Prop := (∃ i, i < M ∧ p i ∧ (∀ j, j < i → ¬ p j) ∧ r = nI (10 * (i / 9) + i % 9)) ∨ ((∀ j, j < M → ¬ p j) ∧ r = -4)
theorem FirstR.uniq {p : Nat → Prop} {M : Nat} {r r' : Int32} (h : FirstR p M r) (h' : FirstR p M r') : r = r' := by
  rcases h with ⟨i, a1, a2, a3, rfl⟩ | ⟨a, rfl⟩
  · rcases h' with ⟨i', b1, b2, b3, rfl⟩ | ⟨b, rfl⟩
    · have : i = i' := by
        rcases Nat.lt_trichotomy i i' with q | q | q
        · exact absurd a2 (b3 i q)
        · exact q
        · exact absurd b2 (a3 i' q)
      rw [this]
    · exact absurd a2 (b i a1)
  · rcases h' with ⟨i', b1, b2, b3, rfl⟩ | ⟨b, rfl⟩
    · exact absurd b2 (a i' b1)
    · rfl
abbrev ptC (g : Nat → Nat) (i : Nat) : Prop := ptB g (i / 9) (i % 9) = 1
theorem C_firstScoring {σ : IM} {ρ : RM} {kf : KF} {c : Nat} {g : Nat → Nat} (hC : CR σ c g) (hS : SR ρ kf c g) (hI : Inv g) : ∃ r, X1_firstScoring kf σ ρ c = some r ∧ FirstR (ptC g) (9 * g 0) r := by
  have hN := hI.1
  refine loop_i (σ := Unit) (fun n i _ => ∃ r, X1_firstScoring_b2 kf σ ρ c n (nI i) = some r ∧ FirstR (ptC g) (9 * g 0) r) (fun i _ => ∀ j, j < 9 * i → ¬ ptC g j) (g 0) ?_ ?_ 1000 0 () (by omega) (by omega) (fun j hj => absurd hj (by omega))
  · intro n _ h
    refine ⟨-4, ?_, Or.inr ⟨h, rfl⟩⟩
    show X1_firstScoring_s2 kf σ ρ c _ (nI (g 0)) = _
    unfold X1_firstScoring_s2
    rw [hC.known, if_pos (nI_le (by omega) (by omega))]
  · intro n i _ hi h k
    show ∃ r, X1_firstScoring_s2 kf σ ρ c (X1_firstScoring_b2 kf σ ρ c n) (nI i) = some r ∧ _
    unfold X1_firstScoring_s2
    rw [hC.known, if_neg (nI_ge (by omega) (by omega))]
    refine loop_i (σ := Unit) (fun n' x _ => ∃ r, X1_firstScoring_b12 kf σ ρ c (X1_firstScoring_b2 kf σ ρ c n) n' (nI i) (nI x) = some r ∧ FirstR (ptC g) (9 * g 0) r) (fun x _ => ∀ j, j < 9 * i + x → ¬ ptC g j) 9 ?_ ?_ 1000 0 () (by omega) (by omega) (fun j hj => h j (by omega))
    · intro n' _ h'
      show ∃ r, X1_firstScoring_s12 kf σ ρ c (X1_firstScoring_b2 kf σ ρ c n) _ (nI i) (nI 9) = some r ∧ _
      unfold X1_firstScoring_s12
      rw [if_pos (show (9 : Int32) ≤ nI 9 by decide), nI_1, bd_e]
      exact k () (fun j hj => h' j (by omega))
    · intro n' x _ hx h' k'
      show ∃ r, X1_firstScoring_s12 kf σ ρ c (X1_firstScoring_b2 kf σ ρ c n) (X1_firstScoring_b12 kf σ ρ c (X1_firstScoring_b2 kf σ ρ c n) n') (nI i) (nI x) = some r ∧ _
      unfold X1_firstScoring_s12
      have e1 : (9 * i + x) / 9 = i := by omega
      have e2 : (9 * i + x) % 9 = x := by omega
      rw [if_neg (show ¬ (9 : Int32) ≤ nI x from nI_ge (b := 9) hx (by omega)), C_scores hC hS hI hi hx, bd1_s]
      rcases ptB_or g i x with z | z
      · rw [z, if_pos z00, nI_1, bd_e]
        refine k' () (fun j hj => ?_)
        by_cases e : j = 9 * i + x
        · subst e
          unfold ptC
          rw [e1, e2, z]
          decide
        · exact h' j (by omega)
      · rw [z, if_neg z10]
        refine ⟨_, rfl, Or.inl ⟨9 * i + x, by omega, ?_, h', ?_⟩⟩
        · unfold ptC
          rw [e1, e2, z]
        · rw [e1, e2, show (10 : Int32) = nI 10 from rfl, pk_mul, nI_add]
theorem R_forced {μ : IM} {f : Nat → Nat} (hA : RA (μ 1) f) (hI : Inv f) : ∃ r μ', X12_forced μ = some (r, μ') ∧ FirstR (ptC f) (9 * f 0) r ∧ FR μ μ' := by
  have hN := hI.1
  refine loop_i (σ := IM) (fun n i ν => ∃ r μ', X12_forced_b2 n (nI i) ν = some (r, μ') ∧ FirstR (ptC f) (9 * f 0) r ∧ FR μ μ') (fun i ν => FR μ ν ∧ ∀ j, j < i → ¬ ptC f j) (9 * f 0) ?_ ?_ 1000 0 μ (by omega) (by omega) ⟨FR.rf, fun j hj => absurd hj (by omega)⟩
  · intro n ν h
    refine ⟨-4, ν, ?_, Or.inr ⟨h.2, rfl⟩, h.1⟩
    show X12_forced_s2 _ (nI (9 * f 0)) ν = _
    unfold X12_forced_s2
    rw [rd42_0, h.1.1, hA.1 0 (by omega) (by omega), show (9 : Int32) = nI 9 from rfl, pk_mul, if_pos (nI_le (by omega) (by omega))]
  · intro n i ν hi h k
    show ∃ r μ', X12_forced_s2 (X12_forced_b2 n) (nI i) ν = some (r, μ') ∧ _
    unfold X12_forced_s2
    have hA' : RA (ν 1) f := by rw [h.1.1]; exact hA
    obtain ⟨ν', e, -, fr⟩ := N_isWon (k := i / 9) (x := i % 9) hA' hI (by omega) (by omega)
    rw [rd42_0, hA'.1 0 (by omega) (by omega), show (9 : Int32) = nI 9 from rfl, pk_mul, if_neg (nI_ge (by omega) (by omega)), nI_div (by omega) (by omega) (by omega), nI_rem (by omega) (by omega) (by omega), e, bd2_s]
    rcases ptB_or f (i / 9) (i % 9) with z | z
    · rw [z, if_pos z00, nI_1, bd_e]
      refine k ν' ⟨h.1.tr fr, fun j hj => ?_⟩
      by_cases e : j = i
      · subst e
        unfold ptC
        rw [z]
        decide
      · exact h.2 j (by omega)
    · rw [z, if_neg z10]
      refine ⟨_, ν', rfl, Or.inl ⟨i, hi, z, h.2, ?_⟩, h.1.tr fr⟩
      rw [show (10 : Int32) = nI 10 from rfl, pk_mul, nI_add]
theorem E_forced {σ : IM} {ρ : RM} {kf : KF} {μ : IM} (h : All σ ρ kf μ) : Same1 kf σ ρ (X11_forced kf σ ρ) (X12_forced μ) := by
  obtain ⟨⟨f, hI, hB, hC, hS, hA⟩, hr⟩ := h
  have h0 : All σ ρ kf μ := ⟨⟨f, hI, hB, hC, hS, hA⟩, hr⟩
  obtain ⟨r, e1, p1⟩ := C_firstScoring hC hS hI
  obtain ⟨r', μ', e2, p2, fr⟩ := R_forced hA hI
  refine ⟨r, μ', ?_, ?_, h0.fr FC.rf fr⟩
  · unfold X11_forced
    rw [e1]
    rfl
  · rw [e2, p1.uniq p2]
theorem E_wins {σ : IM} {ρ : RM} {kf : KF} {μ : IM} (h : All σ ρ kf μ) (a1 a2 : Int32) : Same1 kf σ ρ (X11_wins kf σ ρ a1 a2) (X12_wins μ a1 a2) := by
  unfold X11_wins X12_wins
  obtain ⟨⟨f, hf⟩, hr⟩ := h
  have h0 : All σ ρ kf μ := ⟨⟨f, hf⟩, hr⟩
  rcases isHi hf a1 a2 with ⟨k, c, hk, hc, rfl, rfl, q1, q2⟩ | ⟨q1, q2⟩
  · obtain ⟨hI, hB, hC, hS, hA⟩ := hf
    obtain ⟨μ', e, -, fr⟩ := N_isWon hA hI hk hc
    rw [q1, q2, bd1_s, bd1_s, if_neg n10, if_neg n10, C_scores hC hS hI hk hc, e, bd1_s, bd2_s]
    rcases ptB_or f k c with z | z
    · exact ⟨0, μ', by rw [z]; rfl, by rw [z]; rfl, h0.fr FC.rf fr⟩
    · exact ⟨1, μ', by rw [z]; rfl, by rw [z]; rfl, h0.fr FC.rf fr⟩
  · exact ⟨-1, μ, by rw [q1]; rfl, by rw [q2]; rfl, h0⟩
theorem E_open {σ : IM} {ρ : RM} {kf : KF} {μ : IM} (h : All σ ρ kf μ) (a1 : Int32) : Same1 kf σ ρ (X11_open kf σ ρ a1) (X12_open μ a1) := by
  unfold X11_open X12_open X12_openTo
  obtain ⟨⟨f, hf⟩, hr⟩ := h
  have h0 : All σ ρ kf μ := ⟨⟨f, hf⟩, hr⟩
  rcases knows hf a1 with ⟨k, hk, rfl, q1, q2⟩ | ⟨q1, q2⟩
  · obtain ⟨hI, hB, hC, hS, hA⟩ := hf
    rw [q1, q2, bd1_s, bd1_s, if_neg n10, if_neg n10]
    have key := loop_i (σ := Int32 × IM) (fun n i z => ∃ r μ', X11_open_b17 kf σ ρ n (nI k) z.1 (nI i) = some r ∧ X12_openTo_b4 n (nI k) z.1 (nI i) z.2 = some (r, μ') ∧ FR μ μ') (fun i z => FR μ z.2) 9 ?_ ?_ 1000 0 (0, μ) (by omega) (by omega) FR.rf
    · obtain ⟨r, μ', e1, e2, fr⟩ := key
      refine ⟨r, μ', e1, ?_, h0.fr FC.rf fr⟩
      rw [show X12_openTo_b4 1000 (nI k) 0 0 μ = _ from e2]
      rfl
    · intro n z fr
      refine ⟨z.1, z.2, ?_, ?_, fr⟩
      · show X11_open_s17 kf σ ρ _ (nI k) z.1 (nI 9) = _
        unfold X11_open_s17
        rw [if_pos (show (9 : Int32) ≤ nI 9 by decide)]
      · show X12_openTo_s4 _ (nI k) z.1 (nI 9) z.2 = _
        unfold X12_openTo_s4
        rw [if_pos (show (9 : Int32) ≤ nI 9 by decide)]
    · intro n i z hi fr kk
      have hA' : RA (z.2 1) f := by rw [fr.1]; exact hA
      obtain ⟨ν', e, -, fr'⟩ := N_isWon (k := k) (x := i) hA' hI hk hi
      show ∃ r μ', X11_open_s17 kf σ ρ (X11_open_b17 kf σ ρ n) (nI k) z.1 (nI i) = some r ∧ X12_openTo_s4 (X12_openTo_b4 n) (nI k) z.1 (nI i) z.2 = some (r, μ') ∧ _
      unfold X11_open_s17 X12_openTo_s4 X11_open_b41 X12_openTo_b27
      rw [if_neg (show ¬ (9 : Int32) ≤ nI i from nI_ge (b := 9) hi (by omega)), if_neg (show ¬ (9 : Int32) ≤ nI i from nI_ge (b := 9) hi (by omega)), C_scores hC hS hI hk hi, e, bd1_s, bd2_s]
      rcases ptB_or f k i with q | q
      · rw [q, if_pos z00, if_pos z00, nI_1, Int32.or_zero]
        exact kk (z.1, ν') (fr.tr fr')
      · rw [q, if_neg z10, if_neg z10, nI_1]
        exact kk (z.1 ||| 1 <<< (nI i &&& 31), ν') (fr.tr fr')
  · exact ⟨-1, μ, by rw [q1]; rfl, by rw [q2]; rfl, h0⟩
/-- how long a way a stroke leads -/
def ledN (f : Nat → Nat) (k c : Nat) : Nat := if whN f k c = 9 then 99 else wayN (f (20 + 4 * whN f k c)) (faN f k c)
theorem wh_lt (f : Nat → Nat) (k c : Nat) : whN f k c = 9 ∨ whN f k c < 4 := by
  have := sdN_le f
  rcases whoN_or f (sdN f) (faN f k c) with q | q | q
  · exact Or.inl q
  · refine Or.inr ?_
    unfold whN
    omega
  · refine Or.inr ?_
    unfold whN
    omega
theorem ledN_lt {f : Nat → Nat} {k c : Nat} (hI : Inv f) (hk : k < f 0) (hc : c < 9) : ledN f k c < 100 := by
  obtain ⟨i1, i2⟩ := hI.2.2.2.1 k hk
  have hx : faN f k c < 9 := landN_lt _ i1 _ hI.2.2.1 _ hc
  unfold ledN
  rcases wh_lt f k c with q | q
  · rw [if_pos q]
    omega
  · rw [if_neg (by omega)]
    have := wayN_lt _ (hI.2.2.2.2.1 _ q).1 _ hx
    omega
theorem C_led {σ : IM} {ρ : RM} {kf : KF} {c0 : Nat} {f : Nat → Nat} {k c : Nat} (hC : CR σ c0 f) (hI : Inv f) (hk : k < f 0) (hc : c < 9) : X1_wayLed kf σ ρ c0 (nI (faN f k c)) = some (nI (ledN f k c)) := by
  obtain ⟨i1, i2⟩ := hI.2.2.2.1 k hk
  have hx : faN f k c < 9 := landN_lt _ i1 _ hI.2.2.1 _ hc
  unfold X1_wayLed ledN
  rw [show X1_takerOf kf σ ρ c0 (nI (faN f k c)) = some (nI (whN f k c)) from C_takerOf hC hI hx, bd1_s]
  rcases wh_lt f k c with q | q
  · rw [if_pos (by rw [q]; rfl), if_pos q]
    rfl
  · rw [if_neg (show ¬ nI (whN f k c) = 9 from fun e => by have := (nI_iff (b := 9) (by omega) (by omega)).mp e; omega), if_neg (by omega), rdN (by omega) (by omega), hC.at q, C_way _ (hI.2.2.2.2.1 _ q).1 _ hx]
    rfl
theorem R_led {μ : IM} {f : Nat → Nat} {k c : Nat} (hA : RA (μ 1) f) (hI : Inv f) (hk : k < f 0) (hc : c < 9) : X12_leads μ (nI k) (nI c) = some (nI (ledN f k c)) := by
  obtain ⟨i1, i2⟩ := hI.2.2.2.1 k hk
  have hN := hI.1
  have hx : faN f k c < 9 := landN_lt _ i1 _ hI.2.2.1 _ hc
  unfold X12_leads ledN
  rw [R_whoseNow hA hI hk hc, bd1_s]
  rcases wh_lt f k c with q | q
  · rw [if_pos (by rw [q]; rfl), if_pos q]
    rfl
  · rw [if_neg (show ¬ nI (whN f k c) = 9 from fun e => by have := (nI_iff (b := 9) (by omega) (by omega)).mp e; omega), if_neg (by omega), R_ofP0, bd1_s, rdN (by omega) (by omega), hA.1 _ (by omega) (by omega), R_fallsIn hA (by omega) i1 hI.2.2.1 hc, bd1_s, R_wayOf _ (hI.2.2.2.2.1 _ q).1 _ hx]
    rfl
theorem E_farthest {σ : IM} {ρ : RM} {kf : KF} {μ : IM} {f : Nat → Nat} (h : Now σ ρ kf μ f) (a1 a2 : Int32) : Same0 (X11_farthest kf σ ρ a1 a2) (X12_farthest μ a1 a2) := by
  unfold X11_farthest X12_farthest
  rcases knows h a1 with ⟨k, hk, rfl, q1, q2⟩ | ⟨q1, q2⟩
  · obtain ⟨hI, hB, hC, hS, hA⟩ := h
    rw [q1, q2, bd1_s, bd1_s, if_neg n10, if_neg n10]
    rcases rng a2 2 (by omega) with ⟨w, hw, rfl, w1, w2⟩ | ⟨w1, w2, -⟩
    · rw [show X11_isBelow (nI w) 2 = some 1 from w1, show X12_isIn (nI w) 0 1 = some 1 from w2, bd1_s, bd1_s, if_neg n10, if_neg n10]
      refine loop_i (σ := Int32 × Int32 × Int32) (fun n i z => Same0 (X11_farthest_b29 kf σ ρ n (nI k) (nI w) z.1 z.2.1 (nI i)) (X12_farthest_b24 μ n (nI k) (nI w) z.2.2 (nI i))) (fun i z => (i = 0 ∧ z = (0, -1, 0)) ∨ (0 < i ∧ ∃ b, b < 9 ∧ z = (nI b, nI (ledN f k b), nI b))) 9 ?_ ?_ 1000 0 (0, -1, 0) (by omega) (by omega) (Or.inl ⟨rfl, rfl⟩)
      · intro n z hz
        rcases hz with ⟨h9, -⟩ | ⟨-, b, hb, rfl⟩
        · omega
        · show Same0 (X11_farthest_s29 kf σ ρ _ (nI k) (nI w) (nI b) (nI (ledN f k b)) (nI 9)) (X12_farthest_s24 μ _ (nI k) (nI w) (nI b) (nI 9))
          unfold X11_farthest_s29 X12_farthest_s24
          rw [if_pos (show (9 : Int32) ≤ nI 9 by decide), if_pos (show (9 : Int32) ≤ nI 9 by decide), R_led hA hI hk hb, bd1_s]
          rcases (show w = 0 ∨ w = 1 by omega) with rfl | rfl
          · exact ⟨_, rfl, rfl⟩
          · exact ⟨_, rfl, rfl⟩
      · intro n i z hi hz kk
        have l1 := ledN_lt (k := k) (c := i) hI hk hi
        rcases hz with ⟨rfl, rfl⟩ | ⟨h0, b, hb, rfl⟩
        · show Same0 (X11_farthest_s29 kf σ ρ (X11_farthest_b29 kf σ ρ n) (nI k) (nI w) 0 (-1) (nI 0)) (X12_farthest_s24 μ (X12_farthest_b24 μ n) (nI k) (nI w) 0 (nI 0))
          unfold X11_farthest_s29 X12_farthest_s24 X11_farthest_b69 X12_farthest_b50
          rw [if_neg (by decide), if_neg (by decide), C_landing hC hS hI hk hi, bd1_s, C_led hC hI hk hi, bd1_s, R_led hA hI hk hi, bd1_s, show X12_leads μ (nI k) 0 = _ from R_led hA hI hk hi, bd1_s, if_neg (show ¬ nI (ledN f k 0) ≤ -1 from ?_), if_pos (Int32.le_refl _), nI_1]
          · exact kk (nI 0, nI (ledN f k 0), nI 0) (Or.inr ⟨by omega, 0, by omega, rfl⟩)
          · intro e
            rw [Int32.le_iff_toInt_le, nI_toInt (by omega)] at e
            have : (-1 : Int32).toInt = -1 := rfl
            omega
        · have l2 := ledN_lt (k := k) (c := b) hI hk hb
          show Same0 (X11_farthest_s29 kf σ ρ (X11_farthest_b29 kf σ ρ n) (nI k) (nI w) (nI b) (nI (ledN f k b)) (nI i)) (X12_farthest_s24 μ (X12_farthest_b24 μ n) (nI k) (nI w) (nI b) (nI i))
          unfold X11_farthest_s29 X12_farthest_s24 X11_farthest_b69 X12_farthest_b50
          rw [if_neg (show ¬ (9 : Int32) ≤ nI i from nI_ge (b := 9) hi (by omega)), if_neg (show ¬ (9 : Int32) ≤ nI i from nI_ge (b := 9) hi (by omega)), C_landing hC hS hI hk hi, bd1_s, C_led hC hI hk hi, bd1_s, R_led hA hI hk hi, bd1_s, R_led hA hI hk hb, bd1_s, nI_1]
          by_cases c : ledN f k i ≤ ledN f k b
          · rw [if_pos (nI_le c (by omega)), if_pos (nI_le c (by omega))]
            exact kk (nI b, nI (ledN f k b), nI b) (Or.inr ⟨by omega, b, hb, rfl⟩)
          · rw [if_neg (nI_ge (by omega) (by omega)), if_neg (nI_ge (by omega) (by omega))]
            exact kk (nI i, nI (ledN f k i), nI i) (Or.inr ⟨by omega, i, hi, rfl⟩)
    · exact ⟨-1, by rw [show X11_isBelow a2 2 = some 0 from w1]; rfl, by rw [show X12_isIn a2 0 1 = some 0 from w2]; rfl⟩
  · exact ⟨-1, by rw [q1]; rfl, by rw [q2]; rfl⟩
theorem E_atWhom {σ : IM} {ρ : RM} {kf : KF} {μ : IM} (h : All σ ρ kf μ) (a1 : Int32) : Same3 kf (X11_atWhom kf σ ρ a1) (X12_atWhom μ a1) := by
  unfold X11_atWhom X12_atWhom
  obtain ⟨⟨f, hf⟩, hr⟩ := h
  have h0 : All σ ρ kf μ := ⟨⟨f, hf⟩, hr⟩
  rcases knows hf a1 with ⟨k, hk, rfl, q1, q2⟩ | ⟨q1, q2⟩
  · have hI := hf.1
    rw [q1, q2, bd1_s, bd1_s, if_neg n10, if_neg n10]
    refine loop_i (σ := (Int32 × Int32) × IM × RM × IM) (fun n i z => Same3 kf (X11_atWhom_b21 kf n (nI k) z.1.1 z.1.2 (nI i) z.2.1 z.2.2.1) (X12_atWhom_b18 n (nI k) z.1.1 z.1.2 (nI i) z.2.2.2)) (fun i z => FC σ ρ z.2.1 z.2.2.1 ∧ FR μ z.2.2.2) 9 ?_ ?_ 1000 0 ((-4, -1), σ, ρ, μ) (by omega) (by omega) ⟨FC.rf, FR.rf⟩
    · intro n z hz
      refine ⟨z.1.1, z.2.1, z.2.2.1, z.2.2.2, ?_, ?_, h0.fr hz.1 hz.2⟩
      · show X11_atWhom_s21 kf _ (nI k) z.1.1 z.1.2 (nI 9) z.2.1 z.2.2.1 = _
        unfold X11_atWhom_s21
        rw [if_pos (show (9 : Int32) ≤ nI 9 by decide)]
      · show X12_atWhom_s18 _ (nI k) z.1.1 z.1.2 (nI 9) z.2.2.2 = _
        unfold X12_atWhom_s18
        rw [if_pos (show (9 : Int32) ≤ nI 9 by decide)]
    · intro n i z hi hz kk
      obtain ⟨⟨be, mo⟩, τ, ω, ν⟩ := z
      have hn : Now τ ω kf ν f := hf.fr hz.1 hz.2
      obtain ⟨τ1, ω1, e1, m1, f1, -⟩ := M_become hn
      obtain ⟨τ2, e2, m2, f2, -⟩ := M_strike m1 hI hk hi
      obtain ⟨ν1, e3, m3, f3⟩ := N_isWon hn.2.2.2.2 hI hk hi
      have hI2 := hitN_Inv hI hk hi
      have h2 := hI2.2.1
      have hz' : FC σ ρ τ2 ω1 ∧ FR μ ν1 := ⟨(hz.1.tr f1).tr f2, hz.2.tr f3⟩
      show Same3 kf (X11_atWhom_s21 kf (X11_atWhom_b21 kf n) (nI k) be mo (nI i) τ ω) (X12_atWhom_s18 (X12_atWhom_b18 n) (nI k) be mo (nI i) ν)
      unfold X11_atWhom_s21 X12_atWhom_s18 X11_atWhom_b85 X12_atWhom_b76
      rw [if_neg (show ¬ (9 : Int32) ≤ nI i from nI_ge (b := 9) hi (by omega)), if_neg (show ¬ (9 : Int32) ≤ nI i from nI_ge (b := 9) hi (by omega)), e1, bd2_s, e2, bd3_s, e3, bd2_s, m2.1.has, rdN h2 (by omega), m2.1.tired h2]
      simp only [rd42_2, m3.1 2 (by omega) (by omega), R_ofP2, bd1_s, rdN (show 22 + 4 * hitN f k i 2 < 42 by omega) (show 42 < 2147483648 by omega), m3.1 (22 + 4 * hitN f k i 2) (by omega) (by omega), nI_1, bd_e]
      rcases ptB_or f k i with q | q
      · rw [q, if_pos z00, if_pos z00]
        by_cases c : nI (hitN f k i (22 + 4 * hitN f k i 2)) ≤ mo
        · rw [if_pos c, if_neg (Int32.not_lt.mpr c)]
          exact kk ((be, mo), τ2, ω1, ν1) hz'
        · rw [if_neg c, if_pos (Int32.not_le.mp c)]
          exact kk ((nI i, nI (hitN f k i (22 + 4 * hitN f k i 2))), τ2, ω1, ν1) hz'
      · rw [q, if_neg z10, if_neg z10]
        exact kk ((be, mo), τ2, ω1, ν1) hz'
  · exact Same3.no h0 (r := -1) (by rw [q1]; rfl) (by rw [q2]; rfl)
theorem E_change {σ : IM} {ρ : RM} {kf : KF} {μ : IM} (h : All σ ρ kf μ) (a1 a2 a3 a4 : Int32) : Same3 kf (X11_change kf σ ρ a1 a2 a3 a4) (X12_change μ a1 a2 a3 a4) := by
  unfold X11_change X12_change
  obtain ⟨⟨f, hf⟩, hr⟩ := h
  have h0 : All σ ρ kf μ := ⟨⟨f, hf⟩, hr⟩
  rcases isHi hf a1 a2 with ⟨k, c, hk, hc, rfl, rfl, q1, q2⟩ | ⟨q1, q2⟩
  · have hI := hf.1
    rw [q1, q2, bd1_s, bd1_s, if_neg n10, if_neg n10]
    rcases isPl a3 with ⟨p, hp, rfl, w1, w2⟩ | ⟨w1, w2⟩
    · rw [w1, w2, bd1_s, bd1_s, if_neg n10, if_neg n10]
      rcases rng a4 2 (by omega) with ⟨w, hw, rfl, v1, v2⟩ | ⟨v1, v2, -⟩
      · obtain ⟨τ1, ω1, e1, m1, f1, -⟩ := M_become hf
        obtain ⟨τ2, e2, m2, f2, -⟩ := M_strike m1 hI hk hc
        obtain ⟨ν1, e3, m3, f3⟩ := N_isWon hf.2.2.2.2 hI hk hc
        have fin := h0.fr (f1.tr f2) f3
        unfold X12_change_b51
        rw [show X11_isBelow (nI w) 2 = some 1 from v1, show X12_isIn (nI w) 0 1 = some 1 from v2, bd1_s, bd1_s, if_neg n10, if_neg n10, e1, bd2_s, e2, bd3_s, e3, bd2_s, rdN hp (by omega), rdN hp (by omega), m2.1.at hp, m2.1.tired hp, R_ofP0, R_ofP2, bd1_s, bd1_s, rdN (by omega) (by omega), rdN (by omega) (by omega), m3.1 _ (by omega) (by omega), m3.1 _ (by omega) (by omega)]
        rcases (show w = 0 ∨ w = 1 by omega) with rfl | rfl
        · exact ⟨_, _, _, _, rfl, rfl, fin⟩
        · exact ⟨_, _, _, _, rfl, rfl, fin⟩
      · exact Same3.no h0 (r := -1) (by rw [show X11_isBelow a4 2 = some 0 from v1]; rfl) (by rw [show X12_isIn a4 0 1 = some 0 from v2]; rfl)
    · exact Same3.no h0 (r := -1) (by rw [w1]; rfl) (by rw [w2]; rfl)
  · exact Same3.no h0 (r := -1) (by rw [q1]; rfl) (by rw [q2]; rfl)
