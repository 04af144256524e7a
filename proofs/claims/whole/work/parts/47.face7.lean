/-! two who choose -/
def enN (i : Nat) : Nat := if i % 2 = 0 then 0 else 8
theorem enN_lt (i : Nat) : enN i < 9 := by
  unfold enN
  split <;> omega
def plN : Nat → Nat → (Nat → Nat) → (Nat → Nat) × Nat
  | 0, _, g => (g, 2)
  | m + 1, i, g => if ptB g 0 (enN i) = 1 then (hitN g 0 (enN i), g 2 / 2) else plN m (i + 1) (hitN g 0 (enN i))
theorem plN_ok {s : Nat} (hs : s < 2) : ∀ (m i : Nat) (g : Nat → Nat), Inv g → 0 < g 0 → Inv (plN m i g).1 ∧ (plN m i g).2 ≤ 2 ∧ (plN m i g).1 (38 + 3 * s) = g (38 + 3 * s) + (if (plN m i g).2 = s then 1 else 0) := by
  intro m
  induction m with
  | zero =>
    intro i g hI h0
    refine ⟨hI, Nat.le_refl 2, ?_⟩
    show g (38 + 3 * s) = g (38 + 3 * s) + (if 2 = s then 1 else 0)
    rw [if_neg (by omega), Nat.add_zero]
  | succ m ih =>
    intro i g hI h0
    have e := enN_lt i
    have h2 := hI.2.1
    have hI1 := hitN_Inv (k := 0) hI h0 e
    have hp := hitN_pt (f := g) (k := 0) (c := enN i) h2 hs
    unfold plN
    by_cases c : ptB g 0 (enN i) = 1
    · rw [if_pos c]
      refine ⟨hI1, by omega, ?_⟩
      show hitN g 0 (enN i) (38 + 3 * s) = g (38 + 3 * s) + (if g 2 / 2 = s then 1 else 0)
      rw [hp]
      by_cases d : g 2 / 2 = s
      · rw [if_pos ⟨c, d.symm⟩, if_pos d]
      · rw [if_neg (fun q => d q.2.symm), if_neg d]
    · rw [if_neg c]
      have q := ih (i + 1) (hitN g 0 (enN i)) hI1 (by rw [f1_0 hI]; exact h0)
      refine ⟨q.1, q.2.1, ?_⟩
      rw [q.2.2, hp, if_neg (fun q => c q.1), Nat.add_zero]
theorem C_end (i : Nat) (h : i < 1000) : X11_endCell (nI i) = some (nI (enN i)) := by
  unfold X11_endCell enN
  rw [show rem32 (nI i) 2 = nI (i % 2) from nI_rem (d := 2) (by omega) (by omega) (by omega)]
  rcases (show i % 2 = 0 ∨ i % 2 = 1 by omega) with q | q
  · rw [q, if_pos z00]
    rfl
  · rw [q, if_neg z10]
    rfl
theorem C_outlay_loop {ρ : RM} {kf : KF} {s : Nat} : ∀ (m i n : Nat) (g : Nat → Nat) (τ : IM), i + m = 6 → m + 1 < n → MC τ ρ kf g → Inv g → 0 < g 0 → ∃ τ', X11_outlay_b37 kf n (nI s) 0 (nI i) τ ρ = X11_outlay_b70 kf (nI s) τ' ρ ∧ MC τ' ρ kf (plN m i g).1 ∧ FC τ ρ τ' ρ := by
  intro m
  induction m with
  | zero =>
    intro i n g τ hi hn hM hI h0
    obtain ⟨n, rfl⟩ : ∃ n', n = n' + 1 := ⟨n - 1, by omega⟩
    refine ⟨τ, ?_, hM, FC.rf⟩
    show X11_outlay_s37 kf _ (nI s) 0 (nI i) τ ρ = _
    unfold X11_outlay_s37
    rw [if_pos (show (6 : Int32) ≤ nI i from nI_le (a := 6) (by omega) (by omega))]
  | succ m ih =>
    intro i n g τ hi hn hM hI h0
    obtain ⟨n, rfl⟩ : ∃ n', n = n' + 1 + 1 := ⟨n - 2, by omega⟩
    have e := enN_lt i
    obtain ⟨τ1, b1, m1, g1, -⟩ := M_strike (k := 0) hM hI h0 e
    have hI1 := hitN_Inv (k := 0) hI h0 e
    show ∃ τ', X11_outlay_s37 kf (X11_outlay_b37 kf (n + 1)) (nI s) 0 (nI i) τ ρ = X11_outlay_b70 kf (nI s) τ' ρ ∧ _
    unfold X11_outlay_s37
    rw [if_neg (show ¬ (6 : Int32) ≤ nI i from nI_ge (b := 6) (by omega) (by omega)), if_pos rfl, C_end i (by omega), bd1_s, show X1_strike kf τ ρ 10 0 (nI (enN i)) = _ from b1, bd3_s, bd_e, nI_1]
    have pe : plN (m + 1) i g = if ptB g 0 (enN i) = 1 then (hitN g 0 (enN i), g 2 / 2) else plN m (i + 1) (hitN g 0 (enN i)) := rfl
    rw [pe]
    rcases ptB_or g 0 (enN i) with p | p
    · rw [p, if_neg (by omega)]
      obtain ⟨τ2, b2, m2, g2⟩ := ih (i + 1) (n + 1) (hitN g 0 (enN i)) τ1 (by omega) (by omega) m1 hI1 (by rw [f1_0 hI]; exact h0)
      exact ⟨τ2, b2, m2, g1.tr g2⟩
    · rw [p, if_pos rfl]
      refine ⟨τ1, ?_, m1, g1⟩
      show X11_outlay_s37 kf _ (nI s) (nI 1) (nI (i + 1)) τ1 ρ = _
      unfold X11_outlay_s37
      rw [if_neg z10]
      split <;> rfl
theorem R_cost_loop {s : Nat} : ∀ (m i n : Nat) (g : Nat → Nat) (ν : IM), i + m = 6 → m + 1 < n → RA (ν 2) g → Inv g → 0 < g 0 → ∃ ν', X12_costBy2_b39 n (nI s) 2 (nI i) ν = X12_costBy2_b98 (nI s) (nI (plN m i g).2) ν' ∧ RA (ν' 2) (plN m i g).1 ∧ FR ν ν' := by
  intro m
  induction m with
  | zero =>
    intro i n g ν hi hn hM hI h0
    obtain ⟨n, rfl⟩ : ∃ n', n = n' + 1 := ⟨n - 1, by omega⟩
    refine ⟨ν, ?_, hM, FR.rf⟩
    show X12_costBy2_s39 _ (nI s) 2 (nI i) ν = _
    unfold X12_costBy2_s39
    rw [if_pos (show (6 : Int32) ≤ nI i from nI_le (a := 6) (by omega) (by omega))]
    rfl
  | succ m ih =>
    intro i n g ν hi hn hM hI h0
    obtain ⟨n, rfl⟩ : ∃ n', n = n' + 1 + 1 := ⟨n - 2, by omega⟩
    have e := enN_lt i
    have h2 := hI.2.1
    obtain ⟨ν1, b1, m1, g1, -⟩ := N_hits (k := 0) hM hI h0 e
    have hI1 := hitN_Inv (k := 0) hI h0 e
    show ∃ ν', X12_costBy2_s39 (X12_costBy2_b39 (n + 1)) (nI s) 2 (nI i) ν = X12_costBy2_b98 (nI s) (nI (plN (m + 1) i g).2) ν' ∧ _
    unfold X12_costBy2_s39 X12_costBy2_b82 X12_costBy2_b92
    rw [if_neg (show ¬ (6 : Int32) ≤ nI i from nI_ge (b := 6) (by omega) (by omega)), if_pos rfl, rd42_2, hM.1 2 (by omega) (by omega), R_sideOf h2, bd1_s, show rem32 (nI i) 2 = nI (i % 2) from nI_rem (d := 2) (by omega) (by omega) (by omega)]
    simp only [bd_e, nI_1]
    have pe : plN (m + 1) i g = if ptB g 0 (enN i) = 1 then (hitN g 0 (enN i), g 2 / 2) else plN m (i + 1) (hitN g 0 (enN i)) := rfl
    rw [pe]
    have b0 : i % 2 = 0 → X12_hits ν 2 0 0 = some (nI (ptB g 0 (enN i)), ν1) := fun q => by
      rw [← b1]
      unfold enN
      rw [if_pos q]
      rfl
    have b8 : i % 2 = 1 → X12_hits ν 2 0 8 = some (nI (ptB g 0 (enN i)), ν1) := fun q => by
      rw [← b1]
      unfold enN
      rw [if_neg (by omega)]
      rfl
    have fin : ∃ ν', (bd2 (some (nI (ptB g 0 (enN i)), ν1)) fun r15 σ13 => if r15 = 0 then X12_costBy2_b39 (n + 1) (nI s) 2 (nI (i + 1)) σ13 else X12_costBy2_b39 (n + 1) (nI s) (nI (g 2 / 2)) (nI (i + 1)) σ13) = X12_costBy2_b98 (nI s) (nI (if ptB g 0 (enN i) = 1 then (hitN g 0 (enN i), g 2 / 2) else plN m (i + 1) (hitN g 0 (enN i))).2) ν' ∧ RA (ν' 2) (if ptB g 0 (enN i) = 1 then (hitN g 0 (enN i), g 2 / 2) else plN m (i + 1) (hitN g 0 (enN i))).1 ∧ FR ν ν' := by
      rw [bd2_s]
      rcases ptB_or g 0 (enN i) with p | p
      · rw [p, if_pos z00, if_neg (show ¬ (0 : Nat) = 1 by omega)]
        obtain ⟨ν2, b2, m2, g2⟩ := ih (i + 1) (n + 1) (hitN g 0 (enN i)) ν1 (by omega) (by omega) m1 hI1 (by rw [f1_0 hI]; exact h0)
        exact ⟨ν2, b2, m2, g1.tr g2⟩
      · rw [p, if_neg z10, if_pos (show (1 : Nat) = 1 from rfl)]
        refine ⟨ν1, ?_, m1, g1⟩
        show X12_costBy2_s39 _ (nI s) (nI (g 2 / 2)) (nI (i + 1)) ν1 = _
        unfold X12_costBy2_s39
        rw [if_neg (show ¬ nI (g 2 / 2) = 2 from fun q => by have := (nI_iff (b := 2) (by omega) (by omega)).mp q; omega)]
        split <;> rfl
    rcases (show i % 2 = 0 ∨ i % 2 = 1 by omega) with q | q
    · rw [q, if_pos z00, b0 q]
      exact fin
    · rw [q, if_neg z10, b8 q]
      exact fin
def fmN (f : Nat → Nat) (x y : Nat) : Nat → Nat := fup (fup f 36 x) 39 y
def outV (f : Nat → Nat) (s x y : Nat) : Int32 := (nI ((plN 6 0 (fmN f x y)).1 (22 + 8 * s)) + nI ((plN 6 0 (fmN f x y)).1 (26 + 8 * s))) - nI (if (plN 6 0 (fmN f x y)).2 = s then 9 else 0)
theorem fmN_Inv {f : Nat → Nat} (hI : Inv f) {x y : Nat} (hx : x < 2) (hy : y < 2) : Inv (fmN f x y) ∧ fmN f x y 0 = f 0 := ⟨(hI.up 0 0 (by omega)).up 0 1 (by omega), by unfold fmN; rw [fup_o (by omega), fup_o (by omega)]⟩
theorem C_outlay {σ : IM} {ρ : RM} {kf : KF} {μ : IM} {f : Nat → Nat} (hf : Now σ ρ kf μ f) (h0 : 0 < f 0) {s x y : Nat} (hs : s < 2) (hx : x < 2) (hy : y < 2) : ∃ σ' ρ', X11_outlay kf σ ρ (nI s) (nI x) (nI y) = some (outV f s x y, σ', ρ') ∧ FC σ ρ σ' ρ' := by
  have hI := hf.1
  obtain ⟨τ1, ω1, b1, m1, g1, -⟩ := M_become hf
  obtain ⟨y1, y2⟩ := fmN_Inv hI hx hy
  have c1 : CR (up2 τ1 (10 + 5) 0 (nI x)) 10 (fup f 36 x) := m1.1.wForm (s := 0) (by omega)
  have c2 : CR (up2 (up2 τ1 (10 + 5) 0 (nI x)) (10 + 5) 1 (nI y)) 10 (fmN f x y) := c1.wForm (s := 1) (by omega)
  have m2 : MC (up2 (up2 τ1 (10 + 5) 0 (nI x)) (10 + 5) 1 (nI y)) ω1 kf (fmN f x y) := ⟨c2, (m1.2.up hI.1 (by omega) (by omega)).up (by rw [fup_o (by omega)]; exact hI.1) (by omega) (by omega)⟩
  have g2 : FC τ1 ω1 (up2 (up2 τ1 (10 + 5) 0 (nI x)) (10 + 5) 1 (nI y)) ω1 := ⟨fun i l1 l2 => by rw [up2_o (by omega), up2_o (by omega)], fun i l1 l2 => by rw [up2_o (by omega), up2_o (by omega)], by rw [up2_o (by omega), up2_o (by omega)], fun _ _ => rfl⟩
  obtain ⟨τ3, b3, m3, g3⟩ := C_outlay_loop (s := s) 6 0 1000 _ _ (by omega) (by omega) m2 y1 (by omega)
  have fc := (g1.tr g2).tr g3
  have hn := hf.fr fc FR.rf
  have q := plN_ok hs 6 0 (fmN f x y) y1 (by omega)
  have ep : fmN f x y (38 + 3 * s) = f (38 + 3 * s) := by
    unfold fmN
    rw [fup_o (by omega), fup_o (by omega)]
  refine ⟨τ3, ω1, ?_, fc⟩
  unfold X11_outlay
  rw [b1, bd2_s, wr2_0, wr2_1, show X11_outlay_b37 kf 1000 (nI s) 0 0 _ ω1 = _ from b3]
  unfold X11_outlay_b70 outV
  have t0 := m3.1.tired (p := 2 * s) (by omega)
  have t1 := m3.1.tired (p := 2 * s + 1) (by omega)
  rw [show 22 + 4 * (2 * s) = 22 + 8 * s by omega] at t0
  rw [show 22 + 4 * (2 * s + 1) = 26 + 8 * s by omega] at t1
  rw [R_2s, nI_1]
  simp (disch := omega) only [rdN, bd_e]
  rw [m3.1.points hs, hn.2.2.1.points hs, t0, t1, q.2.2, ep]
  by_cases c : (plN 6 0 (fmN f x y)).2 = s
  · rw [if_pos c, if_pos c, nI_sub (by omega), show f (38 + 3 * s) + 1 - f (38 + 3 * s) = 1 by omega]
    rfl
  · rw [if_neg c, if_neg c, nI_sub (by omega), show f (38 + 3 * s) + 0 - f (38 + 3 * s) = 0 by omega]
    rfl
theorem R_cost {μ : IM} {f : Nat → Nat} (hA : RA (μ 1) f) (hI : Inv f) (h0 : 0 < f 0) {s x y : Nat} (hs : s < 2) (hx : x < 2) (hy : y < 2) : ∃ μ', X12_costBy2 μ (nI s) (nI x) (nI y) = some (outV f s x y, μ') ∧ FR μ μ' := by
  obtain ⟨ν1, e1, a1, g1, -⟩ := N_copies hA
  obtain ⟨y1, y2⟩ := fmN_Inv hI hx hy
  have a2 : RA (up2 (up2 ν1 2 36 (nI x)) 2 39 (nI y) 2) (fmN f x y) := (a1.w (by omega)).w (by omega)
  obtain ⟨ν3, b3, m3, g3⟩ := R_cost_loop (s := s) 6 0 1000 _ _ (by omega) (by omega) a2 y1 (by omega)
  have g2 : FR ν1 (up2 (up2 ν1 2 36 (nI x)) 2 39 (nI y)) := ⟨by rw [up2_o (by omega), up2_o (by omega)], by rw [up2_o (by omega), up2_o (by omega)], fun i hi => by rw [up2_o (by omega), up2_o (by omega)], by rw [up2_o (by omega), up2_o (by omega)]⟩
  have q := plN_ok hs 6 0 (fmN f x y) y1 (by omega)
  refine ⟨ν3, ?_, (g1.tr g2).tr g3⟩
  unfold X12_costBy2
  rw [e1, bd1_s, show X12_ofSide 0 0 = some (nI 36) from rfl, bd1_s, wrN (by omega) (by omega), show X12_ofSide 1 0 = some (nI 39) from rfl, bd1_s, wrN (by omega) (by omega), show X12_costBy2_b39 1000 (nI s) 2 0 _ = _ from b3]
  unfold X12_costBy2_b98 X12_costBy2_b137 outV
  rw [R_2s, nI_1]
  simp (disch := omega) only [R_ofP2, rdN, bd1_s]
  rw [m3.1 _ (by omega) (by omega), m3.1 _ (by omega) (by omega), show 22 + 4 * (2 * s) = 22 + 8 * s by omega, show 22 + 4 * (2 * s + 1) = 26 + 8 * s by omega]
  by_cases c : (plN 6 0 (fmN f x y)).2 = s
  · rw [if_pos (by rw [c]), if_pos c]
    rfl
  · rw [if_neg (show ¬ nI _ = nI s from fun w => c ((nI_iff (by omega) (by omega)).mp w)), if_neg c]
    rfl
def FirstB (enc : Nat → Int32) (p : Nat → Prop) (M : Nat) (r : Int32) : Prop := (∃ i, i < M ∧ p i ∧ (∀ j, j < i → ¬ p j) ∧ r = enc i) ∨ ((∀ j, j < M → ¬ p j) ∧ r = -4)
theorem FirstB.uniq {enc : Nat → Int32} {p : Nat → Prop} {M : Nat} {r r' : Int32} (h : FirstB enc p M r) (h' : FirstB enc p M r') : r = r' := by
  rcases h with ⟨i, a1, a2, a3, rfl⟩ | ⟨a, rfl⟩
  · rcases h' with ⟨i', b1, b2, b3, rfl⟩ | ⟨b, rfl⟩
    · have : i = i' := by
        rcases Nat.lt_trichotomy i i' with q | q | q
        · exact absurd a2 (b3 i q)
        · exact q
        · exact absurd b2 (a3 i' q)
      rw [this]
    · exact absurd a2 (b i a1)
  · rcases h' with ⟨i', b1, b2, b3, rfl⟩ | ⟨b, rfl⟩
    · exact absurd b2 (a i' b1)
    · rfl
def twN (f : Nat → Nat) (k : Nat) : Prop := ¬ outV f 0 (1 - k / 2) (k % 2) < outV f 0 (k / 2) (k % 2) ∧ ¬ outV f 1 (k / 2) (1 - k % 2) < outV f 1 (k / 2) (k % 2)
def encT (k : Nat) : Int32 := nI (10 * (k / 2) + k % 2)
theorem C_two {σ : IM} {ρ : RM} {kf : KF} {μ : IM} {f : Nat → Nat} (hf : Now σ ρ kf μ f) (h0 : 0 < f 0) : ∃ r σ' ρ', X11_two_b15 kf 1000 0 σ ρ = some (r, σ', ρ') ∧ FirstB encT (twN f) 4 r ∧ FC σ ρ σ' ρ' := by
  refine loop_i (σ := IM × RM) (fun n i z => ∃ r σ' ρ', X11_two_b15 kf n (nI i) z.1 z.2 = some (r, σ', ρ') ∧ FirstB encT (twN f) 4 r ∧ FC σ ρ σ' ρ') (fun i z => FC σ ρ z.1 z.2 ∧ ∀ j, j < 2 * i → ¬ twN f j) 2 ?_ ?_ 1000 0 (σ, ρ) (by omega) (by omega) ⟨FC.rf, fun j hj => absurd hj (by omega)⟩
  · rintro n ⟨τ, ω⟩ ⟨fc, h⟩
    dsimp only at fc
    refine ⟨-4, τ, ω, ?_, Or.inr ⟨h, rfl⟩, fc⟩
    show X11_two_s15 kf _ (nI 2) τ ω = _
    unfold X11_two_s15
    rw [if_pos (show (2 : Int32) ≤ nI 2 by decide)]
  · rintro n i ⟨τ, ω⟩ hi ⟨fc, h⟩ k
    show ∃ r σ' ρ', X11_two_s15 kf (X11_two_b15 kf n) (nI i) τ ω = some (r, σ', ρ') ∧ _
    unfold X11_two_s15
    rw [if_neg (show ¬ (2 : Int32) ≤ nI i from nI_ge (b := 2) (by omega) (by omega))]
    refine loop_i (σ := IM × RM) (fun n' x z => ∃ r σ' ρ', X11_two_b22 kf (X11_two_b15 kf n) n' (nI i) (nI x) z.1 z.2 = some (r, σ', ρ') ∧ FirstB encT (twN f) 4 r ∧ FC σ ρ σ' ρ') (fun x z => FC σ ρ z.1 z.2 ∧ ∀ j, j < 2 * i + x → ¬ twN f j) 2 ?_ ?_ 1000 0 (τ, ω) (by omega) (by omega) ⟨fc, fun j hj => h j (by omega)⟩
    · rintro n' ⟨τ, ω⟩ ⟨fc, h⟩
      show ∃ r σ' ρ', X11_two_s22 kf (X11_two_b15 kf n) _ (nI i) (nI 2) τ ω = some (r, σ', ρ') ∧ _
      unfold X11_two_s22
      rw [if_pos (show (2 : Int32) ≤ nI 2 by decide), nI_1, bd_e]
      exact k (τ, ω) ⟨fc, fun j hj => h j (by omega)⟩
    · rintro n' x ⟨τ, ω⟩ hx ⟨fc, h⟩ k'
      dsimp only at fc
      have e1 : (2 * i + x) / 2 = i := by omega
      have e2 : (2 * i + x) % 2 = x := by omega
      obtain ⟨τ1, ω1, b1, g1⟩ := C_outlay (hf.fr fc FR.rf) h0 (s := 0) (x := i) (y := x) (by omega) (by omega) (by omega)
      obtain ⟨τ2, ω2, b2, g2⟩ := C_outlay (hf.fr (fc.tr g1) FR.rf) h0 (s := 0) (x := 1 - i) (y := x) (by omega) (by omega) (by omega)
      obtain ⟨τ3, ω3, b3, g3⟩ := C_outlay (hf.fr ((fc.tr g1).tr g2) FR.rf) h0 (s := 1) (x := i) (y := x) (by omega) (by omega) (by omega)
      obtain ⟨τ4, ω4, b4, g4⟩ := C_outlay (hf.fr (((fc.tr g1).tr g2).tr g3) FR.rf) h0 (s := 1) (x := i) (y := 1 - x) (by omega) (by omega) (by omega)
      have fc4 := (((fc.tr g1).tr g2).tr g3).tr g4
      have ext : ¬ twN f (2 * i + x) → ∃ r σ' ρ', X11_two_b22 kf (X11_two_b15 kf n) n' (nI i) (nI (x + 1)) τ4 ω4 = some (r, σ', ρ') ∧ FirstB encT (twN f) 4 r ∧ FC σ ρ σ' ρ' := fun b => k' (τ4, ω4) ⟨fc4, fun j hj => by
        by_cases e : j = 2 * i + x
        · rw [e]
          exact b
        · exact h j (by omega)⟩
      show ∃ r σ' ρ', X11_two_s22 kf (X11_two_b15 kf n) (X11_two_b22 kf (X11_two_b15 kf n) n') (nI i) (nI x) τ ω = some (r, σ', ρ') ∧ _
      unfold X11_two_s22 X11_two_b51
      rw [if_neg (show ¬ (2 : Int32) ≤ nI x from nI_ge (b := 2) (by omega) (by omega)), show X11_outlay kf τ ω 0 (nI i) (nI x) = _ from b1, bd3_s, show (1 : Int32) - nI i = nI (1 - i) from nI_sub (a := 1) (by omega), show X11_outlay kf τ1 ω1 0 (nI (1 - i)) (nI x) = _ from b2, bd3_s, show (1 : Int32) - nI x = nI (1 - x) from nI_sub (a := 1) (by omega)]
      simp only [show X11_outlay kf τ2 ω2 1 (nI i) (nI x) = _ from b3, show X11_outlay kf τ3 ω3 1 (nI i) (nI (1 - x)) = _ from b4, bd3_s]
      unfold X11_two_b76 X11_two_b94
      simp only [bd_e, nI_1]
      have tw : twN f (2 * i + x) ↔ (¬ outV f 0 (1 - i) x < outV f 0 i x ∧ ¬ outV f 1 i (1 - x) < outV f 1 i x) := by
        unfold twN
        rw [e1, e2]
      by_cases c1 : outV f 0 (1 - i) x < outV f 0 i x
      · have no := ext (fun w => (tw.mp w).1 c1)
        by_cases c2 : outV f 1 i (1 - x) < outV f 1 i x
        · simp only [if_pos c1, if_pos c2]
          exact no
        · simp only [if_pos c1, if_neg c2]
          exact no
      · by_cases c2 : outV f 1 i (1 - x) < outV f 1 i x
        · have no := ext (fun w => (tw.mp w).2 c2)
          simp only [if_neg c1, if_pos c2, if_neg n10]
          exact no
        · simp only [if_neg c1, if_neg c2, if_neg n10]
          refine ⟨_, _, _, rfl, Or.inl ⟨2 * i + x, by omega, tw.mpr ⟨c1, c2⟩, h, ?_⟩, fc4⟩
          unfold encT
          rw [e1, e2, show (10 : Int32) = nI 10 from rfl, pk_mul, nI_add]
theorem R_two {μ : IM} {f : Nat → Nat} (hA : RA (μ 1) f) (hI : Inv f) (h0 : 0 < f 0) : ∃ r μ', X12_two_b14 1000 0 μ = some (r, μ') ∧ FirstB encT (twN f) 4 r ∧ FR μ μ' := by
  refine loop_i (σ := IM) (fun n i ν => ∃ r μ', X12_two_b14 n (nI i) ν = some (r, μ') ∧ FirstB encT (twN f) 4 r ∧ FR μ μ') (fun i ν => FR μ ν ∧ ∀ j, j < i → ¬ twN f j) 4 ?_ ?_ 1000 0 μ (by omega) (by omega) ⟨FR.rf, fun j hj => absurd hj (by omega)⟩
  · rintro n ν ⟨fr, h⟩
    refine ⟨-4, ν, ?_, Or.inr ⟨h, rfl⟩, fr⟩
    show X12_two_s14 _ (nI 4) ν = _
    unfold X12_two_s14
    rw [if_pos (show (4 : Int32) ≤ nI 4 by decide)]
  · rintro n i ν hi ⟨fr, h⟩ k
    have ra : ∀ ξ, FR ν ξ → RA (ξ 1) f := fun ξ q => by rw [(fr.tr q).1]; exact hA
    obtain ⟨ν1, b1, g1⟩ := R_cost (ra ν FR.rf) hI h0 (s := 0) (x := 1 - i / 2) (y := i % 2) (by omega) (by omega) (by omega)
    obtain ⟨ν2, b2, g2⟩ := R_cost (ra ν1 g1) hI h0 (s := 0) (x := i / 2) (y := i % 2) (by omega) (by omega) (by omega)
    obtain ⟨ν3, b3, g3⟩ := R_cost (ra ν2 (g1.tr g2)) hI h0 (s := 1) (x := i / 2) (y := 1 - i % 2) (by omega) (by omega) (by omega)
    obtain ⟨ν4, b4, g4⟩ := R_cost (ra ν3 ((g1.tr g2).tr g3)) hI h0 (s := 1) (x := i / 2) (y := i % 2) (by omega) (by omega) (by omega)
    have ext : ∀ ξ, FR ν ξ → ¬ twN f i → ∃ r μ', X12_two_b14 n (nI (i + 1)) ξ = some (r, μ') ∧ FirstB encT (twN f) 4 r ∧ FR μ μ' := fun ξ q b => k ξ ⟨fr.tr q, fun j hj => by
      by_cases e : j = i
      · rw [e]
        exact b
      · exact h j (by omega)⟩
    show ∃ r μ', X12_two_s14 (X12_two_b14 n) (nI i) ν = some (r, μ') ∧ _
    unfold X12_two_s14 X12_two_b72
    rw [if_neg (show ¬ (4 : Int32) ≤ nI i from nI_ge (b := 4) (by omega) (by omega)), show nI i / 2 = nI (i / 2) from nI_div (d := 2) (by omega) (by omega) (by omega), show rem32 (nI i) 2 = nI (i % 2) from nI_rem (d := 2) (by omega) (by omega) (by omega), bd_e, bd_e, show (1 : Int32) - nI (i / 2) = nI (1 - i / 2) from nI_sub (a := 1) (by omega), show X12_costBy2 ν 0 _ _ = _ from b1, bd2_s, show X12_costBy2 ν1 0 _ _ = _ from b2, bd2_s, show (1 : Int32) - nI (i % 2) = nI (1 - i % 2) from nI_sub (a := 1) (by omega), show X12_costBy2 ν2 1 _ _ = _ from b3, bd2_s, show X12_costBy2 ν3 1 _ _ = _ from b4, bd2_s]
    simp only [bd_e, nI_1]
    by_cases c1 : outV f 0 (1 - i / 2) (i % 2) < outV f 0 (i / 2) (i % 2)
    · rw [if_pos c1]
      exact ext ν2 (g1.tr g2) (fun w => w.1 c1)
    · rw [if_neg c1]
      by_cases c2 : outV f 1 (i / 2) (1 - i % 2) < outV f 1 (i / 2) (i % 2)
      · rw [if_pos c2]
        exact ext ν4 (((g1.tr g2).tr g3).tr g4) (fun w => w.2 c2)
      · rw [if_neg c2]
        refine ⟨_, ν4, rfl, Or.inl ⟨i, hi, ⟨c1, c2⟩, h, ?_⟩, fr.tr (((g1.tr g2).tr g3).tr g4)⟩
        unfold encT
        rw [show (10 : Int32) = nI 10 from rfl, pk_mul, nI_add]
theorem E_two {σ : IM} {ρ : RM} {kf : KF} {μ : IM} (h : All σ ρ kf μ) : Same3 kf (X11_two kf σ ρ) (X12_two μ) := by
  unfold X11_two X12_two
  obtain ⟨⟨f, hf⟩, hr⟩ := h
  have h0 : All σ ρ kf μ := ⟨⟨f, hf⟩, hr⟩
  have hN := hf.1.1
  have hA := hf.2.2.2.2
  rw [rd42_0, hf.2.2.1.known, hA.1 0 (by omega) (by omega)]
  by_cases z : f 0 = 0
  · refine Same3.no h0 (r := -3) ?_ ?_
    · rw [z]
      rfl
    · rw [z]
      rfl
  · have hnz : ¬ nI (f 0) = 0 := nI_ne0 (by omega) (by omega)
    rw [if_neg hnz, if_neg hnz]
    obtain ⟨r, τ, ω, b1, b2, b3⟩ := C_two hf (by omega)
    obtain ⟨r', ν, c1, c2, c3⟩ := R_two hA hf.1 (by omega)
    rw [← b2.uniq c2] at c1
    exact ⟨r, τ, ω, ν, b1, c1, h0.fr b3 c3⟩
