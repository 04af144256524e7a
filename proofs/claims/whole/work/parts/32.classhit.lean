/-! the class's strike is hitN -/
def Vl (o k : Nat) : Prop := (o = 0 ∧ 8 ≤ k ∧ k ≤ 11) ∨ (1 ≤ o ∧ o ≤ 4 ∧ k < 4) ∨ (5 ≤ o ∧ o ≤ 7 ∧ k < 2)
def fl (o k : Nat) : Nat := if o = 0 then (if k = 8 then 0 else if k = 9 then 2 else if k = 10 then 3 else 1) else if o ≤ 4 then 19 + o + 4 * k else 31 + o + 3 * k
def CR (σ : IM) (c : Nat) (f : Nat → Nat) : Prop := ∀ o k, Vl o k → σ (c + o) k = if o = 0 ∧ k = 10 then nI (f 3) - 1 else nI (f (fl o k))
theorem CR.w {σ : IM} {c : Nat} {f : Nat → Nat} (h : CR σ c f) {o k v : Nat} (hv : Vl o k) (hd : ¬ (o = 0 ∧ k = 10)) : CR (up2 σ (c + o) k (nI v)) c (fup f (fl o k) v) := by
  intro o' k' hv'
  unfold Vl at hv hv'
  by_cases e : o' = o ∧ k' = k
  · obtain ⟨rfl, rfl⟩ := e
    rw [up2_ss, if_neg hd, fup_s]
  · rw [up2_oo (by omega), h o' k' hv']
    have n3 : (3 : Nat) ≠ fl o k := by
      unfold fl
      split
      · split
        · omega
        · split
          · omega
          · split <;> omega
      · split <;> omega
    have nf : ¬ (o' = 0 ∧ k' = 10) → fl o' k' ≠ fl o k := by
      intro hd'
      unfold fl
      split <;> split <;> (repeat' split) <;> omega
    rw [fup_o n3]
    split
    · rfl
    · rename_i q
      rw [fup_o (nf q)]
theorem CR.at {σ : IM} {c : Nat} {f : Nat → Nat} (h : CR σ c f) {p : Nat} (hp : p < 4) : σ (c + 1) p = nI (f (20 + 4 * p)) := by
  have := h 1 p (Or.inr (Or.inl ⟨by omega, by omega, hp⟩))
  rw [if_neg (by omega)] at this
  exact this
theorem CR.pace {σ : IM} {c : Nat} {f : Nat → Nat} (h : CR σ c f) {p : Nat} (hp : p < 4) : σ (c + 2) p = nI (f (21 + 4 * p)) := by
  have := h 2 p (Or.inr (Or.inl ⟨by omega, by omega, hp⟩))
  rw [if_neg (by omega)] at this
  exact this
theorem CR.tired {σ : IM} {c : Nat} {f : Nat → Nat} (h : CR σ c f) {p : Nat} (hp : p < 4) : σ (c + 3) p = nI (f (22 + 4 * p)) := by
  have := h 3 p (Or.inr (Or.inl ⟨by omega, by omega, hp⟩))
  rw [if_neg (by omega)] at this
  exact this
theorem CR.left {σ : IM} {c : Nat} {f : Nat → Nat} (h : CR σ c f) {p : Nat} (hp : p < 4) : σ (c + 4) p = nI (f (23 + 4 * p)) := by
  have := h 4 p (Or.inr (Or.inl ⟨by omega, by omega, hp⟩))
  rw [if_neg (by omega)] at this
  exact this
theorem CR.form {σ : IM} {c : Nat} {f : Nat → Nat} (h : CR σ c f) {s : Nat} (hs : s < 2) : σ (c + 5) s = nI (f (36 + 3 * s)) := by
  have := h 5 s (Or.inr (Or.inr ⟨by omega, by omega, hs⟩))
  rw [if_neg (by omega)] at this
  exact this
theorem CR.habit {σ : IM} {c : Nat} {f : Nat → Nat} (h : CR σ c f) {s : Nat} (hs : s < 2) : σ (c + 6) s = nI (f (37 + 3 * s)) := by
  have := h 6 s (Or.inr (Or.inr ⟨by omega, by omega, hs⟩))
  rw [if_neg (by omega)] at this
  exact this
theorem CR.points {σ : IM} {c : Nat} {f : Nat → Nat} (h : CR σ c f) {s : Nat} (hs : s < 2) : σ (c + 7) s = nI (f (38 + 3 * s)) := by
  have := h 7 s (Or.inr (Or.inr ⟨by omega, by omega, hs⟩))
  rw [if_neg (by omega)] at this
  exact this
theorem CR.known {σ : IM} {c : Nat} {f : Nat → Nat} (h : CR σ c f) : σ c 8 = nI (f 0) := by
  have := h 0 8 (Or.inl ⟨by omega, by omega, by omega⟩)
  rw [if_neg (by omega)] at this
  exact this
theorem CR.has {σ : IM} {c : Nat} {f : Nat → Nat} (h : CR σ c f) : σ c 9 = nI (f 2) := by
  have := h 0 9 (Or.inl ⟨by omega, by omega, by omega⟩)
  rw [if_neg (by omega)] at this
  exact this
theorem CR.draught {σ : IM} {c : Nat} {f : Nat → Nat} (h : CR σ c f) : σ c 10 = nI (f 3) - 1 := by
  have := h 0 10 (Or.inl ⟨by omega, by omega, by omega⟩)
  rw [if_pos (by omega)] at this
  exact this
theorem CR.hits {σ : IM} {c : Nat} {f : Nat → Nat} (h : CR σ c f) : σ c 11 = nI (f 1) := by
  have := h 0 11 (Or.inl ⟨by omega, by omega, by omega⟩)
  rw [if_neg (by omega)] at this
  exact this
theorem CR.wAt {σ : IM} {c : Nat} {f : Nat → Nat} (h : CR σ c f) {p v : Nat} (hp : p < 4) : CR (up2 σ (c + 1) p (nI v)) c (fup f (20 + 4 * p) v) := h.w (o := 1) (Or.inr (Or.inl ⟨by omega, by omega, hp⟩)) (by omega)
theorem CR.wPace {σ : IM} {c : Nat} {f : Nat → Nat} (h : CR σ c f) {p v : Nat} (hp : p < 4) : CR (up2 σ (c + 2) p (nI v)) c (fup f (21 + 4 * p) v) := h.w (o := 2) (Or.inr (Or.inl ⟨by omega, by omega, hp⟩)) (by omega)
theorem CR.wTired {σ : IM} {c : Nat} {f : Nat → Nat} (h : CR σ c f) {p v : Nat} (hp : p < 4) : CR (up2 σ (c + 3) p (nI v)) c (fup f (22 + 4 * p) v) := h.w (o := 3) (Or.inr (Or.inl ⟨by omega, by omega, hp⟩)) (by omega)
theorem CR.wLeft {σ : IM} {c : Nat} {f : Nat → Nat} (h : CR σ c f) {p v : Nat} (hp : p < 4) : CR (up2 σ (c + 4) p (nI v)) c (fup f (23 + 4 * p) v) := h.w (o := 4) (Or.inr (Or.inl ⟨by omega, by omega, hp⟩)) (by omega)
theorem CR.wForm {σ : IM} {c : Nat} {f : Nat → Nat} (h : CR σ c f) {s v : Nat} (hs : s < 2) : CR (up2 σ (c + 5) s (nI v)) c (fup f (36 + 3 * s) v) := h.w (o := 5) (Or.inr (Or.inr ⟨by omega, by omega, hs⟩)) (by omega)
theorem CR.wHabit {σ : IM} {c : Nat} {f : Nat → Nat} (h : CR σ c f) {s v : Nat} (hs : s < 2) : CR (up2 σ (c + 6) s (nI v)) c (fup f (37 + 3 * s) v) := h.w (o := 6) (Or.inr (Or.inr ⟨by omega, by omega, hs⟩)) (by omega)
theorem CR.wPoints {σ : IM} {c : Nat} {f : Nat → Nat} (h : CR σ c f) {s v : Nat} (hs : s < 2) : CR (up2 σ (c + 7) s (nI v)) c (fup f (38 + 3 * s) v) := h.w (o := 7) (Or.inr (Or.inr ⟨by omega, by omega, hs⟩)) (by omega)
theorem CR.wKnown {σ : IM} {c : Nat} {f : Nat → Nat} (h : CR σ c f) {v : Nat} : CR (up2 σ c 8 (nI v)) c (fup f 0 v) := h.w (o := 0) (k := 8) (Or.inl ⟨by omega, by omega, by omega⟩) (by omega)
theorem CR.wHas {σ : IM} {c : Nat} {f : Nat → Nat} (h : CR σ c f) {v : Nat} : CR (up2 σ c 9 (nI v)) c (fup f 2 v) := h.w (o := 0) (k := 9) (Or.inl ⟨by omega, by omega, by omega⟩) (by omega)
theorem CR.wHits {σ : IM} {c : Nat} {f : Nat → Nat} (h : CR σ c f) {v : Nat} : CR (up2 σ c 11 (nI v)) c (fup f 1 v) := h.w (o := 0) (k := 11) (Or.inl ⟨by omega, by omega, by omega⟩) (by omega)
theorem CR.wDraught {σ : IM} {c : Nat} {f : Nat → Nat} (h : CR σ c f) {v : Nat} : CR (up2 σ c 10 (nI v - 1)) c (fup f 3 v) := by
  intro o k hv
  by_cases e : o = 0 ∧ k = 10
  · obtain ⟨rfl, rfl⟩ := e
    rw [if_pos ⟨rfl, rfl⟩, Nat.add_zero, up2_ss, fup_s]
  · rw [up2_oo (by omega), h o k hv, if_neg e, if_neg e]
    have : fl o k ≠ 3 := by
      unfold Vl at hv
      unfold fl
      (repeat' split) <;> omega
    rw [fup_o this]
/-- strokes -/
def SR (ρ : RM) (kf : KF) (c : Nat) (f : Nat → Nat) : Prop := ∀ k, k < f 0 → ∃ q, ρ (c + 8) k = some q ∧ kf q = some (f (4 + 2 * k), nI (f (5 + 2 * k)))
theorem V_land {kf : KF} {q k fg x d : Nat} (h : kf q = some (k, nI fg)) (hk : k < 8) (hf : fg < 10) (hx : x < 9) (hd : d < 3) : V_landing kf q (nI x) (nI d - 1) = some (nI (landN k d x)) := by
  have e : ∀ k, k < 8 → ∀ fg, fg < 10 → ∀ x, x < 9 → ∀ d, d < 3 → Vd_landing k (nI fg) (nI x) (nI d - 1) = some (nI (landN k d x)) := by decide +kernel
  unfold V_landing
  rw [h]
  exact e k hk fg hf x hx d hd
theorem V_time {kf : KF} {q k fg x : Nat} (h : kf q = some (k, nI fg)) (hk : k < 8) (hf : fg < 10) (hx : x < 9) : V_timeTo kf q (nI x) = some (nI (timeN k fg x)) := by
  have e : ∀ k, k < 8 → ∀ fg, fg < 10 → ∀ x, x < 9 → Vd_timeTo k (nI fg) (nI x) = some (nI (timeN k fg x)) := by decide +kernel
  unfold V_timeTo
  rw [h]
  exact e k hk fg hf x hx
theorem V_eff {kf : KF} {q k fg : Nat} (h : kf q = some (k, nI fg)) (hk : k < 8) (hf : fg < 10) : V_effort kf q = some (nI (effN k fg)) := by
  have e : ∀ k, k < 8 → ∀ fg, fg < 10 → Vd_effort k (nI fg) = some (nI (effN k fg)) := by decide +kernel
  unfold V_effort
  rw [h]
  exact e k hk fg hf
theorem C_way : ∀ a, a < 9 → ∀ b, b < 9 → X11_way (nI a) (nI b) = some (nI (wayN a b)) := by decide +kernel
theorem C_isBelow {x n : Nat} (hx : x < 2147483648) (hn : n < 2147483648) : X11_isBelow (nI x) (nI n) = some (if x < n then 1 else 0) := by
  unfold X11_isBelow
  rw [if_neg (nI_pos (by omega))]
  by_cases h : x < n
  · rw [if_pos h, if_neg (fun q => absurd ((nI_leI (by omega) (by omega)).mp q) (by omega))]
  · rw [if_neg h, if_pos ((nI_leI (by omega) (by omega)).mpr (by omega))]
