/-! the reference's hit is hitN -/
def RA (a : Nat → Int32) (f : Nat → Nat) : Prop := (∀ i, i < 42 → i ≠ 3 → a i = nI (f i)) ∧ a 3 = nI (f 3) - 1
theorem RA.up {a : Nat → Int32} {f : Nat → Nat} (h : RA a f) {i v : Nat} (hi : i ≠ 3) : RA (upd a i (nI v)) (fup f i v) := by
  refine ⟨fun j hj h3 => ?_, ?_⟩
  · unfold upd fup
    split
    · rfl
    · exact h.1 j hj h3
  · unfold upd fup
    rw [if_neg (Ne.symm hi), if_neg (Ne.symm hi)]
    exact h.2
theorem RA.w {σ : IM} {r : Nat} {f : Nat → Nat} (h : RA (σ r) f) {i v : Nat} (hi : i ≠ 3) : RA (up2 σ r i (nI v) r) (fup f i v) := by
  rw [up2_i]
  exact h.up hi
theorem R_fallsIn {σ : IM} {r : Nat} {f : Nat → Nat} {k c : Nat} (h : RA (σ r) f) (hk : k < 8) (hkd : f (4 + 2 * k) < 8) (hd : f 3 < 3) (hc : c < 9) : X12_fallsIn σ r (nI k) (nI c) = some (nI (faN f k c)) := by
  have e : ∀ x, x < 8 → ∀ d, d < 3 → ∀ c, c < 9 → (bd (nI c / 3 * 3) fun v1 => bd (nI d - 1) fun v2 => bd (rem32 (nI c) 3 + v2) fun v3 => bd (nI x) fun v5 => if v5 = 6 then (some (v1 + 1)) else (if v5 = 7 then (if 0 ≤ v3 then (if v3 ≤ 2 then (X12_fallsIn_b74 (fun _ _ => 0) 0 v3 v1) else (X12_fallsIn_b74 (fun _ _ => 0) 0 2 v1)) else (X12_fallsIn_b74 (fun _ _ => 0) 0 0 v1)) else (some (nI c)))) = some (nI (landN x d c)) := by decide +kernel
  have h4 := h.1 (4 + 2 * k) (by omega) (by omega)
  have e2 := e _ hkd _ hd c hc
  rw [show X12_fallsIn σ r (nI k) (nI c) = rd (σ r) 42 (nI 3) fun v2 => bd1 (X12_ofS (nI k) 0) fun r4 => rd (σ r) 42 r4 fun v5 => (bd (nI c / 3 * 3) fun v1 => bd v2 fun v2 => bd (rem32 (nI c) 3 + v2) fun v3 => bd v5 fun v5 => if v5 = 6 then (some (v1 + 1)) else (if v5 = 7 then (if 0 ≤ v3 then (if v3 ≤ 2 then (X12_fallsIn_b74 (fun _ _ => 0) 0 v3 v1) else (X12_fallsIn_b74 (fun _ _ => 0) 0 2 v1)) else (X12_fallsIn_b74 (fun _ _ => 0) 0 0 v1)) else (some (nI c)))) from rfl]
  rw [rdN (by omega) (by omega), h.2]
  simp only [X12_ofS, bd1_s, lit32, nI_add, pk_mul]
  rw [rdN (by omega) (by omega), Nat.add_zero, h4]
  exact e2
theorem R_timeIn {σ : IM} {r : Nat} {f : Nat → Nat} {k x : Nat} (h : RA (σ r) f) (hk : k < 8) (hkd : f (4 + 2 * k) < 8) (hfg : f (5 + 2 * k) < 10) (hx : x < 9) : X12_timeIn σ r (nI k) (nI x) = some (nI (timeN (f (4 + 2 * k)) (f (5 + 2 * k)) x)) := by
  have h4 := h.1 (4 + 2 * k) (by omega) (by omega)
  have h5 := h.1 (5 + 2 * k) (by omega) (by omega)
  unfold X12_timeIn
  simp only [X12_ofS, bd1_s, lit32, nI_add, pk_mul]
  rw [rdN (by omega) (by omega), rdN (by omega) (by omega), Nat.add_zero, h4, show 4 + 2 * k + 1 = 5 + 2 * k by omega, h5, R_timeBy _ hkd _ hfg _ hx]
  rfl
theorem R_stepsIn {σ : IM} {r : Nat} {f : Nat → Nat} {p t : Nat} (h : RA (σ r) f) (hp : p < 4) (hI : InvP f p) (ht : t < 8) : X12_stepsIn σ r (nI p) (nI t) = some (nI (stepsN t (f (21 + 4 * p)) (f (22 + 4 * p)))) := by
  have e : ∀ pa, pa < 5 → ∀ ti, ti < 100 → ∀ t, t < 8 → (bd (nI pa - nI ti / 30) fun v5 => if 1 ≤ v5 then (X12_stepsIn_b30 (fun _ _ => 0) 0 v5 (nI t)) else (X12_stepsIn_b30 (fun _ _ => 0) 0 1 (nI t))) = some (nI (stepsN t pa ti)) := by decide +kernel
  have h4 := h.1 (21 + 4 * p) (by omega) (by omega)
  have h5 := h.1 (22 + 4 * p) (by omega) (by omega)
  unfold X12_stepsIn
  simp only [X12_ofP, bd1_s, lit32, nI_add, pk_mul]
  rw [rdN (by omega) (by omega), rdN (by omega) (by omega), show 20 + 4 * p + 1 = 21 + 4 * p by omega, show 20 + 4 * p + 2 = 22 + 4 * p by omega, h4, h5]
  exact e _ (by have := hI.2.2.1; omega) _ (by have := hI.2.2.2.1; omega) _ ht
theorem R_isTired {σ : IM} {r : Nat} {f : Nat → Nat} {p v : Nat} (h : RA (σ r) f) (hp : p < 4) (ht : f (22 + 4 * p) ≤ 99) (hv : v < 50) : X12_isTired σ r (nI p) (nI v) = some (up2 σ r (22 + 4 * p) (nI (min 99 (f (22 + 4 * p) + v)))) := by
  have h5 := h.1 (22 + 4 * p) (by omega) (by omega)
  unfold X12_isTired
  simp only [X12_ofP, bd1_s, lit32, nI_add, pk_mul]
  rw [rdN (by omega) (by omega), show 20 + 4 * p + 2 = 22 + 4 * p by omega, h5, nI_add]
  have e := R_least99 (f (22 + 4 * p) + v) (by omega)
  rw [show (99 : Int32) = nI 99 from rfl] at e
  rw [e, bd1_s, wrN (by omega) (by omega)]
theorem R_whoseIn {σ : IM} {r : Nat} {f : Nat → Nat} {sd x : Nat} (h : RA (σ r) f) (hs : sd < 2) (hI : Inv f) (hx : x < 9) : X12_whoseIn σ r (nI sd) (nI x) = some (nI (whoN f sd x)) := by
  have ha := (hI.2.2.2.2.1 (2 * sd) (by omega))
  have hb := (hI.2.2.2.2.1 (2 * sd + 1) (by omega))
  have hh := (hI.2.2.2.2.2 sd hs).2
  have a1 := h.1 (20 + 8 * sd) (by omega) (by omega)
  have a2 := h.1 (24 + 8 * sd) (by omega) (by omega)
  have a3 := h.1 (37 + 3 * sd) (by omega) (by omega)
  have a4 := h.1 (23 + 8 * sd) (by omega) (by omega)
  have a5 := h.1 (27 + 8 * sd) (by omega) (by omega)
  have b1 : f (20 + 8 * sd) < 9 := by have := ha.1; rwa [show 20 + 4 * (2 * sd) = 20 + 8 * sd by omega] at this
  have b2 : f (24 + 8 * sd) < 9 := by have := hb.1; rwa [show 20 + 4 * (2 * sd + 1) = 24 + 8 * sd by omega] at this
  have b4 : f (23 + 8 * sd) ≤ 1 := by have := ha.2.2.2.2; rwa [show 23 + 4 * (2 * sd) = 23 + 8 * sd by omega] at this
  have b5 : f (27 + 8 * sd) ≤ 1 := by have := hb.2.2.2.2; rwa [show 23 + 4 * (2 * sd + 1) = 27 + 8 * sd by omega] at this
  have w1 := wayN_lt _ b1 _ hx
  have w2 := wayN_lt _ b2 _ hx
  unfold X12_whoseIn X12_whoseIn_b101
  simp only [X12_ofP, X12_ofSide, bd_e, bd1_s, lit32, nI_add, pk_mul]
  rw [rdN (by omega) (by omega), show 20 + 4 * (2 * sd) + 0 = 20 + 8 * sd by omega, a1, R_wayOf _ b1 _ hx, bd1_s, rdN (by omega) (by omega), show 20 + 4 * (2 * sd + 1) + 0 = 24 + 8 * sd by omega, a2, R_wayOf _ b2 _ hx, bd1_s, rdN (by omega) (by omega), show 36 + 3 * sd + 1 = 37 + 3 * sd by omega, a3, rdN (by omega) (by omega), show 20 + 4 * (2 * sd) + 3 = 23 + 8 * sd by omega, a4, rdN (by omega) (by omega), show 20 + 4 * (2 * sd + 1) + 3 = 27 + 8 * sd by omega, a5]
  simp (disch := omega) only [nI_iff, nI_leF]
  unfold whoN
  generalize wayN (f (20 + 8 * sd)) x = wa at *
  generalize wayN (f (24 + 8 * sd)) x = wb at *
  generalize f (37 + 3 * sd) = hb at *
  generalize f (23 + 8 * sd) = la at *
  generalize f (27 + 8 * sd) = lb at *
  by_cases c1 : wa = wb
  · subst c1
    simp only [Nat.lt_irrefl, if_true, if_false]
    by_cases c2 : hb = 1
    · simp [c2]
    · by_cases c3 : hb = 2
      · simp [c3]
      · by_cases c4 : la = lb
        · simp [c2, c3, c4]
        · by_cases c5 : hb = 3
          · by_cases c6 : la = 1
            · simp [c4, c5, c6]
              rw [rdN (by omega) (by omega), a4, c6, if_pos rfl]
              simp [show ¬ 1 = lb by omega]
            · simp [c4, c5, c6]
              rw [rdN (by omega) (by omega), a4]
              simp (disch := omega) only [nI_iff]
              rw [if_neg c6]
          · simp [c2, c3, c4, c5]
  · rw [if_neg c1]
    by_cases c2 : wb ≤ wa
    · rw [if_pos c2, if_neg (by omega), if_pos (by omega)]
    · rw [if_neg c2, if_pos (by omega)]
theorem R_isBoths {σ : IM} {r : Nat} {f : Nat → Nat} {sd x : Nat} (h : RA (σ r) f) (hs : sd < 2) (b1 : f (20 + 8 * sd) < 9) (b2 : f (24 + 8 * sd) < 9) (hh : f (37 + 3 * sd) ≤ 3) (hx : x < 9) : X12_isBoths σ r (nI sd) (nI x) = some (if bothN f sd x then 1 else 0) := by
  have a1 := h.1 (20 + 8 * sd) (by omega) (by omega)
  have a2 := h.1 (24 + 8 * sd) (by omega) (by omega)
  have a3 := h.1 (37 + 3 * sd) (by omega) (by omega)
  have w1 := wayN_lt _ b1 _ hx
  have w2 := wayN_lt _ b2 _ hx
  unfold X12_isBoths
  simp only [X12_ofP, X12_ofSide, bd_e, bd1_s, lit32, nI_add, pk_mul]
  rw [rdN (by omega) (by omega), show 36 + 3 * sd + 1 = 37 + 3 * sd by omega, a3, rdN (by omega) (by omega), show 20 + 4 * (2 * sd) + 0 = 20 + 8 * sd by omega, a1, R_wayOf _ b1 _ hx, bd1_s, rdN (by omega) (by omega), show 20 + 4 * (2 * sd + 1) + 0 = 24 + 8 * sd by omega, a2, R_wayOf _ b2 _ hx, bd1_s]
  simp (disch := omega) only [nI_iff]
  by_cases c1 : f (37 + 3 * sd) = 2
  · by_cases c2 : wayN (f (20 + 8 * sd)) x = wayN (f (24 + 8 * sd)) x
    · rw [if_pos c1, if_pos c2, if_pos ⟨c1, c2⟩]
    · rw [if_pos c1, if_neg c2, if_neg (fun q => c2 q.2)]
  · rw [if_neg c1, if_neg (fun q => c1 q.1)]
theorem R_moves {σ : IM} {r : Nat} {f : Nat → Nat} {p x : Nat} (h : RA (σ r) f) (hr : r ≠ 5) (hp : p < 4) (hat : f (20 + 4 * p) < 9) (hx : x < 9) : X12_moves σ r (nI p) (nI x) = some (up2 (up2 σ 5 p (σ 5 p + nI (wayN (f (20 + 4 * p)) x))) r (20 + 4 * p) (nI x)) := by
  have a1 := h.1 (20 + 4 * p) (by omega) (by omega)
  unfold X12_moves
  simp only [X12_ofP, bd_e, bd1_s, lit32, nI_add, pk_mul]
  rw [rdN (by omega) (by omega), rdN (by omega) (by omega), show 20 + 4 * p + 0 = 20 + 4 * p by omega, a1, R_wayOf _ hat _ hx, bd1_s, wrN (by omega) (by omega), wrN (by omega) (by omega)]

theorem fup_s {f : Nat → Nat} {i v : Nat} : fup f i v i = v := by simp [fup]
theorem fup_o {f : Nat → Nat} {i v j : Nat} (h : j ≠ i) : fup f i v j = f j := by simp [fup, h]
theorem tireN_o {f : Nat → Nat} {p v j : Nat} (h : j ≠ 22 + 4 * p) : tireN f p v j = f j := fup_o h
theorem tireN_le {f : Nat → Nat} {p v : Nat} : tireN f p v (22 + 4 * p) ≤ 99 := by
  unfold tireN
  rw [fup_s]
  omega
theorem tireN_le2 {f : Nat → Nat} {p v q : Nat} (h : f (22 + 4 * q) ≤ 99) : tireN f p v (22 + 4 * q) ≤ 99 := by
  by_cases e : q = p
  · subst e
    exact tireN_le
  · rw [tireN_o (by omega)]
    exact h
theorem whoN_or (f : Nat → Nat) (sd x : Nat) : whoN f sd x = 9 ∨ whoN f sd x = 2 * sd ∨ whoN f sd x = 2 * sd + 1 := by
  unfold whoN
  split
  · omega
  · split
    · omega
    · split
      · omega
      · split
        · split <;> omega
        · omega
/-- what trN leaves -/
theorem sdN_le (f : Nat → Nat) : sdN f ≤ 1 := by unfold sdN; omega
theorem trN_o {f : Nat → Nat} {k c j : Nat} (h2 : f 2 < 4) (h1 : j ≠ 1) (h : j < 22 ∨ 34 < j ∨ j % 4 ≠ 2) : trN f k c j = f j := by
  have hs := sdN_le f
  unfold trN
  split
  · rw [tireN_o (by omega), tireN_o (by omega), tireN_o (by omega), fup_o h1]
  · rw [tireN_o (by omega), fup_o h1]
theorem trN_t {f : Nat → Nat} {k c : Nat} (hI : ∀ p, p < 4 → InvP f p) (p : Nat) (hp : p < 4) : trN f k c (22 + 4 * p) ≤ 99 := by
  have h0 : fup f 1 (f 1 + 1) (22 + 4 * p) ≤ 99 := by
    rw [fup_o (by omega)]
    exact (hI p hp).2.2.2.1
  unfold trN
  split
  · exact tireN_le2 (tireN_le2 (tireN_le2 h0))
  · exact tireN_le2 h0

theorem up2_oo {σ : IM} {i k j n : Nat} {v : Int32} (h : j ≠ i ∨ n ≠ k) : up2 σ i k v j n = σ j n := by
  by_cases e : j = i
  · subst e
    rw [up2_i]
    unfold upd
    rw [if_neg (by omega)]
  · rw [up2_o e]
theorem up2_ss {σ : IM} {i k : Nat} {v : Int32} : up2 σ i k v i k = v := by
  rw [up2_i]
  simp [upd]
theorem st1 {α β : Type} {x : Option α} {a : α} {k : α → Option β} {P : Option β → Prop} (e : x = some a) (h : P (k a)) : P (bd1 x k) := by
  subst e
  exact h
theorem st2 {α β γ : Type} {x : Option (α × β)} {a : α} {b : β} {k : α → β → Option γ} {P : Option γ → Prop} (e : x = some (a, b)) (h : P (k a b)) : P (bd2 x k) := by
  subst e
  exact h
theorem st3 {α β γ δ : Type} {x : Option (α × β × γ)} {a : α} {b : β} {c : γ} {k : α → β → γ → Option δ} {P : Option δ → Prop} (e : x = some (a, b, c)) (h : P (k a b c)) : P (bd3 x k) := by
  subst e
  exact h
theorem stb {α β : Type} {x a : α} {k : α → Option β} {P : Option β → Prop} (e : x = a) (h : P (k a)) : P (bd x k) := by
  subst e
  exact h
theorem strd {β : Type} {f : Nat → Int32} {n : Nat} {i v : Int32} {k : Int32 → Option β} {P : Option β → Prop} {j : Nat} (hi : i = nI j) (hj : j < n) (hn : n < 2147483648) (hv : f j = v) (h : P (k v)) : P (rd f n i k) := by
  subst hi
  rw [rdN hj hn, hv]
  exact h
theorem stwr {β : Type} {σ : IM} {c n : Nat} {i v w : Int32} {k : IM → Option β} {P : Option β → Prop} {j : Nat} (hi : i = nI j) (hj : j < n) (hn : n < 2147483648) (hv : v = w) (h : P (k (up2 σ c j w))) : P (wr σ c n i v k) := by
  subst hi hv
  rw [wrN hj hn]
  exact h
theorem stt {β : Type} {c : Prop} {d : Decidable c} {a b : Option β} {P : Option β → Prop} (hc : c) (h : P a) : P (@ite _ c d a b) := by
  rw [if_pos hc]
  exact h
theorem stf {β : Type} {c : Prop} {d : Decidable c} {a b : Option β} {P : Option β → Prop} (hc : ¬ c) (h : P b) : P (@ite _ c d a b) := by
  rw [if_neg hc]
  exact h
theorem R_sideOf {p : Nat} (h : p < 4) : X12_sideOf (nI p) = some (nI (p / 2)) := by
  unfold X12_sideOf
  rw [show (2 : Int32) = nI 2 from rfl, nI_div (by omega) (by omega) (by omega)]
theorem R_ofS0 (k : Nat) : X12_ofS (nI k) 0 = some (nI (4 + 2 * k)) := by simp only [X12_ofS, lit32, nI_add, pk_mul, Nat.add_zero]
theorem R_ofS1 (k : Nat) : X12_ofS (nI k) 1 = some (nI (5 + 2 * k)) := by simp only [X12_ofS, lit32, nI_add, pk_mul, show 4 + 2 * k + 1 = 5 + 2 * k by omega]
theorem R_2s (s : Nat) : 2 * nI s = nI (2 * s) := pk_mul 2 s
theorem R_2s1 (s : Nat) : 2 * nI s + 1 = nI (2 * s + 1) := by rw [R_2s, nI_1]
def HitPost (σ : IM) (r : Nat) (f : Nat → Nat) (k c : Nat) (x : Option (Int32 × IM)) : Prop := ∃ σ', x = some (nI (ptB f k c), σ') ∧ RA (σ' r) (hitN f k c) ∧ (∀ i, i ≠ r → i ≠ 5 → σ' i = σ i) ∧ (∀ q, q < 4 → σ' 5 q = σ 5 q + nI (if ptN f k c then 0 else wayN (f (20 + 4 * q)) (hitN f k c (20 + 4 * q))))
theorem R_hits_pt {σ σ3 : IM} {r : Nat} {f : Nat → Nat} {k c : Nat} (hr : r ≠ 5) (hA3 : RA (σ3 r) (trN f k c)) (o3 : ∀ i, i ≠ r → σ3 i = σ i) (hp : ptN f k c) : HitPost σ r f k c (X12_hits_b133 r (nI (sdN f)) σ3) := by
  have hsd := sdN_le f
  have d1 := hA3.1 (38 + 3 * (1 - sdN f)) (by omega) (by omega)
  have hw1 : RA (up2 σ3 r (38 + 3 * (1 - sdN f)) (nI (trN f k c (38 + 3 * (1 - sdN f)) + 1)) r) _ := hA3.w (by omega)
  refine ⟨up2 (up2 σ3 r (38 + 3 * (1 - sdN f)) (nI (trN f k c (38 + 3 * (1 - sdN f)) + 1))) r 2 (nI (2 * (1 - sdN f))), ?_, ?_, ?_, ?_⟩
  · unfold X12_hits_b133
    rw [show ptB f k c = 1 from hp]
    simp only [X12_ofSide, bd1_s, lit32]
    rw [nI_sub (by omega)]
    simp only [nI_add, pk_mul]
    rw [show 36 + 3 * (1 - sdN f) + 2 = 38 + 3 * (1 - sdN f) by omega, rdN (by omega) (by omega), d1, wrN (by omega) (by omega), wrN (by omega) (by omega), nI_add]
  · unfold hitN
    rw [if_pos hp]
    exact hw1.w (by omega)
  · intro i q1 q2
    rw [up2_o q1, up2_o q1, o3 i q1]
  · intro q hq
    rw [if_pos hp, up2_o (Ne.symm hr), up2_o (Ne.symm hr), o3 5 (Ne.symm hr), nI_0, Int32.add_zero]
set_option maxRecDepth 20000 in
theorem R_hits_run {σ σ3 : IM} {r : Nat} {f : Nat → Nat} {k c : Nat} (hr : r ≠ 5) (hI : Inv f) (hk : k < f 0) (hx : faN f k c < 9) (ht : tiN f k c < 8) (hA3 : RA (σ3 r) (trN f k c)) (o3 : ∀ i, i ≠ r → σ3 i = σ i) : HitPost σ r f k c (X12_hits_b102 r (nI (sdN f)) (nI (faN f k c)) (nI (tiN f k c)) (nI (whN f k c)) σ3) := by
  have hsd := sdN_le f
  have h2 := hI.2.1
  have hP := hI.2.2.2.2.1
  have hS := hI.2.2.2.2.2
  unfold X12_hits_b102
  simp only [lit32]
  by_cases c9 : whN f k c = 9
  · rw [if_pos (by rw [c9])]
    exact R_hits_pt hr hA3 o3 (ptN_iff.mpr (Or.inl c9))
  · have hw := whoN_or f (sdN f) (faN f k c)
    have hw4 : whN f k c < 4 := by
      rcases hw with q | q | q
      · exact absurd q c9
      · show whoN f (sdN f) (faN f k c) < 4
        omega
      · show whoN f (sdN f) (faN f k c) < 4
        omega
    rw [if_neg (by rw [nI_iff (by omega) (by omega)]; exact c9)]
    obtain ⟨p, hp⟩ : ∃ p, whN f k c = p := ⟨_, rfl⟩
    rw [hp] at c9 hw4 ⊢
    have hw2 : p = 2 * sdN f ∨ p = 2 * sdN f + 1 := by
      have hp' : whoN f (sdN f) (faN f k c) = p := hp
      rw [hp'] at hw
      omega
    have ip := hP p hw4
    have hpa : (trN f k c) (20 + 4 * p) = f (20 + 4 * p) := trN_o h2 (by omega) (by omega)
    have hA3' := hA3
    have i3 : InvP (trN f k c) p := by
      unfold InvP
      rw [hpa, trN_o h2 (by omega) (by omega), trN_o (j := 23 + 4 * p) h2 (by omega) (by omega)]
      exact ⟨ip.1, ip.2.1, ip.2.2.1, trN_t hP p hw4, ip.2.2.2.2⟩
    have d1 := hA3.1 (20 + 4 * p) (by omega) (by omega)
    rw [hpa] at d1
    have s1 := R_stepsIn hA3 hw4 i3 ht
    rw [trN_o (j := 21 + 4 * p) h2 (by omega) (by omega)] at s1
    have wl := wayN_lt _ ip.1 _ hx
    have sl : stepsN (tiN f k c) (f (21 + 4 * p)) (trN f k c (22 + 4 * p)) < 29 := stepsN_lt ht ip.2.2.1
    simp only [X12_ofP, X12_ofSide, bd1_s, lit32, nI_add, pk_mul]
    rw [show 20 + 4 * p + 0 = 20 + 4 * p by omega, rdN (by omega) (by omega), d1, R_wayOf _ ip.1 _ hx, bd1_s, s1, bd1_s]
    by_cases cs : wayN (f (20 + 4 * p)) (faN f k c) ≤ stepsN (tiN f k c) (f (21 + 4 * p)) (trN f k c (22 + 4 * p))
    · rw [if_pos (show nI _ ≤ nI _ by rw [nI_leF (by omega) (by omega)]; exact cs)]
      have np : ¬ ptN f k c := by
        rw [ptN_iff, hp]
        omega
      have m1 := R_moves (x := faN f k c) hA3 hr hw4 (by rw [hpa]; exact ip.1) hx
      rw [hpa] at m1
      generalize hσ4 : up2 (up2 σ3 5 p (σ3 5 p + nI (wayN (f (20 + 4 * p)) (faN f k c)))) r (20 + 4 * p) (nI (faN f k c)) = σ4 at m1
      have hA4 : RA (σ4 r) (fup (trN f k c) (20 + 4 * p) (faN f k c)) := by
        rw [← hσ4]
        refine RA.w ?_ (by omega)
        rw [up2_o hr]
        exact hA3
      have t4 := R_isTired (p := p) (v := wayN (f (20 + 4 * p)) (faN f k c)) hA4 hw4 (by rw [fup_o (by omega)]; exact trN_t hP p hw4) (by omega)
      have hA5 : RA (up2 σ4 r (22 + 4 * p) (nI (min 99 (fup (trN f k c) (20 + 4 * p) (faN f k c) (22 + 4 * p) + wayN (f (20 + 4 * p)) (faN f k c)))) r) (tireN (fup (trN f k c) (20 + 4 * p) (faN f k c)) p (wayN (f (20 + 4 * p)) (faN f k c))) := hA4.w (by omega)
      generalize hσ5 : up2 σ4 r (22 + 4 * p) (nI (min 99 (fup (trN f k c) (20 + 4 * p) (faN f k c) (22 + 4 * p) + wayN (f (20 + 4 * p)) (faN f k c)))) = σ5 at t4 hA5
      have hA6 : RA (up2 σ5 r 2 (nI p) r) (fup (tireN (fup (trN f k c) (20 + 4 * p) (faN f k c)) p (wayN (f (20 + 4 * p)) (faN f k c))) 2 p) := hA5.w (by omega)
      generalize hσ6 : up2 σ5 r 2 (nI p) = σ6 at hA6
      generalize hf6 : fup (tireN (fup (trN f k c) (20 + 4 * p) (faN f k c)) p (wayN (f (20 + 4 * p)) (faN f k c))) 2 p = f6 at hA6
      have hm : mateN p < 4 ∧ mateN p ≠ p ∧ (mateN p = 2 * sdN f ∨ mateN p = 2 * sdN f + 1) := by
        unfold mateN
        split <;> omega
      have io := hP (mateN p) hm.1
      have g6 : ∀ j, j ≠ 1 → j ≠ 2 → j ≠ 20 + 4 * p → (j < 22 ∨ 34 < j ∨ j % 4 ≠ 2) → f6 j = f j := fun j q1 q2 q3 q4 => by
        rw [← hf6, fup_o q2, tireN_o (by omega), fup_o q3, trN_o h2 q1 q4]
      have g6t : f6 (22 + 4 * mateN p) = trN f k c (22 + 4 * mateN p) := by
        rw [← hf6, fup_o (by omega), tireN_o (by omega), fup_o (by omega)]
      have i6 : InvP f6 (mateN p) := by
        unfold InvP
        rw [g6t, g6 _ (by omega) (by omega) (by omega) (by omega), g6 _ (by omega) (by omega) (by omega) (by omega), g6 _ (by omega) (by omega) (by omega) (by omega)]
        exact ⟨io.1, io.2.1, io.2.2.1, trN_t hP _ hm.1, io.2.2.2.2⟩
      have s6 := R_stepsIn hA6 hm.1 i6 ht
      rw [g6t, g6 (21 + 4 * mateN p) (by omega) (by omega) (by omega) (by omega)] at s6
      have sl6 : stepsN (tiN f k c) (f (21 + 4 * mateN p)) (trN f k c (22 + 4 * mateN p)) < 29 := stepsN_lt ht io.2.2.1
      have v43 := hA6.1 (20 + 4 * mateN p) (by omega) (by omega)
      rw [g6 _ (by omega) (by omega) (by omega) (by omega)] at v43
      have v45 := hA6.1 (36 + 3 * sdN f) (by omega) (by omega)
      rw [g6 _ (by omega) (by omega) (by omega) (by omega)] at v45
      have hfo := (hS (sdN f) (by omega)).1
      have pl := placeN_lt _ (show f (36 + 3 * sdN f) < 2 by omega) _ hx
      have pf := R_placeFor _ (show f (36 + 3 * sdN f) < 2 by omega) _ hx
      have tw := R_towards _ io.1 _ pl _ sl6
      have twl := towN_lt _ io.1 _ pl _ sl6
      generalize hto : towN (f (20 + 4 * mateN p)) (placeN (f (36 + 3 * sdN f)) (faN f k c)) (stepsN (tiN f k c) (f (21 + 4 * mateN p)) (trN f k c (22 + 4 * mateN p))) = to at tw twl
      have m2 := R_moves (x := to) hA6 hr hm.1 (by rw [g6 _ (by omega) (by omega) (by omega) (by omega)]; exact io.1) twl
      rw [g6 _ (by omega) (by omega) (by omega) (by omega)] at m2
      have hh : hitN f k c = fup f6 (20 + 4 * mateN p) to := by
        unfold hitN
        rw [if_neg np, hp, hf6, hto]
      refine ⟨up2 (up2 σ6 5 (mateN p) (σ6 5 (mateN p) + nI (wayN (f (20 + 4 * mateN p)) to))) r (20 + 4 * mateN p) (nI to), ?_, ?_, ?_, ?_⟩
      rotate_left
      · rw [hh]
        refine RA.w ?_ (by omega)
        rw [up2_o hr]
        exact hA6
      · intro i q1 q2
        rw [up2_o q1, up2_o q2, ← hσ6, up2_o q1, ← hσ5, up2_o q1, ← hσ4, up2_o q1, up2_o q2, o3 i q1]
      · intro q hq
        have h5r : (5 : Nat) ≠ r := Ne.symm hr
        rw [if_neg np, up2_o h5r, hh]
        have s5 : σ6 5 = up2 σ3 5 p (σ3 5 p + nI (wayN (f (20 + 4 * p)) (faN f k c))) 5 := by rw [← hσ6, up2_o h5r, ← hσ5, up2_o h5r, ← hσ4, up2_o h5r]
        by_cases qo : q = mateN p
        · subst qo
          rw [up2_ss, s5, up2_oo (Or.inr hm.2.1), o3 5 h5r, fup_s]
        · rw [up2_oo (Or.inr qo), s5, fup_o (by omega)]
          by_cases qp : q = p
          · subst qp
            rw [up2_ss, o3 5 h5r, ← hf6, fup_o (by omega), tireN_o (by omega), fup_s]
          · rw [up2_oo (Or.inr qp), o3 5 h5r, g6 _ (by omega) (by omega) (by omega) (by omega)]
            have : wayN (f (20 + 4 * q)) (f (20 + 4 * q)) = 0 := by
              unfold wayN
              omega
            rw [this, nI_0, Int32.add_zero]
      · rw [rdN (by omega) (by omega), d1, R_wayOf _ ip.1 _ hx]
        simp only [bd1_s, m1, t4, wrN (show 2 < 42 by omega) (show 42 < 2147483648 by omega)]
        rw [hσ6, R_partner _ hw4]
        simp only [bd1_s, nI_add, pk_mul]
        rw [show 20 + 4 * mateN p + 0 = 20 + 4 * mateN p by omega, rdN (by omega) (by omega), v43, show 36 + 3 * sdN f + 0 = 36 + 3 * sdN f by omega, rdN (by omega) (by omega), v45, pf, bd1_s, s6, bd1_s, tw, bd1_s, m2, bd1_s]
        rw [ptB_0 np]
    · rw [if_neg (show ¬ nI _ ≤ nI _ by rw [nI_leF (by omega) (by omega)]; exact cs)]
      refine R_hits_pt hr hA3 o3 (ptN_iff.mpr (Or.inr ?_))
      rw [hp]
      omega
set_option maxRecDepth 20000 in
theorem R_hits {σ : IM} {r : Nat} {f : Nat → Nat} {k c : Nat} (h : RA (σ r) f) (hr : r ≠ 5) (hI : Inv f) (hk : k < f 0) (hc : c < 9) : HitPost σ r f k c (X12_hits σ r (nI k) (nI c)) := by
  have hN := hI.1
  have h2 := hI.2.1
  have h3 := hI.2.2.1
  obtain ⟨hkd, hfg⟩ := hI.2.2.2.1 k hk
  have hP := hI.2.2.2.2.1
  have hS := hI.2.2.2.2.2
  have hsd := sdN_le f
  have hx : faN f k c < 9 := landN_lt _ hkd _ h3 _ hc
  have ht : tiN f k c < 8 := timeN_lt _ hkd _ hfg _ hx
  have e1 := R_fallsIn (k := k) (c := c) h (by omega) hkd h3 hc
  have e2 : X12_timeIn σ r (nI k) (nI (faN f k c)) = some (nI (tiN f k c)) := R_timeIn h (by omega) hkd hfg hx
  have e3 : X12_whoseIn σ r (nI (sdN f)) (nI (faN f k c)) = some (nI (whN f k c)) := R_whoseIn h (by omega) hI hx
  have a2 : σ r 2 = nI (f 2) := h.1 2 (by omega) (by omega)
  have a1 : σ r 1 = nI (f 1) := h.1 1 (by omega) (by omega)
  -- the hit counted
  have hA1 : RA (up2 σ r 1 (nI (f 1 + 1)) r) (fup f 1 (f 1 + 1)) := h.w (by omega)
  have b4 := hA1.1 (4 + 2 * k) (by omega) (by omega)
  have b5 := hA1.1 (5 + 2 * k) (by omega) (by omega)
  rw [fup_o (by omega)] at b4 b5
  have heff := effN_lt _ hkd _ hfg
  have e4 := R_tiresBy _ hkd _ hfg
  have e5 := R_isTired (p := f 2) (v := effN (f (4 + 2 * k)) (f (5 + 2 * k))) hA1 h2 (by rw [fup_o (by omega)]; exact (hP _ h2).2.2.2.1) (by omega)
  have hA2 : RA (up2 (up2 σ r 1 (nI (f 1 + 1))) r (22 + 4 * f 2) (nI (min 99 (fup f 1 (f 1 + 1) (22 + 4 * f 2) + effN (f (4 + 2 * k)) (f (5 + 2 * k))))) r) (tireN (fup f 1 (f 1 + 1)) (f 2) (effN (f (4 + 2 * k)) (f (5 + 2 * k)))) := hA1.w (by omega)
  generalize hσ2 : up2 (up2 σ r 1 (nI (f 1 + 1))) r (22 + 4 * f 2) (nI (min 99 (fup f 1 (f 1 + 1) (22 + 4 * f 2) + effN (f (4 + 2 * k)) (f (5 + 2 * k))))) = σ2 at e5 hA2
  have o2 : ∀ i, i ≠ r → σ2 i = σ i := fun i hi => by rw [← hσ2, up2_o hi, up2_o hi]
  generalize hf2 : tireN (fup f 1 (f 1 + 1)) (f 2) (effN (f (4 + 2 * k)) (f (5 + 2 * k))) = f2 at hA2
  have g2 : ∀ j, j ≠ 1 → (j < 22 ∨ 34 < j ∨ j % 4 ≠ 2) → f2 j = f j := fun j q1 q2 => by rw [← hf2, tireN_o (by omega), fup_o q1]
  have t2 : ∀ p, p < 4 → f2 (22 + 4 * p) ≤ 99 := fun p hp => by
    rw [← hf2]
    exact tireN_le2 (by rw [fup_o (by omega)]; exact (hP p hp).2.2.2.1)
  have c1 : f (20 + 8 * sdN f) < 9 := by have := (hP (2 * sdN f) (by omega)).1; rwa [show 20 + 4 * (2 * sdN f) = 20 + 8 * sdN f by omega] at this
  have c2 : f (24 + 8 * sdN f) < 9 := by have := (hP (2 * sdN f + 1) (by omega)).1; rwa [show 20 + 4 * (2 * sdN f + 1) = 24 + 8 * sdN f by omega] at this
  have e6 := R_isBoths (sd := sdN f) (x := faN f k c) hA2 (by omega) (by rw [g2 _ (by omega) (by omega)]; exact c1) (by rw [g2 _ (by omega) (by omega)]; exact c2) (by rw [g2 _ (by omega) (by omega)]; exact (hS _ (by omega)).2) hx
  have eb : bothN f2 (sdN f) (faN f k c) = bothN f (sdN f) (faN f k c) := by
    unfold bothN
    rw [g2 _ (by omega) (by omega), g2 _ (by omega) (by omega), g2 _ (by omega) (by omega)]
  simp only [eb] at e6
  have hsN : nI 1 - nI (f 2 / 2) = nI (sdN f) := nI_sub (by omega)
  unfold X12_hits
  refine strd (P := HitPost σ r f k c) (j := 2) rfl (by omega) (by omega) a2 ?_
  refine st1 (P := HitPost σ r f k c) (R_sideOf h2) ?_
  refine stb (P := HitPost σ r f k c) hsN ?_
  refine st1 (P := HitPost σ r f k c) e1 ?_
  refine st1 (P := HitPost σ r f k c) e2 ?_
  refine st1 (P := HitPost σ r f k c) e3 ?_
  refine strd (P := HitPost σ r f k c) (j := 1) rfl (by omega) (by omega) a1 ?_
  refine stwr (P := HitPost σ r f k c) (j := 1) (w := nI (f 1 + 1)) rfl (by omega) (by omega) (nI_1 _) ?_
  refine st1 (P := HitPost σ r f k c) (R_ofS0 k) ?_
  refine strd (P := HitPost σ r f k c) (j := 4 + 2 * k) rfl (by omega) (by omega) b4 ?_
  refine st1 (P := HitPost σ r f k c) (R_ofS1 k) ?_
  refine strd (P := HitPost σ r f k c) (j := 5 + 2 * k) rfl (by omega) (by omega) b5 ?_
  refine st1 (P := HitPost σ r f k c) e4 ?_
  refine st1 (P := HitPost σ r f k c) e5 ?_
  refine st1 (P := HitPost σ r f k c) e6 ?_
  by_cases cb : bothN f (sdN f) (faN f k c)
  · refine stf (P := HitPost σ r f k c) (by rw [if_pos cb]; decide) ?_
    have u1 := R_isTired (p := 2 * sdN f) (v := 3) hA2 (by omega) (t2 _ (by omega)) (by omega)
    have hA3 : RA (up2 σ2 r (22 + 4 * (2 * sdN f)) (nI (min 99 (f2 (22 + 4 * (2 * sdN f)) + 3))) r) (tireN f2 (2 * sdN f) 3) := hA2.w (by omega)
    generalize hσ3 : up2 σ2 r (22 + 4 * (2 * sdN f)) (nI (min 99 (f2 (22 + 4 * (2 * sdN f)) + 3))) = σ3 at u1 hA3
    have u2 := R_isTired (p := 2 * sdN f + 1) (v := 3) hA3 (by omega) (tireN_le2 (t2 _ (by omega))) (by omega)
    refine st1 (P := HitPost σ r f k c) (by rw [R_2s]; exact u1) ?_
    refine st1 (P := HitPost σ r f k c) (by rw [R_2s1]; exact u2) ?_
    refine R_hits_run hr hI hk hx ht ?_ ?_
    · unfold trN
      rw [if_pos cb, hf2]
      exact hA3.w (by omega)
    · intro i hi
      rw [up2_o hi, ← hσ3, up2_o hi, o2 i hi]
  · refine stt (P := HitPost σ r f k c) (by rw [if_neg cb]) ?_
    refine R_hits_run hr hI hk hx ht ?_ o2
    unfold trN
    rw [if_neg cb, hf2]
    exact hA2
