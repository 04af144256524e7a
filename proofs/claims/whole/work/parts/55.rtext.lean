/-! the text of a court: how the reference reads it -/
def PS (ν : IM) (d sz p : Nat) : Prop := ν 0 7 = nI (100 * d) ∧ ν 0 8 = nI sz ∧ ν 0 6 = nI p
def RF (ν ν' : IM) : Prop := (∀ i, i ≠ 0 → i ≠ 6 → ν' i = ν i) ∧ ∀ k, k ≠ 6 → ν' 0 k = ν 0 k
theorem RF.rf {ν : IM} : RF ν ν := ⟨fun _ _ _ => rfl, fun _ _ => rfl⟩
theorem RF.tr {ν ν1 ν2 : IM} (h : RF ν ν1) (g : RF ν1 ν2) : RF ν ν2 := ⟨fun i a b => (g.1 i a b).trans (h.1 i a b), fun k a => (g.2 k a).trans (h.2 k a)⟩
def hxN (μ : IM) (d sz i : Nat) : Int32 := if i < sz then μ 12 (100 * d + i) &&& 255 else -1
theorem byte7 : ∀ m, m < 128 → (nI m).toInt8.toInt32 = nI m := by decide +kernel
/-- what a text is read of -/
def TB (μ : IM) (d sz : Nat) : Prop := d < 8 ∧ sz ≤ 100 ∧ ∀ i, i < sz → ByteR (μ 12 (100 * d + i))
section RT
variable {μ : IM} {d sz : Nat}
theorem hx_eq (h : TB μ d sz) {m : Nat} (h0 : 0 < m) (hm : m < 128) (i : Nat) : hxN μ d sz i = nI m ↔ tx μ d sz i = nI m := by
  unfold hxN tx
  by_cases c : i < sz
  · rw [if_pos c, if_pos c]
    have e := sc_eq (b := μ 12 (100 * d + i)) (h.2.2 i c) (n := m) (by omega)
    rw [byte7 m hm] at e
    exact e.symm
  · rw [if_neg c, if_neg c]
    constructor
    · intro e
      have := nI_pos (n := m) (by omega)
      rw [← e] at this
      exact absurd (by decide) this
    · intro e
      have := (nI_iff (a := 0) (b := m) (by omega) (by omega)).mp e
      omega
theorem R_here (h : TB μ d sz) {ν : IM} (e : ν 12 = μ 12) {p : Nat} (hp : PS ν d sz p) (hp2 : p < 1000) : X12_here ν = some (hxN μ d sz p) := by
  obtain ⟨h1, h2, h3⟩ := h
  obtain ⟨p1, p2, p3⟩ := hp
  unfold X12_here hxN
  rw [p1, p2, p3, e]
  by_cases c : p < sz
  · rw [if_neg (nI_ge c (by omega)), if_pos c, nI_add, rdN (by omega) (by omega)]
  · rw [if_pos (nI_le (by omega) (by omega)), if_neg c]
theorem hx_dig (h : TB μ d sz) (i : Nat) : (∃ k, k < 10 ∧ IsD (tx μ d sz i) ∧ dvN (tx μ d sz i) = k ∧ hxN μ d sz i = nI (48 + k) ∧ X12_isIn (hxN μ d sz i) 48 57 = some 1) ∨ (¬ IsD (tx μ d sz i) ∧ X12_isIn (hxN μ d sz i) 48 57 = some 0) := by
  rcases isBt (hxN μ d sz i) 48 57 (by omega) with ⟨j, j1, j2, e, -, -, q⟩ | ⟨q0, q⟩ | q
  · obtain ⟨k, rfl⟩ : ∃ k, j = 48 + k := ⟨j - 48, by omega⟩
    have e' := (hx_eq h (by omega) (by omega) i).mp e
    rcases isD_or (tx μ d sz i) with ⟨k', hk', a1, a2, a3, -⟩ | ⟨a1, -, a3⟩
    · obtain rfl : k' = k := by
        have := (nI_iff (by omega) (by omega)).mp (a1.symm.trans e')
        omega
      exact Or.inl ⟨k', hk', a3, a2, e, q⟩
    · exact absurd e' (a3 k (by omega))
  · refine Or.inr ⟨fun w => ?_, q⟩
    rcases isD_or (tx μ d sz i) with ⟨k', hk', a1, a2, a3, -⟩ | ⟨a1, -, a3⟩
    · have e' := (hx_eq h (by omega) (by omega) i).mpr a1
      rw [e'] at q0
      rcases q0 with q0 | ⟨-, q0⟩
      · exact nI_nlt (by omega) (by omega) q0
      · exact nI_nlt (by omega) (by omega) q0
    · exact a1 w
  · omega
theorem R_numS (h : TB μ d sz) {ν : IM} (e : ν 12 = μ 12) {p : Nat} (hp : PS ν d sz p) (hp2 : p < 900) {w D c n acc : Nat} (hw : w < 3) (hc : c < D) (hD : D < 10) (ha : ν 6 w = nI acc) : (IsD (tx μ d sz p) ∧ ∃ ν', X12_readsNumber_b9 (n + 1) (nI w) (nI D) (nI c) ν = X12_readsNumber_b9 n (nI w) (nI D) (nI (c + 1)) ν' ∧ PS ν' d sz (p + 1) ∧ ν' 6 w = nI (10 * acc + dvN (tx μ d sz p)) ∧ (∀ x, x ≠ w → ν' 6 x = ν 6 x) ∧ RF ν ν') ∨ (¬ IsD (tx μ d sz p) ∧ X12_readsNumber_b9 (n + 1) (nI w) (nI D) (nI c) ν = some (0, ν)) := by
  have hh := R_here h e hp (by omega)
  show (_ ∧ ∃ ν', X12_readsNumber_s9 (X12_readsNumber_b9 n) (nI w) (nI D) (nI c) ν = _ ∧ _) ∨ (_ ∧ X12_readsNumber_s9 (X12_readsNumber_b9 n) (nI w) (nI D) (nI c) ν = _)
  unfold X12_readsNumber_s9
  rw [if_neg (nI_ge hc (by omega)), hh, bd1_s]
  rcases hx_dig h p with ⟨k, hk, a1, a2, a3, a4⟩ | ⟨a1, a2⟩
  · refine Or.inl ⟨a1, up2 (up2 ν 6 w (nI (10 * acc + k))) 0 6 (nI (p + 1)), ?_, ⟨?_, ?_, up2_ss⟩, ?_, fun x hx => ?_, fun i a b => ?_, fun x hx => ?_⟩
    · rw [a4, bd1_s, if_neg n10, rdN hw (by omega), ha, bd1_s, wrN hw (by omega), a3, show (10 : Int32) = nI 10 from rfl, pk_mul, nI_add, show (48 : Int32) = nI 48 from rfl, nI_sub (by omega), show 10 * acc + (48 + k) - 48 = 10 * acc + k by omega, up2_o (show (0 : Nat) ≠ 6 by omega), hp.2.2]
      simp only [bd_e, nI_1]
    · rw [up2_oo (by omega), up2_o (by omega)]
      exact hp.1
    · rw [up2_oo (by omega), up2_o (by omega)]
      exact hp.2.1
    · rw [up2_o (by omega), up2_ss, a2]
    · rw [up2_o (by omega), up2_oo (Or.inr hx)]
    · rw [up2_o a, up2_o b]
    · rw [up2_oo (Or.inr hx), up2_o (by omega)]
  · refine Or.inr ⟨a1, ?_⟩
    rw [a2, bd1_s, if_pos rfl]
theorem R_numE {n D : Nat} (hD : D < 10) (w : Int32) (ν : IM) : X12_readsNumber_b9 (n + 1) w (nI D) (nI D) ν = some (1, ν) := by
  show X12_readsNumber_s9 _ w (nI D) (nI D) ν = _
  unfold X12_readsNumber_s9
  rw [if_pos (nI_le (Nat.le_refl _) (by omega))]
/-- the row of numbers, cleared at w -/
theorem R_num0 {ν : IM} {w : Nat} {D : Int32} (hw : w < 3) : X12_readsNumber ν (nI w) D = X12_readsNumber_b9 1000 (nI w) D 0 (up2 ν 6 w 0) := by
  unfold X12_readsNumber
  rw [wrN hw (by omega)]
theorem PS.w {ν : IM} {p w : Nat} {v : Int32} (h : PS ν d sz p) : PS (up2 ν 6 w v) d sz p := by
  unfold PS
  rw [up2_o (show (0 : Nat) ≠ 6 by omega)]
  exact h
theorem RF.w {ν : IM} {w : Nat} {v : Int32} : RF ν (up2 ν 6 w v) := ⟨fun i _ b => up2_o b, fun k _ => by rw [up2_o (by omega)]⟩
theorem R_num1 (h : TB μ d sz) {ν : IM} (e : ν 12 = μ 12) {p : Nat} (hp : PS ν d sz p) (hp2 : p < 900) {w : Nat} (hw : w < 3) : (IsD (tx μ d sz p) ∧ ∃ ν', X12_readsNumber ν (nI w) 1 = some (1, ν') ∧ PS ν' d sz (p + 1) ∧ ν' 6 w = nI (dvN (tx μ d sz p)) ∧ (∀ x, x ≠ w → ν' 6 x = ν 6 x) ∧ RF ν ν') ∨ (¬ IsD (tx μ d sz p) ∧ ∃ ν', X12_readsNumber ν (nI w) 1 = some (0, ν') ∧ PS ν' d sz p ∧ RF ν ν') := by
  rw [R_num0 hw]
  rcases R_numS (n := 999) (D := 1) (c := 0) (acc := 0) h (ν := up2 ν 6 w 0) (by rw [up2_o (by omega)]; exact e) hp.w hp2 hw (by omega) (by omega) up2_ss with ⟨a, ν', b1, b2, b3, b4, b5⟩ | ⟨a, b⟩
  · refine Or.inl ⟨a, ν', ?_, b2, ?_, fun x hx => (b4 x hx).trans (up2_oo (Or.inr hx)), RF.w.tr b5⟩
    · rw [show X12_readsNumber_b9 1000 (nI w) 1 0 (up2 ν 6 w 0) = _ from b1]
      exact R_numE (n := 998) (D := 1) (by omega) _ _
    · rw [b3, Nat.mul_zero, Nat.zero_add]
  · exact Or.inr ⟨a, _, b, hp.w, RF.w⟩
theorem R_num2 (h : TB μ d sz) {ν : IM} (e : ν 12 = μ 12) {p : Nat} (hp : PS ν d sz p) (hp2 : p < 800) {w : Nat} (hw : w < 3) : (IsD (tx μ d sz p) ∧ IsD (tx μ d sz (p + 1)) ∧ ∃ ν', X12_readsNumber ν (nI w) 2 = some (1, ν') ∧ PS ν' d sz (p + 2) ∧ ν' 6 w = nI (10 * dvN (tx μ d sz p) + dvN (tx μ d sz (p + 1))) ∧ (∀ x, x ≠ w → ν' 6 x = ν 6 x) ∧ RF ν ν') ∨ (¬ IsD (tx μ d sz p) ∧ ∃ ν', X12_readsNumber ν (nI w) 2 = some (0, ν') ∧ PS ν' d sz p ∧ RF ν ν') ∨ (IsD (tx μ d sz p) ∧ ¬ IsD (tx μ d sz (p + 1)) ∧ ∃ ν', X12_readsNumber ν (nI w) 2 = some (0, ν') ∧ PS ν' d sz (p + 1) ∧ RF ν ν') := by
  rw [R_num0 hw]
  rcases R_numS (n := 999) (D := 2) (c := 0) (acc := 0) h (ν := up2 ν 6 w 0) (by rw [up2_o (by omega)]; exact e) hp.w (by omega) hw (by omega) (by omega) up2_ss with ⟨a, ν1, b1, b2, b3, b4, b5⟩ | ⟨a, b⟩
  · have e1 : ν1 12 = μ 12 := by rw [b5.1 12 (by omega) (by omega), up2_o (by omega), e]
    rw [Nat.mul_zero, Nat.zero_add] at b3
    rcases R_numS (n := 998) (D := 2) (c := 1) (acc := dvN (tx μ d sz p)) h e1 b2 (by omega) hw (by omega) (by omega) b3 with ⟨a', ν2, c1, c2, c3, c4, c5⟩ | ⟨a', c⟩
    · refine Or.inl ⟨a, a', ν2, ?_, c2, c3, fun x hx => ((c4 x hx).trans (b4 x hx)).trans (up2_oo (Or.inr hx)), (RF.w.tr b5).tr c5⟩
      rw [show X12_readsNumber_b9 1000 (nI w) 2 0 (up2 ν 6 w 0) = _ from b1, show X12_readsNumber_b9 999 (nI w) (nI 2) (nI (0 + 1)) ν1 = _ from c1]
      exact R_numE (n := 997) (D := 2) (by omega) _ _
    · refine Or.inr (Or.inr ⟨a, a', ν1, ?_, b2, RF.w.tr b5⟩)
      rw [show X12_readsNumber_b9 1000 (nI w) 2 0 (up2 ν 6 w 0) = _ from b1]
      exact c
  · exact Or.inr (Or.inl ⟨a, _, b, hp.w, RF.w⟩)
theorem R_semi (h : TB μ d sz) {ν : IM} (e : ν 12 = μ 12) {p : Nat} (hp : PS ν d sz p) (hp2 : p < 900) : (tx μ d sz p = 59 ∧ ∃ ν', X12_readsStatement_b236 1 ν = some (1, ν') ∧ PS ν' d sz (p + 1) ∧ (∀ x, ν' 6 x = ν 6 x) ∧ RF ν ν') ∨ (tx μ d sz p ≠ 59 ∧ X12_readsStatement_b236 1 ν = some (0, ν)) := by
  unfold X12_readsStatement_b236
  rw [if_neg n10, R_here h e hp (by omega), bd1_s]
  have q := hx_eq h (m := 59) (by omega) (by omega) p
  by_cases c : tx μ d sz p = 59
  · rw [if_pos (show hxN μ d sz p = 59 from q.mpr c), bd_e, hp.2.2, nI_1]
    exact Or.inl ⟨c, _, rfl, ⟨by rw [up2_oo (by omega)]; exact hp.1, by rw [up2_oo (by omega)]; exact hp.2.1, up2_ss⟩, fun x => by rw [up2_o (by omega)], fun i a b => up2_o a, fun k hk => up2_oo (Or.inr hk)⟩
  · rw [if_neg (show ¬ hxN μ d sz p = 59 from fun w => c (q.mp w))]
    exact Or.inr ⟨c, rfl⟩
def numOK (t : Nat → Int32) (p : Nat) (ν : IM) : Prop := ν 6 0 = nI (dvN (t (p + 1))) ∧ (t p = 116 → ν 6 1 = nI (10 * dvN (t (p + 2)) + dvN (t (p + 3)))) ∧ (t p ≠ 116 → 2 ≤ dgN (t p) → ν 6 1 = nI (dvN (t (p + 2)))) ∧ (t p = 112 → ν 6 2 = nI (dvN (t (p + 3))))
/-- how the reading of a statement ends -/
def StEnd (t : Nat → Int32) (d sz p : Nat) (ν : IM) (x : Option (Int32 × IM)) : Prop := (errP t p = none ∧ ∃ ν', x = some (1, ν') ∧ PS ν' d sz (p + dgN (t p) + 2) ∧ numOK t p ν' ∧ RF ν ν') ∨ ∃ e ν', errP t p = some e ∧ x = some (0, ν') ∧ PS ν' d sz e ∧ RF ν ν'
theorem errP_1 {t : Nat → Int32} {p : Nat} (h : dgN (t p) = 1) : errP t p = if IsD (t (p + 1)) then (if t (p + 2) = 59 then none else some (p + 2)) else some (p + 1) := by
  unfold errP
  rw [h, if_neg (by omega)]
  by_cases a : IsD (t (p + 1))
  · rw [if_neg (Decidable.not_not.mpr a), if_pos a, if_neg (fun q => by have := q.1; omega), if_neg (fun q => by have := q.1; omega)]
  · rw [if_pos a, if_neg a]
theorem errP_2 {t : Nat → Int32} {p : Nat} (h : dgN (t p) = 2) : errP t p = if IsD (t (p + 1)) then (if IsD (t (p + 2)) then (if t (p + 3) = 59 then none else some (p + 3)) else some (p + 2)) else some (p + 1) := by
  unfold errP
  rw [h, if_neg (by omega)]
  by_cases a : IsD (t (p + 1))
  · rw [if_neg (Decidable.not_not.mpr a), if_pos a]
    by_cases b : IsD (t (p + 2))
    · rw [if_neg (fun q => q.2 b), if_pos b, if_neg (fun q => by have := q.1; omega)]
    · rw [if_pos ⟨Nat.le_refl 2, b⟩, if_neg b]
  · rw [if_pos a, if_neg a]
theorem errP_3 {t : Nat → Int32} {p : Nat} (h : dgN (t p) = 3) : errP t p = if IsD (t (p + 1)) then (if IsD (t (p + 2)) then (if IsD (t (p + 3)) then (if t (p + 4) = 59 then none else some (p + 4)) else some (p + 3)) else some (p + 2)) else some (p + 1) := by
  unfold errP
  rw [h, if_neg (by omega)]
  by_cases a : IsD (t (p + 1))
  · rw [if_neg (Decidable.not_not.mpr a), if_pos a]
    by_cases b : IsD (t (p + 2))
    · rw [if_neg (fun q => q.2 b), if_pos b]
      by_cases c : IsD (t (p + 3))
      · rw [if_neg (fun q => q.2 c), if_pos c]
      · rw [if_pos ⟨Nat.le_refl 3, c⟩, if_neg c]
    · rw [if_pos ⟨by omega, b⟩, if_neg b]
  · rw [if_pos a, if_neg a]
/-- two digits behind the letter -/
theorem R_two_d (h : TB μ d sz) {ν : IM} (e : ν 12 = μ 12) {p : Nat} (hp : PS ν d sz (p + 1)) (hp2 : p < 500) (hd : dgN (tx μ d sz p) = 2) : StEnd (tx μ d sz) d sz p ν (X12_readsStatement_b124 ν) := by
  have n116 : tx μ d sz p ≠ 116 := fun q => by rw [q] at hd; exact absurd hd (by decide)
  have n112 : tx μ d sz p ≠ 112 := fun q => by rw [q] at hd; exact absurd hd (by decide)
  unfold X12_readsStatement_b124 X12_readsStatement_b146 X12_readsStatement_b147
  have er := errP_2 hd
  rcases R_num1 (w := 0) h e hp (by omega) (by omega) with ⟨a, ν1, b1, b2, b3, b4, b5⟩ | ⟨a, ν1, b1, b2, b3⟩
  · rw [if_pos a] at er
    rw [show X12_readsNumber ν 0 1 = _ from b1, bd2_s, if_neg n10]
    have e1 : ν1 12 = μ 12 := by rw [b5.1 12 (by omega) (by omega), e]
    rcases R_num1 (w := 1) h e1 b2 (by omega) (by omega) with ⟨a', ν2, c1, c2, c3, c4, c5⟩ | ⟨a', ν2, c1, c2, c3⟩
    · rw [if_pos a'] at er
      rw [show X12_readsNumber ν1 1 1 = _ from c1, bd2_s, if_neg n10]
      have e2 : ν2 12 = μ 12 := by rw [c5.1 12 (by omega) (by omega), e1]
      rcases R_semi h e2 c2 (by omega) with ⟨s, ν3, d1, d2, d3, d4⟩ | ⟨s, d1⟩
      · rw [if_pos s] at er
        exact Or.inl ⟨er, ν3, d1, by rw [hd]; exact d2, ⟨by rw [d3, c4 0 (by omega), b3], fun q => absurd q n116, fun _ _ => by rw [d3, c3], fun q => absurd q n112⟩, (b5.tr c5).tr d4⟩
      · rw [if_neg s] at er
        exact Or.inr ⟨p + 3, ν2, er, d1, c2, b5.tr c5⟩
    · rw [if_neg a'] at er
      rw [show X12_readsNumber ν1 1 1 = _ from c1, bd2_s, if_pos rfl]
      exact Or.inr ⟨p + 2, ν2, er, rfl, c2, b5.tr c3⟩
  · rw [if_neg a] at er
    rw [show X12_readsNumber ν 0 1 = _ from b1, bd2_s, if_pos rfl]
    exact Or.inr ⟨p + 1, ν1, er, rfl, b2, b3⟩
theorem R_one_d (h : TB μ d sz) {ν : IM} (e : ν 12 = μ 12) {p : Nat} (hp : PS ν d sz (p + 1)) (hp2 : p < 500) (hd : dgN (tx μ d sz p) = 1) : StEnd (tx μ d sz) d sz p ν (X12_readsStatement_b214 ν) := by
  have n116 : tx μ d sz p ≠ 116 := fun q => by rw [q] at hd; exact absurd hd (by decide)
  have n112 : tx μ d sz p ≠ 112 := fun q => by rw [q] at hd; exact absurd hd (by decide)
  unfold X12_readsStatement_b214
  have er := errP_1 hd
  rcases R_num1 (w := 0) h e hp (by omega) (by omega) with ⟨a, ν1, b1, b2, b3, b4, b5⟩ | ⟨a, ν1, b1, b2, b3⟩
  · rw [if_pos a] at er
    rw [show X12_readsNumber ν 0 1 = _ from b1, bd2_s]
    have e1 : ν1 12 = μ 12 := by rw [b5.1 12 (by omega) (by omega), e]
    rcases R_semi h e1 b2 (by omega) with ⟨s, ν3, d1, d2, d3, d4⟩ | ⟨s, d1⟩
    · rw [if_pos s] at er
      exact Or.inl ⟨er, ν3, d1, by rw [hd]; exact d2, ⟨by rw [d3, b3], fun q => absurd q n116, fun _ q => by omega, fun q => absurd q n112⟩, b5.tr d4⟩
    · rw [if_neg s] at er
      exact Or.inr ⟨p + 2, ν1, er, d1, b2, b5⟩
  · rw [if_neg a] at er
    rw [show X12_readsNumber ν 0 1 = _ from b1, bd2_s]
    exact Or.inr ⟨p + 1, ν1, er, rfl, b2, b3⟩
theorem R_p_d (h : TB μ d sz) {ν : IM} (e : ν 12 = μ 12) {p : Nat} (hp : PS ν d sz (p + 1)) (hp2 : p < 500) (hd : tx μ d sz p = 112) : StEnd (tx μ d sz) d sz p ν (bd2 (X12_readsNumber ν 0 1) fun r11 σ9 => if r11 = 0 then (X12_readsStatement_b182 σ9) else (bd2 (X12_readsNumber σ9 1 1) fun r15 σ13 => if r15 = 0 then (X12_readsStatement_b182 σ13) else (bd2 (X12_readsNumber σ13 2 1) fun r19 σ17 => if r19 = 0 then (X12_readsStatement_b182 σ17) else (X12_readsStatement_b183 1 σ17)))) := by
  have n116 : tx μ d sz p ≠ 116 := fun q => by rw [q] at hd; exact absurd hd (by decide)
  have d3' : dgN (tx μ d sz p) = 3 := by rw [hd]; rfl
  unfold X12_readsStatement_b182 X12_readsStatement_b183
  have er := errP_3 d3'
  rcases R_num1 (w := 0) h e hp (by omega) (by omega) with ⟨a, ν1, b1, b2, b3, b4, b5⟩ | ⟨a, ν1, b1, b2, b3⟩
  · rw [if_pos a] at er
    rw [show X12_readsNumber ν 0 1 = _ from b1, bd2_s, if_neg n10]
    have e1 : ν1 12 = μ 12 := by rw [b5.1 12 (by omega) (by omega), e]
    rcases R_num1 (w := 1) h e1 b2 (by omega) (by omega) with ⟨a', ν2, c1, c2, c3, c4, c5⟩ | ⟨a', ν2, c1, c2, c3⟩
    · rw [if_pos a'] at er
      rw [show X12_readsNumber ν1 1 1 = _ from c1, bd2_s, if_neg n10]
      have e2 : ν2 12 = μ 12 := by rw [c5.1 12 (by omega) (by omega), e1]
      rcases R_num1 (w := 2) h e2 c2 (by omega) (by omega) with ⟨a2, ν3, f1, f2, f3, f4, f5⟩ | ⟨a2, ν3, f1, f2, f3⟩
      · rw [if_pos a2] at er
        rw [show X12_readsNumber ν2 2 1 = _ from f1, bd2_s, if_neg n10]
        have e3 : ν3 12 = μ 12 := by rw [f5.1 12 (by omega) (by omega), e2]
        rcases R_semi h e3 f2 (by omega) with ⟨s, ν4, g1, g2, g3, g4⟩ | ⟨s, g1⟩
        · rw [if_pos s] at er
          exact Or.inl ⟨er, ν4, g1, by rw [d3']; exact g2, ⟨by rw [g3, f4 0 (by omega), c4 0 (by omega), b3], fun q => absurd q n116, fun _ _ => by rw [g3, f4 1 (by omega), c3], fun _ => by rw [g3, f3]⟩, ((b5.tr c5).tr f5).tr g4⟩
        · rw [if_neg s] at er
          exact Or.inr ⟨p + 4, ν3, er, g1, f2, (b5.tr c5).tr f5⟩
      · rw [if_neg a2] at er
        rw [show X12_readsNumber ν2 2 1 = _ from f1, bd2_s, if_pos rfl]
        exact Or.inr ⟨p + 3, ν3, er, rfl, f2, (b5.tr c5).tr f3⟩
    · rw [if_neg a'] at er
      rw [show X12_readsNumber ν1 1 1 = _ from c1, bd2_s, if_pos rfl]
      exact Or.inr ⟨p + 2, ν2, er, rfl, c2, b5.tr c3⟩
  · rw [if_neg a] at er
    rw [show X12_readsNumber ν 0 1 = _ from b1, bd2_s, if_pos rfl]
    exact Or.inr ⟨p + 1, ν1, er, rfl, b2, b3⟩
theorem R_t_d (h : TB μ d sz) {ν : IM} (e : ν 12 = μ 12) {p : Nat} (hp : PS ν d sz (p + 1)) (hp2 : p < 500) (hd : tx μ d sz p = 116) : StEnd (tx μ d sz) d sz p ν (bd2 (X12_readsNumber ν 0 1) fun r24 σ22 => if r24 = 0 then (X12_readsStatement_b209 σ22) else (bd2 (X12_readsNumber σ22 1 2) fun r28 σ26 => if r28 = 0 then (X12_readsStatement_b209 σ26) else (X12_readsStatement_b210 1 σ26))) := by
  have n112 : tx μ d sz p ≠ 112 := fun q => by rw [q] at hd; exact absurd hd (by decide)
  have d3' : dgN (tx μ d sz p) = 3 := by rw [hd]; rfl
  unfold X12_readsStatement_b209 X12_readsStatement_b210
  have er := errP_3 d3'
  rcases R_num1 (w := 0) h e hp (by omega) (by omega) with ⟨a, ν1, b1, b2, b3, b4, b5⟩ | ⟨a, ν1, b1, b2, b3⟩
  · rw [if_pos a] at er
    rw [show X12_readsNumber ν 0 1 = _ from b1, bd2_s, if_neg n10]
    have e1 : ν1 12 = μ 12 := by rw [b5.1 12 (by omega) (by omega), e]
    rcases R_num2 (w := 1) h e1 b2 (by omega) (by omega) with ⟨a', a2, ν2, c1, c2, c3, c4, c5⟩ | ⟨a', ν2, c1, c2, c3⟩ | ⟨a', a2, ν2, c1, c2, c3⟩
    · rw [if_pos a', if_pos a2] at er
      rw [show X12_readsNumber ν1 1 2 = _ from c1, bd2_s, if_neg n10]
      have e2 : ν2 12 = μ 12 := by rw [c5.1 12 (by omega) (by omega), e1]
      rcases R_semi h e2 c2 (by omega) with ⟨s, ν4, g1, g2, g3, g4⟩ | ⟨s, g1⟩
      · rw [if_pos s] at er
        exact Or.inl ⟨er, ν4, g1, by rw [d3']; exact g2, ⟨by rw [g3, c4 0 (by omega), b3], fun _ => by rw [g3, c3], fun q _ => absurd hd q, fun q => absurd q n112⟩, (b5.tr c5).tr g4⟩
      · rw [if_neg s] at er
        exact Or.inr ⟨p + 4, ν2, er, g1, c2, b5.tr c5⟩
    · rw [if_neg a'] at er
      rw [show X12_readsNumber ν1 1 2 = _ from c1, bd2_s, if_pos rfl]
      exact Or.inr ⟨p + 2, ν2, er, rfl, c2, b5.tr c3⟩
    · rw [if_pos a', if_neg a2] at er
      rw [show X12_readsNumber ν1 1 2 = _ from c1, bd2_s, if_pos rfl]
      exact Or.inr ⟨p + 3, ν2, er, rfl, c2, b5.tr c3⟩
  · rw [if_neg a] at er
    rw [show X12_readsNumber ν 0 1 = _ from b1, bd2_s, if_pos rfl]
    exact Or.inr ⟨p + 1, ν1, er, rfl, b2, b3⟩
theorem R_st (h : TB μ d sz) {ν : IM} (e : ν 12 = μ 12) {p : Nat} (hp : PS ν d sz p) (hp2 : p < 500) : StEnd (tx μ d sz) d sz p ν (X12_readsStatement ν) := by
  unfold X12_readsStatement
  rw [R_here h e hp (by omega), bd1_s, hp.2.2, nI_1, bd_e]
  obtain ⟨ν1, e1⟩ : ∃ z, z = up2 ν 0 6 (nI (p + 1)) := ⟨_, rfl⟩
  rw [← e1]
  have rf1 : RF ν ν1 := by
    rw [e1]
    exact ⟨fun i a b => up2_o a, fun k hk => up2_oo (Or.inr hk)⟩
  have ee : ν1 12 = μ 12 := by rw [rf1.1 12 (by omega) (by omega), e]
  have p1 : PS ν1 d sz (p + 1) := by
    rw [e1]
    exact ⟨by rw [up2_oo (by omega)]; exact hp.1, by rw [up2_oo (by omega)]; exact hp.2.1, up2_ss⟩
  have lift : ∀ x, StEnd (tx μ d sz) d sz p ν1 x → StEnd (tx μ d sz) d sz p ν x := by
    rintro x (⟨a, ν', b1, b2, b3, b4⟩ | ⟨e, ν', a, b1, b2, b3⟩)
    · exact Or.inl ⟨a, ν', b1, b2, b3, rf1.tr b4⟩
    · exact Or.inr ⟨e, ν', a, b1, b2, rf1.tr b3⟩
  have q : ∀ m, 0 < m → m < 128 → (hxN μ d sz p = nI m ↔ tx μ d sz p = nI m) := fun m h0 hm => hx_eq h h0 hm p
  have q98 : hxN μ d sz p = 98 ↔ tx μ d sz p = 98 := q 98 (by omega) (by omega)
  have q100 : hxN μ d sz p = 100 ↔ tx μ d sz p = 100 := q 100 (by omega) (by omega)
  have q102 : hxN μ d sz p = 102 ↔ tx μ d sz p = 102 := q 102 (by omega) (by omega)
  have q104 : hxN μ d sz p = 104 ↔ tx μ d sz p = 104 := q 104 (by omega) (by omega)
  have q108 : hxN μ d sz p = 108 ↔ tx μ d sz p = 108 := q 108 (by omega) (by omega)
  have q112 : hxN μ d sz p = 112 ↔ tx μ d sz p = 112 := q 112 (by omega) (by omega)
  have q116 : hxN μ d sz p = 116 ↔ tx μ d sz p = 116 := q 116 (by omega) (by omega)
  have q120 : hxN μ d sz p = 120 ↔ tx μ d sz p = 120 := q 120 (by omega) (by omega)
  simp only [q98, q100, q102, q104, q108, q112, q116, q120]
  by_cases c98 : tx μ d sz p = 98
  · rw [if_pos c98]
    exact lift _ (R_two_d h ee p1 hp2 (by rw [c98]; rfl))
  rw [if_neg c98]
  by_cases c100 : tx μ d sz p = 100
  · rw [if_pos c100]
    exact lift _ (R_one_d h ee p1 hp2 (by rw [c100]; rfl))
  rw [if_neg c100]
  by_cases c102 : tx μ d sz p = 102
  · rw [if_pos c102]
    exact lift _ (R_two_d h ee p1 hp2 (by rw [c102]; rfl))
  rw [if_neg c102]
  by_cases c104 : tx μ d sz p = 104
  · rw [if_pos c104]
    exact lift _ (R_two_d h ee p1 hp2 (by rw [c104]; rfl))
  rw [if_neg c104]
  by_cases c108 : tx μ d sz p = 108
  · rw [if_pos c108]
    exact lift _ (R_one_d h ee p1 hp2 (by rw [c108]; rfl))
  rw [if_neg c108]
  by_cases c112 : tx μ d sz p = 112
  · rw [if_pos c112]
    exact lift _ (R_p_d h ee p1 hp2 c112)
  rw [if_neg c112]
  by_cases c116 : tx μ d sz p = 116
  · rw [if_pos c116]
    exact lift _ (R_t_d h ee p1 hp2 c116)
  rw [if_neg c116]
  by_cases c120 : tx μ d sz p = 120
  · rw [if_pos c120]
    exact lift _ (R_two_d h ee p1 hp2 (by rw [c120]; rfl))
  rw [if_neg c120]
  unfold X12_readsStatement_b224
  have d0 : dgN (tx μ d sz p) = 0 := by
    unfold dgN
    rw [if_neg c98, if_neg c100, if_neg c102, if_neg c104, if_neg c108, if_neg c112, if_neg c116, if_neg c120]
  rw [bd_e, p1.2.2, nI_pred]
  refine lift _ (Or.inr ⟨p, _, ?_, rfl, ⟨by rw [up2_oo (by omega)]; exact p1.1, by rw [up2_oo (by omega)]; exact p1.2.1, up2_ss⟩, fun i a b => up2_o a, fun k hk => up2_oo (Or.inr hk)⟩)
  unfold errP
  rw [if_pos d0]
end RT
