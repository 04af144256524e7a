/-! the text of a court: what ours says of its form -/
def tx (μ : IM) (d sz i : Nat) : Int32 := if i < sz then μ 12 (100 * d + i) else 0
def dgN (v : Int32) : Nat := if v = 98 then 2 else if v = 100 then 1 else if v = 102 then 2 else if v = 104 then 2 else if v = 108 then 1 else if v = 112 then 3 else if v = 116 then 3 else if v = 120 then 2 else 0
def isDB (v : Int32) : Bool := decide (X11_isBelow (v - 48) 10 = some 1)
abbrev IsD (v : Int32) : Prop := isDB v = true
def dvN (v : Int32) : Nat := v.toNatClampNeg - 48
theorem isD_or (v : Int32) : (∃ k, k < 10 ∧ v = nI (48 + k) ∧ dvN v = k ∧ IsD v ∧ X11_isBelow (v - 48) 10 = some 1) ∨ (¬ IsD v ∧ X11_isBelow (v - 48) 10 = some 0 ∧ ∀ k, k < 10 → v ≠ nI (48 + k)) := by
  rcases rng (v - 48) 10 (by omega) with ⟨k, hk, e, q1, -⟩ | ⟨q1, -, q3⟩
  · have ev : v = nI (48 + k) := by
      rw [← Int32.sub_add_cancel v 48, e, show (48 : Int32) = nI 48 from rfl, nI_add, Nat.add_comm]
    refine Or.inl ⟨k, hk, ev, ?_, by unfold IsD isDB; rw [show X11_isBelow (v - 48) 10 = some 1 from q1]; rfl, q1⟩
    unfold dvN
    rw [ev, nI_clamp (by omega)]
    omega
  · refine Or.inr ⟨fun w => ?_, q1, fun k hk e => q3 k hk ?_⟩
    · have w' : X11_isBelow (v - 48) (nI 10) = some 1 := of_decide_eq_true w
      rw [q1] at w'
      cases w'
    · rw [e, show (48 : Int32) = nI 48 from rfl, nI_sub (by omega)]
      congr 1
      omega
theorem dgN_le (v : Int32) : dgN v ≤ 3 := by
  unfold dgN
  (repeat' split) <;> omega
def errP (t : Nat → Int32) (p : Nat) : Option Nat :=
  if dgN (t p) = 0 then some p
  else if ¬ IsD (t (p + 1)) then some (p + 1)
  else if 2 ≤ dgN (t p) ∧ ¬ IsD (t (p + 2)) then some (p + 2)
  else if 3 ≤ dgN (t p) ∧ ¬ IsD (t (p + 3)) then some (p + 3)
  else if t (p + dgN (t p) + 1) = 59 then none else some (p + dgN (t p) + 1)
def wfN (t : Nat → Int32) (sz : Nat) : Nat → Nat → Prop
  | 0, _ => False
  | n + 1, p => errP t p = none ∧ (p + dgN (t p) + 2 < sz → wfN t sz n (p + dgN (t p) + 2))
def stN (t : Nat → Int32) (sz : Nat) : Nat → Nat → Nat
  | 0, _ => 0
  | n + 1, p => 1 + (if p + dgN (t p) + 2 < sz then stN t sz n (p + dgN (t p) + 2) else 0)
theorem errP_le {t : Nat → Int32} {p e : Nat} (h : errP t p = some e) : p ≤ e ∧ e ≤ p + 4 := by
  have := dgN_le (t p)
  unfold errP at h
  split at h
  · cases h
    omega
  split at h
  · cases h
    omega
  split at h
  · cases h
    omega
  split at h
  · cases h
    omega
  split at h
  · cases h
  · cases h
    omega
/-- a statement of the right form -/
theorem errP_ok {t : Nat → Int32} {p : Nat} (h : errP t p = none) : 0 < dgN (t p) ∧ (∀ i, 1 ≤ i → i ≤ dgN (t p) → IsD (t (p + i))) ∧ t (p + dgN (t p) + 1) = 59 := by
  have h3 := dgN_le (t p)
  unfold errP at h
  split at h
  · cases h
  rename_i a
  split at h
  · cases h
  rename_i b
  split at h
  · cases h
  rename_i c
  split at h
  · cases h
  rename_i d
  split at h
  · rename_i e
    refine ⟨by omega, fun i h1 h2 => ?_, e⟩
    rcases (show i = 1 ∨ i = 2 ∨ i = 3 by omega) with rfl | rfl | rfl
    · exact Decidable.not_not.mp b
    · exact Decidable.byContradiction (fun q => c ⟨h2, q⟩)
    · exact Decidable.byContradiction (fun q => d ⟨h2, q⟩)
  · cases h
section TX
variable {σ : IM} {ρ : RM} {kf : KF} {μ : IM} {d so sz : Nat}
theorem C_byteAt (g : ShR σ ρ μ d so sz) {i : Nat} (hi : i < 1000) : X7_byteAt kf σ ρ d (nI i) = some (tx μ d sz i) := by
  have hsz := g.2.2.2.1
  unfold X7_byteAt tx
  rw [g.2.2.2.2.2.2.1, C_isBelow (by omega) (by omega), bd1_s]
  by_cases c : i < sz
  · rw [if_pos c, if_pos c, if_neg n10, elC g c]
  · rw [if_neg c, if_neg c, if_pos rfl]
theorem C_digitAt (g : ShR σ ρ μ d so sz) {i : Nat} (hi : i < 1000) : X7_digitAt kf σ ρ d (nI i) = some (tx μ d sz i - 48) := by
  unfold X7_digitAt
  rw [C_byteAt g hi, bd1_s]
theorem C_digits (v : Int32) : X2_digitsBehind v = some (nI (dgN v)) := by
  unfold X2_digitsBehind dgN
  (repeat' split) <;> rfl
theorem C_wrongByte_dig (g : ShR σ ρ μ d so sz) {K : Int32 → Option Int32} {n p D i : Nat} (hi1 : 1 ≤ i) (hi : i ≤ D) (hD : D ≤ 3) (hp : p < 300) : X2_wrongByte_b19 kf σ ρ d K (n + 1) (nI p) (nI D) (nI i) = if IsD (tx μ d sz (p + i)) then X2_wrongByte_b19 kf σ ρ d K n (nI p) (nI D) (nI (i + 1)) else some (nI (p + i)) := by
  show X2_wrongByte_s19 kf σ ρ d K (X2_wrongByte_b19 kf σ ρ d K n) (nI p) (nI D) (nI i) = _
  unfold X2_wrongByte_s19
  rw [if_neg (nI_nlt hi (by omega)), nI_add, C_digitAt g (by omega), bd1_s, nI_1]
  rcases isD_or (tx μ d sz (p + i)) with ⟨k, hk, e1, e2, e3, e4⟩ | ⟨e1, e2, e3⟩
  · rw [e4, bd1_s, if_neg n10, if_pos e3, bd_e]
  · rw [e2, bd1_s, if_pos rfl, if_neg e1]
theorem C_wrongByte_end (g : ShR σ ρ μ d so sz) {K : Int32 → Option Int32} {n p D : Nat} (hD : D ≤ 3) (hp : p < 300) : X2_wrongByte_b19 kf σ ρ d K (n + 1) (nI p) (nI D) (nI (D + 1)) = if tx μ d sz (p + D + 1) = 59 then (if p + D + 2 < sz then K (nI (p + D + 2)) else some (-1)) else some (nI (p + D + 1)) := by
  have hsz := g.2.2.2.1
  show X2_wrongByte_s19 kf σ ρ d K (X2_wrongByte_b19 kf σ ρ d K n) (nI p) (nI D) (nI (D + 1)) = _
  unfold X2_wrongByte_s19
  rw [if_pos (nI_lt (by omega) (by omega)), show (1 : Int32) = nI 1 from rfl, show (2 : Int32) = nI 2 from rfl]
  simp only [nI_add]
  rw [C_byteAt g (by omega), bd1_s, g.2.2.2.2.2.2.1, bd_e, show p + (D + 2) = p + D + 2 by omega]
  by_cases c : tx μ d sz (p + D + 1) = 59
  · rw [if_pos c, if_pos c]
    by_cases c2 : p + D + 2 < sz
    · rw [if_pos c2, if_pos (nI_lt c2 (by omega))]
    · rw [if_neg c2, if_neg (nI_nlt (by omega) (by omega))]
  · rw [if_neg c, if_neg c]
theorem C_wrongByte_st (g : ShR σ ρ μ d so sz) {n p : Nat} (hp : p < 300) : X2_wrongByte_b2 kf σ ρ d (n + 1) (nI p) = match errP (tx μ d sz) p with
    | some e => some (nI e)
    | none => if p + dgN (tx μ d sz p) + 2 < sz then X2_wrongByte_b2 kf σ ρ d n (nI (p + dgN (tx μ d sz p) + 2)) else some (-1) := by
  show X2_wrongByte_s2 kf σ ρ d (X2_wrongByte_b2 kf σ ρ d n) (nI p) = _
  unfold X2_wrongByte_s2 errP
  rw [C_byteAt g (by omega), bd1_s, C_digits, bd1_s]
  have h3 := dgN_le (tx μ d sz p)
  generalize dgN (tx μ d sz p) = D at *
  by_cases d0 : D = 0
  · subst d0
    rw [if_pos z00, if_pos rfl]
  · rw [if_neg (nI_ne0 (by omega) (by omega)), if_neg d0]
    have s1 : X2_wrongByte_b19 kf σ ρ d (X2_wrongByte_b2 kf σ ρ d n) 1000 (nI p) (nI D) 1 = _ := C_wrongByte_dig (n := 999) (i := 1) (K := X2_wrongByte_b2 kf σ ρ d n) g (by omega) (by omega) h3 hp
    rw [s1]
    by_cases c1 : IsD (tx μ d sz (p + 1))
    · rw [if_pos c1, if_neg (Decidable.not_not.mpr c1)]
      by_cases d2 : 2 ≤ D
      · rw [C_wrongByte_dig (n := 998) (i := 2) g (by omega) d2 h3 hp]
        by_cases c2 : IsD (tx μ d sz (p + 2))
        · rw [if_pos c2, if_neg (fun q => q.2 c2)]
          by_cases d3 : 3 ≤ D
          · rw [C_wrongByte_dig (n := 997) (i := 3) g (by omega) d3 h3 hp]
            by_cases c3 : IsD (tx μ d sz (p + 3))
            · obtain rfl : D = 3 := by omega
              rw [if_pos c3, if_neg (fun q => q.2 c3), C_wrongByte_end (n := 996) g h3 hp]
              by_cases c4 : tx μ d sz (p + 3 + 1) = 59
              · rw [if_pos c4, if_pos c4]
              · rw [if_neg c4, if_neg c4]
            · rw [if_neg c3, if_pos ⟨d3, c3⟩]
          · obtain rfl : D = 2 := by omega
            rw [if_neg (fun q => d3 q.1), C_wrongByte_end (n := 997) g h3 hp]
            by_cases c4 : tx μ d sz (p + 2 + 1) = 59
            · rw [if_pos c4, if_pos c4]
            · rw [if_neg c4, if_neg c4]
        · rw [if_neg c2, if_pos ⟨d2, c2⟩]
      · obtain rfl : D = 1 := by omega
        rw [if_neg (fun q => d2 q.1), if_neg (fun q => by have := q.1; omega), C_wrongByte_end (n := 998) g h3 hp]
        by_cases c4 : tx μ d sz (p + 1 + 1) = 59
        · rw [if_pos c4, if_pos c4]
        · rw [if_neg c4, if_neg c4]
    · rw [if_neg c1, if_pos c1]
theorem C_wrongByteL (g : ShR σ ρ μ d so sz) : ∀ (n p : Nat), p ≤ 100 → 101 ≤ n + p → (∃ e, e ≤ 110 ∧ X2_wrongByte_b2 kf σ ρ d n (nI p) = some (nI e)) ∨ (X2_wrongByte_b2 kf σ ρ d n (nI p) = some (-1) ∧ wfN (tx μ d sz) sz n p) := by
  have hsz := g.2.2.2.1
  intro n
  induction n with
  | zero => intro p h1 h2; omega
  | succ n ih =>
    intro p h1 h2
    rw [C_wrongByte_st g (by omega)]
    unfold wfN
    cases he : errP (tx μ d sz) p with
    | some e => exact Or.inl ⟨e, by have := errP_le he; omega, rfl⟩
    | none =>
      dsimp only
      by_cases c : p + dgN (tx μ d sz p) + 2 < sz
      · rw [if_pos c]
        rcases ih (p + dgN (tx μ d sz p) + 2) (by omega) (by omega) with q | ⟨q1, q2⟩
        · exact Or.inl q
        · exact Or.inr ⟨q1, rfl, fun _ => q2⟩
      · rw [if_neg c]
        exact Or.inr ⟨rfl, rfl, fun q => absurd q c⟩
/-- how many statements -/
def csN (t : Nat → Int32) : Nat → Nat
  | 0 => 0
  | i + 1 => csN t i + (if t i = 59 then 1 else 0)
theorem csN_st {t : Nat → Int32} (hb : ∀ i, sz ≤ i → t i = 0) : ∀ (n p : Nat), p < sz → wfN t sz n p → csN t sz = csN t p + stN t sz n p := by
  intro n
  induction n with
  | zero => intro p h1 h2; exact absurd h2 (by unfold wfN; exact id)
  | succ n ih =>
    intro p hp h
    unfold wfN at h
    obtain ⟨h1, h2⟩ := h
    obtain ⟨a, b, c⟩ := errP_ok h1
    have h3 := dgN_le (t p)
    have nd : ∀ v, IsD v → v ≠ 59 := by
      intro v hv e
      rw [e] at hv
      exact absurd hv (by decide)
    have n0 : t p ≠ 59 := fun e => by
      rw [e] at a
      exact absurd a (by decide)
    have hlt : p + dgN (t p) + 1 < sz := by
      by_cases q : p + dgN (t p) + 1 < sz
      · exact q
      · rw [hb _ (by omega)] at c
        exact absurd c (by decide)
    have step : csN t (p + dgN (t p) + 2) = csN t p + 1 := by
      show csN t (p + dgN (t p) + 1) + (if t (p + dgN (t p) + 1) = 59 then 1 else 0) = _
      rw [if_pos c]
      congr 1
      rcases (show dgN (t p) = 1 ∨ dgN (t p) = 2 ∨ dgN (t p) = 3 by omega) with e | e | e
      · rw [e] at b ⊢
        show csN t p + (if t p = 59 then 1 else 0) + (if t (p + 1) = 59 then 1 else 0) = _
        rw [if_neg n0, if_neg (nd _ (b 1 (by omega) (by omega)))]
        rfl
      · rw [e] at b ⊢
        show csN t p + (if t p = 59 then 1 else 0) + (if t (p + 1) = 59 then 1 else 0) + (if t (p + 2) = 59 then 1 else 0) = _
        rw [if_neg n0, if_neg (nd _ (b 1 (by omega) (by omega))), if_neg (nd _ (b 2 (by omega) (by omega)))]
        rfl
      · rw [e] at b ⊢
        show csN t p + (if t p = 59 then 1 else 0) + (if t (p + 1) = 59 then 1 else 0) + (if t (p + 2) = 59 then 1 else 0) + (if t (p + 3) = 59 then 1 else 0) = _
        rw [if_neg n0, if_neg (nd _ (b 1 (by omega) (by omega))), if_neg (nd _ (b 2 (by omega) (by omega))), if_neg (nd _ (b 3 (by omega) (by omega)))]
        rfl
    unfold stN
    by_cases q : p + dgN (t p) + 2 < sz
    · rw [if_pos q, ih _ q (h2 q), step]
      omega
    · rw [if_neg q, show sz = p + dgN (t p) + 2 by omega, step]
theorem C_statements (g : ShR σ ρ μ d so sz) : X2_statements kf σ ρ d = some (nI (csN (tx μ d sz) sz)) := by
  have hsz := g.2.2.2.1
  unfold X2_statements
  refine loop_i (σ := Nat) (fun n i a => X2_statements_b4 kf σ ρ d n (nI a) (nI i) = some (nI (csN (tx μ d sz) sz))) (fun i a => a = csN (tx μ d sz) i) sz ?_ ?_ 1000 0 0 (by omega) (by omega) rfl
  · rintro n a rfl
    show X2_statements_s4 kf σ ρ d _ _ (nI sz) = _
    unfold X2_statements_s4
    rw [g.2.2.2.2.2.2.1, if_pos (nI_le (Nat.le_refl _) (by omega))]
  · rintro n i a hi rfl k
    show X2_statements_s4 kf σ ρ d (X2_statements_b4 kf σ ρ d n) _ (nI i) = _
    unfold X2_statements_s4 X2_statements_b25
    rw [g.2.2.2.2.2.2.1, if_neg (nI_ge hi (by omega)), C_byteAt g (by omega), bd1_s]
    simp only [bd_e, nI_1]
    by_cases c : tx μ d sz i = 59
    · rw [if_pos c]
      refine k (csN (tx μ d sz) i + 1) ?_
      show _ = csN (tx μ d sz) i + (if tx μ d sz i = 59 then 1 else 0)
      rw [if_pos c]
    · rw [if_neg c]
      refine k (csN (tx μ d sz) i) ?_
      show _ = csN (tx μ d sz) i + (if tx μ d sz i = 59 then 1 else 0)
      rw [if_neg c, Nat.add_zero]
end TX
