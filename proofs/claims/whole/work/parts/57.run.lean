/-! a text gone through: the reference; ours, letter by letter -/
def erN (t : Nat → Int32) (sz : Nat) : Nat → Nat → Option Nat
  | 0, _ => none
  | n + 1, p => match errP t p with
    | some e => some e
    | none => if p + dgN (t p) + 2 < sz then erN t sz n (p + dgN (t p) + 2) else none
def runF (t : Nat → Int32) (sz : Nat) : Nat → Nat → (Nat → Nat) → Option Nat × (Nat → Nat)
  | 0, _, g => (none, g)
  | n + 1, p, g => match tellF t p g with
    | none => (some p, g)
    | some g' => if p + dgN (t p) + 2 < sz then runF t sz n (p + dgN (t p) + 2) g' else (none, g')
theorem C_wrongByteE {σ : IM} {ρ : RM} {kf : KF} {μ : IM} {d so sz : Nat} (g : ShR σ ρ μ d so sz) : ∀ (n p : Nat), p ≤ 100 → 101 ≤ n + p → (∃ e, erN (tx μ d sz) sz n p = some e ∧ e ≤ 110 ∧ X2_wrongByte_b2 kf σ ρ d n (nI p) = some (nI e)) ∨ (erN (tx μ d sz) sz n p = none ∧ X2_wrongByte_b2 kf σ ρ d n (nI p) = some (-1) ∧ wfN (tx μ d sz) sz n p) := by
  have hsz := g.2.2.2.1
  intro n
  induction n with
  | zero => intro p h1 h2; omega
  | succ n ih =>
    intro p h1 h2
    rw [C_wrongByte_st g (by omega)]
    unfold wfN erN
    cases he : errP (tx μ d sz) p with
    | some e => exact Or.inl ⟨e, rfl, by have := errP_le he; omega, rfl⟩
    | none =>
      dsimp only
      by_cases c : p + dgN (tx μ d sz p) + 2 < sz
      · rw [if_pos c, if_pos c]
        rcases ih (p + dgN (tx μ d sz p) + 2) (by omega) (by omega) with q | ⟨q1, q2, q3⟩
        · exact Or.inl q
        · exact Or.inr ⟨q1, q2, rfl, fun _ => q3⟩
      · rw [if_neg c, if_neg c]
        exact Or.inr ⟨rfl, rfl, rfl, fun q => absurd q c⟩
theorem neF : ∀ e, e < 200 → ¬ ((-1000 : Int32) - nI e = 0) := by decide +kernel
theorem neF2 : ∀ e, e < 200 → ¬ ((-2000 : Int32) - nI e = 0) := by decide +kernel
section RR2
variable {μ : IM} {d sz : Nat}
theorem R_form (h : TB μ d sz) : ∀ (n p c : Nat) (ν : IM), p ≤ 100 → 101 ≤ n + p → ν 12 = μ 12 → PS ν d sz p → (∃ e c' ν', erN (tx μ d sz) sz n p = some e ∧ e ≤ 110 ∧ X12_court_b41 n (nI c) 0 ν = X12_court_b77 (nI c') (-1000 - nI e) ν' ∧ RF ν ν') ∨ (erN (tx μ d sz) sz n p = none ∧ ∃ ν', X12_court_b41 n (nI c) 0 ν = X12_court_b77 (nI (c + stN (tx μ d sz) sz n p)) 0 ν' ∧ RF ν ν') := by
  have hsz := h.2.1
  intro n
  induction n with
  | zero => intro p c ν h1 h2; omega
  | succ n ih =>
    intro p c ν h1 h2 e hp
    have h3 := dgN_le (tx μ d sz p)
    show (∃ e c' ν', _ ∧ _ ∧ X12_court_s41 (X12_court_b41 n) (nI c) 0 ν = _ ∧ _) ∨ (_ ∧ ∃ ν', X12_court_s41 (X12_court_b41 n) (nI c) 0 ν = _ ∧ _)
    unfold X12_court_s41 X12_court_b58 erN stN
    rcases R_st h e hp (by omega) with ⟨a, ν1, b1, b2, b3, b4⟩ | ⟨q, ν1, a, b1, b2, b3⟩
    · have e1 : ν1 12 = μ 12 := by rw [b4.1 12 (by omega) (by omega), e]
      rw [b1, bd2_s, if_neg n10, a, bd_e, nI_1, if_pos rfl, b2.2.1, b2.2.2]
      dsimp only
      by_cases q : p + dgN (tx μ d sz p) + 2 < sz
      · rw [if_pos q, if_pos (nI_lt q (by omega)), if_pos q]
        rcases ih (p + dgN (tx μ d sz p) + 2) (c + 1) ν1 (by omega) (by omega) e1 b2 with ⟨e', c', ν', y1, y0, y2, y3⟩ | ⟨y1, ν', y2, y3⟩
        · exact Or.inl ⟨e', c', ν', y1, y0, y2, b4.tr y3⟩
        · exact Or.inr ⟨y1, ν', by rw [y2, Nat.add_assoc], b4.tr y3⟩
      · rw [if_neg q, if_neg (nI_nlt (by omega) (by omega)), if_neg q]
        exact Or.inr ⟨rfl, ν1, rfl, b4⟩
    · have hq := errP_le a
      rw [b1, bd2_s, if_pos rfl, a, b2.2.2, bd_e, bd_e, nI_1, if_neg (neF q (by omega))]
      exact Or.inl ⟨q, c + 1, ν1, rfl, by omega, rfl, b3⟩
/-- the rest, while a text is done: s, was and gone change -/
def GF (μ ν : IM) : Prop := (∀ i, i ≠ 0 → i ≠ 1 → i ≠ 4 → i ≠ 5 → i ≠ 6 → ν i = μ i) ∧ ∀ k, k ≠ 6 → ν 0 k = μ 0 k
theorem R_run (h : TB μ d sz) {f : Nat → Nat} {c : Nat} (hIf : Inv f) : ∀ (n p : Nat) (g : Nat → Nat) (ν : IM), p < sz → 101 ≤ n + p → GF μ ν → PS ν d sz p → wfN (tx μ d sz) sz n p → RA (ν 1) g → RA (ν 4) f → Inv g → Bnd g → ∃ ν', X12_court_b93 (n + 1) (nI c) 0 ν = some (match (runF (tx μ d sz) sz n p g).1 with | none => nI c | some q => -2000 - nI q, ν') ∧ GF μ ν' ∧ RA (ν' 1) (match (runF (tx μ d sz) sz n p g).1 with | none => (runF (tx μ d sz) sz n p g).2 | some _ => f) := by
  have hsz := h.2.1
  intro n
  induction n with
  | zero => intro p g ν h1 h2; omega
  | succ n ih =>
    intro p g ν h1 h2 gf hp wf hA hF hI hB
    unfold wfN at wf
    obtain ⟨w1, w2⟩ := wf
    have h3 := dgN_le (tx μ d sz p)
    have e12 : ν 12 = μ 12 := gf.1 12 (by omega) (by omega) (by omega) (by omega) (by omega)
    have hh := R_here h e12 hp (by omega)
    obtain ⟨h0, -, -⟩ := errP_ok w1
    have ehx : hxN μ d sz p = tx μ d sz p := by
      have lt : ∀ m : Nat, 0 < m → m < 128 → tx μ d sz p = nI m → hxN μ d sz p = tx μ d sz p := fun m h0 hm q => ((hx_eq h h0 hm p).mpr q).trans q.symm
      rcases letters h0 with ⟨l, -⟩ | ⟨l, -⟩ | ⟨l, -⟩ | ⟨l, -⟩ | ⟨l, -⟩ | ⟨l, -⟩ | ⟨l, -⟩ | ⟨l, -⟩
      · exact lt 98 (by omega) (by omega) l
      · exact lt 100 (by omega) (by omega) l
      · exact lt 102 (by omega) (by omega) l
      · exact lt 104 (by omega) (by omega) l
      · exact lt 108 (by omega) (by omega) l
      · exact lt 112 (by omega) (by omega) l
      · exact lt 116 (by omega) (by omega) l
      · exact lt 120 (by omega) (by omega) l
    have stop : ∀ (m : Nat) (r : Int32) (ξ : IM), r ≠ 0 → X12_court_b93 (m + 1) (nI c) r ξ = some (r, ξ) := by
      intro m r ξ hr
      show X12_court_s93 _ (nI c) r ξ = _
      unfold X12_court_s93 X12_court_b161
      rw [if_neg hr, if_neg hr]
    show ∃ ν', X12_court_s93 (X12_court_b93 (n + 1)) (nI c) 0 ν = _ ∧ _
    unfold X12_court_s93 runF
    rw [if_pos rfl, hp.2.1, hp.2.2, if_neg (nI_ge h1 (by omega)), bd_e, hh, bd1_s, ehx]
    rcases R_st h e12 hp (by omega) with ⟨a, ν1, b1, b2, b3, b4⟩ | ⟨q, ν1, a, -⟩
    · have hA1 : RA (ν1 1) g := by rw [b4.1 1 (by omega) (by omega)]; exact hA
      have hF1 : RA (ν1 4) f := by rw [b4.1 4 (by omega) (by omega)]; exact hF
      have gf1 : GF μ ν1 := ⟨fun i a1 a2 a3 a4 a5 => (b4.1 i a1 a5).trans (gf.1 i a1 a2 a3 a4 a5), fun k hk => (b4.2 k hk).trans (gf.2 k hk)⟩
      rw [b1, bd2_s]
      rcases R_done w1 b3 hA1 hI hB with ⟨g', ν2, c1, c2, c3, c4⟩ | ⟨c1, c2⟩
      · have gf2 : GF μ ν2 := ⟨fun i a1 a2 a3 a4 a5 => (c4 i a2 a4).trans (gf1.1 i a1 a2 a3 a4 a5), fun k hk => by rw [c4 0 (by omega) (by omega)]; exact gf1.2 k hk⟩
        have ps2 : PS ν2 d sz (p + dgN (tx μ d sz p) + 2) := by
          unfold PS
          rw [c4 0 (by omega) (by omega)]
          exact b2
        obtain ⟨ok1, ok2⟩ := tellF_ok w1 hI hB c1
        rw [c2, bd2_s, if_neg n10, c1]
        dsimp only [bd_e]
        by_cases q : p + dgN (tx μ d sz p) + 2 < sz
        · rw [if_pos q]
          exact ih (p + dgN (tx μ d sz p) + 2) g' ν2 q (by omega) gf2 ps2 (w2 q) c3 (by rw [c4 4 (by omega) (by omega)]; exact hF1) ok1 ok2
        · rw [if_neg q]
          refine ⟨ν2, ?_, gf2, c3⟩
          show X12_court_s93 _ (nI c) 0 ν2 = _
          unfold X12_court_s93 X12_court_b161
          rw [if_pos rfl, ps2.2.1, ps2.2.2, if_pos (nI_le (by omega) (by omega)), if_pos rfl]
      · obtain ⟨ν3, x1, x2, x3⟩ := R_copies (μ := ν1) (r0 := 4) (r1 := 1) (by omega)
        rw [c2, bd2_s, if_pos rfl, c1, bd_e, x1, bd1_s]
        refine ⟨ν3, stop _ _ _ (neF2 p (by omega)), ⟨fun i a1 a2 a3 a4 a5 => (x2 i a2).trans (gf1.1 i a1 a2 a3 a4 a5), fun k hk => by rw [x2 0 (by omega)]; exact gf1.2 k hk⟩, ?_⟩
        exact hF1.eq x3
    · rw [w1] at a
      cases a
end RR2
/-! ours, letter by letter -/
def TellC (kf : KF) (o : Option (Nat → Nat)) (τ : IM) (ω : RM) (x : Option (Int32 × IM × RM)) : Prop := ∃ r τ' ω', x = some (r, τ', ω') ∧ FC τ ω τ' ω' ∧ ((∃ g', o = some g' ∧ ¬ r < 0 ∧ MC τ' ω' kf g') ∨ (o = none ∧ r < 0))
theorem FC.up {τ : IM} {ω : RM} {i k : Nat} {v : Int32} (h1 : 10 ≤ i) (h2 : i < 18) : FC τ ω (up2 τ i k v) ω := ⟨fun j l1 l2 => up2_o (by omega), fun j l1 l2 => up2_o (by omega), by rw [up2_o (by omega)], fun _ _ => rfl⟩
section TC
variable {t : Nat → Int32} {p : Nat} {τ : IM} {ω : RM} {kf : KF} {g : Nat → Nat}
theorem digN {v : Int32} (h : IsD v) : v - 48 = nI (dvN v) := by
  have := (dvN_lt h).2
  rw [this, show (48 : Int32) = nI 48 from rfl, nI_sub (by omega)]
  have e : dvN (nI (48 + dvN v)) = dvN v := by rw [← this]
  rw [e]
  congr 1
  omega
theorem isBN {a n : Nat} (ha : a < 1000) (hn : n < 1000) : X11_isBelow (nI a) (nI n) = some (if a < n then 1 else 0) := C_isBelow (by omega) (by omega)
theorem nn {a : Nat} (h : a < 1000) : ¬ nI a < 0 := nI_pos (by omega)
theorem T_112 (l : t p = 112) (hM : MC τ ω kf g) (hI : Inv g) (d1 : dvN (t (p + 1)) < 10) (d2 : dvN (t (p + 2)) < 10) (d3 : dvN (t (p + 3)) < 10) : TellC kf (tellF t p g) τ ω (X1_standAt kf τ ω 10 (nI (dvN (t (p + 1)))) (nI (dvN (t (p + 2)))) (nI (dvN (t (p + 3))))) := by
  rw [tell112 l]
  generalize dvN (t (p + 1)) = a at *
  generalize dvN (t (p + 2)) = b at *
  generalize dvN (t (p + 3)) = c at *
  unfold X1_standAt
  rw [show X11_isBelow (nI a) 4 = _ from isBN (n := 4) (by omega) (by omega), bd1_s]
  by_cases c1 : a < 4
  · rw [if_pos c1, if_neg n10, show X11_isBelow (nI b) 9 = _ from isBN (n := 9) (by omega) (by omega), bd1_s]
    by_cases c2 : b < 9
    · rw [if_pos c2, if_neg n10]
      by_cases c3 : 1 ≤ c ∧ c ≤ 4
      · have ip := hI.2.2.2.2.1 a c1
        rw [if_pos ⟨c1, c2, c3⟩, if_neg (show ¬ nI c < 1 from nI_nlt (b := 1) c3.1 (by omega)), if_pos (show nI c ≤ 4 from nI_le (b := 4) c3.2 (by omega))]
        simp (disch := omega) only [rdN, wrN]
        rw [hM.1.at c1]
        exact ⟨_, _, _, rfl, (FC.up (by omega) (by omega)).tr (FC.up (by omega) (by omega)), Or.inl ⟨_, rfl, nn (by have := ip.1; omega), (hM.1.wAt c1).wPace c1, (hM.2.up hI.1 (by omega) (by omega)).up (by rw [fup_o (by omega)]; exact hI.1) (by omega) (by omega)⟩⟩
      · rw [if_neg (fun q => c3 q.2.2)]
        refine ⟨-1, τ, ω, ?_, FC.rf, Or.inr ⟨rfl, by decide⟩⟩
        by_cases c4 : c < 1
        · rw [if_pos (show nI c < 1 from nI_lt (b := 1) c4 (by omega))]
        · rw [if_neg (show ¬ nI c < 1 from nI_nlt (b := 1) (by omega) (by omega)), if_neg (show ¬ nI c ≤ 4 from nI_ge (a := 4) (by omega) (by omega))]
    · rw [if_neg c2, if_pos rfl, if_neg (fun q => c2 q.2.1)]
      exact ⟨-1, τ, ω, rfl, FC.rf, Or.inr ⟨rfl, by decide⟩⟩
  · rw [if_neg c1, if_pos rfl, if_neg (fun q => c1 q.1)]
    exact ⟨-1, τ, ω, rfl, FC.rf, Or.inr ⟨rfl, by decide⟩⟩
theorem T_116 (l : t p = 116) (hM : MC τ ω kf g) (hI : Inv g) (d1 : dvN (t (p + 1)) < 10) (d2 : dvN (t (p + 2)) < 10) (d3 : dvN (t (p + 3)) < 10) : TellC kf (tellF t p g) τ ω (X1_setTired kf τ ω 10 (nI (dvN (t (p + 1)))) (10 * nI (dvN (t (p + 2))) + nI (dvN (t (p + 3))))) := by
  rw [tell116 l]
  generalize dvN (t (p + 1)) = a at *
  generalize dvN (t (p + 2)) = b at *
  generalize dvN (t (p + 3)) = c at *
  unfold X1_setTired
  rw [show (10 : Int32) * nI b + nI c = nI (10 * b + c) by rw [show (10 : Int32) = nI 10 from rfl, pk_mul, nI_add], show X11_isBelow (nI a) 4 = _ from isBN (n := 4) (by omega) (by omega), bd1_s]
  by_cases c1 : a < 4
  · have ip := hI.2.2.2.2.1 a c1
    rw [if_pos c1, if_pos c1, if_neg n10, show X11_isBelow (nI (10 * b + c)) 100 = _ from isBN (n := 100) (by omega) (by omega), bd1_s, if_pos (show 10 * b + c < 100 by omega), if_neg n10]
    simp (disch := omega) only [rdN, wrN]
    rw [hM.1.tired c1]
    exact ⟨_, _, _, rfl, FC.up (by omega) (by omega), Or.inl ⟨_, rfl, nn (by have := ip.2.2.2.1; omega), hM.1.wTired c1, hM.2.up hI.1 (by omega) (by omega)⟩⟩
  · rw [if_neg c1, if_neg c1, if_pos rfl]
    exact ⟨-1, τ, ω, rfl, FC.rf, Or.inr ⟨rfl, by decide⟩⟩
theorem T_108 (l : t p = 108) (hM : MC τ ω kf g) (hI : Inv g) (d1 : dvN (t (p + 1)) < 10) : TellC kf (tellF t p g) τ ω (X1_switchHand kf τ ω 10 (nI (dvN (t (p + 1))))) := by
  rw [tell108 l]
  generalize dvN (t (p + 1)) = a at *
  unfold X1_switchHand
  rw [show X11_isBelow (nI a) 4 = _ from isBN (n := 4) (by omega) (by omega), bd1_s]
  by_cases c1 : a < 4
  · have ip := (hI.2.2.2.2.1 a c1).2.2.2.2
    rw [if_pos c1, if_pos c1, if_neg n10]
    simp (disch := omega) only [rdN, wrN]
    rw [hM.1.left c1, show (1 : Int32) - nI (g (23 + 4 * a)) = nI (1 - g (23 + 4 * a)) from nI_sub ip, up2_ss]
    exact ⟨_, _, _, rfl, FC.up (by omega) (by omega), Or.inl ⟨_, rfl, nn (by omega), hM.1.wLeft c1, hM.2.up hI.1 (by omega) (by omega)⟩⟩
  · rw [if_neg c1, if_neg c1, if_pos rfl]
    exact ⟨-1, τ, ω, rfl, FC.rf, Or.inr ⟨rfl, by decide⟩⟩
theorem T_adopt {a b w : Nat} {o : Option (Nat → Nat)} (hM : MC τ ω kf g) (hI : Inv g) (hw : w < 2) (d1 : a < 10) (d2 : b < 10) (ho : o = if a < 2 ∧ b < (if w = 0 then 2 else 4) then some (fup g (36 + 3 * a + w) b) else none) : TellC kf o τ ω (X1_adopt kf τ ω 10 (nI a) (nI w) (nI b)) := by
  subst ho
  by_cases c1 : a < 2
  · by_cases c2 : b < (if w = 0 then 2 else 4)
    · obtain ⟨x1, x2⟩ := C_adopt (kf := kf) (ρ := ω) hM.1 c1 hw c2
      rw [if_pos ⟨c1, c2⟩, x1]
      have hb : g (36 + 3 * a + w) < 1000 := by
        have := hI.2.2.2.2.2 a c1
        rcases (show w = 0 ∨ w = 1 by omega) with rfl | rfl
        · have := this.1
          rw [Nat.add_zero]
          omega
        · have := this.2
          rw [show 36 + 3 * a + 1 = 37 + 3 * a by omega]
          omega
      exact ⟨_, _, _, rfl, FC.up (by omega) (by omega), Or.inl ⟨_, rfl, nn hb, x2, hM.2.up hI.1 (by omega) (by omega)⟩⟩
    · rw [if_neg (fun q => c2 q.2)]
      refine ⟨-1, τ, ω, ?_, FC.rf, Or.inr ⟨rfl, by decide⟩⟩
      unfold X1_adopt
      have ech : X1_choices (nI w) = some (nI (if w = 0 then 2 else 4)) := by
        rcases (show w = 0 ∨ w = 1 by omega) with rfl | rfl <;> rfl
      rw [show X11_isBelow (nI a) 2 = _ from isBN (n := 2) (by omega) (by omega), bd1_s, if_pos c1, if_neg n10, show X11_isBelow (nI w) 2 = _ from isBN (n := 2) (by omega) (by omega), bd1_s, if_pos hw, if_neg n10, ech, bd1_s, isBN (by omega) (by split <;> omega), if_neg c2, bd1_s, if_pos rfl]
  · rw [if_neg (fun q => c1 q.1)]
    refine ⟨-1, τ, ω, ?_, FC.rf, Or.inr ⟨rfl, by decide⟩⟩
    unfold X1_adopt
    rw [show X11_isBelow (nI a) 2 = _ from isBN (n := 2) (by omega) (by omega), bd1_s, if_neg c1, if_pos rfl]
theorem T_100 (l : t p = 100) (hM : MC τ ω kf g) (hI : Inv g) (d1 : dvN (t (p + 1)) < 10) : TellC kf (tellF t p g) τ ω (X1_setDraught kf τ ω 10 (nI (dvN (t (p + 1))))) := by
  rw [tell100 l]
  generalize dvN (t (p + 1)) = a at *
  unfold X1_setDraught
  rw [show X11_isBelow (nI a) 3 = _ from isBN (n := 3) (by omega) (by omega), bd1_s]
  by_cases c1 : a < 3
  · rw [if_pos c1, if_pos c1, if_neg n10, bd_e, bd_e, hM.1.draught, show nI (g 3) - 1 + 1 = nI (g 3) from Int32.sub_add_cancel _ _]
    exact ⟨_, _, _, rfl, FC.up (by omega) (by omega), Or.inl ⟨_, rfl, nn (by have := hI.2.2.1; omega), hM.1.wDraught, hM.2.up hI.1 (by omega) (by omega)⟩⟩
  · rw [if_neg c1, if_neg c1, if_pos rfl]
    exact ⟨-1, τ, ω, rfl, FC.rf, Or.inr ⟨rfl, by decide⟩⟩
theorem T_120 (l : t p = 120) (hM : MC τ ω kf g) (hI : Inv g) (hB : Bnd g) (d1 : dvN (t (p + 1)) < 10) (d2 : dvN (t (p + 2)) < 10) : (∃ g' v τ', tellF t p g = some g' ∧ X1_hitRefusal kf τ ω 10 (nI (dvN (t (p + 1)))) (nI (dvN (t (p + 2)))) = some 0 ∧ X1_strike kf τ ω 10 (nI (dvN (t (p + 1)))) (nI (dvN (t (p + 2)))) = some (v, τ', ω) ∧ MC τ' ω kf g' ∧ FC τ ω τ' ω) ∨ (tellF t p g = none ∧ ∃ r, r ≠ 0 ∧ r < 0 ∧ X1_hitRefusal kf τ ω 10 (nI (dvN (t (p + 1)))) (nI (dvN (t (p + 2)))) = some r) := by
  rw [tell120 l]
  generalize dvN (t (p + 1)) = a at *
  generalize dvN (t (p + 2)) = b at *
  have hN := hI.1
  have eh : X1_isHit kf τ ω 10 (nI a) (nI b) = some (if a < g 0 ∧ b < 9 then 1 else 0) := by
    unfold X1_isHit X1_knows
    rw [hM.1.known, isBN (by omega) (by omega), bd1_s]
    by_cases c1 : a < g 0
    · rw [if_pos c1, bz1, bd1_s, if_neg n10, show X11_isBelow (nI b) 9 = _ from isBN (n := 9) (by omega) (by omega), bd1_s]
      by_cases c2 : b < 9
      · rw [if_pos c2, if_neg n10, if_pos ⟨c1, c2⟩]
      · rw [if_neg c2, if_pos rfl, if_neg (fun q => c2 q.2)]
    · rw [if_neg c1, bz0, bd1_s, if_pos rfl, if_neg (fun q => c1 q.1)]
  unfold X1_hitRefusal X1_hitRefusal_b43 X1_hitRefusal_b48
  have p0 : τ (10 + 7) 0 = nI (g 38) := hM.1.points (s := 0) (by omega)
  have p1 : τ (10 + 7) 1 = nI (g 41) := hM.1.points (s := 1) (by omega)
  rw [eh, bd1_s, hM.1.hits, rd2_0, rd2_1, p0, p1]
  by_cases c : a < g 0 ∧ b < 9
  · rw [if_pos c, if_neg n10]
    by_cases o1 : 999 ≤ g 1
    · rw [if_pos (show (999 : Int32) ≤ nI (g 1) from nI_le (a := 999) o1 (by omega)), if_neg (show ¬ (a < g 0 ∧ b < 9 ∧ g 1 < 999 ∧ g 38 < 99 ∧ g 41 < 99) by omega)]
      exact Or.inr ⟨rfl, -3, by decide, by decide, rfl⟩
    · rw [if_neg (show ¬ (999 : Int32) ≤ nI (g 1) from nI_ge (b := 999) (by omega) (by omega))]
      by_cases o2 : 99 ≤ g 38
      · rw [if_pos (show (99 : Int32) ≤ nI (g 38) from nI_le (a := 99) o2 (by omega)), if_neg (show ¬ (a < g 0 ∧ b < 9 ∧ g 1 < 999 ∧ g 38 < 99 ∧ g 41 < 99) by omega)]
        exact Or.inr ⟨rfl, -3, by decide, by decide, rfl⟩
      · rw [if_neg (show ¬ (99 : Int32) ≤ nI (g 38) from nI_ge (b := 99) (by omega) (by omega))]
        by_cases o3 : g 41 < 99
        · rw [if_pos (show nI (g 41) < (99 : Int32) from nI_lt (b := 99) o3 (by omega)), if_pos ⟨c.1, c.2, by omega, by omega, o3⟩]
          obtain ⟨τ', b2, m2, g2, -⟩ := M_strike (k := a) (x := b) hM hI c.1 c.2
          exact Or.inl ⟨_, _, τ', rfl, rfl, b2, m2, g2⟩
        · rw [if_neg (show ¬ nI (g 41) < (99 : Int32) from nI_nlt (b := 99) (by omega) (by omega)), if_neg (show ¬ (a < g 0 ∧ b < 9 ∧ g 1 < 999 ∧ g 38 < 99 ∧ g 41 < 99) by omega)]
          exact Or.inr ⟨rfl, -3, by decide, by decide, rfl⟩
  · rw [if_neg c, if_pos rfl, if_neg (fun q => c ⟨q.1, q.2.1⟩)]
    exact Or.inr ⟨rfl, -1, by decide, by decide, rfl⟩
theorem T_98 (l : t p = 98) {q : Nat} (hM : MC τ ω kf g) (hI : Inv g) (d1 : dvN (t (p + 1)) < 8) (hq : kf q = some (dvN (t (p + 1)), nI (dvN (t (p + 2))))) : TellC kf (tellF t p g) τ ω (X1_learn kf τ ω 10 q) := by
  rw [tell98 l]
  generalize dvN (t (p + 1)) = a at *
  generalize dvN (t (p + 2)) = b at *
  have hN := hI.1
  by_cases c : g 0 < 8
  · obtain ⟨x1, x2, x3⟩ := C_learn hM.1 hM.2 c hq
    rw [if_pos ⟨d1, c⟩, x1]
    exact ⟨_, _, _, rfl, ⟨fun j l1 l2 => up2_o (by omega), fun j l1 l2 => up2_o (by omega), by rw [up2_o (by omega)], fun j hj => upr_o hj⟩, Or.inl ⟨_, rfl, nn (by omega), x2, x3⟩⟩
  · rw [if_neg (fun q => c q.2)]
    refine ⟨-2, τ, ω, ?_, FC.rf, Or.inr ⟨rfl, by decide⟩⟩
    unfold X1_learn
    rw [hM.1.known, if_neg (show ¬ nI (g 0) < (8 : Int32) from nI_nlt (b := 8) (by omega) (by omega))]
end TC
/-! the whole text, by the reference -/
theorem tx_0 {μ : IM} {d sz i : Nat} (h : sz ≤ i) : tx μ d sz i = 0 := by
  unfold tx
  rw [if_neg (by omega)]
theorem R_courtE {σ : IM} {ρ : RM} {kf : KF} {μ : IM} {f : Nat → Nat} (hf : Now σ ρ kf μ f) {d sz : Nat} (g : ShR σ ρ μ d 0 sz) (hd : d < 8) : (∃ e μ', erN (tx μ d sz) sz 200 0 = some e ∧ e ≤ 110 ∧ X12_court μ (nI d) = some (-1000 - nI e, μ') ∧ FR μ μ') ∨ (erN (tx μ d sz) sz 200 0 = none ∧ (0 < sz → wfN (tx μ d sz) sz 200 0 → ∃ μ', X12_court μ (nI d) = some (match (runF (tx μ d sz) sz 200 0 f).1 with | none => nI (stN (tx μ d sz) sz 200 0) | some q => -2000 - nI q, μ') ∧ KR μ μ' ∧ RA (μ' 1) (match (runF (tx μ d sz) sz 200 0 f).1 with | none => (runF (tx μ d sz) sz 200 0 f).2 | some _ => f))) := by
  obtain ⟨g1, g2, g3, g4, g5, g6, g7, g8, g9, gb⟩ := g
  have tb : TB μ d sz := ⟨hd, g4, fun i hi => gb rfl i hi⟩
  have hA := hf.2.2.2.2
  obtain ⟨ν, eν⟩ : ∃ z, z = up2 (up2 (up2 μ 0 7 (nI (100 * d))) 0 8 (nI sz)) 0 6 (nI 0) := ⟨_, rfl⟩
  have s0 : X12_court μ (nI d) = X12_court_b41 1000 (nI 0) 0 ν := by
    unfold X12_court
    rw [wR hd _ g1, if_neg (by decide), if_pos rfl, if_neg (by decide), g6, if_pos (show nI 0 = 0 from rfl), bd1_s, if_pos rfl, bd_e, rdN hd (by omega), up2_o (by omega), g8, bd_e, bd_e, eν, show (100 : Int32) * nI d = nI (100 * d) from pk_mul 100 d]
    rfl
  have on : ∀ i, i ≠ 0 → ν i = μ i := fun i hi => by rw [eν, up2_o hi, up2_o hi, up2_o hi]
  have ps : PS ν d sz 0 := by
    rw [eν]
    exact ⟨by rw [up2_oo (by omega), up2_oo (by omega), up2_ss], by rw [up2_oo (by omega), up2_ss], up2_ss⟩
  have o5 : ν 0 5 = μ 0 5 := by rw [eν, up2_oo (by omega), up2_oo (by omega), up2_oo (by omega)]
  have stepB : ∀ n p, 101 ≤ n + p → p ≤ 100 → erN (tx μ d sz) sz (n + 1) p = erN (tx μ d sz) sz n p ∧ stN (tx μ d sz) sz (n + 1) p = stN (tx μ d sz) sz n p := by
    intro n
    induction n with
    | zero => intro p a b; omega
    | succ n ih =>
      intro p a b
      have h3 := dgN_le (tx μ d sz p)
      have e1 : ∀ m, erN (tx μ d sz) sz (m + 1) p = (match errP (tx μ d sz) p with | some e => some e | none => if p + dgN (tx μ d sz p) + 2 < sz then erN (tx μ d sz) sz m (p + dgN (tx μ d sz p) + 2) else none) := fun m => rfl
      have e2 : ∀ m, stN (tx μ d sz) sz (m + 1) p = 1 + (if p + dgN (tx μ d sz p) + 2 < sz then stN (tx μ d sz) sz m (p + dgN (tx μ d sz p) + 2) else 0) := fun m => rfl
      rw [e1 (n + 1), e1 n, e2 (n + 1), e2 n]
      by_cases c : p + dgN (tx μ d sz p) + 2 < sz
      · rw [if_pos c, if_pos c, if_pos c, if_pos c, (ih _ (by omega) (by omega)).1, (ih _ (by omega) (by omega)).2]
        exact ⟨rfl, rfl⟩
      · rw [if_neg c, if_neg c, if_neg c, if_neg c]
        exact ⟨rfl, rfl⟩
  have same : ∀ n, 200 ≤ n → erN (tx μ d sz) sz n 0 = erN (tx μ d sz) sz 200 0 ∧ stN (tx μ d sz) sz n 0 = stN (tx μ d sz) sz 200 0 := by
    intro n
    induction n with
    | zero => intro h; omega
    | succ n ih =>
      intro h
      by_cases c : n + 1 = 200
      · rw [c]
        exact ⟨rfl, rfl⟩
      · obtain ⟨i1, i2⟩ := ih (by omega)
        obtain ⟨j1, j2⟩ := stepB n 0 (by omega) (by omega)
        exact ⟨j1.trans i1, j2.trans i2⟩
  rw [s0]
  rcases R_form tb 1000 0 0 ν (by omega) (by omega) (on 12 (by omega)) ps with ⟨e, c', ν1, a1, a0, a2, a3⟩ | ⟨a1, ν1, a2, a3⟩
  · rw [(same 1000 (by omega)).1] at a1
    refine Or.inl ⟨e, ?_⟩
    obtain ⟨ν2, b1, b2, b3⟩ := R_copies (μ := ν1) (r0 := 1) (r1 := 4) (by omega)
    refine ⟨up2 ν2 0 6 0, a1, a0, ?_, ?_⟩
    · rw [a2]
      unfold X12_court_b77
      rw [b1, bd1_s, bd_e]
      show X12_court_s93 _ (nI c') (-1000 - nI e) _ = _
      unfold X12_court_s93 X12_court_b161
      rw [if_neg (neF e (by omega)), if_neg (neF e (by omega))]
    · have o : ∀ i, i ≠ 0 → i ≠ 4 → i ≠ 6 → up2 ν2 0 6 0 i = μ i := fun i x y z => by rw [up2_o x, b2 i y, a3.1 i x z, on i x]
      exact ⟨o 1 (by omega) (by omega) (by omega), o 3 (by omega) (by omega) (by omega), fun i hi => o i (by omega) (by omega) (by omega), by rw [up2_oo (by omega), b2 0 (by omega), a3.2 5 (by omega), o5]⟩
  · rw [(same 1000 (by omega)).1] at a1
    rw [(same 1000 (by omega)).2] at a2
    refine Or.inr ⟨a1, fun hsz wf => ?_⟩
    obtain ⟨ν2, b1, b2, b3⟩ := R_copies (μ := ν1) (r0 := 1) (r1 := 4) (by omega)
    have hA1 : RA (ν1 1) f := by rw [a3.1 1 (by omega) (by omega), on 1 (by omega)]; exact hA
    obtain ⟨ξ, eξ⟩ : ∃ z, z = up2 ν2 0 6 (nI 0) := ⟨_, rfl⟩
    have oξ : ∀ i, i ≠ 0 → i ≠ 4 → i ≠ 6 → ξ i = ν i := fun i x y z => by rw [eξ, up2_o x, b2 i y, a3.1 i x z]
    have o0 : ∀ k, k ≠ 6 → ξ 0 k = ν 0 k := fun k hk => by rw [eξ, up2_oo (Or.inr hk), b2 0 (by omega), a3.2 k hk]
    have gf : GF ν ξ := ⟨fun i x1 x2 x3 x4 x5 => oξ i x1 x3 x5, o0⟩
    have psx : PS ξ d sz 0 := ⟨by rw [o0 7 (by omega)]; exact ps.1, by rw [o0 8 (by omega)]; exact ps.2.1, by rw [eξ, up2_ss]⟩
    have etx : tx ν d sz = tx μ d sz := by
      funext i
      unfold tx
      rw [on 12 (by omega)]
    have tb' : TB ν d sz := ⟨tb.1, tb.2.1, fun i hi => by rw [on 12 (by omega)]; exact tb.2.2 i hi⟩
    have big : ∀ m, 200 ≤ m → wfN (tx μ d sz) sz m 0 ∧ runF (tx μ d sz) sz m 0 f = runF (tx μ d sz) sz 200 0 f := by
      have stepW : ∀ n p g, 101 ≤ n + p → p ≤ 100 → wfN (tx μ d sz) sz n p → wfN (tx μ d sz) sz (n + 1) p ∧ runF (tx μ d sz) sz (n + 1) p g = runF (tx μ d sz) sz n p g := by
        intro n
        induction n with
        | zero => intro p g a b; omega
        | succ n ih =>
          intro p g a b w
          have h3 := dgN_le (tx μ d sz p)
          have e1 : ∀ m, wfN (tx μ d sz) sz (m + 1) p = (errP (tx μ d sz) p = none ∧ (p + dgN (tx μ d sz p) + 2 < sz → wfN (tx μ d sz) sz m (p + dgN (tx μ d sz p) + 2))) := fun m => rfl
          have e2 : ∀ m, runF (tx μ d sz) sz (m + 1) p g = (match tellF (tx μ d sz) p g with | none => (some p, g) | some g' => if p + dgN (tx μ d sz p) + 2 < sz then runF (tx μ d sz) sz m (p + dgN (tx μ d sz p) + 2) g' else (none, g')) := fun m => rfl
          rw [e1 n] at w
          rw [e1 (n + 1), e2 (n + 1), e2 n]
          refine ⟨⟨w.1, fun c => (ih _ f (by omega) (by omega) (w.2 c)).1⟩, ?_⟩
          cases tellF (tx μ d sz) p g with
          | none => rfl
          | some g' =>
            dsimp only
            by_cases c : p + dgN (tx μ d sz p) + 2 < sz
            · rw [if_pos c, if_pos c, (ih _ g' (by omega) (by omega) (w.2 c)).2]
            · rw [if_neg c, if_neg c]
      intro m
      induction m with
      | zero => intro h; omega
      | succ m ih =>
        intro h
        by_cases c : m + 1 = 200
        · rw [c]
          exact ⟨wf, rfl⟩
        · obtain ⟨i1, i2⟩ := ih (by omega)
          obtain ⟨j1, j2⟩ := stepW m 0 f (by omega) (by omega) i1
          exact ⟨j1, j2.trans i2⟩
    obtain ⟨w1, w2⟩ := big 999 (by omega)
    obtain ⟨ν3, c1, c2, c3⟩ := R_run tb' (c := stN (tx μ d sz) sz 200 0) (f := f) hf.1 999 0 f ξ hsz (by omega) gf psx (by rw [etx]; exact w1) (by rw [oξ 1 (by omega) (by omega) (by omega), on 1 (by omega)]; exact hA) (by rw [eξ, up2_o (by omega)]; exact hA1.eq b3) hf.1 hf.2.1
    rw [etx, w2] at c1 c3
    refine ⟨ν3, ?_, ?_, c3⟩
    · rw [a2, Nat.zero_add]
      unfold X12_court_b77
      rw [b1, bd1_s, bd_e, show up2 ν2 0 6 0 = ξ from eξ.symm]
      exact c1
    · have o : ∀ i, i ≠ 0 → i ≠ 1 → i ≠ 4 → i ≠ 5 → i ≠ 6 → ν3 i = μ i := fun i x1 x2 x3 x4 x5 => by rw [c2.1 i x1 x2 x3 x4 x5, on i x1]
      exact ⟨o 3 (by omega) (by omega) (by omega) (by omega) (by omega), fun i hi => o i (by omega) (by omega) (by omega) (by omega) (by omega), by rw [c2.2 5 (by omega), o5]⟩
