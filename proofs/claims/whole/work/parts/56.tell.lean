/-! the statements of a text, done one by one -/
theorem dvN_lt {v : Int32} (h : IsD v) : dvN v < 10 ∧ v = nI (48 + dvN v) := by
  rcases isD_or v with ⟨k, hk, e1, e2, -⟩ | ⟨e, -⟩
  · rw [e2]
    exact ⟨hk, e1⟩
  · exact absurd h e
def tellF (t : Nat → Int32) (p : Nat) (g : Nat → Nat) : Option (Nat → Nat) :=
  if t p = 98 then (if dvN (t (p + 1)) < 8 ∧ g 0 < 8 then some (lrN g (dvN (t (p + 1))) (dvN (t (p + 2)))) else none)
  else if t p = 100 then (if dvN (t (p + 1)) < 3 then some (fup g 3 (dvN (t (p + 1)))) else none)
  else if t p = 102 then (if dvN (t (p + 1)) < 2 ∧ dvN (t (p + 2)) < 2 then some (fup g (36 + 3 * dvN (t (p + 1))) (dvN (t (p + 2)))) else none)
  else if t p = 104 then (if dvN (t (p + 1)) < 2 ∧ dvN (t (p + 2)) < 4 then some (fup g (37 + 3 * dvN (t (p + 1))) (dvN (t (p + 2)))) else none)
  else if t p = 108 then (if dvN (t (p + 1)) < 4 then some (fup g (23 + 4 * dvN (t (p + 1))) (1 - g (23 + 4 * dvN (t (p + 1))))) else none)
  else if t p = 112 then (if dvN (t (p + 1)) < 4 ∧ dvN (t (p + 2)) < 9 ∧ 1 ≤ dvN (t (p + 3)) ∧ dvN (t (p + 3)) ≤ 4 then some (fup (fup g (20 + 4 * dvN (t (p + 1))) (dvN (t (p + 2)))) (21 + 4 * dvN (t (p + 1))) (dvN (t (p + 3)))) else none)
  else if t p = 116 then (if dvN (t (p + 1)) < 4 then some (fup g (22 + 4 * dvN (t (p + 1))) (10 * dvN (t (p + 2)) + dvN (t (p + 3)))) else none)
  else (if dvN (t (p + 1)) < g 0 ∧ dvN (t (p + 2)) < 9 ∧ g 1 < 999 ∧ g 38 < 99 ∧ g 41 < 99 then some (hitN g (dvN (t (p + 1))) (dvN (t (p + 2)))) else none)
abbrev Bnd (g : Nat → Nat) : Prop := g 1 ≤ 999 ∧ g 38 ≤ 99 ∧ g 41 ≤ 99
theorem hit_bnd {g : Nat → Nat} (hI : Inv g) {a b : Nat} (h1 : g 1 < 999) (h2 : g 38 < 99) (h3 : g 41 < 99) : Bnd (hitN g a b) := by
  have g1 := hitN_1 (k := a) (c := b) hI.2.1
  have g2 : hitN g a b 38 = _ := hitN_pt (k := a) (c := b) (s := 0) hI.2.1 (by omega)
  have g3 : hitN g a b 41 = _ := hitN_pt (k := a) (c := b) (s := 1) hI.2.1 (by omega)
  refine ⟨by omega, ?_, ?_⟩
  · rw [g2, show 38 + 3 * 0 = 38 from rfl]
    split <;> omega
  · rw [g3, show 38 + 3 * 1 = 41 from rfl]
    split <;> omega
/-- the letters -/
theorem letters {t : Nat → Int32} {p : Nat} (h : 0 < dgN (t p)) : (t p = 98 ∧ dgN (t p) = 2) ∨ (t p = 100 ∧ dgN (t p) = 1) ∨ (t p = 102 ∧ dgN (t p) = 2) ∨ (t p = 104 ∧ dgN (t p) = 2) ∨ (t p = 108 ∧ dgN (t p) = 1) ∨ (t p = 112 ∧ dgN (t p) = 3) ∨ (t p = 116 ∧ dgN (t p) = 3) ∨ (t p = 120 ∧ dgN (t p) = 2) := by
  generalize t p = v at *
  by_cases c98 : v = 98
  · subst c98; exact Or.inl ⟨rfl, rfl⟩
  by_cases c100 : v = 100
  · subst c100; exact Or.inr (Or.inl ⟨rfl, rfl⟩)
  by_cases c102 : v = 102
  · subst c102; exact Or.inr (Or.inr (Or.inl ⟨rfl, rfl⟩))
  by_cases c104 : v = 104
  · subst c104; exact Or.inr (Or.inr (Or.inr (Or.inl ⟨rfl, rfl⟩)))
  by_cases c108 : v = 108
  · subst c108; exact Or.inr (Or.inr (Or.inr (Or.inr (Or.inl ⟨rfl, rfl⟩))))
  by_cases c112 : v = 112
  · subst c112; exact Or.inr (Or.inr (Or.inr (Or.inr (Or.inr (Or.inl ⟨rfl, rfl⟩)))))
  by_cases c116 : v = 116
  · subst c116; exact Or.inr (Or.inr (Or.inr (Or.inr (Or.inr (Or.inr (Or.inl ⟨rfl, rfl⟩))))))
  by_cases c120 : v = 120
  · subst c120; exact Or.inr (Or.inr (Or.inr (Or.inr (Or.inr (Or.inr (Or.inr ⟨rfl, rfl⟩))))))
  · unfold dgN at h
    rw [if_neg c98, if_neg c100, if_neg c102, if_neg c104, if_neg c108, if_neg c112, if_neg c116, if_neg c120] at h
    omega
/-- what a letter does -/
theorem tell98 {t : Nat → Int32} {p : Nat} {g : Nat → Nat} (h : t p = 98) : tellF t p g = if dvN (t (p + 1)) < 8 ∧ g 0 < 8 then some (lrN g (dvN (t (p + 1))) (dvN (t (p + 2)))) else none := by
  unfold tellF
  rw [if_pos h]
theorem tell100 {t : Nat → Int32} {p : Nat} {g : Nat → Nat} (h : t p = 100) : tellF t p g = if dvN (t (p + 1)) < 3 then some (fup g 3 (dvN (t (p + 1)))) else none := by
  unfold tellF
  rw [h, if_neg (by decide), if_pos rfl]
theorem tell102 {t : Nat → Int32} {p : Nat} {g : Nat → Nat} (h : t p = 102) : tellF t p g = if dvN (t (p + 1)) < 2 ∧ dvN (t (p + 2)) < 2 then some (fup g (36 + 3 * dvN (t (p + 1))) (dvN (t (p + 2)))) else none := by
  unfold tellF
  rw [h, if_neg (by decide), if_neg (by decide), if_pos rfl]
theorem tell104 {t : Nat → Int32} {p : Nat} {g : Nat → Nat} (h : t p = 104) : tellF t p g = if dvN (t (p + 1)) < 2 ∧ dvN (t (p + 2)) < 4 then some (fup g (37 + 3 * dvN (t (p + 1))) (dvN (t (p + 2)))) else none := by
  unfold tellF
  rw [h, if_neg (by decide), if_neg (by decide), if_neg (by decide), if_pos rfl]
theorem tell108 {t : Nat → Int32} {p : Nat} {g : Nat → Nat} (h : t p = 108) : tellF t p g = if dvN (t (p + 1)) < 4 then some (fup g (23 + 4 * dvN (t (p + 1))) (1 - g (23 + 4 * dvN (t (p + 1))))) else none := by
  unfold tellF
  rw [h, if_neg (by decide), if_neg (by decide), if_neg (by decide), if_neg (by decide), if_pos rfl]
theorem tell112 {t : Nat → Int32} {p : Nat} {g : Nat → Nat} (h : t p = 112) : tellF t p g = if dvN (t (p + 1)) < 4 ∧ dvN (t (p + 2)) < 9 ∧ 1 ≤ dvN (t (p + 3)) ∧ dvN (t (p + 3)) ≤ 4 then some (fup (fup g (20 + 4 * dvN (t (p + 1))) (dvN (t (p + 2)))) (21 + 4 * dvN (t (p + 1))) (dvN (t (p + 3)))) else none := by
  unfold tellF
  rw [h, if_neg (by decide), if_neg (by decide), if_neg (by decide), if_neg (by decide), if_neg (by decide), if_pos rfl]
theorem tell116 {t : Nat → Int32} {p : Nat} {g : Nat → Nat} (h : t p = 116) : tellF t p g = if dvN (t (p + 1)) < 4 then some (fup g (22 + 4 * dvN (t (p + 1))) (10 * dvN (t (p + 2)) + dvN (t (p + 3)))) else none := by
  unfold tellF
  rw [h, if_neg (by decide), if_neg (by decide), if_neg (by decide), if_neg (by decide), if_neg (by decide), if_neg (by decide), if_pos rfl]
theorem tell120 {t : Nat → Int32} {p : Nat} {g : Nat → Nat} (h : t p = 120) : tellF t p g = if dvN (t (p + 1)) < g 0 ∧ dvN (t (p + 2)) < 9 ∧ g 1 < 999 ∧ g 38 < 99 ∧ g 41 < 99 then some (hitN g (dvN (t (p + 1))) (dvN (t (p + 2)))) else none := by
  unfold tellF
  rw [h, if_neg (by decide), if_neg (by decide), if_neg (by decide), if_neg (by decide), if_neg (by decide), if_neg (by decide), if_neg (by decide)]
theorem tellF_ok {t : Nat → Int32} {p : Nat} {g g' : Nat → Nat} (he : errP t p = none) (hI : Inv g) (hB : Bnd g) (h : tellF t p g = some g') : Inv g' ∧ Bnd g' := by
  obtain ⟨h0, hd, -⟩ := errP_ok he
  rcases letters h0 with ⟨l, dg⟩ | ⟨l, dg⟩ | ⟨l, dg⟩ | ⟨l, dg⟩ | ⟨l, dg⟩ | ⟨l, dg⟩ | ⟨l, dg⟩ | ⟨l, dg⟩
  · rw [tell98 l] at h
    have d2 := dvN_lt (hd 2 (by omega) (by omega))
    split at h
    · rename_i c
      cases h
      exact ⟨lrN_Inv hI c.2 c.1 d2.1, by unfold Bnd; rw [lrN_o (by omega) (by omega) (by omega), lrN_o (by omega) (by have := hI.1; omega) (by have := hI.1; omega), lrN_o (by omega) (by have := hI.1; omega) (by have := hI.1; omega)]; exact hB⟩
    · cases h
  · rw [tell100 l] at h
    split at h
    · rename_i c
      cases h
      exact ⟨hI.up 0 0 (by omega), bdI _ _ _ hB (by omega) (by omega) (by omega)⟩
    · cases h
  · rw [tell102 l] at h
    split at h
    · rename_i c
      cases h
      exact ⟨hI.up 0 (dvN (t (p + 1))) (by omega), bdI _ _ _ hB (by omega) (by omega) (by omega)⟩
    · cases h
  · rw [tell104 l] at h
    split at h
    · rename_i c
      cases h
      exact ⟨hI.up 0 (dvN (t (p + 1))) (by omega), bdI _ _ _ hB (by omega) (by omega) (by omega)⟩
    · cases h
  · rw [tell108 l] at h
    split at h
    · rename_i c
      cases h
      exact ⟨hI.up (dvN (t (p + 1))) 0 (by omega), bdI _ _ _ hB (by omega) (by omega) (by omega)⟩
    · cases h
  · rw [tell112 l] at h
    split at h
    · rename_i c
      cases h
      exact ⟨(hI.up (dvN (t (p + 1))) 0 (by omega)).up (dvN (t (p + 1))) 0 (by omega), bdI _ _ _ (bdI _ _ _ hB (by omega) (by omega) (by omega)) (by omega) (by omega) (by omega)⟩
    · cases h
  · rw [tell116 l] at h
    have d2 := dvN_lt (hd 2 (by omega) (by omega))
    have d3 := dvN_lt (hd 3 (by omega) (by omega))
    split at h
    · rename_i c
      cases h
      exact ⟨hI.up (dvN (t (p + 1))) 0 (by omega), bdI _ _ _ hB (by omega) (by omega) (by omega)⟩
    · cases h
  · rw [tell120 l] at h
    split at h
    · rename_i c
      cases h
      exact ⟨hitN_Inv hI c.1 c.2.1, hit_bnd hI c.2.2.1 c.2.2.2.1 c.2.2.2.2⟩
    · cases h
/-- the reference: a statement done, or not -/
def DoneEnd (o : Option (Nat → Nat)) (ν : IM) (x : Option (Int32 × IM)) : Prop := (∃ g' ν', o = some g' ∧ x = some (1, ν') ∧ RA (ν' 1) g' ∧ ∀ i, i ≠ 1 → i ≠ 5 → ν' i = ν i) ∨ (o = none ∧ x = some (0, ν))
theorem R_over {ν : IM} {g : Nat → Nat} (hA : RA (ν 1) g) (hB : Bnd g) : (X12_isOver ν = some 0 ∧ g 1 < 999 ∧ g 38 < 99 ∧ g 41 < 99) ∨ (X12_isOver ν = some 1 ∧ ¬ (g 1 < 999 ∧ g 38 < 99 ∧ g 41 < 99)) := by
  have a1 := hA.1 1 (by omega) (by omega)
  have a38 := hA.1 38 (by omega) (by omega)
  have a41 := hA.1 41 (by omega) (by omega)
  unfold X12_isOver X12_isOver_b42
  rw [rd42_1, a1, show X12_ofSide 0 2 = some (nI 38) from rfl, bd1_s, rdN (by omega) (by omega), a38, show X12_ofSide 1 2 = some (nI 41) from rfl, bd1_s, rdN (by omega) (by omega), a41]
  simp only [lit32]
  simp (disch := omega) only [nI_iff]
  by_cases c1 : g 1 = 999
  · rw [if_pos c1]
    exact Or.inr ⟨rfl, by omega⟩
  · rw [if_neg c1]
    by_cases c2 : g 38 = 99
    · rw [if_pos c2]
      exact Or.inr ⟨rfl, by omega⟩
    · rw [if_neg c2]
      by_cases c3 : g 41 = 99
      · rw [if_pos c3]
        exact Or.inr ⟨rfl, by omega⟩
      · rw [if_neg c3]
        exact Or.inl ⟨rfl, by omega⟩
theorem isPlN {a : Nat} (ha : a < 1000) : X12_isPlayer (nI a) = some (if a < 4 then 1 else 0) := by
  rcases isPl (nI a) with ⟨p, hp, e, -, q⟩ | ⟨q1, q⟩
  · obtain rfl : a = p := (nI_iff (by omega) (by omega)).mp e
    rw [q, if_pos hp]
  · rw [q, if_neg]
    intro c
    rw [show (4 : Int32) = nI 4 from rfl, C_isBelow (by omega) (by omega), if_pos c] at q1
    cases q1
theorem isCeN {a : Nat} (ha : a < 1000) : X12_isCell (nI a) = some (if a < 9 then 1 else 0) := by
  rcases isCe (nI a) with ⟨p, hp, e, -, q⟩ | ⟨q1, q⟩
  · obtain rfl : a = p := (nI_iff (by omega) (by omega)).mp e
    rw [q, if_pos hp]
  · rw [q, if_neg]
    intro c
    rw [show (9 : Int32) = nI 9 from rfl, C_isBelow (by omega) (by omega), if_pos c] at q1
    cases q1
theorem isPcN {a : Nat} (ha : a < 1000) : X12_isIn (nI a) 1 4 = some (if 1 ≤ a ∧ a ≤ 4 then 1 else 0) := by
  rcases isPc (nI a) with ⟨p, h1, h4, e, -, -, q⟩ | ⟨q1, q⟩
  · obtain rfl : a = p := (nI_iff (by omega) (by omega)).mp e
    rw [q, if_pos ⟨h1, h4⟩]
  · rw [q, if_neg]
    rintro ⟨c1, c2⟩
    rcases q1 with q1 | ⟨-, q1⟩
    · exact nI_nlt (a := a) (b := 1) c1 (by omega) q1
    · exact q1 (nI_le (b := 4) c2 (by omega))
theorem R_done {t : Nat → Int32} {p : Nat} {ν : IM} {g : Nat → Nat} (he : errP t p = none) (hn : numOK t p ν) (hA : RA (ν 1) g) (hI : Inv g) (hB : Bnd g) : DoneEnd (tellF t p g) ν (X12_isDone ν (t p)) := by
  obtain ⟨h0, hd, -⟩ := errP_ok he
  obtain ⟨n0, n116, n2, n112⟩ := hn
  have hN := hI.1
  have a0 := hA.1 0 (by omega) (by omega)
  have d1 := (dvN_lt (hd 1 (by omega) (by omega))).1
  unfold X12_isDone
  rcases letters h0 with ⟨l, dg⟩ | ⟨l, dg⟩ | ⟨l, dg⟩ | ⟨l, dg⟩ | ⟨l, dg⟩ | ⟨l, dg⟩ | ⟨l, dg⟩ | ⟨l, dg⟩
  · have d2 := (dvN_lt (hd 2 (by omega) (by omega))).1
    have n1 := n2 (by rw [l]; decide) (by omega)
    rw [tell98 l, rd3_0, rd3_1, n0, n1]
    generalize dvN (t (p + 1)) = a at *
    generalize dvN (t (p + 2)) = b at *
    rw [if_pos l, rd42_0, a0]
    by_cases c1 : a < 8
    · rw [if_neg (show ¬ (8 : Int32) ≤ nI a from nI_ge (b := 8) c1 (by omega))]
      by_cases c2 : g 0 < 8
      · obtain ⟨y1, y2⟩ := R_adds (k := a) (fg := b) hA c2
        rw [if_pos ⟨c1, c2⟩, if_neg (show ¬ nI (g 0) = 8 from fun q => by have := (nI_iff (b := 8) (by omega) (by omega)).mp q; omega), y1, bd1_s]
        exact Or.inl ⟨_, _, rfl, rfl, y2, fun i q _ => by rw [up2_o q, up2_o q, up2_o q]⟩
      · rw [if_neg (fun q => c2 q.2), if_pos (show nI (g 0) = 8 by rw [show g 0 = 8 by omega]; rfl)]
        exact Or.inr ⟨rfl, rfl⟩
    · rw [if_neg (fun q => c1 q.1), if_pos (show (8 : Int32) ≤ nI a from nI_le (a := 8) (by omega) (by omega))]
      exact Or.inr ⟨rfl, rfl⟩
  · rw [tell100 l, rd3_0, rd3_1, n0]
    generalize dvN (t (p + 1)) = a at *
    rw [l, if_neg (show ¬ (100 : Int32) = 98 by decide), if_pos (show (100 : Int32) = 100 from rfl)]
    by_cases c1 : a < 3
    · rw [if_pos c1, if_pos (show nI a ≤ 2 from nI_le (b := 2) (by omega) (by omega)), wr42_3]
      exact Or.inl ⟨_, _, rfl, rfl, hA.w3, fun i q _ => up2_o q⟩
    · rw [if_neg c1, if_neg (show ¬ nI a ≤ 2 from nI_ge (a := 2) (by omega) (by omega))]
      exact Or.inr ⟨rfl, rfl⟩
  · have d2 := (dvN_lt (hd 2 (by omega) (by omega))).1
    have n1 := n2 (by rw [l]; decide) (by omega)
    rw [tell102 l, rd3_0, rd3_1, n0, n1]
    generalize dvN (t (p + 1)) = a at *
    generalize dvN (t (p + 2)) = b at *
    rw [l, if_neg (show ¬ (102 : Int32) = 98 by decide), if_neg (show ¬ (102 : Int32) = 100 by decide), if_pos (show (102 : Int32) = 102 from rfl)]
    unfold X12_isDone_b237 X12_isDone_b254 X12_isDone_b275
    by_cases c1 : a < 2
    · rw [if_neg (show ¬ (1 : Int32) < nI a from nI_nlt (a := 1) (by omega) (by omega)), if_pos (show (102 : Int32) = 102 from rfl)]
      by_cases c2 : b < 2
      · rw [if_pos ⟨c1, c2⟩, if_pos (show nI b ≤ 1 from nI_le (b := 1) (by omega) (by omega)), if_pos (show (102 : Int32) = 102 from rfl), show (0 : Int32) = nI 0 from rfl, R_ofSn, bd1_s, wrN (by omega) (by omega)]
        exact Or.inl ⟨_, _, rfl, rfl, hA.w (by omega), fun i q _ => up2_o q⟩
      · rw [if_neg (fun q => c2 q.2), if_neg (show ¬ nI b ≤ 1 from nI_ge (a := 1) (by omega) (by omega))]
        exact Or.inr ⟨rfl, rfl⟩
    · rw [if_neg (fun q => c1 q.1), if_pos (show (1 : Int32) < nI a from nI_lt (a := 1) (by omega) (by omega))]
      exact Or.inr ⟨rfl, rfl⟩
  · have d2 := (dvN_lt (hd 2 (by omega) (by omega))).1
    have n1 := n2 (by rw [l]; decide) (by omega)
    rw [tell104 l, rd3_0, rd3_1, n0, n1]
    generalize dvN (t (p + 1)) = a at *
    generalize dvN (t (p + 2)) = b at *
    rw [l, if_neg (show ¬ (104 : Int32) = 98 by decide), if_neg (show ¬ (104 : Int32) = 100 by decide), if_neg (show ¬ (104 : Int32) = 102 by decide), if_pos (show (104 : Int32) = 104 from rfl)]
    unfold X12_isDone_b237 X12_isDone_b254 X12_isDone_b275
    by_cases c1 : a < 2
    · rw [if_neg (show ¬ (1 : Int32) < nI a from nI_nlt (a := 1) (by omega) (by omega)), if_neg (show ¬ (104 : Int32) = 102 by decide)]
      by_cases c2 : b < 4
      · rw [if_pos ⟨c1, c2⟩, if_pos (show nI b ≤ 3 from nI_le (b := 3) (by omega) (by omega)), if_neg (show ¬ (104 : Int32) = 102 by decide), show (1 : Int32) = nI 1 from rfl, R_ofSn, bd1_s, wrN (by omega) (by omega), show 36 + 3 * a + 1 = 37 + 3 * a by omega]
        exact Or.inl ⟨_, _, rfl, rfl, hA.w (by omega), fun i q _ => up2_o q⟩
      · rw [if_neg (fun q => c2 q.2), if_neg (show ¬ nI b ≤ 3 from nI_ge (a := 3) (by omega) (by omega))]
        exact Or.inr ⟨rfl, rfl⟩
    · rw [if_neg (fun q => c1 q.1), if_pos (show (1 : Int32) < nI a from nI_lt (a := 1) (by omega) (by omega))]
      exact Or.inr ⟨rfl, rfl⟩
  · rw [tell108 l, rd3_0, rd3_1, n0]
    generalize dvN (t (p + 1)) = a at *
    rw [l, if_neg (show ¬ (108 : Int32) = 98 by decide), if_neg (show ¬ (108 : Int32) = 100 by decide), if_neg (show ¬ (108 : Int32) = 102 by decide), if_neg (show ¬ (108 : Int32) = 104 by decide), if_pos (show (108 : Int32) = 108 from rfl), isPlN (by omega), bd1_s]
    by_cases c1 : a < 4
    · have ip := (hI.2.2.2.2.1 a c1).2.2.2.2
      have e2 : nI (g (23 + 4 * a)) ^^^ 1 = nI (1 - g (23 + 4 * a)) := by
        have : ∀ x, x < 2 → nI x ^^^ 1 = nI (1 - x) := by decide +kernel
        exact this _ (by omega)
      rw [if_pos c1, if_pos c1, if_neg n10, R_ofP3, bd1_s, rdN (by omega) (by omega), wrN (by omega) (by omega), hA.1 _ (by omega) (by omega), e2]
      exact Or.inl ⟨_, _, rfl, rfl, hA.w (by omega), fun i q _ => up2_o q⟩
    · rw [if_neg c1, if_neg c1, if_pos rfl]
      exact Or.inr ⟨rfl, rfl⟩
  · have d2 := (dvN_lt (hd 2 (by omega) (by omega))).1
    have d3 := (dvN_lt (hd 3 (by omega) (by omega))).1
    have n1 := n2 (by rw [l]; decide) (by omega)
    have n3 := n112 l
    rw [tell112 l, rd3_0, rd3_1, n0, n1]
    generalize dvN (t (p + 1)) = a at *
    generalize dvN (t (p + 2)) = b at *
    generalize dvN (t (p + 3)) = c at *
    rw [l, if_neg (show ¬ (112 : Int32) = 98 by decide), if_neg (show ¬ (112 : Int32) = 100 by decide), if_neg (show ¬ (112 : Int32) = 102 by decide), if_neg (show ¬ (112 : Int32) = 104 by decide), if_neg (show ¬ (112 : Int32) = 108 by decide), if_pos (show (112 : Int32) = 112 from rfl), isPlN (by omega), bd1_s]
    by_cases c1 : a < 4
    · rw [if_pos c1, if_neg n10, isCeN (by omega), bd1_s]
      by_cases c2 : b < 9
      · rw [if_pos c2, if_neg n10, rd3_2, n3, isPcN (by omega), bd1_s]
        by_cases c3 : 1 ≤ c ∧ c ≤ 4
        · rw [if_pos c3, if_neg n10, if_pos ⟨c1, c2, c3⟩, R_ofP0, bd1_s, wrN (by omega) (by omega), R_ofP1, bd1_s, rd3_2, up2_o (by omega), n3, wrN (by omega) (by omega)]
          exact Or.inl ⟨_, _, rfl, rfl, (hA.w (by omega)).w (by omega), fun i q _ => by rw [up2_o q, up2_o q]⟩
        · rw [if_neg c3, if_pos rfl, if_neg (fun q => c3 q.2.2)]
          exact Or.inr ⟨rfl, rfl⟩
      · rw [if_neg c2, if_pos rfl, if_neg (fun q => c2 q.2.1)]
        exact Or.inr ⟨rfl, rfl⟩
    · rw [if_neg c1, if_pos rfl, if_neg (fun q => c1 q.1)]
      exact Or.inr ⟨rfl, rfl⟩
  · have d2 := (dvN_lt (hd 2 (by omega) (by omega))).1
    have d3 := (dvN_lt (hd 3 (by omega) (by omega))).1
    have n1 := n116 l
    rw [tell116 l, rd3_0, rd3_1, n0, n1]
    generalize dvN (t (p + 1)) = a at *
    generalize dvN (t (p + 2)) = b at *
    generalize dvN (t (p + 3)) = c at *
    rw [l, if_neg (show ¬ (116 : Int32) = 98 by decide), if_neg (show ¬ (116 : Int32) = 100 by decide), if_neg (show ¬ (116 : Int32) = 102 by decide), if_neg (show ¬ (116 : Int32) = 104 by decide), if_neg (show ¬ (116 : Int32) = 108 by decide), if_neg (show ¬ (116 : Int32) = 112 by decide), if_pos (show (116 : Int32) = 116 from rfl), isPlN (by omega), bd1_s]
    by_cases c1 : a < 4
    · rw [if_pos c1, if_pos c1, if_neg n10, R_ofP2, bd1_s, wrN (by omega) (by omega)]
      exact Or.inl ⟨_, _, rfl, rfl, hA.w (by omega), fun i q _ => up2_o q⟩
    · rw [if_neg c1, if_neg c1, if_pos rfl]
      exact Or.inr ⟨rfl, rfl⟩
  · have d2 := (dvN_lt (hd 2 (by omega) (by omega))).1
    have n1 := n2 (by rw [l]; decide) (by omega)
    rw [tell120 l, rd3_0, rd3_1, n0, n1]
    generalize dvN (t (p + 1)) = a at *
    generalize dvN (t (p + 2)) = b at *
    rw [l, if_neg (show ¬ (120 : Int32) = 98 by decide), if_neg (show ¬ (120 : Int32) = 100 by decide), if_neg (show ¬ (120 : Int32) = 102 by decide), if_neg (show ¬ (120 : Int32) = 104 by decide), if_neg (show ¬ (120 : Int32) = 108 by decide), if_neg (show ¬ (120 : Int32) = 112 by decide), if_neg (show ¬ (120 : Int32) = 116 by decide)]
    unfold X12_isDone_b300
    have eS : X12_isStroke ν (nI a) = some (if a < g 0 then 1 else 0) := by
      unfold X12_isStroke
      rw [rd42_0, a0]
      rcases rng (nI a) (g 0) (by omega) with ⟨k, hk, e, q1, q2⟩ | ⟨q1, q2, q3⟩
      · obtain rfl : a = k := (nI_iff (by omega) (by omega)).mp e
        rw [q2, if_pos hk]
        rfl
      · rw [q2, if_neg (fun q => q3 a q rfl)]
        rfl
    rw [eS, bd1_s]
    by_cases c1 : a < g 0
    · rw [if_pos c1, if_neg n10, isCeN (by omega), bd1_s]
      by_cases c2 : b < 9
      · rw [if_pos c2, if_neg n10]
        rcases R_over hA hB with ⟨o1, o2⟩ | ⟨o1, o2⟩
        · obtain ⟨ν', y1, y2, y3, -⟩ := R_hits hA (by omega) hI c1 c2
          rw [o1, bd1_s, if_pos rfl, if_pos ⟨c1, c2, o2⟩, y1, bd2_s]
          exact Or.inl ⟨_, ν', rfl, rfl, y2, fun i q1 q2 => y3 i q1 q2⟩
        · rw [o1, bd1_s, if_neg n10, if_neg (fun q => o2 q.2.2)]
          exact Or.inr ⟨rfl, rfl⟩
      · rw [if_neg c2, if_pos rfl, if_neg (fun q => c2 q.2.1)]
        exact Or.inr ⟨rfl, rfl⟩
    · rw [if_neg c1, if_pos rfl, if_neg (fun q => c1 q.1)]
      exact Or.inr ⟨rfl, rfl⟩
