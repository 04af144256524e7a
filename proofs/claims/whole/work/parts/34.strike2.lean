theorem strq {β : Type} {f : Nat → Option Nat} {n : Nat} {i : Int32} {k : Nat → Option β} {P : Option β → Prop} {j q : Nat} (hi : i = nI j) (hj : j < n) (hn : n < 2147483648) (hv : f j = some q) (h : P (k q)) : P (rq f n i k) := by
  subst hi
  rw [rqN hj hn, hv]
  exact h
theorem st_bz {β : Type} {v : Int32} {k : Option β} {P : Option β → Prop} (hv : v = 0 ∨ v = 1) (h : P k) : P (bz v k) := by
  unfold bz
  rw [if_pos hv]
  exact h
theorem ptB_01 (f : Nat → Nat) (k c : Nat) : nI (ptB f k c) = 0 ∨ nI (ptB f k c) = 1 := by
  unfold ptB
  split
  · exact Or.inr rfl
  · exact Or.inl rfl
theorem C_landing {kf : KF} {σ : IM} {ρ : RM} {c : Nat} {f : Nat → Nat} {k x : Nat} (h : CR σ c f) (hS : SR ρ kf c f) (hI : Inv f) (hk : k < f 0) (hx : x < 9) : X1_landing kf σ ρ c (nI k) (nI x) = some (nI (faN f k x)) := by
  obtain ⟨q, e1, e2⟩ := hS k hk
  obtain ⟨i1, i2⟩ := hI.2.2.2.1 k hk
  have hN := hI.1
  unfold X1_landing
  rw [rqN (by omega) (by omega), e1, bd1_s, h.draught, V_land e2 i1 i2 hx hI.2.2.1, bd1_s]
  rfl
theorem C_scores {kf : KF} {σ : IM} {ρ : RM} {c : Nat} {f : Nat → Nat} {k x : Nat} (h : CR σ c f) (hS : SR ρ kf c f) (hI : Inv f) (hk : k < f 0) (hx : x < 9) : X1_scores kf σ ρ c (nI k) (nI x) = some (nI (ptB f k x)) := by
  obtain ⟨q, e1, e2⟩ := hS k hk
  obtain ⟨i1, i2⟩ := hI.2.2.2.1 k hk
  have hN := hI.1
  have hf : faN f k x < 9 := landN_lt _ i1 _ hI.2.2.1 _ hx
  have ht : tiN f k x < 8 := timeN_lt _ i1 _ i2 _ hf
  unfold X1_scores
  refine st1 (P := fun z => z = some (nI (ptB f k x))) (C_landing h hS hI hk hx) ?_
  refine st1 (P := fun z => z = some (nI (ptB f k x))) (C_claimTo h hI hf) ?_
  refine strq (P := fun z => z = some (nI (ptB f k x))) rfl (by omega) (by omega) e1 ?_
  refine st1 (P := fun z => z = some (nI (ptB f k x))) (V_time e2 i1 i2 hf) ?_
  refine st1 (P := fun z => z = some (nI (ptB f k x))) (C_isMissed h hI hf ht) ?_
  exact st_bz (P := fun z => z = some (nI (ptB f k x))) (ptB_01 f k x) rfl
theorem C_min99 {a : Nat} (h : a < 300) : (if nI a < 99 then nI a else 99) = nI (min 99 a) := by
  show (if nI a < nI 99 then nI a else nI 99) = nI (min 99 a)
  by_cases q : a < 99
  · rw [if_pos ((nI_ltI (by omega) (by omega)).mpr q), Nat.min_eq_right (by omega)]
  · rw [if_neg (fun z => q ((nI_ltI (by omega) (by omega)).mp z)), Nat.min_eq_left (by omega)]
theorem C_weary {kf : KF} {σ : IM} {ρ : RM} {c : Nat} {f : Nat → Nat} {p v : Nat} (h : CR σ c f) (hp : p < 4) (ht : f (22 + 4 * p) ≤ 99) (hv : v < 100) : X1_weary kf σ ρ c (nI p) (nI v) = some (up2 σ (c + 3) p (nI (min 99 (f (22 + 4 * p) + v))), ρ) := by
  unfold X1_weary
  rw [rdN hp (by omega), h.tired hp, nI_add, C_min99 (by omega), bd_e, wrN hp (by omega)]
theorem C_partnerOf : ∀ p, p < 4 → X1_partnerOf (nI p) = some (nI (mateN p)) := by decide +kernel
theorem C_nearer : ∀ a, a < 3 → ∀ b, b < 3 → ∀ s, s < 29 → X1_nearer (nI a) (nI b) (nI s) = some (nI (nearN a b s)) := by decide +kernel
theorem nearN_lt : ∀ a, a < 3 → ∀ b, b < 3 → ∀ s, s < 29 → nearN a b s < 3 ∧ (nearN a b s - a) + (a - nearN a b s) ≤ s := by decide +kernel
theorem C_absd : ∀ a, a < 3 → ∀ b, b < 3 → (if 0 ≤ nI a - nI b then nI a - nI b else 0 - (nI a - nI b)) = nI ((a - b) + (b - a)) := by decide +kernel
theorem C_placeBy {kf : KF} {σ : IM} {ρ : RM} {c : Nat} {f : Nat → Nat} {p : Nat} (h : CR σ c f) (hp : p < 4) (hat : f (20 + 4 * p) < 9) (hfo : f (36 + 3 * (p / 2)) ≤ 1) : X1_placeBy kf σ ρ c (nI p) = some (nI (placeN (f (36 + 3 * (p / 2))) (f (20 + 4 * p)))) := by
  have e : ∀ fo, fo < 2 → ∀ x, x < 9 → (if nI fo = 0 then some (3 + (2 - (rem32 (nI x) 3))) else some ((3 * (2 - (nI x / 3))) + 1)) = some (nI (placeN fo x)) := by decide +kernel
  unfold X1_placeBy
  rw [show (2 : Int32) = nI 2 from rfl, nI_div (by omega) (by omega) (by omega), rdN (by omega) (by omega), h.form (by omega), rdN hp (by omega), rdN hp (by omega), h.at hp]
  exact e (f (36 + 3 * (p / 2))) (by omega) _ hat
theorem C_take {kf : KF} {σ : IM} {ρ : RM} {c : Nat} {f : Nat → Nat} {p x : Nat} (h : CR σ c f) (hp : p < 4) (hat : f (20 + 4 * p) < 9) (hti : f (22 + 4 * p) ≤ 99) (hx : x < 9) : ∃ σ', X1_take kf σ ρ c (nI p) (nI x) = some (σ', ρ) ∧ CR σ' c (fup (fup (tireN f p (wayN (f (20 + 4 * p)) x)) (20 + 4 * p) x) 2 p) ∧ ∀ i, i < c ∨ c + 7 < i → σ' i = σ i := by
  have w := wayN_lt _ hat _ hx
  refine ⟨up2 (up2 (up2 σ (c + 3) p (nI (min 99 (f (22 + 4 * p) + wayN (f (20 + 4 * p)) x)))) (c + 1) p (nI x)) c 9 (nI p), ?_, ?_, ?_⟩
  · unfold X1_take
    rw [rdN hp (by omega), h.at hp, C_way _ hat _ hx, bd1_s, C_weary h hp hti (by omega), bd2_s, wrN hp (by omega)]
    rfl
  · exact ((h.wTired hp).wAt hp).wHas
  · intro i hi
    rw [up2_o (by omega), up2_o (by omega), up2_o (by omega)]
theorem C_sendPartner {kf : KF} {σ : IM} {ρ : RM} {c : Nat} {f : Nat → Nat} {p t : Nat} (h : CR σ c f) (hp : p < 4) (hat : f (20 + 4 * p) < 9) (hao : f (20 + 4 * mateN p) < 9) (hpo : f (21 + 4 * mateN p) ≤ 4) (hto : f (22 + 4 * mateN p) ≤ 99) (hfo : f (36 + 3 * (p / 2)) ≤ 1) (ht : t < 8) : ∃ σ', X1_sendPartner kf σ ρ c (nI p) (nI t) = some (σ', ρ) ∧ CR σ' c (fup f (20 + 4 * mateN p) (towN (f (20 + 4 * mateN p)) (placeN (f (36 + 3 * (p / 2))) (f (20 + 4 * p))) (stepsN t (f (21 + 4 * mateN p)) (f (22 + 4 * mateN p))))) ∧ ∀ i, i < c ∨ c + 7 < i → σ' i = σ i := by
  have hm : mateN p < 4 := by
    unfold mateN
    split <;> omega
  have pl := placeN_lt _ (show f (36 + 3 * (p / 2)) < 2 by omega) _ hat
  have sl : stepsN t (f (21 + 4 * mateN p)) (f (22 + 4 * mateN p)) < 29 := stepsN_lt ht hpo
  obtain ⟨a, ea⟩ : ∃ a, f (20 + 4 * mateN p) = a := ⟨_, rfl⟩
  obtain ⟨b, eb⟩ : ∃ b, placeN (f (36 + 3 * (p / 2))) (f (20 + 4 * p)) = b := ⟨_, rfl⟩
  obtain ⟨s, es⟩ : ∃ s, stepsN t (f (21 + 4 * mateN p)) (f (22 + 4 * mateN p)) = s := ⟨_, rfl⟩
  have hA := h.at hm
  rw [ea] at hA hao ⊢
  rw [eb] at pl ⊢
  rw [es] at sl ⊢
  have n1 := nearN_lt (a % 3) (by omega) (b % 3) (by omega) s sl
  refine ⟨up2 σ (c + 1) (mateN p) (nI (towN a b s)), ?_, h.wAt hm, ?_⟩
  · unfold X1_sendPartner
    refine st1 (P := fun z => z = some (up2 σ (c + 1) (mateN p) (nI (towN a b s)), ρ)) (C_partnerOf p hp) ?_
    refine strd (P := fun z => z = some (up2 σ (c + 1) (mateN p) (nI (towN a b s)), ρ)) rfl hm (by omega) hA ?_
    refine st1 (P := fun z => z = some (up2 σ (c + 1) (mateN p) (nI (towN a b s)), ρ)) ((C_placeBy h hp hat hfo).trans (by rw [eb])) ?_
    refine strd (P := fun z => z = some (up2 σ (c + 1) (mateN p) (nI (towN a b s)), ρ)) rfl hm (by omega) (h.tired hm) ?_
    refine st1 (P := fun z => z = some (up2 σ (c + 1) (mateN p) (nI (towN a b s)), ρ)) ((C_stepsIn h hm hpo ht hto).trans (by rw [es])) ?_
    have r1 : rem32 (nI a) 3 = nI (a % 3) := nI_rem (d := 3) (by omega) (by omega) (by omega)
    have r2 : rem32 (nI b) 3 = nI (b % 3) := nI_rem (d := 3) (by omega) (by omega) (by omega)
    have d1 : nI a / 3 = nI (a / 3) := nI_div (d := 3) (by omega) (by omega) (by omega)
    have d2 : nI b / 3 = nI (b / 3) := nI_div (d := 3) (by omega) (by omega) (by omega)
    rw [r1, r2, d1, d2, C_nearer _ (by omega) _ (by omega) _ sl, bd1_s, C_absd _ n1.1 _ (by omega), bd_e, nI_sub n1.2, bd_e, C_nearer _ (by omega) _ (by omega) _ (by omega), bd1_s, wrN hm (by omega)]
    show some (up2 σ (c + 1) (mateN p) (nI 3 * nI _ + nI _), ρ) = _
    rw [pk_mul, nI_add]
    rfl
  · intro i hi
    rw [up2_o (by omega)]
def StrikePost (σ : IM) (ρ : RM) (c : Nat) (f : Nat → Nat) (k x : Nat) (z : Option (Int32 × IM × RM)) : Prop := ∃ σ', z = some (nI (ptB f k x), σ', ρ) ∧ CR σ' c (hitN f k x) ∧ ∀ i, i < c ∨ c + 7 < i → σ' i = σ i
theorem tire_comm {f : Nat → Nat} {p w x : Nat} : tireN (fup f (20 + 4 * p) x) p w = fup (tireN f p w) (20 + 4 * p) x := by
  funext j
  unfold tireN fup
  by_cases e1 : j = 22 + 4 * p
  · subst e1
    simp
  · by_cases e2 : j = 20 + 4 * p
    · subst e2
      simp
    · simp [e1, e2]
theorem C_strike_b {kf : KF} {σ σ3 : IM} {ρ : RM} {c : Nat} {f : Nat → Nat} {k x : Nat} (hI : Inv f) (hx : faN f k x < 9) (ht : tiN f k x < 8) (h : CR σ3 c (trN f k x)) (o3 : ∀ i, i < c ∨ c + 7 < i → σ3 i = σ i) {z : Nat} (hz : whN f k x ≠ 9 → z = whN f k x) : StrikePost σ ρ c f k x (X1_strike_b100 kf c (nI (faN f k x)) (nI (tiN f k x)) (nI (ptB f k x)) (nI z) σ3 ρ) := by
  have h2 := hI.2.1
  have hP := hI.2.2.2.2.1
  have hS := hI.2.2.2.2.2
  have hsd := sdN_le f
  have hs : sdN f = 1 - f 2 / 2 := rfl
  unfold X1_strike_b100
  by_cases pt : ptN f k x
  · have e2 : trN f k x 2 = f 2 := trN_o h2 (by omega) (by omega)
    have hh := h.has
    rw [e2] at hh
    have hd : (nI (f 2) : Int32) / 2 = nI (f 2 / 2) := nI_div (d := 2) (by omega) (by omega) (by omega)
    refine stf (P := StrikePost σ ρ c f k x) (by rw [show ptB f k x = 1 from pt]; decide) ?_
    rw [hh, hd]
    refine strd (P := StrikePost σ ρ c f k x) rfl (by omega) (by omega) (h.points (s := f 2 / 2) (by omega)) ?_
    refine stwr (P := StrikePost σ ρ c f k x) rfl (by omega) (by omega) (nI_1 _) ?_
    have h4 := h.wPoints (s := f 2 / 2) (v := trN f k x (38 + 3 * (f 2 / 2)) + 1) (by omega)
    have hh4 : up2 σ3 (c + 7) (f 2 / 2) (nI (trN f k x (38 + 3 * (f 2 / 2)) + 1)) c 9 = nI (f 2) := by
      rw [up2_oo (by omega), hh]
    rw [hh4, hd, show (nI (f 2 / 2) : Int32) * 2 = nI (f 2 / 2 * 2) from pk_mul _ 2]
    refine stb (P := StrikePost σ ρ c f k x) rfl ?_
    refine st_bz (P := StrikePost σ ρ c f k x) (ptB_01 f k x) ?_
    refine ⟨_, rfl, ?_, ?_⟩
    · have e : hitN f k x = fup (fup (trN f k x) (38 + 3 * (f 2 / 2)) (trN f k x (38 + 3 * (f 2 / 2)) + 1)) 2 (f 2 / 2 * 2) := by
        unfold hitN
        rw [if_pos pt, show 1 - sdN f = f 2 / 2 by omega, Nat.mul_comm 2]
      rw [e]
      exact h4.wHas
    · intro i hi
      rw [up2_o (by omega), up2_o (by omega), o3 i hi]
  · have np := pt
    rw [ptN_iff] at np
    have hw9 : whN f k x ≠ 9 := fun q => np (Or.inl q)
    rw [hz hw9]
    obtain ⟨p, hp⟩ : ∃ p, whN f k x = p := ⟨_, rfl⟩
    have hw := whoN_or f (sdN f) (faN f k x)
    have hw2 : p = 2 * sdN f ∨ p = 2 * sdN f + 1 := by
      have hp' : whoN f (sdN f) (faN f k x) = p := hp
      rw [hp'] at hw
      omega
    rw [hp] at hw9 ⊢
    have hp4 : p < 4 := by omega
    have hm : mateN p < 4 ∧ mateN p ≠ p ∧ (mateN p = 2 * sdN f ∨ mateN p = 2 * sdN f + 1) := by
      unfold mateN
      split <;> omega
    have ip := hP p hp4
    have io := hP (mateN p) hm.1
    have hpa : (trN f k x) (20 + 4 * p) = f (20 + 4 * p) := trN_o h2 (by omega) (by omega)
    refine stt (P := StrikePost σ ρ c f k x) (by rw [ptB_0 pt]; rfl) ?_
    obtain ⟨σ5, e5, h5, o5⟩ := C_take (kf := kf) (ρ := ρ) (x := faN f k x) h hp4 (by rw [hpa]; exact ip.1) (trN_t hP p hp4) hx
    rw [hpa] at h5
    refine st2 (P := StrikePost σ ρ c f k x) e5 ?_
    obtain ⟨f5, ef5⟩ : ∃ f5, fup (fup (tireN (trN f k x) p (wayN (f (20 + 4 * p)) (faN f k x))) (20 + 4 * p) (faN f k x)) 2 p = f5 := ⟨_, rfl⟩
    rw [ef5] at h5
    have g5 : ∀ j, j ≠ 1 → j ≠ 2 → j ≠ 20 + 4 * p → (j < 22 ∨ 34 < j ∨ j % 4 ≠ 2) → f5 j = f j := fun j q1 q2 q3 q4 => by
      rw [← ef5, fup_o q2, fup_o q3, tireN_o (by omega), trN_o h2 q1 q4]
    have g5t : f5 (22 + 4 * mateN p) = trN f k x (22 + 4 * mateN p) := by
      rw [← ef5, fup_o (by omega), fup_o (by omega), tireN_o (by omega)]
    have g5p : f5 (20 + 4 * p) = faN f k x := by
      rw [← ef5, fup_o (by omega), fup_s]
    have hp2 : p / 2 = sdN f := by omega
    obtain ⟨σ6, e6, h6, o6⟩ := C_sendPartner (kf := kf) (ρ := ρ) (t := tiN f k x) h5 hp4 (by rw [g5p]; exact hx) (by rw [g5 _ (by omega) (by omega) (by omega) (by omega)]; exact io.1) (by rw [g5 _ (by omega) (by omega) (by omega) (by omega)]; exact io.2.2.1) (by rw [g5t]; exact trN_t hP _ hm.1) (by rw [g5 _ (by omega) (by omega) (by omega) (by omega), hp2]; exact (hS _ (by omega)).1) ht
    refine st2 (P := StrikePost σ ρ c f k x) e6 ?_
    refine st_bz (P := StrikePost σ ρ c f k x) (ptB_01 f k x) ?_
    refine ⟨σ6, rfl, ?_, ?_⟩
    · have e : hitN f k x = fup f5 (20 + 4 * mateN p) (towN (f (20 + 4 * mateN p)) (placeN (f (36 + 3 * sdN f)) (faN f k x)) (stepsN (tiN f k x) (f (21 + 4 * mateN p)) (trN f k x (22 + 4 * mateN p)))) := by
        unfold hitN
        rw [if_neg pt, hp, tire_comm, ef5]
      rw [g5t, g5p, hp2, g5 _ (by omega) (by omega) (by omega) (by omega), g5 _ (by omega) (by omega) (by omega) (by omega), g5 _ (by omega) (by omega) (by omega) (by omega)] at h6
      rw [e]
      exact h6
    · intro i hi
      rw [o6 i hi, o5 i hi, o3 i hi]
theorem C_strike {kf : KF} {σ : IM} {ρ : RM} {c : Nat} {f : Nat → Nat} {k x : Nat} (h : CR σ c f) (hSR : SR ρ kf c f) (hI : Inv f) (hk : k < f 0) (hx : x < 9) : StrikePost σ ρ c f k x (X1_strike kf σ ρ c (nI k) (nI x)) := by
  obtain ⟨q, e1, e2⟩ := hSR k hk
  obtain ⟨i1, i2⟩ := hI.2.2.2.1 k hk
  have hN := hI.1
  have h2 := hI.2.1
  have hP := hI.2.2.2.2.1
  have hsd := sdN_le f
  have hf : faN f k x < 9 := landN_lt _ i1 _ hI.2.2.1 _ hx
  have ht : tiN f k x < 8 := timeN_lt _ i1 _ i2 _ hf
  obtain ⟨z1, z2, z3, z4, z5⟩ := hI.sd hsd
  obtain ⟨q1, q2, q3⟩ := clN_who (x := faN f k x) hsd z1 z2 z3 z4 z5 hf
  have hw : whN f k x = (if clN f (sdN f) (faN f k x) = 8 then 2 * sdN f else clN f (sdN f) (faN f k x)) := q1
  have heff := effN_lt _ i1 _ i2
  unfold X1_strike
  refine strq (P := StrikePost σ ρ c f k x) rfl (by omega) (by omega) e1 ?_
  rw [h.draught]
  refine st1 (P := StrikePost σ ρ c f k x) (a := nI (faN f k x)) (V_land e2 i1 i2 hx hI.2.2.1) ?_
  refine st1 (P := StrikePost σ ρ c f k x) (a := nI (tiN f k x)) (V_time e2 i1 i2 hf) ?_
  refine st1 (P := StrikePost σ ρ c f k x) (C_claimTo h hI hf) ?_
  refine st1 (P := StrikePost σ ρ c f k x) (C_isMissed h hI hf ht) ?_
  refine st1 (P := StrikePost σ ρ c f k x) (C_takerBy h h2 (by omega)) ?_
  rw [h.hits, show nI (f 1) + 1 = nI (f 1 + 1) from nI_1 _]
  refine stb (P := StrikePost σ ρ c f k x) rfl ?_
  refine st1 (P := StrikePost σ ρ c f k x) (V_eff e2 i1 i2) ?_
  have h7 := h.wHits (v := f 1 + 1)
  have hh7 : up2 σ c 11 (nI (f 1 + 1)) c 9 = nI (f 2) := by rw [up2_oo (by omega), h.has]
  rw [hh7]
  refine st2 (P := StrikePost σ ρ c f k x) (C_weary h7 h2 (by rw [fup_o (by omega)]; exact (hP _ h2).2.2.2.1) (by omega)) ?_
  have h9 := h7.wTired (p := f 2) (v := min 99 (fup f 1 (f 1 + 1) (22 + 4 * f 2) + effN (f (4 + 2 * k)) (f (5 + 2 * k)))) h2
  have e9 : fup (fup f 1 (f 1 + 1)) (22 + 4 * f 2) (min 99 (fup f 1 (f 1 + 1) (22 + 4 * f 2) + effN (f (4 + 2 * k)) (f (5 + 2 * k)))) = tireN (fup f 1 (f 1 + 1)) (f 2) (effN (f (4 + 2 * k)) (f (5 + 2 * k))) := rfl
  rw [e9] at h9
  have o9 : ∀ i, i < c ∨ c + 7 < i → up2 (up2 σ c 11 (nI (f 1 + 1))) (c + 3) (f 2) (nI (min 99 (fup f 1 (f 1 + 1) (22 + 4 * f 2) + effN (f (4 + 2 * k)) (f (5 + 2 * k))))) i = σ i := fun i hi => by rw [up2_o (by omega), up2_o (by omega)]
  generalize up2 (up2 σ c 11 (nI (f 1 + 1))) (c + 3) (f 2) (nI (min 99 (fup f 1 (f 1 + 1) (22 + 4 * f 2) + effN (f (4 + 2 * k)) (f (5 + 2 * k))))) = σ9 at h9 o9 ⊢
  by_cases c8 : clN f (sdN f) (faN f k x) = 8
  · refine stt (P := StrikePost σ ρ c f k x) (by rw [c8]; rfl) ?_
    rw [if_pos c8] at hw ⊢
    have t9 : ∀ p, p < 4 → tireN (fup f 1 (f 1 + 1)) (f 2) (effN (f (4 + 2 * k)) (f (5 + 2 * k))) (22 + 4 * p) ≤ 99 := fun p hp => tireN_le2 (by rw [fup_o (by omega)]; exact (hP p hp).2.2.2.1)
    refine st2 (P := StrikePost σ ρ c f k x) (C_weary (v := 3) h9 (by omega) (t9 _ (by omega)) (by omega)) ?_
    have h13 := h9.wTired (p := 2 * sdN f) (v := min 99 (tireN (fup f 1 (f 1 + 1)) (f 2) (effN (f (4 + 2 * k)) (f (5 + 2 * k))) (22 + 4 * (2 * sdN f)) + 3)) (by omega)
    refine st1 (P := StrikePost σ ρ c f k x) (C_partnerOf _ (by omega)) ?_
    have em : mateN (2 * sdN f) = 2 * sdN f + 1 := by
      unfold mateN
      rw [if_pos (by omega)]
    rw [em]
    have h13' : CR _ c (tireN (tireN (fup f 1 (f 1 + 1)) (f 2) (effN (f (4 + 2 * k)) (f (5 + 2 * k)))) (2 * sdN f) 3) := h13
    refine st2 (P := StrikePost σ ρ c f k x) (C_weary (v := 3) h13' (by omega) (tireN_le2 (t9 _ (by omega))) (by omega)) ?_
    refine C_strike_b hI hf ht ?_ ?_ (fun _ => hw.symm)
    · unfold trN
      rw [if_pos (q2.mpr c8)]
      exact h13'.wTired (by omega)
    · intro i hi
      rw [up2_o (by omega), up2_o (by omega), o9 i hi]
  · refine stf (P := StrikePost σ ρ c f k x) (show ¬ nI (clN f (sdN f) (faN f k x)) = nI 8 by rw [nI_iff (by omega) (by omega)]; exact c8) ?_
    rw [if_neg c8] at hw ⊢
    refine C_strike_b hI hf ht ?_ o9 (fun _ => hw.symm)
    unfold trN
    rw [if_neg (fun q => c8 (q2.mp q))]
    exact h9
