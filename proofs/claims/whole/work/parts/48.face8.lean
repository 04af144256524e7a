/-! fractions in least terms; draughts by odds -/
theorem nzlN {β : Type} {b : Nat} {k : Option β} (h0 : 0 < b) (hb : b < 2147483648) : nzl (lN b) k = k := by
  unfold nzl
  rw [if_neg]
  intro e
  have := (lN_eq (a := b) (b := 0) (by omega) (by omega)).mp e
  omega
theorem cmp0 {n : Nat} (h : n < 2147483648) : (lg_cmp (lN n) 0 = 0) = (n = 0) := by
  apply propext
  rw [lg_cmp_eq]
  exact lN_eq (a := n) (b := 0) (by omega) (by omega)
theorem rem64N {a b : Nat} (ha : a < 2147483648) (h0 : 0 < b) (hb : b < 2147483648) : rem64 (lN a) (lN b) = lN (a % b) := pk_lRem (by omega) h0 (by omega)
theorem C_gcd_end {b : Nat} (hb : b < 2147483648) : X11_commonDivisor_b44 (lN b) = some (lN (max (Nat.gcd 0 b) 1)) := by
  unfold X11_commonDivisor_b44
  rw [bd_e, Nat.gcd_zero_left]
  by_cases c : 1 < b
  · rw [if_pos (show (1 : Int64) < lN b from (lN_lt (a := 1) (by omega) (by omega)).mpr c), Nat.max_eq_left (by omega)]
  · rw [if_neg (show ¬ (1 : Int64) < lN b from fun q => c ((lN_lt (a := 1) (by omega) (by omega)).mp q)), Nat.max_eq_right (by omega)]
    rfl
theorem C_gcdL : ∀ (k n i a b : Nat), a < 2 ^ k → i + 2 * k ≤ 64 → 64 < i + n → a < 2147483648 → b < 2147483648 → X11_commonDivisor_b9 n (lN a) (lN b) (nI i) = some (lN (max (Nat.gcd a b) 1)) := by
  intro k
  induction k with
  | zero =>
    intro n i a b h1 h2 h3 ha hb
    obtain ⟨n, rfl⟩ : ∃ n', n = n' + 1 := ⟨n - 1, by omega⟩
    obtain rfl : a = 0 := by omega
    show X11_commonDivisor_s9 _ (lN 0) (lN b) (nI i) = _
    unfold X11_commonDivisor_s9
    rw [if_pos (show lg_cmp (lN 0) 0 = 0 by rw [cmp0 (by omega)]), C_gcd_end hb]
    split <;> rfl
  | succ k ih =>
    intro n i a b h1 h2 h3 ha hb
    obtain ⟨n, rfl⟩ : ∃ n', n = n' + 1 + 1 := ⟨n - 2, by omega⟩
    have hp : 2 ^ (k + 1) = 2 * 2 ^ k := by rw [Nat.pow_succ, Nat.mul_comm]
    show X11_commonDivisor_s9 (X11_commonDivisor_b9 (n + 1)) (lN a) (lN b) (nI i) = _
    unfold X11_commonDivisor_s9
    rw [if_neg (show ¬ (64 : Int32) ≤ nI i from nI_ge (b := 64) (by omega) (by omega))]
    by_cases z : a = 0
    · subst z
      rw [if_pos (show lg_cmp (lN 0) 0 = 0 by rw [cmp0 (by omega)]), C_gcd_end hb]
    · rw [if_neg (show ¬ lg_cmp (lN a) 0 = 0 by rw [cmp0 ha]; exact z), nzlN (by omega) ha, rem64N hb (by omega) ha, bd_e, bd_e, nI_1]
      have hr : b % a < a := Nat.mod_lt _ (by omega)
      by_cases c : b % a < 2 ^ k
      · rw [ih (n + 1) (i + 1) (b % a) a c (by omega) (by omega) (by omega) ha, Nat.gcd_rec a b]
      · show X11_commonDivisor_s9 (X11_commonDivisor_b9 n) (lN (b % a)) (lN a) (nI (i + 1)) = _
        unfold X11_commonDivisor_s9
        have h0 : 0 < 2 ^ k := Nat.two_pow_pos k
        rw [if_neg (show ¬ (64 : Int32) ≤ nI (i + 1) from nI_ge (b := 64) (by omega) (by omega)), if_neg (show ¬ lg_cmp (lN (b % a)) 0 = 0 by rw [cmp0 (by omega)]; omega), nzlN (by omega) (by omega), rem64N ha (by omega) (by omega), bd_e, bd_e, nI_1]
        have hm : a % (b % a) ≤ a - b % a := by
          rw [Nat.mod_eq_sub_mod (Nat.le_of_lt hr)]
          exact Nat.mod_le _ _
        rw [ih n (i + 1 + 1) (a % (b % a)) (b % a) (by omega) (by omega) (by omega) (by omega) (by omega), ← Nat.gcd_rec (b % a) a, Nat.gcd_rec a b]
theorem R_gcdL : ∀ (k n a b : Nat), b < 2 ^ k → 2 * k < n → a < 2147483648 → b < 2147483648 → X12_gcd_b6 n (lN a) (lN b) = some (lN (Nat.gcd b a)) := by
  intro k
  induction k with
  | zero =>
    intro n a b h1 h2 ha hb
    obtain ⟨n, rfl⟩ : ∃ n', n = n' + 1 := ⟨n - 1, by omega⟩
    obtain rfl : b = 0 := by omega
    show X12_gcd_s6 _ (lN a) (lN 0) = _
    unfold X12_gcd_s6
    rw [if_pos (show lg_cmp (lN 0) 0 = 0 by rw [cmp0 (by omega)]), Nat.gcd_zero_left]
  | succ k ih =>
    intro n a b h1 h2 ha hb
    obtain ⟨n, rfl⟩ : ∃ n', n = n' + 1 + 1 := ⟨n - 2, by omega⟩
    have hp : 2 ^ (k + 1) = 2 * 2 ^ k := by rw [Nat.pow_succ, Nat.mul_comm]
    show X12_gcd_s6 (X12_gcd_b6 (n + 1)) (lN a) (lN b) = _
    unfold X12_gcd_s6
    by_cases z : b = 0
    · subst z
      rw [if_pos (show lg_cmp (lN 0) 0 = 0 by rw [cmp0 (by omega)]), Nat.gcd_zero_left]
    · rw [if_neg (show ¬ lg_cmp (lN b) 0 = 0 by rw [cmp0 hb]; exact z), nzlN (by omega) hb, rem64N ha (by omega) hb, bd_e]
      have hr : a % b < b := Nat.mod_lt _ (by omega)
      by_cases c : a % b < 2 ^ k
      · rw [ih (n + 1) b (a % b) c (by omega) hb (by omega), Nat.gcd_rec b a]
      · show X12_gcd_s6 (X12_gcd_b6 n) (lN b) (lN (a % b)) = _
        unfold X12_gcd_s6
        have h0 : 0 < 2 ^ k := Nat.two_pow_pos k
        rw [if_neg (show ¬ lg_cmp (lN (a % b)) 0 = 0 by rw [cmp0 (by omega)]; omega), nzlN (by omega) (by omega), rem64N hb (by omega) (by omega), bd_e]
        have hm : b % (a % b) ≤ b - a % b := by
          rw [Nat.mod_eq_sub_mod (Nat.le_of_lt hr)]
          exact Nat.mod_le _ _
        rw [ih n (a % b) (b % (a % b)) (by omega) (by omega) (by omega) (by omega), ← Nat.gcd_rec (a % b) b, Nat.gcd_rec b a]
def ltN (a b w : Nat) : Nat := if w = 0 then a / Nat.gcd a b else b / Nat.gcd a b
theorem C_least {a b w : Nat} (ha : a < 2147483648) (h0 : 0 < b) (hb : b < 2147483648) (hw : w < 2) : X11_inLeastTerms (lN a) (lN b) (nI w) = some (lN (ltN a b w)) := by
  have hg : 0 < Nat.gcd a b := Nat.gcd_pos_of_pos_right a h0
  have hl : Nat.gcd a b ≤ b := Nat.gcd_le_right a h0
  unfold X11_inLeastTerms X11_commonDivisor ltN
  rw [show X11_commonDivisor_b9 1000 (lN a) (lN b) 0 = _ from C_gcdL 31 1000 0 a b (by omega) (by omega) (by omega) ha hb, bd1_s, Nat.max_eq_left (by omega), nzlN hg (by omega), nzlN hg (by omega)]
  rcases (show w = 0 ∨ w = 1 by omega) with rfl | rfl
  · rw [if_pos z00, if_pos rfl, pk_lDiv (by omega) hg (by omega)]
  · rw [if_neg z10, if_neg (by omega), pk_lDiv (by omega) hg (by omega)]
theorem R_part {a b w : Nat} (ha : a < 2147483648) (h0 : 0 < b) (hb : b < 2147483648) (hw : w < 2) : X12_partOf (lN a) (lN b) (nI w) = some (lN (ltN a b w)) := by
  have hg : 0 < Nat.gcd a b := Nat.gcd_pos_of_pos_right a h0
  have hl : Nat.gcd a b ≤ b := Nat.gcd_le_right a h0
  unfold X12_partOf X12_partOf_b20 X12_gcd ltN
  rw [R_gcdL 31 1000 a b (by omega) (by omega) ha hb, bd1_s, bd1_s, Nat.gcd_comm b a, nzlN hg (by omega), nzlN hg (by omega)]
  by_cases z : a = 0
  · subst z
    rw [if_pos (show lg_cmp (lN 0) 0 = 0 by rw [cmp0 (by omega)]), nI_l (by omega), Nat.gcd_zero_left]
    rcases (show w = 0 ∨ w = 1 by omega) with rfl | rfl
    · rw [if_pos rfl, Nat.zero_div]
    · rw [if_neg (by omega), Nat.div_self h0]
  · rw [if_neg (show ¬ lg_cmp (lN a) 0 = 0 by rw [cmp0 ha]; exact z)]
    rcases (show w = 0 ∨ w = 1 by omega) with rfl | rfl
    · rw [if_pos z00, if_pos rfl, pk_lDiv (by omega) hg (by omega)]
    · rw [if_neg z10, if_neg (by omega), pk_lDiv (by omega) hg (by omega)]
theorem E_mean {σ : IM} {ρ : RM} {kf : KF} {μ : IM} {f : Nat → Nat} (h : Now σ ρ kf μ f) (a1 : Int32) : ∃ r, X11_mean kf σ ρ a1 = some r ∧ X12_mean μ a1 = some r := by
  obtain ⟨hI, hB, hC, hS, hA⟩ := h
  unfold X11_mean X12_mean
  rcases rng a1 2 (by omega) with ⟨w, hw, rfl, w1, w2⟩ | ⟨w1, w2, -⟩
  · have hs : cntN (fun p => f (22 + 4 * p)) 4 < 1000 := by
      have hP := hI.2.2.2.2.1
      have a := (hP 0 (by omega)).2.2.2.1
      have b := (hP 1 (by omega)).2.2.2.1
      have c := (hP 2 (by omega)).2.2.2.1
      have d := (hP 3 (by omega)).2.2.2.1
      show 0 + f (22 + 4 * 0) + f (22 + 4 * 1) + f (22 + 4 * 2) + f (22 + 4 * 3) < 1000
      omega
    rw [show X11_isBelow (nI w) 2 = some 1 from w1, show X12_isIn (nI w) 0 1 = some 1 from w2, bd1_s, bd1_s, if_neg n10, if_neg n10, C_allTired hC, R_allTired hA, bd1_s, bd1_s, nI_l (by omega), show X11_inLeastTerms _ 4 _ = _ from C_least (b := 4) (by omega) (by omega) (by omega) hw, show X12_partOf _ 4 _ = _ from R_part (b := 4) (by omega) (by omega) (by omega) hw]
    exact ⟨_, rfl, rfl⟩
  · exact ⟨_, by rw [show X11_isBelow a1 2 = some 0 from w1]; rfl, by rw [show X12_isIn a1 0 1 = some 0 from w2]; rfl⟩
/-! draughts -/
def biN (set k : Nat) : Nat := set / 2 ^ k % 2
def zbN (set : Nat) : Nat → Nat
  | 0 => 0
  | k + 1 => zbN set k + (1 - biN set k)
theorem zbN_le (set : Nat) : ∀ n, zbN set n ≤ n := by
  intro n
  induction n with
  | zero => exact Nat.le_refl 0
  | succ n ih =>
    show zbN set n + (1 - biN set n) ≤ n + 1
    omega
theorem D_has : ∀ set, set < 32 → ∀ k, k < 5 → X12_has (nI set) (nI k) = some (nI (biN set k)) := by decide +kernel
theorem D_bit : ∀ set, set < 32 → ∀ k, k < 5 → (((nI set >>> (nI k &&& 31)) &&& 1 = 1) ↔ biN set k = 1) := by decide +kernel
theorem D_count : ∀ n, n < 6 → ∀ set, set < 2 ^ n → J6_bitCount_0f7a4 (nI set) = some (nI (n - zbN set n)) := by decide +kernel
theorem D_shl : ∀ n, n < 6 → (1 : Int32) <<< (nI n &&& 31) = nI (2 ^ n) := by decide +kernel
theorem D_pow : ∀ n, n < 6 → 2 ^ n ≤ 32 := by decide +kernel
def sdrN (f : Nat → Nat) (set i : Nat) (g : Nat → Nat) : Nat → Nat := fup g 3 (if biN set i = 1 then 2 else f 3)
def spN (f : Nat → Nat) (set : Nat) : Nat → Nat → (Nat → Nat) → Nat
  | 0, _, _ => 1
  | m + 1, i, g => if ptB (sdrN f set i g) i 2 = 1 then 0 else spN f set m (i + 1) (hitN (sdrN f set i g) i 2)
theorem spN_01 (f : Nat → Nat) (set : Nat) : ∀ m i g, spN f set m i g = 0 ∨ spN f set m i g = 1 := by
  intro m
  induction m with
  | zero => exact fun i g => Or.inr rfl
  | succ m ih =>
    intro i g
    unfold spN
    split
    · exact Or.inl rfl
    · exact ih _ _
theorem sdrN_ok {f g : Nat → Nat} (hf : f 3 < 3) (hI : Inv g) (set i : Nat) : Inv (sdrN f set i g) ∧ sdrN f set i g 0 = g 0 := by
  refine ⟨hI.up 0 0 ?_, fup_o (by omega)⟩
  split <;> omega
theorem C_stays_loop {σ : IM} {ρ : RM} {kf : KF} {μ : IM} {f : Nat → Nat} (hf : Now σ ρ kf μ f) {N set : Nat} (hN : N < 6) (hNf : N ≤ f 0) (hset : set < 32) : ∀ (m i n : Nat) (g : Nat → Nat) (τ : IM) (ω : RM), i + m = N → m < n → FC σ ρ τ ω → MC τ ω kf g → Inv g → g 0 = f 0 → ∃ τ', X11_staysInPlay_b13 kf n (nI N) (nI set) (nI i) τ ω = some (nI (spN f set m i g), τ', ω) ∧ FC σ ρ τ' ω := by
  intro m
  induction m with
  | zero =>
    intro i n g τ ω hi hn fc hM hI hg
    obtain ⟨n, rfl⟩ : ∃ n', n = n' + 1 := ⟨n - 1, by omega⟩
    refine ⟨τ, ?_, fc⟩
    show X11_staysInPlay_s13 kf _ (nI N) (nI set) (nI i) τ ω = _
    unfold X11_staysInPlay_s13
    rw [if_pos (nI_le (by omega) (by omega))]
    rfl
  | succ m ih =>
    intro i n g τ ω hi hn fc hM hI hg
    obtain ⟨n, rfl⟩ : ∃ n', n = n' + 1 := ⟨n - 1, by omega⟩
    have hn' : Now τ ω kf μ f := hf.fr fc FR.rf
    obtain ⟨y1, y2⟩ := sdrN_ok hf.1.2.2.1 hI set i
    have go : ∀ t : Int32, t = nI (if biN set i = 1 then 2 else f 3) - 1 → ∃ τ', X11_staysInPlay_b42 kf (X11_staysInPlay_b13 kf n) (nI N) (nI set) (nI i) t τ ω = some (nI (spN f set (m + 1) i g), τ', ω) ∧ FC σ ρ τ' ω := by
      rintro t rfl
      have m1 : MC (up2 τ 10 10 (nI (if biN set i = 1 then 2 else f 3) - 1)) ω kf (sdrN f set i g) := ⟨hM.1.wDraught, hM.2.up hI.1 (by omega) (by omega)⟩
      have g1 : FC τ ω (up2 τ 10 10 (nI (if biN set i = 1 then 2 else f 3) - 1)) ω := ⟨fun i l1 l2 => up2_o (by omega), fun i l1 l2 => up2_o (by omega), by rw [up2_o (by omega)], fun _ _ => rfl⟩
      obtain ⟨τ2, b2, m2, g2, -⟩ := M_strike (k := i) (x := 2) m1 y1 (by omega) (by omega)
      have hI2 := hitN_Inv (k := i) (c := 2) y1 (by omega) (by omega)
      unfold X11_staysInPlay_b42
      rw [bd_e, show X1_strike kf _ ω 10 (nI i) 2 = _ from b2, bd3_s, bd_e, nI_1]
      have pe : spN f set (m + 1) i g = if ptB (sdrN f set i g) i 2 = 1 then 0 else spN f set m (i + 1) (hitN (sdrN f set i g) i 2) := rfl
      rw [pe]
      have fc2 := (fc.tr g1).tr g2
      rcases ptB_or (sdrN f set i g) i 2 with p | p
      · rw [p, if_pos z00, if_neg (show ¬ (0 : Nat) = 1 by omega)]
        exact ih (i + 1) n _ τ2 ω (by omega) (by omega) fc2 m2 hI2 (by rw [f1_0 y1, y2, hg])
      · rw [p, if_neg z10, if_pos (show (1 : Nat) = 1 from rfl)]
        exact ⟨τ2, rfl, fc2⟩
    show ∃ τ', X11_staysInPlay_s13 kf (X11_staysInPlay_b13 kf n) (nI N) (nI set) (nI i) τ ω = _ ∧ _
    unfold X11_staysInPlay_s13
    rw [if_neg (nI_ge (by omega) (by omega))]
    by_cases c : biN set i = 1
    · rw [if_pos ((D_bit set hset i (by omega)).mpr c)]
      refine go 1 ?_
      rw [if_pos c]
      rfl
    · rw [if_neg (fun q => c ((D_bit set hset i (by omega)).mp q))]
      refine go _ ?_
      rw [if_neg c, hn'.2.2.1.draught]
theorem R_pointless_loop {μ : IM} {f : Nat → Nat} (hA : RA (μ 1) f) (hI0 : Inv f) {N set : Nat} (hN : N < 6) (hNf : N ≤ f 0) (hset : set < 32) : ∀ (m i n : Nat) (g : Nat → Nat) (ν : IM), i + m = N → m < n → FR μ ν → RA (ν 2) g → Inv g → g 0 = f 0 → ∃ ν', X12_isPointless_b13 n (nI N) (nI set) (nI i) ν = some (nI (spN f set m i g), ν') ∧ FR μ ν' := by
  intro m
  induction m with
  | zero =>
    intro i n g ν hi hn fr hM hI hg
    obtain ⟨n, rfl⟩ : ∃ n', n = n' + 1 := ⟨n - 1, by omega⟩
    refine ⟨ν, ?_, fr⟩
    show X12_isPointless_s13 _ (nI N) (nI set) (nI i) ν = _
    unfold X12_isPointless_s13
    rw [if_pos (nI_le (by omega) (by omega))]
    rfl
  | succ m ih =>
    intro i n g ν hi hn fr hM hI hg
    obtain ⟨n, rfl⟩ : ∃ n', n = n' + 1 := ⟨n - 1, by omega⟩
    obtain ⟨y1, y2⟩ := sdrN_ok hI0.2.2.1 hI set i
    have go : ∀ t : Int32, t = nI (if biN set i = 1 then 2 else f 3) - 1 → ∃ ν', X12_isPointless_b41 (X12_isPointless_b13 n) (nI N) (nI set) (nI i) t 3 ν = some (nI (spN f set (m + 1) i g), ν') ∧ FR μ ν' := by
      rintro t rfl
      have m1 : RA (up2 ν 2 3 (nI (if biN set i = 1 then 2 else f 3) - 1) 2) (sdrN f set i g) := hM.w3
      have g1 : FR ν (up2 ν 2 3 (nI (if biN set i = 1 then 2 else f 3) - 1)) := ⟨up2_o (by omega), up2_o (by omega), fun i hi => up2_o (by omega), by rw [up2_o (by omega)]⟩
      obtain ⟨ν2, b2, m2, g2, -⟩ := N_hits (k := i) (x := 2) m1 y1 (by omega) (by omega)
      have hI2 := hitN_Inv (k := i) (c := 2) y1 (by omega) (by omega)
      unfold X12_isPointless_b41
      rw [wr42_3, show X12_hits _ 2 (nI i) 2 = _ from b2, bd2_s, bd_e, nI_1]
      have pe : spN f set (m + 1) i g = if ptB (sdrN f set i g) i 2 = 1 then 0 else spN f set m (i + 1) (hitN (sdrN f set i g) i 2) := rfl
      rw [pe]
      have fr2 := (fr.tr g1).tr g2
      rcases ptB_or (sdrN f set i g) i 2 with p | p
      · rw [p, if_pos z00, if_neg (show ¬ (0 : Nat) = 1 by omega)]
        exact ih (i + 1) n _ ν2 (by omega) (by omega) fr2 m2 hI2 (by rw [f1_0 y1, y2, hg])
      · rw [p, if_neg z10, if_pos (show (1 : Nat) = 1 from rfl)]
        exact ⟨ν2, rfl, fr2⟩
    show ∃ ν', X12_isPointless_s13 (X12_isPointless_b13 n) (nI N) (nI set) (nI i) ν = _ ∧ _
    unfold X12_isPointless_s13
    rw [if_neg (nI_ge (by omega) (by omega)), D_has set hset i (by omega), bd1_s, rd42_3]
    rcases (show biN set i = 1 ∨ biN set i = 0 by unfold biN; omega) with c | c
    · rw [c, if_neg z10]
      refine go 1 ?_
      rw [if_pos c]
      rfl
    · rw [c, if_pos z00]
      refine go _ ?_
      rw [if_neg (by omega), fr.1, hA.2]
theorem C_power {a k : Nat} (ha : a < 1000) (hk : k < 100) : X11_power (nI a) (nI k) = some (lN (a ^ k)) := by
  unfold X11_power
  refine loop_i (σ := Int64) (fun n i z => X11_power_b5 n (nI a) (nI k) z (nI i) = some (lN (a ^ k))) (fun i z => z = lN (a ^ i)) k ?_ ?_ 1000 0 1 (by omega) (by omega) rfl
  · rintro n z rfl
    show X11_power_s5 _ (nI a) (nI k) _ (nI k) = _
    unfold X11_power_s5
    rw [if_pos (nI_le (by omega) (by omega))]
  · rintro n i z hi rfl kk
    show X11_power_s5 (X11_power_b5 n) (nI a) (nI k) _ (nI i) = _
    unfold X11_power_s5
    rw [if_neg (nI_ge (by omega) (by omega)), nI_l (by omega), lN_mul, bd_e, bd_e, nI_1]
    exact kk _ rfl
def smN (f : Nat → Nat) (N t : Nat) : Nat → Nat
  | 0 => 0
  | i + 1 => smN f N t i + (if spN f i N 0 f = 1 then (t - 1) ^ zbN i N else 0)
theorem smN_le {f : Nat → Nat} {N t : Nat} (hN : N < 6) (ht : t ≤ 20) (h2 : 2 ≤ t) : ∀ i, smN f N t i ≤ i * 2476099 := by
  intro i
  induction i with
  | zero => exact Nat.le_refl _
  | succ i ih =>
    have h1 : (t - 1) ^ zbN i N ≤ 2476099 := by
      calc (t - 1) ^ zbN i N ≤ 19 ^ zbN i N := Nat.pow_le_pow_left (by omega) _
        _ ≤ 19 ^ 5 := Nat.pow_le_pow_right (by omega) (by have := zbN_le i N; omega)
        _ = 2476099 := by decide
    show smN f N t i + (if spN f i N 0 f = 1 then (t - 1) ^ zbN i N else 0) ≤ (i + 1) * 2476099
    rw [Nat.succ_mul]
    refine Nat.add_le_add ih ?_
    split
    · exact h1
    · exact Nat.zero_le _
theorem pow_le5 {N t : Nat} (hN : N < 6) (ht : t ≤ 20) (h2 : 2 ≤ t) : 0 < t ^ N ∧ t ^ N ≤ 3200000 := by
  refine ⟨Nat.pow_pos (by omega), ?_⟩
  calc t ^ N ≤ 20 ^ N := Nat.pow_le_pow_left ht _
    _ ≤ 20 ^ 5 := Nat.pow_le_pow_right (by omega) (by omega)
    _ = 3200000 := by decide
theorem C_draughts {σ : IM} {ρ : RM} {kf : KF} {μ : IM} {f : Nat → Nat} (hf : Now σ ρ kf μ f) {N t w : Nat} (hN : N < 6) (hNf : N ≤ f 0) (h2 : 2 ≤ t) (ht : t ≤ 20) (hw : w < 2) : ∃ σ' ρ', X11_draughts_b49 kf 1000 (nI N) (nI t) (nI w) 0 0 σ ρ = some (lN (ltN (smN f N t (2 ^ N)) (t ^ N) w), σ', ρ') ∧ FC σ ρ σ' ρ' := by
  have hp := D_pow N hN
  have hI := hf.1
  refine loop_i (σ := Int64 × IM × RM) (fun n i z => ∃ σ' ρ', X11_draughts_b49 kf n (nI N) (nI t) (nI w) z.1 (nI i) z.2.1 z.2.2 = some (lN (ltN (smN f N t (2 ^ N)) (t ^ N) w), σ', ρ') ∧ FC σ ρ σ' ρ') (fun i z => z.1 = lN (smN f N t i) ∧ FC σ ρ z.2.1 z.2.2) (2 ^ N) ?_ ?_ 1000 0 (0, σ, ρ) (Nat.zero_le _) (by omega) ⟨rfl, FC.rf⟩
  · rintro n ⟨z, τ, ω⟩ ⟨hz, fc⟩
    dsimp only at hz fc
    subst hz
    refine ⟨τ, ω, ?_, fc⟩
    show X11_draughts_s49 kf _ (nI N) (nI t) (nI w) _ (nI (2 ^ N)) τ ω = _
    unfold X11_draughts_s49
    obtain ⟨q1, q2⟩ := pow_le5 hN ht h2
    have q3 := smN_le (f := f) hN ht h2 (2 ^ N)
    rw [D_shl N hN, if_pos (nI_le (Nat.le_refl _) (by omega)), C_power (by omega) (by omega), bd1_s, C_least (by omega) q1 (by omega) hw]
    rfl
  · rintro n i ⟨z, τ, ω⟩ hi ⟨hz, fc⟩ kk
    dsimp only at hz fc
    subst hz
    have hn : Now τ ω kf μ f := hf.fr fc FR.rf
    obtain ⟨τ1, ω1, b1, m1, g1, -⟩ := M_become hn
    obtain ⟨τ2, b2, g2⟩ := C_stays_loop hn hN hNf (set := i) (by omega) N 0 1000 f τ1 ω1 (by omega) (by omega) g1 m1 hI rfl
    have es : X11_staysInPlay kf τ ω (nI N) (nI i) = some (nI (spN f i N 0 f), τ2, ω1) := by
      unfold X11_staysInPlay
      rw [b1, bd2_s]
      exact b2
    have zl := zbN_le i N
    show ∃ σ' ρ', X11_draughts_s49 kf (X11_draughts_b49 kf n) (nI N) (nI t) (nI w) (lN (smN f N t i)) (nI i) τ ω = _ ∧ _
    unfold X11_draughts_s49 X11_draughts_b85
    rw [D_shl N hN, if_neg (nI_ge hi (by omega)), es, bd3_s, D_count N hN i hi, bd1_s, show nI t - 1 = nI (t - 1) from nI_sub (b := 1) (by omega), nI_sub (by omega), show N - (N - zbN i N) = zbN i N by omega, C_power (by omega) (by omega), bd1_s, lN_add]
    simp only [bd_e, nI_1]
    have fc2 := fc.tr g2
    rcases spN_01 f i N 0 f with p | p
    · rw [p, if_pos z00]
      refine kk (_, τ2, ω1) ⟨?_, fc2⟩
      show lN (smN f N t i) = lN (smN f N t i + (if spN f i N 0 f = 1 then (t - 1) ^ zbN i N else 0))
      rw [p, if_neg (show ¬ (0 : Nat) = 1 by omega), Nat.add_zero]
    · rw [p, if_neg z10]
      refine kk (_, τ2, ω1) ⟨?_, fc2⟩
      show lN (smN f N t i + (t - 1) ^ zbN i N) = lN (smN f N t i + (if spN f i N 0 f = 1 then (t - 1) ^ zbN i N else 0))
      rw [p, if_pos rfl]
theorem R_draughts {μ : IM} {f : Nat → Nat} (hA : RA (μ 1) f) (hI : Inv f) {N t w : Nat} (hN : N < 6) (hNf : N ≤ f 0) (h2 : 2 ≤ t) (ht : t ≤ 20) (hw : w < 2) : ∃ μ', X12_draughts_b51 1000 (nI N) (nI t) (nI w) 0 1 0 μ = some (lN (ltN (smN f N t (2 ^ N)) (t ^ N) w), μ') ∧ FR μ μ' := by
  have hp := D_pow N hN
  obtain ⟨q1, q2⟩ := pow_le5 hN ht h2
  refine loop_i (σ := Int64) (fun n i z => ∃ μ', X12_draughts_b51 n (nI N) (nI t) (nI w) 0 z (nI i) μ = some (lN (ltN (smN f N t (2 ^ N)) (t ^ N) w), μ') ∧ FR μ μ') (fun i z => z = lN (t ^ i)) N ?_ ?_ 1000 0 1 (by omega) (by omega) rfl
  · rintro n z rfl
    show ∃ μ', X12_draughts_s51 _ (nI N) (nI t) (nI w) 0 (lN (t ^ N)) (nI N) μ = _ ∧ _
    unfold X12_draughts_s51
    rw [if_pos (nI_le (by omega) (by omega))]
    refine loop_i (σ := Int64 × IM) (fun n i z => ∃ μ', X12_draughts_b73 n (nI N) (nI t) (nI w) z.1 (lN (t ^ N)) (nI i) z.2 = some (lN (ltN (smN f N t (2 ^ N)) (t ^ N) w), μ') ∧ FR μ μ') (fun i z => z.1 = lN (smN f N t i) ∧ FR μ z.2) (2 ^ N) ?_ ?_ 1000 0 (0, μ) (Nat.zero_le _) (by omega) ⟨rfl, FR.rf⟩
    · rintro n ⟨z, ν⟩ ⟨hz, fr⟩
      dsimp only at hz fr
      subst hz
      refine ⟨ν, ?_, fr⟩
      show X12_draughts_s73 _ (nI N) (nI t) (nI w) _ (lN (t ^ N)) (nI (2 ^ N)) ν = _
      unfold X12_draughts_s73
      have q3 := smN_le (f := f) hN ht h2 (2 ^ N)
      rw [D_shl N hN, if_pos (nI_le (Nat.le_refl _) (by omega)), R_part (by omega) q1 (by omega) hw]
      rfl
    · rintro n i ⟨z, ν⟩ hi ⟨hz, fr⟩ kk
      dsimp only at hz fr
      subst hz
      show ∃ μ', X12_draughts_s73 (X12_draughts_b73 n) (nI N) (nI t) (nI w) (lN (smN f N t i)) (lN (t ^ N)) (nI i) ν = _ ∧ _
      unfold X12_draughts_s73
      rw [D_shl N hN, if_neg (nI_ge hi (by omega))]
      refine loop_i (σ := Int64) (fun n' x z => ∃ μ', X12_draughts_b87 (X12_draughts_b73 n) n' (nI N) (nI t) (nI w) (lN (smN f N t i)) (lN (t ^ N)) (nI i) z (nI x) ν = some (lN (ltN (smN f N t (2 ^ N)) (t ^ N) w), μ') ∧ FR μ μ') (fun x z => z = lN ((t - 1) ^ zbN i x)) N ?_ ?_ 1000 0 1 (by omega) (by omega) rfl
      · rintro n' z rfl
        have hA' : RA (ν 1) f := by rw [fr.1]; exact hA
        obtain ⟨ν1, e1, a1, g1, -⟩ := N_copies hA'
        obtain ⟨ν2, e2, g2⟩ := R_pointless_loop hA' hI hN hNf (set := i) (by omega) N 0 1000 f ν1 (by omega) (by omega) g1 a1 hI rfl
        have es : X12_isPointless ν (nI N) (nI i) = some (nI (spN f i N 0 f), ν2) := by
          unfold X12_isPointless
          rw [e1, bd1_s]
          exact e2
        show ∃ μ', X12_draughts_s87 (X12_draughts_b73 n) _ (nI N) (nI t) (nI w) (lN (smN f N t i)) (lN (t ^ N)) (nI i) (lN ((t - 1) ^ zbN i N)) (nI N) ν = _ ∧ _
        unfold X12_draughts_s87 X12_draughts_b140
        rw [if_pos (nI_le (by omega) (by omega)), es, bd2_s, lN_add, show lN (smN f N t i) + 0 = lN (smN f N t i) from Int64.add_zero _]
        simp only [bd_e, nI_1]
        have fr2 := fr.tr g2
        rcases spN_01 f i N 0 f with p | p
        · rw [p, if_pos z00]
          refine kk (_, ν2) ⟨?_, fr2⟩
          show lN (smN f N t i) = lN (smN f N t i + (if spN f i N 0 f = 1 then (t - 1) ^ zbN i N else 0))
          rw [p, if_neg (show ¬ (0 : Nat) = 1 by omega), Nat.add_zero]
        · rw [p, if_neg z10]
          refine kk (_, ν2) ⟨?_, fr2⟩
          show lN (smN f N t i + (t - 1) ^ zbN i N) = lN (smN f N t i + (if spN f i N 0 f = 1 then (t - 1) ^ zbN i N else 0))
          rw [p, if_pos rfl]
      · rintro n' x z hx rfl kx
        show ∃ μ', X12_draughts_s87 (X12_draughts_b73 n) (X12_draughts_b87 (X12_draughts_b73 n) n') (nI N) (nI t) (nI w) (lN (smN f N t i)) (lN (t ^ N)) (nI i) (lN ((t - 1) ^ zbN i x)) (nI x) ν = _ ∧ _
        unfold X12_draughts_s87 X12_draughts_b113
        rw [if_neg (nI_ge (by omega) (by omega)), D_has i (by omega) x (by omega), bd1_s, show nI t - 1 = nI (t - 1) from nI_sub (b := 1) (by omega), nI_l (by omega), lN_mul, show ∀ a : Int64, a * 1 = a from Int64.mul_one]
        simp only [bd_e, nI_1]
        have ze : zbN i (x + 1) = zbN i x + (1 - biN i x) := rfl
        rcases (show biN i x = 1 ∨ biN i x = 0 by unfold biN; omega) with c | c
        · rw [c, if_neg z10]
          refine kx _ ?_
          rw [ze, c]
          rfl
        · rw [c, if_pos z00]
          refine kx _ ?_
          rw [ze, c]
          rfl
  · rintro n i z hi rfl kk
    show ∃ μ', X12_draughts_s51 (X12_draughts_b51 n) (nI N) (nI t) (nI w) 0 (lN (t ^ i)) (nI i) μ = _ ∧ _
    unfold X12_draughts_s51
    rw [if_neg (nI_ge (by omega) (by omega)), nI_l (by omega), lN_mul, bd_e, bd_e, nI_1]
    exact kk _ rfl
theorem E_draughts {σ : IM} {ρ : RM} {kf : KF} {μ : IM} (h : All σ ρ kf μ) (a1 a2 a3 : Int32) : ∃ (r : Int64) (σ' : IM) (ρ' : RM) (μ' : IM), X11_draughts kf σ ρ a1 a2 a3 = some (r, σ', ρ') ∧ X12_draughts μ a1 a2 a3 = some (r, μ') ∧ All σ' ρ' kf μ' := by
  unfold X11_draughts X12_draughts
  obtain ⟨⟨f, hf⟩, hr⟩ := h
  have h0 : All σ ρ kf μ := ⟨⟨f, hf⟩, hr⟩
  have hN := hf.1.1
  have hA := hf.2.2.2.2
  rcases rng a1 6 (by omega) with ⟨N, hN6, rfl, v1, v2⟩ | ⟨v1, v2, -⟩
  · rw [show X11_isBelow (nI N) 6 = some 1 from v1, show X12_isIn (nI N) 0 5 = some 1 from v2, bd1_s, bd1_s, if_neg n10, if_neg n10, rd42_0, hf.2.2.1.known, hA.1 0 (by omega) (by omega)]
    by_cases c : f 0 < N
    · rw [if_pos (nI_lt c (by omega)), if_pos (nI_lt c (by omega))]
      exact ⟨_, σ, ρ, μ, rfl, rfl, h0⟩
    · rw [if_neg (nI_nlt (by omega) (by omega)), if_neg (nI_nlt (by omega) (by omega))]
      rcases isBt a2 2 20 (by omega) with ⟨t, j1, j2, rfl, u1, u2, u3⟩ | ⟨u1, u3⟩ | q
      · rw [if_neg (show ¬ nI t < 2 from u1), if_neg (show ¬ (20 : Int32) < nI t from u2), show X12_isIn (nI t) 2 20 = some 1 from u3, bd1_s, if_neg n10]
        rcases rng a3 2 (by omega) with ⟨w, hw, rfl, w1, w2⟩ | ⟨w1, w2, -⟩
        · rw [show X11_isBelow (nI w) 2 = some 1 from w1, show X12_isIn (nI w) 0 1 = some 1 from w2, bd1_s, bd1_s, if_neg n10, if_neg n10]
          obtain ⟨τ, ω, b1, b2⟩ := C_draughts hf hN6 (by omega) j1 j2 hw
          obtain ⟨ν, c1, c2⟩ := R_draughts hA hf.1 hN6 (by omega) j1 j2 hw
          exact ⟨_, τ, ω, ν, b1, c1, h0.fr b2 c2⟩
        · exact ⟨_, σ, ρ, μ, by rw [show X11_isBelow a3 2 = some 0 from w1]; rfl, by rw [show X12_isIn a3 0 1 = some 0 from w2]; rfl, h0⟩
      · refine ⟨1000000001, σ, ρ, μ, ?_, by rw [show X12_isIn a2 2 20 = some 0 from u3]; rfl, h0⟩
        rcases u1 with u1 | ⟨u1, u2⟩
        · rw [if_pos (show a2 < 2 from u1)]
        · rw [if_neg (show ¬ a2 < 2 from u1), if_pos (show (20 : Int32) < a2 from u2)]
      · omega
  · exact ⟨_, σ, ρ, μ, by rw [show X11_isBelow a1 6 = some 0 from v1]; rfl, by rw [show X12_isIn a1 0 5 = some 0 from v2]; rfl, h0⟩
