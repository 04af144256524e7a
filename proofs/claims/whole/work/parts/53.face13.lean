/-! copies from shelf to shelf -/
theorem subT {s : Nat} {n : Int32} (hs : s ≤ 100) (hn : ¬ n < 0) : (nI s - n).toInt = (s : Int) - n.toInt := by
  have h0 : (0 : Int32).toInt = 0 := rfl
  rw [Int32.lt_iff_toInt_lt, h0] at hn
  have hu : n.toInt < 2 ^ 31 := Int32.toInt_lt n
  rw [Int32.toInt_sub, nI_toInt (by omega)]
  exact Int.bmod_eq_of_le (by omega) (by omega)
/-- a stretch that lies in a row, or none -/
theorem spanB {sz : Nat} (hs : sz ≤ 100) (i n : Int32) : (∃ a b, a + b ≤ sz ∧ i = nI a ∧ n = nI b ∧ ¬ n < 0 ∧ ¬ i < 0 ∧ ¬ nI sz - n < i ∧ ¬ nI sz - i < n) ∨ (n < 0 ∨ i < 0 ∨ (¬ n < 0 ∧ ¬ i < 0 ∧ nI sz - n < i ∧ nI sz - i < n)) := by
  by_cases h1 : n < 0
  · exact Or.inr (Or.inl h1)
  by_cases h2 : i < 0
  · exact Or.inr (Or.inr (Or.inl h2))
  obtain ⟨b, hb, rfl⟩ := nI_of h1
  obtain ⟨a, ha, rfl⟩ := nI_of h2
  have e1 := subT hs h1
  have e2 := subT hs h2
  rw [nI_toInt hb] at e1
  rw [nI_toInt ha] at e2
  by_cases c : a + b ≤ sz
  · refine Or.inl ⟨a, b, c, rfl, rfl, h1, h2, ?_, ?_⟩
    · rw [Int32.lt_iff_toInt_lt, e1, nI_toInt ha]
      omega
    · rw [Int32.lt_iff_toInt_lt, e2, nI_toInt hb]
      omega
  · refine Or.inr (Or.inr (Or.inr ⟨h1, h2, ?_, ?_⟩))
    · rw [Int32.lt_iff_toInt_lt, e1, nI_toInt ha]
      omega
    · rw [Int32.lt_iff_toInt_lt, e2, nI_toInt hb]
      omega
theorem R_copyL {μ : IM} {d e i j n : Nat} (hd : d < 8) (he : e < 8) (hi : i + n ≤ 100) (hj : j + n ≤ 100) : ∃ μ', X12_copy_b122 1000 (nI d) (nI i) (nI e) (nI j) (nI n) 0 μ = some (nI n, μ') ∧ (∀ c, c ≠ 12 → μ' c = μ c) ∧ ∀ x, μ' 12 x = if 100 * e + j ≤ x ∧ x < 100 * e + j + n then μ 12 (100 * d + i + (x - (100 * e + j))) else μ 12 x := by
  by_cases asc : i ≤ j
  · -- from the end
    refine loop_i (σ := IM) (fun m k ξ => ∃ μ', X12_copy_b122 m (nI d) (nI i) (nI e) (nI j) (nI n) (nI k) ξ = some (nI n, μ') ∧ (∀ c, c ≠ 12 → μ' c = μ c) ∧ ∀ x, μ' 12 x = if 100 * e + j ≤ x ∧ x < 100 * e + j + n then μ 12 (100 * d + i + (x - (100 * e + j))) else μ 12 x) (fun k ξ => (∀ c, c ≠ 12 → ξ c = μ c) ∧ ∀ x, ξ 12 x = if 100 * e + j + (n - k) ≤ x ∧ x < 100 * e + j + n then μ 12 (100 * d + i + (x - (100 * e + j))) else μ 12 x) n ?_ ?_ 1000 0 μ (by omega) (by omega) ⟨fun _ _ => rfl, fun x => by rw [if_neg (by omega)]⟩
    · rintro m ξ ⟨h1, h2⟩
      refine ⟨ξ, ?_, h1, fun x => by rw [h2 x, Nat.sub_self, Nat.add_zero]⟩
      show X12_copy_s122 _ (nI d) (nI i) (nI e) (nI j) (nI n) (nI n) ξ = _
      unfold X12_copy_s122
      rw [if_pos (nI_le (Nat.le_refl _) (by omega))]
    · rintro m k ξ hk ⟨h1, h2⟩ kk
      show ∃ μ', X12_copy_s122 (X12_copy_b122 m) (nI d) (nI i) (nI e) (nI j) (nI n) (nI k) ξ = _ ∧ _
      unfold X12_copy_s122 X12_copy_b147
      rw [if_neg (nI_ge hk (by omega)), if_pos (nI_le asc (by omega)), show (1 : Int32) = nI 1 from rfl, nI_sub (by omega), nI_sub (by omega), show (100 : Int32) = nI 100 from rfl]
      simp only [pk_mul, nI_add]
      rw [rdN (by omega) (by omega), wrN (by omega) (by omega), bd_e]
      refine kk _ ⟨fun c hc => by rw [up2_o hc]; exact h1 c hc, fun x => ?_⟩
      by_cases ex : x = 100 * e + j + (n - 1 - k)
      · rw [ex, up2_ss, h2, if_neg (by omega), if_pos (by omega)]
        congr 1
        omega
      · rw [up2_oo (Or.inr ex), h2 x]
        by_cases c : 100 * e + j + (n - k) ≤ x ∧ x < 100 * e + j + n
        · rw [if_pos c, if_pos (by omega)]
        · rw [if_neg c, if_neg (by omega)]
  · refine loop_i (σ := IM) (fun m k ξ => ∃ μ', X12_copy_b122 m (nI d) (nI i) (nI e) (nI j) (nI n) (nI k) ξ = some (nI n, μ') ∧ (∀ c, c ≠ 12 → μ' c = μ c) ∧ ∀ x, μ' 12 x = if 100 * e + j ≤ x ∧ x < 100 * e + j + n then μ 12 (100 * d + i + (x - (100 * e + j))) else μ 12 x) (fun k ξ => (∀ c, c ≠ 12 → ξ c = μ c) ∧ ∀ x, ξ 12 x = if 100 * e + j ≤ x ∧ x < 100 * e + j + k then μ 12 (100 * d + i + (x - (100 * e + j))) else μ 12 x) n ?_ ?_ 1000 0 μ (by omega) (by omega) ⟨fun _ _ => rfl, fun x => by rw [if_neg (by omega)]⟩
    · rintro m ξ ⟨h1, h2⟩
      refine ⟨ξ, ?_, h1, h2⟩
      show X12_copy_s122 _ (nI d) (nI i) (nI e) (nI j) (nI n) (nI n) ξ = _
      unfold X12_copy_s122
      rw [if_pos (nI_le (Nat.le_refl _) (by omega))]
    · rintro m k ξ hk ⟨h1, h2⟩ kk
      show ∃ μ', X12_copy_s122 (X12_copy_b122 m) (nI d) (nI i) (nI e) (nI j) (nI n) (nI k) ξ = _ ∧ _
      unfold X12_copy_s122 X12_copy_b147
      rw [if_neg (nI_ge hk (by omega)), if_neg (nI_ge (by omega) (by omega)), show (100 : Int32) = nI 100 from rfl, show (1 : Int32) = nI 1 from rfl]
      simp only [pk_mul, nI_add]
      rw [rdN (by omega) (by omega), wrN (by omega) (by omega), bd_e]
      refine kk _ ⟨fun c hc => by rw [up2_o hc]; exact h1 c hc, fun x => ?_⟩
      by_cases ex : x = 100 * e + j + k
      · rw [ex, up2_ss, h2, if_neg (by omega), if_pos (by omega)]
        congr 1
        omega
      · rw [up2_oo (Or.inr ex), h2 x]
        by_cases c : 100 * e + j ≤ x ∧ x < 100 * e + j + k
        · rw [if_pos c, if_pos (by omega)]
        · rw [if_neg c, if_neg (by omega)]
theorem E_copy {σ : IM} {ρ : RM} {kf : KF} {μ : IM} (h : All σ ρ kf μ) (a1 a2 a3 a4 a5 : Int32) : Same3 kf (X11_copy kf σ ρ a1 a2 a3 a4 a5) (X12_copy μ a1 a2 a3 a4 a5) := by
  unfold X11_copy X12_copy
  rcases isSh a1 with ⟨d, hd, rfl, q1, q2⟩ | ⟨q1, q2⟩
  · rw [q1, q2, bd1_s, bd1_s, if_neg n10, if_neg n10]
    rcases isSh a3 with ⟨e, he, rfl, w1, w2⟩ | ⟨w1, w2⟩
    · rw [w1, w2, bd1_s, bd1_s, if_neg n10, if_neg n10, ixN hd (by omega), ixN he (by omega), rdN hd (by omega), rdN he (by omega), rdN hd (by omega), rdN he (by omega), rdN hd (by omega), rdN he (by omega), rdN hd (by omega), rdN he (by omega)]
      have bare : ∀ x, x < 8 → (X7_isBare kf σ ρ x = some 1 ∧ μ 7 x = 0) ∨ (X7_isBare kf σ ρ x = some 0 ∧ X7_isRow kf σ ρ x = some 0 ∧ μ 7 x = 1 ∧ σ (29 + 2 * x) 2 = -1) ∨ (X7_isBare kf σ ρ x = some 0 ∧ X7_isRow kf σ ρ x = some 1 ∧ ∃ so sz, ShR σ ρ μ x so sz) := by
        intro x hx
        unfold X7_isBare X7_isRow
        rcases (h.2.2.1 x hx).cases with g | ⟨q, k, fg, g⟩ | ⟨so, sz, g⟩
        · refine Or.inl ⟨?_, g.1⟩
          rw [g.2.2, g.2.1]
          rfl
        · refine Or.inr (Or.inl ⟨?_, ?_, g.1, g.2.1⟩)
          · rw [g.2.2.1]
            rfl
          · rw [g.2.1, if_pos rfl]
        · refine Or.inr (Or.inr ⟨?_, ?_, so, sz, g⟩)
          · rw [g.2.1, g.2.2.2.2.1, if_neg (nI_m1 (by have := g.2.2.1; omega))]
            rfl
          · rw [g.2.2.2.2.1, if_neg (nI_m1 (by have := g.2.2.1; omega))]
      rcases bare d hd with ⟨b1, b2⟩ | ⟨b1, b2, b3, b4⟩ | ⟨b1, b2, so, sz, g⟩
      · rw [b1, b2, bd1_s, if_neg n10, if_pos rfl]
        exact Same3.no h rfl rfl
      · rw [b1, b3, bd1_s, if_pos rfl, if_neg n10]
        rcases bare e he with ⟨c1, c2⟩ | ⟨c1, c2, c3, c4⟩ | ⟨c1, c2, so', sz', g'⟩
        · rw [c1, c2, bd1_s, if_neg n10, if_pos rfl]
          exact Same3.no h rfl rfl
        · rw [c1, c3, bd1_s, if_pos rfl, if_neg n10, b2, bd1_s, if_pos rfl, if_neg (show ¬ (1 : Int32) = 2 by decide)]
          exact Same3.no h rfl rfl
        · rw [c1, g'.1, bd1_s, if_pos rfl, if_neg (show ¬ (2 : Int32) = 0 by decide), b2, bd1_s, if_pos rfl, if_neg (show ¬ (1 : Int32) = 2 by decide)]
          exact Same3.no h rfl rfl
      · have gg := g
        obtain ⟨g1, g2, g3, g4, g5, g6, g7, g8, g9, gb⟩ := gg
        rw [b1, g1, bd1_s, if_pos rfl, if_neg (show ¬ (2 : Int32) = 0 by decide)]
        rcases bare e he with ⟨c1, c2⟩ | ⟨c1, c2, c3, c4⟩ | ⟨c1, c2, so', sz', g'⟩
        · rw [c1, c2, bd1_s, if_neg n10, if_pos rfl]
          exact Same3.no h rfl rfl
        · rw [c1, c3, bd1_s, if_pos rfl, if_neg n10, b2, bd1_s, if_neg n10, g5, c4, if_neg (nI_m1 (by omega)), if_pos (show (2 : Int32) = 2 from rfl), if_neg (show ¬ (1 : Int32) = 2 by decide)]
          exact Same3.no h rfl rfl
        · have gg' := g'
          obtain ⟨k1, k2, k3, k4, k5, k6, k7, k8, k9, kb⟩ := gg'
          rw [c1, k1, bd1_s, if_pos rfl, if_neg (show ¬ (2 : Int32) = 0 by decide), b2, bd1_s, if_neg n10, if_pos (show (2 : Int32) = 2 from rfl), if_pos (show (2 : Int32) = 2 from rfl), g5, k5, g6, k6]
          by_cases es : so = so'
          · subst es
            unfold X7_spans
            rw [if_pos rfl, if_pos rfl, g7, k7, g8, k8]
            rcases spanB g4 a2 a5 with ⟨i, n, s1, rfl, rfl, s2, s3, s4, s5⟩ | s
            · rw [if_neg s2, if_neg s3, if_neg s4, bd1_s, if_neg n10, if_neg s2, if_neg s2, if_neg s3]
              rcases spanB k4 a4 (nI n) with ⟨j, n', t1, rfl, e', t2, t3, t4, t5⟩ | t
              · obtain rfl : n' = n := by
                  by_cases hh : n' < 2147483648
                  · exact ((nI_iff (by omega) hh).mp e').symm
                  · omega
                rw [if_neg t3, if_neg t4, bd1_s, if_neg n10, if_neg t3, if_neg s5, if_pos (Int32.not_lt.mp t5)]
                obtain ⟨μ', m1, m2, m3⟩ := R_copyL (μ := μ) (d := d) (e := e) (i := i) (j := j) (n := n') hd he (by omega) (by omega)
                unfold ac
                rw [m1, if_neg (by rw [nI_clamp (by omega), nI_clamp (by omega), nI_clamp (by omega)]; rintro (x | x | x | x | x); exact s3 x; exact t3 x; exact s2 x; omega; omega), nI_clamp (by omega), nI_clamp (by omega), nI_clamp (by omega)]
                refine ⟨nI n', _, ρ, μ', rfl, rfl, h.sh he (fun c _ hc => va_up_ne _ _ hc) (fun _ _ => rfl) (fun c hc => m2 c (by omega)) (fun x hx hne => ⟨by rw [m2 7 (by omega)], by rw [m2 8 (by omega)], by rw [m2 9 (by omega)], by rw [m2 10 (by omega)], by rw [m2 11 (by omega)], fun y hy => by rw [m3, if_neg (by omega)]⟩) (Or.inr (Or.inr ⟨by rw [m2 7 (by omega)]; exact k1, k2, so, sz', k3, k4, by rw [va_up_ne _ _ (by omega)]; exact k5, by rw [m2 10 (by omega)]; exact k6, by rw [va_up_ne _ _ (by omega)]; exact k7, by rw [m2 11 (by omega)]; exact k8, fun x hx => ?_, fun h0 x hx => ?_⟩))⟩
                · rw [va_up_self, m3]
                  by_cases c : j ≤ x ∧ x < j + n'
                  · rw [pk_cpy_in c.1 c.2, if_pos (by omega), g9 _ (by omega)]
                    congr 1
                    omega
                  · rw [pk_cpy_out (by omega), if_neg (by omega), k9 x hx]
                · rw [m3]
                  by_cases c : j ≤ x ∧ x < j + n'
                  · rw [if_pos (by omega), show 100 * d + i + (100 * e + x - (100 * e + j)) = 100 * d + (i + (x - j)) by omega]
                    exact gb h0 _ (by omega)
                  · rw [if_neg (by omega)]
                    exact kb h0 x hx
              · rcases t with t | t | ⟨t1, t2, t3, t4⟩
                · exact absurd t s2
                · rw [if_pos t, bd1_s, if_pos rfl, if_pos t]
                  exact Same3.no h rfl rfl
                · rw [if_neg t2, if_pos t3, bd1_s, if_pos rfl, if_neg t2, if_neg s5, if_neg (Int32.not_le.mpr t4)]
                  exact Same3.no h rfl rfl
            · have no : ∀ K : Int32 → Option (Int32 × IM × RM), (bd1 (if a5 < 0 then some 0 else if a2 < 0 then some 0 else if nI sz - a5 < a2 then some 0 else some 1) fun r14 => if r14 = 0 then some (-13, σ, ρ) else K r14) = some ((-13 : Int32), σ, ρ) := by
                intro K
                rcases s with s | s | ⟨s1, s2, s3, s4⟩
                · rw [if_pos s]
                  rfl
                · by_cases c : a5 < 0
                  · rw [if_pos c]
                    rfl
                  · rw [if_neg c, if_pos s]
                    rfl
                · rw [if_neg s1, if_neg s2, if_pos s3]
                  rfl
              refine Same3.no h (no _) ?_
              rcases s with s | s | ⟨s1, s2, s3, s4⟩
              · rw [if_pos s]
              · by_cases c : a5 < 0
                · rw [if_pos c]
                · rw [if_neg c, if_pos s]
              · rw [if_neg s1, if_neg s2]
                by_cases c : a4 < 0
                · rw [if_pos c]
                · rw [if_neg c, if_pos s4]
          · have ne : ¬ nI so = nI so' := fun q => es ((nI_iff (by omega) (by omega)).mp q)
            rw [if_neg ne, if_neg ne]
            exact Same3.no h rfl rfl
    · exact Same3.no h (r := -1) (by rw [w1]; rfl) (by rw [w2]; rfl)
  · exact Same3.no h (r := -1) (by rw [q1]; rfl) (by rw [q2]; rfl)
