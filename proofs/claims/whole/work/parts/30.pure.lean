/-! the mathematics of a court, in natural numbers -/
def wayN (a b : Nat) : Nat := (a / 3 - b / 3) + (b / 3 - a / 3) + ((a % 3 - b % 3) + (b % 3 - a % 3))
def timeN (k fg x : Nat) : Nat := if k = 1 then (if 5 ≤ fg then 1 else 2) else if k = 2 then (if x / 3 = 0 then 2 else 3) else if k = 3 then 6 else if k = 4 then (if x / 3 = 0 then 1 else 2) else if k = 7 then 7 else 3
def effN (k fg : Nat) : Nat := if k = 1 then 5 else if k = 2 ∨ k = 4 then 1 + fg / 3 else if k = 3 ∨ k = 7 then 2 else 1
def landN (k d x : Nat) : Nat := if k = 6 then x / 3 * 3 + 1 else if k = 7 then x / 3 * 3 + min 2 (x % 3 + d - 1) else x
def stepsN (t pa ti : Nat) : Nat := t * max 1 (pa - ti / 30)
def whoN (f : Nat → Nat) (side fall : Nat) : Nat :=
  if wayN (f (20 + 8 * side)) fall < wayN (f (24 + 8 * side)) fall then 2 * side
  else if wayN (f (24 + 8 * side)) fall < wayN (f (20 + 8 * side)) fall then 2 * side + 1
  else if f (37 + 3 * side) = 1 ∨ f (37 + 3 * side) = 2 then 2 * side
  else if f (37 + 3 * side) = 3 ∧ f (23 + 8 * side) ≠ f (27 + 8 * side) then (if f (23 + 8 * side) = 1 then 2 * side else 2 * side + 1) else 9
abbrev bothN (f : Nat → Nat) (side fall : Nat) : Prop := f (37 + 3 * side) = 2 ∧ wayN (f (20 + 8 * side)) fall = wayN (f (24 + 8 * side)) fall
def placeN (form other : Nat) : Nat := if form = 0 then 5 - other % 3 else 3 * (2 - other / 3) + 1
def nearN (a b s : Nat) : Nat := if a < b then min b (a + s) else max b (a - s)
def towN (a b s : Nat) : Nat := 3 * nearN (a / 3) (b / 3) (s - ((nearN (a % 3) (b % 3) s - a % 3) + (a % 3 - nearN (a % 3) (b % 3) s))) + nearN (a % 3) (b % 3) s
def fup (f : Nat → Nat) (i v : Nat) : Nat → Nat := fun j => if j = i then v else f j
def tireN (f : Nat → Nat) (p v : Nat) : Nat → Nat := fup f (22 + 4 * p) (min 99 (f (22 + 4 * p) + v))
def mateN (p : Nat) : Nat := if p % 2 = 0 then p + 1 else p - 1
/-- of a hit: the side it goes to, where it falls, its time, whose it is -/
def sdN (f : Nat → Nat) : Nat := 1 - f 2 / 2
def faN (f : Nat → Nat) (k c : Nat) : Nat := landN (f (4 + 2 * k)) (f 3) c
def tiN (f : Nat → Nat) (k c : Nat) : Nat := timeN (f (4 + 2 * k)) (f (5 + 2 * k)) (faN f k c)
def whN (f : Nat → Nat) (k c : Nat) : Nat := whoN f (sdN f) (faN f k c)
/-- how tired all are ahead of the running, hits counted -/
def trN (f : Nat → Nat) (k c : Nat) : Nat → Nat :=
  if bothN f (sdN f) (faN f k c) then tireN (tireN (tireN (fup f 1 (f 1 + 1)) (f 2) (effN (f (4 + 2 * k)) (f (5 + 2 * k)))) (2 * sdN f) 3) (2 * sdN f + 1) 3
  else tireN (fup f 1 (f 1 + 1)) (f 2) (effN (f (4 + 2 * k)) (f (5 + 2 * k)))
/-- whether it makes a point -/
def ptB (f : Nat → Nat) (k c : Nat) : Nat := if whN f k c = 9 ∨ stepsN (tiN f k c) (f (21 + 4 * whN f k c)) (trN f k c (22 + 4 * whN f k c)) < wayN (f (20 + 4 * whN f k c)) (faN f k c) then 1 else 0
abbrev ptN (f : Nat → Nat) (k c : Nat) : Prop := ptB f k c = 1
theorem ptN_iff {f : Nat → Nat} {k c : Nat} : ptN f k c ↔ (whN f k c = 9 ∨ stepsN (tiN f k c) (f (21 + 4 * whN f k c)) (trN f k c (22 + 4 * whN f k c)) < wayN (f (20 + 4 * whN f k c)) (faN f k c)) := by
  unfold ptN ptB
  split <;> simp_all
theorem ptB_0 {f : Nat → Nat} {k c : Nat} (h : ¬ ptN f k c) : ptB f k c = 0 := by
  unfold ptN at h
  unfold ptB at *
  split at h <;> simp_all
def hitN (f : Nat → Nat) (k c : Nat) : Nat → Nat :=
  if ptN f k c then fup (fup (trN f k c) (38 + 3 * (1 - sdN f)) (trN f k c (38 + 3 * (1 - sdN f)) + 1)) 2 (2 * (1 - sdN f))
  else fup (fup (tireN (fup (trN f k c) (20 + 4 * whN f k c) (faN f k c)) (whN f k c) (wayN (f (20 + 4 * whN f k c)) (faN f k c))) 2 (whN f k c)) (20 + 4 * mateN (whN f k c)) (towN (f (20 + 4 * mateN (whN f k c))) (placeN (f (36 + 3 * sdN f)) (faN f k c)) (stepsN (tiN f k c) (f (21 + 4 * mateN (whN f k c))) (trN f k c (22 + 4 * mateN (whN f k c)))))
/-- what lies in its range -/
def InvP (f : Nat → Nat) (p : Nat) : Prop := f (20 + 4 * p) < 9 ∧ 1 ≤ f (21 + 4 * p) ∧ f (21 + 4 * p) ≤ 4 ∧ f (22 + 4 * p) ≤ 99 ∧ f (23 + 4 * p) ≤ 1
def Inv (f : Nat → Nat) : Prop := f 0 ≤ 8 ∧ f 2 < 4 ∧ f 3 < 3 ∧ (∀ k, k < f 0 → f (4 + 2 * k) < 8 ∧ f (5 + 2 * k) < 10) ∧ (∀ p, p < 4 → InvP f p) ∧ ∀ s, s < 2 → f (36 + 3 * s) ≤ 1 ∧ f (37 + 3 * s) ≤ 3
/-! numbers of the machine -/
theorem lit32 (n : Nat) : (OfNat.ofNat n : Int32) = nI n := Eq.trans (Eq.refl _) (Eq.refl _)
theorem rdN {β : Type} {f : Nat → Int32} {n j : Nat} {k : Int32 → Option β} (h : j < n) (hn : n < 2147483648) : rd f n (nI j) k = k (f j) := by
  unfold rd
  rw [if_neg (nI_in h hn), nI_clamp (by omega)]
theorem wrN {β : Type} {σ : IM} {c n j : Nat} {v : Int32} {k : IM → Option β} (h : j < n) (hn : n < 2147483648) : wr σ c n (nI j) v k = k (up2 σ c j v) := by
  unfold wr
  rw [if_neg (nI_in h hn), nI_clamp (by omega)]
theorem ixN {β : Type} {n j : Nat} {k : Nat → Option β} (h : j < n) (hn : n < 2147483648) : ix n (nI j) k = k j := by
  unfold ix
  rw [if_neg (nI_in h hn), nI_clamp (by omega)]
theorem rqN {β : Type} {f : Nat → Option Nat} {n j : Nat} {k : Nat → Option β} (h : j < n) (hn : n < 2147483648) : rq f n (nI j) k = bd1 (f j) k := by
  unfold rq
  rw [if_neg (nI_in h hn), nI_clamp (by omega)]
theorem bd1_s {α β : Type} {a : α} {k : α → Option β} : bd1 (some a) k = k a := rfl
theorem bd2_s {α β γ : Type} {a : α} {b : β} {k : α → β → Option γ} : bd2 (some (a, b)) k = k a b := rfl
theorem bd3_s {α β γ δ : Type} {a : α} {b : β} {c : γ} {k : α → β → γ → Option δ} : bd3 (some (a, b, c)) k = k a b c := rfl
theorem bd_e {α β : Type} {a : α} {k : α → Option β} : bd a k = k a := rfl
theorem nI_rem {a d : Nat} (ha : a < 2147483648) (h0 : 0 < d) (hd : d < 2147483648) : rem32 (nI a) (nI d) = nI (a % d) := pk_rem ha h0 hd
theorem nI_div {a d : Nat} (ha : a < 2147483648) (h0 : 0 < d) (hd : d < 2147483648) : nI a / nI d = nI (a / d) := pk_div ha h0 hd
theorem nI_sub {a b : Nat} (h : b ≤ a) : nI a - nI b = nI (a - b) := pk_sub h
theorem nI_iff {a b : Nat} (ha : a < 2147483648) (hb : b < 2147483648) : (nI a = nI b) = (a = b) := propext (nI_eq ha hb)
theorem nI_ltF {a b : Nat} (ha : a < 2147483648) (hb : b < 2147483648) : (nI a < nI b) = (a < b) := propext (nI_ltI ha hb)
theorem nI_leF {a b : Nat} (ha : a < 2147483648) (hb : b < 2147483648) : (nI a ≤ nI b) = (a ≤ b) := propext (nI_leI ha hb)
/-! leaves of the reference -/
theorem R_wayOf : ∀ a, a < 9 → ∀ b, b < 9 → X12_wayOf (nI a) (nI b) = some (nI (wayN a b)) := by decide +kernel
theorem R_timeBy : ∀ k, k < 8 → ∀ fg, fg < 10 → ∀ x, x < 9 → X12_timeBy (nI k) (nI fg) (nI x) = some (nI (timeN k fg x)) := by decide +kernel
theorem R_tiresBy : ∀ k, k < 8 → ∀ fg, fg < 10 → X12_tiresBy (nI k) (nI fg) = some (nI (effN k fg)) := by decide +kernel
theorem R_placeFor : ∀ a, a < 2 → ∀ b, b < 9 → X12_placeFor (nI a) (nI b) = some (nI (placeN a b)) := by decide +kernel
theorem R_partner : ∀ p, p < 4 → X12_partner (nI p) = some (nI (mateN p)) := by decide +kernel
theorem R_towards : ∀ a, a < 9 → ∀ b, b < 9 → ∀ s, s < 29 → X12_towards (nI a) (nI b) (nI s) = some (nI (towN a b s)) := by decide +kernel
theorem R_least99 : ∀ b, b < 200 → X12_least 99 (nI b) = some (nI (min 99 b)) := by decide +kernel
theorem wayN_lt : ∀ a, a < 9 → ∀ b, b < 9 → wayN a b < 5 := by decide +kernel
theorem landN_lt : ∀ k, k < 8 → ∀ d, d < 3 → ∀ x, x < 9 → landN k d x < 9 := by decide +kernel
theorem timeN_lt : ∀ k, k < 8 → ∀ fg, fg < 10 → ∀ x, x < 9 → timeN k fg x < 8 := by decide +kernel
theorem effN_lt : ∀ k, k < 8 → ∀ fg, fg < 10 → effN k fg < 6 := by decide +kernel
theorem placeN_lt : ∀ a, a < 2 → ∀ b, b < 9 → placeN a b < 9 := by decide +kernel
theorem towN_lt : ∀ a, a < 9 → ∀ b, b < 9 → ∀ s, s < 29 → towN a b s < 9 := by decide +kernel
theorem stepsN_lt {t pa ti : Nat} (ht : t < 8) (hp : pa ≤ 4) : stepsN t pa ti < 29 := by
  unfold stepsN
  have h : max 1 (pa - ti / 30) ≤ 4 := by omega
  calc t * max 1 (pa - ti / 30) ≤ 7 * 4 := Nat.mul_le_mul (by omega) h
    _ < 29 := by decide
