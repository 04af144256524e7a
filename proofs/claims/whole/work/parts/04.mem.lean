/-! A memory of numbered cells: cell i lies at adr i; layouts say what each cell is; ints in σ, changing references in ρ -/
abbrev GE : Type := va_G × (Nat → ClassId) × (Nat → Nat)
abbrev LY : Type := Nat → (Nat × Nat) ⊕ (Nat × List Nat)
abbrev IM : Type := Nat → Nat → Int32
abbrev RM : Type := Nat → Nat → Option Nat
def up2 (σ : IM) (i k : Nat) (v : Int32) : IM := va_up σ i (upd (σ i) k v)
def upr (ρ : RM) (i k : Nat) (v : Option Nat) : RM := va_up ρ i (va_up (ρ i) k v)
def fv (adr : Nat → Nat) (σ : IM) (ρ : RM) (i k t : Nat) : Value := match t with
  | 0 => .int (σ i k)
  | 1 => va_rf (ρ i k)
  | j + 2 => .ref (adr j)
def fvs (adr : Nat → Nat) (σ : IM) (ρ : RM) (i : Nat) (ts : List Nat) : List Value := (List.range ts.length).map (fun k => fv adr σ ρ i k (ts.getD k 0))
def cvE (g : GE) (x : (Nat × Nat) ⊕ (Nat × List Nat)) (σ : IM) (ρ : RM) (i : Nat) : va_E := match x with
  | .inl (0, n) => .inl (g.2.1 0, n, .inl (σ i))
  | .inl (1, n) => .inl (g.2.1 1, n, .inr (.inr (.inr (.inr (fun j => some (g.2.2 (29 + 2 * j)))))))
  | .inl (_ + 2, n) => .inl (g.2.1 2, n, .inr (.inr (.inr (.inr (ρ i)))))
  | .inr (ci, ts) => .inr (ci, fvs g.2.2 σ ρ i ts)
def cvf (ly : LY) (g : GE) (σ : IM) (ρ : RM) (i : Nat) : Nat × va_E := (g.2.2 i, cvE g (ly i) σ ρ i)
def wl (ly : LY) (N : Nat) (g : GE) (σ : IM) (ρ : RM) (X : va_W) : va_W := (List.range N).map (cvf ly g σ ρ) ++ X
theorem cvE_congr {g : GE} {x : (Nat × Nat) ⊕ (Nat × List Nat)} {σ σ' : IM} {ρ ρ' : RM} {i : Nat} (h1 : σ' i = σ i) (h2 : ρ' i = ρ i) : cvE g x σ' ρ' i = cvE g x σ ρ i := by
  have hf : ∀ k t, fv g.2.2 σ' ρ' i k t = fv g.2.2 σ ρ i k t := by
    intro k t
    unfold fv
    split <;> simp [h1, h2]
  unfold cvE
  split <;> simp [h1, h2, fvs, hf]
theorem cvf_congr {ly : LY} {g : GE} {σ σ' : IM} {ρ ρ' : RM} {i : Nat} (h1 : σ' i = σ i) (h2 : ρ' i = ρ i) : cvf ly g σ' ρ' i = cvf ly g σ ρ i := by
  unfold cvf
  rw [cvE_congr h1 h2]
theorem rg_at {N i : Nat} {f : Nat → Nat × va_E} {X : va_W} (hi : i < N) : ((List.range N).map f ++ X)[i]? = some (f i) := by
  rw [List.getElem?_append_left (by simpa using hi), List.getElem?_map, List.getElem?_range hi]
  rfl
theorem rg_set {N i : Nat} {f h : Nat → Nat × va_E} {X : va_W} {e : Nat × va_E} (hi : i < N) (he : h i = e) (ho : ∀ j, j ≠ i → h j = f j) : ((List.range N).map f ++ X).set i e = (List.range N).map h ++ X := by
  rw [List.set_append_left _ _ (by simpa using hi)]
  congr 1
  apply List.ext_getElem?
  intro j
  by_cases hj : j = i
  · subst hj
    rw [List.getElem?_set_self (by simpa using hi), List.getElem?_map, List.getElem?_range hi]
    simp [he]
  · rw [List.getElem?_set_ne (Ne.symm hj), List.getElem?_map, List.getElem?_map]
    cases hb : (List.range N)[j]? with
    | none => rfl
    | some b =>
      have : b = j := by
        by_cases hjN : j < N
        · rw [List.getElem?_range hjN] at hb
          exact (Option.some.inj hb).symm
        · rw [List.getElem?_eq_none (by simpa using Nat.le_of_not_lt hjN)] at hb
          cases hb
      subst this
      simp [ho b hj]
theorem fvs_get {adr : Nat → Nat} {σ : IM} {ρ : RM} {i k t : Nat} {ts : List Nat} (h : ts[k]? = some t) : (fvs adr σ ρ i ts)[k]? = some (fv adr σ ρ i k t) := by
  have hk := (List.getElem?_eq_some_iff.mp h).1
  unfold fvs
  rw [List.getElem?_map, List.getElem?_range hk]
  simp [List.getD, h]
theorem fvs_set {adr : Nat → Nat} {σ σ' : IM} {ρ ρ' : RM} {i k t : Nat} {ts : List Nat} {v : Value} (h : ts[k]? = some t) (hv : fv adr σ' ρ' i k t = v) (ho : ∀ j t', j ≠ k → fv adr σ' ρ' i j t' = fv adr σ ρ i j t') : (fvs adr σ ρ i ts).set k v = fvs adr σ' ρ' i ts := by
  have hk := (List.getElem?_eq_some_iff.mp h).1
  unfold fvs
  apply List.ext_getElem?
  intro j
  by_cases hj : j = k
  · subst hj
    rw [List.getElem?_set_self (by simpa using hk), List.getElem?_map, List.getElem?_range hk]
    simp [List.getD, h, hv]
  · rw [List.getElem?_set_ne (Ne.symm hj), List.getElem?_map, List.getElem?_map]
    cases hb : (List.range ts.length)[j]? with
    | none => rfl
    | some b =>
      have : b = j := by
        by_cases hjN : j < ts.length
        · rw [List.getElem?_range hjN] at hb
          exact (Option.some.inj hb).symm
        · rw [List.getElem?_eq_none (by simpa using Nat.le_of_not_lt hjN)] at hb
          cases hb
      subst this
      simp [ho b _ hj]
theorem up2_i {σ : IM} {i k : Nat} {v : Int32} : up2 σ i k v i = upd (σ i) k v := va_up_self _ _ _
theorem up2_o {σ : IM} {i k j : Nat} {v : Int32} (h : j ≠ i) : up2 σ i k v j = σ j := va_up_ne _ _ h
theorem upr_i {ρ : RM} {i k : Nat} {v : Option Nat} : upr ρ i k v i = va_up (ρ i) k v := va_up_self _ _ _
theorem upr_o {ρ : RM} {i k j : Nat} {v : Option Nat} (h : j ≠ i) : upr ρ i k v j = ρ j := va_up_ne _ _ h
theorem wl_at {ly : LY} {N : Nat} {g : GE} {σ : IM} {ρ : RM} {X : va_W} {i : Nat} (hi : i < N) : (wl ly N g σ ρ X)[i]? = some (g.2.2 i, cvE g (ly i) σ ρ i) := rg_at hi
/-- an int field -/
theorem wl_setI {ly : LY} {N : Nat} {g : GE} {σ : IM} {ρ : RM} {X : va_W} {i k ci : Nat} {ts : List Nat} {v : Int32} (hi : i < N) (hl : ly i = .inr (ci, ts)) (ht : ts[k]? = some 0) : (wl ly N g σ ρ X).set i (g.2.2 i, .inr (ci, (fvs g.2.2 σ ρ i ts).set k (.int v))) = wl ly N g (up2 σ i k v) ρ X := by
  refine rg_set hi ?_ (fun j hj => cvf_congr (up2_o hj) rfl)
  show (g.2.2 i, cvE g (ly i) (up2 σ i k v) ρ i) = _
  rw [hl]
  show (g.2.2 i, Sum.inr (ci, fvs g.2.2 (up2 σ i k v) ρ i ts)) = _
  rw [fvs_set (σ := σ) (σ' := up2 σ i k v) (ρ := ρ) (ρ' := ρ) ht (v := .int v)]
  · simp [fv, up2_i, upd]
  · intro j t' hj
    unfold fv
    split <;> simp [up2_i, upd, hj]
/-- a reference field that changes -/
theorem wl_setR {ly : LY} {N : Nat} {g : GE} {σ : IM} {ρ : RM} {X : va_W} {i k ci : Nat} {ts : List Nat} {v : Option Nat} (hi : i < N) (hl : ly i = .inr (ci, ts)) (ht : ts[k]? = some 1) : (wl ly N g σ ρ X).set i (g.2.2 i, .inr (ci, (fvs g.2.2 σ ρ i ts).set k (va_rf v))) = wl ly N g σ (upr ρ i k v) X := by
  refine rg_set hi ?_ (fun j hj => cvf_congr rfl (upr_o hj))
  show (g.2.2 i, cvE g (ly i) σ (upr ρ i k v) i) = _
  rw [hl]
  show (g.2.2 i, Sum.inr (ci, fvs g.2.2 σ (upr ρ i k v) i ts)) = _
  rw [fvs_set (σ := σ) (σ' := σ) (ρ := ρ) (ρ' := upr ρ i k v) ht (v := va_rf v)]
  · simp [fv, upr_i, va_up]
  · intro j t' hj
    unfold fv
    split <;> simp [upr_i, va_up, hj]
theorem wl_setA {ly : LY} {N : Nat} {g : GE} {σ : IM} {ρ : RM} {X : va_W} {i j n : Nat} {v : Int32} (hi : i < N) (hl : ly i = .inl (0, n)) : (wl ly N g σ ρ X).set i (g.2.2 i, .inl (g.2.1 0, n, .inl (upd (σ i) j v))) = wl ly N g (up2 σ i j v) ρ X := by
  refine rg_set hi ?_ (fun j hj => cvf_congr (up2_o hj) rfl)
  show (g.2.2 i, cvE g (ly i) (up2 σ i j v) ρ i) = _
  rw [hl]
  show (g.2.2 i, Sum.inl (g.2.1 0, n, Sum.inl (up2 σ i j v i))) = _
  rw [up2_i]
theorem wl_setC {ly : LY} {N : Nat} {g : GE} {σ : IM} {ρ : RM} {X : va_W} {i n : Nat} {f : Nat → Int32} (hi : i < N) (hl : ly i = .inl (0, n)) : (wl ly N g σ ρ X).set i (g.2.2 i, .inl (g.2.1 0, n, .inl f)) = wl ly N g (va_up σ i f) ρ X := by
  refine rg_set hi ?_ (fun j hj => cvf_congr (va_up_ne _ _ hj) rfl)
  show (g.2.2 i, cvE g (ly i) (va_up σ i f) ρ i) = _
  rw [hl]
  show (g.2.2 i, Sum.inl (g.2.1 0, n, Sum.inl (va_up σ i f i))) = _
  rw [va_up_self]
theorem wl_setRA {ly : LY} {N : Nat} {g : GE} {σ : IM} {ρ : RM} {X : va_W} {i j n t : Nat} {v : Option Nat} (hi : i < N) (hl : ly i = .inl (t + 2, n)) : (wl ly N g σ ρ X).set i (g.2.2 i, .inl (g.2.1 2, n, .inr (.inr (.inr (.inr (va_up (ρ i) j v)))))) = wl ly N g σ (upr ρ i j v) X := by
  refine rg_set hi ?_ (fun j hj => cvf_congr rfl (upr_o hj))
  show (g.2.2 i, cvE g (ly i) σ (upr ρ i j v) i) = _
  rw [hl]
  show (g.2.2 i, Sum.inl (g.2.1 2, n, Sum.inr (Sum.inr (Sum.inr (Sum.inr (upr ρ i j v i)))))) = _
  rw [upr_i]
