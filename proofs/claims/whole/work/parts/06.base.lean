/-! combinators of the taken-down code, and what they give -/
def bd {α β : Type} (x : α) (k : α → Option β) : Option β := k x
theorem bd_some {α β : Type} {x : α} {k : α → Option β} {o : β} (h : bd x k = some o) : ∃ z, z = x ∧ k z = some o := ⟨x, rfl, h⟩
theorem bd_at {α β : Type} {x y : α} {k : α → Option β} {o : β} (e : y = x) (h : bd x k = some o) : k y = some o := by
  subst e
  exact h
def bd1 {α β : Type} (x : Option α) (k : α → Option β) : Option β := match x with
  | none => none
  | some a => k a
theorem bd1_some {α β : Type} {x : Option α} {k : α → Option β} {o : β} (h : bd1 x k = some o) : ∃ a, x = some a ∧ k a = some o := by
  cases x with
  | none => cases h
  | some a => exact ⟨a, rfl, h⟩
def bd2 {α β γ : Type} (x : Option (α × β)) (k : α → β → Option γ) : Option γ := match x with
  | none => none
  | some a => k a.1 a.2
theorem bd2_some {α β γ : Type} {x : Option (α × β)} {k : α → β → Option γ} {o : γ} (h : bd2 x k = some o) : ∃ a b, x = some (a, b) ∧ k a b = some o := by
  cases x with
  | none => cases h
  | some a => exact ⟨a.1, a.2, rfl, h⟩
def bd3 {α β γ δ : Type} (x : Option (α × β × γ)) (k : α → β → γ → Option δ) : Option δ := match x with
  | none => none
  | some a => k a.1 a.2.1 a.2.2
theorem bd3_some {α β γ δ : Type} {x : Option (α × β × γ)} {k : α → β → γ → Option δ} {o : δ} (h : bd3 x k = some o) : ∃ a b c, x = some (a, b, c) ∧ k a b c = some o := by
  cases x with
  | none => cases h
  | some a => exact ⟨a.1, a.2.1, a.2.2, rfl, h⟩
def rd {β : Type} (f : Nat → Int32) (n : Nat) (i : Int32) (k : Int32 → Option β) : Option β := if i < 0 ∨ n ≤ i.toNatClampNeg then none else k (f i.toNatClampNeg)
theorem rd_some {β : Type} {f : Nat → Int32} {n : Nat} {i : Int32} {k : Int32 → Option β} {o : β} (h : rd f n i k = some o) : ¬ (i < 0 ∨ n ≤ i.toNatClampNeg) ∧ ∃ v, v = f i.toNatClampNeg ∧ k v = some o := by
  unfold rd at h
  split at h
  · cases h
  · exact ⟨‹_›, _, rfl, h⟩
def wr {β : Type} (σ : IM) (c n : Nat) (i v : Int32) (k : IM → Option β) : Option β := if i < 0 ∨ n ≤ i.toNatClampNeg then none else k (up2 σ c i.toNatClampNeg v)
theorem wr_some {β : Type} {σ : IM} {c n : Nat} {i v : Int32} {k : IM → Option β} {o : β} (h : wr σ c n i v k = some o) : ¬ (i < 0 ∨ n ≤ i.toNatClampNeg) ∧ ∃ σ', σ' = up2 σ c i.toNatClampNeg v ∧ k σ' = some o := by
  unfold wr at h
  split at h
  · cases h
  · exact ⟨‹_›, _, rfl, h⟩
/-- a place of a row, as a number -/
def ix {β : Type} (n : Nat) (i : Int32) (k : Nat → Option β) : Option β := if i < 0 ∨ n ≤ i.toNatClampNeg then none else k i.toNatClampNeg
theorem ix_some {β : Type} {n : Nat} {i : Int32} {k : Nat → Option β} {o : β} (h : ix n i k = some o) : ¬ (i < 0 ∨ n ≤ i.toNatClampNeg) ∧ ∃ j, j = i.toNatClampNeg ∧ j < n ∧ k j = some o := by
  unfold ix at h
  split at h
  · cases h
  · rename_i hn
    exact ⟨hn, _, rfl, by omega, h⟩
def nz {β : Type} (y : Int32) (k : Option β) : Option β := if y = 0 then none else k
theorem nz_some {β : Type} {y : Int32} {k : Option β} {o : β} (h : nz y k = some o) : ¬ y = 0 ∧ k = some o := by
  unfold nz at h
  split at h
  · cases h
  · exact ⟨‹_›, h⟩
def nzl {β : Type} (y : Int64) (k : Option β) : Option β := if y = 0 then none else k
theorem nzl_some {β : Type} {y : Int64} {k : Option β} {o : β} (h : nzl y k = some o) : ¬ y = 0 ∧ k = some o := by
  unfold nzl at h
  split at h
  · cases h
  · exact ⟨‹_›, h⟩
def bz {β : Type} (v : Int32) (k : Option β) : Option β := if v = 0 ∨ v = 1 then k else none
theorem bz_some {β : Type} {v : Int32} {k : Option β} {o : β} (h : bz v k = some o) : narrow .boolean (.int v) = .int v ∧ k = some o := by
  unfold bz at h
  split at h
  · rename_i hv
    exact ⟨by rcases hv with rfl | rfl <;> rfl, h⟩
  · cases h
/-- what is there -/
def sm {α β : Type} (x : Option α) (k : α → Option β) : Option β := bd1 x k
/-- nothing, or what is there -/
def oc {β : Type} (x : Option Nat) (a : Option β) (k : Nat → Option β) : Option β := match x with
  | none => a
  | some q => k q
theorem oc_some {β : Type} {x : Option Nat} {a : Option β} {k : Nat → Option β} {o : β} (h : oc x a k = some o) : (x = none ∧ a = some o) ∨ ∃ q, x = some q ∧ k q = some o := by
  cases x with
  | none => exact Or.inl ⟨rfl, h⟩
  | some q => exact Or.inr ⟨q, rfl, h⟩
def rq {β : Type} (f : Nat → Option Nat) (n : Nat) (i : Int32) (k : Nat → Option β) : Option β := if i < 0 ∨ n ≤ i.toNatClampNeg then none else bd1 (f i.toNatClampNeg) k
theorem rq_some {β : Type} {f : Nat → Option Nat} {n : Nat} {i : Int32} {k : Nat → Option β} {o : β} (h : rq f n i k = some o) : ¬ (i < 0 ∨ n ≤ i.toNatClampNeg) ∧ ∃ q, f i.toNatClampNeg = some q ∧ k q = some o := by
  unfold rq at h
  split at h
  · cases h
  · exact ⟨‹_›, bd1_some h⟩
def wq {β : Type} (kf : Nat → Option (Nat × Int32)) (ρ : RM) (c n : Nat) (i : Int32) (q : Nat) (k : RM → Option β) : Option β := if i < 0 ∨ n ≤ i.toNatClampNeg then none else bd1 (kf q) (fun _ => k (upr ρ c i.toNatClampNeg (some q)))
theorem wq_some {β : Type} {kf : Nat → Option (Nat × Int32)} {ρ : RM} {c n : Nat} {i : Int32} {q : Nat} {k : RM → Option β} {o : β} (h : wq kf ρ c n i q k = some o) : ¬ (i < 0 ∨ n ≤ i.toNatClampNeg) ∧ ∃ z, kf q = some z ∧ ∃ ρ', ρ' = upr ρ c i.toNatClampNeg (some q) ∧ k ρ' = some o := by
  unfold wq at h
  split at h
  · cases h
  · obtain ⟨z, e, h⟩ := bd1_some h
    exact ⟨‹_›, z, e, _, rfl, h⟩
/-- System.arraycopy between rows of ints -/
def ac {β : Type} (σ : IM) (i ni j nj : Nat) (sp dp n : Int32) (k : IM → Option β) : Option β := if sp < 0 ∨ dp < 0 ∨ n < 0 ∨ ni < sp.toNatClampNeg + n.toNatClampNeg ∨ nj < dp.toNatClampNeg + n.toNatClampNeg then none else k (va_up σ j (va_cpy (σ i) (σ j) sp.toNatClampNeg dp.toNatClampNeg n.toNatClampNeg))
theorem ac_some {β : Type} {σ : IM} {i ni j nj : Nat} {sp dp n : Int32} {k : IM → Option β} {o : β} (h : ac σ i ni j nj sp dp n k = some o) : (¬ sp < 0 ∧ ¬ dp < 0 ∧ ¬ n < 0 ∧ sp.toNatClampNeg + n.toNatClampNeg ≤ ni ∧ dp.toNatClampNeg + n.toNatClampNeg ≤ nj) ∧ ∃ σ', σ' = va_up σ j (va_cpy (σ i) (σ j) sp.toNatClampNeg dp.toNatClampNeg n.toNatClampNeg) ∧ k σ' = some o := by
  unfold ac at h
  split at h
  · cases h
  · rename_i hn
    simp only [not_or, Nat.not_lt] at hn
    exact ⟨hn, _, rfl, h⟩
def nor : RM := fun _ _ => none
def rem32 (x y : Int32) : Int32 := x - x / y * y
def rem64 (x y : Int64) : Int64 := x - x / y * y
/-! layouts -/
def lyC : LY := fun i =>
  if i = 0 then .inr (10, [1 + 2, 10 + 2, 19 + 2, 0, 28 + 2, 45 + 2, 46 + 2, 47 + 2, 0])
  else if i < 28 then
    (if (i - 1) % 9 = 0 then .inr (1, [i + 1 + 2, i + 2 + 2, i + 3 + 2, i + 4 + 2, i + 5 + 2, i + 6 + 2, i + 7 + 2, i + 8 + 2, 0, 0, 0, 0]) else if (i - 1) % 9 < 5 then .inl (0, 4) else if (i - 1) % 9 < 8 then .inl (0, 2) else .inl (2, 8))
  else if i = 28 then .inl (1, 8)
  else if i < 45 then (if i % 2 = 1 then .inr (6, [i + 1 + 2, 1, 0, 0]) else .inl (0, 100))
  else if i = 45 then .inl (2, 8) else .inl (0, 4)
def Ct (c : Nat) : Prop := c = 1 ∨ c = 10 ∨ c = 19
theorem ct_1 : Ct 1 := Or.inl rfl
theorem ct_10 : Ct 10 := Or.inr (Or.inl rfl)
theorem ct_19 : Ct 19 := Or.inr (Or.inr rfl)
theorem ct_lt {c : Nat} (h : Ct c) (k : Nat) (hk : k < 10) : c + k < 48 := by rcases h with rfl | rfl | rfl <;> omega
theorem ct_lt0 {c : Nat} (h : Ct c) : c < 48 := by rcases h with rfl | rfl | rfl <;> omega
theorem ly_ct {c : Nat} (h : Ct c) : lyC c = .inr (1, [c + 1 + 2, c + 2 + 2, c + 3 + 2, c + 4 + 2, c + 5 + 2, c + 6 + 2, c + 7 + 2, c + 8 + 2, 0, 0, 0, 0]) := by rcases h with rfl | rfl | rfl <;> rfl
theorem ly_c1 {c : Nat} (h : Ct c) : lyC (c + 1) = .inl (0, 4) := by rcases h with rfl | rfl | rfl <;> rfl
theorem ly_c2 {c : Nat} (h : Ct c) : lyC (c + 2) = .inl (0, 4) := by rcases h with rfl | rfl | rfl <;> rfl
theorem ly_c3 {c : Nat} (h : Ct c) : lyC (c + 3) = .inl (0, 4) := by rcases h with rfl | rfl | rfl <;> rfl
theorem ly_c4 {c : Nat} (h : Ct c) : lyC (c + 4) = .inl (0, 4) := by rcases h with rfl | rfl | rfl <;> rfl
theorem ly_c5 {c : Nat} (h : Ct c) : lyC (c + 5) = .inl (0, 2) := by rcases h with rfl | rfl | rfl <;> rfl
theorem ly_c6 {c : Nat} (h : Ct c) : lyC (c + 6) = .inl (0, 2) := by rcases h with rfl | rfl | rfl <;> rfl
theorem ly_c7 {c : Nat} (h : Ct c) : lyC (c + 7) = .inl (0, 2) := by rcases h with rfl | rfl | rfl <;> rfl
theorem ly_c8 {c : Nat} (h : Ct c) : lyC (c + 8) = .inl (2, 8) := by rcases h with rfl | rfl | rfl <;> rfl
theorem sh_lt {j : Nat} (h : j < 8) : 29 + 2 * j < 48 := by omega
theorem sh_lt1 {j : Nat} (h : j < 8) : 29 + 2 * j + 1 < 48 := by omega
theorem ly_sh {j : Nat} (h : j < 8) : lyC (29 + 2 * j) = .inr (6, [29 + 2 * j + 1 + 2, 1, 0, 0]) := by
  rcases (show j = 0 ∨ j = 1 ∨ j = 2 ∨ j = 3 ∨ j = 4 ∨ j = 5 ∨ j = 6 ∨ j = 7 by omega) with rfl | rfl | rfl | rfl | rfl | rfl | rfl | rfl <;> rfl
theorem ly_sh1 {j : Nat} (h : j < 8) : lyC (29 + 2 * j + 1) = .inl (0, 100) := by
  rcases (show j = 0 ∨ j = 1 ∨ j = 2 ∨ j = 3 ∨ j = 4 ∨ j = 5 ∨ j = 6 ∨ j = 7 by omega) with rfl | rfl | rfl | rfl | rfl | rfl | rfl | rfl <;> rfl
theorem ly_0 : lyC 0 = .inr (10, [1 + 2, 10 + 2, 19 + 2, 0, 28 + 2, 45 + 2, 46 + 2, 47 + 2, 0]) := rfl
theorem ly_28 : lyC 28 = .inl (1, 8) := rfl
theorem ly_45 : lyC 45 = .inl (2, 8) := rfl
theorem ly_46 : lyC 46 = .inl (0, 4) := rfl
theorem ly_47 : lyC 47 = .inl (0, 4) := rfl
def lyM : LY := fun i =>
  if i = 0 then .inr (11, [1 + 2, 2 + 2, 3 + 2, 4 + 2, 5 + 2, 0, 0, 0, 0, 6 + 2, 0, 0, 0, 7 + 2, 8 + 2, 9 + 2, 10 + 2, 11 + 2, 12 + 2, 0])
  else if i < 5 then .inl (0, 42) else if i = 5 then .inl (0, 4) else if i = 6 then .inl (0, 3) else if i < 12 then .inl (0, 8) else .inl (0, 800)
def Ar (r : Nat) : Prop := r = 1 ∨ r = 2 ∨ r = 3 ∨ r = 4
theorem ar_1 : Ar 1 := Or.inl rfl
theorem ar_2 : Ar 2 := Or.inr (Or.inl rfl)
theorem ar_3 : Ar 3 := Or.inr (Or.inr (Or.inl rfl))
theorem ar_4 : Ar 4 := Or.inr (Or.inr (Or.inr rfl))
theorem ar_lt {r : Nat} (h : Ar r) : r < 13 := by rcases h with rfl | rfl | rfl | rfl <;> omega
theorem ly_ar {r : Nat} (h : Ar r) : lyM r = .inl (0, 42) := by rcases h with rfl | rfl | rfl | rfl <;> rfl
theorem lm_0 : lyM 0 = .inr (11, [1 + 2, 2 + 2, 3 + 2, 4 + 2, 5 + 2, 0, 0, 0, 0, 6 + 2, 0, 0, 0, 7 + 2, 8 + 2, 9 + 2, 10 + 2, 11 + 2, 12 + 2, 0]) := rfl
/-- a row of ints of the class's memory -/
def IA (i n : Nat) : Prop := i < 48 ∧ lyC i = .inl (0, n)
/-- strokes: the pool -/
abbrev KF : Type := Nat → Option (Nat × Int32)
def kci (k : Nat) : Nat := if k = 0 then 8 else if k = 1 then 7 else if k = 2 then 2 else if k = 3 then 4 else if k = 4 then 5 else if k = 5 then 3 else if k = 6 then 0 else 9
def skE (kf : KF) (q : Nat) : va_E := match kf q with
  | none => .inr (8, [.int 0])
  | some (k, f) => .inr (kci k, [.int f])
def PL (L : List Nat) (kf : KF) : Prop := ∀ q k f, kf q = some (k, f) → q ∈ L ∧ k < 8
theorem pl_at {L : List Nat} {kf : KF} {ly : LY} {N : Nat} {g : GE} {σ : IM} {ρ : RM} {q k : Nat} {f : Int32} (h : PL L kf) (hq : kf q = some (k, f)) : ∃ i : Nat, (wl ly N g σ ρ (va_pl L (skE kf)))[i]? = some (q, (Sum.inr (kci k, [Value.int f]) : va_E)) := by
  obtain ⟨i, hi⟩ := va_pl_get (X := (List.range N).map (cvf ly g σ ρ)) (f := skE kf) (h q k f hq).1
  refine ⟨i, hi.trans ?_⟩
  simp [skE, hq]
section RR
variable {p : Program} {l : Launch} {e : Env} {R : Room} {s : State} {m : MethodId} {args : Array Value} {below : List Frame} {meth : Method} {c : Code} {H H0 : Heap} {locs : List Loc} {cells slots : Nat} {Q : State → Prop}
variable {cc : ByteArray} {pc nL index : Nat} {ls : Array Slot} {rest : List Value} {own : String} {ly : LY} {N : Nat} {g : GE} {A : Nat → Prop} {X : va_W} {σ : IM} {ρ : RM}
theorem z_p (S : CallFix p m c cc nL s args UL own) {ty : FieldType} {v : Int32} (hr : meth.sig.returnType = some ty) (hlk : meth.locks = false) (hn : narrow ty (.int v) = .int v) (hdg : decode cc pc = .ok (.ireturn, 1)) : W p l e R s m args below meth c s.heap [] 0 0 (MQ below (Qp (some (.int v))) args s 0 0 NoA) (F0 m pc ls [.int v]) :=
  W.zret S.1 S.2.1 hr hn (fun t ht _ => ⟨rfl, ht⟩) (fun q h => by cases h) hdg hlk
theorem z_pl (S : CallFix p m c cc nL s args UL own) {v : Int64} (hr : meth.sig.returnType = some .long) (hlk : meth.locks = false) (hdg : decode cc pc = .ok (.lreturn, 1)) : W p l e R s m args below meth c s.heap [] 0 0 (MQ below (Qp (some (.long v))) args s 0 0 NoA) (F0 m pc ls [.long v]) :=
  W.lret S.1 S.2.1 hr (fun t ht _ => ⟨rfl, ht⟩) (fun q h => by cases h) hdg hlk
theorem z_m (S : CallFix p m c cc nL s args UL own) (hM : Mem ly N g A X σ ρ s.heap H locs) {ty : FieldType} {v : Int32} (hr : meth.sig.returnType = some ty) (hlk : meth.locks = false) (hn : narrow ty (.int v) = .int v) (hdg : decode cc pc = .ok (.ireturn, 1)) : W p l e R s m args below meth c H locs 0 0 (MQ below (Qm ly N g A X σ ρ (some (.int v))) args s 0 0 A) (F0 m pc ls [.int v]) :=
  W.zret S.1 S.2.1 hr hn (fun t ht _ => ⟨rfl, by rw [ht]; exact hM.1, hM.2.1, hM.2.2.1.F ht⟩) hM.2.2.1.2.2 hdg hlk
theorem z_ml (S : CallFix p m c cc nL s args UL own) (hM : Mem ly N g A X σ ρ s.heap H locs) {v : Int64} (hr : meth.sig.returnType = some .long) (hlk : meth.locks = false) (hdg : decode cc pc = .ok (.lreturn, 1)) : W p l e R s m args below meth c H locs 0 0 (MQ below (Qm ly N g A X σ ρ (some (.long v))) args s 0 0 A) (F0 m pc ls [.long v]) :=
  W.lret S.1 S.2.1 hr (fun t ht _ => ⟨rfl, by rw [ht]; exact hM.1, hM.2.1, hM.2.2.1.F ht⟩) hM.2.2.1.2.2 hdg hlk
theorem z_mv (S : CallFix p m c cc nL s args UL own) (hM : Mem ly N g A X σ ρ s.heap H locs) (hr : meth.sig.returnType = none) (hlk : meth.locks = false) (hdg : decode cc pc = .ok (.return_, 1)) : W p l e R s m args below meth c H locs 0 0 (MQ below (Qm ly N g A X σ ρ none) args s 0 0 A) (F0 m pc ls []) :=
  W.vret S.1 S.2.1 hr (fun t ht _ => ⟨rfl, by rw [ht]; exact hM.1, hM.2.1, hM.2.2.1.F ht⟩) hM.2.2.1.2.2 hdg hlk
/-- the receiver of a call: a cell of the memory -/
theorem Mem.recv (hM : Mem ly N g A X σ ρ H0 H locs) (hK : KK g s) {ci nF : Nat} {C : String} {T : u_T} (cf : CF ci C T nF) (i : Nat) {ts : List Nat} (hi : i < N) (hl : ly i = .inr (ci, ts)) : ∃ cell : Cell, H[g.2.2 i]? = some cell ∧ cell.vm.isStatics = false ∧ s.vm.findClass C = some cell.cls :=
  va_recv hK.1 hM.1 cf.1 (q0 := i) ((wl_at hi).trans (by rw [hl]; rfl))
theorem r_irem (S : CallFix p m c cc nL s args UL own) {x y : Int32} (hdg : decode cc pc = .ok (.irem, 1)) (hne : ¬ y = 0) (k : W p l e R s m args below meth c H locs cells slots Q (F0 m (pc + 1) ls (.int (rem32 x y) :: rest))) : W p l e R s m args below meth c H locs cells slots Q (F0 m pc ls (.int y :: .int x :: rest)) := lv_irem S.1 S.2.1 hdg hne k
theorem r_lrem (S : CallFix p m c cc nL s args UL own) {x y : Int64} (hdg : decode cc pc = .ok (.lrem, 1)) (hne : ¬ y = 0) (k : W p l e R s m args below meth c H locs cells slots Q (F0 m (pc + 1) ls (.long (rem64 x y) :: rest))) : W p l e R s m args below meth c H locs cells slots Q (F0 m pc ls (.long y :: .long x :: rest)) := lv_lrem S.1 S.2.1 hdg hne k
theorem r_tab (S : CallFix p m c cc nL s args UL own) {dflt lo hi : Int} {offs : Array Int} {len : Nat} {x v : Int32} {off : Int} {tgt : Nat} (hdg : decode cc pc = .ok (.tableswitch dflt lo hi offs, len)) (hv : x = v) (h : ((!decide (v.toInt < lo)) && (!decide (hi < v.toInt)) && (offs[(v.toInt - lo).toNat]? == some off)) = true) (ht : (pc : Int) + off = (tgt : Int))
    (k : W p l e R s m args below meth c H locs cells slots Q (F0 m tgt ls rest)) : W p l e R s m args below meth c H locs cells slots Q (F0 m pc ls (.int x :: rest)) := by
  subst hv
  simp only [Bool.and_eq_true, Bool.not_eq_true', decide_eq_false_iff_not, beq_iff_eq] at h
  exact lv_tableIn S.1 S.2.1 hdg h.1.1 h.1.2 h.2 ht k
theorem r_tabD (S : CallFix p m c cc nL s args UL own) {dflt lo hi : Int} {offs : Array Int} {len : Nat} {x : Int32} {tgt : Nat} (hdg : decode cc pc = .ok (.tableswitch dflt lo hi offs, len)) (h : ¬ (lo ≤ x.toInt ∧ x.toInt ≤ hi)) (ht : (pc : Int) + dflt = (tgt : Int))
    (k : W p l e R s m args below meth c H locs cells slots Q (F0 m tgt ls rest)) : W p l e R s m args below meth c H locs cells slots Q (F0 m pc ls (.int x :: rest)) := lv_tableOut S.1 S.2.1 hdg (by omega) ht k
theorem ne_toInt {x v : Int32} (h : ¬ x = v) {k : Int} (hk : v.toInt = k) : x.toInt ≠ k := fun z => h (Int32.toInt_inj.mp (z.trans hk.symm))
end RR
