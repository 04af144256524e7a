/-! rows over the memory of numbered cells; contracts -/
abbrev vwCl : List vw_C := [(RX0, TX0, 1), (RX1, TX1, 12), (RX3, TX3, 1), (RX4, TX4, 1), (RX5, TX5, 1), (RX6, TX6, 1), (RX7, TX7, 4), (RX8, TX8, 1), (RX9, TX9, 1), (RX10, TX10, 1), (RX11, TX11, 9), (RX12, TX12, 20)]
def tyl (g : GE) : List (ClassId × FieldType) := [(g.2.1 0, .int), (g.2.1 1, .object "SideBySide$Shelf"), (g.2.1 2, .object "SideBySide$Stroke")]
def nml : List (String × Nat × MethodName × String) := [("SideBySide", 11, ⟨"SideBySide$Court", "<init>", "()V"⟩, "SideBySide"), ("SideBySide", 41, ⟨"SideBySide$Shelf", "<init>", "()V"⟩, "SideBySide"), ("SideBySide$Court", 58, ⟨"SideBySide", "isBelow", "(II)Z"⟩, "SideBySide"), ("SideBySide$Court", 86, ⟨"SideBySide", "way", "(II)I"⟩, "SideBySide"), ("SideBySide$CourtText", 23, ⟨"SideBySide", "isBelow", "(II)Z"⟩, "SideBySide"), ("SideBySide$Shelf", 38, ⟨"SideBySide", "isBelow", "(II)Z"⟩, "SideBySide")]
def ncl : List String := ["SideBySide$Smash", "SideBySide$Drop", "SideBySide$Lift", "SideBySide$Push", "SideBySide$Flick", "SideBySide$Between", "SideBySide$Wander"]
/-- what the tables say that isn't a good word, and what is known of classes -/
def KK (g : GE) (U : State) : Prop := va_K g.1 vwCl (tyl g) U ∧ (∀ q ∈ nml, va_Nw (.methodLinkNest q.1 q.2.1 q.2.2.1 q.2.2.2) U) ∧ ∀ C ∈ ncl, va_Nw (.castable C "SideBySide$Stroke") U
theorem KK.warm {g : GE} {s U : State} (h : KK g s) (hW : s.WarmedH U.vm) : KK g U := ⟨va_K.moved hW.alike h.1, fun q hq => va_Nw.warmM hW (h.2.1 q hq), fun C hC => va_Nw.warmC hW (h.2.2 C hC)⟩
theorem KK.calling {g : GE} {U : State} (h : KK g U) (fr : JFrame) (mk : MethodId) (a : Array Value) : KK g (U.calling fr mk a) := ⟨va_K.moved (u := U) (U := U.calling fr mk a) (Vm.Alike.refl U.vm) h.1, fun q hq => va_Nw.same rfl (rfl : U.vm = (U.calling fr mk a).vm) (h.2.1 q hq), fun C hC => va_Nw.same rfl (rfl : U.vm = (U.calling fr mk a).vm) (h.2.2 C hC)⟩
def Mem (ly : LY) (N : Nat) (g : GE) (A : Nat → Prop) (X : va_W) (σ : IM) (ρ : RM) (H0 H : Heap) (locs : List Loc) : Prop :=
  va_P g.1 vwCl (wl ly N g σ ρ X) H ∧ va_D A (wl ly N g σ ρ X) ∧ va_S A H0 H locs ∧ ∀ q, H0.size ≤ q → A q
/-- what a method wants of its start -/
def PreM (ly : LY) (N : Nat) (g : GE) (A : Nat → Prop) (X : va_W) (σ : IM) (ρ : RM) (U : State) : Prop :=
  (∀ q, U.heap.size ≤ q → A q) ∧ KK g U ∧ va_P g.1 vwCl (wl ly N g σ ρ X) U.heap ∧ va_D A (wl ly N g σ ρ X)
theorem PreM.blind {ly : LY} {N : Nat} {g : GE} {A : Nat → Prop} {X : va_W} {σ : IM} {ρ : RM} {av : List Value} : FrameBlind (va_Pc av (PreM ly N g A X σ ρ)) :=
  fun _ _ fr mk q => ⟨q.1, q.2.1, q.2.2.1.calling fr mk _, q.2.2.2.1, q.2.2.2.2⟩
theorem Mem.pre {ly : LY} {N : Nat} {g : GE} {A : Nat → Prop} {X : va_W} {σ : IM} {ρ : RM} {H0 H : Heap} {locs : List Loc} {s : State} {av : List Value} (h : Mem ly N g A X σ ρ H0 H locs) (hK : KK g s) : ∀ U : State, U.heap = H → s.WarmedH U.vm → va_Pc av (PreM ly N g A X σ ρ) av.toArray U :=
  fun U hU hW => ⟨rfl, fun q hq => h.2.2.2 q (Nat.le_trans h.2.2.1.1 (by rw [← hU]; exact hq)), hK.warm hW, by rw [hU]; exact h.1, h.2.1⟩
theorem Mem.of {ly : LY} {N : Nat} {g : GE} {A : Nat → Prop} {X : va_W} {σ : IM} {ρ : RM} {s : State} (h : PreM ly N g A X σ ρ s) : Mem ly N g A X σ ρ s.heap s.heap [] := ⟨h.2.2.1, h.2.2.2, va_S.rf, h.1⟩
/-- an answer; the heap as it was -/
def Qp (v : Option Value) : Array Value → State → Outcome → State → Prop := fun _ st oc t => oc = .returned v ∧ t.heap = st.heap
/-- an answer; the memory as it is then -/
def Qm (ly : LY) (N : Nat) (g : GE) (A : Nat → Prop) (X : va_W) (σ : IM) (ρ : RM) (v : Option Value) : Array Value → State → Outcome → State → Prop := fun _ st oc t =>
  oc = .returned v ∧ va_P g.1 vwCl (wl ly N g σ ρ X) t.heap ∧ va_D A (wl ly N g σ ρ X) ∧ va_F A st t
abbrev NoA : Nat → Prop := fun _ => False
/-- a class of the list, its words among all -/
def CF (ci : Nat) (C : String) (T : u_T) (n : Nat) : Prop := vwCl[ci]? = some (C, T, n) ∧ ∀ w ∈ u_ws C T n, w ∈ UL
theorem cf_of {ci n : Nat} {C : String} {T : u_T} (h : vwCl[ci]? = some (C, T, n)) (hw : (u_ws C T n).all (fun w => decide (w ∈ tables_1) && goodWord w) = true) : CF ci C T n :=
  ⟨h, fun w hm => by
    have h1 := List.all_eq_true.mp hw w hm
    simp only [Bool.and_eq_true, decide_eq_true_eq] at h1
    exact ul_t h1.1 h1.2⟩
theorem cfX0 : CF 0 RX0 TX0 1 := cf_of rfl (by decide +kernel)
theorem cfX1 : CF 1 RX1 TX1 12 := cf_of rfl (by decide +kernel)
theorem cfX3 : CF 2 RX3 TX3 1 := cf_of rfl (by decide +kernel)
theorem cfX4 : CF 3 RX4 TX4 1 := cf_of rfl (by decide +kernel)
theorem cfX5 : CF 4 RX5 TX5 1 := cf_of rfl (by decide +kernel)
theorem cfX6 : CF 5 RX6 TX6 1 := cf_of rfl (by decide +kernel)
theorem cfX7 : CF 6 RX7 TX7 4 := cf_of rfl (by decide +kernel)
theorem cfX8 : CF 7 RX8 TX8 1 := cf_of rfl (by decide +kernel)
theorem cfX9 : CF 8 RX9 TX9 1 := cf_of rfl (by decide +kernel)
theorem cfX10 : CF 9 RX10 TX10 1 := cf_of rfl (by decide +kernel)
theorem cfX11 : CF 10 RX11 TX11 9 := cf_of rfl (by decide +kernel)
theorem cfX12 : CF 11 RX12 TX12 20 := cf_of rfl (by decide +kernel)
/-- the words of calls -/
theorem ul_good {w : Cond} (h : w ∈ UL) : (w.onTables && w.keeps) = true ∨ ∃ ty, w = .arrayClass ty := good_of_word (List.mem_filter.mp h).2
theorem ul_G {ws : List Cond} (h : ∀ w ∈ ws, w ∈ UL) : GoodIn UL ws := fun w hw => ⟨h w hw, ul_good (h w hw)⟩
theorem ul_c {w : Cond} (h : w ∈ UL) : ∀ z ∈ w :: UL, z ∈ UL := fun z hz => (List.mem_cons.mp hz).elim (fun e => e ▸ h) id
theorem ul_V {own C : String} {idx n : Nat} {y : MethodName} {b : ByteArray} {r : Option FieldType} (h1 : Cond.methodLink own idx y ∈ UL) (h2 : Cond.instanceMethod y ∈ UL) (h3 : Cond.selects C y y ∈ UL) (h4 : Cond.initialized C ∈ UL) (h5 : Cond.code y b n r ∈ UL) : GoodIn UL (wsV own idx C y (.code y b n r :: UL)) :=
  ul_G (fun w hw => (List.mem_append.mp hw).elim (fun hw => by
    simp only [List.mem_cons, List.not_mem_nil, or_false] at hw
    rcases hw with rfl | rfl | rfl | rfl <;> assumption) (ul_c h5 w))
theorem ul_S {own : String} {idx n : Nat} {y : MethodName} {b : ByteArray} {r : Option FieldType} (h1 : Cond.methodLink own idx y ∈ UL) (h2 : Cond.static y ∈ UL) (h4 : Cond.initialized y.cls ∈ UL) (h5 : Cond.code y b n r ∈ UL) : GoodIn UL (va_wsS own idx y (.code y b n r :: UL)) :=
  ul_G (fun w hw => (List.mem_append.mp hw).elim (fun hw => by
    simp only [List.mem_cons, List.not_mem_nil, or_false] at hw
    rcases hw with rfl | rfl | rfl <;> assumption) (ul_c h5 w))
theorem ul_U {own C owner : String} {idx n : Nat} {x y : MethodName} {b : ByteArray} {r : Option FieldType} (h1 : Cond.methodLink own idx x ∈ UL) (h2 : Cond.sameMethod x.cls owner x.name x.desc ∈ UL) (h3 : Cond.selects C x y ∈ UL) (h6 : Cond.instanceMethod y ∈ UL) (h4 : Cond.initialized y.cls ∈ UL) (h5 : Cond.code y b n r ∈ UL) : GoodIn UL (va_wsU own idx C owner x y (.code y b n r :: UL)) :=
  ul_G (fun w hw => (List.mem_append.mp hw).elim (fun hw => by
    simp only [List.mem_cons, List.not_mem_nil, or_false] at hw
    rcases hw with rfl | rfl | rfl | rfl | rfl <;> assumption) (ul_c h5 w))
theorem ul_O {own C owner : String} {idx n : Nat} {x y : MethodName} {b : ByteArray} {r : Option FieldType} (h1 : Cond.methodLink own idx x ∈ UL) (h2 : Cond.sameMethod x.cls owner x.name x.desc ∈ UL) (h7 : Cond.instanceMethod ⟨owner, x.name, x.desc⟩ ∈ UL) (h3 : Cond.selects C x y ∈ UL) (h6 : Cond.instanceMethod y ∈ UL) (h4 : Cond.initialized y.cls ∈ UL) (h5 : Cond.code y b n r ∈ UL) : GoodIn UL (va_wsO own idx C owner x y (.code y b n r :: UL)) :=
  ul_G (fun w hw => (List.mem_append.mp hw).elim (fun hw => by
    simp only [List.mem_cons, List.not_mem_nil, or_false] at hw
    rcases hw with rfl | rfl | rfl | rfl | rfl | rfl <;> assumption) (ul_c h5 w))
theorem ul_SU {own : String} {idx n : Nat} {y : MethodName} {b : ByteArray} {r : Option FieldType} (h1 : Cond.methodLink own idx y ∈ UL) (h2 : Cond.sameMethod y.cls y.cls y.name y.desc ∈ UL) (h3 : Cond.superclass own y.cls ∈ UL) (h6 : Cond.instanceMethod y ∈ UL) (h4 : Cond.initialized y.cls ∈ UL) (h5 : Cond.code y b n r ∈ UL) : GoodIn UL (va_wsSU own idx y (.code y b n r :: UL)) :=
  ul_G (fun w hw => (List.mem_append.mp hw).elim (fun hw => by
    simp only [List.mem_cons, List.not_mem_nil, or_false] at hw
    rcases hw with rfl | rfl | rfl | rfl | rfl <;> assumption) (ul_c h5 w))
section RR
variable {p : Program} {l : Launch} {e : Env} {R : Room} {s : State} {m : MethodId} {args : Array Value} {below : List Frame} {meth : Method} {c : Code} {H H0 : Heap} {locs : List Loc} {cells slots : Nat} {Q : State → Prop}
variable {cc : ByteArray} {pc nL index : Nat} {ls : Array Slot} {rest : List Value} {own : String} {ly : LY} {N : Nat} {g : GE} {A : Nat → Prop} {X : va_W} {σ : IM} {ρ : RM}
theorem r_getI (S : CallFix p m c cc nL s args UL own) (hK : KK g s) (hM : Mem ly N g A X σ ρ H0 H locs) {ci nF : Nat} {C : String} {T : u_T} (cf : CF ci C T nF) (i k : Nat) {ts : List Nat} (hi : i < N) (hl : ly i = .inr (ci, ts)) (ht : ts[k]? = some 0) (hk : k < nF) (hlink : Cond.fieldLink own index (T k).1 (T k).2.1 (T k).2.2.1 ∈ UL) (hdg : decode cc pc = .ok (.getfield index, 3))
    (kk : W p l e R s m args below meth c H locs cells slots Q (F0 m (pc + 3) ls (.int (σ i k) :: rest))) : W p l e R s m args below meth c H locs cells slots Q (F0 m pc ls (.ref (g.2.2 i) :: rest)) :=
  va_get S.1 S.2.1 S.2.2.2.2 cf.2 S.2.2.2.1 hK.1 hM.1 i ((wl_at hi).trans (by rw [hl]; rfl)) cf.1 k hk (S.2.2.2.2 _ hlink) (fun _ h => h) (fvs_get ht) hdg kk
theorem r_getC (S : CallFix p m c cc nL s args UL own) (hK : KK g s) (hM : Mem ly N g A X σ ρ H0 H locs) {ci nF : Nat} {C : String} {T : u_T} (cf : CF ci C T nF) (i k j : Nat) {ts : List Nat} (hi : i < N) (hl : ly i = .inr (ci, ts)) (ht : ts[k]? = some (j + 2)) (hk : k < nF) (hlink : Cond.fieldLink own index (T k).1 (T k).2.1 (T k).2.2.1 ∈ UL) (hdg : decode cc pc = .ok (.getfield index, 3))
    (kk : W p l e R s m args below meth c H locs cells slots Q (F0 m (pc + 3) ls (.ref (g.2.2 j) :: rest))) : W p l e R s m args below meth c H locs cells slots Q (F0 m pc ls (.ref (g.2.2 i) :: rest)) :=
  va_get S.1 S.2.1 S.2.2.2.2 cf.2 S.2.2.2.1 hK.1 hM.1 i ((wl_at hi).trans (by rw [hl]; rfl)) cf.1 k hk (S.2.2.2.2 _ hlink) (fun _ h => h) (fvs_get ht) hdg kk
theorem r_getR (S : CallFix p m c cc nL s args UL own) (hK : KK g s) (hM : Mem ly N g A X σ ρ H0 H locs) {ci nF : Nat} {C : String} {T : u_T} (cf : CF ci C T nF) (i k : Nat) {ts : List Nat} {v : Option Nat} (hv : ρ i k = v) (hi : i < N) (hl : ly i = .inr (ci, ts)) (ht : ts[k]? = some 1) (hk : k < nF) (hlink : Cond.fieldLink own index (T k).1 (T k).2.1 (T k).2.2.1 ∈ UL) (hdg : decode cc pc = .ok (.getfield index, 3))
    (kk : W p l e R s m args below meth c H locs cells slots Q (F0 m (pc + 3) ls (va_rf v :: rest))) : W p l e R s m args below meth c H locs cells slots Q (F0 m pc ls (.ref (g.2.2 i) :: rest)) := by
  subst hv
  exact va_get S.1 S.2.1 S.2.2.2.2 cf.2 S.2.2.2.1 hK.1 hM.1 i ((wl_at hi).trans (by rw [hl]; rfl)) cf.1 k hk (S.2.2.2.2 _ hlink) (fun _ h => h) (fvs_get ht) hdg kk
theorem fvs_len {adr : Nat → Nat} {i : Nat} {ts : List Nat} : (fvs adr σ ρ i ts).length = ts.length := by simp [fvs]
theorem r_putI (S : CallFix p m c cc nL s args UL own) (hK : KK g s) (hM : Mem ly N g A X σ ρ H0 H locs) {ci nF : Nat} {C : String} {T : u_T} (cf : CF ci C T nF) {ty0 : Nat → FieldType} (hty : ∀ k, k < nF → parseFieldDescriptor (T k).2.2.1 = some (ty0 k)) (hnm : ∀ a, a < nF → ∀ b, b < nF → a ≠ b → (T a).2.1 ≠ (T b).2.1) (i k : Nat) {ts : List Nat} {v : Int32} (hi : i < N) (hl : ly i = .inr (ci, ts)) (ht : ts[k]? = some 0) (hk : k < nF) (hlink : Cond.fieldLink own index (T k).1 (T k).2.1 (T k).2.2.1 ∈ UL) (hfin : (T k).2.2.2 = false) {ty : FieldType} (hd : parseFieldDescriptor (T k).2.2.1 = some ty) (hn : narrow ty (.int v) = .int v) (hfit : fits ty (.int v) = true) {σ' : IM} (hσ : σ' = up2 σ i k v) (hdg : decode cc pc = .ok (.putfield index, 3))
    (kk : ∀ (H1 : Heap) (locs1 : List Loc), Mem ly N g A X σ' ρ H0 H1 locs1 → W p l e R s m args below meth c H1 locs1 cells slots Q (F0 m (pc + 3) ls rest)) : W p l e R s m args below meth c H locs cells slots Q (F0 m pc ls (.int v :: .ref (g.2.2 i) :: rest)) := by
  refine va_put S.1 S.2.1 S.2.2.2.2 cf.2 ty0 hty hnm S.2.2.2.1 hK.1 hM.1 hM.2.1 hM.2.2.1 i ((wl_at hi).trans (by rw [hl]; rfl)) cf.1 k hk (S.2.2.2.2 _ hlink) (fun _ h => h) hfin hd hn hfit (by rw [fvs_len]; exact (List.getElem?_eq_some_iff.mp ht).1) hdg (fun H1 locs1 h1 h2 h3 => ?_)
  rw [wl_setI hi hl ht, ← hσ] at h1 h2
  exact kk H1 locs1 ⟨h1, h2, h3, hM.2.2.2⟩
theorem r_putR (S : CallFix p m c cc nL s args UL own) (hK : KK g s) (hM : Mem ly N g A X σ ρ H0 H locs) {ci nF : Nat} {C : String} {T : u_T} (cf : CF ci C T nF) {ty0 : Nat → FieldType} (hty : ∀ k, k < nF → parseFieldDescriptor (T k).2.2.1 = some (ty0 k)) (hnm : ∀ a, a < nF → ∀ b, b < nF → a ≠ b → (T a).2.1 ≠ (T b).2.1) (i k : Nat) {ts : List Nat} {v : Option Nat} {vv : Value} (hvv : vv = va_rf v) (hi : i < N) (hl : ly i = .inr (ci, ts)) (ht : ts[k]? = some 1) (hk : k < nF) (hlink : Cond.fieldLink own index (T k).1 (T k).2.1 (T k).2.2.1 ∈ UL) (hfin : (T k).2.2.2 = false) {ty : FieldType} (hd : parseFieldDescriptor (T k).2.2.1 = some ty) (hn : narrow ty vv = vv) (hfit : fits ty vv = true) {ρ' : RM} (hρ : ρ' = upr ρ i k v) (hdg : decode cc pc = .ok (.putfield index, 3))
    (kk : ∀ (H1 : Heap) (locs1 : List Loc), Mem ly N g A X σ ρ' H0 H1 locs1 → W p l e R s m args below meth c H1 locs1 cells slots Q (F0 m (pc + 3) ls rest)) : W p l e R s m args below meth c H locs cells slots Q (F0 m pc ls (vv :: .ref (g.2.2 i) :: rest)) := by
  subst hvv
  refine va_put S.1 S.2.1 S.2.2.2.2 cf.2 ty0 hty hnm S.2.2.2.1 hK.1 hM.1 hM.2.1 hM.2.2.1 i ((wl_at hi).trans (by rw [hl]; rfl)) cf.1 k hk (S.2.2.2.2 _ hlink) (fun _ h => h) hfin hd hn hfit (by rw [fvs_len]; exact (List.getElem?_eq_some_iff.mp ht).1) hdg (fun H1 locs1 h1 h2 h3 => ?_)
  rw [wl_setR hi hl ht, ← hρ] at h1 h2
  exact kk H1 locs1 ⟨h1, h2, h3, hM.2.2.2⟩
theorem r_iald (S : CallFix p m c cc nL s args UL own) (hK : KK g s) (hM : Mem ly N g A X σ ρ H0 H locs) (i : Nat) {n : Nat} {j : Int32} (hi : i < N) (hl : ly i = .inl (0, n)) (hin : ¬ (j < 0 ∨ n ≤ j.toNatClampNeg)) {v : Int32} (hv : v = σ i j.toNatClampNeg) (hdg : decode cc pc = .ok (.iaload, 1))
    (kk : W p l e R s m args below meth c H locs cells slots Q (F0 m (pc + 1) ls (.int v :: rest))) : W p l e R s m args below meth c H locs cells slots Q (F0 m pc ls (.int j :: .ref (g.2.2 i) :: rest)) :=
  va_iald S.1 S.2.1 hK.1 hM.1 i 0 ((wl_at hi).trans (by rw [hl]; rfl)) rfl hin hdg (by rw [← hv]; exact kk)
theorem r_iast (S : CallFix p m c cc nL s args UL own) (hK : KK g s) (hM : Mem ly N g A X σ ρ H0 H locs) (i : Nat) {n : Nat} {j v : Int32} (hi : i < N) (hl : ly i = .inl (0, n)) (hin : ¬ (j < 0 ∨ n ≤ j.toNatClampNeg)) {σ' : IM} (hσ : σ' = up2 σ i j.toNatClampNeg v) (hdg : decode cc pc = .ok (.iastore, 1))
    (kk : ∀ (H1 : Heap) (locs1 : List Loc), Mem ly N g A X σ' ρ H0 H1 locs1 → W p l e R s m args below meth c H1 locs1 cells slots Q (F0 m (pc + 1) ls rest)) : W p l e R s m args below meth c H locs cells slots Q (F0 m pc ls (.int v :: .int j :: .ref (g.2.2 i) :: rest)) := by
  refine va_iast S.1 S.2.1 hK.1 hM.1 hM.2.1 hM.2.2.1 i 0 ((wl_at hi).trans (by rw [hl]; rfl)) rfl hin hdg (fun H1 locs1 h1 h2 h3 => ?_)
  rw [wl_setA hi hl, ← hσ] at h1 h2
  exact kk H1 locs1 ⟨h1, h2, h3, hM.2.2.2⟩
theorem r_aaldS (S : CallFix p m c cc nL s args UL own) (hK : KK g s) (hM : Mem ly N g A X σ ρ H0 H locs) (i : Nat) {n : Nat} {j : Int32} (hi : i < N) (hl : ly i = .inl (1, n)) (hin : ¬ (j < 0 ∨ n ≤ j.toNatClampNeg)) {jj : Nat} (hjj : jj = j.toNatClampNeg) (hdg : decode cc pc = .ok (.aaload, 1))
    (kk : W p l e R s m args below meth c H locs cells slots Q (F0 m (pc + 1) ls (.ref (g.2.2 (29 + 2 * jj)) :: rest))) : W p l e R s m args below meth c H locs cells slots Q (F0 m pc ls (.int j :: .ref (g.2.2 i) :: rest)) :=
  va_aldq (C := "SideBySide$Shelf") (f := fun j => some (g.2.2 (29 + 2 * j))) S.1 S.2.1 hK.1 hM.1 i 1 ((wl_at hi).trans (by rw [hl]; rfl)) rfl hin hdg (by subst hjj; exact kk)
theorem r_aald (S : CallFix p m c cc nL s args UL own) (hK : KK g s) (hM : Mem ly N g A X σ ρ H0 H locs) (i : Nat) {n : Nat} {j : Int32} {q : Nat} (hi : i < N) (hl : ly i = .inl (2, n)) (hin : ¬ (j < 0 ∨ n ≤ j.toNatClampNeg)) (hq : ρ i j.toNatClampNeg = some q) (hdg : decode cc pc = .ok (.aaload, 1))
    (kk : W p l e R s m args below meth c H locs cells slots Q (F0 m (pc + 1) ls (.ref q :: rest))) : W p l e R s m args below meth c H locs cells slots Q (F0 m pc ls (.int j :: .ref (g.2.2 i) :: rest)) :=
  va_aldq (C := "SideBySide$Stroke") S.1 S.2.1 hK.1 hM.1 i 2 ((wl_at hi).trans (by rw [hl]; rfl)) rfl hin hdg (by rw [hq]; exact kk)
/-- calls that leave the heap as it is -/
theorem k_p {v : Value} {st0 : List Value} {a : Array Value} (hr : va_Run p l e R s m args below meth c H locs cells slots 0 0 (F0 m pc ls st0) rest (Qp (some v) a) NoA) (kk : W p l e R s m args below meth c H locs cells slots Q (F0 m (pc + 3) ls (v :: rest))) : W p l e R s m args below meth c H locs cells slots Q (F0 m pc ls st0) := by
  intro T hT X'
  obtain ⟨w, st₀, t, T', L, h0, X1, hL, e1, e2, ⟨hv, hh⟩, st⟩ := hr T hT X'
  cases hv
  have hLn : L = [] := by
    cases L with
    | nil => rfl
    | cons z zs => exact (hL z List.mem_cons_self).elim
  subst hLn
  rw [List.append_nil] at X1
  obtain ⟨t2, a1, b1⟩ := kk T' (by rw [e1, hh, h0]) X1
  exact ⟨t2, st t2 a1, b1⟩
/-- calls that change the memory -/
theorem k_m {v : Option Value} {st0 : List Value} {a : Array Value} {X' : va_W} {σ' : IM} {ρ' : RM} (hr : va_Run p l e R s m args below meth c H locs cells slots 0 0 (F0 m pc ls st0) rest (Qm ly N g A X' σ' ρ' v a) A) (hM : Mem ly N g A X σ ρ H0 H locs) (kk : ∀ (H1 : Heap) (locs1 : List Loc), Mem ly N g A X' σ' ρ' H0 H1 locs1 → W p l e R s m args below meth c H1 locs1 cells slots Q (F0 m (pc + 3) ls (v.toList ++ rest))) : W p l e R s m args below meth c H locs cells slots Q (F0 m pc ls st0) := by
  intro T hT X1
  obtain ⟨w, st₀, t, T', L, h0, X2, hL, e1, e2, ⟨hv, hp, hd, hz, hf⟩, st⟩ := hr T hT X1
  cases hv
  rw [h0] at hz hf
  obtain ⟨t2, a1, b1⟩ := kk T'.heap (locs ++ L) ⟨by rw [e1]; exact hp, hd, ⟨Nat.le_trans hM.2.2.1.1 (by rw [e1]; exact hz), fun q h1 h2 => by
      rw [e1, hf q (Nat.lt_of_lt_of_le h1 hM.2.2.1.1) h2]
      exact hM.2.2.1.2.1 q h1 h2, fun q hq => by
      rcases List.mem_append.mp hq with h | h
      · exact hM.2.2.1.2.2 q h
      · exact hL q h⟩, hM.2.2.2⟩ T' rfl X2
  exact ⟨t2, st t2 a1, b1⟩
end RR
/-- a method's entry -/
theorem e_of {l : Launch} {y : MethodName} {cc : ByteArray} {maxL : Nat} {ret : Option FieldType} {rm : Room} {av : List Value} {Pre : State → Prop} {Qc : Array Value → State → Outcome → State → Prop} {free : Addr → Prop} (hy : plainName y.cls = true) (hn : (lg_sl av).length ≤ maxL)
    (body : ∀ (p : Program) (e : Env) (s : State) (m : MethodId) (below : List Frame) (meth : Method) (c : Code) (ls : Array Slot), CallFix p m c cc maxL s av.toArray UL y.cls → meth.sig.returnType = ret → meth.locks = false → Pre s → lv_has ls maxL (lv_args 0 av) →
      W p l e rm s m av.toArray below meth c s.heap [] 0 0 (MQ below Qc av.toArray s 0 0 free) (F0 m 0 ls [])) : Met l y (.code y cc maxL ret :: UL) rm (va_Pc av Pre) Qc 0 0 free := by
  refine Met.ofW (cc := cc) (maxL := maxL) (ret := ret) hy rfl ?_
  intro p e s m args below meth c s₁ B hml hv
  obtain ⟨rfl, hv⟩ := hv
  have hl := lv_entry av (n := maxL) hn
  rw [lg_entry_eq]
  exact body p e s m below meth c _ ⟨B.exec, B.bytes, hml, findClass_of_methodNamed B.named, fun w hw => atoms_spec (ws := .code y cc maxL ret :: UL) B.pre w (List.mem_cons_of_mem _ hw)⟩ B.returns B.notSynchronized hv hl
