/-! objects born: rows over worlds with a prefix; the constructors of a shelf and of a court -/
def AO (U : State) : Prop := va_AO "SideBySide$Stroke" U ∧ va_AO "SideBySide$Shelf" U
theorem AO.warm {s U : State} (h : AO s) (hW : s.WarmedH U.vm) : AO U := ⟨h.1.moved hW.alike, h.2.moved hW.alike⟩
def PreO (g : GE) (A : Nat → Prop) (ws : va_W) (U : State) : Prop := PreW g A ws U ∧ AO U
theorem PreO.blind {g : GE} {A : Nat → Prop} {ws : va_W} {av : List Value} : FrameBlind (va_Pc av (PreO g A ws)) :=
  fun a U fr mk q => ⟨q.1, (PreW.blind (av := av) a U fr mk ⟨q.1, q.2.1⟩).2, q.2.2.1.moved (U := U.calling fr mk a) (Vm.Alike.refl U.vm), q.2.2.2.moved (U := U.calling fr mk a) (Vm.Alike.refl U.vm)⟩
theorem MemW.preO {g : GE} {A : Nat → Prop} {ws : va_W} {H0 H : Heap} {locs : List Loc} {s : State} {av : List Value} (h : MemW g A ws H0 H locs) (hK : KK g s) (hO : AO s) : ∀ U : State, U.heap = H → s.WarmedH U.vm → va_Pc av (PreO g A ws) av.toArray U :=
  fun U hU hW => ⟨rfl, (h.pre (av := av) hK U hU hW).2, hO.warm hW⟩
theorem ap_at {X Y : va_W} {i : Nat} {e : Nat × va_E} (h : Y[i]? = some e) : (X ++ Y)[X.length + i]? = some e := by
  rw [List.getElem?_append_right (by omega), Nat.add_sub_cancel_left]
  exact h
theorem ap_set {X Y : va_W} {i : Nat} {e : Nat × va_E} : (X ++ Y).set (X.length + i) e = X ++ Y.set i e := by
  rw [List.set_append_right _ _ (by omega), Nat.add_sub_cancel_left]
theorem KK.arr {g : GE} {s : State} (hK : KK g s) {k : Nat} {ty : FieldType} (ht : (tyl g)[k]? = some (g.2.1 k, ty)) {cA : ClassId} (hA : va_K g.1 vwCl (tyl g ++ [(cA, ty)]) s) : cA = g.2.1 k := by
  have h1 := (hK.1.2 k _ ht).2
  have h2 := (hA.2 3 (cA, ty) rfl).2
  cases ty with
  | object C =>
    obtain ⟨_, _, -, -, -, e1⟩ := h1
    obtain ⟨_, _, -, -, -, e2⟩ := h2
    exact Option.some.inj (e2.symm.trans e1)
  | _ => exact Option.some.inj (h2.symm.trans h1)
section RR
variable {p : Program} {l : Launch} {e : Env} {R : Room} {s : State} {m : MethodId} {args : Array Value} {below : List Frame} {meth : Method} {c : Code} {H H0 : Heap} {locs : List Loc} {cells slots : Nat} {Q : State → Prop}
variable {cc : ByteArray} {pc nL index : Nat} {ls : Array Slot} {rest : List Value} {own : String} {g : GE} {A : Nat → Prop} {X Y : va_W}
theorem n_newa (S : CallFix p m c cc nL s args UL own) (hK : KK g s) (hM : MemW g A (X ++ Y) H0 H locs) {n : Int32} {N : Nat} (hn : ¬ n < 0) (hN : n.toNatClampNeg = N) (hb : N * 4 ≤ 536870912) (hc : cells + 1 ≤ R.cells) (hs : slots + N ≤ R.slots) (hdg : decode cc pc = .ok (.newarray .int, 2))
    (kk : ∀ (q : Nat) (H1 : Heap), MemW g A (X ++ (Y ++ [(q, .inl (g.2.1 0, N, .inl (fun _ => 0)))])) H0 H1 locs → W p l e R s m args below meth c H1 locs (cells + 1) (slots + N) Q (F0 m (pc + 2) ls (.ref q :: rest))) : W p l e R s m args below meth c H locs cells slots Q (F0 m pc ls (.int n :: rest)) := by
  refine va_newa (atype := .int) (ty := .int) (a0 := (N, .inl (fun _ => 0))) S.1 S.2.1 (S.2.2.2.2 _ tw_1_88) rfl hK.1 hM.1 hM.2.1 hM.2.2.1 hM.2.2.2 (fun _ => rfl) hn hN hb hc hs hdg (fun q cA H1 k1 k2 k3 k4 => ?_)
  have e := hK.arr (k := 0) rfl k1
  subst e
  rw [List.append_assoc] at k2 k3
  exact kk q H1 ⟨k2, k3, k4, hM.2.2.2⟩
theorem n_newq (S : CallFix p m c cc nL s args UL own) (hK : KK g s) (hM : MemW g A (X ++ Y) H0 H locs) {C : String} {t : Nat} (ht : (tyl g)[t]? = some (g.2.1 t, .object C)) (hO : va_AO C s) (hl : Cond.classLink own index C ∈ UL) {n : Int32} {N : Nat} (hn : ¬ n < 0) (hN : n.toNatClampNeg = N) (hb : N * 4 ≤ 536870912) (hc : cells + 1 ≤ R.cells) (hs : slots + N ≤ R.slots) (hdg : decode cc pc = .ok (.anewarray index, 3))
    (kk : ∀ (q : Nat) (H1 : Heap), MemW g A (X ++ (Y ++ [(q, .inl (g.2.1 t, N, .inr (.inr (.inr (.inr (fun _ => none))))))])) H0 H1 locs → W p l e R s m args below meth c H1 locs (cells + 1) (slots + N) Q (F0 m (pc + 3) ls (.ref q :: rest))) : W p l e R s m args below meth c H locs cells slots Q (F0 m pc ls (.int n :: rest)) := by
  refine va_newq (C := C) S.1 S.2.1 S.2.2.2.1 (S.2.2.2.2 _ hl) hO hK.1 hM.1 hM.2.1 hM.2.2.1 hM.2.2.2 hn hN hb hc hs hdg (fun q cA H1 k1 k2 k3 k4 => ?_)
  have e := hK.arr ht k1
  subst e
  rw [List.append_assoc] at k2 k3
  exact kk q H1 ⟨k2, k3, k4, hM.2.2.2⟩
theorem n_new (S : CallFix p m c cc nL s args UL own) (hK : KK g s) (hM : MemW g A (X ++ Y) H0 H locs) {ci nF : Nat} {C : String} {T : u_T} (cf : CF ci C T nF) {ty : Nat → FieldType} (hty : ∀ k, k < nF → parseFieldDescriptor (T k).2.2.1 = some (ty k)) (hl : Cond.classLink own index C ∈ UL) (hi : Cond.instantiable C nF ∈ UL) (hz : Cond.initialized C ∈ UL) {fs : List Value} (hfs : ∀ j, j < nF → defaultValue (ty j) = vp_V fs j) (hc : cells + 1 ≤ R.cells) (hs : slots + nF ≤ R.slots) (hdg : decode cc pc = .ok (.new index, 3))
    (kk : ∀ (q : Nat) (H1 : Heap), MemW g A (X ++ (Y ++ [(q, .inr (ci, fs))])) H0 H1 locs → W p l e R s m args below meth c H1 locs (cells + 1) (slots + nF) Q (F0 m (pc + 3) ls (.ref q :: rest))) : W p l e R s m args below meth c H locs cells slots Q (F0 m pc ls rest) := by
  refine va_new (cl := vwCl) S.1 S.2.1 S.2.2.2.2 cf.2 ty hty S.2.2.2.1 (S.2.2.2.2 _ hl) (S.2.2.2.2 _ hi) (S.2.2.2.2 _ hz) hK.1 hM.1 hM.2.1 hM.2.2.1 hM.2.2.2 cf.1 hfs hc hs hdg (fun q H1 k2 k3 k4 => ?_)
  rw [List.append_assoc] at k2 k3
  exact kk q H1 ⟨k2, k3, k4, hM.2.2.2⟩
theorem n_putF (S : CallFix p m c cc nL s args UL own) (hK : KK g s) (hM : MemW g A (X ++ Y) H0 H locs) {ci nF : Nat} {C : String} {T : u_T} (cf : CF ci C T nF) {ty0 : Nat → FieldType} (hty : ∀ k, k < nF → parseFieldDescriptor (T k).2.2.1 = some (ty0 k)) (hnm : ∀ a, a < nF → ∀ b, b < nF → a ≠ b → (T a).2.1 ≠ (T b).2.1) (hin : meth.name = "<init>") (i k : Nat) {a : Nat} {fs : List Value} {v : Value} (hY : Y[i]? = some (a, .inr (ci, fs))) (hk : k < nF) (hlink : Cond.fieldLink own index (T k).1 (T k).2.1 (T k).2.2.1 ∈ UL) (hfin : (T k).2.2.2 = true) (hdecl : (T k).1 = own) {ty : FieldType} (hd : parseFieldDescriptor (T k).2.2.1 = some ty) (hn : narrow ty v = v) (hfit : fits ty v = true) (hlen : k < fs.length) (hdg : decode cc pc = .ok (.putfield index, 3))
    (kk : ∀ (H1 : Heap) (locs1 : List Loc), MemW g A (X ++ Y.set i (a, .inr (ci, fs.set k v))) H0 H1 locs1 → W p l e R s m args below meth c H1 locs1 cells slots Q (F0 m (pc + 3) ls rest)) : W p l e R s m args below meth c H locs cells slots Q (F0 m pc ls (v :: .ref a :: rest)) := by
  refine va_putF (cl := vwCl) S.1 S.2.1 S.2.2.2.2 cf.2 ty0 hty hnm S.2.2.2.1 hK.1 hM.1 hM.2.1 hM.2.2.1 (X.length + i) (ap_at hY) cf.1 k hk (S.2.2.2.2 _ hlink) (fun _ h => h) hfin hin hdecl hd hn hfit hlen hdg (fun H1 locs1 h1 h2 h3 => ?_)
  rw [ap_set] at h1 h2
  exact kk H1 locs1 ⟨h1, h2, h3, hM.2.2.2⟩
theorem n_put (S : CallFix p m c cc nL s args UL own) (hK : KK g s) (hM : MemW g A (X ++ Y) H0 H locs) {ci nF : Nat} {C : String} {T : u_T} (cf : CF ci C T nF) {ty0 : Nat → FieldType} (hty : ∀ k, k < nF → parseFieldDescriptor (T k).2.2.1 = some (ty0 k)) (hnm : ∀ a, a < nF → ∀ b, b < nF → a ≠ b → (T a).2.1 ≠ (T b).2.1) (i k : Nat) {a : Nat} {fs : List Value} {v : Value} (hY : Y[i]? = some (a, .inr (ci, fs))) (hk : k < nF) (hlink : Cond.fieldLink own index (T k).1 (T k).2.1 (T k).2.2.1 ∈ UL) (hfin : (T k).2.2.2 = false) {ty : FieldType} (hd : parseFieldDescriptor (T k).2.2.1 = some ty) (hn : narrow ty v = v) (hfit : fits ty v = true) (hlen : k < fs.length) (hdg : decode cc pc = .ok (.putfield index, 3))
    (kk : ∀ (H1 : Heap) (locs1 : List Loc), MemW g A (X ++ Y.set i (a, .inr (ci, fs.set k v))) H0 H1 locs1 → W p l e R s m args below meth c H1 locs1 cells slots Q (F0 m (pc + 3) ls rest)) : W p l e R s m args below meth c H locs cells slots Q (F0 m pc ls (v :: .ref a :: rest)) := by
  refine va_put (cl := vwCl) S.1 S.2.1 S.2.2.2.2 cf.2 ty0 hty hnm S.2.2.2.1 hK.1 hM.1 hM.2.1 hM.2.2.1 (X.length + i) (ap_at hY) cf.1 k hk (S.2.2.2.2 _ hlink) (fun _ h => h) hfin hd hn hfit hlen hdg (fun H1 locs1 h1 h2 h3 => ?_)
  rw [ap_set] at h1 h2
  exact kk H1 locs1 ⟨h1, h2, h3, hM.2.2.2⟩
theorem n_get (S : CallFix p m c cc nL s args UL own) (hK : KK g s) (hM : MemW g A (X ++ Y) H0 H locs) {ci nF : Nat} {C : String} {T : u_T} (cf : CF ci C T nF) (i k : Nat) {a : Nat} {fs : List Value} {v : Value} (hY : Y[i]? = some (a, .inr (ci, fs))) (hk : k < nF) (hlink : Cond.fieldLink own index (T k).1 (T k).2.1 (T k).2.2.1 ∈ UL) (hv : fs[k]? = some v) (hdg : decode cc pc = .ok (.getfield index, 3))
    (kk : W p l e R s m args below meth c H locs cells slots Q (F0 m (pc + 3) ls (v :: rest))) : W p l e R s m args below meth c H locs cells slots Q (F0 m pc ls (.ref a :: rest)) :=
  va_get S.1 S.2.1 S.2.2.2.2 cf.2 S.2.2.2.1 hK.1 hM.1 (X.length + i) (ap_at hY) cf.1 k hk (S.2.2.2.2 _ hlink) (fun _ h => h) hv hdg kk
theorem n_iast (S : CallFix p m c cc nL s args UL own) (hK : KK g s) (hM : MemW g A (X ++ Y) H0 H locs) (i : Nat) {a n : Nat} {f : Nat → Int32} {j v : Int32} (hY : Y[i]? = some (a, .inl (g.2.1 0, n, .inl f))) (hin : ¬ (j < 0 ∨ n ≤ j.toNatClampNeg)) (hdg : decode cc pc = .ok (.iastore, 1))
    (kk : ∀ (H1 : Heap) (locs1 : List Loc), MemW g A (X ++ Y.set i (a, .inl (g.2.1 0, n, .inl (upd f j.toNatClampNeg v)))) H0 H1 locs1 → W p l e R s m args below meth c H1 locs1 cells slots Q (F0 m (pc + 1) ls rest)) : W p l e R s m args below meth c H locs cells slots Q (F0 m pc ls (.int v :: .int j :: .ref a :: rest)) := by
  refine va_iast S.1 S.2.1 hK.1 hM.1 hM.2.1 hM.2.2.1 (X.length + i) 0 (ap_at hY) rfl hin hdg (fun H1 locs1 h1 h2 h3 => ?_)
  rw [ap_set] at h1 h2
  exact kk H1 locs1 ⟨h1, h2, h3, hM.2.2.2⟩
theorem n_aastS (S : CallFix p m c cc nL s args UL own) (hK : KK g s) (hM : MemW g A (X ++ Y) H0 H locs) (i k : Nat) {a n v : Nat} {f : Nat → Option Nat} {j : Int32} {fs : List Value} (hY : Y[i]? = some (a, .inl (g.2.1 1, n, .inr (.inr (.inr (.inr f)))))) (hV : Y[k]? = some (v, .inr (6, fs))) (hin : ¬ (j < 0 ∨ n ≤ j.toNatClampNeg)) (hdg : decode cc pc = .ok (.aastore, 1))
    (kk : ∀ (H1 : Heap) (locs1 : List Loc), MemW g A (X ++ Y.set i (a, .inl (g.2.1 1, n, .inr (.inr (.inr (.inr (va_up f j.toNatClampNeg (some v)))))))) H0 H1 locs1 → W p l e R s m args below meth c H1 locs1 cells slots Q (F0 m (pc + 1) ls rest)) : W p l e R s m args below meth c H locs cells slots Q (F0 m pc ls (.ref v :: .int j :: .ref a :: rest)) := by
  refine va_astq (r := (RX7, TX7, 4)) S.1 S.2.1 hK.1 hM.1 hM.2.1 hM.2.2.1 (X.length + i) 1 (X.length + k) 6 (ap_at hY) rfl (ap_at hV) cfX7.1 hin hdg (fun H1 locs1 h1 h2 h3 => ?_)
  rw [ap_set] at h1 h2
  exact kk H1 locs1 ⟨h1, h2, h3, hM.2.2.2⟩
end RR

def RX7_init (g : GE) (X : va_W) (q0 : Nat) (o : Option Value) (w : va_W) : Prop := o = none ∧ ∃ q1 : Nat, w = X ++ [(q0, .inr (6, [.ref q1, .null, .int (-1), .int 0])), (q1, .inl (g.2.1 0, 100, .inl (fun _ => 0)))]
set_option maxRecDepth 20000 in
theorem c_X7_init {l : Launch} {g : GE} {A : Nat → Prop} {X : va_W} {q0 : Nat} : Met l yX7_init (.code yX7_init cX7_init 1 none :: UL) ({ frames := 1, cells := 1, slots := 100, locals := 20 }) (va_Pc [.ref q0] (PreO g A (X ++ [(q0, .inr (6, [.null, .null, .int 0, .int 0]))]))) (QE g A (RX7_init g X q0)) 1 100 A := by
  refine e_of2 (by decide) (Nat.le_of_ble_eq_true rfl) ?_
  intro p e s m below meth c ls S hr hlk hnm hv hl
  have hO := hv.2
  have hM := MemW.of hv.1
  have hK := hv.1.2.1
  have hl : lv_has ls 1 [(0, .ref q0)] := hl
  refine lv_aload_n S.1 S.2.1 dX7_init_0 rfl (lv_at hl 0 rfl) ?_
  refine W.objInit S.1 S.2.1 S.2.2.2.1 (S.2.2.2.2 _ tw_1_96) (S.2.2.2.2 _ tw_1_29) (S.2.2.2.2 _ tw_1_30) rfl (by rw [S.2.2.1]; exact hl.1) rfl dX7_init_1 (Nat.le_of_ble_eq_true rfl) (Nat.le_of_ble_eq_true rfl) ?_
  refine lv_aload_n S.1 S.2.1 dX7_init_4 rfl (lv_at hl 0 rfl) ?_
  refine lv_bipush (v := 100) S.1 S.2.1 dX7_init_5 (by decide) ?_
  refine n_newa (N := 100) S hK hM (by decide) rfl (by decide) (Nat.le_of_ble_eq_true rfl) (Nat.le_of_ble_eq_true rfl) dX7_init_7 (fun q1 H hM => ?_)
  have hM : MemW g A (X ++ [(q0, .inr (6, [.null, .null, .int 0, .int 0])), (q1, .inl (g.2.1 0, 100, .inl (fun _ => 0)))]) _ _ _ := hM
  refine n_putF (ty := tyX7 0) S hK hM cfX7 tyX7_ok nmX7 hnm 0 0 rfl (by decide) tw_1_97 rfl rfl (by decide +kernel) rfl rfl (Nat.le_of_ble_eq_true rfl) dX7_init_9 (fun H locs hM => ?_)
  have hM : MemW g A (X ++ [(q0, .inr (6, [.ref q1, .null, .int 0, .int 0])), (q1, .inl (g.2.1 0, 100, .inl (fun _ => 0)))]) _ _ _ := hM
  refine lv_aload_n S.1 S.2.1 dX7_init_12 rfl (lv_at hl 0 rfl) ?_
  refine lv_iconst (v := (-1)) S.1 S.2.1 dX7_init_13 (by decide) ?_
  refine n_put (ty := tyX7 2) S hK hM cfX7 tyX7_ok nmX7 0 2 rfl (by decide) tw_1_101 rfl (by decide +kernel) rfl rfl (Nat.le_of_ble_eq_true rfl) dX7_init_14 (fun H locs hM => ?_)
  have hM : MemW g A (X ++ [(q0, .inr (6, [.ref q1, .null, .int (-1), .int 0])), (q1, .inl (g.2.1 0, 100, .inl (fun _ => 0)))]) _ _ _ := hM
  exact z_ev S hM hr hlk ⟨rfl, q1, rfl⟩ (Nat.le_of_ble_eq_true rfl) (Nat.le_of_ble_eq_true rfl) dX7_init_17
def RX1_init (g : GE) (X : va_W) (q0 : Nat) (o : Option Value) (w : va_W) : Prop := o = none ∧ ∃ q1 q2 q3 q4 q5 q6 q7 q8 : Nat, w = X ++ [(q0, .inr (1, [.ref q1, .ref q2, .ref q3, .ref q4, .ref q5, .ref q6, .ref q7, .ref q8, .int 0, .int 0, .int 0, .int 0])), (q1, .inl (g.2.1 0, 4, .inl (upd (upd (upd (upd (fun _ => 0) 0 1) 1 7) 2 1) 3 7))), (q2, .inl (g.2.1 0, 4, .inl (upd (upd (upd (upd (fun _ => 0) 0 1) 1 1) 2 1) 3 1))), (q3, .inl (g.2.1 0, 4, .inl (fun _ => 0))), (q4, .inl (g.2.1 0, 4, .inl (fun _ => 0))), (q5, .inl (g.2.1 0, 2, .inl (fun _ => 0))), (q6, .inl (g.2.1 0, 2, .inl (upd (upd (fun _ => 0) 0 1) 1 1))), (q7, .inl (g.2.1 0, 2, .inl (fun _ => 0))), (q8, .inl (g.2.1 2, 8, .inr (.inr (.inr (.inr (fun _ => none))))))]
set_option maxRecDepth 20000 in
theorem c_X1_init {l : Launch} {g : GE} {A : Nat → Prop} {X : va_W} {q0 : Nat} : Met l yX1_init (.code yX1_init cX1_init 1 none :: UL) ({ frames := 1, cells := 8, slots := 30, locals := 20 }) (va_Pc [.ref q0] (PreO g A (X ++ [(q0, .inr (1, [.null, .null, .null, .null, .null, .null, .null, .null, .int 0, .int 0, .int 0, .int 0]))]))) (QE g A (RX1_init g X q0)) 8 30 A := by
  refine e_of2 (by decide) (Nat.le_of_ble_eq_true rfl) ?_
  intro p e s m below meth c ls S hr hlk hnm hv hl
  have hO := hv.2
  have hM := MemW.of hv.1
  have hK := hv.1.2.1
  have hl : lv_has ls 1 [(0, .ref q0)] := hl
  refine lv_aload_n S.1 S.2.1 dX1_init_0 rfl (lv_at hl 0 rfl) ?_
  refine W.objInit S.1 S.2.1 S.2.2.2.1 (S.2.2.2.2 _ tw_1_36) (S.2.2.2.2 _ tw_1_29) (S.2.2.2.2 _ tw_1_30) rfl (by rw [S.2.2.1]; exact hl.1) rfl dX1_init_1 (Nat.le_of_ble_eq_true rfl) (Nat.le_of_ble_eq_true rfl) ?_
  refine lv_aload_n S.1 S.2.1 dX1_init_4 rfl (lv_at hl 0 rfl) ?_
  refine lv_iconst (v := 4) S.1 S.2.1 dX1_init_5 (by decide) ?_
  refine n_newa (N := 4) S hK hM (by decide) rfl (by decide) (Nat.le_of_ble_eq_true rfl) (Nat.le_of_ble_eq_true rfl) dX1_init_6 (fun q1 H hM => ?_)
  have hM : MemW g A (X ++ [(q0, .inr (1, [.null, .null, .null, .null, .null, .null, .null, .null, .int 0, .int 0, .int 0, .int 0])), (q1, .inl (g.2.1 0, 4, .inl (fun _ => 0)))]) _ _ _ := hM
  refine lv_dup S.1 S.2.1 dX1_init_8 rfl ?_
  refine lv_iconst (v := 0) S.1 S.2.1 dX1_init_9 (by decide) ?_
  refine lv_iconst (v := 1) S.1 S.2.1 dX1_init_10 (by decide) ?_
  refine n_iast S hK hM 1 rfl (by decide) dX1_init_11 (fun H locs hM => ?_)
  have hM : MemW g A (X ++ [(q0, .inr (1, [.null, .null, .null, .null, .null, .null, .null, .null, .int 0, .int 0, .int 0, .int 0])), (q1, .inl (g.2.1 0, 4, .inl (upd (fun _ => 0) 0 1)))]) _ _ _ := hM
  refine lv_dup S.1 S.2.1 dX1_init_12 rfl ?_
  refine lv_iconst (v := 1) S.1 S.2.1 dX1_init_13 (by decide) ?_
  refine lv_bipush (v := 7) S.1 S.2.1 dX1_init_14 (by decide) ?_
  refine n_iast S hK hM 1 rfl (by decide) dX1_init_16 (fun H locs hM => ?_)
  have hM : MemW g A (X ++ [(q0, .inr (1, [.null, .null, .null, .null, .null, .null, .null, .null, .int 0, .int 0, .int 0, .int 0])), (q1, .inl (g.2.1 0, 4, .inl (upd (upd (fun _ => 0) 0 1) 1 7)))]) _ _ _ := hM
  refine lv_dup S.1 S.2.1 dX1_init_17 rfl ?_
  refine lv_iconst (v := 2) S.1 S.2.1 dX1_init_18 (by decide) ?_
  refine lv_iconst (v := 1) S.1 S.2.1 dX1_init_19 (by decide) ?_
  refine n_iast S hK hM 1 rfl (by decide) dX1_init_20 (fun H locs hM => ?_)
  have hM : MemW g A (X ++ [(q0, .inr (1, [.null, .null, .null, .null, .null, .null, .null, .null, .int 0, .int 0, .int 0, .int 0])), (q1, .inl (g.2.1 0, 4, .inl (upd (upd (upd (fun _ => 0) 0 1) 1 7) 2 1)))]) _ _ _ := hM
  refine lv_dup S.1 S.2.1 dX1_init_21 rfl ?_
  refine lv_iconst (v := 3) S.1 S.2.1 dX1_init_22 (by decide) ?_
  refine lv_bipush (v := 7) S.1 S.2.1 dX1_init_23 (by decide) ?_
  refine n_iast S hK hM 1 rfl (by decide) dX1_init_25 (fun H locs hM => ?_)
  have hM : MemW g A (X ++ [(q0, .inr (1, [.null, .null, .null, .null, .null, .null, .null, .null, .int 0, .int 0, .int 0, .int 0])), (q1, .inl (g.2.1 0, 4, .inl (upd (upd (upd (upd (fun _ => 0) 0 1) 1 7) 2 1) 3 7)))]) _ _ _ := hM
  refine n_putF (ty := tyX1 0) S hK hM cfX1 tyX1_ok nmX1 hnm 0 0 rfl (by decide) tw_1_39 rfl rfl (by decide +kernel) rfl rfl (Nat.le_of_ble_eq_true rfl) dX1_init_26 (fun H locs hM => ?_)
  have hM : MemW g A (X ++ [(q0, .inr (1, [.ref q1, .null, .null, .null, .null, .null, .null, .null, .int 0, .int 0, .int 0, .int 0])), (q1, .inl (g.2.1 0, 4, .inl (upd (upd (upd (upd (fun _ => 0) 0 1) 1 7) 2 1) 3 7)))]) _ _ _ := hM
  refine lv_aload_n S.1 S.2.1 dX1_init_29 rfl (lv_at hl 0 rfl) ?_
  refine lv_iconst (v := 4) S.1 S.2.1 dX1_init_30 (by decide) ?_
  refine n_newa (N := 4) S hK hM (by decide) rfl (by decide) (Nat.le_of_ble_eq_true rfl) (Nat.le_of_ble_eq_true rfl) dX1_init_31 (fun q2 H hM => ?_)
  have hM : MemW g A (X ++ [(q0, .inr (1, [.ref q1, .null, .null, .null, .null, .null, .null, .null, .int 0, .int 0, .int 0, .int 0])), (q1, .inl (g.2.1 0, 4, .inl (upd (upd (upd (upd (fun _ => 0) 0 1) 1 7) 2 1) 3 7))), (q2, .inl (g.2.1 0, 4, .inl (fun _ => 0)))]) _ _ _ := hM
  refine lv_dup S.1 S.2.1 dX1_init_33 rfl ?_
  refine lv_iconst (v := 0) S.1 S.2.1 dX1_init_34 (by decide) ?_
  refine lv_iconst (v := 1) S.1 S.2.1 dX1_init_35 (by decide) ?_
  refine n_iast S hK hM 2 rfl (by decide) dX1_init_36 (fun H locs hM => ?_)
  have hM : MemW g A (X ++ [(q0, .inr (1, [.ref q1, .null, .null, .null, .null, .null, .null, .null, .int 0, .int 0, .int 0, .int 0])), (q1, .inl (g.2.1 0, 4, .inl (upd (upd (upd (upd (fun _ => 0) 0 1) 1 7) 2 1) 3 7))), (q2, .inl (g.2.1 0, 4, .inl (upd (fun _ => 0) 0 1)))]) _ _ _ := hM
  refine lv_dup S.1 S.2.1 dX1_init_37 rfl ?_
  refine lv_iconst (v := 1) S.1 S.2.1 dX1_init_38 (by decide) ?_
  refine lv_iconst (v := 1) S.1 S.2.1 dX1_init_39 (by decide) ?_
  refine n_iast S hK hM 2 rfl (by decide) dX1_init_40 (fun H locs hM => ?_)
  have hM : MemW g A (X ++ [(q0, .inr (1, [.ref q1, .null, .null, .null, .null, .null, .null, .null, .int 0, .int 0, .int 0, .int 0])), (q1, .inl (g.2.1 0, 4, .inl (upd (upd (upd (upd (fun _ => 0) 0 1) 1 7) 2 1) 3 7))), (q2, .inl (g.2.1 0, 4, .inl (upd (upd (fun _ => 0) 0 1) 1 1)))]) _ _ _ := hM
  refine lv_dup S.1 S.2.1 dX1_init_41 rfl ?_
  refine lv_iconst (v := 2) S.1 S.2.1 dX1_init_42 (by decide) ?_
  refine lv_iconst (v := 1) S.1 S.2.1 dX1_init_43 (by decide) ?_
  refine n_iast S hK hM 2 rfl (by decide) dX1_init_44 (fun H locs hM => ?_)
  have hM : MemW g A (X ++ [(q0, .inr (1, [.ref q1, .null, .null, .null, .null, .null, .null, .null, .int 0, .int 0, .int 0, .int 0])), (q1, .inl (g.2.1 0, 4, .inl (upd (upd (upd (upd (fun _ => 0) 0 1) 1 7) 2 1) 3 7))), (q2, .inl (g.2.1 0, 4, .inl (upd (upd (upd (fun _ => 0) 0 1) 1 1) 2 1)))]) _ _ _ := hM
  refine lv_dup S.1 S.2.1 dX1_init_45 rfl ?_
  refine lv_iconst (v := 3) S.1 S.2.1 dX1_init_46 (by decide) ?_
  refine lv_iconst (v := 1) S.1 S.2.1 dX1_init_47 (by decide) ?_
  refine n_iast S hK hM 2 rfl (by decide) dX1_init_48 (fun H locs hM => ?_)
  have hM : MemW g A (X ++ [(q0, .inr (1, [.ref q1, .null, .null, .null, .null, .null, .null, .null, .int 0, .int 0, .int 0, .int 0])), (q1, .inl (g.2.1 0, 4, .inl (upd (upd (upd (upd (fun _ => 0) 0 1) 1 7) 2 1) 3 7))), (q2, .inl (g.2.1 0, 4, .inl (upd (upd (upd (upd (fun _ => 0) 0 1) 1 1) 2 1) 3 1)))]) _ _ _ := hM
  refine n_putF (ty := tyX1 1) S hK hM cfX1 tyX1_ok nmX1 hnm 0 1 rfl (by decide) tw_1_41 rfl rfl (by decide +kernel) rfl rfl (Nat.le_of_ble_eq_true rfl) dX1_init_49 (fun H locs hM => ?_)
  have hM : MemW g A (X ++ [(q0, .inr (1, [.ref q1, .ref q2, .null, .null, .null, .null, .null, .null, .int 0, .int 0, .int 0, .int 0])), (q1, .inl (g.2.1 0, 4, .inl (upd (upd (upd (upd (fun _ => 0) 0 1) 1 7) 2 1) 3 7))), (q2, .inl (g.2.1 0, 4, .inl (upd (upd (upd (upd (fun _ => 0) 0 1) 1 1) 2 1) 3 1)))]) _ _ _ := hM
  refine lv_aload_n S.1 S.2.1 dX1_init_52 rfl (lv_at hl 0 rfl) ?_
  refine lv_iconst (v := 4) S.1 S.2.1 dX1_init_53 (by decide) ?_
  refine n_newa (N := 4) S hK hM (by decide) rfl (by decide) (Nat.le_of_ble_eq_true rfl) (Nat.le_of_ble_eq_true rfl) dX1_init_54 (fun q3 H hM => ?_)
  have hM : MemW g A (X ++ [(q0, .inr (1, [.ref q1, .ref q2, .null, .null, .null, .null, .null, .null, .int 0, .int 0, .int 0, .int 0])), (q1, .inl (g.2.1 0, 4, .inl (upd (upd (upd (upd (fun _ => 0) 0 1) 1 7) 2 1) 3 7))), (q2, .inl (g.2.1 0, 4, .inl (upd (upd (upd (upd (fun _ => 0) 0 1) 1 1) 2 1) 3 1))), (q3, .inl (g.2.1 0, 4, .inl (fun _ => 0)))]) _ _ _ := hM
  refine n_putF (ty := tyX1 2) S hK hM cfX1 tyX1_ok nmX1 hnm 0 2 rfl (by decide) tw_1_43 rfl rfl (by decide +kernel) rfl rfl (Nat.le_of_ble_eq_true rfl) dX1_init_56 (fun H locs hM => ?_)
  have hM : MemW g A (X ++ [(q0, .inr (1, [.ref q1, .ref q2, .ref q3, .null, .null, .null, .null, .null, .int 0, .int 0, .int 0, .int 0])), (q1, .inl (g.2.1 0, 4, .inl (upd (upd (upd (upd (fun _ => 0) 0 1) 1 7) 2 1) 3 7))), (q2, .inl (g.2.1 0, 4, .inl (upd (upd (upd (upd (fun _ => 0) 0 1) 1 1) 2 1) 3 1))), (q3, .inl (g.2.1 0, 4, .inl (fun _ => 0)))]) _ _ _ := hM
  refine lv_aload_n S.1 S.2.1 dX1_init_59 rfl (lv_at hl 0 rfl) ?_
  refine lv_iconst (v := 4) S.1 S.2.1 dX1_init_60 (by decide) ?_
  refine n_newa (N := 4) S hK hM (by decide) rfl (by decide) (Nat.le_of_ble_eq_true rfl) (Nat.le_of_ble_eq_true rfl) dX1_init_61 (fun q4 H hM => ?_)
  have hM : MemW g A (X ++ [(q0, .inr (1, [.ref q1, .ref q2, .ref q3, .null, .null, .null, .null, .null, .int 0, .int 0, .int 0, .int 0])), (q1, .inl (g.2.1 0, 4, .inl (upd (upd (upd (upd (fun _ => 0) 0 1) 1 7) 2 1) 3 7))), (q2, .inl (g.2.1 0, 4, .inl (upd (upd (upd (upd (fun _ => 0) 0 1) 1 1) 2 1) 3 1))), (q3, .inl (g.2.1 0, 4, .inl (fun _ => 0))), (q4, .inl (g.2.1 0, 4, .inl (fun _ => 0)))]) _ _ _ := hM
  refine n_putF (ty := tyX1 3) S hK hM cfX1 tyX1_ok nmX1 hnm 0 3 rfl (by decide) tw_1_45 rfl rfl (by decide +kernel) rfl rfl (Nat.le_of_ble_eq_true rfl) dX1_init_63 (fun H locs hM => ?_)
  have hM : MemW g A (X ++ [(q0, .inr (1, [.ref q1, .ref q2, .ref q3, .ref q4, .null, .null, .null, .null, .int 0, .int 0, .int 0, .int 0])), (q1, .inl (g.2.1 0, 4, .inl (upd (upd (upd (upd (fun _ => 0) 0 1) 1 7) 2 1) 3 7))), (q2, .inl (g.2.1 0, 4, .inl (upd (upd (upd (upd (fun _ => 0) 0 1) 1 1) 2 1) 3 1))), (q3, .inl (g.2.1 0, 4, .inl (fun _ => 0))), (q4, .inl (g.2.1 0, 4, .inl (fun _ => 0)))]) _ _ _ := hM
  refine lv_aload_n S.1 S.2.1 dX1_init_66 rfl (lv_at hl 0 rfl) ?_
  refine lv_iconst (v := 2) S.1 S.2.1 dX1_init_67 (by decide) ?_
  refine n_newa (N := 2) S hK hM (by decide) rfl (by decide) (Nat.le_of_ble_eq_true rfl) (Nat.le_of_ble_eq_true rfl) dX1_init_68 (fun q5 H hM => ?_)
  have hM : MemW g A (X ++ [(q0, .inr (1, [.ref q1, .ref q2, .ref q3, .ref q4, .null, .null, .null, .null, .int 0, .int 0, .int 0, .int 0])), (q1, .inl (g.2.1 0, 4, .inl (upd (upd (upd (upd (fun _ => 0) 0 1) 1 7) 2 1) 3 7))), (q2, .inl (g.2.1 0, 4, .inl (upd (upd (upd (upd (fun _ => 0) 0 1) 1 1) 2 1) 3 1))), (q3, .inl (g.2.1 0, 4, .inl (fun _ => 0))), (q4, .inl (g.2.1 0, 4, .inl (fun _ => 0))), (q5, .inl (g.2.1 0, 2, .inl (fun _ => 0)))]) _ _ _ := hM
  refine n_putF (ty := tyX1 4) S hK hM cfX1 tyX1_ok nmX1 hnm 0 4 rfl (by decide) tw_1_47 rfl rfl (by decide +kernel) rfl rfl (Nat.le_of_ble_eq_true rfl) dX1_init_70 (fun H locs hM => ?_)
  have hM : MemW g A (X ++ [(q0, .inr (1, [.ref q1, .ref q2, .ref q3, .ref q4, .ref q5, .null, .null, .null, .int 0, .int 0, .int 0, .int 0])), (q1, .inl (g.2.1 0, 4, .inl (upd (upd (upd (upd (fun _ => 0) 0 1) 1 7) 2 1) 3 7))), (q2, .inl (g.2.1 0, 4, .inl (upd (upd (upd (upd (fun _ => 0) 0 1) 1 1) 2 1) 3 1))), (q3, .inl (g.2.1 0, 4, .inl (fun _ => 0))), (q4, .inl (g.2.1 0, 4, .inl (fun _ => 0))), (q5, .inl (g.2.1 0, 2, .inl (fun _ => 0)))]) _ _ _ := hM
  refine lv_aload_n S.1 S.2.1 dX1_init_73 rfl (lv_at hl 0 rfl) ?_
  refine lv_iconst (v := 2) S.1 S.2.1 dX1_init_74 (by decide) ?_
  refine n_newa (N := 2) S hK hM (by decide) rfl (by decide) (Nat.le_of_ble_eq_true rfl) (Nat.le_of_ble_eq_true rfl) dX1_init_75 (fun q6 H hM => ?_)
  have hM : MemW g A (X ++ [(q0, .inr (1, [.ref q1, .ref q2, .ref q3, .ref q4, .ref q5, .null, .null, .null, .int 0, .int 0, .int 0, .int 0])), (q1, .inl (g.2.1 0, 4, .inl (upd (upd (upd (upd (fun _ => 0) 0 1) 1 7) 2 1) 3 7))), (q2, .inl (g.2.1 0, 4, .inl (upd (upd (upd (upd (fun _ => 0) 0 1) 1 1) 2 1) 3 1))), (q3, .inl (g.2.1 0, 4, .inl (fun _ => 0))), (q4, .inl (g.2.1 0, 4, .inl (fun _ => 0))), (q5, .inl (g.2.1 0, 2, .inl (fun _ => 0))), (q6, .inl (g.2.1 0, 2, .inl (fun _ => 0)))]) _ _ _ := hM
  refine lv_dup S.1 S.2.1 dX1_init_77 rfl ?_
  refine lv_iconst (v := 0) S.1 S.2.1 dX1_init_78 (by decide) ?_
  refine lv_iconst (v := 1) S.1 S.2.1 dX1_init_79 (by decide) ?_
  refine n_iast S hK hM 6 rfl (by decide) dX1_init_80 (fun H locs hM => ?_)
  have hM : MemW g A (X ++ [(q0, .inr (1, [.ref q1, .ref q2, .ref q3, .ref q4, .ref q5, .null, .null, .null, .int 0, .int 0, .int 0, .int 0])), (q1, .inl (g.2.1 0, 4, .inl (upd (upd (upd (upd (fun _ => 0) 0 1) 1 7) 2 1) 3 7))), (q2, .inl (g.2.1 0, 4, .inl (upd (upd (upd (upd (fun _ => 0) 0 1) 1 1) 2 1) 3 1))), (q3, .inl (g.2.1 0, 4, .inl (fun _ => 0))), (q4, .inl (g.2.1 0, 4, .inl (fun _ => 0))), (q5, .inl (g.2.1 0, 2, .inl (fun _ => 0))), (q6, .inl (g.2.1 0, 2, .inl (upd (fun _ => 0) 0 1)))]) _ _ _ := hM
  refine lv_dup S.1 S.2.1 dX1_init_81 rfl ?_
  refine lv_iconst (v := 1) S.1 S.2.1 dX1_init_82 (by decide) ?_
  refine lv_iconst (v := 1) S.1 S.2.1 dX1_init_83 (by decide) ?_
  refine n_iast S hK hM 6 rfl (by decide) dX1_init_84 (fun H locs hM => ?_)
  have hM : MemW g A (X ++ [(q0, .inr (1, [.ref q1, .ref q2, .ref q3, .ref q4, .ref q5, .null, .null, .null, .int 0, .int 0, .int 0, .int 0])), (q1, .inl (g.2.1 0, 4, .inl (upd (upd (upd (upd (fun _ => 0) 0 1) 1 7) 2 1) 3 7))), (q2, .inl (g.2.1 0, 4, .inl (upd (upd (upd (upd (fun _ => 0) 0 1) 1 1) 2 1) 3 1))), (q3, .inl (g.2.1 0, 4, .inl (fun _ => 0))), (q4, .inl (g.2.1 0, 4, .inl (fun _ => 0))), (q5, .inl (g.2.1 0, 2, .inl (fun _ => 0))), (q6, .inl (g.2.1 0, 2, .inl (upd (upd (fun _ => 0) 0 1) 1 1)))]) _ _ _ := hM
  refine n_putF (ty := tyX1 5) S hK hM cfX1 tyX1_ok nmX1 hnm 0 5 rfl (by decide) tw_1_49 rfl rfl (by decide +kernel) rfl rfl (Nat.le_of_ble_eq_true rfl) dX1_init_85 (fun H locs hM => ?_)
  have hM : MemW g A (X ++ [(q0, .inr (1, [.ref q1, .ref q2, .ref q3, .ref q4, .ref q5, .ref q6, .null, .null, .int 0, .int 0, .int 0, .int 0])), (q1, .inl (g.2.1 0, 4, .inl (upd (upd (upd (upd (fun _ => 0) 0 1) 1 7) 2 1) 3 7))), (q2, .inl (g.2.1 0, 4, .inl (upd (upd (upd (upd (fun _ => 0) 0 1) 1 1) 2 1) 3 1))), (q3, .inl (g.2.1 0, 4, .inl (fun _ => 0))), (q4, .inl (g.2.1 0, 4, .inl (fun _ => 0))), (q5, .inl (g.2.1 0, 2, .inl (fun _ => 0))), (q6, .inl (g.2.1 0, 2, .inl (upd (upd (fun _ => 0) 0 1) 1 1)))]) _ _ _ := hM
  refine lv_aload_n S.1 S.2.1 dX1_init_88 rfl (lv_at hl 0 rfl) ?_
  refine lv_iconst (v := 2) S.1 S.2.1 dX1_init_89 (by decide) ?_
  refine n_newa (N := 2) S hK hM (by decide) rfl (by decide) (Nat.le_of_ble_eq_true rfl) (Nat.le_of_ble_eq_true rfl) dX1_init_90 (fun q7 H hM => ?_)
  have hM : MemW g A (X ++ [(q0, .inr (1, [.ref q1, .ref q2, .ref q3, .ref q4, .ref q5, .ref q6, .null, .null, .int 0, .int 0, .int 0, .int 0])), (q1, .inl (g.2.1 0, 4, .inl (upd (upd (upd (upd (fun _ => 0) 0 1) 1 7) 2 1) 3 7))), (q2, .inl (g.2.1 0, 4, .inl (upd (upd (upd (upd (fun _ => 0) 0 1) 1 1) 2 1) 3 1))), (q3, .inl (g.2.1 0, 4, .inl (fun _ => 0))), (q4, .inl (g.2.1 0, 4, .inl (fun _ => 0))), (q5, .inl (g.2.1 0, 2, .inl (fun _ => 0))), (q6, .inl (g.2.1 0, 2, .inl (upd (upd (fun _ => 0) 0 1) 1 1))), (q7, .inl (g.2.1 0, 2, .inl (fun _ => 0)))]) _ _ _ := hM
  refine n_putF (ty := tyX1 6) S hK hM cfX1 tyX1_ok nmX1 hnm 0 6 rfl (by decide) tw_1_51 rfl rfl (by decide +kernel) rfl rfl (Nat.le_of_ble_eq_true rfl) dX1_init_92 (fun H locs hM => ?_)
  have hM : MemW g A (X ++ [(q0, .inr (1, [.ref q1, .ref q2, .ref q3, .ref q4, .ref q5, .ref q6, .ref q7, .null, .int 0, .int 0, .int 0, .int 0])), (q1, .inl (g.2.1 0, 4, .inl (upd (upd (upd (upd (fun _ => 0) 0 1) 1 7) 2 1) 3 7))), (q2, .inl (g.2.1 0, 4, .inl (upd (upd (upd (upd (fun _ => 0) 0 1) 1 1) 2 1) 3 1))), (q3, .inl (g.2.1 0, 4, .inl (fun _ => 0))), (q4, .inl (g.2.1 0, 4, .inl (fun _ => 0))), (q5, .inl (g.2.1 0, 2, .inl (fun _ => 0))), (q6, .inl (g.2.1 0, 2, .inl (upd (upd (fun _ => 0) 0 1) 1 1))), (q7, .inl (g.2.1 0, 2, .inl (fun _ => 0)))]) _ _ _ := hM
  refine lv_aload_n S.1 S.2.1 dX1_init_95 rfl (lv_at hl 0 rfl) ?_
  refine lv_bipush (v := 8) S.1 S.2.1 dX1_init_96 (by decide) ?_
  refine n_newq (C := "SideBySide$Stroke") (t := 2) (N := 8) S hK hM rfl hO.1 tw_1_37 (by decide) rfl (by decide) (Nat.le_of_ble_eq_true rfl) (Nat.le_of_ble_eq_true rfl) dX1_init_98 (fun q8 H hM => ?_)
  have hM : MemW g A (X ++ [(q0, .inr (1, [.ref q1, .ref q2, .ref q3, .ref q4, .ref q5, .ref q6, .ref q7, .null, .int 0, .int 0, .int 0, .int 0])), (q1, .inl (g.2.1 0, 4, .inl (upd (upd (upd (upd (fun _ => 0) 0 1) 1 7) 2 1) 3 7))), (q2, .inl (g.2.1 0, 4, .inl (upd (upd (upd (upd (fun _ => 0) 0 1) 1 1) 2 1) 3 1))), (q3, .inl (g.2.1 0, 4, .inl (fun _ => 0))), (q4, .inl (g.2.1 0, 4, .inl (fun _ => 0))), (q5, .inl (g.2.1 0, 2, .inl (fun _ => 0))), (q6, .inl (g.2.1 0, 2, .inl (upd (upd (fun _ => 0) 0 1) 1 1))), (q7, .inl (g.2.1 0, 2, .inl (fun _ => 0))), (q8, .inl (g.2.1 2, 8, .inr (.inr (.inr (.inr (fun _ => none))))))]) _ _ _ := hM
  refine n_putF (ty := tyX1 7) S hK hM cfX1 tyX1_ok nmX1 hnm 0 7 rfl (by decide) tw_1_53 rfl rfl (by decide +kernel) rfl rfl (Nat.le_of_ble_eq_true rfl) dX1_init_101 (fun H locs hM => ?_)
  have hM : MemW g A (X ++ [(q0, .inr (1, [.ref q1, .ref q2, .ref q3, .ref q4, .ref q5, .ref q6, .ref q7, .ref q8, .int 0, .int 0, .int 0, .int 0])), (q1, .inl (g.2.1 0, 4, .inl (upd (upd (upd (upd (fun _ => 0) 0 1) 1 7) 2 1) 3 7))), (q2, .inl (g.2.1 0, 4, .inl (upd (upd (upd (upd (fun _ => 0) 0 1) 1 1) 2 1) 3 1))), (q3, .inl (g.2.1 0, 4, .inl (fun _ => 0))), (q4, .inl (g.2.1 0, 4, .inl (fun _ => 0))), (q5, .inl (g.2.1 0, 2, .inl (fun _ => 0))), (q6, .inl (g.2.1 0, 2, .inl (upd (upd (fun _ => 0) 0 1) 1 1))), (q7, .inl (g.2.1 0, 2, .inl (fun _ => 0))), (q8, .inl (g.2.1 2, 8, .inr (.inr (.inr (.inr (fun _ => none))))))]) _ _ _ := hM
  exact z_ev S hM hr hlk ⟨rfl, q1, q2, q3, q4, q5, q6, q7, q8, rfl⟩ (Nat.le_of_ble_eq_true rfl) (Nat.le_of_ble_eq_true rfl) dX1_init_104
