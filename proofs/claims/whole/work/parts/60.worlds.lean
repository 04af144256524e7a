/-! memories as whole lists of cells: for methods that make objects -/
def PreW (g : GE) (A : Nat → Prop) (ws : va_W) (U : State) : Prop := (∀ q, U.heap.size ≤ q → A q) ∧ KK g U ∧ va_P g.1 vwCl ws U.heap ∧ va_D A ws
def MemW (g : GE) (A : Nat → Prop) (ws : va_W) (H0 H : Heap) (locs : List Loc) : Prop := va_P g.1 vwCl ws H ∧ va_D A ws ∧ va_S A H0 H locs ∧ ∀ q, H0.size ≤ q → A q
theorem PreW.blind {g : GE} {A : Nat → Prop} {ws : va_W} {av : List Value} : FrameBlind (va_Pc av (PreW g A ws)) :=
  fun _ _ fr mk q => ⟨q.1, q.2.1, q.2.2.1.calling fr mk _, q.2.2.2.1, q.2.2.2.2⟩
theorem MemW.pre {g : GE} {A : Nat → Prop} {ws : va_W} {H0 H : Heap} {locs : List Loc} {s : State} {av : List Value} (h : MemW g A ws H0 H locs) (hK : KK g s) : ∀ U : State, U.heap = H → s.WarmedH U.vm → va_Pc av (PreW g A ws) av.toArray U :=
  fun U hU hW => ⟨rfl, fun q hq => h.2.2.2 q (Nat.le_trans h.2.2.1.1 (by rw [← hU]; exact hq)), hK.warm hW, by rw [hU]; exact h.1, h.2.1⟩
theorem MemW.of {g : GE} {A : Nat → Prop} {ws : va_W} {s : State} (h : PreW g A ws s) : MemW g A ws s.heap s.heap [] := ⟨h.2.2.1, h.2.2.2, va_S.rf, h.1⟩
theorem MemW.m {ly : LY} {N : Nat} {g : GE} {A : Nat → Prop} {X : va_W} {σ : IM} {ρ : RM} {H0 H : Heap} {locs : List Loc} (h : MemW g A (wl ly N g σ ρ X) H0 H locs) : Mem ly N g A X σ ρ H0 H locs := h
theorem Mem.w {ly : LY} {N : Nat} {g : GE} {A : Nat → Prop} {X : va_W} {σ : IM} {ρ : RM} {H0 H : Heap} {locs : List Loc} (h : Mem ly N g A X σ ρ H0 H locs) : MemW g A (wl ly N g σ ρ X) H0 H locs := h
theorem PreM.w {ly : LY} {N : Nat} {g : GE} {A : Nat → Prop} {X : va_W} {σ : IM} {ρ : RM} {U : State} (h : PreM ly N g A X σ ρ U) : PreW g A (wl ly N g σ ρ X) U := h
/-- an answer, and a memory: what is said of them -/
def QE (g : GE) (A : Nat → Prop) (Rr : Option Value → va_W → Prop) : Array Value → State → Outcome → State → Prop := fun _ st oc t =>
  ∃ (v : Option Value) (ws : va_W), Rr v ws ∧ oc = .returned v ∧ va_P g.1 vwCl ws t.heap ∧ va_D A ws ∧ va_F A st t
section RR
variable {p : Program} {l : Launch} {e : Env} {R : Room} {s : State} {m : MethodId} {args : Array Value} {below : List Frame} {meth : Method} {c : Code} {H H0 : Heap} {locs : List Loc} {cells slots : Nat} {Q : State → Prop}
variable {cc : ByteArray} {pc nL index : Nat} {ls : Array Slot} {rest : List Value} {own : String} {g : GE} {A : Nat → Prop} {ws : va_W}
theorem k_e {mc ms : Nat} {st0 : List Value} {a : Array Value} {Rr : Option Value → va_W → Prop} (hr : va_Run p l e R s m args below meth c H locs cells slots mc ms (F0 m pc ls st0) rest (QE g A Rr a) A) (hM : MemW g A ws H0 H locs) (kk : ∀ (v : Option Value) (ws' : va_W) (H1 : Heap) (locs1 : List Loc), Rr v ws' → MemW g A ws' H0 H1 locs1 → W p l e R s m args below meth c H1 locs1 (cells + mc) (slots + ms) Q (F0 m (pc + 3) ls (v.toList ++ rest))) : W p l e R s m args below meth c H locs cells slots Q (F0 m pc ls st0) := by
  intro T hT X1
  obtain ⟨w, st₀, t, T', L, h0, X2, hL, e1, e2, ⟨v, ws', hR, hv, hp, hd, hz, hf⟩, st⟩ := hr T hT X1
  cases hv
  rw [h0] at hz hf
  obtain ⟨t2, a1, b1⟩ := kk _ ws' T'.heap (locs ++ L) hR ⟨by rw [e1]; exact hp, hd, ⟨Nat.le_trans hM.2.2.1.1 (by rw [e1]; exact hz), fun q h1 h2 => by
      rw [e1, hf q (Nat.lt_of_lt_of_le h1 hM.2.2.1.1) h2]
      exact hM.2.2.1.2.1 q h1 h2, fun q hq => by
      rcases List.mem_append.mp hq with h | h
      · exact hM.2.2.1.2.2 q h
      · exact hL q h⟩, hM.2.2.2⟩ T' rfl X2
  exact ⟨t2, st t2 a1, b1⟩
theorem z_e {Rr : Option Value → va_W → Prop} {mc ms : Nat} {v : Value} {rt : FieldType} (S : CallFix p m c cc nL s args UL own) (hM : MemW g A ws s.heap H locs) (hr : meth.sig.returnType = some rt) (hrt : (∃ n, rt = .object n) ∨ ∃ t, rt = .array t) (hv : v = .null ∨ ∃ a, v = .ref a) (hlk : meth.locks = false) (hR : Rr (some v) ws) (hc : cells ≤ mc) (hs : slots ≤ ms) (hdg : decode cc pc = .ok (.areturn, 1)) : W p l e R s m args below meth c H locs cells slots (MQ below (QE g A Rr) args s mc ms A) (F0 m pc ls [v]) :=
  W.widen hc hs (W.aret S.1 S.2.1 hr hrt hv (fun t ht _ => ⟨_, _, hR, rfl, by rw [ht]; exact hM.1, hM.2.1, hM.2.2.1.F ht⟩) hM.2.2.1.2.2 hdg hlk)
theorem z_ev {Rr : Option Value → va_W → Prop} {mc ms : Nat} (S : CallFix p m c cc nL s args UL own) (hM : MemW g A ws s.heap H locs) (hr : meth.sig.returnType = none) (hlk : meth.locks = false) (hR : Rr none ws) (hc : cells ≤ mc) (hs : slots ≤ ms) (hdg : decode cc pc = .ok (.return_, 1)) : W p l e R s m args below meth c H locs cells slots (MQ below (QE g A Rr) args s mc ms A) (F0 m pc ls []) :=
  W.widen hc hs (W.vret S.1 S.2.1 hr (fun t ht _ => ⟨_, _, hR, rfl, by rw [ht]; exact hM.1, hM.2.1, hM.2.2.1.F ht⟩) hM.2.2.1.2.2 hdg hlk)
theorem z_ei {Rr : Option Value → va_W → Prop} {mc ms : Nat} {v : Int32} {ty : FieldType} (S : CallFix p m c cc nL s args UL own) (hM : MemW g A ws s.heap H locs) (hr : meth.sig.returnType = some ty) (hn : narrow ty (.int v) = .int v) (hlk : meth.locks = false) (hR : Rr (some (.int v)) ws) (hc : cells ≤ mc) (hs : slots ≤ ms) (hdg : decode cc pc = .ok (.ireturn, 1)) : W p l e R s m args below meth c H locs cells slots (MQ below (QE g A Rr) args s mc ms A) (F0 m pc ls [.int v]) :=
  W.widen hc hs (W.zret S.1 S.2.1 hr hn (fun t ht _ => ⟨_, _, hR, rfl, by rw [ht]; exact hM.1, hM.2.1, hM.2.2.1.F ht⟩) hM.2.2.1.2.2 hdg hlk)
end RR
/-- entries of methods that make objects; a constructor's -/
theorem e_of2 {l : Launch} {y : MethodName} {cc : ByteArray} {maxL mc ms : Nat} {ret : Option FieldType} {rm : Room} {av : List Value} {Pre : State → Prop} {Qc : Array Value → State → Outcome → State → Prop} {free : Addr → Prop} (hy : plainName y.cls = true) (hn : (lg_sl av).length ≤ maxL)
    (body : ∀ (p : Program) (e : Env) (s : State) (m : MethodId) (below : List Frame) (meth : Method) (c : Code) (ls : Array Slot), CallFix p m c cc maxL s av.toArray UL y.cls → meth.sig.returnType = ret → meth.locks = false → meth.name = y.name → Pre s → lv_has ls maxL (lv_args 0 av) →
      W p l e rm s m av.toArray below meth c s.heap [] 0 0 (MQ below Qc av.toArray s mc ms free) (F0 m 0 ls [])) : Met l y (.code y cc maxL ret :: UL) rm (va_Pc av Pre) Qc mc ms free := by
  refine Met.ofW (cc := cc) (maxL := maxL) (ret := ret) hy rfl ?_
  intro p e s m args below meth c s₁ B hml hv
  obtain ⟨rfl, hv⟩ := hv
  have hl := lv_entry av (n := maxL) hn
  rw [lg_entry_eq]
  exact body p e s m below meth c _ ⟨B.exec, B.bytes, hml, findClass_of_methodNamed B.named, fun w hw => atoms_spec (ws := .code y cc maxL ret :: UL) B.pre w (List.mem_cons_of_mem _ hw)⟩ B.returns B.notSynchronized (name_of_methodNamed B.named B.method).1 hv hl
