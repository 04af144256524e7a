/-! throws: what is known of the exceptions; the strokes' fail -/
abbrev xISE : String := "java/lang/IllegalStateException"
abbrev xIAE : String := "java/lang/IllegalArgumentException"
abbrev xUOE : String := "java/lang/UnsupportedOperationException"
abbrev xnm : List String := ["java/lang/RuntimeException", "java/lang/Exception"]
def xW : List Cond := [.declares (Bundle.initS "java/lang/RuntimeException"), .declares (Bundle.initS "java/lang/Exception"), .declares (Bundle.initS "java/lang/Throwable"), .castable xISE xISE, .castable xIAE xIAE, .castable xUOE xUOE]
def xstr : List (String × Nat × String) := [("SideBySide$Stroke", 39, "a stroke fails"), ("SideBySide$Drop", 26, "a drop fails"), ("SideBySide$Push", 23, "a push fails"), ("SideBySide", 286, "no such shelf"), ("SideBySide", 297, "no row, or no such place")]
def XT (A : Nat → Prop) (U : State) : Prop := (∀ w ∈ xW, va_Nw w U) ∧ (∀ q ∈ xstr, ∃ a, vk_R q.1 q.2.1 q.2.2 a U) ∧ vx_Zq Bundle.tN "UNASSIGNED_STACK" Bundle.steD A U U.heap ∧ vx_Zq Bundle.tN "SUPPRESSED_SENTINEL" Bundle.listD A U U.heap
theorem xW_warm {s U : State} (hW : s.WarmedH U.vm) (h : ∀ w ∈ xW, va_Nw w s) : ∀ w ∈ xW, va_Nw w U := by
  intro w hw
  have h0 := h w hw
  simp only [xW, List.mem_cons, List.not_mem_nil, or_false] at hw
  rcases hw with rfl | rfl | rfl | rfl | rfl | rfl
  · exact va_Nw.warmD hW h0
  · exact va_Nw.warmD hW h0
  · exact va_Nw.warmD hW h0
  · exact va_Nw.warmC hW h0
  · exact va_Nw.warmC hW h0
  · exact va_Nw.warmC hW h0
theorem xW_ot : ∀ w ∈ xW, w.onTables = true := List.all_eq_true.mp (show xW.all Cond.onTables = true by decide +kernel)
theorem XT.moved {A : Nat → Prop} {s U : State} {locs : List Loc} (h : XT A s) (hS : va_S A s.heap U.heap locs) (hW : s.WarmedH U.vm) : XT A U :=
  ⟨xW_warm hW h.1, fun q hq => by
    obtain ⟨a, ha⟩ := h.2.1 q hq
    exact ⟨a, vk_R.warm hW ha⟩, (h.2.2.1.kept hS.2.1).moved hW.alike, (h.2.2.2.kept hS.2.1).moved hW.alike⟩
theorem XT.calling {A : Nat → Prop} {U : State} (h : XT A U) (fr : JFrame) (mk : MethodId) (a : Array Value) : XT A (U.calling fr mk a) :=
  ⟨fun w hw => va_Nw.same (xW_ot w hw) (rfl : U.vm = (U.calling fr mk a).vm) (h.1 w hw), fun q hq => by
    obtain ⟨b, hb⟩ := h.2.1 q hq
    exact ⟨b, vk_R.same (u := U) (U := U.calling fr mk a) rfl hb⟩, h.2.2.1.moved (U := U.calling fr mk a) (Vm.Alike.refl U.vm), h.2.2.2.moved (U := U.calling fr mk a) (Vm.Alike.refl U.vm)⟩
def PreX (ly : LY) (N : Nat) (g : GE) (A : Nat → Prop) (X : va_W) (σ : IM) (ρ : RM) (U : State) : Prop := PreM ly N g A X σ ρ U ∧ XT A U
theorem PreX.blind {ly : LY} {N : Nat} {g : GE} {A : Nat → Prop} {X : va_W} {σ : IM} {ρ : RM} {av : List Value} : FrameBlind (va_Pc av (PreX ly N g A X σ ρ)) :=
  fun a U fr mk q => ⟨q.1, (PreM.blind (av := av) a U fr mk ⟨q.1, q.2.1⟩).2, q.2.2.calling fr mk a⟩
theorem Mem.preX {ly : LY} {N : Nat} {g : GE} {A : Nat → Prop} {X : va_W} {σ : IM} {ρ : RM} {H : Heap} {locs : List Loc} {s : State} {av : List Value} (h : Mem ly N g A X σ ρ s.heap H locs) (hK : KK g s) (hX : XT A s) : ∀ U : State, U.heap = H → s.WarmedH U.vm → va_Pc av (PreX ly N g A X σ ρ) av.toArray U :=
  fun U hU hW => ⟨rfl, (h.pre (av := av) hK U hU hW).2, hX.moved (locs := locs) (by rw [hU]; exact h.2.2.1) hW⟩
/-- what is said of a throw: its class; nothing of before has changed -/
def XE (C : String) : String → State → State → Prop := fun E st t => E = C ∧ st.heap.size ≤ t.heap.size ∧ ∀ q : Nat, q < st.heap.size → t.heap[q]? = st.heap[q]?
theorem e_ofX {l : Launch} {y : MethodName} {cc : ByteArray} {maxL mc ms : Nat} {ret : Option FieldType} {rm : Room} {av : List Value} {Pre : State → Prop} {Qc : Array Value → State → Outcome → State → Prop} {XC : String → State → State → Prop} {free : Addr → Prop} (hy : plainName y.cls = true) (hn : (lg_sl av).length ≤ maxL)
    (body : ∀ (p : Program) (e : Env) (s : State) (m : MethodId) (below : List Frame) (meth : Method) (c : Code) (ls : Array Slot), CallFix p m c cc maxL s av.toArray UL y.cls → meth.sig.returnType = ret → meth.locks = false → (∀ x ∈ c.exceptionTable.toList, False) → Pre s → lv_has ls maxL (lv_args 0 av) →
      W p l e rm s m av.toArray below meth c s.heap [] 0 0 (vx_MQ below Qc XC av.toArray s mc ms free) (F0 m 0 ls [])) : vx_Met l y (.code y cc maxL ret :: UL) rm (va_Pc av Pre) Qc XC mc ms free := by
  refine vx_ofW (cc := cc) (maxL := maxL) (ret := ret) hy rfl ?_
  intro p e s m args below meth c s₁ B hml ht hv
  obtain ⟨rfl, hv⟩ := hv
  have hl := lv_entry av (n := maxL) hn
  rw [lg_entry_eq]
  exact body p e s m below meth c _ ⟨B.exec, B.bytes, hml, findClass_of_methodNamed B.named, fun w hw => atoms_spec (ws := .code y cc maxL ret :: UL) B.pre w (List.mem_cons_of_mem _ hw)⟩ B.returns B.notSynchronized ht hv hl
theorem x_hat {own : String} {ic : Nat} {E : String} {args : Array Value} {s : State} (hts : ∀ w ∈ UL, w.before args s = true) (hw : ∀ w ∈ xW, va_Nw w s) (h1 : ((vx_atS own ic E xnm).filter goodWord).all (fun w => decide (w ∈ lw_tbl)) = true) (h2 : ((vx_atS own ic E xnm).filter (fun w => !goodWord w)).all (fun w => decide (w ∈ xW)) = true) : ∀ w ∈ vx_atS own ic E xnm, w.before args s = true :=
  vx_hat (B := xW) (fun w hm => hts w (ul_in (of_decide_eq_true (List.all_eq_true.mp h1 w hm)) (List.mem_filter.mp hm).2)) (fun w hm => of_decide_eq_true (List.all_eq_true.mp h2 w hm)) (fun w hm => va_Nw.use (xW_ot w hm) (hw w hm))
theorem x_ot {own : String} {ik ic : Nat} {E : String} (h : (Cond.classLink own ik E :: Cond.initialized E :: vx_atS own ic E xnm).all vx_ot = true) : ∀ w ∈ Cond.classLink own ik E :: Cond.initialized E :: vx_atS own ic E xnm, vx_ot w = true := List.all_eq_true.mp h
section RR
variable {p : Program} {l : Launch} {e : Env} {R : Room} {s : State} {m : MethodId} {args : Array Value} {below : List Frame} {meth : Method} {c : Code} {H : Heap} {locs : List Loc} {cells slots mc ms : Nat} {cc : ByteArray} {pc nL : Nat} {ls : Array Slot} {own : String} {g : GE} {A : Nat → Prop} {XC : String → State → State → Prop}
theorem z_px (S : CallFix p m c cc nL s args UL own) (hr : meth.sig.returnType = none) (hlk : meth.locks = false) (hdg : decode cc pc = .ok (.return_, 1)) : W p l e R s m args below meth c s.heap [] 0 0 (vx_MQ below (Qp none) XC args s mc ms A) (F0 m pc ls []) :=
  vx_ret (W.widen (Nat.zero_le _) (Nat.zero_le _) (W.vret S.1 S.2.1 hr (fun t ht _ => ⟨rfl, ht⟩) (fun q h => by cases h) hdg hlk))
end RR
set_option maxRecDepth 20000 in
theorem x_X9_at : ((vx_atS "SideBySide$Stroke" 41 xISE xnm).filter goodWord).all (fun w => decide (w ∈ lw_tbl)) = true := by decide +kernel
set_option maxRecDepth 20000 in
theorem c_X9_fail {l : Launch} (hst : l.stackTraces = false) {g : GE} {A : Nat → Prop} {LP : List Nat} {kf : KF} {σ : IM} {ρ : RM} {f0 : Int32} {q0 k0 : Nat} (hPL : PL LP kf) (hq0 : kf q0 = some (k0, f0)) : vx_Met l yX9_fail (.code yX9_fail cX9_fail 1 none :: UL) ({ frames := 6, cells := 1, slots := 6, locals := 90 }) (va_Pc [.ref q0] (PreX lyC 48 g A (va_pl LP (skE kf)) σ ρ)) (fun a st oc t => f0 = 0 ∧ Qp none a st oc t) (fun E st t => f0 ≠ 0 ∧ XE xISE E st t) 1 6 A := by
  refine e_ofX (by decide) (Nat.le_of_ble_eq_true rfl) ?_
  intro p e s m below meth c ls S hr hlk hnt hv hl
  have hM := Mem.of hv.1
  have hK := hv.1.2.1
  have hX := hv.2
  have hl : lv_has ls 1 [(0, .ref q0)] := hl
  obtain ⟨sa, hstr⟩ := hX.2.1 ("SideBySide$Stroke", 39, "a stroke fails") (List.mem_of_getElem? (i := 0) rfl)
  refine lv_aload_n S.1 S.2.1 dX9_fail_0 rfl (lv_at hl 0 rfl) ?_
  refine r_fig S hK hM hPL hq0 tw_1_127 (fun _ h => h) dX9_fail_1 ?_
  refine lv_if_eq (tgt := 17) S.1 S.2.1 dX9_fail_4 (by decide) (fun b => ?_) (fun b => ?_)
  · exact vx_ret (W.widen (Nat.zero_le _) (Nat.zero_le _) (W.vret S.1 S.2.1 hr (fun t ht _ => ⟨b, rfl, ht⟩) (fun q h => by cases h) dX9_fail_17 hlk))
  · exact vx_throwS (names := xnm) S.1 S.2.1 hst S.2.2.2.1 (by decide +kernel) (by decide +kernel) (S.2.2.2.2 _ tw_4_230) (S.2.2.2.2 _ tw_1_21) hstr (x_hat S.2.2.2.2 hX.1 x_X9_at (by decide +kernel)) (x_ot (by decide +kernel)) hX.2.2.1 hX.2.2.2 hM.2.2.1 (hl.1.trans S.2.2.1.symm) dX9_fail_7 dX9_fail_10 dX9_fail_11 dX9_fail_13 dX9_fail_16 (fun x hx => (hnt x hx).elim) (by decide) (by decide) (Nat.le_of_ble_eq_true rfl) (Nat.le_of_ble_eq_true rfl) hlk (fun t _ h1 h2 => ⟨b, rfl, h1, h2⟩) (fun q h => by cases h) (Nat.le_of_ble_eq_true rfl) (Nat.le_of_ble_eq_true rfl)
set_option maxRecDepth 20000 in
theorem x_X3_at : ((vx_atS "SideBySide$Drop" 28 xIAE xnm).filter goodWord).all (fun w => decide (w ∈ lw_tbl)) = true := by decide +kernel
set_option maxRecDepth 20000 in
theorem c_X3_fail {l : Launch} (hst : l.stackTraces = false) {g : GE} {A : Nat → Prop} {LP : List Nat} {kf : KF} {σ : IM} {ρ : RM} {f0 : Int32} {q0 k0 : Nat} (hPL : PL LP kf) (hq0 : kf q0 = some (k0, f0)) : vx_Met l yX3_fail (.code yX3_fail cX3_fail 1 none :: UL) ({ frames := 6, cells := 1, slots := 6, locals := 90 }) (va_Pc [.ref q0] (PreX lyC 48 g A (va_pl LP (skE kf)) σ ρ)) (fun a st oc t => f0 = 0 ∧ Qp none a st oc t) (fun E st t => f0 ≠ 0 ∧ XE xIAE E st t) 1 6 A := by
  refine e_ofX (by decide) (Nat.le_of_ble_eq_true rfl) ?_
  intro p e s m below meth c ls S hr hlk hnt hv hl
  have hM := Mem.of hv.1
  have hK := hv.1.2.1
  have hX := hv.2
  have hl : lv_has ls 1 [(0, .ref q0)] := hl
  obtain ⟨sa, hstr⟩ := hX.2.1 ("SideBySide$Drop", 26, "a drop fails") (List.mem_of_getElem? (i := 1) rfl)
  refine lv_aload_n S.1 S.2.1 dX3_fail_0 rfl (lv_at hl 0 rfl) ?_
  refine r_fig S hK hM hPL hq0 tw_1_133 (u_same (S.2.2.2.2 _ tw_1_134)) dX3_fail_1 ?_
  refine lv_if_eq (tgt := 17) S.1 S.2.1 dX3_fail_4 (by decide) (fun b => ?_) (fun b => ?_)
  · exact vx_ret (W.widen (Nat.zero_le _) (Nat.zero_le _) (W.vret S.1 S.2.1 hr (fun t ht _ => ⟨b, rfl, ht⟩) (fun q h => by cases h) dX3_fail_17 hlk))
  · exact vx_throwS (names := xnm) S.1 S.2.1 hst S.2.2.2.1 (by decide +kernel) (by decide +kernel) (S.2.2.2.2 _ tw_4_136) (S.2.2.2.2 _ tw_1_20) hstr (x_hat S.2.2.2.2 hX.1 x_X3_at (by decide +kernel)) (x_ot (by decide +kernel)) hX.2.2.1 hX.2.2.2 hM.2.2.1 (hl.1.trans S.2.2.1.symm) dX3_fail_7 dX3_fail_10 dX3_fail_11 dX3_fail_13 dX3_fail_16 (fun x hx => (hnt x hx).elim) (by decide) (by decide) (Nat.le_of_ble_eq_true rfl) (Nat.le_of_ble_eq_true rfl) hlk (fun t _ h1 h2 => ⟨b, rfl, h1, h2⟩) (fun q h => by cases h) (Nat.le_of_ble_eq_true rfl) (Nat.le_of_ble_eq_true rfl)
set_option maxRecDepth 20000 in
theorem x_X6_at : ((vx_atS "SideBySide$Push" 25 xUOE xnm).filter goodWord).all (fun w => decide (w ∈ lw_tbl)) = true := by decide +kernel
set_option maxRecDepth 20000 in
theorem c_X6_fail {l : Launch} (hst : l.stackTraces = false) {g : GE} {A : Nat → Prop} {LP : List Nat} {kf : KF} {σ : IM} {ρ : RM} {f0 : Int32} {q0 k0 : Nat} (hPL : PL LP kf) (hq0 : kf q0 = some (k0, f0)) : vx_Met l yX6_fail (.code yX6_fail cX6_fail 1 none :: UL) ({ frames := 6, cells := 1, slots := 6, locals := 90 }) (va_Pc [.ref q0] (PreX lyC 48 g A (va_pl LP (skE kf)) σ ρ)) (fun a st oc t => f0 = 0 ∧ Qp none a st oc t) (fun E st t => f0 ≠ 0 ∧ XE xUOE E st t) 1 6 A := by
  refine e_ofX (by decide) (Nat.le_of_ble_eq_true rfl) ?_
  intro p e s m below meth c ls S hr hlk hnt hv hl
  have hM := Mem.of hv.1
  have hK := hv.1.2.1
  have hX := hv.2
  have hl : lv_has ls 1 [(0, .ref q0)] := hl
  obtain ⟨sa, hstr⟩ := hX.2.1 ("SideBySide$Push", 23, "a push fails") (List.mem_of_getElem? (i := 2) rfl)
  refine lv_aload_n S.1 S.2.1 dX6_fail_0 rfl (lv_at hl 0 rfl) ?_
  refine r_fig S hK hM hPL hq0 tw_1_135 (u_same (S.2.2.2.2 _ tw_1_136)) dX6_fail_1 ?_
  refine lv_if_eq (tgt := 17) S.1 S.2.1 dX6_fail_4 (by decide) (fun b => ?_) (fun b => ?_)
  · exact vx_ret (W.widen (Nat.zero_le _) (Nat.zero_le _) (W.vret S.1 S.2.1 hr (fun t ht _ => ⟨b, rfl, ht⟩) (fun q h => by cases h) dX6_fail_17 hlk))
  · exact vx_throwS (names := xnm) S.1 S.2.1 hst S.2.2.2.1 (by decide +kernel) (by decide +kernel) (S.2.2.2.2 _ tw_4_211) (S.2.2.2.2 _ tw_1_22) hstr (x_hat S.2.2.2.2 hX.1 x_X6_at (by decide +kernel)) (x_ot (by decide +kernel)) hX.2.2.1 hX.2.2.2 hM.2.2.1 (hl.1.trans S.2.2.1.symm) dX6_fail_7 dX6_fail_10 dX6_fail_11 dX6_fail_13 dX6_fail_16 (fun x hx => (hnt x hx).elim) (by decide) (by decide) (Nat.le_of_ble_eq_true rfl) (Nat.le_of_ble_eq_true rfl) hlk (fun t _ h1 h2 => ⟨b, rfl, h1, h2⟩) (fun q h => by cases h) (Nat.le_of_ble_eq_true rfl) (Nat.le_of_ble_eq_true rfl)
