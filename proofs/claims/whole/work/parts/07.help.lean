/-! strokes: their cells; arraycopy; stores into rows of strokes; then facts of each method -/
section RR
variable {p : Program} {l : Launch} {e : Env} {R : Room} {s : State} {m : MethodId} {args : Array Value} {below : List Frame} {meth : Method} {c : Code} {H H0 : Heap} {locs : List Loc} {cells slots : Nat} {Q : State → Prop}
variable {cc : ByteArray} {pc nL index : Nat} {ls : Array Slot} {rest : List Value} {own : String} {ly : LY} {N : Nat} {g : GE} {A : Nat → Prop} {LP : List Nat} {kf : KF} {X : va_W} {σ : IM} {ρ : RM}
theorem k8 {P : Nat → Prop} (h0 : P 0) (h1 : P 1) (h2 : P 2) (h3 : P 3) (h4 : P 4) (h5 : P 5) (h6 : P 6) (h7 : P 7) {k : Nat} (hk : k < 8) : P k := by
  rcases (show k = 0 ∨ k = 1 ∨ k = 2 ∨ k = 3 ∨ k = 4 ∨ k = 5 ∨ k = 6 ∨ k = 7 by omega) with rfl | rfl | rfl | rfl | rfl | rfl | rfl | rfl <;> assumption
/-- the class of a kind -/
theorem kcf {k : Nat} (hk : k < 8) : ∃ (C : String) (T : u_T), CF (kci k) C T 1 ∧ (T 0).1 = "SideBySide$Stroke" ∧ (T 0).2.1 = "figure" ∧ (T 0).2.2.1 = "I" ∧ (C = "SideBySide$Stroke" ∨ C ∈ ncl) := by
  refine k8 (P := fun k => ∃ (C : String) (T : u_T), CF (kci k) C T 1 ∧ (T 0).1 = "SideBySide$Stroke" ∧ (T 0).2.1 = "figure" ∧ (T 0).2.2.1 = "I" ∧ (C = "SideBySide$Stroke" ∨ C ∈ ncl)) ?_ ?_ ?_ ?_ ?_ ?_ ?_ ?_ hk
  · exact ⟨_, _, cfX9, rfl, rfl, rfl, Or.inl rfl⟩
  · exact ⟨_, _, cfX8, rfl, rfl, rfl, Or.inr (List.mem_of_getElem? (i := 0) rfl)⟩
  · exact ⟨_, _, cfX3, rfl, rfl, rfl, Or.inr (List.mem_of_getElem? (i := 1) rfl)⟩
  · exact ⟨_, _, cfX5, rfl, rfl, rfl, Or.inr (List.mem_of_getElem? (i := 2) rfl)⟩
  · exact ⟨_, _, cfX6, rfl, rfl, rfl, Or.inr (List.mem_of_getElem? (i := 3) rfl)⟩
  · exact ⟨_, _, cfX4, rfl, rfl, rfl, Or.inr (List.mem_of_getElem? (i := 4) rfl)⟩
  · exact ⟨_, _, cfX0, rfl, rfl, rfl, Or.inr (List.mem_of_getElem? (i := 5) rfl)⟩
  · exact ⟨_, _, cfX10, rfl, rfl, rfl, Or.inr (List.mem_of_getElem? (i := 6) rfl)⟩
theorem r_fig (S : CallFix p m c cc nL s args UL own) (hK : KK g s) (hM : Mem ly N g A (va_pl LP (skE kf)) σ ρ H0 H locs) (hPL : PL LP kf) {q k : Nat} {f : Int32} (hq : kf q = some (k, f)) {ref : String} (hlink : Cond.fieldLink own index ref "figure" "I" ∈ UL) (hsame : ∀ x, s.fieldFound? "SideBySide$Stroke" "figure" "I" = some x → s.fieldFound? ref "figure" "I" = some x) (hdg : decode cc pc = .ok (.getfield index, 3))
    (kk : W p l e R s m args below meth c H locs cells slots Q (F0 m (pc + 3) ls (.int f :: rest))) : W p l e R s m args below meth c H locs cells slots Q (F0 m pc ls (.ref q :: rest)) := by
  obtain ⟨C, T, cf, h1, h2, h3, -⟩ := kcf (hPL q k f hq).2
  obtain ⟨i, hi⟩ := pl_at (ly := ly) (N := N) (g := g) (σ := σ) (ρ := ρ) hPL hq
  refine va_get (ref := ref) (v := .int f) S.1 S.2.1 S.2.2.2.2 cf.2 S.2.2.2.1 hK.1 hM.1 i hi cf.1 0 (by decide) ?_ ?_ rfl hdg kk
  · rw [h2, h3]
    exact S.2.2.2.2 _ hlink
  · rw [h1, h2, h3]
    exact hsame
theorem pl_recv (hK : KK g s) (hM : Mem ly N g A (va_pl LP (skE kf)) σ ρ H0 H locs) (hPL : PL LP kf) {q k : Nat} {f : Int32} (hq : kf q = some (k, f)) : ∃ (C : String) (cC : ClassId), ClassAt s C cC ∧ ∃ cell : Cell, H[q]? = some cell ∧ cell.vm.isStatics = false ∧ s.vm.findClass C = some cell.cls := by
  obtain ⟨C, T, cf, -⟩ := kcf (hPL q k f hq).2
  obtain ⟨i, hi⟩ := pl_at (ly := ly) (N := N) (g := g) (σ := σ) (ρ := ρ) hPL hq
  exact ⟨C, _, (hK.1.1 (kci k) _ cf.1).2, va_recv hK.1 hM.1 cf.1 (q0 := i) hi⟩
theorem pl_recvK (hK : KK g s) (hM : Mem ly N g A (va_pl LP (skE kf)) σ ρ H0 H locs) (hPL : PL LP kf) {q k : Nat} {f : Int32} (hq : kf q = some (k, f)) {C : String} {T : u_T} (cf : CF (kci k) C T 1) : ∃ cell : Cell, H[q]? = some cell ∧ cell.vm.isStatics = false ∧ s.vm.findClass C = some cell.cls := by
  obtain ⟨i, hi⟩ := pl_at (ly := ly) (N := N) (g := g) (σ := σ) (ρ := ρ) hPL hq
  exact va_recv hK.1 hM.1 cf.1 (q0 := i) hi
theorem r_aast (S : CallFix p m c cc nL s args UL own) (hK : KK g s) (hM : Mem ly N g A (va_pl LP (skE kf)) σ ρ H0 H locs) (hPL : PL LP kf) (i : Nat) {n : Nat} {j : Int32} {q : Nat} {z : Nat × Int32} (hi : i < N) (hl : ly i = .inl (2, n)) (hin : ¬ (j < 0 ∨ n ≤ j.toNatClampNeg)) (hq : kf q = some z) {ρ' : RM} (hρ : ρ' = upr ρ i j.toNatClampNeg (some q)) (hdg : decode cc pc = .ok (.aastore, 1))
    (kk : ∀ (H1 : Heap) (locs1 : List Loc), Mem ly N g A (va_pl LP (skE kf)) σ ρ' H0 H1 locs1 → W p l e R s m args below meth c H1 locs1 cells slots Q (F0 m (pc + 1) ls rest)) : W p l e R s m args below meth c H locs cells slots Q (F0 m pc ls (.ref q :: .int j :: .ref (g.2.2 i) :: rest)) := by
  obtain ⟨k, f⟩ := z
  obtain ⟨C, T, cf, -, -, -, hC⟩ := kcf (hPL q k f hq).2
  obtain ⟨iq, hiq⟩ := pl_at (ly := ly) (N := N) (g := g) (σ := σ) (ρ := ρ) hPL hq
  have fin : ∀ (H1 : Heap) (locs1 : List Loc), va_P g.1 vwCl ((wl ly N g σ ρ (va_pl LP (skE kf))).set i (g.2.2 i, .inl (g.2.1 2, n, .inr (.inr (.inr (.inr (va_up (ρ i) j.toNatClampNeg (some q)))))))) H1 → va_D A ((wl ly N g σ ρ (va_pl LP (skE kf))).set i (g.2.2 i, .inl (g.2.1 2, n, .inr (.inr (.inr (.inr (va_up (ρ i) j.toNatClampNeg (some q)))))))) → va_S A H0 H1 locs1 → W p l e R s m args below meth c H1 locs1 cells slots Q (F0 m (pc + 1) ls rest) := by
    intro H1 locs1 h1 h2 h3
    rw [wl_setRA (t := 0) hi hl, ← hρ] at h1 h2
    exact kk H1 locs1 ⟨h1, h2, h3, hM.2.2.2⟩
  rcases hC with rfl | hC
  · exact va_astq (r := ("SideBySide$Stroke", T, 1)) S.1 S.2.1 hK.1 hM.1 hM.2.1 hM.2.2.1 i 2 iq (kci k) ((wl_at hi).trans (by rw [hl]; rfl)) rfl hiq cf.1 hin hdg fin
  · exact va_astqO (E := "SideBySide$Stroke") (r := (C, T, 1)) S.1 S.2.1 hK.1 hM.1 hM.2.1 hM.2.2.1 i 2 iq (kci k) ((wl_at hi).trans (by rw [hl]; rfl)) rfl (hK.2.2 C hC) hiq cf.1 hin hdg fin
theorem r_copy (S : CallFix p m c cc nL s args UL own) (hK : KK g s) (hM : Mem ly N g A X σ ρ H0 H locs) (i j : Nat) {ni nj : Nat} {sp dp n : Int32} (hi : i < N) (hli : ly i = .inl (0, ni)) (hj : j < N) (hlj : ly j = .inl (0, nj)) (h : ¬ sp < 0 ∧ ¬ dp < 0 ∧ ¬ n < 0 ∧ sp.toNatClampNeg + n.toNatClampNeg ≤ ni ∧ dp.toNatClampNeg + n.toNatClampNeg ≤ nj) {σ' : IM} (hσ : σ' = va_up σ j (va_cpy (σ i) (σ j) sp.toNatClampNeg dp.toNatClampNeg n.toNatClampNeg)) (hml : c.maxLocals = ls.size)
    (w1 : Cond.methodLink own index arraycopyName ∈ UL) (w2 : Cond.native arraycopyName ∈ UL) (w3 : Cond.static arraycopyName ∈ UL) (w4 : Cond.initialized "java/lang/System" ∈ UL) (hfr : 1 ≤ R.frames) (hlo : (rest.map fun v => v.category).sum + (nativeFrameWords "java/lang/System" "arraycopy" 5 + 11) ≤ R.locals) (hdg : decode cc pc = .ok (.invokestatic index, 3))
    (kk : ∀ (H1 : Heap) (locs1 : List Loc), Mem ly N g A X σ' ρ H0 H1 locs1 → W p l e R s m args below meth c H1 locs1 cells slots Q (F0 m (pc + 3) ls rest)) : W p l e R s m args below meth c H locs cells slots Q (F0 m pc ls (.int n :: .int dp :: .ref (g.2.2 j) :: .int sp :: .ref (g.2.2 i) :: rest)) := by
  refine va_copyi (ty := .int) S.1 S.2.1 hml S.2.2.2.1 (S.2.2.2.2 _ w1) (S.2.2.2.2 _ w2) (S.2.2.2.2 _ w3) (S.2.2.2.2 _ w4) hK.1 hM.1 hM.2.1 hM.2.2.1 i j 0 0 ((wl_at hi).trans (by rw [hli]; rfl)) ((wl_at hj).trans (by rw [hlj]; rfl)) rfl rfl rfl h.1 h.2.1 h.2.2.1 h.2.2.2.1 h.2.2.2.2 (fun _ _ => rfl) hfr hlo hdg (fun H1 locs1 h1 h2 h3 => ?_)
  rw [wl_setC hj hlj, ← hσ] at h1 h2
  exact kk H1 locs1 ⟨h1, h2, h3, hM.2.2.2⟩
end RR
theorem cw_X0_init : Cond.code yX0_init cX0_init 2 none ∈ UL := tw_1_176
theorem hv_X0_init : yX0_init.cls = RX0 ∧ yX0_init.cls ≠ "java/lang/invoke/MethodHandle" ∧ yX0_init.cls ≠ "java/lang/invoke/VarHandle" ∧ (parseMethodDescriptor yX0_init.desc).map (fun d => d.parameters.length) = some 1 := by decide +kernel
theorem cw_X0_kind : Cond.code yX0_kind cX0_kind 1 (some .int) ∈ UL := tw_2_219
theorem hv_X0_kind : yX0_kind.cls = RX0 ∧ yX0_kind.cls ≠ "java/lang/invoke/MethodHandle" ∧ yX0_kind.cls ≠ "java/lang/invoke/VarHandle" ∧ (parseMethodDescriptor yX0_kind.desc).map (fun d => d.parameters.length) = some 0 := by decide +kernel
theorem hu_X0_kind : yX0_kind.name ≠ "<init>" ∧ (parseMethodDescriptor yX0_kind.desc).map (fun d => d.parameters.length) = some 0 := by decide +kernel
theorem cw_X0_landing : Cond.code yX0_landing cX0_landing 3 (some .int) ∈ UL := tw_2_82
theorem hv_X0_landing : yX0_landing.cls = RX0 ∧ yX0_landing.cls ≠ "java/lang/invoke/MethodHandle" ∧ yX0_landing.cls ≠ "java/lang/invoke/VarHandle" ∧ (parseMethodDescriptor yX0_landing.desc).map (fun d => d.parameters.length) = some 2 := by decide +kernel
theorem hu_X0_landing : yX0_landing.name ≠ "<init>" ∧ (parseMethodDescriptor yX0_landing.desc).map (fun d => d.parameters.length) = some 2 := by decide +kernel
theorem cw_X0_price : Cond.code yX0_price cX0_price 1 (some .int) ∈ UL := tw_4_98
theorem hv_X0_price : yX0_price.cls = RX0 ∧ yX0_price.cls ≠ "java/lang/invoke/MethodHandle" ∧ yX0_price.cls ≠ "java/lang/invoke/VarHandle" ∧ (parseMethodDescriptor yX0_price.desc).map (fun d => d.parameters.length) = some 0 := by decide +kernel
theorem hu_X0_price : yX0_price.name ≠ "<init>" ∧ (parseMethodDescriptor yX0_price.desc).map (fun d => d.parameters.length) = some 0 := by decide +kernel
theorem cw_X1_init : Cond.code yX1_init cX1_init 1 none ∈ UL := tw_1_35
theorem hv_X1_init : yX1_init.cls = RX1 ∧ yX1_init.cls ≠ "java/lang/invoke/MethodHandle" ∧ yX1_init.cls ≠ "java/lang/invoke/VarHandle" ∧ (parseMethodDescriptor yX1_init.desc).map (fun d => d.parameters.length) = some 0 := by decide +kernel
theorem cw_X1_become : Cond.code yX1_become cX1_become 3 none ∈ UL := tw_2_21
theorem hv_X1_become : yX1_become.cls = RX1 ∧ yX1_become.cls ≠ "java/lang/invoke/MethodHandle" ∧ yX1_become.cls ≠ "java/lang/invoke/VarHandle" ∧ (parseMethodDescriptor yX1_become.desc).map (fun d => d.parameters.length) = some 1 := by decide +kernel
theorem cw_X1_knows : Cond.code yX1_knows cX1_knows 2 (some .boolean) ∈ UL := tw_2_71
theorem hv_X1_knows : yX1_knows.cls = RX1 ∧ yX1_knows.cls ≠ "java/lang/invoke/MethodHandle" ∧ yX1_knows.cls ≠ "java/lang/invoke/VarHandle" ∧ (parseMethodDescriptor yX1_knows.desc).map (fun d => d.parameters.length) = some 1 := by decide +kernel
theorem cw_X1_isHit : Cond.code yX1_isHit cX1_isHit 3 (some .boolean) ∈ UL := tw_2_67
theorem hv_X1_isHit : yX1_isHit.cls = RX1 ∧ yX1_isHit.cls ≠ "java/lang/invoke/MethodHandle" ∧ yX1_isHit.cls ≠ "java/lang/invoke/VarHandle" ∧ (parseMethodDescriptor yX1_isHit.desc).map (fun d => d.parameters.length) = some 2 := by decide +kernel
theorem cw_X1_hitRefusal : Cond.code yX1_hitRefusal cX1_hitRefusal 4 (some .int) ∈ UL := tw_2_63
theorem hv_X1_hitRefusal : yX1_hitRefusal.cls = RX1 ∧ yX1_hitRefusal.cls ≠ "java/lang/invoke/MethodHandle" ∧ yX1_hitRefusal.cls ≠ "java/lang/invoke/VarHandle" ∧ (parseMethodDescriptor yX1_hitRefusal.desc).map (fun d => d.parameters.length) = some 2 := by decide +kernel
theorem cw_X1_learn : Cond.code yX1_learn cX1_learn 2 (some .int) ∈ UL := tw_2_35
theorem hv_X1_learn : yX1_learn.cls = RX1 ∧ yX1_learn.cls ≠ "java/lang/invoke/MethodHandle" ∧ yX1_learn.cls ≠ "java/lang/invoke/VarHandle" ∧ (parseMethodDescriptor yX1_learn.desc).map (fun d => d.parameters.length) = some 1 := by decide +kernel
theorem cw_X1_standAt : Cond.code yX1_standAt cX1_standAt 5 (some .int) ∈ UL := tw_2_39
theorem hv_X1_standAt : yX1_standAt.cls = RX1 ∧ yX1_standAt.cls ≠ "java/lang/invoke/MethodHandle" ∧ yX1_standAt.cls ≠ "java/lang/invoke/VarHandle" ∧ (parseMethodDescriptor yX1_standAt.desc).map (fun d => d.parameters.length) = some 3 := by decide +kernel
theorem cw_X1_setTired : Cond.code yX1_setTired cX1_setTired 4 (some .int) ∈ UL := tw_2_44
theorem hv_X1_setTired : yX1_setTired.cls = RX1 ∧ yX1_setTired.cls ≠ "java/lang/invoke/MethodHandle" ∧ yX1_setTired.cls ≠ "java/lang/invoke/VarHandle" ∧ (parseMethodDescriptor yX1_setTired.desc).map (fun d => d.parameters.length) = some 2 := by decide +kernel
theorem cw_X1_switchHand : Cond.code yX1_switchHand cX1_switchHand 2 (some .int) ∈ UL := tw_2_48
theorem hv_X1_switchHand : yX1_switchHand.cls = RX1 ∧ yX1_switchHand.cls ≠ "java/lang/invoke/MethodHandle" ∧ yX1_switchHand.cls ≠ "java/lang/invoke/VarHandle" ∧ (parseMethodDescriptor yX1_switchHand.desc).map (fun d => d.parameters.length) = some 1 := by decide +kernel
theorem cw_X1_choices : Cond.code yX1_choices cX1_choices 1 (some .int) ∈ UL := tw_2_55
theorem hs_X1_choices : yX1_choices.cls ≠ "java/lang/invoke/MethodHandle" ∧ yX1_choices.cls ≠ "java/lang/invoke/VarHandle" ∧ (parseMethodDescriptor yX1_choices.desc).map (fun d => d.parameters.length) = some 1 := by decide +kernel
theorem cw_X1_adopt : Cond.code yX1_adopt cX1_adopt 6 (some .int) ∈ UL := tw_2_52
theorem hv_X1_adopt : yX1_adopt.cls = RX1 ∧ yX1_adopt.cls ≠ "java/lang/invoke/MethodHandle" ∧ yX1_adopt.cls ≠ "java/lang/invoke/VarHandle" ∧ (parseMethodDescriptor yX1_adopt.desc).map (fun d => d.parameters.length) = some 3 := by decide +kernel
theorem cw_X1_setDraught : Cond.code yX1_setDraught cX1_setDraught 3 (some .int) ∈ UL := tw_2_59
theorem hv_X1_setDraught : yX1_setDraught.cls = RX1 ∧ yX1_setDraught.cls ≠ "java/lang/invoke/MethodHandle" ∧ yX1_setDraught.cls ≠ "java/lang/invoke/VarHandle" ∧ (parseMethodDescriptor yX1_setDraught.desc).map (fun d => d.parameters.length) = some 1 := by decide +kernel
theorem cw_X1_giveTo : Cond.code yX1_giveTo cX1_giveTo 2 none ∈ UL := tw_3_126
theorem hv_X1_giveTo : yX1_giveTo.cls = RX1 ∧ yX1_giveTo.cls ≠ "java/lang/invoke/MethodHandle" ∧ yX1_giveTo.cls ≠ "java/lang/invoke/VarHandle" ∧ (parseMethodDescriptor yX1_giveTo.desc).map (fun d => d.parameters.length) = some 1 := by decide +kernel
theorem cw_X1_receivers : Cond.code yX1_receivers cX1_receivers 1 (some .int) ∈ UL := tw_2_134
theorem hv_X1_receivers : yX1_receivers.cls = RX1 ∧ yX1_receivers.cls ≠ "java/lang/invoke/MethodHandle" ∧ yX1_receivers.cls ≠ "java/lang/invoke/VarHandle" ∧ (parseMethodDescriptor yX1_receivers.desc).map (fun d => d.parameters.length) = some 0 := by decide +kernel
theorem cw_X1_landing : Cond.code yX1_landing cX1_landing 3 (some .int) ∈ UL := tw_3_58
theorem hv_X1_landing : yX1_landing.cls = RX1 ∧ yX1_landing.cls ≠ "java/lang/invoke/MethodHandle" ∧ yX1_landing.cls ≠ "java/lang/invoke/VarHandle" ∧ (parseMethodDescriptor yX1_landing.desc).map (fun d => d.parameters.length) = some 2 := by decide +kernel
theorem cw_X1_stepsIn : Cond.code yX1_stepsIn cX1_stepsIn 4 (some .int) ∈ UL := tw_2_157
theorem hv_X1_stepsIn : yX1_stepsIn.cls = RX1 ∧ yX1_stepsIn.cls ≠ "java/lang/invoke/MethodHandle" ∧ yX1_stepsIn.cls ≠ "java/lang/invoke/VarHandle" ∧ (parseMethodDescriptor yX1_stepsIn.desc).map (fun d => d.parameters.length) = some 3 := by decide +kernel
theorem cw_X1_claimTo : Cond.code yX1_claimTo cX1_claimTo 5 (some .int) ∈ UL := tw_2_130
theorem hv_X1_claimTo : yX1_claimTo.cls = RX1 ∧ yX1_claimTo.cls ≠ "java/lang/invoke/MethodHandle" ∧ yX1_claimTo.cls ≠ "java/lang/invoke/VarHandle" ∧ (parseMethodDescriptor yX1_claimTo.desc).map (fun d => d.parameters.length) = some 1 := by decide +kernel
theorem cw_X1_takerBy : Cond.code yX1_takerBy cX1_takerBy 2 (some .int) ∈ UL := tw_2_152
theorem hv_X1_takerBy : yX1_takerBy.cls = RX1 ∧ yX1_takerBy.cls ≠ "java/lang/invoke/MethodHandle" ∧ yX1_takerBy.cls ≠ "java/lang/invoke/VarHandle" ∧ (parseMethodDescriptor yX1_takerBy.desc).map (fun d => d.parameters.length) = some 1 := by decide +kernel
theorem cw_X1_takerOf : Cond.code yX1_takerOf cX1_takerOf 2 (some .int) ∈ UL := tw_3_62
theorem hv_X1_takerOf : yX1_takerOf.cls = RX1 ∧ yX1_takerOf.cls ≠ "java/lang/invoke/MethodHandle" ∧ yX1_takerOf.cls ≠ "java/lang/invoke/VarHandle" ∧ (parseMethodDescriptor yX1_takerOf.desc).map (fun d => d.parameters.length) = some 1 := by decide +kernel
theorem cw_X1_leftOneOf : Cond.code yX1_leftOneOf cX1_leftOneOf 3 (some .int) ∈ UL := tw_2_144
theorem hv_X1_leftOneOf : yX1_leftOneOf.cls = RX1 ∧ yX1_leftOneOf.cls ≠ "java/lang/invoke/MethodHandle" ∧ yX1_leftOneOf.cls ≠ "java/lang/invoke/VarHandle" ∧ (parseMethodDescriptor yX1_leftOneOf.desc).map (fun d => d.parameters.length) = some 2 := by decide +kernel
theorem cw_X1_wayLed : Cond.code yX1_wayLed cX1_wayLed 3 (some .int) ∈ UL := tw_3_96
theorem hv_X1_wayLed : yX1_wayLed.cls = RX1 ∧ yX1_wayLed.cls ≠ "java/lang/invoke/MethodHandle" ∧ yX1_wayLed.cls ≠ "java/lang/invoke/VarHandle" ∧ (parseMethodDescriptor yX1_wayLed.desc).map (fun d => d.parameters.length) = some 1 := by decide +kernel
theorem cw_X1_scores : Cond.code yX1_scores cX1_scores 4 (some .boolean) ∈ UL := tw_3_70
theorem hv_X1_scores : yX1_scores.cls = RX1 ∧ yX1_scores.cls ≠ "java/lang/invoke/MethodHandle" ∧ yX1_scores.cls ≠ "java/lang/invoke/VarHandle" ∧ (parseMethodDescriptor yX1_scores.desc).map (fun d => d.parameters.length) = some 2 := by decide +kernel
theorem cw_X1_isMissed : Cond.code yX1_isMissed cX1_isMissed 6 (some .boolean) ∈ UL := tw_2_148
theorem hv_X1_isMissed : yX1_isMissed.cls = RX1 ∧ yX1_isMissed.cls ≠ "java/lang/invoke/MethodHandle" ∧ yX1_isMissed.cls ≠ "java/lang/invoke/VarHandle" ∧ (parseMethodDescriptor yX1_isMissed.desc).map (fun d => d.parameters.length) = some 3 := by decide +kernel
theorem cw_X1_firstScoring : Cond.code yX1_firstScoring cX1_firstScoring 3 (some .int) ∈ UL := tw_3_87
theorem hv_X1_firstScoring : yX1_firstScoring.cls = RX1 ∧ yX1_firstScoring.cls ≠ "java/lang/invoke/MethodHandle" ∧ yX1_firstScoring.cls ≠ "java/lang/invoke/VarHandle" ∧ (parseMethodDescriptor yX1_firstScoring.desc).map (fun d => d.parameters.length) = some 0 := by decide +kernel
theorem cw_X1_strike : Cond.code yX1_strike cX1_strike 9 (some .boolean) ∈ UL := tw_2_75
theorem hv_X1_strike : yX1_strike.cls = RX1 ∧ yX1_strike.cls ≠ "java/lang/invoke/MethodHandle" ∧ yX1_strike.cls ≠ "java/lang/invoke/VarHandle" ∧ (parseMethodDescriptor yX1_strike.desc).map (fun d => d.parameters.length) = some 2 := by decide +kernel
theorem cw_X1_take : Cond.code yX1_take cX1_take 3 none ∈ UL := tw_2_192
theorem hv_X1_take : yX1_take.cls = RX1 ∧ yX1_take.cls ≠ "java/lang/invoke/MethodHandle" ∧ yX1_take.cls ≠ "java/lang/invoke/VarHandle" ∧ (parseMethodDescriptor yX1_take.desc).map (fun d => d.parameters.length) = some 2 := by decide +kernel
theorem cw_X1_sendPartner : Cond.code yX1_sendPartner cX1_sendPartner 9 none ∈ UL := tw_2_196
theorem hv_X1_sendPartner : yX1_sendPartner.cls = RX1 ∧ yX1_sendPartner.cls ≠ "java/lang/invoke/MethodHandle" ∧ yX1_sendPartner.cls ≠ "java/lang/invoke/VarHandle" ∧ (parseMethodDescriptor yX1_sendPartner.desc).map (fun d => d.parameters.length) = some 2 := by decide +kernel
theorem cw_X1_weary : Cond.code yX1_weary cX1_weary 3 none ∈ UL := tw_2_185
theorem hv_X1_weary : yX1_weary.cls = RX1 ∧ yX1_weary.cls ≠ "java/lang/invoke/MethodHandle" ∧ yX1_weary.cls ≠ "java/lang/invoke/VarHandle" ∧ (parseMethodDescriptor yX1_weary.desc).map (fun d => d.parameters.length) = some 2 := by decide +kernel
theorem cw_X1_partnerOf : Cond.code yX1_partnerOf cX1_partnerOf 1 (some .int) ∈ UL := tw_2_188
theorem hs_X1_partnerOf : yX1_partnerOf.cls ≠ "java/lang/invoke/MethodHandle" ∧ yX1_partnerOf.cls ≠ "java/lang/invoke/VarHandle" ∧ (parseMethodDescriptor yX1_partnerOf.desc).map (fun d => d.parameters.length) = some 1 := by decide +kernel
theorem cw_X1_placeBy : Cond.code yX1_placeBy cX1_placeBy 2 (some .int) ∈ UL := tw_2_200
theorem hv_X1_placeBy : yX1_placeBy.cls = RX1 ∧ yX1_placeBy.cls ≠ "java/lang/invoke/MethodHandle" ∧ yX1_placeBy.cls ≠ "java/lang/invoke/VarHandle" ∧ (parseMethodDescriptor yX1_placeBy.desc).map (fun d => d.parameters.length) = some 1 := by decide +kernel
theorem cw_X1_outOfPlace : Cond.code yX1_outOfPlace cX1_outOfPlace 3 (some .int) ∈ UL := tw_3_13
theorem hv_X1_outOfPlace : yX1_outOfPlace.cls = RX1 ∧ yX1_outOfPlace.cls ≠ "java/lang/invoke/MethodHandle" ∧ yX1_outOfPlace.cls ≠ "java/lang/invoke/VarHandle" ∧ (parseMethodDescriptor yX1_outOfPlace.desc).map (fun d => d.parameters.length) = some 1 := by decide +kernel
theorem cw_X1_nearer : Cond.code yX1_nearer cX1_nearer 3 (some .int) ∈ UL := tw_2_203
theorem hs_X1_nearer : yX1_nearer.cls ≠ "java/lang/invoke/MethodHandle" ∧ yX1_nearer.cls ≠ "java/lang/invoke/VarHandle" ∧ (parseMethodDescriptor yX1_nearer.desc).map (fun d => d.parameters.length) = some 3 := by decide +kernel
theorem cw_X1_allTired : Cond.code yX1_allTired cX1_allTired 1 (some .int) ∈ UL := tw_4_14
theorem hv_X1_allTired : yX1_allTired.cls = RX1 ∧ yX1_allTired.cls ≠ "java/lang/invoke/MethodHandle" ∧ yX1_allTired.cls ≠ "java/lang/invoke/VarHandle" ∧ (parseMethodDescriptor yX1_allTired.desc).map (fun d => d.parameters.length) = some 0 := by decide +kernel
theorem cw_X1_leftOnes : Cond.code yX1_leftOnes cX1_leftOnes 1 (some .int) ∈ UL := tw_4_50
theorem hv_X1_leftOnes : yX1_leftOnes.cls = RX1 ∧ yX1_leftOnes.cls ≠ "java/lang/invoke/MethodHandle" ∧ yX1_leftOnes.cls ≠ "java/lang/invoke/VarHandle" ∧ (parseMethodDescriptor yX1_leftOnes.desc).map (fun d => d.parameters.length) = some 0 := by decide +kernel
theorem cw_X2_wrongByte : Cond.code yX2_wrongByte cX2_wrongByte 4 (some .int) ∈ UL := tw_2_3
theorem hs_X2_wrongByte : yX2_wrongByte.cls ≠ "java/lang/invoke/MethodHandle" ∧ yX2_wrongByte.cls ≠ "java/lang/invoke/VarHandle" ∧ (parseMethodDescriptor yX2_wrongByte.desc).map (fun d => d.parameters.length) = some 1 := by decide +kernel
theorem cw_X2_wrongStatement : Cond.code yX2_wrongStatement cX2_wrongStatement 3 (some .int) ∈ UL := tw_2_27
theorem hs_X2_wrongStatement : yX2_wrongStatement.cls ≠ "java/lang/invoke/MethodHandle" ∧ yX2_wrongStatement.cls ≠ "java/lang/invoke/VarHandle" ∧ (parseMethodDescriptor yX2_wrongStatement.desc).map (fun d => d.parameters.length) = some 2 := by decide +kernel
theorem cw_X2_statements : Cond.code yX2_statements cX2_statements 3 (some .int) ∈ UL := tw_2_207
theorem hs_X2_statements : yX2_statements.cls ≠ "java/lang/invoke/MethodHandle" ∧ yX2_statements.cls ≠ "java/lang/invoke/VarHandle" ∧ (parseMethodDescriptor yX2_statements.desc).map (fun d => d.parameters.length) = some 1 := by decide +kernel
theorem cw_X2_digitsBehind : Cond.code yX2_digitsBehind cX2_digitsBehind 1 (some .int) ∈ UL := tw_2_11
theorem hs_X2_digitsBehind : yX2_digitsBehind.cls ≠ "java/lang/invoke/MethodHandle" ∧ yX2_digitsBehind.cls ≠ "java/lang/invoke/VarHandle" ∧ (parseMethodDescriptor yX2_digitsBehind.desc).map (fun d => d.parameters.length) = some 1 := by decide +kernel
theorem cw_X2_tell : Cond.code yX2_tell cX2_tell 7 (some .int) ∈ UL := tw_2_30
theorem hs_X2_tell : yX2_tell.cls ≠ "java/lang/invoke/MethodHandle" ∧ yX2_tell.cls ≠ "java/lang/invoke/VarHandle" ∧ (parseMethodDescriptor yX2_tell.desc).map (fun d => d.parameters.length) = some 3 := by decide +kernel
theorem cw_X3_init : Cond.code yX3_init cX3_init 2 none ∈ UL := tw_1_144
theorem hv_X3_init : yX3_init.cls = RX3 ∧ yX3_init.cls ≠ "java/lang/invoke/MethodHandle" ∧ yX3_init.cls ≠ "java/lang/invoke/VarHandle" ∧ (parseMethodDescriptor yX3_init.desc).map (fun d => d.parameters.length) = some 1 := by decide +kernel
theorem cw_X3_kind : Cond.code yX3_kind cX3_kind 1 (some .int) ∈ UL := tw_2_222
theorem hv_X3_kind : yX3_kind.cls = RX3 ∧ yX3_kind.cls ≠ "java/lang/invoke/MethodHandle" ∧ yX3_kind.cls ≠ "java/lang/invoke/VarHandle" ∧ (parseMethodDescriptor yX3_kind.desc).map (fun d => d.parameters.length) = some 0 := by decide +kernel
theorem hu_X3_kind : yX3_kind.name ≠ "<init>" ∧ (parseMethodDescriptor yX3_kind.desc).map (fun d => d.parameters.length) = some 0 := by decide +kernel
theorem cw_X3_timeTo : Cond.code yX3_timeTo cX3_timeTo 2 (some .int) ∈ UL := tw_2_105
theorem hv_X3_timeTo : yX3_timeTo.cls = RX3 ∧ yX3_timeTo.cls ≠ "java/lang/invoke/MethodHandle" ∧ yX3_timeTo.cls ≠ "java/lang/invoke/VarHandle" ∧ (parseMethodDescriptor yX3_timeTo.desc).map (fun d => d.parameters.length) = some 1 := by decide +kernel
theorem hu_X3_timeTo : yX3_timeTo.name ≠ "<init>" ∧ (parseMethodDescriptor yX3_timeTo.desc).map (fun d => d.parameters.length) = some 1 := by decide +kernel
theorem cw_X3_effort : Cond.code yX3_effort cX3_effort 1 (some .int) ∈ UL := tw_2_166
theorem hv_X3_effort : yX3_effort.cls = RX3 ∧ yX3_effort.cls ≠ "java/lang/invoke/MethodHandle" ∧ yX3_effort.cls ≠ "java/lang/invoke/VarHandle" ∧ (parseMethodDescriptor yX3_effort.desc).map (fun d => d.parameters.length) = some 0 := by decide +kernel
theorem hu_X3_effort : yX3_effort.name ≠ "<init>" ∧ (parseMethodDescriptor yX3_effort.desc).map (fun d => d.parameters.length) = some 0 := by decide +kernel
theorem cw_X3_price : Cond.code yX3_price cX3_price 1 (some .int) ∈ UL := tw_4_101
theorem hv_X3_price : yX3_price.cls = RX3 ∧ yX3_price.cls ≠ "java/lang/invoke/MethodHandle" ∧ yX3_price.cls ≠ "java/lang/invoke/VarHandle" ∧ (parseMethodDescriptor yX3_price.desc).map (fun d => d.parameters.length) = some 0 := by decide +kernel
theorem hu_X3_price : yX3_price.name ≠ "<init>" ∧ (parseMethodDescriptor yX3_price.desc).map (fun d => d.parameters.length) = some 0 := by decide +kernel
theorem cw_X3_fail : Cond.code yX3_fail cX3_fail 1 none ∈ UL := tw_4_135
theorem hv_X3_fail : yX3_fail.cls = RX3 ∧ yX3_fail.cls ≠ "java/lang/invoke/MethodHandle" ∧ yX3_fail.cls ≠ "java/lang/invoke/VarHandle" ∧ (parseMethodDescriptor yX3_fail.desc).map (fun d => d.parameters.length) = some 0 := by decide +kernel
theorem hu_X3_fail : yX3_fail.name ≠ "<init>" ∧ (parseMethodDescriptor yX3_fail.desc).map (fun d => d.parameters.length) = some 0 := by decide +kernel
theorem cw_X4_init : Cond.code yX4_init cX4_init 2 none ∈ UL := tw_1_168
theorem hv_X4_init : yX4_init.cls = RX4 ∧ yX4_init.cls ≠ "java/lang/invoke/MethodHandle" ∧ yX4_init.cls ≠ "java/lang/invoke/VarHandle" ∧ (parseMethodDescriptor yX4_init.desc).map (fun d => d.parameters.length) = some 1 := by decide +kernel
theorem cw_X4_kind : Cond.code yX4_kind cX4_kind 1 (some .int) ∈ UL := tw_2_225
theorem hv_X4_kind : yX4_kind.cls = RX4 ∧ yX4_kind.cls ≠ "java/lang/invoke/MethodHandle" ∧ yX4_kind.cls ≠ "java/lang/invoke/VarHandle" ∧ (parseMethodDescriptor yX4_kind.desc).map (fun d => d.parameters.length) = some 0 := by decide +kernel
theorem hu_X4_kind : yX4_kind.name ≠ "<init>" ∧ (parseMethodDescriptor yX4_kind.desc).map (fun d => d.parameters.length) = some 0 := by decide +kernel
theorem cw_X4_timeTo : Cond.code yX4_timeTo cX4_timeTo 2 (some .int) ∈ UL := tw_2_109
theorem hv_X4_timeTo : yX4_timeTo.cls = RX4 ∧ yX4_timeTo.cls ≠ "java/lang/invoke/MethodHandle" ∧ yX4_timeTo.cls ≠ "java/lang/invoke/VarHandle" ∧ (parseMethodDescriptor yX4_timeTo.desc).map (fun d => d.parameters.length) = some 1 := by decide +kernel
theorem hu_X4_timeTo : yX4_timeTo.name ≠ "<init>" ∧ (parseMethodDescriptor yX4_timeTo.desc).map (fun d => d.parameters.length) = some 1 := by decide +kernel
theorem cw_X4_effort : Cond.code yX4_effort cX4_effort 1 (some .int) ∈ UL := tw_2_170
theorem hv_X4_effort : yX4_effort.cls = RX4 ∧ yX4_effort.cls ≠ "java/lang/invoke/MethodHandle" ∧ yX4_effort.cls ≠ "java/lang/invoke/VarHandle" ∧ (parseMethodDescriptor yX4_effort.desc).map (fun d => d.parameters.length) = some 0 := by decide +kernel
theorem hu_X4_effort : yX4_effort.name ≠ "<init>" ∧ (parseMethodDescriptor yX4_effort.desc).map (fun d => d.parameters.length) = some 0 := by decide +kernel
theorem cw_X4_price : Cond.code yX4_price cX4_price 1 (some .int) ∈ UL := tw_4_105
theorem hv_X4_price : yX4_price.cls = RX4 ∧ yX4_price.cls ≠ "java/lang/invoke/MethodHandle" ∧ yX4_price.cls ≠ "java/lang/invoke/VarHandle" ∧ (parseMethodDescriptor yX4_price.desc).map (fun d => d.parameters.length) = some 0 := by decide +kernel
theorem hu_X4_price : yX4_price.name ≠ "<init>" ∧ (parseMethodDescriptor yX4_price.desc).map (fun d => d.parameters.length) = some 0 := by decide +kernel
theorem cw_X5_init : Cond.code yX5_init cX5_init 2 none ∈ UL := tw_1_152
theorem hv_X5_init : yX5_init.cls = RX5 ∧ yX5_init.cls ≠ "java/lang/invoke/MethodHandle" ∧ yX5_init.cls ≠ "java/lang/invoke/VarHandle" ∧ (parseMethodDescriptor yX5_init.desc).map (fun d => d.parameters.length) = some 1 := by decide +kernel
theorem cw_X5_kind : Cond.code yX5_kind cX5_kind 1 (some .int) ∈ UL := tw_2_228
theorem hv_X5_kind : yX5_kind.cls = RX5 ∧ yX5_kind.cls ≠ "java/lang/invoke/MethodHandle" ∧ yX5_kind.cls ≠ "java/lang/invoke/VarHandle" ∧ (parseMethodDescriptor yX5_kind.desc).map (fun d => d.parameters.length) = some 0 := by decide +kernel
theorem hu_X5_kind : yX5_kind.name ≠ "<init>" ∧ (parseMethodDescriptor yX5_kind.desc).map (fun d => d.parameters.length) = some 0 := by decide +kernel
theorem cw_X5_timeTo : Cond.code yX5_timeTo cX5_timeTo 2 (some .int) ∈ UL := tw_2_112
theorem hv_X5_timeTo : yX5_timeTo.cls = RX5 ∧ yX5_timeTo.cls ≠ "java/lang/invoke/MethodHandle" ∧ yX5_timeTo.cls ≠ "java/lang/invoke/VarHandle" ∧ (parseMethodDescriptor yX5_timeTo.desc).map (fun d => d.parameters.length) = some 1 := by decide +kernel
theorem hu_X5_timeTo : yX5_timeTo.name ≠ "<init>" ∧ (parseMethodDescriptor yX5_timeTo.desc).map (fun d => d.parameters.length) = some 1 := by decide +kernel
theorem cw_X5_effort : Cond.code yX5_effort cX5_effort 1 (some .int) ∈ UL := tw_2_173
theorem hv_X5_effort : yX5_effort.cls = RX5 ∧ yX5_effort.cls ≠ "java/lang/invoke/MethodHandle" ∧ yX5_effort.cls ≠ "java/lang/invoke/VarHandle" ∧ (parseMethodDescriptor yX5_effort.desc).map (fun d => d.parameters.length) = some 0 := by decide +kernel
theorem hu_X5_effort : yX5_effort.name ≠ "<init>" ∧ (parseMethodDescriptor yX5_effort.desc).map (fun d => d.parameters.length) = some 0 := by decide +kernel
theorem cw_X5_price : Cond.code yX5_price cX5_price 1 (some .int) ∈ UL := tw_4_108
theorem hv_X5_price : yX5_price.cls = RX5 ∧ yX5_price.cls ≠ "java/lang/invoke/MethodHandle" ∧ yX5_price.cls ≠ "java/lang/invoke/VarHandle" ∧ (parseMethodDescriptor yX5_price.desc).map (fun d => d.parameters.length) = some 0 := by decide +kernel
theorem hu_X5_price : yX5_price.name ≠ "<init>" ∧ (parseMethodDescriptor yX5_price.desc).map (fun d => d.parameters.length) = some 0 := by decide +kernel
theorem cw_X5_fail : Cond.code yX5_fail cX5_fail 1 none ∈ UL := tw_4_206
theorem hv_X5_fail : yX5_fail.cls = RX5 ∧ yX5_fail.cls ≠ "java/lang/invoke/MethodHandle" ∧ yX5_fail.cls ≠ "java/lang/invoke/VarHandle" ∧ (parseMethodDescriptor yX5_fail.desc).map (fun d => d.parameters.length) = some 0 := by decide +kernel
theorem hu_X5_fail : yX5_fail.name ≠ "<init>" ∧ (parseMethodDescriptor yX5_fail.desc).map (fun d => d.parameters.length) = some 0 := by decide +kernel
theorem cw_X6_init : Cond.code yX6_init cX6_init 2 none ∈ UL := tw_1_160
theorem hv_X6_init : yX6_init.cls = RX6 ∧ yX6_init.cls ≠ "java/lang/invoke/MethodHandle" ∧ yX6_init.cls ≠ "java/lang/invoke/VarHandle" ∧ (parseMethodDescriptor yX6_init.desc).map (fun d => d.parameters.length) = some 1 := by decide +kernel
theorem cw_X6_kind : Cond.code yX6_kind cX6_kind 1 (some .int) ∈ UL := tw_2_231
theorem hv_X6_kind : yX6_kind.cls = RX6 ∧ yX6_kind.cls ≠ "java/lang/invoke/MethodHandle" ∧ yX6_kind.cls ≠ "java/lang/invoke/VarHandle" ∧ (parseMethodDescriptor yX6_kind.desc).map (fun d => d.parameters.length) = some 0 := by decide +kernel
theorem hu_X6_kind : yX6_kind.name ≠ "<init>" ∧ (parseMethodDescriptor yX6_kind.desc).map (fun d => d.parameters.length) = some 0 := by decide +kernel
theorem cw_X6_timeTo : Cond.code yX6_timeTo cX6_timeTo 2 (some .int) ∈ UL := tw_2_117
theorem hv_X6_timeTo : yX6_timeTo.cls = RX6 ∧ yX6_timeTo.cls ≠ "java/lang/invoke/MethodHandle" ∧ yX6_timeTo.cls ≠ "java/lang/invoke/VarHandle" ∧ (parseMethodDescriptor yX6_timeTo.desc).map (fun d => d.parameters.length) = some 1 := by decide +kernel
theorem hu_X6_timeTo : yX6_timeTo.name ≠ "<init>" ∧ (parseMethodDescriptor yX6_timeTo.desc).map (fun d => d.parameters.length) = some 1 := by decide +kernel
theorem cw_X6_price : Cond.code yX6_price cX6_price 1 (some .int) ∈ UL := tw_4_112
theorem hv_X6_price : yX6_price.cls = RX6 ∧ yX6_price.cls ≠ "java/lang/invoke/MethodHandle" ∧ yX6_price.cls ≠ "java/lang/invoke/VarHandle" ∧ (parseMethodDescriptor yX6_price.desc).map (fun d => d.parameters.length) = some 0 := by decide +kernel
theorem hu_X6_price : yX6_price.name ≠ "<init>" ∧ (parseMethodDescriptor yX6_price.desc).map (fun d => d.parameters.length) = some 0 := by decide +kernel
theorem cw_X6_fail : Cond.code yX6_fail cX6_fail 1 none ∈ UL := tw_4_210
theorem hv_X6_fail : yX6_fail.cls = RX6 ∧ yX6_fail.cls ≠ "java/lang/invoke/MethodHandle" ∧ yX6_fail.cls ≠ "java/lang/invoke/VarHandle" ∧ (parseMethodDescriptor yX6_fail.desc).map (fun d => d.parameters.length) = some 0 := by decide +kernel
theorem hu_X6_fail : yX6_fail.name ≠ "<init>" ∧ (parseMethodDescriptor yX6_fail.desc).map (fun d => d.parameters.length) = some 0 := by decide +kernel
theorem cw_X7_init : Cond.code yX7_init cX7_init 1 none ∈ UL := tw_1_95
theorem hv_X7_init : yX7_init.cls = RX7 ∧ yX7_init.cls ≠ "java/lang/invoke/MethodHandle" ∧ yX7_init.cls ≠ "java/lang/invoke/VarHandle" ∧ (parseMethodDescriptor yX7_init.desc).map (fun d => d.parameters.length) = some 0 := by decide +kernel
theorem cw_X7_isRow : Cond.code yX7_isRow cX7_isRow 1 (some .boolean) ∈ UL := tw_1_239
theorem hv_X7_isRow : yX7_isRow.cls = RX7 ∧ yX7_isRow.cls ≠ "java/lang/invoke/MethodHandle" ∧ yX7_isRow.cls ≠ "java/lang/invoke/VarHandle" ∧ (parseMethodDescriptor yX7_isRow.desc).map (fun d => d.parameters.length) = some 0 := by decide +kernel
theorem cw_X7_isBare : Cond.code yX7_isBare cX7_isBare 1 (some .boolean) ∈ UL := tw_1_235
theorem hv_X7_isBare : yX7_isBare.cls = RX7 ∧ yX7_isBare.cls ≠ "java/lang/invoke/MethodHandle" ∧ yX7_isBare.cls ≠ "java/lang/invoke/VarHandle" ∧ (parseMethodDescriptor yX7_isBare.desc).map (fun d => d.parameters.length) = some 0 := by decide +kernel
theorem cw_X7_clear : Cond.code yX7_clear cX7_clear 1 none ∈ UL := tw_4_58
theorem hv_X7_clear : yX7_clear.cls = RX7 ∧ yX7_clear.cls ≠ "java/lang/invoke/MethodHandle" ∧ yX7_clear.cls ≠ "java/lang/invoke/VarHandle" ∧ (parseMethodDescriptor yX7_clear.desc).map (fun d => d.parameters.length) = some 0 := by decide +kernel
theorem cw_X7_hold : Cond.code yX7_hold cX7_hold 2 none ∈ UL := tw_4_62
theorem hv_X7_hold : yX7_hold.cls = RX7 ∧ yX7_hold.cls ≠ "java/lang/invoke/MethodHandle" ∧ yX7_hold.cls ≠ "java/lang/invoke/VarHandle" ∧ (parseMethodDescriptor yX7_hold.desc).map (fun d => d.parameters.length) = some 1 := by decide +kernel
theorem cw_X7_lay : Cond.code yX7_lay cX7_lay 4 none ∈ UL := tw_4_71
theorem hv_X7_lay : yX7_lay.cls = RX7 ∧ yX7_lay.cls ≠ "java/lang/invoke/MethodHandle" ∧ yX7_lay.cls ≠ "java/lang/invoke/VarHandle" ∧ (parseMethodDescriptor yX7_lay.desc).map (fun d => d.parameters.length) = some 2 := by decide +kernel
theorem cw_X7_fitted : Cond.code yX7_fitted cX7_fitted 2 (some .int) ∈ UL := tw_4_79
theorem hv_X7_fitted : yX7_fitted.cls = RX7 ∧ yX7_fitted.cls ≠ "java/lang/invoke/MethodHandle" ∧ yX7_fitted.cls ≠ "java/lang/invoke/VarHandle" ∧ (parseMethodDescriptor yX7_fitted.desc).map (fun d => d.parameters.length) = some 1 := by decide +kernel
theorem cw_X7_least : Cond.code yX7_least cX7_least 1 (some .int) ∈ UL := tw_3_196
theorem hv_X7_least : yX7_least.cls = RX7 ∧ yX7_least.cls ≠ "java/lang/invoke/MethodHandle" ∧ yX7_least.cls ≠ "java/lang/invoke/VarHandle" ∧ (parseMethodDescriptor yX7_least.desc).map (fun d => d.parameters.length) = some 0 := by decide +kernel
theorem cw_X7_spans : Cond.code yX7_spans cX7_spans 3 (some .boolean) ∈ UL := tw_4_87
theorem hv_X7_spans : yX7_spans.cls = RX7 ∧ yX7_spans.cls ≠ "java/lang/invoke/MethodHandle" ∧ yX7_spans.cls ≠ "java/lang/invoke/VarHandle" ∧ (parseMethodDescriptor yX7_spans.desc).map (fun d => d.parameters.length) = some 2 := by decide +kernel
theorem cw_X7_allows : Cond.code yX7_allows cX7_allows 3 (some .boolean) ∈ UL := tw_3_192
theorem hv_X7_allows : yX7_allows.cls = RX7 ∧ yX7_allows.cls ≠ "java/lang/invoke/MethodHandle" ∧ yX7_allows.cls ≠ "java/lang/invoke/VarHandle" ∧ (parseMethodDescriptor yX7_allows.desc).map (fun d => d.parameters.length) = some 2 := by decide +kernel
theorem cw_X7_byteAt : Cond.code yX7_byteAt cX7_byteAt 2 (some .int) ∈ UL := tw_2_7
theorem hv_X7_byteAt : yX7_byteAt.cls = RX7 ∧ yX7_byteAt.cls ≠ "java/lang/invoke/MethodHandle" ∧ yX7_byteAt.cls ≠ "java/lang/invoke/VarHandle" ∧ (parseMethodDescriptor yX7_byteAt.desc).map (fun d => d.parameters.length) = some 1 := by decide +kernel
theorem cw_X7_digitAt : Cond.code yX7_digitAt cX7_digitAt 2 (some .int) ∈ UL := tw_2_15
theorem hv_X7_digitAt : yX7_digitAt.cls = RX7 ∧ yX7_digitAt.cls ≠ "java/lang/invoke/MethodHandle" ∧ yX7_digitAt.cls ≠ "java/lang/invoke/VarHandle" ∧ (parseMethodDescriptor yX7_digitAt.desc).map (fun d => d.parameters.length) = some 1 := by decide +kernel
theorem cw_X8_init : Cond.code yX8_init cX8_init 2 none ∈ UL := tw_1_122
theorem hv_X8_init : yX8_init.cls = RX8 ∧ yX8_init.cls ≠ "java/lang/invoke/MethodHandle" ∧ yX8_init.cls ≠ "java/lang/invoke/VarHandle" ∧ (parseMethodDescriptor yX8_init.desc).map (fun d => d.parameters.length) = some 1 := by decide +kernel
theorem cw_X8_kind : Cond.code yX8_kind cX8_kind 1 (some .int) ∈ UL := tw_2_234
theorem hv_X8_kind : yX8_kind.cls = RX8 ∧ yX8_kind.cls ≠ "java/lang/invoke/MethodHandle" ∧ yX8_kind.cls ≠ "java/lang/invoke/VarHandle" ∧ (parseMethodDescriptor yX8_kind.desc).map (fun d => d.parameters.length) = some 0 := by decide +kernel
theorem hu_X8_kind : yX8_kind.name ≠ "<init>" ∧ (parseMethodDescriptor yX8_kind.desc).map (fun d => d.parameters.length) = some 0 := by decide +kernel
theorem cw_X8_timeTo : Cond.code yX8_timeTo cX8_timeTo 2 (some .int) ∈ UL := tw_2_121
theorem hv_X8_timeTo : yX8_timeTo.cls = RX8 ∧ yX8_timeTo.cls ≠ "java/lang/invoke/MethodHandle" ∧ yX8_timeTo.cls ≠ "java/lang/invoke/VarHandle" ∧ (parseMethodDescriptor yX8_timeTo.desc).map (fun d => d.parameters.length) = some 1 := by decide +kernel
theorem hu_X8_timeTo : yX8_timeTo.name ≠ "<init>" ∧ (parseMethodDescriptor yX8_timeTo.desc).map (fun d => d.parameters.length) = some 1 := by decide +kernel
theorem cw_X8_effort : Cond.code yX8_effort cX8_effort 1 (some .int) ∈ UL := tw_2_179
theorem hv_X8_effort : yX8_effort.cls = RX8 ∧ yX8_effort.cls ≠ "java/lang/invoke/MethodHandle" ∧ yX8_effort.cls ≠ "java/lang/invoke/VarHandle" ∧ (parseMethodDescriptor yX8_effort.desc).map (fun d => d.parameters.length) = some 0 := by decide +kernel
theorem hu_X8_effort : yX8_effort.name ≠ "<init>" ∧ (parseMethodDescriptor yX8_effort.desc).map (fun d => d.parameters.length) = some 0 := by decide +kernel
theorem cw_X8_price : Cond.code yX8_price cX8_price 1 (some .int) ∈ UL := tw_4_116
theorem hv_X8_price : yX8_price.cls = RX8 ∧ yX8_price.cls ≠ "java/lang/invoke/MethodHandle" ∧ yX8_price.cls ≠ "java/lang/invoke/VarHandle" ∧ (parseMethodDescriptor yX8_price.desc).map (fun d => d.parameters.length) = some 0 := by decide +kernel
theorem hu_X8_price : yX8_price.name ≠ "<init>" ∧ (parseMethodDescriptor yX8_price.desc).map (fun d => d.parameters.length) = some 0 := by decide +kernel
theorem cw_X9_init : Cond.code yX9_init cX9_init 2 none ∈ UL := tw_1_125
theorem hv_X9_init : yX9_init.cls = RX9 ∧ yX9_init.cls ≠ "java/lang/invoke/MethodHandle" ∧ yX9_init.cls ≠ "java/lang/invoke/VarHandle" ∧ (parseMethodDescriptor yX9_init.desc).map (fun d => d.parameters.length) = some 1 := by decide +kernel
theorem cw_X9_of : Cond.code yX9_of cX9_of 2 (some (.object "SideBySide$Stroke")) ∈ UL := tw_1_117
theorem hs_X9_of : yX9_of.cls ≠ "java/lang/invoke/MethodHandle" ∧ yX9_of.cls ≠ "java/lang/invoke/VarHandle" ∧ (parseMethodDescriptor yX9_of.desc).map (fun d => d.parameters.length) = some 2 := by decide +kernel
theorem cw_X9_kind : Cond.code yX9_kind cX9_kind 1 (some .int) ∈ UL := tw_2_238
theorem hv_X9_kind : yX9_kind.cls = RX9 ∧ yX9_kind.cls ≠ "java/lang/invoke/MethodHandle" ∧ yX9_kind.cls ≠ "java/lang/invoke/VarHandle" ∧ (parseMethodDescriptor yX9_kind.desc).map (fun d => d.parameters.length) = some 0 := by decide +kernel
theorem hu_X9_kind : yX9_kind.name ≠ "<init>" ∧ (parseMethodDescriptor yX9_kind.desc).map (fun d => d.parameters.length) = some 0 := by decide +kernel
theorem cw_X9_timeTo : Cond.code yX9_timeTo cX9_timeTo 2 (some .int) ∈ UL := tw_2_126
theorem hv_X9_timeTo : yX9_timeTo.cls = RX9 ∧ yX9_timeTo.cls ≠ "java/lang/invoke/MethodHandle" ∧ yX9_timeTo.cls ≠ "java/lang/invoke/VarHandle" ∧ (parseMethodDescriptor yX9_timeTo.desc).map (fun d => d.parameters.length) = some 1 := by decide +kernel
theorem hu_X9_timeTo : yX9_timeTo.name ≠ "<init>" ∧ (parseMethodDescriptor yX9_timeTo.desc).map (fun d => d.parameters.length) = some 1 := by decide +kernel
theorem cw_X9_effort : Cond.code yX9_effort cX9_effort 1 (some .int) ∈ UL := tw_2_181
theorem hv_X9_effort : yX9_effort.cls = RX9 ∧ yX9_effort.cls ≠ "java/lang/invoke/MethodHandle" ∧ yX9_effort.cls ≠ "java/lang/invoke/VarHandle" ∧ (parseMethodDescriptor yX9_effort.desc).map (fun d => d.parameters.length) = some 0 := by decide +kernel
theorem hu_X9_effort : yX9_effort.name ≠ "<init>" ∧ (parseMethodDescriptor yX9_effort.desc).map (fun d => d.parameters.length) = some 0 := by decide +kernel
theorem cw_X9_landing : Cond.code yX9_landing cX9_landing 3 (some .int) ∈ UL := tw_2_97
theorem hv_X9_landing : yX9_landing.cls = RX9 ∧ yX9_landing.cls ≠ "java/lang/invoke/MethodHandle" ∧ yX9_landing.cls ≠ "java/lang/invoke/VarHandle" ∧ (parseMethodDescriptor yX9_landing.desc).map (fun d => d.parameters.length) = some 2 := by decide +kernel
theorem hu_X9_landing : yX9_landing.name ≠ "<init>" ∧ (parseMethodDescriptor yX9_landing.desc).map (fun d => d.parameters.length) = some 2 := by decide +kernel
theorem cw_X9_price : Cond.code yX9_price cX9_price 1 (some .int) ∈ UL := tw_4_120
theorem hv_X9_price : yX9_price.cls = RX9 ∧ yX9_price.cls ≠ "java/lang/invoke/MethodHandle" ∧ yX9_price.cls ≠ "java/lang/invoke/VarHandle" ∧ (parseMethodDescriptor yX9_price.desc).map (fun d => d.parameters.length) = some 0 := by decide +kernel
theorem hu_X9_price : yX9_price.name ≠ "<init>" ∧ (parseMethodDescriptor yX9_price.desc).map (fun d => d.parameters.length) = some 0 := by decide +kernel
theorem cw_X9_fail : Cond.code yX9_fail cX9_fail 1 none ∈ UL := tw_4_229
theorem hv_X9_fail : yX9_fail.cls = RX9 ∧ yX9_fail.cls ≠ "java/lang/invoke/MethodHandle" ∧ yX9_fail.cls ≠ "java/lang/invoke/VarHandle" ∧ (parseMethodDescriptor yX9_fail.desc).map (fun d => d.parameters.length) = some 0 := by decide +kernel
theorem hu_X9_fail : yX9_fail.name ≠ "<init>" ∧ (parseMethodDescriptor yX9_fail.desc).map (fun d => d.parameters.length) = some 0 := by decide +kernel
theorem cw_X10_init : Cond.code yX10_init cX10_init 2 none ∈ UL := tw_1_184
theorem hv_X10_init : yX10_init.cls = RX10 ∧ yX10_init.cls ≠ "java/lang/invoke/MethodHandle" ∧ yX10_init.cls ≠ "java/lang/invoke/VarHandle" ∧ (parseMethodDescriptor yX10_init.desc).map (fun d => d.parameters.length) = some 1 := by decide +kernel
theorem cw_X10_kind : Cond.code yX10_kind cX10_kind 1 (some .int) ∈ UL := tw_2_237
theorem hv_X10_kind : yX10_kind.cls = RX10 ∧ yX10_kind.cls ≠ "java/lang/invoke/MethodHandle" ∧ yX10_kind.cls ≠ "java/lang/invoke/VarHandle" ∧ (parseMethodDescriptor yX10_kind.desc).map (fun d => d.parameters.length) = some 0 := by decide +kernel
theorem hu_X10_kind : yX10_kind.name ≠ "<init>" ∧ (parseMethodDescriptor yX10_kind.desc).map (fun d => d.parameters.length) = some 0 := by decide +kernel
theorem cw_X10_timeTo : Cond.code yX10_timeTo cX10_timeTo 2 (some .int) ∈ UL := tw_2_124
theorem hv_X10_timeTo : yX10_timeTo.cls = RX10 ∧ yX10_timeTo.cls ≠ "java/lang/invoke/MethodHandle" ∧ yX10_timeTo.cls ≠ "java/lang/invoke/VarHandle" ∧ (parseMethodDescriptor yX10_timeTo.desc).map (fun d => d.parameters.length) = some 1 := by decide +kernel
theorem hu_X10_timeTo : yX10_timeTo.name ≠ "<init>" ∧ (parseMethodDescriptor yX10_timeTo.desc).map (fun d => d.parameters.length) = some 1 := by decide +kernel
theorem cw_X10_landing : Cond.code yX10_landing cX10_landing 4 (some .int) ∈ UL := tw_2_90
theorem hv_X10_landing : yX10_landing.cls = RX10 ∧ yX10_landing.cls ≠ "java/lang/invoke/MethodHandle" ∧ yX10_landing.cls ≠ "java/lang/invoke/VarHandle" ∧ (parseMethodDescriptor yX10_landing.desc).map (fun d => d.parameters.length) = some 2 := by decide +kernel
theorem hu_X10_landing : yX10_landing.name ≠ "<init>" ∧ (parseMethodDescriptor yX10_landing.desc).map (fun d => d.parameters.length) = some 2 := by decide +kernel
theorem cw_X10_price : Cond.code yX10_price cX10_price 1 (some .int) ∈ UL := tw_4_119
theorem hv_X10_price : yX10_price.cls = RX10 ∧ yX10_price.cls ≠ "java/lang/invoke/MethodHandle" ∧ yX10_price.cls ≠ "java/lang/invoke/VarHandle" ∧ (parseMethodDescriptor yX10_price.desc).map (fun d => d.parameters.length) = some 0 := by decide +kernel
theorem hu_X10_price : yX10_price.name ≠ "<init>" ∧ (parseMethodDescriptor yX10_price.desc).map (fun d => d.parameters.length) = some 0 := by decide +kernel
theorem cw_X11_init : Cond.code yX11_init cX11_init 2 none ∈ UL := tw_1_27
theorem hv_X11_init : yX11_init.cls = RX11 ∧ yX11_init.cls ≠ "java/lang/invoke/MethodHandle" ∧ yX11_init.cls ≠ "java/lang/invoke/VarHandle" ∧ (parseMethodDescriptor yX11_init.desc).map (fun d => d.parameters.length) = some 0 := by decide +kernel
theorem cw_X11_court : Cond.code yX11_court cX11_court 5 (some .int) ∈ UL := tw_1_224
theorem hv_X11_court : yX11_court.cls = RX11 ∧ yX11_court.cls ≠ "java/lang/invoke/MethodHandle" ∧ yX11_court.cls ≠ "java/lang/invoke/VarHandle" ∧ (parseMethodDescriptor yX11_court.desc).map (fun d => d.parameters.length) = some 1 := by decide +kernel
theorem cw_X11_stroke : Cond.code yX11_stroke cX11_stroke 4 (some .int) ∈ UL := tw_2_211
theorem hv_X11_stroke : yX11_stroke.cls = RX11 ∧ yX11_stroke.cls ≠ "java/lang/invoke/MethodHandle" ∧ yX11_stroke.cls ≠ "java/lang/invoke/VarHandle" ∧ (parseMethodDescriptor yX11_stroke.desc).map (fun d => d.parameters.length) = some 2 := by decide +kernel
theorem cw_X11_player : Cond.code yX11_player cX11_player 3 (some .int) ∈ UL := tw_3_4
theorem hv_X11_player : yX11_player.cls = RX11 ∧ yX11_player.cls ≠ "java/lang/invoke/MethodHandle" ∧ yX11_player.cls ≠ "java/lang/invoke/VarHandle" ∧ (parseMethodDescriptor yX11_player.desc).map (fun d => d.parameters.length) = some 2 := by decide +kernel
theorem cw_X11_side : Cond.code yX11_side cX11_side 3 (some .int) ∈ UL := tw_3_9
theorem hv_X11_side : yX11_side.cls = RX11 ∧ yX11_side.cls ≠ "java/lang/invoke/MethodHandle" ∧ yX11_side.cls ≠ "java/lang/invoke/VarHandle" ∧ (parseMethodDescriptor yX11_side.desc).map (fun d => d.parameters.length) = some 2 := by decide +kernel
theorem cw_X11_learns : Cond.code yX11_learns cX11_learns 3 (some .int) ∈ UL := tw_3_17
theorem hv_X11_learns : yX11_learns.cls = RX11 ∧ yX11_learns.cls ≠ "java/lang/invoke/MethodHandle" ∧ yX11_learns.cls ≠ "java/lang/invoke/VarHandle" ∧ (parseMethodDescriptor yX11_learns.desc).map (fun d => d.parameters.length) = some 1 := by decide +kernel
theorem cw_X11_stands : Cond.code yX11_stands cX11_stands 4 (some .int) ∈ UL := tw_3_22
theorem hv_X11_stands : yX11_stands.cls = RX11 ∧ yX11_stands.cls ≠ "java/lang/invoke/MethodHandle" ∧ yX11_stands.cls ≠ "java/lang/invoke/VarHandle" ∧ (parseMethodDescriptor yX11_stands.desc).map (fun d => d.parameters.length) = some 3 := by decide +kernel
theorem cw_X11_tires : Cond.code yX11_tires cX11_tires 3 (some .int) ∈ UL := tw_3_27
theorem hv_X11_tires : yX11_tires.cls = RX11 ∧ yX11_tires.cls ≠ "java/lang/invoke/MethodHandle" ∧ yX11_tires.cls ≠ "java/lang/invoke/VarHandle" ∧ (parseMethodDescriptor yX11_tires.desc).map (fun d => d.parameters.length) = some 2 := by decide +kernel
theorem cw_X11_hands : Cond.code yX11_hands cX11_hands 2 (some .int) ∈ UL := tw_3_32
theorem hv_X11_hands : yX11_hands.cls = RX11 ∧ yX11_hands.cls ≠ "java/lang/invoke/MethodHandle" ∧ yX11_hands.cls ≠ "java/lang/invoke/VarHandle" ∧ (parseMethodDescriptor yX11_hands.desc).map (fun d => d.parameters.length) = some 1 := by decide +kernel
theorem cw_X11_forms : Cond.code yX11_forms cX11_forms 4 (some .int) ∈ UL := tw_3_37
theorem hv_X11_forms : yX11_forms.cls = RX11 ∧ yX11_forms.cls ≠ "java/lang/invoke/MethodHandle" ∧ yX11_forms.cls ≠ "java/lang/invoke/VarHandle" ∧ (parseMethodDescriptor yX11_forms.desc).map (fun d => d.parameters.length) = some 3 := by decide +kernel
theorem cw_X11_blows : Cond.code yX11_blows cX11_blows 2 (some .int) ∈ UL := tw_3_42
theorem hv_X11_blows : yX11_blows.cls = RX11 ∧ yX11_blows.cls ≠ "java/lang/invoke/MethodHandle" ∧ yX11_blows.cls ≠ "java/lang/invoke/VarHandle" ∧ (parseMethodDescriptor yX11_blows.desc).map (fun d => d.parameters.length) = some 1 := by decide +kernel
theorem cw_X11_hit : Cond.code yX11_hit cX11_hit 4 (some .int) ∈ UL := tw_3_47
theorem hv_X11_hit : yX11_hit.cls = RX11 ∧ yX11_hit.cls ≠ "java/lang/invoke/MethodHandle" ∧ yX11_hit.cls ≠ "java/lang/invoke/VarHandle" ∧ (parseMethodDescriptor yX11_hit.desc).map (fun d => d.parameters.length) = some 2 := by decide +kernel
theorem cw_X11_whose : Cond.code yX11_whose cX11_whose 3 (some .int) ∈ UL := tw_3_53
theorem hv_X11_whose : yX11_whose.cls = RX11 ∧ yX11_whose.cls ≠ "java/lang/invoke/MethodHandle" ∧ yX11_whose.cls ≠ "java/lang/invoke/VarHandle" ∧ (parseMethodDescriptor yX11_whose.desc).map (fun d => d.parameters.length) = some 2 := by decide +kernel
theorem cw_X11_wins : Cond.code yX11_wins cX11_wins 3 (some .int) ∈ UL := tw_3_66
theorem hv_X11_wins : yX11_wins.cls = RX11 ∧ yX11_wins.cls ≠ "java/lang/invoke/MethodHandle" ∧ yX11_wins.cls ≠ "java/lang/invoke/VarHandle" ∧ (parseMethodDescriptor yX11_wins.desc).map (fun d => d.parameters.length) = some 2 := by decide +kernel
theorem cw_X11_falls : Cond.code yX11_falls cX11_falls 3 (some .int) ∈ UL := tw_3_75
theorem hv_X11_falls : yX11_falls.cls = RX11 ∧ yX11_falls.cls ≠ "java/lang/invoke/MethodHandle" ∧ yX11_falls.cls ≠ "java/lang/invoke/VarHandle" ∧ (parseMethodDescriptor yX11_falls.desc).map (fun d => d.parameters.length) = some 2 := by decide +kernel
theorem cw_X11_open : Cond.code yX11_open cX11_open 4 (some .int) ∈ UL := tw_3_79
theorem hv_X11_open : yX11_open.cls = RX11 ∧ yX11_open.cls ≠ "java/lang/invoke/MethodHandle" ∧ yX11_open.cls ≠ "java/lang/invoke/VarHandle" ∧ (parseMethodDescriptor yX11_open.desc).map (fun d => d.parameters.length) = some 1 := by decide +kernel
theorem cw_X11_forced : Cond.code yX11_forced cX11_forced 1 (some .int) ∈ UL := tw_3_83
theorem hv_X11_forced : yX11_forced.cls = RX11 ∧ yX11_forced.cls ≠ "java/lang/invoke/MethodHandle" ∧ yX11_forced.cls ≠ "java/lang/invoke/VarHandle" ∧ (parseMethodDescriptor yX11_forced.desc).map (fun d => d.parameters.length) = some 0 := by decide +kernel
theorem cw_X11_farthest : Cond.code yX11_farthest cX11_farthest 7 (some .int) ∈ UL := tw_3_92
theorem hv_X11_farthest : yX11_farthest.cls = RX11 ∧ yX11_farthest.cls ≠ "java/lang/invoke/MethodHandle" ∧ yX11_farthest.cls ≠ "java/lang/invoke/VarHandle" ∧ (parseMethodDescriptor yX11_farthest.desc).map (fun d => d.parameters.length) = some 2 := by decide +kernel
theorem cw_X11_atWhom : Cond.code yX11_atWhom cX11_atWhom 7 (some .int) ∈ UL := tw_3_101
theorem hv_X11_atWhom : yX11_atWhom.cls = RX11 ∧ yX11_atWhom.cls ≠ "java/lang/invoke/MethodHandle" ∧ yX11_atWhom.cls ≠ "java/lang/invoke/VarHandle" ∧ (parseMethodDescriptor yX11_atWhom.desc).map (fun d => d.parameters.length) = some 1 := by decide +kernel
theorem cw_X11_fewest : Cond.code yX11_fewest cX11_fewest 4 (some .int) ∈ UL := tw_3_105
theorem hv_X11_fewest : yX11_fewest.cls = RX11 ∧ yX11_fewest.cls ≠ "java/lang/invoke/MethodHandle" ∧ yX11_fewest.cls ≠ "java/lang/invoke/VarHandle" ∧ (parseMethodDescriptor yX11_fewest.desc).map (fun d => d.parameters.length) = some 1 := by decide +kernel
theorem cw_X11_bestForm : Cond.code yX11_bestForm cX11_bestForm 3 (some .int) ∈ UL := tw_3_113
theorem hv_X11_bestForm : yX11_bestForm.cls = RX11 ∧ yX11_bestForm.cls ≠ "java/lang/invoke/MethodHandle" ∧ yX11_bestForm.cls ≠ "java/lang/invoke/VarHandle" ∧ (parseMethodDescriptor yX11_bestForm.desc).map (fun d => d.parameters.length) = some 2 := by decide +kernel
theorem cw_X11_bestHabit : Cond.code yX11_bestHabit cX11_bestHabit 3 (some .int) ∈ UL := tw_3_134
theorem hv_X11_bestHabit : yX11_bestHabit.cls = RX11 ∧ yX11_bestHabit.cls ≠ "java/lang/invoke/MethodHandle" ∧ yX11_bestHabit.cls ≠ "java/lang/invoke/VarHandle" ∧ (parseMethodDescriptor yX11_bestHabit.desc).map (fun d => d.parameters.length) = some 2 := by decide +kernel
theorem cw_X11_change : Cond.code yX11_change cX11_change 5 (some .int) ∈ UL := tw_3_138
theorem hv_X11_change : yX11_change.cls = RX11 ∧ yX11_change.cls ≠ "java/lang/invoke/MethodHandle" ∧ yX11_change.cls ≠ "java/lang/invoke/VarHandle" ∧ (parseMethodDescriptor yX11_change.desc).map (fun d => d.parameters.length) = some 4 := by decide +kernel
theorem cw_X11_rally : Cond.code yX11_rally cX11_rally 5 (some .int) ∈ UL := tw_3_142
theorem hv_X11_rally : yX11_rally.cls = RX11 ∧ yX11_rally.cls ≠ "java/lang/invoke/MethodHandle" ∧ yX11_rally.cls ≠ "java/lang/invoke/VarHandle" ∧ (parseMethodDescriptor yX11_rally.desc).map (fun d => d.parameters.length) = some 2 := by decide +kernel
theorem cw_X11_ways : Cond.code yX11_ways cX11_ways 4 (some .int) ∈ UL := tw_3_168
theorem hv_X11_ways : yX11_ways.cls = RX11 ∧ yX11_ways.cls ≠ "java/lang/invoke/MethodHandle" ∧ yX11_ways.cls ≠ "java/lang/invoke/VarHandle" ∧ (parseMethodDescriptor yX11_ways.desc).map (fun d => d.parameters.length) = some 2 := by decide +kernel
theorem cw_X11_spent : Cond.code yX11_spent cX11_spent 5 (some .int) ∈ UL := tw_3_172
theorem hv_X11_spent : yX11_spent.cls = RX11 ∧ yX11_spent.cls ≠ "java/lang/invoke/MethodHandle" ∧ yX11_spent.cls ≠ "java/lang/invoke/VarHandle" ∧ (parseMethodDescriptor yX11_spent.desc).map (fun d => d.parameters.length) = some 1 := by decide +kernel
theorem cw_X11_whatIs : Cond.code yX11_whatIs cX11_whatIs 5 (some .int) ∈ UL := tw_3_176
theorem hv_X11_whatIs : yX11_whatIs.cls = RX11 ∧ yX11_whatIs.cls ≠ "java/lang/invoke/MethodHandle" ∧ yX11_whatIs.cls ≠ "java/lang/invoke/VarHandle" ∧ (parseMethodDescriptor yX11_whatIs.desc).map (fun d => d.parameters.length) = some 3 := by decide +kernel
theorem cw_X11_habits : Cond.code yX11_habits cX11_habits 5 (some .int) ∈ UL := tw_3_204
theorem hv_X11_habits : yX11_habits.cls = RX11 ∧ yX11_habits.cls ≠ "java/lang/invoke/MethodHandle" ∧ yX11_habits.cls ≠ "java/lang/invoke/VarHandle" ∧ (parseMethodDescriptor yX11_habits.desc).map (fun d => d.parameters.length) = some 1 := by decide +kernel
theorem cw_X11_two : Cond.code yX11_two cX11_two 5 (some .int) ∈ UL := tw_3_212
theorem hv_X11_two : yX11_two.cls = RX11 ∧ yX11_two.cls ≠ "java/lang/invoke/MethodHandle" ∧ yX11_two.cls ≠ "java/lang/invoke/VarHandle" ∧ (parseMethodDescriptor yX11_two.desc).map (fun d => d.parameters.length) = some 0 := by decide +kernel
theorem cw_X11_draughts : Cond.code yX11_draughts cX11_draughts 7 (some .long) ∈ UL := tw_3_223
theorem hv_X11_draughts : yX11_draughts.cls = RX11 ∧ yX11_draughts.cls ≠ "java/lang/invoke/MethodHandle" ∧ yX11_draughts.cls ≠ "java/lang/invoke/VarHandle" ∧ (parseMethodDescriptor yX11_draughts.desc).map (fun d => d.parameters.length) = some 3 := by decide +kernel
theorem cw_X11_mean : Cond.code yX11_mean cX11_mean 2 (some .long) ∈ UL := tw_4_10
theorem hv_X11_mean : yX11_mean.cls = RX11 ∧ yX11_mean.cls ≠ "java/lang/invoke/MethodHandle" ∧ yX11_mean.cls ≠ "java/lang/invoke/VarHandle" ∧ (parseMethodDescriptor yX11_mean.desc).map (fun d => d.parameters.length) = some 1 := by decide +kernel
theorem cw_X11_forged : Cond.code yX11_forged cX11_forged 6 (some .int) ∈ UL := tw_4_19
theorem hv_X11_forged : yX11_forged.cls = RX11 ∧ yX11_forged.cls ≠ "java/lang/invoke/MethodHandle" ∧ yX11_forged.cls ≠ "java/lang/invoke/VarHandle" ∧ (parseMethodDescriptor yX11_forged.desc).map (fun d => d.parameters.length) = some 1 := by decide +kernel
theorem cw_X11_judge : Cond.code yX11_judge cX11_judge 5 (some .int) ∈ UL := tw_4_23
theorem hv_X11_judge : yX11_judge.cls = RX11 ∧ yX11_judge.cls ≠ "java/lang/invoke/MethodHandle" ∧ yX11_judge.cls ≠ "java/lang/invoke/VarHandle" ∧ (parseMethodDescriptor yX11_judge.desc).map (fun d => d.parameters.length) = some 1 := by decide +kernel
theorem cw_X11_nights : Cond.code yX11_nights cX11_nights 8 (some .int) ∈ UL := tw_4_27
theorem hv_X11_nights : yX11_nights.cls = RX11 ∧ yX11_nights.cls ≠ "java/lang/invoke/MethodHandle" ∧ yX11_nights.cls ≠ "java/lang/invoke/VarHandle" ∧ (parseMethodDescriptor yX11_nights.desc).map (fun d => d.parameters.length) = some 3 := by decide +kernel
theorem cw_X11_image : Cond.code yX11_image cX11_image 1 (some .int) ∈ UL := tw_4_38
theorem hv_X11_image : yX11_image.cls = RX11 ∧ yX11_image.cls ≠ "java/lang/invoke/MethodHandle" ∧ yX11_image.cls ≠ "java/lang/invoke/VarHandle" ∧ (parseMethodDescriptor yX11_image.desc).map (fun d => d.parameters.length) = some 0 := by decide +kernel
theorem cw_X11_restore : Cond.code yX11_restore cX11_restore 1 (some .int) ∈ UL := tw_4_42
theorem hv_X11_restore : yX11_restore.cls = RX11 ∧ yX11_restore.cls ≠ "java/lang/invoke/MethodHandle" ∧ yX11_restore.cls ≠ "java/lang/invoke/VarHandle" ∧ (parseMethodDescriptor yX11_restore.desc).map (fun d => d.parameters.length) = some 0 := by decide +kernel
theorem cw_X11_count : Cond.code yX11_count cX11_count 2 (some .int) ∈ UL := tw_4_46
theorem hv_X11_count : yX11_count.cls = RX11 ∧ yX11_count.cls ≠ "java/lang/invoke/MethodHandle" ∧ yX11_count.cls ≠ "java/lang/invoke/VarHandle" ∧ (parseMethodDescriptor yX11_count.desc).map (fun d => d.parameters.length) = some 1 := by decide +kernel
theorem cw_X11_keep : Cond.code yX11_keep cX11_keep 5 (some .int) ∈ UL := tw_4_54
theorem hv_X11_keep : yX11_keep.cls = RX11 ∧ yX11_keep.cls ≠ "java/lang/invoke/MethodHandle" ∧ yX11_keep.cls ≠ "java/lang/invoke/VarHandle" ∧ (parseMethodDescriptor yX11_keep.desc).map (fun d => d.parameters.length) = some 4 := by decide +kernel
theorem cw_X11_row : Cond.code yX11_row cX11_row 4 (some .int) ∈ UL := tw_4_67
theorem hv_X11_row : yX11_row.cls = RX11 ∧ yX11_row.cls ≠ "java/lang/invoke/MethodHandle" ∧ yX11_row.cls ≠ "java/lang/invoke/VarHandle" ∧ (parseMethodDescriptor yX11_row.desc).map (fun d => d.parameters.length) = some 3 := by decide +kernel
theorem cw_X11_put : Cond.code yX11_put cX11_put 6 (some .int) ∈ UL := tw_4_75
theorem hv_X11_put : yX11_put.cls = RX11 ∧ yX11_put.cls ≠ "java/lang/invoke/MethodHandle" ∧ yX11_put.cls ≠ "java/lang/invoke/VarHandle" ∧ (parseMethodDescriptor yX11_put.desc).map (fun d => d.parameters.length) = some 3 := by decide +kernel
theorem cw_X11_element : Cond.code yX11_element cX11_element 4 (some .long) ∈ UL := tw_5_14
theorem hv_X11_element : yX11_element.cls = RX11 ∧ yX11_element.cls ≠ "java/lang/invoke/MethodHandle" ∧ yX11_element.cls ≠ "java/lang/invoke/VarHandle" ∧ (parseMethodDescriptor yX11_element.desc).map (fun d => d.parameters.length) = some 2 := by decide +kernel
theorem cw_X11_copy : Cond.code yX11_copy cX11_copy 8 (some .int) ∈ UL := tw_4_83
theorem hv_X11_copy : yX11_copy.cls = RX11 ∧ yX11_copy.cls ≠ "java/lang/invoke/MethodHandle" ∧ yX11_copy.cls ≠ "java/lang/invoke/VarHandle" ∧ (parseMethodDescriptor yX11_copy.desc).map (fun d => d.parameters.length) = some 5 := by decide +kernel
theorem cw_X11_cost : Cond.code yX11_cost cX11_cost 3 (some .int) ∈ UL := tw_4_91
theorem hv_X11_cost : yX11_cost.cls = RX11 ∧ yX11_cost.cls ≠ "java/lang/invoke/MethodHandle" ∧ yX11_cost.cls ≠ "java/lang/invoke/VarHandle" ∧ (parseMethodDescriptor yX11_cost.desc).map (fun d => d.parameters.length) = some 1 := by decide +kernel
theorem cw_X11_isBelow : Cond.code yX11_isBelow cX11_isBelow 2 (some .boolean) ∈ UL := tw_1_231
theorem hs_X11_isBelow : yX11_isBelow.cls ≠ "java/lang/invoke/MethodHandle" ∧ yX11_isBelow.cls ≠ "java/lang/invoke/VarHandle" ∧ (parseMethodDescriptor yX11_isBelow.desc).map (fun d => d.parameters.length) = some 2 := by decide +kernel
theorem cw_X11_way : Cond.code yX11_way cX11_way 2 (some .int) ∈ UL := tw_2_137
theorem hs_X11_way : yX11_way.cls ≠ "java/lang/invoke/MethodHandle" ∧ yX11_way.cls ≠ "java/lang/invoke/VarHandle" ∧ (parseMethodDescriptor yX11_way.desc).map (fun d => d.parameters.length) = some 2 := by decide +kernel
theorem cw_X11_endCell : Cond.code yX11_endCell cX11_endCell 1 (some .int) ∈ UL := tw_3_219
theorem hs_X11_endCell : yX11_endCell.cls ≠ "java/lang/invoke/MethodHandle" ∧ yX11_endCell.cls ≠ "java/lang/invoke/VarHandle" ∧ (parseMethodDescriptor yX11_endCell.desc).map (fun d => d.parameters.length) = some 1 := by decide +kernel
theorem cw_X11_refusalOf : Cond.code yX11_refusalOf cX11_refusalOf 3 (some .int) ∈ UL := tw_1_228
theorem hv_X11_refusalOf : yX11_refusalOf.cls = RX11 ∧ yX11_refusalOf.cls ≠ "java/lang/invoke/MethodHandle" ∧ yX11_refusalOf.cls ≠ "java/lang/invoke/VarHandle" ∧ (parseMethodDescriptor yX11_refusalOf.desc).map (fun d => d.parameters.length) = some 2 := by decide +kernel
theorem cw_X11_refusalOfHits : Cond.code yX11_refusalOfHits cX11_refusalOfHits 3 (some .int) ∈ UL := tw_3_150
theorem hv_X11_refusalOfHits : yX11_refusalOfHits.cls = RX11 ∧ yX11_refusalOfHits.cls ≠ "java/lang/invoke/MethodHandle" ∧ yX11_refusalOfHits.cls ≠ "java/lang/invoke/VarHandle" ∧ (parseMethodDescriptor yX11_refusalOfHits.desc).map (fun d => d.parameters.length) = some 1 := by decide +kernel
theorem cw_X11_refusalOfRally : Cond.code yX11_refusalOfRally cX11_refusalOfRally 5 (some .int) ∈ UL := tw_3_146
theorem hv_X11_refusalOfRally : yX11_refusalOfRally.cls = RX11 ∧ yX11_refusalOfRally.cls ≠ "java/lang/invoke/MethodHandle" ∧ yX11_refusalOfRally.cls ≠ "java/lang/invoke/VarHandle" ∧ (parseMethodDescriptor yX11_refusalOfRally.desc).map (fun d => d.parameters.length) = some 1 := by decide +kernel
theorem cw_X11_refusalOfCells : Cond.code yX11_refusalOfCells cX11_refusalOfCells 3 (some .int) ∈ UL := tw_3_180
theorem hv_X11_refusalOfCells : yX11_refusalOfCells.cls = RX11 ∧ yX11_refusalOfCells.cls ≠ "java/lang/invoke/MethodHandle" ∧ yX11_refusalOfCells.cls ≠ "java/lang/invoke/VarHandle" ∧ (parseMethodDescriptor yX11_refusalOfCells.desc).map (fun d => d.parameters.length) = some 1 := by decide +kernel
theorem cw_X11_playRally : Cond.code yX11_playRally cX11_playRally 3 (some .int) ∈ UL := tw_3_154
theorem hv_X11_playRally : yX11_playRally.cls = RX11 ∧ yX11_playRally.cls ≠ "java/lang/invoke/MethodHandle" ∧ yX11_playRally.cls ≠ "java/lang/invoke/VarHandle" ∧ (parseMethodDescriptor yX11_playRally.desc).map (fun d => d.parameters.length) = some 1 := by decide +kernel
theorem cw_X11_addWaysGone : Cond.code yX11_addWaysGone cX11_addWaysGone 2 none ∈ UL := tw_3_159
theorem hv_X11_addWaysGone : yX11_addWaysGone.cls = RX11 ∧ yX11_addWaysGone.cls ≠ "java/lang/invoke/MethodHandle" ∧ yX11_addWaysGone.cls ≠ "java/lang/invoke/VarHandle" ∧ (parseMethodDescriptor yX11_addWaysGone.desc).map (fun d => d.parameters.length) = some 0 := by decide +kernel
theorem cw_X11_sideWithMorePoints : Cond.code yX11_sideWithMorePoints cX11_sideWithMorePoints 2 (some .int) ∈ UL := tw_3_164
theorem hv_X11_sideWithMorePoints : yX11_sideWithMorePoints.cls = RX11 ∧ yX11_sideWithMorePoints.cls ≠ "java/lang/invoke/MethodHandle" ∧ yX11_sideWithMorePoints.cls ≠ "java/lang/invoke/VarHandle" ∧ (parseMethodDescriptor yX11_sideWithMorePoints.desc).map (fun d => d.parameters.length) = some 0 := by decide +kernel
theorem cw_X11_firstOpening : Cond.code yX11_firstOpening cX11_firstOpening 4 (some .int) ∈ UL := tw_3_109
theorem hv_X11_firstOpening : yX11_firstOpening.cls = RX11 ∧ yX11_firstOpening.cls ≠ "java/lang/invoke/MethodHandle" ∧ yX11_firstOpening.cls ≠ "java/lang/invoke/VarHandle" ∧ (parseMethodDescriptor yX11_firstOpening.desc).map (fun d => d.parameters.length) = some 0 := by decide +kernel
theorem cw_X11_bestTrait : Cond.code yX11_bestTrait cX11_bestTrait 8 (some .int) ∈ UL := tw_3_117
theorem hv_X11_bestTrait : yX11_bestTrait.cls = RX11 ∧ yX11_bestTrait.cls ≠ "java/lang/invoke/MethodHandle" ∧ yX11_bestTrait.cls ≠ "java/lang/invoke/VarHandle" ∧ (parseMethodDescriptor yX11_bestTrait.desc).map (fun d => d.parameters.length) = some 3 := by decide +kernel
theorem cw_X11_cellsHeld : Cond.code yX11_cellsHeld cX11_cellsHeld 6 (some .int) ∈ UL := tw_3_122
theorem hv_X11_cellsHeld : yX11_cellsHeld.cls = RX11 ∧ yX11_cellsHeld.cls ≠ "java/lang/invoke/MethodHandle" ∧ yX11_cellsHeld.cls ≠ "java/lang/invoke/VarHandle" ∧ (parseMethodDescriptor yX11_cellsHeld.desc).map (fun d => d.parameters.length) = some 3 := by decide +kernel
theorem cw_X11_isBroken : Cond.code yX11_isBroken cX11_isBroken 2 (some .boolean) ∈ UL := tw_3_130
theorem hv_X11_isBroken : yX11_isBroken.cls = RX11 ∧ yX11_isBroken.cls ≠ "java/lang/invoke/MethodHandle" ∧ yX11_isBroken.cls ≠ "java/lang/invoke/VarHandle" ∧ (parseMethodDescriptor yX11_isBroken.desc).map (fun d => d.parameters.length) = some 1 := by decide +kernel
theorem cw_X11_kindsThatFell : Cond.code yX11_kindsThatFell cX11_kindsThatFell 4 (some .int) ∈ UL := tw_3_184
theorem hv_X11_kindsThatFell : yX11_kindsThatFell.cls = RX11 ∧ yX11_kindsThatFell.cls ≠ "java/lang/invoke/MethodHandle" ∧ yX11_kindsThatFell.cls ≠ "java/lang/invoke/VarHandle" ∧ (parseMethodDescriptor yX11_kindsThatFell.desc).map (fun d => d.parameters.length) = some 1 := by decide +kernel
theorem cw_X11_draughtsThatBlew : Cond.code yX11_draughtsThatBlew cX11_draughtsThatBlew 4 (some .int) ∈ UL := tw_3_200
theorem hs_X11_draughtsThatBlew : yX11_draughtsThatBlew.cls ≠ "java/lang/invoke/MethodHandle" ∧ yX11_draughtsThatBlew.cls ≠ "java/lang/invoke/VarHandle" ∧ (parseMethodDescriptor yX11_draughtsThatBlew.desc).map (fun d => d.parameters.length) = some 2 := by decide +kernel
theorem cw_X11_tellsFalls : Cond.code yX11_tellsFalls cX11_tellsFalls 4 (some .boolean) ∈ UL := tw_3_187
theorem hs_X11_tellsFalls : yX11_tellsFalls.cls ≠ "java/lang/invoke/MethodHandle" ∧ yX11_tellsFalls.cls ≠ "java/lang/invoke/VarHandle" ∧ (parseMethodDescriptor yX11_tellsFalls.desc).map (fun d => d.parameters.length) = some 3 := by decide +kernel
theorem cw_X11_tellsTakers : Cond.code yX11_tellsTakers cX11_tellsTakers 3 (some .boolean) ∈ UL := tw_3_208
theorem hs_X11_tellsTakers : yX11_tellsTakers.cls ≠ "java/lang/invoke/MethodHandle" ∧ yX11_tellsTakers.cls ≠ "java/lang/invoke/VarHandle" ∧ (parseMethodDescriptor yX11_tellsTakers.desc).map (fun d => d.parameters.length) = some 2 := by decide +kernel
theorem cw_X11_outlay : Cond.code yX11_outlay cX11_outlay 6 (some .int) ∈ UL := tw_3_216
theorem hv_X11_outlay : yX11_outlay.cls = RX11 ∧ yX11_outlay.cls ≠ "java/lang/invoke/MethodHandle" ∧ yX11_outlay.cls ≠ "java/lang/invoke/VarHandle" ∧ (parseMethodDescriptor yX11_outlay.desc).map (fun d => d.parameters.length) = some 3 := by decide +kernel
theorem cw_X11_staysInPlay : Cond.code yX11_staysInPlay cX11_staysInPlay 4 (some .boolean) ∈ UL := tw_3_228
theorem hv_X11_staysInPlay : yX11_staysInPlay.cls = RX11 ∧ yX11_staysInPlay.cls ≠ "java/lang/invoke/MethodHandle" ∧ yX11_staysInPlay.cls ≠ "java/lang/invoke/VarHandle" ∧ (parseMethodDescriptor yX11_staysInPlay.desc).map (fun d => d.parameters.length) = some 2 := by decide +kernel
theorem cw_X11_power : Cond.code yX11_power cX11_power 5 (some .long) ∈ UL := tw_3_237
theorem hs_X11_power : yX11_power.cls ≠ "java/lang/invoke/MethodHandle" ∧ yX11_power.cls ≠ "java/lang/invoke/VarHandle" ∧ (parseMethodDescriptor yX11_power.desc).map (fun d => d.parameters.length) = some 2 := by decide +kernel
theorem cw_X11_inLeastTerms : Cond.code yX11_inLeastTerms cX11_inLeastTerms 7 (some .long) ∈ UL := tw_4_0
theorem hs_X11_inLeastTerms : yX11_inLeastTerms.cls ≠ "java/lang/invoke/MethodHandle" ∧ yX11_inLeastTerms.cls ≠ "java/lang/invoke/VarHandle" ∧ (parseMethodDescriptor yX11_inLeastTerms.desc).map (fun d => d.parameters.length) = some 3 := by decide +kernel
theorem cw_X11_commonDivisor : Cond.code yX11_commonDivisor cX11_commonDivisor 11 (some .long) ∈ UL := tw_4_3
theorem hs_X11_commonDivisor : yX11_commonDivisor.cls ≠ "java/lang/invoke/MethodHandle" ∧ yX11_commonDivisor.cls ≠ "java/lang/invoke/VarHandle" ∧ (parseMethodDescriptor yX11_commonDivisor.desc).map (fun d => d.parameters.length) = some 2 := by decide +kernel
theorem cw_X11_draw : Cond.code yX11_draw cX11_draw 2 (some .int) ∈ UL := tw_4_31
theorem hv_X11_draw : yX11_draw.cls = RX11 ∧ yX11_draw.cls ≠ "java/lang/invoke/MethodHandle" ∧ yX11_draw.cls ≠ "java/lang/invoke/VarHandle" ∧ (parseMethodDescriptor yX11_draw.desc).map (fun d => d.parameters.length) = some 1 := by decide +kernel
theorem cw_X12_init : Cond.code yX12_init cX12_init 2 none ∈ UL := tw_5_23
theorem hv_X12_init : yX12_init.cls = RX12 ∧ yX12_init.cls ≠ "java/lang/invoke/MethodHandle" ∧ yX12_init.cls ≠ "java/lang/invoke/VarHandle" ∧ (parseMethodDescriptor yX12_init.desc).map (fun d => d.parameters.length) = some 0 := by decide +kernel
theorem cw_X12_isIn : Cond.code yX12_isIn cX12_isIn 3 (some .boolean) ∈ UL := tw_5_105
theorem hs_X12_isIn : yX12_isIn.cls ≠ "java/lang/invoke/MethodHandle" ∧ yX12_isIn.cls ≠ "java/lang/invoke/VarHandle" ∧ (parseMethodDescriptor yX12_isIn.desc).map (fun d => d.parameters.length) = some 3 := by decide +kernel
theorem cw_X12_least : Cond.code yX12_least cX12_least 2 (some .int) ∈ UL := tw_5_179
theorem hs_X12_least : yX12_least.cls ≠ "java/lang/invoke/MethodHandle" ∧ yX12_least.cls ≠ "java/lang/invoke/VarHandle" ∧ (parseMethodDescriptor yX12_least.desc).map (fun d => d.parameters.length) = some 2 := by decide +kernel
theorem cw_X12_copies : Cond.code yX12_copies cX12_copies 3 none ∈ UL := tw_5_120
theorem hs_X12_copies : yX12_copies.cls ≠ "java/lang/invoke/MethodHandle" ∧ yX12_copies.cls ≠ "java/lang/invoke/VarHandle" ∧ (parseMethodDescriptor yX12_copies.desc).map (fun d => d.parameters.length) = some 2 := by decide +kernel
theorem cw_X12_ofS : Cond.code yX12_ofS cX12_ofS 2 (some .int) ∈ UL := tw_5_131
theorem hs_X12_ofS : yX12_ofS.cls ≠ "java/lang/invoke/MethodHandle" ∧ yX12_ofS.cls ≠ "java/lang/invoke/VarHandle" ∧ (parseMethodDescriptor yX12_ofS.desc).map (fun d => d.parameters.length) = some 2 := by decide +kernel
theorem cw_X12_ofP : Cond.code yX12_ofP cX12_ofP 2 (some .int) ∈ UL := tw_5_27
theorem hs_X12_ofP : yX12_ofP.cls ≠ "java/lang/invoke/MethodHandle" ∧ yX12_ofP.cls ≠ "java/lang/invoke/VarHandle" ∧ (parseMethodDescriptor yX12_ofP.desc).map (fun d => d.parameters.length) = some 2 := by decide +kernel
theorem cw_X12_ofSide : Cond.code yX12_ofSide cX12_ofSide 2 (some .int) ∈ UL := tw_5_30
theorem hs_X12_ofSide : yX12_ofSide.cls ≠ "java/lang/invoke/MethodHandle" ∧ yX12_ofSide.cls ≠ "java/lang/invoke/VarHandle" ∧ (parseMethodDescriptor yX12_ofSide.desc).map (fun d => d.parameters.length) = some 2 := by decide +kernel
theorem cw_X12_isStroke : Cond.code yX12_isStroke cX12_isStroke 2 (some .boolean) ∈ UL := tw_5_141
theorem hv_X12_isStroke : yX12_isStroke.cls = RX12 ∧ yX12_isStroke.cls ≠ "java/lang/invoke/MethodHandle" ∧ yX12_isStroke.cls ≠ "java/lang/invoke/VarHandle" ∧ (parseMethodDescriptor yX12_isStroke.desc).map (fun d => d.parameters.length) = some 1 := by decide +kernel
theorem cw_X12_isCell : Cond.code yX12_isCell cX12_isCell 1 (some .boolean) ∈ UL := tw_5_137
theorem hs_X12_isCell : yX12_isCell.cls ≠ "java/lang/invoke/MethodHandle" ∧ yX12_isCell.cls ≠ "java/lang/invoke/VarHandle" ∧ (parseMethodDescriptor yX12_isCell.desc).map (fun d => d.parameters.length) = some 1 := by decide +kernel
theorem cw_X12_isPlayer : Cond.code yX12_isPlayer cX12_isPlayer 1 (some .boolean) ∈ UL := tw_5_134
theorem hs_X12_isPlayer : yX12_isPlayer.cls ≠ "java/lang/invoke/MethodHandle" ∧ yX12_isPlayer.cls ≠ "java/lang/invoke/VarHandle" ∧ (parseMethodDescriptor yX12_isPlayer.desc).map (fun d => d.parameters.length) = some 1 := by decide +kernel
theorem cw_X12_has : Cond.code yX12_has cX12_has 2 (some .boolean) ∈ UL := tw_6_139
theorem hs_X12_has : yX12_has.cls ≠ "java/lang/invoke/MethodHandle" ∧ yX12_has.cls ≠ "java/lang/invoke/VarHandle" ∧ (parseMethodDescriptor yX12_has.desc).map (fun d => d.parameters.length) = some 2 := by decide +kernel
theorem cw_X12_apart : Cond.code yX12_apart cX12_apart 2 (some .int) ∈ UL := tw_5_170
theorem hs_X12_apart : yX12_apart.cls ≠ "java/lang/invoke/MethodHandle" ∧ yX12_apart.cls ≠ "java/lang/invoke/VarHandle" ∧ (parseMethodDescriptor yX12_apart.desc).map (fun d => d.parameters.length) = some 2 := by decide +kernel
theorem cw_X12_wayOf : Cond.code yX12_wayOf cX12_wayOf 2 (some .int) ∈ UL := tw_5_167
theorem hs_X12_wayOf : yX12_wayOf.cls ≠ "java/lang/invoke/MethodHandle" ∧ yX12_wayOf.cls ≠ "java/lang/invoke/VarHandle" ∧ (parseMethodDescriptor yX12_wayOf.desc).map (fun d => d.parameters.length) = some 2 := by decide +kernel
theorem cw_X12_timeBy : Cond.code yX12_timeBy cX12_timeBy 4 (some .int) ∈ UL := tw_5_161
theorem hs_X12_timeBy : yX12_timeBy.cls ≠ "java/lang/invoke/MethodHandle" ∧ yX12_timeBy.cls ≠ "java/lang/invoke/VarHandle" ∧ (parseMethodDescriptor yX12_timeBy.desc).map (fun d => d.parameters.length) = some 3 := by decide +kernel
theorem cw_X12_tiresBy : Cond.code yX12_tiresBy cX12_tiresBy 2 (some .int) ∈ UL := tw_5_173
theorem hs_X12_tiresBy : yX12_tiresBy.cls ≠ "java/lang/invoke/MethodHandle" ∧ yX12_tiresBy.cls ≠ "java/lang/invoke/VarHandle" ∧ (parseMethodDescriptor yX12_tiresBy.desc).map (fun d => d.parameters.length) = some 2 := by decide +kernel
theorem cw_X12_fallsIn : Cond.code yX12_fallsIn cX12_fallsIn 5 (some .int) ∈ UL := tw_5_155
theorem hs_X12_fallsIn : yX12_fallsIn.cls ≠ "java/lang/invoke/MethodHandle" ∧ yX12_fallsIn.cls ≠ "java/lang/invoke/VarHandle" ∧ (parseMethodDescriptor yX12_fallsIn.desc).map (fun d => d.parameters.length) = some 3 := by decide +kernel
theorem cw_X12_timeIn : Cond.code yX12_timeIn cX12_timeIn 3 (some .int) ∈ UL := tw_5_158
theorem hs_X12_timeIn : yX12_timeIn.cls ≠ "java/lang/invoke/MethodHandle" ∧ yX12_timeIn.cls ≠ "java/lang/invoke/VarHandle" ∧ (parseMethodDescriptor yX12_timeIn.desc).map (fun d => d.parameters.length) = some 3 := by decide +kernel
theorem cw_X12_sideOf : Cond.code yX12_sideOf cX12_sideOf 1 (some .int) ∈ UL := tw_5_152
theorem hs_X12_sideOf : yX12_sideOf.cls ≠ "java/lang/invoke/MethodHandle" ∧ yX12_sideOf.cls ≠ "java/lang/invoke/VarHandle" ∧ (parseMethodDescriptor yX12_sideOf.desc).map (fun d => d.parameters.length) = some 1 := by decide +kernel
theorem cw_X12_partner : Cond.code yX12_partner cX12_partner 1 (some .int) ∈ UL := tw_5_192
theorem hs_X12_partner : yX12_partner.cls ≠ "java/lang/invoke/MethodHandle" ∧ yX12_partner.cls ≠ "java/lang/invoke/VarHandle" ∧ (parseMethodDescriptor yX12_partner.desc).map (fun d => d.parameters.length) = some 1 := by decide +kernel
theorem cw_X12_stepsIn : Cond.code yX12_stepsIn cX12_stepsIn 4 (some .int) ∈ UL := tw_5_185
theorem hs_X12_stepsIn : yX12_stepsIn.cls ≠ "java/lang/invoke/MethodHandle" ∧ yX12_stepsIn.cls ≠ "java/lang/invoke/VarHandle" ∧ (parseMethodDescriptor yX12_stepsIn.desc).map (fun d => d.parameters.length) = some 3 := by decide +kernel
theorem cw_X12_isTired : Cond.code yX12_isTired cX12_isTired 3 none ∈ UL := tw_5_176
theorem hs_X12_isTired : yX12_isTired.cls ≠ "java/lang/invoke/MethodHandle" ∧ yX12_isTired.cls ≠ "java/lang/invoke/VarHandle" ∧ (parseMethodDescriptor yX12_isTired.desc).map (fun d => d.parameters.length) = some 3 := by decide +kernel
theorem cw_X12_whoseIn : Cond.code yX12_whoseIn cX12_whoseIn 8 (some .int) ∈ UL := tw_5_164
theorem hs_X12_whoseIn : yX12_whoseIn.cls ≠ "java/lang/invoke/MethodHandle" ∧ yX12_whoseIn.cls ≠ "java/lang/invoke/VarHandle" ∧ (parseMethodDescriptor yX12_whoseIn.desc).map (fun d => d.parameters.length) = some 3 := by decide +kernel
theorem cw_X12_isBoths : Cond.code yX12_isBoths cX12_isBoths 3 (some .boolean) ∈ UL := tw_5_182
theorem hs_X12_isBoths : yX12_isBoths.cls ≠ "java/lang/invoke/MethodHandle" ∧ yX12_isBoths.cls ≠ "java/lang/invoke/VarHandle" ∧ (parseMethodDescriptor yX12_isBoths.desc).map (fun d => d.parameters.length) = some 3 := by decide +kernel
theorem cw_X12_placeFor : Cond.code yX12_placeFor cX12_placeFor 2 (some .int) ∈ UL := tw_5_195
theorem hs_X12_placeFor : yX12_placeFor.cls ≠ "java/lang/invoke/MethodHandle" ∧ yX12_placeFor.cls ≠ "java/lang/invoke/VarHandle" ∧ (parseMethodDescriptor yX12_placeFor.desc).map (fun d => d.parameters.length) = some 2 := by decide +kernel
theorem cw_X12_towards : Cond.code yX12_towards cX12_towards 6 (some .int) ∈ UL := tw_5_198
theorem hs_X12_towards : yX12_towards.cls ≠ "java/lang/invoke/MethodHandle" ∧ yX12_towards.cls ≠ "java/lang/invoke/VarHandle" ∧ (parseMethodDescriptor yX12_towards.desc).map (fun d => d.parameters.length) = some 3 := by decide +kernel
theorem cw_X12_moves : Cond.code yX12_moves cX12_moves 4 none ∈ UL := tw_5_189
theorem hv_X12_moves : yX12_moves.cls = RX12 ∧ yX12_moves.cls ≠ "java/lang/invoke/MethodHandle" ∧ yX12_moves.cls ≠ "java/lang/invoke/VarHandle" ∧ (parseMethodDescriptor yX12_moves.desc).map (fun d => d.parameters.length) = some 3 := by decide +kernel
theorem cw_X12_hits : Cond.code yX12_hits cX12_hits 11 (some .boolean) ∈ UL := tw_5_149
theorem hv_X12_hits : yX12_hits.cls = RX12 ∧ yX12_hits.cls ≠ "java/lang/invoke/MethodHandle" ∧ yX12_hits.cls ≠ "java/lang/invoke/VarHandle" ∧ (parseMethodDescriptor yX12_hits.desc).map (fun d => d.parameters.length) = some 3 := by decide +kernel
theorem cw_X12_here : Cond.code yX12_here cX12_here 1 (some .int) ∈ UL := tw_5_113
theorem hv_X12_here : yX12_here.cls = RX12 ∧ yX12_here.cls ≠ "java/lang/invoke/MethodHandle" ∧ yX12_here.cls ≠ "java/lang/invoke/VarHandle" ∧ (parseMethodDescriptor yX12_here.desc).map (fun d => d.parameters.length) = some 0 := by decide +kernel
theorem cw_X12_readsNumber : Cond.code yX12_readsNumber cX12_readsNumber 4 (some .boolean) ∈ UL := tw_5_117
theorem hv_X12_readsNumber : yX12_readsNumber.cls = RX12 ∧ yX12_readsNumber.cls ≠ "java/lang/invoke/MethodHandle" ∧ yX12_readsNumber.cls ≠ "java/lang/invoke/VarHandle" ∧ (parseMethodDescriptor yX12_readsNumber.desc).map (fun d => d.parameters.length) = some 2 := by decide +kernel
theorem cw_X12_readsStatement : Cond.code yX12_readsStatement cX12_readsStatement 3 (some .boolean) ∈ UL := tw_5_109
theorem hv_X12_readsStatement : yX12_readsStatement.cls = RX12 ∧ yX12_readsStatement.cls ≠ "java/lang/invoke/MethodHandle" ∧ yX12_readsStatement.cls ≠ "java/lang/invoke/VarHandle" ∧ (parseMethodDescriptor yX12_readsStatement.desc).map (fun d => d.parameters.length) = some 0 := by decide +kernel
theorem cw_X12_adds : Cond.code yX12_adds cX12_adds 3 none ∈ UL := tw_5_128
theorem hv_X12_adds : yX12_adds.cls = RX12 ∧ yX12_adds.cls ≠ "java/lang/invoke/MethodHandle" ∧ yX12_adds.cls ≠ "java/lang/invoke/VarHandle" ∧ (parseMethodDescriptor yX12_adds.desc).map (fun d => d.parameters.length) = some 2 := by decide +kernel
theorem cw_X12_isOver : Cond.code yX12_isOver cX12_isOver 1 (some .boolean) ∈ UL := tw_5_145
theorem hv_X12_isOver : yX12_isOver.cls = RX12 ∧ yX12_isOver.cls ≠ "java/lang/invoke/MethodHandle" ∧ yX12_isOver.cls ≠ "java/lang/invoke/VarHandle" ∧ (parseMethodDescriptor yX12_isOver.desc).map (fun d => d.parameters.length) = some 0 := by decide +kernel
theorem cw_X12_isDone : Cond.code yX12_isDone cX12_isDone 5 (some .boolean) ∈ UL := tw_5_124
theorem hv_X12_isDone : yX12_isDone.cls = RX12 ∧ yX12_isDone.cls ≠ "java/lang/invoke/MethodHandle" ∧ yX12_isDone.cls ≠ "java/lang/invoke/VarHandle" ∧ (parseMethodDescriptor yX12_isDone.desc).map (fun d => d.parameters.length) = some 1 := by decide +kernel
theorem cw_X12_court : Cond.code yX12_court cX12_court 8 (some .int) ∈ UL := tw_5_95
theorem hv_X12_court : yX12_court.cls = RX12 ∧ yX12_court.cls ≠ "java/lang/invoke/MethodHandle" ∧ yX12_court.cls ≠ "java/lang/invoke/VarHandle" ∧ (parseMethodDescriptor yX12_court.desc).map (fun d => d.parameters.length) = some 1 := by decide +kernel
theorem cw_X12_stroke : Cond.code yX12_stroke cX12_stroke 5 (some .int) ∈ UL := tw_5_202
theorem hv_X12_stroke : yX12_stroke.cls = RX12 ∧ yX12_stroke.cls ≠ "java/lang/invoke/MethodHandle" ∧ yX12_stroke.cls ≠ "java/lang/invoke/VarHandle" ∧ (parseMethodDescriptor yX12_stroke.desc).map (fun d => d.parameters.length) = some 2 := by decide +kernel
theorem cw_X12_player : Cond.code yX12_player cX12_player 3 (some .int) ∈ UL := tw_5_206
theorem hv_X12_player : yX12_player.cls = RX12 ∧ yX12_player.cls ≠ "java/lang/invoke/MethodHandle" ∧ yX12_player.cls ≠ "java/lang/invoke/VarHandle" ∧ (parseMethodDescriptor yX12_player.desc).map (fun d => d.parameters.length) = some 2 := by decide +kernel
theorem cw_X12_outOfPlace : Cond.code yX12_outOfPlace cX12_outOfPlace 3 (some .int) ∈ UL := tw_5_214
theorem hv_X12_outOfPlace : yX12_outOfPlace.cls = RX12 ∧ yX12_outOfPlace.cls ≠ "java/lang/invoke/MethodHandle" ∧ yX12_outOfPlace.cls ≠ "java/lang/invoke/VarHandle" ∧ (parseMethodDescriptor yX12_outOfPlace.desc).map (fun d => d.parameters.length) = some 1 := by decide +kernel
theorem cw_X12_side : Cond.code yX12_side cX12_side 3 (some .int) ∈ UL := tw_5_210
theorem hv_X12_side : yX12_side.cls = RX12 ∧ yX12_side.cls ≠ "java/lang/invoke/MethodHandle" ∧ yX12_side.cls ≠ "java/lang/invoke/VarHandle" ∧ (parseMethodDescriptor yX12_side.desc).map (fun d => d.parameters.length) = some 2 := by decide +kernel
theorem cw_X12_learns : Cond.code yX12_learns cX12_learns 3 (some .int) ∈ UL := tw_5_218
theorem hv_X12_learns : yX12_learns.cls = RX12 ∧ yX12_learns.cls ≠ "java/lang/invoke/MethodHandle" ∧ yX12_learns.cls ≠ "java/lang/invoke/VarHandle" ∧ (parseMethodDescriptor yX12_learns.desc).map (fun d => d.parameters.length) = some 1 := by decide +kernel
theorem cw_X12_stands : Cond.code yX12_stands cX12_stands 5 (some .int) ∈ UL := tw_5_226
theorem hv_X12_stands : yX12_stands.cls = RX12 ∧ yX12_stands.cls ≠ "java/lang/invoke/MethodHandle" ∧ yX12_stands.cls ≠ "java/lang/invoke/VarHandle" ∧ (parseMethodDescriptor yX12_stands.desc).map (fun d => d.parameters.length) = some 3 := by decide +kernel
theorem cw_X12_tires : Cond.code yX12_tires cX12_tires 4 (some .int) ∈ UL := tw_5_230
theorem hv_X12_tires : yX12_tires.cls = RX12 ∧ yX12_tires.cls ≠ "java/lang/invoke/MethodHandle" ∧ yX12_tires.cls ≠ "java/lang/invoke/VarHandle" ∧ (parseMethodDescriptor yX12_tires.desc).map (fun d => d.parameters.length) = some 2 := by decide +kernel
theorem cw_X12_hands : Cond.code yX12_hands cX12_hands 2 (some .int) ∈ UL := tw_5_234
theorem hv_X12_hands : yX12_hands.cls = RX12 ∧ yX12_hands.cls ≠ "java/lang/invoke/MethodHandle" ∧ yX12_hands.cls ≠ "java/lang/invoke/VarHandle" ∧ (parseMethodDescriptor yX12_hands.desc).map (fun d => d.parameters.length) = some 1 := by decide +kernel
theorem cw_X12_forms : Cond.code yX12_forms cX12_forms 5 (some .int) ∈ UL := tw_5_238
theorem hv_X12_forms : yX12_forms.cls = RX12 ∧ yX12_forms.cls ≠ "java/lang/invoke/MethodHandle" ∧ yX12_forms.cls ≠ "java/lang/invoke/VarHandle" ∧ (parseMethodDescriptor yX12_forms.desc).map (fun d => d.parameters.length) = some 3 := by decide +kernel
theorem cw_X12_blows : Cond.code yX12_blows cX12_blows 3 (some .int) ∈ UL := tw_6_2
theorem hv_X12_blows : yX12_blows.cls = RX12 ∧ yX12_blows.cls ≠ "java/lang/invoke/MethodHandle" ∧ yX12_blows.cls ≠ "java/lang/invoke/VarHandle" ∧ (parseMethodDescriptor yX12_blows.desc).map (fun d => d.parameters.length) = some 1 := by decide +kernel
theorem cw_X12_hit : Cond.code yX12_hit cX12_hit 4 (some .int) ∈ UL := tw_6_6
theorem hv_X12_hit : yX12_hit.cls = RX12 ∧ yX12_hit.cls ≠ "java/lang/invoke/MethodHandle" ∧ yX12_hit.cls ≠ "java/lang/invoke/VarHandle" ∧ (parseMethodDescriptor yX12_hit.desc).map (fun d => d.parameters.length) = some 2 := by decide +kernel
theorem cw_X12_otherSide : Cond.code yX12_otherSide cX12_otherSide 1 (some .int) ∈ UL := tw_6_22
theorem hv_X12_otherSide : yX12_otherSide.cls = RX12 ∧ yX12_otherSide.cls ≠ "java/lang/invoke/MethodHandle" ∧ yX12_otherSide.cls ≠ "java/lang/invoke/VarHandle" ∧ (parseMethodDescriptor yX12_otherSide.desc).map (fun d => d.parameters.length) = some 0 := by decide +kernel
theorem cw_X12_whoseNow : Cond.code yX12_whoseNow cX12_whoseNow 3 (some .int) ∈ UL := tw_6_18
theorem hv_X12_whoseNow : yX12_whoseNow.cls = RX12 ∧ yX12_whoseNow.cls ≠ "java/lang/invoke/MethodHandle" ∧ yX12_whoseNow.cls ≠ "java/lang/invoke/VarHandle" ∧ (parseMethodDescriptor yX12_whoseNow.desc).map (fun d => d.parameters.length) = some 2 := by decide +kernel
theorem cw_X12_isWon : Cond.code yX12_isWon cX12_isWon 3 (some .boolean) ∈ UL := tw_6_30
theorem hv_X12_isWon : yX12_isWon.cls = RX12 ∧ yX12_isWon.cls ≠ "java/lang/invoke/MethodHandle" ∧ yX12_isWon.cls ≠ "java/lang/invoke/VarHandle" ∧ (parseMethodDescriptor yX12_isWon.desc).map (fun d => d.parameters.length) = some 2 := by decide +kernel
theorem cw_X12_isHit : Cond.code yX12_isHit cX12_isHit 3 (some .boolean) ∈ UL := tw_6_14
theorem hv_X12_isHit : yX12_isHit.cls = RX12 ∧ yX12_isHit.cls ≠ "java/lang/invoke/MethodHandle" ∧ yX12_isHit.cls ≠ "java/lang/invoke/VarHandle" ∧ (parseMethodDescriptor yX12_isHit.desc).map (fun d => d.parameters.length) = some 2 := by decide +kernel
theorem cw_X12_whose : Cond.code yX12_whose cX12_whose 3 (some .int) ∈ UL := tw_6_10
theorem hv_X12_whose : yX12_whose.cls = RX12 ∧ yX12_whose.cls ≠ "java/lang/invoke/MethodHandle" ∧ yX12_whose.cls ≠ "java/lang/invoke/VarHandle" ∧ (parseMethodDescriptor yX12_whose.desc).map (fun d => d.parameters.length) = some 2 := by decide +kernel
theorem cw_X12_wins : Cond.code yX12_wins cX12_wins 3 (some .int) ∈ UL := tw_6_26
theorem hv_X12_wins : yX12_wins.cls = RX12 ∧ yX12_wins.cls ≠ "java/lang/invoke/MethodHandle" ∧ yX12_wins.cls ≠ "java/lang/invoke/VarHandle" ∧ (parseMethodDescriptor yX12_wins.desc).map (fun d => d.parameters.length) = some 2 := by decide +kernel
theorem cw_X12_falls : Cond.code yX12_falls cX12_falls 3 (some .int) ∈ UL := tw_6_34
theorem hv_X12_falls : yX12_falls.cls = RX12 ∧ yX12_falls.cls ≠ "java/lang/invoke/MethodHandle" ∧ yX12_falls.cls ≠ "java/lang/invoke/VarHandle" ∧ (parseMethodDescriptor yX12_falls.desc).map (fun d => d.parameters.length) = some 2 := by decide +kernel
theorem cw_X12_openTo : Cond.code yX12_openTo cX12_openTo 4 (some .int) ∈ UL := tw_6_42
theorem hv_X12_openTo : yX12_openTo.cls = RX12 ∧ yX12_openTo.cls ≠ "java/lang/invoke/MethodHandle" ∧ yX12_openTo.cls ≠ "java/lang/invoke/VarHandle" ∧ (parseMethodDescriptor yX12_openTo.desc).map (fun d => d.parameters.length) = some 1 := by decide +kernel
theorem cw_X12_open : Cond.code yX12_open cX12_open 2 (some .int) ∈ UL := tw_6_38
theorem hv_X12_open : yX12_open.cls = RX12 ∧ yX12_open.cls ≠ "java/lang/invoke/MethodHandle" ∧ yX12_open.cls ≠ "java/lang/invoke/VarHandle" ∧ (parseMethodDescriptor yX12_open.desc).map (fun d => d.parameters.length) = some 1 := by decide +kernel
theorem cw_X12_forced : Cond.code yX12_forced cX12_forced 2 (some .int) ∈ UL := tw_6_46
theorem hv_X12_forced : yX12_forced.cls = RX12 ∧ yX12_forced.cls ≠ "java/lang/invoke/MethodHandle" ∧ yX12_forced.cls ≠ "java/lang/invoke/VarHandle" ∧ (parseMethodDescriptor yX12_forced.desc).map (fun d => d.parameters.length) = some 0 := by decide +kernel
theorem cw_X12_leads : Cond.code yX12_leads cX12_leads 4 (some .int) ∈ UL := tw_6_54
theorem hv_X12_leads : yX12_leads.cls = RX12 ∧ yX12_leads.cls ≠ "java/lang/invoke/MethodHandle" ∧ yX12_leads.cls ≠ "java/lang/invoke/VarHandle" ∧ (parseMethodDescriptor yX12_leads.desc).map (fun d => d.parameters.length) = some 2 := by decide +kernel
theorem cw_X12_farthest : Cond.code yX12_farthest cX12_farthest 5 (some .int) ∈ UL := tw_6_50
theorem hv_X12_farthest : yX12_farthest.cls = RX12 ∧ yX12_farthest.cls ≠ "java/lang/invoke/MethodHandle" ∧ yX12_farthest.cls ≠ "java/lang/invoke/VarHandle" ∧ (parseMethodDescriptor yX12_farthest.desc).map (fun d => d.parameters.length) = some 2 := by decide +kernel
theorem cw_X12_atWhom : Cond.code yX12_atWhom cX12_atWhom 5 (some .int) ∈ UL := tw_6_58
theorem hv_X12_atWhom : yX12_atWhom.cls = RX12 ∧ yX12_atWhom.cls ≠ "java/lang/invoke/MethodHandle" ∧ yX12_atWhom.cls ≠ "java/lang/invoke/VarHandle" ∧ (parseMethodDescriptor yX12_atWhom.desc).map (fun d => d.parameters.length) = some 1 := by decide +kernel
theorem cw_X12_isWonInThree : Cond.code yX12_isWonInThree cX12_isWonInThree 3 (some .boolean) ∈ UL := tw_6_67
theorem hv_X12_isWonInThree : yX12_isWonInThree.cls = RX12 ∧ yX12_isWonInThree.cls ≠ "java/lang/invoke/MethodHandle" ∧ yX12_isWonInThree.cls ≠ "java/lang/invoke/VarHandle" ∧ (parseMethodDescriptor yX12_isWonInThree.desc).map (fun d => d.parameters.length) = some 2 := by decide +kernel
theorem cw_X12_fewest : Cond.code yX12_fewest cX12_fewest 6 (some .int) ∈ UL := tw_6_62
theorem hv_X12_fewest : yX12_fewest.cls = RX12 ∧ yX12_fewest.cls ≠ "java/lang/invoke/MethodHandle" ∧ yX12_fewest.cls ≠ "java/lang/invoke/VarHandle" ∧ (parseMethodDescriptor yX12_fewest.desc).map (fun d => d.parameters.length) = some 1 := by decide +kernel
theorem cw_X12_isHeld : Cond.code yX12_isHeld cX12_isHeld 5 (some .boolean) ∈ UL := tw_6_79
theorem hv_X12_isHeld : yX12_isHeld.cls = RX12 ∧ yX12_isHeld.cls ≠ "java/lang/invoke/MethodHandle" ∧ yX12_isHeld.cls ≠ "java/lang/invoke/VarHandle" ∧ (parseMethodDescriptor yX12_isHeld.desc).map (fun d => d.parameters.length) = some 4 := by decide +kernel
theorem cw_X12_bestOf : Cond.code yX12_bestOf cX12_bestOf 10 (some .int) ∈ UL := tw_6_75
theorem hv_X12_bestOf : yX12_bestOf.cls = RX12 ∧ yX12_bestOf.cls ≠ "java/lang/invoke/MethodHandle" ∧ yX12_bestOf.cls ≠ "java/lang/invoke/VarHandle" ∧ (parseMethodDescriptor yX12_bestOf.desc).map (fun d => d.parameters.length) = some 4 := by decide +kernel
theorem cw_X12_bestForm : Cond.code yX12_bestForm cX12_bestForm 3 (some .int) ∈ UL := tw_6_71
theorem hv_X12_bestForm : yX12_bestForm.cls = RX12 ∧ yX12_bestForm.cls ≠ "java/lang/invoke/MethodHandle" ∧ yX12_bestForm.cls ≠ "java/lang/invoke/VarHandle" ∧ (parseMethodDescriptor yX12_bestForm.desc).map (fun d => d.parameters.length) = some 2 := by decide +kernel
theorem cw_X12_bestHabit : Cond.code yX12_bestHabit cX12_bestHabit 3 (some .int) ∈ UL := tw_6_83
theorem hv_X12_bestHabit : yX12_bestHabit.cls = RX12 ∧ yX12_bestHabit.cls ≠ "java/lang/invoke/MethodHandle" ∧ yX12_bestHabit.cls ≠ "java/lang/invoke/VarHandle" ∧ (parseMethodDescriptor yX12_bestHabit.desc).map (fun d => d.parameters.length) = some 2 := by decide +kernel
theorem cw_X12_change : Cond.code yX12_change cX12_change 6 (some .int) ∈ UL := tw_6_87
theorem hv_X12_change : yX12_change.cls = RX12 ∧ yX12_change.cls ≠ "java/lang/invoke/MethodHandle" ∧ yX12_change.cls ≠ "java/lang/invoke/VarHandle" ∧ (parseMethodDescriptor yX12_change.desc).map (fun d => d.parameters.length) = some 4 := by decide +kernel
theorem cw_X12_wrongRally : Cond.code yX12_wrongRally cX12_wrongRally 4 (some .int) ∈ UL := tw_6_95
theorem hv_X12_wrongRally : yX12_wrongRally.cls = RX12 ∧ yX12_wrongRally.cls ≠ "java/lang/invoke/MethodHandle" ∧ yX12_wrongRally.cls ≠ "java/lang/invoke/VarHandle" ∧ (parseMethodDescriptor yX12_wrongRally.desc).map (fun d => d.parameters.length) = some 1 := by decide +kernel
theorem cw_X12_rallies : Cond.code yX12_rallies cX12_rallies 4 none ∈ UL := tw_6_99
theorem hv_X12_rallies : yX12_rallies.cls = RX12 ∧ yX12_rallies.cls ≠ "java/lang/invoke/MethodHandle" ∧ yX12_rallies.cls ≠ "java/lang/invoke/VarHandle" ∧ (parseMethodDescriptor yX12_rallies.desc).map (fun d => d.parameters.length) = some 1 := by decide +kernel
theorem cw_X12_rally : Cond.code yX12_rally cX12_rally 4 (some .int) ∈ UL := tw_6_91
theorem hv_X12_rally : yX12_rally.cls = RX12 ∧ yX12_rally.cls ≠ "java/lang/invoke/MethodHandle" ∧ yX12_rally.cls ≠ "java/lang/invoke/VarHandle" ∧ (parseMethodDescriptor yX12_rally.desc).map (fun d => d.parameters.length) = some 2 := by decide +kernel
theorem cw_X12_ways : Cond.code yX12_ways cX12_ways 4 (some .int) ∈ UL := tw_6_103
theorem hv_X12_ways : yX12_ways.cls = RX12 ∧ yX12_ways.cls ≠ "java/lang/invoke/MethodHandle" ∧ yX12_ways.cls ≠ "java/lang/invoke/VarHandle" ∧ (parseMethodDescriptor yX12_ways.desc).map (fun d => d.parameters.length) = some 2 := by decide +kernel
theorem cw_X12_spent : Cond.code yX12_spent cX12_spent 5 (some .int) ∈ UL := tw_6_107
theorem hv_X12_spent : yX12_spent.cls = RX12 ∧ yX12_spent.cls ≠ "java/lang/invoke/MethodHandle" ∧ yX12_spent.cls ≠ "java/lang/invoke/VarHandle" ∧ (parseMethodDescriptor yX12_spent.desc).map (fun d => d.parameters.length) = some 1 := by decide +kernel
theorem cw_X12_leastOf : Cond.code yX12_leastOf cX12_leastOf 1 (some .int) ∈ UL := tw_6_118
theorem hs_X12_leastOf : yX12_leastOf.cls ≠ "java/lang/invoke/MethodHandle" ∧ yX12_leastOf.cls ≠ "java/lang/invoke/VarHandle" ∧ (parseMethodDescriptor yX12_leastOf.desc).map (fun d => d.parameters.length) = some 1 := by decide +kernel
theorem cw_X12_isSkipped : Cond.code yX12_isSkipped cX12_isSkipped 3 (some .boolean) ∈ UL := tw_6_115
theorem hv_X12_isSkipped : yX12_isSkipped.cls = RX12 ∧ yX12_isSkipped.cls ≠ "java/lang/invoke/MethodHandle" ∧ yX12_isSkipped.cls ≠ "java/lang/invoke/VarHandle" ∧ (parseMethodDescriptor yX12_isSkipped.desc).map (fun d => d.parameters.length) = some 2 := by decide +kernel
theorem cw_X12_whatIs : Cond.code yX12_whatIs cX12_whatIs 9 (some .int) ∈ UL := tw_6_111
theorem hv_X12_whatIs : yX12_whatIs.cls = RX12 ∧ yX12_whatIs.cls ≠ "java/lang/invoke/MethodHandle" ∧ yX12_whatIs.cls ≠ "java/lang/invoke/VarHandle" ∧ (parseMethodDescriptor yX12_whatIs.desc).map (fun d => d.parameters.length) = some 3 := by decide +kernel
theorem cw_X12_habits : Cond.code yX12_habits cX12_habits 7 (some .int) ∈ UL := tw_6_123
theorem hv_X12_habits : yX12_habits.cls = RX12 ∧ yX12_habits.cls ≠ "java/lang/invoke/MethodHandle" ∧ yX12_habits.cls ≠ "java/lang/invoke/VarHandle" ∧ (parseMethodDescriptor yX12_habits.desc).map (fun d => d.parameters.length) = some 1 := by decide +kernel
theorem cw_X12_costBy2 : Cond.code yX12_costBy2 cX12_costBy2 7 (some .int) ∈ UL := tw_6_131
theorem hv_X12_costBy2 : yX12_costBy2.cls = RX12 ∧ yX12_costBy2.cls ≠ "java/lang/invoke/MethodHandle" ∧ yX12_costBy2.cls ≠ "java/lang/invoke/VarHandle" ∧ (parseMethodDescriptor yX12_costBy2.desc).map (fun d => d.parameters.length) = some 3 := by decide +kernel
theorem cw_X12_two : Cond.code yX12_two cX12_two 4 (some .int) ∈ UL := tw_6_127
theorem hv_X12_two : yX12_two.cls = RX12 ∧ yX12_two.cls ≠ "java/lang/invoke/MethodHandle" ∧ yX12_two.cls ≠ "java/lang/invoke/VarHandle" ∧ (parseMethodDescriptor yX12_two.desc).map (fun d => d.parameters.length) = some 0 := by decide +kernel
theorem cw_X12_gcd : Cond.code yX12_gcd cX12_gcd 10 (some .long) ∈ UL := tw_6_149
theorem hs_X12_gcd : yX12_gcd.cls ≠ "java/lang/invoke/MethodHandle" ∧ yX12_gcd.cls ≠ "java/lang/invoke/VarHandle" ∧ (parseMethodDescriptor yX12_gcd.desc).map (fun d => d.parameters.length) = some 2 := by decide +kernel
theorem cw_X12_partOf : Cond.code yX12_partOf cX12_partOf 5 (some .long) ∈ UL := tw_6_146
theorem hs_X12_partOf : yX12_partOf.cls ≠ "java/lang/invoke/MethodHandle" ∧ yX12_partOf.cls ≠ "java/lang/invoke/VarHandle" ∧ (parseMethodDescriptor yX12_partOf.desc).map (fun d => d.parameters.length) = some 3 := by decide +kernel
theorem cw_X12_isPointless : Cond.code yX12_isPointless cX12_isPointless 4 (some .boolean) ∈ UL := tw_6_143
theorem hv_X12_isPointless : yX12_isPointless.cls = RX12 ∧ yX12_isPointless.cls ≠ "java/lang/invoke/MethodHandle" ∧ yX12_isPointless.cls ≠ "java/lang/invoke/VarHandle" ∧ (parseMethodDescriptor yX12_isPointless.desc).map (fun d => d.parameters.length) = some 2 := by decide +kernel
theorem cw_X12_draughts : Cond.code yX12_draughts cX12_draughts 12 (some .long) ∈ UL := tw_6_135
theorem hv_X12_draughts : yX12_draughts.cls = RX12 ∧ yX12_draughts.cls ≠ "java/lang/invoke/MethodHandle" ∧ yX12_draughts.cls ≠ "java/lang/invoke/VarHandle" ∧ (parseMethodDescriptor yX12_draughts.desc).map (fun d => d.parameters.length) = some 3 := by decide +kernel
theorem cw_X12_allTired : Cond.code yX12_allTired cX12_allTired 3 (some .int) ∈ UL := tw_6_157
theorem hv_X12_allTired : yX12_allTired.cls = RX12 ∧ yX12_allTired.cls ≠ "java/lang/invoke/MethodHandle" ∧ yX12_allTired.cls ≠ "java/lang/invoke/VarHandle" ∧ (parseMethodDescriptor yX12_allTired.desc).map (fun d => d.parameters.length) = some 0 := by decide +kernel
theorem cw_X12_mean : Cond.code yX12_mean cX12_mean 2 (some .long) ∈ UL := tw_6_153
theorem hv_X12_mean : yX12_mean.cls = RX12 ∧ yX12_mean.cls ≠ "java/lang/invoke/MethodHandle" ∧ yX12_mean.cls ≠ "java/lang/invoke/VarHandle" ∧ (parseMethodDescriptor yX12_mean.desc).map (fun d => d.parameters.length) = some 1 := by decide +kernel
theorem cw_X12_forged : Cond.code yX12_forged cX12_forged 7 (some .int) ∈ UL := tw_6_162
theorem hv_X12_forged : yX12_forged.cls = RX12 ∧ yX12_forged.cls ≠ "java/lang/invoke/MethodHandle" ∧ yX12_forged.cls ≠ "java/lang/invoke/VarHandle" ∧ (parseMethodDescriptor yX12_forged.desc).map (fun d => d.parameters.length) = some 1 := by decide +kernel
theorem cw_X12_judge : Cond.code yX12_judge cX12_judge 5 (some .int) ∈ UL := tw_6_166
theorem hv_X12_judge : yX12_judge.cls = RX12 ∧ yX12_judge.cls ≠ "java/lang/invoke/MethodHandle" ∧ yX12_judge.cls ≠ "java/lang/invoke/VarHandle" ∧ (parseMethodDescriptor yX12_judge.desc).map (fun d => d.parameters.length) = some 1 := by decide +kernel
theorem cw_X12_drawn : Cond.code yX12_drawn cX12_drawn 2 (some .int) ∈ UL := tw_6_174
theorem hv_X12_drawn : yX12_drawn.cls = RX12 ∧ yX12_drawn.cls ≠ "java/lang/invoke/MethodHandle" ∧ yX12_drawn.cls ≠ "java/lang/invoke/VarHandle" ∧ (parseMethodDescriptor yX12_drawn.desc).map (fun d => d.parameters.length) = some 1 := by decide +kernel
theorem cw_X12_nights : Cond.code yX12_nights cX12_nights 9 (some .int) ∈ UL := tw_6_170
theorem hv_X12_nights : yX12_nights.cls = RX12 ∧ yX12_nights.cls ≠ "java/lang/invoke/MethodHandle" ∧ yX12_nights.cls ≠ "java/lang/invoke/VarHandle" ∧ (parseMethodDescriptor yX12_nights.desc).map (fun d => d.parameters.length) = some 3 := by decide +kernel
theorem cw_X12_image : Cond.code yX12_image cX12_image 1 (some .int) ∈ UL := tw_6_181
theorem hv_X12_image : yX12_image.cls = RX12 ∧ yX12_image.cls ≠ "java/lang/invoke/MethodHandle" ∧ yX12_image.cls ≠ "java/lang/invoke/VarHandle" ∧ (parseMethodDescriptor yX12_image.desc).map (fun d => d.parameters.length) = some 0 := by decide +kernel
theorem cw_X12_restore : Cond.code yX12_restore cX12_restore 1 (some .int) ∈ UL := tw_6_185
theorem hv_X12_restore : yX12_restore.cls = RX12 ∧ yX12_restore.cls ≠ "java/lang/invoke/MethodHandle" ∧ yX12_restore.cls ≠ "java/lang/invoke/VarHandle" ∧ (parseMethodDescriptor yX12_restore.desc).map (fun d => d.parameters.length) = some 0 := by decide +kernel
theorem cw_X12_count : Cond.code yX12_count cX12_count 4 (some .int) ∈ UL := tw_6_189
theorem hv_X12_count : yX12_count.cls = RX12 ∧ yX12_count.cls ≠ "java/lang/invoke/MethodHandle" ∧ yX12_count.cls ≠ "java/lang/invoke/VarHandle" ∧ (parseMethodDescriptor yX12_count.desc).map (fun d => d.parameters.length) = some 1 := by decide +kernel
theorem cw_X12_thrown : Cond.code yX12_thrown cX12_thrown 1 (some .int) ∈ UL := tw_6_193
theorem hv_X12_thrown : yX12_thrown.cls = RX12 ∧ yX12_thrown.cls ≠ "java/lang/invoke/MethodHandle" ∧ yX12_thrown.cls ≠ "java/lang/invoke/VarHandle" ∧ (parseMethodDescriptor yX12_thrown.desc).map (fun d => d.parameters.length) = some 0 := by decide +kernel
theorem cw_X12_isShelf : Cond.code yX12_isShelf cX12_isShelf 1 (some .boolean) ∈ UL := tw_5_102
theorem hs_X12_isShelf : yX12_isShelf.cls ≠ "java/lang/invoke/MethodHandle" ∧ yX12_isShelf.cls ≠ "java/lang/invoke/VarHandle" ∧ (parseMethodDescriptor yX12_isShelf.desc).map (fun d => d.parameters.length) = some 1 := by decide +kernel
theorem cw_X12_wrongRow : Cond.code yX12_wrongRow cX12_wrongRow 3 (some .int) ∈ UL := tw_5_99
theorem hv_X12_wrongRow : yX12_wrongRow.cls = RX12 ∧ yX12_wrongRow.cls ≠ "java/lang/invoke/MethodHandle" ∧ yX12_wrongRow.cls ≠ "java/lang/invoke/VarHandle" ∧ (parseMethodDescriptor yX12_wrongRow.desc).map (fun d => d.parameters.length) = some 2 := by decide +kernel
theorem cw_X12_wrongKept : Cond.code yX12_wrongKept cX12_wrongKept 2 (some .int) ∈ UL := tw_5_222
theorem hv_X12_wrongKept : yX12_wrongKept.cls = RX12 ∧ yX12_wrongKept.cls ≠ "java/lang/invoke/MethodHandle" ∧ yX12_wrongKept.cls ≠ "java/lang/invoke/VarHandle" ∧ (parseMethodDescriptor yX12_wrongKept.desc).map (fun d => d.parameters.length) = some 1 := by decide +kernel
theorem cw_X12_keep : Cond.code yX12_keep cX12_keep 5 (some .int) ∈ UL := tw_6_197
theorem hv_X12_keep : yX12_keep.cls = RX12 ∧ yX12_keep.cls ≠ "java/lang/invoke/MethodHandle" ∧ yX12_keep.cls ≠ "java/lang/invoke/VarHandle" ∧ (parseMethodDescriptor yX12_keep.desc).map (fun d => d.parameters.length) = some 4 := by decide +kernel
theorem cw_X12_row : Cond.code yX12_row cX12_row 5 (some .int) ∈ UL := tw_6_201
theorem hv_X12_row : yX12_row.cls = RX12 ∧ yX12_row.cls ≠ "java/lang/invoke/MethodHandle" ∧ yX12_row.cls ≠ "java/lang/invoke/VarHandle" ∧ (parseMethodDescriptor yX12_row.desc).map (fun d => d.parameters.length) = some 3 := by decide +kernel
theorem cw_X12_put : Cond.code yX12_put cX12_put 5 (some .int) ∈ UL := tw_6_205
theorem hv_X12_put : yX12_put.cls = RX12 ∧ yX12_put.cls ≠ "java/lang/invoke/MethodHandle" ∧ yX12_put.cls ≠ "java/lang/invoke/VarHandle" ∧ (parseMethodDescriptor yX12_put.desc).map (fun d => d.parameters.length) = some 3 := by decide +kernel
theorem cw_X12_element : Cond.code yX12_element cX12_element 3 (some .long) ∈ UL := tw_6_209
theorem hv_X12_element : yX12_element.cls = RX12 ∧ yX12_element.cls ≠ "java/lang/invoke/MethodHandle" ∧ yX12_element.cls ≠ "java/lang/invoke/VarHandle" ∧ (parseMethodDescriptor yX12_element.desc).map (fun d => d.parameters.length) = some 2 := by decide +kernel
theorem cw_X12_copy : Cond.code yX12_copy cX12_copy 8 (some .int) ∈ UL := tw_6_213
theorem hv_X12_copy : yX12_copy.cls = RX12 ∧ yX12_copy.cls ≠ "java/lang/invoke/MethodHandle" ∧ yX12_copy.cls ≠ "java/lang/invoke/VarHandle" ∧ (parseMethodDescriptor yX12_copy.desc).map (fun d => d.parameters.length) = some 5 := by decide +kernel
theorem cw_X12_costBy : Cond.code yX12_costBy cX12_costBy 2 (some .int) ∈ UL := tw_6_220
theorem hs_X12_costBy : yX12_costBy.cls ≠ "java/lang/invoke/MethodHandle" ∧ yX12_costBy.cls ≠ "java/lang/invoke/VarHandle" ∧ (parseMethodDescriptor yX12_costBy.desc).map (fun d => d.parameters.length) = some 2 := by decide +kernel
theorem cw_X12_cost : Cond.code yX12_cost cX12_cost 3 (some .int) ∈ UL := tw_6_217
theorem hv_X12_cost : yX12_cost.cls = RX12 ∧ yX12_cost.cls ≠ "java/lang/invoke/MethodHandle" ∧ yX12_cost.cls ≠ "java/lang/invoke/VarHandle" ∧ (parseMethodDescriptor yX12_cost.desc).map (fun d => d.parameters.length) = some 1 := by decide +kernel
theorem cw_X12_toss : Cond.code yX12_toss cX12_toss 5 (some .int) ∈ UL := tw_6_224
theorem hv_X12_toss : yX12_toss.cls = RX12 ∧ yX12_toss.cls ≠ "java/lang/invoke/MethodHandle" ∧ yX12_toss.cls ≠ "java/lang/invoke/VarHandle" ∧ (parseMethodDescriptor yX12_toss.desc).map (fun d => d.parameters.length) = some 1 := by decide +kernel
theorem cw_J6_bitCount_0f7a4 : Cond.code yJ6_bitCount_0f7a4 cJ6_bitCount_0f7a4 1 (some .int) ∈ UL := tw_3_231
theorem hs_J6_bitCount_0f7a4 : yJ6_bitCount_0f7a4.cls ≠ "java/lang/invoke/MethodHandle" ∧ yJ6_bitCount_0f7a4.cls ≠ "java/lang/invoke/VarHandle" ∧ (parseMethodDescriptor yJ6_bitCount_0f7a4.desc).map (fun d => d.parameters.length) = some 1 := by decide +kernel
theorem cw_J9_abs_0f7a4 : Cond.code yJ9_abs_0f7a4 cJ9_abs_0f7a4 1 (some .int) ∈ UL := tw_2_140
theorem hs_J9_abs_0f7a4 : yJ9_abs_0f7a4.cls ≠ "java/lang/invoke/MethodHandle" ∧ yJ9_abs_0f7a4.cls ≠ "java/lang/invoke/VarHandle" ∧ (parseMethodDescriptor yJ9_abs_0f7a4.desc).map (fun d => d.parameters.length) = some 1 := by decide +kernel
theorem cw_J9_max_7cf53 : Cond.code yJ9_max_7cf53 cJ9_max_7cf53 2 (some .int) ∈ UL := tw_2_96
theorem hs_J9_max_7cf53 : yJ9_max_7cf53.cls ≠ "java/lang/invoke/MethodHandle" ∧ yJ9_max_7cf53.cls ≠ "java/lang/invoke/VarHandle" ∧ (parseMethodDescriptor yJ9_max_7cf53.desc).map (fun d => d.parameters.length) = some 2 := by decide +kernel
theorem cw_J9_max_f86c9 : Cond.code yJ9_max_f86c9 cJ9_max_f86c9 4 (some .long) ∈ UL := tw_4_6
theorem hs_J9_max_f86c9 : yJ9_max_f86c9.cls ≠ "java/lang/invoke/MethodHandle" ∧ yJ9_max_f86c9.cls ≠ "java/lang/invoke/VarHandle" ∧ (parseMethodDescriptor yJ9_max_f86c9.desc).map (fun d => d.parameters.length) = some 2 := by decide +kernel
theorem cw_J9_min_7cf53 : Cond.code yJ9_min_7cf53 cJ9_min_7cf53 2 (some .int) ∈ UL := tw_2_93
theorem hs_J9_min_7cf53 : yJ9_min_7cf53.cls ≠ "java/lang/invoke/MethodHandle" ∧ yJ9_min_7cf53.cls ≠ "java/lang/invoke/VarHandle" ∧ (parseMethodDescriptor yJ9_min_7cf53.desc).map (fun d => d.parameters.length) = some 2 := by decide +kernel
theorem ts_X11_refusalOf : Cond.selects "SideBySide" yX11_refusalOf yX11_refusalOf ∈ UL := ul_in (List.mem_append_left _ (List.mem_of_getElem? (i := 0) rfl)) rfl
theorem ts_X11_firstOpening : Cond.selects "SideBySide" yX11_firstOpening yX11_firstOpening ∈ UL := ul_in (List.mem_append_left _ (List.mem_of_getElem? (i := 1) rfl)) rfl
theorem ts_X11_bestTrait : Cond.selects "SideBySide" yX11_bestTrait yX11_bestTrait ∈ UL := ul_in (List.mem_append_left _ (List.mem_of_getElem? (i := 2) rfl)) rfl
theorem ts_X11_cellsHeld : Cond.selects "SideBySide" yX11_cellsHeld yX11_cellsHeld ∈ UL := ul_in (List.mem_append_left _ (List.mem_of_getElem? (i := 3) rfl)) rfl
theorem ts_X11_isBroken : Cond.selects "SideBySide" yX11_isBroken yX11_isBroken ∈ UL := ul_in (List.mem_append_left _ (List.mem_of_getElem? (i := 4) rfl)) rfl
theorem ts_X11_refusalOfRally : Cond.selects "SideBySide" yX11_refusalOfRally yX11_refusalOfRally ∈ UL := ul_in (List.mem_append_left _ (List.mem_of_getElem? (i := 5) rfl)) rfl
theorem ts_X11_refusalOfHits : Cond.selects "SideBySide" yX11_refusalOfHits yX11_refusalOfHits ∈ UL := ul_in (List.mem_append_left _ (List.mem_of_getElem? (i := 6) rfl)) rfl
theorem ts_X11_playRally : Cond.selects "SideBySide" yX11_playRally yX11_playRally ∈ UL := ul_in (List.mem_append_left _ (List.mem_of_getElem? (i := 7) rfl)) rfl
theorem ts_X11_addWaysGone : Cond.selects "SideBySide" yX11_addWaysGone yX11_addWaysGone ∈ UL := ul_in (List.mem_append_left _ (List.mem_of_getElem? (i := 8) rfl)) rfl
theorem ts_X11_sideWithMorePoints : Cond.selects "SideBySide" yX11_sideWithMorePoints yX11_sideWithMorePoints ∈ UL := ul_in (List.mem_append_left _ (List.mem_of_getElem? (i := 9) rfl)) rfl
theorem ts_X11_refusalOfCells : Cond.selects "SideBySide" yX11_refusalOfCells yX11_refusalOfCells ∈ UL := ul_in (List.mem_append_left _ (List.mem_of_getElem? (i := 10) rfl)) rfl
theorem ts_X11_kindsThatFell : Cond.selects "SideBySide" yX11_kindsThatFell yX11_kindsThatFell ∈ UL := ul_in (List.mem_append_left _ (List.mem_of_getElem? (i := 11) rfl)) rfl
theorem ts_X11_outlay : Cond.selects "SideBySide" yX11_outlay yX11_outlay ∈ UL := ul_in (List.mem_append_left _ (List.mem_of_getElem? (i := 12) rfl)) rfl
theorem ts_X11_staysInPlay : Cond.selects "SideBySide" yX11_staysInPlay yX11_staysInPlay ∈ UL := ul_in (List.mem_append_left _ (List.mem_of_getElem? (i := 13) rfl)) rfl
theorem ts_X11_draw : Cond.selects "SideBySide" yX11_draw yX11_draw ∈ UL := ul_in (List.mem_append_left _ (List.mem_of_getElem? (i := 14) rfl)) rfl
theorem ts_X12_wrongRow : Cond.selects "SideBySideModel" yX12_wrongRow yX12_wrongRow ∈ UL := ul_in (List.mem_append_left _ (List.mem_of_getElem? (i := 16) rfl)) rfl
theorem ts_X12_readsStatement : Cond.selects "SideBySideModel" yX12_readsStatement yX12_readsStatement ∈ UL := ul_in (List.mem_append_left _ (List.mem_of_getElem? (i := 17) rfl)) rfl
theorem ts_X12_here : Cond.selects "SideBySideModel" yX12_here yX12_here ∈ UL := ul_in (List.mem_append_left _ (List.mem_of_getElem? (i := 18) rfl)) rfl
theorem ts_X12_readsNumber : Cond.selects "SideBySideModel" yX12_readsNumber yX12_readsNumber ∈ UL := ul_in (List.mem_append_left _ (List.mem_of_getElem? (i := 19) rfl)) rfl
theorem ts_X12_isDone : Cond.selects "SideBySideModel" yX12_isDone yX12_isDone ∈ UL := ul_in (List.mem_append_left _ (List.mem_of_getElem? (i := 20) rfl)) rfl
theorem ts_X12_adds : Cond.selects "SideBySideModel" yX12_adds yX12_adds ∈ UL := ul_in (List.mem_append_left _ (List.mem_of_getElem? (i := 21) rfl)) rfl
theorem ts_X12_isStroke : Cond.selects "SideBySideModel" yX12_isStroke yX12_isStroke ∈ UL := ul_in (List.mem_append_left _ (List.mem_of_getElem? (i := 22) rfl)) rfl
theorem ts_X12_isOver : Cond.selects "SideBySideModel" yX12_isOver yX12_isOver ∈ UL := ul_in (List.mem_append_left _ (List.mem_of_getElem? (i := 23) rfl)) rfl
theorem ts_X12_hits : Cond.selects "SideBySideModel" yX12_hits yX12_hits ∈ UL := ul_in (List.mem_append_left _ (List.mem_of_getElem? (i := 24) rfl)) rfl
theorem ts_X12_moves : Cond.selects "SideBySideModel" yX12_moves yX12_moves ∈ UL := ul_in (List.mem_append_left _ (List.mem_of_getElem? (i := 25) rfl)) rfl
theorem ts_X12_outOfPlace : Cond.selects "SideBySideModel" yX12_outOfPlace yX12_outOfPlace ∈ UL := ul_in (List.mem_append_left _ (List.mem_of_getElem? (i := 26) rfl)) rfl
theorem ts_X12_wrongKept : Cond.selects "SideBySideModel" yX12_wrongKept yX12_wrongKept ∈ UL := ul_in (List.mem_append_left _ (List.mem_of_getElem? (i := 27) rfl)) rfl
theorem ts_X12_isHit : Cond.selects "SideBySideModel" yX12_isHit yX12_isHit ∈ UL := ul_in (List.mem_append_left _ (List.mem_of_getElem? (i := 28) rfl)) rfl
theorem ts_X12_whoseNow : Cond.selects "SideBySideModel" yX12_whoseNow yX12_whoseNow ∈ UL := ul_in (List.mem_append_left _ (List.mem_of_getElem? (i := 29) rfl)) rfl
theorem ts_X12_otherSide : Cond.selects "SideBySideModel" yX12_otherSide yX12_otherSide ∈ UL := ul_in (List.mem_append_left _ (List.mem_of_getElem? (i := 30) rfl)) rfl
theorem ts_X12_isWon : Cond.selects "SideBySideModel" yX12_isWon yX12_isWon ∈ UL := ul_in (List.mem_append_left _ (List.mem_of_getElem? (i := 31) rfl)) rfl
theorem ts_X12_openTo : Cond.selects "SideBySideModel" yX12_openTo yX12_openTo ∈ UL := ul_in (List.mem_append_left _ (List.mem_of_getElem? (i := 32) rfl)) rfl
theorem ts_X12_leads : Cond.selects "SideBySideModel" yX12_leads yX12_leads ∈ UL := ul_in (List.mem_append_left _ (List.mem_of_getElem? (i := 33) rfl)) rfl
theorem ts_X12_isWonInThree : Cond.selects "SideBySideModel" yX12_isWonInThree yX12_isWonInThree ∈ UL := ul_in (List.mem_append_left _ (List.mem_of_getElem? (i := 34) rfl)) rfl
theorem ts_X12_bestOf : Cond.selects "SideBySideModel" yX12_bestOf yX12_bestOf ∈ UL := ul_in (List.mem_append_left _ (List.mem_of_getElem? (i := 35) rfl)) rfl
theorem ts_X12_isHeld : Cond.selects "SideBySideModel" yX12_isHeld yX12_isHeld ∈ UL := ul_in (List.mem_append_left _ (List.mem_of_getElem? (i := 36) rfl)) rfl
theorem ts_X12_wrongRally : Cond.selects "SideBySideModel" yX12_wrongRally yX12_wrongRally ∈ UL := ul_in (List.mem_append_left _ (List.mem_of_getElem? (i := 37) rfl)) rfl
theorem ts_X12_rallies : Cond.selects "SideBySideModel" yX12_rallies yX12_rallies ∈ UL := ul_in (List.mem_append_left _ (List.mem_of_getElem? (i := 38) rfl)) rfl
theorem ts_X12_isSkipped : Cond.selects "SideBySideModel" yX12_isSkipped yX12_isSkipped ∈ UL := ul_in (List.mem_append_left _ (List.mem_of_getElem? (i := 39) rfl)) rfl
theorem ts_X12_costBy2 : Cond.selects "SideBySideModel" yX12_costBy2 yX12_costBy2 ∈ UL := ul_in (List.mem_append_left _ (List.mem_of_getElem? (i := 40) rfl)) rfl
theorem ts_X12_isPointless : Cond.selects "SideBySideModel" yX12_isPointless yX12_isPointless ∈ UL := ul_in (List.mem_append_left _ (List.mem_of_getElem? (i := 41) rfl)) rfl
theorem ts_X12_allTired : Cond.selects "SideBySideModel" yX12_allTired yX12_allTired ∈ UL := ul_in (List.mem_append_left _ (List.mem_of_getElem? (i := 42) rfl)) rfl
theorem ts_X12_drawn : Cond.selects "SideBySideModel" yX12_drawn yX12_drawn ∈ UL := ul_in (List.mem_append_left _ (List.mem_of_getElem? (i := 43) rfl)) rfl
