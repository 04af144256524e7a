/-! toss: a stroke's failure, caught -/
def PreT (g : GE) (A : Nat → Prop) (X : va_W) (σ : IM) (ρ : RM) (U : State) : Prop := PreX lyC 48 g A X σ ρ U ∧ va_Nc xIAE xUOE U ∧ va_Nc xISE xUOE U ∧ va_Nc xISE xIAE U
theorem PreT.blind {g : GE} {A : Nat → Prop} {X : va_W} {σ : IM} {ρ : RM} {av : List Value} : FrameBlind (va_Pc av (PreT g A X σ ρ)) :=
  fun a U fr mk q => ⟨q.1, (PreX.blind (av := av) a U fr mk ⟨q.1, q.2.1⟩).2, q.2.2.1.moved (U := U.calling fr mk a) (Vm.Alike.refl U.vm), q.2.2.2.1.moved (U := U.calling fr mk a) (Vm.Alike.refl U.vm), q.2.2.2.2.moved (U := U.calling fr mk a) (Vm.Alike.refl U.vm)⟩
theorem met_x {l : Launch} {y : MethodName} {ws : List Cond} {rm : Room} {Pc : Array Value → State → Prop} {Qc : Array Value → State → Outcome → State → Prop} {mc ms : Nat} {free : Addr → Prop} (h : vx_Met l y ws rm Pc Qc (fun _ _ _ => False) mc ms free) : Met l y ws rm Pc Qc mc ms free := by
  refine MetFree.mono (show MetFree _ _ _ _ _ _ from h) (fun _ _ h => h) (fun _ _ _ _ _ h => h) (fun a st oc t _ hq => ?_)
  rcases hq with hq | ⟨q, -, E, ce, L, hx, -⟩
  · exact hq
  · exact hx.elim
theorem e_ofH {l : Launch} {y : MethodName} {cc : ByteArray} {maxL mc ms : Nat} {ret : Option FieldType} {rm : Room} {av : List Value} {Pre : State → Prop} {Qc : Array Value → State → Outcome → State → Prop} {free : Addr → Prop} {hh : List (Nat × Nat × Nat × Nat)} (hy : plainName y.cls = true) (hn : (lg_sl av).length ≤ maxL)
    (body : ∀ (p : Program) (e : Env) (s : State) (m : MethodId) (below : List Frame) (meth : Method) (c : Code) (ls : Array Slot), CallFix p m c cc maxL s av.toArray UL y.cls → meth.sig.returnType = ret → meth.locks = false → c.exceptionTable.toList = tableOf hh → Pre s → lv_has ls maxL (lv_args 0 av) →
      W p l e rm s m av.toArray below meth c s.heap [] 0 0 (MQ below Qc av.toArray s mc ms free) (F0 m 0 ls [])) : Met l y (.codeWith y cc maxL ret hh :: UL) rm (va_Pc av Pre) Qc mc ms free := by
  refine met_x (vx_ofWH (cc := cc) (maxL := maxL) (ret := ret) (hh := hh) hy rfl ?_)
  intro p e s m args below meth c s₁ B hml hv
  obtain ⟨rfl, hv⟩ := hv
  have hl := lv_entry av (n := maxL) hn
  rw [lg_entry_eq]
  exact vx_ret (body p e s m below meth c _ ⟨B.exec, B.bytes, hml, findClass_of_methodNamed B.named, fun w hw => atoms_spec (ws := .codeWith y cc maxL ret hh :: UL) B.pre w (List.mem_cons_of_mem _ hw)⟩ B.returns B.notSynchronized (vx_table (x := y) B (atoms_spec (ws := .codeWith y cc maxL ret hh :: UL) B.pre _ List.mem_cons_self)) hv hl)
theorem c_X5_fail {l : Launch} {g : GE} {A : Nat → Prop} {LP : List Nat} {kf : KF} {σ : IM} {ρ : RM} {q0 : Nat} : vx_Met l yX5_fail (.code yX5_fail cX5_fail 1 none :: UL) ({ frames := 6, cells := 1, slots := 6, locals := 90 }) (va_Pc [.ref q0] (PreX lyC 48 g A (va_pl LP (skE kf)) σ ρ)) (fun a st oc t => True ∧ Qp none a st oc t) (fun E st t => False ∧ XE xISE E st t) 1 6 A := by
  refine e_ofX (by decide) (Nat.le_of_ble_eq_true rfl) ?_
  intro p e s m below meth c ls S hr hlk hnt hv hl
  exact vx_ret (W.widen (Nat.zero_le _) (Nat.zero_le _) (W.vret S.1 S.2.1 hr (fun t ht _ => ⟨trivial, rfl, ht⟩) (fun q h => by cases h) dX5_fail_0 hlk))
theorem nI_z {a : Nat} (ha : a < 10) (h : nI a = 0) : a = 0 := by
  have : ∀ a, a < 10 → nI a = 0 → a = 0 := by decide +kernel
  exact this a ha h
theorem tsV_0 {k fg : Nat} (h : fg = 0) : tsV k fg = -15 := by
  unfold tsV
  rw [if_pos (Or.inl h)]
theorem tsV_i {k fg : Nat} (hk : k = 0 ∨ k = 1 ∨ k = 6) (h : ¬ fg = 0) : tsV k fg = nI fg := by
  unfold tsV
  rw [if_neg (by omega), if_neg (by omega), if_neg (by omega)]
theorem tsV_2 {fg : Nat} (h : ¬ fg = 0) : tsV 2 fg = 100 + nI fg := by
  unfold tsV
  rw [if_neg (by omega), if_neg (by omega), if_pos rfl]
  exact (nI_add 100 fg).symm
theorem tsV_4 {fg : Nat} (h : ¬ fg = 0) (hf : fg < 10) : ∃ pr, X6_price (nI fg) = some pr ∧ tsV 4 fg = 200 + pr := by
  have : ∀ a, a < 10 → X6_price (nI a) = some (nI ((2 + a) / 2)) := by decide +kernel
  refine ⟨_, this fg hf, ?_⟩
  unfold tsV
  rw [if_neg (by omega), if_pos rfl]
  exact (nI_add 200 _).symm
section RR
variable {p : Program} {l : Launch} {e : Env} {R : Room} {s : State} {m : MethodId} {args : Array Value} {below : List Frame} {meth : Method} {c : Code} {H H0 : Heap} {locs : List Loc} {cells slots mc ms : Nat} {Q : State → Prop} {pc : Nat} {ls : Array Slot} {st0 rest : List Value} {ly : LY} {N : Nat} {g : GE} {A : Nat → Prop} {X : va_W} {σ : IM} {ρ : RM}
/-- a call that throws or does nothing -/
theorem k_x {Pn Xn : Prop} {C : String} {a : Array Value} (hr : vx_Run p l e R s m args below meth c H locs cells slots mc ms (F0 m pc ls st0) rest (fun st oc t => Pn ∧ Qp none a st oc t) (fun E st t => Xn ∧ XE C E st t) A) (hM : Mem ly N g A X σ ρ H0 H locs)
    (kn : Pn → ∀ (H1 : Heap) (locs1 : List Loc), Mem ly N g A X σ ρ H0 H1 locs1 → W p l e R s m args below meth c H1 locs1 (cells + mc) (slots + ms) Q (F0 m (pc + 3) ls rest))
    (kx : Xn → ∀ (q : Addr) (ce : Cell) (H1 : Heap) (locs1 : List Loc), Mem ly N g A X σ ρ H0 H1 locs1 → H1[q]? = some ce → ce.vm = .none → s.vm.findClass C = some ce.cls → vx_W p l e R s m args below meth c H1 locs1 (cells + mc) (slots + ms) Q (F0 m pc ls rest) q) : W p l e R s m args below meth c H locs cells slots Q (F0 m pc ls st0) := by
  intro T hT X1
  have fr : ∀ (H1 : Heap) (L : List Loc), H.size ≤ H1.size → (∀ q, q < H.size → H1[q]? = H[q]?) → (∀ q ∈ L, A q.base) → Mem ly N g A X σ ρ H0 H1 (locs ++ L) := fun H1 L h1 h2 h3 =>
    ⟨hM.1.kept (fun k x hx => h2 x.1 ((hM.1 k x hx).lt)), hM.2.1, ⟨Nat.le_trans hM.2.2.1.1 h1, fun q a1 a2 => (h2 q (Nat.lt_of_lt_of_le a1 hM.2.2.1.1)).trans (hM.2.2.1.2.1 q a1 a2), fun q hq => by
      rcases List.mem_append.mp hq with h | h
      · exact hM.2.2.1.2.2 q h
      · exact h3 q h⟩, hM.2.2.2⟩
  rcases hr T hT X1 with ⟨v, st₀, t, T', L, h0, X', hL, e1, e2, ⟨hp, hv, hh⟩, st⟩ | ⟨q, st₀, t, T', L, E, ce, h0, X', hL, e1, e2, ⟨hx, rfl, z1, z2⟩, hce, hcv, hcl, st⟩
  · cases hv
    obtain ⟨t2, a1, b1⟩ := kn hp T'.heap (locs ++ L) (fr _ L (by rw [e1, hh, h0]; exact Nat.le_refl _) (fun q _ => by rw [e1, hh, h0]) hL) T' rfl X'
    exact ⟨t2, st t2 a1, b1⟩
  · rw [h0] at z1 z2
    obtain ⟨t2, a1, b1⟩ := kx hx q ce T'.heap (locs ++ L) (fr _ L (by rw [e1]; exact z1) (fun q hq => by rw [e1]; exact z2 q hq) hL) (by rw [e1]; exact hce) hcv hcl T' rfl X'
    exact ⟨t2, st.trans a1, b1⟩
end RR
set_option maxRecDepth 20000 in
theorem c_tossE {l : Launch} (hst : l.stackTraces = false) {g : GE} {A : Nat → Prop} {LP : List Nat} {kf : KF} {σ : IM} {ρ : RM} {μ : IM} {a1 : Int32} (hPL : PL LP kf) (h : All σ ρ kf μ) : Met l yX11_toss (.codeWith yX11_toss cX11_toss 5 (some .int) [(23, 27, 30, 318), (23, 27, 41, 284), (23, 27, 51, 295)] :: UL) ({ frames := 7, cells := 1, slots := 6, locals := 115 }) (va_Pc [.ref (g.2.2 0), .int a1] (PreT g A (va_pl LP (skE kf)) σ ρ)) (QE g A (fun o w => ∃ r, X12_toss μ a1 = some r ∧ o = some (.int r) ∧ w = wl lyC 48 g σ ρ (va_pl LP (skE kf)))) 1 6 A := by
  refine e_ofH (by decide) (Nat.le_of_ble_eq_true rfl) ?_
  intro p e s m below meth c ls S hr hlk htb hv hl
  have hM := Mem.of hv.1.1
  have hK := hv.1.1.2.1
  have hX := hv.1.2
  have hN := hv.2
  have hl : lv_has ls 5 [(0, .ref (g.2.2 0)), (1, .int a1)] := hl
  refine lv_aload_n S.1 S.2.1 dX11_toss_0 rfl (lv_at hl 0 rfl) ?_
  refine lv_iload_n S.1 S.2.1 dX11_toss_1 rfl (lv_at hl 1 rfl) ?_
  refine lv_iconst (v := 0) S.1 S.2.1 dX11_toss_2 (by decide) ?_
  rcases E_toss h a1 with ⟨d, q, k, fg, hd, rfl, hρ, hk, hfg, hq, q1, q2⟩ | ⟨r, hr0, q1, q2⟩
  rotate_left
  · refine k_p (va_runV (As := [.int a1, .int 0]) (rest := []) S (c_X11_refusalOf hPL q1) (cwV 2 S.2.2.2.2 (ul_V tw_1_225 tw_1_227 ts_X11_refusalOf tw_1_1 cw_X11_refusalOf) rfl rfl rfl hv_X11_refusalOf ⟨Nat.le_of_ble_eq_true rfl, Nat.le_of_ble_eq_true rfl⟩) ⟨PreM.blind, hM.recv hK cfX11 0 (by decide) ly_0, hM.pre hK⟩ rfl rfl hl.1 rfl (lv_room (Nat.le_of_ble_eq_true rfl)) dX11_toss_3 ⟨Nat.zero_le _, Nat.zero_le _⟩) ?_
    refine lv_istore_n (lv' := [(2, .int r), (0, .ref (g.2.2 0)), (1, .int a1)]) S.1 S.2.1 dX11_toss_6 rfl hl (by decide) rfl (fun ls hl => ?_)
    refine lv_iload_n S.1 S.2.1 dX11_toss_7 rfl (lv_at hl 0 rfl) ?_
    refine lv_if_eq (tgt := 13) S.1 S.2.1 dX11_toss_8 (by decide) (fun b => absurd b hr0) (fun _ => ?_)
    refine lv_iload_n S.1 S.2.1 dX11_toss_11 rfl (lv_at hl 0 rfl) ?_
    exact z_ei S hM.w hr rfl hlk ⟨r, q2, rfl, rfl⟩ (Nat.zero_le _) (Nat.zero_le _) dX11_toss_12
  refine k_p (va_runV (As := [.int (nI d), .int 0]) (rest := []) S (c_X11_refusalOf hPL q1) (cwV 2 S.2.2.2.2 (ul_V tw_1_225 tw_1_227 ts_X11_refusalOf tw_1_1 cw_X11_refusalOf) rfl rfl rfl hv_X11_refusalOf ⟨Nat.le_of_ble_eq_true rfl, Nat.le_of_ble_eq_true rfl⟩) ⟨PreM.blind, hM.recv hK cfX11 0 (by decide) ly_0, hM.pre hK⟩ rfl rfl hl.1 rfl (lv_room (Nat.le_of_ble_eq_true rfl)) dX11_toss_3 ⟨Nat.zero_le _, Nat.zero_le _⟩) ?_
  refine lv_istore_n (lv' := [(2, .int 0), (0, .ref (g.2.2 0)), (1, .int (nI d))]) S.1 S.2.1 dX11_toss_6 rfl hl (by decide) rfl (fun ls hl => ?_)
  refine lv_iload_n S.1 S.2.1 dX11_toss_7 rfl (lv_at hl 0 rfl) ?_
  refine lv_if_eq (tgt := 13) S.1 S.2.1 dX11_toss_8 (by decide) (fun _ => ?_) (fun b => absurd rfl b)
  refine lv_aload_n S.1 S.2.1 dX11_toss_13 rfl (lv_at hl 1 rfl) ?_
  refine r_getC S hK hM cfX11 0 4 28 (by decide) ly_0 rfl (by decide) tw_1_197 dX11_toss_14 ?_
  refine lv_iload_n S.1 S.2.1 dX11_toss_17 rfl (lv_at hl 2 rfl) ?_
  refine r_aaldS S hK hM 28 (by decide) ly_28 (ix8 hd) (cl8 hd) dX11_toss_18 ?_
  refine r_getR S hK hM cfX7 (29 + 2 * d) 1 hρ (sh_lt hd) (ly_sh hd) rfl (by decide) tw_1_100 dX11_toss_19 ?_
  refine lv_astore_n (lv' := [(3, .ref q), (2, .int 0), (0, .ref (g.2.2 0)), (1, .int (nI d))]) S.1 S.2.1 dX11_toss_22 rfl hl (by decide) rfl (fun ls hl => ?_)
  refine lv_aload_n S.1 S.2.1 dX11_toss_23 rfl (lv_at hl 0 rfl) ?_
  -- nothing thrown
  have none_ : tsV k fg = -15 → ∀ (H1 : Heap) (locs1 : List Loc), Mem lyC 48 g A (va_pl LP (skE kf)) σ ρ s.heap H1 locs1 → W p l e ({ frames := 7, cells := 1, slots := 6, locals := 115 }) s m [Value.ref (g.2.2 0), .int (nI d)].toArray below meth c H1 locs1 (0 + 1) (0 + 6) (MQ below (QE g A (fun o w => ∃ r, X12_toss μ (nI d) = some r ∧ o = some (.int r) ∧ w = wl lyC 48 g σ ρ (va_pl LP (skE kf)))) [Value.ref (g.2.2 0), .int (nI d)].toArray s 1 6 A) (F0 m (24 + 3) ls []) := by
    intro ez H1 locs1 hM
    refine lv_goto (tgt := 58) S.1 S.2.1 dX11_toss_27 (by decide) ?_
    refine lv_bipush (v := (-15)) S.1 S.2.1 dX11_toss_58 (by decide) ?_
    exact z_ei S hM.w hr rfl hlk ⟨_, q2, by rw [ez], rfl⟩ (Nat.le_of_ble_eq_true rfl) (Nat.le_of_ble_eq_true rfl) dX11_toss_60
  have ise : ¬ fg = 0 → tsV k fg = nI fg → ∀ (q9 : Addr) (ce : Cell) (H1 : Heap) (locs1 : List Loc), Mem lyC 48 g A (va_pl LP (skE kf)) σ ρ s.heap H1 locs1 → H1[q9]? = some ce → ce.vm = .none → s.vm.findClass xISE = some ce.cls → vx_W p l e ({ frames := 7, cells := 1, slots := 6, locals := 115 }) s m [Value.ref (g.2.2 0), .int (nI d)].toArray below meth c H1 locs1 (0 + 1) (0 + 6) (MQ below (QE g A (fun o w => ∃ r, X12_toss μ (nI d) = some r ∧ o = some (.int r) ∧ w = wl lyC 48 g σ ρ (va_pl LP (skE kf)))) [Value.ref (g.2.2 0), .int (nI d)].toArray s 1 6 A) (F0 m 24 ls []) q9 := by
    intro _ ez q9 ce H1 locs1 hM x1 x2 x3
    refine vx_catch (name := xISE) S.2.2.2.1 [⟨23, 27, 30, 318⟩, ⟨23, 27, 41, 284⟩] ⟨23, 27, 51, 295⟩ [] (by rw [htb]; rfl) (fun z hz => ?_) rfl (by decide) (S.2.2.2.2 _ tw_4_127) (va_Nw.use rfl (hX.1 _ (List.mem_of_getElem? (i := 3) rfl))) x1 x2 x3 ?_
    · simp only [List.mem_cons, List.not_mem_nil, or_false] at hz
      rcases hz with rfl | rfl
      · exact Or.inr ⟨by decide, xUOE, S.2.2.2.2 _ tw_4_125, hN.2.1⟩
      · exact Or.inr ⟨by decide, xIAE, S.2.2.2.2 _ tw_4_126, hN.2.2⟩
    refine lv_astore (lv' := [(4, .ref q9), (3, .ref q), (2, .int 0), (0, .ref (g.2.2 0)), (1, .int (nI d))]) S.1 S.2.1 dX11_toss_51 hl (by decide) rfl (fun ls hl => ?_)
    refine lv_aload_n S.1 S.2.1 dX11_toss_53 rfl (lv_at hl 1 rfl) ?_
    refine r_fig S hK hM hPL hq tw_1_130 (fun _ h => h) dX11_toss_54 ?_
    exact z_ei S hM.w hr rfl hlk ⟨_, q2, by rw [ez], rfl⟩ (Nat.le_of_ble_eq_true rfl) (Nat.le_of_ble_eq_true rfl) dX11_toss_57
  rcases (show k = 0 ∨ k = 1 ∨ k = 2 ∨ k = 3 ∨ k = 4 ∨ k = 5 ∨ k = 6 ∨ k = 7 by omega) with rfl | rfl | rfl | rfl | rfl | rfl | rfl | rfl
  · exact k_x (vx_runV (As := []) (rest := []) S (c_X9_fail hst hPL hq) (cwV 0 S.2.2.2.2 (ul_V tw_4_128 tw_4_129 tw_4_130 tw_1_4 cw_X9_fail) rfl rfl rfl hv_X9_fail ⟨Nat.le_of_ble_eq_true rfl, Nat.le_of_ble_eq_true rfl⟩) ⟨PreX.blind, pl_recvK hK hM hPL hq cfX9, hM.preX hK hX⟩ rfl rfl hl.1 rfl (lv_room (Nat.le_of_ble_eq_true rfl)) dX11_toss_24 ⟨Nat.le_of_ble_eq_true rfl, Nat.le_of_ble_eq_true rfl⟩) hM (fun hf => none_ (tsV_0 (nI_z hfg hf))) (fun hf => ise (fun z => hf (by rw [z]; rfl)) (tsV_i (k := 0) (by omega) (fun z => hf (by rw [z]; rfl))))
  · exact k_x (vx_runU (As := []) (rest := []) S (c_X9_fail hst hPL hq) (va_cwU (C := RX8) (owner := "SideBySide$Stroke") (x := yX9_fail) 0 S.2.2.2.2 (ul_U tw_4_128 tw_4_131 tw_4_227 tw_4_129 tw_1_4 cw_X9_fail) rfl rfl rfl rfl (by decide +kernel) ⟨Nat.le_of_ble_eq_true rfl, Nat.le_of_ble_eq_true rfl⟩) ⟨PreX.blind, pl_recvK hK hM hPL hq cfX8, hM.preX hK hX⟩ rfl rfl hl.1 rfl (lv_room (Nat.le_of_ble_eq_true rfl)) dX11_toss_24 ⟨Nat.le_of_ble_eq_true rfl, Nat.le_of_ble_eq_true rfl⟩) hM (fun hf => none_ (tsV_0 (nI_z hfg hf))) (fun hf => ise (fun z => hf (by rw [z]; rfl)) (tsV_i (k := 1) (by omega) (fun z => hf (by rw [z]; rfl))))
  · refine k_x (vx_runU (As := []) (rest := []) S (c_X3_fail hst hPL hq) (va_cwO (C := RX3) (owner := "SideBySide$Stroke") (x := yX9_fail) 0 S.2.2.2.2 (ul_O tw_4_128 tw_4_131 tw_4_129 tw_4_133 tw_4_134 tw_1_6 cw_X3_fail) rfl rfl rfl cw_X9_fail (by decide +kernel) ⟨Nat.le_of_ble_eq_true rfl, Nat.le_of_ble_eq_true rfl⟩) ⟨PreX.blind, pl_recvK hK hM hPL hq cfX3, hM.preX hK hX⟩ rfl rfl hl.1 rfl (lv_room (Nat.le_of_ble_eq_true rfl)) dX11_toss_24 ⟨Nat.le_of_ble_eq_true rfl, Nat.le_of_ble_eq_true rfl⟩) hM (fun hf => none_ (tsV_0 (nI_z hfg hf))) (fun hf q9 ce H1 locs1 hM x1 x2 x3 => ?_)
    have hz : ¬ fg = 0 := fun z => hf (by rw [z]; rfl)
    refine vx_catch (name := xIAE) S.2.2.2.1 [⟨23, 27, 30, 318⟩] ⟨23, 27, 41, 284⟩ [⟨23, 27, 51, 295⟩] (by rw [htb]; rfl) (fun z hz => ?_) rfl (by decide) (S.2.2.2.2 _ tw_4_126) (va_Nw.use rfl (hX.1 _ (List.mem_of_getElem? (i := 4) rfl))) x1 x2 x3 ?_
    · simp only [List.mem_cons, List.not_mem_nil, or_false] at hz
      subst hz
      exact Or.inr ⟨by decide, xUOE, S.2.2.2.2 _ tw_4_125, hN.1⟩
    refine lv_astore (lv' := [(4, .ref q9), (3, .ref q), (2, .int 0), (0, .ref (g.2.2 0)), (1, .int (nI d))]) S.1 S.2.1 dX11_toss_41 hl (by decide) rfl (fun ls hl => ?_)
    refine lv_bipush (v := 100) S.1 S.2.1 dX11_toss_43 (by decide) ?_
    refine lv_aload_n S.1 S.2.1 dX11_toss_45 rfl (lv_at hl 1 rfl) ?_
    refine r_fig S hK hM hPL hq tw_1_130 (fun _ h => h) dX11_toss_46 ?_
    refine lv_iadd S.1 S.2.1 dX11_toss_49 ?_
    exact z_ei S hM.w hr rfl hlk ⟨_, q2, by rw [tsV_2 hz], rfl⟩ (Nat.le_of_ble_eq_true rfl) (Nat.le_of_ble_eq_true rfl) dX11_toss_50
  · exact k_x (vx_runU (As := []) (rest := []) S (c_X5_fail (LP := LP) (kf := kf) (g := g) (A := A) (σ := σ) (ρ := ρ)) (va_cwO (C := RX5) (owner := "SideBySide$Stroke") (x := yX9_fail) 0 S.2.2.2.2 (ul_O tw_4_128 tw_4_131 tw_4_129 tw_4_207 tw_4_205 tw_1_7 cw_X5_fail) rfl rfl rfl cw_X9_fail (by decide +kernel) ⟨Nat.le_of_ble_eq_true rfl, Nat.le_of_ble_eq_true rfl⟩) ⟨PreX.blind, pl_recvK hK hM hPL hq cfX5, hM.preX hK hX⟩ rfl rfl hl.1 rfl (lv_room (Nat.le_of_ble_eq_true rfl)) dX11_toss_24 ⟨Nat.le_of_ble_eq_true rfl, Nat.le_of_ble_eq_true rfl⟩) hM (fun _ => none_ (by unfold tsV; rw [if_pos (by omega)])) (fun hf => hf.elim)
  · refine k_x (vx_runU (As := []) (rest := []) S (c_X6_fail hst hPL hq) (va_cwO (C := RX6) (owner := "SideBySide$Stroke") (x := yX9_fail) 0 S.2.2.2.2 (ul_O tw_4_128 tw_4_131 tw_4_129 tw_4_208 tw_4_209 tw_1_8 cw_X6_fail) rfl rfl rfl cw_X9_fail (by decide +kernel) ⟨Nat.le_of_ble_eq_true rfl, Nat.le_of_ble_eq_true rfl⟩) ⟨PreX.blind, pl_recvK hK hM hPL hq cfX6, hM.preX hK hX⟩ rfl rfl hl.1 rfl (lv_room (Nat.le_of_ble_eq_true rfl)) dX11_toss_24 ⟨Nat.le_of_ble_eq_true rfl, Nat.le_of_ble_eq_true rfl⟩) hM (fun hf => none_ (tsV_0 (nI_z hfg hf))) (fun hf q9 ce H1 locs1 hM x1 x2 x3 => ?_)
    have hz : ¬ fg = 0 := fun z => hf (by rw [z]; rfl)
    refine vx_catch (name := xUOE) S.2.2.2.1 [] ⟨23, 27, 30, 318⟩ [⟨23, 27, 41, 284⟩, ⟨23, 27, 51, 295⟩] (by rw [htb]; rfl) (fun z hz => by cases hz) rfl (by decide) (S.2.2.2.2 _ tw_4_125) (va_Nw.use rfl (hX.1 _ (List.mem_of_getElem? (i := 5) rfl))) x1 x2 x3 ?_
    refine lv_astore (lv' := [(4, .ref q9), (3, .ref q), (2, .int 0), (0, .ref (g.2.2 0)), (1, .int (nI d))]) S.1 S.2.1 dX11_toss_30 hl (by decide) rfl (fun ls hl => ?_)
    refine lv_sipush (v := 200) S.1 S.2.1 dX11_toss_32 (by decide) ?_
    refine lv_aload_n S.1 S.2.1 dX11_toss_35 rfl (lv_at hl 1 rfl) ?_
    obtain ⟨pr, e1, e2⟩ := tsV_4 hz hfg
    refine k_p (va_runU (As := []) (rest := [.int 200]) S (c_X6_price hPL hq e1) (va_cwO (C := RX6) (owner := "SideBySide$Stroke") (x := yX9_price) 0 S.2.2.2.2 (ul_O tw_4_92 tw_4_95 tw_4_93 tw_4_110 tw_4_111 tw_1_8 cw_X6_price) rfl rfl rfl cw_X9_price (by decide +kernel) ⟨Nat.le_of_ble_eq_true rfl, Nat.le_of_ble_eq_true rfl⟩) ⟨PreM.blind, pl_recvK hK hM hPL hq cfX6, hM.pre hK⟩ rfl rfl hl.1 rfl (lv_room (Nat.le_of_ble_eq_true rfl)) dX11_toss_36 ⟨Nat.le_of_ble_eq_true rfl, Nat.le_of_ble_eq_true rfl⟩) ?_
    refine lv_iadd S.1 S.2.1 dX11_toss_39 ?_
    exact z_ei S hM.w hr rfl hlk ⟨_, q2, by rw [e2], rfl⟩ (Nat.le_of_ble_eq_true rfl) (Nat.le_of_ble_eq_true rfl) dX11_toss_40
  · exact k_x (vx_runU (As := []) (rest := []) S (c_X5_fail (LP := LP) (kf := kf) (g := g) (A := A) (σ := σ) (ρ := ρ)) (va_cwO (C := RX4) (owner := "SideBySide$Stroke") (x := yX9_fail) 0 S.2.2.2.2 (ul_O tw_4_128 tw_4_131 tw_4_129 tw_4_204 tw_4_205 tw_1_7 cw_X5_fail) rfl rfl rfl cw_X9_fail (by decide +kernel) ⟨Nat.le_of_ble_eq_true rfl, Nat.le_of_ble_eq_true rfl⟩) ⟨PreX.blind, pl_recvK hK hM hPL hq cfX4, hM.preX hK hX⟩ rfl rfl hl.1 rfl (lv_room (Nat.le_of_ble_eq_true rfl)) dX11_toss_24 ⟨Nat.le_of_ble_eq_true rfl, Nat.le_of_ble_eq_true rfl⟩) hM (fun _ => none_ (by unfold tsV; rw [if_pos (by omega)])) (fun hf => hf.elim)
  · exact k_x (vx_runU (As := []) (rest := []) S (c_X9_fail hst hPL hq) (va_cwU (C := RX0) (owner := "SideBySide$Stroke") (x := yX9_fail) 0 S.2.2.2.2 (ul_U tw_4_128 tw_4_131 tw_4_132 tw_4_129 tw_1_4 cw_X9_fail) rfl rfl rfl rfl (by decide +kernel) ⟨Nat.le_of_ble_eq_true rfl, Nat.le_of_ble_eq_true rfl⟩) ⟨PreX.blind, pl_recvK hK hM hPL hq cfX0, hM.preX hK hX⟩ rfl rfl hl.1 rfl (lv_room (Nat.le_of_ble_eq_true rfl)) dX11_toss_24 ⟨Nat.le_of_ble_eq_true rfl, Nat.le_of_ble_eq_true rfl⟩) hM (fun hf => none_ (tsV_0 (nI_z hfg hf))) (fun hf => ise (fun z => hf (by rw [z]; rfl)) (tsV_i (k := 6) (by omega) (fun z => hf (by rw [z]; rfl))))
  · exact k_x (vx_runU (As := []) (rest := []) S (c_X5_fail (LP := LP) (kf := kf) (g := g) (A := A) (σ := σ) (ρ := ρ)) (va_cwO (C := RX10) (owner := "SideBySide$Stroke") (x := yX9_fail) 0 S.2.2.2.2 (ul_O tw_4_128 tw_4_131 tw_4_129 tw_4_228 tw_4_205 tw_1_7 cw_X5_fail) rfl rfl rfl cw_X9_fail (by decide +kernel) ⟨Nat.le_of_ble_eq_true rfl, Nat.le_of_ble_eq_true rfl⟩) ⟨PreX.blind, pl_recvK hK hM hPL hq cfX10, hM.preX hK hX⟩ rfl rfl hl.1 rfl (lv_room (Nat.le_of_ble_eq_true rfl)) dX11_toss_24 ⟨Nat.le_of_ble_eq_true rfl, Nat.le_of_ble_eq_true rfl⟩) hM (fun _ => none_ (by unfold tsV; rw [if_pos (by omega)])) (fun hf => hf.elim)
