/-! element: a value, or a throw of one of two classes -/
theorem ix100 {i : Nat} (h : i < 100) : ¬ (nI i < 0 ∨ 100 ≤ (nI i).toNatClampNeg) ∧ i = (nI i).toNatClampNeg := by
  have : ∀ i, i < 100 → ¬ (nI i < 0 ∨ 100 ≤ (nI i).toNatClampNeg) ∧ i = (nI i).toNatClampNeg := by decide +kernel
  exact this i h
set_option maxRecDepth 20000 in
theorem x_el1_at : ((vx_atS "SideBySide" 288 xIAE xnm).filter goodWord).all (fun w => decide (w ∈ lw_tbl)) = true := by decide +kernel
set_option maxRecDepth 20000 in
theorem x_el2_at : ((vx_atS "SideBySide" 299 xISE xnm).filter goodWord).all (fun w => decide (w ∈ lw_tbl)) = true := by decide +kernel
set_option maxRecDepth 20000 in
theorem c_el1 {l : Launch} (hst : l.stackTraces = false) {g : GE} {A : Nat → Prop} {LP : List Nat} {kf : KF} {σ : IM} {ρ : RM} {a1 a2 : Int32} (h1 : X11_isBelow a1 8 = some 0) (hPL : PL LP kf) : vx_Met l yX11_element (.code yX11_element cX11_element 4 (some .long) :: UL) ({ frames := 6, cells := 1, slots := 6, locals := 90 }) (va_Pc [.ref (g.2.2 0), .int a1, .int a2] (PreX lyC 48 g A (va_pl LP (skE kf)) σ ρ)) (fun a st oc t => False ∧ Qp none a st oc t) (fun E st t => True ∧ XE xIAE E st t) 1 6 A := by
  refine e_ofX (by decide) (Nat.le_of_ble_eq_true rfl) ?_
  intro p e s m below meth c ls S hr hlk hnt hv hl
  have hM := Mem.of hv.1
  have hK := hv.1.2.1
  have hX := hv.2
  have hl : lv_has ls 4 [(0, .ref (g.2.2 0)), (1, .int a1), (2, .int a2)] := hl
  refine lv_iload_n S.1 S.2.1 dX11_element_0 rfl (lv_at hl 1 rfl) ?_
  refine lv_bipush (v := 8) S.1 S.2.1 dX11_element_1 (by decide) ?_
  refine k_p (va_runS (As := [.int a1, .int 8]) (rest := []) S (c_X11_isBelow hPL h1) (va_cwS 2 S.2.2.2.2 (ul_S tw_1_229 tw_1_230 tw_1_1 cw_X11_isBelow) rfl rfl rfl hs_X11_isBelow ⟨Nat.le_of_ble_eq_true rfl, Nat.le_of_ble_eq_true rfl⟩) ⟨PreM.blind, hM.pre hK⟩ rfl rfl hl.1 rfl (lv_room (Nat.le_of_ble_eq_true rfl)) dX11_element_3 ⟨Nat.zero_le _, Nat.zero_le _⟩) ?_
  refine lv_if_ne (tgt := 20) S.1 S.2.1 dX11_element_6 (by decide) (fun b => absurd rfl b) (fun _ => ?_)
  obtain ⟨sa, hstr⟩ := hX.2.1 ("SideBySide", 286, "no such shelf") (List.mem_of_getElem? (i := 3) rfl)
  exact vx_throwSW (names := xnm) S.1 S.2.1 hst S.2.2.2.1 (by decide +kernel) (by decide +kernel) (S.2.2.2.2 _ tw_4_126) (S.2.2.2.2 _ tw_1_20) hstr (x_hat S.2.2.2.2 hX.1 x_el1_at (by decide +kernel)) (x_ot (by decide +kernel)) hX.2.2.1 hX.2.2.2 hM.2.2.1 (hl.1.trans S.2.2.1.symm) dX11_element_9 dX11_element_12 dX11_element_13 dX11_element_16 dX11_element_19 (fun x hx => (hnt x hx).elim) (by decide) (by decide) (Nat.le_of_ble_eq_true rfl) (Nat.le_of_ble_eq_true rfl) hlk (fun t _ h1 h2 => ⟨trivial, rfl, h1, h2⟩) (fun q h => by cases h) (Nat.le_of_ble_eq_true rfl) (Nat.le_of_ble_eq_true rfl)
set_option maxRecDepth 20000 in
theorem c_el2 {l : Launch} (hst : l.stackTraces = false) {g : GE} {A : Nat → Prop} {LP : List Nat} {kf : KF} {σ : IM} {ρ : RM} {a1 a2 : Int32} {d : Nat} (hd : d < 8) (h0 : a1 = nI d) (h1 : X11_isBelow a1 8 = some 1) (h2 : X7_isRow kf σ ρ d = some 0 ∨ (X7_isRow kf σ ρ d = some 1 ∧ X11_isBelow a2 (σ (29 + 2 * d) 3) = some 0)) (hPL : PL LP kf) : vx_Met l yX11_element (.code yX11_element cX11_element 4 (some .long) :: UL) ({ frames := 6, cells := 1, slots := 6, locals := 90 }) (va_Pc [.ref (g.2.2 0), .int a1, .int a2] (PreX lyC 48 g A (va_pl LP (skE kf)) σ ρ)) (fun a st oc t => False ∧ Qp none a st oc t) (fun E st t => True ∧ XE xISE E st t) 1 6 A := by
  refine e_ofX (by decide) (Nat.le_of_ble_eq_true rfl) ?_
  intro p e s m below meth c ls S hr hlk hnt hv hl
  have hM := Mem.of hv.1
  have hK := hv.1.2.1
  have hX := hv.2
  have hl : lv_has ls 4 [(0, .ref (g.2.2 0)), (1, .int a1), (2, .int a2)] := hl
  refine lv_iload_n S.1 S.2.1 dX11_element_0 rfl (lv_at hl 1 rfl) ?_
  refine lv_bipush (v := 8) S.1 S.2.1 dX11_element_1 (by decide) ?_
  subst h0
  refine k_p (va_runS (As := [.int (nI d), .int 8]) (rest := []) S (c_X11_isBelow hPL h1) (va_cwS 2 S.2.2.2.2 (ul_S tw_1_229 tw_1_230 tw_1_1 cw_X11_isBelow) rfl rfl rfl hs_X11_isBelow ⟨Nat.le_of_ble_eq_true rfl, Nat.le_of_ble_eq_true rfl⟩) ⟨PreM.blind, hM.pre hK⟩ rfl rfl hl.1 rfl (lv_room (Nat.le_of_ble_eq_true rfl)) dX11_element_3 ⟨Nat.zero_le _, Nat.zero_le _⟩) ?_
  refine lv_if_ne (tgt := 20) S.1 S.2.1 dX11_element_6 (by decide) (fun _ => ?_) (fun b => absurd b (by decide))
  refine lv_aload_n S.1 S.2.1 dX11_element_20 rfl (lv_at hl 0 rfl) ?_
  refine r_getC S hK hM cfX11 0 4 28 (by decide) ly_0 rfl (by decide) tw_1_197 dX11_element_21 ?_
  refine lv_iload_n S.1 S.2.1 dX11_element_24 rfl (lv_at hl 1 rfl) ?_
  refine r_aaldS S hK hM 28 (by decide) ly_28 (ix8 hd) (cl8 hd) dX11_element_25 ?_
  refine lv_astore_n (lv' := [(3, .ref (g.2.2 (29 + 2 * d))), (0, .ref (g.2.2 0)), (1, .int (nI d)), (2, .int a2)]) S.1 S.2.1 dX11_element_26 rfl hl (by decide) rfl (fun ls hl => ?_)
  refine lv_aload_n S.1 S.2.1 dX11_element_27 rfl (lv_at hl 0 rfl) ?_
  have fin : W p l e ({ frames := 6, cells := 1, slots := 6, locals := 90 }) s m [Value.ref (g.2.2 0), .int (nI d), .int a2].toArray below meth c s.heap [] 0 0 (vx_MQ below (fun a st oc t => False ∧ Qp none a st oc t) (fun E st t => True ∧ XE xISE E st t) [Value.ref (g.2.2 0), .int (nI d), .int a2].toArray s 1 6 A) (F0 m 45 ls []) := by
    obtain ⟨sa, hstr⟩ := hX.2.1 ("SideBySide", 297, "no row, or no such place") (List.mem_of_getElem? (i := 4) rfl)
    exact vx_throwSW (names := xnm) S.1 S.2.1 hst S.2.2.2.1 (by decide +kernel) (by decide +kernel) (S.2.2.2.2 _ tw_4_127) (S.2.2.2.2 _ tw_1_21) hstr (x_hat S.2.2.2.2 hX.1 x_el2_at (by decide +kernel)) (x_ot (by decide +kernel)) hX.2.2.1 hX.2.2.2 hM.2.2.1 (hl.1.trans S.2.2.1.symm) dX11_element_45 dX11_element_48 dX11_element_49 dX11_element_52 dX11_element_55 (fun x hx => (hnt x hx).elim) (by decide) (by decide) (Nat.le_of_ble_eq_true rfl) (Nat.le_of_ble_eq_true rfl) hlk (fun t _ h1 h2 => ⟨trivial, rfl, h1, h2⟩) (fun q h => by cases h) (Nat.le_of_ble_eq_true rfl) (Nat.le_of_ble_eq_true rfl)
  rcases h2 with h2 | ⟨h2, h3⟩
  · refine k_p (va_runV (As := []) (rest := []) S (c_X7_isRow hPL hd h2) (cwV 0 S.2.2.2.2 (ul_V tw_2_0 tw_1_237 tw_1_238 tw_1_3 cw_X7_isRow) rfl rfl rfl hv_X7_isRow ⟨Nat.le_of_ble_eq_true rfl, Nat.le_of_ble_eq_true rfl⟩) ⟨PreM.blind, hM.recv hK cfX7 (29 + 2 * d) (sh_lt hd) (ly_sh hd), hM.pre hK⟩ rfl rfl hl.1 rfl (lv_room (Nat.le_of_ble_eq_true rfl)) dX11_element_28 ⟨Nat.zero_le _, Nat.zero_le _⟩) ?_
    exact lv_if_eq (tgt := 45) S.1 S.2.1 dX11_element_31 (by decide) (fun _ => fin) (fun b => absurd rfl b)
  · refine k_p (va_runV (As := []) (rest := []) S (c_X7_isRow hPL hd h2) (cwV 0 S.2.2.2.2 (ul_V tw_2_0 tw_1_237 tw_1_238 tw_1_3 cw_X7_isRow) rfl rfl rfl hv_X7_isRow ⟨Nat.le_of_ble_eq_true rfl, Nat.le_of_ble_eq_true rfl⟩) ⟨PreM.blind, hM.recv hK cfX7 (29 + 2 * d) (sh_lt hd) (ly_sh hd), hM.pre hK⟩ rfl rfl hl.1 rfl (lv_room (Nat.le_of_ble_eq_true rfl)) dX11_element_28 ⟨Nat.zero_le _, Nat.zero_le _⟩) ?_
    refine lv_if_eq (tgt := 45) S.1 S.2.1 dX11_element_31 (by decide) (fun b => absurd b (by decide)) (fun _ => ?_)
    refine lv_iload_n S.1 S.2.1 dX11_element_34 rfl (lv_at hl 3 rfl) ?_
    refine lv_aload_n S.1 S.2.1 dX11_element_35 rfl (lv_at hl 0 rfl) ?_
    refine r_getI S hK hM cfX7 (29 + 2 * d) 3 (sh_lt hd) (ly_sh hd) rfl (by decide) tw_1_105 dX11_element_36 ?_
    refine k_p (va_runS (As := [.int a2, .int (σ (29 + 2 * d) 3)]) (rest := []) S (c_X11_isBelow hPL h3) (va_cwS 2 S.2.2.2.2 (ul_S tw_1_229 tw_1_230 tw_1_1 cw_X11_isBelow) rfl rfl rfl hs_X11_isBelow ⟨Nat.le_of_ble_eq_true rfl, Nat.le_of_ble_eq_true rfl⟩) ⟨PreM.blind, hM.pre hK⟩ rfl rfl hl.1 rfl (lv_room (Nat.le_of_ble_eq_true rfl)) dX11_element_39 ⟨Nat.zero_le _, Nat.zero_le _⟩) ?_
    exact lv_if_ne (tgt := 56) S.1 S.2.1 dX11_element_42 (by decide) (fun b => absurd rfl b) (fun _ => fin)
set_option maxRecDepth 20000 in
theorem c_el3 {l : Launch} (hst : l.stackTraces = false) {g : GE} {A : Nat → Prop} {LP : List Nat} {kf : KF} {σ : IM} {ρ : RM} {a1 a2 : Int32} {d i : Nat} (hd : d < 8) (hi : i < 100) (h0 : a1 = nI d) (h9 : a2 = nI i) (h1 : X11_isBelow a1 8 = some 1) (h2 : X7_isRow kf σ ρ d = some 1) (h3 : X11_isBelow a2 (σ (29 + 2 * d) 3) = some 1) (hPL : PL LP kf) : vx_Met l yX11_element (.code yX11_element cX11_element 4 (some .long) :: UL) ({ frames := 6, cells := 1, slots := 6, locals := 90 }) (va_Pc [.ref (g.2.2 0), .int a1, .int a2] (PreX lyC 48 g A (va_pl LP (skE kf)) σ ρ)) (Qp (some (.long (σ (29 + 2 * d + 1) i).toInt64))) (fun _ _ _ => False) 1 6 A := by
  refine e_ofX (by decide) (Nat.le_of_ble_eq_true rfl) ?_
  intro p e s m below meth c ls S hr hlk hnt hv hl
  have hM := Mem.of hv.1
  have hK := hv.1.2.1
  have hX := hv.2
  have hl : lv_has ls 4 [(0, .ref (g.2.2 0)), (1, .int a1), (2, .int a2)] := hl
  refine lv_iload_n S.1 S.2.1 dX11_element_0 rfl (lv_at hl 1 rfl) ?_
  refine lv_bipush (v := 8) S.1 S.2.1 dX11_element_1 (by decide) ?_
  subst h0
  refine k_p (va_runS (As := [.int (nI d), .int 8]) (rest := []) S (c_X11_isBelow hPL h1) (va_cwS 2 S.2.2.2.2 (ul_S tw_1_229 tw_1_230 tw_1_1 cw_X11_isBelow) rfl rfl rfl hs_X11_isBelow ⟨Nat.le_of_ble_eq_true rfl, Nat.le_of_ble_eq_true rfl⟩) ⟨PreM.blind, hM.pre hK⟩ rfl rfl hl.1 rfl (lv_room (Nat.le_of_ble_eq_true rfl)) dX11_element_3 ⟨Nat.zero_le _, Nat.zero_le _⟩) ?_
  refine lv_if_ne (tgt := 20) S.1 S.2.1 dX11_element_6 (by decide) (fun _ => ?_) (fun b => absurd b (by decide))
  refine lv_aload_n S.1 S.2.1 dX11_element_20 rfl (lv_at hl 0 rfl) ?_
  refine r_getC S hK hM cfX11 0 4 28 (by decide) ly_0 rfl (by decide) tw_1_197 dX11_element_21 ?_
  refine lv_iload_n S.1 S.2.1 dX11_element_24 rfl (lv_at hl 1 rfl) ?_
  refine r_aaldS S hK hM 28 (by decide) ly_28 (ix8 hd) (cl8 hd) dX11_element_25 ?_
  refine lv_astore_n (lv' := [(3, .ref (g.2.2 (29 + 2 * d))), (0, .ref (g.2.2 0)), (1, .int (nI d)), (2, .int a2)]) S.1 S.2.1 dX11_element_26 rfl hl (by decide) rfl (fun ls hl => ?_)
  refine lv_aload_n S.1 S.2.1 dX11_element_27 rfl (lv_at hl 0 rfl) ?_
  refine k_p (va_runV (As := []) (rest := []) S (c_X7_isRow hPL hd h2) (cwV 0 S.2.2.2.2 (ul_V tw_2_0 tw_1_237 tw_1_238 tw_1_3 cw_X7_isRow) rfl rfl rfl hv_X7_isRow ⟨Nat.le_of_ble_eq_true rfl, Nat.le_of_ble_eq_true rfl⟩) ⟨PreM.blind, hM.recv hK cfX7 (29 + 2 * d) (sh_lt hd) (ly_sh hd), hM.pre hK⟩ rfl rfl hl.1 rfl (lv_room (Nat.le_of_ble_eq_true rfl)) dX11_element_28 ⟨Nat.zero_le _, Nat.zero_le _⟩) ?_
  refine lv_if_eq (tgt := 45) S.1 S.2.1 dX11_element_31 (by decide) (fun b => absurd b (by decide)) (fun _ => ?_)
  refine lv_iload_n S.1 S.2.1 dX11_element_34 rfl (lv_at hl 3 rfl) ?_
  refine lv_aload_n S.1 S.2.1 dX11_element_35 rfl (lv_at hl 0 rfl) ?_
  refine r_getI S hK hM cfX7 (29 + 2 * d) 3 (sh_lt hd) (ly_sh hd) rfl (by decide) tw_1_105 dX11_element_36 ?_
  refine k_p (va_runS (As := [.int a2, .int (σ (29 + 2 * d) 3)]) (rest := []) S (c_X11_isBelow hPL h3) (va_cwS 2 S.2.2.2.2 (ul_S tw_1_229 tw_1_230 tw_1_1 cw_X11_isBelow) rfl rfl rfl hs_X11_isBelow ⟨Nat.le_of_ble_eq_true rfl, Nat.le_of_ble_eq_true rfl⟩) ⟨PreM.blind, hM.pre hK⟩ rfl rfl hl.1 rfl (lv_room (Nat.le_of_ble_eq_true rfl)) dX11_element_39 ⟨Nat.zero_le _, Nat.zero_le _⟩) ?_
  refine lv_if_ne (tgt := 56) S.1 S.2.1 dX11_element_42 (by decide) (fun _ => ?_) (fun b => absurd b (by decide))
  refine lv_aload_n S.1 S.2.1 dX11_element_56 rfl (lv_at hl 0 rfl) ?_
  refine r_getC S hK hM cfX7 (29 + 2 * d) 0 (29 + 2 * d + 1) (sh_lt hd) (ly_sh hd) rfl (by decide) tw_1_98 dX11_element_57 ?_
  refine lv_iload_n S.1 S.2.1 dX11_element_60 rfl (lv_at hl 3 rfl) ?_
  subst h9
  refine r_iald S hK hM (29 + 2 * d + 1) (sh_lt1 hd) (ly_sh1 hd) (ix100 hi).1 (by rw [← (ix100 hi).2]) dX11_element_61 ?_
  refine lv_i2l S.1 S.2.1 dX11_element_62 rfl ?_
  exact vx_ret (W.widen (Nat.zero_le _) (Nat.zero_le _) (W.lret S.1 S.2.1 hr (fun t ht _ => ⟨rfl, ht⟩) (fun q h => by cases h) dX11_element_63 hlk))
