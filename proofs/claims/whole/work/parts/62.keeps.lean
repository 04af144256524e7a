/-! what makes strokes by way of `of`: keep, and the letter b of a text -/
/-! X11_keep -/
def X11_keep (kf : KF) (σ : IM) (ρ : RM) (a1 : Int32) (a2 : Int32) (a3 : Int32) (a4 : Int32) : Option (Int32 × IM × RM) := bd1 (X11_isBelow a1 8) fun r1 => if r1 = 0 then (some ((-1), σ, ρ)) else (bd1 (X11_isBelow a2 2) fun r3 => if r3 = 0 then (some ((-1), σ, ρ)) else (if a2 = 0 then (ix 8 a1 fun j11 => bd2 (X7_clear kf σ ρ j11) fun σ12 ρ13 => some (0, σ12, ρ13)) else (bd1 (X11_isBelow a3 8) fun r6 => if r6 = 0 then (some ((-1), σ, ρ)) else (bd1 (X11_isBelow a4 10) fun r8 => if r8 = 0 then (some ((-1), σ, ρ)) else (ix 8 a1 fun j10 => none)))))
set_option maxRecDepth 20000 in
theorem c_X11_keep {l : Launch} {g : GE} {A : Nat → Prop} {LP : List Nat} {kf : KF} {σ : IM} {ρ : RM} {a1 : Int32} {a2 : Int32} {a3 : Int32} {a4 : Int32} {out : Int32 × IM × RM} (hPL : PL LP kf) (hF : X11_keep kf σ ρ a1 a2 a3 a4 = some out) : Met l yX11_keep (.code yX11_keep cX11_keep 5 (some .int) :: UL) ({ frames := 5, cells := 0, slots := 0, locals := 105 }) (va_Pc [.ref (g.2.2 0), .int a1, .int a2, .int a3, .int a4] (PreM lyC 48 g A (va_pl LP (skE kf)) σ ρ)) (Qm lyC 48 g A (va_pl LP (skE kf)) out.2.1 out.2.2 (some (.int out.1))) 0 0 A := by
  refine e_of (by decide) (Nat.le_of_ble_eq_true rfl) ?_
  intro p e s m below meth c ls S hr hlk hv hl
  have hM := Mem.of hv
  have hK := hv.2.1
  have hl : lv_has ls 5 [(0, .ref (g.2.2 0)), (1, .int a1), (2, .int a2), (3, .int a3), (4, .int a4)] := hl
  unfold X11_keep at hF
  refine lv_iload_n S.1 S.2.1 dX11_keep_0 rfl (lv_at hl 1 rfl) ?_
  refine lv_bipush (v := 8) S.1 S.2.1 dX11_keep_1 (by decide) ?_
  obtain ⟨r1, er1, hF⟩ := bd1_some hF
  refine k_p (va_runS (As := [.int a1, .int 8]) (rest := []) S (c_X11_isBelow hPL  er1) (va_cwS 2 S.2.2.2.2 (ul_S tw_1_229 tw_1_230 tw_1_1 cw_X11_isBelow) rfl rfl rfl hs_X11_isBelow ⟨Nat.le_of_ble_eq_true rfl, Nat.le_of_ble_eq_true rfl⟩) ⟨PreM.blind, hM.pre hK⟩ rfl rfl hl.1 rfl (lv_room (Nat.le_of_ble_eq_true rfl)) dX11_keep_3 ⟨Nat.zero_le _, Nat.zero_le _⟩) ?_
  refine lv_if_eq (tgt := 17) S.1 S.2.1 dX11_keep_6 (by decide) (fun b2 => ?_) (fun b2 => ?_)
  · have hF := (if_pos b2).symm.trans hF
    refine lv_iconst (v := (-1)) S.1 S.2.1 dX11_keep_17 (by decide) ?_
    cases hF
    exact z_m (v := (-1)) S hM hr hlk rfl dX11_keep_18
  · have hF := (if_neg b2).symm.trans hF
    refine lv_iload_n S.1 S.2.1 dX11_keep_9 rfl (lv_at hl 2 rfl) ?_
    refine lv_iconst (v := 2) S.1 S.2.1 dX11_keep_10 (by decide) ?_
    obtain ⟨r3, er3, hF⟩ := bd1_some hF
    refine k_p (va_runS (As := [.int a2, .int 2]) (rest := []) S (c_X11_isBelow hPL  er3) (va_cwS 2 S.2.2.2.2 (ul_S tw_1_229 tw_1_230 tw_1_1 cw_X11_isBelow) rfl rfl rfl hs_X11_isBelow ⟨Nat.le_of_ble_eq_true rfl, Nat.le_of_ble_eq_true rfl⟩) ⟨PreM.blind, hM.pre hK⟩ rfl rfl hl.1 rfl (lv_room (Nat.le_of_ble_eq_true rfl)) dX11_keep_11 ⟨Nat.zero_le _, Nat.zero_le _⟩) ?_
    refine lv_if_ne (tgt := 19) S.1 S.2.1 dX11_keep_14 (by decide) (fun b4 => ?_) (fun b4 => ?_)
    · have hF := (if_neg b4).symm.trans hF
      refine lv_iload_n S.1 S.2.1 dX11_keep_19 rfl (lv_at hl 2 rfl) ?_
      refine lv_if_ne (tgt := 34) S.1 S.2.1 dX11_keep_20 (by decide) (fun b5 => ?_) (fun b5 => ?_)
      · have hF := (if_neg b5).symm.trans hF
        refine lv_iload_n S.1 S.2.1 dX11_keep_34 rfl (lv_at hl 3 rfl) ?_
        refine lv_bipush (v := 8) S.1 S.2.1 dX11_keep_35 (by decide) ?_
        obtain ⟨r6, er6, hF⟩ := bd1_some hF
        refine k_p (va_runS (As := [.int a3, .int 8]) (rest := []) S (c_X11_isBelow hPL  er6) (va_cwS 2 S.2.2.2.2 (ul_S tw_1_229 tw_1_230 tw_1_1 cw_X11_isBelow) rfl rfl rfl hs_X11_isBelow ⟨Nat.le_of_ble_eq_true rfl, Nat.le_of_ble_eq_true rfl⟩) ⟨PreM.blind, hM.pre hK⟩ rfl rfl hl.1 rfl (lv_room (Nat.le_of_ble_eq_true rfl)) dX11_keep_37 ⟨Nat.zero_le _, Nat.zero_le _⟩) ?_
        refine lv_if_eq (tgt := 53) S.1 S.2.1 dX11_keep_40 (by decide) (fun b7 => ?_) (fun b7 => ?_)
        · have hF := (if_pos b7).symm.trans hF
          refine lv_iconst (v := (-1)) S.1 S.2.1 dX11_keep_53 (by decide) ?_
          cases hF
          exact z_m (v := (-1)) S hM hr hlk rfl dX11_keep_54
        · have hF := (if_neg b7).symm.trans hF
          refine lv_iload S.1 S.2.1 dX11_keep_43 (lv_at hl 4 rfl) ?_
          refine lv_bipush (v := 10) S.1 S.2.1 dX11_keep_45 (by decide) ?_
          obtain ⟨r8, er8, hF⟩ := bd1_some hF
          refine k_p (va_runS (As := [.int a4, .int 10]) (rest := []) S (c_X11_isBelow hPL  er8) (va_cwS 2 S.2.2.2.2 (ul_S tw_1_229 tw_1_230 tw_1_1 cw_X11_isBelow) rfl rfl rfl hs_X11_isBelow ⟨Nat.le_of_ble_eq_true rfl, Nat.le_of_ble_eq_true rfl⟩) ⟨PreM.blind, hM.pre hK⟩ rfl rfl hl.1 rfl (lv_room (Nat.le_of_ble_eq_true rfl)) dX11_keep_47 ⟨Nat.zero_le _, Nat.zero_le _⟩) ?_
          refine lv_if_ne (tgt := 55) S.1 S.2.1 dX11_keep_50 (by decide) (fun b9 => ?_) (fun b9 => ?_)
          · have hF := (if_neg b9).symm.trans hF
            refine lv_aload_n S.1 S.2.1 dX11_keep_55 rfl (lv_at hl 0 rfl) ?_
            refine r_getC S hK hM cfX11 0 4 28 (by decide) ly_0 rfl (by decide) tw_1_197 dX11_keep_56 ?_
            refine lv_iload_n S.1 S.2.1 dX11_keep_59 rfl (lv_at hl 1 rfl) ?_
            obtain ⟨hj10, j10, ej10, lj10, hF⟩ := ix_some hF
            refine r_aaldS S hK hM 28 (by decide) ly_28 hj10 ej10 dX11_keep_60 ?_
            refine lv_iload_n S.1 S.2.1 dX11_keep_61 rfl (lv_at hl 3 rfl) ?_
            refine lv_iload S.1 S.2.1 dX11_keep_62 (lv_at hl 4 rfl) ?_
            cases hF
          · have hF := (if_pos b9).symm.trans hF
            refine lv_iconst (v := (-1)) S.1 S.2.1 dX11_keep_53 (by decide) ?_
            cases hF
            exact z_m (v := (-1)) S hM hr hlk rfl dX11_keep_54
      · have hF := (if_pos b5).symm.trans hF
        refine lv_aload_n S.1 S.2.1 dX11_keep_23 rfl (lv_at hl 0 rfl) ?_
        refine r_getC S hK hM cfX11 0 4 28 (by decide) ly_0 rfl (by decide) tw_1_197 dX11_keep_24 ?_
        refine lv_iload_n S.1 S.2.1 dX11_keep_27 rfl (lv_at hl 1 rfl) ?_
        obtain ⟨hj11, j11, ej11, lj11, hF⟩ := ix_some hF
        refine r_aaldS S hK hM 28 (by decide) ly_28 hj11 ej11 dX11_keep_28 ?_
        obtain ⟨σ12, ρ13, er14, hF⟩ := bd2_some hF
        refine k_m (va_runV (As := []) (rest := []) S (c_X7_clear hPL lj11 er14) (cwV 0 S.2.2.2.2 (ul_V tw_4_55 tw_4_56 tw_4_57 tw_1_3 cw_X7_clear) rfl rfl rfl hv_X7_clear ⟨Nat.le_of_ble_eq_true rfl, Nat.le_of_ble_eq_true rfl⟩) ⟨PreM.blind, hM.recv hK cfX7 (29 + 2 * j11) (sh_lt lj11) (ly_sh lj11), hM.pre hK⟩ rfl rfl hl.1 rfl (lv_room (Nat.le_of_ble_eq_true rfl)) dX11_keep_29 ⟨Nat.zero_le _, Nat.zero_le _⟩) hM (fun H locs hM => ?_)
        show W _ _ _ _ _ _ _ _ _ _ _ _ _ _ _ (F0 m 32 ls [])
        refine lv_iconst (v := 0) S.1 S.2.1 dX11_keep_32 (by decide) ?_
        cases hF
        exact z_m (v := 0) S hM hr hlk rfl dX11_keep_33
    · have hF := (if_pos b4).symm.trans hF
      refine lv_iconst (v := (-1)) S.1 S.2.1 dX11_keep_17 (by decide) ?_
      cases hF
      exact z_m (v := (-1)) S hM hr hlk rfl dX11_keep_18
/-- keep, of a stroke -/
def KeepR (g : GE) (LP : List Nat) (kf : KF) (σ : IM) (ρ : RM) (j : Nat) (a3 a4 : Int32) (o : Option Value) (w : va_W) : Prop := ∃ (q : Nat) (σ' : IM) (ρ' : RM), o = some (.int 0) ∧ q ∉ LP ∧ X7_hold (kfx kf q (kof a3) a4) σ ρ j q = some (σ', ρ') ∧ w = wl lyC 48 g σ' ρ' (va_pl (LP ++ [q]) (skE (kfx kf q (kof a3) a4)))
set_option maxRecDepth 20000 in
theorem c_X11_keepB {l : Launch} {g : GE} {A : Nat → Prop} {LP : List Nat} {kf : KF} {σ : IM} {ρ : RM} {a1 : Int32} {a2 : Int32} {a3 : Int32} {a4 : Int32} {j : Nat} (hPL : PL LP kf) (er1 : X11_isBelow a1 8 = some 1) (er3 : X11_isBelow a2 2 = some 1) (h2 : ¬ a2 = 0) (er6 : X11_isBelow a3 8 = some 1) (er8 : X11_isBelow a4 10 = some 1) (hj : ¬ (a1 < 0 ∨ 8 ≤ a1.toNatClampNeg)) (ej : j = a1.toNatClampNeg) (lj : j < 8) (hH : ∀ q, q ∉ LP → ∃ out, X7_hold (kfx kf q (kof a3) a4) σ ρ j q = some out) : Met l yX11_keep (.code yX11_keep cX11_keep 5 (some .int) :: UL) ({ frames := 5, cells := 1, slots := 1, locals := 105 }) (va_Pc [.ref (g.2.2 0), .int a1, .int a2, .int a3, .int a4] (PreM lyC 48 g A (va_pl LP (skE kf)) σ ρ)) (QE g A (KeepR g LP kf σ ρ j a3 a4)) 1 1 A := by
  refine e_of2 (by decide) (Nat.le_of_ble_eq_true rfl) ?_
  intro p e s m below meth c ls S hr hlk hnm hv hl
  have hM := Mem.of hv
  have hK := hv.2.1
  have hl : lv_has ls 5 [(0, .ref (g.2.2 0)), (1, .int a1), (2, .int a2), (3, .int a3), (4, .int a4)] := hl
  refine lv_iload_n S.1 S.2.1 dX11_keep_0 rfl (lv_at hl 1 rfl) ?_
  refine lv_bipush (v := 8) S.1 S.2.1 dX11_keep_1 (by decide) ?_
  refine k_p (va_runS (As := [.int a1, .int 8]) (rest := []) S (c_X11_isBelow hPL er1) (va_cwS 2 S.2.2.2.2 (ul_S tw_1_229 tw_1_230 tw_1_1 cw_X11_isBelow) rfl rfl rfl hs_X11_isBelow ⟨Nat.le_of_ble_eq_true rfl, Nat.le_of_ble_eq_true rfl⟩) ⟨PreM.blind, hM.pre hK⟩ rfl rfl hl.1 rfl (lv_room (Nat.le_of_ble_eq_true rfl)) dX11_keep_3 ⟨Nat.zero_le _, Nat.zero_le _⟩) ?_
  refine lv_if_eq (tgt := 17) S.1 S.2.1 dX11_keep_6 (by decide) (fun b => absurd b (by decide)) (fun _ => ?_)
  refine lv_iload_n S.1 S.2.1 dX11_keep_9 rfl (lv_at hl 2 rfl) ?_
  refine lv_iconst (v := 2) S.1 S.2.1 dX11_keep_10 (by decide) ?_
  refine k_p (va_runS (As := [.int a2, .int 2]) (rest := []) S (c_X11_isBelow hPL er3) (va_cwS 2 S.2.2.2.2 (ul_S tw_1_229 tw_1_230 tw_1_1 cw_X11_isBelow) rfl rfl rfl hs_X11_isBelow ⟨Nat.le_of_ble_eq_true rfl, Nat.le_of_ble_eq_true rfl⟩) ⟨PreM.blind, hM.pre hK⟩ rfl rfl hl.1 rfl (lv_room (Nat.le_of_ble_eq_true rfl)) dX11_keep_11 ⟨Nat.zero_le _, Nat.zero_le _⟩) ?_
  refine lv_if_ne (tgt := 19) S.1 S.2.1 dX11_keep_14 (by decide) (fun _ => ?_) (fun b => absurd b (by decide))
  refine lv_iload_n S.1 S.2.1 dX11_keep_19 rfl (lv_at hl 2 rfl) ?_
  refine lv_if_ne (tgt := 34) S.1 S.2.1 dX11_keep_20 (by decide) (fun _ => ?_) (fun b => absurd b h2)
  refine lv_iload_n S.1 S.2.1 dX11_keep_34 rfl (lv_at hl 3 rfl) ?_
  refine lv_bipush (v := 8) S.1 S.2.1 dX11_keep_35 (by decide) ?_
  refine k_p (va_runS (As := [.int a3, .int 8]) (rest := []) S (c_X11_isBelow hPL er6) (va_cwS 2 S.2.2.2.2 (ul_S tw_1_229 tw_1_230 tw_1_1 cw_X11_isBelow) rfl rfl rfl hs_X11_isBelow ⟨Nat.le_of_ble_eq_true rfl, Nat.le_of_ble_eq_true rfl⟩) ⟨PreM.blind, hM.pre hK⟩ rfl rfl hl.1 rfl (lv_room (Nat.le_of_ble_eq_true rfl)) dX11_keep_37 ⟨Nat.zero_le _, Nat.zero_le _⟩) ?_
  refine lv_if_eq (tgt := 53) S.1 S.2.1 dX11_keep_40 (by decide) (fun b => absurd b (by decide)) (fun _ => ?_)
  refine lv_iload S.1 S.2.1 dX11_keep_43 (lv_at hl 4 rfl) ?_
  refine lv_bipush (v := 10) S.1 S.2.1 dX11_keep_45 (by decide) ?_
  refine k_p (va_runS (As := [.int a4, .int 10]) (rest := []) S (c_X11_isBelow hPL er8) (va_cwS 2 S.2.2.2.2 (ul_S tw_1_229 tw_1_230 tw_1_1 cw_X11_isBelow) rfl rfl rfl hs_X11_isBelow ⟨Nat.le_of_ble_eq_true rfl, Nat.le_of_ble_eq_true rfl⟩) ⟨PreM.blind, hM.pre hK⟩ rfl rfl hl.1 rfl (lv_room (Nat.le_of_ble_eq_true rfl)) dX11_keep_47 ⟨Nat.zero_le _, Nat.zero_le _⟩) ?_
  refine lv_if_ne (tgt := 55) S.1 S.2.1 dX11_keep_50 (by decide) (fun _ => ?_) (fun b => absurd b (by decide))
  refine lv_aload_n S.1 S.2.1 dX11_keep_55 rfl (lv_at hl 0 rfl) ?_
  refine r_getC S hK hM cfX11 0 4 28 (by decide) ly_0 rfl (by decide) tw_1_197 dX11_keep_56 ?_
  refine lv_iload_n S.1 S.2.1 dX11_keep_59 rfl (lv_at hl 1 rfl) ?_
  refine r_aaldS S hK hM 28 (by decide) ly_28 hj ej dX11_keep_60 ?_
  refine lv_iload_n S.1 S.2.1 dX11_keep_61 rfl (lv_at hl 3 rfl) ?_
  refine lv_iload S.1 S.2.1 dX11_keep_62 (lv_at hl 4 rfl) ?_
  refine k_e (va_runS (As := [.int a3, .int a4]) (rest := [.ref (g.2.2 (29 + 2 * j))]) S (c_X9_of (kf := kf)) (va_cwS 2 S.2.2.2.2 (ul_S tw_1_115 tw_1_116 tw_1_4 cw_X9_of) rfl rfl rfl hs_X9_of ⟨Nat.le_of_ble_eq_true rfl, Nat.le_of_ble_eq_true rfl⟩) ⟨PreM.blind, hM.pre hK⟩ rfl rfl hl.1 rfl (lv_room (Nat.le_of_ble_eq_true rfl)) dX11_keep_64 ⟨Nat.le_of_ble_eq_true rfl, Nat.le_of_ble_eq_true rfl⟩) hM.w (fun o w H1 locs1 hw hM => ?_)
  obtain ⟨q, rfl, hq, rfl⟩ := hw
  have hM := hM.m
  have hPL1 := hPL.push (q := q) (v := a4) (kof_lt a3)
  obtain ⟨⟨σ', ρ'⟩, eo⟩ := hH q hq
  refine k_m (va_runV (As := [.ref q]) (rest := []) S (c_X7_hold hPL1 lj eo) (cwV 1 S.2.2.2.2 (ul_V tw_4_59 tw_4_60 tw_4_61 tw_1_3 cw_X7_hold) rfl rfl rfl hv_X7_hold ⟨Nat.le_of_ble_eq_true rfl, Nat.le_of_ble_eq_true rfl⟩) ⟨PreM.blind, hM.recv hK cfX7 (29 + 2 * j) (sh_lt lj) (ly_sh lj), hM.pre hK⟩ rfl rfl hl.1 rfl (lv_room (Nat.le_of_ble_eq_true rfl)) dX11_keep_67 ⟨Nat.le_of_ble_eq_true rfl, Nat.le_of_ble_eq_true rfl⟩) hM (fun H locs hM => ?_)
  show W _ _ _ _ _ _ _ _ _ _ _ _ _ _ _ (F0 m 70 ls [])
  refine lv_iconst (v := 0) S.1 S.2.1 dX11_keep_70 (by decide) ?_
  exact z_ei S hM.w hr rfl hlk ⟨q, σ', ρ', rfl, hq, eo, rfl⟩ (Nat.le_of_ble_eq_true rfl) (Nat.le_of_ble_eq_true rfl) dX11_keep_71
/-! X2_tell -/
def X2_tell_b198 (kf : KF) (j0 : Nat) (c2 : Nat) (x3 : Int32) (x4 : Int32) (σ : IM) (ρ : RM) : Option (Int32 × IM × RM) := bd1 (X1_hitRefusal kf σ ρ c2 x3 x4) fun r44 => if r44 = 0 then (bd3 (X1_strike kf σ ρ c2 x3 x4) fun r48 σ46 ρ47 => some (r44, σ46, ρ47)) else (some (r44, σ, ρ))
set_option maxRecDepth 20000 in
theorem w_X2_tell_198 {l : Launch} {g : GE} {A : Nat → Prop} {LP : List Nat} {kf : KF} {j0 : Nat} {c2 : Nat} (hPL : PL LP kf) (hj0 : j0 < 8) (hc2 : Ct c2) {p : Program} {e : Env} {s : State} {m : MethodId} {args : Array Value} {below : List Frame} {meth : Method} {c : Code} (S : CallFix p m c cX2_tell 7 s args UL RX2) (hK : KK g s) (hr : meth.sig.returnType = (some .int)) (hlk : meth.locks = false) {out : Int32 × IM × RM} : ∀ {x3 : Int32} {x4 : Int32} {σ : IM} {ρ : RM} {H : Heap} {locs : List Loc} {ls : Array Slot}, Mem lyC 48 g A (va_pl LP (skE kf)) σ ρ s.heap H locs → lv_has ls 7 [(2, .ref (g.2.2 c2)), (3, .int x3), (4, .int x4)] → X2_tell_b198 kf j0 c2 x3 x4 σ ρ = some out → W p l e ({ frames := 5, cells := 0, slots := 0, locals := 105 }) s m args below meth c H locs 0 0 (MQ below (Qm lyC 48 g A (va_pl LP (skE kf)) out.2.1 out.2.2 (some (.int out.1))) args s 0 0 A) (F0 m 198 ls []) := by
  intro x3 x4 σ ρ H locs ls hM hl hF
  unfold X2_tell_b198 at hF
  refine lv_aload_n S.1 S.2.1 dX2_tell_198 rfl (lv_at hl 0 rfl) ?_
  refine lv_iload_n S.1 S.2.1 dX2_tell_199 rfl (lv_at hl 1 rfl) ?_
  refine lv_iload S.1 S.2.1 dX2_tell_200 (lv_at hl 2 rfl) ?_
  obtain ⟨r44, er44, hF⟩ := bd1_some hF
  refine k_p (va_runV (As := [.int x3, .int x4]) (rest := []) S (c_X1_hitRefusal hPL hc2 er44) (cwV 2 S.2.2.2.2 (ul_V tw_2_60 tw_2_61 tw_2_62 tw_1_2 cw_X1_hitRefusal) rfl rfl rfl hv_X1_hitRefusal ⟨Nat.le_of_ble_eq_true rfl, Nat.le_of_ble_eq_true rfl⟩) ⟨PreM.blind, hM.recv hK cfX1 c2 (ct_lt0 hc2) (ly_ct hc2), hM.pre hK⟩ rfl rfl hl.1 rfl (lv_room (Nat.le_of_ble_eq_true rfl)) dX2_tell_202 ⟨Nat.zero_le _, Nat.zero_le _⟩) ?_
  refine lv_istore (lv' := [(6, .int r44), (2, .ref (g.2.2 c2)), (3, .int x3), (4, .int x4)]) S.1 S.2.1 dX2_tell_205 hl (by decide) rfl (fun ls hl => ?_)
  refine lv_iload S.1 S.2.1 dX2_tell_207 (lv_at hl 0 rfl) ?_
  refine lv_if_ne (tgt := 220) S.1 S.2.1 dX2_tell_209 (by decide) (fun b45 => ?_) (fun b45 => ?_)
  · have hF := (if_neg b45).symm.trans hF
    refine lv_iload S.1 S.2.1 dX2_tell_220 (lv_at hl 0 rfl) ?_
    cases hF
    exact z_m (v := r44) S hM hr hlk rfl dX2_tell_222
  · have hF := (if_pos b45).symm.trans hF
    refine lv_aload_n S.1 S.2.1 dX2_tell_212 rfl (lv_at hl 1 rfl) ?_
    refine lv_iload_n S.1 S.2.1 dX2_tell_213 rfl (lv_at hl 2 rfl) ?_
    refine lv_iload S.1 S.2.1 dX2_tell_214 (lv_at hl 3 rfl) ?_
    obtain ⟨r48, σ46, ρ47, er48, hF⟩ := bd3_some hF
    refine k_m (va_runV (As := [.int x3, .int x4]) (rest := []) S (c_X1_strike hPL hc2 er48) (cwV 2 S.2.2.2.2 (ul_V tw_2_72 tw_2_73 tw_2_74 tw_1_2 cw_X1_strike) rfl rfl rfl hv_X1_strike ⟨Nat.le_of_ble_eq_true rfl, Nat.le_of_ble_eq_true rfl⟩) ⟨PreM.blind, hM.recv hK cfX1 c2 (ct_lt0 hc2) (ly_ct hc2), hM.pre hK⟩ rfl rfl hl.1 rfl (lv_room (Nat.le_of_ble_eq_true rfl)) dX2_tell_216 ⟨Nat.zero_le _, Nat.zero_le _⟩) hM (fun H locs hM => ?_)
    show W _ _ _ _ _ _ _ _ _ _ _ _ _ _ _ (F0 m 219 ls [.int r48])
    refine lv_pop S.1 S.2.1 dX2_tell_219 rfl ?_
    refine lv_iload S.1 S.2.1 dX2_tell_220 (lv_at hl 0 rfl) ?_
    cases hF
    exact z_m (v := r44) S hM hr hlk rfl dX2_tell_222
def X2_tell (kf : KF) (σ : IM) (ρ : RM) (j0 : Nat) (a1 : Int32) (c2 : Nat) : Option (Int32 × IM × RM) := bd1 (X7_digitAt kf σ ρ j0 (a1 + 1)) fun r1 => bd1 (X7_digitAt kf σ ρ j0 (a1 + 2)) fun r2 => bd1 (X7_digitAt kf σ ρ j0 (a1 + 3)) fun r3 => bd1 (X7_byteAt kf σ ρ j0 a1) fun r4 => if r4 = 98 then (bd1 (X11_isBelow r1 8) fun r6 => if r6 = 0 then (some ((-1), σ, ρ)) else (none)) else (if r4 = 100 then (bd3 (X1_setDraught kf σ ρ c2 r1) fun r11 σ9 ρ10 => some (r11, σ9, ρ10)) else (if r4 = 102 then (bd3 (X1_adopt kf σ ρ c2 r1 0 r2) fun r15 σ13 ρ14 => some (r15, σ13, ρ14)) else (if r4 = 104 then (bd3 (X1_adopt kf σ ρ c2 r1 1 r2) fun r19 σ17 ρ18 => some (r19, σ17, ρ18)) else (if r4 = 108 then (bd3 (X1_switchHand kf σ ρ c2 r1) fun r23 σ21 ρ22 => some (r23, σ21, ρ22)) else (if r4 = 112 then (bd3 (X1_standAt kf σ ρ c2 r1 r2 r3) fun r27 σ25 ρ26 => some (r27, σ25, ρ26)) else (if r4 = 116 then (bd3 (X1_setTired kf σ ρ c2 r1 ((10 * r2) + r3)) fun r31 σ29 ρ30 => some (r31, σ29, ρ30)) else (X2_tell_b198 kf j0 c2 r1 r2 σ ρ)))))))
set_option maxRecDepth 20000 in
theorem c_X2_tell {l : Launch} {g : GE} {A : Nat → Prop} {LP : List Nat} {kf : KF} {σ : IM} {ρ : RM} {j0 : Nat} {a1 : Int32} {c2 : Nat} {out : Int32 × IM × RM} (hPL : PL LP kf) (hj0 : j0 < 8) (hc2 : Ct c2) (hF : X2_tell kf σ ρ j0 a1 c2 = some out) : Met l yX2_tell (.code yX2_tell cX2_tell 7 (some .int) :: UL) ({ frames := 5, cells := 0, slots := 0, locals := 105 }) (va_Pc [.ref (g.2.2 (29 + 2 * j0)), .int a1, .ref (g.2.2 c2)] (PreM lyC 48 g A (va_pl LP (skE kf)) σ ρ)) (Qm lyC 48 g A (va_pl LP (skE kf)) out.2.1 out.2.2 (some (.int out.1))) 0 0 A := by
  refine e_of (by decide) (Nat.le_of_ble_eq_true rfl) ?_
  intro p e s m below meth c ls S hr hlk hv hl
  have hM := Mem.of hv
  have hK := hv.2.1
  have hl : lv_has ls 7 [(0, .ref (g.2.2 (29 + 2 * j0))), (1, .int a1), (2, .ref (g.2.2 c2))] := hl
  unfold X2_tell at hF
  refine lv_aload_n S.1 S.2.1 dX2_tell_0 rfl (lv_at hl 0 rfl) ?_
  refine lv_iload_n S.1 S.2.1 dX2_tell_1 rfl (lv_at hl 1 rfl) ?_
  refine lv_iconst (v := 1) S.1 S.2.1 dX2_tell_2 (by decide) ?_
  refine lv_iadd S.1 S.2.1 dX2_tell_3 ?_
  obtain ⟨r1, er1, hF⟩ := bd1_some hF
  refine k_p (va_runV (As := [.int (a1 + 1)]) (rest := []) S (c_X7_digitAt hPL hj0 er1) (cwV 1 S.2.2.2.2 (ul_V tw_2_12 tw_2_13 tw_2_14 tw_1_3 cw_X7_digitAt) rfl rfl rfl hv_X7_digitAt ⟨Nat.le_of_ble_eq_true rfl, Nat.le_of_ble_eq_true rfl⟩) ⟨PreM.blind, hM.recv hK cfX7 (29 + 2 * j0) (sh_lt hj0) (ly_sh hj0), hM.pre hK⟩ rfl rfl hl.1 rfl (lv_room (Nat.le_of_ble_eq_true rfl)) dX2_tell_4 ⟨Nat.zero_le _, Nat.zero_le _⟩) ?_
  refine lv_istore_n (lv' := [(3, .int r1), (0, .ref (g.2.2 (29 + 2 * j0))), (1, .int a1), (2, .ref (g.2.2 c2))]) S.1 S.2.1 dX2_tell_7 rfl hl (by decide) rfl (fun ls hl => ?_)
  refine lv_aload_n S.1 S.2.1 dX2_tell_8 rfl (lv_at hl 1 rfl) ?_
  refine lv_iload_n S.1 S.2.1 dX2_tell_9 rfl (lv_at hl 2 rfl) ?_
  refine lv_iconst (v := 2) S.1 S.2.1 dX2_tell_10 (by decide) ?_
  refine lv_iadd S.1 S.2.1 dX2_tell_11 ?_
  obtain ⟨r2, er2, hF⟩ := bd1_some hF
  refine k_p (va_runV (As := [.int (a1 + 2)]) (rest := []) S (c_X7_digitAt hPL hj0 er2) (cwV 1 S.2.2.2.2 (ul_V tw_2_12 tw_2_13 tw_2_14 tw_1_3 cw_X7_digitAt) rfl rfl rfl hv_X7_digitAt ⟨Nat.le_of_ble_eq_true rfl, Nat.le_of_ble_eq_true rfl⟩) ⟨PreM.blind, hM.recv hK cfX7 (29 + 2 * j0) (sh_lt hj0) (ly_sh hj0), hM.pre hK⟩ rfl rfl hl.1 rfl (lv_room (Nat.le_of_ble_eq_true rfl)) dX2_tell_12 ⟨Nat.zero_le _, Nat.zero_le _⟩) ?_
  refine lv_istore (lv' := [(4, .int r2), (3, .int r1), (0, .ref (g.2.2 (29 + 2 * j0))), (1, .int a1), (2, .ref (g.2.2 c2))]) S.1 S.2.1 dX2_tell_15 hl (by decide) rfl (fun ls hl => ?_)
  refine lv_aload_n S.1 S.2.1 dX2_tell_17 rfl (lv_at hl 2 rfl) ?_
  refine lv_iload_n S.1 S.2.1 dX2_tell_18 rfl (lv_at hl 3 rfl) ?_
  refine lv_iconst (v := 3) S.1 S.2.1 dX2_tell_19 (by decide) ?_
  refine lv_iadd S.1 S.2.1 dX2_tell_20 ?_
  obtain ⟨r3, er3, hF⟩ := bd1_some hF
  refine k_p (va_runV (As := [.int (a1 + 3)]) (rest := []) S (c_X7_digitAt hPL hj0 er3) (cwV 1 S.2.2.2.2 (ul_V tw_2_12 tw_2_13 tw_2_14 tw_1_3 cw_X7_digitAt) rfl rfl rfl hv_X7_digitAt ⟨Nat.le_of_ble_eq_true rfl, Nat.le_of_ble_eq_true rfl⟩) ⟨PreM.blind, hM.recv hK cfX7 (29 + 2 * j0) (sh_lt hj0) (ly_sh hj0), hM.pre hK⟩ rfl rfl hl.1 rfl (lv_room (Nat.le_of_ble_eq_true rfl)) dX2_tell_21 ⟨Nat.zero_le _, Nat.zero_le _⟩) ?_
  refine lv_istore (lv' := [(5, .int r3), (4, .int r2), (3, .int r1), (0, .ref (g.2.2 (29 + 2 * j0))), (1, .int a1), (2, .ref (g.2.2 c2))]) S.1 S.2.1 dX2_tell_24 hl (by decide) rfl (fun ls hl => ?_)
  refine lv_aload_n S.1 S.2.1 dX2_tell_26 rfl (lv_at hl 3 rfl) ?_
  refine lv_iload_n S.1 S.2.1 dX2_tell_27 rfl (lv_at hl 4 rfl) ?_
  obtain ⟨r4, er4, hF⟩ := bd1_some hF
  refine k_p (va_runV (As := [.int a1]) (rest := []) S (c_X7_byteAt hPL hj0 er4) (cwV 1 S.2.2.2.2 (ul_V tw_2_4 tw_2_5 tw_2_6 tw_1_3 cw_X7_byteAt) rfl rfl rfl hv_X7_byteAt ⟨Nat.le_of_ble_eq_true rfl, Nat.le_of_ble_eq_true rfl⟩) ⟨PreM.blind, hM.recv hK cfX7 (29 + 2 * j0) (sh_lt hj0) (ly_sh hj0), hM.pre hK⟩ rfl rfl hl.1 rfl (lv_room (Nat.le_of_ble_eq_true rfl)) dX2_tell_28 ⟨Nat.zero_le _, Nat.zero_le _⟩) ?_
  by_cases b5 : r4 = 98
  · have hF := (if_pos b5).symm.trans hF
    refine r_tab (off := 89) (tgt := 120) S dX2_tell_31 b5 (by decide) (by decide) ?_
    refine lv_iload_n S.1 S.2.1 dX2_tell_120 rfl (lv_at hl 2 rfl) ?_
    refine lv_bipush (v := 8) S.1 S.2.1 dX2_tell_121 (by decide) ?_
    obtain ⟨r6, er6, hF⟩ := bd1_some hF
    refine k_p (va_runSN (As := [.int r1, .int 8]) (rest := []) S (c_X11_isBelow hPL  er6) ⟨va_cnB 2 S.2.2.2.2 (ul_G (ul_c cw_X11_isBelow)) rfl rfl rfl (hK.2.1 _ (List.mem_of_getElem? (i := 4) rfl)) (S.2.2.2.2 _ tw_1_1) hs_X11_isBelow ⟨Nat.le_of_ble_eq_true rfl, Nat.le_of_ble_eq_true rfl⟩, S.2.2.2.2 _ tw_1_230, trivial⟩ ⟨PreM.blind, hM.pre hK⟩ rfl rfl hl.1 rfl (lv_room (Nat.le_of_ble_eq_true rfl)) dX2_tell_123 ⟨Nat.zero_le _, Nat.zero_le _⟩) ?_
    refine lv_if_eq (tgt := 142) S.1 S.2.1 dX2_tell_126 (by decide) (fun b7 => ?_) (fun b7 => ?_)
    · have hF := (if_pos b7).symm.trans hF
      refine lv_iconst (v := (-1)) S.1 S.2.1 dX2_tell_142 (by decide) ?_
      cases hF
      exact z_m (v := (-1)) S hM hr hlk rfl dX2_tell_143
    · have hF := (if_neg b7).symm.trans hF
      refine lv_aload_n S.1 S.2.1 dX2_tell_129 rfl (lv_at hl 5 rfl) ?_
      refine lv_iload_n S.1 S.2.1 dX2_tell_130 rfl (lv_at hl 2 rfl) ?_
      refine lv_iload S.1 S.2.1 dX2_tell_131 (lv_at hl 1 rfl) ?_
      cases hF
  · have hF := (if_neg b5).symm.trans hF
    by_cases b8 : r4 = 100
    · have hF := (if_pos b8).symm.trans hF
      refine r_tab (off := 161) (tgt := 192) S dX2_tell_31 b8 (by decide) (by decide) ?_
      refine lv_aload_n S.1 S.2.1 dX2_tell_192 rfl (lv_at hl 5 rfl) ?_
      refine lv_iload_n S.1 S.2.1 dX2_tell_193 rfl (lv_at hl 2 rfl) ?_
      obtain ⟨r11, σ9, ρ10, er11, hF⟩ := bd3_some hF
      refine k_m (va_runV (As := [.int r1]) (rest := []) S (c_X1_setDraught hPL hc2 er11) (cwV 1 S.2.2.2.2 (ul_V tw_2_56 tw_2_57 tw_2_58 tw_1_2 cw_X1_setDraught) rfl rfl rfl hv_X1_setDraught ⟨Nat.le_of_ble_eq_true rfl, Nat.le_of_ble_eq_true rfl⟩) ⟨PreM.blind, hM.recv hK cfX1 c2 (ct_lt0 hc2) (ly_ct hc2), hM.pre hK⟩ rfl rfl hl.1 rfl (lv_room (Nat.le_of_ble_eq_true rfl)) dX2_tell_194 ⟨Nat.zero_le _, Nat.zero_le _⟩) hM (fun H locs hM => ?_)
      show W _ _ _ _ _ _ _ _ _ _ _ _ _ _ _ (F0 m 197 ls [.int r11])
      cases hF
      exact z_m (v := r11) S hM hr hlk rfl dX2_tell_197
    · have hF := (if_neg b8).symm.trans hF
      by_cases b12 : r4 = 102
      · have hF := (if_pos b12).symm.trans hF
        refine r_tab (off := 143) (tgt := 174) S dX2_tell_31 b12 (by decide) (by decide) ?_
        refine lv_aload_n S.1 S.2.1 dX2_tell_174 rfl (lv_at hl 5 rfl) ?_
        refine lv_iload_n S.1 S.2.1 dX2_tell_175 rfl (lv_at hl 2 rfl) ?_
        refine lv_iconst (v := 0) S.1 S.2.1 dX2_tell_176 (by decide) ?_
        refine lv_iload S.1 S.2.1 dX2_tell_177 (lv_at hl 1 rfl) ?_
        obtain ⟨r15, σ13, ρ14, er15, hF⟩ := bd3_some hF
        refine k_m (va_runV (As := [.int r1, .int 0, .int r2]) (rest := []) S (c_X1_adopt hPL hc2 er15) (cwV 3 S.2.2.2.2 (ul_V tw_2_49 tw_2_50 tw_2_51 tw_1_2 cw_X1_adopt) rfl rfl rfl hv_X1_adopt ⟨Nat.le_of_ble_eq_true rfl, Nat.le_of_ble_eq_true rfl⟩) ⟨PreM.blind, hM.recv hK cfX1 c2 (ct_lt0 hc2) (ly_ct hc2), hM.pre hK⟩ rfl rfl hl.1 rfl (lv_room (Nat.le_of_ble_eq_true rfl)) dX2_tell_179 ⟨Nat.zero_le _, Nat.zero_le _⟩) hM (fun H locs hM => ?_)
        show W _ _ _ _ _ _ _ _ _ _ _ _ _ _ _ (F0 m 182 ls [.int r15])
        cases hF
        exact z_m (v := r15) S hM hr hlk rfl dX2_tell_182
      · have hF := (if_neg b12).symm.trans hF
        by_cases b16 : r4 = 104
        · have hF := (if_pos b16).symm.trans hF
          refine r_tab (off := 152) (tgt := 183) S dX2_tell_31 b16 (by decide) (by decide) ?_
          refine lv_aload_n S.1 S.2.1 dX2_tell_183 rfl (lv_at hl 5 rfl) ?_
          refine lv_iload_n S.1 S.2.1 dX2_tell_184 rfl (lv_at hl 2 rfl) ?_
          refine lv_iconst (v := 1) S.1 S.2.1 dX2_tell_185 (by decide) ?_
          refine lv_iload S.1 S.2.1 dX2_tell_186 (lv_at hl 1 rfl) ?_
          obtain ⟨r19, σ17, ρ18, er19, hF⟩ := bd3_some hF
          refine k_m (va_runV (As := [.int r1, .int 1, .int r2]) (rest := []) S (c_X1_adopt hPL hc2 er19) (cwV 3 S.2.2.2.2 (ul_V tw_2_49 tw_2_50 tw_2_51 tw_1_2 cw_X1_adopt) rfl rfl rfl hv_X1_adopt ⟨Nat.le_of_ble_eq_true rfl, Nat.le_of_ble_eq_true rfl⟩) ⟨PreM.blind, hM.recv hK cfX1 c2 (ct_lt0 hc2) (ly_ct hc2), hM.pre hK⟩ rfl rfl hl.1 rfl (lv_room (Nat.le_of_ble_eq_true rfl)) dX2_tell_188 ⟨Nat.zero_le _, Nat.zero_le _⟩) hM (fun H locs hM => ?_)
          show W _ _ _ _ _ _ _ _ _ _ _ _ _ _ _ (F0 m 191 ls [.int r19])
          cases hF
          exact z_m (v := r19) S hM hr hlk rfl dX2_tell_191
        · have hF := (if_neg b16).symm.trans hF
          by_cases b20 : r4 = 108
          · have hF := (if_pos b20).symm.trans hF
            refine r_tab (off := 137) (tgt := 168) S dX2_tell_31 b20 (by decide) (by decide) ?_
            refine lv_aload_n S.1 S.2.1 dX2_tell_168 rfl (lv_at hl 5 rfl) ?_
            refine lv_iload_n S.1 S.2.1 dX2_tell_169 rfl (lv_at hl 2 rfl) ?_
            obtain ⟨r23, σ21, ρ22, er23, hF⟩ := bd3_some hF
            refine k_m (va_runV (As := [.int r1]) (rest := []) S (c_X1_switchHand hPL hc2 er23) (cwV 1 S.2.2.2.2 (ul_V tw_2_45 tw_2_46 tw_2_47 tw_1_2 cw_X1_switchHand) rfl rfl rfl hv_X1_switchHand ⟨Nat.le_of_ble_eq_true rfl, Nat.le_of_ble_eq_true rfl⟩) ⟨PreM.blind, hM.recv hK cfX1 c2 (ct_lt0 hc2) (ly_ct hc2), hM.pre hK⟩ rfl rfl hl.1 rfl (lv_room (Nat.le_of_ble_eq_true rfl)) dX2_tell_170 ⟨Nat.zero_le _, Nat.zero_le _⟩) hM (fun H locs hM => ?_)
            show W _ _ _ _ _ _ _ _ _ _ _ _ _ _ _ (F0 m 173 ls [.int r23])
            cases hF
            exact z_m (v := r23) S hM hr hlk rfl dX2_tell_173
          · have hF := (if_neg b20).symm.trans hF
            by_cases b24 : r4 = 112
            · have hF := (if_pos b24).symm.trans hF
              refine r_tab (off := 113) (tgt := 144) S dX2_tell_31 b24 (by decide) (by decide) ?_
              refine lv_aload_n S.1 S.2.1 dX2_tell_144 rfl (lv_at hl 5 rfl) ?_
              refine lv_iload_n S.1 S.2.1 dX2_tell_145 rfl (lv_at hl 2 rfl) ?_
              refine lv_iload S.1 S.2.1 dX2_tell_146 (lv_at hl 1 rfl) ?_
              refine lv_iload S.1 S.2.1 dX2_tell_148 (lv_at hl 0 rfl) ?_
              obtain ⟨r27, σ25, ρ26, er27, hF⟩ := bd3_some hF
              refine k_m (va_runV (As := [.int r1, .int r2, .int r3]) (rest := []) S (c_X1_standAt hPL hc2 er27) (cwV 3 S.2.2.2.2 (ul_V tw_2_36 tw_2_37 tw_2_38 tw_1_2 cw_X1_standAt) rfl rfl rfl hv_X1_standAt ⟨Nat.le_of_ble_eq_true rfl, Nat.le_of_ble_eq_true rfl⟩) ⟨PreM.blind, hM.recv hK cfX1 c2 (ct_lt0 hc2) (ly_ct hc2), hM.pre hK⟩ rfl rfl hl.1 rfl (lv_room (Nat.le_of_ble_eq_true rfl)) dX2_tell_150 ⟨Nat.zero_le _, Nat.zero_le _⟩) hM (fun H locs hM => ?_)
              show W _ _ _ _ _ _ _ _ _ _ _ _ _ _ _ (F0 m 153 ls [.int r27])
              cases hF
              exact z_m (v := r27) S hM hr hlk rfl dX2_tell_153
            · have hF := (if_neg b24).symm.trans hF
              by_cases b28 : r4 = 116
              · have hF := (if_pos b28).symm.trans hF
                refine r_tab (off := 123) (tgt := 154) S dX2_tell_31 b28 (by decide) (by decide) ?_
                refine lv_aload_n S.1 S.2.1 dX2_tell_154 rfl (lv_at hl 5 rfl) ?_
                refine lv_iload_n S.1 S.2.1 dX2_tell_155 rfl (lv_at hl 2 rfl) ?_
                refine lv_bipush (v := 10) S.1 S.2.1 dX2_tell_156 (by decide) ?_
                refine lv_iload S.1 S.2.1 dX2_tell_158 (lv_at hl 1 rfl) ?_
                refine lv_imul S.1 S.2.1 dX2_tell_160 ?_
                refine lv_iload S.1 S.2.1 dX2_tell_161 (lv_at hl 0 rfl) ?_
                refine lv_iadd S.1 S.2.1 dX2_tell_163 ?_
                obtain ⟨r31, σ29, ρ30, er31, hF⟩ := bd3_some hF
                refine k_m (va_runV (As := [.int r1, .int ((10 * r2) + r3)]) (rest := []) S (c_X1_setTired hPL hc2 er31) (cwV 2 S.2.2.2.2 (ul_V tw_2_41 tw_2_42 tw_2_43 tw_1_2 cw_X1_setTired) rfl rfl rfl hv_X1_setTired ⟨Nat.le_of_ble_eq_true rfl, Nat.le_of_ble_eq_true rfl⟩) ⟨PreM.blind, hM.recv hK cfX1 c2 (ct_lt0 hc2) (ly_ct hc2), hM.pre hK⟩ rfl rfl hl.1 rfl (lv_room (Nat.le_of_ble_eq_true rfl)) dX2_tell_164 ⟨Nat.zero_le _, Nat.zero_le _⟩) hM (fun H locs hM => ?_)
                show W _ _ _ _ _ _ _ _ _ _ _ _ _ _ _ (F0 m 167 ls [.int r31])
                cases hF
                exact z_m (v := r31) S hM hr hlk rfl dX2_tell_167
              · have hF := (if_neg b28).symm.trans hF
                by_cases b32 : r4 = 99
                · refine r_tab (off := 167) (tgt := 198) S dX2_tell_31 b32 (by decide) (by decide) ?_
                  exact w_X2_tell_198 hPL hj0 hc2 S hK hr hlk hM (lv_sub hl [5, 2, 1] rfl) hF
                · by_cases b33 : r4 = 101
                  · refine r_tab (off := 167) (tgt := 198) S dX2_tell_31 b33 (by decide) (by decide) ?_
                    exact w_X2_tell_198 hPL hj0 hc2 S hK hr hlk hM (lv_sub hl [5, 2, 1] rfl) hF
                  · by_cases b34 : r4 = 103
                    · refine r_tab (off := 167) (tgt := 198) S dX2_tell_31 b34 (by decide) (by decide) ?_
                      exact w_X2_tell_198 hPL hj0 hc2 S hK hr hlk hM (lv_sub hl [5, 2, 1] rfl) hF
                    · by_cases b35 : r4 = 105
                      · refine r_tab (off := 167) (tgt := 198) S dX2_tell_31 b35 (by decide) (by decide) ?_
                        exact w_X2_tell_198 hPL hj0 hc2 S hK hr hlk hM (lv_sub hl [5, 2, 1] rfl) hF
                      · by_cases b36 : r4 = 106
                        · refine r_tab (off := 167) (tgt := 198) S dX2_tell_31 b36 (by decide) (by decide) ?_
                          exact w_X2_tell_198 hPL hj0 hc2 S hK hr hlk hM (lv_sub hl [5, 2, 1] rfl) hF
                        · by_cases b37 : r4 = 107
                          · refine r_tab (off := 167) (tgt := 198) S dX2_tell_31 b37 (by decide) (by decide) ?_
                            exact w_X2_tell_198 hPL hj0 hc2 S hK hr hlk hM (lv_sub hl [5, 2, 1] rfl) hF
                          · by_cases b38 : r4 = 109
                            · refine r_tab (off := 167) (tgt := 198) S dX2_tell_31 b38 (by decide) (by decide) ?_
                              exact w_X2_tell_198 hPL hj0 hc2 S hK hr hlk hM (lv_sub hl [5, 2, 1] rfl) hF
                            · by_cases b39 : r4 = 110
                              · refine r_tab (off := 167) (tgt := 198) S dX2_tell_31 b39 (by decide) (by decide) ?_
                                exact w_X2_tell_198 hPL hj0 hc2 S hK hr hlk hM (lv_sub hl [5, 2, 1] rfl) hF
                              · by_cases b40 : r4 = 111
                                · refine r_tab (off := 167) (tgt := 198) S dX2_tell_31 b40 (by decide) (by decide) ?_
                                  exact w_X2_tell_198 hPL hj0 hc2 S hK hr hlk hM (lv_sub hl [5, 2, 1] rfl) hF
                                · by_cases b41 : r4 = 113
                                  · refine r_tab (off := 167) (tgt := 198) S dX2_tell_31 b41 (by decide) (by decide) ?_
                                    exact w_X2_tell_198 hPL hj0 hc2 S hK hr hlk hM (lv_sub hl [5, 2, 1] rfl) hF
                                  · by_cases b42 : r4 = 114
                                    · refine r_tab (off := 167) (tgt := 198) S dX2_tell_31 b42 (by decide) (by decide) ?_
                                      exact w_X2_tell_198 hPL hj0 hc2 S hK hr hlk hM (lv_sub hl [5, 2, 1] rfl) hF
                                    · by_cases b43 : r4 = 115
                                      · refine r_tab (off := 167) (tgt := 198) S dX2_tell_31 b43 (by decide) (by decide) ?_
                                        exact w_X2_tell_198 hPL hj0 hc2 S hK hr hlk hM (lv_sub hl [5, 2, 1] rfl) hF
                                      · refine r_tabD (tgt := 198) S dX2_tell_31 (by have n0 := ne_toInt b5 (k := 98) (by decide); have n1 := ne_toInt b8 (k := 100) (by decide); have n2 := ne_toInt b12 (k := 102) (by decide); have n3 := ne_toInt b16 (k := 104) (by decide); have n4 := ne_toInt b20 (k := 108) (by decide); have n5 := ne_toInt b24 (k := 112) (by decide); have n6 := ne_toInt b28 (k := 116) (by decide); have n7 := ne_toInt b32 (k := 99) (by decide); have n8 := ne_toInt b33 (k := 101) (by decide); have n9 := ne_toInt b34 (k := 103) (by decide); have n10 := ne_toInt b35 (k := 105) (by decide); have n11 := ne_toInt b36 (k := 106) (by decide); have n12 := ne_toInt b37 (k := 107) (by decide); have n13 := ne_toInt b38 (k := 109) (by decide); have n14 := ne_toInt b39 (k := 110) (by decide); have n15 := ne_toInt b40 (k := 111) (by decide); have n16 := ne_toInt b41 (k := 113) (by decide); have n17 := ne_toInt b42 (k := 114) (by decide); have n18 := ne_toInt b43 (k := 115) (by decide); omega) (by decide) ?_
                                        exact w_X2_tell_198 hPL hj0 hc2 S hK hr hlk hM (lv_sub hl [5, 2, 1] rfl) hF
/-- the letter b -/
def TellR (g : GE) (LP : List Nat) (kf : KF) (σ : IM) (ρ : RM) (c : Nat) (a v : Int32) (o : Option Value) (w : va_W) : Prop := ∃ (q : Nat) (r : Int32) (σ' : IM) (ρ' : RM), o = some (.int r) ∧ q ∉ LP ∧ X1_learn (kfx kf q (kof a) v) σ ρ c q = some (r, σ', ρ') ∧ w = wl lyC 48 g σ' ρ' (va_pl (LP ++ [q]) (skE (kfx kf q (kof a) v)))
set_option maxRecDepth 20000 in
theorem c_X2_tellB {l : Launch} {g : GE} {A : Nat → Prop} {LP : List Nat} {kf : KF} {σ : IM} {ρ : RM} {j0 : Nat} {a1 : Int32} {c2 : Nat} {r1 r2 r3 r4 : Int32} (hPL : PL LP kf) (hj0 : j0 < 8) (hc2 : Ct c2) (er1 : X7_digitAt kf σ ρ j0 (a1 + 1) = some r1) (er2 : X7_digitAt kf σ ρ j0 (a1 + 2) = some r2) (er3 : X7_digitAt kf σ ρ j0 (a1 + 3) = some r3) (er4 : X7_byteAt kf σ ρ j0 a1 = some r4) (b5 : r4 = 98) (er6 : X11_isBelow r1 8 = some 1) (hH : ∀ q, q ∉ LP → ∃ out, X1_learn (kfx kf q (kof r1) r2) σ ρ c2 q = some out) : Met l yX2_tell (.code yX2_tell cX2_tell 7 (some .int) :: UL) ({ frames := 5, cells := 1, slots := 1, locals := 105 }) (va_Pc [.ref (g.2.2 (29 + 2 * j0)), .int a1, .ref (g.2.2 c2)] (PreM lyC 48 g A (va_pl LP (skE kf)) σ ρ)) (QE g A (TellR g LP kf σ ρ c2 r1 r2)) 1 1 A := by
  refine e_of2 (by decide) (Nat.le_of_ble_eq_true rfl) ?_
  intro p e s m below meth c ls S hr hlk hnm hv hl
  have hM := Mem.of hv
  have hK := hv.2.1
  have hl : lv_has ls 7 [(0, .ref (g.2.2 (29 + 2 * j0))), (1, .int a1), (2, .ref (g.2.2 c2))] := hl
  refine lv_aload_n S.1 S.2.1 dX2_tell_0 rfl (lv_at hl 0 rfl) ?_
  refine lv_iload_n S.1 S.2.1 dX2_tell_1 rfl (lv_at hl 1 rfl) ?_
  refine lv_iconst (v := 1) S.1 S.2.1 dX2_tell_2 (by decide) ?_
  refine lv_iadd S.1 S.2.1 dX2_tell_3 ?_
  refine k_p (va_runV (As := [.int (a1 + 1)]) (rest := []) S (c_X7_digitAt hPL hj0 er1) (cwV 1 S.2.2.2.2 (ul_V tw_2_12 tw_2_13 tw_2_14 tw_1_3 cw_X7_digitAt) rfl rfl rfl hv_X7_digitAt ⟨Nat.le_of_ble_eq_true rfl, Nat.le_of_ble_eq_true rfl⟩) ⟨PreM.blind, hM.recv hK cfX7 (29 + 2 * j0) (sh_lt hj0) (ly_sh hj0), hM.pre hK⟩ rfl rfl hl.1 rfl (lv_room (Nat.le_of_ble_eq_true rfl)) dX2_tell_4 ⟨Nat.zero_le _, Nat.zero_le _⟩) ?_
  refine lv_istore_n (lv' := [(3, .int r1), (0, .ref (g.2.2 (29 + 2 * j0))), (1, .int a1), (2, .ref (g.2.2 c2))]) S.1 S.2.1 dX2_tell_7 rfl hl (by decide) rfl (fun ls hl => ?_)
  refine lv_aload_n S.1 S.2.1 dX2_tell_8 rfl (lv_at hl 1 rfl) ?_
  refine lv_iload_n S.1 S.2.1 dX2_tell_9 rfl (lv_at hl 2 rfl) ?_
  refine lv_iconst (v := 2) S.1 S.2.1 dX2_tell_10 (by decide) ?_
  refine lv_iadd S.1 S.2.1 dX2_tell_11 ?_
  refine k_p (va_runV (As := [.int (a1 + 2)]) (rest := []) S (c_X7_digitAt hPL hj0 er2) (cwV 1 S.2.2.2.2 (ul_V tw_2_12 tw_2_13 tw_2_14 tw_1_3 cw_X7_digitAt) rfl rfl rfl hv_X7_digitAt ⟨Nat.le_of_ble_eq_true rfl, Nat.le_of_ble_eq_true rfl⟩) ⟨PreM.blind, hM.recv hK cfX7 (29 + 2 * j0) (sh_lt hj0) (ly_sh hj0), hM.pre hK⟩ rfl rfl hl.1 rfl (lv_room (Nat.le_of_ble_eq_true rfl)) dX2_tell_12 ⟨Nat.zero_le _, Nat.zero_le _⟩) ?_
  refine lv_istore (lv' := [(4, .int r2), (3, .int r1), (0, .ref (g.2.2 (29 + 2 * j0))), (1, .int a1), (2, .ref (g.2.2 c2))]) S.1 S.2.1 dX2_tell_15 hl (by decide) rfl (fun ls hl => ?_)
  refine lv_aload_n S.1 S.2.1 dX2_tell_17 rfl (lv_at hl 2 rfl) ?_
  refine lv_iload_n S.1 S.2.1 dX2_tell_18 rfl (lv_at hl 3 rfl) ?_
  refine lv_iconst (v := 3) S.1 S.2.1 dX2_tell_19 (by decide) ?_
  refine lv_iadd S.1 S.2.1 dX2_tell_20 ?_
  refine k_p (va_runV (As := [.int (a1 + 3)]) (rest := []) S (c_X7_digitAt hPL hj0 er3) (cwV 1 S.2.2.2.2 (ul_V tw_2_12 tw_2_13 tw_2_14 tw_1_3 cw_X7_digitAt) rfl rfl rfl hv_X7_digitAt ⟨Nat.le_of_ble_eq_true rfl, Nat.le_of_ble_eq_true rfl⟩) ⟨PreM.blind, hM.recv hK cfX7 (29 + 2 * j0) (sh_lt hj0) (ly_sh hj0), hM.pre hK⟩ rfl rfl hl.1 rfl (lv_room (Nat.le_of_ble_eq_true rfl)) dX2_tell_21 ⟨Nat.zero_le _, Nat.zero_le _⟩) ?_
  refine lv_istore (lv' := [(5, .int r3), (4, .int r2), (3, .int r1), (0, .ref (g.2.2 (29 + 2 * j0))), (1, .int a1), (2, .ref (g.2.2 c2))]) S.1 S.2.1 dX2_tell_24 hl (by decide) rfl (fun ls hl => ?_)
  refine lv_aload_n S.1 S.2.1 dX2_tell_26 rfl (lv_at hl 3 rfl) ?_
  refine lv_iload_n S.1 S.2.1 dX2_tell_27 rfl (lv_at hl 4 rfl) ?_
  refine k_p (va_runV (As := [.int a1]) (rest := []) S (c_X7_byteAt hPL hj0 er4) (cwV 1 S.2.2.2.2 (ul_V tw_2_4 tw_2_5 tw_2_6 tw_1_3 cw_X7_byteAt) rfl rfl rfl hv_X7_byteAt ⟨Nat.le_of_ble_eq_true rfl, Nat.le_of_ble_eq_true rfl⟩) ⟨PreM.blind, hM.recv hK cfX7 (29 + 2 * j0) (sh_lt hj0) (ly_sh hj0), hM.pre hK⟩ rfl rfl hl.1 rfl (lv_room (Nat.le_of_ble_eq_true rfl)) dX2_tell_28 ⟨Nat.zero_le _, Nat.zero_le _⟩) ?_
  refine r_tab (off := 89) (tgt := 120) S dX2_tell_31 b5 (by decide) (by decide) ?_
  refine lv_iload_n S.1 S.2.1 dX2_tell_120 rfl (lv_at hl 2 rfl) ?_
  refine lv_bipush (v := 8) S.1 S.2.1 dX2_tell_121 (by decide) ?_
  refine k_p (va_runSN (As := [.int r1, .int 8]) (rest := []) S (c_X11_isBelow hPL er6) ⟨va_cnB 2 S.2.2.2.2 (ul_G (ul_c cw_X11_isBelow)) rfl rfl rfl (hK.2.1 _ (List.mem_of_getElem? (i := 4) rfl)) (S.2.2.2.2 _ tw_1_1) hs_X11_isBelow ⟨Nat.le_of_ble_eq_true rfl, Nat.le_of_ble_eq_true rfl⟩, S.2.2.2.2 _ tw_1_230, trivial⟩ ⟨PreM.blind, hM.pre hK⟩ rfl rfl hl.1 rfl (lv_room (Nat.le_of_ble_eq_true rfl)) dX2_tell_123 ⟨Nat.zero_le _, Nat.zero_le _⟩) ?_
  refine lv_if_eq (tgt := 142) S.1 S.2.1 dX2_tell_126 (by decide) (fun b => absurd b (by decide)) (fun _ => ?_)
  refine lv_aload_n S.1 S.2.1 dX2_tell_129 rfl (lv_at hl 5 rfl) ?_
  refine lv_iload_n S.1 S.2.1 dX2_tell_130 rfl (lv_at hl 2 rfl) ?_
  refine lv_iload S.1 S.2.1 dX2_tell_131 (lv_at hl 1 rfl) ?_
  refine k_e (va_runS (As := [.int r1, .int r2]) (rest := [.ref (g.2.2 c2)]) S (c_X9_of (kf := kf)) (va_cwS 2 S.2.2.2.2 (ul_S tw_2_31 tw_1_116 tw_1_4 cw_X9_of) rfl rfl rfl hs_X9_of ⟨Nat.le_of_ble_eq_true rfl, Nat.le_of_ble_eq_true rfl⟩) ⟨PreM.blind, hM.pre hK⟩ rfl rfl hl.1 rfl (lv_room (Nat.le_of_ble_eq_true rfl)) dX2_tell_133 ⟨Nat.le_of_ble_eq_true rfl, Nat.le_of_ble_eq_true rfl⟩) hM.w (fun o w H1 locs1 hw hM => ?_)
  obtain ⟨q, rfl, hq, rfl⟩ := hw
  have hM := hM.m
  have hPL1 := hPL.push (q := q) (v := r2) (kof_lt r1)
  obtain ⟨⟨r, σ', ρ'⟩, eo⟩ := hH q hq
  refine k_m (va_runV (As := [.ref q]) (rest := []) S (c_X1_learn hPL1 hc2 eo) (cwV 1 S.2.2.2.2 (ul_V tw_2_32 tw_2_33 tw_2_34 tw_1_2 cw_X1_learn) rfl rfl rfl hv_X1_learn ⟨Nat.le_of_ble_eq_true rfl, Nat.le_of_ble_eq_true rfl⟩) ⟨PreM.blind, hM.recv hK cfX1 c2 (ct_lt0 hc2) (ly_ct hc2), hM.pre hK⟩ rfl rfl hl.1 rfl (lv_room (Nat.le_of_ble_eq_true rfl)) dX2_tell_136 ⟨Nat.le_of_ble_eq_true rfl, Nat.le_of_ble_eq_true rfl⟩) hM (fun H locs hM => ?_)
  show W _ _ _ _ _ _ _ _ _ _ _ _ _ _ _ (F0 m 139 ls [.int r])
  refine lv_goto (tgt := 143) S.1 S.2.1 dX2_tell_139 (by decide) ?_
  exact z_ei S hM.w hr rfl hlk ⟨q, r, σ', ρ', rfl, hq, eo, rfl⟩ (Nat.le_of_ble_eq_true rfl) (Nat.le_of_ble_eq_true rfl) dX2_tell_143
