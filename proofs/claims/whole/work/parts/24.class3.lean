/-! X11_fewest -/
def X11_fewest (kf : KF) (σ : IM) (ρ : RM) (a1 : Int32) : Option (Int32 × IM × RM) := bd1 (X11_isBelow a1 2) fun r1 => if r1 = 0 then (some ((-1), σ, ρ)) else (if σ 1 8 = 0 then (some ((-3), σ, ρ)) else (bd1 (X1_firstScoring kf σ ρ 1) fun r4 => if r4 = (-4) then (bd3 (X11_firstOpening kf σ ρ) fun r8 σ6 ρ7 => if r8 = (-4) then (some ((-4), σ6, ρ7)) else (if a1 = 0 then (some (3, σ6, ρ7)) else (some (r8, σ6, ρ7)))) else (if a1 = 0 then (some (1, σ, ρ)) else (some (r4, σ, ρ)))))
set_option maxRecDepth 20000 in
theorem c_X11_fewest {l : Launch} {g : GE} {A : Nat → Prop} {LP : List Nat} {kf : KF} {σ : IM} {ρ : RM} {a1 : Int32} {out : Int32 × IM × RM} (hPL : PL LP kf) (hF : X11_fewest kf σ ρ a1 = some out) : Met l yX11_fewest (.code yX11_fewest cX11_fewest 4 (some .int) :: UL) ({ frames := 6, cells := 0, slots := 0, locals := 137 }) (va_Pc [.ref (g.2.2 0), .int a1] (PreM lyC 48 g A (va_pl LP (skE kf)) σ ρ)) (Qm lyC 48 g A (va_pl LP (skE kf)) out.2.1 out.2.2 (some (.int out.1))) 0 0 A := by
  refine e_of (by decide) (Nat.le_of_ble_eq_true rfl) ?_
  intro p e s m below meth c ls S hr hlk hv hl
  have hM := Mem.of hv
  have hK := hv.2.1
  have hl : lv_has ls 4 [(0, .ref (g.2.2 0)), (1, .int a1)] := hl
  unfold X11_fewest at hF
  refine lv_iload_n S.1 S.2.1 dX11_fewest_0 rfl (lv_at hl 1 rfl) ?_
  refine lv_iconst (v := 2) S.1 S.2.1 dX11_fewest_1 (by decide) ?_
  obtain ⟨r1, er1, hF⟩ := bd1_some hF
  refine k_p (va_runS (As := [.int a1, .int 2]) (rest := []) S (c_X11_isBelow hPL  er1) (va_cwS 2 S.2.2.2.2 (ul_S tw_1_229 tw_1_230 tw_1_1 cw_X11_isBelow) rfl rfl rfl hs_X11_isBelow ⟨Nat.le_of_ble_eq_true rfl, Nat.le_of_ble_eq_true rfl⟩) ⟨PreM.blind, hM.pre hK⟩ rfl rfl hl.1 rfl (lv_room (Nat.le_of_ble_eq_true rfl)) dX11_fewest_2 ⟨Nat.zero_le _, Nat.zero_le _⟩) ?_
  refine lv_if_ne (tgt := 10) S.1 S.2.1 dX11_fewest_5 (by decide) (fun b2 => ?_) (fun b2 => ?_)
  · have hF := (if_neg b2).symm.trans hF
    refine lv_aload_n S.1 S.2.1 dX11_fewest_10 rfl (lv_at hl 0 rfl) ?_
    refine r_getC S hK hM cfX11 0 0 1 (by decide) ly_0 rfl (by decide) tw_1_193 dX11_fewest_11 ?_
    refine r_getI S hK hM cfX1 1 8 (ct_lt0 ct_1) (ly_ct ct_1) rfl (by decide) tw_1_56 dX11_fewest_14 ?_
    refine lv_if_ne (tgt := 23) S.1 S.2.1 dX11_fewest_17 (by decide) (fun b3 => ?_) (fun b3 => ?_)
    · have hF := (if_neg b3).symm.trans hF
      refine lv_aload_n S.1 S.2.1 dX11_fewest_23 rfl (lv_at hl 0 rfl) ?_
      refine r_getC S hK hM cfX11 0 0 1 (by decide) ly_0 rfl (by decide) tw_1_193 dX11_fewest_24 ?_
      obtain ⟨r4, er4, hF⟩ := bd1_some hF
      refine k_p (va_runV (As := []) (rest := []) S (c_X1_firstScoring hPL ct_1 er4) (cwV 0 S.2.2.2.2 (ul_V tw_3_84 tw_3_85 tw_3_86 tw_1_2 cw_X1_firstScoring) rfl rfl rfl hv_X1_firstScoring ⟨Nat.le_of_ble_eq_true rfl, Nat.le_of_ble_eq_true rfl⟩) ⟨PreM.blind, hM.recv hK cfX1 1 (ct_lt0 ct_1) (ly_ct ct_1), hM.pre hK⟩ rfl rfl hl.1 rfl (lv_room (Nat.le_of_ble_eq_true rfl)) dX11_fewest_27 ⟨Nat.zero_le _, Nat.zero_le _⟩) ?_
      refine lv_istore_n (lv' := [(2, .int r4), (0, .ref (g.2.2 0)), (1, .int a1)]) S.1 S.2.1 dX11_fewest_30 rfl hl (by decide) rfl (fun ls hl => ?_)
      refine lv_iload_n S.1 S.2.1 dX11_fewest_31 rfl (lv_at hl 0 rfl) ?_
      refine lv_bipush (v := (-4)) S.1 S.2.1 dX11_fewest_32 (by decide) ?_
      refine lv_icmp_eq (tgt := 47) S.1 S.2.1 dX11_fewest_34 (by decide) (fun b5 => ?_) (fun b5 => ?_)
      · have hF := (if_pos b5).symm.trans hF
        refine lv_aload_n S.1 S.2.1 dX11_fewest_47 rfl (lv_at hl 1 rfl) ?_
        obtain ⟨r8, σ6, ρ7, er8, hF⟩ := bd3_some hF
        refine k_m (va_runV (As := []) (rest := []) S (c_X11_firstOpening hPL  er8) (cwV 0 S.2.2.2.2 (ul_V tw_3_106 tw_3_108 ts_X11_firstOpening tw_1_1 cw_X11_firstOpening) rfl rfl rfl hv_X11_firstOpening ⟨Nat.le_of_ble_eq_true rfl, Nat.le_of_ble_eq_true rfl⟩) ⟨PreM.blind, hM.recv hK cfX11 0 (by decide) ly_0, hM.pre hK⟩ rfl rfl hl.1 rfl (lv_room (Nat.le_of_ble_eq_true rfl)) dX11_fewest_48 ⟨Nat.zero_le _, Nat.zero_le _⟩) hM (fun H locs hM => ?_)
        show W _ _ _ _ _ _ _ _ _ _ _ _ _ _ _ (F0 m 51 ls [.int r8])
        refine lv_istore_n (lv' := [(3, .int r8), (2, .int r4), (0, .ref (g.2.2 0)), (1, .int a1)]) S.1 S.2.1 dX11_fewest_51 rfl hl (by decide) rfl (fun ls hl => ?_)
        refine lv_iload_n S.1 S.2.1 dX11_fewest_52 rfl (lv_at hl 0 rfl) ?_
        refine lv_bipush (v := (-4)) S.1 S.2.1 dX11_fewest_53 (by decide) ?_
        refine lv_icmp_ne (tgt := 61) S.1 S.2.1 dX11_fewest_55 (by decide) (fun b9 => ?_) (fun b9 => ?_)
        · have hF := (if_neg b9).symm.trans hF
          refine lv_iload_n S.1 S.2.1 dX11_fewest_61 rfl (lv_at hl 3 rfl) ?_
          refine lv_if_ne (tgt := 69) S.1 S.2.1 dX11_fewest_62 (by decide) (fun b10 => ?_) (fun b10 => ?_)
          · have hF := (if_neg b10).symm.trans hF
            refine lv_iload_n S.1 S.2.1 dX11_fewest_69 rfl (lv_at hl 0 rfl) ?_
            cases hF
            exact z_m (v := r8) S hM hr hlk rfl dX11_fewest_70
          · have hF := (if_pos b10).symm.trans hF
            refine lv_iconst (v := 3) S.1 S.2.1 dX11_fewest_65 (by decide) ?_
            refine lv_goto (tgt := 70) S.1 S.2.1 dX11_fewest_66 (by decide) ?_
            cases hF
            exact z_m (v := 3) S hM hr hlk rfl dX11_fewest_70
        · have hF := (if_pos b9).symm.trans hF
          refine lv_bipush (v := (-4)) S.1 S.2.1 dX11_fewest_58 (by decide) ?_
          cases hF
          exact z_m (v := (-4)) S hM hr hlk rfl dX11_fewest_60
      · have hF := (if_neg b5).symm.trans hF
        refine lv_iload_n S.1 S.2.1 dX11_fewest_37 rfl (lv_at hl 2 rfl) ?_
        refine lv_if_ne (tgt := 45) S.1 S.2.1 dX11_fewest_38 (by decide) (fun b11 => ?_) (fun b11 => ?_)
        · have hF := (if_neg b11).symm.trans hF
          refine lv_iload_n S.1 S.2.1 dX11_fewest_45 rfl (lv_at hl 0 rfl) ?_
          cases hF
          exact z_m (v := r4) S hM hr hlk rfl dX11_fewest_46
        · have hF := (if_pos b11).symm.trans hF
          refine lv_iconst (v := 1) S.1 S.2.1 dX11_fewest_41 (by decide) ?_
          refine lv_goto (tgt := 46) S.1 S.2.1 dX11_fewest_42 (by decide) ?_
          cases hF
          exact z_m (v := 1) S hM hr hlk rfl dX11_fewest_46
    · have hF := (if_pos b3).symm.trans hF
      refine lv_bipush (v := (-3)) S.1 S.2.1 dX11_fewest_20 (by decide) ?_
      cases hF
      exact z_m (v := (-3)) S hM hr hlk rfl dX11_fewest_22
  · have hF := (if_pos b2).symm.trans hF
    refine lv_iconst (v := (-1)) S.1 S.2.1 dX11_fewest_8 (by decide) ?_
    cases hF
    exact z_m (v := (-1)) S hM hr hlk rfl dX11_fewest_9
/-! X11_isBroken -/
def X11_isBroken (kf : KF) (σ : IM) (ρ : RM) (a1 : Int32) : Option (Int32 × IM × RM) := bd3 (X1_strike kf σ ρ 10 0 a1) fun r3 σ1 ρ2 => if r3 = 0 then (bd3 (X1_strike kf σ1 ρ2 10 0 4) fun r7 σ5 ρ6 => if r7 = 0 then (bd3 (X1_strike kf σ5 ρ6 10 0 (8 - a1)) fun r11 σ9 ρ10 => bz r11 <| some (r11, σ9, ρ10)) else (some (0, σ5, ρ6))) else (some (1, σ1, ρ2))
set_option maxRecDepth 20000 in
theorem c_X11_isBroken {l : Launch} {g : GE} {A : Nat → Prop} {LP : List Nat} {kf : KF} {σ : IM} {ρ : RM} {a1 : Int32} {out : Int32 × IM × RM} (hPL : PL LP kf) (hF : X11_isBroken kf σ ρ a1 = some out) : Met l yX11_isBroken (.code yX11_isBroken cX11_isBroken 2 (some .boolean) :: UL) ({ frames := 4, cells := 0, slots := 0, locals := 100 }) (va_Pc [.ref (g.2.2 0), .int a1] (PreM lyC 48 g A (va_pl LP (skE kf)) σ ρ)) (Qm lyC 48 g A (va_pl LP (skE kf)) out.2.1 out.2.2 (some (.int out.1))) 0 0 A := by
  refine e_of (by decide) (Nat.le_of_ble_eq_true rfl) ?_
  intro p e s m below meth c ls S hr hlk hv hl
  have hM := Mem.of hv
  have hK := hv.2.1
  have hl : lv_has ls 2 [(0, .ref (g.2.2 0)), (1, .int a1)] := hl
  unfold X11_isBroken at hF
  refine lv_aload_n S.1 S.2.1 dX11_isBroken_0 rfl (lv_at hl 0 rfl) ?_
  refine r_getC S hK hM cfX11 0 1 10 (by decide) ly_0 rfl (by decide) tw_1_194 dX11_isBroken_1 ?_
  refine lv_iconst (v := 0) S.1 S.2.1 dX11_isBroken_4 (by decide) ?_
  refine lv_iload_n S.1 S.2.1 dX11_isBroken_5 rfl (lv_at hl 1 rfl) ?_
  obtain ⟨r3, σ1, ρ2, er3, hF⟩ := bd3_some hF
  refine k_m (va_runV (As := [.int 0, .int a1]) (rest := []) S (c_X1_strike hPL ct_10 er3) (cwV 2 S.2.2.2.2 (ul_V tw_3_49 tw_2_73 tw_2_74 tw_1_2 cw_X1_strike) rfl rfl rfl hv_X1_strike ⟨Nat.le_of_ble_eq_true rfl, Nat.le_of_ble_eq_true rfl⟩) ⟨PreM.blind, hM.recv hK cfX1 10 (ct_lt0 ct_10) (ly_ct ct_10), hM.pre hK⟩ rfl rfl hl.1 rfl (lv_room (Nat.le_of_ble_eq_true rfl)) dX11_isBroken_6 ⟨Nat.zero_le _, Nat.zero_le _⟩) hM (fun H locs hM => ?_)
  show W _ _ _ _ _ _ _ _ _ _ _ _ _ _ _ (F0 m 9 ls [.int r3])
  refine lv_if_eq (tgt := 14) S.1 S.2.1 dX11_isBroken_9 (by decide) (fun b4 => ?_) (fun b4 => ?_)
  · have hF := (if_pos b4).symm.trans hF
    refine lv_aload_n S.1 S.2.1 dX11_isBroken_14 rfl (lv_at hl 0 rfl) ?_
    refine r_getC S hK hM cfX11 0 1 10 (by decide) ly_0 rfl (by decide) tw_1_194 dX11_isBroken_15 ?_
    refine lv_iconst (v := 0) S.1 S.2.1 dX11_isBroken_18 (by decide) ?_
    refine lv_iconst (v := 4) S.1 S.2.1 dX11_isBroken_19 (by decide) ?_
    obtain ⟨r7, σ5, ρ6, er7, hF⟩ := bd3_some hF
    refine k_m (va_runV (As := [.int 0, .int 4]) (rest := []) S (c_X1_strike hPL ct_10 er7) (cwV 2 S.2.2.2.2 (ul_V tw_3_49 tw_2_73 tw_2_74 tw_1_2 cw_X1_strike) rfl rfl rfl hv_X1_strike ⟨Nat.le_of_ble_eq_true rfl, Nat.le_of_ble_eq_true rfl⟩) ⟨PreM.blind, hM.recv hK cfX1 10 (ct_lt0 ct_10) (ly_ct ct_10), hM.pre hK⟩ rfl rfl hl.1 rfl (lv_room (Nat.le_of_ble_eq_true rfl)) dX11_isBroken_20 ⟨Nat.zero_le _, Nat.zero_le _⟩) hM (fun H locs hM => ?_)
    show W _ _ _ _ _ _ _ _ _ _ _ _ _ _ _ (F0 m 23 ls [.int r7])
    refine lv_if_eq (tgt := 28) S.1 S.2.1 dX11_isBroken_23 (by decide) (fun b8 => ?_) (fun b8 => ?_)
    · have hF := (if_pos b8).symm.trans hF
      refine lv_aload_n S.1 S.2.1 dX11_isBroken_28 rfl (lv_at hl 0 rfl) ?_
      refine r_getC S hK hM cfX11 0 1 10 (by decide) ly_0 rfl (by decide) tw_1_194 dX11_isBroken_29 ?_
      refine lv_iconst (v := 0) S.1 S.2.1 dX11_isBroken_32 (by decide) ?_
      refine lv_bipush (v := 8) S.1 S.2.1 dX11_isBroken_33 (by decide) ?_
      refine lv_iload_n S.1 S.2.1 dX11_isBroken_35 rfl (lv_at hl 1 rfl) ?_
      refine lv_isub S.1 S.2.1 dX11_isBroken_36 ?_
      obtain ⟨r11, σ9, ρ10, er11, hF⟩ := bd3_some hF
      refine k_m (va_runV (As := [.int 0, .int (8 - a1)]) (rest := []) S (c_X1_strike hPL ct_10 er11) (cwV 2 S.2.2.2.2 (ul_V tw_3_49 tw_2_73 tw_2_74 tw_1_2 cw_X1_strike) rfl rfl rfl hv_X1_strike ⟨Nat.le_of_ble_eq_true rfl, Nat.le_of_ble_eq_true rfl⟩) ⟨PreM.blind, hM.recv hK cfX1 10 (ct_lt0 ct_10) (ly_ct ct_10), hM.pre hK⟩ rfl rfl hl.1 rfl (lv_room (Nat.le_of_ble_eq_true rfl)) dX11_isBroken_37 ⟨Nat.zero_le _, Nat.zero_le _⟩) hM (fun H locs hM => ?_)
      show W _ _ _ _ _ _ _ _ _ _ _ _ _ _ _ (F0 m 40 ls [.int r11])
      obtain ⟨h12, hF⟩ := bz_some hF
      cases hF
      exact z_m (v := r11) S hM hr hlk h12 dX11_isBroken_40
    · have hF := (if_neg b8).symm.trans hF
      refine lv_iconst (v := 0) S.1 S.2.1 dX11_isBroken_26 (by decide) ?_
      cases hF
      exact z_m (v := 0) S hM hr hlk rfl dX11_isBroken_27
  · have hF := (if_neg b4).symm.trans hF
    refine lv_iconst (v := 1) S.1 S.2.1 dX11_isBroken_12 (by decide) ?_
    cases hF
    exact z_m (v := 1) S hM hr hlk rfl dX11_isBroken_13
/-! X11_cellsHeld -/
def X11_cellsHeld_b57 (kf : KF) (k6 : Int32 → Int32 → Int32 → Int32 → Int32 → IM → RM → Option (Int32 × IM × RM)) (x1 : Int32) (x2 : Int32) (x3 : Int32) (x4 : Int32) (x5 : Int32) (σ : IM) (ρ : RM) : Option (Int32 × IM × RM) := bd (x5 + 1) fun v16 => k6 x1 x2 x3 x4 v16 σ ρ
set_option maxRecDepth 20000 in
theorem w_X11_cellsHeld_57 {l : Launch} {g : GE} {A : Nat → Prop} {LP : List Nat} {kf : KF} (hPL : PL LP kf) {p : Program} {e : Env} {s : State} {m : MethodId} {args : Array Value} {below : List Frame} {meth : Method} {c : Code} (S : CallFix p m c cX11_cellsHeld 6 s args UL RX11) (hK : KK g s) (hr : meth.sig.returnType = (some .int)) (hlk : meth.locks = false) {out : Int32 × IM × RM} {k6 : Int32 → Int32 → Int32 → Int32 → Int32 → IM → RM → Option (Int32 × IM × RM)} (hk6 : ∀ {x1 : Int32} {x2 : Int32} {x3 : Int32} {x4 : Int32} {x5 : Int32} {σ : IM} {ρ : RM} {H : Heap} {locs : List Loc} {ls : Array Slot}, Mem lyC 48 g A (va_pl LP (skE kf)) σ ρ s.heap H locs → lv_has ls 6 [(0, .ref (g.2.2 0)), (1, .int x1), (2, .int x2), (3, .int x3), (4, .int x4), (5, .int x5)] → k6 x1 x2 x3 x4 x5 σ ρ = some out → W p l e ({ frames := 5, cells := 0, slots := 0, locals := 121 }) s m args below meth c H locs 0 0 (MQ below (Qm lyC 48 g A (va_pl LP (skE kf)) out.2.1 out.2.2 (some (.int out.1))) args s 0 0 A) (F0 m 6 ls [])) : ∀ {x1 : Int32} {x2 : Int32} {x3 : Int32} {x4 : Int32} {x5 : Int32} {σ : IM} {ρ : RM} {H : Heap} {locs : List Loc} {ls : Array Slot}, Mem lyC 48 g A (va_pl LP (skE kf)) σ ρ s.heap H locs → lv_has ls 6 [(0, .ref (g.2.2 0)), (1, .int x1), (2, .int x2), (3, .int x3), (4, .int x4), (5, .int x5)] → X11_cellsHeld_b57 kf k6 x1 x2 x3 x4 x5 σ ρ = some out → W p l e ({ frames := 5, cells := 0, slots := 0, locals := 121 }) s m args below meth c H locs 0 0 (MQ below (Qm lyC 48 g A (va_pl LP (skE kf)) out.2.1 out.2.2 (some (.int out.1))) args s 0 0 A) (F0 m 57 ls []) := by
  intro x1 x2 x3 x4 x5 σ ρ H locs ls hM hl hF
  unfold X11_cellsHeld_b57 at hF
  obtain ⟨v16, ev16, hF⟩ := bd_some hF
  refine lv_iinc (v := v16) (lv' := [(5, .int v16), (0, .ref (g.2.2 0)), (1, .int x1), (2, .int x2), (3, .int x3), (4, .int x4)]) S.1 S.2.1 dX11_cellsHeld_57 hl (k := 5) rfl (by rw [ev16]; rfl) (by decide) rfl (fun ls hl => ?_)
  refine lv_goto (tgt := 6) S.1 S.2.1 dX11_cellsHeld_60 (by decide) ?_
  exact hk6 hM (lv_sub hl [1, 2, 3, 4, 5, 0] rfl)  hF
def X11_cellsHeld_s6 (kf : KF) (k6 : Int32 → Int32 → Int32 → Int32 → Int32 → IM → RM → Option (Int32 × IM × RM)) (x1 : Int32) (x2 : Int32) (x3 : Int32) (x4 : Int32) (x5 : Int32) (σ : IM) (ρ : RM) : Option (Int32 × IM × RM) := if 9 ≤ x5 then (some (x4, σ, ρ)) else (bd2 (X1_become kf σ ρ 10 1) fun σ2 ρ3 => bd3 (X1_adopt kf σ2 ρ3 10 x1 x2 x3) fun r7 σ5 ρ6 => bd2 (X1_giveTo kf σ5 ρ6 10 (1 - x1)) fun σ8 ρ9 => bd3 (X11_isBroken kf σ8 ρ9 x5) fun r13 σ11 ρ12 => if r13 = 0 then (bd (x4 + 1) fun v15 => X11_cellsHeld_b57 kf k6 x1 x2 x3 v15 x5 σ11 ρ12) else (X11_cellsHeld_b57 kf k6 x1 x2 x3 x4 x5 σ11 ρ12))
def X11_cellsHeld_b6 (kf : KF) : Nat → Int32 → Int32 → Int32 → Int32 → Int32 → IM → RM → Option (Int32 × IM × RM)
  | 0 => fun _ _ _ _ _ _ _ => none
  | n + 1 => X11_cellsHeld_s6 kf (X11_cellsHeld_b6 kf n)
set_option maxRecDepth 20000 in
theorem w_X11_cellsHeld_6 {l : Launch} {g : GE} {A : Nat → Prop} {LP : List Nat} {kf : KF} (hPL : PL LP kf) {p : Program} {e : Env} {s : State} {m : MethodId} {args : Array Value} {below : List Frame} {meth : Method} {c : Code} (S : CallFix p m c cX11_cellsHeld 6 s args UL RX11) (hK : KK g s) (hr : meth.sig.returnType = (some .int)) (hlk : meth.locks = false) {out : Int32 × IM × RM} {k6 : Int32 → Int32 → Int32 → Int32 → Int32 → IM → RM → Option (Int32 × IM × RM)} (hk6 : ∀ {x1 : Int32} {x2 : Int32} {x3 : Int32} {x4 : Int32} {x5 : Int32} {σ : IM} {ρ : RM} {H : Heap} {locs : List Loc} {ls : Array Slot}, Mem lyC 48 g A (va_pl LP (skE kf)) σ ρ s.heap H locs → lv_has ls 6 [(0, .ref (g.2.2 0)), (1, .int x1), (2, .int x2), (3, .int x3), (4, .int x4), (5, .int x5)] → k6 x1 x2 x3 x4 x5 σ ρ = some out → W p l e ({ frames := 5, cells := 0, slots := 0, locals := 121 }) s m args below meth c H locs 0 0 (MQ below (Qm lyC 48 g A (va_pl LP (skE kf)) out.2.1 out.2.2 (some (.int out.1))) args s 0 0 A) (F0 m 6 ls [])) : ∀ {x1 : Int32} {x2 : Int32} {x3 : Int32} {x4 : Int32} {x5 : Int32} {σ : IM} {ρ : RM} {H : Heap} {locs : List Loc} {ls : Array Slot}, Mem lyC 48 g A (va_pl LP (skE kf)) σ ρ s.heap H locs → lv_has ls 6 [(0, .ref (g.2.2 0)), (1, .int x1), (2, .int x2), (3, .int x3), (4, .int x4), (5, .int x5)] → X11_cellsHeld_s6 kf k6 x1 x2 x3 x4 x5 σ ρ = some out → W p l e ({ frames := 5, cells := 0, slots := 0, locals := 121 }) s m args below meth c H locs 0 0 (MQ below (Qm lyC 48 g A (va_pl LP (skE kf)) out.2.1 out.2.2 (some (.int out.1))) args s 0 0 A) (F0 m 6 ls []) := by
  intro x1 x2 x3 x4 x5 σ ρ H locs ls hM hl hF
  unfold X11_cellsHeld_s6 at hF
  refine lv_iload S.1 S.2.1 dX11_cellsHeld_6 (lv_at hl 5 rfl) ?_
  refine lv_bipush (v := 9) S.1 S.2.1 dX11_cellsHeld_8 (by decide) ?_
  refine lv_icmp_ge (tgt := 63) S.1 S.2.1 dX11_cellsHeld_10 (by decide) (fun b1 => ?_) (fun b1 => ?_)
  · have hF := (if_pos b1).symm.trans hF
    refine lv_iload S.1 S.2.1 dX11_cellsHeld_63 (lv_at hl 4 rfl) ?_
    cases hF
    exact z_m (v := x4) S hM hr hlk rfl dX11_cellsHeld_65
  · have hF := (if_neg b1).symm.trans hF
    refine lv_aload_n S.1 S.2.1 dX11_cellsHeld_13 rfl (lv_at hl 0 rfl) ?_
    refine r_getC S hK hM cfX11 0 1 10 (by decide) ly_0 rfl (by decide) tw_1_194 dX11_cellsHeld_14 ?_
    refine lv_aload_n S.1 S.2.1 dX11_cellsHeld_17 rfl (lv_at hl 0 rfl) ?_
    refine r_getC S hK hM cfX11 0 0 1 (by decide) ly_0 rfl (by decide) tw_1_193 dX11_cellsHeld_18 ?_
    obtain ⟨σ2, ρ3, er4, hF⟩ := bd2_some hF
    refine k_m (va_runV (As := [.ref (g.2.2 1)]) (rest := []) S (c_X1_become hPL ct_10 ct_1 er4) (cwV 1 S.2.2.2.2 (ul_V tw_2_18 tw_2_19 tw_2_20 tw_1_2 cw_X1_become) rfl rfl rfl hv_X1_become ⟨Nat.le_of_ble_eq_true rfl, Nat.le_of_ble_eq_true rfl⟩) ⟨PreM.blind, hM.recv hK cfX1 10 (ct_lt0 ct_10) (ly_ct ct_10), hM.pre hK⟩ rfl rfl hl.1 rfl (lv_room (Nat.le_of_ble_eq_true rfl)) dX11_cellsHeld_21 ⟨Nat.zero_le _, Nat.zero_le _⟩) hM (fun H locs hM => ?_)
    show W _ _ _ _ _ _ _ _ _ _ _ _ _ _ _ (F0 m 24 ls [])
    refine lv_aload_n S.1 S.2.1 dX11_cellsHeld_24 rfl (lv_at hl 0 rfl) ?_
    refine r_getC S hK hM cfX11 0 1 10 (by decide) ly_0 rfl (by decide) tw_1_194 dX11_cellsHeld_25 ?_
    refine lv_iload_n S.1 S.2.1 dX11_cellsHeld_28 rfl (lv_at hl 1 rfl) ?_
    refine lv_iload_n S.1 S.2.1 dX11_cellsHeld_29 rfl (lv_at hl 2 rfl) ?_
    refine lv_iload_n S.1 S.2.1 dX11_cellsHeld_30 rfl (lv_at hl 3 rfl) ?_
    obtain ⟨r7, σ5, ρ6, er7, hF⟩ := bd3_some hF
    refine k_m (va_runV (As := [.int x1, .int x2, .int x3]) (rest := []) S (c_X1_adopt hPL ct_10 er7) (cwV 3 S.2.2.2.2 (ul_V tw_3_38 tw_2_50 tw_2_51 tw_1_2 cw_X1_adopt) rfl rfl rfl hv_X1_adopt ⟨Nat.le_of_ble_eq_true rfl, Nat.le_of_ble_eq_true rfl⟩) ⟨PreM.blind, hM.recv hK cfX1 10 (ct_lt0 ct_10) (ly_ct ct_10), hM.pre hK⟩ rfl rfl hl.1 rfl (lv_room (Nat.le_of_ble_eq_true rfl)) dX11_cellsHeld_31 ⟨Nat.zero_le _, Nat.zero_le _⟩) hM (fun H locs hM => ?_)
    show W _ _ _ _ _ _ _ _ _ _ _ _ _ _ _ (F0 m 34 ls [.int r7])
    refine lv_pop S.1 S.2.1 dX11_cellsHeld_34 rfl ?_
    refine lv_aload_n S.1 S.2.1 dX11_cellsHeld_35 rfl (lv_at hl 0 rfl) ?_
    refine r_getC S hK hM cfX11 0 1 10 (by decide) ly_0 rfl (by decide) tw_1_194 dX11_cellsHeld_36 ?_
    refine lv_iconst (v := 1) S.1 S.2.1 dX11_cellsHeld_39 (by decide) ?_
    refine lv_iload_n S.1 S.2.1 dX11_cellsHeld_40 rfl (lv_at hl 1 rfl) ?_
    refine lv_isub S.1 S.2.1 dX11_cellsHeld_41 ?_
    obtain ⟨σ8, ρ9, er10, hF⟩ := bd2_some hF
    refine k_m (va_runV (As := [.int (1 - x1)]) (rest := []) S (c_X1_giveTo hPL ct_10 er10) (cwV 1 S.2.2.2.2 (ul_V tw_3_123 tw_3_124 tw_3_125 tw_1_2 cw_X1_giveTo) rfl rfl rfl hv_X1_giveTo ⟨Nat.le_of_ble_eq_true rfl, Nat.le_of_ble_eq_true rfl⟩) ⟨PreM.blind, hM.recv hK cfX1 10 (ct_lt0 ct_10) (ly_ct ct_10), hM.pre hK⟩ rfl rfl hl.1 rfl (lv_room (Nat.le_of_ble_eq_true rfl)) dX11_cellsHeld_42 ⟨Nat.zero_le _, Nat.zero_le _⟩) hM (fun H locs hM => ?_)
    show W _ _ _ _ _ _ _ _ _ _ _ _ _ _ _ (F0 m 45 ls [])
    refine lv_aload_n S.1 S.2.1 dX11_cellsHeld_45 rfl (lv_at hl 0 rfl) ?_
    refine lv_iload S.1 S.2.1 dX11_cellsHeld_46 (lv_at hl 5 rfl) ?_
    obtain ⟨r13, σ11, ρ12, er13, hF⟩ := bd3_some hF
    refine k_m (va_runV (As := [.int x5]) (rest := []) S (c_X11_isBroken hPL  er13) (cwV 1 S.2.2.2.2 (ul_V tw_3_127 tw_3_129 ts_X11_isBroken tw_1_1 cw_X11_isBroken) rfl rfl rfl hv_X11_isBroken ⟨Nat.le_of_ble_eq_true rfl, Nat.le_of_ble_eq_true rfl⟩) ⟨PreM.blind, hM.recv hK cfX11 0 (by decide) ly_0, hM.pre hK⟩ rfl rfl hl.1 rfl (lv_room (Nat.le_of_ble_eq_true rfl)) dX11_cellsHeld_48 ⟨Nat.zero_le _, Nat.zero_le _⟩) hM (fun H locs hM => ?_)
    show W _ _ _ _ _ _ _ _ _ _ _ _ _ _ _ (F0 m 51 ls [.int r13])
    refine lv_if_ne (tgt := 57) S.1 S.2.1 dX11_cellsHeld_51 (by decide) (fun b14 => ?_) (fun b14 => ?_)
    · have hF := (if_neg b14).symm.trans hF
      exact w_X11_cellsHeld_57 hPL S hK hr hlk hk6 hM (lv_sub hl [0, 1, 2, 3, 4, 5] rfl) hF
    · have hF := (if_pos b14).symm.trans hF
      obtain ⟨v15, ev15, hF⟩ := bd_some hF
      refine lv_iinc (v := v15) (lv' := [(4, .int v15), (0, .ref (g.2.2 0)), (1, .int x1), (2, .int x2), (3, .int x3), (5, .int x5)]) S.1 S.2.1 dX11_cellsHeld_54 hl (k := 4) rfl (by rw [ev15]; rfl) (by decide) rfl (fun ls hl => ?_)
      exact w_X11_cellsHeld_57 hPL S hK hr hlk hk6 hM (lv_sub hl [1, 2, 3, 4, 0, 5] rfl) hF
theorem wl_X11_cellsHeld_6 {l : Launch} {g : GE} {A : Nat → Prop} {LP : List Nat} {kf : KF} (hPL : PL LP kf) {p : Program} {e : Env} {s : State} {m : MethodId} {args : Array Value} {below : List Frame} {meth : Method} {c : Code} (S : CallFix p m c cX11_cellsHeld 6 s args UL RX11) (hK : KK g s) (hr : meth.sig.returnType = (some .int)) (hlk : meth.locks = false) {out : Int32 × IM × RM} : ∀ (n : Nat) {x1 : Int32} {x2 : Int32} {x3 : Int32} {x4 : Int32} {x5 : Int32} {σ : IM} {ρ : RM} {H : Heap} {locs : List Loc} {ls : Array Slot}, Mem lyC 48 g A (va_pl LP (skE kf)) σ ρ s.heap H locs → lv_has ls 6 [(0, .ref (g.2.2 0)), (1, .int x1), (2, .int x2), (3, .int x3), (4, .int x4), (5, .int x5)] → X11_cellsHeld_b6 kf n x1 x2 x3 x4 x5 σ ρ = some out → W p l e ({ frames := 5, cells := 0, slots := 0, locals := 121 }) s m args below meth c H locs 0 0 (MQ below (Qm lyC 48 g A (va_pl LP (skE kf)) out.2.1 out.2.2 (some (.int out.1))) args s 0 0 A) (F0 m 6 ls []) := by
  intro n
  induction n with
  | zero =>
    intro x1 x2 x3 x4 x5 σ ρ H locs ls hM hl hF
    cases hF
  | succ n ih =>
    intro x1 x2 x3 x4 x5 σ ρ H locs ls hM hl hF
    exact w_X11_cellsHeld_6 hPL S hK hr hlk ih hM hl hF
def X11_cellsHeld (kf : KF) (σ : IM) (ρ : RM) (a1 : Int32) (a2 : Int32) (a3 : Int32) : Option (Int32 × IM × RM) := X11_cellsHeld_b6 kf 1000 a1 a2 a3 0 0 σ ρ
set_option maxRecDepth 20000 in
theorem c_X11_cellsHeld {l : Launch} {g : GE} {A : Nat → Prop} {LP : List Nat} {kf : KF} {σ : IM} {ρ : RM} {a1 : Int32} {a2 : Int32} {a3 : Int32} {out : Int32 × IM × RM} (hPL : PL LP kf) (hF : X11_cellsHeld kf σ ρ a1 a2 a3 = some out) : Met l yX11_cellsHeld (.code yX11_cellsHeld cX11_cellsHeld 6 (some .int) :: UL) ({ frames := 5, cells := 0, slots := 0, locals := 121 }) (va_Pc [.ref (g.2.2 0), .int a1, .int a2, .int a3] (PreM lyC 48 g A (va_pl LP (skE kf)) σ ρ)) (Qm lyC 48 g A (va_pl LP (skE kf)) out.2.1 out.2.2 (some (.int out.1))) 0 0 A := by
  refine e_of (by decide) (Nat.le_of_ble_eq_true rfl) ?_
  intro p e s m below meth c ls S hr hlk hv hl
  have hM := Mem.of hv
  have hK := hv.2.1
  have hl : lv_has ls 6 [(0, .ref (g.2.2 0)), (1, .int a1), (2, .int a2), (3, .int a3)] := hl
  unfold X11_cellsHeld at hF
  refine lv_iconst (v := 0) S.1 S.2.1 dX11_cellsHeld_0 (by decide) ?_
  refine lv_istore (lv' := [(4, .int 0), (0, .ref (g.2.2 0)), (1, .int a1), (2, .int a2), (3, .int a3)]) S.1 S.2.1 dX11_cellsHeld_1 hl (by decide) rfl (fun ls hl => ?_)
  refine lv_iconst (v := 0) S.1 S.2.1 dX11_cellsHeld_3 (by decide) ?_
  refine lv_istore (lv' := [(5, .int 0), (4, .int 0), (0, .ref (g.2.2 0)), (1, .int a1), (2, .int a2), (3, .int a3)]) S.1 S.2.1 dX11_cellsHeld_4 hl (by decide) rfl (fun ls hl => ?_)
  exact wl_X11_cellsHeld_6 hPL S hK hr hlk 1000 hM (lv_sub hl [2, 3, 4, 5, 1, 0] rfl) hF
/-! X11_bestTrait -/
def X11_bestTrait_b74 (kf : KF) (k40 : Int32 → Int32 → Int32 → Int32 → Int32 → Int32 → IM → RM → Option (Int32 × IM × RM)) (x1 : Int32) (x2 : Int32) (x3 : Int32) (x4 : Int32) (x5 : Int32) (x6 : Int32) (σ : IM) (ρ : RM) : Option (Int32 × IM × RM) := bd (x6 + 1) fun v13 => k40 x1 x2 x3 x4 x5 v13 σ ρ
set_option maxRecDepth 20000 in
theorem w_X11_bestTrait_74 {l : Launch} {g : GE} {A : Nat → Prop} {LP : List Nat} {kf : KF} (hPL : PL LP kf) {p : Program} {e : Env} {s : State} {m : MethodId} {args : Array Value} {below : List Frame} {meth : Method} {c : Code} (S : CallFix p m c cX11_bestTrait 8 s args UL RX11) (hK : KK g s) (hr : meth.sig.returnType = (some .int)) (hlk : meth.locks = false) {out : Int32 × IM × RM} {k40 : Int32 → Int32 → Int32 → Int32 → Int32 → Int32 → IM → RM → Option (Int32 × IM × RM)} (hk40 : ∀ {x1 : Int32} {x2 : Int32} {x3 : Int32} {x4 : Int32} {x5 : Int32} {x6 : Int32} {σ : IM} {ρ : RM} {H : Heap} {locs : List Loc} {ls : Array Slot}, Mem lyC 48 g A (va_pl LP (skE kf)) σ ρ s.heap H locs → lv_has ls 8 [(0, .ref (g.2.2 0)), (1, .int x1), (2, .int x2), (3, .int x3), (4, .int x4), (5, .int x5), (6, .int x6)] → k40 x1 x2 x3 x4 x5 x6 σ ρ = some out → W p l e ({ frames := 6, cells := 0, slots := 0, locals := 146 }) s m args below meth c H locs 0 0 (MQ below (Qm lyC 48 g A (va_pl LP (skE kf)) out.2.1 out.2.2 (some (.int out.1))) args s 0 0 A) (F0 m 40 ls [])) : ∀ {x1 : Int32} {x2 : Int32} {x3 : Int32} {x4 : Int32} {x5 : Int32} {x6 : Int32} {σ : IM} {ρ : RM} {H : Heap} {locs : List Loc} {ls : Array Slot}, Mem lyC 48 g A (va_pl LP (skE kf)) σ ρ s.heap H locs → lv_has ls 8 [(0, .ref (g.2.2 0)), (1, .int x1), (2, .int x2), (3, .int x3), (4, .int x4), (5, .int x5), (6, .int x6)] → X11_bestTrait_b74 kf k40 x1 x2 x3 x4 x5 x6 σ ρ = some out → W p l e ({ frames := 6, cells := 0, slots := 0, locals := 146 }) s m args below meth c H locs 0 0 (MQ below (Qm lyC 48 g A (va_pl LP (skE kf)) out.2.1 out.2.2 (some (.int out.1))) args s 0 0 A) (F0 m 74 ls []) := by
  intro x1 x2 x3 x4 x5 x6 σ ρ H locs ls hM hl hF
  unfold X11_bestTrait_b74 at hF
  obtain ⟨v13, ev13, hF⟩ := bd_some hF
  refine lv_iinc (v := v13) (lv' := [(6, .int v13), (0, .ref (g.2.2 0)), (1, .int x1), (2, .int x2), (3, .int x3), (4, .int x4), (5, .int x5)]) S.1 S.2.1 dX11_bestTrait_74 hl (k := 6) rfl (by rw [ev13]; rfl) (by decide) rfl (fun ls hl => ?_)
  refine lv_goto (tgt := 40) S.1 S.2.1 dX11_bestTrait_77 (by decide) ?_
  exact hk40 hM (lv_sub hl [1, 2, 3, 4, 5, 6, 0] rfl)  hF
def X11_bestTrait_s40 (kf : KF) (k40 : Int32 → Int32 → Int32 → Int32 → Int32 → Int32 → IM → RM → Option (Int32 × IM × RM)) (x1 : Int32) (x2 : Int32) (x3 : Int32) (x4 : Int32) (x5 : Int32) (x6 : Int32) (σ : IM) (ρ : RM) : Option (Int32 × IM × RM) := bd1 (X1_choices x2) fun r6 => if r6 ≤ x6 then (if x3 = 0 then (some (x4, σ, ρ)) else (some (x5, σ, ρ))) else (bd3 (X11_cellsHeld kf σ ρ x1 x2 x6) fun r11 σ9 ρ10 => if r11 ≤ x5 then (X11_bestTrait_b74 kf k40 x1 x2 x3 x4 x5 x6 σ9 ρ10) else (X11_bestTrait_b74 kf k40 x1 x2 x3 x6 r11 x6 σ9 ρ10))
def X11_bestTrait_b40 (kf : KF) : Nat → Int32 → Int32 → Int32 → Int32 → Int32 → Int32 → IM → RM → Option (Int32 × IM × RM)
  | 0 => fun _ _ _ _ _ _ _ _ => none
  | n + 1 => X11_bestTrait_s40 kf (X11_bestTrait_b40 kf n)
set_option maxRecDepth 20000 in
theorem w_X11_bestTrait_40 {l : Launch} {g : GE} {A : Nat → Prop} {LP : List Nat} {kf : KF} (hPL : PL LP kf) {p : Program} {e : Env} {s : State} {m : MethodId} {args : Array Value} {below : List Frame} {meth : Method} {c : Code} (S : CallFix p m c cX11_bestTrait 8 s args UL RX11) (hK : KK g s) (hr : meth.sig.returnType = (some .int)) (hlk : meth.locks = false) {out : Int32 × IM × RM} {k40 : Int32 → Int32 → Int32 → Int32 → Int32 → Int32 → IM → RM → Option (Int32 × IM × RM)} (hk40 : ∀ {x1 : Int32} {x2 : Int32} {x3 : Int32} {x4 : Int32} {x5 : Int32} {x6 : Int32} {σ : IM} {ρ : RM} {H : Heap} {locs : List Loc} {ls : Array Slot}, Mem lyC 48 g A (va_pl LP (skE kf)) σ ρ s.heap H locs → lv_has ls 8 [(0, .ref (g.2.2 0)), (1, .int x1), (2, .int x2), (3, .int x3), (4, .int x4), (5, .int x5), (6, .int x6)] → k40 x1 x2 x3 x4 x5 x6 σ ρ = some out → W p l e ({ frames := 6, cells := 0, slots := 0, locals := 146 }) s m args below meth c H locs 0 0 (MQ below (Qm lyC 48 g A (va_pl LP (skE kf)) out.2.1 out.2.2 (some (.int out.1))) args s 0 0 A) (F0 m 40 ls [])) : ∀ {x1 : Int32} {x2 : Int32} {x3 : Int32} {x4 : Int32} {x5 : Int32} {x6 : Int32} {σ : IM} {ρ : RM} {H : Heap} {locs : List Loc} {ls : Array Slot}, Mem lyC 48 g A (va_pl LP (skE kf)) σ ρ s.heap H locs → lv_has ls 8 [(0, .ref (g.2.2 0)), (1, .int x1), (2, .int x2), (3, .int x3), (4, .int x4), (5, .int x5), (6, .int x6)] → X11_bestTrait_s40 kf k40 x1 x2 x3 x4 x5 x6 σ ρ = some out → W p l e ({ frames := 6, cells := 0, slots := 0, locals := 146 }) s m args below meth c H locs 0 0 (MQ below (Qm lyC 48 g A (va_pl LP (skE kf)) out.2.1 out.2.2 (some (.int out.1))) args s 0 0 A) (F0 m 40 ls []) := by
  intro x1 x2 x3 x4 x5 x6 σ ρ H locs ls hM hl hF
  unfold X11_bestTrait_s40 at hF
  refine lv_iload S.1 S.2.1 dX11_bestTrait_40 (lv_at hl 6 rfl) ?_
  refine lv_iload_n S.1 S.2.1 dX11_bestTrait_42 rfl (lv_at hl 2 rfl) ?_
  obtain ⟨r6, er6, hF⟩ := bd1_some hF
  refine k_p (va_runS (As := [.int x2]) (rest := [.int x6]) S (c_X1_choices hPL  er6) (va_cwS 1 S.2.2.2.2 (ul_S tw_3_118 tw_2_54 tw_1_2 cw_X1_choices) rfl rfl rfl hs_X1_choices ⟨Nat.le_of_ble_eq_true rfl, Nat.le_of_ble_eq_true rfl⟩) ⟨PreM.blind, hM.pre hK⟩ rfl rfl hl.1 rfl (lv_room (Nat.le_of_ble_eq_true rfl)) dX11_bestTrait_43 ⟨Nat.zero_le _, Nat.zero_le _⟩) ?_
  refine lv_icmp_ge (tgt := 80) S.1 S.2.1 dX11_bestTrait_46 (by decide) (fun b7 => ?_) (fun b7 => ?_)
  · have hF := (if_pos b7).symm.trans hF
    refine lv_iload_n S.1 S.2.1 dX11_bestTrait_80 rfl (lv_at hl 3 rfl) ?_
    refine lv_if_ne (tgt := 89) S.1 S.2.1 dX11_bestTrait_81 (by decide) (fun b8 => ?_) (fun b8 => ?_)
    · have hF := (if_neg b8).symm.trans hF
      refine lv_iload S.1 S.2.1 dX11_bestTrait_89 (lv_at hl 5 rfl) ?_
      cases hF
      exact z_m (v := x5) S hM hr hlk rfl dX11_bestTrait_91
    · have hF := (if_pos b8).symm.trans hF
      refine lv_iload S.1 S.2.1 dX11_bestTrait_84 (lv_at hl 4 rfl) ?_
      refine lv_goto (tgt := 91) S.1 S.2.1 dX11_bestTrait_86 (by decide) ?_
      cases hF
      exact z_m (v := x4) S hM hr hlk rfl dX11_bestTrait_91
  · have hF := (if_neg b7).symm.trans hF
    refine lv_aload_n S.1 S.2.1 dX11_bestTrait_49 rfl (lv_at hl 0 rfl) ?_
    refine lv_iload_n S.1 S.2.1 dX11_bestTrait_50 rfl (lv_at hl 1 rfl) ?_
    refine lv_iload_n S.1 S.2.1 dX11_bestTrait_51 rfl (lv_at hl 2 rfl) ?_
    refine lv_iload S.1 S.2.1 dX11_bestTrait_52 (lv_at hl 6 rfl) ?_
    obtain ⟨r11, σ9, ρ10, er11, hF⟩ := bd3_some hF
    refine k_m (va_runV (As := [.int x1, .int x2, .int x6]) (rest := []) S (c_X11_cellsHeld hPL  er11) (cwV 3 S.2.2.2.2 (ul_V tw_3_119 tw_3_121 ts_X11_cellsHeld tw_1_1 cw_X11_cellsHeld) rfl rfl rfl hv_X11_cellsHeld ⟨Nat.le_of_ble_eq_true rfl, Nat.le_of_ble_eq_true rfl⟩) ⟨PreM.blind, hM.recv hK cfX11 0 (by decide) ly_0, hM.pre hK⟩ rfl rfl hl.1 rfl (lv_room (Nat.le_of_ble_eq_true rfl)) dX11_bestTrait_54 ⟨Nat.zero_le _, Nat.zero_le _⟩) hM (fun H locs hM => ?_)
    show W _ _ _ _ _ _ _ _ _ _ _ _ _ _ _ (F0 m 57 ls [.int r11])
    refine lv_istore (lv' := [(7, .int r11), (0, .ref (g.2.2 0)), (1, .int x1), (2, .int x2), (3, .int x3), (4, .int x4), (5, .int x5), (6, .int x6)]) S.1 S.2.1 dX11_bestTrait_57 hl (by decide) rfl (fun ls hl => ?_)
    refine lv_iload S.1 S.2.1 dX11_bestTrait_59 (lv_at hl 0 rfl) ?_
    refine lv_iload S.1 S.2.1 dX11_bestTrait_61 (lv_at hl 6 rfl) ?_
    refine lv_icmp_le (tgt := 74) S.1 S.2.1 dX11_bestTrait_63 (by decide) (fun b12 => ?_) (fun b12 => ?_)
    · have hF := (if_pos b12).symm.trans hF
      exact w_X11_bestTrait_74 hPL S hK hr hlk hk40 hM (lv_sub hl [1, 2, 3, 4, 5, 6, 7] rfl) hF
    · have hF := (if_neg b12).symm.trans hF
      refine lv_iload S.1 S.2.1 dX11_bestTrait_66 (lv_at hl 0 rfl) ?_
      refine lv_istore (lv' := [(5, .int r11), (7, .int r11), (0, .ref (g.2.2 0)), (1, .int x1), (2, .int x2), (3, .int x3), (4, .int x4), (6, .int x6)]) S.1 S.2.1 dX11_bestTrait_68 hl (by decide) rfl (fun ls hl => ?_)
      refine lv_iload S.1 S.2.1 dX11_bestTrait_70 (lv_at hl 7 rfl) ?_
      refine lv_istore (lv' := [(4, .int x6), (5, .int r11), (7, .int r11), (0, .ref (g.2.2 0)), (1, .int x1), (2, .int x2), (3, .int x3), (6, .int x6)]) S.1 S.2.1 dX11_bestTrait_72 hl (by decide) rfl (fun ls hl => ?_)
      exact w_X11_bestTrait_74 hPL S hK hr hlk hk40 hM (lv_sub hl [3, 4, 5, 6, 0, 1, 7] rfl) hF
theorem wl_X11_bestTrait_40 {l : Launch} {g : GE} {A : Nat → Prop} {LP : List Nat} {kf : KF} (hPL : PL LP kf) {p : Program} {e : Env} {s : State} {m : MethodId} {args : Array Value} {below : List Frame} {meth : Method} {c : Code} (S : CallFix p m c cX11_bestTrait 8 s args UL RX11) (hK : KK g s) (hr : meth.sig.returnType = (some .int)) (hlk : meth.locks = false) {out : Int32 × IM × RM} : ∀ (n : Nat) {x1 : Int32} {x2 : Int32} {x3 : Int32} {x4 : Int32} {x5 : Int32} {x6 : Int32} {σ : IM} {ρ : RM} {H : Heap} {locs : List Loc} {ls : Array Slot}, Mem lyC 48 g A (va_pl LP (skE kf)) σ ρ s.heap H locs → lv_has ls 8 [(0, .ref (g.2.2 0)), (1, .int x1), (2, .int x2), (3, .int x3), (4, .int x4), (5, .int x5), (6, .int x6)] → X11_bestTrait_b40 kf n x1 x2 x3 x4 x5 x6 σ ρ = some out → W p l e ({ frames := 6, cells := 0, slots := 0, locals := 146 }) s m args below meth c H locs 0 0 (MQ below (Qm lyC 48 g A (va_pl LP (skE kf)) out.2.1 out.2.2 (some (.int out.1))) args s 0 0 A) (F0 m 40 ls []) := by
  intro n
  induction n with
  | zero =>
    intro x1 x2 x3 x4 x5 x6 σ ρ H locs ls hM hl hF
    cases hF
  | succ n ih =>
    intro x1 x2 x3 x4 x5 x6 σ ρ H locs ls hM hl hF
    exact w_X11_bestTrait_40 hPL S hK hr hlk ih hM hl hF
def X11_bestTrait (kf : KF) (σ : IM) (ρ : RM) (a1 : Int32) (a2 : Int32) (a3 : Int32) : Option (Int32 × IM × RM) := bd1 (X11_isBelow a1 2) fun r1 => if r1 = 0 then (some ((-1), σ, ρ)) else (bd1 (X11_isBelow a3 2) fun r3 => if r3 = 0 then (some ((-1), σ, ρ)) else (if σ 1 8 = 0 then (some ((-3), σ, ρ)) else (X11_bestTrait_b40 kf 1000 a1 a2 a3 0 (-1) 0 σ ρ)))
set_option maxRecDepth 20000 in
theorem c_X11_bestTrait {l : Launch} {g : GE} {A : Nat → Prop} {LP : List Nat} {kf : KF} {σ : IM} {ρ : RM} {a1 : Int32} {a2 : Int32} {a3 : Int32} {out : Int32 × IM × RM} (hPL : PL LP kf) (hF : X11_bestTrait kf σ ρ a1 a2 a3 = some out) : Met l yX11_bestTrait (.code yX11_bestTrait cX11_bestTrait 8 (some .int) :: UL) ({ frames := 6, cells := 0, slots := 0, locals := 146 }) (va_Pc [.ref (g.2.2 0), .int a1, .int a2, .int a3] (PreM lyC 48 g A (va_pl LP (skE kf)) σ ρ)) (Qm lyC 48 g A (va_pl LP (skE kf)) out.2.1 out.2.2 (some (.int out.1))) 0 0 A := by
  refine e_of (by decide) (Nat.le_of_ble_eq_true rfl) ?_
  intro p e s m below meth c ls S hr hlk hv hl
  have hM := Mem.of hv
  have hK := hv.2.1
  have hl : lv_has ls 8 [(0, .ref (g.2.2 0)), (1, .int a1), (2, .int a2), (3, .int a3)] := hl
  unfold X11_bestTrait at hF
  refine lv_iload_n S.1 S.2.1 dX11_bestTrait_0 rfl (lv_at hl 1 rfl) ?_
  refine lv_iconst (v := 2) S.1 S.2.1 dX11_bestTrait_1 (by decide) ?_
  obtain ⟨r1, er1, hF⟩ := bd1_some hF
  refine k_p (va_runS (As := [.int a1, .int 2]) (rest := []) S (c_X11_isBelow hPL  er1) (va_cwS 2 S.2.2.2.2 (ul_S tw_1_229 tw_1_230 tw_1_1 cw_X11_isBelow) rfl rfl rfl hs_X11_isBelow ⟨Nat.le_of_ble_eq_true rfl, Nat.le_of_ble_eq_true rfl⟩) ⟨PreM.blind, hM.pre hK⟩ rfl rfl hl.1 rfl (lv_room (Nat.le_of_ble_eq_true rfl)) dX11_bestTrait_2 ⟨Nat.zero_le _, Nat.zero_le _⟩) ?_
  refine lv_if_eq (tgt := 16) S.1 S.2.1 dX11_bestTrait_5 (by decide) (fun b2 => ?_) (fun b2 => ?_)
  · have hF := (if_pos b2).symm.trans hF
    refine lv_iconst (v := (-1)) S.1 S.2.1 dX11_bestTrait_16 (by decide) ?_
    cases hF
    exact z_m (v := (-1)) S hM hr hlk rfl dX11_bestTrait_17
  · have hF := (if_neg b2).symm.trans hF
    refine lv_iload_n S.1 S.2.1 dX11_bestTrait_8 rfl (lv_at hl 3 rfl) ?_
    refine lv_iconst (v := 2) S.1 S.2.1 dX11_bestTrait_9 (by decide) ?_
    obtain ⟨r3, er3, hF⟩ := bd1_some hF
    refine k_p (va_runS (As := [.int a3, .int 2]) (rest := []) S (c_X11_isBelow hPL  er3) (va_cwS 2 S.2.2.2.2 (ul_S tw_1_229 tw_1_230 tw_1_1 cw_X11_isBelow) rfl rfl rfl hs_X11_isBelow ⟨Nat.le_of_ble_eq_true rfl, Nat.le_of_ble_eq_true rfl⟩) ⟨PreM.blind, hM.pre hK⟩ rfl rfl hl.1 rfl (lv_room (Nat.le_of_ble_eq_true rfl)) dX11_bestTrait_10 ⟨Nat.zero_le _, Nat.zero_le _⟩) ?_
    refine lv_if_ne (tgt := 18) S.1 S.2.1 dX11_bestTrait_13 (by decide) (fun b4 => ?_) (fun b4 => ?_)
    · have hF := (if_neg b4).symm.trans hF
      refine lv_aload_n S.1 S.2.1 dX11_bestTrait_18 rfl (lv_at hl 0 rfl) ?_
      refine r_getC S hK hM cfX11 0 0 1 (by decide) ly_0 rfl (by decide) tw_1_193 dX11_bestTrait_19 ?_
      refine r_getI S hK hM cfX1 1 8 (ct_lt0 ct_1) (ly_ct ct_1) rfl (by decide) tw_1_56 dX11_bestTrait_22 ?_
      refine lv_if_ne (tgt := 31) S.1 S.2.1 dX11_bestTrait_25 (by decide) (fun b5 => ?_) (fun b5 => ?_)
      · have hF := (if_neg b5).symm.trans hF
        refine lv_iconst (v := 0) S.1 S.2.1 dX11_bestTrait_31 (by decide) ?_
        refine lv_istore (lv' := [(4, .int 0), (0, .ref (g.2.2 0)), (1, .int a1), (2, .int a2), (3, .int a3)]) S.1 S.2.1 dX11_bestTrait_32 hl (by decide) rfl (fun ls hl => ?_)
        refine lv_iconst (v := (-1)) S.1 S.2.1 dX11_bestTrait_34 (by decide) ?_
        refine lv_istore (lv' := [(5, .int (-1)), (4, .int 0), (0, .ref (g.2.2 0)), (1, .int a1), (2, .int a2), (3, .int a3)]) S.1 S.2.1 dX11_bestTrait_35 hl (by decide) rfl (fun ls hl => ?_)
        refine lv_iconst (v := 0) S.1 S.2.1 dX11_bestTrait_37 (by decide) ?_
        refine lv_istore (lv' := [(6, .int 0), (5, .int (-1)), (4, .int 0), (0, .ref (g.2.2 0)), (1, .int a1), (2, .int a2), (3, .int a3)]) S.1 S.2.1 dX11_bestTrait_38 hl (by decide) rfl (fun ls hl => ?_)
        exact wl_X11_bestTrait_40 hPL S hK hr hlk 1000 hM (lv_sub hl [3, 4, 5, 6, 2, 1, 0] rfl) hF
      · have hF := (if_pos b5).symm.trans hF
        refine lv_bipush (v := (-3)) S.1 S.2.1 dX11_bestTrait_28 (by decide) ?_
        cases hF
        exact z_m (v := (-3)) S hM hr hlk rfl dX11_bestTrait_30
    · have hF := (if_pos b4).symm.trans hF
      refine lv_iconst (v := (-1)) S.1 S.2.1 dX11_bestTrait_16 (by decide) ?_
      cases hF
      exact z_m (v := (-1)) S hM hr hlk rfl dX11_bestTrait_17
/-! X11_bestForm -/
def X11_bestForm (kf : KF) (σ : IM) (ρ : RM) (a1 : Int32) (a2 : Int32) : Option (Int32 × IM × RM) := bd3 (X11_bestTrait kf σ ρ a1 0 a2) fun r3 σ1 ρ2 => some (r3, σ1, ρ2)
set_option maxRecDepth 20000 in
theorem c_X11_bestForm {l : Launch} {g : GE} {A : Nat → Prop} {LP : List Nat} {kf : KF} {σ : IM} {ρ : RM} {a1 : Int32} {a2 : Int32} {out : Int32 × IM × RM} (hPL : PL LP kf) (hF : X11_bestForm kf σ ρ a1 a2 = some out) : Met l yX11_bestForm (.code yX11_bestForm cX11_bestForm 3 (some .int) :: UL) ({ frames := 7, cells := 0, slots := 0, locals := 173 }) (va_Pc [.ref (g.2.2 0), .int a1, .int a2] (PreM lyC 48 g A (va_pl LP (skE kf)) σ ρ)) (Qm lyC 48 g A (va_pl LP (skE kf)) out.2.1 out.2.2 (some (.int out.1))) 0 0 A := by
  refine e_of (by decide) (Nat.le_of_ble_eq_true rfl) ?_
  intro p e s m below meth c ls S hr hlk hv hl
  have hM := Mem.of hv
  have hK := hv.2.1
  have hl : lv_has ls 3 [(0, .ref (g.2.2 0)), (1, .int a1), (2, .int a2)] := hl
  unfold X11_bestForm at hF
  refine lv_aload_n S.1 S.2.1 dX11_bestForm_0 rfl (lv_at hl 0 rfl) ?_
  refine lv_iload_n S.1 S.2.1 dX11_bestForm_1 rfl (lv_at hl 1 rfl) ?_
  refine lv_iconst (v := 0) S.1 S.2.1 dX11_bestForm_2 (by decide) ?_
  refine lv_iload_n S.1 S.2.1 dX11_bestForm_3 rfl (lv_at hl 2 rfl) ?_
  obtain ⟨r3, σ1, ρ2, er3, hF⟩ := bd3_some hF
  refine k_m (va_runV (As := [.int a1, .int 0, .int a2]) (rest := []) S (c_X11_bestTrait hPL  er3) (cwV 3 S.2.2.2.2 (ul_V tw_3_114 tw_3_116 ts_X11_bestTrait tw_1_1 cw_X11_bestTrait) rfl rfl rfl hv_X11_bestTrait ⟨Nat.le_of_ble_eq_true rfl, Nat.le_of_ble_eq_true rfl⟩) ⟨PreM.blind, hM.recv hK cfX11 0 (by decide) ly_0, hM.pre hK⟩ rfl rfl hl.1 rfl (lv_room (Nat.le_of_ble_eq_true rfl)) dX11_bestForm_4 ⟨Nat.zero_le _, Nat.zero_le _⟩) hM (fun H locs hM => ?_)
  show W _ _ _ _ _ _ _ _ _ _ _ _ _ _ _ (F0 m 7 ls [.int r3])
  cases hF
  exact z_m (v := r3) S hM hr hlk rfl dX11_bestForm_7
/-! X11_bestHabit -/
def X11_bestHabit (kf : KF) (σ : IM) (ρ : RM) (a1 : Int32) (a2 : Int32) : Option (Int32 × IM × RM) := bd3 (X11_bestTrait kf σ ρ a1 1 a2) fun r3 σ1 ρ2 => some (r3, σ1, ρ2)
set_option maxRecDepth 20000 in
theorem c_X11_bestHabit {l : Launch} {g : GE} {A : Nat → Prop} {LP : List Nat} {kf : KF} {σ : IM} {ρ : RM} {a1 : Int32} {a2 : Int32} {out : Int32 × IM × RM} (hPL : PL LP kf) (hF : X11_bestHabit kf σ ρ a1 a2 = some out) : Met l yX11_bestHabit (.code yX11_bestHabit cX11_bestHabit 3 (some .int) :: UL) ({ frames := 7, cells := 0, slots := 0, locals := 173 }) (va_Pc [.ref (g.2.2 0), .int a1, .int a2] (PreM lyC 48 g A (va_pl LP (skE kf)) σ ρ)) (Qm lyC 48 g A (va_pl LP (skE kf)) out.2.1 out.2.2 (some (.int out.1))) 0 0 A := by
  refine e_of (by decide) (Nat.le_of_ble_eq_true rfl) ?_
  intro p e s m below meth c ls S hr hlk hv hl
  have hM := Mem.of hv
  have hK := hv.2.1
  have hl : lv_has ls 3 [(0, .ref (g.2.2 0)), (1, .int a1), (2, .int a2)] := hl
  unfold X11_bestHabit at hF
  refine lv_aload_n S.1 S.2.1 dX11_bestHabit_0 rfl (lv_at hl 0 rfl) ?_
  refine lv_iload_n S.1 S.2.1 dX11_bestHabit_1 rfl (lv_at hl 1 rfl) ?_
  refine lv_iconst (v := 1) S.1 S.2.1 dX11_bestHabit_2 (by decide) ?_
  refine lv_iload_n S.1 S.2.1 dX11_bestHabit_3 rfl (lv_at hl 2 rfl) ?_
  obtain ⟨r3, σ1, ρ2, er3, hF⟩ := bd3_some hF
  refine k_m (va_runV (As := [.int a1, .int 1, .int a2]) (rest := []) S (c_X11_bestTrait hPL  er3) (cwV 3 S.2.2.2.2 (ul_V tw_3_114 tw_3_116 ts_X11_bestTrait tw_1_1 cw_X11_bestTrait) rfl rfl rfl hv_X11_bestTrait ⟨Nat.le_of_ble_eq_true rfl, Nat.le_of_ble_eq_true rfl⟩) ⟨PreM.blind, hM.recv hK cfX11 0 (by decide) ly_0, hM.pre hK⟩ rfl rfl hl.1 rfl (lv_room (Nat.le_of_ble_eq_true rfl)) dX11_bestHabit_4 ⟨Nat.zero_le _, Nat.zero_le _⟩) hM (fun H locs hM => ?_)
  show W _ _ _ _ _ _ _ _ _ _ _ _ _ _ _ (F0 m 7 ls [.int r3])
  cases hF
  exact z_m (v := r3) S hM hr hlk rfl dX11_bestHabit_7
/-! X11_change -/
def X11_change (kf : KF) (σ : IM) (ρ : RM) (a1 : Int32) (a2 : Int32) (a3 : Int32) (a4 : Int32) : Option (Int32 × IM × RM) := bd1 (X1_isHit kf σ ρ 1 a1 a2) fun r1 => if r1 = 0 then (some ((-1), σ, ρ)) else (bd1 (X11_isBelow a3 4) fun r3 => if r3 = 0 then (some ((-1), σ, ρ)) else (bd1 (X11_isBelow a4 2) fun r5 => if r5 = 0 then (some ((-1), σ, ρ)) else (bd2 (X1_become kf σ ρ 10 1) fun σ7 ρ8 => bd3 (X1_strike kf σ7 ρ8 10 a1 a2) fun r12 σ10 ρ11 => if a4 = 0 then (rd (σ10 (10 + 1)) 4 a3 fun v15 => some (v15, σ10, ρ11)) else (rd (σ10 (10 + 3)) 4 a3 fun v14 => some (v14, σ10, ρ11)))))
set_option maxRecDepth 20000 in
theorem c_X11_change {l : Launch} {g : GE} {A : Nat → Prop} {LP : List Nat} {kf : KF} {σ : IM} {ρ : RM} {a1 : Int32} {a2 : Int32} {a3 : Int32} {a4 : Int32} {out : Int32 × IM × RM} (hPL : PL LP kf) (hF : X11_change kf σ ρ a1 a2 a3 a4 = some out) : Met l yX11_change (.code yX11_change cX11_change 5 (some .int) :: UL) ({ frames := 4, cells := 0, slots := 0, locals := 100 }) (va_Pc [.ref (g.2.2 0), .int a1, .int a2, .int a3, .int a4] (PreM lyC 48 g A (va_pl LP (skE kf)) σ ρ)) (Qm lyC 48 g A (va_pl LP (skE kf)) out.2.1 out.2.2 (some (.int out.1))) 0 0 A := by
  refine e_of (by decide) (Nat.le_of_ble_eq_true rfl) ?_
  intro p e s m below meth c ls S hr hlk hv hl
  have hM := Mem.of hv
  have hK := hv.2.1
  have hl : lv_has ls 5 [(0, .ref (g.2.2 0)), (1, .int a1), (2, .int a2), (3, .int a3), (4, .int a4)] := hl
  unfold X11_change at hF
  refine lv_aload_n S.1 S.2.1 dX11_change_0 rfl (lv_at hl 0 rfl) ?_
  refine r_getC S hK hM cfX11 0 0 1 (by decide) ly_0 rfl (by decide) tw_1_193 dX11_change_1 ?_
  refine lv_iload_n S.1 S.2.1 dX11_change_4 rfl (lv_at hl 1 rfl) ?_
  refine lv_iload_n S.1 S.2.1 dX11_change_5 rfl (lv_at hl 2 rfl) ?_
  obtain ⟨r1, er1, hF⟩ := bd1_some hF
  refine k_p (va_runV (As := [.int a1, .int a2]) (rest := []) S (c_X1_isHit hPL ct_1 er1) (cwV 2 S.2.2.2.2 (ul_V tw_3_54 tw_2_65 tw_2_66 tw_1_2 cw_X1_isHit) rfl rfl rfl hv_X1_isHit ⟨Nat.le_of_ble_eq_true rfl, Nat.le_of_ble_eq_true rfl⟩) ⟨PreM.blind, hM.recv hK cfX1 1 (ct_lt0 ct_1) (ly_ct ct_1), hM.pre hK⟩ rfl rfl hl.1 rfl (lv_room (Nat.le_of_ble_eq_true rfl)) dX11_change_6 ⟨Nat.zero_le _, Nat.zero_le _⟩) ?_
  refine lv_if_eq (tgt := 29) S.1 S.2.1 dX11_change_9 (by decide) (fun b2 => ?_) (fun b2 => ?_)
  · have hF := (if_pos b2).symm.trans hF
    refine lv_iconst (v := (-1)) S.1 S.2.1 dX11_change_29 (by decide) ?_
    cases hF
    exact z_m (v := (-1)) S hM hr hlk rfl dX11_change_30
  · have hF := (if_neg b2).symm.trans hF
    refine lv_iload_n S.1 S.2.1 dX11_change_12 rfl (lv_at hl 3 rfl) ?_
    refine lv_iconst (v := 4) S.1 S.2.1 dX11_change_13 (by decide) ?_
    obtain ⟨r3, er3, hF⟩ := bd1_some hF
    refine k_p (va_runS (As := [.int a3, .int 4]) (rest := []) S (c_X11_isBelow hPL  er3) (va_cwS 2 S.2.2.2.2 (ul_S tw_1_229 tw_1_230 tw_1_1 cw_X11_isBelow) rfl rfl rfl hs_X11_isBelow ⟨Nat.le_of_ble_eq_true rfl, Nat.le_of_ble_eq_true rfl⟩) ⟨PreM.blind, hM.pre hK⟩ rfl rfl hl.1 rfl (lv_room (Nat.le_of_ble_eq_true rfl)) dX11_change_14 ⟨Nat.zero_le _, Nat.zero_le _⟩) ?_
    refine lv_if_eq (tgt := 29) S.1 S.2.1 dX11_change_17 (by decide) (fun b4 => ?_) (fun b4 => ?_)
    · have hF := (if_pos b4).symm.trans hF
      refine lv_iconst (v := (-1)) S.1 S.2.1 dX11_change_29 (by decide) ?_
      cases hF
      exact z_m (v := (-1)) S hM hr hlk rfl dX11_change_30
    · have hF := (if_neg b4).symm.trans hF
      refine lv_iload S.1 S.2.1 dX11_change_20 (lv_at hl 4 rfl) ?_
      refine lv_iconst (v := 2) S.1 S.2.1 dX11_change_22 (by decide) ?_
      obtain ⟨r5, er5, hF⟩ := bd1_some hF
      refine k_p (va_runS (As := [.int a4, .int 2]) (rest := []) S (c_X11_isBelow hPL  er5) (va_cwS 2 S.2.2.2.2 (ul_S tw_1_229 tw_1_230 tw_1_1 cw_X11_isBelow) rfl rfl rfl hs_X11_isBelow ⟨Nat.le_of_ble_eq_true rfl, Nat.le_of_ble_eq_true rfl⟩) ⟨PreM.blind, hM.pre hK⟩ rfl rfl hl.1 rfl (lv_room (Nat.le_of_ble_eq_true rfl)) dX11_change_23 ⟨Nat.zero_le _, Nat.zero_le _⟩) ?_
      refine lv_if_ne (tgt := 31) S.1 S.2.1 dX11_change_26 (by decide) (fun b6 => ?_) (fun b6 => ?_)
      · have hF := (if_neg b6).symm.trans hF
        refine lv_aload_n S.1 S.2.1 dX11_change_31 rfl (lv_at hl 0 rfl) ?_
        refine r_getC S hK hM cfX11 0 1 10 (by decide) ly_0 rfl (by decide) tw_1_194 dX11_change_32 ?_
        refine lv_aload_n S.1 S.2.1 dX11_change_35 rfl (lv_at hl 0 rfl) ?_
        refine r_getC S hK hM cfX11 0 0 1 (by decide) ly_0 rfl (by decide) tw_1_193 dX11_change_36 ?_
        obtain ⟨σ7, ρ8, er9, hF⟩ := bd2_some hF
        refine k_m (va_runV (As := [.ref (g.2.2 1)]) (rest := []) S (c_X1_become hPL ct_10 ct_1 er9) (cwV 1 S.2.2.2.2 (ul_V tw_2_18 tw_2_19 tw_2_20 tw_1_2 cw_X1_become) rfl rfl rfl hv_X1_become ⟨Nat.le_of_ble_eq_true rfl, Nat.le_of_ble_eq_true rfl⟩) ⟨PreM.blind, hM.recv hK cfX1 10 (ct_lt0 ct_10) (ly_ct ct_10), hM.pre hK⟩ rfl rfl hl.1 rfl (lv_room (Nat.le_of_ble_eq_true rfl)) dX11_change_39 ⟨Nat.zero_le _, Nat.zero_le _⟩) hM (fun H locs hM => ?_)
        show W _ _ _ _ _ _ _ _ _ _ _ _ _ _ _ (F0 m 42 ls [])
        refine lv_aload_n S.1 S.2.1 dX11_change_42 rfl (lv_at hl 0 rfl) ?_
        refine r_getC S hK hM cfX11 0 1 10 (by decide) ly_0 rfl (by decide) tw_1_194 dX11_change_43 ?_
        refine lv_iload_n S.1 S.2.1 dX11_change_46 rfl (lv_at hl 1 rfl) ?_
        refine lv_iload_n S.1 S.2.1 dX11_change_47 rfl (lv_at hl 2 rfl) ?_
        obtain ⟨r12, σ10, ρ11, er12, hF⟩ := bd3_some hF
        refine k_m (va_runV (As := [.int a1, .int a2]) (rest := []) S (c_X1_strike hPL ct_10 er12) (cwV 2 S.2.2.2.2 (ul_V tw_3_49 tw_2_73 tw_2_74 tw_1_2 cw_X1_strike) rfl rfl rfl hv_X1_strike ⟨Nat.le_of_ble_eq_true rfl, Nat.le_of_ble_eq_true rfl⟩) ⟨PreM.blind, hM.recv hK cfX1 10 (ct_lt0 ct_10) (ly_ct ct_10), hM.pre hK⟩ rfl rfl hl.1 rfl (lv_room (Nat.le_of_ble_eq_true rfl)) dX11_change_48 ⟨Nat.zero_le _, Nat.zero_le _⟩) hM (fun H locs hM => ?_)
        show W _ _ _ _ _ _ _ _ _ _ _ _ _ _ _ (F0 m 51 ls [.int r12])
        refine lv_pop S.1 S.2.1 dX11_change_51 rfl ?_
        refine lv_iload S.1 S.2.1 dX11_change_52 (lv_at hl 4 rfl) ?_
        refine lv_if_ne (tgt := 69) S.1 S.2.1 dX11_change_54 (by decide) (fun b13 => ?_) (fun b13 => ?_)
        · have hF := (if_neg b13).symm.trans hF
          refine lv_aload_n S.1 S.2.1 dX11_change_69 rfl (lv_at hl 0 rfl) ?_
          refine r_getC S hK hM cfX11 0 1 10 (by decide) ly_0 rfl (by decide) tw_1_194 dX11_change_70 ?_
          refine r_getC S hK hM cfX1 10 2 (10 + 3) (ct_lt0 ct_10) (ly_ct ct_10) rfl (by decide) tw_1_44 dX11_change_73 ?_
          refine lv_iload_n S.1 S.2.1 dX11_change_76 rfl (lv_at hl 3 rfl) ?_
          obtain ⟨hv14, v14, ev14, hF⟩ := rd_some hF
          refine r_iald S hK hM (10 + 3) (ct_lt ct_10 3 (by decide)) (ly_c3 ct_10) hv14 ev14 dX11_change_77 ?_
          cases hF
          exact z_m (v := v14) S hM hr hlk rfl dX11_change_78
        · have hF := (if_pos b13).symm.trans hF
          refine lv_aload_n S.1 S.2.1 dX11_change_57 rfl (lv_at hl 0 rfl) ?_
          refine r_getC S hK hM cfX11 0 1 10 (by decide) ly_0 rfl (by decide) tw_1_194 dX11_change_58 ?_
          refine r_getC S hK hM cfX1 10 0 (10 + 1) (ct_lt0 ct_10) (ly_ct ct_10) rfl (by decide) tw_1_40 dX11_change_61 ?_
          refine lv_iload_n S.1 S.2.1 dX11_change_64 rfl (lv_at hl 3 rfl) ?_
          obtain ⟨hv15, v15, ev15, hF⟩ := rd_some hF
          refine r_iald S hK hM (10 + 1) (ct_lt ct_10 1 (by decide)) (ly_c1 ct_10) hv15 ev15 dX11_change_65 ?_
          refine lv_goto (tgt := 78) S.1 S.2.1 dX11_change_66 (by decide) ?_
          cases hF
          exact z_m (v := v15) S hM hr hlk rfl dX11_change_78
      · have hF := (if_pos b6).symm.trans hF
        refine lv_iconst (v := (-1)) S.1 S.2.1 dX11_change_29 (by decide) ?_
        cases hF
        exact z_m (v := (-1)) S hM hr hlk rfl dX11_change_30
/-! X11_refusalOfHits -/
def X11_refusalOfHits (kf : KF) (σ : IM) (ρ : RM) (a1 : Int32) : Option Int32 := bd1 (X11_refusalOf kf σ ρ a1 1) fun r1 => if r1 = 0 then (ix 8 a1 fun j3 => if rem32 (σ (29 + 2 * j3) 3) 2 = 0 then (some 0) else (some (-13))) else (some r1)
set_option maxRecDepth 20000 in
theorem c_X11_refusalOfHits {l : Launch} {g : GE} {A : Nat → Prop} {LP : List Nat} {kf : KF} {σ : IM} {ρ : RM} {a1 : Int32} {out : Int32} (hPL : PL LP kf) (hF : X11_refusalOfHits kf σ ρ a1 = some out) : Met l yX11_refusalOfHits (.code yX11_refusalOfHits cX11_refusalOfHits 3 (some .int) :: UL) ({ frames := 3, cells := 0, slots := 0, locals := 62 }) (va_Pc [.ref (g.2.2 0), .int a1] (PreM lyC 48 g A (va_pl LP (skE kf)) σ ρ)) (Qp (some (.int out))) 0 0 NoA := by
  refine e_of (by decide) (Nat.le_of_ble_eq_true rfl) ?_
  intro p e s m below meth c ls S hr hlk hv hl
  have hM := Mem.of hv
  have hK := hv.2.1
  have hl : lv_has ls 3 [(0, .ref (g.2.2 0)), (1, .int a1)] := hl
  unfold X11_refusalOfHits at hF
  refine lv_aload_n S.1 S.2.1 dX11_refusalOfHits_0 rfl (lv_at hl 0 rfl) ?_
  refine lv_iload_n S.1 S.2.1 dX11_refusalOfHits_1 rfl (lv_at hl 1 rfl) ?_
  refine lv_iconst (v := 1) S.1 S.2.1 dX11_refusalOfHits_2 (by decide) ?_
  obtain ⟨r1, er1, hF⟩ := bd1_some hF
  refine k_p (va_runV (As := [.int a1, .int 1]) (rest := []) S (c_X11_refusalOf hPL  er1) (cwV 2 S.2.2.2.2 (ul_V tw_1_225 tw_1_227 ts_X11_refusalOf tw_1_1 cw_X11_refusalOf) rfl rfl rfl hv_X11_refusalOf ⟨Nat.le_of_ble_eq_true rfl, Nat.le_of_ble_eq_true rfl⟩) ⟨PreM.blind, hM.recv hK cfX11 0 (by decide) ly_0, hM.pre hK⟩ rfl rfl hl.1 rfl (lv_room (Nat.le_of_ble_eq_true rfl)) dX11_refusalOfHits_3 ⟨Nat.zero_le _, Nat.zero_le _⟩) ?_
  refine lv_istore_n (lv' := [(2, .int r1), (0, .ref (g.2.2 0)), (1, .int a1)]) S.1 S.2.1 dX11_refusalOfHits_6 rfl hl (by decide) rfl (fun ls hl => ?_)
  refine lv_iload_n S.1 S.2.1 dX11_refusalOfHits_7 rfl (lv_at hl 0 rfl) ?_
  refine lv_if_eq (tgt := 13) S.1 S.2.1 dX11_refusalOfHits_8 (by decide) (fun b2 => ?_) (fun b2 => ?_)
  · have hF := (if_pos b2).symm.trans hF
    refine lv_aload_n S.1 S.2.1 dX11_refusalOfHits_13 rfl (lv_at hl 1 rfl) ?_
    refine r_getC S hK hM cfX11 0 4 28 (by decide) ly_0 rfl (by decide) tw_1_197 dX11_refusalOfHits_14 ?_
    refine lv_iload_n S.1 S.2.1 dX11_refusalOfHits_17 rfl (lv_at hl 2 rfl) ?_
    obtain ⟨hj3, j3, ej3, lj3, hF⟩ := ix_some hF
    refine r_aaldS S hK hM 28 (by decide) ly_28 hj3 ej3 dX11_refusalOfHits_18 ?_
    refine r_getI S hK hM cfX7 (29 + 2 * j3) 3 (sh_lt lj3) (ly_sh lj3) rfl (by decide) tw_1_105 dX11_refusalOfHits_19 ?_
    refine lv_iconst (v := 2) S.1 S.2.1 dX11_refusalOfHits_22 (by decide) ?_
    refine r_irem S dX11_refusalOfHits_23 (by decide) ?_
    refine lv_if_ne (tgt := 31) S.1 S.2.1 dX11_refusalOfHits_24 (by decide) (fun b4 => ?_) (fun b4 => ?_)
    · have hF := (if_neg b4).symm.trans hF
      refine lv_bipush (v := (-13)) S.1 S.2.1 dX11_refusalOfHits_31 (by decide) ?_
      cases hF
      exact z_p S hr hlk rfl dX11_refusalOfHits_33
    · have hF := (if_pos b4).symm.trans hF
      refine lv_iconst (v := 0) S.1 S.2.1 dX11_refusalOfHits_27 (by decide) ?_
      refine lv_goto (tgt := 33) S.1 S.2.1 dX11_refusalOfHits_28 (by decide) ?_
      cases hF
      exact z_p S hr hlk rfl dX11_refusalOfHits_33
  · have hF := (if_neg b2).symm.trans hF
    refine lv_iload_n S.1 S.2.1 dX11_refusalOfHits_11 rfl (lv_at hl 0 rfl) ?_
    cases hF
    exact z_p S hr hlk rfl dX11_refusalOfHits_12
/-! X11_refusalOfRally -/
def X11_refusalOfRally_s22 (kf : KF) (σ : IM) (ρ : RM) (k22 : Nat → Int32 → Option Int32) (x3 : Nat) (x4 : Int32) : Option Int32 := if σ (29 + 2 * x3) 3 ≤ x4 + 1 then (some 0) else (rd (σ (29 + 2 * x3 + 1)) 100 x4 fun v5 => rd (σ (29 + 2 * x3 + 1)) 100 (x4 + 1) fun v6 => bd1 (X1_isHit kf σ ρ 1 v5 v6) fun r7 => if r7 = 0 then (some (-13)) else (bd (x4 + 2) fun v9 => k22 x3 v9))
def X11_refusalOfRally_b22 (kf : KF) (σ : IM) (ρ : RM) : Nat → Nat → Int32 → Option Int32
  | 0 => fun _ _ => none
  | n + 1 => X11_refusalOfRally_s22 kf σ ρ (X11_refusalOfRally_b22 kf σ ρ n)
set_option maxRecDepth 20000 in
theorem w_X11_refusalOfRally_22 {l : Launch} {g : GE} {A : Nat → Prop} {LP : List Nat} {kf : KF} {σ : IM} {ρ : RM} (hPL : PL LP kf) {p : Program} {e : Env} {s : State} {m : MethodId} {args : Array Value} {below : List Frame} {meth : Method} {c : Code} (S : CallFix p m c cX11_refusalOfRally 5 s args UL RX11) (hK : KK g s) (hr : meth.sig.returnType = (some .int)) (hlk : meth.locks = false) (hM : Mem lyC 48 g A (va_pl LP (skE kf)) σ ρ s.heap s.heap []) {out : Int32} {k22 : Nat → Int32 → Option Int32} (hk22 : ∀ {x3 : Nat} {x4 : Int32} {ls : Array Slot}, x3 < 8 → lv_has ls 5 [(0, .ref (g.2.2 0)), (3, .ref (g.2.2 (29 + 2 * x3))), (4, .int x4)] → k22 x3 x4 = some out → W p l e ({ frames := 4, cells := 0, slots := 0, locals := 84 }) s m args below meth c s.heap [] 0 0 (MQ below (Qp (some (.int out))) args s 0 0 NoA) (F0 m 22 ls [])) : ∀ {x3 : Nat} {x4 : Int32} {ls : Array Slot}, x3 < 8 → lv_has ls 5 [(0, .ref (g.2.2 0)), (3, .ref (g.2.2 (29 + 2 * x3))), (4, .int x4)] → X11_refusalOfRally_s22 kf σ ρ k22 x3 x4 = some out → W p l e ({ frames := 4, cells := 0, slots := 0, locals := 84 }) s m args below meth c s.heap [] 0 0 (MQ below (Qp (some (.int out))) args s 0 0 NoA) (F0 m 22 ls []) := by
  intro x3 x4 ls hx3 hl hF
  unfold X11_refusalOfRally_s22 at hF
  refine lv_iload S.1 S.2.1 dX11_refusalOfRally_22 (lv_at hl 2 rfl) ?_
  refine lv_iconst (v := 1) S.1 S.2.1 dX11_refusalOfRally_24 (by decide) ?_
  refine lv_iadd S.1 S.2.1 dX11_refusalOfRally_25 ?_
  refine lv_aload_n S.1 S.2.1 dX11_refusalOfRally_26 rfl (lv_at hl 1 rfl) ?_
  refine r_getI S hK hM cfX7 (29 + 2 * x3) 3 (sh_lt hx3) (ly_sh hx3) rfl (by decide) tw_1_105 dX11_refusalOfRally_27 ?_
  refine lv_icmp_ge (tgt := 68) S.1 S.2.1 dX11_refusalOfRally_30 (by decide) (fun b4 => ?_) (fun b4 => ?_)
  · have hF := (if_pos b4).symm.trans hF
    refine lv_iconst (v := 0) S.1 S.2.1 dX11_refusalOfRally_68 (by decide) ?_
    cases hF
    exact z_p S hr hlk rfl dX11_refusalOfRally_69
  · have hF := (if_neg b4).symm.trans hF
    refine lv_aload_n S.1 S.2.1 dX11_refusalOfRally_33 rfl (lv_at hl 0 rfl) ?_
    refine r_getC S hK hM cfX11 0 0 1 (by decide) ly_0 rfl (by decide) tw_1_193 dX11_refusalOfRally_34 ?_
    refine lv_aload_n S.1 S.2.1 dX11_refusalOfRally_37 rfl (lv_at hl 1 rfl) ?_
    refine r_getC S hK hM cfX7 (29 + 2 * x3) 0 (29 + 2 * x3 + 1) (sh_lt hx3) (ly_sh hx3) rfl (by decide) tw_1_98 dX11_refusalOfRally_38 ?_
    refine lv_iload S.1 S.2.1 dX11_refusalOfRally_41 (lv_at hl 2 rfl) ?_
    obtain ⟨hv5, v5, ev5, hF⟩ := rd_some hF
    refine r_iald S hK hM (29 + 2 * x3 + 1) (sh_lt1 hx3) (ly_sh1 hx3) hv5 ev5 dX11_refusalOfRally_43 ?_
    refine lv_aload_n S.1 S.2.1 dX11_refusalOfRally_44 rfl (lv_at hl 1 rfl) ?_
    refine r_getC S hK hM cfX7 (29 + 2 * x3) 0 (29 + 2 * x3 + 1) (sh_lt hx3) (ly_sh hx3) rfl (by decide) tw_1_98 dX11_refusalOfRally_45 ?_
    refine lv_iload S.1 S.2.1 dX11_refusalOfRally_48 (lv_at hl 2 rfl) ?_
    refine lv_iconst (v := 1) S.1 S.2.1 dX11_refusalOfRally_50 (by decide) ?_
    refine lv_iadd S.1 S.2.1 dX11_refusalOfRally_51 ?_
    obtain ⟨hv6, v6, ev6, hF⟩ := rd_some hF
    refine r_iald S hK hM (29 + 2 * x3 + 1) (sh_lt1 hx3) (ly_sh1 hx3) hv6 ev6 dX11_refusalOfRally_52 ?_
    obtain ⟨r7, er7, hF⟩ := bd1_some hF
    refine k_p (va_runV (As := [.int v5, .int v6]) (rest := []) S (c_X1_isHit hPL ct_1 er7) (cwV 2 S.2.2.2.2 (ul_V tw_3_54 tw_2_65 tw_2_66 tw_1_2 cw_X1_isHit) rfl rfl rfl hv_X1_isHit ⟨Nat.le_of_ble_eq_true rfl, Nat.le_of_ble_eq_true rfl⟩) ⟨PreM.blind, hM.recv hK cfX1 1 (ct_lt0 ct_1) (ly_ct ct_1), hM.pre hK⟩ rfl rfl hl.1 rfl (lv_room (Nat.le_of_ble_eq_true rfl)) dX11_refusalOfRally_53 ⟨Nat.zero_le _, Nat.zero_le _⟩) ?_
    refine lv_if_ne (tgt := 62) S.1 S.2.1 dX11_refusalOfRally_56 (by decide) (fun b8 => ?_) (fun b8 => ?_)
    · have hF := (if_neg b8).symm.trans hF
      obtain ⟨v9, ev9, hF⟩ := bd_some hF
      refine lv_iinc (v := v9) (lv' := [(4, .int v9), (0, .ref (g.2.2 0)), (3, .ref (g.2.2 (29 + 2 * x3)))]) S.1 S.2.1 dX11_refusalOfRally_62 hl (k := 2) rfl (by rw [ev9]; rfl) (by decide) rfl (fun ls hl => ?_)
      refine lv_goto (tgt := 22) S.1 S.2.1 dX11_refusalOfRally_65 (by decide) ?_
      exact hk22 hx3  (lv_sub hl [1, 2, 0] rfl)  hF
    · have hF := (if_pos b8).symm.trans hF
      refine lv_bipush (v := (-13)) S.1 S.2.1 dX11_refusalOfRally_59 (by decide) ?_
      cases hF
      exact z_p S hr hlk rfl dX11_refusalOfRally_61
theorem wl_X11_refusalOfRally_22 {l : Launch} {g : GE} {A : Nat → Prop} {LP : List Nat} {kf : KF} {σ : IM} {ρ : RM} (hPL : PL LP kf) {p : Program} {e : Env} {s : State} {m : MethodId} {args : Array Value} {below : List Frame} {meth : Method} {c : Code} (S : CallFix p m c cX11_refusalOfRally 5 s args UL RX11) (hK : KK g s) (hr : meth.sig.returnType = (some .int)) (hlk : meth.locks = false) (hM : Mem lyC 48 g A (va_pl LP (skE kf)) σ ρ s.heap s.heap []) {out : Int32} : ∀ (n : Nat) {x3 : Nat} {x4 : Int32} {ls : Array Slot}, x3 < 8 → lv_has ls 5 [(0, .ref (g.2.2 0)), (3, .ref (g.2.2 (29 + 2 * x3))), (4, .int x4)] → X11_refusalOfRally_b22 kf σ ρ n x3 x4 = some out → W p l e ({ frames := 4, cells := 0, slots := 0, locals := 84 }) s m args below meth c s.heap [] 0 0 (MQ below (Qp (some (.int out))) args s 0 0 NoA) (F0 m 22 ls []) := by
  intro n
  induction n with
  | zero =>
    intro x3 x4 ls hx3 hl hF
    cases hF
  | succ n ih =>
    intro x3 x4 ls hx3 hl hF
    exact w_X11_refusalOfRally_22 hPL S hK hr hlk hM ih hx3 hl hF
def X11_refusalOfRally (kf : KF) (σ : IM) (ρ : RM) (a1 : Int32) : Option Int32 := bd1 (X11_refusalOfHits kf σ ρ a1) fun r1 => if r1 = 0 then (ix 8 a1 fun j3 => X11_refusalOfRally_b22 kf σ ρ 1000 j3 0) else (some r1)
set_option maxRecDepth 20000 in
theorem c_X11_refusalOfRally {l : Launch} {g : GE} {A : Nat → Prop} {LP : List Nat} {kf : KF} {σ : IM} {ρ : RM} {a1 : Int32} {out : Int32} (hPL : PL LP kf) (hF : X11_refusalOfRally kf σ ρ a1 = some out) : Met l yX11_refusalOfRally (.code yX11_refusalOfRally cX11_refusalOfRally 5 (some .int) :: UL) ({ frames := 4, cells := 0, slots := 0, locals := 84 }) (va_Pc [.ref (g.2.2 0), .int a1] (PreM lyC 48 g A (va_pl LP (skE kf)) σ ρ)) (Qp (some (.int out))) 0 0 NoA := by
  refine e_of (by decide) (Nat.le_of_ble_eq_true rfl) ?_
  intro p e s m below meth c ls S hr hlk hv hl
  have hM := Mem.of hv
  have hK := hv.2.1
  have hl : lv_has ls 5 [(0, .ref (g.2.2 0)), (1, .int a1)] := hl
  unfold X11_refusalOfRally at hF
  refine lv_aload_n S.1 S.2.1 dX11_refusalOfRally_0 rfl (lv_at hl 0 rfl) ?_
  refine lv_iload_n S.1 S.2.1 dX11_refusalOfRally_1 rfl (lv_at hl 1 rfl) ?_
  obtain ⟨r1, er1, hF⟩ := bd1_some hF
  refine k_p (va_runV (As := [.int a1]) (rest := []) S (c_X11_refusalOfHits hPL  er1) (cwV 1 S.2.2.2.2 (ul_V tw_3_147 tw_3_149 ts_X11_refusalOfHits tw_1_1 cw_X11_refusalOfHits) rfl rfl rfl hv_X11_refusalOfHits ⟨Nat.le_of_ble_eq_true rfl, Nat.le_of_ble_eq_true rfl⟩) ⟨PreM.blind, hM.recv hK cfX11 0 (by decide) ly_0, hM.pre hK⟩ rfl rfl hl.1 rfl (lv_room (Nat.le_of_ble_eq_true rfl)) dX11_refusalOfRally_2 ⟨Nat.zero_le _, Nat.zero_le _⟩) ?_
  refine lv_istore_n (lv' := [(2, .int r1), (0, .ref (g.2.2 0)), (1, .int a1)]) S.1 S.2.1 dX11_refusalOfRally_5 rfl hl (by decide) rfl (fun ls hl => ?_)
  refine lv_iload_n S.1 S.2.1 dX11_refusalOfRally_6 rfl (lv_at hl 0 rfl) ?_
  refine lv_if_eq (tgt := 12) S.1 S.2.1 dX11_refusalOfRally_7 (by decide) (fun b2 => ?_) (fun b2 => ?_)
  · have hF := (if_pos b2).symm.trans hF
    refine lv_aload_n S.1 S.2.1 dX11_refusalOfRally_12 rfl (lv_at hl 1 rfl) ?_
    refine r_getC S hK hM cfX11 0 4 28 (by decide) ly_0 rfl (by decide) tw_1_197 dX11_refusalOfRally_13 ?_
    refine lv_iload_n S.1 S.2.1 dX11_refusalOfRally_16 rfl (lv_at hl 2 rfl) ?_
    obtain ⟨hj3, j3, ej3, lj3, hF⟩ := ix_some hF
    refine r_aaldS S hK hM 28 (by decide) ly_28 hj3 ej3 dX11_refusalOfRally_17 ?_
    refine lv_astore_n (lv' := [(3, .ref (g.2.2 (29 + 2 * j3))), (2, .int r1), (0, .ref (g.2.2 0)), (1, .int a1)]) S.1 S.2.1 dX11_refusalOfRally_18 rfl hl (by decide) rfl (fun ls hl => ?_)
    refine lv_iconst (v := 0) S.1 S.2.1 dX11_refusalOfRally_19 (by decide) ?_
    refine lv_istore (lv' := [(4, .int 0), (3, .ref (g.2.2 (29 + 2 * j3))), (2, .int r1), (0, .ref (g.2.2 0)), (1, .int a1)]) S.1 S.2.1 dX11_refusalOfRally_20 hl (by decide) rfl (fun ls hl => ?_)
    exact wl_X11_refusalOfRally_22 hPL S hK hr hlk hM 1000 lj3 (lv_sub hl [3, 1, 0] rfl) hF
  · have hF := (if_neg b2).symm.trans hF
    refine lv_iload_n S.1 S.2.1 dX11_refusalOfRally_10 rfl (lv_at hl 0 rfl) ?_
    cases hF
    exact z_p S hr hlk rfl dX11_refusalOfRally_11
/-! X11_addWaysGone -/
def X11_addWaysGone_s2 (kf : KF) (k2 : Int32 → IM → RM → Option (IM × RM)) (x1 : Int32) (σ : IM) (ρ : RM) : Option (IM × RM) := if 4 ≤ x1 then (some (σ, ρ)) else (rd (σ 47) 4 x1 fun v2 => rd (σ 46) 4 x1 fun v3 => rd (σ (10 + 1)) 4 x1 fun v4 => bd1 (X11_way v3 v4) fun r5 => wr σ 47 4 x1 (v2 + r5) fun σ6 => bd (x1 + 1) fun v7 => k2 v7 σ6 ρ)
def X11_addWaysGone_b2 (kf : KF) : Nat → Int32 → IM → RM → Option (IM × RM)
  | 0 => fun _ _ _ => none
  | n + 1 => X11_addWaysGone_s2 kf (X11_addWaysGone_b2 kf n)
set_option maxRecDepth 20000 in
theorem w_X11_addWaysGone_2 {l : Launch} {g : GE} {A : Nat → Prop} {LP : List Nat} {kf : KF} (hPL : PL LP kf) {p : Program} {e : Env} {s : State} {m : MethodId} {args : Array Value} {below : List Frame} {meth : Method} {c : Code} (S : CallFix p m c cX11_addWaysGone 2 s args UL RX11) (hK : KK g s) (hr : meth.sig.returnType = none) (hlk : meth.locks = false) {out : IM × RM} {k2 : Int32 → IM → RM → Option (IM × RM)} (hk2 : ∀ {x1 : Int32} {σ : IM} {ρ : RM} {H : Heap} {locs : List Loc} {ls : Array Slot}, Mem lyC 48 g A (va_pl LP (skE kf)) σ ρ s.heap H locs → lv_has ls 2 [(0, .ref (g.2.2 0)), (1, .int x1)] → k2 x1 σ ρ = some out → W p l e ({ frames := 2, cells := 0, slots := 0, locals := 42 }) s m args below meth c H locs 0 0 (MQ below (Qm lyC 48 g A (va_pl LP (skE kf)) out.1 out.2 none) args s 0 0 A) (F0 m 2 ls [])) : ∀ {x1 : Int32} {σ : IM} {ρ : RM} {H : Heap} {locs : List Loc} {ls : Array Slot}, Mem lyC 48 g A (va_pl LP (skE kf)) σ ρ s.heap H locs → lv_has ls 2 [(0, .ref (g.2.2 0)), (1, .int x1)] → X11_addWaysGone_s2 kf k2 x1 σ ρ = some out → W p l e ({ frames := 2, cells := 0, slots := 0, locals := 42 }) s m args below meth c H locs 0 0 (MQ below (Qm lyC 48 g A (va_pl LP (skE kf)) out.1 out.2 none) args s 0 0 A) (F0 m 2 ls []) := by
  intro x1 σ ρ H locs ls hM hl hF
  unfold X11_addWaysGone_s2 at hF
  refine lv_iload_n S.1 S.2.1 dX11_addWaysGone_2 rfl (lv_at hl 1 rfl) ?_
  refine lv_iconst (v := 4) S.1 S.2.1 dX11_addWaysGone_3 (by decide) ?_
  refine lv_icmp_ge (tgt := 40) S.1 S.2.1 dX11_addWaysGone_4 (by decide) (fun b1 => ?_) (fun b1 => ?_)
  · have hF := (if_pos b1).symm.trans hF
    cases hF
    exact z_mv S hM hr hlk dX11_addWaysGone_40
  · have hF := (if_neg b1).symm.trans hF
    refine lv_aload_n S.1 S.2.1 dX11_addWaysGone_7 rfl (lv_at hl 0 rfl) ?_
    refine r_getC S hK hM cfX11 0 7 47 (by decide) ly_0 rfl (by decide) tw_1_200 dX11_addWaysGone_8 ?_
    refine lv_iload_n S.1 S.2.1 dX11_addWaysGone_11 rfl (lv_at hl 1 rfl) ?_
    refine lv_dup2_11 S.1 S.2.1 dX11_addWaysGone_12 rfl rfl ?_
    obtain ⟨hv2, v2, ev2, hF⟩ := rd_some hF
    refine r_iald S hK hM 47 (by decide) ly_47 hv2 ev2 dX11_addWaysGone_13 ?_
    refine lv_aload_n S.1 S.2.1 dX11_addWaysGone_14 rfl (lv_at hl 0 rfl) ?_
    refine r_getC S hK hM cfX11 0 6 46 (by decide) ly_0 rfl (by decide) tw_1_199 dX11_addWaysGone_15 ?_
    refine lv_iload_n S.1 S.2.1 dX11_addWaysGone_18 rfl (lv_at hl 1 rfl) ?_
    obtain ⟨hv3, v3, ev3, hF⟩ := rd_some hF
    refine r_iald S hK hM 46 (by decide) ly_46 hv3 ev3 dX11_addWaysGone_19 ?_
    refine lv_aload_n S.1 S.2.1 dX11_addWaysGone_20 rfl (lv_at hl 0 rfl) ?_
    refine r_getC S hK hM cfX11 0 1 10 (by decide) ly_0 rfl (by decide) tw_1_194 dX11_addWaysGone_21 ?_
    refine r_getC S hK hM cfX1 10 0 (10 + 1) (ct_lt0 ct_10) (ly_ct ct_10) rfl (by decide) tw_1_40 dX11_addWaysGone_24 ?_
    refine lv_iload_n S.1 S.2.1 dX11_addWaysGone_27 rfl (lv_at hl 1 rfl) ?_
    obtain ⟨hv4, v4, ev4, hF⟩ := rd_some hF
    refine r_iald S hK hM (10 + 1) (ct_lt ct_10 1 (by decide)) (ly_c1 ct_10) hv4 ev4 dX11_addWaysGone_28 ?_
    obtain ⟨r5, er5, hF⟩ := bd1_some hF
    refine k_p (va_runS (As := [.int v3, .int v4]) (rest := [.int v2, .int x1, .ref (g.2.2 47)]) S (c_X11_way hPL  er5) (va_cwS 2 S.2.2.2.2 (ul_S tw_3_160 tw_2_136 tw_1_1 cw_X11_way) rfl rfl rfl hs_X11_way ⟨Nat.le_of_ble_eq_true rfl, Nat.le_of_ble_eq_true rfl⟩) ⟨PreM.blind, hM.pre hK⟩ rfl rfl hl.1 rfl (lv_room (Nat.le_of_ble_eq_true rfl)) dX11_addWaysGone_29 ⟨Nat.zero_le _, Nat.zero_le _⟩) ?_
    refine lv_iadd S.1 S.2.1 dX11_addWaysGone_32 ?_
    obtain ⟨hσ6, σ6, eσ6, hF⟩ := wr_some hF
    refine r_iast S hK hM 47 (by decide) ly_47 hσ6 eσ6 dX11_addWaysGone_33 (fun H locs hM => ?_)
    obtain ⟨v7, ev7, hF⟩ := bd_some hF
    refine lv_iinc (v := v7) (lv' := [(1, .int v7), (0, .ref (g.2.2 0))]) S.1 S.2.1 dX11_addWaysGone_34 hl (k := 1) rfl (by rw [ev7]; rfl) (by decide) rfl (fun ls hl => ?_)
    refine lv_goto (tgt := 2) S.1 S.2.1 dX11_addWaysGone_37 (by decide) ?_
    exact hk2 hM (lv_sub hl [1, 0] rfl)  hF
theorem wl_X11_addWaysGone_2 {l : Launch} {g : GE} {A : Nat → Prop} {LP : List Nat} {kf : KF} (hPL : PL LP kf) {p : Program} {e : Env} {s : State} {m : MethodId} {args : Array Value} {below : List Frame} {meth : Method} {c : Code} (S : CallFix p m c cX11_addWaysGone 2 s args UL RX11) (hK : KK g s) (hr : meth.sig.returnType = none) (hlk : meth.locks = false) {out : IM × RM} : ∀ (n : Nat) {x1 : Int32} {σ : IM} {ρ : RM} {H : Heap} {locs : List Loc} {ls : Array Slot}, Mem lyC 48 g A (va_pl LP (skE kf)) σ ρ s.heap H locs → lv_has ls 2 [(0, .ref (g.2.2 0)), (1, .int x1)] → X11_addWaysGone_b2 kf n x1 σ ρ = some out → W p l e ({ frames := 2, cells := 0, slots := 0, locals := 42 }) s m args below meth c H locs 0 0 (MQ below (Qm lyC 48 g A (va_pl LP (skE kf)) out.1 out.2 none) args s 0 0 A) (F0 m 2 ls []) := by
  intro n
  induction n with
  | zero =>
    intro x1 σ ρ H locs ls hM hl hF
    cases hF
  | succ n ih =>
    intro x1 σ ρ H locs ls hM hl hF
    exact w_X11_addWaysGone_2 hPL S hK hr hlk ih hM hl hF
def X11_addWaysGone (kf : KF) (σ : IM) (ρ : RM) : Option (IM × RM) := X11_addWaysGone_b2 kf 1000 0 σ ρ
set_option maxRecDepth 20000 in
theorem c_X11_addWaysGone {l : Launch} {g : GE} {A : Nat → Prop} {LP : List Nat} {kf : KF} {σ : IM} {ρ : RM} {out : IM × RM} (hPL : PL LP kf) (hF : X11_addWaysGone kf σ ρ = some out) : Met l yX11_addWaysGone (.code yX11_addWaysGone cX11_addWaysGone 2 none :: UL) ({ frames := 2, cells := 0, slots := 0, locals := 42 }) (va_Pc [.ref (g.2.2 0)] (PreM lyC 48 g A (va_pl LP (skE kf)) σ ρ)) (Qm lyC 48 g A (va_pl LP (skE kf)) out.1 out.2 none) 0 0 A := by
  refine e_of (by decide) (Nat.le_of_ble_eq_true rfl) ?_
  intro p e s m below meth c ls S hr hlk hv hl
  have hM := Mem.of hv
  have hK := hv.2.1
  have hl : lv_has ls 2 [(0, .ref (g.2.2 0))] := hl
  unfold X11_addWaysGone at hF
  refine lv_iconst (v := 0) S.1 S.2.1 dX11_addWaysGone_0 (by decide) ?_
  refine lv_istore_n (lv' := [(1, .int 0), (0, .ref (g.2.2 0))]) S.1 S.2.1 dX11_addWaysGone_1 rfl hl (by decide) rfl (fun ls hl => ?_)
  exact wl_X11_addWaysGone_2 hPL S hK hr hlk 1000 hM (lv_sub hl [1, 0] rfl) hF
/-! X11_playRally -/
def X11_playRally_s33 (kf : KF) (j1 : Nat) (k33 : Int32 → IM → RM → Option (Int32 × IM × RM)) (x2 : Int32) (σ : IM) (ρ : RM) : Option (Int32 × IM × RM) := if σ (29 + 2 * j1) 3 ≤ x2 + 1 then (some ((σ (29 + 2 * j1) 3) / 2, σ, ρ)) else (ac σ (10 + 1) 4 46 4 0 0 4 fun σ8 => rd (σ8 (29 + 2 * j1 + 1)) 100 x2 fun v9 => rd (σ8 (29 + 2 * j1 + 1)) 100 (x2 + 1) fun v10 => bd3 (X1_strike kf σ8 ρ 10 v9 v10) fun r13 σ11 ρ12 => if r13 = 0 then (bd2 (X11_addWaysGone kf σ11 ρ12) fun σ15 ρ16 => bd (x2 + 2) fun v18 => k33 v18 σ15 ρ16) else (some ((x2 / 2) + 1, σ11, ρ12)))
def X11_playRally_b33 (kf : KF) (j1 : Nat) : Nat → Int32 → IM → RM → Option (Int32 × IM × RM)
  | 0 => fun _ _ _ => none
  | n + 1 => X11_playRally_s33 kf j1 (X11_playRally_b33 kf j1 n)
set_option maxRecDepth 20000 in
theorem w_X11_playRally_33 {l : Launch} {g : GE} {A : Nat → Prop} {LP : List Nat} {kf : KF} {j1 : Nat} (hPL : PL LP kf) (hj1 : j1 < 8) {p : Program} {e : Env} {s : State} {m : MethodId} {args : Array Value} {below : List Frame} {meth : Method} {c : Code} (S : CallFix p m c cX11_playRally 3 s args UL RX11) (hK : KK g s) (hr : meth.sig.returnType = (some .int)) (hlk : meth.locks = false) {out : Int32 × IM × RM} {k33 : Int32 → IM → RM → Option (Int32 × IM × RM)} (hk33 : ∀ {x2 : Int32} {σ : IM} {ρ : RM} {H : Heap} {locs : List Loc} {ls : Array Slot}, Mem lyC 48 g A (va_pl LP (skE kf)) σ ρ s.heap H locs → lv_has ls 3 [(0, .ref (g.2.2 0)), (1, .ref (g.2.2 (29 + 2 * j1))), (2, .int x2)] → k33 x2 σ ρ = some out → W p l e ({ frames := 4, cells := 0, slots := 0, locals := 100 }) s m args below meth c H locs 0 0 (MQ below (Qm lyC 48 g A (va_pl LP (skE kf)) out.2.1 out.2.2 (some (.int out.1))) args s 0 0 A) (F0 m 33 ls [])) : ∀ {x2 : Int32} {σ : IM} {ρ : RM} {H : Heap} {locs : List Loc} {ls : Array Slot}, Mem lyC 48 g A (va_pl LP (skE kf)) σ ρ s.heap H locs → lv_has ls 3 [(0, .ref (g.2.2 0)), (1, .ref (g.2.2 (29 + 2 * j1))), (2, .int x2)] → X11_playRally_s33 kf j1 k33 x2 σ ρ = some out → W p l e ({ frames := 4, cells := 0, slots := 0, locals := 100 }) s m args below meth c H locs 0 0 (MQ below (Qm lyC 48 g A (va_pl LP (skE kf)) out.2.1 out.2.2 (some (.int out.1))) args s 0 0 A) (F0 m 33 ls []) := by
  intro x2 σ ρ H locs ls hM hl hF
  unfold X11_playRally_s33 at hF
  refine lv_iload_n S.1 S.2.1 dX11_playRally_33 rfl (lv_at hl 2 rfl) ?_
  refine lv_iconst (v := 1) S.1 S.2.1 dX11_playRally_34 (by decide) ?_
  refine lv_iadd S.1 S.2.1 dX11_playRally_35 ?_
  refine lv_aload_n S.1 S.2.1 dX11_playRally_36 rfl (lv_at hl 1 rfl) ?_
  refine r_getI S hK hM cfX7 (29 + 2 * j1) 3 (sh_lt hj1) (ly_sh hj1) rfl (by decide) tw_1_105 dX11_playRally_37 ?_
  refine lv_icmp_ge (tgt := 100) S.1 S.2.1 dX11_playRally_40 (by decide) (fun b7 => ?_) (fun b7 => ?_)
  · have hF := (if_pos b7).symm.trans hF
    refine lv_aload_n S.1 S.2.1 dX11_playRally_100 rfl (lv_at hl 1 rfl) ?_
    refine r_getI S hK hM cfX7 (29 + 2 * j1) 3 (sh_lt hj1) (ly_sh hj1) rfl (by decide) tw_1_105 dX11_playRally_101 ?_
    refine lv_iconst (v := 2) S.1 S.2.1 dX11_playRally_104 (by decide) ?_
    refine lv_idiv S.1 S.2.1 dX11_playRally_105 (by decide) ?_
    cases hF
    exact z_m (v := (σ (29 + 2 * j1) 3) / 2) S hM hr hlk rfl dX11_playRally_106
  · have hF := (if_neg b7).symm.trans hF
    refine lv_aload_n S.1 S.2.1 dX11_playRally_43 rfl (lv_at hl 0 rfl) ?_
    refine r_getC S hK hM cfX11 0 1 10 (by decide) ly_0 rfl (by decide) tw_1_194 dX11_playRally_44 ?_
    refine r_getC S hK hM cfX1 10 0 (10 + 1) (ct_lt0 ct_10) (ly_ct ct_10) rfl (by decide) tw_1_40 dX11_playRally_47 ?_
    refine lv_iconst (v := 0) S.1 S.2.1 dX11_playRally_50 (by decide) ?_
    refine lv_aload_n S.1 S.2.1 dX11_playRally_51 rfl (lv_at hl 0 rfl) ?_
    refine r_getC S hK hM cfX11 0 6 46 (by decide) ly_0 rfl (by decide) tw_1_199 dX11_playRally_52 ?_
    refine lv_iconst (v := 0) S.1 S.2.1 dX11_playRally_55 (by decide) ?_
    refine lv_iconst (v := 4) S.1 S.2.1 dX11_playRally_56 (by decide) ?_
    obtain ⟨hσ8, σ8, eσ8, hF⟩ := ac_some hF
    refine r_copy S hK hM (10 + 1) 46 (ct_lt ct_10 1 (by decide)) (ly_c1 ct_10) (by decide) ly_46 hσ8 eσ8 (S.2.2.1.trans hl.1.symm) tw_3_155 tw_2_24 tw_2_23 tw_1_14 (Nat.le_of_ble_eq_true rfl) (Nat.le_of_ble_eq_true rfl) dX11_playRally_57 (fun H locs hM => ?_)
    refine lv_aload_n S.1 S.2.1 dX11_playRally_60 rfl (lv_at hl 0 rfl) ?_
    refine r_getC S hK hM cfX11 0 1 10 (by decide) ly_0 rfl (by decide) tw_1_194 dX11_playRally_61 ?_
    refine lv_aload_n S.1 S.2.1 dX11_playRally_64 rfl (lv_at hl 1 rfl) ?_
    refine r_getC S hK hM cfX7 (29 + 2 * j1) 0 (29 + 2 * j1 + 1) (sh_lt hj1) (ly_sh hj1) rfl (by decide) tw_1_98 dX11_playRally_65 ?_
    refine lv_iload_n S.1 S.2.1 dX11_playRally_68 rfl (lv_at hl 2 rfl) ?_
    obtain ⟨hv9, v9, ev9, hF⟩ := rd_some hF
    refine r_iald S hK hM (29 + 2 * j1 + 1) (sh_lt1 hj1) (ly_sh1 hj1) hv9 ev9 dX11_playRally_69 ?_
    refine lv_aload_n S.1 S.2.1 dX11_playRally_70 rfl (lv_at hl 1 rfl) ?_
    refine r_getC S hK hM cfX7 (29 + 2 * j1) 0 (29 + 2 * j1 + 1) (sh_lt hj1) (ly_sh hj1) rfl (by decide) tw_1_98 dX11_playRally_71 ?_
    refine lv_iload_n S.1 S.2.1 dX11_playRally_74 rfl (lv_at hl 2 rfl) ?_
    refine lv_iconst (v := 1) S.1 S.2.1 dX11_playRally_75 (by decide) ?_
    refine lv_iadd S.1 S.2.1 dX11_playRally_76 ?_
    obtain ⟨hv10, v10, ev10, hF⟩ := rd_some hF
    refine r_iald S hK hM (29 + 2 * j1 + 1) (sh_lt1 hj1) (ly_sh1 hj1) hv10 ev10 dX11_playRally_77 ?_
    obtain ⟨r13, σ11, ρ12, er13, hF⟩ := bd3_some hF
    refine k_m (va_runV (As := [.int v9, .int v10]) (rest := []) S (c_X1_strike hPL ct_10 er13) (cwV 2 S.2.2.2.2 (ul_V tw_3_49 tw_2_73 tw_2_74 tw_1_2 cw_X1_strike) rfl rfl rfl hv_X1_strike ⟨Nat.le_of_ble_eq_true rfl, Nat.le_of_ble_eq_true rfl⟩) ⟨PreM.blind, hM.recv hK cfX1 10 (ct_lt0 ct_10) (ly_ct ct_10), hM.pre hK⟩ rfl rfl hl.1 rfl (lv_room (Nat.le_of_ble_eq_true rfl)) dX11_playRally_78 ⟨Nat.zero_le _, Nat.zero_le _⟩) hM (fun H locs hM => ?_)
    show W _ _ _ _ _ _ _ _ _ _ _ _ _ _ _ (F0 m 81 ls [.int r13])
    refine lv_if_eq (tgt := 90) S.1 S.2.1 dX11_playRally_81 (by decide) (fun b14 => ?_) (fun b14 => ?_)
    · have hF := (if_pos b14).symm.trans hF
      refine lv_aload_n S.1 S.2.1 dX11_playRally_90 rfl (lv_at hl 0 rfl) ?_
      obtain ⟨σ15, ρ16, er17, hF⟩ := bd2_some hF
      refine k_m (va_runV (As := []) (rest := []) S (c_X11_addWaysGone hPL  er17) (cwV 0 S.2.2.2.2 (ul_V tw_3_156 tw_3_158 ts_X11_addWaysGone tw_1_1 cw_X11_addWaysGone) rfl rfl rfl hv_X11_addWaysGone ⟨Nat.le_of_ble_eq_true rfl, Nat.le_of_ble_eq_true rfl⟩) ⟨PreM.blind, hM.recv hK cfX11 0 (by decide) ly_0, hM.pre hK⟩ rfl rfl hl.1 rfl (lv_room (Nat.le_of_ble_eq_true rfl)) dX11_playRally_91 ⟨Nat.zero_le _, Nat.zero_le _⟩) hM (fun H locs hM => ?_)
      show W _ _ _ _ _ _ _ _ _ _ _ _ _ _ _ (F0 m 94 ls [])
      obtain ⟨v18, ev18, hF⟩ := bd_some hF
      refine lv_iinc (v := v18) (lv' := [(2, .int v18), (0, .ref (g.2.2 0)), (1, .ref (g.2.2 (29 + 2 * j1)))]) S.1 S.2.1 dX11_playRally_94 hl (k := 2) rfl (by rw [ev18]; rfl) (by decide) rfl (fun ls hl => ?_)
      refine lv_goto (tgt := 33) S.1 S.2.1 dX11_playRally_97 (by decide) ?_
      exact hk33 hM (lv_sub hl [1, 2, 0] rfl)  hF
    · have hF := (if_neg b14).symm.trans hF
      refine lv_iload_n S.1 S.2.1 dX11_playRally_84 rfl (lv_at hl 2 rfl) ?_
      refine lv_iconst (v := 2) S.1 S.2.1 dX11_playRally_85 (by decide) ?_
      refine lv_idiv S.1 S.2.1 dX11_playRally_86 (by decide) ?_
      refine lv_iconst (v := 1) S.1 S.2.1 dX11_playRally_87 (by decide) ?_
      refine lv_iadd S.1 S.2.1 dX11_playRally_88 ?_
      cases hF
      exact z_m (v := (x2 / 2) + 1) S hM hr hlk rfl dX11_playRally_89
theorem wl_X11_playRally_33 {l : Launch} {g : GE} {A : Nat → Prop} {LP : List Nat} {kf : KF} {j1 : Nat} (hPL : PL LP kf) (hj1 : j1 < 8) {p : Program} {e : Env} {s : State} {m : MethodId} {args : Array Value} {below : List Frame} {meth : Method} {c : Code} (S : CallFix p m c cX11_playRally 3 s args UL RX11) (hK : KK g s) (hr : meth.sig.returnType = (some .int)) (hlk : meth.locks = false) {out : Int32 × IM × RM} : ∀ (n : Nat) {x2 : Int32} {σ : IM} {ρ : RM} {H : Heap} {locs : List Loc} {ls : Array Slot}, Mem lyC 48 g A (va_pl LP (skE kf)) σ ρ s.heap H locs → lv_has ls 3 [(0, .ref (g.2.2 0)), (1, .ref (g.2.2 (29 + 2 * j1))), (2, .int x2)] → X11_playRally_b33 kf j1 n x2 σ ρ = some out → W p l e ({ frames := 4, cells := 0, slots := 0, locals := 100 }) s m args below meth c H locs 0 0 (MQ below (Qm lyC 48 g A (va_pl LP (skE kf)) out.2.1 out.2.2 (some (.int out.1))) args s 0 0 A) (F0 m 33 ls []) := by
  intro n
  induction n with
  | zero =>
    intro x2 σ ρ H locs ls hM hl hF
    cases hF
  | succ n ih =>
    intro x2 σ ρ H locs ls hM hl hF
    exact w_X11_playRally_33 hPL hj1 S hK hr hlk ih hM hl hF
def X11_playRally_s13 (kf : KF) (j1 : Nat) (k13 : Int32 → IM → RM → Option (Int32 × IM × RM)) (x2 : Int32) (σ : IM) (ρ : RM) : Option (Int32 × IM × RM) := if 4 ≤ x2 then (X11_playRally_b33 kf j1 1000 0 σ ρ) else (wr σ 47 4 x2 0 fun σ5 => bd (x2 + 1) fun v6 => k13 v6 σ5 ρ)
def X11_playRally_b13 (kf : KF) (j1 : Nat) : Nat → Int32 → IM → RM → Option (Int32 × IM × RM)
  | 0 => fun _ _ _ => none
  | n + 1 => X11_playRally_s13 kf j1 (X11_playRally_b13 kf j1 n)
set_option maxRecDepth 20000 in
theorem w_X11_playRally_13 {l : Launch} {g : GE} {A : Nat → Prop} {LP : List Nat} {kf : KF} {j1 : Nat} (hPL : PL LP kf) (hj1 : j1 < 8) {p : Program} {e : Env} {s : State} {m : MethodId} {args : Array Value} {below : List Frame} {meth : Method} {c : Code} (S : CallFix p m c cX11_playRally 3 s args UL RX11) (hK : KK g s) (hr : meth.sig.returnType = (some .int)) (hlk : meth.locks = false) {out : Int32 × IM × RM} {k13 : Int32 → IM → RM → Option (Int32 × IM × RM)} (hk13 : ∀ {x2 : Int32} {σ : IM} {ρ : RM} {H : Heap} {locs : List Loc} {ls : Array Slot}, Mem lyC 48 g A (va_pl LP (skE kf)) σ ρ s.heap H locs → lv_has ls 3 [(0, .ref (g.2.2 0)), (1, .ref (g.2.2 (29 + 2 * j1))), (2, .int x2)] → k13 x2 σ ρ = some out → W p l e ({ frames := 4, cells := 0, slots := 0, locals := 100 }) s m args below meth c H locs 0 0 (MQ below (Qm lyC 48 g A (va_pl LP (skE kf)) out.2.1 out.2.2 (some (.int out.1))) args s 0 0 A) (F0 m 13 ls [])) : ∀ {x2 : Int32} {σ : IM} {ρ : RM} {H : Heap} {locs : List Loc} {ls : Array Slot}, Mem lyC 48 g A (va_pl LP (skE kf)) σ ρ s.heap H locs → lv_has ls 3 [(0, .ref (g.2.2 0)), (1, .ref (g.2.2 (29 + 2 * j1))), (2, .int x2)] → X11_playRally_s13 kf j1 k13 x2 σ ρ = some out → W p l e ({ frames := 4, cells := 0, slots := 0, locals := 100 }) s m args below meth c H locs 0 0 (MQ below (Qm lyC 48 g A (va_pl LP (skE kf)) out.2.1 out.2.2 (some (.int out.1))) args s 0 0 A) (F0 m 13 ls []) := by
  intro x2 σ ρ H locs ls hM hl hF
  unfold X11_playRally_s13 at hF
  refine lv_iload_n S.1 S.2.1 dX11_playRally_13 rfl (lv_at hl 2 rfl) ?_
  refine lv_iconst (v := 4) S.1 S.2.1 dX11_playRally_14 (by decide) ?_
  refine lv_icmp_ge (tgt := 31) S.1 S.2.1 dX11_playRally_15 (by decide) (fun b4 => ?_) (fun b4 => ?_)
  · have hF := (if_pos b4).symm.trans hF
    refine lv_iconst (v := 0) S.1 S.2.1 dX11_playRally_31 (by decide) ?_
    refine lv_istore_n (lv' := [(2, .int 0), (0, .ref (g.2.2 0)), (1, .ref (g.2.2 (29 + 2 * j1)))]) S.1 S.2.1 dX11_playRally_32 rfl hl (by decide) rfl (fun ls hl => ?_)
    exact wl_X11_playRally_33 hPL hj1 S hK hr hlk 1000 hM (lv_sub hl [1, 2, 0] rfl) hF
  · have hF := (if_neg b4).symm.trans hF
    refine lv_aload_n S.1 S.2.1 dX11_playRally_18 rfl (lv_at hl 0 rfl) ?_
    refine r_getC S hK hM cfX11 0 7 47 (by decide) ly_0 rfl (by decide) tw_1_200 dX11_playRally_19 ?_
    refine lv_iload_n S.1 S.2.1 dX11_playRally_22 rfl (lv_at hl 2 rfl) ?_
    refine lv_iconst (v := 0) S.1 S.2.1 dX11_playRally_23 (by decide) ?_
    obtain ⟨hσ5, σ5, eσ5, hF⟩ := wr_some hF
    refine r_iast S hK hM 47 (by decide) ly_47 hσ5 eσ5 dX11_playRally_24 (fun H locs hM => ?_)
    obtain ⟨v6, ev6, hF⟩ := bd_some hF
    refine lv_iinc (v := v6) (lv' := [(2, .int v6), (0, .ref (g.2.2 0)), (1, .ref (g.2.2 (29 + 2 * j1)))]) S.1 S.2.1 dX11_playRally_25 hl (k := 2) rfl (by rw [ev6]; rfl) (by decide) rfl (fun ls hl => ?_)
    refine lv_goto (tgt := 13) S.1 S.2.1 dX11_playRally_28 (by decide) ?_
    exact hk13 hM (lv_sub hl [1, 2, 0] rfl)  hF
theorem wl_X11_playRally_13 {l : Launch} {g : GE} {A : Nat → Prop} {LP : List Nat} {kf : KF} {j1 : Nat} (hPL : PL LP kf) (hj1 : j1 < 8) {p : Program} {e : Env} {s : State} {m : MethodId} {args : Array Value} {below : List Frame} {meth : Method} {c : Code} (S : CallFix p m c cX11_playRally 3 s args UL RX11) (hK : KK g s) (hr : meth.sig.returnType = (some .int)) (hlk : meth.locks = false) {out : Int32 × IM × RM} : ∀ (n : Nat) {x2 : Int32} {σ : IM} {ρ : RM} {H : Heap} {locs : List Loc} {ls : Array Slot}, Mem lyC 48 g A (va_pl LP (skE kf)) σ ρ s.heap H locs → lv_has ls 3 [(0, .ref (g.2.2 0)), (1, .ref (g.2.2 (29 + 2 * j1))), (2, .int x2)] → X11_playRally_b13 kf j1 n x2 σ ρ = some out → W p l e ({ frames := 4, cells := 0, slots := 0, locals := 100 }) s m args below meth c H locs 0 0 (MQ below (Qm lyC 48 g A (va_pl LP (skE kf)) out.2.1 out.2.2 (some (.int out.1))) args s 0 0 A) (F0 m 13 ls []) := by
  intro n
  induction n with
  | zero =>
    intro x2 σ ρ H locs ls hM hl hF
    cases hF
  | succ n ih =>
    intro x2 σ ρ H locs ls hM hl hF
    exact w_X11_playRally_13 hPL hj1 S hK hr hlk ih hM hl hF
def X11_playRally (kf : KF) (σ : IM) (ρ : RM) (j1 : Nat) : Option (Int32 × IM × RM) := bd2 (X1_become kf σ ρ 10 1) fun σ1 ρ2 => X11_playRally_b13 kf j1 1000 0 σ1 ρ2
set_option maxRecDepth 20000 in
theorem c_X11_playRally {l : Launch} {g : GE} {A : Nat → Prop} {LP : List Nat} {kf : KF} {σ : IM} {ρ : RM} {j1 : Nat} {out : Int32 × IM × RM} (hPL : PL LP kf) (hj1 : j1 < 8) (hF : X11_playRally kf σ ρ j1 = some out) : Met l yX11_playRally (.code yX11_playRally cX11_playRally 3 (some .int) :: UL) ({ frames := 4, cells := 0, slots := 0, locals := 100 }) (va_Pc [.ref (g.2.2 0), .ref (g.2.2 (29 + 2 * j1))] (PreM lyC 48 g A (va_pl LP (skE kf)) σ ρ)) (Qm lyC 48 g A (va_pl LP (skE kf)) out.2.1 out.2.2 (some (.int out.1))) 0 0 A := by
  refine e_of (by decide) (Nat.le_of_ble_eq_true rfl) ?_
  intro p e s m below meth c ls S hr hlk hv hl
  have hM := Mem.of hv
  have hK := hv.2.1
  have hl : lv_has ls 3 [(0, .ref (g.2.2 0)), (1, .ref (g.2.2 (29 + 2 * j1)))] := hl
  unfold X11_playRally at hF
  refine lv_aload_n S.1 S.2.1 dX11_playRally_0 rfl (lv_at hl 0 rfl) ?_
  refine r_getC S hK hM cfX11 0 1 10 (by decide) ly_0 rfl (by decide) tw_1_194 dX11_playRally_1 ?_
  refine lv_aload_n S.1 S.2.1 dX11_playRally_4 rfl (lv_at hl 0 rfl) ?_
  refine r_getC S hK hM cfX11 0 0 1 (by decide) ly_0 rfl (by decide) tw_1_193 dX11_playRally_5 ?_
  obtain ⟨σ1, ρ2, er3, hF⟩ := bd2_some hF
  refine k_m (va_runV (As := [.ref (g.2.2 1)]) (rest := []) S (c_X1_become hPL ct_10 ct_1 er3) (cwV 1 S.2.2.2.2 (ul_V tw_2_18 tw_2_19 tw_2_20 tw_1_2 cw_X1_become) rfl rfl rfl hv_X1_become ⟨Nat.le_of_ble_eq_true rfl, Nat.le_of_ble_eq_true rfl⟩) ⟨PreM.blind, hM.recv hK cfX1 10 (ct_lt0 ct_10) (ly_ct ct_10), hM.pre hK⟩ rfl rfl hl.1 rfl (lv_room (Nat.le_of_ble_eq_true rfl)) dX11_playRally_8 ⟨Nat.zero_le _, Nat.zero_le _⟩) hM (fun H locs hM => ?_)
  show W _ _ _ _ _ _ _ _ _ _ _ _ _ _ _ (F0 m 11 ls [])
  refine lv_iconst (v := 0) S.1 S.2.1 dX11_playRally_11 (by decide) ?_
  refine lv_istore_n (lv' := [(2, .int 0), (0, .ref (g.2.2 0)), (1, .ref (g.2.2 (29 + 2 * j1)))]) S.1 S.2.1 dX11_playRally_12 rfl hl (by decide) rfl (fun ls hl => ?_)
  exact wl_X11_playRally_13 hPL hj1 S hK hr hlk 1000 hM (lv_sub hl [1, 2, 0] rfl) hF
/-! X11_sideWithMorePoints -/
def X11_sideWithMorePoints_s2 (kf : KF) (σ : IM) (ρ : RM) (k2 : Int32 → Option Int32) (x1 : Int32) : Option Int32 := if 2 ≤ x1 then (some 2) else (rd (σ (10 + 7)) 2 x1 fun v2 => rd (σ (1 + 7)) 2 x1 fun v3 => if v2 ≤ v3 then (bd (x1 + 1) fun v5 => k2 v5) else (some x1))
def X11_sideWithMorePoints_b2 (kf : KF) (σ : IM) (ρ : RM) : Nat → Int32 → Option Int32
  | 0 => fun _ => none
  | n + 1 => X11_sideWithMorePoints_s2 kf σ ρ (X11_sideWithMorePoints_b2 kf σ ρ n)
set_option maxRecDepth 20000 in
theorem w_X11_sideWithMorePoints_2 {l : Launch} {g : GE} {A : Nat → Prop} {LP : List Nat} {kf : KF} {σ : IM} {ρ : RM} (hPL : PL LP kf) {p : Program} {e : Env} {s : State} {m : MethodId} {args : Array Value} {below : List Frame} {meth : Method} {c : Code} (S : CallFix p m c cX11_sideWithMorePoints 2 s args UL RX11) (hK : KK g s) (hr : meth.sig.returnType = (some .int)) (hlk : meth.locks = false) (hM : Mem lyC 48 g A (va_pl LP (skE kf)) σ ρ s.heap s.heap []) {out : Int32} {k2 : Int32 → Option Int32} (hk2 : ∀ {x1 : Int32} {ls : Array Slot}, lv_has ls 2 [(0, .ref (g.2.2 0)), (1, .int x1)] → k2 x1 = some out → W p l e ({ frames := 0, cells := 0, slots := 0, locals := 0 }) s m args below meth c s.heap [] 0 0 (MQ below (Qp (some (.int out))) args s 0 0 NoA) (F0 m 2 ls [])) : ∀ {x1 : Int32} {ls : Array Slot}, lv_has ls 2 [(0, .ref (g.2.2 0)), (1, .int x1)] → X11_sideWithMorePoints_s2 kf σ ρ k2 x1 = some out → W p l e ({ frames := 0, cells := 0, slots := 0, locals := 0 }) s m args below meth c s.heap [] 0 0 (MQ below (Qp (some (.int out))) args s 0 0 NoA) (F0 m 2 ls []) := by
  intro x1 ls hl hF
  unfold X11_sideWithMorePoints_s2 at hF
  refine lv_iload_n S.1 S.2.1 dX11_sideWithMorePoints_2 rfl (lv_at hl 1 rfl) ?_
  refine lv_iconst (v := 2) S.1 S.2.1 dX11_sideWithMorePoints_3 (by decide) ?_
  refine lv_icmp_ge (tgt := 36) S.1 S.2.1 dX11_sideWithMorePoints_4 (by decide) (fun b1 => ?_) (fun b1 => ?_)
  · have hF := (if_pos b1).symm.trans hF
    refine lv_iconst (v := 2) S.1 S.2.1 dX11_sideWithMorePoints_36 (by decide) ?_
    cases hF
    exact z_p S hr hlk rfl dX11_sideWithMorePoints_37
  · have hF := (if_neg b1).symm.trans hF
    refine lv_aload_n S.1 S.2.1 dX11_sideWithMorePoints_7 rfl (lv_at hl 0 rfl) ?_
    refine r_getC S hK hM cfX11 0 1 10 (by decide) ly_0 rfl (by decide) tw_1_194 dX11_sideWithMorePoints_8 ?_
    refine r_getC S hK hM cfX1 10 6 (10 + 7) (ct_lt0 ct_10) (ly_ct ct_10) rfl (by decide) tw_1_52 dX11_sideWithMorePoints_11 ?_
    refine lv_iload_n S.1 S.2.1 dX11_sideWithMorePoints_14 rfl (lv_at hl 1 rfl) ?_
    obtain ⟨hv2, v2, ev2, hF⟩ := rd_some hF
    refine r_iald S hK hM (10 + 7) (ct_lt ct_10 7 (by decide)) (ly_c7 ct_10) hv2 ev2 dX11_sideWithMorePoints_15 ?_
    refine lv_aload_n S.1 S.2.1 dX11_sideWithMorePoints_16 rfl (lv_at hl 0 rfl) ?_
    refine r_getC S hK hM cfX11 0 0 1 (by decide) ly_0 rfl (by decide) tw_1_193 dX11_sideWithMorePoints_17 ?_
    refine r_getC S hK hM cfX1 1 6 (1 + 7) (ct_lt0 ct_1) (ly_ct ct_1) rfl (by decide) tw_1_52 dX11_sideWithMorePoints_20 ?_
    refine lv_iload_n S.1 S.2.1 dX11_sideWithMorePoints_23 rfl (lv_at hl 1 rfl) ?_
    obtain ⟨hv3, v3, ev3, hF⟩ := rd_some hF
    refine r_iald S hK hM (1 + 7) (ct_lt ct_1 7 (by decide)) (ly_c7 ct_1) hv3 ev3 dX11_sideWithMorePoints_24 ?_
    refine lv_icmp_le (tgt := 30) S.1 S.2.1 dX11_sideWithMorePoints_25 (by decide) (fun b4 => ?_) (fun b4 => ?_)
    · have hF := (if_pos b4).symm.trans hF
      obtain ⟨v5, ev5, hF⟩ := bd_some hF
      refine lv_iinc (v := v5) (lv' := [(1, .int v5), (0, .ref (g.2.2 0))]) S.1 S.2.1 dX11_sideWithMorePoints_30 hl (k := 1) rfl (by rw [ev5]; rfl) (by decide) rfl (fun ls hl => ?_)
      refine lv_goto (tgt := 2) S.1 S.2.1 dX11_sideWithMorePoints_33 (by decide) ?_
      exact hk2  (lv_sub hl [1, 0] rfl)  hF
    · have hF := (if_neg b4).symm.trans hF
      refine lv_iload_n S.1 S.2.1 dX11_sideWithMorePoints_28 rfl (lv_at hl 1 rfl) ?_
      cases hF
      exact z_p S hr hlk rfl dX11_sideWithMorePoints_29
theorem wl_X11_sideWithMorePoints_2 {l : Launch} {g : GE} {A : Nat → Prop} {LP : List Nat} {kf : KF} {σ : IM} {ρ : RM} (hPL : PL LP kf) {p : Program} {e : Env} {s : State} {m : MethodId} {args : Array Value} {below : List Frame} {meth : Method} {c : Code} (S : CallFix p m c cX11_sideWithMorePoints 2 s args UL RX11) (hK : KK g s) (hr : meth.sig.returnType = (some .int)) (hlk : meth.locks = false) (hM : Mem lyC 48 g A (va_pl LP (skE kf)) σ ρ s.heap s.heap []) {out : Int32} : ∀ (n : Nat) {x1 : Int32} {ls : Array Slot}, lv_has ls 2 [(0, .ref (g.2.2 0)), (1, .int x1)] → X11_sideWithMorePoints_b2 kf σ ρ n x1 = some out → W p l e ({ frames := 0, cells := 0, slots := 0, locals := 0 }) s m args below meth c s.heap [] 0 0 (MQ below (Qp (some (.int out))) args s 0 0 NoA) (F0 m 2 ls []) := by
  intro n
  induction n with
  | zero =>
    intro x1 ls hl hF
    cases hF
  | succ n ih =>
    intro x1 ls hl hF
    exact w_X11_sideWithMorePoints_2 hPL S hK hr hlk hM ih hl hF
def X11_sideWithMorePoints (kf : KF) (σ : IM) (ρ : RM) : Option Int32 := X11_sideWithMorePoints_b2 kf σ ρ 1000 0
set_option maxRecDepth 20000 in
theorem c_X11_sideWithMorePoints {l : Launch} {g : GE} {A : Nat → Prop} {LP : List Nat} {kf : KF} {σ : IM} {ρ : RM} {out : Int32} (hPL : PL LP kf) (hF : X11_sideWithMorePoints kf σ ρ = some out) : Met l yX11_sideWithMorePoints (.code yX11_sideWithMorePoints cX11_sideWithMorePoints 2 (some .int) :: UL) ({ frames := 0, cells := 0, slots := 0, locals := 0 }) (va_Pc [.ref (g.2.2 0)] (PreM lyC 48 g A (va_pl LP (skE kf)) σ ρ)) (Qp (some (.int out))) 0 0 NoA := by
  refine e_of (by decide) (Nat.le_of_ble_eq_true rfl) ?_
  intro p e s m below meth c ls S hr hlk hv hl
  have hM := Mem.of hv
  have hK := hv.2.1
  have hl : lv_has ls 2 [(0, .ref (g.2.2 0))] := hl
  unfold X11_sideWithMorePoints at hF
  refine lv_iconst (v := 0) S.1 S.2.1 dX11_sideWithMorePoints_0 (by decide) ?_
  refine lv_istore_n (lv' := [(1, .int 0), (0, .ref (g.2.2 0))]) S.1 S.2.1 dX11_sideWithMorePoints_1 rfl hl (by decide) rfl (fun ls hl => ?_)
  exact wl_X11_sideWithMorePoints_2 hPL S hK hr hlk hM 1000 (lv_sub hl [1, 0] rfl) hF
/-! X11_rally -/
def X11_rally (kf : KF) (σ : IM) (ρ : RM) (a1 : Int32) (a2 : Int32) : Option (Int32 × IM × RM) := bd1 (X11_isBelow a2 2) fun r1 => if r1 = 0 then (some ((-1), σ, ρ)) else (bd1 (X11_refusalOfRally kf σ ρ a1) fun r3 => if r3 = 0 then (ix 8 a1 fun j5 => bd3 (X11_playRally kf σ ρ j5) fun r8 σ6 ρ7 => if a2 = 0 then (some (r8, σ6, ρ7)) else (bd1 (X11_sideWithMorePoints kf σ6 ρ7) fun r10 => some (r10, σ6, ρ7))) else (some (r3, σ, ρ)))
set_option maxRecDepth 20000 in
theorem c_X11_rally {l : Launch} {g : GE} {A : Nat → Prop} {LP : List Nat} {kf : KF} {σ : IM} {ρ : RM} {a1 : Int32} {a2 : Int32} {out : Int32 × IM × RM} (hPL : PL LP kf) (hF : X11_rally kf σ ρ a1 a2 = some out) : Met l yX11_rally (.code yX11_rally cX11_rally 5 (some .int) :: UL) ({ frames := 5, cells := 0, slots := 0, locals := 122 }) (va_Pc [.ref (g.2.2 0), .int a1, .int a2] (PreM lyC 48 g A (va_pl LP (skE kf)) σ ρ)) (Qm lyC 48 g A (va_pl LP (skE kf)) out.2.1 out.2.2 (some (.int out.1))) 0 0 A := by
  refine e_of (by decide) (Nat.le_of_ble_eq_true rfl) ?_
  intro p e s m below meth c ls S hr hlk hv hl
  have hM := Mem.of hv
  have hK := hv.2.1
  have hl : lv_has ls 5 [(0, .ref (g.2.2 0)), (1, .int a1), (2, .int a2)] := hl
  unfold X11_rally at hF
  refine lv_iload_n S.1 S.2.1 dX11_rally_0 rfl (lv_at hl 2 rfl) ?_
  refine lv_iconst (v := 2) S.1 S.2.1 dX11_rally_1 (by decide) ?_
  obtain ⟨r1, er1, hF⟩ := bd1_some hF
  refine k_p (va_runS (As := [.int a2, .int 2]) (rest := []) S (c_X11_isBelow hPL  er1) (va_cwS 2 S.2.2.2.2 (ul_S tw_1_229 tw_1_230 tw_1_1 cw_X11_isBelow) rfl rfl rfl hs_X11_isBelow ⟨Nat.le_of_ble_eq_true rfl, Nat.le_of_ble_eq_true rfl⟩) ⟨PreM.blind, hM.pre hK⟩ rfl rfl hl.1 rfl (lv_room (Nat.le_of_ble_eq_true rfl)) dX11_rally_2 ⟨Nat.zero_le _, Nat.zero_le _⟩) ?_
  refine lv_if_ne (tgt := 10) S.1 S.2.1 dX11_rally_5 (by decide) (fun b2 => ?_) (fun b2 => ?_)
  · have hF := (if_neg b2).symm.trans hF
    refine lv_aload_n S.1 S.2.1 dX11_rally_10 rfl (lv_at hl 0 rfl) ?_
    refine lv_iload_n S.1 S.2.1 dX11_rally_11 rfl (lv_at hl 1 rfl) ?_
    obtain ⟨r3, er3, hF⟩ := bd1_some hF
    refine k_p (va_runV (As := [.int a1]) (rest := []) S (c_X11_refusalOfRally hPL  er3) (cwV 1 S.2.2.2.2 (ul_V tw_3_143 tw_3_145 ts_X11_refusalOfRally tw_1_1 cw_X11_refusalOfRally) rfl rfl rfl hv_X11_refusalOfRally ⟨Nat.le_of_ble_eq_true rfl, Nat.le_of_ble_eq_true rfl⟩) ⟨PreM.blind, hM.recv hK cfX11 0 (by decide) ly_0, hM.pre hK⟩ rfl rfl hl.1 rfl (lv_room (Nat.le_of_ble_eq_true rfl)) dX11_rally_12 ⟨Nat.zero_le _, Nat.zero_le _⟩) ?_
    refine lv_istore_n (lv' := [(3, .int r3), (0, .ref (g.2.2 0)), (1, .int a1), (2, .int a2)]) S.1 S.2.1 dX11_rally_15 rfl hl (by decide) rfl (fun ls hl => ?_)
    refine lv_iload_n S.1 S.2.1 dX11_rally_16 rfl (lv_at hl 0 rfl) ?_
    refine lv_if_eq (tgt := 22) S.1 S.2.1 dX11_rally_17 (by decide) (fun b4 => ?_) (fun b4 => ?_)
    · have hF := (if_pos b4).symm.trans hF
      refine lv_aload_n S.1 S.2.1 dX11_rally_22 rfl (lv_at hl 1 rfl) ?_
      refine lv_aload_n S.1 S.2.1 dX11_rally_23 rfl (lv_at hl 1 rfl) ?_
      refine r_getC S hK hM cfX11 0 4 28 (by decide) ly_0 rfl (by decide) tw_1_197 dX11_rally_24 ?_
      refine lv_iload_n S.1 S.2.1 dX11_rally_27 rfl (lv_at hl 2 rfl) ?_
      obtain ⟨hj5, j5, ej5, lj5, hF⟩ := ix_some hF
      refine r_aaldS S hK hM 28 (by decide) ly_28 hj5 ej5 dX11_rally_28 ?_
      obtain ⟨r8, σ6, ρ7, er8, hF⟩ := bd3_some hF
      refine k_m (va_runV (As := [.ref (g.2.2 (29 + 2 * j5))]) (rest := []) S (c_X11_playRally hPL lj5 er8) (cwV 1 S.2.2.2.2 (ul_V tw_3_151 tw_3_153 ts_X11_playRally tw_1_1 cw_X11_playRally) rfl rfl rfl hv_X11_playRally ⟨Nat.le_of_ble_eq_true rfl, Nat.le_of_ble_eq_true rfl⟩) ⟨PreM.blind, hM.recv hK cfX11 0 (by decide) ly_0, hM.pre hK⟩ rfl rfl hl.1 rfl (lv_room (Nat.le_of_ble_eq_true rfl)) dX11_rally_29 ⟨Nat.zero_le _, Nat.zero_le _⟩) hM (fun H locs hM => ?_)
      show W _ _ _ _ _ _ _ _ _ _ _ _ _ _ _ (F0 m 32 ls [.int r8])
      refine lv_istore (lv' := [(4, .int r8), (3, .int r3), (0, .ref (g.2.2 0)), (1, .int a1), (2, .int a2)]) S.1 S.2.1 dX11_rally_32 hl (by decide) rfl (fun ls hl => ?_)
      refine lv_iload_n S.1 S.2.1 dX11_rally_34 rfl (lv_at hl 4 rfl) ?_
      refine lv_if_ne (tgt := 43) S.1 S.2.1 dX11_rally_35 (by decide) (fun b9 => ?_) (fun b9 => ?_)
      · have hF := (if_neg b9).symm.trans hF
        refine lv_aload_n S.1 S.2.1 dX11_rally_43 rfl (lv_at hl 2 rfl) ?_
        obtain ⟨r10, er10, hF⟩ := bd1_some hF
        refine k_p (va_runV (As := []) (rest := []) S (c_X11_sideWithMorePoints hPL  er10) (cwV 0 S.2.2.2.2 (ul_V tw_3_161 tw_3_163 ts_X11_sideWithMorePoints tw_1_1 cw_X11_sideWithMorePoints) rfl rfl rfl hv_X11_sideWithMorePoints ⟨Nat.le_of_ble_eq_true rfl, Nat.le_of_ble_eq_true rfl⟩) ⟨PreM.blind, hM.recv hK cfX11 0 (by decide) ly_0, hM.pre hK⟩ rfl rfl hl.1 rfl (lv_room (Nat.le_of_ble_eq_true rfl)) dX11_rally_44 ⟨Nat.zero_le _, Nat.zero_le _⟩) ?_
        cases hF
        exact z_m (v := r10) S hM hr hlk rfl dX11_rally_47
      · have hF := (if_pos b9).symm.trans hF
        refine lv_iload S.1 S.2.1 dX11_rally_38 (lv_at hl 0 rfl) ?_
        refine lv_goto (tgt := 47) S.1 S.2.1 dX11_rally_40 (by decide) ?_
        cases hF
        exact z_m (v := r8) S hM hr hlk rfl dX11_rally_47
    · have hF := (if_neg b4).symm.trans hF
      refine lv_iload_n S.1 S.2.1 dX11_rally_20 rfl (lv_at hl 0 rfl) ?_
      cases hF
      exact z_m (v := r3) S hM hr hlk rfl dX11_rally_21
  · have hF := (if_pos b2).symm.trans hF
    refine lv_iconst (v := (-1)) S.1 S.2.1 dX11_rally_8 (by decide) ?_
    cases hF
    exact z_m (v := (-1)) S hM hr hlk rfl dX11_rally_9
/-! X11_ways -/
def X11_ways (kf : KF) (σ : IM) (ρ : RM) (a1 : Int32) (a2 : Int32) : Option (Int32 × IM × RM) := bd1 (X11_isBelow a2 4) fun r1 => if r1 = 0 then (some ((-1), σ, ρ)) else (bd1 (X11_refusalOfRally kf σ ρ a1) fun r3 => if r3 = 0 then (ix 8 a1 fun j5 => bd3 (X11_playRally kf σ ρ j5) fun r8 σ6 ρ7 => rd (σ6 47) 4 a2 fun v9 => some (v9, σ6, ρ7)) else (some (r3, σ, ρ)))
set_option maxRecDepth 20000 in
theorem c_X11_ways {l : Launch} {g : GE} {A : Nat → Prop} {LP : List Nat} {kf : KF} {σ : IM} {ρ : RM} {a1 : Int32} {a2 : Int32} {out : Int32 × IM × RM} (hPL : PL LP kf) (hF : X11_ways kf σ ρ a1 a2 = some out) : Met l yX11_ways (.code yX11_ways cX11_ways 4 (some .int) :: UL) ({ frames := 5, cells := 0, slots := 0, locals := 122 }) (va_Pc [.ref (g.2.2 0), .int a1, .int a2] (PreM lyC 48 g A (va_pl LP (skE kf)) σ ρ)) (Qm lyC 48 g A (va_pl LP (skE kf)) out.2.1 out.2.2 (some (.int out.1))) 0 0 A := by
  refine e_of (by decide) (Nat.le_of_ble_eq_true rfl) ?_
  intro p e s m below meth c ls S hr hlk hv hl
  have hM := Mem.of hv
  have hK := hv.2.1
  have hl : lv_has ls 4 [(0, .ref (g.2.2 0)), (1, .int a1), (2, .int a2)] := hl
  unfold X11_ways at hF
  refine lv_iload_n S.1 S.2.1 dX11_ways_0 rfl (lv_at hl 2 rfl) ?_
  refine lv_iconst (v := 4) S.1 S.2.1 dX11_ways_1 (by decide) ?_
  obtain ⟨r1, er1, hF⟩ := bd1_some hF
  refine k_p (va_runS (As := [.int a2, .int 4]) (rest := []) S (c_X11_isBelow hPL  er1) (va_cwS 2 S.2.2.2.2 (ul_S tw_1_229 tw_1_230 tw_1_1 cw_X11_isBelow) rfl rfl rfl hs_X11_isBelow ⟨Nat.le_of_ble_eq_true rfl, Nat.le_of_ble_eq_true rfl⟩) ⟨PreM.blind, hM.pre hK⟩ rfl rfl hl.1 rfl (lv_room (Nat.le_of_ble_eq_true rfl)) dX11_ways_2 ⟨Nat.zero_le _, Nat.zero_le _⟩) ?_
  refine lv_if_ne (tgt := 10) S.1 S.2.1 dX11_ways_5 (by decide) (fun b2 => ?_) (fun b2 => ?_)
  · have hF := (if_neg b2).symm.trans hF
    refine lv_aload_n S.1 S.2.1 dX11_ways_10 rfl (lv_at hl 0 rfl) ?_
    refine lv_iload_n S.1 S.2.1 dX11_ways_11 rfl (lv_at hl 1 rfl) ?_
    obtain ⟨r3, er3, hF⟩ := bd1_some hF
    refine k_p (va_runV (As := [.int a1]) (rest := []) S (c_X11_refusalOfRally hPL  er3) (cwV 1 S.2.2.2.2 (ul_V tw_3_143 tw_3_145 ts_X11_refusalOfRally tw_1_1 cw_X11_refusalOfRally) rfl rfl rfl hv_X11_refusalOfRally ⟨Nat.le_of_ble_eq_true rfl, Nat.le_of_ble_eq_true rfl⟩) ⟨PreM.blind, hM.recv hK cfX11 0 (by decide) ly_0, hM.pre hK⟩ rfl rfl hl.1 rfl (lv_room (Nat.le_of_ble_eq_true rfl)) dX11_ways_12 ⟨Nat.zero_le _, Nat.zero_le _⟩) ?_
    refine lv_istore_n (lv' := [(3, .int r3), (0, .ref (g.2.2 0)), (1, .int a1), (2, .int a2)]) S.1 S.2.1 dX11_ways_15 rfl hl (by decide) rfl (fun ls hl => ?_)
    refine lv_iload_n S.1 S.2.1 dX11_ways_16 rfl (lv_at hl 0 rfl) ?_
    refine lv_if_eq (tgt := 22) S.1 S.2.1 dX11_ways_17 (by decide) (fun b4 => ?_) (fun b4 => ?_)
    · have hF := (if_pos b4).symm.trans hF
      refine lv_aload_n S.1 S.2.1 dX11_ways_22 rfl (lv_at hl 1 rfl) ?_
      refine lv_aload_n S.1 S.2.1 dX11_ways_23 rfl (lv_at hl 1 rfl) ?_
      refine r_getC S hK hM cfX11 0 4 28 (by decide) ly_0 rfl (by decide) tw_1_197 dX11_ways_24 ?_
      refine lv_iload_n S.1 S.2.1 dX11_ways_27 rfl (lv_at hl 2 rfl) ?_
      obtain ⟨hj5, j5, ej5, lj5, hF⟩ := ix_some hF
      refine r_aaldS S hK hM 28 (by decide) ly_28 hj5 ej5 dX11_ways_28 ?_
      obtain ⟨r8, σ6, ρ7, er8, hF⟩ := bd3_some hF
      refine k_m (va_runV (As := [.ref (g.2.2 (29 + 2 * j5))]) (rest := []) S (c_X11_playRally hPL lj5 er8) (cwV 1 S.2.2.2.2 (ul_V tw_3_151 tw_3_153 ts_X11_playRally tw_1_1 cw_X11_playRally) rfl rfl rfl hv_X11_playRally ⟨Nat.le_of_ble_eq_true rfl, Nat.le_of_ble_eq_true rfl⟩) ⟨PreM.blind, hM.recv hK cfX11 0 (by decide) ly_0, hM.pre hK⟩ rfl rfl hl.1 rfl (lv_room (Nat.le_of_ble_eq_true rfl)) dX11_ways_29 ⟨Nat.zero_le _, Nat.zero_le _⟩) hM (fun H locs hM => ?_)
      show W _ _ _ _ _ _ _ _ _ _ _ _ _ _ _ (F0 m 32 ls [.int r8])
      refine lv_pop S.1 S.2.1 dX11_ways_32 rfl ?_
      refine lv_aload_n S.1 S.2.1 dX11_ways_33 rfl (lv_at hl 1 rfl) ?_
      refine r_getC S hK hM cfX11 0 7 47 (by decide) ly_0 rfl (by decide) tw_1_200 dX11_ways_34 ?_
      refine lv_iload_n S.1 S.2.1 dX11_ways_37 rfl (lv_at hl 3 rfl) ?_
      obtain ⟨hv9, v9, ev9, hF⟩ := rd_some hF
      refine r_iald S hK hM 47 (by decide) ly_47 hv9 ev9 dX11_ways_38 ?_
      cases hF
      exact z_m (v := v9) S hM hr hlk rfl dX11_ways_39
    · have hF := (if_neg b4).symm.trans hF
      refine lv_iload_n S.1 S.2.1 dX11_ways_20 rfl (lv_at hl 0 rfl) ?_
      cases hF
      exact z_m (v := r3) S hM hr hlk rfl dX11_ways_21
  · have hF := (if_pos b2).symm.trans hF
    refine lv_iconst (v := (-1)) S.1 S.2.1 dX11_ways_8 (by decide) ?_
    cases hF
    exact z_m (v := (-1)) S hM hr hlk rfl dX11_ways_9
/-! X11_spent -/
def X11_spent_b59 (kf : KF) (k28 : Int32 → Int32 → IM → RM → Option (Int32 × IM × RM)) (x3 : Int32) (x4 : Int32) (σ : IM) (ρ : RM) : Option (Int32 × IM × RM) := bd (x4 + 1) fun v11 => k28 x3 v11 σ ρ
set_option maxRecDepth 20000 in
theorem w_X11_spent_59 {l : Launch} {g : GE} {A : Nat → Prop} {LP : List Nat} {kf : KF} (hPL : PL LP kf) {p : Program} {e : Env} {s : State} {m : MethodId} {args : Array Value} {below : List Frame} {meth : Method} {c : Code} (S : CallFix p m c cX11_spent 5 s args UL RX11) (hK : KK g s) (hr : meth.sig.returnType = (some .int)) (hlk : meth.locks = false) {out : Int32 × IM × RM} {k28 : Int32 → Int32 → IM → RM → Option (Int32 × IM × RM)} (hk28 : ∀ {x3 : Int32} {x4 : Int32} {σ : IM} {ρ : RM} {H : Heap} {locs : List Loc} {ls : Array Slot}, Mem lyC 48 g A (va_pl LP (skE kf)) σ ρ s.heap H locs → lv_has ls 5 [(0, .ref (g.2.2 0)), (3, .int x3), (4, .int x4)] → k28 x3 x4 σ ρ = some out → W p l e ({ frames := 5, cells := 0, slots := 0, locals := 122 }) s m args below meth c H locs 0 0 (MQ below (Qm lyC 48 g A (va_pl LP (skE kf)) out.2.1 out.2.2 (some (.int out.1))) args s 0 0 A) (F0 m 28 ls [])) : ∀ {x3 : Int32} {x4 : Int32} {σ : IM} {ρ : RM} {H : Heap} {locs : List Loc} {ls : Array Slot}, Mem lyC 48 g A (va_pl LP (skE kf)) σ ρ s.heap H locs → lv_has ls 5 [(0, .ref (g.2.2 0)), (3, .int x3), (4, .int x4)] → X11_spent_b59 kf k28 x3 x4 σ ρ = some out → W p l e ({ frames := 5, cells := 0, slots := 0, locals := 122 }) s m args below meth c H locs 0 0 (MQ below (Qm lyC 48 g A (va_pl LP (skE kf)) out.2.1 out.2.2 (some (.int out.1))) args s 0 0 A) (F0 m 59 ls []) := by
  intro x3 x4 σ ρ H locs ls hM hl hF
  unfold X11_spent_b59 at hF
  obtain ⟨v11, ev11, hF⟩ := bd_some hF
  refine lv_iinc (v := v11) (lv' := [(4, .int v11), (0, .ref (g.2.2 0)), (3, .int x3)]) S.1 S.2.1 dX11_spent_59 hl (k := 2) rfl (by rw [ev11]; rfl) (by decide) rfl (fun ls hl => ?_)
  refine lv_goto (tgt := 28) S.1 S.2.1 dX11_spent_62 (by decide) ?_
  exact hk28 hM (lv_sub hl [1, 2, 0] rfl)  hF
def X11_spent_s28 (kf : KF) (k28 : Int32 → Int32 → IM → RM → Option (Int32 × IM × RM)) (x3 : Int32) (x4 : Int32) (σ : IM) (ρ : RM) : Option (Int32 × IM × RM) := if 4 ≤ x4 then (some (x3, σ, ρ)) else (rd (σ (10 + 3)) 4 x4 fun v8 => rd (σ (10 + 3)) 4 x3 fun v9 => if v8 ≤ v9 then (X11_spent_b59 kf k28 x3 x4 σ ρ) else (X11_spent_b59 kf k28 x4 x4 σ ρ))
def X11_spent_b28 (kf : KF) : Nat → Int32 → Int32 → IM → RM → Option (Int32 × IM × RM)
  | 0 => fun _ _ _ _ => none
  | n + 1 => X11_spent_s28 kf (X11_spent_b28 kf n)
set_option maxRecDepth 20000 in
theorem w_X11_spent_28 {l : Launch} {g : GE} {A : Nat → Prop} {LP : List Nat} {kf : KF} (hPL : PL LP kf) {p : Program} {e : Env} {s : State} {m : MethodId} {args : Array Value} {below : List Frame} {meth : Method} {c : Code} (S : CallFix p m c cX11_spent 5 s args UL RX11) (hK : KK g s) (hr : meth.sig.returnType = (some .int)) (hlk : meth.locks = false) {out : Int32 × IM × RM} {k28 : Int32 → Int32 → IM → RM → Option (Int32 × IM × RM)} (hk28 : ∀ {x3 : Int32} {x4 : Int32} {σ : IM} {ρ : RM} {H : Heap} {locs : List Loc} {ls : Array Slot}, Mem lyC 48 g A (va_pl LP (skE kf)) σ ρ s.heap H locs → lv_has ls 5 [(0, .ref (g.2.2 0)), (3, .int x3), (4, .int x4)] → k28 x3 x4 σ ρ = some out → W p l e ({ frames := 5, cells := 0, slots := 0, locals := 122 }) s m args below meth c H locs 0 0 (MQ below (Qm lyC 48 g A (va_pl LP (skE kf)) out.2.1 out.2.2 (some (.int out.1))) args s 0 0 A) (F0 m 28 ls [])) : ∀ {x3 : Int32} {x4 : Int32} {σ : IM} {ρ : RM} {H : Heap} {locs : List Loc} {ls : Array Slot}, Mem lyC 48 g A (va_pl LP (skE kf)) σ ρ s.heap H locs → lv_has ls 5 [(0, .ref (g.2.2 0)), (3, .int x3), (4, .int x4)] → X11_spent_s28 kf k28 x3 x4 σ ρ = some out → W p l e ({ frames := 5, cells := 0, slots := 0, locals := 122 }) s m args below meth c H locs 0 0 (MQ below (Qm lyC 48 g A (va_pl LP (skE kf)) out.2.1 out.2.2 (some (.int out.1))) args s 0 0 A) (F0 m 28 ls []) := by
  intro x3 x4 σ ρ H locs ls hM hl hF
  unfold X11_spent_s28 at hF
  refine lv_iload S.1 S.2.1 dX11_spent_28 (lv_at hl 2 rfl) ?_
  refine lv_iconst (v := 4) S.1 S.2.1 dX11_spent_30 (by decide) ?_
  refine lv_icmp_ge (tgt := 65) S.1 S.2.1 dX11_spent_31 (by decide) (fun b7 => ?_) (fun b7 => ?_)
  · have hF := (if_pos b7).symm.trans hF
    refine lv_iload_n S.1 S.2.1 dX11_spent_65 rfl (lv_at hl 1 rfl) ?_
    cases hF
    exact z_m (v := x3) S hM hr hlk rfl dX11_spent_66
  · have hF := (if_neg b7).symm.trans hF
    refine lv_aload_n S.1 S.2.1 dX11_spent_34 rfl (lv_at hl 0 rfl) ?_
    refine r_getC S hK hM cfX11 0 1 10 (by decide) ly_0 rfl (by decide) tw_1_194 dX11_spent_35 ?_
    refine r_getC S hK hM cfX1 10 2 (10 + 3) (ct_lt0 ct_10) (ly_ct ct_10) rfl (by decide) tw_1_44 dX11_spent_38 ?_
    refine lv_iload S.1 S.2.1 dX11_spent_41 (lv_at hl 2 rfl) ?_
    obtain ⟨hv8, v8, ev8, hF⟩ := rd_some hF
    refine r_iald S hK hM (10 + 3) (ct_lt ct_10 3 (by decide)) (ly_c3 ct_10) hv8 ev8 dX11_spent_43 ?_
    refine lv_aload_n S.1 S.2.1 dX11_spent_44 rfl (lv_at hl 0 rfl) ?_
    refine r_getC S hK hM cfX11 0 1 10 (by decide) ly_0 rfl (by decide) tw_1_194 dX11_spent_45 ?_
    refine r_getC S hK hM cfX1 10 2 (10 + 3) (ct_lt0 ct_10) (ly_ct ct_10) rfl (by decide) tw_1_44 dX11_spent_48 ?_
    refine lv_iload_n S.1 S.2.1 dX11_spent_51 rfl (lv_at hl 1 rfl) ?_
    obtain ⟨hv9, v9, ev9, hF⟩ := rd_some hF
    refine r_iald S hK hM (10 + 3) (ct_lt ct_10 3 (by decide)) (ly_c3 ct_10) hv9 ev9 dX11_spent_52 ?_
    refine lv_icmp_le (tgt := 59) S.1 S.2.1 dX11_spent_53 (by decide) (fun b10 => ?_) (fun b10 => ?_)
    · have hF := (if_pos b10).symm.trans hF
      exact w_X11_spent_59 hPL S hK hr hlk hk28 hM (lv_sub hl [0, 1, 2] rfl) hF
    · have hF := (if_neg b10).symm.trans hF
      refine lv_iload S.1 S.2.1 dX11_spent_56 (lv_at hl 2 rfl) ?_
      refine lv_istore_n (lv' := [(3, .int x4), (0, .ref (g.2.2 0)), (4, .int x4)]) S.1 S.2.1 dX11_spent_58 rfl hl (by decide) rfl (fun ls hl => ?_)
      exact w_X11_spent_59 hPL S hK hr hlk hk28 hM (lv_sub hl [1, 0, 2] rfl) hF
theorem wl_X11_spent_28 {l : Launch} {g : GE} {A : Nat → Prop} {LP : List Nat} {kf : KF} (hPL : PL LP kf) {p : Program} {e : Env} {s : State} {m : MethodId} {args : Array Value} {below : List Frame} {meth : Method} {c : Code} (S : CallFix p m c cX11_spent 5 s args UL RX11) (hK : KK g s) (hr : meth.sig.returnType = (some .int)) (hlk : meth.locks = false) {out : Int32 × IM × RM} : ∀ (n : Nat) {x3 : Int32} {x4 : Int32} {σ : IM} {ρ : RM} {H : Heap} {locs : List Loc} {ls : Array Slot}, Mem lyC 48 g A (va_pl LP (skE kf)) σ ρ s.heap H locs → lv_has ls 5 [(0, .ref (g.2.2 0)), (3, .int x3), (4, .int x4)] → X11_spent_b28 kf n x3 x4 σ ρ = some out → W p l e ({ frames := 5, cells := 0, slots := 0, locals := 122 }) s m args below meth c H locs 0 0 (MQ below (Qm lyC 48 g A (va_pl LP (skE kf)) out.2.1 out.2.2 (some (.int out.1))) args s 0 0 A) (F0 m 28 ls []) := by
  intro n
  induction n with
  | zero =>
    intro x3 x4 σ ρ H locs ls hM hl hF
    cases hF
  | succ n ih =>
    intro x3 x4 σ ρ H locs ls hM hl hF
    exact w_X11_spent_28 hPL S hK hr hlk ih hM hl hF
def X11_spent (kf : KF) (σ : IM) (ρ : RM) (a1 : Int32) : Option (Int32 × IM × RM) := bd1 (X11_refusalOfRally kf σ ρ a1) fun r1 => if r1 = 0 then (ix 8 a1 fun j3 => bd3 (X11_playRally kf σ ρ j3) fun r6 σ4 ρ5 => X11_spent_b28 kf 1000 0 1 σ4 ρ5) else (some (r1, σ, ρ))
set_option maxRecDepth 20000 in
theorem c_X11_spent {l : Launch} {g : GE} {A : Nat → Prop} {LP : List Nat} {kf : KF} {σ : IM} {ρ : RM} {a1 : Int32} {out : Int32 × IM × RM} (hPL : PL LP kf) (hF : X11_spent kf σ ρ a1 = some out) : Met l yX11_spent (.code yX11_spent cX11_spent 5 (some .int) :: UL) ({ frames := 5, cells := 0, slots := 0, locals := 122 }) (va_Pc [.ref (g.2.2 0), .int a1] (PreM lyC 48 g A (va_pl LP (skE kf)) σ ρ)) (Qm lyC 48 g A (va_pl LP (skE kf)) out.2.1 out.2.2 (some (.int out.1))) 0 0 A := by
  refine e_of (by decide) (Nat.le_of_ble_eq_true rfl) ?_
  intro p e s m below meth c ls S hr hlk hv hl
  have hM := Mem.of hv
  have hK := hv.2.1
  have hl : lv_has ls 5 [(0, .ref (g.2.2 0)), (1, .int a1)] := hl
  unfold X11_spent at hF
  refine lv_aload_n S.1 S.2.1 dX11_spent_0 rfl (lv_at hl 0 rfl) ?_
  refine lv_iload_n S.1 S.2.1 dX11_spent_1 rfl (lv_at hl 1 rfl) ?_
  obtain ⟨r1, er1, hF⟩ := bd1_some hF
  refine k_p (va_runV (As := [.int a1]) (rest := []) S (c_X11_refusalOfRally hPL  er1) (cwV 1 S.2.2.2.2 (ul_V tw_3_143 tw_3_145 ts_X11_refusalOfRally tw_1_1 cw_X11_refusalOfRally) rfl rfl rfl hv_X11_refusalOfRally ⟨Nat.le_of_ble_eq_true rfl, Nat.le_of_ble_eq_true rfl⟩) ⟨PreM.blind, hM.recv hK cfX11 0 (by decide) ly_0, hM.pre hK⟩ rfl rfl hl.1 rfl (lv_room (Nat.le_of_ble_eq_true rfl)) dX11_spent_2 ⟨Nat.zero_le _, Nat.zero_le _⟩) ?_
  refine lv_istore_n (lv' := [(2, .int r1), (0, .ref (g.2.2 0)), (1, .int a1)]) S.1 S.2.1 dX11_spent_5 rfl hl (by decide) rfl (fun ls hl => ?_)
  refine lv_iload_n S.1 S.2.1 dX11_spent_6 rfl (lv_at hl 0 rfl) ?_
  refine lv_if_eq (tgt := 12) S.1 S.2.1 dX11_spent_7 (by decide) (fun b2 => ?_) (fun b2 => ?_)
  · have hF := (if_pos b2).symm.trans hF
    refine lv_aload_n S.1 S.2.1 dX11_spent_12 rfl (lv_at hl 1 rfl) ?_
    refine lv_aload_n S.1 S.2.1 dX11_spent_13 rfl (lv_at hl 1 rfl) ?_
    refine r_getC S hK hM cfX11 0 4 28 (by decide) ly_0 rfl (by decide) tw_1_197 dX11_spent_14 ?_
    refine lv_iload_n S.1 S.2.1 dX11_spent_17 rfl (lv_at hl 2 rfl) ?_
    obtain ⟨hj3, j3, ej3, lj3, hF⟩ := ix_some hF
    refine r_aaldS S hK hM 28 (by decide) ly_28 hj3 ej3 dX11_spent_18 ?_
    obtain ⟨r6, σ4, ρ5, er6, hF⟩ := bd3_some hF
    refine k_m (va_runV (As := [.ref (g.2.2 (29 + 2 * j3))]) (rest := []) S (c_X11_playRally hPL lj3 er6) (cwV 1 S.2.2.2.2 (ul_V tw_3_151 tw_3_153 ts_X11_playRally tw_1_1 cw_X11_playRally) rfl rfl rfl hv_X11_playRally ⟨Nat.le_of_ble_eq_true rfl, Nat.le_of_ble_eq_true rfl⟩) ⟨PreM.blind, hM.recv hK cfX11 0 (by decide) ly_0, hM.pre hK⟩ rfl rfl hl.1 rfl (lv_room (Nat.le_of_ble_eq_true rfl)) dX11_spent_19 ⟨Nat.zero_le _, Nat.zero_le _⟩) hM (fun H locs hM => ?_)
    show W _ _ _ _ _ _ _ _ _ _ _ _ _ _ _ (F0 m 22 ls [.int r6])
    refine lv_pop S.1 S.2.1 dX11_spent_22 rfl ?_
    refine lv_iconst (v := 0) S.1 S.2.1 dX11_spent_23 (by decide) ?_
    refine lv_istore_n (lv' := [(3, .int 0), (2, .int r1), (0, .ref (g.2.2 0)), (1, .int a1)]) S.1 S.2.1 dX11_spent_24 rfl hl (by decide) rfl (fun ls hl => ?_)
    refine lv_iconst (v := 1) S.1 S.2.1 dX11_spent_25 (by decide) ?_
    refine lv_istore (lv' := [(4, .int 1), (3, .int 0), (2, .int r1), (0, .ref (g.2.2 0)), (1, .int a1)]) S.1 S.2.1 dX11_spent_26 hl (by decide) rfl (fun ls hl => ?_)
    exact wl_X11_spent_28 hPL S hK hr hlk 1000 hM (lv_sub hl [3, 1, 0] rfl) hF
  · have hF := (if_neg b2).symm.trans hF
    refine lv_iload_n S.1 S.2.1 dX11_spent_10 rfl (lv_at hl 0 rfl) ?_
    cases hF
    exact z_m (v := r1) S hM hr hlk rfl dX11_spent_11
/-! X11_refusalOfCells -/
def X11_refusalOfCells (kf : KF) (σ : IM) (ρ : RM) (a1 : Int32) : Option Int32 := bd1 (X11_refusalOf kf σ ρ a1 1) fun r1 => if r1 = 0 then (ix 8 a1 fun j3 => if σ (29 + 2 * j3) 3 ≤ 9 then (some 0) else (some (-13))) else (some r1)
set_option maxRecDepth 20000 in
theorem c_X11_refusalOfCells {l : Launch} {g : GE} {A : Nat → Prop} {LP : List Nat} {kf : KF} {σ : IM} {ρ : RM} {a1 : Int32} {out : Int32} (hPL : PL LP kf) (hF : X11_refusalOfCells kf σ ρ a1 = some out) : Met l yX11_refusalOfCells (.code yX11_refusalOfCells cX11_refusalOfCells 3 (some .int) :: UL) ({ frames := 3, cells := 0, slots := 0, locals := 62 }) (va_Pc [.ref (g.2.2 0), .int a1] (PreM lyC 48 g A (va_pl LP (skE kf)) σ ρ)) (Qp (some (.int out))) 0 0 NoA := by
  refine e_of (by decide) (Nat.le_of_ble_eq_true rfl) ?_
  intro p e s m below meth c ls S hr hlk hv hl
  have hM := Mem.of hv
  have hK := hv.2.1
  have hl : lv_has ls 3 [(0, .ref (g.2.2 0)), (1, .int a1)] := hl
  unfold X11_refusalOfCells at hF
  refine lv_aload_n S.1 S.2.1 dX11_refusalOfCells_0 rfl (lv_at hl 0 rfl) ?_
  refine lv_iload_n S.1 S.2.1 dX11_refusalOfCells_1 rfl (lv_at hl 1 rfl) ?_
  refine lv_iconst (v := 1) S.1 S.2.1 dX11_refusalOfCells_2 (by decide) ?_
  obtain ⟨r1, er1, hF⟩ := bd1_some hF
  refine k_p (va_runV (As := [.int a1, .int 1]) (rest := []) S (c_X11_refusalOf hPL  er1) (cwV 2 S.2.2.2.2 (ul_V tw_1_225 tw_1_227 ts_X11_refusalOf tw_1_1 cw_X11_refusalOf) rfl rfl rfl hv_X11_refusalOf ⟨Nat.le_of_ble_eq_true rfl, Nat.le_of_ble_eq_true rfl⟩) ⟨PreM.blind, hM.recv hK cfX11 0 (by decide) ly_0, hM.pre hK⟩ rfl rfl hl.1 rfl (lv_room (Nat.le_of_ble_eq_true rfl)) dX11_refusalOfCells_3 ⟨Nat.zero_le _, Nat.zero_le _⟩) ?_
  refine lv_istore_n (lv' := [(2, .int r1), (0, .ref (g.2.2 0)), (1, .int a1)]) S.1 S.2.1 dX11_refusalOfCells_6 rfl hl (by decide) rfl (fun ls hl => ?_)
  refine lv_iload_n S.1 S.2.1 dX11_refusalOfCells_7 rfl (lv_at hl 0 rfl) ?_
  refine lv_if_eq (tgt := 13) S.1 S.2.1 dX11_refusalOfCells_8 (by decide) (fun b2 => ?_) (fun b2 => ?_)
  · have hF := (if_pos b2).symm.trans hF
    refine lv_aload_n S.1 S.2.1 dX11_refusalOfCells_13 rfl (lv_at hl 1 rfl) ?_
    refine r_getC S hK hM cfX11 0 4 28 (by decide) ly_0 rfl (by decide) tw_1_197 dX11_refusalOfCells_14 ?_
    refine lv_iload_n S.1 S.2.1 dX11_refusalOfCells_17 rfl (lv_at hl 2 rfl) ?_
    obtain ⟨hj3, j3, ej3, lj3, hF⟩ := ix_some hF
    refine r_aaldS S hK hM 28 (by decide) ly_28 hj3 ej3 dX11_refusalOfCells_18 ?_
    refine r_getI S hK hM cfX7 (29 + 2 * j3) 3 (sh_lt lj3) (ly_sh lj3) rfl (by decide) tw_1_105 dX11_refusalOfCells_19 ?_
    refine lv_bipush (v := 9) S.1 S.2.1 dX11_refusalOfCells_22 (by decide) ?_
    refine lv_icmp_le (tgt := 32) S.1 S.2.1 dX11_refusalOfCells_24 (by decide) (fun b4 => ?_) (fun b4 => ?_)
    · have hF := (if_pos b4).symm.trans hF
      refine lv_iconst (v := 0) S.1 S.2.1 dX11_refusalOfCells_32 (by decide) ?_
      cases hF
      exact z_p S hr hlk rfl dX11_refusalOfCells_33
    · have hF := (if_neg b4).symm.trans hF
      refine lv_bipush (v := (-13)) S.1 S.2.1 dX11_refusalOfCells_27 (by decide) ?_
      refine lv_goto (tgt := 33) S.1 S.2.1 dX11_refusalOfCells_29 (by decide) ?_
      cases hF
      exact z_p S hr hlk rfl dX11_refusalOfCells_33
  · have hF := (if_neg b2).symm.trans hF
    refine lv_iload_n S.1 S.2.1 dX11_refusalOfCells_11 rfl (lv_at hl 0 rfl) ?_
    cases hF
    exact z_p S hr hlk rfl dX11_refusalOfCells_12
/-! X11_tellsFalls -/
def X11_tellsFalls_s2 (kf : KF) (σ : IM) (ρ : RM) (j0 : Nat) (q1 : Nat) (k2 : Int32 → Int32 → Option Int32) (x2 : Int32) (x3 : Int32) : Option Int32 := if σ (29 + 2 * j0) 3 ≤ x3 then (some 1) else (bd1 (V_landing kf q1 x3 x2) fun r2 => bd1 (X7_allows kf σ ρ j0 x3 r2) fun r3 => if r3 = 0 then (some 0) else (bd (x3 + 1) fun v5 => k2 x2 v5))
def X11_tellsFalls_b2 (kf : KF) (σ : IM) (ρ : RM) (j0 : Nat) (q1 : Nat) : Nat → Int32 → Int32 → Option Int32
  | 0 => fun _ _ => none
  | n + 1 => X11_tellsFalls_s2 kf σ ρ j0 q1 (X11_tellsFalls_b2 kf σ ρ j0 q1 n)
set_option maxRecDepth 20000 in
theorem w_X11_tellsFalls_2 {l : Launch} {g : GE} {A : Nat → Prop} {LP : List Nat} {kf : KF} {σ : IM} {ρ : RM} {j0 : Nat} {q1 : Nat} (hPL : PL LP kf) (hj0 : j0 < 8) {p : Program} {e : Env} {s : State} {m : MethodId} {args : Array Value} {below : List Frame} {meth : Method} {c : Code} (S : CallFix p m c cX11_tellsFalls 4 s args UL RX11) (hK : KK g s) (hr : meth.sig.returnType = (some .boolean)) (hlk : meth.locks = false) (hM : Mem lyC 48 g A (va_pl LP (skE kf)) σ ρ s.heap s.heap []) {out : Int32} {k2 : Int32 → Int32 → Option Int32} (hk2 : ∀ {x2 : Int32} {x3 : Int32} {ls : Array Slot}, lv_has ls 4 [(0, .ref (g.2.2 (29 + 2 * j0))), (1, .ref q1), (2, .int x2), (3, .int x3)] → k2 x2 x3 = some out → W p l e ({ frames := 2, cells := 0, slots := 0, locals := 44 }) s m args below meth c s.heap [] 0 0 (MQ below (Qp (some (.int out))) args s 0 0 NoA) (F0 m 2 ls [])) : ∀ {x2 : Int32} {x3 : Int32} {ls : Array Slot}, lv_has ls 4 [(0, .ref (g.2.2 (29 + 2 * j0))), (1, .ref q1), (2, .int x2), (3, .int x3)] → X11_tellsFalls_s2 kf σ ρ j0 q1 k2 x2 x3 = some out → W p l e ({ frames := 2, cells := 0, slots := 0, locals := 44 }) s m args below meth c s.heap [] 0 0 (MQ below (Qp (some (.int out))) args s 0 0 NoA) (F0 m 2 ls []) := by
  intro x2 x3 ls hl hF
  unfold X11_tellsFalls_s2 at hF
  refine lv_iload_n S.1 S.2.1 dX11_tellsFalls_2 rfl (lv_at hl 3 rfl) ?_
  refine lv_aload_n S.1 S.2.1 dX11_tellsFalls_3 rfl (lv_at hl 0 rfl) ?_
  refine r_getI S hK hM cfX7 (29 + 2 * j0) 3 (sh_lt hj0) (ly_sh hj0) rfl (by decide) tw_1_105 dX11_tellsFalls_4 ?_
  refine lv_icmp_ge (tgt := 32) S.1 S.2.1 dX11_tellsFalls_7 (by decide) (fun b1 => ?_) (fun b1 => ?_)
  · have hF := (if_pos b1).symm.trans hF
    refine lv_iconst (v := 1) S.1 S.2.1 dX11_tellsFalls_32 (by decide) ?_
    cases hF
    exact z_p S hr hlk rfl dX11_tellsFalls_33
  · have hF := (if_neg b1).symm.trans hF
    refine lv_aload_n S.1 S.2.1 dX11_tellsFalls_10 rfl (lv_at hl 0 rfl) ?_
    refine lv_iload_n S.1 S.2.1 dX11_tellsFalls_11 rfl (lv_at hl 3 rfl) ?_
    refine lv_aload_n S.1 S.2.1 dX11_tellsFalls_12 rfl (lv_at hl 1 rfl) ?_
    refine lv_iload_n S.1 S.2.1 dX11_tellsFalls_13 rfl (lv_at hl 3 rfl) ?_
    refine lv_iload_n S.1 S.2.1 dX11_tellsFalls_14 rfl (lv_at hl 2 rfl) ?_
    obtain ⟨r2, er2, hF⟩ := bd1_some hF
    refine k_p (rv_X11_348 (rest := [.int x3, .ref (g.2.2 (29 + 2 * j0))]) S hK hM hPL er2 hl.1 dX11_tellsFalls_15 (Nat.le_of_ble_eq_true rfl) (Nat.le_of_ble_eq_true rfl) (lv_room (Nat.le_of_ble_eq_true rfl))) ?_
    obtain ⟨r3, er3, hF⟩ := bd1_some hF
    refine k_p (va_runV (As := [.int x3, .int r2]) (rest := []) S (c_X7_allows hPL hj0 er3) (cwV 2 S.2.2.2.2 (ul_V tw_3_189 tw_3_190 tw_3_191 tw_1_3 cw_X7_allows) rfl rfl rfl hv_X7_allows ⟨Nat.le_of_ble_eq_true rfl, Nat.le_of_ble_eq_true rfl⟩) ⟨PreM.blind, hM.recv hK cfX7 (29 + 2 * j0) (sh_lt hj0) (ly_sh hj0), hM.pre hK⟩ rfl rfl hl.1 rfl (lv_room (Nat.le_of_ble_eq_true rfl)) dX11_tellsFalls_18 ⟨Nat.zero_le _, Nat.zero_le _⟩) ?_
    refine lv_if_ne (tgt := 26) S.1 S.2.1 dX11_tellsFalls_21 (by decide) (fun b4 => ?_) (fun b4 => ?_)
    · have hF := (if_neg b4).symm.trans hF
      obtain ⟨v5, ev5, hF⟩ := bd_some hF
      refine lv_iinc (v := v5) (lv' := [(3, .int v5), (0, .ref (g.2.2 (29 + 2 * j0))), (1, .ref q1), (2, .int x2)]) S.1 S.2.1 dX11_tellsFalls_26 hl (k := 3) rfl (by rw [ev5]; rfl) (by decide) rfl (fun ls hl => ?_)
      refine lv_goto (tgt := 2) S.1 S.2.1 dX11_tellsFalls_29 (by decide) ?_
      exact hk2  (lv_sub hl [1, 2, 3, 0] rfl)  hF
    · have hF := (if_pos b4).symm.trans hF
      refine lv_iconst (v := 0) S.1 S.2.1 dX11_tellsFalls_24 (by decide) ?_
      cases hF
      exact z_p S hr hlk rfl dX11_tellsFalls_25
theorem wl_X11_tellsFalls_2 {l : Launch} {g : GE} {A : Nat → Prop} {LP : List Nat} {kf : KF} {σ : IM} {ρ : RM} {j0 : Nat} {q1 : Nat} (hPL : PL LP kf) (hj0 : j0 < 8) {p : Program} {e : Env} {s : State} {m : MethodId} {args : Array Value} {below : List Frame} {meth : Method} {c : Code} (S : CallFix p m c cX11_tellsFalls 4 s args UL RX11) (hK : KK g s) (hr : meth.sig.returnType = (some .boolean)) (hlk : meth.locks = false) (hM : Mem lyC 48 g A (va_pl LP (skE kf)) σ ρ s.heap s.heap []) {out : Int32} : ∀ (n : Nat) {x2 : Int32} {x3 : Int32} {ls : Array Slot}, lv_has ls 4 [(0, .ref (g.2.2 (29 + 2 * j0))), (1, .ref q1), (2, .int x2), (3, .int x3)] → X11_tellsFalls_b2 kf σ ρ j0 q1 n x2 x3 = some out → W p l e ({ frames := 2, cells := 0, slots := 0, locals := 44 }) s m args below meth c s.heap [] 0 0 (MQ below (Qp (some (.int out))) args s 0 0 NoA) (F0 m 2 ls []) := by
  intro n
  induction n with
  | zero =>
    intro x2 x3 ls hl hF
    cases hF
  | succ n ih =>
    intro x2 x3 ls hl hF
    exact w_X11_tellsFalls_2 hPL hj0 S hK hr hlk hM ih hl hF
def X11_tellsFalls (kf : KF) (σ : IM) (ρ : RM) (j0 : Nat) (q1 : Nat) (a2 : Int32) : Option Int32 := X11_tellsFalls_b2 kf σ ρ j0 q1 1000 a2 0
set_option maxRecDepth 20000 in
theorem c_X11_tellsFalls {l : Launch} {g : GE} {A : Nat → Prop} {LP : List Nat} {kf : KF} {σ : IM} {ρ : RM} {j0 : Nat} {q1 : Nat} {a2 : Int32} {out : Int32} (hPL : PL LP kf) (hj0 : j0 < 8) (hF : X11_tellsFalls kf σ ρ j0 q1 a2 = some out) : Met l yX11_tellsFalls (.code yX11_tellsFalls cX11_tellsFalls 4 (some .boolean) :: UL) ({ frames := 2, cells := 0, slots := 0, locals := 44 }) (va_Pc [.ref (g.2.2 (29 + 2 * j0)), .ref q1, .int a2] (PreM lyC 48 g A (va_pl LP (skE kf)) σ ρ)) (Qp (some (.int out))) 0 0 NoA := by
  refine e_of (by decide) (Nat.le_of_ble_eq_true rfl) ?_
  intro p e s m below meth c ls S hr hlk hv hl
  have hM := Mem.of hv
  have hK := hv.2.1
  have hl : lv_has ls 4 [(0, .ref (g.2.2 (29 + 2 * j0))), (1, .ref q1), (2, .int a2)] := hl
  unfold X11_tellsFalls at hF
  refine lv_iconst (v := 0) S.1 S.2.1 dX11_tellsFalls_0 (by decide) ?_
  refine lv_istore_n (lv' := [(3, .int 0), (0, .ref (g.2.2 (29 + 2 * j0))), (1, .ref q1), (2, .int a2)]) S.1 S.2.1 dX11_tellsFalls_1 rfl hl (by decide) rfl (fun ls hl => ?_)
  exact wl_X11_tellsFalls_2 hPL hj0 S hK hr hlk hM 1000 (lv_sub hl [1, 2, 3, 0] rfl) hF
/-! X11_kindsThatFell -/
def X11_kindsThatFell_b36 (kf : KF) (σ : IM) (ρ : RM) (j1 : Nat) (k4 : Int32 → Int32 → Option Int32) (x2 : Int32) (x3 : Int32) : Option Int32 := bd (x3 + 1) fun v6 => k4 x2 v6
set_option maxRecDepth 20000 in
theorem w_X11_kindsThatFell_36 {l : Launch} {g : GE} {A : Nat → Prop} {LP : List Nat} {kf : KF} {σ : IM} {ρ : RM} {j1 : Nat} (hPL : PL LP kf) (hj1 : j1 < 8) {p : Program} {e : Env} {s : State} {m : MethodId} {args : Array Value} {below : List Frame} {meth : Method} {c : Code} (S : CallFix p m c cX11_kindsThatFell 4 s args UL RX11) (hK : KK g s) (hr : meth.sig.returnType = (some .int)) (hlk : meth.locks = false) (hM : Mem lyC 48 g A (va_pl LP (skE kf)) σ ρ s.heap s.heap []) {out : Int32} {k4 : Int32 → Int32 → Option Int32} (hk4 : ∀ {x2 : Int32} {x3 : Int32} {ls : Array Slot}, lv_has ls 4 [(0, .ref (g.2.2 0)), (1, .ref (g.2.2 (29 + 2 * j1))), (2, .int x2), (3, .int x3)] → k4 x2 x3 = some out → W p l e ({ frames := 3, cells := 0, slots := 0, locals := 67 }) s m args below meth c s.heap [] 0 0 (MQ below (Qp (some (.int out))) args s 0 0 NoA) (F0 m 4 ls [])) : ∀ {x2 : Int32} {x3 : Int32} {ls : Array Slot}, lv_has ls 4 [(0, .ref (g.2.2 0)), (1, .ref (g.2.2 (29 + 2 * j1))), (2, .int x2), (3, .int x3)] → X11_kindsThatFell_b36 kf σ ρ j1 k4 x2 x3 = some out → W p l e ({ frames := 3, cells := 0, slots := 0, locals := 67 }) s m args below meth c s.heap [] 0 0 (MQ below (Qp (some (.int out))) args s 0 0 NoA) (F0 m 36 ls []) := by
  intro x2 x3 ls hl hF
  unfold X11_kindsThatFell_b36 at hF
  obtain ⟨v6, ev6, hF⟩ := bd_some hF
  refine lv_iinc (v := v6) (lv' := [(3, .int v6), (0, .ref (g.2.2 0)), (1, .ref (g.2.2 (29 + 2 * j1))), (2, .int x2)]) S.1 S.2.1 dX11_kindsThatFell_36 hl (k := 3) rfl (by rw [ev6]; rfl) (by decide) rfl (fun ls hl => ?_)
  refine lv_goto (tgt := 4) S.1 S.2.1 dX11_kindsThatFell_39 (by decide) ?_
  exact hk4  (lv_sub hl [1, 2, 3, 0] rfl)  hF
def X11_kindsThatFell_s4 (kf : KF) (σ : IM) (ρ : RM) (j1 : Nat) (k4 : Int32 → Int32 → Option Int32) (x2 : Int32) (x3 : Int32) : Option Int32 := if 8 ≤ x3 then (some x2) else (rq (ρ 45) 8 x3 fun q2 => bd1 (X11_tellsFalls kf σ ρ j1 q2 (σ 1 10)) fun r3 => if r3 = 0 then (X11_kindsThatFell_b36 kf σ ρ j1 k4 x2 x3) else (bd (x2 ||| (1 <<< (x3 &&& 31))) fun v5 => X11_kindsThatFell_b36 kf σ ρ j1 k4 v5 x3))
def X11_kindsThatFell_b4 (kf : KF) (σ : IM) (ρ : RM) (j1 : Nat) : Nat → Int32 → Int32 → Option Int32
  | 0 => fun _ _ => none
  | n + 1 => X11_kindsThatFell_s4 kf σ ρ j1 (X11_kindsThatFell_b4 kf σ ρ j1 n)
set_option maxRecDepth 20000 in
theorem w_X11_kindsThatFell_4 {l : Launch} {g : GE} {A : Nat → Prop} {LP : List Nat} {kf : KF} {σ : IM} {ρ : RM} {j1 : Nat} (hPL : PL LP kf) (hj1 : j1 < 8) {p : Program} {e : Env} {s : State} {m : MethodId} {args : Array Value} {below : List Frame} {meth : Method} {c : Code} (S : CallFix p m c cX11_kindsThatFell 4 s args UL RX11) (hK : KK g s) (hr : meth.sig.returnType = (some .int)) (hlk : meth.locks = false) (hM : Mem lyC 48 g A (va_pl LP (skE kf)) σ ρ s.heap s.heap []) {out : Int32} {k4 : Int32 → Int32 → Option Int32} (hk4 : ∀ {x2 : Int32} {x3 : Int32} {ls : Array Slot}, lv_has ls 4 [(0, .ref (g.2.2 0)), (1, .ref (g.2.2 (29 + 2 * j1))), (2, .int x2), (3, .int x3)] → k4 x2 x3 = some out → W p l e ({ frames := 3, cells := 0, slots := 0, locals := 67 }) s m args below meth c s.heap [] 0 0 (MQ below (Qp (some (.int out))) args s 0 0 NoA) (F0 m 4 ls [])) : ∀ {x2 : Int32} {x3 : Int32} {ls : Array Slot}, lv_has ls 4 [(0, .ref (g.2.2 0)), (1, .ref (g.2.2 (29 + 2 * j1))), (2, .int x2), (3, .int x3)] → X11_kindsThatFell_s4 kf σ ρ j1 k4 x2 x3 = some out → W p l e ({ frames := 3, cells := 0, slots := 0, locals := 67 }) s m args below meth c s.heap [] 0 0 (MQ below (Qp (some (.int out))) args s 0 0 NoA) (F0 m 4 ls []) := by
  intro x2 x3 ls hl hF
  unfold X11_kindsThatFell_s4 at hF
  refine lv_iload_n S.1 S.2.1 dX11_kindsThatFell_4 rfl (lv_at hl 3 rfl) ?_
  refine lv_bipush (v := 8) S.1 S.2.1 dX11_kindsThatFell_5 (by decide) ?_
  refine lv_icmp_ge (tgt := 42) S.1 S.2.1 dX11_kindsThatFell_7 (by decide) (fun b1 => ?_) (fun b1 => ?_)
  · have hF := (if_pos b1).symm.trans hF
    refine lv_iload_n S.1 S.2.1 dX11_kindsThatFell_42 rfl (lv_at hl 2 rfl) ?_
    cases hF
    exact z_p S hr hlk rfl dX11_kindsThatFell_43
  · have hF := (if_neg b1).symm.trans hF
    refine lv_aload_n S.1 S.2.1 dX11_kindsThatFell_10 rfl (lv_at hl 1 rfl) ?_
    refine lv_aload_n S.1 S.2.1 dX11_kindsThatFell_11 rfl (lv_at hl 0 rfl) ?_
    refine r_getC S hK hM cfX11 0 5 45 (by decide) ly_0 rfl (by decide) tw_1_198 dX11_kindsThatFell_12 ?_
    refine lv_iload_n S.1 S.2.1 dX11_kindsThatFell_15 rfl (lv_at hl 3 rfl) ?_
    obtain ⟨hq2, q2, eq2, hF⟩ := rq_some hF
    refine r_aald S hK hM 45 (by decide) ly_45 hq2 eq2 dX11_kindsThatFell_16 ?_
    refine lv_aload_n S.1 S.2.1 dX11_kindsThatFell_17 rfl (lv_at hl 0 rfl) ?_
    refine r_getC S hK hM cfX11 0 0 1 (by decide) ly_0 rfl (by decide) tw_1_193 dX11_kindsThatFell_18 ?_
    refine r_getI S hK hM cfX1 1 10 (ct_lt0 ct_1) (ly_ct ct_1) rfl (by decide) tw_1_60 dX11_kindsThatFell_21 ?_
    obtain ⟨r3, er3, hF⟩ := bd1_some hF
    refine k_p (va_runS (As := [.ref (g.2.2 (29 + 2 * j1)), .ref q2, .int (σ 1 10)]) (rest := []) S (c_X11_tellsFalls hPL hj1 er3) (va_cwS 3 S.2.2.2.2 (ul_S tw_3_185 tw_3_186 tw_1_1 cw_X11_tellsFalls) rfl rfl rfl hs_X11_tellsFalls ⟨Nat.le_of_ble_eq_true rfl, Nat.le_of_ble_eq_true rfl⟩) ⟨PreM.blind, hM.pre hK⟩ rfl rfl hl.1 rfl (lv_room (Nat.le_of_ble_eq_true rfl)) dX11_kindsThatFell_24 ⟨Nat.zero_le _, Nat.zero_le _⟩) ?_
    refine lv_if_eq (tgt := 36) S.1 S.2.1 dX11_kindsThatFell_27 (by decide) (fun b4 => ?_) (fun b4 => ?_)
    · have hF := (if_pos b4).symm.trans hF
      exact w_X11_kindsThatFell_36 hPL hj1 S hK hr hlk hM hk4 (lv_sub hl [0, 1, 2, 3] rfl) hF
    · have hF := (if_neg b4).symm.trans hF
      refine lv_iload_n S.1 S.2.1 dX11_kindsThatFell_30 rfl (lv_at hl 2 rfl) ?_
      refine lv_iconst (v := 1) S.1 S.2.1 dX11_kindsThatFell_31 (by decide) ?_
      refine lv_iload_n S.1 S.2.1 dX11_kindsThatFell_32 rfl (lv_at hl 3 rfl) ?_
      refine lv_ishl S.1 S.2.1 dX11_kindsThatFell_33 ?_
      refine lv_ior S.1 S.2.1 dX11_kindsThatFell_34 ?_
      refine lv_topi (fun v5 ev5 => ?_)
      have hF := bd_at ev5 hF
      refine lv_istore_n (lv' := [(2, .int v5), (0, .ref (g.2.2 0)), (1, .ref (g.2.2 (29 + 2 * j1))), (3, .int x3)]) S.1 S.2.1 dX11_kindsThatFell_35 rfl hl (by decide) rfl (fun ls hl => ?_)
      exact w_X11_kindsThatFell_36 hPL hj1 S hK hr hlk hM hk4 (lv_sub hl [1, 2, 0, 3] rfl) hF
theorem wl_X11_kindsThatFell_4 {l : Launch} {g : GE} {A : Nat → Prop} {LP : List Nat} {kf : KF} {σ : IM} {ρ : RM} {j1 : Nat} (hPL : PL LP kf) (hj1 : j1 < 8) {p : Program} {e : Env} {s : State} {m : MethodId} {args : Array Value} {below : List Frame} {meth : Method} {c : Code} (S : CallFix p m c cX11_kindsThatFell 4 s args UL RX11) (hK : KK g s) (hr : meth.sig.returnType = (some .int)) (hlk : meth.locks = false) (hM : Mem lyC 48 g A (va_pl LP (skE kf)) σ ρ s.heap s.heap []) {out : Int32} : ∀ (n : Nat) {x2 : Int32} {x3 : Int32} {ls : Array Slot}, lv_has ls 4 [(0, .ref (g.2.2 0)), (1, .ref (g.2.2 (29 + 2 * j1))), (2, .int x2), (3, .int x3)] → X11_kindsThatFell_b4 kf σ ρ j1 n x2 x3 = some out → W p l e ({ frames := 3, cells := 0, slots := 0, locals := 67 }) s m args below meth c s.heap [] 0 0 (MQ below (Qp (some (.int out))) args s 0 0 NoA) (F0 m 4 ls []) := by
  intro n
  induction n with
  | zero =>
    intro x2 x3 ls hl hF
    cases hF
  | succ n ih =>
    intro x2 x3 ls hl hF
    exact w_X11_kindsThatFell_4 hPL hj1 S hK hr hlk hM ih hl hF
def X11_kindsThatFell (kf : KF) (σ : IM) (ρ : RM) (j1 : Nat) : Option Int32 := X11_kindsThatFell_b4 kf σ ρ j1 1000 0 0
set_option maxRecDepth 20000 in
theorem c_X11_kindsThatFell {l : Launch} {g : GE} {A : Nat → Prop} {LP : List Nat} {kf : KF} {σ : IM} {ρ : RM} {j1 : Nat} {out : Int32} (hPL : PL LP kf) (hj1 : j1 < 8) (hF : X11_kindsThatFell kf σ ρ j1 = some out) : Met l yX11_kindsThatFell (.code yX11_kindsThatFell cX11_kindsThatFell 4 (some .int) :: UL) ({ frames := 3, cells := 0, slots := 0, locals := 67 }) (va_Pc [.ref (g.2.2 0), .ref (g.2.2 (29 + 2 * j1))] (PreM lyC 48 g A (va_pl LP (skE kf)) σ ρ)) (Qp (some (.int out))) 0 0 NoA := by
  refine e_of (by decide) (Nat.le_of_ble_eq_true rfl) ?_
  intro p e s m below meth c ls S hr hlk hv hl
  have hM := Mem.of hv
  have hK := hv.2.1
  have hl : lv_has ls 4 [(0, .ref (g.2.2 0)), (1, .ref (g.2.2 (29 + 2 * j1)))] := hl
  unfold X11_kindsThatFell at hF
  refine lv_iconst (v := 0) S.1 S.2.1 dX11_kindsThatFell_0 (by decide) ?_
  refine lv_istore_n (lv' := [(2, .int 0), (0, .ref (g.2.2 0)), (1, .ref (g.2.2 (29 + 2 * j1)))]) S.1 S.2.1 dX11_kindsThatFell_1 rfl hl (by decide) rfl (fun ls hl => ?_)
  refine lv_iconst (v := 0) S.1 S.2.1 dX11_kindsThatFell_2 (by decide) ?_
  refine lv_istore_n (lv' := [(3, .int 0), (2, .int 0), (0, .ref (g.2.2 0)), (1, .ref (g.2.2 (29 + 2 * j1)))]) S.1 S.2.1 dX11_kindsThatFell_3 rfl hl (by decide) rfl (fun ls hl => ?_)
  exact wl_X11_kindsThatFell_4 hPL hj1 S hK hr hlk hM 1000 (lv_sub hl [2, 3, 1, 0] rfl) hF
/-! X11_draughtsThatBlew -/
def X11_draughtsThatBlew_b26 (kf : KF) (σ : IM) (ρ : RM) (j0 : Nat) (q1 : Nat) (k4 : Int32 → Int32 → Option Int32) (x2 : Int32) (x3 : Int32) : Option Int32 := bd (x3 + 1) fun v5 => k4 x2 v5
set_option maxRecDepth 20000 in
theorem w_X11_draughtsThatBlew_26 {l : Launch} {g : GE} {A : Nat → Prop} {LP : List Nat} {kf : KF} {σ : IM} {ρ : RM} {j0 : Nat} {q1 : Nat} (hPL : PL LP kf) (hj0 : j0 < 8) {p : Program} {e : Env} {s : State} {m : MethodId} {args : Array Value} {below : List Frame} {meth : Method} {c : Code} (S : CallFix p m c cX11_draughtsThatBlew 4 s args UL RX11) (hK : KK g s) (hr : meth.sig.returnType = (some .int)) (hlk : meth.locks = false) (hM : Mem lyC 48 g A (va_pl LP (skE kf)) σ ρ s.heap s.heap []) {out : Int32} {k4 : Int32 → Int32 → Option Int32} (hk4 : ∀ {x2 : Int32} {x3 : Int32} {ls : Array Slot}, lv_has ls 4 [(0, .ref (g.2.2 (29 + 2 * j0))), (1, .ref q1), (2, .int x2), (3, .int x3)] → k4 x2 x3 = some out → W p l e ({ frames := 3, cells := 0, slots := 0, locals := 67 }) s m args below meth c s.heap [] 0 0 (MQ below (Qp (some (.int out))) args s 0 0 NoA) (F0 m 4 ls [])) : ∀ {x2 : Int32} {x3 : Int32} {ls : Array Slot}, lv_has ls 4 [(0, .ref (g.2.2 (29 + 2 * j0))), (1, .ref q1), (2, .int x2), (3, .int x3)] → X11_draughtsThatBlew_b26 kf σ ρ j0 q1 k4 x2 x3 = some out → W p l e ({ frames := 3, cells := 0, slots := 0, locals := 67 }) s m args below meth c s.heap [] 0 0 (MQ below (Qp (some (.int out))) args s 0 0 NoA) (F0 m 26 ls []) := by
  intro x2 x3 ls hl hF
  unfold X11_draughtsThatBlew_b26 at hF
  obtain ⟨v5, ev5, hF⟩ := bd_some hF
  refine lv_iinc (v := v5) (lv' := [(3, .int v5), (0, .ref (g.2.2 (29 + 2 * j0))), (1, .ref q1), (2, .int x2)]) S.1 S.2.1 dX11_draughtsThatBlew_26 hl (k := 3) rfl (by rw [ev5]; rfl) (by decide) rfl (fun ls hl => ?_)
  refine lv_goto (tgt := 4) S.1 S.2.1 dX11_draughtsThatBlew_29 (by decide) ?_
  exact hk4  (lv_sub hl [1, 2, 3, 0] rfl)  hF
def X11_draughtsThatBlew_s4 (kf : KF) (σ : IM) (ρ : RM) (j0 : Nat) (q1 : Nat) (k4 : Int32 → Int32 → Option Int32) (x2 : Int32) (x3 : Int32) : Option Int32 := if 1 < x3 then (some x2) else (bd1 (X11_tellsFalls kf σ ρ j0 q1 x3) fun r2 => if r2 = 0 then (X11_draughtsThatBlew_b26 kf σ ρ j0 q1 k4 x2 x3) else (bd (x2 ||| (1 <<< ((x3 + 1) &&& 31))) fun v4 => X11_draughtsThatBlew_b26 kf σ ρ j0 q1 k4 v4 x3))
def X11_draughtsThatBlew_b4 (kf : KF) (σ : IM) (ρ : RM) (j0 : Nat) (q1 : Nat) : Nat → Int32 → Int32 → Option Int32
  | 0 => fun _ _ => none
  | n + 1 => X11_draughtsThatBlew_s4 kf σ ρ j0 q1 (X11_draughtsThatBlew_b4 kf σ ρ j0 q1 n)
set_option maxRecDepth 20000 in
theorem w_X11_draughtsThatBlew_4 {l : Launch} {g : GE} {A : Nat → Prop} {LP : List Nat} {kf : KF} {σ : IM} {ρ : RM} {j0 : Nat} {q1 : Nat} (hPL : PL LP kf) (hj0 : j0 < 8) {p : Program} {e : Env} {s : State} {m : MethodId} {args : Array Value} {below : List Frame} {meth : Method} {c : Code} (S : CallFix p m c cX11_draughtsThatBlew 4 s args UL RX11) (hK : KK g s) (hr : meth.sig.returnType = (some .int)) (hlk : meth.locks = false) (hM : Mem lyC 48 g A (va_pl LP (skE kf)) σ ρ s.heap s.heap []) {out : Int32} {k4 : Int32 → Int32 → Option Int32} (hk4 : ∀ {x2 : Int32} {x3 : Int32} {ls : Array Slot}, lv_has ls 4 [(0, .ref (g.2.2 (29 + 2 * j0))), (1, .ref q1), (2, .int x2), (3, .int x3)] → k4 x2 x3 = some out → W p l e ({ frames := 3, cells := 0, slots := 0, locals := 67 }) s m args below meth c s.heap [] 0 0 (MQ below (Qp (some (.int out))) args s 0 0 NoA) (F0 m 4 ls [])) : ∀ {x2 : Int32} {x3 : Int32} {ls : Array Slot}, lv_has ls 4 [(0, .ref (g.2.2 (29 + 2 * j0))), (1, .ref q1), (2, .int x2), (3, .int x3)] → X11_draughtsThatBlew_s4 kf σ ρ j0 q1 k4 x2 x3 = some out → W p l e ({ frames := 3, cells := 0, slots := 0, locals := 67 }) s m args below meth c s.heap [] 0 0 (MQ below (Qp (some (.int out))) args s 0 0 NoA) (F0 m 4 ls []) := by
  intro x2 x3 ls hl hF
  unfold X11_draughtsThatBlew_s4 at hF
  refine lv_iload_n S.1 S.2.1 dX11_draughtsThatBlew_4 rfl (lv_at hl 3 rfl) ?_
  refine lv_iconst (v := 1) S.1 S.2.1 dX11_draughtsThatBlew_5 (by decide) ?_
  refine lv_icmp_gt (tgt := 32) S.1 S.2.1 dX11_draughtsThatBlew_6 (by decide) (fun b1 => ?_) (fun b1 => ?_)
  · have hF := (if_pos b1).symm.trans hF
    refine lv_iload_n S.1 S.2.1 dX11_draughtsThatBlew_32 rfl (lv_at hl 2 rfl) ?_
    cases hF
    exact z_p S hr hlk rfl dX11_draughtsThatBlew_33
  · have hF := (if_neg b1).symm.trans hF
    refine lv_aload_n S.1 S.2.1 dX11_draughtsThatBlew_9 rfl (lv_at hl 0 rfl) ?_
    refine lv_aload_n S.1 S.2.1 dX11_draughtsThatBlew_10 rfl (lv_at hl 1 rfl) ?_
    refine lv_iload_n S.1 S.2.1 dX11_draughtsThatBlew_11 rfl (lv_at hl 3 rfl) ?_
    obtain ⟨r2, er2, hF⟩ := bd1_some hF
    refine k_p (va_runS (As := [.ref (g.2.2 (29 + 2 * j0)), .ref q1, .int x3]) (rest := []) S (c_X11_tellsFalls hPL hj0 er2) (va_cwS 3 S.2.2.2.2 (ul_S tw_3_185 tw_3_186 tw_1_1 cw_X11_tellsFalls) rfl rfl rfl hs_X11_tellsFalls ⟨Nat.le_of_ble_eq_true rfl, Nat.le_of_ble_eq_true rfl⟩) ⟨PreM.blind, hM.pre hK⟩ rfl rfl hl.1 rfl (lv_room (Nat.le_of_ble_eq_true rfl)) dX11_draughtsThatBlew_12 ⟨Nat.zero_le _, Nat.zero_le _⟩) ?_
    refine lv_if_eq (tgt := 26) S.1 S.2.1 dX11_draughtsThatBlew_15 (by decide) (fun b3 => ?_) (fun b3 => ?_)
    · have hF := (if_pos b3).symm.trans hF
      exact w_X11_draughtsThatBlew_26 hPL hj0 S hK hr hlk hM hk4 (lv_sub hl [0, 1, 2, 3] rfl) hF
    · have hF := (if_neg b3).symm.trans hF
      refine lv_iload_n S.1 S.2.1 dX11_draughtsThatBlew_18 rfl (lv_at hl 2 rfl) ?_
      refine lv_iconst (v := 1) S.1 S.2.1 dX11_draughtsThatBlew_19 (by decide) ?_
      refine lv_iload_n S.1 S.2.1 dX11_draughtsThatBlew_20 rfl (lv_at hl 3 rfl) ?_
      refine lv_iconst (v := 1) S.1 S.2.1 dX11_draughtsThatBlew_21 (by decide) ?_
      refine lv_iadd S.1 S.2.1 dX11_draughtsThatBlew_22 ?_
      refine lv_ishl S.1 S.2.1 dX11_draughtsThatBlew_23 ?_
      refine lv_ior S.1 S.2.1 dX11_draughtsThatBlew_24 ?_
      refine lv_topi (fun v4 ev4 => ?_)
      have hF := bd_at ev4 hF
      refine lv_istore_n (lv' := [(2, .int v4), (0, .ref (g.2.2 (29 + 2 * j0))), (1, .ref q1), (3, .int x3)]) S.1 S.2.1 dX11_draughtsThatBlew_25 rfl hl (by decide) rfl (fun ls hl => ?_)
      exact w_X11_draughtsThatBlew_26 hPL hj0 S hK hr hlk hM hk4 (lv_sub hl [1, 2, 0, 3] rfl) hF
theorem wl_X11_draughtsThatBlew_4 {l : Launch} {g : GE} {A : Nat → Prop} {LP : List Nat} {kf : KF} {σ : IM} {ρ : RM} {j0 : Nat} {q1 : Nat} (hPL : PL LP kf) (hj0 : j0 < 8) {p : Program} {e : Env} {s : State} {m : MethodId} {args : Array Value} {below : List Frame} {meth : Method} {c : Code} (S : CallFix p m c cX11_draughtsThatBlew 4 s args UL RX11) (hK : KK g s) (hr : meth.sig.returnType = (some .int)) (hlk : meth.locks = false) (hM : Mem lyC 48 g A (va_pl LP (skE kf)) σ ρ s.heap s.heap []) {out : Int32} : ∀ (n : Nat) {x2 : Int32} {x3 : Int32} {ls : Array Slot}, lv_has ls 4 [(0, .ref (g.2.2 (29 + 2 * j0))), (1, .ref q1), (2, .int x2), (3, .int x3)] → X11_draughtsThatBlew_b4 kf σ ρ j0 q1 n x2 x3 = some out → W p l e ({ frames := 3, cells := 0, slots := 0, locals := 67 }) s m args below meth c s.heap [] 0 0 (MQ below (Qp (some (.int out))) args s 0 0 NoA) (F0 m 4 ls []) := by
  intro n
  induction n with
  | zero =>
    intro x2 x3 ls hl hF
    cases hF
  | succ n ih =>
    intro x2 x3 ls hl hF
    exact w_X11_draughtsThatBlew_4 hPL hj0 S hK hr hlk hM ih hl hF
def X11_draughtsThatBlew (kf : KF) (σ : IM) (ρ : RM) (j0 : Nat) (q1 : Nat) : Option Int32 := X11_draughtsThatBlew_b4 kf σ ρ j0 q1 1000 0 (-1)
set_option maxRecDepth 20000 in
theorem c_X11_draughtsThatBlew {l : Launch} {g : GE} {A : Nat → Prop} {LP : List Nat} {kf : KF} {σ : IM} {ρ : RM} {j0 : Nat} {q1 : Nat} {out : Int32} (hPL : PL LP kf) (hj0 : j0 < 8) (hF : X11_draughtsThatBlew kf σ ρ j0 q1 = some out) : Met l yX11_draughtsThatBlew (.code yX11_draughtsThatBlew cX11_draughtsThatBlew 4 (some .int) :: UL) ({ frames := 3, cells := 0, slots := 0, locals := 67 }) (va_Pc [.ref (g.2.2 (29 + 2 * j0)), .ref q1] (PreM lyC 48 g A (va_pl LP (skE kf)) σ ρ)) (Qp (some (.int out))) 0 0 NoA := by
  refine e_of (by decide) (Nat.le_of_ble_eq_true rfl) ?_
  intro p e s m below meth c ls S hr hlk hv hl
  have hM := Mem.of hv
  have hK := hv.2.1
  have hl : lv_has ls 4 [(0, .ref (g.2.2 (29 + 2 * j0))), (1, .ref q1)] := hl
  unfold X11_draughtsThatBlew at hF
  refine lv_iconst (v := 0) S.1 S.2.1 dX11_draughtsThatBlew_0 (by decide) ?_
  refine lv_istore_n (lv' := [(2, .int 0), (0, .ref (g.2.2 (29 + 2 * j0))), (1, .ref q1)]) S.1 S.2.1 dX11_draughtsThatBlew_1 rfl hl (by decide) rfl (fun ls hl => ?_)
  refine lv_iconst (v := (-1)) S.1 S.2.1 dX11_draughtsThatBlew_2 (by decide) ?_
  refine lv_istore_n (lv' := [(3, .int (-1)), (2, .int 0), (0, .ref (g.2.2 (29 + 2 * j0))), (1, .ref q1)]) S.1 S.2.1 dX11_draughtsThatBlew_3 rfl hl (by decide) rfl (fun ls hl => ?_)
  exact wl_X11_draughtsThatBlew_4 hPL hj0 S hK hr hlk hM 1000 (lv_sub hl [2, 3, 1, 0] rfl) hF
/-! X11_whatIs -/
def X11_whatIs (kf : KF) (σ : IM) (ρ : RM) (a1 : Int32) (a2 : Int32) (a3 : Int32) : Option Int32 := bd1 (X1_knows kf σ ρ 1 a2) fun r1 => if r1 = 0 then (some (-1)) else (bd1 (X11_isBelow a3 2) fun r3 => if r3 = 0 then (some (-1)) else (bd1 (X11_refusalOfCells kf σ ρ a1) fun r5 => if r5 = 0 then (if a3 = 0 then (ix 8 a1 fun j11 => bd1 (X11_kindsThatFell kf σ ρ j11) fun r12 => some r12) else (ix 8 a1 fun j8 => rq (ρ (1 + 8)) 8 a2 fun q9 => bd1 (X11_draughtsThatBlew kf σ ρ j8 q9) fun r10 => some r10)) else (some r5)))
set_option maxRecDepth 20000 in
theorem c_X11_whatIs {l : Launch} {g : GE} {A : Nat → Prop} {LP : List Nat} {kf : KF} {σ : IM} {ρ : RM} {a1 : Int32} {a2 : Int32} {a3 : Int32} {out : Int32} (hPL : PL LP kf) (hF : X11_whatIs kf σ ρ a1 a2 a3 = some out) : Met l yX11_whatIs (.code yX11_whatIs cX11_whatIs 5 (some .int) :: UL) ({ frames := 4, cells := 0, slots := 0, locals := 90 }) (va_Pc [.ref (g.2.2 0), .int a1, .int a2, .int a3] (PreM lyC 48 g A (va_pl LP (skE kf)) σ ρ)) (Qp (some (.int out))) 0 0 NoA := by
  refine e_of (by decide) (Nat.le_of_ble_eq_true rfl) ?_
  intro p e s m below meth c ls S hr hlk hv hl
  have hM := Mem.of hv
  have hK := hv.2.1
  have hl : lv_has ls 5 [(0, .ref (g.2.2 0)), (1, .int a1), (2, .int a2), (3, .int a3)] := hl
  unfold X11_whatIs at hF
  refine lv_aload_n S.1 S.2.1 dX11_whatIs_0 rfl (lv_at hl 0 rfl) ?_
  refine r_getC S hK hM cfX11 0 0 1 (by decide) ly_0 rfl (by decide) tw_1_193 dX11_whatIs_1 ?_
  refine lv_iload_n S.1 S.2.1 dX11_whatIs_4 rfl (lv_at hl 2 rfl) ?_
  obtain ⟨r1, er1, hF⟩ := bd1_some hF
  refine k_p (va_runV (As := [.int a2]) (rest := []) S (c_X1_knows hPL ct_1 er1) (cwV 1 S.2.2.2.2 (ul_V tw_2_212 tw_2_69 tw_2_70 tw_1_2 cw_X1_knows) rfl rfl rfl hv_X1_knows ⟨Nat.le_of_ble_eq_true rfl, Nat.le_of_ble_eq_true rfl⟩) ⟨PreM.blind, hM.recv hK cfX1 1 (ct_lt0 ct_1) (ly_ct ct_1), hM.pre hK⟩ rfl rfl hl.1 rfl (lv_room (Nat.le_of_ble_eq_true rfl)) dX11_whatIs_5 ⟨Nat.zero_le _, Nat.zero_le _⟩) ?_
  refine lv_if_eq (tgt := 19) S.1 S.2.1 dX11_whatIs_8 (by decide) (fun b2 => ?_) (fun b2 => ?_)
  · have hF := (if_pos b2).symm.trans hF
    refine lv_iconst (v := (-1)) S.1 S.2.1 dX11_whatIs_19 (by decide) ?_
    cases hF
    exact z_p S hr hlk rfl dX11_whatIs_20
  · have hF := (if_neg b2).symm.trans hF
    refine lv_iload_n S.1 S.2.1 dX11_whatIs_11 rfl (lv_at hl 3 rfl) ?_
    refine lv_iconst (v := 2) S.1 S.2.1 dX11_whatIs_12 (by decide) ?_
    obtain ⟨r3, er3, hF⟩ := bd1_some hF
    refine k_p (va_runS (As := [.int a3, .int 2]) (rest := []) S (c_X11_isBelow hPL  er3) (va_cwS 2 S.2.2.2.2 (ul_S tw_1_229 tw_1_230 tw_1_1 cw_X11_isBelow) rfl rfl rfl hs_X11_isBelow ⟨Nat.le_of_ble_eq_true rfl, Nat.le_of_ble_eq_true rfl⟩) ⟨PreM.blind, hM.pre hK⟩ rfl rfl hl.1 rfl (lv_room (Nat.le_of_ble_eq_true rfl)) dX11_whatIs_13 ⟨Nat.zero_le _, Nat.zero_le _⟩) ?_
    refine lv_if_ne (tgt := 21) S.1 S.2.1 dX11_whatIs_16 (by decide) (fun b4 => ?_) (fun b4 => ?_)
    · have hF := (if_neg b4).symm.trans hF
      refine lv_aload_n S.1 S.2.1 dX11_whatIs_21 rfl (lv_at hl 0 rfl) ?_
      refine lv_iload_n S.1 S.2.1 dX11_whatIs_22 rfl (lv_at hl 1 rfl) ?_
      obtain ⟨r5, er5, hF⟩ := bd1_some hF
      refine k_p (va_runV (As := [.int a1]) (rest := []) S (c_X11_refusalOfCells hPL  er5) (cwV 1 S.2.2.2.2 (ul_V tw_3_177 tw_3_179 ts_X11_refusalOfCells tw_1_1 cw_X11_refusalOfCells) rfl rfl rfl hv_X11_refusalOfCells ⟨Nat.le_of_ble_eq_true rfl, Nat.le_of_ble_eq_true rfl⟩) ⟨PreM.blind, hM.recv hK cfX11 0 (by decide) ly_0, hM.pre hK⟩ rfl rfl hl.1 rfl (lv_room (Nat.le_of_ble_eq_true rfl)) dX11_whatIs_23 ⟨Nat.zero_le _, Nat.zero_le _⟩) ?_
      refine lv_istore (lv' := [(4, .int r5), (0, .ref (g.2.2 0)), (1, .int a1), (2, .int a2), (3, .int a3)]) S.1 S.2.1 dX11_whatIs_26 hl (by decide) rfl (fun ls hl => ?_)
      refine lv_iload S.1 S.2.1 dX11_whatIs_28 (lv_at hl 0 rfl) ?_
      refine lv_if_eq (tgt := 36) S.1 S.2.1 dX11_whatIs_30 (by decide) (fun b6 => ?_) (fun b6 => ?_)
      · have hF := (if_pos b6).symm.trans hF
        refine lv_iload_n S.1 S.2.1 dX11_whatIs_36 rfl (lv_at hl 4 rfl) ?_
        refine lv_if_ne (tgt := 53) S.1 S.2.1 dX11_whatIs_37 (by decide) (fun b7 => ?_) (fun b7 => ?_)
        · have hF := (if_neg b7).symm.trans hF
          refine lv_aload_n S.1 S.2.1 dX11_whatIs_53 rfl (lv_at hl 1 rfl) ?_
          refine r_getC S hK hM cfX11 0 4 28 (by decide) ly_0 rfl (by decide) tw_1_197 dX11_whatIs_54 ?_
          refine lv_iload_n S.1 S.2.1 dX11_whatIs_57 rfl (lv_at hl 2 rfl) ?_
          obtain ⟨hj8, j8, ej8, lj8, hF⟩ := ix_some hF
          refine r_aaldS S hK hM 28 (by decide) ly_28 hj8 ej8 dX11_whatIs_58 ?_
          refine lv_aload_n S.1 S.2.1 dX11_whatIs_59 rfl (lv_at hl 1 rfl) ?_
          refine r_getC S hK hM cfX11 0 0 1 (by decide) ly_0 rfl (by decide) tw_1_193 dX11_whatIs_60 ?_
          refine r_getC S hK hM cfX1 1 7 (1 + 8) (ct_lt0 ct_1) (ly_ct ct_1) rfl (by decide) tw_1_54 dX11_whatIs_63 ?_
          refine lv_iload_n S.1 S.2.1 dX11_whatIs_66 rfl (lv_at hl 3 rfl) ?_
          obtain ⟨hq9, q9, eq9, hF⟩ := rq_some hF
          refine r_aald S hK hM (1 + 8) (ct_lt ct_1 8 (by decide)) (ly_c8 ct_1) hq9 eq9 dX11_whatIs_67 ?_
          obtain ⟨r10, er10, hF⟩ := bd1_some hF
          refine k_p (va_runS (As := [.ref (g.2.2 (29 + 2 * j8)), .ref q9]) (rest := []) S (c_X11_draughtsThatBlew hPL lj8 er10) (va_cwS 2 S.2.2.2.2 (ul_S tw_3_198 tw_3_199 tw_1_1 cw_X11_draughtsThatBlew) rfl rfl rfl hs_X11_draughtsThatBlew ⟨Nat.le_of_ble_eq_true rfl, Nat.le_of_ble_eq_true rfl⟩) ⟨PreM.blind, hM.pre hK⟩ rfl rfl hl.1 rfl (lv_room (Nat.le_of_ble_eq_true rfl)) dX11_whatIs_68 ⟨Nat.zero_le _, Nat.zero_le _⟩) ?_
          cases hF
          exact z_p S hr hlk rfl dX11_whatIs_71
        · have hF := (if_pos b7).symm.trans hF
          refine lv_aload_n S.1 S.2.1 dX11_whatIs_40 rfl (lv_at hl 1 rfl) ?_
          refine lv_aload_n S.1 S.2.1 dX11_whatIs_41 rfl (lv_at hl 1 rfl) ?_
          refine r_getC S hK hM cfX11 0 4 28 (by decide) ly_0 rfl (by decide) tw_1_197 dX11_whatIs_42 ?_
          refine lv_iload_n S.1 S.2.1 dX11_whatIs_45 rfl (lv_at hl 2 rfl) ?_
          obtain ⟨hj11, j11, ej11, lj11, hF⟩ := ix_some hF
          refine r_aaldS S hK hM 28 (by decide) ly_28 hj11 ej11 dX11_whatIs_46 ?_
          obtain ⟨r12, er12, hF⟩ := bd1_some hF
          refine k_p (va_runV (As := [.ref (g.2.2 (29 + 2 * j11))]) (rest := []) S (c_X11_kindsThatFell hPL lj11 er12) (cwV 1 S.2.2.2.2 (ul_V tw_3_181 tw_3_183 ts_X11_kindsThatFell tw_1_1 cw_X11_kindsThatFell) rfl rfl rfl hv_X11_kindsThatFell ⟨Nat.le_of_ble_eq_true rfl, Nat.le_of_ble_eq_true rfl⟩) ⟨PreM.blind, hM.recv hK cfX11 0 (by decide) ly_0, hM.pre hK⟩ rfl rfl hl.1 rfl (lv_room (Nat.le_of_ble_eq_true rfl)) dX11_whatIs_47 ⟨Nat.zero_le _, Nat.zero_le _⟩) ?_
          refine lv_goto (tgt := 71) S.1 S.2.1 dX11_whatIs_50 (by decide) ?_
          cases hF
          exact z_p S hr hlk rfl dX11_whatIs_71
      · have hF := (if_neg b6).symm.trans hF
        refine lv_iload S.1 S.2.1 dX11_whatIs_33 (lv_at hl 0 rfl) ?_
        cases hF
        exact z_p S hr hlk rfl dX11_whatIs_35
    · have hF := (if_pos b4).symm.trans hF
      refine lv_iconst (v := (-1)) S.1 S.2.1 dX11_whatIs_19 (by decide) ?_
      cases hF
      exact z_p S hr hlk rfl dX11_whatIs_20
/-! X11_tellsTakers -/
def X11_tellsTakers_s2 (kf : KF) (σ : IM) (ρ : RM) (j0 : Nat) (c1 : Nat) (k2 : Int32 → Option Int32) (x2 : Int32) : Option Int32 := if σ (29 + 2 * j0) 3 ≤ x2 then (some 1) else (bd1 (X1_landing kf σ ρ c1 0 x2) fun r2 => bd1 (X1_takerOf kf σ ρ c1 r2) fun r3 => bd1 (X7_allows kf σ ρ j0 x2 r3) fun r4 => if r4 = 0 then (some 0) else (bd (x2 + 1) fun v6 => k2 v6))
def X11_tellsTakers_b2 (kf : KF) (σ : IM) (ρ : RM) (j0 : Nat) (c1 : Nat) : Nat → Int32 → Option Int32
  | 0 => fun _ => none
  | n + 1 => X11_tellsTakers_s2 kf σ ρ j0 c1 (X11_tellsTakers_b2 kf σ ρ j0 c1 n)
set_option maxRecDepth 20000 in
theorem w_X11_tellsTakers_2 {l : Launch} {g : GE} {A : Nat → Prop} {LP : List Nat} {kf : KF} {σ : IM} {ρ : RM} {j0 : Nat} {c1 : Nat} (hPL : PL LP kf) (hj0 : j0 < 8) (hc1 : Ct c1) {p : Program} {e : Env} {s : State} {m : MethodId} {args : Array Value} {below : List Frame} {meth : Method} {c : Code} (S : CallFix p m c cX11_tellsTakers 3 s args UL RX11) (hK : KK g s) (hr : meth.sig.returnType = (some .boolean)) (hlk : meth.locks = false) (hM : Mem lyC 48 g A (va_pl LP (skE kf)) σ ρ s.heap s.heap []) {out : Int32} {k2 : Int32 → Option Int32} (hk2 : ∀ {x2 : Int32} {ls : Array Slot}, lv_has ls 3 [(0, .ref (g.2.2 (29 + 2 * j0))), (1, .ref (g.2.2 c1)), (2, .int x2)] → k2 x2 = some out → W p l e ({ frames := 4, cells := 0, slots := 0, locals := 87 }) s m args below meth c s.heap [] 0 0 (MQ below (Qp (some (.int out))) args s 0 0 NoA) (F0 m 2 ls [])) : ∀ {x2 : Int32} {ls : Array Slot}, lv_has ls 3 [(0, .ref (g.2.2 (29 + 2 * j0))), (1, .ref (g.2.2 c1)), (2, .int x2)] → X11_tellsTakers_s2 kf σ ρ j0 c1 k2 x2 = some out → W p l e ({ frames := 4, cells := 0, slots := 0, locals := 87 }) s m args below meth c s.heap [] 0 0 (MQ below (Qp (some (.int out))) args s 0 0 NoA) (F0 m 2 ls []) := by
  intro x2 ls hl hF
  unfold X11_tellsTakers_s2 at hF
  refine lv_iload_n S.1 S.2.1 dX11_tellsTakers_2 rfl (lv_at hl 2 rfl) ?_
  refine lv_aload_n S.1 S.2.1 dX11_tellsTakers_3 rfl (lv_at hl 0 rfl) ?_
  refine r_getI S hK hM cfX7 (29 + 2 * j0) 3 (sh_lt hj0) (ly_sh hj0) rfl (by decide) tw_1_105 dX11_tellsTakers_4 ?_
  refine lv_icmp_ge (tgt := 36) S.1 S.2.1 dX11_tellsTakers_7 (by decide) (fun b1 => ?_) (fun b1 => ?_)
  · have hF := (if_pos b1).symm.trans hF
    refine lv_iconst (v := 1) S.1 S.2.1 dX11_tellsTakers_36 (by decide) ?_
    cases hF
    exact z_p S hr hlk rfl dX11_tellsTakers_37
  · have hF := (if_neg b1).symm.trans hF
    refine lv_aload_n S.1 S.2.1 dX11_tellsTakers_10 rfl (lv_at hl 0 rfl) ?_
    refine lv_iload_n S.1 S.2.1 dX11_tellsTakers_11 rfl (lv_at hl 2 rfl) ?_
    refine lv_aload_n S.1 S.2.1 dX11_tellsTakers_12 rfl (lv_at hl 1 rfl) ?_
    refine lv_aload_n S.1 S.2.1 dX11_tellsTakers_13 rfl (lv_at hl 1 rfl) ?_
    refine lv_iconst (v := 0) S.1 S.2.1 dX11_tellsTakers_14 (by decide) ?_
    refine lv_iload_n S.1 S.2.1 dX11_tellsTakers_15 rfl (lv_at hl 2 rfl) ?_
    obtain ⟨r2, er2, hF⟩ := bd1_some hF
    refine k_p (va_runV (As := [.int 0, .int x2]) (rest := [.ref (g.2.2 c1), .int x2, .ref (g.2.2 (29 + 2 * j0))]) S (c_X1_landing hPL hc1 er2) (cwV 2 S.2.2.2.2 (ul_V tw_3_55 tw_3_56 tw_3_57 tw_1_2 cw_X1_landing) rfl rfl rfl hv_X1_landing ⟨Nat.le_of_ble_eq_true rfl, Nat.le_of_ble_eq_true rfl⟩) ⟨PreM.blind, hM.recv hK cfX1 c1 (ct_lt0 hc1) (ly_ct hc1), hM.pre hK⟩ rfl rfl hl.1 rfl (lv_room (Nat.le_of_ble_eq_true rfl)) dX11_tellsTakers_16 ⟨Nat.zero_le _, Nat.zero_le _⟩) ?_
    obtain ⟨r3, er3, hF⟩ := bd1_some hF
    refine k_p (va_runV (As := [.int r2]) (rest := [.int x2, .ref (g.2.2 (29 + 2 * j0))]) S (c_X1_takerOf hPL hc1 er3) (cwV 1 S.2.2.2.2 (ul_V tw_3_59 tw_3_60 tw_3_61 tw_1_2 cw_X1_takerOf) rfl rfl rfl hv_X1_takerOf ⟨Nat.le_of_ble_eq_true rfl, Nat.le_of_ble_eq_true rfl⟩) ⟨PreM.blind, hM.recv hK cfX1 c1 (ct_lt0 hc1) (ly_ct hc1), hM.pre hK⟩ rfl rfl hl.1 rfl (lv_room (Nat.le_of_ble_eq_true rfl)) dX11_tellsTakers_19 ⟨Nat.zero_le _, Nat.zero_le _⟩) ?_
    obtain ⟨r4, er4, hF⟩ := bd1_some hF
    refine k_p (va_runV (As := [.int x2, .int r3]) (rest := []) S (c_X7_allows hPL hj0 er4) (cwV 2 S.2.2.2.2 (ul_V tw_3_189 tw_3_190 tw_3_191 tw_1_3 cw_X7_allows) rfl rfl rfl hv_X7_allows ⟨Nat.le_of_ble_eq_true rfl, Nat.le_of_ble_eq_true rfl⟩) ⟨PreM.blind, hM.recv hK cfX7 (29 + 2 * j0) (sh_lt hj0) (ly_sh hj0), hM.pre hK⟩ rfl rfl hl.1 rfl (lv_room (Nat.le_of_ble_eq_true rfl)) dX11_tellsTakers_22 ⟨Nat.zero_le _, Nat.zero_le _⟩) ?_
    refine lv_if_ne (tgt := 30) S.1 S.2.1 dX11_tellsTakers_25 (by decide) (fun b5 => ?_) (fun b5 => ?_)
    · have hF := (if_neg b5).symm.trans hF
      obtain ⟨v6, ev6, hF⟩ := bd_some hF
      refine lv_iinc (v := v6) (lv' := [(2, .int v6), (0, .ref (g.2.2 (29 + 2 * j0))), (1, .ref (g.2.2 c1))]) S.1 S.2.1 dX11_tellsTakers_30 hl (k := 2) rfl (by rw [ev6]; rfl) (by decide) rfl (fun ls hl => ?_)
      refine lv_goto (tgt := 2) S.1 S.2.1 dX11_tellsTakers_33 (by decide) ?_
      exact hk2  (lv_sub hl [1, 2, 0] rfl)  hF
    · have hF := (if_pos b5).symm.trans hF
      refine lv_iconst (v := 0) S.1 S.2.1 dX11_tellsTakers_28 (by decide) ?_
      cases hF
      exact z_p S hr hlk rfl dX11_tellsTakers_29
theorem wl_X11_tellsTakers_2 {l : Launch} {g : GE} {A : Nat → Prop} {LP : List Nat} {kf : KF} {σ : IM} {ρ : RM} {j0 : Nat} {c1 : Nat} (hPL : PL LP kf) (hj0 : j0 < 8) (hc1 : Ct c1) {p : Program} {e : Env} {s : State} {m : MethodId} {args : Array Value} {below : List Frame} {meth : Method} {c : Code} (S : CallFix p m c cX11_tellsTakers 3 s args UL RX11) (hK : KK g s) (hr : meth.sig.returnType = (some .boolean)) (hlk : meth.locks = false) (hM : Mem lyC 48 g A (va_pl LP (skE kf)) σ ρ s.heap s.heap []) {out : Int32} : ∀ (n : Nat) {x2 : Int32} {ls : Array Slot}, lv_has ls 3 [(0, .ref (g.2.2 (29 + 2 * j0))), (1, .ref (g.2.2 c1)), (2, .int x2)] → X11_tellsTakers_b2 kf σ ρ j0 c1 n x2 = some out → W p l e ({ frames := 4, cells := 0, slots := 0, locals := 87 }) s m args below meth c s.heap [] 0 0 (MQ below (Qp (some (.int out))) args s 0 0 NoA) (F0 m 2 ls []) := by
  intro n
  induction n with
  | zero =>
    intro x2 ls hl hF
    cases hF
  | succ n ih =>
    intro x2 ls hl hF
    exact w_X11_tellsTakers_2 hPL hj0 hc1 S hK hr hlk hM ih hl hF
def X11_tellsTakers (kf : KF) (σ : IM) (ρ : RM) (j0 : Nat) (c1 : Nat) : Option Int32 := X11_tellsTakers_b2 kf σ ρ j0 c1 1000 0
set_option maxRecDepth 20000 in
theorem c_X11_tellsTakers {l : Launch} {g : GE} {A : Nat → Prop} {LP : List Nat} {kf : KF} {σ : IM} {ρ : RM} {j0 : Nat} {c1 : Nat} {out : Int32} (hPL : PL LP kf) (hj0 : j0 < 8) (hc1 : Ct c1) (hF : X11_tellsTakers kf σ ρ j0 c1 = some out) : Met l yX11_tellsTakers (.code yX11_tellsTakers cX11_tellsTakers 3 (some .boolean) :: UL) ({ frames := 4, cells := 0, slots := 0, locals := 87 }) (va_Pc [.ref (g.2.2 (29 + 2 * j0)), .ref (g.2.2 c1)] (PreM lyC 48 g A (va_pl LP (skE kf)) σ ρ)) (Qp (some (.int out))) 0 0 NoA := by
  refine e_of (by decide) (Nat.le_of_ble_eq_true rfl) ?_
  intro p e s m below meth c ls S hr hlk hv hl
  have hM := Mem.of hv
  have hK := hv.2.1
  have hl : lv_has ls 3 [(0, .ref (g.2.2 (29 + 2 * j0))), (1, .ref (g.2.2 c1))] := hl
  unfold X11_tellsTakers at hF
  refine lv_iconst (v := 0) S.1 S.2.1 dX11_tellsTakers_0 (by decide) ?_
  refine lv_istore_n (lv' := [(2, .int 0), (0, .ref (g.2.2 (29 + 2 * j0))), (1, .ref (g.2.2 c1))]) S.1 S.2.1 dX11_tellsTakers_1 rfl hl (by decide) rfl (fun ls hl => ?_)
  exact wl_X11_tellsTakers_2 hPL hj0 hc1 S hK hr hlk hM 1000 (lv_sub hl [1, 2, 0] rfl) hF
/-! X11_habits -/
def X11_habits_b87 (kf : KF) (k41 : Int32 → Int32 → Int32 → IM → RM → Option (Int32 × IM × RM)) (x1 : Int32) (x3 : Int32) (x4 : Int32) (σ : IM) (ρ : RM) : Option (Int32 × IM × RM) := bd (x4 + 1) fun v14 => k41 x1 x3 v14 σ ρ
set_option maxRecDepth 20000 in
theorem w_X11_habits_87 {l : Launch} {g : GE} {A : Nat → Prop} {LP : List Nat} {kf : KF} (hPL : PL LP kf) {p : Program} {e : Env} {s : State} {m : MethodId} {args : Array Value} {below : List Frame} {meth : Method} {c : Code} (S : CallFix p m c cX11_habits 5 s args UL RX11) (hK : KK g s) (hr : meth.sig.returnType = (some .int)) (hlk : meth.locks = false) {out : Int32 × IM × RM} {k41 : Int32 → Int32 → Int32 → IM → RM → Option (Int32 × IM × RM)} (hk41 : ∀ {x1 : Int32} {x3 : Int32} {x4 : Int32} {σ : IM} {ρ : RM} {H : Heap} {locs : List Loc} {ls : Array Slot}, Mem lyC 48 g A (va_pl LP (skE kf)) σ ρ s.heap H locs → lv_has ls 5 [(0, .ref (g.2.2 0)), (1, .int x1), (3, .int x3), (4, .int x4)] → k41 x1 x3 x4 σ ρ = some out → W p l e ({ frames := 5, cells := 0, slots := 0, locals := 109 }) s m args below meth c H locs 0 0 (MQ below (Qm lyC 48 g A (va_pl LP (skE kf)) out.2.1 out.2.2 (some (.int out.1))) args s 0 0 A) (F0 m 41 ls [])) : ∀ {x1 : Int32} {x3 : Int32} {x4 : Int32} {σ : IM} {ρ : RM} {H : Heap} {locs : List Loc} {ls : Array Slot}, Mem lyC 48 g A (va_pl LP (skE kf)) σ ρ s.heap H locs → lv_has ls 5 [(0, .ref (g.2.2 0)), (1, .int x1), (3, .int x3), (4, .int x4)] → X11_habits_b87 kf k41 x1 x3 x4 σ ρ = some out → W p l e ({ frames := 5, cells := 0, slots := 0, locals := 109 }) s m args below meth c H locs 0 0 (MQ below (Qm lyC 48 g A (va_pl LP (skE kf)) out.2.1 out.2.2 (some (.int out.1))) args s 0 0 A) (F0 m 87 ls []) := by
  intro x1 x3 x4 σ ρ H locs ls hM hl hF
  unfold X11_habits_b87 at hF
  obtain ⟨v14, ev14, hF⟩ := bd_some hF
  refine lv_iinc (v := v14) (lv' := [(4, .int v14), (0, .ref (g.2.2 0)), (1, .int x1), (3, .int x3)]) S.1 S.2.1 dX11_habits_87 hl (k := 3) rfl (by rw [ev14]; rfl) (by decide) rfl (fun ls hl => ?_)
  refine lv_goto (tgt := 41) S.1 S.2.1 dX11_habits_90 (by decide) ?_
  exact hk41 hM (lv_sub hl [1, 2, 3, 0] rfl)  hF
def X11_habits_s41 (kf : KF) (k41 : Int32 → Int32 → Int32 → IM → RM → Option (Int32 × IM × RM)) (x1 : Int32) (x3 : Int32) (x4 : Int32) (σ : IM) (ρ : RM) : Option (Int32 × IM × RM) := if 4 ≤ x4 then (some (x3, σ, ρ)) else (bd1 (X1_receivers kf σ ρ 10) fun r8 => wr σ (10 + 6) 2 r8 x4 fun σ9 => ix 8 x1 fun j10 => bd1 (X11_tellsTakers kf σ9 ρ j10 10) fun r11 => if r11 = 0 then (X11_habits_b87 kf k41 x1 x3 x4 σ9 ρ) else (bd (x3 ||| (1 <<< (x4 &&& 31))) fun v13 => X11_habits_b87 kf k41 x1 v13 x4 σ9 ρ))
def X11_habits_b41 (kf : KF) : Nat → Int32 → Int32 → Int32 → IM → RM → Option (Int32 × IM × RM)
  | 0 => fun _ _ _ _ _ => none
  | n + 1 => X11_habits_s41 kf (X11_habits_b41 kf n)
set_option maxRecDepth 20000 in
theorem w_X11_habits_41 {l : Launch} {g : GE} {A : Nat → Prop} {LP : List Nat} {kf : KF} (hPL : PL LP kf) {p : Program} {e : Env} {s : State} {m : MethodId} {args : Array Value} {below : List Frame} {meth : Method} {c : Code} (S : CallFix p m c cX11_habits 5 s args UL RX11) (hK : KK g s) (hr : meth.sig.returnType = (some .int)) (hlk : meth.locks = false) {out : Int32 × IM × RM} {k41 : Int32 → Int32 → Int32 → IM → RM → Option (Int32 × IM × RM)} (hk41 : ∀ {x1 : Int32} {x3 : Int32} {x4 : Int32} {σ : IM} {ρ : RM} {H : Heap} {locs : List Loc} {ls : Array Slot}, Mem lyC 48 g A (va_pl LP (skE kf)) σ ρ s.heap H locs → lv_has ls 5 [(0, .ref (g.2.2 0)), (1, .int x1), (3, .int x3), (4, .int x4)] → k41 x1 x3 x4 σ ρ = some out → W p l e ({ frames := 5, cells := 0, slots := 0, locals := 109 }) s m args below meth c H locs 0 0 (MQ below (Qm lyC 48 g A (va_pl LP (skE kf)) out.2.1 out.2.2 (some (.int out.1))) args s 0 0 A) (F0 m 41 ls [])) : ∀ {x1 : Int32} {x3 : Int32} {x4 : Int32} {σ : IM} {ρ : RM} {H : Heap} {locs : List Loc} {ls : Array Slot}, Mem lyC 48 g A (va_pl LP (skE kf)) σ ρ s.heap H locs → lv_has ls 5 [(0, .ref (g.2.2 0)), (1, .int x1), (3, .int x3), (4, .int x4)] → X11_habits_s41 kf k41 x1 x3 x4 σ ρ = some out → W p l e ({ frames := 5, cells := 0, slots := 0, locals := 109 }) s m args below meth c H locs 0 0 (MQ below (Qm lyC 48 g A (va_pl LP (skE kf)) out.2.1 out.2.2 (some (.int out.1))) args s 0 0 A) (F0 m 41 ls []) := by
  intro x1 x3 x4 σ ρ H locs ls hM hl hF
  unfold X11_habits_s41 at hF
  refine lv_iload S.1 S.2.1 dX11_habits_41 (lv_at hl 3 rfl) ?_
  refine lv_iconst (v := 4) S.1 S.2.1 dX11_habits_43 (by decide) ?_
  refine lv_icmp_ge (tgt := 93) S.1 S.2.1 dX11_habits_44 (by decide) (fun b7 => ?_) (fun b7 => ?_)
  · have hF := (if_pos b7).symm.trans hF
    refine lv_iload_n S.1 S.2.1 dX11_habits_93 rfl (lv_at hl 2 rfl) ?_
    cases hF
    exact z_m (v := x3) S hM hr hlk rfl dX11_habits_94
  · have hF := (if_neg b7).symm.trans hF
    refine lv_aload_n S.1 S.2.1 dX11_habits_47 rfl (lv_at hl 0 rfl) ?_
    refine r_getC S hK hM cfX11 0 1 10 (by decide) ly_0 rfl (by decide) tw_1_194 dX11_habits_48 ?_
    refine r_getC S hK hM cfX1 10 5 (10 + 6) (ct_lt0 ct_10) (ly_ct ct_10) rfl (by decide) tw_1_50 dX11_habits_51 ?_
    refine lv_aload_n S.1 S.2.1 dX11_habits_54 rfl (lv_at hl 0 rfl) ?_
    refine r_getC S hK hM cfX11 0 1 10 (by decide) ly_0 rfl (by decide) tw_1_194 dX11_habits_55 ?_
    obtain ⟨r8, er8, hF⟩ := bd1_some hF
    refine k_p (va_runV (As := []) (rest := [.ref (g.2.2 (10 + 6))]) S (c_X1_receivers hPL ct_10 er8) (cwV 0 S.2.2.2.2 (ul_V tw_3_205 tw_2_132 tw_2_133 tw_1_2 cw_X1_receivers) rfl rfl rfl hv_X1_receivers ⟨Nat.le_of_ble_eq_true rfl, Nat.le_of_ble_eq_true rfl⟩) ⟨PreM.blind, hM.recv hK cfX1 10 (ct_lt0 ct_10) (ly_ct ct_10), hM.pre hK⟩ rfl rfl hl.1 rfl (lv_room (Nat.le_of_ble_eq_true rfl)) dX11_habits_58 ⟨Nat.zero_le _, Nat.zero_le _⟩) ?_
    refine lv_iload S.1 S.2.1 dX11_habits_61 (lv_at hl 3 rfl) ?_
    obtain ⟨hσ9, σ9, eσ9, hF⟩ := wr_some hF
    refine r_iast S hK hM (10 + 6) (ct_lt ct_10 6 (by decide)) (ly_c6 ct_10) hσ9 eσ9 dX11_habits_63 (fun H locs hM => ?_)
    refine lv_aload_n S.1 S.2.1 dX11_habits_64 rfl (lv_at hl 0 rfl) ?_
    refine r_getC S hK hM cfX11 0 4 28 (by decide) ly_0 rfl (by decide) tw_1_197 dX11_habits_65 ?_
    refine lv_iload_n S.1 S.2.1 dX11_habits_68 rfl (lv_at hl 1 rfl) ?_
    obtain ⟨hj10, j10, ej10, lj10, hF⟩ := ix_some hF
    refine r_aaldS S hK hM 28 (by decide) ly_28 hj10 ej10 dX11_habits_69 ?_
    refine lv_aload_n S.1 S.2.1 dX11_habits_70 rfl (lv_at hl 0 rfl) ?_
    refine r_getC S hK hM cfX11 0 1 10 (by decide) ly_0 rfl (by decide) tw_1_194 dX11_habits_71 ?_
    obtain ⟨r11, er11, hF⟩ := bd1_some hF
    refine k_p (va_runS (As := [.ref (g.2.2 (29 + 2 * j10)), .ref (g.2.2 10)]) (rest := []) S (c_X11_tellsTakers hPL lj10 ct_10 er11) (va_cwS 2 S.2.2.2.2 (ul_S tw_3_206 tw_3_207 tw_1_1 cw_X11_tellsTakers) rfl rfl rfl hs_X11_tellsTakers ⟨Nat.le_of_ble_eq_true rfl, Nat.le_of_ble_eq_true rfl⟩) ⟨PreM.blind, hM.pre hK⟩ rfl rfl hl.1 rfl (lv_room (Nat.le_of_ble_eq_true rfl)) dX11_habits_74 ⟨Nat.zero_le _, Nat.zero_le _⟩) ?_
    refine lv_if_eq (tgt := 87) S.1 S.2.1 dX11_habits_77 (by decide) (fun b12 => ?_) (fun b12 => ?_)
    · have hF := (if_pos b12).symm.trans hF
      exact w_X11_habits_87 hPL S hK hr hlk hk41 hM (lv_sub hl [0, 1, 2, 3] rfl) hF
    · have hF := (if_neg b12).symm.trans hF
      refine lv_iload_n S.1 S.2.1 dX11_habits_80 rfl (lv_at hl 2 rfl) ?_
      refine lv_iconst (v := 1) S.1 S.2.1 dX11_habits_81 (by decide) ?_
      refine lv_iload S.1 S.2.1 dX11_habits_82 (lv_at hl 3 rfl) ?_
      refine lv_ishl S.1 S.2.1 dX11_habits_84 ?_
      refine lv_ior S.1 S.2.1 dX11_habits_85 ?_
      refine lv_topi (fun v13 ev13 => ?_)
      have hF := bd_at ev13 hF
      refine lv_istore_n (lv' := [(3, .int v13), (0, .ref (g.2.2 0)), (1, .int x1), (4, .int x4)]) S.1 S.2.1 dX11_habits_86 rfl hl (by decide) rfl (fun ls hl => ?_)
      exact w_X11_habits_87 hPL S hK hr hlk hk41 hM (lv_sub hl [1, 2, 0, 3] rfl) hF
theorem wl_X11_habits_41 {l : Launch} {g : GE} {A : Nat → Prop} {LP : List Nat} {kf : KF} (hPL : PL LP kf) {p : Program} {e : Env} {s : State} {m : MethodId} {args : Array Value} {below : List Frame} {meth : Method} {c : Code} (S : CallFix p m c cX11_habits 5 s args UL RX11) (hK : KK g s) (hr : meth.sig.returnType = (some .int)) (hlk : meth.locks = false) {out : Int32 × IM × RM} : ∀ (n : Nat) {x1 : Int32} {x3 : Int32} {x4 : Int32} {σ : IM} {ρ : RM} {H : Heap} {locs : List Loc} {ls : Array Slot}, Mem lyC 48 g A (va_pl LP (skE kf)) σ ρ s.heap H locs → lv_has ls 5 [(0, .ref (g.2.2 0)), (1, .int x1), (3, .int x3), (4, .int x4)] → X11_habits_b41 kf n x1 x3 x4 σ ρ = some out → W p l e ({ frames := 5, cells := 0, slots := 0, locals := 109 }) s m args below meth c H locs 0 0 (MQ below (Qm lyC 48 g A (va_pl LP (skE kf)) out.2.1 out.2.2 (some (.int out.1))) args s 0 0 A) (F0 m 41 ls []) := by
  intro n
  induction n with
  | zero =>
    intro x1 x3 x4 σ ρ H locs ls hM hl hF
    cases hF
  | succ n ih =>
    intro x1 x3 x4 σ ρ H locs ls hM hl hF
    exact w_X11_habits_41 hPL S hK hr hlk ih hM hl hF
def X11_habits (kf : KF) (σ : IM) (ρ : RM) (a1 : Int32) : Option (Int32 × IM × RM) := bd1 (X11_refusalOfCells kf σ ρ a1) fun r1 => if r1 = 0 then (if σ 1 8 = 0 then (some ((-3), σ, ρ)) else (bd2 (X1_become kf σ ρ 10 1) fun σ4 ρ5 => X11_habits_b41 kf 1000 a1 0 0 σ4 ρ5)) else (some (r1, σ, ρ))
set_option maxRecDepth 20000 in
theorem c_X11_habits {l : Launch} {g : GE} {A : Nat → Prop} {LP : List Nat} {kf : KF} {σ : IM} {ρ : RM} {a1 : Int32} {out : Int32 × IM × RM} (hPL : PL LP kf) (hF : X11_habits kf σ ρ a1 = some out) : Met l yX11_habits (.code yX11_habits cX11_habits 5 (some .int) :: UL) ({ frames := 5, cells := 0, slots := 0, locals := 109 }) (va_Pc [.ref (g.2.2 0), .int a1] (PreM lyC 48 g A (va_pl LP (skE kf)) σ ρ)) (Qm lyC 48 g A (va_pl LP (skE kf)) out.2.1 out.2.2 (some (.int out.1))) 0 0 A := by
  refine e_of (by decide) (Nat.le_of_ble_eq_true rfl) ?_
  intro p e s m below meth c ls S hr hlk hv hl
  have hM := Mem.of hv
  have hK := hv.2.1
  have hl : lv_has ls 5 [(0, .ref (g.2.2 0)), (1, .int a1)] := hl
  unfold X11_habits at hF
  refine lv_aload_n S.1 S.2.1 dX11_habits_0 rfl (lv_at hl 0 rfl) ?_
  refine lv_iload_n S.1 S.2.1 dX11_habits_1 rfl (lv_at hl 1 rfl) ?_
  obtain ⟨r1, er1, hF⟩ := bd1_some hF
  refine k_p (va_runV (As := [.int a1]) (rest := []) S (c_X11_refusalOfCells hPL  er1) (cwV 1 S.2.2.2.2 (ul_V tw_3_177 tw_3_179 ts_X11_refusalOfCells tw_1_1 cw_X11_refusalOfCells) rfl rfl rfl hv_X11_refusalOfCells ⟨Nat.le_of_ble_eq_true rfl, Nat.le_of_ble_eq_true rfl⟩) ⟨PreM.blind, hM.recv hK cfX11 0 (by decide) ly_0, hM.pre hK⟩ rfl rfl hl.1 rfl (lv_room (Nat.le_of_ble_eq_true rfl)) dX11_habits_2 ⟨Nat.zero_le _, Nat.zero_le _⟩) ?_
  refine lv_istore_n (lv' := [(2, .int r1), (0, .ref (g.2.2 0)), (1, .int a1)]) S.1 S.2.1 dX11_habits_5 rfl hl (by decide) rfl (fun ls hl => ?_)
  refine lv_iload_n S.1 S.2.1 dX11_habits_6 rfl (lv_at hl 0 rfl) ?_
  refine lv_if_eq (tgt := 12) S.1 S.2.1 dX11_habits_7 (by decide) (fun b2 => ?_) (fun b2 => ?_)
  · have hF := (if_pos b2).symm.trans hF
    refine lv_aload_n S.1 S.2.1 dX11_habits_12 rfl (lv_at hl 1 rfl) ?_
    refine r_getC S hK hM cfX11 0 0 1 (by decide) ly_0 rfl (by decide) tw_1_193 dX11_habits_13 ?_
    refine r_getI S hK hM cfX1 1 8 (ct_lt0 ct_1) (ly_ct ct_1) rfl (by decide) tw_1_56 dX11_habits_16 ?_
    refine lv_if_ne (tgt := 25) S.1 S.2.1 dX11_habits_19 (by decide) (fun b3 => ?_) (fun b3 => ?_)
    · have hF := (if_neg b3).symm.trans hF
      refine lv_iconst (v := 0) S.1 S.2.1 dX11_habits_25 (by decide) ?_
      refine lv_istore_n (lv' := [(3, .int 0), (2, .int r1), (0, .ref (g.2.2 0)), (1, .int a1)]) S.1 S.2.1 dX11_habits_26 rfl hl (by decide) rfl (fun ls hl => ?_)
      refine lv_aload_n S.1 S.2.1 dX11_habits_27 rfl (lv_at hl 2 rfl) ?_
      refine r_getC S hK hM cfX11 0 1 10 (by decide) ly_0 rfl (by decide) tw_1_194 dX11_habits_28 ?_
      refine lv_aload_n S.1 S.2.1 dX11_habits_31 rfl (lv_at hl 2 rfl) ?_
      refine r_getC S hK hM cfX11 0 0 1 (by decide) ly_0 rfl (by decide) tw_1_193 dX11_habits_32 ?_
      obtain ⟨σ4, ρ5, er6, hF⟩ := bd2_some hF
      refine k_m (va_runV (As := [.ref (g.2.2 1)]) (rest := []) S (c_X1_become hPL ct_10 ct_1 er6) (cwV 1 S.2.2.2.2 (ul_V tw_2_18 tw_2_19 tw_2_20 tw_1_2 cw_X1_become) rfl rfl rfl hv_X1_become ⟨Nat.le_of_ble_eq_true rfl, Nat.le_of_ble_eq_true rfl⟩) ⟨PreM.blind, hM.recv hK cfX1 10 (ct_lt0 ct_10) (ly_ct ct_10), hM.pre hK⟩ rfl rfl hl.1 rfl (lv_room (Nat.le_of_ble_eq_true rfl)) dX11_habits_35 ⟨Nat.zero_le _, Nat.zero_le _⟩) hM (fun H locs hM => ?_)
      show W _ _ _ _ _ _ _ _ _ _ _ _ _ _ _ (F0 m 38 ls [])
      refine lv_iconst (v := 0) S.1 S.2.1 dX11_habits_38 (by decide) ?_
      refine lv_istore (lv' := [(4, .int 0), (3, .int 0), (2, .int r1), (0, .ref (g.2.2 0)), (1, .int a1)]) S.1 S.2.1 dX11_habits_39 hl (by decide) rfl (fun ls hl => ?_)
      exact wl_X11_habits_41 hPL S hK hr hlk 1000 hM (lv_sub hl [3, 4, 1, 0] rfl) hF
    · have hF := (if_pos b3).symm.trans hF
      refine lv_bipush (v := (-3)) S.1 S.2.1 dX11_habits_22 (by decide) ?_
      cases hF
      exact z_m (v := (-3)) S hM hr hlk rfl dX11_habits_24
  · have hF := (if_neg b2).symm.trans hF
    refine lv_iload_n S.1 S.2.1 dX11_habits_10 rfl (lv_at hl 0 rfl) ?_
    cases hF
    exact z_m (v := r1) S hM hr hlk rfl dX11_habits_11
/-! X11_endCell -/
def X11_endCell (a0 : Int32) : Option Int32 := if rem32 a0 2 = 0 then (some 0) else (some 8)
set_option maxRecDepth 20000 in
theorem c_X11_endCell {l : Launch} {g : GE} {A : Nat → Prop} {LP : List Nat} {kf : KF} {σ : IM} {ρ : RM} {a0 : Int32} {out : Int32} (hPL : PL LP kf) (hF : X11_endCell a0 = some out) : Met l yX11_endCell (.code yX11_endCell cX11_endCell 1 (some .int) :: UL) ({ frames := 0, cells := 0, slots := 0, locals := 0 }) (va_Pc [.int a0] (PreM lyC 48 g A (va_pl LP (skE kf)) σ ρ)) (Qp (some (.int out))) 0 0 NoA := by
  refine e_of (by decide) (Nat.le_of_ble_eq_true rfl) ?_
  intro p e s m below meth c ls S hr hlk hv hl
  have hM := Mem.of hv
  have hK := hv.2.1
  have hl : lv_has ls 1 [(0, .int a0)] := hl
  unfold X11_endCell at hF
  refine lv_iload_n S.1 S.2.1 dX11_endCell_0 rfl (lv_at hl 0 rfl) ?_
  refine lv_iconst (v := 2) S.1 S.2.1 dX11_endCell_1 (by decide) ?_
  refine r_irem S dX11_endCell_2 (by decide) ?_
  refine lv_if_ne (tgt := 10) S.1 S.2.1 dX11_endCell_3 (by decide) (fun b1 => ?_) (fun b1 => ?_)
  · have hF := (if_neg b1).symm.trans hF
    refine lv_bipush (v := 8) S.1 S.2.1 dX11_endCell_10 (by decide) ?_
    cases hF
    exact z_p S hr hlk rfl dX11_endCell_12
  · have hF := (if_pos b1).symm.trans hF
    refine lv_iconst (v := 0) S.1 S.2.1 dX11_endCell_6 (by decide) ?_
    refine lv_goto (tgt := 12) S.1 S.2.1 dX11_endCell_7 (by decide) ?_
    cases hF
    exact z_p S hr hlk rfl dX11_endCell_12
/-! X11_outlay -/
def X11_outlay_b70 (kf : KF) (x1 : Int32) (σ : IM) (ρ : RM) : Option (Int32 × IM × RM) := rd (σ (10 + 7)) 2 x1 fun v13 => rd (σ (1 + 7)) 2 x1 fun v14 => bd (v13 - v14) fun v15 => rd (σ (10 + 3)) 4 (2 * x1) fun v16 => rd (σ (10 + 3)) 4 ((2 * x1) + 1) fun v17 => some ((v16 + v17) - (9 * v15), σ, ρ)
set_option maxRecDepth 20000 in
theorem w_X11_outlay_70 {l : Launch} {g : GE} {A : Nat → Prop} {LP : List Nat} {kf : KF} (hPL : PL LP kf) {p : Program} {e : Env} {s : State} {m : MethodId} {args : Array Value} {below : List Frame} {meth : Method} {c : Code} (S : CallFix p m c cX11_outlay 6 s args UL RX11) (hK : KK g s) (hr : meth.sig.returnType = (some .int)) (hlk : meth.locks = false) {out : Int32 × IM × RM} : ∀ {x1 : Int32} {σ : IM} {ρ : RM} {H : Heap} {locs : List Loc} {ls : Array Slot}, Mem lyC 48 g A (va_pl LP (skE kf)) σ ρ s.heap H locs → lv_has ls 6 [(0, .ref (g.2.2 0)), (1, .int x1)] → X11_outlay_b70 kf x1 σ ρ = some out → W p l e ({ frames := 4, cells := 0, slots := 0, locals := 100 }) s m args below meth c H locs 0 0 (MQ below (Qm lyC 48 g A (va_pl LP (skE kf)) out.2.1 out.2.2 (some (.int out.1))) args s 0 0 A) (F0 m 70 ls []) := by
  intro x1 σ ρ H locs ls hM hl hF
  unfold X11_outlay_b70 at hF
  refine lv_aload_n S.1 S.2.1 dX11_outlay_70 rfl (lv_at hl 0 rfl) ?_
  refine r_getC S hK hM cfX11 0 1 10 (by decide) ly_0 rfl (by decide) tw_1_194 dX11_outlay_71 ?_
  refine r_getC S hK hM cfX1 10 6 (10 + 7) (ct_lt0 ct_10) (ly_ct ct_10) rfl (by decide) tw_1_52 dX11_outlay_74 ?_
  refine lv_iload_n S.1 S.2.1 dX11_outlay_77 rfl (lv_at hl 1 rfl) ?_
  obtain ⟨hv13, v13, ev13, hF⟩ := rd_some hF
  refine r_iald S hK hM (10 + 7) (ct_lt ct_10 7 (by decide)) (ly_c7 ct_10) hv13 ev13 dX11_outlay_78 ?_
  refine lv_aload_n S.1 S.2.1 dX11_outlay_79 rfl (lv_at hl 0 rfl) ?_
  refine r_getC S hK hM cfX11 0 0 1 (by decide) ly_0 rfl (by decide) tw_1_193 dX11_outlay_80 ?_
  refine r_getC S hK hM cfX1 1 6 (1 + 7) (ct_lt0 ct_1) (ly_ct ct_1) rfl (by decide) tw_1_52 dX11_outlay_83 ?_
  refine lv_iload_n S.1 S.2.1 dX11_outlay_86 rfl (lv_at hl 1 rfl) ?_
  obtain ⟨hv14, v14, ev14, hF⟩ := rd_some hF
  refine r_iald S hK hM (1 + 7) (ct_lt ct_1 7 (by decide)) (ly_c7 ct_1) hv14 ev14 dX11_outlay_87 ?_
  refine lv_isub S.1 S.2.1 dX11_outlay_88 ?_
  refine lv_topi (fun v15 ev15 => ?_)
  have hF := bd_at ev15 hF
  refine lv_istore (lv' := [(5, .int v15), (0, .ref (g.2.2 0)), (1, .int x1)]) S.1 S.2.1 dX11_outlay_89 hl (by decide) rfl (fun ls hl => ?_)
  refine lv_aload_n S.1 S.2.1 dX11_outlay_91 rfl (lv_at hl 1 rfl) ?_
  refine r_getC S hK hM cfX11 0 1 10 (by decide) ly_0 rfl (by decide) tw_1_194 dX11_outlay_92 ?_
  refine r_getC S hK hM cfX1 10 2 (10 + 3) (ct_lt0 ct_10) (ly_ct ct_10) rfl (by decide) tw_1_44 dX11_outlay_95 ?_
  refine lv_iconst (v := 2) S.1 S.2.1 dX11_outlay_98 (by decide) ?_
  refine lv_iload_n S.1 S.2.1 dX11_outlay_99 rfl (lv_at hl 2 rfl) ?_
  refine lv_imul S.1 S.2.1 dX11_outlay_100 ?_
  obtain ⟨hv16, v16, ev16, hF⟩ := rd_some hF
  refine r_iald S hK hM (10 + 3) (ct_lt ct_10 3 (by decide)) (ly_c3 ct_10) hv16 ev16 dX11_outlay_101 ?_
  refine lv_aload_n S.1 S.2.1 dX11_outlay_102 rfl (lv_at hl 1 rfl) ?_
  refine r_getC S hK hM cfX11 0 1 10 (by decide) ly_0 rfl (by decide) tw_1_194 dX11_outlay_103 ?_
  refine r_getC S hK hM cfX1 10 2 (10 + 3) (ct_lt0 ct_10) (ly_ct ct_10) rfl (by decide) tw_1_44 dX11_outlay_106 ?_
  refine lv_iconst (v := 2) S.1 S.2.1 dX11_outlay_109 (by decide) ?_
  refine lv_iload_n S.1 S.2.1 dX11_outlay_110 rfl (lv_at hl 2 rfl) ?_
  refine lv_imul S.1 S.2.1 dX11_outlay_111 ?_
  refine lv_iconst (v := 1) S.1 S.2.1 dX11_outlay_112 (by decide) ?_
  refine lv_iadd S.1 S.2.1 dX11_outlay_113 ?_
  obtain ⟨hv17, v17, ev17, hF⟩ := rd_some hF
  refine r_iald S hK hM (10 + 3) (ct_lt ct_10 3 (by decide)) (ly_c3 ct_10) hv17 ev17 dX11_outlay_114 ?_
  refine lv_iadd S.1 S.2.1 dX11_outlay_115 ?_
  refine lv_bipush (v := 9) S.1 S.2.1 dX11_outlay_116 (by decide) ?_
  refine lv_iload S.1 S.2.1 dX11_outlay_118 (lv_at hl 0 rfl) ?_
  refine lv_imul S.1 S.2.1 dX11_outlay_120 ?_
  refine lv_isub S.1 S.2.1 dX11_outlay_121 ?_
  cases hF
  exact z_m (v := (v16 + v17) - (9 * v15)) S hM hr hlk rfl dX11_outlay_122
def X11_outlay_s37 (kf : KF) (k37 : Int32 → Int32 → Int32 → IM → RM → Option (Int32 × IM × RM)) (x1 : Int32) (x4 : Int32) (x5 : Int32) (σ : IM) (ρ : RM) : Option (Int32 × IM × RM) := if 6 ≤ x5 then (X11_outlay_b70 kf x1 σ ρ) else (if x4 = 0 then (bd1 (X11_endCell x5) fun r8 => bd3 (X1_strike kf σ ρ 10 0 r8) fun r11 σ9 ρ10 => bd (x5 + 1) fun v12 => k37 x1 r11 v12 σ9 ρ10) else (X11_outlay_b70 kf x1 σ ρ))
def X11_outlay_b37 (kf : KF) : Nat → Int32 → Int32 → Int32 → IM → RM → Option (Int32 × IM × RM)
  | 0 => fun _ _ _ _ _ => none
  | n + 1 => X11_outlay_s37 kf (X11_outlay_b37 kf n)
set_option maxRecDepth 20000 in
theorem w_X11_outlay_37 {l : Launch} {g : GE} {A : Nat → Prop} {LP : List Nat} {kf : KF} (hPL : PL LP kf) {p : Program} {e : Env} {s : State} {m : MethodId} {args : Array Value} {below : List Frame} {meth : Method} {c : Code} (S : CallFix p m c cX11_outlay 6 s args UL RX11) (hK : KK g s) (hr : meth.sig.returnType = (some .int)) (hlk : meth.locks = false) {out : Int32 × IM × RM} {k37 : Int32 → Int32 → Int32 → IM → RM → Option (Int32 × IM × RM)} (hk37 : ∀ {x1 : Int32} {x4 : Int32} {x5 : Int32} {σ : IM} {ρ : RM} {H : Heap} {locs : List Loc} {ls : Array Slot}, Mem lyC 48 g A (va_pl LP (skE kf)) σ ρ s.heap H locs → lv_has ls 6 [(0, .ref (g.2.2 0)), (1, .int x1), (4, .int x4), (5, .int x5)] → k37 x1 x4 x5 σ ρ = some out → W p l e ({ frames := 4, cells := 0, slots := 0, locals := 100 }) s m args below meth c H locs 0 0 (MQ below (Qm lyC 48 g A (va_pl LP (skE kf)) out.2.1 out.2.2 (some (.int out.1))) args s 0 0 A) (F0 m 37 ls [])) : ∀ {x1 : Int32} {x4 : Int32} {x5 : Int32} {σ : IM} {ρ : RM} {H : Heap} {locs : List Loc} {ls : Array Slot}, Mem lyC 48 g A (va_pl LP (skE kf)) σ ρ s.heap H locs → lv_has ls 6 [(0, .ref (g.2.2 0)), (1, .int x1), (4, .int x4), (5, .int x5)] → X11_outlay_s37 kf k37 x1 x4 x5 σ ρ = some out → W p l e ({ frames := 4, cells := 0, slots := 0, locals := 100 }) s m args below meth c H locs 0 0 (MQ below (Qm lyC 48 g A (va_pl LP (skE kf)) out.2.1 out.2.2 (some (.int out.1))) args s 0 0 A) (F0 m 37 ls []) := by
  intro x1 x4 x5 σ ρ H locs ls hM hl hF
  unfold X11_outlay_s37 at hF
  refine lv_iload S.1 S.2.1 dX11_outlay_37 (lv_at hl 3 rfl) ?_
  refine lv_bipush (v := 6) S.1 S.2.1 dX11_outlay_39 (by decide) ?_
  refine lv_icmp_ge (tgt := 70) S.1 S.2.1 dX11_outlay_41 (by decide) (fun b6 => ?_) (fun b6 => ?_)
  · have hF := (if_pos b6).symm.trans hF
    exact w_X11_outlay_70 hPL S hK hr hlk hM (lv_sub hl [0, 1] rfl) hF
  · have hF := (if_neg b6).symm.trans hF
    refine lv_iload S.1 S.2.1 dX11_outlay_44 (lv_at hl 2 rfl) ?_
    refine lv_if_ne (tgt := 70) S.1 S.2.1 dX11_outlay_46 (by decide) (fun b7 => ?_) (fun b7 => ?_)
    · have hF := (if_neg b7).symm.trans hF
      exact w_X11_outlay_70 hPL S hK hr hlk hM (lv_sub hl [0, 1] rfl) hF
    · have hF := (if_pos b7).symm.trans hF
      refine lv_aload_n S.1 S.2.1 dX11_outlay_49 rfl (lv_at hl 0 rfl) ?_
      refine r_getC S hK hM cfX11 0 1 10 (by decide) ly_0 rfl (by decide) tw_1_194 dX11_outlay_50 ?_
      refine lv_iconst (v := 0) S.1 S.2.1 dX11_outlay_53 (by decide) ?_
      refine lv_iload S.1 S.2.1 dX11_outlay_54 (lv_at hl 3 rfl) ?_
      obtain ⟨r8, er8, hF⟩ := bd1_some hF
      refine k_p (va_runS (As := [.int x5]) (rest := [.int 0, .ref (g.2.2 10)]) S (c_X11_endCell hPL  er8) (va_cwS 1 S.2.2.2.2 (ul_S tw_3_217 tw_3_218 tw_1_1 cw_X11_endCell) rfl rfl rfl hs_X11_endCell ⟨Nat.le_of_ble_eq_true rfl, Nat.le_of_ble_eq_true rfl⟩) ⟨PreM.blind, hM.pre hK⟩ rfl rfl hl.1 rfl (lv_room (Nat.le_of_ble_eq_true rfl)) dX11_outlay_56 ⟨Nat.zero_le _, Nat.zero_le _⟩) ?_
      obtain ⟨r11, σ9, ρ10, er11, hF⟩ := bd3_some hF
      refine k_m (va_runV (As := [.int 0, .int r8]) (rest := []) S (c_X1_strike hPL ct_10 er11) (cwV 2 S.2.2.2.2 (ul_V tw_3_49 tw_2_73 tw_2_74 tw_1_2 cw_X1_strike) rfl rfl rfl hv_X1_strike ⟨Nat.le_of_ble_eq_true rfl, Nat.le_of_ble_eq_true rfl⟩) ⟨PreM.blind, hM.recv hK cfX1 10 (ct_lt0 ct_10) (ly_ct ct_10), hM.pre hK⟩ rfl rfl hl.1 rfl (lv_room (Nat.le_of_ble_eq_true rfl)) dX11_outlay_59 ⟨Nat.zero_le _, Nat.zero_le _⟩) hM (fun H locs hM => ?_)
      show W _ _ _ _ _ _ _ _ _ _ _ _ _ _ _ (F0 m 62 ls [.int r11])
      refine lv_istore (lv' := [(4, .int r11), (0, .ref (g.2.2 0)), (1, .int x1), (5, .int x5)]) S.1 S.2.1 dX11_outlay_62 hl (by decide) rfl (fun ls hl => ?_)
      obtain ⟨v12, ev12, hF⟩ := bd_some hF
      refine lv_iinc (v := v12) (lv' := [(5, .int v12), (4, .int r11), (0, .ref (g.2.2 0)), (1, .int x1)]) S.1 S.2.1 dX11_outlay_64 hl (k := 3) rfl (by rw [ev12]; rfl) (by decide) rfl (fun ls hl => ?_)
      refine lv_goto (tgt := 37) S.1 S.2.1 dX11_outlay_67 (by decide) ?_
      exact hk37 hM (lv_sub hl [2, 3, 1, 0] rfl)  hF
theorem wl_X11_outlay_37 {l : Launch} {g : GE} {A : Nat → Prop} {LP : List Nat} {kf : KF} (hPL : PL LP kf) {p : Program} {e : Env} {s : State} {m : MethodId} {args : Array Value} {below : List Frame} {meth : Method} {c : Code} (S : CallFix p m c cX11_outlay 6 s args UL RX11) (hK : KK g s) (hr : meth.sig.returnType = (some .int)) (hlk : meth.locks = false) {out : Int32 × IM × RM} : ∀ (n : Nat) {x1 : Int32} {x4 : Int32} {x5 : Int32} {σ : IM} {ρ : RM} {H : Heap} {locs : List Loc} {ls : Array Slot}, Mem lyC 48 g A (va_pl LP (skE kf)) σ ρ s.heap H locs → lv_has ls 6 [(0, .ref (g.2.2 0)), (1, .int x1), (4, .int x4), (5, .int x5)] → X11_outlay_b37 kf n x1 x4 x5 σ ρ = some out → W p l e ({ frames := 4, cells := 0, slots := 0, locals := 100 }) s m args below meth c H locs 0 0 (MQ below (Qm lyC 48 g A (va_pl LP (skE kf)) out.2.1 out.2.2 (some (.int out.1))) args s 0 0 A) (F0 m 37 ls []) := by
  intro n
  induction n with
  | zero =>
    intro x1 x4 x5 σ ρ H locs ls hM hl hF
    cases hF
  | succ n ih =>
    intro x1 x4 x5 σ ρ H locs ls hM hl hF
    exact w_X11_outlay_37 hPL S hK hr hlk ih hM hl hF
def X11_outlay (kf : KF) (σ : IM) (ρ : RM) (a1 : Int32) (a2 : Int32) (a3 : Int32) : Option (Int32 × IM × RM) := bd2 (X1_become kf σ ρ 10 1) fun σ1 ρ2 => wr σ1 (10 + 5) 2 0 a2 fun σ4 => wr σ4 (10 + 5) 2 1 a3 fun σ5 => X11_outlay_b37 kf 1000 a1 0 0 σ5 ρ2
set_option maxRecDepth 20000 in
theorem c_X11_outlay {l : Launch} {g : GE} {A : Nat → Prop} {LP : List Nat} {kf : KF} {σ : IM} {ρ : RM} {a1 : Int32} {a2 : Int32} {a3 : Int32} {out : Int32 × IM × RM} (hPL : PL LP kf) (hF : X11_outlay kf σ ρ a1 a2 a3 = some out) : Met l yX11_outlay (.code yX11_outlay cX11_outlay 6 (some .int) :: UL) ({ frames := 4, cells := 0, slots := 0, locals := 100 }) (va_Pc [.ref (g.2.2 0), .int a1, .int a2, .int a3] (PreM lyC 48 g A (va_pl LP (skE kf)) σ ρ)) (Qm lyC 48 g A (va_pl LP (skE kf)) out.2.1 out.2.2 (some (.int out.1))) 0 0 A := by
  refine e_of (by decide) (Nat.le_of_ble_eq_true rfl) ?_
  intro p e s m below meth c ls S hr hlk hv hl
  have hM := Mem.of hv
  have hK := hv.2.1
  have hl : lv_has ls 6 [(0, .ref (g.2.2 0)), (1, .int a1), (2, .int a2), (3, .int a3)] := hl
  unfold X11_outlay at hF
  refine lv_aload_n S.1 S.2.1 dX11_outlay_0 rfl (lv_at hl 0 rfl) ?_
  refine r_getC S hK hM cfX11 0 1 10 (by decide) ly_0 rfl (by decide) tw_1_194 dX11_outlay_1 ?_
  refine lv_aload_n S.1 S.2.1 dX11_outlay_4 rfl (lv_at hl 0 rfl) ?_
  refine r_getC S hK hM cfX11 0 0 1 (by decide) ly_0 rfl (by decide) tw_1_193 dX11_outlay_5 ?_
  obtain ⟨σ1, ρ2, er3, hF⟩ := bd2_some hF
  refine k_m (va_runV (As := [.ref (g.2.2 1)]) (rest := []) S (c_X1_become hPL ct_10 ct_1 er3) (cwV 1 S.2.2.2.2 (ul_V tw_2_18 tw_2_19 tw_2_20 tw_1_2 cw_X1_become) rfl rfl rfl hv_X1_become ⟨Nat.le_of_ble_eq_true rfl, Nat.le_of_ble_eq_true rfl⟩) ⟨PreM.blind, hM.recv hK cfX1 10 (ct_lt0 ct_10) (ly_ct ct_10), hM.pre hK⟩ rfl rfl hl.1 rfl (lv_room (Nat.le_of_ble_eq_true rfl)) dX11_outlay_8 ⟨Nat.zero_le _, Nat.zero_le _⟩) hM (fun H locs hM => ?_)
  show W _ _ _ _ _ _ _ _ _ _ _ _ _ _ _ (F0 m 11 ls [])
  refine lv_aload_n S.1 S.2.1 dX11_outlay_11 rfl (lv_at hl 0 rfl) ?_
  refine r_getC S hK hM cfX11 0 1 10 (by decide) ly_0 rfl (by decide) tw_1_194 dX11_outlay_12 ?_
  refine r_getC S hK hM cfX1 10 4 (10 + 5) (ct_lt0 ct_10) (ly_ct ct_10) rfl (by decide) tw_1_48 dX11_outlay_15 ?_
  refine lv_iconst (v := 0) S.1 S.2.1 dX11_outlay_18 (by decide) ?_
  refine lv_iload_n S.1 S.2.1 dX11_outlay_19 rfl (lv_at hl 2 rfl) ?_
  obtain ⟨hσ4, σ4, eσ4, hF⟩ := wr_some hF
  refine r_iast S hK hM (10 + 5) (ct_lt ct_10 5 (by decide)) (ly_c5 ct_10) hσ4 eσ4 dX11_outlay_20 (fun H locs hM => ?_)
  refine lv_aload_n S.1 S.2.1 dX11_outlay_21 rfl (lv_at hl 0 rfl) ?_
  refine r_getC S hK hM cfX11 0 1 10 (by decide) ly_0 rfl (by decide) tw_1_194 dX11_outlay_22 ?_
  refine r_getC S hK hM cfX1 10 4 (10 + 5) (ct_lt0 ct_10) (ly_ct ct_10) rfl (by decide) tw_1_48 dX11_outlay_25 ?_
  refine lv_iconst (v := 1) S.1 S.2.1 dX11_outlay_28 (by decide) ?_
  refine lv_iload_n S.1 S.2.1 dX11_outlay_29 rfl (lv_at hl 3 rfl) ?_
  obtain ⟨hσ5, σ5, eσ5, hF⟩ := wr_some hF
  refine r_iast S hK hM (10 + 5) (ct_lt ct_10 5 (by decide)) (ly_c5 ct_10) hσ5 eσ5 dX11_outlay_30 (fun H locs hM => ?_)
  refine lv_iconst (v := 0) S.1 S.2.1 dX11_outlay_31 (by decide) ?_
  refine lv_istore (lv' := [(4, .int 0), (0, .ref (g.2.2 0)), (1, .int a1), (2, .int a2), (3, .int a3)]) S.1 S.2.1 dX11_outlay_32 hl (by decide) rfl (fun ls hl => ?_)
  refine lv_iconst (v := 0) S.1 S.2.1 dX11_outlay_34 (by decide) ?_
  refine lv_istore (lv' := [(5, .int 0), (4, .int 0), (0, .ref (g.2.2 0)), (1, .int a1), (2, .int a2), (3, .int a3)]) S.1 S.2.1 dX11_outlay_35 hl (by decide) rfl (fun ls hl => ?_)
  exact wl_X11_outlay_37 hPL S hK hr hlk 1000 hM (lv_sub hl [2, 3, 1, 0] rfl) hF
/-! X11_two -/
def X11_two_b94 (kf : KF) (k15 : Int32 → IM → RM → Option (Int32 × IM × RM)) (k22 : Int32 → Int32 → IM → RM → Option (Int32 × IM × RM)) (x1 : Int32) (x2 : Int32) (σ : IM) (ρ : RM) : Option (Int32 × IM × RM) := bd (x2 + 1) fun v21 => k22 x1 v21 σ ρ
set_option maxRecDepth 20000 in
theorem w_X11_two_94 {l : Launch} {g : GE} {A : Nat → Prop} {LP : List Nat} {kf : KF} (hPL : PL LP kf) {p : Program} {e : Env} {s : State} {m : MethodId} {args : Array Value} {below : List Frame} {meth : Method} {c : Code} (S : CallFix p m c cX11_two 5 s args UL RX11) (hK : KK g s) (hr : meth.sig.returnType = (some .int)) (hlk : meth.locks = false) {out : Int32 × IM × RM} {k15 : Int32 → IM → RM → Option (Int32 × IM × RM)} (hk15 : ∀ {x1 : Int32} {σ : IM} {ρ : RM} {H : Heap} {locs : List Loc} {ls : Array Slot}, Mem lyC 48 g A (va_pl LP (skE kf)) σ ρ s.heap H locs → lv_has ls 5 [(0, .ref (g.2.2 0)), (1, .int x1)] → k15 x1 σ ρ = some out → W p l e ({ frames := 5, cells := 0, slots := 0, locals := 125 }) s m args below meth c H locs 0 0 (MQ below (Qm lyC 48 g A (va_pl LP (skE kf)) out.2.1 out.2.2 (some (.int out.1))) args s 0 0 A) (F0 m 15 ls [])) {k22 : Int32 → Int32 → IM → RM → Option (Int32 × IM × RM)} (hk22 : ∀ {x1 : Int32} {x2 : Int32} {σ : IM} {ρ : RM} {H : Heap} {locs : List Loc} {ls : Array Slot}, Mem lyC 48 g A (va_pl LP (skE kf)) σ ρ s.heap H locs → lv_has ls 5 [(0, .ref (g.2.2 0)), (1, .int x1), (2, .int x2)] → k22 x1 x2 σ ρ = some out → W p l e ({ frames := 5, cells := 0, slots := 0, locals := 125 }) s m args below meth c H locs 0 0 (MQ below (Qm lyC 48 g A (va_pl LP (skE kf)) out.2.1 out.2.2 (some (.int out.1))) args s 0 0 A) (F0 m 22 ls [])) : ∀ {x1 : Int32} {x2 : Int32} {σ : IM} {ρ : RM} {H : Heap} {locs : List Loc} {ls : Array Slot}, Mem lyC 48 g A (va_pl LP (skE kf)) σ ρ s.heap H locs → lv_has ls 5 [(0, .ref (g.2.2 0)), (1, .int x1), (2, .int x2)] → X11_two_b94 kf k15 k22 x1 x2 σ ρ = some out → W p l e ({ frames := 5, cells := 0, slots := 0, locals := 125 }) s m args below meth c H locs 0 0 (MQ below (Qm lyC 48 g A (va_pl LP (skE kf)) out.2.1 out.2.2 (some (.int out.1))) args s 0 0 A) (F0 m 94 ls []) := by
  intro x1 x2 σ ρ H locs ls hM hl hF
  unfold X11_two_b94 at hF
  obtain ⟨v21, ev21, hF⟩ := bd_some hF
  refine lv_iinc (v := v21) (lv' := [(2, .int v21), (0, .ref (g.2.2 0)), (1, .int x1)]) S.1 S.2.1 dX11_two_94 hl (k := 2) rfl (by rw [ev21]; rfl) (by decide) rfl (fun ls hl => ?_)
  refine lv_goto (tgt := 22) S.1 S.2.1 dX11_two_97 (by decide) ?_
  exact hk22 hM (lv_sub hl [1, 2, 0] rfl)  hF
def X11_two_b76 (kf : KF) (k15 : Int32 → IM → RM → Option (Int32 × IM × RM)) (k22 : Int32 → Int32 → IM → RM → Option (Int32 × IM × RM)) (x1 : Int32) (x2 : Int32) (x3 : Int32) (t0 : Int32) (σ : IM) (ρ : RM) : Option (Int32 × IM × RM) := if x3 = 0 then (X11_two_b94 kf k15 k22 x1 x2 σ ρ) else (if t0 = 0 then (X11_two_b94 kf k15 k22 x1 x2 σ ρ) else (some ((10 * x1) + x2, σ, ρ)))
set_option maxRecDepth 20000 in
theorem w_X11_two_76 {l : Launch} {g : GE} {A : Nat → Prop} {LP : List Nat} {kf : KF} (hPL : PL LP kf) {p : Program} {e : Env} {s : State} {m : MethodId} {args : Array Value} {below : List Frame} {meth : Method} {c : Code} (S : CallFix p m c cX11_two 5 s args UL RX11) (hK : KK g s) (hr : meth.sig.returnType = (some .int)) (hlk : meth.locks = false) {out : Int32 × IM × RM} {k15 : Int32 → IM → RM → Option (Int32 × IM × RM)} (hk15 : ∀ {x1 : Int32} {σ : IM} {ρ : RM} {H : Heap} {locs : List Loc} {ls : Array Slot}, Mem lyC 48 g A (va_pl LP (skE kf)) σ ρ s.heap H locs → lv_has ls 5 [(0, .ref (g.2.2 0)), (1, .int x1)] → k15 x1 σ ρ = some out → W p l e ({ frames := 5, cells := 0, slots := 0, locals := 125 }) s m args below meth c H locs 0 0 (MQ below (Qm lyC 48 g A (va_pl LP (skE kf)) out.2.1 out.2.2 (some (.int out.1))) args s 0 0 A) (F0 m 15 ls [])) {k22 : Int32 → Int32 → IM → RM → Option (Int32 × IM × RM)} (hk22 : ∀ {x1 : Int32} {x2 : Int32} {σ : IM} {ρ : RM} {H : Heap} {locs : List Loc} {ls : Array Slot}, Mem lyC 48 g A (va_pl LP (skE kf)) σ ρ s.heap H locs → lv_has ls 5 [(0, .ref (g.2.2 0)), (1, .int x1), (2, .int x2)] → k22 x1 x2 σ ρ = some out → W p l e ({ frames := 5, cells := 0, slots := 0, locals := 125 }) s m args below meth c H locs 0 0 (MQ below (Qm lyC 48 g A (va_pl LP (skE kf)) out.2.1 out.2.2 (some (.int out.1))) args s 0 0 A) (F0 m 22 ls [])) : ∀ {x1 : Int32} {x2 : Int32} {x3 : Int32} {t0 : Int32} {σ : IM} {ρ : RM} {H : Heap} {locs : List Loc} {ls : Array Slot}, Mem lyC 48 g A (va_pl LP (skE kf)) σ ρ s.heap H locs → lv_has ls 5 [(0, .ref (g.2.2 0)), (1, .int x1), (2, .int x2), (3, .int x3)] → X11_two_b76 kf k15 k22 x1 x2 x3 t0 σ ρ = some out → W p l e ({ frames := 5, cells := 0, slots := 0, locals := 125 }) s m args below meth c H locs 0 0 (MQ below (Qm lyC 48 g A (va_pl LP (skE kf)) out.2.1 out.2.2 (some (.int out.1))) args s 0 0 A) (F0 m 76 ls [.int t0]) := by
  intro x1 x2 x3 t0 σ ρ H locs ls hM hl hF
  unfold X11_two_b76 at hF
  refine lv_istore (lv' := [(4, .int t0), (0, .ref (g.2.2 0)), (1, .int x1), (2, .int x2), (3, .int x3)]) S.1 S.2.1 dX11_two_76 hl (by decide) rfl (fun ls hl => ?_)
  refine lv_iload_n S.1 S.2.1 dX11_two_78 rfl (lv_at hl 4 rfl) ?_
  refine lv_if_eq (tgt := 94) S.1 S.2.1 dX11_two_79 (by decide) (fun b19 => ?_) (fun b19 => ?_)
  · have hF := (if_pos b19).symm.trans hF
    exact w_X11_two_94 hPL S hK hr hlk hk15 hk22 hM (lv_sub hl [1, 2, 3] rfl) hF
  · have hF := (if_neg b19).symm.trans hF
    refine lv_iload S.1 S.2.1 dX11_two_82 (lv_at hl 0 rfl) ?_
    refine lv_if_eq (tgt := 94) S.1 S.2.1 dX11_two_84 (by decide) (fun b20 => ?_) (fun b20 => ?_)
    · have hF := (if_pos b20).symm.trans hF
      exact w_X11_two_94 hPL S hK hr hlk hk15 hk22 hM (lv_sub hl [1, 2, 3] rfl) hF
    · have hF := (if_neg b20).symm.trans hF
      refine lv_bipush (v := 10) S.1 S.2.1 dX11_two_87 (by decide) ?_
      refine lv_iload_n S.1 S.2.1 dX11_two_89 rfl (lv_at hl 2 rfl) ?_
      refine lv_imul S.1 S.2.1 dX11_two_90 ?_
      refine lv_iload_n S.1 S.2.1 dX11_two_91 rfl (lv_at hl 3 rfl) ?_
      refine lv_iadd S.1 S.2.1 dX11_two_92 ?_
      cases hF
      exact z_m (v := (10 * x1) + x2) S hM hr hlk rfl dX11_two_93
def X11_two_b51 (kf : KF) (k15 : Int32 → IM → RM → Option (Int32 × IM × RM)) (k22 : Int32 → Int32 → IM → RM → Option (Int32 × IM × RM)) (x1 : Int32) (x2 : Int32) (t0 : Int32) (σ : IM) (ρ : RM) : Option (Int32 × IM × RM) := bd3 (X11_outlay kf σ ρ 1 x1 x2) fun r14 σ12 ρ13 => bd3 (X11_outlay kf σ12 ρ13 1 x1 (1 - x2)) fun r17 σ15 ρ16 => if r17 < r14 then (X11_two_b76 kf k15 k22 x1 x2 t0 0 σ15 ρ16) else (X11_two_b76 kf k15 k22 x1 x2 t0 1 σ15 ρ16)
set_option maxRecDepth 20000 in
theorem w_X11_two_51 {l : Launch} {g : GE} {A : Nat → Prop} {LP : List Nat} {kf : KF} (hPL : PL LP kf) {p : Program} {e : Env} {s : State} {m : MethodId} {args : Array Value} {below : List Frame} {meth : Method} {c : Code} (S : CallFix p m c cX11_two 5 s args UL RX11) (hK : KK g s) (hr : meth.sig.returnType = (some .int)) (hlk : meth.locks = false) {out : Int32 × IM × RM} {k15 : Int32 → IM → RM → Option (Int32 × IM × RM)} (hk15 : ∀ {x1 : Int32} {σ : IM} {ρ : RM} {H : Heap} {locs : List Loc} {ls : Array Slot}, Mem lyC 48 g A (va_pl LP (skE kf)) σ ρ s.heap H locs → lv_has ls 5 [(0, .ref (g.2.2 0)), (1, .int x1)] → k15 x1 σ ρ = some out → W p l e ({ frames := 5, cells := 0, slots := 0, locals := 125 }) s m args below meth c H locs 0 0 (MQ below (Qm lyC 48 g A (va_pl LP (skE kf)) out.2.1 out.2.2 (some (.int out.1))) args s 0 0 A) (F0 m 15 ls [])) {k22 : Int32 → Int32 → IM → RM → Option (Int32 × IM × RM)} (hk22 : ∀ {x1 : Int32} {x2 : Int32} {σ : IM} {ρ : RM} {H : Heap} {locs : List Loc} {ls : Array Slot}, Mem lyC 48 g A (va_pl LP (skE kf)) σ ρ s.heap H locs → lv_has ls 5 [(0, .ref (g.2.2 0)), (1, .int x1), (2, .int x2)] → k22 x1 x2 σ ρ = some out → W p l e ({ frames := 5, cells := 0, slots := 0, locals := 125 }) s m args below meth c H locs 0 0 (MQ below (Qm lyC 48 g A (va_pl LP (skE kf)) out.2.1 out.2.2 (some (.int out.1))) args s 0 0 A) (F0 m 22 ls [])) : ∀ {x1 : Int32} {x2 : Int32} {t0 : Int32} {σ : IM} {ρ : RM} {H : Heap} {locs : List Loc} {ls : Array Slot}, Mem lyC 48 g A (va_pl LP (skE kf)) σ ρ s.heap H locs → lv_has ls 5 [(0, .ref (g.2.2 0)), (1, .int x1), (2, .int x2)] → X11_two_b51 kf k15 k22 x1 x2 t0 σ ρ = some out → W p l e ({ frames := 5, cells := 0, slots := 0, locals := 125 }) s m args below meth c H locs 0 0 (MQ below (Qm lyC 48 g A (va_pl LP (skE kf)) out.2.1 out.2.2 (some (.int out.1))) args s 0 0 A) (F0 m 51 ls [.int t0]) := by
  intro x1 x2 t0 σ ρ H locs ls hM hl hF
  unfold X11_two_b51 at hF
  refine lv_istore_n (lv' := [(3, .int t0), (0, .ref (g.2.2 0)), (1, .int x1), (2, .int x2)]) S.1 S.2.1 dX11_two_51 rfl hl (by decide) rfl (fun ls hl => ?_)
  refine lv_aload_n S.1 S.2.1 dX11_two_52 rfl (lv_at hl 1 rfl) ?_
  refine lv_iconst (v := 1) S.1 S.2.1 dX11_two_53 (by decide) ?_
  refine lv_iload_n S.1 S.2.1 dX11_two_54 rfl (lv_at hl 2 rfl) ?_
  refine lv_iload_n S.1 S.2.1 dX11_two_55 rfl (lv_at hl 3 rfl) ?_
  obtain ⟨r14, σ12, ρ13, er14, hF⟩ := bd3_some hF
  refine k_m (va_runV (As := [.int 1, .int x1, .int x2]) (rest := []) S (c_X11_outlay hPL  er14) (cwV 3 S.2.2.2.2 (ul_V tw_3_213 tw_3_215 ts_X11_outlay tw_1_1 cw_X11_outlay) rfl rfl rfl hv_X11_outlay ⟨Nat.le_of_ble_eq_true rfl, Nat.le_of_ble_eq_true rfl⟩) ⟨PreM.blind, hM.recv hK cfX11 0 (by decide) ly_0, hM.pre hK⟩ rfl rfl hl.1 rfl (lv_room (Nat.le_of_ble_eq_true rfl)) dX11_two_56 ⟨Nat.zero_le _, Nat.zero_le _⟩) hM (fun H locs hM => ?_)
  show W _ _ _ _ _ _ _ _ _ _ _ _ _ _ _ (F0 m 59 ls [.int r14])
  refine lv_aload_n S.1 S.2.1 dX11_two_59 rfl (lv_at hl 1 rfl) ?_
  refine lv_iconst (v := 1) S.1 S.2.1 dX11_two_60 (by decide) ?_
  refine lv_iload_n S.1 S.2.1 dX11_two_61 rfl (lv_at hl 2 rfl) ?_
  refine lv_iconst (v := 1) S.1 S.2.1 dX11_two_62 (by decide) ?_
  refine lv_iload_n S.1 S.2.1 dX11_two_63 rfl (lv_at hl 3 rfl) ?_
  refine lv_isub S.1 S.2.1 dX11_two_64 ?_
  obtain ⟨r17, σ15, ρ16, er17, hF⟩ := bd3_some hF
  refine k_m (va_runV (As := [.int 1, .int x1, .int (1 - x2)]) (rest := [.int r14]) S (c_X11_outlay hPL  er17) (cwV 3 S.2.2.2.2 (ul_V tw_3_213 tw_3_215 ts_X11_outlay tw_1_1 cw_X11_outlay) rfl rfl rfl hv_X11_outlay ⟨Nat.le_of_ble_eq_true rfl, Nat.le_of_ble_eq_true rfl⟩) ⟨PreM.blind, hM.recv hK cfX11 0 (by decide) ly_0, hM.pre hK⟩ rfl rfl hl.1 rfl (lv_room (Nat.le_of_ble_eq_true rfl)) dX11_two_65 ⟨Nat.zero_le _, Nat.zero_le _⟩) hM (fun H locs hM => ?_)
  show W _ _ _ _ _ _ _ _ _ _ _ _ _ _ _ (F0 m 68 ls [.int r17, .int r14])
  refine lv_icmp_gt (tgt := 75) S.1 S.2.1 dX11_two_68 (by decide) (fun b18 => ?_) (fun b18 => ?_)
  · have hF := (if_pos b18).symm.trans hF
    refine lv_iconst (v := 0) S.1 S.2.1 dX11_two_75 (by decide) ?_
    exact w_X11_two_76 hPL S hK hr hlk hk15 hk22 hM (lv_sub hl [1, 2, 3, 0] rfl) hF
  · have hF := (if_neg b18).symm.trans hF
    refine lv_iconst (v := 1) S.1 S.2.1 dX11_two_71 (by decide) ?_
    refine lv_goto (tgt := 76) S.1 S.2.1 dX11_two_72 (by decide) ?_
    exact w_X11_two_76 hPL S hK hr hlk hk15 hk22 hM (lv_sub hl [1, 2, 3, 0] rfl) hF
def X11_two_s22 (kf : KF) (k15 : Int32 → IM → RM → Option (Int32 × IM × RM)) (k22 : Int32 → Int32 → IM → RM → Option (Int32 × IM × RM)) (x1 : Int32) (x2 : Int32) (σ : IM) (ρ : RM) : Option (Int32 × IM × RM) := if 2 ≤ x2 then (bd (x1 + 1) fun v4 => k15 v4 σ ρ) else (bd3 (X11_outlay kf σ ρ 0 x1 x2) fun r7 σ5 ρ6 => bd3 (X11_outlay kf σ5 ρ6 0 (1 - x1) x2) fun r10 σ8 ρ9 => if r10 < r7 then (X11_two_b51 kf k15 k22 x1 x2 0 σ8 ρ9) else (X11_two_b51 kf k15 k22 x1 x2 1 σ8 ρ9))
def X11_two_b22 (kf : KF) (k15 : Int32 → IM → RM → Option (Int32 × IM × RM)) : Nat → Int32 → Int32 → IM → RM → Option (Int32 × IM × RM)
  | 0 => fun _ _ _ _ => none
  | n + 1 => X11_two_s22 kf k15 (X11_two_b22 kf k15 n)
set_option maxRecDepth 20000 in
theorem w_X11_two_22 {l : Launch} {g : GE} {A : Nat → Prop} {LP : List Nat} {kf : KF} (hPL : PL LP kf) {p : Program} {e : Env} {s : State} {m : MethodId} {args : Array Value} {below : List Frame} {meth : Method} {c : Code} (S : CallFix p m c cX11_two 5 s args UL RX11) (hK : KK g s) (hr : meth.sig.returnType = (some .int)) (hlk : meth.locks = false) {out : Int32 × IM × RM} {k15 : Int32 → IM → RM → Option (Int32 × IM × RM)} (hk15 : ∀ {x1 : Int32} {σ : IM} {ρ : RM} {H : Heap} {locs : List Loc} {ls : Array Slot}, Mem lyC 48 g A (va_pl LP (skE kf)) σ ρ s.heap H locs → lv_has ls 5 [(0, .ref (g.2.2 0)), (1, .int x1)] → k15 x1 σ ρ = some out → W p l e ({ frames := 5, cells := 0, slots := 0, locals := 125 }) s m args below meth c H locs 0 0 (MQ below (Qm lyC 48 g A (va_pl LP (skE kf)) out.2.1 out.2.2 (some (.int out.1))) args s 0 0 A) (F0 m 15 ls [])) {k22 : Int32 → Int32 → IM → RM → Option (Int32 × IM × RM)} (hk22 : ∀ {x1 : Int32} {x2 : Int32} {σ : IM} {ρ : RM} {H : Heap} {locs : List Loc} {ls : Array Slot}, Mem lyC 48 g A (va_pl LP (skE kf)) σ ρ s.heap H locs → lv_has ls 5 [(0, .ref (g.2.2 0)), (1, .int x1), (2, .int x2)] → k22 x1 x2 σ ρ = some out → W p l e ({ frames := 5, cells := 0, slots := 0, locals := 125 }) s m args below meth c H locs 0 0 (MQ below (Qm lyC 48 g A (va_pl LP (skE kf)) out.2.1 out.2.2 (some (.int out.1))) args s 0 0 A) (F0 m 22 ls [])) : ∀ {x1 : Int32} {x2 : Int32} {σ : IM} {ρ : RM} {H : Heap} {locs : List Loc} {ls : Array Slot}, Mem lyC 48 g A (va_pl LP (skE kf)) σ ρ s.heap H locs → lv_has ls 5 [(0, .ref (g.2.2 0)), (1, .int x1), (2, .int x2)] → X11_two_s22 kf k15 k22 x1 x2 σ ρ = some out → W p l e ({ frames := 5, cells := 0, slots := 0, locals := 125 }) s m args below meth c H locs 0 0 (MQ below (Qm lyC 48 g A (va_pl LP (skE kf)) out.2.1 out.2.2 (some (.int out.1))) args s 0 0 A) (F0 m 22 ls []) := by
  intro x1 x2 σ ρ H locs ls hM hl hF
  unfold X11_two_s22 at hF
  refine lv_iload_n S.1 S.2.1 dX11_two_22 rfl (lv_at hl 2 rfl) ?_
  refine lv_iconst (v := 2) S.1 S.2.1 dX11_two_23 (by decide) ?_
  refine lv_icmp_ge (tgt := 100) S.1 S.2.1 dX11_two_24 (by decide) (fun b3 => ?_) (fun b3 => ?_)
  · have hF := (if_pos b3).symm.trans hF
    obtain ⟨v4, ev4, hF⟩ := bd_some hF
    refine lv_iinc (v := v4) (lv' := [(1, .int v4), (0, .ref (g.2.2 0)), (2, .int x2)]) S.1 S.2.1 dX11_two_100 hl (k := 1) rfl (by rw [ev4]; rfl) (by decide) rfl (fun ls hl => ?_)
    refine lv_goto (tgt := 15) S.1 S.2.1 dX11_two_103 (by decide) ?_
    exact hk15 hM (lv_sub hl [1, 0] rfl)  hF
  · have hF := (if_neg b3).symm.trans hF
    refine lv_aload_n S.1 S.2.1 dX11_two_27 rfl (lv_at hl 0 rfl) ?_
    refine lv_iconst (v := 0) S.1 S.2.1 dX11_two_28 (by decide) ?_
    refine lv_iload_n S.1 S.2.1 dX11_two_29 rfl (lv_at hl 1 rfl) ?_
    refine lv_iload_n S.1 S.2.1 dX11_two_30 rfl (lv_at hl 2 rfl) ?_
    obtain ⟨r7, σ5, ρ6, er7, hF⟩ := bd3_some hF
    refine k_m (va_runV (As := [.int 0, .int x1, .int x2]) (rest := []) S (c_X11_outlay hPL  er7) (cwV 3 S.2.2.2.2 (ul_V tw_3_213 tw_3_215 ts_X11_outlay tw_1_1 cw_X11_outlay) rfl rfl rfl hv_X11_outlay ⟨Nat.le_of_ble_eq_true rfl, Nat.le_of_ble_eq_true rfl⟩) ⟨PreM.blind, hM.recv hK cfX11 0 (by decide) ly_0, hM.pre hK⟩ rfl rfl hl.1 rfl (lv_room (Nat.le_of_ble_eq_true rfl)) dX11_two_31 ⟨Nat.zero_le _, Nat.zero_le _⟩) hM (fun H locs hM => ?_)
    show W _ _ _ _ _ _ _ _ _ _ _ _ _ _ _ (F0 m 34 ls [.int r7])
    refine lv_aload_n S.1 S.2.1 dX11_two_34 rfl (lv_at hl 0 rfl) ?_
    refine lv_iconst (v := 0) S.1 S.2.1 dX11_two_35 (by decide) ?_
    refine lv_iconst (v := 1) S.1 S.2.1 dX11_two_36 (by decide) ?_
    refine lv_iload_n S.1 S.2.1 dX11_two_37 rfl (lv_at hl 1 rfl) ?_
    refine lv_isub S.1 S.2.1 dX11_two_38 ?_
    refine lv_iload_n S.1 S.2.1 dX11_two_39 rfl (lv_at hl 2 rfl) ?_
    obtain ⟨r10, σ8, ρ9, er10, hF⟩ := bd3_some hF
    refine k_m (va_runV (As := [.int 0, .int (1 - x1), .int x2]) (rest := [.int r7]) S (c_X11_outlay hPL  er10) (cwV 3 S.2.2.2.2 (ul_V tw_3_213 tw_3_215 ts_X11_outlay tw_1_1 cw_X11_outlay) rfl rfl rfl hv_X11_outlay ⟨Nat.le_of_ble_eq_true rfl, Nat.le_of_ble_eq_true rfl⟩) ⟨PreM.blind, hM.recv hK cfX11 0 (by decide) ly_0, hM.pre hK⟩ rfl rfl hl.1 rfl (lv_room (Nat.le_of_ble_eq_true rfl)) dX11_two_40 ⟨Nat.zero_le _, Nat.zero_le _⟩) hM (fun H locs hM => ?_)
    show W _ _ _ _ _ _ _ _ _ _ _ _ _ _ _ (F0 m 43 ls [.int r10, .int r7])
    refine lv_icmp_gt (tgt := 50) S.1 S.2.1 dX11_two_43 (by decide) (fun b11 => ?_) (fun b11 => ?_)
    · have hF := (if_pos b11).symm.trans hF
      refine lv_iconst (v := 0) S.1 S.2.1 dX11_two_50 (by decide) ?_
      exact w_X11_two_51 hPL S hK hr hlk hk15 hk22 hM (lv_sub hl [0, 1, 2] rfl) hF
    · have hF := (if_neg b11).symm.trans hF
      refine lv_iconst (v := 1) S.1 S.2.1 dX11_two_46 (by decide) ?_
      refine lv_goto (tgt := 51) S.1 S.2.1 dX11_two_47 (by decide) ?_
      exact w_X11_two_51 hPL S hK hr hlk hk15 hk22 hM (lv_sub hl [0, 1, 2] rfl) hF
theorem wl_X11_two_22 {l : Launch} {g : GE} {A : Nat → Prop} {LP : List Nat} {kf : KF} (hPL : PL LP kf) {p : Program} {e : Env} {s : State} {m : MethodId} {args : Array Value} {below : List Frame} {meth : Method} {c : Code} (S : CallFix p m c cX11_two 5 s args UL RX11) (hK : KK g s) (hr : meth.sig.returnType = (some .int)) (hlk : meth.locks = false) {out : Int32 × IM × RM} {k15 : Int32 → IM → RM → Option (Int32 × IM × RM)} (hk15 : ∀ {x1 : Int32} {σ : IM} {ρ : RM} {H : Heap} {locs : List Loc} {ls : Array Slot}, Mem lyC 48 g A (va_pl LP (skE kf)) σ ρ s.heap H locs → lv_has ls 5 [(0, .ref (g.2.2 0)), (1, .int x1)] → k15 x1 σ ρ = some out → W p l e ({ frames := 5, cells := 0, slots := 0, locals := 125 }) s m args below meth c H locs 0 0 (MQ below (Qm lyC 48 g A (va_pl LP (skE kf)) out.2.1 out.2.2 (some (.int out.1))) args s 0 0 A) (F0 m 15 ls [])) : ∀ (n : Nat) {x1 : Int32} {x2 : Int32} {σ : IM} {ρ : RM} {H : Heap} {locs : List Loc} {ls : Array Slot}, Mem lyC 48 g A (va_pl LP (skE kf)) σ ρ s.heap H locs → lv_has ls 5 [(0, .ref (g.2.2 0)), (1, .int x1), (2, .int x2)] → X11_two_b22 kf k15 n x1 x2 σ ρ = some out → W p l e ({ frames := 5, cells := 0, slots := 0, locals := 125 }) s m args below meth c H locs 0 0 (MQ below (Qm lyC 48 g A (va_pl LP (skE kf)) out.2.1 out.2.2 (some (.int out.1))) args s 0 0 A) (F0 m 22 ls []) := by
  intro n
  induction n with
  | zero =>
    intro x1 x2 σ ρ H locs ls hM hl hF
    cases hF
  | succ n ih =>
    intro x1 x2 σ ρ H locs ls hM hl hF
    exact w_X11_two_22 hPL S hK hr hlk hk15 ih hM hl hF
def X11_two_s15 (kf : KF) (k15 : Int32 → IM → RM → Option (Int32 × IM × RM)) (x1 : Int32) (σ : IM) (ρ : RM) : Option (Int32 × IM × RM) := if 2 ≤ x1 then (some ((-4), σ, ρ)) else (X11_two_b22 kf k15 1000 x1 0 σ ρ)
def X11_two_b15 (kf : KF) : Nat → Int32 → IM → RM → Option (Int32 × IM × RM)
  | 0 => fun _ _ _ => none
  | n + 1 => X11_two_s15 kf (X11_two_b15 kf n)
set_option maxRecDepth 20000 in
theorem w_X11_two_15 {l : Launch} {g : GE} {A : Nat → Prop} {LP : List Nat} {kf : KF} (hPL : PL LP kf) {p : Program} {e : Env} {s : State} {m : MethodId} {args : Array Value} {below : List Frame} {meth : Method} {c : Code} (S : CallFix p m c cX11_two 5 s args UL RX11) (hK : KK g s) (hr : meth.sig.returnType = (some .int)) (hlk : meth.locks = false) {out : Int32 × IM × RM} {k15 : Int32 → IM → RM → Option (Int32 × IM × RM)} (hk15 : ∀ {x1 : Int32} {σ : IM} {ρ : RM} {H : Heap} {locs : List Loc} {ls : Array Slot}, Mem lyC 48 g A (va_pl LP (skE kf)) σ ρ s.heap H locs → lv_has ls 5 [(0, .ref (g.2.2 0)), (1, .int x1)] → k15 x1 σ ρ = some out → W p l e ({ frames := 5, cells := 0, slots := 0, locals := 125 }) s m args below meth c H locs 0 0 (MQ below (Qm lyC 48 g A (va_pl LP (skE kf)) out.2.1 out.2.2 (some (.int out.1))) args s 0 0 A) (F0 m 15 ls [])) : ∀ {x1 : Int32} {σ : IM} {ρ : RM} {H : Heap} {locs : List Loc} {ls : Array Slot}, Mem lyC 48 g A (va_pl LP (skE kf)) σ ρ s.heap H locs → lv_has ls 5 [(0, .ref (g.2.2 0)), (1, .int x1)] → X11_two_s15 kf k15 x1 σ ρ = some out → W p l e ({ frames := 5, cells := 0, slots := 0, locals := 125 }) s m args below meth c H locs 0 0 (MQ below (Qm lyC 48 g A (va_pl LP (skE kf)) out.2.1 out.2.2 (some (.int out.1))) args s 0 0 A) (F0 m 15 ls []) := by
  intro x1 σ ρ H locs ls hM hl hF
  unfold X11_two_s15 at hF
  refine lv_iload_n S.1 S.2.1 dX11_two_15 rfl (lv_at hl 1 rfl) ?_
  refine lv_iconst (v := 2) S.1 S.2.1 dX11_two_16 (by decide) ?_
  refine lv_icmp_ge (tgt := 106) S.1 S.2.1 dX11_two_17 (by decide) (fun b2 => ?_) (fun b2 => ?_)
  · have hF := (if_pos b2).symm.trans hF
    refine lv_bipush (v := (-4)) S.1 S.2.1 dX11_two_106 (by decide) ?_
    cases hF
    exact z_m (v := (-4)) S hM hr hlk rfl dX11_two_108
  · have hF := (if_neg b2).symm.trans hF
    refine lv_iconst (v := 0) S.1 S.2.1 dX11_two_20 (by decide) ?_
    refine lv_istore_n (lv' := [(2, .int 0), (0, .ref (g.2.2 0)), (1, .int x1)]) S.1 S.2.1 dX11_two_21 rfl hl (by decide) rfl (fun ls hl => ?_)
    exact wl_X11_two_22 hPL S hK hr hlk hk15 1000 hM (lv_sub hl [1, 2, 0] rfl) hF
theorem wl_X11_two_15 {l : Launch} {g : GE} {A : Nat → Prop} {LP : List Nat} {kf : KF} (hPL : PL LP kf) {p : Program} {e : Env} {s : State} {m : MethodId} {args : Array Value} {below : List Frame} {meth : Method} {c : Code} (S : CallFix p m c cX11_two 5 s args UL RX11) (hK : KK g s) (hr : meth.sig.returnType = (some .int)) (hlk : meth.locks = false) {out : Int32 × IM × RM} : ∀ (n : Nat) {x1 : Int32} {σ : IM} {ρ : RM} {H : Heap} {locs : List Loc} {ls : Array Slot}, Mem lyC 48 g A (va_pl LP (skE kf)) σ ρ s.heap H locs → lv_has ls 5 [(0, .ref (g.2.2 0)), (1, .int x1)] → X11_two_b15 kf n x1 σ ρ = some out → W p l e ({ frames := 5, cells := 0, slots := 0, locals := 125 }) s m args below meth c H locs 0 0 (MQ below (Qm lyC 48 g A (va_pl LP (skE kf)) out.2.1 out.2.2 (some (.int out.1))) args s 0 0 A) (F0 m 15 ls []) := by
  intro n
  induction n with
  | zero =>
    intro x1 σ ρ H locs ls hM hl hF
    cases hF
  | succ n ih =>
    intro x1 σ ρ H locs ls hM hl hF
    exact w_X11_two_15 hPL S hK hr hlk ih hM hl hF
def X11_two (kf : KF) (σ : IM) (ρ : RM) : Option (Int32 × IM × RM) := if σ 1 8 = 0 then (some ((-3), σ, ρ)) else (X11_two_b15 kf 1000 0 σ ρ)
set_option maxRecDepth 20000 in
theorem c_X11_two {l : Launch} {g : GE} {A : Nat → Prop} {LP : List Nat} {kf : KF} {σ : IM} {ρ : RM} {out : Int32 × IM × RM} (hPL : PL LP kf) (hF : X11_two kf σ ρ = some out) : Met l yX11_two (.code yX11_two cX11_two 5 (some .int) :: UL) ({ frames := 5, cells := 0, slots := 0, locals := 125 }) (va_Pc [.ref (g.2.2 0)] (PreM lyC 48 g A (va_pl LP (skE kf)) σ ρ)) (Qm lyC 48 g A (va_pl LP (skE kf)) out.2.1 out.2.2 (some (.int out.1))) 0 0 A := by
  refine e_of (by decide) (Nat.le_of_ble_eq_true rfl) ?_
  intro p e s m below meth c ls S hr hlk hv hl
  have hM := Mem.of hv
  have hK := hv.2.1
  have hl : lv_has ls 5 [(0, .ref (g.2.2 0))] := hl
  unfold X11_two at hF
  refine lv_aload_n S.1 S.2.1 dX11_two_0 rfl (lv_at hl 0 rfl) ?_
  refine r_getC S hK hM cfX11 0 0 1 (by decide) ly_0 rfl (by decide) tw_1_193 dX11_two_1 ?_
  refine r_getI S hK hM cfX1 1 8 (ct_lt0 ct_1) (ly_ct ct_1) rfl (by decide) tw_1_56 dX11_two_4 ?_
  refine lv_if_ne (tgt := 13) S.1 S.2.1 dX11_two_7 (by decide) (fun b1 => ?_) (fun b1 => ?_)
  · have hF := (if_neg b1).symm.trans hF
    refine lv_iconst (v := 0) S.1 S.2.1 dX11_two_13 (by decide) ?_
    refine lv_istore_n (lv' := [(1, .int 0), (0, .ref (g.2.2 0))]) S.1 S.2.1 dX11_two_14 rfl hl (by decide) rfl (fun ls hl => ?_)
    exact wl_X11_two_15 hPL S hK hr hlk 1000 hM (lv_sub hl [1, 0] rfl) hF
  · have hF := (if_pos b1).symm.trans hF
    refine lv_bipush (v := (-3)) S.1 S.2.1 dX11_two_10 (by decide) ?_
    cases hF
    exact z_m (v := (-3)) S hM hr hlk rfl dX11_two_12
/-! X11_staysInPlay -/
def X11_staysInPlay_b42 (kf : KF) (k13 : Int32 → Int32 → Int32 → IM → RM → Option (Int32 × IM × RM)) (x1 : Int32) (x2 : Int32) (x3 : Int32) (t0 : Int32) (σ : IM) (ρ : RM) : Option (Int32 × IM × RM) := bd (up2 σ 10 10 t0) fun σ6 => bd3 (X1_strike kf σ6 ρ 10 x3 2) fun r9 σ7 ρ8 => if r9 = 0 then (bd (x3 + 1) fun v11 => k13 x1 x2 v11 σ7 ρ8) else (some (0, σ7, ρ8))
set_option maxRecDepth 20000 in
theorem w_X11_staysInPlay_42 {l : Launch} {g : GE} {A : Nat → Prop} {LP : List Nat} {kf : KF} (hPL : PL LP kf) {p : Program} {e : Env} {s : State} {m : MethodId} {args : Array Value} {below : List Frame} {meth : Method} {c : Code} (S : CallFix p m c cX11_staysInPlay 4 s args UL RX11) (hK : KK g s) (hr : meth.sig.returnType = (some .boolean)) (hlk : meth.locks = false) {out : Int32 × IM × RM} {k13 : Int32 → Int32 → Int32 → IM → RM → Option (Int32 × IM × RM)} (hk13 : ∀ {x1 : Int32} {x2 : Int32} {x3 : Int32} {σ : IM} {ρ : RM} {H : Heap} {locs : List Loc} {ls : Array Slot}, Mem lyC 48 g A (va_pl LP (skE kf)) σ ρ s.heap H locs → lv_has ls 4 [(0, .ref (g.2.2 0)), (1, .int x1), (2, .int x2), (3, .int x3)] → k13 x1 x2 x3 σ ρ = some out → W p l e ({ frames := 4, cells := 0, slots := 0, locals := 100 }) s m args below meth c H locs 0 0 (MQ below (Qm lyC 48 g A (va_pl LP (skE kf)) out.2.1 out.2.2 (some (.int out.1))) args s 0 0 A) (F0 m 13 ls [])) : ∀ {x1 : Int32} {x2 : Int32} {x3 : Int32} {t0 : Int32} {σ : IM} {ρ : RM} {H : Heap} {locs : List Loc} {ls : Array Slot}, Mem lyC 48 g A (va_pl LP (skE kf)) σ ρ s.heap H locs → lv_has ls 4 [(0, .ref (g.2.2 0)), (1, .int x1), (2, .int x2), (3, .int x3)] → X11_staysInPlay_b42 kf k13 x1 x2 x3 t0 σ ρ = some out → W p l e ({ frames := 4, cells := 0, slots := 0, locals := 100 }) s m args below meth c H locs 0 0 (MQ below (Qm lyC 48 g A (va_pl LP (skE kf)) out.2.1 out.2.2 (some (.int out.1))) args s 0 0 A) (F0 m 42 ls [.int t0, .ref (g.2.2 10)]) := by
  intro x1 x2 x3 t0 σ ρ H locs ls hM hl hF
  unfold X11_staysInPlay_b42 at hF
  obtain ⟨σ6, eσ6, hF⟩ := bd_some hF
  refine r_putI (ty := .int) S hK hM cfX1 tyX1_ok nmX1 10 10 (ct_lt0 ct_10) (ly_ct ct_10) rfl (by decide) tw_1_60 rfl (by decide +kernel) rfl rfl eσ6 dX11_staysInPlay_42 (fun H locs hM => ?_)
  refine lv_aload_n S.1 S.2.1 dX11_staysInPlay_45 rfl (lv_at hl 0 rfl) ?_
  refine r_getC S hK hM cfX11 0 1 10 (by decide) ly_0 rfl (by decide) tw_1_194 dX11_staysInPlay_46 ?_
  refine lv_iload_n S.1 S.2.1 dX11_staysInPlay_49 rfl (lv_at hl 3 rfl) ?_
  refine lv_iconst (v := 2) S.1 S.2.1 dX11_staysInPlay_50 (by decide) ?_
  obtain ⟨r9, σ7, ρ8, er9, hF⟩ := bd3_some hF
  refine k_m (va_runV (As := [.int x3, .int 2]) (rest := []) S (c_X1_strike hPL ct_10 er9) (cwV 2 S.2.2.2.2 (ul_V tw_3_49 tw_2_73 tw_2_74 tw_1_2 cw_X1_strike) rfl rfl rfl hv_X1_strike ⟨Nat.le_of_ble_eq_true rfl, Nat.le_of_ble_eq_true rfl⟩) ⟨PreM.blind, hM.recv hK cfX1 10 (ct_lt0 ct_10) (ly_ct ct_10), hM.pre hK⟩ rfl rfl hl.1 rfl (lv_room (Nat.le_of_ble_eq_true rfl)) dX11_staysInPlay_51 ⟨Nat.zero_le _, Nat.zero_le _⟩) hM (fun H locs hM => ?_)
  show W _ _ _ _ _ _ _ _ _ _ _ _ _ _ _ (F0 m 54 ls [.int r9])
  refine lv_if_eq (tgt := 59) S.1 S.2.1 dX11_staysInPlay_54 (by decide) (fun b10 => ?_) (fun b10 => ?_)
  · have hF := (if_pos b10).symm.trans hF
    obtain ⟨v11, ev11, hF⟩ := bd_some hF
    refine lv_iinc (v := v11) (lv' := [(3, .int v11), (0, .ref (g.2.2 0)), (1, .int x1), (2, .int x2)]) S.1 S.2.1 dX11_staysInPlay_59 hl (k := 3) rfl (by rw [ev11]; rfl) (by decide) rfl (fun ls hl => ?_)
    refine lv_goto (tgt := 13) S.1 S.2.1 dX11_staysInPlay_62 (by decide) ?_
    exact hk13 hM (lv_sub hl [1, 2, 3, 0] rfl)  hF
  · have hF := (if_neg b10).symm.trans hF
    refine lv_iconst (v := 0) S.1 S.2.1 dX11_staysInPlay_57 (by decide) ?_
    cases hF
    exact z_m (v := 0) S hM hr hlk rfl dX11_staysInPlay_58
def X11_staysInPlay_s13 (kf : KF) (k13 : Int32 → Int32 → Int32 → IM → RM → Option (Int32 × IM × RM)) (x1 : Int32) (x2 : Int32) (x3 : Int32) (σ : IM) (ρ : RM) : Option (Int32 × IM × RM) := if x1 ≤ x3 then (some (1, σ, ρ)) else (if (x2 >>> (x3 &&& 31)) &&& 1 = 1 then (X11_staysInPlay_b42 kf k13 x1 x2 x3 1 σ ρ) else (X11_staysInPlay_b42 kf k13 x1 x2 x3 (σ 1 10) σ ρ))
def X11_staysInPlay_b13 (kf : KF) : Nat → Int32 → Int32 → Int32 → IM → RM → Option (Int32 × IM × RM)
  | 0 => fun _ _ _ _ _ => none
  | n + 1 => X11_staysInPlay_s13 kf (X11_staysInPlay_b13 kf n)
set_option maxRecDepth 20000 in
theorem w_X11_staysInPlay_13 {l : Launch} {g : GE} {A : Nat → Prop} {LP : List Nat} {kf : KF} (hPL : PL LP kf) {p : Program} {e : Env} {s : State} {m : MethodId} {args : Array Value} {below : List Frame} {meth : Method} {c : Code} (S : CallFix p m c cX11_staysInPlay 4 s args UL RX11) (hK : KK g s) (hr : meth.sig.returnType = (some .boolean)) (hlk : meth.locks = false) {out : Int32 × IM × RM} {k13 : Int32 → Int32 → Int32 → IM → RM → Option (Int32 × IM × RM)} (hk13 : ∀ {x1 : Int32} {x2 : Int32} {x3 : Int32} {σ : IM} {ρ : RM} {H : Heap} {locs : List Loc} {ls : Array Slot}, Mem lyC 48 g A (va_pl LP (skE kf)) σ ρ s.heap H locs → lv_has ls 4 [(0, .ref (g.2.2 0)), (1, .int x1), (2, .int x2), (3, .int x3)] → k13 x1 x2 x3 σ ρ = some out → W p l e ({ frames := 4, cells := 0, slots := 0, locals := 100 }) s m args below meth c H locs 0 0 (MQ below (Qm lyC 48 g A (va_pl LP (skE kf)) out.2.1 out.2.2 (some (.int out.1))) args s 0 0 A) (F0 m 13 ls [])) : ∀ {x1 : Int32} {x2 : Int32} {x3 : Int32} {σ : IM} {ρ : RM} {H : Heap} {locs : List Loc} {ls : Array Slot}, Mem lyC 48 g A (va_pl LP (skE kf)) σ ρ s.heap H locs → lv_has ls 4 [(0, .ref (g.2.2 0)), (1, .int x1), (2, .int x2), (3, .int x3)] → X11_staysInPlay_s13 kf k13 x1 x2 x3 σ ρ = some out → W p l e ({ frames := 4, cells := 0, slots := 0, locals := 100 }) s m args below meth c H locs 0 0 (MQ below (Qm lyC 48 g A (va_pl LP (skE kf)) out.2.1 out.2.2 (some (.int out.1))) args s 0 0 A) (F0 m 13 ls []) := by
  intro x1 x2 x3 σ ρ H locs ls hM hl hF
  unfold X11_staysInPlay_s13 at hF
  refine lv_iload_n S.1 S.2.1 dX11_staysInPlay_13 rfl (lv_at hl 3 rfl) ?_
  refine lv_iload_n S.1 S.2.1 dX11_staysInPlay_14 rfl (lv_at hl 1 rfl) ?_
  refine lv_icmp_ge (tgt := 65) S.1 S.2.1 dX11_staysInPlay_15 (by decide) (fun b4 => ?_) (fun b4 => ?_)
  · have hF := (if_pos b4).symm.trans hF
    refine lv_iconst (v := 1) S.1 S.2.1 dX11_staysInPlay_65 (by decide) ?_
    cases hF
    exact z_m (v := 1) S hM hr hlk rfl dX11_staysInPlay_66
  · have hF := (if_neg b4).symm.trans hF
    refine lv_aload_n S.1 S.2.1 dX11_staysInPlay_18 rfl (lv_at hl 0 rfl) ?_
    refine r_getC S hK hM cfX11 0 1 10 (by decide) ly_0 rfl (by decide) tw_1_194 dX11_staysInPlay_19 ?_
    refine lv_iload_n S.1 S.2.1 dX11_staysInPlay_22 rfl (lv_at hl 2 rfl) ?_
    refine lv_iload_n S.1 S.2.1 dX11_staysInPlay_23 rfl (lv_at hl 3 rfl) ?_
    refine lv_ishr S.1 S.2.1 dX11_staysInPlay_24 ?_
    refine lv_iconst (v := 1) S.1 S.2.1 dX11_staysInPlay_25 (by decide) ?_
    refine lv_iand S.1 S.2.1 dX11_staysInPlay_26 ?_
    refine lv_iconst (v := 1) S.1 S.2.1 dX11_staysInPlay_27 (by decide) ?_
    refine lv_icmp_ne (tgt := 35) S.1 S.2.1 dX11_staysInPlay_28 (by decide) (fun b5 => ?_) (fun b5 => ?_)
    · have hF := (if_neg b5).symm.trans hF
      refine lv_aload_n S.1 S.2.1 dX11_staysInPlay_35 rfl (lv_at hl 0 rfl) ?_
      refine r_getC S hK hM cfX11 0 0 1 (by decide) ly_0 rfl (by decide) tw_1_193 dX11_staysInPlay_36 ?_
      refine r_getI S hK hM cfX1 1 10 (ct_lt0 ct_1) (ly_ct ct_1) rfl (by decide) tw_1_60 dX11_staysInPlay_39 ?_
      exact w_X11_staysInPlay_42 hPL S hK hr hlk hk13 hM (lv_sub hl [0, 1, 2, 3] rfl) hF
    · have hF := (if_pos b5).symm.trans hF
      refine lv_iconst (v := 1) S.1 S.2.1 dX11_staysInPlay_31 (by decide) ?_
      refine lv_goto (tgt := 42) S.1 S.2.1 dX11_staysInPlay_32 (by decide) ?_
      exact w_X11_staysInPlay_42 hPL S hK hr hlk hk13 hM (lv_sub hl [0, 1, 2, 3] rfl) hF
theorem wl_X11_staysInPlay_13 {l : Launch} {g : GE} {A : Nat → Prop} {LP : List Nat} {kf : KF} (hPL : PL LP kf) {p : Program} {e : Env} {s : State} {m : MethodId} {args : Array Value} {below : List Frame} {meth : Method} {c : Code} (S : CallFix p m c cX11_staysInPlay 4 s args UL RX11) (hK : KK g s) (hr : meth.sig.returnType = (some .boolean)) (hlk : meth.locks = false) {out : Int32 × IM × RM} : ∀ (n : Nat) {x1 : Int32} {x2 : Int32} {x3 : Int32} {σ : IM} {ρ : RM} {H : Heap} {locs : List Loc} {ls : Array Slot}, Mem lyC 48 g A (va_pl LP (skE kf)) σ ρ s.heap H locs → lv_has ls 4 [(0, .ref (g.2.2 0)), (1, .int x1), (2, .int x2), (3, .int x3)] → X11_staysInPlay_b13 kf n x1 x2 x3 σ ρ = some out → W p l e ({ frames := 4, cells := 0, slots := 0, locals := 100 }) s m args below meth c H locs 0 0 (MQ below (Qm lyC 48 g A (va_pl LP (skE kf)) out.2.1 out.2.2 (some (.int out.1))) args s 0 0 A) (F0 m 13 ls []) := by
  intro n
  induction n with
  | zero =>
    intro x1 x2 x3 σ ρ H locs ls hM hl hF
    cases hF
  | succ n ih =>
    intro x1 x2 x3 σ ρ H locs ls hM hl hF
    exact w_X11_staysInPlay_13 hPL S hK hr hlk ih hM hl hF
def X11_staysInPlay (kf : KF) (σ : IM) (ρ : RM) (a1 : Int32) (a2 : Int32) : Option (Int32 × IM × RM) := bd2 (X1_become kf σ ρ 10 1) fun σ1 ρ2 => X11_staysInPlay_b13 kf 1000 a1 a2 0 σ1 ρ2
set_option maxRecDepth 20000 in
theorem c_X11_staysInPlay {l : Launch} {g : GE} {A : Nat → Prop} {LP : List Nat} {kf : KF} {σ : IM} {ρ : RM} {a1 : Int32} {a2 : Int32} {out : Int32 × IM × RM} (hPL : PL LP kf) (hF : X11_staysInPlay kf σ ρ a1 a2 = some out) : Met l yX11_staysInPlay (.code yX11_staysInPlay cX11_staysInPlay 4 (some .boolean) :: UL) ({ frames := 4, cells := 0, slots := 0, locals := 100 }) (va_Pc [.ref (g.2.2 0), .int a1, .int a2] (PreM lyC 48 g A (va_pl LP (skE kf)) σ ρ)) (Qm lyC 48 g A (va_pl LP (skE kf)) out.2.1 out.2.2 (some (.int out.1))) 0 0 A := by
  refine e_of (by decide) (Nat.le_of_ble_eq_true rfl) ?_
  intro p e s m below meth c ls S hr hlk hv hl
  have hM := Mem.of hv
  have hK := hv.2.1
  have hl : lv_has ls 4 [(0, .ref (g.2.2 0)), (1, .int a1), (2, .int a2)] := hl
  unfold X11_staysInPlay at hF
  refine lv_aload_n S.1 S.2.1 dX11_staysInPlay_0 rfl (lv_at hl 0 rfl) ?_
  refine r_getC S hK hM cfX11 0 1 10 (by decide) ly_0 rfl (by decide) tw_1_194 dX11_staysInPlay_1 ?_
  refine lv_aload_n S.1 S.2.1 dX11_staysInPlay_4 rfl (lv_at hl 0 rfl) ?_
  refine r_getC S hK hM cfX11 0 0 1 (by decide) ly_0 rfl (by decide) tw_1_193 dX11_staysInPlay_5 ?_
  obtain ⟨σ1, ρ2, er3, hF⟩ := bd2_some hF
  refine k_m (va_runV (As := [.ref (g.2.2 1)]) (rest := []) S (c_X1_become hPL ct_10 ct_1 er3) (cwV 1 S.2.2.2.2 (ul_V tw_2_18 tw_2_19 tw_2_20 tw_1_2 cw_X1_become) rfl rfl rfl hv_X1_become ⟨Nat.le_of_ble_eq_true rfl, Nat.le_of_ble_eq_true rfl⟩) ⟨PreM.blind, hM.recv hK cfX1 10 (ct_lt0 ct_10) (ly_ct ct_10), hM.pre hK⟩ rfl rfl hl.1 rfl (lv_room (Nat.le_of_ble_eq_true rfl)) dX11_staysInPlay_8 ⟨Nat.zero_le _, Nat.zero_le _⟩) hM (fun H locs hM => ?_)
  show W _ _ _ _ _ _ _ _ _ _ _ _ _ _ _ (F0 m 11 ls [])
  refine lv_iconst (v := 0) S.1 S.2.1 dX11_staysInPlay_11 (by decide) ?_
  refine lv_istore_n (lv' := [(3, .int 0), (0, .ref (g.2.2 0)), (1, .int a1), (2, .int a2)]) S.1 S.2.1 dX11_staysInPlay_12 rfl hl (by decide) rfl (fun ls hl => ?_)
  exact wl_X11_staysInPlay_13 hPL S hK hr hlk 1000 hM (lv_sub hl [1, 2, 3, 0] rfl) hF
/-! X11_power -/
def X11_power_s5 (k5 : Int32 → Int32 → Int64 → Int32 → Option Int64) (x0 : Int32) (x1 : Int32) (x2 : Int64) (x4 : Int32) : Option Int64 := if x1 ≤ x4 then (some x2) else (bd (x2 * ((x0 : Int32).toInt64)) fun v2 => bd (x4 + 1) fun v3 => k5 x0 x1 v2 v3)
def X11_power_b5 : Nat → Int32 → Int32 → Int64 → Int32 → Option Int64
  | 0 => fun _ _ _ _ => none
  | n + 1 => X11_power_s5 (X11_power_b5 n)
set_option maxRecDepth 20000 in
theorem w_X11_power_5 {l : Launch} {g : GE} {A : Nat → Prop} {LP : List Nat} {kf : KF} {σ : IM} {ρ : RM} (hPL : PL LP kf) {p : Program} {e : Env} {s : State} {m : MethodId} {args : Array Value} {below : List Frame} {meth : Method} {c : Code} (S : CallFix p m c cX11_power 5 s args UL RX11) (hK : KK g s) (hr : meth.sig.returnType = (some .long)) (hlk : meth.locks = false) (hM : Mem lyC 48 g A (va_pl LP (skE kf)) σ ρ s.heap s.heap []) {out : Int64} {k5 : Int32 → Int32 → Int64 → Int32 → Option Int64} (hk5 : ∀ {x0 : Int32} {x1 : Int32} {x2 : Int64} {x4 : Int32} {ls : Array Slot}, lv_has ls 5 [(0, .int x0), (1, .int x1), (2, .long x2), (4, .int x4)] → k5 x0 x1 x2 x4 = some out → W p l e ({ frames := 0, cells := 0, slots := 0, locals := 0 }) s m args below meth c s.heap [] 0 0 (MQ below (Qp (some (.long out))) args s 0 0 NoA) (F0 m 5 ls [])) : ∀ {x0 : Int32} {x1 : Int32} {x2 : Int64} {x4 : Int32} {ls : Array Slot}, lv_has ls 5 [(0, .int x0), (1, .int x1), (2, .long x2), (4, .int x4)] → X11_power_s5 k5 x0 x1 x2 x4 = some out → W p l e ({ frames := 0, cells := 0, slots := 0, locals := 0 }) s m args below meth c s.heap [] 0 0 (MQ below (Qp (some (.long out))) args s 0 0 NoA) (F0 m 5 ls []) := by
  intro x0 x1 x2 x4 ls hl hF
  unfold X11_power_s5 at hF
  refine lv_iload S.1 S.2.1 dX11_power_5 (lv_at hl 3 rfl) ?_
  refine lv_iload_n S.1 S.2.1 dX11_power_7 rfl (lv_at hl 1 rfl) ?_
  refine lv_icmp_ge (tgt := 22) S.1 S.2.1 dX11_power_8 (by decide) (fun b1 => ?_) (fun b1 => ?_)
  · have hF := (if_pos b1).symm.trans hF
    refine lv_lload_n S.1 S.2.1 dX11_power_22 rfl (lv_at hl 2 rfl) ?_
    cases hF
    exact z_pl S hr hlk dX11_power_23
  · have hF := (if_neg b1).symm.trans hF
    refine lv_lload_n S.1 S.2.1 dX11_power_11 rfl (lv_at hl 2 rfl) ?_
    refine lv_iload_n S.1 S.2.1 dX11_power_12 rfl (lv_at hl 0 rfl) ?_
    refine lv_i2l S.1 S.2.1 dX11_power_13 rfl ?_
    refine lv_lmul S.1 S.2.1 dX11_power_14 ?_
    refine lv_topl (fun v2 ev2 => ?_)
    have hF := bd_at ev2 hF
    refine lv_lstore_n (lv' := [(2, .long v2), (0, .int x0), (1, .int x1), (4, .int x4)]) S.1 S.2.1 dX11_power_15 rfl hl (by decide) rfl (fun ls hl => ?_)
    obtain ⟨v3, ev3, hF⟩ := bd_some hF
    refine lv_iinc (v := v3) (lv' := [(4, .int v3), (2, .long v2), (0, .int x0), (1, .int x1)]) S.1 S.2.1 dX11_power_16 hl (k := 3) rfl (by rw [ev3]; rfl) (by decide) rfl (fun ls hl => ?_)
    refine lv_goto (tgt := 5) S.1 S.2.1 dX11_power_19 (by decide) ?_
    exact hk5  (lv_sub hl [2, 3, 1, 0] rfl)  hF
theorem wl_X11_power_5 {l : Launch} {g : GE} {A : Nat → Prop} {LP : List Nat} {kf : KF} {σ : IM} {ρ : RM} (hPL : PL LP kf) {p : Program} {e : Env} {s : State} {m : MethodId} {args : Array Value} {below : List Frame} {meth : Method} {c : Code} (S : CallFix p m c cX11_power 5 s args UL RX11) (hK : KK g s) (hr : meth.sig.returnType = (some .long)) (hlk : meth.locks = false) (hM : Mem lyC 48 g A (va_pl LP (skE kf)) σ ρ s.heap s.heap []) {out : Int64} : ∀ (n : Nat) {x0 : Int32} {x1 : Int32} {x2 : Int64} {x4 : Int32} {ls : Array Slot}, lv_has ls 5 [(0, .int x0), (1, .int x1), (2, .long x2), (4, .int x4)] → X11_power_b5 n x0 x1 x2 x4 = some out → W p l e ({ frames := 0, cells := 0, slots := 0, locals := 0 }) s m args below meth c s.heap [] 0 0 (MQ below (Qp (some (.long out))) args s 0 0 NoA) (F0 m 5 ls []) := by
  intro n
  induction n with
  | zero =>
    intro x0 x1 x2 x4 ls hl hF
    cases hF
  | succ n ih =>
    intro x0 x1 x2 x4 ls hl hF
    exact w_X11_power_5 hPL S hK hr hlk hM ih hl hF
def X11_power (a0 : Int32) (a1 : Int32) : Option Int64 := X11_power_b5 1000 a0 a1 1 0
set_option maxRecDepth 20000 in
theorem c_X11_power {l : Launch} {g : GE} {A : Nat → Prop} {LP : List Nat} {kf : KF} {σ : IM} {ρ : RM} {a0 : Int32} {a1 : Int32} {out : Int64} (hPL : PL LP kf) (hF : X11_power a0 a1 = some out) : Met l yX11_power (.code yX11_power cX11_power 5 (some .long) :: UL) ({ frames := 0, cells := 0, slots := 0, locals := 0 }) (va_Pc [.int a0, .int a1] (PreM lyC 48 g A (va_pl LP (skE kf)) σ ρ)) (Qp (some (.long out))) 0 0 NoA := by
  refine e_of (by decide) (Nat.le_of_ble_eq_true rfl) ?_
  intro p e s m below meth c ls S hr hlk hv hl
  have hM := Mem.of hv
  have hK := hv.2.1
  have hl : lv_has ls 5 [(0, .int a0), (1, .int a1)] := hl
  unfold X11_power at hF
  refine lv_lconst (v := 1) S.1 S.2.1 dX11_power_0 (by decide) ?_
  refine lv_lstore_n (lv' := [(2, .long 1), (0, .int a0), (1, .int a1)]) S.1 S.2.1 dX11_power_1 rfl hl (by decide) rfl (fun ls hl => ?_)
  refine lv_iconst (v := 0) S.1 S.2.1 dX11_power_2 (by decide) ?_
  refine lv_istore (lv' := [(4, .int 0), (2, .long 1), (0, .int a0), (1, .int a1)]) S.1 S.2.1 dX11_power_3 hl (by decide) rfl (fun ls hl => ?_)
  exact wl_X11_power_5 hPL S hK hr hlk hM 1000 (lv_sub hl [2, 3, 1, 0] rfl) hF
/-! X11_commonDivisor -/
def X11_commonDivisor_b44 (x6 : Int64) : Option Int64 := bd (if 1 < x6 then x6 else 1) fun v6 => some v6
set_option maxRecDepth 20000 in
theorem w_X11_commonDivisor_44 {l : Launch} {g : GE} {A : Nat → Prop} {LP : List Nat} {kf : KF} {σ : IM} {ρ : RM} (hPL : PL LP kf) {p : Program} {e : Env} {s : State} {m : MethodId} {args : Array Value} {below : List Frame} {meth : Method} {c : Code} (S : CallFix p m c cX11_commonDivisor 11 s args UL RX11) (hK : KK g s) (hr : meth.sig.returnType = (some .long)) (hlk : meth.locks = false) (hM : Mem lyC 48 g A (va_pl LP (skE kf)) σ ρ s.heap s.heap []) {out : Int64} : ∀ {x6 : Int64} {ls : Array Slot}, lv_has ls 11 [(6, .long x6)] → X11_commonDivisor_b44 x6 = some out → W p l e ({ frames := 1, cells := 0, slots := 0, locals := 21 }) s m args below meth c s.heap [] 0 0 (MQ below (Qp (some (.long out))) args s 0 0 NoA) (F0 m 44 ls []) := by
  intro x6 ls hl hF
  unfold X11_commonDivisor_b44 at hF
  refine lv_lload S.1 S.2.1 dX11_commonDivisor_44 (lv_at hl 0 rfl) ?_
  refine lv_lconst (v := 1) S.1 S.2.1 dX11_commonDivisor_46 (by decide) ?_
  refine va_mmax_long S.1 S.2.1 (S.2.2.1.trans hl.1.symm) S.2.2.2.1 (S.2.2.2.2 _ tw_4_4) (S.2.2.2.2 _ tw_4_5) (S.2.2.2.2 _ tw_1_15) (S.2.2.2.2 _ tw_4_6) (Nat.le_of_ble_eq_true rfl) (Nat.le_of_ble_eq_true rfl) (Nat.zero_le _) (Nat.zero_le _) dX11_commonDivisor_47 ?_
  refine lv_topl (fun v6 ev6 => ?_)
  have hF := bd_at ev6 hF
  cases hF
  exact z_pl S hr hlk dX11_commonDivisor_50
def X11_commonDivisor_s9 (k9 : Int64 → Int64 → Int32 → Option Int64) (x4 : Int64) (x6 : Int64) (x8 : Int32) : Option Int64 := if 64 ≤ x8 then (X11_commonDivisor_b44 x6) else (if lg_cmp x4 0 = 0 then (X11_commonDivisor_b44 x6) else (nzl x4 <| bd (rem64 x6 x4) fun v4 => bd (x8 + 1) fun v5 => k9 v4 x4 v5))
def X11_commonDivisor_b9 : Nat → Int64 → Int64 → Int32 → Option Int64
  | 0 => fun _ _ _ => none
  | n + 1 => X11_commonDivisor_s9 (X11_commonDivisor_b9 n)
set_option maxRecDepth 20000 in
theorem w_X11_commonDivisor_9 {l : Launch} {g : GE} {A : Nat → Prop} {LP : List Nat} {kf : KF} {σ : IM} {ρ : RM} (hPL : PL LP kf) {p : Program} {e : Env} {s : State} {m : MethodId} {args : Array Value} {below : List Frame} {meth : Method} {c : Code} (S : CallFix p m c cX11_commonDivisor 11 s args UL RX11) (hK : KK g s) (hr : meth.sig.returnType = (some .long)) (hlk : meth.locks = false) (hM : Mem lyC 48 g A (va_pl LP (skE kf)) σ ρ s.heap s.heap []) {out : Int64} {k9 : Int64 → Int64 → Int32 → Option Int64} (hk9 : ∀ {x4 : Int64} {x6 : Int64} {x8 : Int32} {ls : Array Slot}, lv_has ls 11 [(4, .long x4), (6, .long x6), (8, .int x8)] → k9 x4 x6 x8 = some out → W p l e ({ frames := 1, cells := 0, slots := 0, locals := 21 }) s m args below meth c s.heap [] 0 0 (MQ below (Qp (some (.long out))) args s 0 0 NoA) (F0 m 9 ls [])) : ∀ {x4 : Int64} {x6 : Int64} {x8 : Int32} {ls : Array Slot}, lv_has ls 11 [(4, .long x4), (6, .long x6), (8, .int x8)] → X11_commonDivisor_s9 k9 x4 x6 x8 = some out → W p l e ({ frames := 1, cells := 0, slots := 0, locals := 21 }) s m args below meth c s.heap [] 0 0 (MQ below (Qp (some (.long out))) args s 0 0 NoA) (F0 m 9 ls []) := by
  intro x4 x6 x8 ls hl hF
  unfold X11_commonDivisor_s9 at hF
  refine lv_iload S.1 S.2.1 dX11_commonDivisor_9 (lv_at hl 2 rfl) ?_
  refine lv_bipush (v := 64) S.1 S.2.1 dX11_commonDivisor_11 (by decide) ?_
  refine lv_icmp_ge (tgt := 44) S.1 S.2.1 dX11_commonDivisor_13 (by decide) (fun b1 => ?_) (fun b1 => ?_)
  · have hF := (if_pos b1).symm.trans hF
    exact w_X11_commonDivisor_44 hPL S hK hr hlk hM (lv_sub hl [1] rfl) hF
  · have hF := (if_neg b1).symm.trans hF
    refine lv_lload S.1 S.2.1 dX11_commonDivisor_16 (lv_at hl 0 rfl) ?_
    refine lv_lconst (v := 0) S.1 S.2.1 dX11_commonDivisor_18 (by decide) ?_
    refine W.lcmp S.1 S.2.1 dX11_commonDivisor_19 ?_
    refine lv_if_eq (tgt := 44) S.1 S.2.1 dX11_commonDivisor_20 (by decide) (fun b2 => ?_) (fun b2 => ?_)
    · have hF := (if_pos b2).symm.trans hF
      exact w_X11_commonDivisor_44 hPL S hK hr hlk hM (lv_sub hl [1] rfl) hF
    · have hF := (if_neg b2).symm.trans hF
      refine lv_lload S.1 S.2.1 dX11_commonDivisor_23 (lv_at hl 1 rfl) ?_
      refine lv_lload S.1 S.2.1 dX11_commonDivisor_25 (lv_at hl 0 rfl) ?_
      obtain ⟨h3, hF⟩ := nzl_some hF
      refine r_lrem S dX11_commonDivisor_27 h3 ?_
      refine lv_topl (fun v4 ev4 => ?_)
      have hF := bd_at ev4 hF
      refine lv_lstore (lv' := [(9, .long v4), (4, .long x4), (6, .long x6), (8, .int x8)]) S.1 S.2.1 dX11_commonDivisor_28 hl (by decide) rfl (fun ls hl => ?_)
      refine lv_lload S.1 S.2.1 dX11_commonDivisor_30 (lv_at hl 1 rfl) ?_
      refine lv_lstore (lv' := [(6, .long x4), (9, .long v4), (4, .long x4), (8, .int x8)]) S.1 S.2.1 dX11_commonDivisor_32 hl (by decide) rfl (fun ls hl => ?_)
      refine lv_lload S.1 S.2.1 dX11_commonDivisor_34 (lv_at hl 1 rfl) ?_
      refine lv_lstore (lv' := [(4, .long v4), (6, .long x4), (9, .long v4), (8, .int x8)]) S.1 S.2.1 dX11_commonDivisor_36 hl (by decide) rfl (fun ls hl => ?_)
      obtain ⟨v5, ev5, hF⟩ := bd_some hF
      refine lv_iinc (v := v5) (lv' := [(8, .int v5), (4, .long v4), (6, .long x4), (9, .long v4)]) S.1 S.2.1 dX11_commonDivisor_38 hl (k := 3) rfl (by rw [ev5]; rfl) (by decide) rfl (fun ls hl => ?_)
      refine lv_goto (tgt := 9) S.1 S.2.1 dX11_commonDivisor_41 (by decide) ?_
      exact hk9  (lv_sub hl [1, 2, 0] rfl)  hF
theorem wl_X11_commonDivisor_9 {l : Launch} {g : GE} {A : Nat → Prop} {LP : List Nat} {kf : KF} {σ : IM} {ρ : RM} (hPL : PL LP kf) {p : Program} {e : Env} {s : State} {m : MethodId} {args : Array Value} {below : List Frame} {meth : Method} {c : Code} (S : CallFix p m c cX11_commonDivisor 11 s args UL RX11) (hK : KK g s) (hr : meth.sig.returnType = (some .long)) (hlk : meth.locks = false) (hM : Mem lyC 48 g A (va_pl LP (skE kf)) σ ρ s.heap s.heap []) {out : Int64} : ∀ (n : Nat) {x4 : Int64} {x6 : Int64} {x8 : Int32} {ls : Array Slot}, lv_has ls 11 [(4, .long x4), (6, .long x6), (8, .int x8)] → X11_commonDivisor_b9 n x4 x6 x8 = some out → W p l e ({ frames := 1, cells := 0, slots := 0, locals := 21 }) s m args below meth c s.heap [] 0 0 (MQ below (Qp (some (.long out))) args s 0 0 NoA) (F0 m 9 ls []) := by
  intro n
  induction n with
  | zero =>
    intro x4 x6 x8 ls hl hF
    cases hF
  | succ n ih =>
    intro x4 x6 x8 ls hl hF
    exact w_X11_commonDivisor_9 hPL S hK hr hlk hM ih hl hF
def X11_commonDivisor (a0 : Int64) (a2 : Int64) : Option Int64 := X11_commonDivisor_b9 1000 a0 a2 0
set_option maxRecDepth 20000 in
theorem c_X11_commonDivisor {l : Launch} {g : GE} {A : Nat → Prop} {LP : List Nat} {kf : KF} {σ : IM} {ρ : RM} {a0 : Int64} {a2 : Int64} {out : Int64} (hPL : PL LP kf) (hF : X11_commonDivisor a0 a2 = some out) : Met l yX11_commonDivisor (.code yX11_commonDivisor cX11_commonDivisor 11 (some .long) :: UL) ({ frames := 1, cells := 0, slots := 0, locals := 21 }) (va_Pc [.long a0, .long a2] (PreM lyC 48 g A (va_pl LP (skE kf)) σ ρ)) (Qp (some (.long out))) 0 0 NoA := by
  refine e_of (by decide) (Nat.le_of_ble_eq_true rfl) ?_
  intro p e s m below meth c ls S hr hlk hv hl
  have hM := Mem.of hv
  have hK := hv.2.1
  have hl : lv_has ls 11 [(0, .long a0), (2, .long a2)] := hl
  unfold X11_commonDivisor at hF
  refine lv_lload_n S.1 S.2.1 dX11_commonDivisor_0 rfl (lv_at hl 0 rfl) ?_
  refine lv_lstore (lv' := [(4, .long a0), (0, .long a0), (2, .long a2)]) S.1 S.2.1 dX11_commonDivisor_1 hl (by decide) rfl (fun ls hl => ?_)
  refine lv_lload_n S.1 S.2.1 dX11_commonDivisor_3 rfl (lv_at hl 2 rfl) ?_
  refine lv_lstore (lv' := [(6, .long a2), (4, .long a0), (0, .long a0), (2, .long a2)]) S.1 S.2.1 dX11_commonDivisor_4 hl (by decide) rfl (fun ls hl => ?_)
  refine lv_iconst (v := 0) S.1 S.2.1 dX11_commonDivisor_6 (by decide) ?_
  refine lv_istore (lv' := [(8, .int 0), (6, .long a2), (4, .long a0), (0, .long a0), (2, .long a2)]) S.1 S.2.1 dX11_commonDivisor_7 hl (by decide) rfl (fun ls hl => ?_)
  exact wl_X11_commonDivisor_9 hPL S hK hr hlk hM 1000 (lv_sub hl [2, 1, 0] rfl) hF
/-! X11_inLeastTerms -/
def X11_inLeastTerms (a0 : Int64) (a2 : Int64) (a4 : Int32) : Option Int64 := bd1 (X11_commonDivisor a0 a2) fun r1 => if a4 = 0 then (nzl r1 <| some (a0 / r1)) else (nzl r1 <| some (a2 / r1))
set_option maxRecDepth 20000 in
theorem c_X11_inLeastTerms {l : Launch} {g : GE} {A : Nat → Prop} {LP : List Nat} {kf : KF} {σ : IM} {ρ : RM} {a0 : Int64} {a2 : Int64} {a4 : Int32} {out : Int64} (hPL : PL LP kf) (hF : X11_inLeastTerms a0 a2 a4 = some out) : Met l yX11_inLeastTerms (.code yX11_inLeastTerms cX11_inLeastTerms 7 (some .long) :: UL) ({ frames := 2, cells := 0, slots := 0, locals := 51 }) (va_Pc [.long a0, .long a2, .int a4] (PreM lyC 48 g A (va_pl LP (skE kf)) σ ρ)) (Qp (some (.long out))) 0 0 NoA := by
  refine e_of (by decide) (Nat.le_of_ble_eq_true rfl) ?_
  intro p e s m below meth c ls S hr hlk hv hl
  have hM := Mem.of hv
  have hK := hv.2.1
  have hl : lv_has ls 7 [(0, .long a0), (2, .long a2), (4, .int a4)] := hl
  unfold X11_inLeastTerms at hF
  refine lv_lload_n S.1 S.2.1 dX11_inLeastTerms_0 rfl (lv_at hl 0 rfl) ?_
  refine lv_lload_n S.1 S.2.1 dX11_inLeastTerms_1 rfl (lv_at hl 1 rfl) ?_
  obtain ⟨r1, er1, hF⟩ := bd1_some hF
  refine k_p (va_runS (As := [.long a0, .long a2]) (rest := []) S (c_X11_commonDivisor hPL  er1) (va_cwS 2 S.2.2.2.2 (ul_S tw_4_1 tw_4_2 tw_1_1 cw_X11_commonDivisor) rfl rfl rfl hs_X11_commonDivisor ⟨Nat.le_of_ble_eq_true rfl, Nat.le_of_ble_eq_true rfl⟩) ⟨PreM.blind, hM.pre hK⟩ rfl rfl hl.1 rfl (lv_room (Nat.le_of_ble_eq_true rfl)) dX11_inLeastTerms_2 ⟨Nat.zero_le _, Nat.zero_le _⟩) ?_
  refine lv_lstore (lv' := [(5, .long r1), (0, .long a0), (2, .long a2), (4, .int a4)]) S.1 S.2.1 dX11_inLeastTerms_5 hl (by decide) rfl (fun ls hl => ?_)
  refine lv_iload S.1 S.2.1 dX11_inLeastTerms_7 (lv_at hl 3 rfl) ?_
  refine lv_if_ne (tgt := 19) S.1 S.2.1 dX11_inLeastTerms_9 (by decide) (fun b2 => ?_) (fun b2 => ?_)
  · have hF := (if_neg b2).symm.trans hF
    refine lv_lload_n S.1 S.2.1 dX11_inLeastTerms_19 rfl (lv_at hl 2 rfl) ?_
    refine lv_lload S.1 S.2.1 dX11_inLeastTerms_20 (lv_at hl 0 rfl) ?_
    obtain ⟨h3, hF⟩ := nzl_some hF
    refine lv_ldiv S.1 S.2.1 dX11_inLeastTerms_22 h3 ?_
    cases hF
    exact z_pl S hr hlk dX11_inLeastTerms_23
  · have hF := (if_pos b2).symm.trans hF
    refine lv_lload_n S.1 S.2.1 dX11_inLeastTerms_12 rfl (lv_at hl 1 rfl) ?_
    refine lv_lload S.1 S.2.1 dX11_inLeastTerms_13 (lv_at hl 0 rfl) ?_
    obtain ⟨h4, hF⟩ := nzl_some hF
    refine lv_ldiv S.1 S.2.1 dX11_inLeastTerms_15 h4 ?_
    refine lv_goto (tgt := 23) S.1 S.2.1 dX11_inLeastTerms_16 (by decide) ?_
    cases hF
    exact z_pl S hr hlk dX11_inLeastTerms_23
/-! X11_draughts -/
def X11_draughts_b85 (kf : KF) (k49 : Int32 → Int32 → Int32 → Int64 → Int32 → IM → RM → Option (Int64 × IM × RM)) (x1 : Int32) (x2 : Int32) (x3 : Int32) (x4 : Int64) (x6 : Int32) (σ : IM) (ρ : RM) : Option (Int64 × IM × RM) := bd (x6 + 1) fun v18 => k49 x1 x2 x3 x4 v18 σ ρ
set_option maxRecDepth 20000 in
theorem w_X11_draughts_85 {l : Launch} {g : GE} {A : Nat → Prop} {LP : List Nat} {kf : KF} (hPL : PL LP kf) {p : Program} {e : Env} {s : State} {m : MethodId} {args : Array Value} {below : List Frame} {meth : Method} {c : Code} (S : CallFix p m c cX11_draughts 7 s args UL RX11) (hK : KK g s) (hr : meth.sig.returnType = (some .long)) (hlk : meth.locks = false) {out : Int64 × IM × RM} {k49 : Int32 → Int32 → Int32 → Int64 → Int32 → IM → RM → Option (Int64 × IM × RM)} (hk49 : ∀ {x1 : Int32} {x2 : Int32} {x3 : Int32} {x4 : Int64} {x6 : Int32} {σ : IM} {ρ : RM} {H : Heap} {locs : List Loc} {ls : Array Slot}, Mem lyC 48 g A (va_pl LP (skE kf)) σ ρ s.heap H locs → lv_has ls 7 [(0, .ref (g.2.2 0)), (1, .int x1), (2, .int x2), (3, .int x3), (4, .long x4), (6, .int x6)] → k49 x1 x2 x3 x4 x6 σ ρ = some out → W p l e ({ frames := 5, cells := 0, slots := 0, locals := 123 }) s m args below meth c H locs 0 0 (MQ below (Qm lyC 48 g A (va_pl LP (skE kf)) out.2.1 out.2.2 (some (.long out.1))) args s 0 0 A) (F0 m 49 ls [])) : ∀ {x1 : Int32} {x2 : Int32} {x3 : Int32} {x4 : Int64} {x6 : Int32} {σ : IM} {ρ : RM} {H : Heap} {locs : List Loc} {ls : Array Slot}, Mem lyC 48 g A (va_pl LP (skE kf)) σ ρ s.heap H locs → lv_has ls 7 [(0, .ref (g.2.2 0)), (1, .int x1), (2, .int x2), (3, .int x3), (4, .long x4), (6, .int x6)] → X11_draughts_b85 kf k49 x1 x2 x3 x4 x6 σ ρ = some out → W p l e ({ frames := 5, cells := 0, slots := 0, locals := 123 }) s m args below meth c H locs 0 0 (MQ below (Qm lyC 48 g A (va_pl LP (skE kf)) out.2.1 out.2.2 (some (.long out.1))) args s 0 0 A) (F0 m 85 ls []) := by
  intro x1 x2 x3 x4 x6 σ ρ H locs ls hM hl hF
  unfold X11_draughts_b85 at hF
  obtain ⟨v18, ev18, hF⟩ := bd_some hF
  refine lv_iinc (v := v18) (lv' := [(6, .int v18), (0, .ref (g.2.2 0)), (1, .int x1), (2, .int x2), (3, .int x3), (4, .long x4)]) S.1 S.2.1 dX11_draughts_85 hl (k := 5) rfl (by rw [ev18]; rfl) (by decide) rfl (fun ls hl => ?_)
  refine lv_goto (tgt := 49) S.1 S.2.1 dX11_draughts_88 (by decide) ?_
  exact hk49 hM (lv_sub hl [1, 2, 3, 4, 5, 0] rfl)  hF
def X11_draughts_s49 (kf : KF) (k49 : Int32 → Int32 → Int32 → Int64 → Int32 → IM → RM → Option (Int64 × IM × RM)) (x1 : Int32) (x2 : Int32) (x3 : Int32) (x4 : Int64) (x6 : Int32) (σ : IM) (ρ : RM) : Option (Int64 × IM × RM) := if 1 <<< (x1 &&& 31) ≤ x6 then (bd1 (X11_power x2 x1) fun r9 => bd1 (X11_inLeastTerms x4 r9 x3) fun r10 => some (r10, σ, ρ)) else (bd3 (X11_staysInPlay kf σ ρ x1 x6) fun r13 σ11 ρ12 => if r13 = 0 then (X11_draughts_b85 kf k49 x1 x2 x3 x4 x6 σ11 ρ12) else (bd1 (J6_bitCount_0f7a4 x6) fun r15 => bd1 (X11_power (x2 - 1) (x1 - r15)) fun r16 => bd (x4 + r16) fun v17 => X11_draughts_b85 kf k49 x1 x2 x3 v17 x6 σ11 ρ12))
def X11_draughts_b49 (kf : KF) : Nat → Int32 → Int32 → Int32 → Int64 → Int32 → IM → RM → Option (Int64 × IM × RM)
  | 0 => fun _ _ _ _ _ _ _ => none
  | n + 1 => X11_draughts_s49 kf (X11_draughts_b49 kf n)
set_option maxRecDepth 20000 in
theorem w_X11_draughts_49 {l : Launch} {g : GE} {A : Nat → Prop} {LP : List Nat} {kf : KF} (hPL : PL LP kf) {p : Program} {e : Env} {s : State} {m : MethodId} {args : Array Value} {below : List Frame} {meth : Method} {c : Code} (S : CallFix p m c cX11_draughts 7 s args UL RX11) (hK : KK g s) (hr : meth.sig.returnType = (some .long)) (hlk : meth.locks = false) {out : Int64 × IM × RM} {k49 : Int32 → Int32 → Int32 → Int64 → Int32 → IM → RM → Option (Int64 × IM × RM)} (hk49 : ∀ {x1 : Int32} {x2 : Int32} {x3 : Int32} {x4 : Int64} {x6 : Int32} {σ : IM} {ρ : RM} {H : Heap} {locs : List Loc} {ls : Array Slot}, Mem lyC 48 g A (va_pl LP (skE kf)) σ ρ s.heap H locs → lv_has ls 7 [(0, .ref (g.2.2 0)), (1, .int x1), (2, .int x2), (3, .int x3), (4, .long x4), (6, .int x6)] → k49 x1 x2 x3 x4 x6 σ ρ = some out → W p l e ({ frames := 5, cells := 0, slots := 0, locals := 123 }) s m args below meth c H locs 0 0 (MQ below (Qm lyC 48 g A (va_pl LP (skE kf)) out.2.1 out.2.2 (some (.long out.1))) args s 0 0 A) (F0 m 49 ls [])) : ∀ {x1 : Int32} {x2 : Int32} {x3 : Int32} {x4 : Int64} {x6 : Int32} {σ : IM} {ρ : RM} {H : Heap} {locs : List Loc} {ls : Array Slot}, Mem lyC 48 g A (va_pl LP (skE kf)) σ ρ s.heap H locs → lv_has ls 7 [(0, .ref (g.2.2 0)), (1, .int x1), (2, .int x2), (3, .int x3), (4, .long x4), (6, .int x6)] → X11_draughts_s49 kf k49 x1 x2 x3 x4 x6 σ ρ = some out → W p l e ({ frames := 5, cells := 0, slots := 0, locals := 123 }) s m args below meth c H locs 0 0 (MQ below (Qm lyC 48 g A (va_pl LP (skE kf)) out.2.1 out.2.2 (some (.long out.1))) args s 0 0 A) (F0 m 49 ls []) := by
  intro x1 x2 x3 x4 x6 σ ρ H locs ls hM hl hF
  unfold X11_draughts_s49 at hF
  refine lv_iload S.1 S.2.1 dX11_draughts_49 (lv_at hl 5 rfl) ?_
  refine lv_iconst (v := 1) S.1 S.2.1 dX11_draughts_51 (by decide) ?_
  refine lv_iload_n S.1 S.2.1 dX11_draughts_52 rfl (lv_at hl 1 rfl) ?_
  refine lv_ishl S.1 S.2.1 dX11_draughts_53 ?_
  refine lv_icmp_ge (tgt := 91) S.1 S.2.1 dX11_draughts_54 (by decide) (fun b8 => ?_) (fun b8 => ?_)
  · have hF := (if_pos b8).symm.trans hF
    refine lv_lload S.1 S.2.1 dX11_draughts_91 (lv_at hl 4 rfl) ?_
    refine lv_iload_n S.1 S.2.1 dX11_draughts_93 rfl (lv_at hl 2 rfl) ?_
    refine lv_iload_n S.1 S.2.1 dX11_draughts_94 rfl (lv_at hl 1 rfl) ?_
    obtain ⟨r9, er9, hF⟩ := bd1_some hF
    refine k_p (va_runS (As := [.int x2, .int x1]) (rest := [.long x4]) S (c_X11_power hPL  er9) (va_cwS 2 S.2.2.2.2 (ul_S tw_3_235 tw_3_236 tw_1_1 cw_X11_power) rfl rfl rfl hs_X11_power ⟨Nat.le_of_ble_eq_true rfl, Nat.le_of_ble_eq_true rfl⟩) ⟨PreM.blind, hM.pre hK⟩ rfl rfl hl.1 rfl (lv_room (Nat.le_of_ble_eq_true rfl)) dX11_draughts_95 ⟨Nat.zero_le _, Nat.zero_le _⟩) ?_
    refine lv_iload_n S.1 S.2.1 dX11_draughts_98 rfl (lv_at hl 3 rfl) ?_
    obtain ⟨r10, er10, hF⟩ := bd1_some hF
    refine k_p (va_runS (As := [.long x4, .long r9, .int x3]) (rest := []) S (c_X11_inLeastTerms hPL  er10) (va_cwS 3 S.2.2.2.2 (ul_S tw_3_238 tw_3_239 tw_1_1 cw_X11_inLeastTerms) rfl rfl rfl hs_X11_inLeastTerms ⟨Nat.le_of_ble_eq_true rfl, Nat.le_of_ble_eq_true rfl⟩) ⟨PreM.blind, hM.pre hK⟩ rfl rfl hl.1 rfl (lv_room (Nat.le_of_ble_eq_true rfl)) dX11_draughts_99 ⟨Nat.zero_le _, Nat.zero_le _⟩) ?_
    cases hF
    exact z_ml S hM hr hlk dX11_draughts_102
  · have hF := (if_neg b8).symm.trans hF
    refine lv_aload_n S.1 S.2.1 dX11_draughts_57 rfl (lv_at hl 0 rfl) ?_
    refine lv_iload_n S.1 S.2.1 dX11_draughts_58 rfl (lv_at hl 1 rfl) ?_
    refine lv_iload S.1 S.2.1 dX11_draughts_59 (lv_at hl 5 rfl) ?_
    obtain ⟨r13, σ11, ρ12, er13, hF⟩ := bd3_some hF
    refine k_m (va_runV (As := [.int x1, .int x6]) (rest := []) S (c_X11_staysInPlay hPL  er13) (cwV 2 S.2.2.2.2 (ul_V tw_3_225 tw_3_227 ts_X11_staysInPlay tw_1_1 cw_X11_staysInPlay) rfl rfl rfl hv_X11_staysInPlay ⟨Nat.le_of_ble_eq_true rfl, Nat.le_of_ble_eq_true rfl⟩) ⟨PreM.blind, hM.recv hK cfX11 0 (by decide) ly_0, hM.pre hK⟩ rfl rfl hl.1 rfl (lv_room (Nat.le_of_ble_eq_true rfl)) dX11_draughts_61 ⟨Nat.zero_le _, Nat.zero_le _⟩) hM (fun H locs hM => ?_)
    show W _ _ _ _ _ _ _ _ _ _ _ _ _ _ _ (F0 m 64 ls [.int r13])
    refine lv_if_eq (tgt := 85) S.1 S.2.1 dX11_draughts_64 (by decide) (fun b14 => ?_) (fun b14 => ?_)
    · have hF := (if_pos b14).symm.trans hF
      exact w_X11_draughts_85 hPL S hK hr hlk hk49 hM (lv_sub hl [0, 1, 2, 3, 4, 5] rfl) hF
    · have hF := (if_neg b14).symm.trans hF
      refine lv_lload S.1 S.2.1 dX11_draughts_67 (lv_at hl 4 rfl) ?_
      refine lv_iload_n S.1 S.2.1 dX11_draughts_69 rfl (lv_at hl 2 rfl) ?_
      refine lv_iconst (v := 1) S.1 S.2.1 dX11_draughts_70 (by decide) ?_
      refine lv_isub S.1 S.2.1 dX11_draughts_71 ?_
      refine lv_iload_n S.1 S.2.1 dX11_draughts_72 rfl (lv_at hl 1 rfl) ?_
      refine lv_iload S.1 S.2.1 dX11_draughts_73 (lv_at hl 5 rfl) ?_
      obtain ⟨r15, er15, hF⟩ := bd1_some hF
      refine k_p (va_runS (As := [.int x6]) (rest := [.int x1, .int (x2 - 1), .long x4]) S (c_J6_bitCount_0f7a4 hPL  er15) (va_cwS 1 S.2.2.2.2 (ul_S tw_3_229 tw_3_230 tw_1_16 cw_J6_bitCount_0f7a4) rfl rfl rfl hs_J6_bitCount_0f7a4 ⟨Nat.le_of_ble_eq_true rfl, Nat.le_of_ble_eq_true rfl⟩) ⟨PreM.blind, hM.pre hK⟩ rfl rfl hl.1 rfl (lv_room (Nat.le_of_ble_eq_true rfl)) dX11_draughts_75 ⟨Nat.zero_le _, Nat.zero_le _⟩) ?_
      refine lv_isub S.1 S.2.1 dX11_draughts_78 ?_
      obtain ⟨r16, er16, hF⟩ := bd1_some hF
      refine k_p (va_runS (As := [.int (x2 - 1), .int (x1 - r15)]) (rest := [.long x4]) S (c_X11_power hPL  er16) (va_cwS 2 S.2.2.2.2 (ul_S tw_3_235 tw_3_236 tw_1_1 cw_X11_power) rfl rfl rfl hs_X11_power ⟨Nat.le_of_ble_eq_true rfl, Nat.le_of_ble_eq_true rfl⟩) ⟨PreM.blind, hM.pre hK⟩ rfl rfl hl.1 rfl (lv_room (Nat.le_of_ble_eq_true rfl)) dX11_draughts_79 ⟨Nat.zero_le _, Nat.zero_le _⟩) ?_
      refine lv_ladd S.1 S.2.1 dX11_draughts_82 ?_
      refine lv_topl (fun v17 ev17 => ?_)
      have hF := bd_at ev17 hF
      refine lv_lstore (lv' := [(4, .long v17), (0, .ref (g.2.2 0)), (1, .int x1), (2, .int x2), (3, .int x3), (6, .int x6)]) S.1 S.2.1 dX11_draughts_83 hl (by decide) rfl (fun ls hl => ?_)
      exact w_X11_draughts_85 hPL S hK hr hlk hk49 hM (lv_sub hl [1, 2, 3, 4, 0, 5] rfl) hF
theorem wl_X11_draughts_49 {l : Launch} {g : GE} {A : Nat → Prop} {LP : List Nat} {kf : KF} (hPL : PL LP kf) {p : Program} {e : Env} {s : State} {m : MethodId} {args : Array Value} {below : List Frame} {meth : Method} {c : Code} (S : CallFix p m c cX11_draughts 7 s args UL RX11) (hK : KK g s) (hr : meth.sig.returnType = (some .long)) (hlk : meth.locks = false) {out : Int64 × IM × RM} : ∀ (n : Nat) {x1 : Int32} {x2 : Int32} {x3 : Int32} {x4 : Int64} {x6 : Int32} {σ : IM} {ρ : RM} {H : Heap} {locs : List Loc} {ls : Array Slot}, Mem lyC 48 g A (va_pl LP (skE kf)) σ ρ s.heap H locs → lv_has ls 7 [(0, .ref (g.2.2 0)), (1, .int x1), (2, .int x2), (3, .int x3), (4, .long x4), (6, .int x6)] → X11_draughts_b49 kf n x1 x2 x3 x4 x6 σ ρ = some out → W p l e ({ frames := 5, cells := 0, slots := 0, locals := 123 }) s m args below meth c H locs 0 0 (MQ below (Qm lyC 48 g A (va_pl LP (skE kf)) out.2.1 out.2.2 (some (.long out.1))) args s 0 0 A) (F0 m 49 ls []) := by
  intro n
  induction n with
  | zero =>
    intro x1 x2 x3 x4 x6 σ ρ H locs ls hM hl hF
    cases hF
  | succ n ih =>
    intro x1 x2 x3 x4 x6 σ ρ H locs ls hM hl hF
    exact w_X11_draughts_49 hPL S hK hr hlk ih hM hl hF
def X11_draughts (kf : KF) (σ : IM) (ρ : RM) (a1 : Int32) (a2 : Int32) (a3 : Int32) : Option (Int64 × IM × RM) := bd1 (X11_isBelow a1 6) fun r1 => if r1 = 0 then (some (1000000001, σ, ρ)) else (if σ 1 8 < a1 then (some (1000000001, σ, ρ)) else (if a2 < 2 then (some (1000000001, σ, ρ)) else (if 20 < a2 then (some (1000000001, σ, ρ)) else (bd1 (X11_isBelow a3 2) fun r6 => if r6 = 0 then (some (1000000001, σ, ρ)) else (X11_draughts_b49 kf 1000 a1 a2 a3 0 0 σ ρ)))))
set_option maxRecDepth 20000 in
theorem c_X11_draughts {l : Launch} {g : GE} {A : Nat → Prop} {LP : List Nat} {kf : KF} {σ : IM} {ρ : RM} {a1 : Int32} {a2 : Int32} {a3 : Int32} {out : Int64 × IM × RM} (hPL : PL LP kf) (hF : X11_draughts kf σ ρ a1 a2 a3 = some out) : Met l yX11_draughts (.code yX11_draughts cX11_draughts 7 (some .long) :: UL) ({ frames := 5, cells := 0, slots := 0, locals := 123 }) (va_Pc [.ref (g.2.2 0), .int a1, .int a2, .int a3] (PreM lyC 48 g A (va_pl LP (skE kf)) σ ρ)) (Qm lyC 48 g A (va_pl LP (skE kf)) out.2.1 out.2.2 (some (.long out.1))) 0 0 A := by
  refine e_of (by decide) (Nat.le_of_ble_eq_true rfl) ?_
  intro p e s m below meth c ls S hr hlk hv hl
  have hM := Mem.of hv
  have hK := hv.2.1
  have hl : lv_has ls 7 [(0, .ref (g.2.2 0)), (1, .int a1), (2, .int a2), (3, .int a3)] := hl
  unfold X11_draughts at hF
  refine lv_iload_n S.1 S.2.1 dX11_draughts_0 rfl (lv_at hl 1 rfl) ?_
  refine lv_bipush (v := 6) S.1 S.2.1 dX11_draughts_1 (by decide) ?_
  obtain ⟨r1, er1, hF⟩ := bd1_some hF
  refine k_p (va_runS (As := [.int a1, .int 6]) (rest := []) S (c_X11_isBelow hPL  er1) (va_cwS 2 S.2.2.2.2 (ul_S tw_1_229 tw_1_230 tw_1_1 cw_X11_isBelow) rfl rfl rfl hs_X11_isBelow ⟨Nat.le_of_ble_eq_true rfl, Nat.le_of_ble_eq_true rfl⟩) ⟨PreM.blind, hM.pre hK⟩ rfl rfl hl.1 rfl (lv_room (Nat.le_of_ble_eq_true rfl)) dX11_draughts_3 ⟨Nat.zero_le _, Nat.zero_le _⟩) ?_
  refine lv_if_eq (tgt := 39) S.1 S.2.1 dX11_draughts_6 (by decide) (fun b2 => ?_) (fun b2 => ?_)
  · have hF := (if_pos b2).symm.trans hF
    refine lv_ldc2 (v := 1000000001) S.1 S.2.1 S.2.2.2.1 (S.2.2.2.2 _ tw_3_224) dX11_draughts_39 ?_
    cases hF
    exact z_ml S hM hr hlk dX11_draughts_42
  · have hF := (if_neg b2).symm.trans hF
    refine lv_iload_n S.1 S.2.1 dX11_draughts_9 rfl (lv_at hl 1 rfl) ?_
    refine lv_aload_n S.1 S.2.1 dX11_draughts_10 rfl (lv_at hl 0 rfl) ?_
    refine r_getC S hK hM cfX11 0 0 1 (by decide) ly_0 rfl (by decide) tw_1_193 dX11_draughts_11 ?_
    refine r_getI S hK hM cfX1 1 8 (ct_lt0 ct_1) (ly_ct ct_1) rfl (by decide) tw_1_56 dX11_draughts_14 ?_
    refine lv_icmp_gt (tgt := 39) S.1 S.2.1 dX11_draughts_17 (by decide) (fun b3 => ?_) (fun b3 => ?_)
    · have hF := (if_pos b3).symm.trans hF
      refine lv_ldc2 (v := 1000000001) S.1 S.2.1 S.2.2.2.1 (S.2.2.2.2 _ tw_3_224) dX11_draughts_39 ?_
      cases hF
      exact z_ml S hM hr hlk dX11_draughts_42
    · have hF := (if_neg b3).symm.trans hF
      refine lv_iload_n S.1 S.2.1 dX11_draughts_20 rfl (lv_at hl 2 rfl) ?_
      refine lv_iconst (v := 2) S.1 S.2.1 dX11_draughts_21 (by decide) ?_
      refine lv_icmp_lt (tgt := 39) S.1 S.2.1 dX11_draughts_22 (by decide) (fun b4 => ?_) (fun b4 => ?_)
      · have hF := (if_pos b4).symm.trans hF
        refine lv_ldc2 (v := 1000000001) S.1 S.2.1 S.2.2.2.1 (S.2.2.2.2 _ tw_3_224) dX11_draughts_39 ?_
        cases hF
        exact z_ml S hM hr hlk dX11_draughts_42
      · have hF := (if_neg b4).symm.trans hF
        refine lv_iload_n S.1 S.2.1 dX11_draughts_25 rfl (lv_at hl 2 rfl) ?_
        refine lv_bipush (v := 20) S.1 S.2.1 dX11_draughts_26 (by decide) ?_
        refine lv_icmp_gt (tgt := 39) S.1 S.2.1 dX11_draughts_28 (by decide) (fun b5 => ?_) (fun b5 => ?_)
        · have hF := (if_pos b5).symm.trans hF
          refine lv_ldc2 (v := 1000000001) S.1 S.2.1 S.2.2.2.1 (S.2.2.2.2 _ tw_3_224) dX11_draughts_39 ?_
          cases hF
          exact z_ml S hM hr hlk dX11_draughts_42
        · have hF := (if_neg b5).symm.trans hF
          refine lv_iload_n S.1 S.2.1 dX11_draughts_31 rfl (lv_at hl 3 rfl) ?_
          refine lv_iconst (v := 2) S.1 S.2.1 dX11_draughts_32 (by decide) ?_
          obtain ⟨r6, er6, hF⟩ := bd1_some hF
          refine k_p (va_runS (As := [.int a3, .int 2]) (rest := []) S (c_X11_isBelow hPL  er6) (va_cwS 2 S.2.2.2.2 (ul_S tw_1_229 tw_1_230 tw_1_1 cw_X11_isBelow) rfl rfl rfl hs_X11_isBelow ⟨Nat.le_of_ble_eq_true rfl, Nat.le_of_ble_eq_true rfl⟩) ⟨PreM.blind, hM.pre hK⟩ rfl rfl hl.1 rfl (lv_room (Nat.le_of_ble_eq_true rfl)) dX11_draughts_33 ⟨Nat.zero_le _, Nat.zero_le _⟩) ?_
          refine lv_if_ne (tgt := 43) S.1 S.2.1 dX11_draughts_36 (by decide) (fun b7 => ?_) (fun b7 => ?_)
          · have hF := (if_neg b7).symm.trans hF
            refine lv_lconst (v := 0) S.1 S.2.1 dX11_draughts_43 (by decide) ?_
            refine lv_lstore (lv' := [(4, .long 0), (0, .ref (g.2.2 0)), (1, .int a1), (2, .int a2), (3, .int a3)]) S.1 S.2.1 dX11_draughts_44 hl (by decide) rfl (fun ls hl => ?_)
            refine lv_iconst (v := 0) S.1 S.2.1 dX11_draughts_46 (by decide) ?_
            refine lv_istore (lv' := [(6, .int 0), (4, .long 0), (0, .ref (g.2.2 0)), (1, .int a1), (2, .int a2), (3, .int a3)]) S.1 S.2.1 dX11_draughts_47 hl (by decide) rfl (fun ls hl => ?_)
            exact wl_X11_draughts_49 hPL S hK hr hlk 1000 hM (lv_sub hl [2, 3, 4, 5, 1, 0] rfl) hF
          · have hF := (if_pos b7).symm.trans hF
            refine lv_ldc2 (v := 1000000001) S.1 S.2.1 S.2.2.2.1 (S.2.2.2.2 _ tw_3_224) dX11_draughts_39 ?_
            cases hF
            exact z_ml S hM hr hlk dX11_draughts_42
/-! X11_mean -/
def X11_mean (kf : KF) (σ : IM) (ρ : RM) (a1 : Int32) : Option Int64 := bd1 (X11_isBelow a1 2) fun r1 => if r1 = 0 then (some 1000000001) else (bd1 (X1_allTired kf σ ρ 1) fun r3 => bd1 (X11_inLeastTerms ((r3 : Int32).toInt64) 4 a1) fun r4 => some r4)
set_option maxRecDepth 20000 in
theorem c_X11_mean {l : Launch} {g : GE} {A : Nat → Prop} {LP : List Nat} {kf : KF} {σ : IM} {ρ : RM} {a1 : Int32} {out : Int64} (hPL : PL LP kf) (hF : X11_mean kf σ ρ a1 = some out) : Met l yX11_mean (.code yX11_mean cX11_mean 2 (some .long) :: UL) ({ frames := 3, cells := 0, slots := 0, locals := 77 }) (va_Pc [.ref (g.2.2 0), .int a1] (PreM lyC 48 g A (va_pl LP (skE kf)) σ ρ)) (Qp (some (.long out))) 0 0 NoA := by
  refine e_of (by decide) (Nat.le_of_ble_eq_true rfl) ?_
  intro p e s m below meth c ls S hr hlk hv hl
  have hM := Mem.of hv
  have hK := hv.2.1
  have hl : lv_has ls 2 [(0, .ref (g.2.2 0)), (1, .int a1)] := hl
  unfold X11_mean at hF
  refine lv_iload_n S.1 S.2.1 dX11_mean_0 rfl (lv_at hl 1 rfl) ?_
  refine lv_iconst (v := 2) S.1 S.2.1 dX11_mean_1 (by decide) ?_
  obtain ⟨r1, er1, hF⟩ := bd1_some hF
  refine k_p (va_runS (As := [.int a1, .int 2]) (rest := []) S (c_X11_isBelow hPL  er1) (va_cwS 2 S.2.2.2.2 (ul_S tw_1_229 tw_1_230 tw_1_1 cw_X11_isBelow) rfl rfl rfl hs_X11_isBelow ⟨Nat.le_of_ble_eq_true rfl, Nat.le_of_ble_eq_true rfl⟩) ⟨PreM.blind, hM.pre hK⟩ rfl rfl hl.1 rfl (lv_room (Nat.le_of_ble_eq_true rfl)) dX11_mean_2 ⟨Nat.zero_le _, Nat.zero_le _⟩) ?_
  refine lv_if_eq (tgt := 26) S.1 S.2.1 dX11_mean_5 (by decide) (fun b2 => ?_) (fun b2 => ?_)
  · have hF := (if_pos b2).symm.trans hF
    refine lv_ldc2 (v := 1000000001) S.1 S.2.1 S.2.2.2.1 (S.2.2.2.2 _ tw_3_224) dX11_mean_26 ?_
    cases hF
    exact z_pl S hr hlk dX11_mean_29
  · have hF := (if_neg b2).symm.trans hF
    refine lv_aload_n S.1 S.2.1 dX11_mean_8 rfl (lv_at hl 0 rfl) ?_
    refine r_getC S hK hM cfX11 0 0 1 (by decide) ly_0 rfl (by decide) tw_1_193 dX11_mean_9 ?_
    obtain ⟨r3, er3, hF⟩ := bd1_some hF
    refine k_p (va_runV (As := []) (rest := []) S (c_X1_allTired hPL ct_1 er3) (cwV 0 S.2.2.2.2 (ul_V tw_4_11 tw_4_12 tw_4_13 tw_1_2 cw_X1_allTired) rfl rfl rfl hv_X1_allTired ⟨Nat.le_of_ble_eq_true rfl, Nat.le_of_ble_eq_true rfl⟩) ⟨PreM.blind, hM.recv hK cfX1 1 (ct_lt0 ct_1) (ly_ct ct_1), hM.pre hK⟩ rfl rfl hl.1 rfl (lv_room (Nat.le_of_ble_eq_true rfl)) dX11_mean_12 ⟨Nat.zero_le _, Nat.zero_le _⟩) ?_
    refine lv_i2l S.1 S.2.1 dX11_mean_15 rfl ?_
    refine lv_ldc2 (v := 4) S.1 S.2.1 S.2.2.2.1 (S.2.2.2.2 _ tw_4_15) dX11_mean_16 ?_
    refine lv_iload_n S.1 S.2.1 dX11_mean_19 rfl (lv_at hl 1 rfl) ?_
    obtain ⟨r4, er4, hF⟩ := bd1_some hF
    refine k_p (va_runS (As := [.long ((r3 : Int32).toInt64), .long 4, .int a1]) (rest := []) S (c_X11_inLeastTerms hPL  er4) (va_cwS 3 S.2.2.2.2 (ul_S tw_3_238 tw_3_239 tw_1_1 cw_X11_inLeastTerms) rfl rfl rfl hs_X11_inLeastTerms ⟨Nat.le_of_ble_eq_true rfl, Nat.le_of_ble_eq_true rfl⟩) ⟨PreM.blind, hM.pre hK⟩ rfl rfl hl.1 rfl (lv_room (Nat.le_of_ble_eq_true rfl)) dX11_mean_20 ⟨Nat.zero_le _, Nat.zero_le _⟩) ?_
    refine lv_goto (tgt := 29) S.1 S.2.1 dX11_mean_23 (by decide) ?_
    cases hF
    exact z_pl S hr hlk dX11_mean_29
/-! X11_forged -/
def X11_forged_s36 (kf : KF) (k36 : Nat → Int32 → Int32 → IM → RM → Option (Int32 × IM × RM)) (x3 : Nat) (x4 : Int32) (x5 : Int32) (σ : IM) (ρ : RM) : Option (Int32 × IM × RM) := if (σ (29 + 2 * x3) 3) / 2 ≤ x5 then (some ((-4), σ, ρ)) else (if x4 = 0 then (rd (σ (29 + 2 * x3 + 1)) 100 (2 * x5) fun v9 => rd (σ (29 + 2 * x3 + 1)) 100 ((2 * x5) + 1) fun v10 => bd1 (X1_isHit kf σ ρ 1 v9 v10) fun r11 => if r11 = 0 then (some (x5, σ, ρ)) else (rd (σ (29 + 2 * x3 + 1)) 100 (2 * x5) fun v13 => rd (σ (29 + 2 * x3 + 1)) 100 ((2 * x5) + 1) fun v14 => bd3 (X1_strike kf σ ρ 10 v13 v14) fun r17 σ15 ρ16 => bd (x5 + 1) fun v18 => k36 x3 r17 v18 σ15 ρ16)) else (some (x5, σ, ρ)))
def X11_forged_b36 (kf : KF) : Nat → Nat → Int32 → Int32 → IM → RM → Option (Int32 × IM × RM)
  | 0 => fun _ _ _ _ _ => none
  | n + 1 => X11_forged_s36 kf (X11_forged_b36 kf n)
set_option maxRecDepth 20000 in
theorem w_X11_forged_36 {l : Launch} {g : GE} {A : Nat → Prop} {LP : List Nat} {kf : KF} (hPL : PL LP kf) {p : Program} {e : Env} {s : State} {m : MethodId} {args : Array Value} {below : List Frame} {meth : Method} {c : Code} (S : CallFix p m c cX11_forged 6 s args UL RX11) (hK : KK g s) (hr : meth.sig.returnType = (some .int)) (hlk : meth.locks = false) {out : Int32 × IM × RM} {k36 : Nat → Int32 → Int32 → IM → RM → Option (Int32 × IM × RM)} (hk36 : ∀ {x3 : Nat} {x4 : Int32} {x5 : Int32} {σ : IM} {ρ : RM} {H : Heap} {locs : List Loc} {ls : Array Slot}, x3 < 8 → Mem lyC 48 g A (va_pl LP (skE kf)) σ ρ s.heap H locs → lv_has ls 6 [(0, .ref (g.2.2 0)), (3, .ref (g.2.2 (29 + 2 * x3))), (4, .int x4), (5, .int x5)] → k36 x3 x4 x5 σ ρ = some out → W p l e ({ frames := 4, cells := 0, slots := 0, locals := 100 }) s m args below meth c H locs 0 0 (MQ below (Qm lyC 48 g A (va_pl LP (skE kf)) out.2.1 out.2.2 (some (.int out.1))) args s 0 0 A) (F0 m 36 ls [])) : ∀ {x3 : Nat} {x4 : Int32} {x5 : Int32} {σ : IM} {ρ : RM} {H : Heap} {locs : List Loc} {ls : Array Slot}, x3 < 8 → Mem lyC 48 g A (va_pl LP (skE kf)) σ ρ s.heap H locs → lv_has ls 6 [(0, .ref (g.2.2 0)), (3, .ref (g.2.2 (29 + 2 * x3))), (4, .int x4), (5, .int x5)] → X11_forged_s36 kf k36 x3 x4 x5 σ ρ = some out → W p l e ({ frames := 4, cells := 0, slots := 0, locals := 100 }) s m args below meth c H locs 0 0 (MQ below (Qm lyC 48 g A (va_pl LP (skE kf)) out.2.1 out.2.2 (some (.int out.1))) args s 0 0 A) (F0 m 36 ls []) := by
  intro x3 x4 x5 σ ρ H locs ls hx3 hM hl hF
  unfold X11_forged_s36 at hF
  refine lv_iload S.1 S.2.1 dX11_forged_36 (lv_at hl 3 rfl) ?_
  refine lv_aload_n S.1 S.2.1 dX11_forged_38 rfl (lv_at hl 1 rfl) ?_
  refine r_getI S hK hM cfX7 (29 + 2 * x3) 3 (sh_lt hx3) (ly_sh hx3) rfl (by decide) tw_1_105 dX11_forged_39 ?_
  refine lv_iconst (v := 2) S.1 S.2.1 dX11_forged_42 (by decide) ?_
  refine lv_idiv S.1 S.2.1 dX11_forged_43 (by decide) ?_
  refine lv_icmp_ge (tgt := 120) S.1 S.2.1 dX11_forged_44 (by decide) (fun b7 => ?_) (fun b7 => ?_)
  · have hF := (if_pos b7).symm.trans hF
    refine lv_bipush (v := (-4)) S.1 S.2.1 dX11_forged_120 (by decide) ?_
    cases hF
    exact z_m (v := (-4)) S hM hr hlk rfl dX11_forged_122
  · have hF := (if_neg b7).symm.trans hF
    refine lv_iload S.1 S.2.1 dX11_forged_47 (lv_at hl 2 rfl) ?_
    refine lv_if_ne (tgt := 82) S.1 S.2.1 dX11_forged_49 (by decide) (fun b8 => ?_) (fun b8 => ?_)
    · have hF := (if_neg b8).symm.trans hF
      refine lv_iload S.1 S.2.1 dX11_forged_82 (lv_at hl 3 rfl) ?_
      cases hF
      exact z_m (v := x5) S hM hr hlk rfl dX11_forged_84
    · have hF := (if_pos b8).symm.trans hF
      refine lv_aload_n S.1 S.2.1 dX11_forged_52 rfl (lv_at hl 0 rfl) ?_
      refine r_getC S hK hM cfX11 0 0 1 (by decide) ly_0 rfl (by decide) tw_1_193 dX11_forged_53 ?_
      refine lv_aload_n S.1 S.2.1 dX11_forged_56 rfl (lv_at hl 1 rfl) ?_
      refine r_getC S hK hM cfX7 (29 + 2 * x3) 0 (29 + 2 * x3 + 1) (sh_lt hx3) (ly_sh hx3) rfl (by decide) tw_1_98 dX11_forged_57 ?_
      refine lv_iconst (v := 2) S.1 S.2.1 dX11_forged_60 (by decide) ?_
      refine lv_iload S.1 S.2.1 dX11_forged_61 (lv_at hl 3 rfl) ?_
      refine lv_imul S.1 S.2.1 dX11_forged_63 ?_
      obtain ⟨hv9, v9, ev9, hF⟩ := rd_some hF
      refine r_iald S hK hM (29 + 2 * x3 + 1) (sh_lt1 hx3) (ly_sh1 hx3) hv9 ev9 dX11_forged_64 ?_
      refine lv_aload_n S.1 S.2.1 dX11_forged_65 rfl (lv_at hl 1 rfl) ?_
      refine r_getC S hK hM cfX7 (29 + 2 * x3) 0 (29 + 2 * x3 + 1) (sh_lt hx3) (ly_sh hx3) rfl (by decide) tw_1_98 dX11_forged_66 ?_
      refine lv_iconst (v := 2) S.1 S.2.1 dX11_forged_69 (by decide) ?_
      refine lv_iload S.1 S.2.1 dX11_forged_70 (lv_at hl 3 rfl) ?_
      refine lv_imul S.1 S.2.1 dX11_forged_72 ?_
      refine lv_iconst (v := 1) S.1 S.2.1 dX11_forged_73 (by decide) ?_
      refine lv_iadd S.1 S.2.1 dX11_forged_74 ?_
      obtain ⟨hv10, v10, ev10, hF⟩ := rd_some hF
      refine r_iald S hK hM (29 + 2 * x3 + 1) (sh_lt1 hx3) (ly_sh1 hx3) hv10 ev10 dX11_forged_75 ?_
      obtain ⟨r11, er11, hF⟩ := bd1_some hF
      refine k_p (va_runV (As := [.int v9, .int v10]) (rest := []) S (c_X1_isHit hPL ct_1 er11) (cwV 2 S.2.2.2.2 (ul_V tw_3_54 tw_2_65 tw_2_66 tw_1_2 cw_X1_isHit) rfl rfl rfl hv_X1_isHit ⟨Nat.le_of_ble_eq_true rfl, Nat.le_of_ble_eq_true rfl⟩) ⟨PreM.blind, hM.recv hK cfX1 1 (ct_lt0 ct_1) (ly_ct ct_1), hM.pre hK⟩ rfl rfl hl.1 rfl (lv_room (Nat.le_of_ble_eq_true rfl)) dX11_forged_76 ⟨Nat.zero_le _, Nat.zero_le _⟩) ?_
      refine lv_if_ne (tgt := 85) S.1 S.2.1 dX11_forged_79 (by decide) (fun b12 => ?_) (fun b12 => ?_)
      · have hF := (if_neg b12).symm.trans hF
        refine lv_aload_n S.1 S.2.1 dX11_forged_85 rfl (lv_at hl 0 rfl) ?_
        refine r_getC S hK hM cfX11 0 1 10 (by decide) ly_0 rfl (by decide) tw_1_194 dX11_forged_86 ?_
        refine lv_aload_n S.1 S.2.1 dX11_forged_89 rfl (lv_at hl 1 rfl) ?_
        refine r_getC S hK hM cfX7 (29 + 2 * x3) 0 (29 + 2 * x3 + 1) (sh_lt hx3) (ly_sh hx3) rfl (by decide) tw_1_98 dX11_forged_90 ?_
        refine lv_iconst (v := 2) S.1 S.2.1 dX11_forged_93 (by decide) ?_
        refine lv_iload S.1 S.2.1 dX11_forged_94 (lv_at hl 3 rfl) ?_
        refine lv_imul S.1 S.2.1 dX11_forged_96 ?_
        obtain ⟨hv13, v13, ev13, hF⟩ := rd_some hF
        refine r_iald S hK hM (29 + 2 * x3 + 1) (sh_lt1 hx3) (ly_sh1 hx3) hv13 ev13 dX11_forged_97 ?_
        refine lv_aload_n S.1 S.2.1 dX11_forged_98 rfl (lv_at hl 1 rfl) ?_
        refine r_getC S hK hM cfX7 (29 + 2 * x3) 0 (29 + 2 * x3 + 1) (sh_lt hx3) (ly_sh hx3) rfl (by decide) tw_1_98 dX11_forged_99 ?_
        refine lv_iconst (v := 2) S.1 S.2.1 dX11_forged_102 (by decide) ?_
        refine lv_iload S.1 S.2.1 dX11_forged_103 (lv_at hl 3 rfl) ?_
        refine lv_imul S.1 S.2.1 dX11_forged_105 ?_
        refine lv_iconst (v := 1) S.1 S.2.1 dX11_forged_106 (by decide) ?_
        refine lv_iadd S.1 S.2.1 dX11_forged_107 ?_
        obtain ⟨hv14, v14, ev14, hF⟩ := rd_some hF
        refine r_iald S hK hM (29 + 2 * x3 + 1) (sh_lt1 hx3) (ly_sh1 hx3) hv14 ev14 dX11_forged_108 ?_
        obtain ⟨r17, σ15, ρ16, er17, hF⟩ := bd3_some hF
        refine k_m (va_runV (As := [.int v13, .int v14]) (rest := []) S (c_X1_strike hPL ct_10 er17) (cwV 2 S.2.2.2.2 (ul_V tw_3_49 tw_2_73 tw_2_74 tw_1_2 cw_X1_strike) rfl rfl rfl hv_X1_strike ⟨Nat.le_of_ble_eq_true rfl, Nat.le_of_ble_eq_true rfl⟩) ⟨PreM.blind, hM.recv hK cfX1 10 (ct_lt0 ct_10) (ly_ct ct_10), hM.pre hK⟩ rfl rfl hl.1 rfl (lv_room (Nat.le_of_ble_eq_true rfl)) dX11_forged_109 ⟨Nat.zero_le _, Nat.zero_le _⟩) hM (fun H locs hM => ?_)
        show W _ _ _ _ _ _ _ _ _ _ _ _ _ _ _ (F0 m 112 ls [.int r17])
        refine lv_istore (lv' := [(4, .int r17), (0, .ref (g.2.2 0)), (3, .ref (g.2.2 (29 + 2 * x3))), (5, .int x5)]) S.1 S.2.1 dX11_forged_112 hl (by decide) rfl (fun ls hl => ?_)
        obtain ⟨v18, ev18, hF⟩ := bd_some hF
        refine lv_iinc (v := v18) (lv' := [(5, .int v18), (4, .int r17), (0, .ref (g.2.2 0)), (3, .ref (g.2.2 (29 + 2 * x3)))]) S.1 S.2.1 dX11_forged_114 hl (k := 3) rfl (by rw [ev18]; rfl) (by decide) rfl (fun ls hl => ?_)
        refine lv_goto (tgt := 36) S.1 S.2.1 dX11_forged_117 (by decide) ?_
        exact hk36 hx3 hM (lv_sub hl [2, 3, 1, 0] rfl)  hF
      · have hF := (if_pos b12).symm.trans hF
        refine lv_iload S.1 S.2.1 dX11_forged_82 (lv_at hl 3 rfl) ?_
        cases hF
        exact z_m (v := x5) S hM hr hlk rfl dX11_forged_84
theorem wl_X11_forged_36 {l : Launch} {g : GE} {A : Nat → Prop} {LP : List Nat} {kf : KF} (hPL : PL LP kf) {p : Program} {e : Env} {s : State} {m : MethodId} {args : Array Value} {below : List Frame} {meth : Method} {c : Code} (S : CallFix p m c cX11_forged 6 s args UL RX11) (hK : KK g s) (hr : meth.sig.returnType = (some .int)) (hlk : meth.locks = false) {out : Int32 × IM × RM} : ∀ (n : Nat) {x3 : Nat} {x4 : Int32} {x5 : Int32} {σ : IM} {ρ : RM} {H : Heap} {locs : List Loc} {ls : Array Slot}, x3 < 8 → Mem lyC 48 g A (va_pl LP (skE kf)) σ ρ s.heap H locs → lv_has ls 6 [(0, .ref (g.2.2 0)), (3, .ref (g.2.2 (29 + 2 * x3))), (4, .int x4), (5, .int x5)] → X11_forged_b36 kf n x3 x4 x5 σ ρ = some out → W p l e ({ frames := 4, cells := 0, slots := 0, locals := 100 }) s m args below meth c H locs 0 0 (MQ below (Qm lyC 48 g A (va_pl LP (skE kf)) out.2.1 out.2.2 (some (.int out.1))) args s 0 0 A) (F0 m 36 ls []) := by
  intro n
  induction n with
  | zero =>
    intro x3 x4 x5 σ ρ H locs ls hx3 hM hl hF
    cases hF
  | succ n ih =>
    intro x3 x4 x5 σ ρ H locs ls hx3 hM hl hF
    exact w_X11_forged_36 hPL S hK hr hlk ih hx3 hM hl hF
def X11_forged (kf : KF) (σ : IM) (ρ : RM) (a1 : Int32) : Option (Int32 × IM × RM) := bd1 (X11_refusalOfHits kf σ ρ a1) fun r1 => if r1 = 0 then (ix 8 a1 fun j3 => bd2 (X1_become kf σ ρ 10 1) fun σ4 ρ5 => X11_forged_b36 kf 1000 j3 0 0 σ4 ρ5) else (some (r1, σ, ρ))
set_option maxRecDepth 20000 in
theorem c_X11_forged {l : Launch} {g : GE} {A : Nat → Prop} {LP : List Nat} {kf : KF} {σ : IM} {ρ : RM} {a1 : Int32} {out : Int32 × IM × RM} (hPL : PL LP kf) (hF : X11_forged kf σ ρ a1 = some out) : Met l yX11_forged (.code yX11_forged cX11_forged 6 (some .int) :: UL) ({ frames := 4, cells := 0, slots := 0, locals := 100 }) (va_Pc [.ref (g.2.2 0), .int a1] (PreM lyC 48 g A (va_pl LP (skE kf)) σ ρ)) (Qm lyC 48 g A (va_pl LP (skE kf)) out.2.1 out.2.2 (some (.int out.1))) 0 0 A := by
  refine e_of (by decide) (Nat.le_of_ble_eq_true rfl) ?_
  intro p e s m below meth c ls S hr hlk hv hl
  have hM := Mem.of hv
  have hK := hv.2.1
  have hl : lv_has ls 6 [(0, .ref (g.2.2 0)), (1, .int a1)] := hl
  unfold X11_forged at hF
  refine lv_aload_n S.1 S.2.1 dX11_forged_0 rfl (lv_at hl 0 rfl) ?_
  refine lv_iload_n S.1 S.2.1 dX11_forged_1 rfl (lv_at hl 1 rfl) ?_
  obtain ⟨r1, er1, hF⟩ := bd1_some hF
  refine k_p (va_runV (As := [.int a1]) (rest := []) S (c_X11_refusalOfHits hPL  er1) (cwV 1 S.2.2.2.2 (ul_V tw_3_147 tw_3_149 ts_X11_refusalOfHits tw_1_1 cw_X11_refusalOfHits) rfl rfl rfl hv_X11_refusalOfHits ⟨Nat.le_of_ble_eq_true rfl, Nat.le_of_ble_eq_true rfl⟩) ⟨PreM.blind, hM.recv hK cfX11 0 (by decide) ly_0, hM.pre hK⟩ rfl rfl hl.1 rfl (lv_room (Nat.le_of_ble_eq_true rfl)) dX11_forged_2 ⟨Nat.zero_le _, Nat.zero_le _⟩) ?_
  refine lv_istore_n (lv' := [(2, .int r1), (0, .ref (g.2.2 0)), (1, .int a1)]) S.1 S.2.1 dX11_forged_5 rfl hl (by decide) rfl (fun ls hl => ?_)
  refine lv_iload_n S.1 S.2.1 dX11_forged_6 rfl (lv_at hl 0 rfl) ?_
  refine lv_if_eq (tgt := 12) S.1 S.2.1 dX11_forged_7 (by decide) (fun b2 => ?_) (fun b2 => ?_)
  · have hF := (if_pos b2).symm.trans hF
    refine lv_aload_n S.1 S.2.1 dX11_forged_12 rfl (lv_at hl 1 rfl) ?_
    refine r_getC S hK hM cfX11 0 4 28 (by decide) ly_0 rfl (by decide) tw_1_197 dX11_forged_13 ?_
    refine lv_iload_n S.1 S.2.1 dX11_forged_16 rfl (lv_at hl 2 rfl) ?_
    obtain ⟨hj3, j3, ej3, lj3, hF⟩ := ix_some hF
    refine r_aaldS S hK hM 28 (by decide) ly_28 hj3 ej3 dX11_forged_17 ?_
    refine lv_astore_n (lv' := [(3, .ref (g.2.2 (29 + 2 * j3))), (2, .int r1), (0, .ref (g.2.2 0)), (1, .int a1)]) S.1 S.2.1 dX11_forged_18 rfl hl (by decide) rfl (fun ls hl => ?_)
    refine lv_aload_n S.1 S.2.1 dX11_forged_19 rfl (lv_at hl 2 rfl) ?_
    refine r_getC S hK hM cfX11 0 1 10 (by decide) ly_0 rfl (by decide) tw_1_194 dX11_forged_20 ?_
    refine lv_aload_n S.1 S.2.1 dX11_forged_23 rfl (lv_at hl 2 rfl) ?_
    refine r_getC S hK hM cfX11 0 0 1 (by decide) ly_0 rfl (by decide) tw_1_193 dX11_forged_24 ?_
    obtain ⟨σ4, ρ5, er6, hF⟩ := bd2_some hF
    refine k_m (va_runV (As := [.ref (g.2.2 1)]) (rest := []) S (c_X1_become hPL ct_10 ct_1 er6) (cwV 1 S.2.2.2.2 (ul_V tw_2_18 tw_2_19 tw_2_20 tw_1_2 cw_X1_become) rfl rfl rfl hv_X1_become ⟨Nat.le_of_ble_eq_true rfl, Nat.le_of_ble_eq_true rfl⟩) ⟨PreM.blind, hM.recv hK cfX1 10 (ct_lt0 ct_10) (ly_ct ct_10), hM.pre hK⟩ rfl rfl hl.1 rfl (lv_room (Nat.le_of_ble_eq_true rfl)) dX11_forged_27 ⟨Nat.zero_le _, Nat.zero_le _⟩) hM (fun H locs hM => ?_)
    show W _ _ _ _ _ _ _ _ _ _ _ _ _ _ _ (F0 m 30 ls [])
    refine lv_iconst (v := 0) S.1 S.2.1 dX11_forged_30 (by decide) ?_
    refine lv_istore (lv' := [(4, .int 0), (3, .ref (g.2.2 (29 + 2 * j3))), (2, .int r1), (0, .ref (g.2.2 0)), (1, .int a1)]) S.1 S.2.1 dX11_forged_31 hl (by decide) rfl (fun ls hl => ?_)
    refine lv_iconst (v := 0) S.1 S.2.1 dX11_forged_33 (by decide) ?_
    refine lv_istore (lv' := [(5, .int 0), (4, .int 0), (3, .ref (g.2.2 (29 + 2 * j3))), (2, .int r1), (0, .ref (g.2.2 0)), (1, .int a1)]) S.1 S.2.1 dX11_forged_34 hl (by decide) rfl (fun ls hl => ?_)
    exact wl_X11_forged_36 hPL S hK hr hlk 1000 lj3 hM (lv_sub hl [4, 2, 1, 0] rfl) hF
  · have hF := (if_neg b2).symm.trans hF
    refine lv_iload_n S.1 S.2.1 dX11_forged_10 rfl (lv_at hl 0 rfl) ?_
    cases hF
    exact z_m (v := r1) S hM hr hlk rfl dX11_forged_11
/-! X11_judge -/
def X11_judge_b77 (kf : KF) (k47 : Nat → Int32 → IM → RM → Option (Int32 × IM × RM)) (x3 : Nat) (x4 : Int32) (σ : IM) (ρ : RM) : Option (Int32 × IM × RM) := rd (σ (10 + 7)) 2 0 fun v14 => rd (σ (10 + 7)) 2 1 fun v15 => bd1 (X7_allows kf σ ρ x3 x4 (v14 + v15)) fun r16 => if r16 = 0 then (some (x4, σ, ρ)) else (bd (x4 + 1) fun v18 => k47 x3 v18 σ ρ)
set_option maxRecDepth 20000 in
theorem w_X11_judge_77 {l : Launch} {g : GE} {A : Nat → Prop} {LP : List Nat} {kf : KF} (hPL : PL LP kf) {p : Program} {e : Env} {s : State} {m : MethodId} {args : Array Value} {below : List Frame} {meth : Method} {c : Code} (S : CallFix p m c cX11_judge 5 s args UL RX11) (hK : KK g s) (hr : meth.sig.returnType = (some .int)) (hlk : meth.locks = false) {out : Int32 × IM × RM} {k47 : Nat → Int32 → IM → RM → Option (Int32 × IM × RM)} (hk47 : ∀ {x3 : Nat} {x4 : Int32} {σ : IM} {ρ : RM} {H : Heap} {locs : List Loc} {ls : Array Slot}, x3 < 8 → Mem lyC 48 g A (va_pl LP (skE kf)) σ ρ s.heap H locs → lv_has ls 5 [(0, .ref (g.2.2 0)), (3, .ref (g.2.2 (29 + 2 * x3))), (4, .int x4)] → k47 x3 x4 σ ρ = some out → W p l e ({ frames := 4, cells := 0, slots := 0, locals := 100 }) s m args below meth c H locs 0 0 (MQ below (Qm lyC 48 g A (va_pl LP (skE kf)) out.2.1 out.2.2 (some (.int out.1))) args s 0 0 A) (F0 m 47 ls [])) : ∀ {x3 : Nat} {x4 : Int32} {σ : IM} {ρ : RM} {H : Heap} {locs : List Loc} {ls : Array Slot}, x3 < 8 → Mem lyC 48 g A (va_pl LP (skE kf)) σ ρ s.heap H locs → lv_has ls 5 [(0, .ref (g.2.2 0)), (3, .ref (g.2.2 (29 + 2 * x3))), (4, .int x4)] → X11_judge_b77 kf k47 x3 x4 σ ρ = some out → W p l e ({ frames := 4, cells := 0, slots := 0, locals := 100 }) s m args below meth c H locs 0 0 (MQ below (Qm lyC 48 g A (va_pl LP (skE kf)) out.2.1 out.2.2 (some (.int out.1))) args s 0 0 A) (F0 m 77 ls []) := by
  intro x3 x4 σ ρ H locs ls hx3 hM hl hF
  unfold X11_judge_b77 at hF
  refine lv_aload_n S.1 S.2.1 dX11_judge_77 rfl (lv_at hl 1 rfl) ?_
  refine lv_iload S.1 S.2.1 dX11_judge_78 (lv_at hl 2 rfl) ?_
  refine lv_aload_n S.1 S.2.1 dX11_judge_80 rfl (lv_at hl 0 rfl) ?_
  refine r_getC S hK hM cfX11 0 1 10 (by decide) ly_0 rfl (by decide) tw_1_194 dX11_judge_81 ?_
  refine r_getC S hK hM cfX1 10 6 (10 + 7) (ct_lt0 ct_10) (ly_ct ct_10) rfl (by decide) tw_1_52 dX11_judge_84 ?_
  refine lv_iconst (v := 0) S.1 S.2.1 dX11_judge_87 (by decide) ?_
  obtain ⟨hv14, v14, ev14, hF⟩ := rd_some hF
  refine r_iald S hK hM (10 + 7) (ct_lt ct_10 7 (by decide)) (ly_c7 ct_10) hv14 ev14 dX11_judge_88 ?_
  refine lv_aload_n S.1 S.2.1 dX11_judge_89 rfl (lv_at hl 0 rfl) ?_
  refine r_getC S hK hM cfX11 0 1 10 (by decide) ly_0 rfl (by decide) tw_1_194 dX11_judge_90 ?_
  refine r_getC S hK hM cfX1 10 6 (10 + 7) (ct_lt0 ct_10) (ly_ct ct_10) rfl (by decide) tw_1_52 dX11_judge_93 ?_
  refine lv_iconst (v := 1) S.1 S.2.1 dX11_judge_96 (by decide) ?_
  obtain ⟨hv15, v15, ev15, hF⟩ := rd_some hF
  refine r_iald S hK hM (10 + 7) (ct_lt ct_10 7 (by decide)) (ly_c7 ct_10) hv15 ev15 dX11_judge_97 ?_
  refine lv_iadd S.1 S.2.1 dX11_judge_98 ?_
  obtain ⟨r16, er16, hF⟩ := bd1_some hF
  refine k_p (va_runV (As := [.int x4, .int (v14 + v15)]) (rest := []) S (c_X7_allows hPL hx3 er16) (cwV 2 S.2.2.2.2 (ul_V tw_3_189 tw_3_190 tw_3_191 tw_1_3 cw_X7_allows) rfl rfl rfl hv_X7_allows ⟨Nat.le_of_ble_eq_true rfl, Nat.le_of_ble_eq_true rfl⟩) ⟨PreM.blind, hM.recv hK cfX7 (29 + 2 * x3) (sh_lt hx3) (ly_sh hx3), hM.pre hK⟩ rfl rfl hl.1 rfl (lv_room (Nat.le_of_ble_eq_true rfl)) dX11_judge_99 ⟨Nat.zero_le _, Nat.zero_le _⟩) ?_
  refine lv_if_ne (tgt := 108) S.1 S.2.1 dX11_judge_102 (by decide) (fun b17 => ?_) (fun b17 => ?_)
  · have hF := (if_neg b17).symm.trans hF
    obtain ⟨v18, ev18, hF⟩ := bd_some hF
    refine lv_iinc (v := v18) (lv' := [(4, .int v18), (0, .ref (g.2.2 0)), (3, .ref (g.2.2 (29 + 2 * x3)))]) S.1 S.2.1 dX11_judge_108 hl (k := 2) rfl (by rw [ev18]; rfl) (by decide) rfl (fun ls hl => ?_)
    refine lv_goto (tgt := 47) S.1 S.2.1 dX11_judge_111 (by decide) ?_
    exact hk47 hx3 hM (lv_sub hl [1, 2, 0] rfl)  hF
  · have hF := (if_pos b17).symm.trans hF
    refine lv_iload S.1 S.2.1 dX11_judge_105 (lv_at hl 2 rfl) ?_
    cases hF
    exact z_m (v := x4) S hM hr hlk rfl dX11_judge_107
def X11_judge_s47 (kf : KF) (k47 : Nat → Int32 → IM → RM → Option (Int32 × IM × RM)) (x3 : Nat) (x4 : Int32) (σ : IM) (ρ : RM) : Option (Int32 × IM × RM) := if σ (29 + 2 * x3) 3 ≤ x4 then (some ((-4), σ, ρ)) else (if x4 ≤ 0 then (X11_judge_b77 kf k47 x3 x4 σ ρ) else (bd1 (X11_endCell (x4 - 1)) fun r10 => bd3 (X1_strike kf σ ρ 10 0 r10) fun r13 σ11 ρ12 => X11_judge_b77 kf k47 x3 x4 σ11 ρ12))
def X11_judge_b47 (kf : KF) : Nat → Nat → Int32 → IM → RM → Option (Int32 × IM × RM)
  | 0 => fun _ _ _ _ => none
  | n + 1 => X11_judge_s47 kf (X11_judge_b47 kf n)
set_option maxRecDepth 20000 in
theorem w_X11_judge_47 {l : Launch} {g : GE} {A : Nat → Prop} {LP : List Nat} {kf : KF} (hPL : PL LP kf) {p : Program} {e : Env} {s : State} {m : MethodId} {args : Array Value} {below : List Frame} {meth : Method} {c : Code} (S : CallFix p m c cX11_judge 5 s args UL RX11) (hK : KK g s) (hr : meth.sig.returnType = (some .int)) (hlk : meth.locks = false) {out : Int32 × IM × RM} {k47 : Nat → Int32 → IM → RM → Option (Int32 × IM × RM)} (hk47 : ∀ {x3 : Nat} {x4 : Int32} {σ : IM} {ρ : RM} {H : Heap} {locs : List Loc} {ls : Array Slot}, x3 < 8 → Mem lyC 48 g A (va_pl LP (skE kf)) σ ρ s.heap H locs → lv_has ls 5 [(0, .ref (g.2.2 0)), (3, .ref (g.2.2 (29 + 2 * x3))), (4, .int x4)] → k47 x3 x4 σ ρ = some out → W p l e ({ frames := 4, cells := 0, slots := 0, locals := 100 }) s m args below meth c H locs 0 0 (MQ below (Qm lyC 48 g A (va_pl LP (skE kf)) out.2.1 out.2.2 (some (.int out.1))) args s 0 0 A) (F0 m 47 ls [])) : ∀ {x3 : Nat} {x4 : Int32} {σ : IM} {ρ : RM} {H : Heap} {locs : List Loc} {ls : Array Slot}, x3 < 8 → Mem lyC 48 g A (va_pl LP (skE kf)) σ ρ s.heap H locs → lv_has ls 5 [(0, .ref (g.2.2 0)), (3, .ref (g.2.2 (29 + 2 * x3))), (4, .int x4)] → X11_judge_s47 kf k47 x3 x4 σ ρ = some out → W p l e ({ frames := 4, cells := 0, slots := 0, locals := 100 }) s m args below meth c H locs 0 0 (MQ below (Qm lyC 48 g A (va_pl LP (skE kf)) out.2.1 out.2.2 (some (.int out.1))) args s 0 0 A) (F0 m 47 ls []) := by
  intro x3 x4 σ ρ H locs ls hx3 hM hl hF
  unfold X11_judge_s47 at hF
  refine lv_iload S.1 S.2.1 dX11_judge_47 (lv_at hl 2 rfl) ?_
  refine lv_aload_n S.1 S.2.1 dX11_judge_49 rfl (lv_at hl 1 rfl) ?_
  refine r_getI S hK hM cfX7 (29 + 2 * x3) 3 (sh_lt hx3) (ly_sh hx3) rfl (by decide) tw_1_105 dX11_judge_50 ?_
  refine lv_icmp_ge (tgt := 114) S.1 S.2.1 dX11_judge_53 (by decide) (fun b8 => ?_) (fun b8 => ?_)
  · have hF := (if_pos b8).symm.trans hF
    refine lv_bipush (v := (-4)) S.1 S.2.1 dX11_judge_114 (by decide) ?_
    cases hF
    exact z_m (v := (-4)) S hM hr hlk rfl dX11_judge_116
  · have hF := (if_neg b8).symm.trans hF
    refine lv_iload S.1 S.2.1 dX11_judge_56 (lv_at hl 2 rfl) ?_
    refine lv_if_le (tgt := 77) S.1 S.2.1 dX11_judge_58 (by decide) (fun b9 => ?_) (fun b9 => ?_)
    · have hF := (if_pos b9).symm.trans hF
      exact w_X11_judge_77 hPL S hK hr hlk hk47 hx3 hM (lv_sub hl [0, 1, 2] rfl) hF
    · have hF := (if_neg b9).symm.trans hF
      refine lv_aload_n S.1 S.2.1 dX11_judge_61 rfl (lv_at hl 0 rfl) ?_
      refine r_getC S hK hM cfX11 0 1 10 (by decide) ly_0 rfl (by decide) tw_1_194 dX11_judge_62 ?_
      refine lv_iconst (v := 0) S.1 S.2.1 dX11_judge_65 (by decide) ?_
      refine lv_iload S.1 S.2.1 dX11_judge_66 (lv_at hl 2 rfl) ?_
      refine lv_iconst (v := 1) S.1 S.2.1 dX11_judge_68 (by decide) ?_
      refine lv_isub S.1 S.2.1 dX11_judge_69 ?_
      obtain ⟨r10, er10, hF⟩ := bd1_some hF
      refine k_p (va_runS (As := [.int (x4 - 1)]) (rest := [.int 0, .ref (g.2.2 10)]) S (c_X11_endCell hPL  er10) (va_cwS 1 S.2.2.2.2 (ul_S tw_3_217 tw_3_218 tw_1_1 cw_X11_endCell) rfl rfl rfl hs_X11_endCell ⟨Nat.le_of_ble_eq_true rfl, Nat.le_of_ble_eq_true rfl⟩) ⟨PreM.blind, hM.pre hK⟩ rfl rfl hl.1 rfl (lv_room (Nat.le_of_ble_eq_true rfl)) dX11_judge_70 ⟨Nat.zero_le _, Nat.zero_le _⟩) ?_
      obtain ⟨r13, σ11, ρ12, er13, hF⟩ := bd3_some hF
      refine k_m (va_runV (As := [.int 0, .int r10]) (rest := []) S (c_X1_strike hPL ct_10 er13) (cwV 2 S.2.2.2.2 (ul_V tw_3_49 tw_2_73 tw_2_74 tw_1_2 cw_X1_strike) rfl rfl rfl hv_X1_strike ⟨Nat.le_of_ble_eq_true rfl, Nat.le_of_ble_eq_true rfl⟩) ⟨PreM.blind, hM.recv hK cfX1 10 (ct_lt0 ct_10) (ly_ct ct_10), hM.pre hK⟩ rfl rfl hl.1 rfl (lv_room (Nat.le_of_ble_eq_true rfl)) dX11_judge_73 ⟨Nat.zero_le _, Nat.zero_le _⟩) hM (fun H locs hM => ?_)
      show W _ _ _ _ _ _ _ _ _ _ _ _ _ _ _ (F0 m 76 ls [.int r13])
      refine lv_pop S.1 S.2.1 dX11_judge_76 rfl ?_
      exact w_X11_judge_77 hPL S hK hr hlk hk47 hx3 hM (lv_sub hl [0, 1, 2] rfl) hF
theorem wl_X11_judge_47 {l : Launch} {g : GE} {A : Nat → Prop} {LP : List Nat} {kf : KF} (hPL : PL LP kf) {p : Program} {e : Env} {s : State} {m : MethodId} {args : Array Value} {below : List Frame} {meth : Method} {c : Code} (S : CallFix p m c cX11_judge 5 s args UL RX11) (hK : KK g s) (hr : meth.sig.returnType = (some .int)) (hlk : meth.locks = false) {out : Int32 × IM × RM} : ∀ (n : Nat) {x3 : Nat} {x4 : Int32} {σ : IM} {ρ : RM} {H : Heap} {locs : List Loc} {ls : Array Slot}, x3 < 8 → Mem lyC 48 g A (va_pl LP (skE kf)) σ ρ s.heap H locs → lv_has ls 5 [(0, .ref (g.2.2 0)), (3, .ref (g.2.2 (29 + 2 * x3))), (4, .int x4)] → X11_judge_b47 kf n x3 x4 σ ρ = some out → W p l e ({ frames := 4, cells := 0, slots := 0, locals := 100 }) s m args below meth c H locs 0 0 (MQ below (Qm lyC 48 g A (va_pl LP (skE kf)) out.2.1 out.2.2 (some (.int out.1))) args s 0 0 A) (F0 m 47 ls []) := by
  intro n
  induction n with
  | zero =>
    intro x3 x4 σ ρ H locs ls hx3 hM hl hF
    cases hF
  | succ n ih =>
    intro x3 x4 σ ρ H locs ls hx3 hM hl hF
    exact w_X11_judge_47 hPL S hK hr hlk ih hx3 hM hl hF
def X11_judge (kf : KF) (σ : IM) (ρ : RM) (a1 : Int32) : Option (Int32 × IM × RM) := bd1 (X11_refusalOf kf σ ρ a1 1) fun r1 => if r1 = 0 then (if σ 1 8 = 0 then (some ((-3), σ, ρ)) else (ix 8 a1 fun j4 => bd2 (X1_become kf σ ρ 10 1) fun σ5 ρ6 => X11_judge_b47 kf 1000 j4 0 σ5 ρ6)) else (some (r1, σ, ρ))
set_option maxRecDepth 20000 in
theorem c_X11_judge {l : Launch} {g : GE} {A : Nat → Prop} {LP : List Nat} {kf : KF} {σ : IM} {ρ : RM} {a1 : Int32} {out : Int32 × IM × RM} (hPL : PL LP kf) (hF : X11_judge kf σ ρ a1 = some out) : Met l yX11_judge (.code yX11_judge cX11_judge 5 (some .int) :: UL) ({ frames := 4, cells := 0, slots := 0, locals := 100 }) (va_Pc [.ref (g.2.2 0), .int a1] (PreM lyC 48 g A (va_pl LP (skE kf)) σ ρ)) (Qm lyC 48 g A (va_pl LP (skE kf)) out.2.1 out.2.2 (some (.int out.1))) 0 0 A := by
  refine e_of (by decide) (Nat.le_of_ble_eq_true rfl) ?_
  intro p e s m below meth c ls S hr hlk hv hl
  have hM := Mem.of hv
  have hK := hv.2.1
  have hl : lv_has ls 5 [(0, .ref (g.2.2 0)), (1, .int a1)] := hl
  unfold X11_judge at hF
  refine lv_aload_n S.1 S.2.1 dX11_judge_0 rfl (lv_at hl 0 rfl) ?_
  refine lv_iload_n S.1 S.2.1 dX11_judge_1 rfl (lv_at hl 1 rfl) ?_
  refine lv_iconst (v := 1) S.1 S.2.1 dX11_judge_2 (by decide) ?_
  obtain ⟨r1, er1, hF⟩ := bd1_some hF
  refine k_p (va_runV (As := [.int a1, .int 1]) (rest := []) S (c_X11_refusalOf hPL  er1) (cwV 2 S.2.2.2.2 (ul_V tw_1_225 tw_1_227 ts_X11_refusalOf tw_1_1 cw_X11_refusalOf) rfl rfl rfl hv_X11_refusalOf ⟨Nat.le_of_ble_eq_true rfl, Nat.le_of_ble_eq_true rfl⟩) ⟨PreM.blind, hM.recv hK cfX11 0 (by decide) ly_0, hM.pre hK⟩ rfl rfl hl.1 rfl (lv_room (Nat.le_of_ble_eq_true rfl)) dX11_judge_3 ⟨Nat.zero_le _, Nat.zero_le _⟩) ?_
  refine lv_istore_n (lv' := [(2, .int r1), (0, .ref (g.2.2 0)), (1, .int a1)]) S.1 S.2.1 dX11_judge_6 rfl hl (by decide) rfl (fun ls hl => ?_)
  refine lv_iload_n S.1 S.2.1 dX11_judge_7 rfl (lv_at hl 0 rfl) ?_
  refine lv_if_eq (tgt := 13) S.1 S.2.1 dX11_judge_8 (by decide) (fun b2 => ?_) (fun b2 => ?_)
  · have hF := (if_pos b2).symm.trans hF
    refine lv_aload_n S.1 S.2.1 dX11_judge_13 rfl (lv_at hl 1 rfl) ?_
    refine r_getC S hK hM cfX11 0 0 1 (by decide) ly_0 rfl (by decide) tw_1_193 dX11_judge_14 ?_
    refine r_getI S hK hM cfX1 1 8 (ct_lt0 ct_1) (ly_ct ct_1) rfl (by decide) tw_1_56 dX11_judge_17 ?_
    refine lv_if_ne (tgt := 26) S.1 S.2.1 dX11_judge_20 (by decide) (fun b3 => ?_) (fun b3 => ?_)
    · have hF := (if_neg b3).symm.trans hF
      refine lv_aload_n S.1 S.2.1 dX11_judge_26 rfl (lv_at hl 1 rfl) ?_
      refine r_getC S hK hM cfX11 0 4 28 (by decide) ly_0 rfl (by decide) tw_1_197 dX11_judge_27 ?_
      refine lv_iload_n S.1 S.2.1 dX11_judge_30 rfl (lv_at hl 2 rfl) ?_
      obtain ⟨hj4, j4, ej4, lj4, hF⟩ := ix_some hF
      refine r_aaldS S hK hM 28 (by decide) ly_28 hj4 ej4 dX11_judge_31 ?_
      refine lv_astore_n (lv' := [(3, .ref (g.2.2 (29 + 2 * j4))), (2, .int r1), (0, .ref (g.2.2 0)), (1, .int a1)]) S.1 S.2.1 dX11_judge_32 rfl hl (by decide) rfl (fun ls hl => ?_)
      refine lv_aload_n S.1 S.2.1 dX11_judge_33 rfl (lv_at hl 2 rfl) ?_
      refine r_getC S hK hM cfX11 0 1 10 (by decide) ly_0 rfl (by decide) tw_1_194 dX11_judge_34 ?_
      refine lv_aload_n S.1 S.2.1 dX11_judge_37 rfl (lv_at hl 2 rfl) ?_
      refine r_getC S hK hM cfX11 0 0 1 (by decide) ly_0 rfl (by decide) tw_1_193 dX11_judge_38 ?_
      obtain ⟨σ5, ρ6, er7, hF⟩ := bd2_some hF
      refine k_m (va_runV (As := [.ref (g.2.2 1)]) (rest := []) S (c_X1_become hPL ct_10 ct_1 er7) (cwV 1 S.2.2.2.2 (ul_V tw_2_18 tw_2_19 tw_2_20 tw_1_2 cw_X1_become) rfl rfl rfl hv_X1_become ⟨Nat.le_of_ble_eq_true rfl, Nat.le_of_ble_eq_true rfl⟩) ⟨PreM.blind, hM.recv hK cfX1 10 (ct_lt0 ct_10) (ly_ct ct_10), hM.pre hK⟩ rfl rfl hl.1 rfl (lv_room (Nat.le_of_ble_eq_true rfl)) dX11_judge_41 ⟨Nat.zero_le _, Nat.zero_le _⟩) hM (fun H locs hM => ?_)
      show W _ _ _ _ _ _ _ _ _ _ _ _ _ _ _ (F0 m 44 ls [])
      refine lv_iconst (v := 0) S.1 S.2.1 dX11_judge_44 (by decide) ?_
      refine lv_istore (lv' := [(4, .int 0), (3, .ref (g.2.2 (29 + 2 * j4))), (2, .int r1), (0, .ref (g.2.2 0)), (1, .int a1)]) S.1 S.2.1 dX11_judge_45 hl (by decide) rfl (fun ls hl => ?_)
      exact wl_X11_judge_47 hPL S hK hr hlk 1000 lj4 hM (lv_sub hl [3, 1, 0] rfl) hF
    · have hF := (if_pos b3).symm.trans hF
      refine lv_bipush (v := (-3)) S.1 S.2.1 dX11_judge_23 (by decide) ?_
      cases hF
      exact z_m (v := (-3)) S hM hr hlk rfl dX11_judge_25
  · have hF := (if_neg b2).symm.trans hF
    refine lv_iload_n S.1 S.2.1 dX11_judge_11 rfl (lv_at hl 0 rfl) ?_
    cases hF
    exact z_m (v := r1) S hM hr hlk rfl dX11_judge_12
/-! X11_draw -/
def X11_draw (kf : KF) (σ : IM) (ρ : RM) (a1 : Int32) : Option (Int32 × IM × RM) := bd (up2 σ 0 8 (((σ 0 8) * 1103515245) + 12345)) fun σ1 => nz a1 <| some (rem32 (((σ1 0 8) &&& 2147483647) / 65536) a1, σ1, ρ)
set_option maxRecDepth 20000 in
theorem c_X11_draw {l : Launch} {g : GE} {A : Nat → Prop} {LP : List Nat} {kf : KF} {σ : IM} {ρ : RM} {a1 : Int32} {out : Int32 × IM × RM} (hPL : PL LP kf) (hF : X11_draw kf σ ρ a1 = some out) : Met l yX11_draw (.code yX11_draw cX11_draw 2 (some .int) :: UL) ({ frames := 0, cells := 0, slots := 0, locals := 0 }) (va_Pc [.ref (g.2.2 0), .int a1] (PreM lyC 48 g A (va_pl LP (skE kf)) σ ρ)) (Qm lyC 48 g A (va_pl LP (skE kf)) out.2.1 out.2.2 (some (.int out.1))) 0 0 A := by
  refine e_of (by decide) (Nat.le_of_ble_eq_true rfl) ?_
  intro p e s m below meth c ls S hr hlk hv hl
  have hM := Mem.of hv
  have hK := hv.2.1
  have hl : lv_has ls 2 [(0, .ref (g.2.2 0)), (1, .int a1)] := hl
  unfold X11_draw at hF
  refine lv_aload_n S.1 S.2.1 dX11_draw_0 rfl (lv_at hl 0 rfl) ?_
  refine lv_aload_n S.1 S.2.1 dX11_draw_1 rfl (lv_at hl 0 rfl) ?_
  refine r_getI S hK hM cfX11 0 8 (by decide) ly_0 rfl (by decide) tw_1_201 dX11_draw_2 ?_
  refine lv_ldcw (v := 1103515245) S.1 S.2.1 S.2.2.2.1 (S.2.2.2.2 _ tw_4_32) dX11_draw_5 ?_
  refine lv_imul S.1 S.2.1 dX11_draw_8 ?_
  refine lv_sipush (v := 12345) S.1 S.2.1 dX11_draw_9 (by decide) ?_
  refine lv_iadd S.1 S.2.1 dX11_draw_12 ?_
  obtain ⟨σ1, eσ1, hF⟩ := bd_some hF
  refine r_putI (ty := .int) S hK hM cfX11 tyX11_ok nmX11 0 8 (by decide) ly_0 rfl (by decide) tw_1_201 rfl (by decide +kernel) rfl rfl eσ1 dX11_draw_13 (fun H locs hM => ?_)
  refine lv_aload_n S.1 S.2.1 dX11_draw_16 rfl (lv_at hl 0 rfl) ?_
  refine r_getI S hK hM cfX11 0 8 (by decide) ly_0 rfl (by decide) tw_1_201 dX11_draw_17 ?_
  refine lv_ldcw (v := 2147483647) S.1 S.2.1 S.2.2.2.1 (S.2.2.2.2 _ tw_4_33) dX11_draw_20 ?_
  refine lv_iand S.1 S.2.1 dX11_draw_23 ?_
  refine lv_ldcw (v := 65536) S.1 S.2.1 S.2.2.2.1 (S.2.2.2.2 _ tw_4_34) dX11_draw_24 ?_
  refine lv_idiv S.1 S.2.1 dX11_draw_27 (by decide) ?_
  refine lv_iload_n S.1 S.2.1 dX11_draw_28 rfl (lv_at hl 1 rfl) ?_
  obtain ⟨h2, hF⟩ := nz_some hF
  refine r_irem S dX11_draw_29 h2 ?_
  cases hF
  exact z_m (v := rem32 (((σ1 0 8) &&& 2147483647) / 65536) a1) S hM hr hlk rfl dX11_draw_30
