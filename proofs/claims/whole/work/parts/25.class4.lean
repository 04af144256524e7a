/-! X11_nights -/
def X11_nights_s65 (kf : KF) (k45 : Int32 → Int32 → Int32 → Int32 → IM → RM → Option (Int32 × IM × RM)) (k65 : Int32 → Int32 → Int32 → Int32 → Int32 → IM → RM → Option (Int32 × IM × RM)) (x1 : Int32) (x3 : Int32) (x4 : Int32) (x5 : Int32) (x6 : Int32) (σ : IM) (ρ : RM) : Option (Int32 × IM × RM) := if 12 ≤ x6 then (rd (σ (10 + 7)) 2 x3 fun v12 => rd (σ (1 + 7)) 2 x3 fun v13 => bd (x4 + (v12 - v13)) fun v14 => bd (x5 + 1) fun v15 => k45 x1 x3 v14 v15 σ ρ) else (bd3 (X11_draw kf σ ρ (σ 1 8)) fun r18 σ16 ρ17 => bd3 (X11_draw kf σ16 ρ17 9) fun r21 σ19 ρ20 => bd3 (X1_strike kf σ19 ρ20 10 r18 r21) fun r24 σ22 ρ23 => bd (x6 + 1) fun v25 => k65 x1 x3 x4 x5 v25 σ22 ρ23)
def X11_nights_b65 (kf : KF) (k45 : Int32 → Int32 → Int32 → Int32 → IM → RM → Option (Int32 × IM × RM)) : Nat → Int32 → Int32 → Int32 → Int32 → Int32 → IM → RM → Option (Int32 × IM × RM)
  | 0 => fun _ _ _ _ _ _ _ => none
  | n + 1 => X11_nights_s65 kf k45 (X11_nights_b65 kf k45 n)
set_option maxRecDepth 20000 in
theorem w_X11_nights_65 {l : Launch} {g : GE} {A : Nat → Prop} {LP : List Nat} {kf : KF} (hPL : PL LP kf) {p : Program} {e : Env} {s : State} {m : MethodId} {args : Array Value} {below : List Frame} {meth : Method} {c : Code} (S : CallFix p m c cX11_nights 8 s args UL RX11) (hK : KK g s) (hr : meth.sig.returnType = (some .int)) (hlk : meth.locks = false) {out : Int32 × IM × RM} {k45 : Int32 → Int32 → Int32 → Int32 → IM → RM → Option (Int32 × IM × RM)} (hk45 : ∀ {x1 : Int32} {x3 : Int32} {x4 : Int32} {x5 : Int32} {σ : IM} {ρ : RM} {H : Heap} {locs : List Loc} {ls : Array Slot}, Mem lyC 48 g A (va_pl LP (skE kf)) σ ρ s.heap H locs → lv_has ls 8 [(0, .ref (g.2.2 0)), (1, .int x1), (3, .int x3), (4, .int x4), (5, .int x5)] → k45 x1 x3 x4 x5 σ ρ = some out → W p l e ({ frames := 4, cells := 0, slots := 0, locals := 100 }) s m args below meth c H locs 0 0 (MQ below (Qm lyC 48 g A (va_pl LP (skE kf)) out.2.1 out.2.2 (some (.int out.1))) args s 0 0 A) (F0 m 45 ls [])) {k65 : Int32 → Int32 → Int32 → Int32 → Int32 → IM → RM → Option (Int32 × IM × RM)} (hk65 : ∀ {x1 : Int32} {x3 : Int32} {x4 : Int32} {x5 : Int32} {x6 : Int32} {σ : IM} {ρ : RM} {H : Heap} {locs : List Loc} {ls : Array Slot}, Mem lyC 48 g A (va_pl LP (skE kf)) σ ρ s.heap H locs → lv_has ls 8 [(0, .ref (g.2.2 0)), (1, .int x1), (3, .int x3), (4, .int x4), (5, .int x5), (6, .int x6)] → k65 x1 x3 x4 x5 x6 σ ρ = some out → W p l e ({ frames := 4, cells := 0, slots := 0, locals := 100 }) s m args below meth c H locs 0 0 (MQ below (Qm lyC 48 g A (va_pl LP (skE kf)) out.2.1 out.2.2 (some (.int out.1))) args s 0 0 A) (F0 m 65 ls [])) : ∀ {x1 : Int32} {x3 : Int32} {x4 : Int32} {x5 : Int32} {x6 : Int32} {σ : IM} {ρ : RM} {H : Heap} {locs : List Loc} {ls : Array Slot}, Mem lyC 48 g A (va_pl LP (skE kf)) σ ρ s.heap H locs → lv_has ls 8 [(0, .ref (g.2.2 0)), (1, .int x1), (3, .int x3), (4, .int x4), (5, .int x5), (6, .int x6)] → X11_nights_s65 kf k45 k65 x1 x3 x4 x5 x6 σ ρ = some out → W p l e ({ frames := 4, cells := 0, slots := 0, locals := 100 }) s m args below meth c H locs 0 0 (MQ below (Qm lyC 48 g A (va_pl LP (skE kf)) out.2.1 out.2.2 (some (.int out.1))) args s 0 0 A) (F0 m 65 ls []) := by
  intro x1 x3 x4 x5 x6 σ ρ H locs ls hM hl hF
  unfold X11_nights_s65 at hF
  refine lv_iload S.1 S.2.1 dX11_nights_65 (lv_at hl 5 rfl) ?_
  refine lv_bipush (v := 12) S.1 S.2.1 dX11_nights_67 (by decide) ?_
  refine lv_icmp_ge (tgt := 107) S.1 S.2.1 dX11_nights_69 (by decide) (fun b11 => ?_) (fun b11 => ?_)
  · have hF := (if_pos b11).symm.trans hF
    refine lv_iload S.1 S.2.1 dX11_nights_107 (lv_at hl 3 rfl) ?_
    refine lv_aload_n S.1 S.2.1 dX11_nights_109 rfl (lv_at hl 0 rfl) ?_
    refine r_getC S hK hM cfX11 0 1 10 (by decide) ly_0 rfl (by decide) tw_1_194 dX11_nights_110 ?_
    refine r_getC S hK hM cfX1 10 6 (10 + 7) (ct_lt0 ct_10) (ly_ct ct_10) rfl (by decide) tw_1_52 dX11_nights_113 ?_
    refine lv_iload_n S.1 S.2.1 dX11_nights_116 rfl (lv_at hl 2 rfl) ?_
    obtain ⟨hv12, v12, ev12, hF⟩ := rd_some hF
    refine r_iald S hK hM (10 + 7) (ct_lt ct_10 7 (by decide)) (ly_c7 ct_10) hv12 ev12 dX11_nights_117 ?_
    refine lv_aload_n S.1 S.2.1 dX11_nights_118 rfl (lv_at hl 0 rfl) ?_
    refine r_getC S hK hM cfX11 0 0 1 (by decide) ly_0 rfl (by decide) tw_1_193 dX11_nights_119 ?_
    refine r_getC S hK hM cfX1 1 6 (1 + 7) (ct_lt0 ct_1) (ly_ct ct_1) rfl (by decide) tw_1_52 dX11_nights_122 ?_
    refine lv_iload_n S.1 S.2.1 dX11_nights_125 rfl (lv_at hl 2 rfl) ?_
    obtain ⟨hv13, v13, ev13, hF⟩ := rd_some hF
    refine r_iald S hK hM (1 + 7) (ct_lt ct_1 7 (by decide)) (ly_c7 ct_1) hv13 ev13 dX11_nights_126 ?_
    refine lv_isub S.1 S.2.1 dX11_nights_127 ?_
    refine lv_iadd S.1 S.2.1 dX11_nights_128 ?_
    refine lv_topi (fun v14 ev14 => ?_)
    have hF := bd_at ev14 hF
    refine lv_istore (lv' := [(4, .int v14), (0, .ref (g.2.2 0)), (1, .int x1), (3, .int x3), (5, .int x5), (6, .int x6)]) S.1 S.2.1 dX11_nights_129 hl (by decide) rfl (fun ls hl => ?_)
    obtain ⟨v15, ev15, hF⟩ := bd_some hF
    refine lv_iinc (v := v15) (lv' := [(5, .int v15), (4, .int v14), (0, .ref (g.2.2 0)), (1, .int x1), (3, .int x3), (6, .int x6)]) S.1 S.2.1 dX11_nights_131 hl (k := 4) rfl (by rw [ev15]; rfl) (by decide) rfl (fun ls hl => ?_)
    refine lv_goto (tgt := 45) S.1 S.2.1 dX11_nights_134 (by decide) ?_
    exact hk45 hM (lv_sub hl [2, 3, 4, 1, 0] rfl)  hF
  · have hF := (if_neg b11).symm.trans hF
    refine lv_aload_n S.1 S.2.1 dX11_nights_72 rfl (lv_at hl 0 rfl) ?_
    refine lv_aload_n S.1 S.2.1 dX11_nights_73 rfl (lv_at hl 0 rfl) ?_
    refine r_getC S hK hM cfX11 0 0 1 (by decide) ly_0 rfl (by decide) tw_1_193 dX11_nights_74 ?_
    refine r_getI S hK hM cfX1 1 8 (ct_lt0 ct_1) (ly_ct ct_1) rfl (by decide) tw_1_56 dX11_nights_77 ?_
    obtain ⟨r18, σ16, ρ17, er18, hF⟩ := bd3_some hF
    refine k_m (va_runV (As := [.int (σ 1 8)]) (rest := []) S (c_X11_draw hPL  er18) (cwV 1 S.2.2.2.2 (ul_V tw_4_28 tw_4_30 ts_X11_draw tw_1_1 cw_X11_draw) rfl rfl rfl hv_X11_draw ⟨Nat.le_of_ble_eq_true rfl, Nat.le_of_ble_eq_true rfl⟩) ⟨PreM.blind, hM.recv hK cfX11 0 (by decide) ly_0, hM.pre hK⟩ rfl rfl hl.1 rfl (lv_room (Nat.le_of_ble_eq_true rfl)) dX11_nights_80 ⟨Nat.zero_le _, Nat.zero_le _⟩) hM (fun H locs hM => ?_)
    show W _ _ _ _ _ _ _ _ _ _ _ _ _ _ _ (F0 m 83 ls [.int r18])
    refine lv_istore (lv' := [(7, .int r18), (0, .ref (g.2.2 0)), (1, .int x1), (3, .int x3), (4, .int x4), (5, .int x5), (6, .int x6)]) S.1 S.2.1 dX11_nights_83 hl (by decide) rfl (fun ls hl => ?_)
    refine lv_aload_n S.1 S.2.1 dX11_nights_85 rfl (lv_at hl 1 rfl) ?_
    refine r_getC S hK hM cfX11 0 1 10 (by decide) ly_0 rfl (by decide) tw_1_194 dX11_nights_86 ?_
    refine lv_iload S.1 S.2.1 dX11_nights_89 (lv_at hl 0 rfl) ?_
    refine lv_aload_n S.1 S.2.1 dX11_nights_91 rfl (lv_at hl 1 rfl) ?_
    refine lv_bipush (v := 9) S.1 S.2.1 dX11_nights_92 (by decide) ?_
    obtain ⟨r21, σ19, ρ20, er21, hF⟩ := bd3_some hF
    refine k_m (va_runV (As := [.int 9]) (rest := [.int r18, .ref (g.2.2 10)]) S (c_X11_draw hPL  er21) (cwV 1 S.2.2.2.2 (ul_V tw_4_28 tw_4_30 ts_X11_draw tw_1_1 cw_X11_draw) rfl rfl rfl hv_X11_draw ⟨Nat.le_of_ble_eq_true rfl, Nat.le_of_ble_eq_true rfl⟩) ⟨PreM.blind, hM.recv hK cfX11 0 (by decide) ly_0, hM.pre hK⟩ rfl rfl hl.1 rfl (lv_room (Nat.le_of_ble_eq_true rfl)) dX11_nights_94 ⟨Nat.zero_le _, Nat.zero_le _⟩) hM (fun H locs hM => ?_)
    show W _ _ _ _ _ _ _ _ _ _ _ _ _ _ _ (F0 m 97 ls [.int r21, .int r18, .ref (g.2.2 10)])
    obtain ⟨r24, σ22, ρ23, er24, hF⟩ := bd3_some hF
    refine k_m (va_runV (As := [.int r18, .int r21]) (rest := []) S (c_X1_strike hPL ct_10 er24) (cwV 2 S.2.2.2.2 (ul_V tw_3_49 tw_2_73 tw_2_74 tw_1_2 cw_X1_strike) rfl rfl rfl hv_X1_strike ⟨Nat.le_of_ble_eq_true rfl, Nat.le_of_ble_eq_true rfl⟩) ⟨PreM.blind, hM.recv hK cfX1 10 (ct_lt0 ct_10) (ly_ct ct_10), hM.pre hK⟩ rfl rfl hl.1 rfl (lv_room (Nat.le_of_ble_eq_true rfl)) dX11_nights_97 ⟨Nat.zero_le _, Nat.zero_le _⟩) hM (fun H locs hM => ?_)
    show W _ _ _ _ _ _ _ _ _ _ _ _ _ _ _ (F0 m 100 ls [.int r24])
    refine lv_pop S.1 S.2.1 dX11_nights_100 rfl ?_
    obtain ⟨v25, ev25, hF⟩ := bd_some hF
    refine lv_iinc (v := v25) (lv' := [(6, .int v25), (7, .int r18), (0, .ref (g.2.2 0)), (1, .int x1), (3, .int x3), (4, .int x4), (5, .int x5)]) S.1 S.2.1 dX11_nights_101 hl (k := 6) rfl (by rw [ev25]; rfl) (by decide) rfl (fun ls hl => ?_)
    refine lv_goto (tgt := 65) S.1 S.2.1 dX11_nights_104 (by decide) ?_
    exact hk65 hM (lv_sub hl [2, 3, 4, 5, 6, 0] rfl)  hF
theorem wl_X11_nights_65 {l : Launch} {g : GE} {A : Nat → Prop} {LP : List Nat} {kf : KF} (hPL : PL LP kf) {p : Program} {e : Env} {s : State} {m : MethodId} {args : Array Value} {below : List Frame} {meth : Method} {c : Code} (S : CallFix p m c cX11_nights 8 s args UL RX11) (hK : KK g s) (hr : meth.sig.returnType = (some .int)) (hlk : meth.locks = false) {out : Int32 × IM × RM} {k45 : Int32 → Int32 → Int32 → Int32 → IM → RM → Option (Int32 × IM × RM)} (hk45 : ∀ {x1 : Int32} {x3 : Int32} {x4 : Int32} {x5 : Int32} {σ : IM} {ρ : RM} {H : Heap} {locs : List Loc} {ls : Array Slot}, Mem lyC 48 g A (va_pl LP (skE kf)) σ ρ s.heap H locs → lv_has ls 8 [(0, .ref (g.2.2 0)), (1, .int x1), (3, .int x3), (4, .int x4), (5, .int x5)] → k45 x1 x3 x4 x5 σ ρ = some out → W p l e ({ frames := 4, cells := 0, slots := 0, locals := 100 }) s m args below meth c H locs 0 0 (MQ below (Qm lyC 48 g A (va_pl LP (skE kf)) out.2.1 out.2.2 (some (.int out.1))) args s 0 0 A) (F0 m 45 ls [])) : ∀ (n : Nat) {x1 : Int32} {x3 : Int32} {x4 : Int32} {x5 : Int32} {x6 : Int32} {σ : IM} {ρ : RM} {H : Heap} {locs : List Loc} {ls : Array Slot}, Mem lyC 48 g A (va_pl LP (skE kf)) σ ρ s.heap H locs → lv_has ls 8 [(0, .ref (g.2.2 0)), (1, .int x1), (3, .int x3), (4, .int x4), (5, .int x5), (6, .int x6)] → X11_nights_b65 kf k45 n x1 x3 x4 x5 x6 σ ρ = some out → W p l e ({ frames := 4, cells := 0, slots := 0, locals := 100 }) s m args below meth c H locs 0 0 (MQ below (Qm lyC 48 g A (va_pl LP (skE kf)) out.2.1 out.2.2 (some (.int out.1))) args s 0 0 A) (F0 m 65 ls []) := by
  intro n
  induction n with
  | zero =>
    intro x1 x3 x4 x5 x6 σ ρ H locs ls hM hl hF
    cases hF
  | succ n ih =>
    intro x1 x3 x4 x5 x6 σ ρ H locs ls hM hl hF
    exact w_X11_nights_65 hPL S hK hr hlk hk45 ih hM hl hF
def X11_nights_s45 (kf : KF) (k45 : Int32 → Int32 → Int32 → Int32 → IM → RM → Option (Int32 × IM × RM)) (x1 : Int32) (x3 : Int32) (x4 : Int32) (x5 : Int32) (σ : IM) (ρ : RM) : Option (Int32 × IM × RM) := if x1 ≤ x5 then (some (x4, σ, ρ)) else (bd2 (X1_become kf σ ρ 10 1) fun σ8 ρ9 => X11_nights_b65 kf k45 1000 x1 x3 x4 x5 0 σ8 ρ9)
def X11_nights_b45 (kf : KF) : Nat → Int32 → Int32 → Int32 → Int32 → IM → RM → Option (Int32 × IM × RM)
  | 0 => fun _ _ _ _ _ _ => none
  | n + 1 => X11_nights_s45 kf (X11_nights_b45 kf n)
set_option maxRecDepth 20000 in
theorem w_X11_nights_45 {l : Launch} {g : GE} {A : Nat → Prop} {LP : List Nat} {kf : KF} (hPL : PL LP kf) {p : Program} {e : Env} {s : State} {m : MethodId} {args : Array Value} {below : List Frame} {meth : Method} {c : Code} (S : CallFix p m c cX11_nights 8 s args UL RX11) (hK : KK g s) (hr : meth.sig.returnType = (some .int)) (hlk : meth.locks = false) {out : Int32 × IM × RM} {k45 : Int32 → Int32 → Int32 → Int32 → IM → RM → Option (Int32 × IM × RM)} (hk45 : ∀ {x1 : Int32} {x3 : Int32} {x4 : Int32} {x5 : Int32} {σ : IM} {ρ : RM} {H : Heap} {locs : List Loc} {ls : Array Slot}, Mem lyC 48 g A (va_pl LP (skE kf)) σ ρ s.heap H locs → lv_has ls 8 [(0, .ref (g.2.2 0)), (1, .int x1), (3, .int x3), (4, .int x4), (5, .int x5)] → k45 x1 x3 x4 x5 σ ρ = some out → W p l e ({ frames := 4, cells := 0, slots := 0, locals := 100 }) s m args below meth c H locs 0 0 (MQ below (Qm lyC 48 g A (va_pl LP (skE kf)) out.2.1 out.2.2 (some (.int out.1))) args s 0 0 A) (F0 m 45 ls [])) : ∀ {x1 : Int32} {x3 : Int32} {x4 : Int32} {x5 : Int32} {σ : IM} {ρ : RM} {H : Heap} {locs : List Loc} {ls : Array Slot}, Mem lyC 48 g A (va_pl LP (skE kf)) σ ρ s.heap H locs → lv_has ls 8 [(0, .ref (g.2.2 0)), (1, .int x1), (3, .int x3), (4, .int x4), (5, .int x5)] → X11_nights_s45 kf k45 x1 x3 x4 x5 σ ρ = some out → W p l e ({ frames := 4, cells := 0, slots := 0, locals := 100 }) s m args below meth c H locs 0 0 (MQ below (Qm lyC 48 g A (va_pl LP (skE kf)) out.2.1 out.2.2 (some (.int out.1))) args s 0 0 A) (F0 m 45 ls []) := by
  intro x1 x3 x4 x5 σ ρ H locs ls hM hl hF
  unfold X11_nights_s45 at hF
  refine lv_iload S.1 S.2.1 dX11_nights_45 (lv_at hl 4 rfl) ?_
  refine lv_iload_n S.1 S.2.1 dX11_nights_47 rfl (lv_at hl 1 rfl) ?_
  refine lv_icmp_ge (tgt := 137) S.1 S.2.1 dX11_nights_48 (by decide) (fun b7 => ?_) (fun b7 => ?_)
  · have hF := (if_pos b7).symm.trans hF
    refine lv_iload S.1 S.2.1 dX11_nights_137 (lv_at hl 3 rfl) ?_
    cases hF
    exact z_m (v := x4) S hM hr hlk rfl dX11_nights_139
  · have hF := (if_neg b7).symm.trans hF
    refine lv_aload_n S.1 S.2.1 dX11_nights_51 rfl (lv_at hl 0 rfl) ?_
    refine r_getC S hK hM cfX11 0 1 10 (by decide) ly_0 rfl (by decide) tw_1_194 dX11_nights_52 ?_
    refine lv_aload_n S.1 S.2.1 dX11_nights_55 rfl (lv_at hl 0 rfl) ?_
    refine r_getC S hK hM cfX11 0 0 1 (by decide) ly_0 rfl (by decide) tw_1_193 dX11_nights_56 ?_
    obtain ⟨σ8, ρ9, er10, hF⟩ := bd2_some hF
    refine k_m (va_runV (As := [.ref (g.2.2 1)]) (rest := []) S (c_X1_become hPL ct_10 ct_1 er10) (cwV 1 S.2.2.2.2 (ul_V tw_2_18 tw_2_19 tw_2_20 tw_1_2 cw_X1_become) rfl rfl rfl hv_X1_become ⟨Nat.le_of_ble_eq_true rfl, Nat.le_of_ble_eq_true rfl⟩) ⟨PreM.blind, hM.recv hK cfX1 10 (ct_lt0 ct_10) (ly_ct ct_10), hM.pre hK⟩ rfl rfl hl.1 rfl (lv_room (Nat.le_of_ble_eq_true rfl)) dX11_nights_59 ⟨Nat.zero_le _, Nat.zero_le _⟩) hM (fun H locs hM => ?_)
    show W _ _ _ _ _ _ _ _ _ _ _ _ _ _ _ (F0 m 62 ls [])
    refine lv_iconst (v := 0) S.1 S.2.1 dX11_nights_62 (by decide) ?_
    refine lv_istore (lv' := [(6, .int 0), (0, .ref (g.2.2 0)), (1, .int x1), (3, .int x3), (4, .int x4), (5, .int x5)]) S.1 S.2.1 dX11_nights_63 hl (by decide) rfl (fun ls hl => ?_)
    exact wl_X11_nights_65 hPL S hK hr hlk hk45 1000 hM (lv_sub hl [1, 2, 3, 4, 5, 0] rfl) hF
theorem wl_X11_nights_45 {l : Launch} {g : GE} {A : Nat → Prop} {LP : List Nat} {kf : KF} (hPL : PL LP kf) {p : Program} {e : Env} {s : State} {m : MethodId} {args : Array Value} {below : List Frame} {meth : Method} {c : Code} (S : CallFix p m c cX11_nights 8 s args UL RX11) (hK : KK g s) (hr : meth.sig.returnType = (some .int)) (hlk : meth.locks = false) {out : Int32 × IM × RM} : ∀ (n : Nat) {x1 : Int32} {x3 : Int32} {x4 : Int32} {x5 : Int32} {σ : IM} {ρ : RM} {H : Heap} {locs : List Loc} {ls : Array Slot}, Mem lyC 48 g A (va_pl LP (skE kf)) σ ρ s.heap H locs → lv_has ls 8 [(0, .ref (g.2.2 0)), (1, .int x1), (3, .int x3), (4, .int x4), (5, .int x5)] → X11_nights_b45 kf n x1 x3 x4 x5 σ ρ = some out → W p l e ({ frames := 4, cells := 0, slots := 0, locals := 100 }) s m args below meth c H locs 0 0 (MQ below (Qm lyC 48 g A (va_pl LP (skE kf)) out.2.1 out.2.2 (some (.int out.1))) args s 0 0 A) (F0 m 45 ls []) := by
  intro n
  induction n with
  | zero =>
    intro x1 x3 x4 x5 σ ρ H locs ls hM hl hF
    cases hF
  | succ n ih =>
    intro x1 x3 x4 x5 σ ρ H locs ls hM hl hF
    exact w_X11_nights_45 hPL S hK hr hlk ih hM hl hF
def X11_nights (kf : KF) (σ : IM) (ρ : RM) (a1 : Int32) (a2 : Int32) (a3 : Int32) : Option (Int32 × IM × RM) := if a1 < 1 then (some ((-1), σ, ρ)) else (if 20 < a1 then (some ((-1), σ, ρ)) else (bd1 (X11_isBelow a3 2) fun r3 => if r3 = 0 then (some ((-1), σ, ρ)) else (if σ 1 8 = 0 then (some ((-3), σ, ρ)) else (bd (up2 σ 0 8 a2) fun σ6 => X11_nights_b45 kf 1000 a1 a3 0 0 σ6 ρ))))
set_option maxRecDepth 20000 in
theorem c_X11_nights {l : Launch} {g : GE} {A : Nat → Prop} {LP : List Nat} {kf : KF} {σ : IM} {ρ : RM} {a1 : Int32} {a2 : Int32} {a3 : Int32} {out : Int32 × IM × RM} (hPL : PL LP kf) (hF : X11_nights kf σ ρ a1 a2 a3 = some out) : Met l yX11_nights (.code yX11_nights cX11_nights 8 (some .int) :: UL) ({ frames := 4, cells := 0, slots := 0, locals := 100 }) (va_Pc [.ref (g.2.2 0), .int a1, .int a2, .int a3] (PreM lyC 48 g A (va_pl LP (skE kf)) σ ρ)) (Qm lyC 48 g A (va_pl LP (skE kf)) out.2.1 out.2.2 (some (.int out.1))) 0 0 A := by
  refine e_of (by decide) (Nat.le_of_ble_eq_true rfl) ?_
  intro p e s m below meth c ls S hr hlk hv hl
  have hM := Mem.of hv
  have hK := hv.2.1
  have hl : lv_has ls 8 [(0, .ref (g.2.2 0)), (1, .int a1), (2, .int a2), (3, .int a3)] := hl
  unfold X11_nights at hF
  refine lv_iload_n S.1 S.2.1 dX11_nights_0 rfl (lv_at hl 1 rfl) ?_
  refine lv_iconst (v := 1) S.1 S.2.1 dX11_nights_1 (by decide) ?_
  refine lv_icmp_lt (tgt := 19) S.1 S.2.1 dX11_nights_2 (by decide) (fun b1 => ?_) (fun b1 => ?_)
  · have hF := (if_pos b1).symm.trans hF
    refine lv_iconst (v := (-1)) S.1 S.2.1 dX11_nights_19 (by decide) ?_
    cases hF
    exact z_m (v := (-1)) S hM hr hlk rfl dX11_nights_20
  · have hF := (if_neg b1).symm.trans hF
    refine lv_iload_n S.1 S.2.1 dX11_nights_5 rfl (lv_at hl 1 rfl) ?_
    refine lv_bipush (v := 20) S.1 S.2.1 dX11_nights_6 (by decide) ?_
    refine lv_icmp_gt (tgt := 19) S.1 S.2.1 dX11_nights_8 (by decide) (fun b2 => ?_) (fun b2 => ?_)
    · have hF := (if_pos b2).symm.trans hF
      refine lv_iconst (v := (-1)) S.1 S.2.1 dX11_nights_19 (by decide) ?_
      cases hF
      exact z_m (v := (-1)) S hM hr hlk rfl dX11_nights_20
    · have hF := (if_neg b2).symm.trans hF
      refine lv_iload_n S.1 S.2.1 dX11_nights_11 rfl (lv_at hl 3 rfl) ?_
      refine lv_iconst (v := 2) S.1 S.2.1 dX11_nights_12 (by decide) ?_
      obtain ⟨r3, er3, hF⟩ := bd1_some hF
      refine k_p (va_runS (As := [.int a3, .int 2]) (rest := []) S (c_X11_isBelow hPL  er3) (va_cwS 2 S.2.2.2.2 (ul_S tw_1_229 tw_1_230 tw_1_1 cw_X11_isBelow) rfl rfl rfl hs_X11_isBelow ⟨Nat.le_of_ble_eq_true rfl, Nat.le_of_ble_eq_true rfl⟩) ⟨PreM.blind, hM.pre hK⟩ rfl rfl hl.1 rfl (lv_room (Nat.le_of_ble_eq_true rfl)) dX11_nights_13 ⟨Nat.zero_le _, Nat.zero_le _⟩) ?_
      refine lv_if_ne (tgt := 21) S.1 S.2.1 dX11_nights_16 (by decide) (fun b4 => ?_) (fun b4 => ?_)
      · have hF := (if_neg b4).symm.trans hF
        refine lv_aload_n S.1 S.2.1 dX11_nights_21 rfl (lv_at hl 0 rfl) ?_
        refine r_getC S hK hM cfX11 0 0 1 (by decide) ly_0 rfl (by decide) tw_1_193 dX11_nights_22 ?_
        refine r_getI S hK hM cfX1 1 8 (ct_lt0 ct_1) (ly_ct ct_1) rfl (by decide) tw_1_56 dX11_nights_25 ?_
        refine lv_if_ne (tgt := 34) S.1 S.2.1 dX11_nights_28 (by decide) (fun b5 => ?_) (fun b5 => ?_)
        · have hF := (if_neg b5).symm.trans hF
          refine lv_aload_n S.1 S.2.1 dX11_nights_34 rfl (lv_at hl 0 rfl) ?_
          refine lv_iload_n S.1 S.2.1 dX11_nights_35 rfl (lv_at hl 2 rfl) ?_
          obtain ⟨σ6, eσ6, hF⟩ := bd_some hF
          refine r_putI (ty := .int) S hK hM cfX11 tyX11_ok nmX11 0 8 (by decide) ly_0 rfl (by decide) tw_1_201 rfl (by decide +kernel) rfl rfl eσ6 dX11_nights_36 (fun H locs hM => ?_)
          refine lv_iconst (v := 0) S.1 S.2.1 dX11_nights_39 (by decide) ?_
          refine lv_istore (lv' := [(4, .int 0), (0, .ref (g.2.2 0)), (1, .int a1), (2, .int a2), (3, .int a3)]) S.1 S.2.1 dX11_nights_40 hl (by decide) rfl (fun ls hl => ?_)
          refine lv_iconst (v := 0) S.1 S.2.1 dX11_nights_42 (by decide) ?_
          refine lv_istore (lv' := [(5, .int 0), (4, .int 0), (0, .ref (g.2.2 0)), (1, .int a1), (2, .int a2), (3, .int a3)]) S.1 S.2.1 dX11_nights_43 hl (by decide) rfl (fun ls hl => ?_)
          exact wl_X11_nights_45 hPL S hK hr hlk 1000 hM (lv_sub hl [2, 3, 5, 1, 0] rfl) hF
        · have hF := (if_pos b5).symm.trans hF
          refine lv_bipush (v := (-3)) S.1 S.2.1 dX11_nights_31 (by decide) ?_
          cases hF
          exact z_m (v := (-3)) S hM hr hlk rfl dX11_nights_33
      · have hF := (if_pos b4).symm.trans hF
        refine lv_iconst (v := (-1)) S.1 S.2.1 dX11_nights_19 (by decide) ?_
        cases hF
        exact z_m (v := (-1)) S hM hr hlk rfl dX11_nights_20
/-! X11_image -/
def X11_image (kf : KF) (σ : IM) (ρ : RM) : Option (Int32 × IM × RM) := bd2 (X1_become kf σ ρ 19 1) fun σ1 ρ2 => bd (up2 σ1 0 3 1) fun σ4 => some (σ4 1 11, σ4, ρ2)
set_option maxRecDepth 20000 in
theorem c_X11_image {l : Launch} {g : GE} {A : Nat → Prop} {LP : List Nat} {kf : KF} {σ : IM} {ρ : RM} {out : Int32 × IM × RM} (hPL : PL LP kf) (hF : X11_image kf σ ρ = some out) : Met l yX11_image (.code yX11_image cX11_image 1 (some .int) :: UL) ({ frames := 2, cells := 0, slots := 0, locals := 62 }) (va_Pc [.ref (g.2.2 0)] (PreM lyC 48 g A (va_pl LP (skE kf)) σ ρ)) (Qm lyC 48 g A (va_pl LP (skE kf)) out.2.1 out.2.2 (some (.int out.1))) 0 0 A := by
  refine e_of (by decide) (Nat.le_of_ble_eq_true rfl) ?_
  intro p e s m below meth c ls S hr hlk hv hl
  have hM := Mem.of hv
  have hK := hv.2.1
  have hl : lv_has ls 1 [(0, .ref (g.2.2 0))] := hl
  unfold X11_image at hF
  refine lv_aload_n S.1 S.2.1 dX11_image_0 rfl (lv_at hl 0 rfl) ?_
  refine r_getC S hK hM cfX11 0 2 19 (by decide) ly_0 rfl (by decide) tw_1_195 dX11_image_1 ?_
  refine lv_aload_n S.1 S.2.1 dX11_image_4 rfl (lv_at hl 0 rfl) ?_
  refine r_getC S hK hM cfX11 0 0 1 (by decide) ly_0 rfl (by decide) tw_1_193 dX11_image_5 ?_
  obtain ⟨σ1, ρ2, er3, hF⟩ := bd2_some hF
  refine k_m (va_runV (As := [.ref (g.2.2 1)]) (rest := []) S (c_X1_become hPL ct_19 ct_1 er3) (cwV 1 S.2.2.2.2 (ul_V tw_2_18 tw_2_19 tw_2_20 tw_1_2 cw_X1_become) rfl rfl rfl hv_X1_become ⟨Nat.le_of_ble_eq_true rfl, Nat.le_of_ble_eq_true rfl⟩) ⟨PreM.blind, hM.recv hK cfX1 19 (ct_lt0 ct_19) (ly_ct ct_19), hM.pre hK⟩ rfl rfl hl.1 rfl (lv_room (Nat.le_of_ble_eq_true rfl)) dX11_image_8 ⟨Nat.zero_le _, Nat.zero_le _⟩) hM (fun H locs hM => ?_)
  show W _ _ _ _ _ _ _ _ _ _ _ _ _ _ _ (F0 m 11 ls [])
  refine lv_aload_n S.1 S.2.1 dX11_image_11 rfl (lv_at hl 0 rfl) ?_
  refine lv_iconst (v := 1) S.1 S.2.1 dX11_image_12 (by decide) ?_
  obtain ⟨σ4, eσ4, hF⟩ := bd_some hF
  refine r_putI (ty := .boolean) S hK hM cfX11 tyX11_ok nmX11 0 3 (by decide) ly_0 rfl (by decide) tw_1_196 rfl (by decide +kernel) rfl rfl eσ4 dX11_image_13 (fun H locs hM => ?_)
  refine lv_aload_n S.1 S.2.1 dX11_image_16 rfl (lv_at hl 0 rfl) ?_
  refine r_getC S hK hM cfX11 0 0 1 (by decide) ly_0 rfl (by decide) tw_1_193 dX11_image_17 ?_
  refine r_getI S hK hM cfX1 1 11 (ct_lt0 ct_1) (ly_ct ct_1) rfl (by decide) tw_1_62 dX11_image_20 ?_
  cases hF
  exact z_m (v := σ4 1 11) S hM hr hlk rfl dX11_image_23
/-! X11_restore -/
def X11_restore (kf : KF) (σ : IM) (ρ : RM) : Option (Int32 × IM × RM) := if σ 0 3 = 0 then (some ((-3), σ, ρ)) else (bd2 (X1_become kf σ ρ 1 19) fun σ2 ρ3 => some (σ2 1 11, σ2, ρ3))
set_option maxRecDepth 20000 in
theorem c_X11_restore {l : Launch} {g : GE} {A : Nat → Prop} {LP : List Nat} {kf : KF} {σ : IM} {ρ : RM} {out : Int32 × IM × RM} (hPL : PL LP kf) (hF : X11_restore kf σ ρ = some out) : Met l yX11_restore (.code yX11_restore cX11_restore 1 (some .int) :: UL) ({ frames := 2, cells := 0, slots := 0, locals := 62 }) (va_Pc [.ref (g.2.2 0)] (PreM lyC 48 g A (va_pl LP (skE kf)) σ ρ)) (Qm lyC 48 g A (va_pl LP (skE kf)) out.2.1 out.2.2 (some (.int out.1))) 0 0 A := by
  refine e_of (by decide) (Nat.le_of_ble_eq_true rfl) ?_
  intro p e s m below meth c ls S hr hlk hv hl
  have hM := Mem.of hv
  have hK := hv.2.1
  have hl : lv_has ls 1 [(0, .ref (g.2.2 0))] := hl
  unfold X11_restore at hF
  refine lv_aload_n S.1 S.2.1 dX11_restore_0 rfl (lv_at hl 0 rfl) ?_
  refine r_getI S hK hM cfX11 0 3 (by decide) ly_0 rfl (by decide) tw_1_196 dX11_restore_1 ?_
  refine lv_if_ne (tgt := 10) S.1 S.2.1 dX11_restore_4 (by decide) (fun b1 => ?_) (fun b1 => ?_)
  · have hF := (if_neg b1).symm.trans hF
    refine lv_aload_n S.1 S.2.1 dX11_restore_10 rfl (lv_at hl 0 rfl) ?_
    refine r_getC S hK hM cfX11 0 0 1 (by decide) ly_0 rfl (by decide) tw_1_193 dX11_restore_11 ?_
    refine lv_aload_n S.1 S.2.1 dX11_restore_14 rfl (lv_at hl 0 rfl) ?_
    refine r_getC S hK hM cfX11 0 2 19 (by decide) ly_0 rfl (by decide) tw_1_195 dX11_restore_15 ?_
    obtain ⟨σ2, ρ3, er4, hF⟩ := bd2_some hF
    refine k_m (va_runV (As := [.ref (g.2.2 19)]) (rest := []) S (c_X1_become hPL ct_1 ct_19 er4) (cwV 1 S.2.2.2.2 (ul_V tw_2_18 tw_2_19 tw_2_20 tw_1_2 cw_X1_become) rfl rfl rfl hv_X1_become ⟨Nat.le_of_ble_eq_true rfl, Nat.le_of_ble_eq_true rfl⟩) ⟨PreM.blind, hM.recv hK cfX1 1 (ct_lt0 ct_1) (ly_ct ct_1), hM.pre hK⟩ rfl rfl hl.1 rfl (lv_room (Nat.le_of_ble_eq_true rfl)) dX11_restore_18 ⟨Nat.zero_le _, Nat.zero_le _⟩) hM (fun H locs hM => ?_)
    show W _ _ _ _ _ _ _ _ _ _ _ _ _ _ _ (F0 m 21 ls [])
    refine lv_aload_n S.1 S.2.1 dX11_restore_21 rfl (lv_at hl 0 rfl) ?_
    refine r_getC S hK hM cfX11 0 0 1 (by decide) ly_0 rfl (by decide) tw_1_193 dX11_restore_22 ?_
    refine r_getI S hK hM cfX1 1 11 (ct_lt0 ct_1) (ly_ct ct_1) rfl (by decide) tw_1_62 dX11_restore_25 ?_
    cases hF
    exact z_m (v := σ2 1 11) S hM hr hlk rfl dX11_restore_28
  · have hF := (if_pos b1).symm.trans hF
    refine lv_bipush (v := (-3)) S.1 S.2.1 dX11_restore_7 (by decide) ?_
    cases hF
    exact z_m (v := (-3)) S hM hr hlk rfl dX11_restore_9
/-! X11_count -/
def X11_count (kf : KF) (σ : IM) (ρ : RM) (a1 : Int32) : Option Int32 := if a1 = 0 then (some (σ 1 8)) else (if a1 = 1 then (some (σ 1 11)) else (if a1 = 2 then (some (σ 1 9)) else (if a1 = 3 then (some ((σ 1 10) + 1)) else (if a1 = 4 then (bd1 (X1_allTired kf σ ρ 1) fun r6 => some r6) else (if a1 = 5 then (bd1 (X1_leftOnes kf σ ρ 1) fun r8 => some r8) else (some (-1)))))))
set_option maxRecDepth 20000 in
theorem c_X11_count {l : Launch} {g : GE} {A : Nat → Prop} {LP : List Nat} {kf : KF} {σ : IM} {ρ : RM} {a1 : Int32} {out : Int32} (hPL : PL LP kf) (hF : X11_count kf σ ρ a1 = some out) : Met l yX11_count (.code yX11_count cX11_count 2 (some .int) :: UL) ({ frames := 1, cells := 0, slots := 0, locals := 20 }) (va_Pc [.ref (g.2.2 0), .int a1] (PreM lyC 48 g A (va_pl LP (skE kf)) σ ρ)) (Qp (some (.int out))) 0 0 NoA := by
  refine e_of (by decide) (Nat.le_of_ble_eq_true rfl) ?_
  intro p e s m below meth c ls S hr hlk hv hl
  have hM := Mem.of hv
  have hK := hv.2.1
  have hl : lv_has ls 2 [(0, .ref (g.2.2 0)), (1, .int a1)] := hl
  unfold X11_count at hF
  refine lv_iload_n S.1 S.2.1 dX11_count_0 rfl (lv_at hl 1 rfl) ?_
  by_cases b1 : a1 = 0
  · have hF := (if_pos b1).symm.trans hF
    refine r_tab (off := 39) (tgt := 40) S dX11_count_1 b1 (by decide) (by decide) ?_
    refine lv_aload_n S.1 S.2.1 dX11_count_40 rfl (lv_at hl 0 rfl) ?_
    refine r_getC S hK hM cfX11 0 0 1 (by decide) ly_0 rfl (by decide) tw_1_193 dX11_count_41 ?_
    refine r_getI S hK hM cfX1 1 8 (ct_lt0 ct_1) (ly_ct ct_1) rfl (by decide) tw_1_56 dX11_count_44 ?_
    cases hF
    exact z_p S hr hlk rfl dX11_count_47
  · have hF := (if_neg b1).symm.trans hF
    by_cases b2 : a1 = 1
    · have hF := (if_pos b2).symm.trans hF
      refine r_tab (off := 47) (tgt := 48) S dX11_count_1 b2 (by decide) (by decide) ?_
      refine lv_aload_n S.1 S.2.1 dX11_count_48 rfl (lv_at hl 0 rfl) ?_
      refine r_getC S hK hM cfX11 0 0 1 (by decide) ly_0 rfl (by decide) tw_1_193 dX11_count_49 ?_
      refine r_getI S hK hM cfX1 1 11 (ct_lt0 ct_1) (ly_ct ct_1) rfl (by decide) tw_1_62 dX11_count_52 ?_
      cases hF
      exact z_p S hr hlk rfl dX11_count_55
    · have hF := (if_neg b2).symm.trans hF
      by_cases b3 : a1 = 2
      · have hF := (if_pos b3).symm.trans hF
        refine r_tab (off := 55) (tgt := 56) S dX11_count_1 b3 (by decide) (by decide) ?_
        refine lv_aload_n S.1 S.2.1 dX11_count_56 rfl (lv_at hl 0 rfl) ?_
        refine r_getC S hK hM cfX11 0 0 1 (by decide) ly_0 rfl (by decide) tw_1_193 dX11_count_57 ?_
        refine r_getI S hK hM cfX1 1 9 (ct_lt0 ct_1) (ly_ct ct_1) rfl (by decide) tw_1_58 dX11_count_60 ?_
        cases hF
        exact z_p S hr hlk rfl dX11_count_63
      · have hF := (if_neg b3).symm.trans hF
        by_cases b4 : a1 = 3
        · have hF := (if_pos b4).symm.trans hF
          refine r_tab (off := 63) (tgt := 64) S dX11_count_1 b4 (by decide) (by decide) ?_
          refine lv_aload_n S.1 S.2.1 dX11_count_64 rfl (lv_at hl 0 rfl) ?_
          refine r_getC S hK hM cfX11 0 0 1 (by decide) ly_0 rfl (by decide) tw_1_193 dX11_count_65 ?_
          refine r_getI S hK hM cfX1 1 10 (ct_lt0 ct_1) (ly_ct ct_1) rfl (by decide) tw_1_60 dX11_count_68 ?_
          refine lv_iconst (v := 1) S.1 S.2.1 dX11_count_71 (by decide) ?_
          refine lv_iadd S.1 S.2.1 dX11_count_72 ?_
          cases hF
          exact z_p S hr hlk rfl dX11_count_73
        · have hF := (if_neg b4).symm.trans hF
          by_cases b5 : a1 = 4
          · have hF := (if_pos b5).symm.trans hF
            refine r_tab (off := 73) (tgt := 74) S dX11_count_1 b5 (by decide) (by decide) ?_
            refine lv_aload_n S.1 S.2.1 dX11_count_74 rfl (lv_at hl 0 rfl) ?_
            refine r_getC S hK hM cfX11 0 0 1 (by decide) ly_0 rfl (by decide) tw_1_193 dX11_count_75 ?_
            obtain ⟨r6, er6, hF⟩ := bd1_some hF
            refine k_p (va_runV (As := []) (rest := []) S (c_X1_allTired hPL ct_1 er6) (cwV 0 S.2.2.2.2 (ul_V tw_4_11 tw_4_12 tw_4_13 tw_1_2 cw_X1_allTired) rfl rfl rfl hv_X1_allTired ⟨Nat.le_of_ble_eq_true rfl, Nat.le_of_ble_eq_true rfl⟩) ⟨PreM.blind, hM.recv hK cfX1 1 (ct_lt0 ct_1) (ly_ct ct_1), hM.pre hK⟩ rfl rfl hl.1 rfl (lv_room (Nat.le_of_ble_eq_true rfl)) dX11_count_78 ⟨Nat.zero_le _, Nat.zero_le _⟩) ?_
            cases hF
            exact z_p S hr hlk rfl dX11_count_81
          · have hF := (if_neg b5).symm.trans hF
            by_cases b7 : a1 = 5
            · have hF := (if_pos b7).symm.trans hF
              refine r_tab (off := 81) (tgt := 82) S dX11_count_1 b7 (by decide) (by decide) ?_
              refine lv_aload_n S.1 S.2.1 dX11_count_82 rfl (lv_at hl 0 rfl) ?_
              refine r_getC S hK hM cfX11 0 0 1 (by decide) ly_0 rfl (by decide) tw_1_193 dX11_count_83 ?_
              obtain ⟨r8, er8, hF⟩ := bd1_some hF
              refine k_p (va_runV (As := []) (rest := []) S (c_X1_leftOnes hPL ct_1 er8) (cwV 0 S.2.2.2.2 (ul_V tw_4_47 tw_4_48 tw_4_49 tw_1_2 cw_X1_leftOnes) rfl rfl rfl hv_X1_leftOnes ⟨Nat.le_of_ble_eq_true rfl, Nat.le_of_ble_eq_true rfl⟩) ⟨PreM.blind, hM.recv hK cfX1 1 (ct_lt0 ct_1) (ly_ct ct_1), hM.pre hK⟩ rfl rfl hl.1 rfl (lv_room (Nat.le_of_ble_eq_true rfl)) dX11_count_86 ⟨Nat.zero_le _, Nat.zero_le _⟩) ?_
              cases hF
              exact z_p S hr hlk rfl dX11_count_89
            · have hF := (if_neg b7).symm.trans hF
              refine r_tabD (tgt := 90) S dX11_count_1 (by have n0 := ne_toInt b1 (k := 0) (by decide); have n1 := ne_toInt b2 (k := 1) (by decide); have n2 := ne_toInt b3 (k := 2) (by decide); have n3 := ne_toInt b4 (k := 3) (by decide); have n4 := ne_toInt b5 (k := 4) (by decide); have n5 := ne_toInt b7 (k := 5) (by decide); omega) (by decide) ?_
              refine lv_iconst (v := (-1)) S.1 S.2.1 dX11_count_90 (by decide) ?_
              cases hF
              exact z_p S hr hlk rfl dX11_count_91
/-! X11_row -/
def X11_row (kf : KF) (σ : IM) (ρ : RM) (a1 : Int32) (a2 : Int32) (a3 : Int32) : Option (Int32 × IM × RM) := bd1 (X11_isBelow a1 8) fun r1 => if r1 = 0 then (some ((-1), σ, ρ)) else (bd1 (X11_isBelow a2 3) fun r3 => if r3 = 0 then (some ((-1), σ, ρ)) else (if a3 ≤ 100 then (if 0 ≤ a3 then (ix 8 a1 fun j7 => bd2 (X7_lay kf σ ρ j7 a2 a3) fun σ8 ρ9 => some (0, σ8, ρ9)) else (some ((-14), σ, ρ))) else (some ((-1), σ, ρ))))
set_option maxRecDepth 20000 in
theorem c_X11_row {l : Launch} {g : GE} {A : Nat → Prop} {LP : List Nat} {kf : KF} {σ : IM} {ρ : RM} {a1 : Int32} {a2 : Int32} {a3 : Int32} {out : Int32 × IM × RM} (hPL : PL LP kf) (hF : X11_row kf σ ρ a1 a2 a3 = some out) : Met l yX11_row (.code yX11_row cX11_row 4 (some .int) :: UL) ({ frames := 2, cells := 0, slots := 0, locals := 43 }) (va_Pc [.ref (g.2.2 0), .int a1, .int a2, .int a3] (PreM lyC 48 g A (va_pl LP (skE kf)) σ ρ)) (Qm lyC 48 g A (va_pl LP (skE kf)) out.2.1 out.2.2 (some (.int out.1))) 0 0 A := by
  refine e_of (by decide) (Nat.le_of_ble_eq_true rfl) ?_
  intro p e s m below meth c ls S hr hlk hv hl
  have hM := Mem.of hv
  have hK := hv.2.1
  have hl : lv_has ls 4 [(0, .ref (g.2.2 0)), (1, .int a1), (2, .int a2), (3, .int a3)] := hl
  unfold X11_row at hF
  refine lv_iload_n S.1 S.2.1 dX11_row_0 rfl (lv_at hl 1 rfl) ?_
  refine lv_bipush (v := 8) S.1 S.2.1 dX11_row_1 (by decide) ?_
  obtain ⟨r1, er1, hF⟩ := bd1_some hF
  refine k_p (va_runS (As := [.int a1, .int 8]) (rest := []) S (c_X11_isBelow hPL  er1) (va_cwS 2 S.2.2.2.2 (ul_S tw_1_229 tw_1_230 tw_1_1 cw_X11_isBelow) rfl rfl rfl hs_X11_isBelow ⟨Nat.le_of_ble_eq_true rfl, Nat.le_of_ble_eq_true rfl⟩) ⟨PreM.blind, hM.pre hK⟩ rfl rfl hl.1 rfl (lv_room (Nat.le_of_ble_eq_true rfl)) dX11_row_3 ⟨Nat.zero_le _, Nat.zero_le _⟩) ?_
  refine lv_if_eq (tgt := 23) S.1 S.2.1 dX11_row_6 (by decide) (fun b2 => ?_) (fun b2 => ?_)
  · have hF := (if_pos b2).symm.trans hF
    refine lv_iconst (v := (-1)) S.1 S.2.1 dX11_row_23 (by decide) ?_
    cases hF
    exact z_m (v := (-1)) S hM hr hlk rfl dX11_row_24
  · have hF := (if_neg b2).symm.trans hF
    refine lv_iload_n S.1 S.2.1 dX11_row_9 rfl (lv_at hl 2 rfl) ?_
    refine lv_iconst (v := 3) S.1 S.2.1 dX11_row_10 (by decide) ?_
    obtain ⟨r3, er3, hF⟩ := bd1_some hF
    refine k_p (va_runS (As := [.int a2, .int 3]) (rest := []) S (c_X11_isBelow hPL  er3) (va_cwS 2 S.2.2.2.2 (ul_S tw_1_229 tw_1_230 tw_1_1 cw_X11_isBelow) rfl rfl rfl hs_X11_isBelow ⟨Nat.le_of_ble_eq_true rfl, Nat.le_of_ble_eq_true rfl⟩) ⟨PreM.blind, hM.pre hK⟩ rfl rfl hl.1 rfl (lv_room (Nat.le_of_ble_eq_true rfl)) dX11_row_11 ⟨Nat.zero_le _, Nat.zero_le _⟩) ?_
    refine lv_if_eq (tgt := 23) S.1 S.2.1 dX11_row_14 (by decide) (fun b4 => ?_) (fun b4 => ?_)
    · have hF := (if_pos b4).symm.trans hF
      refine lv_iconst (v := (-1)) S.1 S.2.1 dX11_row_23 (by decide) ?_
      cases hF
      exact z_m (v := (-1)) S hM hr hlk rfl dX11_row_24
    · have hF := (if_neg b4).symm.trans hF
      refine lv_iload_n S.1 S.2.1 dX11_row_17 rfl (lv_at hl 3 rfl) ?_
      refine lv_bipush (v := 100) S.1 S.2.1 dX11_row_18 (by decide) ?_
      refine lv_icmp_le (tgt := 25) S.1 S.2.1 dX11_row_20 (by decide) (fun b5 => ?_) (fun b5 => ?_)
      · have hF := (if_pos b5).symm.trans hF
        refine lv_iload_n S.1 S.2.1 dX11_row_25 rfl (lv_at hl 3 rfl) ?_
        refine lv_if_ge (tgt := 32) S.1 S.2.1 dX11_row_26 (by decide) (fun b6 => ?_) (fun b6 => ?_)
        · have hF := (if_pos b6).symm.trans hF
          refine lv_aload_n S.1 S.2.1 dX11_row_32 rfl (lv_at hl 0 rfl) ?_
          refine r_getC S hK hM cfX11 0 4 28 (by decide) ly_0 rfl (by decide) tw_1_197 dX11_row_33 ?_
          refine lv_iload_n S.1 S.2.1 dX11_row_36 rfl (lv_at hl 1 rfl) ?_
          obtain ⟨hj7, j7, ej7, lj7, hF⟩ := ix_some hF
          refine r_aaldS S hK hM 28 (by decide) ly_28 hj7 ej7 dX11_row_37 ?_
          refine lv_iload_n S.1 S.2.1 dX11_row_38 rfl (lv_at hl 2 rfl) ?_
          refine lv_iload_n S.1 S.2.1 dX11_row_39 rfl (lv_at hl 3 rfl) ?_
          obtain ⟨σ8, ρ9, er10, hF⟩ := bd2_some hF
          refine k_m (va_runV (As := [.int a2, .int a3]) (rest := []) S (c_X7_lay hPL lj7 er10) (cwV 2 S.2.2.2.2 (ul_V tw_4_68 tw_4_69 tw_4_70 tw_1_3 cw_X7_lay) rfl rfl rfl hv_X7_lay ⟨Nat.le_of_ble_eq_true rfl, Nat.le_of_ble_eq_true rfl⟩) ⟨PreM.blind, hM.recv hK cfX7 (29 + 2 * j7) (sh_lt lj7) (ly_sh lj7), hM.pre hK⟩ rfl rfl hl.1 rfl (lv_room (Nat.le_of_ble_eq_true rfl)) dX11_row_40 ⟨Nat.zero_le _, Nat.zero_le _⟩) hM (fun H locs hM => ?_)
          show W _ _ _ _ _ _ _ _ _ _ _ _ _ _ _ (F0 m 43 ls [])
          refine lv_iconst (v := 0) S.1 S.2.1 dX11_row_43 (by decide) ?_
          cases hF
          exact z_m (v := 0) S hM hr hlk rfl dX11_row_44
        · have hF := (if_neg b6).symm.trans hF
          refine lv_bipush (v := (-14)) S.1 S.2.1 dX11_row_29 (by decide) ?_
          cases hF
          exact z_m (v := (-14)) S hM hr hlk rfl dX11_row_31
      · have hF := (if_neg b5).symm.trans hF
        refine lv_iconst (v := (-1)) S.1 S.2.1 dX11_row_23 (by decide) ?_
        cases hF
        exact z_m (v := (-1)) S hM hr hlk rfl dX11_row_24
/-! X11_put -/
def X11_put (kf : KF) (σ : IM) (ρ : RM) (a1 : Int32) (a2 : Int32) (a3 : Int32) : Option (Int32 × IM × RM) := bd1 (X11_refusalOf kf σ ρ a1 1) fun r1 => if r1 = 0 then (ix 8 a1 fun j3 => bd1 (X11_isBelow a2 (σ (29 + 2 * j3) 3)) fun r4 => if r4 = 0 then (some ((-13), σ, ρ)) else (bd1 (X7_fitted kf σ ρ j3 a3) fun r6 => wr σ (29 + 2 * j3 + 1) 100 a2 r6 fun σ7 => some (0, σ7, ρ))) else (some (r1, σ, ρ))
set_option maxRecDepth 20000 in
theorem c_X11_put {l : Launch} {g : GE} {A : Nat → Prop} {LP : List Nat} {kf : KF} {σ : IM} {ρ : RM} {a1 : Int32} {a2 : Int32} {a3 : Int32} {out : Int32 × IM × RM} (hPL : PL LP kf) (hF : X11_put kf σ ρ a1 a2 a3 = some out) : Met l yX11_put (.code yX11_put cX11_put 6 (some .int) :: UL) ({ frames := 3, cells := 0, slots := 0, locals := 62 }) (va_Pc [.ref (g.2.2 0), .int a1, .int a2, .int a3] (PreM lyC 48 g A (va_pl LP (skE kf)) σ ρ)) (Qm lyC 48 g A (va_pl LP (skE kf)) out.2.1 out.2.2 (some (.int out.1))) 0 0 A := by
  refine e_of (by decide) (Nat.le_of_ble_eq_true rfl) ?_
  intro p e s m below meth c ls S hr hlk hv hl
  have hM := Mem.of hv
  have hK := hv.2.1
  have hl : lv_has ls 6 [(0, .ref (g.2.2 0)), (1, .int a1), (2, .int a2), (3, .int a3)] := hl
  unfold X11_put at hF
  refine lv_aload_n S.1 S.2.1 dX11_put_0 rfl (lv_at hl 0 rfl) ?_
  refine lv_iload_n S.1 S.2.1 dX11_put_1 rfl (lv_at hl 1 rfl) ?_
  refine lv_iconst (v := 1) S.1 S.2.1 dX11_put_2 (by decide) ?_
  obtain ⟨r1, er1, hF⟩ := bd1_some hF
  refine k_p (va_runV (As := [.int a1, .int 1]) (rest := []) S (c_X11_refusalOf hPL  er1) (cwV 2 S.2.2.2.2 (ul_V tw_1_225 tw_1_227 ts_X11_refusalOf tw_1_1 cw_X11_refusalOf) rfl rfl rfl hv_X11_refusalOf ⟨Nat.le_of_ble_eq_true rfl, Nat.le_of_ble_eq_true rfl⟩) ⟨PreM.blind, hM.recv hK cfX11 0 (by decide) ly_0, hM.pre hK⟩ rfl rfl hl.1 rfl (lv_room (Nat.le_of_ble_eq_true rfl)) dX11_put_3 ⟨Nat.zero_le _, Nat.zero_le _⟩) ?_
  refine lv_istore (lv' := [(4, .int r1), (0, .ref (g.2.2 0)), (1, .int a1), (2, .int a2), (3, .int a3)]) S.1 S.2.1 dX11_put_6 hl (by decide) rfl (fun ls hl => ?_)
  refine lv_iload S.1 S.2.1 dX11_put_8 (lv_at hl 0 rfl) ?_
  refine lv_if_eq (tgt := 16) S.1 S.2.1 dX11_put_10 (by decide) (fun b2 => ?_) (fun b2 => ?_)
  · have hF := (if_pos b2).symm.trans hF
    refine lv_aload_n S.1 S.2.1 dX11_put_16 rfl (lv_at hl 1 rfl) ?_
    refine r_getC S hK hM cfX11 0 4 28 (by decide) ly_0 rfl (by decide) tw_1_197 dX11_put_17 ?_
    refine lv_iload_n S.1 S.2.1 dX11_put_20 rfl (lv_at hl 2 rfl) ?_
    obtain ⟨hj3, j3, ej3, lj3, hF⟩ := ix_some hF
    refine r_aaldS S hK hM 28 (by decide) ly_28 hj3 ej3 dX11_put_21 ?_
    refine lv_astore (lv' := [(5, .ref (g.2.2 (29 + 2 * j3))), (4, .int r1), (0, .ref (g.2.2 0)), (1, .int a1), (2, .int a2), (3, .int a3)]) S.1 S.2.1 dX11_put_22 hl (by decide) rfl (fun ls hl => ?_)
    refine lv_iload_n S.1 S.2.1 dX11_put_24 rfl (lv_at hl 4 rfl) ?_
    refine lv_aload S.1 S.2.1 dX11_put_25 (lv_at hl 0 rfl) ?_
    refine r_getI S hK hM cfX7 (29 + 2 * j3) 3 (sh_lt lj3) (ly_sh lj3) rfl (by decide) tw_1_105 dX11_put_27 ?_
    obtain ⟨r4, er4, hF⟩ := bd1_some hF
    refine k_p (va_runS (As := [.int a2, .int (σ (29 + 2 * j3) 3)]) (rest := []) S (c_X11_isBelow hPL  er4) (va_cwS 2 S.2.2.2.2 (ul_S tw_1_229 tw_1_230 tw_1_1 cw_X11_isBelow) rfl rfl rfl hs_X11_isBelow ⟨Nat.le_of_ble_eq_true rfl, Nat.le_of_ble_eq_true rfl⟩) ⟨PreM.blind, hM.pre hK⟩ rfl rfl hl.1 rfl (lv_room (Nat.le_of_ble_eq_true rfl)) dX11_put_30 ⟨Nat.zero_le _, Nat.zero_le _⟩) ?_
    refine lv_if_ne (tgt := 39) S.1 S.2.1 dX11_put_33 (by decide) (fun b5 => ?_) (fun b5 => ?_)
    · have hF := (if_neg b5).symm.trans hF
      refine lv_aload S.1 S.2.1 dX11_put_39 (lv_at hl 0 rfl) ?_
      refine r_getC S hK hM cfX7 (29 + 2 * j3) 0 (29 + 2 * j3 + 1) (sh_lt lj3) (ly_sh lj3) rfl (by decide) tw_1_98 dX11_put_41 ?_
      refine lv_iload_n S.1 S.2.1 dX11_put_44 rfl (lv_at hl 4 rfl) ?_
      refine lv_aload S.1 S.2.1 dX11_put_45 (lv_at hl 0 rfl) ?_
      refine lv_iload_n S.1 S.2.1 dX11_put_47 rfl (lv_at hl 5 rfl) ?_
      obtain ⟨r6, er6, hF⟩ := bd1_some hF
      refine k_p (va_runV (As := [.int a3]) (rest := [.int a2, .ref (g.2.2 (29 + 2 * j3 + 1))]) S (c_X7_fitted hPL lj3 er6) (cwV 1 S.2.2.2.2 (ul_V tw_4_76 tw_4_77 tw_4_78 tw_1_3 cw_X7_fitted) rfl rfl rfl hv_X7_fitted ⟨Nat.le_of_ble_eq_true rfl, Nat.le_of_ble_eq_true rfl⟩) ⟨PreM.blind, hM.recv hK cfX7 (29 + 2 * j3) (sh_lt lj3) (ly_sh lj3), hM.pre hK⟩ rfl rfl hl.1 rfl (lv_room (Nat.le_of_ble_eq_true rfl)) dX11_put_48 ⟨Nat.zero_le _, Nat.zero_le _⟩) ?_
      obtain ⟨hσ7, σ7, eσ7, hF⟩ := wr_some hF
      refine r_iast S hK hM (29 + 2 * j3 + 1) (sh_lt1 lj3) (ly_sh1 lj3) hσ7 eσ7 dX11_put_51 (fun H locs hM => ?_)
      refine lv_iconst (v := 0) S.1 S.2.1 dX11_put_52 (by decide) ?_
      cases hF
      exact z_m (v := 0) S hM hr hlk rfl dX11_put_53
    · have hF := (if_pos b5).symm.trans hF
      refine lv_bipush (v := (-13)) S.1 S.2.1 dX11_put_36 (by decide) ?_
      cases hF
      exact z_m (v := (-13)) S hM hr hlk rfl dX11_put_38
  · have hF := (if_neg b2).symm.trans hF
    refine lv_iload S.1 S.2.1 dX11_put_13 (lv_at hl 0 rfl) ?_
    cases hF
    exact z_m (v := r1) S hM hr hlk rfl dX11_put_15
/-! X11_copy -/
def X11_copy (kf : KF) (σ : IM) (ρ : RM) (a1 : Int32) (a2 : Int32) (a3 : Int32) (a4 : Int32) (a5 : Int32) : Option (Int32 × IM × RM) := bd1 (X11_isBelow a1 8) fun r1 => if r1 = 0 then (some ((-1), σ, ρ)) else (bd1 (X11_isBelow a3 8) fun r3 => if r3 = 0 then (some ((-1), σ, ρ)) else (ix 8 a1 fun j5 => ix 8 a3 fun j6 => bd1 (X7_isBare kf σ ρ j5) fun r7 => if r7 = 0 then (bd1 (X7_isBare kf σ ρ j6) fun r9 => if r9 = 0 then (bd1 (X7_isRow kf σ ρ j5) fun r11 => if r11 = 0 then (some ((-12), σ, ρ)) else (if σ (29 + 2 * j5) 2 = σ (29 + 2 * j6) 2 then (bd1 (X7_spans kf σ ρ j5 a2 a5) fun r14 => if r14 = 0 then (some ((-13), σ, ρ)) else (bd1 (X7_spans kf σ ρ j6 a4 a5) fun r16 => if r16 = 0 then (some ((-13), σ, ρ)) else (ac σ (29 + 2 * j5 + 1) 100 (29 + 2 * j6 + 1) 100 a2 a4 a5 fun σ18 => some (a5, σ18, ρ)))) else (some ((-12), σ, ρ)))) else (some ((-11), σ, ρ))) else (some ((-11), σ, ρ))))
set_option maxRecDepth 20000 in
theorem c_X11_copy {l : Launch} {g : GE} {A : Nat → Prop} {LP : List Nat} {kf : KF} {σ : IM} {ρ : RM} {a1 : Int32} {a2 : Int32} {a3 : Int32} {a4 : Int32} {a5 : Int32} {out : Int32 × IM × RM} (hPL : PL LP kf) (hF : X11_copy kf σ ρ a1 a2 a3 a4 a5 = some out) : Met l yX11_copy (.code yX11_copy cX11_copy 8 (some .int) :: UL) ({ frames := 2, cells := 0, slots := 0, locals := 40 }) (va_Pc [.ref (g.2.2 0), .int a1, .int a2, .int a3, .int a4, .int a5] (PreM lyC 48 g A (va_pl LP (skE kf)) σ ρ)) (Qm lyC 48 g A (va_pl LP (skE kf)) out.2.1 out.2.2 (some (.int out.1))) 0 0 A := by
  refine e_of (by decide) (Nat.le_of_ble_eq_true rfl) ?_
  intro p e s m below meth c ls S hr hlk hv hl
  have hM := Mem.of hv
  have hK := hv.2.1
  have hl : lv_has ls 8 [(0, .ref (g.2.2 0)), (1, .int a1), (2, .int a2), (3, .int a3), (4, .int a4), (5, .int a5)] := hl
  unfold X11_copy at hF
  refine lv_iload_n S.1 S.2.1 dX11_copy_0 rfl (lv_at hl 1 rfl) ?_
  refine lv_bipush (v := 8) S.1 S.2.1 dX11_copy_1 (by decide) ?_
  obtain ⟨r1, er1, hF⟩ := bd1_some hF
  refine k_p (va_runS (As := [.int a1, .int 8]) (rest := []) S (c_X11_isBelow hPL  er1) (va_cwS 2 S.2.2.2.2 (ul_S tw_1_229 tw_1_230 tw_1_1 cw_X11_isBelow) rfl rfl rfl hs_X11_isBelow ⟨Nat.le_of_ble_eq_true rfl, Nat.le_of_ble_eq_true rfl⟩) ⟨PreM.blind, hM.pre hK⟩ rfl rfl hl.1 rfl (lv_room (Nat.le_of_ble_eq_true rfl)) dX11_copy_3 ⟨Nat.zero_le _, Nat.zero_le _⟩) ?_
  refine lv_if_eq (tgt := 18) S.1 S.2.1 dX11_copy_6 (by decide) (fun b2 => ?_) (fun b2 => ?_)
  · have hF := (if_pos b2).symm.trans hF
    refine lv_iconst (v := (-1)) S.1 S.2.1 dX11_copy_18 (by decide) ?_
    cases hF
    exact z_m (v := (-1)) S hM hr hlk rfl dX11_copy_19
  · have hF := (if_neg b2).symm.trans hF
    refine lv_iload_n S.1 S.2.1 dX11_copy_9 rfl (lv_at hl 3 rfl) ?_
    refine lv_bipush (v := 8) S.1 S.2.1 dX11_copy_10 (by decide) ?_
    obtain ⟨r3, er3, hF⟩ := bd1_some hF
    refine k_p (va_runS (As := [.int a3, .int 8]) (rest := []) S (c_X11_isBelow hPL  er3) (va_cwS 2 S.2.2.2.2 (ul_S tw_1_229 tw_1_230 tw_1_1 cw_X11_isBelow) rfl rfl rfl hs_X11_isBelow ⟨Nat.le_of_ble_eq_true rfl, Nat.le_of_ble_eq_true rfl⟩) ⟨PreM.blind, hM.pre hK⟩ rfl rfl hl.1 rfl (lv_room (Nat.le_of_ble_eq_true rfl)) dX11_copy_12 ⟨Nat.zero_le _, Nat.zero_le _⟩) ?_
    refine lv_if_ne (tgt := 20) S.1 S.2.1 dX11_copy_15 (by decide) (fun b4 => ?_) (fun b4 => ?_)
    · have hF := (if_neg b4).symm.trans hF
      refine lv_aload_n S.1 S.2.1 dX11_copy_20 rfl (lv_at hl 0 rfl) ?_
      refine r_getC S hK hM cfX11 0 4 28 (by decide) ly_0 rfl (by decide) tw_1_197 dX11_copy_21 ?_
      refine lv_iload_n S.1 S.2.1 dX11_copy_24 rfl (lv_at hl 1 rfl) ?_
      obtain ⟨hj5, j5, ej5, lj5, hF⟩ := ix_some hF
      refine r_aaldS S hK hM 28 (by decide) ly_28 hj5 ej5 dX11_copy_25 ?_
      refine lv_astore (lv' := [(6, .ref (g.2.2 (29 + 2 * j5))), (0, .ref (g.2.2 0)), (1, .int a1), (2, .int a2), (3, .int a3), (4, .int a4), (5, .int a5)]) S.1 S.2.1 dX11_copy_26 hl (by decide) rfl (fun ls hl => ?_)
      refine lv_aload_n S.1 S.2.1 dX11_copy_28 rfl (lv_at hl 1 rfl) ?_
      refine r_getC S hK hM cfX11 0 4 28 (by decide) ly_0 rfl (by decide) tw_1_197 dX11_copy_29 ?_
      refine lv_iload_n S.1 S.2.1 dX11_copy_32 rfl (lv_at hl 4 rfl) ?_
      obtain ⟨hj6, j6, ej6, lj6, hF⟩ := ix_some hF
      refine r_aaldS S hK hM 28 (by decide) ly_28 hj6 ej6 dX11_copy_33 ?_
      refine lv_astore (lv' := [(7, .ref (g.2.2 (29 + 2 * j6))), (6, .ref (g.2.2 (29 + 2 * j5))), (0, .ref (g.2.2 0)), (1, .int a1), (2, .int a2), (3, .int a3), (4, .int a4), (5, .int a5)]) S.1 S.2.1 dX11_copy_34 hl (by decide) rfl (fun ls hl => ?_)
      refine lv_aload S.1 S.2.1 dX11_copy_36 (lv_at hl 1 rfl) ?_
      obtain ⟨r7, er7, hF⟩ := bd1_some hF
      refine k_p (va_runV (As := []) (rest := []) S (c_X7_isBare hPL lj5 er7) (cwV 0 S.2.2.2.2 (ul_V tw_1_232 tw_1_233 tw_1_234 tw_1_3 cw_X7_isBare) rfl rfl rfl hv_X7_isBare ⟨Nat.le_of_ble_eq_true rfl, Nat.le_of_ble_eq_true rfl⟩) ⟨PreM.blind, hM.recv hK cfX7 (29 + 2 * j5) (sh_lt lj5) (ly_sh lj5), hM.pre hK⟩ rfl rfl hl.1 rfl (lv_room (Nat.le_of_ble_eq_true rfl)) dX11_copy_38 ⟨Nat.zero_le _, Nat.zero_le _⟩) ?_
      refine lv_if_ne (tgt := 52) S.1 S.2.1 dX11_copy_41 (by decide) (fun b8 => ?_) (fun b8 => ?_)
      · have hF := (if_neg b8).symm.trans hF
        refine lv_bipush (v := (-11)) S.1 S.2.1 dX11_copy_52 (by decide) ?_
        cases hF
        exact z_m (v := (-11)) S hM hr hlk rfl dX11_copy_54
      · have hF := (if_pos b8).symm.trans hF
        refine lv_aload S.1 S.2.1 dX11_copy_44 (lv_at hl 0 rfl) ?_
        obtain ⟨r9, er9, hF⟩ := bd1_some hF
        refine k_p (va_runV (As := []) (rest := []) S (c_X7_isBare hPL lj6 er9) (cwV 0 S.2.2.2.2 (ul_V tw_1_232 tw_1_233 tw_1_234 tw_1_3 cw_X7_isBare) rfl rfl rfl hv_X7_isBare ⟨Nat.le_of_ble_eq_true rfl, Nat.le_of_ble_eq_true rfl⟩) ⟨PreM.blind, hM.recv hK cfX7 (29 + 2 * j6) (sh_lt lj6) (ly_sh lj6), hM.pre hK⟩ rfl rfl hl.1 rfl (lv_room (Nat.le_of_ble_eq_true rfl)) dX11_copy_46 ⟨Nat.zero_le _, Nat.zero_le _⟩) ?_
        refine lv_if_eq (tgt := 55) S.1 S.2.1 dX11_copy_49 (by decide) (fun b10 => ?_) (fun b10 => ?_)
        · have hF := (if_pos b10).symm.trans hF
          refine lv_aload S.1 S.2.1 dX11_copy_55 (lv_at hl 1 rfl) ?_
          obtain ⟨r11, er11, hF⟩ := bd1_some hF
          refine k_p (va_runV (As := []) (rest := []) S (c_X7_isRow hPL lj5 er11) (cwV 0 S.2.2.2.2 (ul_V tw_2_0 tw_1_237 tw_1_238 tw_1_3 cw_X7_isRow) rfl rfl rfl hv_X7_isRow ⟨Nat.le_of_ble_eq_true rfl, Nat.le_of_ble_eq_true rfl⟩) ⟨PreM.blind, hM.recv hK cfX7 (29 + 2 * j5) (sh_lt lj5) (ly_sh lj5), hM.pre hK⟩ rfl rfl hl.1 rfl (lv_room (Nat.le_of_ble_eq_true rfl)) dX11_copy_57 ⟨Nat.zero_le _, Nat.zero_le _⟩) ?_
          refine lv_if_eq (tgt := 76) S.1 S.2.1 dX11_copy_60 (by decide) (fun b12 => ?_) (fun b12 => ?_)
          · have hF := (if_pos b12).symm.trans hF
            refine lv_bipush (v := (-12)) S.1 S.2.1 dX11_copy_76 (by decide) ?_
            cases hF
            exact z_m (v := (-12)) S hM hr hlk rfl dX11_copy_78
          · have hF := (if_neg b12).symm.trans hF
            refine lv_aload S.1 S.2.1 dX11_copy_63 (lv_at hl 1 rfl) ?_
            refine r_getI S hK hM cfX7 (29 + 2 * j5) 2 (sh_lt lj5) (ly_sh lj5) rfl (by decide) tw_1_102 dX11_copy_65 ?_
            refine lv_aload S.1 S.2.1 dX11_copy_68 (lv_at hl 0 rfl) ?_
            refine r_getI S hK hM cfX7 (29 + 2 * j6) 2 (sh_lt lj6) (ly_sh lj6) rfl (by decide) tw_1_102 dX11_copy_70 ?_
            refine lv_icmp_eq (tgt := 79) S.1 S.2.1 dX11_copy_73 (by decide) (fun b13 => ?_) (fun b13 => ?_)
            · have hF := (if_pos b13).symm.trans hF
              refine lv_aload S.1 S.2.1 dX11_copy_79 (lv_at hl 1 rfl) ?_
              refine lv_iload_n S.1 S.2.1 dX11_copy_81 rfl (lv_at hl 4 rfl) ?_
              refine lv_iload S.1 S.2.1 dX11_copy_82 (lv_at hl 7 rfl) ?_
              obtain ⟨r14, er14, hF⟩ := bd1_some hF
              refine k_p (va_runV (As := [.int a2, .int a5]) (rest := []) S (c_X7_spans hPL lj5 er14) (cwV 2 S.2.2.2.2 (ul_V tw_4_84 tw_4_85 tw_4_86 tw_1_3 cw_X7_spans) rfl rfl rfl hv_X7_spans ⟨Nat.le_of_ble_eq_true rfl, Nat.le_of_ble_eq_true rfl⟩) ⟨PreM.blind, hM.recv hK cfX7 (29 + 2 * j5) (sh_lt lj5) (ly_sh lj5), hM.pre hK⟩ rfl rfl hl.1 rfl (lv_room (Nat.le_of_ble_eq_true rfl)) dX11_copy_84 ⟨Nat.zero_le _, Nat.zero_le _⟩) ?_
              refine lv_if_eq (tgt := 102) S.1 S.2.1 dX11_copy_87 (by decide) (fun b15 => ?_) (fun b15 => ?_)
              · have hF := (if_pos b15).symm.trans hF
                refine lv_bipush (v := (-13)) S.1 S.2.1 dX11_copy_102 (by decide) ?_
                cases hF
                exact z_m (v := (-13)) S hM hr hlk rfl dX11_copy_104
              · have hF := (if_neg b15).symm.trans hF
                refine lv_aload S.1 S.2.1 dX11_copy_90 (lv_at hl 0 rfl) ?_
                refine lv_iload S.1 S.2.1 dX11_copy_92 (lv_at hl 6 rfl) ?_
                refine lv_iload S.1 S.2.1 dX11_copy_94 (lv_at hl 7 rfl) ?_
                obtain ⟨r16, er16, hF⟩ := bd1_some hF
                refine k_p (va_runV (As := [.int a4, .int a5]) (rest := []) S (c_X7_spans hPL lj6 er16) (cwV 2 S.2.2.2.2 (ul_V tw_4_84 tw_4_85 tw_4_86 tw_1_3 cw_X7_spans) rfl rfl rfl hv_X7_spans ⟨Nat.le_of_ble_eq_true rfl, Nat.le_of_ble_eq_true rfl⟩) ⟨PreM.blind, hM.recv hK cfX7 (29 + 2 * j6) (sh_lt lj6) (ly_sh lj6), hM.pre hK⟩ rfl rfl hl.1 rfl (lv_room (Nat.le_of_ble_eq_true rfl)) dX11_copy_96 ⟨Nat.zero_le _, Nat.zero_le _⟩) ?_
                refine lv_if_ne (tgt := 105) S.1 S.2.1 dX11_copy_99 (by decide) (fun b17 => ?_) (fun b17 => ?_)
                · have hF := (if_neg b17).symm.trans hF
                  refine lv_aload S.1 S.2.1 dX11_copy_105 (lv_at hl 1 rfl) ?_
                  refine r_getC S hK hM cfX7 (29 + 2 * j5) 0 (29 + 2 * j5 + 1) (sh_lt lj5) (ly_sh lj5) rfl (by decide) tw_1_98 dX11_copy_107 ?_
                  refine lv_iload_n S.1 S.2.1 dX11_copy_110 rfl (lv_at hl 4 rfl) ?_
                  refine lv_aload S.1 S.2.1 dX11_copy_111 (lv_at hl 0 rfl) ?_
                  refine r_getC S hK hM cfX7 (29 + 2 * j6) 0 (29 + 2 * j6 + 1) (sh_lt lj6) (ly_sh lj6) rfl (by decide) tw_1_98 dX11_copy_113 ?_
                  refine lv_iload S.1 S.2.1 dX11_copy_116 (lv_at hl 6 rfl) ?_
                  refine lv_iload S.1 S.2.1 dX11_copy_118 (lv_at hl 7 rfl) ?_
                  obtain ⟨hσ18, σ18, eσ18, hF⟩ := ac_some hF
                  refine r_copy S hK hM (29 + 2 * j5 + 1) (29 + 2 * j6 + 1) (sh_lt1 lj5) (ly_sh1 lj5) (sh_lt1 lj6) (ly_sh1 lj6) hσ18 eσ18 (S.2.2.1.trans hl.1.symm) tw_3_155 tw_2_24 tw_2_23 tw_1_14 (Nat.le_of_ble_eq_true rfl) (Nat.le_of_ble_eq_true rfl) dX11_copy_120 (fun H locs hM => ?_)
                  refine lv_iload S.1 S.2.1 dX11_copy_123 (lv_at hl 7 rfl) ?_
                  cases hF
                  exact z_m (v := a5) S hM hr hlk rfl dX11_copy_125
                · have hF := (if_pos b17).symm.trans hF
                  refine lv_bipush (v := (-13)) S.1 S.2.1 dX11_copy_102 (by decide) ?_
                  cases hF
                  exact z_m (v := (-13)) S hM hr hlk rfl dX11_copy_104
            · have hF := (if_neg b13).symm.trans hF
              refine lv_bipush (v := (-12)) S.1 S.2.1 dX11_copy_76 (by decide) ?_
              cases hF
              exact z_m (v := (-12)) S hM hr hlk rfl dX11_copy_78
        · have hF := (if_neg b10).symm.trans hF
          refine lv_bipush (v := (-11)) S.1 S.2.1 dX11_copy_52 (by decide) ?_
          cases hF
          exact z_m (v := (-11)) S hM hr hlk rfl dX11_copy_54
    · have hF := (if_pos b4).symm.trans hF
      refine lv_iconst (v := (-1)) S.1 S.2.1 dX11_copy_18 (by decide) ?_
      cases hF
      exact z_m (v := (-1)) S hM hr hlk rfl dX11_copy_19
/-! X11_cost -/
def X11_cost (kf : KF) (σ : IM) (ρ : RM) (a1 : Int32) : Option Int32 := bd1 (X11_refusalOf kf σ ρ a1 0) fun r1 => if r1 = 0 then (ix 8 a1 fun j3 => bd1 (ρ (29 + 2 * j3) 1) fun q4 => bd1 (V_price kf q4) fun r5 => some r5) else (some r1)
set_option maxRecDepth 20000 in
theorem c_X11_cost {l : Launch} {g : GE} {A : Nat → Prop} {LP : List Nat} {kf : KF} {σ : IM} {ρ : RM} {a1 : Int32} {out : Int32} (hPL : PL LP kf) (hF : X11_cost kf σ ρ a1 = some out) : Met l yX11_cost (.code yX11_cost cX11_cost 3 (some .int) :: UL) ({ frames := 3, cells := 0, slots := 0, locals := 62 }) (va_Pc [.ref (g.2.2 0), .int a1] (PreM lyC 48 g A (va_pl LP (skE kf)) σ ρ)) (Qp (some (.int out))) 0 0 NoA := by
  refine e_of (by decide) (Nat.le_of_ble_eq_true rfl) ?_
  intro p e s m below meth c ls S hr hlk hv hl
  have hM := Mem.of hv
  have hK := hv.2.1
  have hl : lv_has ls 3 [(0, .ref (g.2.2 0)), (1, .int a1)] := hl
  unfold X11_cost at hF
  refine lv_aload_n S.1 S.2.1 dX11_cost_0 rfl (lv_at hl 0 rfl) ?_
  refine lv_iload_n S.1 S.2.1 dX11_cost_1 rfl (lv_at hl 1 rfl) ?_
  refine lv_iconst (v := 0) S.1 S.2.1 dX11_cost_2 (by decide) ?_
  obtain ⟨r1, er1, hF⟩ := bd1_some hF
  refine k_p (va_runV (As := [.int a1, .int 0]) (rest := []) S (c_X11_refusalOf hPL  er1) (cwV 2 S.2.2.2.2 (ul_V tw_1_225 tw_1_227 ts_X11_refusalOf tw_1_1 cw_X11_refusalOf) rfl rfl rfl hv_X11_refusalOf ⟨Nat.le_of_ble_eq_true rfl, Nat.le_of_ble_eq_true rfl⟩) ⟨PreM.blind, hM.recv hK cfX11 0 (by decide) ly_0, hM.pre hK⟩ rfl rfl hl.1 rfl (lv_room (Nat.le_of_ble_eq_true rfl)) dX11_cost_3 ⟨Nat.zero_le _, Nat.zero_le _⟩) ?_
  refine lv_istore_n (lv' := [(2, .int r1), (0, .ref (g.2.2 0)), (1, .int a1)]) S.1 S.2.1 dX11_cost_6 rfl hl (by decide) rfl (fun ls hl => ?_)
  refine lv_iload_n S.1 S.2.1 dX11_cost_7 rfl (lv_at hl 0 rfl) ?_
  refine lv_if_eq (tgt := 15) S.1 S.2.1 dX11_cost_8 (by decide) (fun b2 => ?_) (fun b2 => ?_)
  · have hF := (if_pos b2).symm.trans hF
    refine lv_aload_n S.1 S.2.1 dX11_cost_15 rfl (lv_at hl 1 rfl) ?_
    refine r_getC S hK hM cfX11 0 4 28 (by decide) ly_0 rfl (by decide) tw_1_197 dX11_cost_16 ?_
    refine lv_iload_n S.1 S.2.1 dX11_cost_19 rfl (lv_at hl 2 rfl) ?_
    obtain ⟨hj3, j3, ej3, lj3, hF⟩ := ix_some hF
    refine r_aaldS S hK hM 28 (by decide) ly_28 hj3 ej3 dX11_cost_20 ?_
    obtain ⟨q4, eq4, hF⟩ := bd1_some hF
    refine r_getR S hK hM cfX7 (29 + 2 * j3) 1 eq4 (sh_lt lj3) (ly_sh lj3) rfl (by decide) tw_1_100 dX11_cost_21 ?_
    obtain ⟨r5, er5, hF⟩ := bd1_some hF
    refine k_p (rv_X11_312 (rest := []) S hK hM hPL er5 hl.1 dX11_cost_24 (Nat.le_of_ble_eq_true rfl) (Nat.le_of_ble_eq_true rfl) (lv_room (Nat.le_of_ble_eq_true rfl))) ?_
    cases hF
    exact z_p S hr hlk rfl dX11_cost_27
  · have hF := (if_neg b2).symm.trans hF
    refine lv_iload_n S.1 S.2.1 dX11_cost_11 rfl (lv_at hl 0 rfl) ?_
    refine lv_goto (tgt := 27) S.1 S.2.1 dX11_cost_12 (by decide) ?_
    cases hF
    exact z_p S hr hlk rfl dX11_cost_27
