/-! X9_kind -/
def X9_kind (f0 : Int32) : Option Int32 := some 0
set_option maxRecDepth 20000 in
theorem c_X9_kind {l : Launch} {g : GE} {A : Nat → Prop} {LP : List Nat} {kf : KF} {σ : IM} {ρ : RM} {f0 : Int32} {q0 k0 : Nat} {out : Int32} (hPL : PL LP kf) (hq0 : kf q0 = some (k0, f0)) (hF : X9_kind f0 = some out) : Met l yX9_kind (.code yX9_kind cX9_kind 1 (some .int) :: UL) ({ frames := 0, cells := 0, slots := 0, locals := 0 }) (va_Pc [.ref q0] (PreM lyC 48 g A (va_pl LP (skE kf)) σ ρ)) (Qp (some (.int out))) 0 0 NoA := by
  refine e_of (by decide) (Nat.le_of_ble_eq_true rfl) ?_
  intro p e s m below meth c ls S hr hlk hv hl
  have hM := Mem.of hv
  have hK := hv.2.1
  have hl : lv_has ls 1 [(0, .ref q0)] := hl
  unfold X9_kind at hF
  refine lv_iconst (v := 0) S.1 S.2.1 dX9_kind_0 (by decide) ?_
  cases hF
  exact z_p S hr hlk rfl dX9_kind_1
/-! X8_kind -/
def X8_kind (f0 : Int32) : Option Int32 := some 1
set_option maxRecDepth 20000 in
theorem c_X8_kind {l : Launch} {g : GE} {A : Nat → Prop} {LP : List Nat} {kf : KF} {σ : IM} {ρ : RM} {f0 : Int32} {q0 k0 : Nat} {out : Int32} (hPL : PL LP kf) (hq0 : kf q0 = some (k0, f0)) (hF : X8_kind f0 = some out) : Met l yX8_kind (.code yX8_kind cX8_kind 1 (some .int) :: UL) ({ frames := 0, cells := 0, slots := 0, locals := 0 }) (va_Pc [.ref q0] (PreM lyC 48 g A (va_pl LP (skE kf)) σ ρ)) (Qp (some (.int out))) 0 0 NoA := by
  refine e_of (by decide) (Nat.le_of_ble_eq_true rfl) ?_
  intro p e s m below meth c ls S hr hlk hv hl
  have hM := Mem.of hv
  have hK := hv.2.1
  have hl : lv_has ls 1 [(0, .ref q0)] := hl
  unfold X8_kind at hF
  refine lv_iconst (v := 1) S.1 S.2.1 dX8_kind_0 (by decide) ?_
  cases hF
  exact z_p S hr hlk rfl dX8_kind_1
/-! X3_kind -/
def X3_kind (f0 : Int32) : Option Int32 := some 2
set_option maxRecDepth 20000 in
theorem c_X3_kind {l : Launch} {g : GE} {A : Nat → Prop} {LP : List Nat} {kf : KF} {σ : IM} {ρ : RM} {f0 : Int32} {q0 k0 : Nat} {out : Int32} (hPL : PL LP kf) (hq0 : kf q0 = some (k0, f0)) (hF : X3_kind f0 = some out) : Met l yX3_kind (.code yX3_kind cX3_kind 1 (some .int) :: UL) ({ frames := 0, cells := 0, slots := 0, locals := 0 }) (va_Pc [.ref q0] (PreM lyC 48 g A (va_pl LP (skE kf)) σ ρ)) (Qp (some (.int out))) 0 0 NoA := by
  refine e_of (by decide) (Nat.le_of_ble_eq_true rfl) ?_
  intro p e s m below meth c ls S hr hlk hv hl
  have hM := Mem.of hv
  have hK := hv.2.1
  have hl : lv_has ls 1 [(0, .ref q0)] := hl
  unfold X3_kind at hF
  refine lv_iconst (v := 2) S.1 S.2.1 dX3_kind_0 (by decide) ?_
  cases hF
  exact z_p S hr hlk rfl dX3_kind_1
/-! X5_kind -/
def X5_kind (f0 : Int32) : Option Int32 := some 3
set_option maxRecDepth 20000 in
theorem c_X5_kind {l : Launch} {g : GE} {A : Nat → Prop} {LP : List Nat} {kf : KF} {σ : IM} {ρ : RM} {f0 : Int32} {q0 k0 : Nat} {out : Int32} (hPL : PL LP kf) (hq0 : kf q0 = some (k0, f0)) (hF : X5_kind f0 = some out) : Met l yX5_kind (.code yX5_kind cX5_kind 1 (some .int) :: UL) ({ frames := 0, cells := 0, slots := 0, locals := 0 }) (va_Pc [.ref q0] (PreM lyC 48 g A (va_pl LP (skE kf)) σ ρ)) (Qp (some (.int out))) 0 0 NoA := by
  refine e_of (by decide) (Nat.le_of_ble_eq_true rfl) ?_
  intro p e s m below meth c ls S hr hlk hv hl
  have hM := Mem.of hv
  have hK := hv.2.1
  have hl : lv_has ls 1 [(0, .ref q0)] := hl
  unfold X5_kind at hF
  refine lv_iconst (v := 3) S.1 S.2.1 dX5_kind_0 (by decide) ?_
  cases hF
  exact z_p S hr hlk rfl dX5_kind_1
/-! X6_kind -/
def X6_kind (f0 : Int32) : Option Int32 := some 4
set_option maxRecDepth 20000 in
theorem c_X6_kind {l : Launch} {g : GE} {A : Nat → Prop} {LP : List Nat} {kf : KF} {σ : IM} {ρ : RM} {f0 : Int32} {q0 k0 : Nat} {out : Int32} (hPL : PL LP kf) (hq0 : kf q0 = some (k0, f0)) (hF : X6_kind f0 = some out) : Met l yX6_kind (.code yX6_kind cX6_kind 1 (some .int) :: UL) ({ frames := 0, cells := 0, slots := 0, locals := 0 }) (va_Pc [.ref q0] (PreM lyC 48 g A (va_pl LP (skE kf)) σ ρ)) (Qp (some (.int out))) 0 0 NoA := by
  refine e_of (by decide) (Nat.le_of_ble_eq_true rfl) ?_
  intro p e s m below meth c ls S hr hlk hv hl
  have hM := Mem.of hv
  have hK := hv.2.1
  have hl : lv_has ls 1 [(0, .ref q0)] := hl
  unfold X6_kind at hF
  refine lv_iconst (v := 4) S.1 S.2.1 dX6_kind_0 (by decide) ?_
  cases hF
  exact z_p S hr hlk rfl dX6_kind_1
/-! X4_kind -/
def X4_kind (f0 : Int32) : Option Int32 := some 5
set_option maxRecDepth 20000 in
theorem c_X4_kind {l : Launch} {g : GE} {A : Nat → Prop} {LP : List Nat} {kf : KF} {σ : IM} {ρ : RM} {f0 : Int32} {q0 k0 : Nat} {out : Int32} (hPL : PL LP kf) (hq0 : kf q0 = some (k0, f0)) (hF : X4_kind f0 = some out) : Met l yX4_kind (.code yX4_kind cX4_kind 1 (some .int) :: UL) ({ frames := 0, cells := 0, slots := 0, locals := 0 }) (va_Pc [.ref q0] (PreM lyC 48 g A (va_pl LP (skE kf)) σ ρ)) (Qp (some (.int out))) 0 0 NoA := by
  refine e_of (by decide) (Nat.le_of_ble_eq_true rfl) ?_
  intro p e s m below meth c ls S hr hlk hv hl
  have hM := Mem.of hv
  have hK := hv.2.1
  have hl : lv_has ls 1 [(0, .ref q0)] := hl
  unfold X4_kind at hF
  refine lv_iconst (v := 5) S.1 S.2.1 dX4_kind_0 (by decide) ?_
  cases hF
  exact z_p S hr hlk rfl dX4_kind_1
/-! X0_kind -/
def X0_kind (f0 : Int32) : Option Int32 := some 6
set_option maxRecDepth 20000 in
theorem c_X0_kind {l : Launch} {g : GE} {A : Nat → Prop} {LP : List Nat} {kf : KF} {σ : IM} {ρ : RM} {f0 : Int32} {q0 k0 : Nat} {out : Int32} (hPL : PL LP kf) (hq0 : kf q0 = some (k0, f0)) (hF : X0_kind f0 = some out) : Met l yX0_kind (.code yX0_kind cX0_kind 1 (some .int) :: UL) ({ frames := 0, cells := 0, slots := 0, locals := 0 }) (va_Pc [.ref q0] (PreM lyC 48 g A (va_pl LP (skE kf)) σ ρ)) (Qp (some (.int out))) 0 0 NoA := by
  refine e_of (by decide) (Nat.le_of_ble_eq_true rfl) ?_
  intro p e s m below meth c ls S hr hlk hv hl
  have hM := Mem.of hv
  have hK := hv.2.1
  have hl : lv_has ls 1 [(0, .ref q0)] := hl
  unfold X0_kind at hF
  refine lv_bipush (v := 6) S.1 S.2.1 dX0_kind_0 (by decide) ?_
  cases hF
  exact z_p S hr hlk rfl dX0_kind_2
/-! X10_kind -/
def X10_kind (f0 : Int32) : Option Int32 := some 7
set_option maxRecDepth 20000 in
theorem c_X10_kind {l : Launch} {g : GE} {A : Nat → Prop} {LP : List Nat} {kf : KF} {σ : IM} {ρ : RM} {f0 : Int32} {q0 k0 : Nat} {out : Int32} (hPL : PL LP kf) (hq0 : kf q0 = some (k0, f0)) (hF : X10_kind f0 = some out) : Met l yX10_kind (.code yX10_kind cX10_kind 1 (some .int) :: UL) ({ frames := 0, cells := 0, slots := 0, locals := 0 }) (va_Pc [.ref q0] (PreM lyC 48 g A (va_pl LP (skE kf)) σ ρ)) (Qp (some (.int out))) 0 0 NoA := by
  refine e_of (by decide) (Nat.le_of_ble_eq_true rfl) ?_
  intro p e s m below meth c ls S hr hlk hv hl
  have hM := Mem.of hv
  have hK := hv.2.1
  have hl : lv_has ls 1 [(0, .ref q0)] := hl
  unfold X10_kind at hF
  refine lv_bipush (v := 7) S.1 S.2.1 dX10_kind_0 (by decide) ?_
  cases hF
  exact z_p S hr hlk rfl dX10_kind_2
/-! X9_timeTo -/
def X9_timeTo (f0 : Int32) (a1 : Int32) : Option Int32 := some 3
set_option maxRecDepth 20000 in
theorem c_X9_timeTo {l : Launch} {g : GE} {A : Nat → Prop} {LP : List Nat} {kf : KF} {σ : IM} {ρ : RM} {f0 : Int32} {a1 : Int32} {q0 k0 : Nat} {out : Int32} (hPL : PL LP kf) (hq0 : kf q0 = some (k0, f0)) (hF : X9_timeTo f0 a1 = some out) : Met l yX9_timeTo (.code yX9_timeTo cX9_timeTo 2 (some .int) :: UL) ({ frames := 0, cells := 0, slots := 0, locals := 0 }) (va_Pc [.ref q0, .int a1] (PreM lyC 48 g A (va_pl LP (skE kf)) σ ρ)) (Qp (some (.int out))) 0 0 NoA := by
  refine e_of (by decide) (Nat.le_of_ble_eq_true rfl) ?_
  intro p e s m below meth c ls S hr hlk hv hl
  have hM := Mem.of hv
  have hK := hv.2.1
  have hl : lv_has ls 2 [(0, .ref q0), (1, .int a1)] := hl
  unfold X9_timeTo at hF
  refine lv_iconst (v := 3) S.1 S.2.1 dX9_timeTo_0 (by decide) ?_
  cases hF
  exact z_p S hr hlk rfl dX9_timeTo_1
/-! X8_timeTo -/
def X8_timeTo (f0 : Int32) (a1 : Int32) : Option Int32 := if f0 < 5 then (some 2) else (some 1)
set_option maxRecDepth 20000 in
theorem c_X8_timeTo {l : Launch} {g : GE} {A : Nat → Prop} {LP : List Nat} {kf : KF} {σ : IM} {ρ : RM} {f0 : Int32} {a1 : Int32} {q0 k0 : Nat} {out : Int32} (hPL : PL LP kf) (hq0 : kf q0 = some (k0, f0)) (hF : X8_timeTo f0 a1 = some out) : Met l yX8_timeTo (.code yX8_timeTo cX8_timeTo 2 (some .int) :: UL) ({ frames := 0, cells := 0, slots := 0, locals := 0 }) (va_Pc [.ref q0, .int a1] (PreM lyC 48 g A (va_pl LP (skE kf)) σ ρ)) (Qp (some (.int out))) 0 0 NoA := by
  refine e_of (by decide) (Nat.le_of_ble_eq_true rfl) ?_
  intro p e s m below meth c ls S hr hlk hv hl
  have hM := Mem.of hv
  have hK := hv.2.1
  have hl : lv_has ls 2 [(0, .ref q0), (1, .int a1)] := hl
  unfold X8_timeTo at hF
  refine lv_aload_n S.1 S.2.1 dX8_timeTo_0 rfl (lv_at hl 0 rfl) ?_
  refine r_fig S hK hM hPL hq0 tw_1_128 (u_same (S.2.2.2.2 _ tw_1_129)) dX8_timeTo_1 ?_
  refine lv_iconst (v := 5) S.1 S.2.1 dX8_timeTo_4 (by decide) ?_
  refine lv_icmp_lt (tgt := 12) S.1 S.2.1 dX8_timeTo_5 (by decide) (fun b1 => ?_) (fun b1 => ?_)
  · have hF := (if_pos b1).symm.trans hF
    refine lv_iconst (v := 2) S.1 S.2.1 dX8_timeTo_12 (by decide) ?_
    cases hF
    exact z_p S hr hlk rfl dX8_timeTo_13
  · have hF := (if_neg b1).symm.trans hF
    refine lv_iconst (v := 1) S.1 S.2.1 dX8_timeTo_8 (by decide) ?_
    refine lv_goto (tgt := 13) S.1 S.2.1 dX8_timeTo_9 (by decide) ?_
    cases hF
    exact z_p S hr hlk rfl dX8_timeTo_13
/-! X3_timeTo -/
def X3_timeTo (f0 : Int32) (a1 : Int32) : Option Int32 := if a1 / 3 = 0 then (some 2) else (bd1 (X9_timeTo f0 a1) fun r2 => some r2)
set_option maxRecDepth 20000 in
theorem c_X3_timeTo {l : Launch} {g : GE} {A : Nat → Prop} {LP : List Nat} {kf : KF} {σ : IM} {ρ : RM} {f0 : Int32} {a1 : Int32} {q0 k0 : Nat} {out : Int32} (hPL : PL LP kf) (hq0 : kf q0 = some (k0, f0)) (hF : X3_timeTo f0 a1 = some out) : Met l yX3_timeTo (.code yX3_timeTo cX3_timeTo 2 (some .int) :: UL) ({ frames := 1, cells := 0, slots := 0, locals := 21 }) (va_Pc [.ref q0, .int a1] (PreM lyC 48 g A (va_pl LP (skE kf)) σ ρ)) (Qp (some (.int out))) 0 0 NoA := by
  refine e_of (by decide) (Nat.le_of_ble_eq_true rfl) ?_
  intro p e s m below meth c ls S hr hlk hv hl
  have hM := Mem.of hv
  have hK := hv.2.1
  have hl : lv_has ls 2 [(0, .ref q0), (1, .int a1)] := hl
  unfold X3_timeTo at hF
  refine lv_iload_n S.1 S.2.1 dX3_timeTo_0 rfl (lv_at hl 1 rfl) ?_
  refine lv_iconst (v := 3) S.1 S.2.1 dX3_timeTo_1 (by decide) ?_
  refine lv_idiv S.1 S.2.1 dX3_timeTo_2 (by decide) ?_
  refine lv_if_ne (tgt := 10) S.1 S.2.1 dX3_timeTo_3 (by decide) (fun b1 => ?_) (fun b1 => ?_)
  · have hF := (if_neg b1).symm.trans hF
    refine lv_aload_n S.1 S.2.1 dX3_timeTo_10 rfl (lv_at hl 0 rfl) ?_
    refine lv_iload_n S.1 S.2.1 dX3_timeTo_11 rfl (lv_at hl 1 rfl) ?_
    obtain ⟨zC, zc, z_at, z_recv⟩ := pl_recv hK hM hPL hq0
    obtain ⟨r2, er2, hF⟩ := bd1_some hF
    refine k_p (va_runSU (As := [.int a1]) (rest := []) z_at S (c_X9_timeTo hPL hq0 er2) (va_cwSU 1 S.2.2.2.2 (ul_SU tw_2_106 tw_2_101 tw_1_147 tw_2_99 tw_1_4 cw_X9_timeTo) rfl rfl rfl hu_X9_timeTo ⟨Nat.le_of_ble_eq_true rfl, Nat.le_of_ble_eq_true rfl⟩) ⟨PreM.blind, z_recv, hM.pre hK⟩ rfl rfl hl.1 rfl (lv_room (Nat.le_of_ble_eq_true rfl)) dX3_timeTo_12 ⟨Nat.zero_le _, Nat.zero_le _⟩) ?_
    cases hF
    exact z_p S hr hlk rfl dX3_timeTo_15
  · have hF := (if_pos b1).symm.trans hF
    refine lv_iconst (v := 2) S.1 S.2.1 dX3_timeTo_6 (by decide) ?_
    refine lv_goto (tgt := 15) S.1 S.2.1 dX3_timeTo_7 (by decide) ?_
    cases hF
    exact z_p S hr hlk rfl dX3_timeTo_15
/-! X5_timeTo -/
def X5_timeTo (f0 : Int32) (a1 : Int32) : Option Int32 := bd1 (X9_timeTo f0 a1) fun r1 => some (r1 + 3)
set_option maxRecDepth 20000 in
theorem c_X5_timeTo {l : Launch} {g : GE} {A : Nat → Prop} {LP : List Nat} {kf : KF} {σ : IM} {ρ : RM} {f0 : Int32} {a1 : Int32} {q0 k0 : Nat} {out : Int32} (hPL : PL LP kf) (hq0 : kf q0 = some (k0, f0)) (hF : X5_timeTo f0 a1 = some out) : Met l yX5_timeTo (.code yX5_timeTo cX5_timeTo 2 (some .int) :: UL) ({ frames := 1, cells := 0, slots := 0, locals := 21 }) (va_Pc [.ref q0, .int a1] (PreM lyC 48 g A (va_pl LP (skE kf)) σ ρ)) (Qp (some (.int out))) 0 0 NoA := by
  refine e_of (by decide) (Nat.le_of_ble_eq_true rfl) ?_
  intro p e s m below meth c ls S hr hlk hv hl
  have hM := Mem.of hv
  have hK := hv.2.1
  have hl : lv_has ls 2 [(0, .ref q0), (1, .int a1)] := hl
  unfold X5_timeTo at hF
  refine lv_aload_n S.1 S.2.1 dX5_timeTo_0 rfl (lv_at hl 0 rfl) ?_
  refine lv_iload_n S.1 S.2.1 dX5_timeTo_1 rfl (lv_at hl 1 rfl) ?_
  obtain ⟨zC, zc, z_at, z_recv⟩ := pl_recv hK hM hPL hq0
  obtain ⟨r1, er1, hF⟩ := bd1_some hF
  refine k_p (va_runSU (As := [.int a1]) (rest := []) z_at S (c_X9_timeTo hPL hq0 er1) (va_cwSU 1 S.2.2.2.2 (ul_SU tw_2_113 tw_2_101 tw_1_155 tw_2_99 tw_1_4 cw_X9_timeTo) rfl rfl rfl hu_X9_timeTo ⟨Nat.le_of_ble_eq_true rfl, Nat.le_of_ble_eq_true rfl⟩) ⟨PreM.blind, z_recv, hM.pre hK⟩ rfl rfl hl.1 rfl (lv_room (Nat.le_of_ble_eq_true rfl)) dX5_timeTo_2 ⟨Nat.zero_le _, Nat.zero_le _⟩) ?_
  refine lv_iconst (v := 3) S.1 S.2.1 dX5_timeTo_5 (by decide) ?_
  refine lv_iadd S.1 S.2.1 dX5_timeTo_6 ?_
  cases hF
  exact z_p S hr hlk rfl dX5_timeTo_7
/-! X6_timeTo -/
def X6_timeTo (f0 : Int32) (a1 : Int32) : Option Int32 := bd1 (X3_timeTo f0 a1) fun r1 => some (r1 - 1)
set_option maxRecDepth 20000 in
theorem c_X6_timeTo {l : Launch} {g : GE} {A : Nat → Prop} {LP : List Nat} {kf : KF} {σ : IM} {ρ : RM} {f0 : Int32} {a1 : Int32} {q0 k0 : Nat} {out : Int32} (hPL : PL LP kf) (hq0 : kf q0 = some (k0, f0)) (hF : X6_timeTo f0 a1 = some out) : Met l yX6_timeTo (.code yX6_timeTo cX6_timeTo 2 (some .int) :: UL) ({ frames := 2, cells := 0, slots := 0, locals := 42 }) (va_Pc [.ref q0, .int a1] (PreM lyC 48 g A (va_pl LP (skE kf)) σ ρ)) (Qp (some (.int out))) 0 0 NoA := by
  refine e_of (by decide) (Nat.le_of_ble_eq_true rfl) ?_
  intro p e s m below meth c ls S hr hlk hv hl
  have hM := Mem.of hv
  have hK := hv.2.1
  have hl : lv_has ls 2 [(0, .ref q0), (1, .int a1)] := hl
  unfold X6_timeTo at hF
  refine lv_aload_n S.1 S.2.1 dX6_timeTo_0 rfl (lv_at hl 0 rfl) ?_
  refine lv_iload_n S.1 S.2.1 dX6_timeTo_1 rfl (lv_at hl 1 rfl) ?_
  obtain ⟨zC, zc, z_at, z_recv⟩ := pl_recv hK hM hPL hq0
  obtain ⟨r1, er1, hF⟩ := bd1_some hF
  refine k_p (va_runSU (As := [.int a1]) (rest := []) z_at S (c_X3_timeTo hPL hq0 er1) (va_cwSU 1 S.2.2.2.2 (ul_SU tw_2_118 tw_6_227 tw_1_163 tw_2_104 tw_1_6 cw_X3_timeTo) rfl rfl rfl hu_X3_timeTo ⟨Nat.le_of_ble_eq_true rfl, Nat.le_of_ble_eq_true rfl⟩) ⟨PreM.blind, z_recv, hM.pre hK⟩ rfl rfl hl.1 rfl (lv_room (Nat.le_of_ble_eq_true rfl)) dX6_timeTo_2 ⟨Nat.zero_le _, Nat.zero_le _⟩) ?_
  refine lv_iconst (v := 1) S.1 S.2.1 dX6_timeTo_5 (by decide) ?_
  refine lv_isub S.1 S.2.1 dX6_timeTo_6 ?_
  cases hF
  exact z_p S hr hlk rfl dX6_timeTo_7
/-! X4_timeTo -/
def X4_timeTo (f0 : Int32) (a1 : Int32) : Option Int32 := bd1 (X5_timeTo f0 a1) fun r1 => some (r1 / 2)
set_option maxRecDepth 20000 in
theorem c_X4_timeTo {l : Launch} {g : GE} {A : Nat → Prop} {LP : List Nat} {kf : KF} {σ : IM} {ρ : RM} {f0 : Int32} {a1 : Int32} {q0 k0 : Nat} {out : Int32} (hPL : PL LP kf) (hq0 : kf q0 = some (k0, f0)) (hF : X4_timeTo f0 a1 = some out) : Met l yX4_timeTo (.code yX4_timeTo cX4_timeTo 2 (some .int) :: UL) ({ frames := 2, cells := 0, slots := 0, locals := 42 }) (va_Pc [.ref q0, .int a1] (PreM lyC 48 g A (va_pl LP (skE kf)) σ ρ)) (Qp (some (.int out))) 0 0 NoA := by
  refine e_of (by decide) (Nat.le_of_ble_eq_true rfl) ?_
  intro p e s m below meth c ls S hr hlk hv hl
  have hM := Mem.of hv
  have hK := hv.2.1
  have hl : lv_has ls 2 [(0, .ref q0), (1, .int a1)] := hl
  unfold X4_timeTo at hF
  refine lv_aload_n S.1 S.2.1 dX4_timeTo_0 rfl (lv_at hl 0 rfl) ?_
  refine lv_iload_n S.1 S.2.1 dX4_timeTo_1 rfl (lv_at hl 1 rfl) ?_
  obtain ⟨zC, zc, z_at, z_recv⟩ := pl_recv hK hM hPL hq0
  obtain ⟨r1, er1, hF⟩ := bd1_some hF
  refine k_p (va_runSU (As := [.int a1]) (rest := []) z_at S (c_X5_timeTo hPL hq0 er1) (va_cwSU 1 S.2.2.2.2 (ul_SU tw_2_110 tw_6_226 tw_1_171 tw_2_111 tw_1_7 cw_X5_timeTo) rfl rfl rfl hu_X5_timeTo ⟨Nat.le_of_ble_eq_true rfl, Nat.le_of_ble_eq_true rfl⟩) ⟨PreM.blind, z_recv, hM.pre hK⟩ rfl rfl hl.1 rfl (lv_room (Nat.le_of_ble_eq_true rfl)) dX4_timeTo_2 ⟨Nat.zero_le _, Nat.zero_le _⟩) ?_
  refine lv_iconst (v := 2) S.1 S.2.1 dX4_timeTo_5 (by decide) ?_
  refine lv_idiv S.1 S.2.1 dX4_timeTo_6 (by decide) ?_
  cases hF
  exact z_p S hr hlk rfl dX4_timeTo_7
/-! X10_timeTo -/
def X10_timeTo (f0 : Int32) (a1 : Int32) : Option Int32 := bd1 (X5_timeTo f0 a1) fun r1 => some (r1 + 1)
set_option maxRecDepth 20000 in
theorem c_X10_timeTo {l : Launch} {g : GE} {A : Nat → Prop} {LP : List Nat} {kf : KF} {σ : IM} {ρ : RM} {f0 : Int32} {a1 : Int32} {q0 k0 : Nat} {out : Int32} (hPL : PL LP kf) (hq0 : kf q0 = some (k0, f0)) (hF : X10_timeTo f0 a1 = some out) : Met l yX10_timeTo (.code yX10_timeTo cX10_timeTo 2 (some .int) :: UL) ({ frames := 2, cells := 0, slots := 0, locals := 42 }) (va_Pc [.ref q0, .int a1] (PreM lyC 48 g A (va_pl LP (skE kf)) σ ρ)) (Qp (some (.int out))) 0 0 NoA := by
  refine e_of (by decide) (Nat.le_of_ble_eq_true rfl) ?_
  intro p e s m below meth c ls S hr hlk hv hl
  have hM := Mem.of hv
  have hK := hv.2.1
  have hl : lv_has ls 2 [(0, .ref q0), (1, .int a1)] := hl
  unfold X10_timeTo at hF
  refine lv_aload_n S.1 S.2.1 dX10_timeTo_0 rfl (lv_at hl 0 rfl) ?_
  refine lv_iload_n S.1 S.2.1 dX10_timeTo_1 rfl (lv_at hl 1 rfl) ?_
  obtain ⟨zC, zc, z_at, z_recv⟩ := pl_recv hK hM hPL hq0
  obtain ⟨r1, er1, hF⟩ := bd1_some hF
  refine k_p (va_runSU (As := [.int a1]) (rest := []) z_at S (c_X5_timeTo hPL hq0 er1) (va_cwSU 1 S.2.2.2.2 (ul_SU tw_2_125 tw_6_226 tw_1_187 tw_2_111 tw_1_7 cw_X5_timeTo) rfl rfl rfl hu_X5_timeTo ⟨Nat.le_of_ble_eq_true rfl, Nat.le_of_ble_eq_true rfl⟩) ⟨PreM.blind, z_recv, hM.pre hK⟩ rfl rfl hl.1 rfl (lv_room (Nat.le_of_ble_eq_true rfl)) dX10_timeTo_2 ⟨Nat.zero_le _, Nat.zero_le _⟩) ?_
  refine lv_iconst (v := 1) S.1 S.2.1 dX10_timeTo_5 (by decide) ?_
  refine lv_iadd S.1 S.2.1 dX10_timeTo_6 ?_
  cases hF
  exact z_p S hr hlk rfl dX10_timeTo_7
/-! X9_effort -/
def X9_effort (f0 : Int32) : Option Int32 := some 1
set_option maxRecDepth 20000 in
theorem c_X9_effort {l : Launch} {g : GE} {A : Nat → Prop} {LP : List Nat} {kf : KF} {σ : IM} {ρ : RM} {f0 : Int32} {q0 k0 : Nat} {out : Int32} (hPL : PL LP kf) (hq0 : kf q0 = some (k0, f0)) (hF : X9_effort f0 = some out) : Met l yX9_effort (.code yX9_effort cX9_effort 1 (some .int) :: UL) ({ frames := 0, cells := 0, slots := 0, locals := 0 }) (va_Pc [.ref q0] (PreM lyC 48 g A (va_pl LP (skE kf)) σ ρ)) (Qp (some (.int out))) 0 0 NoA := by
  refine e_of (by decide) (Nat.le_of_ble_eq_true rfl) ?_
  intro p e s m below meth c ls S hr hlk hv hl
  have hM := Mem.of hv
  have hK := hv.2.1
  have hl : lv_has ls 1 [(0, .ref q0)] := hl
  unfold X9_effort at hF
  refine lv_iconst (v := 1) S.1 S.2.1 dX9_effort_0 (by decide) ?_
  cases hF
  exact z_p S hr hlk rfl dX9_effort_1
/-! X8_effort -/
def X8_effort (f0 : Int32) : Option Int32 := some 5
set_option maxRecDepth 20000 in
theorem c_X8_effort {l : Launch} {g : GE} {A : Nat → Prop} {LP : List Nat} {kf : KF} {σ : IM} {ρ : RM} {f0 : Int32} {q0 k0 : Nat} {out : Int32} (hPL : PL LP kf) (hq0 : kf q0 = some (k0, f0)) (hF : X8_effort f0 = some out) : Met l yX8_effort (.code yX8_effort cX8_effort 1 (some .int) :: UL) ({ frames := 0, cells := 0, slots := 0, locals := 0 }) (va_Pc [.ref q0] (PreM lyC 48 g A (va_pl LP (skE kf)) σ ρ)) (Qp (some (.int out))) 0 0 NoA := by
  refine e_of (by decide) (Nat.le_of_ble_eq_true rfl) ?_
  intro p e s m below meth c ls S hr hlk hv hl
  have hM := Mem.of hv
  have hK := hv.2.1
  have hl : lv_has ls 1 [(0, .ref q0)] := hl
  unfold X8_effort at hF
  refine lv_iconst (v := 5) S.1 S.2.1 dX8_effort_0 (by decide) ?_
  cases hF
  exact z_p S hr hlk rfl dX8_effort_1
/-! X3_effort -/
def X3_effort (f0 : Int32) : Option Int32 := bd1 (X9_effort f0) fun r1 => some (r1 + (f0 / 3))
set_option maxRecDepth 20000 in
theorem c_X3_effort {l : Launch} {g : GE} {A : Nat → Prop} {LP : List Nat} {kf : KF} {σ : IM} {ρ : RM} {f0 : Int32} {q0 k0 : Nat} {out : Int32} (hPL : PL LP kf) (hq0 : kf q0 = some (k0, f0)) (hF : X3_effort f0 = some out) : Met l yX3_effort (.code yX3_effort cX3_effort 1 (some .int) :: UL) ({ frames := 1, cells := 0, slots := 0, locals := 20 }) (va_Pc [.ref q0] (PreM lyC 48 g A (va_pl LP (skE kf)) σ ρ)) (Qp (some (.int out))) 0 0 NoA := by
  refine e_of (by decide) (Nat.le_of_ble_eq_true rfl) ?_
  intro p e s m below meth c ls S hr hlk hv hl
  have hM := Mem.of hv
  have hK := hv.2.1
  have hl : lv_has ls 1 [(0, .ref q0)] := hl
  unfold X3_effort at hF
  refine lv_aload_n S.1 S.2.1 dX3_effort_0 rfl (lv_at hl 0 rfl) ?_
  obtain ⟨zC, zc, z_at, z_recv⟩ := pl_recv hK hM hPL hq0
  obtain ⟨r1, er1, hF⟩ := bd1_some hF
  refine k_p (va_runSU (As := []) (rest := []) z_at S (c_X9_effort hPL hq0 er1) (va_cwSU 0 S.2.2.2.2 (ul_SU tw_2_167 tw_2_162 tw_1_147 tw_2_160 tw_1_4 cw_X9_effort) rfl rfl rfl hu_X9_effort ⟨Nat.le_of_ble_eq_true rfl, Nat.le_of_ble_eq_true rfl⟩) ⟨PreM.blind, z_recv, hM.pre hK⟩ rfl rfl hl.1 rfl (lv_room (Nat.le_of_ble_eq_true rfl)) dX3_effort_1 ⟨Nat.zero_le _, Nat.zero_le _⟩) ?_
  refine lv_aload_n S.1 S.2.1 dX3_effort_4 rfl (lv_at hl 0 rfl) ?_
  refine r_fig S hK hM hPL hq0 tw_1_133 (u_same (S.2.2.2.2 _ tw_1_134)) dX3_effort_5 ?_
  refine lv_iconst (v := 3) S.1 S.2.1 dX3_effort_8 (by decide) ?_
  refine lv_idiv S.1 S.2.1 dX3_effort_9 (by decide) ?_
  refine lv_iadd S.1 S.2.1 dX3_effort_10 ?_
  cases hF
  exact z_p S hr hlk rfl dX3_effort_11
/-! X5_effort -/
def X5_effort (f0 : Int32) : Option Int32 := bd1 (X9_effort f0) fun r1 => some (r1 + 1)
set_option maxRecDepth 20000 in
theorem c_X5_effort {l : Launch} {g : GE} {A : Nat → Prop} {LP : List Nat} {kf : KF} {σ : IM} {ρ : RM} {f0 : Int32} {q0 k0 : Nat} {out : Int32} (hPL : PL LP kf) (hq0 : kf q0 = some (k0, f0)) (hF : X5_effort f0 = some out) : Met l yX5_effort (.code yX5_effort cX5_effort 1 (some .int) :: UL) ({ frames := 1, cells := 0, slots := 0, locals := 20 }) (va_Pc [.ref q0] (PreM lyC 48 g A (va_pl LP (skE kf)) σ ρ)) (Qp (some (.int out))) 0 0 NoA := by
  refine e_of (by decide) (Nat.le_of_ble_eq_true rfl) ?_
  intro p e s m below meth c ls S hr hlk hv hl
  have hM := Mem.of hv
  have hK := hv.2.1
  have hl : lv_has ls 1 [(0, .ref q0)] := hl
  unfold X5_effort at hF
  refine lv_aload_n S.1 S.2.1 dX5_effort_0 rfl (lv_at hl 0 rfl) ?_
  obtain ⟨zC, zc, z_at, z_recv⟩ := pl_recv hK hM hPL hq0
  obtain ⟨r1, er1, hF⟩ := bd1_some hF
  refine k_p (va_runSU (As := []) (rest := []) z_at S (c_X9_effort hPL hq0 er1) (va_cwSU 0 S.2.2.2.2 (ul_SU tw_2_174 tw_2_162 tw_1_155 tw_2_160 tw_1_4 cw_X9_effort) rfl rfl rfl hu_X9_effort ⟨Nat.le_of_ble_eq_true rfl, Nat.le_of_ble_eq_true rfl⟩) ⟨PreM.blind, z_recv, hM.pre hK⟩ rfl rfl hl.1 rfl (lv_room (Nat.le_of_ble_eq_true rfl)) dX5_effort_1 ⟨Nat.zero_le _, Nat.zero_le _⟩) ?_
  refine lv_iconst (v := 1) S.1 S.2.1 dX5_effort_4 (by decide) ?_
  refine lv_iadd S.1 S.2.1 dX5_effort_5 ?_
  cases hF
  exact z_p S hr hlk rfl dX5_effort_6
/-! X4_effort -/
def X4_effort (f0 : Int32) : Option Int32 := bd1 (X5_effort f0) fun r1 => some (r1 - 1)
set_option maxRecDepth 20000 in
theorem c_X4_effort {l : Launch} {g : GE} {A : Nat → Prop} {LP : List Nat} {kf : KF} {σ : IM} {ρ : RM} {f0 : Int32} {q0 k0 : Nat} {out : Int32} (hPL : PL LP kf) (hq0 : kf q0 = some (k0, f0)) (hF : X4_effort f0 = some out) : Met l yX4_effort (.code yX4_effort cX4_effort 1 (some .int) :: UL) ({ frames := 2, cells := 0, slots := 0, locals := 40 }) (va_Pc [.ref q0] (PreM lyC 48 g A (va_pl LP (skE kf)) σ ρ)) (Qp (some (.int out))) 0 0 NoA := by
  refine e_of (by decide) (Nat.le_of_ble_eq_true rfl) ?_
  intro p e s m below meth c ls S hr hlk hv hl
  have hM := Mem.of hv
  have hK := hv.2.1
  have hl : lv_has ls 1 [(0, .ref q0)] := hl
  unfold X4_effort at hF
  refine lv_aload_n S.1 S.2.1 dX4_effort_0 rfl (lv_at hl 0 rfl) ?_
  obtain ⟨zC, zc, z_at, z_recv⟩ := pl_recv hK hM hPL hq0
  obtain ⟨r1, er1, hF⟩ := bd1_some hF
  refine k_p (va_runSU (As := []) (rest := []) z_at S (c_X5_effort hPL hq0 er1) (va_cwSU 0 S.2.2.2.2 (ul_SU tw_2_171 tw_6_228 tw_1_171 tw_2_172 tw_1_7 cw_X5_effort) rfl rfl rfl hu_X5_effort ⟨Nat.le_of_ble_eq_true rfl, Nat.le_of_ble_eq_true rfl⟩) ⟨PreM.blind, z_recv, hM.pre hK⟩ rfl rfl hl.1 rfl (lv_room (Nat.le_of_ble_eq_true rfl)) dX4_effort_1 ⟨Nat.zero_le _, Nat.zero_le _⟩) ?_
  refine lv_iconst (v := 1) S.1 S.2.1 dX4_effort_4 (by decide) ?_
  refine lv_isub S.1 S.2.1 dX4_effort_5 ?_
  cases hF
  exact z_p S hr hlk rfl dX4_effort_6
/-! X9_landing -/
def X9_landing (f0 : Int32) (a1 : Int32) (a2 : Int32) : Option Int32 := some a1
set_option maxRecDepth 20000 in
theorem c_X9_landing {l : Launch} {g : GE} {A : Nat → Prop} {LP : List Nat} {kf : KF} {σ : IM} {ρ : RM} {f0 : Int32} {a1 : Int32} {a2 : Int32} {q0 k0 : Nat} {out : Int32} (hPL : PL LP kf) (hq0 : kf q0 = some (k0, f0)) (hF : X9_landing f0 a1 a2 = some out) : Met l yX9_landing (.code yX9_landing cX9_landing 3 (some .int) :: UL) ({ frames := 0, cells := 0, slots := 0, locals := 0 }) (va_Pc [.ref q0, .int a1, .int a2] (PreM lyC 48 g A (va_pl LP (skE kf)) σ ρ)) (Qp (some (.int out))) 0 0 NoA := by
  refine e_of (by decide) (Nat.le_of_ble_eq_true rfl) ?_
  intro p e s m below meth c ls S hr hlk hv hl
  have hM := Mem.of hv
  have hK := hv.2.1
  have hl : lv_has ls 3 [(0, .ref q0), (1, .int a1), (2, .int a2)] := hl
  unfold X9_landing at hF
  refine lv_iload_n S.1 S.2.1 dX9_landing_0 rfl (lv_at hl 1 rfl) ?_
  cases hF
  exact z_p S hr hlk rfl dX9_landing_1
/-! X0_landing -/
def X0_landing (f0 : Int32) (a1 : Int32) (a2 : Int32) : Option Int32 := some (((a1 / 3) * 3) + 1)
set_option maxRecDepth 20000 in
theorem c_X0_landing {l : Launch} {g : GE} {A : Nat → Prop} {LP : List Nat} {kf : KF} {σ : IM} {ρ : RM} {f0 : Int32} {a1 : Int32} {a2 : Int32} {q0 k0 : Nat} {out : Int32} (hPL : PL LP kf) (hq0 : kf q0 = some (k0, f0)) (hF : X0_landing f0 a1 a2 = some out) : Met l yX0_landing (.code yX0_landing cX0_landing 3 (some .int) :: UL) ({ frames := 0, cells := 0, slots := 0, locals := 0 }) (va_Pc [.ref q0, .int a1, .int a2] (PreM lyC 48 g A (va_pl LP (skE kf)) σ ρ)) (Qp (some (.int out))) 0 0 NoA := by
  refine e_of (by decide) (Nat.le_of_ble_eq_true rfl) ?_
  intro p e s m below meth c ls S hr hlk hv hl
  have hM := Mem.of hv
  have hK := hv.2.1
  have hl : lv_has ls 3 [(0, .ref q0), (1, .int a1), (2, .int a2)] := hl
  unfold X0_landing at hF
  refine lv_iload_n S.1 S.2.1 dX0_landing_0 rfl (lv_at hl 1 rfl) ?_
  refine lv_iconst (v := 3) S.1 S.2.1 dX0_landing_1 (by decide) ?_
  refine lv_idiv S.1 S.2.1 dX0_landing_2 (by decide) ?_
  refine lv_iconst (v := 3) S.1 S.2.1 dX0_landing_3 (by decide) ?_
  refine lv_imul S.1 S.2.1 dX0_landing_4 ?_
  refine lv_iconst (v := 1) S.1 S.2.1 dX0_landing_5 (by decide) ?_
  refine lv_iadd S.1 S.2.1 dX0_landing_6 ?_
  cases hF
  exact z_p S hr hlk rfl dX0_landing_7
/-! X10_landing -/
def X10_landing (f0 : Int32) (a1 : Int32) (a2 : Int32) : Option Int32 := bd (if (rem32 a1 3) + a2 < 2 then (rem32 a1 3) + a2 else 2) fun v1 => bd (if 0 < v1 then v1 else 0) fun v2 => some (((a1 / 3) * 3) + v2)
set_option maxRecDepth 20000 in
theorem c_X10_landing {l : Launch} {g : GE} {A : Nat → Prop} {LP : List Nat} {kf : KF} {σ : IM} {ρ : RM} {f0 : Int32} {a1 : Int32} {a2 : Int32} {q0 k0 : Nat} {out : Int32} (hPL : PL LP kf) (hq0 : kf q0 = some (k0, f0)) (hF : X10_landing f0 a1 a2 = some out) : Met l yX10_landing (.code yX10_landing cX10_landing 4 (some .int) :: UL) ({ frames := 1, cells := 0, slots := 0, locals := 21 }) (va_Pc [.ref q0, .int a1, .int a2] (PreM lyC 48 g A (va_pl LP (skE kf)) σ ρ)) (Qp (some (.int out))) 0 0 NoA := by
  refine e_of (by decide) (Nat.le_of_ble_eq_true rfl) ?_
  intro p e s m below meth c ls S hr hlk hv hl
  have hM := Mem.of hv
  have hK := hv.2.1
  have hl : lv_has ls 4 [(0, .ref q0), (1, .int a1), (2, .int a2)] := hl
  unfold X10_landing at hF
  refine lv_iconst (v := 0) S.1 S.2.1 dX10_landing_0 (by decide) ?_
  refine lv_iconst (v := 2) S.1 S.2.1 dX10_landing_1 (by decide) ?_
  refine lv_iload_n S.1 S.2.1 dX10_landing_2 rfl (lv_at hl 1 rfl) ?_
  refine lv_iconst (v := 3) S.1 S.2.1 dX10_landing_3 (by decide) ?_
  refine r_irem S dX10_landing_4 (by decide) ?_
  refine lv_iload_n S.1 S.2.1 dX10_landing_5 rfl (lv_at hl 2 rfl) ?_
  refine lv_iadd S.1 S.2.1 dX10_landing_6 ?_
  refine va_mmin S.1 S.2.1 (S.2.2.1.trans hl.1.symm) S.2.2.2.1 (S.2.2.2.2 _ tw_2_91) (S.2.2.2.2 _ tw_2_92) (S.2.2.2.2 _ tw_1_15) (S.2.2.2.2 _ tw_2_93) (Nat.le_of_ble_eq_true rfl) (Nat.le_of_ble_eq_true rfl) (Nat.zero_le _) (Nat.zero_le _) dX10_landing_7 ?_
  refine lv_topi (fun v1 ev1 => ?_)
  have hF := bd_at ev1 hF
  refine va_mmax S.1 S.2.1 (S.2.2.1.trans hl.1.symm) S.2.2.2.1 (S.2.2.2.2 _ tw_2_94) (S.2.2.2.2 _ tw_2_95) (S.2.2.2.2 _ tw_1_15) (S.2.2.2.2 _ tw_2_96) (Nat.le_of_ble_eq_true rfl) (Nat.le_of_ble_eq_true rfl) (Nat.zero_le _) (Nat.zero_le _) dX10_landing_10 ?_
  refine lv_topi (fun v2 ev2 => ?_)
  have hF := bd_at ev2 hF
  refine lv_istore_n (lv' := [(3, .int v2), (0, .ref q0), (1, .int a1), (2, .int a2)]) S.1 S.2.1 dX10_landing_13 rfl hl (by decide) rfl (fun ls hl => ?_)
  refine lv_iload_n S.1 S.2.1 dX10_landing_14 rfl (lv_at hl 2 rfl) ?_
  refine lv_iconst (v := 3) S.1 S.2.1 dX10_landing_15 (by decide) ?_
  refine lv_idiv S.1 S.2.1 dX10_landing_16 (by decide) ?_
  refine lv_iconst (v := 3) S.1 S.2.1 dX10_landing_17 (by decide) ?_
  refine lv_imul S.1 S.2.1 dX10_landing_18 ?_
  refine lv_iload_n S.1 S.2.1 dX10_landing_19 rfl (lv_at hl 0 rfl) ?_
  refine lv_iadd S.1 S.2.1 dX10_landing_20 ?_
  cases hF
  exact z_p S hr hlk rfl dX10_landing_21
/-! X9_price -/
def X9_price (f0 : Int32) : Option Int32 := some 2
set_option maxRecDepth 20000 in
theorem c_X9_price {l : Launch} {g : GE} {A : Nat → Prop} {LP : List Nat} {kf : KF} {σ : IM} {ρ : RM} {f0 : Int32} {q0 k0 : Nat} {out : Int32} (hPL : PL LP kf) (hq0 : kf q0 = some (k0, f0)) (hF : X9_price f0 = some out) : Met l yX9_price (.code yX9_price cX9_price 1 (some .int) :: UL) ({ frames := 0, cells := 0, slots := 0, locals := 0 }) (va_Pc [.ref q0] (PreM lyC 48 g A (va_pl LP (skE kf)) σ ρ)) (Qp (some (.int out))) 0 0 NoA := by
  refine e_of (by decide) (Nat.le_of_ble_eq_true rfl) ?_
  intro p e s m below meth c ls S hr hlk hv hl
  have hM := Mem.of hv
  have hK := hv.2.1
  have hl : lv_has ls 1 [(0, .ref q0)] := hl
  unfold X9_price at hF
  refine lv_iconst (v := 2) S.1 S.2.1 dX9_price_0 (by decide) ?_
  cases hF
  exact z_p S hr hlk rfl dX9_price_1
/-! X8_price -/
def X8_price (f0 : Int32) : Option Int32 := some 6
set_option maxRecDepth 20000 in
theorem c_X8_price {l : Launch} {g : GE} {A : Nat → Prop} {LP : List Nat} {kf : KF} {σ : IM} {ρ : RM} {f0 : Int32} {q0 k0 : Nat} {out : Int32} (hPL : PL LP kf) (hq0 : kf q0 = some (k0, f0)) (hF : X8_price f0 = some out) : Met l yX8_price (.code yX8_price cX8_price 1 (some .int) :: UL) ({ frames := 0, cells := 0, slots := 0, locals := 0 }) (va_Pc [.ref q0] (PreM lyC 48 g A (va_pl LP (skE kf)) σ ρ)) (Qp (some (.int out))) 0 0 NoA := by
  refine e_of (by decide) (Nat.le_of_ble_eq_true rfl) ?_
  intro p e s m below meth c ls S hr hlk hv hl
  have hM := Mem.of hv
  have hK := hv.2.1
  have hl : lv_has ls 1 [(0, .ref q0)] := hl
  unfold X8_price at hF
  refine lv_bipush (v := 6) S.1 S.2.1 dX8_price_0 (by decide) ?_
  cases hF
  exact z_p S hr hlk rfl dX8_price_2
/-! X3_price -/
def X3_price (f0 : Int32) : Option Int32 := bd1 (X9_price f0) fun r1 => some (r1 + f0)
set_option maxRecDepth 20000 in
theorem c_X3_price {l : Launch} {g : GE} {A : Nat → Prop} {LP : List Nat} {kf : KF} {σ : IM} {ρ : RM} {f0 : Int32} {q0 k0 : Nat} {out : Int32} (hPL : PL LP kf) (hq0 : kf q0 = some (k0, f0)) (hF : X3_price f0 = some out) : Met l yX3_price (.code yX3_price cX3_price 1 (some .int) :: UL) ({ frames := 1, cells := 0, slots := 0, locals := 20 }) (va_Pc [.ref q0] (PreM lyC 48 g A (va_pl LP (skE kf)) σ ρ)) (Qp (some (.int out))) 0 0 NoA := by
  refine e_of (by decide) (Nat.le_of_ble_eq_true rfl) ?_
  intro p e s m below meth c ls S hr hlk hv hl
  have hM := Mem.of hv
  have hK := hv.2.1
  have hl : lv_has ls 1 [(0, .ref q0)] := hl
  unfold X3_price at hF
  refine lv_aload_n S.1 S.2.1 dX3_price_0 rfl (lv_at hl 0 rfl) ?_
  obtain ⟨zC, zc, z_at, z_recv⟩ := pl_recv hK hM hPL hq0
  obtain ⟨r1, er1, hF⟩ := bd1_some hF
  refine k_p (va_runSU (As := []) (rest := []) z_at S (c_X9_price hPL hq0 er1) (va_cwSU 0 S.2.2.2.2 (ul_SU tw_4_102 tw_4_95 tw_1_147 tw_4_93 tw_1_4 cw_X9_price) rfl rfl rfl hu_X9_price ⟨Nat.le_of_ble_eq_true rfl, Nat.le_of_ble_eq_true rfl⟩) ⟨PreM.blind, z_recv, hM.pre hK⟩ rfl rfl hl.1 rfl (lv_room (Nat.le_of_ble_eq_true rfl)) dX3_price_1 ⟨Nat.zero_le _, Nat.zero_le _⟩) ?_
  refine lv_aload_n S.1 S.2.1 dX3_price_4 rfl (lv_at hl 0 rfl) ?_
  refine r_fig S hK hM hPL hq0 tw_1_133 (u_same (S.2.2.2.2 _ tw_1_134)) dX3_price_5 ?_
  refine lv_iadd S.1 S.2.1 dX3_price_8 ?_
  cases hF
  exact z_p S hr hlk rfl dX3_price_9
/-! X5_price -/
def X5_price (f0 : Int32) : Option Int32 := some 1
set_option maxRecDepth 20000 in
theorem c_X5_price {l : Launch} {g : GE} {A : Nat → Prop} {LP : List Nat} {kf : KF} {σ : IM} {ρ : RM} {f0 : Int32} {q0 k0 : Nat} {out : Int32} (hPL : PL LP kf) (hq0 : kf q0 = some (k0, f0)) (hF : X5_price f0 = some out) : Met l yX5_price (.code yX5_price cX5_price 1 (some .int) :: UL) ({ frames := 0, cells := 0, slots := 0, locals := 0 }) (va_Pc [.ref q0] (PreM lyC 48 g A (va_pl LP (skE kf)) σ ρ)) (Qp (some (.int out))) 0 0 NoA := by
  refine e_of (by decide) (Nat.le_of_ble_eq_true rfl) ?_
  intro p e s m below meth c ls S hr hlk hv hl
  have hM := Mem.of hv
  have hK := hv.2.1
  have hl : lv_has ls 1 [(0, .ref q0)] := hl
  unfold X5_price at hF
  refine lv_iconst (v := 1) S.1 S.2.1 dX5_price_0 (by decide) ?_
  cases hF
  exact z_p S hr hlk rfl dX5_price_1
/-! X6_price -/
def X6_price (f0 : Int32) : Option Int32 := bd1 (X3_price f0) fun r1 => some (r1 / 2)
set_option maxRecDepth 20000 in
theorem c_X6_price {l : Launch} {g : GE} {A : Nat → Prop} {LP : List Nat} {kf : KF} {σ : IM} {ρ : RM} {f0 : Int32} {q0 k0 : Nat} {out : Int32} (hPL : PL LP kf) (hq0 : kf q0 = some (k0, f0)) (hF : X6_price f0 = some out) : Met l yX6_price (.code yX6_price cX6_price 1 (some .int) :: UL) ({ frames := 2, cells := 0, slots := 0, locals := 40 }) (va_Pc [.ref q0] (PreM lyC 48 g A (va_pl LP (skE kf)) σ ρ)) (Qp (some (.int out))) 0 0 NoA := by
  refine e_of (by decide) (Nat.le_of_ble_eq_true rfl) ?_
  intro p e s m below meth c ls S hr hlk hv hl
  have hM := Mem.of hv
  have hK := hv.2.1
  have hl : lv_has ls 1 [(0, .ref q0)] := hl
  unfold X6_price at hF
  refine lv_aload_n S.1 S.2.1 dX6_price_0 rfl (lv_at hl 0 rfl) ?_
  obtain ⟨zC, zc, z_at, z_recv⟩ := pl_recv hK hM hPL hq0
  obtain ⟨r1, er1, hF⟩ := bd1_some hF
  refine k_p (va_runSU (As := []) (rest := []) z_at S (c_X3_price hPL hq0 er1) (va_cwSU 0 S.2.2.2.2 (ul_SU tw_4_113 tw_6_230 tw_1_163 tw_4_100 tw_1_6 cw_X3_price) rfl rfl rfl hu_X3_price ⟨Nat.le_of_ble_eq_true rfl, Nat.le_of_ble_eq_true rfl⟩) ⟨PreM.blind, z_recv, hM.pre hK⟩ rfl rfl hl.1 rfl (lv_room (Nat.le_of_ble_eq_true rfl)) dX6_price_1 ⟨Nat.zero_le _, Nat.zero_le _⟩) ?_
  refine lv_iconst (v := 2) S.1 S.2.1 dX6_price_4 (by decide) ?_
  refine lv_idiv S.1 S.2.1 dX6_price_5 (by decide) ?_
  cases hF
  exact z_p S hr hlk rfl dX6_price_6
/-! X4_price -/
def X4_price (f0 : Int32) : Option Int32 := bd1 (X5_price f0) fun r1 => some (r1 + 2)
set_option maxRecDepth 20000 in
theorem c_X4_price {l : Launch} {g : GE} {A : Nat → Prop} {LP : List Nat} {kf : KF} {σ : IM} {ρ : RM} {f0 : Int32} {q0 k0 : Nat} {out : Int32} (hPL : PL LP kf) (hq0 : kf q0 = some (k0, f0)) (hF : X4_price f0 = some out) : Met l yX4_price (.code yX4_price cX4_price 1 (some .int) :: UL) ({ frames := 1, cells := 0, slots := 0, locals := 20 }) (va_Pc [.ref q0] (PreM lyC 48 g A (va_pl LP (skE kf)) σ ρ)) (Qp (some (.int out))) 0 0 NoA := by
  refine e_of (by decide) (Nat.le_of_ble_eq_true rfl) ?_
  intro p e s m below meth c ls S hr hlk hv hl
  have hM := Mem.of hv
  have hK := hv.2.1
  have hl : lv_has ls 1 [(0, .ref q0)] := hl
  unfold X4_price at hF
  refine lv_aload_n S.1 S.2.1 dX4_price_0 rfl (lv_at hl 0 rfl) ?_
  obtain ⟨zC, zc, z_at, z_recv⟩ := pl_recv hK hM hPL hq0
  obtain ⟨r1, er1, hF⟩ := bd1_some hF
  refine k_p (va_runSU (As := []) (rest := []) z_at S (c_X5_price hPL hq0 er1) (va_cwSU 0 S.2.2.2.2 (ul_SU tw_4_106 tw_6_229 tw_1_171 tw_4_107 tw_1_7 cw_X5_price) rfl rfl rfl hu_X5_price ⟨Nat.le_of_ble_eq_true rfl, Nat.le_of_ble_eq_true rfl⟩) ⟨PreM.blind, z_recv, hM.pre hK⟩ rfl rfl hl.1 rfl (lv_room (Nat.le_of_ble_eq_true rfl)) dX4_price_1 ⟨Nat.zero_le _, Nat.zero_le _⟩) ?_
  refine lv_iconst (v := 2) S.1 S.2.1 dX4_price_4 (by decide) ?_
  refine lv_iadd S.1 S.2.1 dX4_price_5 ?_
  cases hF
  exact z_p S hr hlk rfl dX4_price_6
/-! X0_price -/
def X0_price (f0 : Int32) : Option Int32 := some f0
set_option maxRecDepth 20000 in
theorem c_X0_price {l : Launch} {g : GE} {A : Nat → Prop} {LP : List Nat} {kf : KF} {σ : IM} {ρ : RM} {f0 : Int32} {q0 k0 : Nat} {out : Int32} (hPL : PL LP kf) (hq0 : kf q0 = some (k0, f0)) (hF : X0_price f0 = some out) : Met l yX0_price (.code yX0_price cX0_price 1 (some .int) :: UL) ({ frames := 0, cells := 0, slots := 0, locals := 0 }) (va_Pc [.ref q0] (PreM lyC 48 g A (va_pl LP (skE kf)) σ ρ)) (Qp (some (.int out))) 0 0 NoA := by
  refine e_of (by decide) (Nat.le_of_ble_eq_true rfl) ?_
  intro p e s m below meth c ls S hr hlk hv hl
  have hM := Mem.of hv
  have hK := hv.2.1
  have hl : lv_has ls 1 [(0, .ref q0)] := hl
  unfold X0_price at hF
  refine lv_aload_n S.1 S.2.1 dX0_price_0 rfl (lv_at hl 0 rfl) ?_
  refine r_fig S hK hM hPL hq0 tw_1_131 (u_same (S.2.2.2.2 _ tw_1_132)) dX0_price_1 ?_
  cases hF
  exact z_p S hr hlk rfl dX0_price_4
/-! X10_price -/
def X10_price (f0 : Int32) : Option Int32 := some 0
set_option maxRecDepth 20000 in
theorem c_X10_price {l : Launch} {g : GE} {A : Nat → Prop} {LP : List Nat} {kf : KF} {σ : IM} {ρ : RM} {f0 : Int32} {q0 k0 : Nat} {out : Int32} (hPL : PL LP kf) (hq0 : kf q0 = some (k0, f0)) (hF : X10_price f0 = some out) : Met l yX10_price (.code yX10_price cX10_price 1 (some .int) :: UL) ({ frames := 0, cells := 0, slots := 0, locals := 0 }) (va_Pc [.ref q0] (PreM lyC 48 g A (va_pl LP (skE kf)) σ ρ)) (Qp (some (.int out))) 0 0 NoA := by
  refine e_of (by decide) (Nat.le_of_ble_eq_true rfl) ?_
  intro p e s m below meth c ls S hr hlk hv hl
  have hM := Mem.of hv
  have hK := hv.2.1
  have hl : lv_has ls 1 [(0, .ref q0)] := hl
  unfold X10_price at hF
  refine lv_iconst (v := 0) S.1 S.2.1 dX10_price_0 (by decide) ?_
  cases hF
  exact z_p S hr hlk rfl dX10_price_1
/-! J6_bitCount_0f7a4 -/
def J6_bitCount_0f7a4 (a0 : Int32) : Option Int32 := bd (a0 - (((a0.toUInt32 >>> ((1 : Int32).toUInt32 &&& Int32.toUInt32 31)).toInt32) &&& 1431655765)) fun v1 => bd ((v1 &&& 858993459) + (((v1.toUInt32 >>> ((2 : Int32).toUInt32 &&& Int32.toUInt32 31)).toInt32) &&& 858993459)) fun v2 => bd ((v2 + ((v2.toUInt32 >>> ((4 : Int32).toUInt32 &&& Int32.toUInt32 31)).toInt32)) &&& 252645135) fun v3 => bd (v3 + ((v3.toUInt32 >>> ((8 : Int32).toUInt32 &&& Int32.toUInt32 31)).toInt32)) fun v4 => bd (v4 + ((v4.toUInt32 >>> ((16 : Int32).toUInt32 &&& Int32.toUInt32 31)).toInt32)) fun v5 => some (v5 &&& 63)
set_option maxRecDepth 20000 in
theorem c_J6_bitCount_0f7a4 {l : Launch} {g : GE} {A : Nat → Prop} {LP : List Nat} {kf : KF} {σ : IM} {ρ : RM} {a0 : Int32} {out : Int32} (hPL : PL LP kf) (hF : J6_bitCount_0f7a4 a0 = some out) : Met l yJ6_bitCount_0f7a4 (.code yJ6_bitCount_0f7a4 cJ6_bitCount_0f7a4 1 (some .int) :: UL) ({ frames := 0, cells := 0, slots := 0, locals := 0 }) (va_Pc [.int a0] (PreM lyC 48 g A (va_pl LP (skE kf)) σ ρ)) (Qp (some (.int out))) 0 0 NoA := by
  refine e_of (by decide) (Nat.le_of_ble_eq_true rfl) ?_
  intro p e s m below meth c ls S hr hlk hv hl
  have hM := Mem.of hv
  have hK := hv.2.1
  have hl : lv_has ls 1 [(0, .int a0)] := hl
  unfold J6_bitCount_0f7a4 at hF
  refine lv_iload_n S.1 S.2.1 dJ6_bitCount_0f7a4_0 rfl (lv_at hl 0 rfl) ?_
  refine lv_iload_n S.1 S.2.1 dJ6_bitCount_0f7a4_1 rfl (lv_at hl 0 rfl) ?_
  refine lv_iconst (v := 1) S.1 S.2.1 dJ6_bitCount_0f7a4_2 (by decide) ?_
  refine lv_iushr S.1 S.2.1 dJ6_bitCount_0f7a4_3 rfl ?_
  refine lv_ldcw (v := 1431655765) S.1 S.2.1 S.2.2.2.1 (S.2.2.2.2 _ tw_3_232) dJ6_bitCount_0f7a4_4 ?_
  refine lv_iand S.1 S.2.1 dJ6_bitCount_0f7a4_7 ?_
  refine lv_isub S.1 S.2.1 dJ6_bitCount_0f7a4_8 ?_
  refine lv_topi (fun v1 ev1 => ?_)
  have hF := bd_at ev1 hF
  refine lv_istore_n (lv' := [(0, .int v1)]) S.1 S.2.1 dJ6_bitCount_0f7a4_9 rfl hl (by decide) rfl (fun ls hl => ?_)
  refine lv_iload_n S.1 S.2.1 dJ6_bitCount_0f7a4_10 rfl (lv_at hl 0 rfl) ?_
  refine lv_ldcw (v := 858993459) S.1 S.2.1 S.2.2.2.1 (S.2.2.2.2 _ tw_3_233) dJ6_bitCount_0f7a4_11 ?_
  refine lv_iand S.1 S.2.1 dJ6_bitCount_0f7a4_14 ?_
  refine lv_iload_n S.1 S.2.1 dJ6_bitCount_0f7a4_15 rfl (lv_at hl 0 rfl) ?_
  refine lv_iconst (v := 2) S.1 S.2.1 dJ6_bitCount_0f7a4_16 (by decide) ?_
  refine lv_iushr S.1 S.2.1 dJ6_bitCount_0f7a4_17 rfl ?_
  refine lv_ldcw (v := 858993459) S.1 S.2.1 S.2.2.2.1 (S.2.2.2.2 _ tw_3_233) dJ6_bitCount_0f7a4_18 ?_
  refine lv_iand S.1 S.2.1 dJ6_bitCount_0f7a4_21 ?_
  refine lv_iadd S.1 S.2.1 dJ6_bitCount_0f7a4_22 ?_
  refine lv_topi (fun v2 ev2 => ?_)
  have hF := bd_at ev2 hF
  refine lv_istore_n (lv' := [(0, .int v2)]) S.1 S.2.1 dJ6_bitCount_0f7a4_23 rfl hl (by decide) rfl (fun ls hl => ?_)
  refine lv_iload_n S.1 S.2.1 dJ6_bitCount_0f7a4_24 rfl (lv_at hl 0 rfl) ?_
  refine lv_iload_n S.1 S.2.1 dJ6_bitCount_0f7a4_25 rfl (lv_at hl 0 rfl) ?_
  refine lv_iconst (v := 4) S.1 S.2.1 dJ6_bitCount_0f7a4_26 (by decide) ?_
  refine lv_iushr S.1 S.2.1 dJ6_bitCount_0f7a4_27 rfl ?_
  refine lv_iadd S.1 S.2.1 dJ6_bitCount_0f7a4_28 ?_
  refine lv_ldcw (v := 252645135) S.1 S.2.1 S.2.2.2.1 (S.2.2.2.2 _ tw_3_234) dJ6_bitCount_0f7a4_29 ?_
  refine lv_iand S.1 S.2.1 dJ6_bitCount_0f7a4_32 ?_
  refine lv_topi (fun v3 ev3 => ?_)
  have hF := bd_at ev3 hF
  refine lv_istore_n (lv' := [(0, .int v3)]) S.1 S.2.1 dJ6_bitCount_0f7a4_33 rfl hl (by decide) rfl (fun ls hl => ?_)
  refine lv_iload_n S.1 S.2.1 dJ6_bitCount_0f7a4_34 rfl (lv_at hl 0 rfl) ?_
  refine lv_iload_n S.1 S.2.1 dJ6_bitCount_0f7a4_35 rfl (lv_at hl 0 rfl) ?_
  refine lv_bipush (v := 8) S.1 S.2.1 dJ6_bitCount_0f7a4_36 (by decide) ?_
  refine lv_iushr S.1 S.2.1 dJ6_bitCount_0f7a4_38 rfl ?_
  refine lv_iadd S.1 S.2.1 dJ6_bitCount_0f7a4_39 ?_
  refine lv_topi (fun v4 ev4 => ?_)
  have hF := bd_at ev4 hF
  refine lv_istore_n (lv' := [(0, .int v4)]) S.1 S.2.1 dJ6_bitCount_0f7a4_40 rfl hl (by decide) rfl (fun ls hl => ?_)
  refine lv_iload_n S.1 S.2.1 dJ6_bitCount_0f7a4_41 rfl (lv_at hl 0 rfl) ?_
  refine lv_iload_n S.1 S.2.1 dJ6_bitCount_0f7a4_42 rfl (lv_at hl 0 rfl) ?_
  refine lv_bipush (v := 16) S.1 S.2.1 dJ6_bitCount_0f7a4_43 (by decide) ?_
  refine lv_iushr S.1 S.2.1 dJ6_bitCount_0f7a4_45 rfl ?_
  refine lv_iadd S.1 S.2.1 dJ6_bitCount_0f7a4_46 ?_
  refine lv_topi (fun v5 ev5 => ?_)
  have hF := bd_at ev5 hF
  refine lv_istore_n (lv' := [(0, .int v5)]) S.1 S.2.1 dJ6_bitCount_0f7a4_47 rfl hl (by decide) rfl (fun ls hl => ?_)
  refine lv_iload_n S.1 S.2.1 dJ6_bitCount_0f7a4_48 rfl (lv_at hl 0 rfl) ?_
  refine lv_bipush (v := 63) S.1 S.2.1 dJ6_bitCount_0f7a4_49 (by decide) ?_
  refine lv_iand S.1 S.2.1 dJ6_bitCount_0f7a4_51 ?_
  cases hF
  exact z_p S hr hlk rfl dJ6_bitCount_0f7a4_52
