/-! X1_become -/
def X1_become_s108 (kf : KF) (c0 : Nat) (c1 : Nat) (k108 : Int32 → IM → RM → Option (IM × RM)) (x2 : Int32) (σ : IM) (ρ : RM) : Option (IM × RM) := if σ c0 8 ≤ x2 then (bd (up2 σ c0 9 (σ c1 9)) fun σ10 => bd (up2 σ10 c0 10 (σ10 c1 10)) fun σ11 => bd (up2 σ11 c0 11 (σ11 c1 11)) fun σ12 => some (σ12, ρ)) else (rq (ρ (c1 + 8)) 8 x2 fun q13 => wq kf ρ (c0 + 8) 8 x2 q13 fun ρ14 => bd (x2 + 1) fun v15 => k108 v15 σ ρ14)
def X1_become_b108 (kf : KF) (c0 : Nat) (c1 : Nat) : Nat → Int32 → IM → RM → Option (IM × RM)
  | 0 => fun _ _ _ => none
  | n + 1 => X1_become_s108 kf c0 c1 (X1_become_b108 kf c0 c1 n)
set_option maxRecDepth 20000 in
theorem w_X1_become_108 {l : Launch} {g : GE} {A : Nat → Prop} {LP : List Nat} {kf : KF} {c0 : Nat} {c1 : Nat} (hPL : PL LP kf) (hc0 : Ct c0) (hc1 : Ct c1) {p : Program} {e : Env} {s : State} {m : MethodId} {args : Array Value} {below : List Frame} {meth : Method} {c : Code} (S : CallFix p m c cX1_become 3 s args UL RX1) (hK : KK g s) (hr : meth.sig.returnType = none) (hlk : meth.locks = false) {out : IM × RM} {k108 : Int32 → IM → RM → Option (IM × RM)} (hk108 : ∀ {x2 : Int32} {σ : IM} {ρ : RM} {H : Heap} {locs : List Loc} {ls : Array Slot}, Mem lyC 48 g A (va_pl LP (skE kf)) σ ρ s.heap H locs → lv_has ls 3 [(0, .ref (g.2.2 c0)), (1, .ref (g.2.2 c1)), (2, .int x2)] → k108 x2 σ ρ = some out → W p l e ({ frames := 1, cells := 0, slots := 0, locals := 40 }) s m args below meth c H locs 0 0 (MQ below (Qm lyC 48 g A (va_pl LP (skE kf)) out.1 out.2 none) args s 0 0 A) (F0 m 108 ls [])) : ∀ {x2 : Int32} {σ : IM} {ρ : RM} {H : Heap} {locs : List Loc} {ls : Array Slot}, Mem lyC 48 g A (va_pl LP (skE kf)) σ ρ s.heap H locs → lv_has ls 3 [(0, .ref (g.2.2 c0)), (1, .ref (g.2.2 c1)), (2, .int x2)] → X1_become_s108 kf c0 c1 k108 x2 σ ρ = some out → W p l e ({ frames := 1, cells := 0, slots := 0, locals := 40 }) s m args below meth c H locs 0 0 (MQ below (Qm lyC 48 g A (va_pl LP (skE kf)) out.1 out.2 none) args s 0 0 A) (F0 m 108 ls []) := by
  intro x2 σ ρ H locs ls hM hl hF
  unfold X1_become_s108 at hF
  refine lv_iload_n S.1 S.2.1 dX1_become_108 rfl (lv_at hl 2 rfl) ?_
  refine lv_aload_n S.1 S.2.1 dX1_become_109 rfl (lv_at hl 0 rfl) ?_
  refine r_getI S hK hM cfX1 c0 8 (ct_lt0 hc0) (ly_ct hc0) rfl (by decide) tw_1_55 dX1_become_110 ?_
  refine lv_icmp_ge (tgt := 134) S.1 S.2.1 dX1_become_113 (by decide) (fun b9 => ?_) (fun b9 => ?_)
  · have hF := (if_pos b9).symm.trans hF
    refine lv_aload_n S.1 S.2.1 dX1_become_134 rfl (lv_at hl 0 rfl) ?_
    refine lv_aload_n S.1 S.2.1 dX1_become_135 rfl (lv_at hl 1 rfl) ?_
    refine r_getI S hK hM cfX1 c1 9 (ct_lt0 hc1) (ly_ct hc1) rfl (by decide) tw_1_57 dX1_become_136 ?_
    obtain ⟨σ10, eσ10, hF⟩ := bd_some hF
    refine r_putI (ty := .int) S hK hM cfX1 tyX1_ok nmX1 c0 9 (ct_lt0 hc0) (ly_ct hc0) rfl (by decide) tw_1_57 rfl (by decide +kernel) rfl rfl eσ10 dX1_become_139 (fun H locs hM => ?_)
    refine lv_aload_n S.1 S.2.1 dX1_become_142 rfl (lv_at hl 0 rfl) ?_
    refine lv_aload_n S.1 S.2.1 dX1_become_143 rfl (lv_at hl 1 rfl) ?_
    refine r_getI S hK hM cfX1 c1 10 (ct_lt0 hc1) (ly_ct hc1) rfl (by decide) tw_1_59 dX1_become_144 ?_
    obtain ⟨σ11, eσ11, hF⟩ := bd_some hF
    refine r_putI (ty := .int) S hK hM cfX1 tyX1_ok nmX1 c0 10 (ct_lt0 hc0) (ly_ct hc0) rfl (by decide) tw_1_59 rfl (by decide +kernel) rfl rfl eσ11 dX1_become_147 (fun H locs hM => ?_)
    refine lv_aload_n S.1 S.2.1 dX1_become_150 rfl (lv_at hl 0 rfl) ?_
    refine lv_aload_n S.1 S.2.1 dX1_become_151 rfl (lv_at hl 1 rfl) ?_
    refine r_getI S hK hM cfX1 c1 11 (ct_lt0 hc1) (ly_ct hc1) rfl (by decide) tw_1_61 dX1_become_152 ?_
    obtain ⟨σ12, eσ12, hF⟩ := bd_some hF
    refine r_putI (ty := .int) S hK hM cfX1 tyX1_ok nmX1 c0 11 (ct_lt0 hc0) (ly_ct hc0) rfl (by decide) tw_1_61 rfl (by decide +kernel) rfl rfl eσ12 dX1_become_155 (fun H locs hM => ?_)
    cases hF
    exact z_mv S hM hr hlk dX1_become_158
  · have hF := (if_neg b9).symm.trans hF
    refine lv_aload_n S.1 S.2.1 dX1_become_116 rfl (lv_at hl 0 rfl) ?_
    refine r_getC S hK hM cfX1 c0 7 (c0 + 8) (ct_lt0 hc0) (ly_ct hc0) rfl (by decide) tw_1_53 dX1_become_117 ?_
    refine lv_iload_n S.1 S.2.1 dX1_become_120 rfl (lv_at hl 2 rfl) ?_
    refine lv_aload_n S.1 S.2.1 dX1_become_121 rfl (lv_at hl 1 rfl) ?_
    refine r_getC S hK hM cfX1 c1 7 (c1 + 8) (ct_lt0 hc1) (ly_ct hc1) rfl (by decide) tw_1_53 dX1_become_122 ?_
    refine lv_iload_n S.1 S.2.1 dX1_become_125 rfl (lv_at hl 2 rfl) ?_
    obtain ⟨hq13, q13, eq13, hF⟩ := rq_some hF
    refine r_aald S hK hM (c1 + 8) (ct_lt hc1 8 (by decide)) (ly_c8 hc1) hq13 eq13 dX1_become_126 ?_
    obtain ⟨hρ14, ρ14k, ρ14x, ρ14, eρ14, hF⟩ := wq_some hF
    refine r_aast S hK hM hPL (c0 + 8) (ct_lt hc0 8 (by decide)) (ly_c8 hc0) hρ14 ρ14x eρ14 dX1_become_127 (fun H locs hM => ?_)
    obtain ⟨v15, ev15, hF⟩ := bd_some hF
    refine lv_iinc (v := v15) (lv' := [(2, .int v15), (0, .ref (g.2.2 c0)), (1, .ref (g.2.2 c1))]) S.1 S.2.1 dX1_become_128 hl (k := 2) rfl (by rw [ev15]; rfl) (by decide) rfl (fun ls hl => ?_)
    refine lv_goto (tgt := 108) S.1 S.2.1 dX1_become_131 (by decide) ?_
    exact hk108 hM (lv_sub hl [1, 2, 0] rfl)  hF
theorem wl_X1_become_108 {l : Launch} {g : GE} {A : Nat → Prop} {LP : List Nat} {kf : KF} {c0 : Nat} {c1 : Nat} (hPL : PL LP kf) (hc0 : Ct c0) (hc1 : Ct c1) {p : Program} {e : Env} {s : State} {m : MethodId} {args : Array Value} {below : List Frame} {meth : Method} {c : Code} (S : CallFix p m c cX1_become 3 s args UL RX1) (hK : KK g s) (hr : meth.sig.returnType = none) (hlk : meth.locks = false) {out : IM × RM} : ∀ (n : Nat) {x2 : Int32} {σ : IM} {ρ : RM} {H : Heap} {locs : List Loc} {ls : Array Slot}, Mem lyC 48 g A (va_pl LP (skE kf)) σ ρ s.heap H locs → lv_has ls 3 [(0, .ref (g.2.2 c0)), (1, .ref (g.2.2 c1)), (2, .int x2)] → X1_become_b108 kf c0 c1 n x2 σ ρ = some out → W p l e ({ frames := 1, cells := 0, slots := 0, locals := 40 }) s m args below meth c H locs 0 0 (MQ below (Qm lyC 48 g A (va_pl LP (skE kf)) out.1 out.2 none) args s 0 0 A) (F0 m 108 ls []) := by
  intro n
  induction n with
  | zero =>
    intro x2 σ ρ H locs ls hM hl hF
    cases hF
  | succ n ih =>
    intro x2 σ ρ H locs ls hM hl hF
    exact w_X1_become_108 hPL hc0 hc1 S hK hr hlk ih hM hl hF
def X1_become (kf : KF) (σ : IM) (ρ : RM) (c0 : Nat) (c1 : Nat) : Option (IM × RM) := ac σ (c1 + 1) 4 (c0 + 1) 4 0 0 4 fun σ1 => ac σ1 (c1 + 2) 4 (c0 + 2) 4 0 0 4 fun σ2 => ac σ2 (c1 + 3) 4 (c0 + 3) 4 0 0 4 fun σ3 => ac σ3 (c1 + 4) 4 (c0 + 4) 4 0 0 4 fun σ4 => ac σ4 (c1 + 5) 2 (c0 + 5) 2 0 0 2 fun σ5 => ac σ5 (c1 + 6) 2 (c0 + 6) 2 0 0 2 fun σ6 => ac σ6 (c1 + 7) 2 (c0 + 7) 2 0 0 2 fun σ7 => bd (up2 σ7 c0 8 (σ7 c1 8)) fun σ8 => X1_become_b108 kf c0 c1 1000 0 σ8 ρ
set_option maxRecDepth 20000 in
theorem c_X1_become {l : Launch} {g : GE} {A : Nat → Prop} {LP : List Nat} {kf : KF} {σ : IM} {ρ : RM} {c0 : Nat} {c1 : Nat} {out : IM × RM} (hPL : PL LP kf) (hc0 : Ct c0) (hc1 : Ct c1) (hF : X1_become kf σ ρ c0 c1 = some out) : Met l yX1_become (.code yX1_become cX1_become 3 none :: UL) ({ frames := 1, cells := 0, slots := 0, locals := 40 }) (va_Pc [.ref (g.2.2 c0), .ref (g.2.2 c1)] (PreM lyC 48 g A (va_pl LP (skE kf)) σ ρ)) (Qm lyC 48 g A (va_pl LP (skE kf)) out.1 out.2 none) 0 0 A := by
  refine e_of (by decide) (Nat.le_of_ble_eq_true rfl) ?_
  intro p e s m below meth c ls S hr hlk hv hl
  have hM := Mem.of hv
  have hK := hv.2.1
  have hl : lv_has ls 3 [(0, .ref (g.2.2 c0)), (1, .ref (g.2.2 c1))] := hl
  unfold X1_become at hF
  refine lv_aload_n S.1 S.2.1 dX1_become_0 rfl (lv_at hl 1 rfl) ?_
  refine r_getC S hK hM cfX1 c1 0 (c1 + 1) (ct_lt0 hc1) (ly_ct hc1) rfl (by decide) tw_1_39 dX1_become_1 ?_
  refine lv_iconst (v := 0) S.1 S.2.1 dX1_become_4 (by decide) ?_
  refine lv_aload_n S.1 S.2.1 dX1_become_5 rfl (lv_at hl 0 rfl) ?_
  refine r_getC S hK hM cfX1 c0 0 (c0 + 1) (ct_lt0 hc0) (ly_ct hc0) rfl (by decide) tw_1_39 dX1_become_6 ?_
  refine lv_iconst (v := 0) S.1 S.2.1 dX1_become_9 (by decide) ?_
  refine lv_iconst (v := 4) S.1 S.2.1 dX1_become_10 (by decide) ?_
  obtain ⟨hσ1, σ1, eσ1, hF⟩ := ac_some hF
  refine r_copy S hK hM (c1 + 1) (c0 + 1) (ct_lt hc1 1 (by decide)) (ly_c1 hc1) (ct_lt hc0 1 (by decide)) (ly_c1 hc0) hσ1 eσ1 (S.2.2.1.trans hl.1.symm) tw_2_22 tw_2_24 tw_2_23 tw_1_14 (Nat.le_of_ble_eq_true rfl) (Nat.le_of_ble_eq_true rfl) dX1_become_11 (fun H locs hM => ?_)
  refine lv_aload_n S.1 S.2.1 dX1_become_14 rfl (lv_at hl 1 rfl) ?_
  refine r_getC S hK hM cfX1 c1 1 (c1 + 2) (ct_lt0 hc1) (ly_ct hc1) rfl (by decide) tw_1_41 dX1_become_15 ?_
  refine lv_iconst (v := 0) S.1 S.2.1 dX1_become_18 (by decide) ?_
  refine lv_aload_n S.1 S.2.1 dX1_become_19 rfl (lv_at hl 0 rfl) ?_
  refine r_getC S hK hM cfX1 c0 1 (c0 + 2) (ct_lt0 hc0) (ly_ct hc0) rfl (by decide) tw_1_41 dX1_become_20 ?_
  refine lv_iconst (v := 0) S.1 S.2.1 dX1_become_23 (by decide) ?_
  refine lv_iconst (v := 4) S.1 S.2.1 dX1_become_24 (by decide) ?_
  obtain ⟨hσ2, σ2, eσ2, hF⟩ := ac_some hF
  refine r_copy S hK hM (c1 + 2) (c0 + 2) (ct_lt hc1 2 (by decide)) (ly_c2 hc1) (ct_lt hc0 2 (by decide)) (ly_c2 hc0) hσ2 eσ2 (S.2.2.1.trans hl.1.symm) tw_2_22 tw_2_24 tw_2_23 tw_1_14 (Nat.le_of_ble_eq_true rfl) (Nat.le_of_ble_eq_true rfl) dX1_become_25 (fun H locs hM => ?_)
  refine lv_aload_n S.1 S.2.1 dX1_become_28 rfl (lv_at hl 1 rfl) ?_
  refine r_getC S hK hM cfX1 c1 2 (c1 + 3) (ct_lt0 hc1) (ly_ct hc1) rfl (by decide) tw_1_43 dX1_become_29 ?_
  refine lv_iconst (v := 0) S.1 S.2.1 dX1_become_32 (by decide) ?_
  refine lv_aload_n S.1 S.2.1 dX1_become_33 rfl (lv_at hl 0 rfl) ?_
  refine r_getC S hK hM cfX1 c0 2 (c0 + 3) (ct_lt0 hc0) (ly_ct hc0) rfl (by decide) tw_1_43 dX1_become_34 ?_
  refine lv_iconst (v := 0) S.1 S.2.1 dX1_become_37 (by decide) ?_
  refine lv_iconst (v := 4) S.1 S.2.1 dX1_become_38 (by decide) ?_
  obtain ⟨hσ3, σ3, eσ3, hF⟩ := ac_some hF
  refine r_copy S hK hM (c1 + 3) (c0 + 3) (ct_lt hc1 3 (by decide)) (ly_c3 hc1) (ct_lt hc0 3 (by decide)) (ly_c3 hc0) hσ3 eσ3 (S.2.2.1.trans hl.1.symm) tw_2_22 tw_2_24 tw_2_23 tw_1_14 (Nat.le_of_ble_eq_true rfl) (Nat.le_of_ble_eq_true rfl) dX1_become_39 (fun H locs hM => ?_)
  refine lv_aload_n S.1 S.2.1 dX1_become_42 rfl (lv_at hl 1 rfl) ?_
  refine r_getC S hK hM cfX1 c1 3 (c1 + 4) (ct_lt0 hc1) (ly_ct hc1) rfl (by decide) tw_1_45 dX1_become_43 ?_
  refine lv_iconst (v := 0) S.1 S.2.1 dX1_become_46 (by decide) ?_
  refine lv_aload_n S.1 S.2.1 dX1_become_47 rfl (lv_at hl 0 rfl) ?_
  refine r_getC S hK hM cfX1 c0 3 (c0 + 4) (ct_lt0 hc0) (ly_ct hc0) rfl (by decide) tw_1_45 dX1_become_48 ?_
  refine lv_iconst (v := 0) S.1 S.2.1 dX1_become_51 (by decide) ?_
  refine lv_iconst (v := 4) S.1 S.2.1 dX1_become_52 (by decide) ?_
  obtain ⟨hσ4, σ4, eσ4, hF⟩ := ac_some hF
  refine r_copy S hK hM (c1 + 4) (c0 + 4) (ct_lt hc1 4 (by decide)) (ly_c4 hc1) (ct_lt hc0 4 (by decide)) (ly_c4 hc0) hσ4 eσ4 (S.2.2.1.trans hl.1.symm) tw_2_22 tw_2_24 tw_2_23 tw_1_14 (Nat.le_of_ble_eq_true rfl) (Nat.le_of_ble_eq_true rfl) dX1_become_53 (fun H locs hM => ?_)
  refine lv_aload_n S.1 S.2.1 dX1_become_56 rfl (lv_at hl 1 rfl) ?_
  refine r_getC S hK hM cfX1 c1 4 (c1 + 5) (ct_lt0 hc1) (ly_ct hc1) rfl (by decide) tw_1_47 dX1_become_57 ?_
  refine lv_iconst (v := 0) S.1 S.2.1 dX1_become_60 (by decide) ?_
  refine lv_aload_n S.1 S.2.1 dX1_become_61 rfl (lv_at hl 0 rfl) ?_
  refine r_getC S hK hM cfX1 c0 4 (c0 + 5) (ct_lt0 hc0) (ly_ct hc0) rfl (by decide) tw_1_47 dX1_become_62 ?_
  refine lv_iconst (v := 0) S.1 S.2.1 dX1_become_65 (by decide) ?_
  refine lv_iconst (v := 2) S.1 S.2.1 dX1_become_66 (by decide) ?_
  obtain ⟨hσ5, σ5, eσ5, hF⟩ := ac_some hF
  refine r_copy S hK hM (c1 + 5) (c0 + 5) (ct_lt hc1 5 (by decide)) (ly_c5 hc1) (ct_lt hc0 5 (by decide)) (ly_c5 hc0) hσ5 eσ5 (S.2.2.1.trans hl.1.symm) tw_2_22 tw_2_24 tw_2_23 tw_1_14 (Nat.le_of_ble_eq_true rfl) (Nat.le_of_ble_eq_true rfl) dX1_become_67 (fun H locs hM => ?_)
  refine lv_aload_n S.1 S.2.1 dX1_become_70 rfl (lv_at hl 1 rfl) ?_
  refine r_getC S hK hM cfX1 c1 5 (c1 + 6) (ct_lt0 hc1) (ly_ct hc1) rfl (by decide) tw_1_49 dX1_become_71 ?_
  refine lv_iconst (v := 0) S.1 S.2.1 dX1_become_74 (by decide) ?_
  refine lv_aload_n S.1 S.2.1 dX1_become_75 rfl (lv_at hl 0 rfl) ?_
  refine r_getC S hK hM cfX1 c0 5 (c0 + 6) (ct_lt0 hc0) (ly_ct hc0) rfl (by decide) tw_1_49 dX1_become_76 ?_
  refine lv_iconst (v := 0) S.1 S.2.1 dX1_become_79 (by decide) ?_
  refine lv_iconst (v := 2) S.1 S.2.1 dX1_become_80 (by decide) ?_
  obtain ⟨hσ6, σ6, eσ6, hF⟩ := ac_some hF
  refine r_copy S hK hM (c1 + 6) (c0 + 6) (ct_lt hc1 6 (by decide)) (ly_c6 hc1) (ct_lt hc0 6 (by decide)) (ly_c6 hc0) hσ6 eσ6 (S.2.2.1.trans hl.1.symm) tw_2_22 tw_2_24 tw_2_23 tw_1_14 (Nat.le_of_ble_eq_true rfl) (Nat.le_of_ble_eq_true rfl) dX1_become_81 (fun H locs hM => ?_)
  refine lv_aload_n S.1 S.2.1 dX1_become_84 rfl (lv_at hl 1 rfl) ?_
  refine r_getC S hK hM cfX1 c1 6 (c1 + 7) (ct_lt0 hc1) (ly_ct hc1) rfl (by decide) tw_1_51 dX1_become_85 ?_
  refine lv_iconst (v := 0) S.1 S.2.1 dX1_become_88 (by decide) ?_
  refine lv_aload_n S.1 S.2.1 dX1_become_89 rfl (lv_at hl 0 rfl) ?_
  refine r_getC S hK hM cfX1 c0 6 (c0 + 7) (ct_lt0 hc0) (ly_ct hc0) rfl (by decide) tw_1_51 dX1_become_90 ?_
  refine lv_iconst (v := 0) S.1 S.2.1 dX1_become_93 (by decide) ?_
  refine lv_iconst (v := 2) S.1 S.2.1 dX1_become_94 (by decide) ?_
  obtain ⟨hσ7, σ7, eσ7, hF⟩ := ac_some hF
  refine r_copy S hK hM (c1 + 7) (c0 + 7) (ct_lt hc1 7 (by decide)) (ly_c7 hc1) (ct_lt hc0 7 (by decide)) (ly_c7 hc0) hσ7 eσ7 (S.2.2.1.trans hl.1.symm) tw_2_22 tw_2_24 tw_2_23 tw_1_14 (Nat.le_of_ble_eq_true rfl) (Nat.le_of_ble_eq_true rfl) dX1_become_95 (fun H locs hM => ?_)
  refine lv_aload_n S.1 S.2.1 dX1_become_98 rfl (lv_at hl 0 rfl) ?_
  refine lv_aload_n S.1 S.2.1 dX1_become_99 rfl (lv_at hl 1 rfl) ?_
  refine r_getI S hK hM cfX1 c1 8 (ct_lt0 hc1) (ly_ct hc1) rfl (by decide) tw_1_55 dX1_become_100 ?_
  obtain ⟨σ8, eσ8, hF⟩ := bd_some hF
  refine r_putI (ty := .int) S hK hM cfX1 tyX1_ok nmX1 c0 8 (ct_lt0 hc0) (ly_ct hc0) rfl (by decide) tw_1_55 rfl (by decide +kernel) rfl rfl eσ8 dX1_become_103 (fun H locs hM => ?_)
  refine lv_iconst (v := 0) S.1 S.2.1 dX1_become_106 (by decide) ?_
  refine lv_istore_n (lv' := [(2, .int 0), (0, .ref (g.2.2 c0)), (1, .ref (g.2.2 c1))]) S.1 S.2.1 dX1_become_107 rfl hl (by decide) rfl (fun ls hl => ?_)
  exact wl_X1_become_108 hPL hc0 hc1 S hK hr hlk 1000 hM (lv_sub hl [1, 2, 0] rfl) hF
/-! X11_isBelow -/
def X11_isBelow (a0 : Int32) (a1 : Int32) : Option Int32 := if a0 < 0 then (some 0) else (if a1 ≤ a0 then (some 0) else (some 1))
set_option maxRecDepth 20000 in
theorem c_X11_isBelow {l : Launch} {g : GE} {A : Nat → Prop} {LP : List Nat} {kf : KF} {σ : IM} {ρ : RM} {a0 : Int32} {a1 : Int32} {out : Int32} (hPL : PL LP kf) (hF : X11_isBelow a0 a1 = some out) : Met l yX11_isBelow (.code yX11_isBelow cX11_isBelow 2 (some .boolean) :: UL) ({ frames := 0, cells := 0, slots := 0, locals := 0 }) (va_Pc [.int a0, .int a1] (PreM lyC 48 g A (va_pl LP (skE kf)) σ ρ)) (Qp (some (.int out))) 0 0 NoA := by
  refine e_of (by decide) (Nat.le_of_ble_eq_true rfl) ?_
  intro p e s m below meth c ls S hr hlk hv hl
  have hM := Mem.of hv
  have hK := hv.2.1
  have hl : lv_has ls 2 [(0, .int a0), (1, .int a1)] := hl
  unfold X11_isBelow at hF
  refine lv_iload_n S.1 S.2.1 dX11_isBelow_0 rfl (lv_at hl 0 rfl) ?_
  refine lv_if_lt (tgt := 13) S.1 S.2.1 dX11_isBelow_1 (by decide) (fun b1 => ?_) (fun b1 => ?_)
  · have hF := (if_pos b1).symm.trans hF
    refine lv_iconst (v := 0) S.1 S.2.1 dX11_isBelow_13 (by decide) ?_
    cases hF
    exact z_p S hr hlk rfl dX11_isBelow_14
  · have hF := (if_neg b1).symm.trans hF
    refine lv_iload_n S.1 S.2.1 dX11_isBelow_4 rfl (lv_at hl 0 rfl) ?_
    refine lv_iload_n S.1 S.2.1 dX11_isBelow_5 rfl (lv_at hl 1 rfl) ?_
    refine lv_icmp_ge (tgt := 13) S.1 S.2.1 dX11_isBelow_6 (by decide) (fun b2 => ?_) (fun b2 => ?_)
    · have hF := (if_pos b2).symm.trans hF
      refine lv_iconst (v := 0) S.1 S.2.1 dX11_isBelow_13 (by decide) ?_
      cases hF
      exact z_p S hr hlk rfl dX11_isBelow_14
    · have hF := (if_neg b2).symm.trans hF
      refine lv_iconst (v := 1) S.1 S.2.1 dX11_isBelow_9 (by decide) ?_
      refine lv_goto (tgt := 14) S.1 S.2.1 dX11_isBelow_10 (by decide) ?_
      cases hF
      exact z_p S hr hlk rfl dX11_isBelow_14
/-! X1_knows -/
def X1_knows (kf : KF) (σ : IM) (ρ : RM) (c0 : Nat) (a1 : Int32) : Option Int32 := bd1 (X11_isBelow a1 (σ c0 8)) fun r1 => bz r1 <| some r1
set_option maxRecDepth 20000 in
theorem c_X1_knows {l : Launch} {g : GE} {A : Nat → Prop} {LP : List Nat} {kf : KF} {σ : IM} {ρ : RM} {c0 : Nat} {a1 : Int32} {out : Int32} (hPL : PL LP kf) (hc0 : Ct c0) (hF : X1_knows kf σ ρ c0 a1 = some out) : Met l yX1_knows (.code yX1_knows cX1_knows 2 (some .boolean) :: UL) ({ frames := 1, cells := 0, slots := 0, locals := 21 }) (va_Pc [.ref (g.2.2 c0), .int a1] (PreM lyC 48 g A (va_pl LP (skE kf)) σ ρ)) (Qp (some (.int out))) 0 0 NoA := by
  refine e_of (by decide) (Nat.le_of_ble_eq_true rfl) ?_
  intro p e s m below meth c ls S hr hlk hv hl
  have hM := Mem.of hv
  have hK := hv.2.1
  have hl : lv_has ls 2 [(0, .ref (g.2.2 c0)), (1, .int a1)] := hl
  unfold X1_knows at hF
  refine lv_iload_n S.1 S.2.1 dX1_knows_0 rfl (lv_at hl 1 rfl) ?_
  refine lv_aload_n S.1 S.2.1 dX1_knows_1 rfl (lv_at hl 0 rfl) ?_
  refine r_getI S hK hM cfX1 c0 8 (ct_lt0 hc0) (ly_ct hc0) rfl (by decide) tw_1_55 dX1_knows_2 ?_
  obtain ⟨r1, er1, hF⟩ := bd1_some hF
  refine k_p (va_runSN (As := [.int a1, .int (σ c0 8)]) (rest := []) S (c_X11_isBelow hPL  er1) ⟨va_cnB 2 S.2.2.2.2 (ul_G (ul_c cw_X11_isBelow)) rfl rfl rfl (hK.2.1 _ (List.mem_of_getElem? (i := 2) rfl)) (S.2.2.2.2 _ tw_1_1) hs_X11_isBelow ⟨Nat.le_of_ble_eq_true rfl, Nat.le_of_ble_eq_true rfl⟩, S.2.2.2.2 _ tw_1_230, trivial⟩ ⟨PreM.blind, hM.pre hK⟩ rfl rfl hl.1 rfl (lv_room (Nat.le_of_ble_eq_true rfl)) dX1_knows_5 ⟨Nat.zero_le _, Nat.zero_le _⟩) ?_
  obtain ⟨h2, hF⟩ := bz_some hF
  cases hF
  exact z_p S hr hlk h2 dX1_knows_8
/-! X1_isHit -/
def X1_isHit (kf : KF) (σ : IM) (ρ : RM) (c0 : Nat) (a1 : Int32) (a2 : Int32) : Option Int32 := bd1 (X1_knows kf σ ρ c0 a1) fun r1 => if r1 = 0 then (some 0) else (bd1 (X11_isBelow a2 9) fun r3 => if r3 = 0 then (some 0) else (some 1))
set_option maxRecDepth 20000 in
theorem c_X1_isHit {l : Launch} {g : GE} {A : Nat → Prop} {LP : List Nat} {kf : KF} {σ : IM} {ρ : RM} {c0 : Nat} {a1 : Int32} {a2 : Int32} {out : Int32} (hPL : PL LP kf) (hc0 : Ct c0) (hF : X1_isHit kf σ ρ c0 a1 a2 = some out) : Met l yX1_isHit (.code yX1_isHit cX1_isHit 3 (some .boolean) :: UL) ({ frames := 2, cells := 0, slots := 0, locals := 42 }) (va_Pc [.ref (g.2.2 c0), .int a1, .int a2] (PreM lyC 48 g A (va_pl LP (skE kf)) σ ρ)) (Qp (some (.int out))) 0 0 NoA := by
  refine e_of (by decide) (Nat.le_of_ble_eq_true rfl) ?_
  intro p e s m below meth c ls S hr hlk hv hl
  have hM := Mem.of hv
  have hK := hv.2.1
  have hl : lv_has ls 3 [(0, .ref (g.2.2 c0)), (1, .int a1), (2, .int a2)] := hl
  unfold X1_isHit at hF
  refine lv_aload_n S.1 S.2.1 dX1_isHit_0 rfl (lv_at hl 0 rfl) ?_
  refine lv_iload_n S.1 S.2.1 dX1_isHit_1 rfl (lv_at hl 1 rfl) ?_
  obtain ⟨r1, er1, hF⟩ := bd1_some hF
  refine k_p (va_runV (As := [.int a1]) (rest := []) S (c_X1_knows hPL hc0 er1) (cwV 1 S.2.2.2.2 (ul_V tw_2_68 tw_2_69 tw_2_70 tw_1_2 cw_X1_knows) rfl rfl rfl hv_X1_knows ⟨Nat.le_of_ble_eq_true rfl, Nat.le_of_ble_eq_true rfl⟩) ⟨PreM.blind, hM.recv hK cfX1 c0 (ct_lt0 hc0) (ly_ct hc0), hM.pre hK⟩ rfl rfl hl.1 rfl (lv_room (Nat.le_of_ble_eq_true rfl)) dX1_isHit_2 ⟨Nat.zero_le _, Nat.zero_le _⟩) ?_
  refine lv_if_eq (tgt := 21) S.1 S.2.1 dX1_isHit_5 (by decide) (fun b2 => ?_) (fun b2 => ?_)
  · have hF := (if_pos b2).symm.trans hF
    refine lv_iconst (v := 0) S.1 S.2.1 dX1_isHit_21 (by decide) ?_
    cases hF
    exact z_p S hr hlk rfl dX1_isHit_22
  · have hF := (if_neg b2).symm.trans hF
    refine lv_iload_n S.1 S.2.1 dX1_isHit_8 rfl (lv_at hl 2 rfl) ?_
    refine lv_bipush (v := 9) S.1 S.2.1 dX1_isHit_9 (by decide) ?_
    obtain ⟨r3, er3, hF⟩ := bd1_some hF
    refine k_p (va_runSN (As := [.int a2, .int 9]) (rest := []) S (c_X11_isBelow hPL  er3) ⟨va_cnB 2 S.2.2.2.2 (ul_G (ul_c cw_X11_isBelow)) rfl rfl rfl (hK.2.1 _ (List.mem_of_getElem? (i := 2) rfl)) (S.2.2.2.2 _ tw_1_1) hs_X11_isBelow ⟨Nat.le_of_ble_eq_true rfl, Nat.le_of_ble_eq_true rfl⟩, S.2.2.2.2 _ tw_1_230, trivial⟩ ⟨PreM.blind, hM.pre hK⟩ rfl rfl hl.1 rfl (lv_room (Nat.le_of_ble_eq_true rfl)) dX1_isHit_11 ⟨Nat.zero_le _, Nat.zero_le _⟩) ?_
    refine lv_if_eq (tgt := 21) S.1 S.2.1 dX1_isHit_14 (by decide) (fun b4 => ?_) (fun b4 => ?_)
    · have hF := (if_pos b4).symm.trans hF
      refine lv_iconst (v := 0) S.1 S.2.1 dX1_isHit_21 (by decide) ?_
      cases hF
      exact z_p S hr hlk rfl dX1_isHit_22
    · have hF := (if_neg b4).symm.trans hF
      refine lv_iconst (v := 1) S.1 S.2.1 dX1_isHit_17 (by decide) ?_
      refine lv_goto (tgt := 22) S.1 S.2.1 dX1_isHit_18 (by decide) ?_
      cases hF
      exact z_p S hr hlk rfl dX1_isHit_22
/-! X1_hitRefusal -/
def X1_hitRefusal_b48 (kf : KF) (σ : IM) (ρ : RM) (c0 : Nat) (t0 : Int32) : Option Int32 := if t0 = 0 then (some 0) else (some (-3))
set_option maxRecDepth 20000 in
theorem w_X1_hitRefusal_48 {l : Launch} {g : GE} {A : Nat → Prop} {LP : List Nat} {kf : KF} {σ : IM} {ρ : RM} {c0 : Nat} (hPL : PL LP kf) (hc0 : Ct c0) {p : Program} {e : Env} {s : State} {m : MethodId} {args : Array Value} {below : List Frame} {meth : Method} {c : Code} (S : CallFix p m c cX1_hitRefusal 4 s args UL RX1) (hK : KK g s) (hr : meth.sig.returnType = (some .int)) (hlk : meth.locks = false) (hM : Mem lyC 48 g A (va_pl LP (skE kf)) σ ρ s.heap s.heap []) {out : Int32} : ∀ {t0 : Int32} {ls : Array Slot}, lv_has ls 4 [] → X1_hitRefusal_b48 kf σ ρ c0 t0 = some out → W p l e ({ frames := 3, cells := 0, slots := 0, locals := 64 }) s m args below meth c s.heap [] 0 0 (MQ below (Qp (some (.int out))) args s 0 0 NoA) (F0 m 48 ls [.int t0]) := by
  intro t0 ls hl hF
  unfold X1_hitRefusal_b48 at hF
  refine lv_istore_n (lv' := [(3, .int t0)]) S.1 S.2.1 dX1_hitRefusal_48 rfl hl (by decide) rfl (fun ls hl => ?_)
  refine lv_iload_n S.1 S.2.1 dX1_hitRefusal_49 rfl (lv_at hl 0 rfl) ?_
  refine lv_if_eq (tgt := 58) S.1 S.2.1 dX1_hitRefusal_50 (by decide) (fun b8 => ?_) (fun b8 => ?_)
  · have hF := (if_pos b8).symm.trans hF
    refine lv_iconst (v := 0) S.1 S.2.1 dX1_hitRefusal_58 (by decide) ?_
    cases hF
    exact z_p S hr hlk rfl dX1_hitRefusal_59
  · have hF := (if_neg b8).symm.trans hF
    refine lv_bipush (v := (-3)) S.1 S.2.1 dX1_hitRefusal_53 (by decide) ?_
    refine lv_goto (tgt := 59) S.1 S.2.1 dX1_hitRefusal_55 (by decide) ?_
    cases hF
    exact z_p S hr hlk rfl dX1_hitRefusal_59
def X1_hitRefusal_b43 (kf : KF) (σ : IM) (ρ : RM) (c0 : Nat) : Option Int32 := X1_hitRefusal_b48 kf σ ρ c0 1
set_option maxRecDepth 20000 in
theorem w_X1_hitRefusal_43 {l : Launch} {g : GE} {A : Nat → Prop} {LP : List Nat} {kf : KF} {σ : IM} {ρ : RM} {c0 : Nat} (hPL : PL LP kf) (hc0 : Ct c0) {p : Program} {e : Env} {s : State} {m : MethodId} {args : Array Value} {below : List Frame} {meth : Method} {c : Code} (S : CallFix p m c cX1_hitRefusal 4 s args UL RX1) (hK : KK g s) (hr : meth.sig.returnType = (some .int)) (hlk : meth.locks = false) (hM : Mem lyC 48 g A (va_pl LP (skE kf)) σ ρ s.heap s.heap []) {out : Int32} : ∀ {ls : Array Slot}, lv_has ls 4 [] → X1_hitRefusal_b43 kf σ ρ c0 = some out → W p l e ({ frames := 3, cells := 0, slots := 0, locals := 64 }) s m args below meth c s.heap [] 0 0 (MQ below (Qp (some (.int out))) args s 0 0 NoA) (F0 m 43 ls []) := by
  intro ls hl hF
  unfold X1_hitRefusal_b43 at hF
  refine lv_iconst (v := 1) S.1 S.2.1 dX1_hitRefusal_43 (by decide) ?_
  refine lv_goto (tgt := 48) S.1 S.2.1 dX1_hitRefusal_44 (by decide) ?_
  exact w_X1_hitRefusal_48 hPL hc0 S hK hr hlk hM (lv_sub hl [] rfl) hF
def X1_hitRefusal (kf : KF) (σ : IM) (ρ : RM) (c0 : Nat) (a1 : Int32) (a2 : Int32) : Option Int32 := bd1 (X1_isHit kf σ ρ c0 a1 a2) fun r1 => if r1 = 0 then (some (-1)) else (if 999 ≤ σ c0 11 then (X1_hitRefusal_b43 kf σ ρ c0) else (rd (σ (c0 + 7)) 2 0 fun v4 => if 99 ≤ v4 then (X1_hitRefusal_b43 kf σ ρ c0) else (rd (σ (c0 + 7)) 2 1 fun v6 => if v6 < 99 then (X1_hitRefusal_b48 kf σ ρ c0 0) else (X1_hitRefusal_b43 kf σ ρ c0))))
set_option maxRecDepth 20000 in
theorem c_X1_hitRefusal {l : Launch} {g : GE} {A : Nat → Prop} {LP : List Nat} {kf : KF} {σ : IM} {ρ : RM} {c0 : Nat} {a1 : Int32} {a2 : Int32} {out : Int32} (hPL : PL LP kf) (hc0 : Ct c0) (hF : X1_hitRefusal kf σ ρ c0 a1 a2 = some out) : Met l yX1_hitRefusal (.code yX1_hitRefusal cX1_hitRefusal 4 (some .int) :: UL) ({ frames := 3, cells := 0, slots := 0, locals := 64 }) (va_Pc [.ref (g.2.2 c0), .int a1, .int a2] (PreM lyC 48 g A (va_pl LP (skE kf)) σ ρ)) (Qp (some (.int out))) 0 0 NoA := by
  refine e_of (by decide) (Nat.le_of_ble_eq_true rfl) ?_
  intro p e s m below meth c ls S hr hlk hv hl
  have hM := Mem.of hv
  have hK := hv.2.1
  have hl : lv_has ls 4 [(0, .ref (g.2.2 c0)), (1, .int a1), (2, .int a2)] := hl
  unfold X1_hitRefusal at hF
  refine lv_aload_n S.1 S.2.1 dX1_hitRefusal_0 rfl (lv_at hl 0 rfl) ?_
  refine lv_iload_n S.1 S.2.1 dX1_hitRefusal_1 rfl (lv_at hl 1 rfl) ?_
  refine lv_iload_n S.1 S.2.1 dX1_hitRefusal_2 rfl (lv_at hl 2 rfl) ?_
  obtain ⟨r1, er1, hF⟩ := bd1_some hF
  refine k_p (va_runV (As := [.int a1, .int a2]) (rest := []) S (c_X1_isHit hPL hc0 er1) (cwV 2 S.2.2.2.2 (ul_V tw_2_64 tw_2_65 tw_2_66 tw_1_2 cw_X1_isHit) rfl rfl rfl hv_X1_isHit ⟨Nat.le_of_ble_eq_true rfl, Nat.le_of_ble_eq_true rfl⟩) ⟨PreM.blind, hM.recv hK cfX1 c0 (ct_lt0 hc0) (ly_ct hc0), hM.pre hK⟩ rfl rfl hl.1 rfl (lv_room (Nat.le_of_ble_eq_true rfl)) dX1_hitRefusal_3 ⟨Nat.zero_le _, Nat.zero_le _⟩) ?_
  refine lv_if_ne (tgt := 11) S.1 S.2.1 dX1_hitRefusal_6 (by decide) (fun b2 => ?_) (fun b2 => ?_)
  · have hF := (if_neg b2).symm.trans hF
    refine lv_aload_n S.1 S.2.1 dX1_hitRefusal_11 rfl (lv_at hl 0 rfl) ?_
    refine r_getI S hK hM cfX1 c0 11 (ct_lt0 hc0) (ly_ct hc0) rfl (by decide) tw_1_61 dX1_hitRefusal_12 ?_
    refine lv_sipush (v := 999) S.1 S.2.1 dX1_hitRefusal_15 (by decide) ?_
    refine lv_icmp_ge (tgt := 43) S.1 S.2.1 dX1_hitRefusal_18 (by decide) (fun b3 => ?_) (fun b3 => ?_)
    · have hF := (if_pos b3).symm.trans hF
      exact w_X1_hitRefusal_43 hPL hc0 S hK hr hlk hM (lv_sub hl [] rfl) hF
    · have hF := (if_neg b3).symm.trans hF
      refine lv_aload_n S.1 S.2.1 dX1_hitRefusal_21 rfl (lv_at hl 0 rfl) ?_
      refine r_getC S hK hM cfX1 c0 6 (c0 + 7) (ct_lt0 hc0) (ly_ct hc0) rfl (by decide) tw_1_51 dX1_hitRefusal_22 ?_
      refine lv_iconst (v := 0) S.1 S.2.1 dX1_hitRefusal_25 (by decide) ?_
      obtain ⟨hv4, v4, ev4, hF⟩ := rd_some hF
      refine r_iald S hK hM (c0 + 7) (ct_lt hc0 7 (by decide)) (ly_c7 hc0) hv4 ev4 dX1_hitRefusal_26 ?_
      refine lv_bipush (v := 99) S.1 S.2.1 dX1_hitRefusal_27 (by decide) ?_
      refine lv_icmp_ge (tgt := 43) S.1 S.2.1 dX1_hitRefusal_29 (by decide) (fun b5 => ?_) (fun b5 => ?_)
      · have hF := (if_pos b5).symm.trans hF
        exact w_X1_hitRefusal_43 hPL hc0 S hK hr hlk hM (lv_sub hl [] rfl) hF
      · have hF := (if_neg b5).symm.trans hF
        refine lv_aload_n S.1 S.2.1 dX1_hitRefusal_32 rfl (lv_at hl 0 rfl) ?_
        refine r_getC S hK hM cfX1 c0 6 (c0 + 7) (ct_lt0 hc0) (ly_ct hc0) rfl (by decide) tw_1_51 dX1_hitRefusal_33 ?_
        refine lv_iconst (v := 1) S.1 S.2.1 dX1_hitRefusal_36 (by decide) ?_
        obtain ⟨hv6, v6, ev6, hF⟩ := rd_some hF
        refine r_iald S hK hM (c0 + 7) (ct_lt hc0 7 (by decide)) (ly_c7 hc0) hv6 ev6 dX1_hitRefusal_37 ?_
        refine lv_bipush (v := 99) S.1 S.2.1 dX1_hitRefusal_38 (by decide) ?_
        refine lv_icmp_lt (tgt := 47) S.1 S.2.1 dX1_hitRefusal_40 (by decide) (fun b7 => ?_) (fun b7 => ?_)
        · have hF := (if_pos b7).symm.trans hF
          refine lv_iconst (v := 0) S.1 S.2.1 dX1_hitRefusal_47 (by decide) ?_
          exact w_X1_hitRefusal_48 hPL hc0 S hK hr hlk hM (lv_sub hl [] rfl) hF
        · have hF := (if_neg b7).symm.trans hF
          exact w_X1_hitRefusal_43 hPL hc0 S hK hr hlk hM (lv_sub hl [] rfl) hF
  · have hF := (if_pos b2).symm.trans hF
    refine lv_iconst (v := (-1)) S.1 S.2.1 dX1_hitRefusal_9 (by decide) ?_
    cases hF
    exact z_p S hr hlk rfl dX1_hitRefusal_10
/-! X1_learn -/
def X1_learn (kf : KF) (σ : IM) (ρ : RM) (c0 : Nat) (q1 : Nat) : Option (Int32 × IM × RM) := if σ c0 8 < 8 then (wq kf ρ (c0 + 8) 8 (σ c0 8) q1 fun ρ2 => bd (up2 σ c0 8 ((σ c0 8) + 1)) fun σ3 => some ((σ3 c0 8) - 1, σ3, ρ2)) else (some ((-2), σ, ρ))
set_option maxRecDepth 20000 in
theorem c_X1_learn {l : Launch} {g : GE} {A : Nat → Prop} {LP : List Nat} {kf : KF} {σ : IM} {ρ : RM} {c0 : Nat} {q1 : Nat} {out : Int32 × IM × RM} (hPL : PL LP kf) (hc0 : Ct c0) (hF : X1_learn kf σ ρ c0 q1 = some out) : Met l yX1_learn (.code yX1_learn cX1_learn 2 (some .int) :: UL) ({ frames := 0, cells := 0, slots := 0, locals := 0 }) (va_Pc [.ref (g.2.2 c0), .ref q1] (PreM lyC 48 g A (va_pl LP (skE kf)) σ ρ)) (Qm lyC 48 g A (va_pl LP (skE kf)) out.2.1 out.2.2 (some (.int out.1))) 0 0 A := by
  refine e_of (by decide) (Nat.le_of_ble_eq_true rfl) ?_
  intro p e s m below meth c ls S hr hlk hv hl
  have hM := Mem.of hv
  have hK := hv.2.1
  have hl : lv_has ls 2 [(0, .ref (g.2.2 c0)), (1, .ref q1)] := hl
  unfold X1_learn at hF
  refine lv_aload_n S.1 S.2.1 dX1_learn_0 rfl (lv_at hl 0 rfl) ?_
  refine r_getI S hK hM cfX1 c0 8 (ct_lt0 hc0) (ly_ct hc0) rfl (by decide) tw_1_55 dX1_learn_1 ?_
  refine lv_bipush (v := 8) S.1 S.2.1 dX1_learn_4 (by decide) ?_
  refine lv_icmp_lt (tgt := 12) S.1 S.2.1 dX1_learn_6 (by decide) (fun b1 => ?_) (fun b1 => ?_)
  · have hF := (if_pos b1).symm.trans hF
    refine lv_aload_n S.1 S.2.1 dX1_learn_12 rfl (lv_at hl 0 rfl) ?_
    refine r_getC S hK hM cfX1 c0 7 (c0 + 8) (ct_lt0 hc0) (ly_ct hc0) rfl (by decide) tw_1_53 dX1_learn_13 ?_
    refine lv_aload_n S.1 S.2.1 dX1_learn_16 rfl (lv_at hl 0 rfl) ?_
    refine r_getI S hK hM cfX1 c0 8 (ct_lt0 hc0) (ly_ct hc0) rfl (by decide) tw_1_55 dX1_learn_17 ?_
    refine lv_aload_n S.1 S.2.1 dX1_learn_20 rfl (lv_at hl 1 rfl) ?_
    obtain ⟨hρ2, ρ2k, ρ2x, ρ2, eρ2, hF⟩ := wq_some hF
    refine r_aast S hK hM hPL (c0 + 8) (ct_lt hc0 8 (by decide)) (ly_c8 hc0) hρ2 ρ2x eρ2 dX1_learn_21 (fun H locs hM => ?_)
    refine lv_aload_n S.1 S.2.1 dX1_learn_22 rfl (lv_at hl 0 rfl) ?_
    refine lv_dup S.1 S.2.1 dX1_learn_23 rfl ?_
    refine r_getI S hK hM cfX1 c0 8 (ct_lt0 hc0) (ly_ct hc0) rfl (by decide) tw_1_55 dX1_learn_24 ?_
    refine lv_iconst (v := 1) S.1 S.2.1 dX1_learn_27 (by decide) ?_
    refine lv_iadd S.1 S.2.1 dX1_learn_28 ?_
    obtain ⟨σ3, eσ3, hF⟩ := bd_some hF
    refine r_putI (ty := .int) S hK hM cfX1 tyX1_ok nmX1 c0 8 (ct_lt0 hc0) (ly_ct hc0) rfl (by decide) tw_1_55 rfl (by decide +kernel) rfl rfl eσ3 dX1_learn_29 (fun H locs hM => ?_)
    refine lv_aload_n S.1 S.2.1 dX1_learn_32 rfl (lv_at hl 0 rfl) ?_
    refine r_getI S hK hM cfX1 c0 8 (ct_lt0 hc0) (ly_ct hc0) rfl (by decide) tw_1_55 dX1_learn_33 ?_
    refine lv_iconst (v := 1) S.1 S.2.1 dX1_learn_36 (by decide) ?_
    refine lv_isub S.1 S.2.1 dX1_learn_37 ?_
    cases hF
    exact z_m (v := (σ3 c0 8) - 1) S hM hr hlk rfl dX1_learn_38
  · have hF := (if_neg b1).symm.trans hF
    refine lv_bipush (v := (-2)) S.1 S.2.1 dX1_learn_9 (by decide) ?_
    cases hF
    exact z_m (v := (-2)) S hM hr hlk rfl dX1_learn_11
/-! X1_standAt -/
def X1_standAt (kf : KF) (σ : IM) (ρ : RM) (c0 : Nat) (a1 : Int32) (a2 : Int32) (a3 : Int32) : Option (Int32 × IM × RM) := bd1 (X11_isBelow a1 4) fun r1 => if r1 = 0 then (some ((-1), σ, ρ)) else (bd1 (X11_isBelow a2 9) fun r3 => if r3 = 0 then (some ((-1), σ, ρ)) else (if a3 < 1 then (some ((-1), σ, ρ)) else (if a3 ≤ 4 then (rd (σ (c0 + 1)) 4 a1 fun v7 => wr σ (c0 + 1) 4 a1 a2 fun σ8 => wr σ8 (c0 + 2) 4 a1 a3 fun σ9 => some (v7, σ9, ρ)) else (some ((-1), σ, ρ)))))
set_option maxRecDepth 20000 in
theorem c_X1_standAt {l : Launch} {g : GE} {A : Nat → Prop} {LP : List Nat} {kf : KF} {σ : IM} {ρ : RM} {c0 : Nat} {a1 : Int32} {a2 : Int32} {a3 : Int32} {out : Int32 × IM × RM} (hPL : PL LP kf) (hc0 : Ct c0) (hF : X1_standAt kf σ ρ c0 a1 a2 a3 = some out) : Met l yX1_standAt (.code yX1_standAt cX1_standAt 5 (some .int) :: UL) ({ frames := 1, cells := 0, slots := 0, locals := 21 }) (va_Pc [.ref (g.2.2 c0), .int a1, .int a2, .int a3] (PreM lyC 48 g A (va_pl LP (skE kf)) σ ρ)) (Qm lyC 48 g A (va_pl LP (skE kf)) out.2.1 out.2.2 (some (.int out.1))) 0 0 A := by
  refine e_of (by decide) (Nat.le_of_ble_eq_true rfl) ?_
  intro p e s m below meth c ls S hr hlk hv hl
  have hM := Mem.of hv
  have hK := hv.2.1
  have hl : lv_has ls 5 [(0, .ref (g.2.2 c0)), (1, .int a1), (2, .int a2), (3, .int a3)] := hl
  unfold X1_standAt at hF
  refine lv_iload_n S.1 S.2.1 dX1_standAt_0 rfl (lv_at hl 1 rfl) ?_
  refine lv_iconst (v := 4) S.1 S.2.1 dX1_standAt_1 (by decide) ?_
  obtain ⟨r1, er1, hF⟩ := bd1_some hF
  refine k_p (va_runSN (As := [.int a1, .int 4]) (rest := []) S (c_X11_isBelow hPL  er1) ⟨va_cnB 2 S.2.2.2.2 (ul_G (ul_c cw_X11_isBelow)) rfl rfl rfl (hK.2.1 _ (List.mem_of_getElem? (i := 2) rfl)) (S.2.2.2.2 _ tw_1_1) hs_X11_isBelow ⟨Nat.le_of_ble_eq_true rfl, Nat.le_of_ble_eq_true rfl⟩, S.2.2.2.2 _ tw_1_230, trivial⟩ ⟨PreM.blind, hM.pre hK⟩ rfl rfl hl.1 rfl (lv_room (Nat.le_of_ble_eq_true rfl)) dX1_standAt_2 ⟨Nat.zero_le _, Nat.zero_le _⟩) ?_
  refine lv_if_eq (tgt := 27) S.1 S.2.1 dX1_standAt_5 (by decide) (fun b2 => ?_) (fun b2 => ?_)
  · have hF := (if_pos b2).symm.trans hF
    refine lv_iconst (v := (-1)) S.1 S.2.1 dX1_standAt_27 (by decide) ?_
    cases hF
    exact z_m (v := (-1)) S hM hr hlk rfl dX1_standAt_28
  · have hF := (if_neg b2).symm.trans hF
    refine lv_iload_n S.1 S.2.1 dX1_standAt_8 rfl (lv_at hl 2 rfl) ?_
    refine lv_bipush (v := 9) S.1 S.2.1 dX1_standAt_9 (by decide) ?_
    obtain ⟨r3, er3, hF⟩ := bd1_some hF
    refine k_p (va_runSN (As := [.int a2, .int 9]) (rest := []) S (c_X11_isBelow hPL  er3) ⟨va_cnB 2 S.2.2.2.2 (ul_G (ul_c cw_X11_isBelow)) rfl rfl rfl (hK.2.1 _ (List.mem_of_getElem? (i := 2) rfl)) (S.2.2.2.2 _ tw_1_1) hs_X11_isBelow ⟨Nat.le_of_ble_eq_true rfl, Nat.le_of_ble_eq_true rfl⟩, S.2.2.2.2 _ tw_1_230, trivial⟩ ⟨PreM.blind, hM.pre hK⟩ rfl rfl hl.1 rfl (lv_room (Nat.le_of_ble_eq_true rfl)) dX1_standAt_11 ⟨Nat.zero_le _, Nat.zero_le _⟩) ?_
    refine lv_if_eq (tgt := 27) S.1 S.2.1 dX1_standAt_14 (by decide) (fun b4 => ?_) (fun b4 => ?_)
    · have hF := (if_pos b4).symm.trans hF
      refine lv_iconst (v := (-1)) S.1 S.2.1 dX1_standAt_27 (by decide) ?_
      cases hF
      exact z_m (v := (-1)) S hM hr hlk rfl dX1_standAt_28
    · have hF := (if_neg b4).symm.trans hF
      refine lv_iload_n S.1 S.2.1 dX1_standAt_17 rfl (lv_at hl 3 rfl) ?_
      refine lv_iconst (v := 1) S.1 S.2.1 dX1_standAt_18 (by decide) ?_
      refine lv_icmp_lt (tgt := 27) S.1 S.2.1 dX1_standAt_19 (by decide) (fun b5 => ?_) (fun b5 => ?_)
      · have hF := (if_pos b5).symm.trans hF
        refine lv_iconst (v := (-1)) S.1 S.2.1 dX1_standAt_27 (by decide) ?_
        cases hF
        exact z_m (v := (-1)) S hM hr hlk rfl dX1_standAt_28
      · have hF := (if_neg b5).symm.trans hF
        refine lv_iload_n S.1 S.2.1 dX1_standAt_22 rfl (lv_at hl 3 rfl) ?_
        refine lv_iconst (v := 4) S.1 S.2.1 dX1_standAt_23 (by decide) ?_
        refine lv_icmp_le (tgt := 29) S.1 S.2.1 dX1_standAt_24 (by decide) (fun b6 => ?_) (fun b6 => ?_)
        · have hF := (if_pos b6).symm.trans hF
          refine lv_aload_n S.1 S.2.1 dX1_standAt_29 rfl (lv_at hl 0 rfl) ?_
          refine r_getC S hK hM cfX1 c0 0 (c0 + 1) (ct_lt0 hc0) (ly_ct hc0) rfl (by decide) tw_1_39 dX1_standAt_30 ?_
          refine lv_iload_n S.1 S.2.1 dX1_standAt_33 rfl (lv_at hl 1 rfl) ?_
          obtain ⟨hv7, v7, ev7, hF⟩ := rd_some hF
          refine r_iald S hK hM (c0 + 1) (ct_lt hc0 1 (by decide)) (ly_c1 hc0) hv7 ev7 dX1_standAt_34 ?_
          refine lv_istore (lv' := [(4, .int v7), (0, .ref (g.2.2 c0)), (1, .int a1), (2, .int a2), (3, .int a3)]) S.1 S.2.1 dX1_standAt_35 hl (by decide) rfl (fun ls hl => ?_)
          refine lv_aload_n S.1 S.2.1 dX1_standAt_37 rfl (lv_at hl 1 rfl) ?_
          refine r_getC S hK hM cfX1 c0 0 (c0 + 1) (ct_lt0 hc0) (ly_ct hc0) rfl (by decide) tw_1_39 dX1_standAt_38 ?_
          refine lv_iload_n S.1 S.2.1 dX1_standAt_41 rfl (lv_at hl 2 rfl) ?_
          refine lv_iload_n S.1 S.2.1 dX1_standAt_42 rfl (lv_at hl 3 rfl) ?_
          obtain ⟨hσ8, σ8, eσ8, hF⟩ := wr_some hF
          refine r_iast S hK hM (c0 + 1) (ct_lt hc0 1 (by decide)) (ly_c1 hc0) hσ8 eσ8 dX1_standAt_43 (fun H locs hM => ?_)
          refine lv_aload_n S.1 S.2.1 dX1_standAt_44 rfl (lv_at hl 1 rfl) ?_
          refine r_getC S hK hM cfX1 c0 1 (c0 + 2) (ct_lt0 hc0) (ly_ct hc0) rfl (by decide) tw_1_41 dX1_standAt_45 ?_
          refine lv_iload_n S.1 S.2.1 dX1_standAt_48 rfl (lv_at hl 2 rfl) ?_
          refine lv_iload_n S.1 S.2.1 dX1_standAt_49 rfl (lv_at hl 4 rfl) ?_
          obtain ⟨hσ9, σ9, eσ9, hF⟩ := wr_some hF
          refine r_iast S hK hM (c0 + 2) (ct_lt hc0 2 (by decide)) (ly_c2 hc0) hσ9 eσ9 dX1_standAt_50 (fun H locs hM => ?_)
          refine lv_iload S.1 S.2.1 dX1_standAt_51 (lv_at hl 0 rfl) ?_
          cases hF
          exact z_m (v := v7) S hM hr hlk rfl dX1_standAt_53
        · have hF := (if_neg b6).symm.trans hF
          refine lv_iconst (v := (-1)) S.1 S.2.1 dX1_standAt_27 (by decide) ?_
          cases hF
          exact z_m (v := (-1)) S hM hr hlk rfl dX1_standAt_28
/-! X1_setTired -/
def X1_setTired (kf : KF) (σ : IM) (ρ : RM) (c0 : Nat) (a1 : Int32) (a2 : Int32) : Option (Int32 × IM × RM) := bd1 (X11_isBelow a1 4) fun r1 => if r1 = 0 then (some ((-1), σ, ρ)) else (bd1 (X11_isBelow a2 100) fun r3 => if r3 = 0 then (some ((-1), σ, ρ)) else (rd (σ (c0 + 3)) 4 a1 fun v5 => wr σ (c0 + 3) 4 a1 a2 fun σ6 => some (v5, σ6, ρ)))
set_option maxRecDepth 20000 in
theorem c_X1_setTired {l : Launch} {g : GE} {A : Nat → Prop} {LP : List Nat} {kf : KF} {σ : IM} {ρ : RM} {c0 : Nat} {a1 : Int32} {a2 : Int32} {out : Int32 × IM × RM} (hPL : PL LP kf) (hc0 : Ct c0) (hF : X1_setTired kf σ ρ c0 a1 a2 = some out) : Met l yX1_setTired (.code yX1_setTired cX1_setTired 4 (some .int) :: UL) ({ frames := 1, cells := 0, slots := 0, locals := 21 }) (va_Pc [.ref (g.2.2 c0), .int a1, .int a2] (PreM lyC 48 g A (va_pl LP (skE kf)) σ ρ)) (Qm lyC 48 g A (va_pl LP (skE kf)) out.2.1 out.2.2 (some (.int out.1))) 0 0 A := by
  refine e_of (by decide) (Nat.le_of_ble_eq_true rfl) ?_
  intro p e s m below meth c ls S hr hlk hv hl
  have hM := Mem.of hv
  have hK := hv.2.1
  have hl : lv_has ls 4 [(0, .ref (g.2.2 c0)), (1, .int a1), (2, .int a2)] := hl
  unfold X1_setTired at hF
  refine lv_iload_n S.1 S.2.1 dX1_setTired_0 rfl (lv_at hl 1 rfl) ?_
  refine lv_iconst (v := 4) S.1 S.2.1 dX1_setTired_1 (by decide) ?_
  obtain ⟨r1, er1, hF⟩ := bd1_some hF
  refine k_p (va_runSN (As := [.int a1, .int 4]) (rest := []) S (c_X11_isBelow hPL  er1) ⟨va_cnB 2 S.2.2.2.2 (ul_G (ul_c cw_X11_isBelow)) rfl rfl rfl (hK.2.1 _ (List.mem_of_getElem? (i := 2) rfl)) (S.2.2.2.2 _ tw_1_1) hs_X11_isBelow ⟨Nat.le_of_ble_eq_true rfl, Nat.le_of_ble_eq_true rfl⟩, S.2.2.2.2 _ tw_1_230, trivial⟩ ⟨PreM.blind, hM.pre hK⟩ rfl rfl hl.1 rfl (lv_room (Nat.le_of_ble_eq_true rfl)) dX1_setTired_2 ⟨Nat.zero_le _, Nat.zero_le _⟩) ?_
  refine lv_if_eq (tgt := 17) S.1 S.2.1 dX1_setTired_5 (by decide) (fun b2 => ?_) (fun b2 => ?_)
  · have hF := (if_pos b2).symm.trans hF
    refine lv_iconst (v := (-1)) S.1 S.2.1 dX1_setTired_17 (by decide) ?_
    cases hF
    exact z_m (v := (-1)) S hM hr hlk rfl dX1_setTired_18
  · have hF := (if_neg b2).symm.trans hF
    refine lv_iload_n S.1 S.2.1 dX1_setTired_8 rfl (lv_at hl 2 rfl) ?_
    refine lv_bipush (v := 100) S.1 S.2.1 dX1_setTired_9 (by decide) ?_
    obtain ⟨r3, er3, hF⟩ := bd1_some hF
    refine k_p (va_runSN (As := [.int a2, .int 100]) (rest := []) S (c_X11_isBelow hPL  er3) ⟨va_cnB 2 S.2.2.2.2 (ul_G (ul_c cw_X11_isBelow)) rfl rfl rfl (hK.2.1 _ (List.mem_of_getElem? (i := 2) rfl)) (S.2.2.2.2 _ tw_1_1) hs_X11_isBelow ⟨Nat.le_of_ble_eq_true rfl, Nat.le_of_ble_eq_true rfl⟩, S.2.2.2.2 _ tw_1_230, trivial⟩ ⟨PreM.blind, hM.pre hK⟩ rfl rfl hl.1 rfl (lv_room (Nat.le_of_ble_eq_true rfl)) dX1_setTired_11 ⟨Nat.zero_le _, Nat.zero_le _⟩) ?_
    refine lv_if_ne (tgt := 19) S.1 S.2.1 dX1_setTired_14 (by decide) (fun b4 => ?_) (fun b4 => ?_)
    · have hF := (if_neg b4).symm.trans hF
      refine lv_aload_n S.1 S.2.1 dX1_setTired_19 rfl (lv_at hl 0 rfl) ?_
      refine r_getC S hK hM cfX1 c0 2 (c0 + 3) (ct_lt0 hc0) (ly_ct hc0) rfl (by decide) tw_1_43 dX1_setTired_20 ?_
      refine lv_iload_n S.1 S.2.1 dX1_setTired_23 rfl (lv_at hl 1 rfl) ?_
      obtain ⟨hv5, v5, ev5, hF⟩ := rd_some hF
      refine r_iald S hK hM (c0 + 3) (ct_lt hc0 3 (by decide)) (ly_c3 hc0) hv5 ev5 dX1_setTired_24 ?_
      refine lv_istore_n (lv' := [(3, .int v5), (0, .ref (g.2.2 c0)), (1, .int a1), (2, .int a2)]) S.1 S.2.1 dX1_setTired_25 rfl hl (by decide) rfl (fun ls hl => ?_)
      refine lv_aload_n S.1 S.2.1 dX1_setTired_26 rfl (lv_at hl 1 rfl) ?_
      refine r_getC S hK hM cfX1 c0 2 (c0 + 3) (ct_lt0 hc0) (ly_ct hc0) rfl (by decide) tw_1_43 dX1_setTired_27 ?_
      refine lv_iload_n S.1 S.2.1 dX1_setTired_30 rfl (lv_at hl 2 rfl) ?_
      refine lv_iload_n S.1 S.2.1 dX1_setTired_31 rfl (lv_at hl 3 rfl) ?_
      obtain ⟨hσ6, σ6, eσ6, hF⟩ := wr_some hF
      refine r_iast S hK hM (c0 + 3) (ct_lt hc0 3 (by decide)) (ly_c3 hc0) hσ6 eσ6 dX1_setTired_32 (fun H locs hM => ?_)
      refine lv_iload_n S.1 S.2.1 dX1_setTired_33 rfl (lv_at hl 0 rfl) ?_
      cases hF
      exact z_m (v := v5) S hM hr hlk rfl dX1_setTired_34
    · have hF := (if_pos b4).symm.trans hF
      refine lv_iconst (v := (-1)) S.1 S.2.1 dX1_setTired_17 (by decide) ?_
      cases hF
      exact z_m (v := (-1)) S hM hr hlk rfl dX1_setTired_18
/-! X1_switchHand -/
def X1_switchHand (kf : KF) (σ : IM) (ρ : RM) (c0 : Nat) (a1 : Int32) : Option (Int32 × IM × RM) := bd1 (X11_isBelow a1 4) fun r1 => if r1 = 0 then (some ((-1), σ, ρ)) else (rd (σ (c0 + 4)) 4 a1 fun v3 => wr σ (c0 + 4) 4 a1 (1 - v3) fun σ4 => rd (σ4 (c0 + 4)) 4 a1 fun v5 => some (v5, σ4, ρ))
set_option maxRecDepth 20000 in
theorem c_X1_switchHand {l : Launch} {g : GE} {A : Nat → Prop} {LP : List Nat} {kf : KF} {σ : IM} {ρ : RM} {c0 : Nat} {a1 : Int32} {out : Int32 × IM × RM} (hPL : PL LP kf) (hc0 : Ct c0) (hF : X1_switchHand kf σ ρ c0 a1 = some out) : Met l yX1_switchHand (.code yX1_switchHand cX1_switchHand 2 (some .int) :: UL) ({ frames := 1, cells := 0, slots := 0, locals := 21 }) (va_Pc [.ref (g.2.2 c0), .int a1] (PreM lyC 48 g A (va_pl LP (skE kf)) σ ρ)) (Qm lyC 48 g A (va_pl LP (skE kf)) out.2.1 out.2.2 (some (.int out.1))) 0 0 A := by
  refine e_of (by decide) (Nat.le_of_ble_eq_true rfl) ?_
  intro p e s m below meth c ls S hr hlk hv hl
  have hM := Mem.of hv
  have hK := hv.2.1
  have hl : lv_has ls 2 [(0, .ref (g.2.2 c0)), (1, .int a1)] := hl
  unfold X1_switchHand at hF
  refine lv_iload_n S.1 S.2.1 dX1_switchHand_0 rfl (lv_at hl 1 rfl) ?_
  refine lv_iconst (v := 4) S.1 S.2.1 dX1_switchHand_1 (by decide) ?_
  obtain ⟨r1, er1, hF⟩ := bd1_some hF
  refine k_p (va_runSN (As := [.int a1, .int 4]) (rest := []) S (c_X11_isBelow hPL  er1) ⟨va_cnB 2 S.2.2.2.2 (ul_G (ul_c cw_X11_isBelow)) rfl rfl rfl (hK.2.1 _ (List.mem_of_getElem? (i := 2) rfl)) (S.2.2.2.2 _ tw_1_1) hs_X11_isBelow ⟨Nat.le_of_ble_eq_true rfl, Nat.le_of_ble_eq_true rfl⟩, S.2.2.2.2 _ tw_1_230, trivial⟩ ⟨PreM.blind, hM.pre hK⟩ rfl rfl hl.1 rfl (lv_room (Nat.le_of_ble_eq_true rfl)) dX1_switchHand_2 ⟨Nat.zero_le _, Nat.zero_le _⟩) ?_
  refine lv_if_ne (tgt := 10) S.1 S.2.1 dX1_switchHand_5 (by decide) (fun b2 => ?_) (fun b2 => ?_)
  · have hF := (if_neg b2).symm.trans hF
    refine lv_aload_n S.1 S.2.1 dX1_switchHand_10 rfl (lv_at hl 0 rfl) ?_
    refine r_getC S hK hM cfX1 c0 3 (c0 + 4) (ct_lt0 hc0) (ly_ct hc0) rfl (by decide) tw_1_45 dX1_switchHand_11 ?_
    refine lv_iload_n S.1 S.2.1 dX1_switchHand_14 rfl (lv_at hl 1 rfl) ?_
    refine lv_iconst (v := 1) S.1 S.2.1 dX1_switchHand_15 (by decide) ?_
    refine lv_aload_n S.1 S.2.1 dX1_switchHand_16 rfl (lv_at hl 0 rfl) ?_
    refine r_getC S hK hM cfX1 c0 3 (c0 + 4) (ct_lt0 hc0) (ly_ct hc0) rfl (by decide) tw_1_45 dX1_switchHand_17 ?_
    refine lv_iload_n S.1 S.2.1 dX1_switchHand_20 rfl (lv_at hl 1 rfl) ?_
    obtain ⟨hv3, v3, ev3, hF⟩ := rd_some hF
    refine r_iald S hK hM (c0 + 4) (ct_lt hc0 4 (by decide)) (ly_c4 hc0) hv3 ev3 dX1_switchHand_21 ?_
    refine lv_isub S.1 S.2.1 dX1_switchHand_22 ?_
    obtain ⟨hσ4, σ4, eσ4, hF⟩ := wr_some hF
    refine r_iast S hK hM (c0 + 4) (ct_lt hc0 4 (by decide)) (ly_c4 hc0) hσ4 eσ4 dX1_switchHand_23 (fun H locs hM => ?_)
    refine lv_aload_n S.1 S.2.1 dX1_switchHand_24 rfl (lv_at hl 0 rfl) ?_
    refine r_getC S hK hM cfX1 c0 3 (c0 + 4) (ct_lt0 hc0) (ly_ct hc0) rfl (by decide) tw_1_45 dX1_switchHand_25 ?_
    refine lv_iload_n S.1 S.2.1 dX1_switchHand_28 rfl (lv_at hl 1 rfl) ?_
    obtain ⟨hv5, v5, ev5, hF⟩ := rd_some hF
    refine r_iald S hK hM (c0 + 4) (ct_lt hc0 4 (by decide)) (ly_c4 hc0) hv5 ev5 dX1_switchHand_29 ?_
    cases hF
    exact z_m (v := v5) S hM hr hlk rfl dX1_switchHand_30
  · have hF := (if_pos b2).symm.trans hF
    refine lv_iconst (v := (-1)) S.1 S.2.1 dX1_switchHand_8 (by decide) ?_
    cases hF
    exact z_m (v := (-1)) S hM hr hlk rfl dX1_switchHand_9
/-! X1_choices -/
def X1_choices (a0 : Int32) : Option Int32 := if a0 = 0 then (some 2) else (some 4)
set_option maxRecDepth 20000 in
theorem c_X1_choices {l : Launch} {g : GE} {A : Nat → Prop} {LP : List Nat} {kf : KF} {σ : IM} {ρ : RM} {a0 : Int32} {out : Int32} (hPL : PL LP kf) (hF : X1_choices a0 = some out) : Met l yX1_choices (.code yX1_choices cX1_choices 1 (some .int) :: UL) ({ frames := 0, cells := 0, slots := 0, locals := 0 }) (va_Pc [.int a0] (PreM lyC 48 g A (va_pl LP (skE kf)) σ ρ)) (Qp (some (.int out))) 0 0 NoA := by
  refine e_of (by decide) (Nat.le_of_ble_eq_true rfl) ?_
  intro p e s m below meth c ls S hr hlk hv hl
  have hM := Mem.of hv
  have hK := hv.2.1
  have hl : lv_has ls 1 [(0, .int a0)] := hl
  unfold X1_choices at hF
  refine lv_iload_n S.1 S.2.1 dX1_choices_0 rfl (lv_at hl 0 rfl) ?_
  refine lv_if_ne (tgt := 8) S.1 S.2.1 dX1_choices_1 (by decide) (fun b1 => ?_) (fun b1 => ?_)
  · have hF := (if_neg b1).symm.trans hF
    refine lv_iconst (v := 4) S.1 S.2.1 dX1_choices_8 (by decide) ?_
    cases hF
    exact z_p S hr hlk rfl dX1_choices_9
  · have hF := (if_pos b1).symm.trans hF
    refine lv_iconst (v := 2) S.1 S.2.1 dX1_choices_4 (by decide) ?_
    refine lv_goto (tgt := 9) S.1 S.2.1 dX1_choices_5 (by decide) ?_
    cases hF
    exact z_p S hr hlk rfl dX1_choices_9
/-! X1_adopt -/
def X1_adopt_b44 (kf : KF) (c0 : Nat) (x1 : Int32) (x3 : Int32) (t0 : Nat) (σ : IM) (ρ : RM) : Option (Int32 × IM × RM) := rd (σ t0) 2 x1 fun v9 => wr σ t0 2 x1 x3 fun σ10 => some (v9, σ10, ρ)
set_option maxRecDepth 20000 in
theorem w_X1_adopt_44 {l : Launch} {g : GE} {A : Nat → Prop} {LP : List Nat} {kf : KF} {c0 : Nat} (hPL : PL LP kf) (hc0 : Ct c0) {p : Program} {e : Env} {s : State} {m : MethodId} {args : Array Value} {below : List Frame} {meth : Method} {c : Code} (S : CallFix p m c cX1_adopt 6 s args UL RX1) (hK : KK g s) (hr : meth.sig.returnType = (some .int)) (hlk : meth.locks = false) {out : Int32 × IM × RM} : ∀ {x1 : Int32} {x3 : Int32} {t0 : Nat} {σ : IM} {ρ : RM} {H : Heap} {locs : List Loc} {ls : Array Slot}, IA t0 2 → Mem lyC 48 g A (va_pl LP (skE kf)) σ ρ s.heap H locs → lv_has ls 6 [(1, .int x1), (3, .int x3)] → X1_adopt_b44 kf c0 x1 x3 t0 σ ρ = some out → W p l e ({ frames := 1, cells := 0, slots := 0, locals := 21 }) s m args below meth c H locs 0 0 (MQ below (Qm lyC 48 g A (va_pl LP (skE kf)) out.2.1 out.2.2 (some (.int out.1))) args s 0 0 A) (F0 m 44 ls [.ref (g.2.2 t0)]) := by
  intro x1 x3 t0 σ ρ H locs ls ht0 hM hl hF
  unfold X1_adopt_b44 at hF
  refine lv_astore (lv' := [(4, .ref (g.2.2 t0)), (1, .int x1), (3, .int x3)]) S.1 S.2.1 dX1_adopt_44 hl (by decide) rfl (fun ls hl => ?_)
  refine lv_aload S.1 S.2.1 dX1_adopt_46 (lv_at hl 0 rfl) ?_
  refine lv_iload_n S.1 S.2.1 dX1_adopt_48 rfl (lv_at hl 1 rfl) ?_
  obtain ⟨hv9, v9, ev9, hF⟩ := rd_some hF
  refine r_iald S hK hM t0 ht0.1 ht0.2 hv9 ev9 dX1_adopt_49 ?_
  refine lv_istore (lv' := [(5, .int v9), (4, .ref (g.2.2 t0)), (1, .int x1), (3, .int x3)]) S.1 S.2.1 dX1_adopt_50 hl (by decide) rfl (fun ls hl => ?_)
  refine lv_aload S.1 S.2.1 dX1_adopt_52 (lv_at hl 1 rfl) ?_
  refine lv_iload_n S.1 S.2.1 dX1_adopt_54 rfl (lv_at hl 2 rfl) ?_
  refine lv_iload_n S.1 S.2.1 dX1_adopt_55 rfl (lv_at hl 3 rfl) ?_
  obtain ⟨hσ10, σ10, eσ10, hF⟩ := wr_some hF
  refine r_iast S hK hM t0 ht0.1 ht0.2 hσ10 eσ10 dX1_adopt_56 (fun H locs hM => ?_)
  refine lv_iload S.1 S.2.1 dX1_adopt_57 (lv_at hl 0 rfl) ?_
  cases hF
  exact z_m (v := v9) S hM hr hlk rfl dX1_adopt_59
def X1_adopt (kf : KF) (σ : IM) (ρ : RM) (c0 : Nat) (a1 : Int32) (a2 : Int32) (a3 : Int32) : Option (Int32 × IM × RM) := bd1 (X11_isBelow a1 2) fun r1 => if r1 = 0 then (some ((-1), σ, ρ)) else (bd1 (X11_isBelow a2 2) fun r3 => if r3 = 0 then (some ((-1), σ, ρ)) else (bd1 (X1_choices a2) fun r5 => bd1 (X11_isBelow a3 r5) fun r6 => if r6 = 0 then (some ((-1), σ, ρ)) else (if a2 = 0 then (X1_adopt_b44 kf c0 a1 a3 (c0 + 5) σ ρ) else (X1_adopt_b44 kf c0 a1 a3 (c0 + 6) σ ρ))))
set_option maxRecDepth 20000 in
theorem c_X1_adopt {l : Launch} {g : GE} {A : Nat → Prop} {LP : List Nat} {kf : KF} {σ : IM} {ρ : RM} {c0 : Nat} {a1 : Int32} {a2 : Int32} {a3 : Int32} {out : Int32 × IM × RM} (hPL : PL LP kf) (hc0 : Ct c0) (hF : X1_adopt kf σ ρ c0 a1 a2 a3 = some out) : Met l yX1_adopt (.code yX1_adopt cX1_adopt 6 (some .int) :: UL) ({ frames := 1, cells := 0, slots := 0, locals := 21 }) (va_Pc [.ref (g.2.2 c0), .int a1, .int a2, .int a3] (PreM lyC 48 g A (va_pl LP (skE kf)) σ ρ)) (Qm lyC 48 g A (va_pl LP (skE kf)) out.2.1 out.2.2 (some (.int out.1))) 0 0 A := by
  refine e_of (by decide) (Nat.le_of_ble_eq_true rfl) ?_
  intro p e s m below meth c ls S hr hlk hv hl
  have hM := Mem.of hv
  have hK := hv.2.1
  have hl : lv_has ls 6 [(0, .ref (g.2.2 c0)), (1, .int a1), (2, .int a2), (3, .int a3)] := hl
  unfold X1_adopt at hF
  refine lv_iload_n S.1 S.2.1 dX1_adopt_0 rfl (lv_at hl 1 rfl) ?_
  refine lv_iconst (v := 2) S.1 S.2.1 dX1_adopt_1 (by decide) ?_
  obtain ⟨r1, er1, hF⟩ := bd1_some hF
  refine k_p (va_runSN (As := [.int a1, .int 2]) (rest := []) S (c_X11_isBelow hPL  er1) ⟨va_cnB 2 S.2.2.2.2 (ul_G (ul_c cw_X11_isBelow)) rfl rfl rfl (hK.2.1 _ (List.mem_of_getElem? (i := 2) rfl)) (S.2.2.2.2 _ tw_1_1) hs_X11_isBelow ⟨Nat.le_of_ble_eq_true rfl, Nat.le_of_ble_eq_true rfl⟩, S.2.2.2.2 _ tw_1_230, trivial⟩ ⟨PreM.blind, hM.pre hK⟩ rfl rfl hl.1 rfl (lv_room (Nat.le_of_ble_eq_true rfl)) dX1_adopt_2 ⟨Nat.zero_le _, Nat.zero_le _⟩) ?_
  refine lv_if_eq (tgt := 27) S.1 S.2.1 dX1_adopt_5 (by decide) (fun b2 => ?_) (fun b2 => ?_)
  · have hF := (if_pos b2).symm.trans hF
    refine lv_iconst (v := (-1)) S.1 S.2.1 dX1_adopt_27 (by decide) ?_
    cases hF
    exact z_m (v := (-1)) S hM hr hlk rfl dX1_adopt_28
  · have hF := (if_neg b2).symm.trans hF
    refine lv_iload_n S.1 S.2.1 dX1_adopt_8 rfl (lv_at hl 2 rfl) ?_
    refine lv_iconst (v := 2) S.1 S.2.1 dX1_adopt_9 (by decide) ?_
    obtain ⟨r3, er3, hF⟩ := bd1_some hF
    refine k_p (va_runSN (As := [.int a2, .int 2]) (rest := []) S (c_X11_isBelow hPL  er3) ⟨va_cnB 2 S.2.2.2.2 (ul_G (ul_c cw_X11_isBelow)) rfl rfl rfl (hK.2.1 _ (List.mem_of_getElem? (i := 2) rfl)) (S.2.2.2.2 _ tw_1_1) hs_X11_isBelow ⟨Nat.le_of_ble_eq_true rfl, Nat.le_of_ble_eq_true rfl⟩, S.2.2.2.2 _ tw_1_230, trivial⟩ ⟨PreM.blind, hM.pre hK⟩ rfl rfl hl.1 rfl (lv_room (Nat.le_of_ble_eq_true rfl)) dX1_adopt_10 ⟨Nat.zero_le _, Nat.zero_le _⟩) ?_
    refine lv_if_eq (tgt := 27) S.1 S.2.1 dX1_adopt_13 (by decide) (fun b4 => ?_) (fun b4 => ?_)
    · have hF := (if_pos b4).symm.trans hF
      refine lv_iconst (v := (-1)) S.1 S.2.1 dX1_adopt_27 (by decide) ?_
      cases hF
      exact z_m (v := (-1)) S hM hr hlk rfl dX1_adopt_28
    · have hF := (if_neg b4).symm.trans hF
      refine lv_iload_n S.1 S.2.1 dX1_adopt_16 rfl (lv_at hl 3 rfl) ?_
      refine lv_iload_n S.1 S.2.1 dX1_adopt_17 rfl (lv_at hl 2 rfl) ?_
      obtain ⟨r5, er5, hF⟩ := bd1_some hF
      refine k_p (va_runS (As := [.int a2]) (rest := [.int a3]) S (c_X1_choices hPL  er5) (va_cwS 1 S.2.2.2.2 (ul_S tw_2_53 tw_2_54 tw_1_2 cw_X1_choices) rfl rfl rfl hs_X1_choices ⟨Nat.le_of_ble_eq_true rfl, Nat.le_of_ble_eq_true rfl⟩) ⟨PreM.blind, hM.pre hK⟩ rfl rfl hl.1 rfl (lv_room (Nat.le_of_ble_eq_true rfl)) dX1_adopt_18 ⟨Nat.zero_le _, Nat.zero_le _⟩) ?_
      obtain ⟨r6, er6, hF⟩ := bd1_some hF
      refine k_p (va_runSN (As := [.int a3, .int r5]) (rest := []) S (c_X11_isBelow hPL  er6) ⟨va_cnB 2 S.2.2.2.2 (ul_G (ul_c cw_X11_isBelow)) rfl rfl rfl (hK.2.1 _ (List.mem_of_getElem? (i := 2) rfl)) (S.2.2.2.2 _ tw_1_1) hs_X11_isBelow ⟨Nat.le_of_ble_eq_true rfl, Nat.le_of_ble_eq_true rfl⟩, S.2.2.2.2 _ tw_1_230, trivial⟩ ⟨PreM.blind, hM.pre hK⟩ rfl rfl hl.1 rfl (lv_room (Nat.le_of_ble_eq_true rfl)) dX1_adopt_21 ⟨Nat.zero_le _, Nat.zero_le _⟩) ?_
      refine lv_if_ne (tgt := 29) S.1 S.2.1 dX1_adopt_24 (by decide) (fun b7 => ?_) (fun b7 => ?_)
      · have hF := (if_neg b7).symm.trans hF
        refine lv_iload_n S.1 S.2.1 dX1_adopt_29 rfl (lv_at hl 2 rfl) ?_
        refine lv_if_ne (tgt := 40) S.1 S.2.1 dX1_adopt_30 (by decide) (fun b8 => ?_) (fun b8 => ?_)
        · have hF := (if_neg b8).symm.trans hF
          refine lv_aload_n S.1 S.2.1 dX1_adopt_40 rfl (lv_at hl 0 rfl) ?_
          refine r_getC S hK hM cfX1 c0 5 (c0 + 6) (ct_lt0 hc0) (ly_ct hc0) rfl (by decide) tw_1_49 dX1_adopt_41 ?_
          exact w_X1_adopt_44 hPL hc0 S hK hr hlk ⟨(ct_lt hc0 6 (by decide)), (ly_c6 hc0)⟩ hM (lv_sub hl [1, 3] rfl) hF
        · have hF := (if_pos b8).symm.trans hF
          refine lv_aload_n S.1 S.2.1 dX1_adopt_33 rfl (lv_at hl 0 rfl) ?_
          refine r_getC S hK hM cfX1 c0 4 (c0 + 5) (ct_lt0 hc0) (ly_ct hc0) rfl (by decide) tw_1_47 dX1_adopt_34 ?_
          refine lv_goto (tgt := 44) S.1 S.2.1 dX1_adopt_37 (by decide) ?_
          exact w_X1_adopt_44 hPL hc0 S hK hr hlk ⟨(ct_lt hc0 5 (by decide)), (ly_c5 hc0)⟩ hM (lv_sub hl [1, 3] rfl) hF
      · have hF := (if_pos b7).symm.trans hF
        refine lv_iconst (v := (-1)) S.1 S.2.1 dX1_adopt_27 (by decide) ?_
        cases hF
        exact z_m (v := (-1)) S hM hr hlk rfl dX1_adopt_28
/-! X1_setDraught -/
def X1_setDraught (kf : KF) (σ : IM) (ρ : RM) (c0 : Nat) (a1 : Int32) : Option (Int32 × IM × RM) := bd1 (X11_isBelow a1 3) fun r1 => if r1 = 0 then (some ((-1), σ, ρ)) else (bd ((σ c0 10) + 1) fun v3 => bd (up2 σ c0 10 (a1 - 1)) fun σ4 => some (v3, σ4, ρ))
set_option maxRecDepth 20000 in
theorem c_X1_setDraught {l : Launch} {g : GE} {A : Nat → Prop} {LP : List Nat} {kf : KF} {σ : IM} {ρ : RM} {c0 : Nat} {a1 : Int32} {out : Int32 × IM × RM} (hPL : PL LP kf) (hc0 : Ct c0) (hF : X1_setDraught kf σ ρ c0 a1 = some out) : Met l yX1_setDraught (.code yX1_setDraught cX1_setDraught 3 (some .int) :: UL) ({ frames := 1, cells := 0, slots := 0, locals := 21 }) (va_Pc [.ref (g.2.2 c0), .int a1] (PreM lyC 48 g A (va_pl LP (skE kf)) σ ρ)) (Qm lyC 48 g A (va_pl LP (skE kf)) out.2.1 out.2.2 (some (.int out.1))) 0 0 A := by
  refine e_of (by decide) (Nat.le_of_ble_eq_true rfl) ?_
  intro p e s m below meth c ls S hr hlk hv hl
  have hM := Mem.of hv
  have hK := hv.2.1
  have hl : lv_has ls 3 [(0, .ref (g.2.2 c0)), (1, .int a1)] := hl
  unfold X1_setDraught at hF
  refine lv_iload_n S.1 S.2.1 dX1_setDraught_0 rfl (lv_at hl 1 rfl) ?_
  refine lv_iconst (v := 3) S.1 S.2.1 dX1_setDraught_1 (by decide) ?_
  obtain ⟨r1, er1, hF⟩ := bd1_some hF
  refine k_p (va_runSN (As := [.int a1, .int 3]) (rest := []) S (c_X11_isBelow hPL  er1) ⟨va_cnB 2 S.2.2.2.2 (ul_G (ul_c cw_X11_isBelow)) rfl rfl rfl (hK.2.1 _ (List.mem_of_getElem? (i := 2) rfl)) (S.2.2.2.2 _ tw_1_1) hs_X11_isBelow ⟨Nat.le_of_ble_eq_true rfl, Nat.le_of_ble_eq_true rfl⟩, S.2.2.2.2 _ tw_1_230, trivial⟩ ⟨PreM.blind, hM.pre hK⟩ rfl rfl hl.1 rfl (lv_room (Nat.le_of_ble_eq_true rfl)) dX1_setDraught_2 ⟨Nat.zero_le _, Nat.zero_le _⟩) ?_
  refine lv_if_ne (tgt := 10) S.1 S.2.1 dX1_setDraught_5 (by decide) (fun b2 => ?_) (fun b2 => ?_)
  · have hF := (if_neg b2).symm.trans hF
    refine lv_aload_n S.1 S.2.1 dX1_setDraught_10 rfl (lv_at hl 0 rfl) ?_
    refine r_getI S hK hM cfX1 c0 10 (ct_lt0 hc0) (ly_ct hc0) rfl (by decide) tw_1_59 dX1_setDraught_11 ?_
    refine lv_iconst (v := 1) S.1 S.2.1 dX1_setDraught_14 (by decide) ?_
    refine lv_iadd S.1 S.2.1 dX1_setDraught_15 ?_
    refine lv_topi (fun v3 ev3 => ?_)
    have hF := bd_at ev3 hF
    refine lv_istore_n (lv' := [(2, .int v3), (0, .ref (g.2.2 c0)), (1, .int a1)]) S.1 S.2.1 dX1_setDraught_16 rfl hl (by decide) rfl (fun ls hl => ?_)
    refine lv_aload_n S.1 S.2.1 dX1_setDraught_17 rfl (lv_at hl 1 rfl) ?_
    refine lv_iload_n S.1 S.2.1 dX1_setDraught_18 rfl (lv_at hl 2 rfl) ?_
    refine lv_iconst (v := 1) S.1 S.2.1 dX1_setDraught_19 (by decide) ?_
    refine lv_isub S.1 S.2.1 dX1_setDraught_20 ?_
    obtain ⟨σ4, eσ4, hF⟩ := bd_some hF
    refine r_putI (ty := .int) S hK hM cfX1 tyX1_ok nmX1 c0 10 (ct_lt0 hc0) (ly_ct hc0) rfl (by decide) tw_1_59 rfl (by decide +kernel) rfl rfl eσ4 dX1_setDraught_21 (fun H locs hM => ?_)
    refine lv_iload_n S.1 S.2.1 dX1_setDraught_24 rfl (lv_at hl 0 rfl) ?_
    cases hF
    exact z_m (v := v3) S hM hr hlk rfl dX1_setDraught_25
  · have hF := (if_pos b2).symm.trans hF
    refine lv_iconst (v := (-1)) S.1 S.2.1 dX1_setDraught_8 (by decide) ?_
    cases hF
    exact z_m (v := (-1)) S hM hr hlk rfl dX1_setDraught_9
/-! X1_giveTo -/
def X1_giveTo (kf : KF) (σ : IM) (ρ : RM) (c0 : Nat) (a1 : Int32) : Option (IM × RM) := if (σ c0 9) / 2 = a1 then (some (σ, ρ)) else (bd (up2 σ c0 9 (2 * a1)) fun σ2 => some (σ2, ρ))
set_option maxRecDepth 20000 in
theorem c_X1_giveTo {l : Launch} {g : GE} {A : Nat → Prop} {LP : List Nat} {kf : KF} {σ : IM} {ρ : RM} {c0 : Nat} {a1 : Int32} {out : IM × RM} (hPL : PL LP kf) (hc0 : Ct c0) (hF : X1_giveTo kf σ ρ c0 a1 = some out) : Met l yX1_giveTo (.code yX1_giveTo cX1_giveTo 2 none :: UL) ({ frames := 0, cells := 0, slots := 0, locals := 0 }) (va_Pc [.ref (g.2.2 c0), .int a1] (PreM lyC 48 g A (va_pl LP (skE kf)) σ ρ)) (Qm lyC 48 g A (va_pl LP (skE kf)) out.1 out.2 none) 0 0 A := by
  refine e_of (by decide) (Nat.le_of_ble_eq_true rfl) ?_
  intro p e s m below meth c ls S hr hlk hv hl
  have hM := Mem.of hv
  have hK := hv.2.1
  have hl : lv_has ls 2 [(0, .ref (g.2.2 c0)), (1, .int a1)] := hl
  unfold X1_giveTo at hF
  refine lv_aload_n S.1 S.2.1 dX1_giveTo_0 rfl (lv_at hl 0 rfl) ?_
  refine r_getI S hK hM cfX1 c0 9 (ct_lt0 hc0) (ly_ct hc0) rfl (by decide) tw_1_57 dX1_giveTo_1 ?_
  refine lv_iconst (v := 2) S.1 S.2.1 dX1_giveTo_4 (by decide) ?_
  refine lv_idiv S.1 S.2.1 dX1_giveTo_5 (by decide) ?_
  refine lv_iload_n S.1 S.2.1 dX1_giveTo_6 rfl (lv_at hl 1 rfl) ?_
  refine lv_icmp_eq (tgt := 17) S.1 S.2.1 dX1_giveTo_7 (by decide) (fun b1 => ?_) (fun b1 => ?_)
  · have hF := (if_pos b1).symm.trans hF
    cases hF
    exact z_mv S hM hr hlk dX1_giveTo_17
  · have hF := (if_neg b1).symm.trans hF
    refine lv_aload_n S.1 S.2.1 dX1_giveTo_10 rfl (lv_at hl 0 rfl) ?_
    refine lv_iconst (v := 2) S.1 S.2.1 dX1_giveTo_11 (by decide) ?_
    refine lv_iload_n S.1 S.2.1 dX1_giveTo_12 rfl (lv_at hl 1 rfl) ?_
    refine lv_imul S.1 S.2.1 dX1_giveTo_13 ?_
    obtain ⟨σ2, eσ2, hF⟩ := bd_some hF
    refine r_putI (ty := .int) S hK hM cfX1 tyX1_ok nmX1 c0 9 (ct_lt0 hc0) (ly_ct hc0) rfl (by decide) tw_1_57 rfl (by decide +kernel) rfl rfl eσ2 dX1_giveTo_14 (fun H locs hM => ?_)
    cases hF
    exact z_mv S hM hr hlk dX1_giveTo_17
/-! X1_receivers -/
def X1_receivers (kf : KF) (σ : IM) (ρ : RM) (c0 : Nat) : Option Int32 := some (1 - ((σ c0 9) / 2))
set_option maxRecDepth 20000 in
theorem c_X1_receivers {l : Launch} {g : GE} {A : Nat → Prop} {LP : List Nat} {kf : KF} {σ : IM} {ρ : RM} {c0 : Nat} {out : Int32} (hPL : PL LP kf) (hc0 : Ct c0) (hF : X1_receivers kf σ ρ c0 = some out) : Met l yX1_receivers (.code yX1_receivers cX1_receivers 1 (some .int) :: UL) ({ frames := 0, cells := 0, slots := 0, locals := 0 }) (va_Pc [.ref (g.2.2 c0)] (PreM lyC 48 g A (va_pl LP (skE kf)) σ ρ)) (Qp (some (.int out))) 0 0 NoA := by
  refine e_of (by decide) (Nat.le_of_ble_eq_true rfl) ?_
  intro p e s m below meth c ls S hr hlk hv hl
  have hM := Mem.of hv
  have hK := hv.2.1
  have hl : lv_has ls 1 [(0, .ref (g.2.2 c0))] := hl
  unfold X1_receivers at hF
  refine lv_iconst (v := 1) S.1 S.2.1 dX1_receivers_0 (by decide) ?_
  refine lv_aload_n S.1 S.2.1 dX1_receivers_1 rfl (lv_at hl 0 rfl) ?_
  refine r_getI S hK hM cfX1 c0 9 (ct_lt0 hc0) (ly_ct hc0) rfl (by decide) tw_1_57 dX1_receivers_2 ?_
  refine lv_iconst (v := 2) S.1 S.2.1 dX1_receivers_5 (by decide) ?_
  refine lv_idiv S.1 S.2.1 dX1_receivers_6 (by decide) ?_
  refine lv_isub S.1 S.2.1 dX1_receivers_7 ?_
  cases hF
  exact z_p S hr hlk rfl dX1_receivers_8
/-! X1_landing -/
def X1_landing (kf : KF) (σ : IM) (ρ : RM) (c0 : Nat) (a1 : Int32) (a2 : Int32) : Option Int32 := rq (ρ (c0 + 8)) 8 a1 fun q1 => bd1 (V_landing kf q1 a2 (σ c0 10)) fun r2 => some r2
set_option maxRecDepth 20000 in
theorem c_X1_landing {l : Launch} {g : GE} {A : Nat → Prop} {LP : List Nat} {kf : KF} {σ : IM} {ρ : RM} {c0 : Nat} {a1 : Int32} {a2 : Int32} {out : Int32} (hPL : PL LP kf) (hc0 : Ct c0) (hF : X1_landing kf σ ρ c0 a1 a2 = some out) : Met l yX1_landing (.code yX1_landing cX1_landing 3 (some .int) :: UL) ({ frames := 2, cells := 0, slots := 0, locals := 44 }) (va_Pc [.ref (g.2.2 c0), .int a1, .int a2] (PreM lyC 48 g A (va_pl LP (skE kf)) σ ρ)) (Qp (some (.int out))) 0 0 NoA := by
  refine e_of (by decide) (Nat.le_of_ble_eq_true rfl) ?_
  intro p e s m below meth c ls S hr hlk hv hl
  have hM := Mem.of hv
  have hK := hv.2.1
  have hl : lv_has ls 3 [(0, .ref (g.2.2 c0)), (1, .int a1), (2, .int a2)] := hl
  unfold X1_landing at hF
  refine lv_aload_n S.1 S.2.1 dX1_landing_0 rfl (lv_at hl 0 rfl) ?_
  refine r_getC S hK hM cfX1 c0 7 (c0 + 8) (ct_lt0 hc0) (ly_ct hc0) rfl (by decide) tw_1_53 dX1_landing_1 ?_
  refine lv_iload_n S.1 S.2.1 dX1_landing_4 rfl (lv_at hl 1 rfl) ?_
  obtain ⟨hq1, q1, eq1, hF⟩ := rq_some hF
  refine r_aald S hK hM (c0 + 8) (ct_lt hc0 8 (by decide)) (ly_c8 hc0) hq1 eq1 dX1_landing_5 ?_
  refine lv_iload_n S.1 S.2.1 dX1_landing_6 rfl (lv_at hl 2 rfl) ?_
  refine lv_aload_n S.1 S.2.1 dX1_landing_7 rfl (lv_at hl 0 rfl) ?_
  refine r_getI S hK hM cfX1 c0 10 (ct_lt0 hc0) (ly_ct hc0) rfl (by decide) tw_1_59 dX1_landing_8 ?_
  obtain ⟨r2, er2, hF⟩ := bd1_some hF
  refine k_p (rv_X1_73 (rest := []) S hK hM hPL er2 hl.1 dX1_landing_11 (Nat.le_of_ble_eq_true rfl) (Nat.le_of_ble_eq_true rfl) (lv_room (Nat.le_of_ble_eq_true rfl))) ?_
  cases hF
  exact z_p S hr hlk rfl dX1_landing_14
/-! X1_stepsIn -/
def X1_stepsIn (kf : KF) (σ : IM) (ρ : RM) (c0 : Nat) (a1 : Int32) (a2 : Int32) (a3 : Int32) : Option Int32 := rd (σ (c0 + 2)) 4 a2 fun v1 => bd (if 1 < v1 - (a3 / 30) then v1 - (a3 / 30) else 1) fun v2 => some (a1 * v2)
set_option maxRecDepth 20000 in
theorem c_X1_stepsIn {l : Launch} {g : GE} {A : Nat → Prop} {LP : List Nat} {kf : KF} {σ : IM} {ρ : RM} {c0 : Nat} {a1 : Int32} {a2 : Int32} {a3 : Int32} {out : Int32} (hPL : PL LP kf) (hc0 : Ct c0) (hF : X1_stepsIn kf σ ρ c0 a1 a2 a3 = some out) : Met l yX1_stepsIn (.code yX1_stepsIn cX1_stepsIn 4 (some .int) :: UL) ({ frames := 1, cells := 0, slots := 0, locals := 21 }) (va_Pc [.ref (g.2.2 c0), .int a1, .int a2, .int a3] (PreM lyC 48 g A (va_pl LP (skE kf)) σ ρ)) (Qp (some (.int out))) 0 0 NoA := by
  refine e_of (by decide) (Nat.le_of_ble_eq_true rfl) ?_
  intro p e s m below meth c ls S hr hlk hv hl
  have hM := Mem.of hv
  have hK := hv.2.1
  have hl : lv_has ls 4 [(0, .ref (g.2.2 c0)), (1, .int a1), (2, .int a2), (3, .int a3)] := hl
  unfold X1_stepsIn at hF
  refine lv_iload_n S.1 S.2.1 dX1_stepsIn_0 rfl (lv_at hl 1 rfl) ?_
  refine lv_iconst (v := 1) S.1 S.2.1 dX1_stepsIn_1 (by decide) ?_
  refine lv_aload_n S.1 S.2.1 dX1_stepsIn_2 rfl (lv_at hl 0 rfl) ?_
  refine r_getC S hK hM cfX1 c0 1 (c0 + 2) (ct_lt0 hc0) (ly_ct hc0) rfl (by decide) tw_1_41 dX1_stepsIn_3 ?_
  refine lv_iload_n S.1 S.2.1 dX1_stepsIn_6 rfl (lv_at hl 2 rfl) ?_
  obtain ⟨hv1, v1, ev1, hF⟩ := rd_some hF
  refine r_iald S hK hM (c0 + 2) (ct_lt hc0 2 (by decide)) (ly_c2 hc0) hv1 ev1 dX1_stepsIn_7 ?_
  refine lv_iload_n S.1 S.2.1 dX1_stepsIn_8 rfl (lv_at hl 3 rfl) ?_
  refine lv_bipush (v := 30) S.1 S.2.1 dX1_stepsIn_9 (by decide) ?_
  refine lv_idiv S.1 S.2.1 dX1_stepsIn_11 (by decide) ?_
  refine lv_isub S.1 S.2.1 dX1_stepsIn_12 ?_
  refine va_mmax S.1 S.2.1 (S.2.2.1.trans hl.1.symm) S.2.2.2.1 (S.2.2.2.2 _ tw_2_158) (S.2.2.2.2 _ tw_2_95) (S.2.2.2.2 _ tw_1_15) (S.2.2.2.2 _ tw_2_96) (Nat.le_of_ble_eq_true rfl) (Nat.le_of_ble_eq_true rfl) (Nat.zero_le _) (Nat.zero_le _) dX1_stepsIn_13 ?_
  refine lv_topi (fun v2 ev2 => ?_)
  have hF := bd_at ev2 hF
  refine lv_imul S.1 S.2.1 dX1_stepsIn_16 ?_
  cases hF
  exact z_p S hr hlk rfl dX1_stepsIn_17
/-! X11_way -/
def X11_way (a0 : Int32) (a1 : Int32) : Option Int32 := bd (if 0 ≤ (a0 / 3) - (a1 / 3) then (a0 / 3) - (a1 / 3) else 0 - ((a0 / 3) - (a1 / 3))) fun v1 => bd (if 0 ≤ (rem32 a0 3) - (rem32 a1 3) then (rem32 a0 3) - (rem32 a1 3) else 0 - ((rem32 a0 3) - (rem32 a1 3))) fun v2 => some (v1 + v2)
set_option maxRecDepth 20000 in
theorem c_X11_way {l : Launch} {g : GE} {A : Nat → Prop} {LP : List Nat} {kf : KF} {σ : IM} {ρ : RM} {a0 : Int32} {a1 : Int32} {out : Int32} (hPL : PL LP kf) (hF : X11_way a0 a1 = some out) : Met l yX11_way (.code yX11_way cX11_way 2 (some .int) :: UL) ({ frames := 1, cells := 0, slots := 0, locals := 21 }) (va_Pc [.int a0, .int a1] (PreM lyC 48 g A (va_pl LP (skE kf)) σ ρ)) (Qp (some (.int out))) 0 0 NoA := by
  refine e_of (by decide) (Nat.le_of_ble_eq_true rfl) ?_
  intro p e s m below meth c ls S hr hlk hv hl
  have hM := Mem.of hv
  have hK := hv.2.1
  have hl : lv_has ls 2 [(0, .int a0), (1, .int a1)] := hl
  unfold X11_way at hF
  refine lv_iload_n S.1 S.2.1 dX11_way_0 rfl (lv_at hl 0 rfl) ?_
  refine lv_iconst (v := 3) S.1 S.2.1 dX11_way_1 (by decide) ?_
  refine lv_idiv S.1 S.2.1 dX11_way_2 (by decide) ?_
  refine lv_iload_n S.1 S.2.1 dX11_way_3 rfl (lv_at hl 1 rfl) ?_
  refine lv_iconst (v := 3) S.1 S.2.1 dX11_way_4 (by decide) ?_
  refine lv_idiv S.1 S.2.1 dX11_way_5 (by decide) ?_
  refine lv_isub S.1 S.2.1 dX11_way_6 ?_
  refine va_mabs S.1 S.2.1 (S.2.2.1.trans hl.1.symm) S.2.2.2.1 (S.2.2.2.2 _ tw_2_138) (S.2.2.2.2 _ tw_2_139) (S.2.2.2.2 _ tw_1_15) (S.2.2.2.2 _ tw_2_140) (Nat.le_of_ble_eq_true rfl) (Nat.le_of_ble_eq_true rfl) (Nat.zero_le _) (Nat.zero_le _) dX11_way_7 ?_
  refine lv_topi (fun v1 ev1 => ?_)
  have hF := bd_at ev1 hF
  refine lv_iload_n S.1 S.2.1 dX11_way_10 rfl (lv_at hl 0 rfl) ?_
  refine lv_iconst (v := 3) S.1 S.2.1 dX11_way_11 (by decide) ?_
  refine r_irem S dX11_way_12 (by decide) ?_
  refine lv_iload_n S.1 S.2.1 dX11_way_13 rfl (lv_at hl 1 rfl) ?_
  refine lv_iconst (v := 3) S.1 S.2.1 dX11_way_14 (by decide) ?_
  refine r_irem S dX11_way_15 (by decide) ?_
  refine lv_isub S.1 S.2.1 dX11_way_16 ?_
  refine va_mabs S.1 S.2.1 (S.2.2.1.trans hl.1.symm) S.2.2.2.1 (S.2.2.2.2 _ tw_2_138) (S.2.2.2.2 _ tw_2_139) (S.2.2.2.2 _ tw_1_15) (S.2.2.2.2 _ tw_2_140) (Nat.le_of_ble_eq_true rfl) (Nat.le_of_ble_eq_true rfl) (Nat.zero_le _) (Nat.zero_le _) dX11_way_17 ?_
  refine lv_topi (fun v2 ev2 => ?_)
  have hF := bd_at ev2 hF
  refine lv_iadd S.1 S.2.1 dX11_way_20 ?_
  cases hF
  exact z_p S hr hlk rfl dX11_way_21
/-! X1_leftOneOf -/
def X1_leftOneOf (kf : KF) (σ : IM) (ρ : RM) (c0 : Nat) (a1 : Int32) (a2 : Int32) : Option Int32 := rd (σ (c0 + 4)) 4 a1 fun v1 => rd (σ (c0 + 4)) 4 a2 fun v2 => if v1 = v2 then (some 9) else (rd (σ (c0 + 4)) 4 a1 fun v4 => if v4 = 1 then (some a1) else (some a2))
set_option maxRecDepth 20000 in
theorem c_X1_leftOneOf {l : Launch} {g : GE} {A : Nat → Prop} {LP : List Nat} {kf : KF} {σ : IM} {ρ : RM} {c0 : Nat} {a1 : Int32} {a2 : Int32} {out : Int32} (hPL : PL LP kf) (hc0 : Ct c0) (hF : X1_leftOneOf kf σ ρ c0 a1 a2 = some out) : Met l yX1_leftOneOf (.code yX1_leftOneOf cX1_leftOneOf 3 (some .int) :: UL) ({ frames := 0, cells := 0, slots := 0, locals := 0 }) (va_Pc [.ref (g.2.2 c0), .int a1, .int a2] (PreM lyC 48 g A (va_pl LP (skE kf)) σ ρ)) (Qp (some (.int out))) 0 0 NoA := by
  refine e_of (by decide) (Nat.le_of_ble_eq_true rfl) ?_
  intro p e s m below meth c ls S hr hlk hv hl
  have hM := Mem.of hv
  have hK := hv.2.1
  have hl : lv_has ls 3 [(0, .ref (g.2.2 c0)), (1, .int a1), (2, .int a2)] := hl
  unfold X1_leftOneOf at hF
  refine lv_aload_n S.1 S.2.1 dX1_leftOneOf_0 rfl (lv_at hl 0 rfl) ?_
  refine r_getC S hK hM cfX1 c0 3 (c0 + 4) (ct_lt0 hc0) (ly_ct hc0) rfl (by decide) tw_1_45 dX1_leftOneOf_1 ?_
  refine lv_iload_n S.1 S.2.1 dX1_leftOneOf_4 rfl (lv_at hl 1 rfl) ?_
  obtain ⟨hv1, v1, ev1, hF⟩ := rd_some hF
  refine r_iald S hK hM (c0 + 4) (ct_lt hc0 4 (by decide)) (ly_c4 hc0) hv1 ev1 dX1_leftOneOf_5 ?_
  refine lv_aload_n S.1 S.2.1 dX1_leftOneOf_6 rfl (lv_at hl 0 rfl) ?_
  refine r_getC S hK hM cfX1 c0 3 (c0 + 4) (ct_lt0 hc0) (ly_ct hc0) rfl (by decide) tw_1_45 dX1_leftOneOf_7 ?_
  refine lv_iload_n S.1 S.2.1 dX1_leftOneOf_10 rfl (lv_at hl 2 rfl) ?_
  obtain ⟨hv2, v2, ev2, hF⟩ := rd_some hF
  refine r_iald S hK hM (c0 + 4) (ct_lt hc0 4 (by decide)) (ly_c4 hc0) hv2 ev2 dX1_leftOneOf_11 ?_
  refine lv_icmp_ne (tgt := 18) S.1 S.2.1 dX1_leftOneOf_12 (by decide) (fun b3 => ?_) (fun b3 => ?_)
  · have hF := (if_neg b3).symm.trans hF
    refine lv_aload_n S.1 S.2.1 dX1_leftOneOf_18 rfl (lv_at hl 0 rfl) ?_
    refine r_getC S hK hM cfX1 c0 3 (c0 + 4) (ct_lt0 hc0) (ly_ct hc0) rfl (by decide) tw_1_45 dX1_leftOneOf_19 ?_
    refine lv_iload_n S.1 S.2.1 dX1_leftOneOf_22 rfl (lv_at hl 1 rfl) ?_
    obtain ⟨hv4, v4, ev4, hF⟩ := rd_some hF
    refine r_iald S hK hM (c0 + 4) (ct_lt hc0 4 (by decide)) (ly_c4 hc0) hv4 ev4 dX1_leftOneOf_23 ?_
    refine lv_iconst (v := 1) S.1 S.2.1 dX1_leftOneOf_24 (by decide) ?_
    refine lv_icmp_ne (tgt := 32) S.1 S.2.1 dX1_leftOneOf_25 (by decide) (fun b5 => ?_) (fun b5 => ?_)
    · have hF := (if_neg b5).symm.trans hF
      refine lv_iload_n S.1 S.2.1 dX1_leftOneOf_32 rfl (lv_at hl 2 rfl) ?_
      cases hF
      exact z_p S hr hlk rfl dX1_leftOneOf_33
    · have hF := (if_pos b5).symm.trans hF
      refine lv_iload_n S.1 S.2.1 dX1_leftOneOf_28 rfl (lv_at hl 1 rfl) ?_
      refine lv_goto (tgt := 33) S.1 S.2.1 dX1_leftOneOf_29 (by decide) ?_
      cases hF
      exact z_p S hr hlk rfl dX1_leftOneOf_33
  · have hF := (if_pos b3).symm.trans hF
    refine lv_bipush (v := 9) S.1 S.2.1 dX1_leftOneOf_15 (by decide) ?_
    cases hF
    exact z_p S hr hlk rfl dX1_leftOneOf_17
/-! X1_claimTo -/
def X1_claimTo (kf : KF) (σ : IM) (ρ : RM) (c0 : Nat) (a1 : Int32) : Option Int32 := bd1 (X1_receivers kf σ ρ c0) fun r1 => bd (2 * r1) fun v2 => bd (v2 + 1) fun v3 => rd (σ (c0 + 1)) 4 v3 fun v4 => bd1 (X11_way v4 a1) fun r5 => rd (σ (c0 + 1)) 4 v2 fun v6 => bd1 (X11_way v6 a1) fun r7 => bd (r5 - r7) fun v8 => if v8 = 0 then (bd1 (X1_receivers kf σ ρ c0) fun r10 => rd (σ (c0 + 6)) 2 r10 fun v11 => if v11 = 0 then (some 9) else (if v11 = 1 then (some v2) else (if v11 = 2 then (some 8) else (bd1 (X1_leftOneOf kf σ ρ c0 v2 v3) fun r15 => some r15)))) else (if v8 ≤ 0 then (some v3) else (some v2))
set_option maxRecDepth 20000 in
theorem c_X1_claimTo {l : Launch} {g : GE} {A : Nat → Prop} {LP : List Nat} {kf : KF} {σ : IM} {ρ : RM} {c0 : Nat} {a1 : Int32} {out : Int32} (hPL : PL LP kf) (hc0 : Ct c0) (hF : X1_claimTo kf σ ρ c0 a1 = some out) : Met l yX1_claimTo (.code yX1_claimTo cX1_claimTo 5 (some .int) :: UL) ({ frames := 2, cells := 0, slots := 0, locals := 42 }) (va_Pc [.ref (g.2.2 c0), .int a1] (PreM lyC 48 g A (va_pl LP (skE kf)) σ ρ)) (Qp (some (.int out))) 0 0 NoA := by
  refine e_of (by decide) (Nat.le_of_ble_eq_true rfl) ?_
  intro p e s m below meth c ls S hr hlk hv hl
  have hM := Mem.of hv
  have hK := hv.2.1
  have hl : lv_has ls 5 [(0, .ref (g.2.2 c0)), (1, .int a1)] := hl
  unfold X1_claimTo at hF
  refine lv_iconst (v := 2) S.1 S.2.1 dX1_claimTo_0 (by decide) ?_
  refine lv_aload_n S.1 S.2.1 dX1_claimTo_1 rfl (lv_at hl 0 rfl) ?_
  obtain ⟨r1, er1, hF⟩ := bd1_some hF
  refine k_p (va_runV (As := []) (rest := [.int 2]) S (c_X1_receivers hPL hc0 er1) (cwV 0 S.2.2.2.2 (ul_V tw_2_131 tw_2_132 tw_2_133 tw_1_2 cw_X1_receivers) rfl rfl rfl hv_X1_receivers ⟨Nat.le_of_ble_eq_true rfl, Nat.le_of_ble_eq_true rfl⟩) ⟨PreM.blind, hM.recv hK cfX1 c0 (ct_lt0 hc0) (ly_ct hc0), hM.pre hK⟩ rfl rfl hl.1 rfl (lv_room (Nat.le_of_ble_eq_true rfl)) dX1_claimTo_2 ⟨Nat.zero_le _, Nat.zero_le _⟩) ?_
  refine lv_imul S.1 S.2.1 dX1_claimTo_5 ?_
  refine lv_topi (fun v2 ev2 => ?_)
  have hF := bd_at ev2 hF
  refine lv_istore_n (lv' := [(2, .int v2), (0, .ref (g.2.2 c0)), (1, .int a1)]) S.1 S.2.1 dX1_claimTo_6 rfl hl (by decide) rfl (fun ls hl => ?_)
  refine lv_iload_n S.1 S.2.1 dX1_claimTo_7 rfl (lv_at hl 0 rfl) ?_
  refine lv_iconst (v := 1) S.1 S.2.1 dX1_claimTo_8 (by decide) ?_
  refine lv_iadd S.1 S.2.1 dX1_claimTo_9 ?_
  refine lv_topi (fun v3 ev3 => ?_)
  have hF := bd_at ev3 hF
  refine lv_istore_n (lv' := [(3, .int v3), (2, .int v2), (0, .ref (g.2.2 c0)), (1, .int a1)]) S.1 S.2.1 dX1_claimTo_10 rfl hl (by decide) rfl (fun ls hl => ?_)
  refine lv_aload_n S.1 S.2.1 dX1_claimTo_11 rfl (lv_at hl 2 rfl) ?_
  refine r_getC S hK hM cfX1 c0 0 (c0 + 1) (ct_lt0 hc0) (ly_ct hc0) rfl (by decide) tw_1_39 dX1_claimTo_12 ?_
  refine lv_iload_n S.1 S.2.1 dX1_claimTo_15 rfl (lv_at hl 0 rfl) ?_
  obtain ⟨hv4, v4, ev4, hF⟩ := rd_some hF
  refine r_iald S hK hM (c0 + 1) (ct_lt hc0 1 (by decide)) (ly_c1 hc0) hv4 ev4 dX1_claimTo_16 ?_
  refine lv_iload_n S.1 S.2.1 dX1_claimTo_17 rfl (lv_at hl 3 rfl) ?_
  obtain ⟨r5, er5, hF⟩ := bd1_some hF
  refine k_p (va_runSN (As := [.int v4, .int a1]) (rest := []) S (c_X11_way hPL  er5) ⟨va_cnB 2 S.2.2.2.2 (ul_G (ul_c cw_X11_way)) rfl rfl rfl (hK.2.1 _ (List.mem_of_getElem? (i := 3) rfl)) (S.2.2.2.2 _ tw_1_1) hs_X11_way ⟨Nat.le_of_ble_eq_true rfl, Nat.le_of_ble_eq_true rfl⟩, S.2.2.2.2 _ tw_2_136, trivial⟩ ⟨PreM.blind, hM.pre hK⟩ rfl rfl hl.1 rfl (lv_room (Nat.le_of_ble_eq_true rfl)) dX1_claimTo_18 ⟨Nat.zero_le _, Nat.zero_le _⟩) ?_
  refine lv_aload_n S.1 S.2.1 dX1_claimTo_21 rfl (lv_at hl 2 rfl) ?_
  refine r_getC S hK hM cfX1 c0 0 (c0 + 1) (ct_lt0 hc0) (ly_ct hc0) rfl (by decide) tw_1_39 dX1_claimTo_22 ?_
  refine lv_iload_n S.1 S.2.1 dX1_claimTo_25 rfl (lv_at hl 1 rfl) ?_
  obtain ⟨hv6, v6, ev6, hF⟩ := rd_some hF
  refine r_iald S hK hM (c0 + 1) (ct_lt hc0 1 (by decide)) (ly_c1 hc0) hv6 ev6 dX1_claimTo_26 ?_
  refine lv_iload_n S.1 S.2.1 dX1_claimTo_27 rfl (lv_at hl 3 rfl) ?_
  obtain ⟨r7, er7, hF⟩ := bd1_some hF
  refine k_p (va_runSN (As := [.int v6, .int a1]) (rest := [.int r5]) S (c_X11_way hPL  er7) ⟨va_cnB 2 S.2.2.2.2 (ul_G (ul_c cw_X11_way)) rfl rfl rfl (hK.2.1 _ (List.mem_of_getElem? (i := 3) rfl)) (S.2.2.2.2 _ tw_1_1) hs_X11_way ⟨Nat.le_of_ble_eq_true rfl, Nat.le_of_ble_eq_true rfl⟩, S.2.2.2.2 _ tw_2_136, trivial⟩ ⟨PreM.blind, hM.pre hK⟩ rfl rfl hl.1 rfl (lv_room (Nat.le_of_ble_eq_true rfl)) dX1_claimTo_28 ⟨Nat.zero_le _, Nat.zero_le _⟩) ?_
  refine lv_isub S.1 S.2.1 dX1_claimTo_31 ?_
  refine lv_topi (fun v8 ev8 => ?_)
  have hF := bd_at ev8 hF
  refine lv_istore (lv' := [(4, .int v8), (3, .int v3), (2, .int v2), (0, .ref (g.2.2 c0)), (1, .int a1)]) S.1 S.2.1 dX1_claimTo_32 hl (by decide) rfl (fun ls hl => ?_)
  refine lv_iload S.1 S.2.1 dX1_claimTo_34 (lv_at hl 0 rfl) ?_
  refine lv_if_eq (tgt := 50) S.1 S.2.1 dX1_claimTo_36 (by decide) (fun b9 => ?_) (fun b9 => ?_)
  · have hF := (if_pos b9).symm.trans hF
    refine lv_aload_n S.1 S.2.1 dX1_claimTo_50 rfl (lv_at hl 3 rfl) ?_
    refine r_getC S hK hM cfX1 c0 5 (c0 + 6) (ct_lt0 hc0) (ly_ct hc0) rfl (by decide) tw_1_49 dX1_claimTo_51 ?_
    refine lv_aload_n S.1 S.2.1 dX1_claimTo_54 rfl (lv_at hl 3 rfl) ?_
    obtain ⟨r10, er10, hF⟩ := bd1_some hF
    refine k_p (va_runV (As := []) (rest := [.ref (g.2.2 (c0 + 6))]) S (c_X1_receivers hPL hc0 er10) (cwV 0 S.2.2.2.2 (ul_V tw_2_131 tw_2_132 tw_2_133 tw_1_2 cw_X1_receivers) rfl rfl rfl hv_X1_receivers ⟨Nat.le_of_ble_eq_true rfl, Nat.le_of_ble_eq_true rfl⟩) ⟨PreM.blind, hM.recv hK cfX1 c0 (ct_lt0 hc0) (ly_ct hc0), hM.pre hK⟩ rfl rfl hl.1 rfl (lv_room (Nat.le_of_ble_eq_true rfl)) dX1_claimTo_55 ⟨Nat.zero_le _, Nat.zero_le _⟩) ?_
    obtain ⟨hv11, v11, ev11, hF⟩ := rd_some hF
    refine r_iald S hK hM (c0 + 6) (ct_lt hc0 6 (by decide)) (ly_c6 hc0) hv11 ev11 dX1_claimTo_58 ?_
    by_cases b12 : v11 = 0
    · have hF := (if_pos b12).symm.trans hF
      refine r_tab (off := 25) (tgt := 84) S dX1_claimTo_59 b12 (by decide) (by decide) ?_
      refine lv_bipush (v := 9) S.1 S.2.1 dX1_claimTo_84 (by decide) ?_
      cases hF
      exact z_p S hr hlk rfl dX1_claimTo_86
    · have hF := (if_neg b12).symm.trans hF
      by_cases b13 : v11 = 1
      · have hF := (if_pos b13).symm.trans hF
        refine r_tab (off := 28) (tgt := 87) S dX1_claimTo_59 b13 (by decide) (by decide) ?_
        refine lv_iload_n S.1 S.2.1 dX1_claimTo_87 rfl (lv_at hl 2 rfl) ?_
        cases hF
        exact z_p S hr hlk rfl dX1_claimTo_88
      · have hF := (if_neg b13).symm.trans hF
        by_cases b14 : v11 = 2
        · have hF := (if_pos b14).symm.trans hF
          refine r_tab (off := 30) (tgt := 89) S dX1_claimTo_59 b14 (by decide) (by decide) ?_
          refine lv_bipush (v := 8) S.1 S.2.1 dX1_claimTo_89 (by decide) ?_
          cases hF
          exact z_p S hr hlk rfl dX1_claimTo_91
        · have hF := (if_neg b14).symm.trans hF
          refine r_tabD (tgt := 92) S dX1_claimTo_59 (by have n0 := ne_toInt b12 (k := 0) (by decide); have n1 := ne_toInt b13 (k := 1) (by decide); have n2 := ne_toInt b14 (k := 2) (by decide); omega) (by decide) ?_
          refine lv_aload_n S.1 S.2.1 dX1_claimTo_92 rfl (lv_at hl 3 rfl) ?_
          refine lv_iload_n S.1 S.2.1 dX1_claimTo_93 rfl (lv_at hl 2 rfl) ?_
          refine lv_iload_n S.1 S.2.1 dX1_claimTo_94 rfl (lv_at hl 1 rfl) ?_
          obtain ⟨r15, er15, hF⟩ := bd1_some hF
          refine k_p (va_runV (As := [.int v2, .int v3]) (rest := []) S (c_X1_leftOneOf hPL hc0 er15) (cwV 2 S.2.2.2.2 (ul_V tw_2_141 tw_2_142 tw_2_143 tw_1_2 cw_X1_leftOneOf) rfl rfl rfl hv_X1_leftOneOf ⟨Nat.le_of_ble_eq_true rfl, Nat.le_of_ble_eq_true rfl⟩) ⟨PreM.blind, hM.recv hK cfX1 c0 (ct_lt0 hc0) (ly_ct hc0), hM.pre hK⟩ rfl rfl hl.1 rfl (lv_room (Nat.le_of_ble_eq_true rfl)) dX1_claimTo_95 ⟨Nat.zero_le _, Nat.zero_le _⟩) ?_
          cases hF
          exact z_p S hr hlk rfl dX1_claimTo_98
  · have hF := (if_neg b9).symm.trans hF
    refine lv_iload S.1 S.2.1 dX1_claimTo_39 (lv_at hl 0 rfl) ?_
    refine lv_if_le (tgt := 48) S.1 S.2.1 dX1_claimTo_41 (by decide) (fun b16 => ?_) (fun b16 => ?_)
    · have hF := (if_pos b16).symm.trans hF
      refine lv_iload_n S.1 S.2.1 dX1_claimTo_48 rfl (lv_at hl 1 rfl) ?_
      cases hF
      exact z_p S hr hlk rfl dX1_claimTo_49
    · have hF := (if_neg b16).symm.trans hF
      refine lv_iload_n S.1 S.2.1 dX1_claimTo_44 rfl (lv_at hl 2 rfl) ?_
      refine lv_goto (tgt := 49) S.1 S.2.1 dX1_claimTo_45 (by decide) ?_
      cases hF
      exact z_p S hr hlk rfl dX1_claimTo_49
/-! X1_takerBy -/
def X1_takerBy (kf : KF) (σ : IM) (ρ : RM) (c0 : Nat) (a1 : Int32) : Option Int32 := if a1 = 8 then (bd1 (X1_receivers kf σ ρ c0) fun r2 => some (2 * r2)) else (some a1)
set_option maxRecDepth 20000 in
theorem c_X1_takerBy {l : Launch} {g : GE} {A : Nat → Prop} {LP : List Nat} {kf : KF} {σ : IM} {ρ : RM} {c0 : Nat} {a1 : Int32} {out : Int32} (hPL : PL LP kf) (hc0 : Ct c0) (hF : X1_takerBy kf σ ρ c0 a1 = some out) : Met l yX1_takerBy (.code yX1_takerBy cX1_takerBy 2 (some .int) :: UL) ({ frames := 1, cells := 0, slots := 0, locals := 20 }) (va_Pc [.ref (g.2.2 c0), .int a1] (PreM lyC 48 g A (va_pl LP (skE kf)) σ ρ)) (Qp (some (.int out))) 0 0 NoA := by
  refine e_of (by decide) (Nat.le_of_ble_eq_true rfl) ?_
  intro p e s m below meth c ls S hr hlk hv hl
  have hM := Mem.of hv
  have hK := hv.2.1
  have hl : lv_has ls 2 [(0, .ref (g.2.2 c0)), (1, .int a1)] := hl
  unfold X1_takerBy at hF
  refine lv_iload_n S.1 S.2.1 dX1_takerBy_0 rfl (lv_at hl 1 rfl) ?_
  refine lv_bipush (v := 8) S.1 S.2.1 dX1_takerBy_1 (by decide) ?_
  refine lv_icmp_ne (tgt := 15) S.1 S.2.1 dX1_takerBy_3 (by decide) (fun b1 => ?_) (fun b1 => ?_)
  · have hF := (if_neg b1).symm.trans hF
    refine lv_iload_n S.1 S.2.1 dX1_takerBy_15 rfl (lv_at hl 1 rfl) ?_
    cases hF
    exact z_p S hr hlk rfl dX1_takerBy_16
  · have hF := (if_pos b1).symm.trans hF
    refine lv_iconst (v := 2) S.1 S.2.1 dX1_takerBy_6 (by decide) ?_
    refine lv_aload_n S.1 S.2.1 dX1_takerBy_7 rfl (lv_at hl 0 rfl) ?_
    obtain ⟨r2, er2, hF⟩ := bd1_some hF
    refine k_p (va_runV (As := []) (rest := [.int 2]) S (c_X1_receivers hPL hc0 er2) (cwV 0 S.2.2.2.2 (ul_V tw_2_131 tw_2_132 tw_2_133 tw_1_2 cw_X1_receivers) rfl rfl rfl hv_X1_receivers ⟨Nat.le_of_ble_eq_true rfl, Nat.le_of_ble_eq_true rfl⟩) ⟨PreM.blind, hM.recv hK cfX1 c0 (ct_lt0 hc0) (ly_ct hc0), hM.pre hK⟩ rfl rfl hl.1 rfl (lv_room (Nat.le_of_ble_eq_true rfl)) dX1_takerBy_8 ⟨Nat.zero_le _, Nat.zero_le _⟩) ?_
    refine lv_imul S.1 S.2.1 dX1_takerBy_11 ?_
    refine lv_goto (tgt := 16) S.1 S.2.1 dX1_takerBy_12 (by decide) ?_
    cases hF
    exact z_p S hr hlk rfl dX1_takerBy_16
/-! X1_takerOf -/
def X1_takerOf (kf : KF) (σ : IM) (ρ : RM) (c0 : Nat) (a1 : Int32) : Option Int32 := bd1 (X1_claimTo kf σ ρ c0 a1) fun r1 => bd1 (X1_takerBy kf σ ρ c0 r1) fun r2 => some r2
set_option maxRecDepth 20000 in
theorem c_X1_takerOf {l : Launch} {g : GE} {A : Nat → Prop} {LP : List Nat} {kf : KF} {σ : IM} {ρ : RM} {c0 : Nat} {a1 : Int32} {out : Int32} (hPL : PL LP kf) (hc0 : Ct c0) (hF : X1_takerOf kf σ ρ c0 a1 = some out) : Met l yX1_takerOf (.code yX1_takerOf cX1_takerOf 2 (some .int) :: UL) ({ frames := 3, cells := 0, slots := 0, locals := 66 }) (va_Pc [.ref (g.2.2 c0), .int a1] (PreM lyC 48 g A (va_pl LP (skE kf)) σ ρ)) (Qp (some (.int out))) 0 0 NoA := by
  refine e_of (by decide) (Nat.le_of_ble_eq_true rfl) ?_
  intro p e s m below meth c ls S hr hlk hv hl
  have hM := Mem.of hv
  have hK := hv.2.1
  have hl : lv_has ls 2 [(0, .ref (g.2.2 c0)), (1, .int a1)] := hl
  unfold X1_takerOf at hF
  refine lv_aload_n S.1 S.2.1 dX1_takerOf_0 rfl (lv_at hl 0 rfl) ?_
  refine lv_aload_n S.1 S.2.1 dX1_takerOf_1 rfl (lv_at hl 0 rfl) ?_
  refine lv_iload_n S.1 S.2.1 dX1_takerOf_2 rfl (lv_at hl 1 rfl) ?_
  obtain ⟨r1, er1, hF⟩ := bd1_some hF
  refine k_p (va_runV (As := [.int a1]) (rest := [.ref (g.2.2 c0)]) S (c_X1_claimTo hPL hc0 er1) (cwV 1 S.2.2.2.2 (ul_V tw_2_127 tw_2_128 tw_2_129 tw_1_2 cw_X1_claimTo) rfl rfl rfl hv_X1_claimTo ⟨Nat.le_of_ble_eq_true rfl, Nat.le_of_ble_eq_true rfl⟩) ⟨PreM.blind, hM.recv hK cfX1 c0 (ct_lt0 hc0) (ly_ct hc0), hM.pre hK⟩ rfl rfl hl.1 rfl (lv_room (Nat.le_of_ble_eq_true rfl)) dX1_takerOf_3 ⟨Nat.zero_le _, Nat.zero_le _⟩) ?_
  obtain ⟨r2, er2, hF⟩ := bd1_some hF
  refine k_p (va_runV (As := [.int r1]) (rest := []) S (c_X1_takerBy hPL hc0 er2) (cwV 1 S.2.2.2.2 (ul_V tw_2_149 tw_2_150 tw_2_151 tw_1_2 cw_X1_takerBy) rfl rfl rfl hv_X1_takerBy ⟨Nat.le_of_ble_eq_true rfl, Nat.le_of_ble_eq_true rfl⟩) ⟨PreM.blind, hM.recv hK cfX1 c0 (ct_lt0 hc0) (ly_ct hc0), hM.pre hK⟩ rfl rfl hl.1 rfl (lv_room (Nat.le_of_ble_eq_true rfl)) dX1_takerOf_6 ⟨Nat.zero_le _, Nat.zero_le _⟩) ?_
  cases hF
  exact z_p S hr hlk rfl dX1_takerOf_9
/-! X1_wayLed -/
def X1_wayLed (kf : KF) (σ : IM) (ρ : RM) (c0 : Nat) (a1 : Int32) : Option Int32 := bd1 (X1_takerOf kf σ ρ c0 a1) fun r1 => if r1 = 9 then (some 99) else (rd (σ (c0 + 1)) 4 r1 fun v3 => bd1 (X11_way v3 a1) fun r4 => some r4)
set_option maxRecDepth 20000 in
theorem c_X1_wayLed {l : Launch} {g : GE} {A : Nat → Prop} {LP : List Nat} {kf : KF} {σ : IM} {ρ : RM} {c0 : Nat} {a1 : Int32} {out : Int32} (hPL : PL LP kf) (hc0 : Ct c0) (hF : X1_wayLed kf σ ρ c0 a1 = some out) : Met l yX1_wayLed (.code yX1_wayLed cX1_wayLed 3 (some .int) :: UL) ({ frames := 4, cells := 0, slots := 0, locals := 87 }) (va_Pc [.ref (g.2.2 c0), .int a1] (PreM lyC 48 g A (va_pl LP (skE kf)) σ ρ)) (Qp (some (.int out))) 0 0 NoA := by
  refine e_of (by decide) (Nat.le_of_ble_eq_true rfl) ?_
  intro p e s m below meth c ls S hr hlk hv hl
  have hM := Mem.of hv
  have hK := hv.2.1
  have hl : lv_has ls 3 [(0, .ref (g.2.2 c0)), (1, .int a1)] := hl
  unfold X1_wayLed at hF
  refine lv_aload_n S.1 S.2.1 dX1_wayLed_0 rfl (lv_at hl 0 rfl) ?_
  refine lv_iload_n S.1 S.2.1 dX1_wayLed_1 rfl (lv_at hl 1 rfl) ?_
  obtain ⟨r1, er1, hF⟩ := bd1_some hF
  refine k_p (va_runV (As := [.int a1]) (rest := []) S (c_X1_takerOf hPL hc0 er1) (cwV 1 S.2.2.2.2 (ul_V tw_3_97 tw_3_60 tw_3_61 tw_1_2 cw_X1_takerOf) rfl rfl rfl hv_X1_takerOf ⟨Nat.le_of_ble_eq_true rfl, Nat.le_of_ble_eq_true rfl⟩) ⟨PreM.blind, hM.recv hK cfX1 c0 (ct_lt0 hc0) (ly_ct hc0), hM.pre hK⟩ rfl rfl hl.1 rfl (lv_room (Nat.le_of_ble_eq_true rfl)) dX1_wayLed_2 ⟨Nat.zero_le _, Nat.zero_le _⟩) ?_
  refine lv_istore_n (lv' := [(2, .int r1), (0, .ref (g.2.2 c0)), (1, .int a1)]) S.1 S.2.1 dX1_wayLed_5 rfl hl (by decide) rfl (fun ls hl => ?_)
  refine lv_iload_n S.1 S.2.1 dX1_wayLed_6 rfl (lv_at hl 0 rfl) ?_
  refine lv_bipush (v := 9) S.1 S.2.1 dX1_wayLed_7 (by decide) ?_
  refine lv_icmp_ne (tgt := 17) S.1 S.2.1 dX1_wayLed_9 (by decide) (fun b2 => ?_) (fun b2 => ?_)
  · have hF := (if_neg b2).symm.trans hF
    refine lv_aload_n S.1 S.2.1 dX1_wayLed_17 rfl (lv_at hl 1 rfl) ?_
    refine r_getC S hK hM cfX1 c0 0 (c0 + 1) (ct_lt0 hc0) (ly_ct hc0) rfl (by decide) tw_1_39 dX1_wayLed_18 ?_
    refine lv_iload_n S.1 S.2.1 dX1_wayLed_21 rfl (lv_at hl 0 rfl) ?_
    obtain ⟨hv3, v3, ev3, hF⟩ := rd_some hF
    refine r_iald S hK hM (c0 + 1) (ct_lt hc0 1 (by decide)) (ly_c1 hc0) hv3 ev3 dX1_wayLed_22 ?_
    refine lv_iload_n S.1 S.2.1 dX1_wayLed_23 rfl (lv_at hl 2 rfl) ?_
    obtain ⟨r4, er4, hF⟩ := bd1_some hF
    refine k_p (va_runSN (As := [.int v3, .int a1]) (rest := []) S (c_X11_way hPL  er4) ⟨va_cnB 2 S.2.2.2.2 (ul_G (ul_c cw_X11_way)) rfl rfl rfl (hK.2.1 _ (List.mem_of_getElem? (i := 3) rfl)) (S.2.2.2.2 _ tw_1_1) hs_X11_way ⟨Nat.le_of_ble_eq_true rfl, Nat.le_of_ble_eq_true rfl⟩, S.2.2.2.2 _ tw_2_136, trivial⟩ ⟨PreM.blind, hM.pre hK⟩ rfl rfl hl.1 rfl (lv_room (Nat.le_of_ble_eq_true rfl)) dX1_wayLed_24 ⟨Nat.zero_le _, Nat.zero_le _⟩) ?_
    cases hF
    exact z_p S hr hlk rfl dX1_wayLed_27
  · have hF := (if_pos b2).symm.trans hF
    refine lv_bipush (v := 99) S.1 S.2.1 dX1_wayLed_12 (by decide) ?_
    refine lv_goto (tgt := 27) S.1 S.2.1 dX1_wayLed_14 (by decide) ?_
    cases hF
    exact z_p S hr hlk rfl dX1_wayLed_27
/-! X1_isMissed -/
def X1_isMissed_b45 (kf : KF) (σ : IM) (ρ : RM) (c0 : Nat) (x2 : Int32) (x3 : Int32) (x4 : Int32) (t0 : Int32) : Option Int32 := rd (σ (c0 + 1)) 4 x4 fun v7 => bd1 (X11_way v7 x2) fun r8 => bd1 (X1_stepsIn kf σ ρ c0 x3 x4 t0) fun r9 => if r8 ≤ r9 then (some 0) else (some 1)
set_option maxRecDepth 20000 in
theorem w_X1_isMissed_45 {l : Launch} {g : GE} {A : Nat → Prop} {LP : List Nat} {kf : KF} {σ : IM} {ρ : RM} {c0 : Nat} (hPL : PL LP kf) (hc0 : Ct c0) {p : Program} {e : Env} {s : State} {m : MethodId} {args : Array Value} {below : List Frame} {meth : Method} {c : Code} (S : CallFix p m c cX1_isMissed 6 s args UL RX1) (hK : KK g s) (hr : meth.sig.returnType = (some .boolean)) (hlk : meth.locks = false) (hM : Mem lyC 48 g A (va_pl LP (skE kf)) σ ρ s.heap s.heap []) {out : Int32} : ∀ {x2 : Int32} {x3 : Int32} {x4 : Int32} {t0 : Int32} {ls : Array Slot}, lv_has ls 6 [(0, .ref (g.2.2 c0)), (2, .int x2), (3, .int x3), (4, .int x4)] → X1_isMissed_b45 kf σ ρ c0 x2 x3 x4 t0 = some out → W p l e ({ frames := 2, cells := 0, slots := 0, locals := 44 }) s m args below meth c s.heap [] 0 0 (MQ below (Qp (some (.int out))) args s 0 0 NoA) (F0 m 45 ls [.int t0]) := by
  intro x2 x3 x4 t0 ls hl hF
  unfold X1_isMissed_b45 at hF
  refine lv_istore (lv' := [(5, .int t0), (0, .ref (g.2.2 c0)), (2, .int x2), (3, .int x3), (4, .int x4)]) S.1 S.2.1 dX1_isMissed_45 hl (by decide) rfl (fun ls hl => ?_)
  refine lv_aload_n S.1 S.2.1 dX1_isMissed_47 rfl (lv_at hl 1 rfl) ?_
  refine r_getC S hK hM cfX1 c0 0 (c0 + 1) (ct_lt0 hc0) (ly_ct hc0) rfl (by decide) tw_1_39 dX1_isMissed_48 ?_
  refine lv_iload S.1 S.2.1 dX1_isMissed_51 (lv_at hl 4 rfl) ?_
  obtain ⟨hv7, v7, ev7, hF⟩ := rd_some hF
  refine r_iald S hK hM (c0 + 1) (ct_lt hc0 1 (by decide)) (ly_c1 hc0) hv7 ev7 dX1_isMissed_53 ?_
  refine lv_iload_n S.1 S.2.1 dX1_isMissed_54 rfl (lv_at hl 2 rfl) ?_
  obtain ⟨r8, er8, hF⟩ := bd1_some hF
  refine k_p (va_runSN (As := [.int v7, .int x2]) (rest := []) S (c_X11_way hPL  er8) ⟨va_cnB 2 S.2.2.2.2 (ul_G (ul_c cw_X11_way)) rfl rfl rfl (hK.2.1 _ (List.mem_of_getElem? (i := 3) rfl)) (S.2.2.2.2 _ tw_1_1) hs_X11_way ⟨Nat.le_of_ble_eq_true rfl, Nat.le_of_ble_eq_true rfl⟩, S.2.2.2.2 _ tw_2_136, trivial⟩ ⟨PreM.blind, hM.pre hK⟩ rfl rfl hl.1 rfl (lv_room (Nat.le_of_ble_eq_true rfl)) dX1_isMissed_55 ⟨Nat.zero_le _, Nat.zero_le _⟩) ?_
  refine lv_aload_n S.1 S.2.1 dX1_isMissed_58 rfl (lv_at hl 1 rfl) ?_
  refine lv_iload_n S.1 S.2.1 dX1_isMissed_59 rfl (lv_at hl 3 rfl) ?_
  refine lv_iload S.1 S.2.1 dX1_isMissed_60 (lv_at hl 4 rfl) ?_
  refine lv_iload S.1 S.2.1 dX1_isMissed_62 (lv_at hl 0 rfl) ?_
  obtain ⟨r9, er9, hF⟩ := bd1_some hF
  refine k_p (va_runV (As := [.int x3, .int x4, .int t0]) (rest := [.int r8]) S (c_X1_stepsIn hPL hc0 er9) (cwV 3 S.2.2.2.2 (ul_V tw_2_154 tw_2_155 tw_2_156 tw_1_2 cw_X1_stepsIn) rfl rfl rfl hv_X1_stepsIn ⟨Nat.le_of_ble_eq_true rfl, Nat.le_of_ble_eq_true rfl⟩) ⟨PreM.blind, hM.recv hK cfX1 c0 (ct_lt0 hc0) (ly_ct hc0), hM.pre hK⟩ rfl rfl hl.1 rfl (lv_room (Nat.le_of_ble_eq_true rfl)) dX1_isMissed_64 ⟨Nat.zero_le _, Nat.zero_le _⟩) ?_
  refine lv_icmp_le (tgt := 74) S.1 S.2.1 dX1_isMissed_67 (by decide) (fun b10 => ?_) (fun b10 => ?_)
  · have hF := (if_pos b10).symm.trans hF
    refine lv_iconst (v := 0) S.1 S.2.1 dX1_isMissed_74 (by decide) ?_
    cases hF
    exact z_p S hr hlk rfl dX1_isMissed_75
  · have hF := (if_neg b10).symm.trans hF
    refine lv_iconst (v := 1) S.1 S.2.1 dX1_isMissed_70 (by decide) ?_
    refine lv_goto (tgt := 75) S.1 S.2.1 dX1_isMissed_71 (by decide) ?_
    cases hF
    exact z_p S hr hlk rfl dX1_isMissed_75
def X1_isMissed (kf : KF) (σ : IM) (ρ : RM) (c0 : Nat) (a1 : Int32) (a2 : Int32) (a3 : Int32) : Option Int32 := if a1 = 9 then (some 1) else (bd1 (X1_takerBy kf σ ρ c0 a1) fun r2 => if a1 = 8 then (rd (σ (c0 + 3)) 4 r2 fun v5 => bd (if v5 + 3 < 99 then v5 + 3 else 99) fun v6 => X1_isMissed_b45 kf σ ρ c0 a2 a3 r2 v6) else (rd (σ (c0 + 3)) 4 r2 fun v4 => X1_isMissed_b45 kf σ ρ c0 a2 a3 r2 v4))
set_option maxRecDepth 20000 in
theorem c_X1_isMissed {l : Launch} {g : GE} {A : Nat → Prop} {LP : List Nat} {kf : KF} {σ : IM} {ρ : RM} {c0 : Nat} {a1 : Int32} {a2 : Int32} {a3 : Int32} {out : Int32} (hPL : PL LP kf) (hc0 : Ct c0) (hF : X1_isMissed kf σ ρ c0 a1 a2 a3 = some out) : Met l yX1_isMissed (.code yX1_isMissed cX1_isMissed 6 (some .boolean) :: UL) ({ frames := 2, cells := 0, slots := 0, locals := 44 }) (va_Pc [.ref (g.2.2 c0), .int a1, .int a2, .int a3] (PreM lyC 48 g A (va_pl LP (skE kf)) σ ρ)) (Qp (some (.int out))) 0 0 NoA := by
  refine e_of (by decide) (Nat.le_of_ble_eq_true rfl) ?_
  intro p e s m below meth c ls S hr hlk hv hl
  have hM := Mem.of hv
  have hK := hv.2.1
  have hl : lv_has ls 6 [(0, .ref (g.2.2 c0)), (1, .int a1), (2, .int a2), (3, .int a3)] := hl
  unfold X1_isMissed at hF
  refine lv_iload_n S.1 S.2.1 dX1_isMissed_0 rfl (lv_at hl 1 rfl) ?_
  refine lv_bipush (v := 9) S.1 S.2.1 dX1_isMissed_1 (by decide) ?_
  refine lv_icmp_ne (tgt := 8) S.1 S.2.1 dX1_isMissed_3 (by decide) (fun b1 => ?_) (fun b1 => ?_)
  · have hF := (if_neg b1).symm.trans hF
    refine lv_aload_n S.1 S.2.1 dX1_isMissed_8 rfl (lv_at hl 0 rfl) ?_
    refine lv_iload_n S.1 S.2.1 dX1_isMissed_9 rfl (lv_at hl 1 rfl) ?_
    obtain ⟨r2, er2, hF⟩ := bd1_some hF
    refine k_p (va_runV (As := [.int a1]) (rest := []) S (c_X1_takerBy hPL hc0 er2) (cwV 1 S.2.2.2.2 (ul_V tw_2_149 tw_2_150 tw_2_151 tw_1_2 cw_X1_takerBy) rfl rfl rfl hv_X1_takerBy ⟨Nat.le_of_ble_eq_true rfl, Nat.le_of_ble_eq_true rfl⟩) ⟨PreM.blind, hM.recv hK cfX1 c0 (ct_lt0 hc0) (ly_ct hc0), hM.pre hK⟩ rfl rfl hl.1 rfl (lv_room (Nat.le_of_ble_eq_true rfl)) dX1_isMissed_10 ⟨Nat.zero_le _, Nat.zero_le _⟩) ?_
    refine lv_istore (lv' := [(4, .int r2), (0, .ref (g.2.2 c0)), (1, .int a1), (2, .int a2), (3, .int a3)]) S.1 S.2.1 dX1_isMissed_13 hl (by decide) rfl (fun ls hl => ?_)
    refine lv_iload_n S.1 S.2.1 dX1_isMissed_15 rfl (lv_at hl 2 rfl) ?_
    refine lv_bipush (v := 8) S.1 S.2.1 dX1_isMissed_16 (by decide) ?_
    refine lv_icmp_ne (tgt := 38) S.1 S.2.1 dX1_isMissed_18 (by decide) (fun b3 => ?_) (fun b3 => ?_)
    · have hF := (if_neg b3).symm.trans hF
      refine lv_aload_n S.1 S.2.1 dX1_isMissed_38 rfl (lv_at hl 1 rfl) ?_
      refine r_getC S hK hM cfX1 c0 2 (c0 + 3) (ct_lt0 hc0) (ly_ct hc0) rfl (by decide) tw_1_43 dX1_isMissed_39 ?_
      refine lv_iload S.1 S.2.1 dX1_isMissed_42 (lv_at hl 0 rfl) ?_
      obtain ⟨hv4, v4, ev4, hF⟩ := rd_some hF
      refine r_iald S hK hM (c0 + 3) (ct_lt hc0 3 (by decide)) (ly_c3 hc0) hv4 ev4 dX1_isMissed_44 ?_
      exact w_X1_isMissed_45 hPL hc0 S hK hr hlk hM (lv_sub hl [1, 3, 4, 0] rfl) hF
    · have hF := (if_pos b3).symm.trans hF
      refine lv_bipush (v := 99) S.1 S.2.1 dX1_isMissed_21 (by decide) ?_
      refine lv_aload_n S.1 S.2.1 dX1_isMissed_23 rfl (lv_at hl 1 rfl) ?_
      refine r_getC S hK hM cfX1 c0 2 (c0 + 3) (ct_lt0 hc0) (ly_ct hc0) rfl (by decide) tw_1_43 dX1_isMissed_24 ?_
      refine lv_iload S.1 S.2.1 dX1_isMissed_27 (lv_at hl 0 rfl) ?_
      obtain ⟨hv5, v5, ev5, hF⟩ := rd_some hF
      refine r_iald S hK hM (c0 + 3) (ct_lt hc0 3 (by decide)) (ly_c3 hc0) hv5 ev5 dX1_isMissed_29 ?_
      refine lv_iconst (v := 3) S.1 S.2.1 dX1_isMissed_30 (by decide) ?_
      refine lv_iadd S.1 S.2.1 dX1_isMissed_31 ?_
      refine va_mmin S.1 S.2.1 (S.2.2.1.trans hl.1.symm) S.2.2.2.1 (S.2.2.2.2 _ tw_2_153) (S.2.2.2.2 _ tw_2_92) (S.2.2.2.2 _ tw_1_15) (S.2.2.2.2 _ tw_2_93) (Nat.le_of_ble_eq_true rfl) (Nat.le_of_ble_eq_true rfl) (Nat.zero_le _) (Nat.zero_le _) dX1_isMissed_32 ?_
      refine lv_topi (fun v6 ev6 => ?_)
      have hF := bd_at ev6 hF
      refine lv_goto (tgt := 45) S.1 S.2.1 dX1_isMissed_35 (by decide) ?_
      exact w_X1_isMissed_45 hPL hc0 S hK hr hlk hM (lv_sub hl [1, 3, 4, 0] rfl) hF
  · have hF := (if_pos b1).symm.trans hF
    refine lv_iconst (v := 1) S.1 S.2.1 dX1_isMissed_6 (by decide) ?_
    cases hF
    exact z_p S hr hlk rfl dX1_isMissed_7
/-! X1_scores -/
def X1_scores (kf : KF) (σ : IM) (ρ : RM) (c0 : Nat) (a1 : Int32) (a2 : Int32) : Option Int32 := bd1 (X1_landing kf σ ρ c0 a1 a2) fun r1 => bd1 (X1_claimTo kf σ ρ c0 r1) fun r2 => rq (ρ (c0 + 8)) 8 a1 fun q3 => bd1 (V_timeTo kf q3 r1) fun r4 => bd1 (X1_isMissed kf σ ρ c0 r2 r1 r4) fun r5 => bz r5 <| some r5
set_option maxRecDepth 20000 in
theorem c_X1_scores {l : Launch} {g : GE} {A : Nat → Prop} {LP : List Nat} {kf : KF} {σ : IM} {ρ : RM} {c0 : Nat} {a1 : Int32} {a2 : Int32} {out : Int32} (hPL : PL LP kf) (hc0 : Ct c0) (hF : X1_scores kf σ ρ c0 a1 a2 = some out) : Met l yX1_scores (.code yX1_scores cX1_scores 4 (some .boolean) :: UL) ({ frames := 3, cells := 0, slots := 0, locals := 69 }) (va_Pc [.ref (g.2.2 c0), .int a1, .int a2] (PreM lyC 48 g A (va_pl LP (skE kf)) σ ρ)) (Qp (some (.int out))) 0 0 NoA := by
  refine e_of (by decide) (Nat.le_of_ble_eq_true rfl) ?_
  intro p e s m below meth c ls S hr hlk hv hl
  have hM := Mem.of hv
  have hK := hv.2.1
  have hl : lv_has ls 4 [(0, .ref (g.2.2 c0)), (1, .int a1), (2, .int a2)] := hl
  unfold X1_scores at hF
  refine lv_aload_n S.1 S.2.1 dX1_scores_0 rfl (lv_at hl 0 rfl) ?_
  refine lv_iload_n S.1 S.2.1 dX1_scores_1 rfl (lv_at hl 1 rfl) ?_
  refine lv_iload_n S.1 S.2.1 dX1_scores_2 rfl (lv_at hl 2 rfl) ?_
  obtain ⟨r1, er1, hF⟩ := bd1_some hF
  refine k_p (va_runV (As := [.int a1, .int a2]) (rest := []) S (c_X1_landing hPL hc0 er1) (cwV 2 S.2.2.2.2 (ul_V tw_3_71 tw_3_56 tw_3_57 tw_1_2 cw_X1_landing) rfl rfl rfl hv_X1_landing ⟨Nat.le_of_ble_eq_true rfl, Nat.le_of_ble_eq_true rfl⟩) ⟨PreM.blind, hM.recv hK cfX1 c0 (ct_lt0 hc0) (ly_ct hc0), hM.pre hK⟩ rfl rfl hl.1 rfl (lv_room (Nat.le_of_ble_eq_true rfl)) dX1_scores_3 ⟨Nat.zero_le _, Nat.zero_le _⟩) ?_
  refine lv_istore_n (lv' := [(3, .int r1), (0, .ref (g.2.2 c0)), (1, .int a1), (2, .int a2)]) S.1 S.2.1 dX1_scores_6 rfl hl (by decide) rfl (fun ls hl => ?_)
  refine lv_aload_n S.1 S.2.1 dX1_scores_7 rfl (lv_at hl 1 rfl) ?_
  refine lv_aload_n S.1 S.2.1 dX1_scores_8 rfl (lv_at hl 1 rfl) ?_
  refine lv_iload_n S.1 S.2.1 dX1_scores_9 rfl (lv_at hl 0 rfl) ?_
  obtain ⟨r2, er2, hF⟩ := bd1_some hF
  refine k_p (va_runV (As := [.int r1]) (rest := [.ref (g.2.2 c0)]) S (c_X1_claimTo hPL hc0 er2) (cwV 1 S.2.2.2.2 (ul_V tw_2_127 tw_2_128 tw_2_129 tw_1_2 cw_X1_claimTo) rfl rfl rfl hv_X1_claimTo ⟨Nat.le_of_ble_eq_true rfl, Nat.le_of_ble_eq_true rfl⟩) ⟨PreM.blind, hM.recv hK cfX1 c0 (ct_lt0 hc0) (ly_ct hc0), hM.pre hK⟩ rfl rfl hl.1 rfl (lv_room (Nat.le_of_ble_eq_true rfl)) dX1_scores_10 ⟨Nat.zero_le _, Nat.zero_le _⟩) ?_
  refine lv_iload_n S.1 S.2.1 dX1_scores_13 rfl (lv_at hl 0 rfl) ?_
  refine lv_aload_n S.1 S.2.1 dX1_scores_14 rfl (lv_at hl 1 rfl) ?_
  refine r_getC S hK hM cfX1 c0 7 (c0 + 8) (ct_lt0 hc0) (ly_ct hc0) rfl (by decide) tw_1_53 dX1_scores_15 ?_
  refine lv_iload_n S.1 S.2.1 dX1_scores_18 rfl (lv_at hl 2 rfl) ?_
  obtain ⟨hq3, q3, eq3, hF⟩ := rq_some hF
  refine r_aald S hK hM (c0 + 8) (ct_lt hc0 8 (by decide)) (ly_c8 hc0) hq3 eq3 dX1_scores_19 ?_
  refine lv_iload_n S.1 S.2.1 dX1_scores_20 rfl (lv_at hl 0 rfl) ?_
  obtain ⟨r4, er4, hF⟩ := bd1_some hF
  refine k_p (rv_X1_102 (rest := [.int r1, .int r2, .ref (g.2.2 c0)]) S hK hM hPL er4 hl.1 dX1_scores_21 (Nat.le_of_ble_eq_true rfl) (Nat.le_of_ble_eq_true rfl) (lv_room (Nat.le_of_ble_eq_true rfl))) ?_
  obtain ⟨r5, er5, hF⟩ := bd1_some hF
  refine k_p (va_runV (As := [.int r2, .int r1, .int r4]) (rest := []) S (c_X1_isMissed hPL hc0 er5) (cwV 3 S.2.2.2.2 (ul_V tw_2_145 tw_2_146 tw_2_147 tw_1_2 cw_X1_isMissed) rfl rfl rfl hv_X1_isMissed ⟨Nat.le_of_ble_eq_true rfl, Nat.le_of_ble_eq_true rfl⟩) ⟨PreM.blind, hM.recv hK cfX1 c0 (ct_lt0 hc0) (ly_ct hc0), hM.pre hK⟩ rfl rfl hl.1 rfl (lv_room (Nat.le_of_ble_eq_true rfl)) dX1_scores_24 ⟨Nat.zero_le _, Nat.zero_le _⟩) ?_
  obtain ⟨h6, hF⟩ := bz_some hF
  cases hF
  exact z_p S hr hlk h6 dX1_scores_27
/-! X1_firstScoring -/
def X1_firstScoring_s12 (kf : KF) (σ : IM) (ρ : RM) (c0 : Nat) (k2 : Int32 → Option Int32) (k12 : Int32 → Int32 → Option Int32) (x1 : Int32) (x2 : Int32) : Option Int32 := if 9 ≤ x2 then (bd (x1 + 1) fun v3 => k2 v3) else (bd1 (X1_scores kf σ ρ c0 x1 x2) fun r4 => if r4 = 0 then (bd (x2 + 1) fun v6 => k12 x1 v6) else (some ((10 * x1) + x2)))
def X1_firstScoring_b12 (kf : KF) (σ : IM) (ρ : RM) (c0 : Nat) (k2 : Int32 → Option Int32) : Nat → Int32 → Int32 → Option Int32
  | 0 => fun _ _ => none
  | n + 1 => X1_firstScoring_s12 kf σ ρ c0 k2 (X1_firstScoring_b12 kf σ ρ c0 k2 n)
set_option maxRecDepth 20000 in
theorem w_X1_firstScoring_12 {l : Launch} {g : GE} {A : Nat → Prop} {LP : List Nat} {kf : KF} {σ : IM} {ρ : RM} {c0 : Nat} (hPL : PL LP kf) (hc0 : Ct c0) {p : Program} {e : Env} {s : State} {m : MethodId} {args : Array Value} {below : List Frame} {meth : Method} {c : Code} (S : CallFix p m c cX1_firstScoring 3 s args UL RX1) (hK : KK g s) (hr : meth.sig.returnType = (some .int)) (hlk : meth.locks = false) (hM : Mem lyC 48 g A (va_pl LP (skE kf)) σ ρ s.heap s.heap []) {out : Int32} {k2 : Int32 → Option Int32} (hk2 : ∀ {x1 : Int32} {ls : Array Slot}, lv_has ls 3 [(0, .ref (g.2.2 c0)), (1, .int x1)] → k2 x1 = some out → W p l e ({ frames := 4, cells := 0, slots := 0, locals := 92 }) s m args below meth c s.heap [] 0 0 (MQ below (Qp (some (.int out))) args s 0 0 NoA) (F0 m 2 ls [])) {k12 : Int32 → Int32 → Option Int32} (hk12 : ∀ {x1 : Int32} {x2 : Int32} {ls : Array Slot}, lv_has ls 3 [(0, .ref (g.2.2 c0)), (1, .int x1), (2, .int x2)] → k12 x1 x2 = some out → W p l e ({ frames := 4, cells := 0, slots := 0, locals := 92 }) s m args below meth c s.heap [] 0 0 (MQ below (Qp (some (.int out))) args s 0 0 NoA) (F0 m 12 ls [])) : ∀ {x1 : Int32} {x2 : Int32} {ls : Array Slot}, lv_has ls 3 [(0, .ref (g.2.2 c0)), (1, .int x1), (2, .int x2)] → X1_firstScoring_s12 kf σ ρ c0 k2 k12 x1 x2 = some out → W p l e ({ frames := 4, cells := 0, slots := 0, locals := 92 }) s m args below meth c s.heap [] 0 0 (MQ below (Qp (some (.int out))) args s 0 0 NoA) (F0 m 12 ls []) := by
  intro x1 x2 ls hl hF
  unfold X1_firstScoring_s12 at hF
  refine lv_iload_n S.1 S.2.1 dX1_firstScoring_12 rfl (lv_at hl 2 rfl) ?_
  refine lv_bipush (v := 9) S.1 S.2.1 dX1_firstScoring_13 (by decide) ?_
  refine lv_icmp_ge (tgt := 40) S.1 S.2.1 dX1_firstScoring_15 (by decide) (fun b2 => ?_) (fun b2 => ?_)
  · have hF := (if_pos b2).symm.trans hF
    obtain ⟨v3, ev3, hF⟩ := bd_some hF
    refine lv_iinc (v := v3) (lv' := [(1, .int v3), (0, .ref (g.2.2 c0)), (2, .int x2)]) S.1 S.2.1 dX1_firstScoring_40 hl (k := 1) rfl (by rw [ev3]; rfl) (by decide) rfl (fun ls hl => ?_)
    refine lv_goto (tgt := 2) S.1 S.2.1 dX1_firstScoring_43 (by decide) ?_
    exact hk2  (lv_sub hl [1, 0] rfl)  hF
  · have hF := (if_neg b2).symm.trans hF
    refine lv_aload_n S.1 S.2.1 dX1_firstScoring_18 rfl (lv_at hl 0 rfl) ?_
    refine lv_iload_n S.1 S.2.1 dX1_firstScoring_19 rfl (lv_at hl 1 rfl) ?_
    refine lv_iload_n S.1 S.2.1 dX1_firstScoring_20 rfl (lv_at hl 2 rfl) ?_
    obtain ⟨r4, er4, hF⟩ := bd1_some hF
    refine k_p (va_runV (As := [.int x1, .int x2]) (rest := []) S (c_X1_scores hPL hc0 er4) (cwV 2 S.2.2.2.2 (ul_V tw_3_88 tw_3_68 tw_3_69 tw_1_2 cw_X1_scores) rfl rfl rfl hv_X1_scores ⟨Nat.le_of_ble_eq_true rfl, Nat.le_of_ble_eq_true rfl⟩) ⟨PreM.blind, hM.recv hK cfX1 c0 (ct_lt0 hc0) (ly_ct hc0), hM.pre hK⟩ rfl rfl hl.1 rfl (lv_room (Nat.le_of_ble_eq_true rfl)) dX1_firstScoring_21 ⟨Nat.zero_le _, Nat.zero_le _⟩) ?_
    refine lv_if_eq (tgt := 34) S.1 S.2.1 dX1_firstScoring_24 (by decide) (fun b5 => ?_) (fun b5 => ?_)
    · have hF := (if_pos b5).symm.trans hF
      obtain ⟨v6, ev6, hF⟩ := bd_some hF
      refine lv_iinc (v := v6) (lv' := [(2, .int v6), (0, .ref (g.2.2 c0)), (1, .int x1)]) S.1 S.2.1 dX1_firstScoring_34 hl (k := 2) rfl (by rw [ev6]; rfl) (by decide) rfl (fun ls hl => ?_)
      refine lv_goto (tgt := 12) S.1 S.2.1 dX1_firstScoring_37 (by decide) ?_
      exact hk12  (lv_sub hl [1, 2, 0] rfl)  hF
    · have hF := (if_neg b5).symm.trans hF
      refine lv_bipush (v := 10) S.1 S.2.1 dX1_firstScoring_27 (by decide) ?_
      refine lv_iload_n S.1 S.2.1 dX1_firstScoring_29 rfl (lv_at hl 1 rfl) ?_
      refine lv_imul S.1 S.2.1 dX1_firstScoring_30 ?_
      refine lv_iload_n S.1 S.2.1 dX1_firstScoring_31 rfl (lv_at hl 2 rfl) ?_
      refine lv_iadd S.1 S.2.1 dX1_firstScoring_32 ?_
      cases hF
      exact z_p S hr hlk rfl dX1_firstScoring_33
theorem wl_X1_firstScoring_12 {l : Launch} {g : GE} {A : Nat → Prop} {LP : List Nat} {kf : KF} {σ : IM} {ρ : RM} {c0 : Nat} (hPL : PL LP kf) (hc0 : Ct c0) {p : Program} {e : Env} {s : State} {m : MethodId} {args : Array Value} {below : List Frame} {meth : Method} {c : Code} (S : CallFix p m c cX1_firstScoring 3 s args UL RX1) (hK : KK g s) (hr : meth.sig.returnType = (some .int)) (hlk : meth.locks = false) (hM : Mem lyC 48 g A (va_pl LP (skE kf)) σ ρ s.heap s.heap []) {out : Int32} {k2 : Int32 → Option Int32} (hk2 : ∀ {x1 : Int32} {ls : Array Slot}, lv_has ls 3 [(0, .ref (g.2.2 c0)), (1, .int x1)] → k2 x1 = some out → W p l e ({ frames := 4, cells := 0, slots := 0, locals := 92 }) s m args below meth c s.heap [] 0 0 (MQ below (Qp (some (.int out))) args s 0 0 NoA) (F0 m 2 ls [])) : ∀ (n : Nat) {x1 : Int32} {x2 : Int32} {ls : Array Slot}, lv_has ls 3 [(0, .ref (g.2.2 c0)), (1, .int x1), (2, .int x2)] → X1_firstScoring_b12 kf σ ρ c0 k2 n x1 x2 = some out → W p l e ({ frames := 4, cells := 0, slots := 0, locals := 92 }) s m args below meth c s.heap [] 0 0 (MQ below (Qp (some (.int out))) args s 0 0 NoA) (F0 m 12 ls []) := by
  intro n
  induction n with
  | zero =>
    intro x1 x2 ls hl hF
    cases hF
  | succ n ih =>
    intro x1 x2 ls hl hF
    exact w_X1_firstScoring_12 hPL hc0 S hK hr hlk hM hk2 ih hl hF
def X1_firstScoring_s2 (kf : KF) (σ : IM) (ρ : RM) (c0 : Nat) (k2 : Int32 → Option Int32) (x1 : Int32) : Option Int32 := if σ c0 8 ≤ x1 then (some (-4)) else (X1_firstScoring_b12 kf σ ρ c0 k2 1000 x1 0)
def X1_firstScoring_b2 (kf : KF) (σ : IM) (ρ : RM) (c0 : Nat) : Nat → Int32 → Option Int32
  | 0 => fun _ => none
  | n + 1 => X1_firstScoring_s2 kf σ ρ c0 (X1_firstScoring_b2 kf σ ρ c0 n)
set_option maxRecDepth 20000 in
theorem w_X1_firstScoring_2 {l : Launch} {g : GE} {A : Nat → Prop} {LP : List Nat} {kf : KF} {σ : IM} {ρ : RM} {c0 : Nat} (hPL : PL LP kf) (hc0 : Ct c0) {p : Program} {e : Env} {s : State} {m : MethodId} {args : Array Value} {below : List Frame} {meth : Method} {c : Code} (S : CallFix p m c cX1_firstScoring 3 s args UL RX1) (hK : KK g s) (hr : meth.sig.returnType = (some .int)) (hlk : meth.locks = false) (hM : Mem lyC 48 g A (va_pl LP (skE kf)) σ ρ s.heap s.heap []) {out : Int32} {k2 : Int32 → Option Int32} (hk2 : ∀ {x1 : Int32} {ls : Array Slot}, lv_has ls 3 [(0, .ref (g.2.2 c0)), (1, .int x1)] → k2 x1 = some out → W p l e ({ frames := 4, cells := 0, slots := 0, locals := 92 }) s m args below meth c s.heap [] 0 0 (MQ below (Qp (some (.int out))) args s 0 0 NoA) (F0 m 2 ls [])) : ∀ {x1 : Int32} {ls : Array Slot}, lv_has ls 3 [(0, .ref (g.2.2 c0)), (1, .int x1)] → X1_firstScoring_s2 kf σ ρ c0 k2 x1 = some out → W p l e ({ frames := 4, cells := 0, slots := 0, locals := 92 }) s m args below meth c s.heap [] 0 0 (MQ below (Qp (some (.int out))) args s 0 0 NoA) (F0 m 2 ls []) := by
  intro x1 ls hl hF
  unfold X1_firstScoring_s2 at hF
  refine lv_iload_n S.1 S.2.1 dX1_firstScoring_2 rfl (lv_at hl 1 rfl) ?_
  refine lv_aload_n S.1 S.2.1 dX1_firstScoring_3 rfl (lv_at hl 0 rfl) ?_
  refine r_getI S hK hM cfX1 c0 8 (ct_lt0 hc0) (ly_ct hc0) rfl (by decide) tw_1_55 dX1_firstScoring_4 ?_
  refine lv_icmp_ge (tgt := 46) S.1 S.2.1 dX1_firstScoring_7 (by decide) (fun b1 => ?_) (fun b1 => ?_)
  · have hF := (if_pos b1).symm.trans hF
    refine lv_bipush (v := (-4)) S.1 S.2.1 dX1_firstScoring_46 (by decide) ?_
    cases hF
    exact z_p S hr hlk rfl dX1_firstScoring_48
  · have hF := (if_neg b1).symm.trans hF
    refine lv_iconst (v := 0) S.1 S.2.1 dX1_firstScoring_10 (by decide) ?_
    refine lv_istore_n (lv' := [(2, .int 0), (0, .ref (g.2.2 c0)), (1, .int x1)]) S.1 S.2.1 dX1_firstScoring_11 rfl hl (by decide) rfl (fun ls hl => ?_)
    exact wl_X1_firstScoring_12 hPL hc0 S hK hr hlk hM hk2 1000 (lv_sub hl [1, 2, 0] rfl) hF
theorem wl_X1_firstScoring_2 {l : Launch} {g : GE} {A : Nat → Prop} {LP : List Nat} {kf : KF} {σ : IM} {ρ : RM} {c0 : Nat} (hPL : PL LP kf) (hc0 : Ct c0) {p : Program} {e : Env} {s : State} {m : MethodId} {args : Array Value} {below : List Frame} {meth : Method} {c : Code} (S : CallFix p m c cX1_firstScoring 3 s args UL RX1) (hK : KK g s) (hr : meth.sig.returnType = (some .int)) (hlk : meth.locks = false) (hM : Mem lyC 48 g A (va_pl LP (skE kf)) σ ρ s.heap s.heap []) {out : Int32} : ∀ (n : Nat) {x1 : Int32} {ls : Array Slot}, lv_has ls 3 [(0, .ref (g.2.2 c0)), (1, .int x1)] → X1_firstScoring_b2 kf σ ρ c0 n x1 = some out → W p l e ({ frames := 4, cells := 0, slots := 0, locals := 92 }) s m args below meth c s.heap [] 0 0 (MQ below (Qp (some (.int out))) args s 0 0 NoA) (F0 m 2 ls []) := by
  intro n
  induction n with
  | zero =>
    intro x1 ls hl hF
    cases hF
  | succ n ih =>
    intro x1 ls hl hF
    exact w_X1_firstScoring_2 hPL hc0 S hK hr hlk hM ih hl hF
def X1_firstScoring (kf : KF) (σ : IM) (ρ : RM) (c0 : Nat) : Option Int32 := X1_firstScoring_b2 kf σ ρ c0 1000 0
set_option maxRecDepth 20000 in
theorem c_X1_firstScoring {l : Launch} {g : GE} {A : Nat → Prop} {LP : List Nat} {kf : KF} {σ : IM} {ρ : RM} {c0 : Nat} {out : Int32} (hPL : PL LP kf) (hc0 : Ct c0) (hF : X1_firstScoring kf σ ρ c0 = some out) : Met l yX1_firstScoring (.code yX1_firstScoring cX1_firstScoring 3 (some .int) :: UL) ({ frames := 4, cells := 0, slots := 0, locals := 92 }) (va_Pc [.ref (g.2.2 c0)] (PreM lyC 48 g A (va_pl LP (skE kf)) σ ρ)) (Qp (some (.int out))) 0 0 NoA := by
  refine e_of (by decide) (Nat.le_of_ble_eq_true rfl) ?_
  intro p e s m below meth c ls S hr hlk hv hl
  have hM := Mem.of hv
  have hK := hv.2.1
  have hl : lv_has ls 3 [(0, .ref (g.2.2 c0))] := hl
  unfold X1_firstScoring at hF
  refine lv_iconst (v := 0) S.1 S.2.1 dX1_firstScoring_0 (by decide) ?_
  refine lv_istore_n (lv' := [(1, .int 0), (0, .ref (g.2.2 c0))]) S.1 S.2.1 dX1_firstScoring_1 rfl hl (by decide) rfl (fun ls hl => ?_)
  exact wl_X1_firstScoring_2 hPL hc0 S hK hr hlk hM 1000 (lv_sub hl [1, 0] rfl) hF
/-! X1_weary -/
def X1_weary (kf : KF) (σ : IM) (ρ : RM) (c0 : Nat) (a1 : Int32) (a2 : Int32) : Option (IM × RM) := rd (σ (c0 + 3)) 4 a1 fun v1 => bd (if v1 + a2 < 99 then v1 + a2 else 99) fun v2 => wr σ (c0 + 3) 4 a1 v2 fun σ3 => some (σ3, ρ)
set_option maxRecDepth 20000 in
theorem c_X1_weary {l : Launch} {g : GE} {A : Nat → Prop} {LP : List Nat} {kf : KF} {σ : IM} {ρ : RM} {c0 : Nat} {a1 : Int32} {a2 : Int32} {out : IM × RM} (hPL : PL LP kf) (hc0 : Ct c0) (hF : X1_weary kf σ ρ c0 a1 a2 = some out) : Met l yX1_weary (.code yX1_weary cX1_weary 3 none :: UL) ({ frames := 1, cells := 0, slots := 0, locals := 21 }) (va_Pc [.ref (g.2.2 c0), .int a1, .int a2] (PreM lyC 48 g A (va_pl LP (skE kf)) σ ρ)) (Qm lyC 48 g A (va_pl LP (skE kf)) out.1 out.2 none) 0 0 A := by
  refine e_of (by decide) (Nat.le_of_ble_eq_true rfl) ?_
  intro p e s m below meth c ls S hr hlk hv hl
  have hM := Mem.of hv
  have hK := hv.2.1
  have hl : lv_has ls 3 [(0, .ref (g.2.2 c0)), (1, .int a1), (2, .int a2)] := hl
  unfold X1_weary at hF
  refine lv_aload_n S.1 S.2.1 dX1_weary_0 rfl (lv_at hl 0 rfl) ?_
  refine r_getC S hK hM cfX1 c0 2 (c0 + 3) (ct_lt0 hc0) (ly_ct hc0) rfl (by decide) tw_1_43 dX1_weary_1 ?_
  refine lv_iload_n S.1 S.2.1 dX1_weary_4 rfl (lv_at hl 1 rfl) ?_
  refine lv_bipush (v := 99) S.1 S.2.1 dX1_weary_5 (by decide) ?_
  refine lv_aload_n S.1 S.2.1 dX1_weary_7 rfl (lv_at hl 0 rfl) ?_
  refine r_getC S hK hM cfX1 c0 2 (c0 + 3) (ct_lt0 hc0) (ly_ct hc0) rfl (by decide) tw_1_43 dX1_weary_8 ?_
  refine lv_iload_n S.1 S.2.1 dX1_weary_11 rfl (lv_at hl 1 rfl) ?_
  obtain ⟨hv1, v1, ev1, hF⟩ := rd_some hF
  refine r_iald S hK hM (c0 + 3) (ct_lt hc0 3 (by decide)) (ly_c3 hc0) hv1 ev1 dX1_weary_12 ?_
  refine lv_iload_n S.1 S.2.1 dX1_weary_13 rfl (lv_at hl 2 rfl) ?_
  refine lv_iadd S.1 S.2.1 dX1_weary_14 ?_
  refine va_mmin S.1 S.2.1 (S.2.2.1.trans hl.1.symm) S.2.2.2.1 (S.2.2.2.2 _ tw_2_153) (S.2.2.2.2 _ tw_2_92) (S.2.2.2.2 _ tw_1_15) (S.2.2.2.2 _ tw_2_93) (Nat.le_of_ble_eq_true rfl) (Nat.le_of_ble_eq_true rfl) (Nat.zero_le _) (Nat.zero_le _) dX1_weary_15 ?_
  refine lv_topi (fun v2 ev2 => ?_)
  have hF := bd_at ev2 hF
  obtain ⟨hσ3, σ3, eσ3, hF⟩ := wr_some hF
  refine r_iast S hK hM (c0 + 3) (ct_lt hc0 3 (by decide)) (ly_c3 hc0) hσ3 eσ3 dX1_weary_18 (fun H locs hM => ?_)
  cases hF
  exact z_mv S hM hr hlk dX1_weary_19
/-! X1_partnerOf -/
def X1_partnerOf (a0 : Int32) : Option Int32 := some (a0 ^^^ 1)
set_option maxRecDepth 20000 in
theorem c_X1_partnerOf {l : Launch} {g : GE} {A : Nat → Prop} {LP : List Nat} {kf : KF} {σ : IM} {ρ : RM} {a0 : Int32} {out : Int32} (hPL : PL LP kf) (hF : X1_partnerOf a0 = some out) : Met l yX1_partnerOf (.code yX1_partnerOf cX1_partnerOf 1 (some .int) :: UL) ({ frames := 0, cells := 0, slots := 0, locals := 0 }) (va_Pc [.int a0] (PreM lyC 48 g A (va_pl LP (skE kf)) σ ρ)) (Qp (some (.int out))) 0 0 NoA := by
  refine e_of (by decide) (Nat.le_of_ble_eq_true rfl) ?_
  intro p e s m below meth c ls S hr hlk hv hl
  have hM := Mem.of hv
  have hK := hv.2.1
  have hl : lv_has ls 1 [(0, .int a0)] := hl
  unfold X1_partnerOf at hF
  refine lv_iload_n S.1 S.2.1 dX1_partnerOf_0 rfl (lv_at hl 0 rfl) ?_
  refine lv_iconst (v := 1) S.1 S.2.1 dX1_partnerOf_1 (by decide) ?_
  refine lv_ixor S.1 S.2.1 dX1_partnerOf_2 ?_
  cases hF
  exact z_p S hr hlk rfl dX1_partnerOf_3
/-! X1_take -/
def X1_take (kf : KF) (σ : IM) (ρ : RM) (c0 : Nat) (a1 : Int32) (a2 : Int32) : Option (IM × RM) := rd (σ (c0 + 1)) 4 a1 fun v1 => bd1 (X11_way v1 a2) fun r2 => bd2 (X1_weary kf σ ρ c0 a1 r2) fun σ3 ρ4 => wr σ3 (c0 + 1) 4 a1 a2 fun σ6 => bd (up2 σ6 c0 9 a1) fun σ7 => some (σ7, ρ4)
set_option maxRecDepth 20000 in
theorem c_X1_take {l : Launch} {g : GE} {A : Nat → Prop} {LP : List Nat} {kf : KF} {σ : IM} {ρ : RM} {c0 : Nat} {a1 : Int32} {a2 : Int32} {out : IM × RM} (hPL : PL LP kf) (hc0 : Ct c0) (hF : X1_take kf σ ρ c0 a1 a2 = some out) : Met l yX1_take (.code yX1_take cX1_take 3 none :: UL) ({ frames := 2, cells := 0, slots := 0, locals := 43 }) (va_Pc [.ref (g.2.2 c0), .int a1, .int a2] (PreM lyC 48 g A (va_pl LP (skE kf)) σ ρ)) (Qm lyC 48 g A (va_pl LP (skE kf)) out.1 out.2 none) 0 0 A := by
  refine e_of (by decide) (Nat.le_of_ble_eq_true rfl) ?_
  intro p e s m below meth c ls S hr hlk hv hl
  have hM := Mem.of hv
  have hK := hv.2.1
  have hl : lv_has ls 3 [(0, .ref (g.2.2 c0)), (1, .int a1), (2, .int a2)] := hl
  unfold X1_take at hF
  refine lv_aload_n S.1 S.2.1 dX1_take_0 rfl (lv_at hl 0 rfl) ?_
  refine lv_iload_n S.1 S.2.1 dX1_take_1 rfl (lv_at hl 1 rfl) ?_
  refine lv_aload_n S.1 S.2.1 dX1_take_2 rfl (lv_at hl 0 rfl) ?_
  refine r_getC S hK hM cfX1 c0 0 (c0 + 1) (ct_lt0 hc0) (ly_ct hc0) rfl (by decide) tw_1_39 dX1_take_3 ?_
  refine lv_iload_n S.1 S.2.1 dX1_take_6 rfl (lv_at hl 1 rfl) ?_
  obtain ⟨hv1, v1, ev1, hF⟩ := rd_some hF
  refine r_iald S hK hM (c0 + 1) (ct_lt hc0 1 (by decide)) (ly_c1 hc0) hv1 ev1 dX1_take_7 ?_
  refine lv_iload_n S.1 S.2.1 dX1_take_8 rfl (lv_at hl 2 rfl) ?_
  obtain ⟨r2, er2, hF⟩ := bd1_some hF
  refine k_p (va_runSN (As := [.int v1, .int a2]) (rest := [.int a1, .ref (g.2.2 c0)]) S (c_X11_way hPL  er2) ⟨va_cnB 2 S.2.2.2.2 (ul_G (ul_c cw_X11_way)) rfl rfl rfl (hK.2.1 _ (List.mem_of_getElem? (i := 3) rfl)) (S.2.2.2.2 _ tw_1_1) hs_X11_way ⟨Nat.le_of_ble_eq_true rfl, Nat.le_of_ble_eq_true rfl⟩, S.2.2.2.2 _ tw_2_136, trivial⟩ ⟨PreM.blind, hM.pre hK⟩ rfl rfl hl.1 rfl (lv_room (Nat.le_of_ble_eq_true rfl)) dX1_take_9 ⟨Nat.zero_le _, Nat.zero_le _⟩) ?_
  obtain ⟨σ3, ρ4, er5, hF⟩ := bd2_some hF
  refine k_m (va_runV (As := [.int a1, .int r2]) (rest := []) S (c_X1_weary hPL hc0 er5) (cwV 2 S.2.2.2.2 (ul_V tw_2_182 tw_2_183 tw_2_184 tw_1_2 cw_X1_weary) rfl rfl rfl hv_X1_weary ⟨Nat.le_of_ble_eq_true rfl, Nat.le_of_ble_eq_true rfl⟩) ⟨PreM.blind, hM.recv hK cfX1 c0 (ct_lt0 hc0) (ly_ct hc0), hM.pre hK⟩ rfl rfl hl.1 rfl (lv_room (Nat.le_of_ble_eq_true rfl)) dX1_take_12 ⟨Nat.zero_le _, Nat.zero_le _⟩) hM (fun H locs hM => ?_)
  show W _ _ _ _ _ _ _ _ _ _ _ _ _ _ _ (F0 m 15 ls [])
  refine lv_aload_n S.1 S.2.1 dX1_take_15 rfl (lv_at hl 0 rfl) ?_
  refine r_getC S hK hM cfX1 c0 0 (c0 + 1) (ct_lt0 hc0) (ly_ct hc0) rfl (by decide) tw_1_39 dX1_take_16 ?_
  refine lv_iload_n S.1 S.2.1 dX1_take_19 rfl (lv_at hl 1 rfl) ?_
  refine lv_iload_n S.1 S.2.1 dX1_take_20 rfl (lv_at hl 2 rfl) ?_
  obtain ⟨hσ6, σ6, eσ6, hF⟩ := wr_some hF
  refine r_iast S hK hM (c0 + 1) (ct_lt hc0 1 (by decide)) (ly_c1 hc0) hσ6 eσ6 dX1_take_21 (fun H locs hM => ?_)
  refine lv_aload_n S.1 S.2.1 dX1_take_22 rfl (lv_at hl 0 rfl) ?_
  refine lv_iload_n S.1 S.2.1 dX1_take_23 rfl (lv_at hl 1 rfl) ?_
  obtain ⟨σ7, eσ7, hF⟩ := bd_some hF
  refine r_putI (ty := .int) S hK hM cfX1 tyX1_ok nmX1 c0 9 (ct_lt0 hc0) (ly_ct hc0) rfl (by decide) tw_1_57 rfl (by decide +kernel) rfl rfl eσ7 dX1_take_24 (fun H locs hM => ?_)
  cases hF
  exact z_mv S hM hr hlk dX1_take_27
/-! X1_placeBy -/
def X1_placeBy (kf : KF) (σ : IM) (ρ : RM) (c0 : Nat) (a1 : Int32) : Option Int32 := rd (σ (c0 + 5)) 2 (a1 / 2) fun v1 => if v1 = 0 then (rd (σ (c0 + 1)) 4 a1 fun v4 => some (3 + (2 - (rem32 v4 3)))) else (rd (σ (c0 + 1)) 4 a1 fun v3 => some ((3 * (2 - (v3 / 3))) + 1))
set_option maxRecDepth 20000 in
theorem c_X1_placeBy {l : Launch} {g : GE} {A : Nat → Prop} {LP : List Nat} {kf : KF} {σ : IM} {ρ : RM} {c0 : Nat} {a1 : Int32} {out : Int32} (hPL : PL LP kf) (hc0 : Ct c0) (hF : X1_placeBy kf σ ρ c0 a1 = some out) : Met l yX1_placeBy (.code yX1_placeBy cX1_placeBy 2 (some .int) :: UL) ({ frames := 0, cells := 0, slots := 0, locals := 0 }) (va_Pc [.ref (g.2.2 c0), .int a1] (PreM lyC 48 g A (va_pl LP (skE kf)) σ ρ)) (Qp (some (.int out))) 0 0 NoA := by
  refine e_of (by decide) (Nat.le_of_ble_eq_true rfl) ?_
  intro p e s m below meth c ls S hr hlk hv hl
  have hM := Mem.of hv
  have hK := hv.2.1
  have hl : lv_has ls 2 [(0, .ref (g.2.2 c0)), (1, .int a1)] := hl
  unfold X1_placeBy at hF
  refine lv_aload_n S.1 S.2.1 dX1_placeBy_0 rfl (lv_at hl 0 rfl) ?_
  refine r_getC S hK hM cfX1 c0 4 (c0 + 5) (ct_lt0 hc0) (ly_ct hc0) rfl (by decide) tw_1_47 dX1_placeBy_1 ?_
  refine lv_iload_n S.1 S.2.1 dX1_placeBy_4 rfl (lv_at hl 1 rfl) ?_
  refine lv_iconst (v := 2) S.1 S.2.1 dX1_placeBy_5 (by decide) ?_
  refine lv_idiv S.1 S.2.1 dX1_placeBy_6 (by decide) ?_
  obtain ⟨hv1, v1, ev1, hF⟩ := rd_some hF
  refine r_iald S hK hM (c0 + 5) (ct_lt hc0 5 (by decide)) (ly_c5 hc0) hv1 ev1 dX1_placeBy_7 ?_
  refine lv_if_ne (tgt := 26) S.1 S.2.1 dX1_placeBy_8 (by decide) (fun b2 => ?_) (fun b2 => ?_)
  · have hF := (if_neg b2).symm.trans hF
    refine lv_iconst (v := 3) S.1 S.2.1 dX1_placeBy_26 (by decide) ?_
    refine lv_iconst (v := 2) S.1 S.2.1 dX1_placeBy_27 (by decide) ?_
    refine lv_aload_n S.1 S.2.1 dX1_placeBy_28 rfl (lv_at hl 0 rfl) ?_
    refine r_getC S hK hM cfX1 c0 0 (c0 + 1) (ct_lt0 hc0) (ly_ct hc0) rfl (by decide) tw_1_39 dX1_placeBy_29 ?_
    refine lv_iload_n S.1 S.2.1 dX1_placeBy_32 rfl (lv_at hl 1 rfl) ?_
    obtain ⟨hv3, v3, ev3, hF⟩ := rd_some hF
    refine r_iald S hK hM (c0 + 1) (ct_lt hc0 1 (by decide)) (ly_c1 hc0) hv3 ev3 dX1_placeBy_33 ?_
    refine lv_iconst (v := 3) S.1 S.2.1 dX1_placeBy_34 (by decide) ?_
    refine lv_idiv S.1 S.2.1 dX1_placeBy_35 (by decide) ?_
    refine lv_isub S.1 S.2.1 dX1_placeBy_36 ?_
    refine lv_imul S.1 S.2.1 dX1_placeBy_37 ?_
    refine lv_iconst (v := 1) S.1 S.2.1 dX1_placeBy_38 (by decide) ?_
    refine lv_iadd S.1 S.2.1 dX1_placeBy_39 ?_
    cases hF
    exact z_p S hr hlk rfl dX1_placeBy_40
  · have hF := (if_pos b2).symm.trans hF
    refine lv_iconst (v := 3) S.1 S.2.1 dX1_placeBy_11 (by decide) ?_
    refine lv_iconst (v := 2) S.1 S.2.1 dX1_placeBy_12 (by decide) ?_
    refine lv_aload_n S.1 S.2.1 dX1_placeBy_13 rfl (lv_at hl 0 rfl) ?_
    refine r_getC S hK hM cfX1 c0 0 (c0 + 1) (ct_lt0 hc0) (ly_ct hc0) rfl (by decide) tw_1_39 dX1_placeBy_14 ?_
    refine lv_iload_n S.1 S.2.1 dX1_placeBy_17 rfl (lv_at hl 1 rfl) ?_
    obtain ⟨hv4, v4, ev4, hF⟩ := rd_some hF
    refine r_iald S hK hM (c0 + 1) (ct_lt hc0 1 (by decide)) (ly_c1 hc0) hv4 ev4 dX1_placeBy_18 ?_
    refine lv_iconst (v := 3) S.1 S.2.1 dX1_placeBy_19 (by decide) ?_
    refine r_irem S dX1_placeBy_20 (by decide) ?_
    refine lv_isub S.1 S.2.1 dX1_placeBy_21 ?_
    refine lv_iadd S.1 S.2.1 dX1_placeBy_22 ?_
    refine lv_goto (tgt := 40) S.1 S.2.1 dX1_placeBy_23 (by decide) ?_
    cases hF
    exact z_p S hr hlk rfl dX1_placeBy_40
/-! X1_nearer -/
def X1_nearer (a0 : Int32) (a1 : Int32) (a2 : Int32) : Option Int32 := if a1 ≤ a0 then (bd (if a1 < a0 - a2 then a0 - a2 else a1) fun v2 => some v2) else (bd (if a0 + a2 < a1 then a0 + a2 else a1) fun v3 => some v3)
set_option maxRecDepth 20000 in
theorem c_X1_nearer {l : Launch} {g : GE} {A : Nat → Prop} {LP : List Nat} {kf : KF} {σ : IM} {ρ : RM} {a0 : Int32} {a1 : Int32} {a2 : Int32} {out : Int32} (hPL : PL LP kf) (hF : X1_nearer a0 a1 a2 = some out) : Met l yX1_nearer (.code yX1_nearer cX1_nearer 3 (some .int) :: UL) ({ frames := 1, cells := 0, slots := 0, locals := 21 }) (va_Pc [.int a0, .int a1, .int a2] (PreM lyC 48 g A (va_pl LP (skE kf)) σ ρ)) (Qp (some (.int out))) 0 0 NoA := by
  refine e_of (by decide) (Nat.le_of_ble_eq_true rfl) ?_
  intro p e s m below meth c ls S hr hlk hv hl
  have hM := Mem.of hv
  have hK := hv.2.1
  have hl : lv_has ls 3 [(0, .int a0), (1, .int a1), (2, .int a2)] := hl
  unfold X1_nearer at hF
  refine lv_iload_n S.1 S.2.1 dX1_nearer_0 rfl (lv_at hl 1 rfl) ?_
  refine lv_iload_n S.1 S.2.1 dX1_nearer_1 rfl (lv_at hl 0 rfl) ?_
  refine lv_icmp_le (tgt := 15) S.1 S.2.1 dX1_nearer_2 (by decide) (fun b1 => ?_) (fun b1 => ?_)
  · have hF := (if_pos b1).symm.trans hF
    refine lv_iload_n S.1 S.2.1 dX1_nearer_15 rfl (lv_at hl 1 rfl) ?_
    refine lv_iload_n S.1 S.2.1 dX1_nearer_16 rfl (lv_at hl 0 rfl) ?_
    refine lv_iload_n S.1 S.2.1 dX1_nearer_17 rfl (lv_at hl 2 rfl) ?_
    refine lv_isub S.1 S.2.1 dX1_nearer_18 ?_
    refine va_mmax S.1 S.2.1 (S.2.2.1.trans hl.1.symm) S.2.2.2.1 (S.2.2.2.2 _ tw_2_158) (S.2.2.2.2 _ tw_2_95) (S.2.2.2.2 _ tw_1_15) (S.2.2.2.2 _ tw_2_96) (Nat.le_of_ble_eq_true rfl) (Nat.le_of_ble_eq_true rfl) (Nat.zero_le _) (Nat.zero_le _) dX1_nearer_19 ?_
    refine lv_topi (fun v2 ev2 => ?_)
    have hF := bd_at ev2 hF
    cases hF
    exact z_p S hr hlk rfl dX1_nearer_22
  · have hF := (if_neg b1).symm.trans hF
    refine lv_iload_n S.1 S.2.1 dX1_nearer_5 rfl (lv_at hl 1 rfl) ?_
    refine lv_iload_n S.1 S.2.1 dX1_nearer_6 rfl (lv_at hl 0 rfl) ?_
    refine lv_iload_n S.1 S.2.1 dX1_nearer_7 rfl (lv_at hl 2 rfl) ?_
    refine lv_iadd S.1 S.2.1 dX1_nearer_8 ?_
    refine va_mmin S.1 S.2.1 (S.2.2.1.trans hl.1.symm) S.2.2.2.1 (S.2.2.2.2 _ tw_2_153) (S.2.2.2.2 _ tw_2_92) (S.2.2.2.2 _ tw_1_15) (S.2.2.2.2 _ tw_2_93) (Nat.le_of_ble_eq_true rfl) (Nat.le_of_ble_eq_true rfl) (Nat.zero_le _) (Nat.zero_le _) dX1_nearer_9 ?_
    refine lv_topi (fun v3 ev3 => ?_)
    have hF := bd_at ev3 hF
    refine lv_goto (tgt := 22) S.1 S.2.1 dX1_nearer_12 (by decide) ?_
    cases hF
    exact z_p S hr hlk rfl dX1_nearer_22
/-! X1_sendPartner -/
def X1_sendPartner (kf : KF) (σ : IM) (ρ : RM) (c0 : Nat) (a1 : Int32) (a2 : Int32) : Option (IM × RM) := bd1 (X1_partnerOf a1) fun r1 => rd (σ (c0 + 1)) 4 r1 fun v2 => bd1 (X1_placeBy kf σ ρ c0 a1) fun r3 => rd (σ (c0 + 3)) 4 r1 fun v4 => bd1 (X1_stepsIn kf σ ρ c0 a2 r1 v4) fun r5 => bd1 (X1_nearer (rem32 v2 3) (rem32 r3 3) r5) fun r6 => bd (if 0 ≤ r6 - (rem32 v2 3) then r6 - (rem32 v2 3) else 0 - (r6 - (rem32 v2 3))) fun v7 => bd (r5 - v7) fun v8 => bd1 (X1_nearer (v2 / 3) (r3 / 3) v8) fun r9 => wr σ (c0 + 1) 4 r1 ((3 * r9) + r6) fun σ10 => some (σ10, ρ)
set_option maxRecDepth 20000 in
theorem c_X1_sendPartner {l : Launch} {g : GE} {A : Nat → Prop} {LP : List Nat} {kf : KF} {σ : IM} {ρ : RM} {c0 : Nat} {a1 : Int32} {a2 : Int32} {out : IM × RM} (hPL : PL LP kf) (hc0 : Ct c0) (hF : X1_sendPartner kf σ ρ c0 a1 a2 = some out) : Met l yX1_sendPartner (.code yX1_sendPartner cX1_sendPartner 9 none :: UL) ({ frames := 2, cells := 0, slots := 0, locals := 44 }) (va_Pc [.ref (g.2.2 c0), .int a1, .int a2] (PreM lyC 48 g A (va_pl LP (skE kf)) σ ρ)) (Qm lyC 48 g A (va_pl LP (skE kf)) out.1 out.2 none) 0 0 A := by
  refine e_of (by decide) (Nat.le_of_ble_eq_true rfl) ?_
  intro p e s m below meth c ls S hr hlk hv hl
  have hM := Mem.of hv
  have hK := hv.2.1
  have hl : lv_has ls 9 [(0, .ref (g.2.2 c0)), (1, .int a1), (2, .int a2)] := hl
  unfold X1_sendPartner at hF
  refine lv_iload_n S.1 S.2.1 dX1_sendPartner_0 rfl (lv_at hl 1 rfl) ?_
  obtain ⟨r1, er1, hF⟩ := bd1_some hF
  refine k_p (va_runS (As := [.int a1]) (rest := []) S (c_X1_partnerOf hPL  er1) (va_cwS 1 S.2.2.2.2 (ul_S tw_2_186 tw_2_187 tw_1_2 cw_X1_partnerOf) rfl rfl rfl hs_X1_partnerOf ⟨Nat.le_of_ble_eq_true rfl, Nat.le_of_ble_eq_true rfl⟩) ⟨PreM.blind, hM.pre hK⟩ rfl rfl hl.1 rfl (lv_room (Nat.le_of_ble_eq_true rfl)) dX1_sendPartner_1 ⟨Nat.zero_le _, Nat.zero_le _⟩) ?_
  refine lv_istore_n (lv' := [(3, .int r1), (0, .ref (g.2.2 c0)), (1, .int a1), (2, .int a2)]) S.1 S.2.1 dX1_sendPartner_4 rfl hl (by decide) rfl (fun ls hl => ?_)
  refine lv_aload_n S.1 S.2.1 dX1_sendPartner_5 rfl (lv_at hl 1 rfl) ?_
  refine r_getC S hK hM cfX1 c0 0 (c0 + 1) (ct_lt0 hc0) (ly_ct hc0) rfl (by decide) tw_1_39 dX1_sendPartner_6 ?_
  refine lv_iload_n S.1 S.2.1 dX1_sendPartner_9 rfl (lv_at hl 0 rfl) ?_
  obtain ⟨hv2, v2, ev2, hF⟩ := rd_some hF
  refine r_iald S hK hM (c0 + 1) (ct_lt hc0 1 (by decide)) (ly_c1 hc0) hv2 ev2 dX1_sendPartner_10 ?_
  refine lv_istore (lv' := [(4, .int v2), (3, .int r1), (0, .ref (g.2.2 c0)), (1, .int a1), (2, .int a2)]) S.1 S.2.1 dX1_sendPartner_11 hl (by decide) rfl (fun ls hl => ?_)
  refine lv_aload_n S.1 S.2.1 dX1_sendPartner_13 rfl (lv_at hl 2 rfl) ?_
  refine lv_iload_n S.1 S.2.1 dX1_sendPartner_14 rfl (lv_at hl 3 rfl) ?_
  obtain ⟨r3, er3, hF⟩ := bd1_some hF
  refine k_p (va_runV (As := [.int a1]) (rest := []) S (c_X1_placeBy hPL hc0 er3) (cwV 1 S.2.2.2.2 (ul_V tw_2_197 tw_2_198 tw_2_199 tw_1_2 cw_X1_placeBy) rfl rfl rfl hv_X1_placeBy ⟨Nat.le_of_ble_eq_true rfl, Nat.le_of_ble_eq_true rfl⟩) ⟨PreM.blind, hM.recv hK cfX1 c0 (ct_lt0 hc0) (ly_ct hc0), hM.pre hK⟩ rfl rfl hl.1 rfl (lv_room (Nat.le_of_ble_eq_true rfl)) dX1_sendPartner_15 ⟨Nat.zero_le _, Nat.zero_le _⟩) ?_
  refine lv_istore (lv' := [(5, .int r3), (4, .int v2), (3, .int r1), (0, .ref (g.2.2 c0)), (1, .int a1), (2, .int a2)]) S.1 S.2.1 dX1_sendPartner_18 hl (by decide) rfl (fun ls hl => ?_)
  refine lv_aload_n S.1 S.2.1 dX1_sendPartner_20 rfl (lv_at hl 3 rfl) ?_
  refine lv_iload_n S.1 S.2.1 dX1_sendPartner_21 rfl (lv_at hl 5 rfl) ?_
  refine lv_iload_n S.1 S.2.1 dX1_sendPartner_22 rfl (lv_at hl 2 rfl) ?_
  refine lv_aload_n S.1 S.2.1 dX1_sendPartner_23 rfl (lv_at hl 3 rfl) ?_
  refine r_getC S hK hM cfX1 c0 2 (c0 + 3) (ct_lt0 hc0) (ly_ct hc0) rfl (by decide) tw_1_43 dX1_sendPartner_24 ?_
  refine lv_iload_n S.1 S.2.1 dX1_sendPartner_27 rfl (lv_at hl 2 rfl) ?_
  obtain ⟨hv4, v4, ev4, hF⟩ := rd_some hF
  refine r_iald S hK hM (c0 + 3) (ct_lt hc0 3 (by decide)) (ly_c3 hc0) hv4 ev4 dX1_sendPartner_28 ?_
  obtain ⟨r5, er5, hF⟩ := bd1_some hF
  refine k_p (va_runV (As := [.int a2, .int r1, .int v4]) (rest := []) S (c_X1_stepsIn hPL hc0 er5) (cwV 3 S.2.2.2.2 (ul_V tw_2_154 tw_2_155 tw_2_156 tw_1_2 cw_X1_stepsIn) rfl rfl rfl hv_X1_stepsIn ⟨Nat.le_of_ble_eq_true rfl, Nat.le_of_ble_eq_true rfl⟩) ⟨PreM.blind, hM.recv hK cfX1 c0 (ct_lt0 hc0) (ly_ct hc0), hM.pre hK⟩ rfl rfl hl.1 rfl (lv_room (Nat.le_of_ble_eq_true rfl)) dX1_sendPartner_29 ⟨Nat.zero_le _, Nat.zero_le _⟩) ?_
  refine lv_istore (lv' := [(6, .int r5), (5, .int r3), (4, .int v2), (3, .int r1), (0, .ref (g.2.2 c0)), (1, .int a1), (2, .int a2)]) S.1 S.2.1 dX1_sendPartner_32 hl (by decide) rfl (fun ls hl => ?_)
  refine lv_iload S.1 S.2.1 dX1_sendPartner_34 (lv_at hl 2 rfl) ?_
  refine lv_iconst (v := 3) S.1 S.2.1 dX1_sendPartner_36 (by decide) ?_
  refine r_irem S dX1_sendPartner_37 (by decide) ?_
  refine lv_iload S.1 S.2.1 dX1_sendPartner_38 (lv_at hl 1 rfl) ?_
  refine lv_iconst (v := 3) S.1 S.2.1 dX1_sendPartner_40 (by decide) ?_
  refine r_irem S dX1_sendPartner_41 (by decide) ?_
  refine lv_iload S.1 S.2.1 dX1_sendPartner_42 (lv_at hl 0 rfl) ?_
  obtain ⟨r6, er6, hF⟩ := bd1_some hF
  refine k_p (va_runS (As := [.int (rem32 v2 3), .int (rem32 r3 3), .int r5]) (rest := []) S (c_X1_nearer hPL  er6) (va_cwS 3 S.2.2.2.2 (ul_S tw_2_201 tw_2_202 tw_1_2 cw_X1_nearer) rfl rfl rfl hs_X1_nearer ⟨Nat.le_of_ble_eq_true rfl, Nat.le_of_ble_eq_true rfl⟩) ⟨PreM.blind, hM.pre hK⟩ rfl rfl hl.1 rfl (lv_room (Nat.le_of_ble_eq_true rfl)) dX1_sendPartner_44 ⟨Nat.zero_le _, Nat.zero_le _⟩) ?_
  refine lv_istore (lv' := [(7, .int r6), (6, .int r5), (5, .int r3), (4, .int v2), (3, .int r1), (0, .ref (g.2.2 c0)), (1, .int a1), (2, .int a2)]) S.1 S.2.1 dX1_sendPartner_47 hl (by decide) rfl (fun ls hl => ?_)
  refine lv_iload S.1 S.2.1 dX1_sendPartner_49 (lv_at hl 1 rfl) ?_
  refine lv_iload S.1 S.2.1 dX1_sendPartner_51 (lv_at hl 0 rfl) ?_
  refine lv_iload S.1 S.2.1 dX1_sendPartner_53 (lv_at hl 3 rfl) ?_
  refine lv_iconst (v := 3) S.1 S.2.1 dX1_sendPartner_55 (by decide) ?_
  refine r_irem S dX1_sendPartner_56 (by decide) ?_
  refine lv_isub S.1 S.2.1 dX1_sendPartner_57 ?_
  refine va_mabs S.1 S.2.1 (S.2.2.1.trans hl.1.symm) S.2.2.2.1 (S.2.2.2.2 _ tw_2_204) (S.2.2.2.2 _ tw_2_139) (S.2.2.2.2 _ tw_1_15) (S.2.2.2.2 _ tw_2_140) (Nat.le_of_ble_eq_true rfl) (Nat.le_of_ble_eq_true rfl) (Nat.zero_le _) (Nat.zero_le _) dX1_sendPartner_58 ?_
  refine lv_topi (fun v7 ev7 => ?_)
  have hF := bd_at ev7 hF
  refine lv_isub S.1 S.2.1 dX1_sendPartner_61 ?_
  refine lv_topi (fun v8 ev8 => ?_)
  have hF := bd_at ev8 hF
  refine lv_istore (lv' := [(8, .int v8), (7, .int r6), (6, .int r5), (5, .int r3), (4, .int v2), (3, .int r1), (0, .ref (g.2.2 c0)), (1, .int a1), (2, .int a2)]) S.1 S.2.1 dX1_sendPartner_62 hl (by decide) rfl (fun ls hl => ?_)
  refine lv_aload_n S.1 S.2.1 dX1_sendPartner_64 rfl (lv_at hl 6 rfl) ?_
  refine r_getC S hK hM cfX1 c0 0 (c0 + 1) (ct_lt0 hc0) (ly_ct hc0) rfl (by decide) tw_1_39 dX1_sendPartner_65 ?_
  refine lv_iload_n S.1 S.2.1 dX1_sendPartner_68 rfl (lv_at hl 5 rfl) ?_
  refine lv_iconst (v := 3) S.1 S.2.1 dX1_sendPartner_69 (by decide) ?_
  refine lv_iload S.1 S.2.1 dX1_sendPartner_70 (lv_at hl 4 rfl) ?_
  refine lv_iconst (v := 3) S.1 S.2.1 dX1_sendPartner_72 (by decide) ?_
  refine lv_idiv S.1 S.2.1 dX1_sendPartner_73 (by decide) ?_
  refine lv_iload S.1 S.2.1 dX1_sendPartner_74 (lv_at hl 3 rfl) ?_
  refine lv_iconst (v := 3) S.1 S.2.1 dX1_sendPartner_76 (by decide) ?_
  refine lv_idiv S.1 S.2.1 dX1_sendPartner_77 (by decide) ?_
  refine lv_iload S.1 S.2.1 dX1_sendPartner_78 (lv_at hl 0 rfl) ?_
  obtain ⟨r9, er9, hF⟩ := bd1_some hF
  refine k_p (va_runS (As := [.int (v2 / 3), .int (r3 / 3), .int v8]) (rest := [.int 3, .int r1, .ref (g.2.2 (c0 + 1))]) S (c_X1_nearer hPL  er9) (va_cwS 3 S.2.2.2.2 (ul_S tw_2_201 tw_2_202 tw_1_2 cw_X1_nearer) rfl rfl rfl hs_X1_nearer ⟨Nat.le_of_ble_eq_true rfl, Nat.le_of_ble_eq_true rfl⟩) ⟨PreM.blind, hM.pre hK⟩ rfl rfl hl.1 rfl (lv_room (Nat.le_of_ble_eq_true rfl)) dX1_sendPartner_80 ⟨Nat.zero_le _, Nat.zero_le _⟩) ?_
  refine lv_imul S.1 S.2.1 dX1_sendPartner_83 ?_
  refine lv_iload S.1 S.2.1 dX1_sendPartner_84 (lv_at hl 1 rfl) ?_
  refine lv_iadd S.1 S.2.1 dX1_sendPartner_86 ?_
  obtain ⟨hσ10, σ10, eσ10, hF⟩ := wr_some hF
  refine r_iast S hK hM (c0 + 1) (ct_lt hc0 1 (by decide)) (ly_c1 hc0) hσ10 eσ10 dX1_sendPartner_87 (fun H locs hM => ?_)
  cases hF
  exact z_mv S hM hr hlk dX1_sendPartner_88
/-! X1_strike -/
def X1_strike_b100 (kf : KF) (c0 : Nat) (x4 : Int32) (x5 : Int32) (x7 : Int32) (x8 : Int32) (σ : IM) (ρ : RM) : Option (Int32 × IM × RM) := if x7 = 0 then (bd2 (X1_take kf σ ρ c0 x8 x4) fun σ21 ρ22 => bd2 (X1_sendPartner kf σ21 ρ22 c0 x8 x5) fun σ24 ρ25 => bz x7 <| some (x7, σ24, ρ25)) else (rd (σ (c0 + 7)) 2 ((σ c0 9) / 2) fun v28 => wr σ (c0 + 7) 2 ((σ c0 9) / 2) (v28 + 1) fun σ29 => bd (up2 σ29 c0 9 (((σ29 c0 9) / 2) * 2)) fun σ30 => bz x7 <| some (x7, σ30, ρ))
set_option maxRecDepth 20000 in
theorem w_X1_strike_100 {l : Launch} {g : GE} {A : Nat → Prop} {LP : List Nat} {kf : KF} {c0 : Nat} (hPL : PL LP kf) (hc0 : Ct c0) {p : Program} {e : Env} {s : State} {m : MethodId} {args : Array Value} {below : List Frame} {meth : Method} {c : Code} (S : CallFix p m c cX1_strike 9 s args UL RX1) (hK : KK g s) (hr : meth.sig.returnType = (some .boolean)) (hlk : meth.locks = false) {out : Int32 × IM × RM} : ∀ {x4 : Int32} {x5 : Int32} {x7 : Int32} {x8 : Int32} {σ : IM} {ρ : RM} {H : Heap} {locs : List Loc} {ls : Array Slot}, Mem lyC 48 g A (va_pl LP (skE kf)) σ ρ s.heap H locs → lv_has ls 9 [(0, .ref (g.2.2 c0)), (4, .int x4), (5, .int x5), (7, .int x7), (8, .int x8)] → X1_strike_b100 kf c0 x4 x5 x7 x8 σ ρ = some out → W p l e ({ frames := 3, cells := 0, slots := 0, locals := 72 }) s m args below meth c H locs 0 0 (MQ below (Qm lyC 48 g A (va_pl LP (skE kf)) out.2.1 out.2.2 (some (.int out.1))) args s 0 0 A) (F0 m 100 ls []) := by
  intro x4 x5 x7 x8 σ ρ H locs ls hM hl hF
  unfold X1_strike_b100 at hF
  refine lv_iload S.1 S.2.1 dX1_strike_100 (lv_at hl 3 rfl) ?_
  refine lv_if_eq (tgt := 135) S.1 S.2.1 dX1_strike_102 (by decide) (fun b20 => ?_) (fun b20 => ?_)
  · have hF := (if_pos b20).symm.trans hF
    refine lv_aload_n S.1 S.2.1 dX1_strike_135 rfl (lv_at hl 0 rfl) ?_
    refine lv_iload S.1 S.2.1 dX1_strike_136 (lv_at hl 4 rfl) ?_
    refine lv_iload S.1 S.2.1 dX1_strike_138 (lv_at hl 1 rfl) ?_
    obtain ⟨σ21, ρ22, er23, hF⟩ := bd2_some hF
    refine k_m (va_runV (As := [.int x8, .int x4]) (rest := []) S (c_X1_take hPL hc0 er23) (cwV 2 S.2.2.2.2 (ul_V tw_2_189 tw_2_190 tw_2_191 tw_1_2 cw_X1_take) rfl rfl rfl hv_X1_take ⟨Nat.le_of_ble_eq_true rfl, Nat.le_of_ble_eq_true rfl⟩) ⟨PreM.blind, hM.recv hK cfX1 c0 (ct_lt0 hc0) (ly_ct hc0), hM.pre hK⟩ rfl rfl hl.1 rfl (lv_room (Nat.le_of_ble_eq_true rfl)) dX1_strike_140 ⟨Nat.zero_le _, Nat.zero_le _⟩) hM (fun H locs hM => ?_)
    show W _ _ _ _ _ _ _ _ _ _ _ _ _ _ _ (F0 m 143 ls [])
    refine lv_aload_n S.1 S.2.1 dX1_strike_143 rfl (lv_at hl 0 rfl) ?_
    refine lv_iload S.1 S.2.1 dX1_strike_144 (lv_at hl 4 rfl) ?_
    refine lv_iload S.1 S.2.1 dX1_strike_146 (lv_at hl 2 rfl) ?_
    obtain ⟨σ24, ρ25, er26, hF⟩ := bd2_some hF
    refine k_m (va_runV (As := [.int x8, .int x5]) (rest := []) S (c_X1_sendPartner hPL hc0 er26) (cwV 2 S.2.2.2.2 (ul_V tw_2_193 tw_2_194 tw_2_195 tw_1_2 cw_X1_sendPartner) rfl rfl rfl hv_X1_sendPartner ⟨Nat.le_of_ble_eq_true rfl, Nat.le_of_ble_eq_true rfl⟩) ⟨PreM.blind, hM.recv hK cfX1 c0 (ct_lt0 hc0) (ly_ct hc0), hM.pre hK⟩ rfl rfl hl.1 rfl (lv_room (Nat.le_of_ble_eq_true rfl)) dX1_strike_148 ⟨Nat.zero_le _, Nat.zero_le _⟩) hM (fun H locs hM => ?_)
    show W _ _ _ _ _ _ _ _ _ _ _ _ _ _ _ (F0 m 151 ls [])
    refine lv_iload S.1 S.2.1 dX1_strike_151 (lv_at hl 3 rfl) ?_
    obtain ⟨h27, hF⟩ := bz_some hF
    cases hF
    exact z_m (v := x7) S hM hr hlk h27 dX1_strike_153
  · have hF := (if_neg b20).symm.trans hF
    refine lv_aload_n S.1 S.2.1 dX1_strike_105 rfl (lv_at hl 0 rfl) ?_
    refine r_getC S hK hM cfX1 c0 6 (c0 + 7) (ct_lt0 hc0) (ly_ct hc0) rfl (by decide) tw_1_51 dX1_strike_106 ?_
    refine lv_aload_n S.1 S.2.1 dX1_strike_109 rfl (lv_at hl 0 rfl) ?_
    refine r_getI S hK hM cfX1 c0 9 (ct_lt0 hc0) (ly_ct hc0) rfl (by decide) tw_1_57 dX1_strike_110 ?_
    refine lv_iconst (v := 2) S.1 S.2.1 dX1_strike_113 (by decide) ?_
    refine lv_idiv S.1 S.2.1 dX1_strike_114 (by decide) ?_
    refine lv_dup2_11 S.1 S.2.1 dX1_strike_115 rfl rfl ?_
    obtain ⟨hv28, v28, ev28, hF⟩ := rd_some hF
    refine r_iald S hK hM (c0 + 7) (ct_lt hc0 7 (by decide)) (ly_c7 hc0) hv28 ev28 dX1_strike_116 ?_
    refine lv_iconst (v := 1) S.1 S.2.1 dX1_strike_117 (by decide) ?_
    refine lv_iadd S.1 S.2.1 dX1_strike_118 ?_
    obtain ⟨hσ29, σ29, eσ29, hF⟩ := wr_some hF
    refine r_iast S hK hM (c0 + 7) (ct_lt hc0 7 (by decide)) (ly_c7 hc0) hσ29 eσ29 dX1_strike_119 (fun H locs hM => ?_)
    refine lv_aload_n S.1 S.2.1 dX1_strike_120 rfl (lv_at hl 0 rfl) ?_
    refine lv_aload_n S.1 S.2.1 dX1_strike_121 rfl (lv_at hl 0 rfl) ?_
    refine r_getI S hK hM cfX1 c0 9 (ct_lt0 hc0) (ly_ct hc0) rfl (by decide) tw_1_57 dX1_strike_122 ?_
    refine lv_iconst (v := 2) S.1 S.2.1 dX1_strike_125 (by decide) ?_
    refine lv_idiv S.1 S.2.1 dX1_strike_126 (by decide) ?_
    refine lv_iconst (v := 2) S.1 S.2.1 dX1_strike_127 (by decide) ?_
    refine lv_imul S.1 S.2.1 dX1_strike_128 ?_
    obtain ⟨σ30, eσ30, hF⟩ := bd_some hF
    refine r_putI (ty := .int) S hK hM cfX1 tyX1_ok nmX1 c0 9 (ct_lt0 hc0) (ly_ct hc0) rfl (by decide) tw_1_57 rfl (by decide +kernel) rfl rfl eσ30 dX1_strike_129 (fun H locs hM => ?_)
    refine lv_goto (tgt := 151) S.1 S.2.1 dX1_strike_132 (by decide) ?_
    refine lv_iload S.1 S.2.1 dX1_strike_151 (lv_at hl 3 rfl) ?_
    obtain ⟨h31, hF⟩ := bz_some hF
    cases hF
    exact z_m (v := x7) S hM hr hlk h31 dX1_strike_153
def X1_strike (kf : KF) (σ : IM) (ρ : RM) (c0 : Nat) (a1 : Int32) (a2 : Int32) : Option (Int32 × IM × RM) := rq (ρ (c0 + 8)) 8 a1 fun q1 => bd1 (V_landing kf q1 a2 (σ c0 10)) fun r2 => bd1 (V_timeTo kf q1 r2) fun r3 => bd1 (X1_claimTo kf σ ρ c0 r2) fun r4 => bd1 (X1_isMissed kf σ ρ c0 r4 r2 r3) fun r5 => bd1 (X1_takerBy kf σ ρ c0 r4) fun r6 => bd (up2 σ c0 11 ((σ c0 11) + 1)) fun σ7 => bd1 (V_effort kf q1) fun r8 => bd2 (X1_weary kf σ7 ρ c0 (σ7 c0 9) r8) fun σ9 ρ10 => if r4 = 8 then (bd2 (X1_weary kf σ9 ρ10 c0 r6 3) fun σ13 ρ14 => bd1 (X1_partnerOf r6) fun r16 => bd2 (X1_weary kf σ13 ρ14 c0 r16 3) fun σ17 ρ18 => X1_strike_b100 kf c0 r2 r3 r5 r6 σ17 ρ18) else (X1_strike_b100 kf c0 r2 r3 r5 r6 σ9 ρ10)
set_option maxRecDepth 20000 in
theorem c_X1_strike {l : Launch} {g : GE} {A : Nat → Prop} {LP : List Nat} {kf : KF} {σ : IM} {ρ : RM} {c0 : Nat} {a1 : Int32} {a2 : Int32} {out : Int32 × IM × RM} (hPL : PL LP kf) (hc0 : Ct c0) (hF : X1_strike kf σ ρ c0 a1 a2 = some out) : Met l yX1_strike (.code yX1_strike cX1_strike 9 (some .boolean) :: UL) ({ frames := 3, cells := 0, slots := 0, locals := 72 }) (va_Pc [.ref (g.2.2 c0), .int a1, .int a2] (PreM lyC 48 g A (va_pl LP (skE kf)) σ ρ)) (Qm lyC 48 g A (va_pl LP (skE kf)) out.2.1 out.2.2 (some (.int out.1))) 0 0 A := by
  refine e_of (by decide) (Nat.le_of_ble_eq_true rfl) ?_
  intro p e s m below meth c ls S hr hlk hv hl
  have hM := Mem.of hv
  have hK := hv.2.1
  have hl : lv_has ls 9 [(0, .ref (g.2.2 c0)), (1, .int a1), (2, .int a2)] := hl
  unfold X1_strike at hF
  refine lv_aload_n S.1 S.2.1 dX1_strike_0 rfl (lv_at hl 0 rfl) ?_
  refine r_getC S hK hM cfX1 c0 7 (c0 + 8) (ct_lt0 hc0) (ly_ct hc0) rfl (by decide) tw_1_53 dX1_strike_1 ?_
  refine lv_iload_n S.1 S.2.1 dX1_strike_4 rfl (lv_at hl 1 rfl) ?_
  obtain ⟨hq1, q1, eq1, hF⟩ := rq_some hF
  refine r_aald S hK hM (c0 + 8) (ct_lt hc0 8 (by decide)) (ly_c8 hc0) hq1 eq1 dX1_strike_5 ?_
  refine lv_astore_n (lv' := [(3, .ref q1), (0, .ref (g.2.2 c0)), (1, .int a1), (2, .int a2)]) S.1 S.2.1 dX1_strike_6 rfl hl (by decide) rfl (fun ls hl => ?_)
  refine lv_aload_n S.1 S.2.1 dX1_strike_7 rfl (lv_at hl 0 rfl) ?_
  refine lv_iload_n S.1 S.2.1 dX1_strike_8 rfl (lv_at hl 3 rfl) ?_
  refine lv_aload_n S.1 S.2.1 dX1_strike_9 rfl (lv_at hl 1 rfl) ?_
  refine r_getI S hK hM cfX1 c0 10 (ct_lt0 hc0) (ly_ct hc0) rfl (by decide) tw_1_59 dX1_strike_10 ?_
  obtain ⟨r2, er2, hF⟩ := bd1_some hF
  refine k_p (rv_X1_73 (rest := []) S hK hM hPL er2 hl.1 dX1_strike_13 (Nat.le_of_ble_eq_true rfl) (Nat.le_of_ble_eq_true rfl) (lv_room (Nat.le_of_ble_eq_true rfl))) ?_
  refine lv_istore (lv' := [(4, .int r2), (3, .ref q1), (0, .ref (g.2.2 c0)), (1, .int a1), (2, .int a2)]) S.1 S.2.1 dX1_strike_16 hl (by decide) rfl (fun ls hl => ?_)
  refine lv_aload_n S.1 S.2.1 dX1_strike_18 rfl (lv_at hl 1 rfl) ?_
  refine lv_iload S.1 S.2.1 dX1_strike_19 (lv_at hl 0 rfl) ?_
  obtain ⟨r3, er3, hF⟩ := bd1_some hF
  refine k_p (rv_X1_102 (rest := []) S hK hM hPL er3 hl.1 dX1_strike_21 (Nat.le_of_ble_eq_true rfl) (Nat.le_of_ble_eq_true rfl) (lv_room (Nat.le_of_ble_eq_true rfl))) ?_
  refine lv_istore (lv' := [(5, .int r3), (4, .int r2), (3, .ref q1), (0, .ref (g.2.2 c0)), (1, .int a1), (2, .int a2)]) S.1 S.2.1 dX1_strike_24 hl (by decide) rfl (fun ls hl => ?_)
  refine lv_aload_n S.1 S.2.1 dX1_strike_26 rfl (lv_at hl 3 rfl) ?_
  refine lv_iload S.1 S.2.1 dX1_strike_27 (lv_at hl 1 rfl) ?_
  obtain ⟨r4, er4, hF⟩ := bd1_some hF
  refine k_p (va_runV (As := [.int r2]) (rest := []) S (c_X1_claimTo hPL hc0 er4) (cwV 1 S.2.2.2.2 (ul_V tw_2_127 tw_2_128 tw_2_129 tw_1_2 cw_X1_claimTo) rfl rfl rfl hv_X1_claimTo ⟨Nat.le_of_ble_eq_true rfl, Nat.le_of_ble_eq_true rfl⟩) ⟨PreM.blind, hM.recv hK cfX1 c0 (ct_lt0 hc0) (ly_ct hc0), hM.pre hK⟩ rfl rfl hl.1 rfl (lv_room (Nat.le_of_ble_eq_true rfl)) dX1_strike_29 ⟨Nat.zero_le _, Nat.zero_le _⟩) ?_
  refine lv_istore (lv' := [(6, .int r4), (5, .int r3), (4, .int r2), (3, .ref q1), (0, .ref (g.2.2 c0)), (1, .int a1), (2, .int a2)]) S.1 S.2.1 dX1_strike_32 hl (by decide) rfl (fun ls hl => ?_)
  refine lv_aload_n S.1 S.2.1 dX1_strike_34 rfl (lv_at hl 4 rfl) ?_
  refine lv_iload S.1 S.2.1 dX1_strike_35 (lv_at hl 0 rfl) ?_
  refine lv_iload S.1 S.2.1 dX1_strike_37 (lv_at hl 2 rfl) ?_
  refine lv_iload S.1 S.2.1 dX1_strike_39 (lv_at hl 1 rfl) ?_
  obtain ⟨r5, er5, hF⟩ := bd1_some hF
  refine k_p (va_runV (As := [.int r4, .int r2, .int r3]) (rest := []) S (c_X1_isMissed hPL hc0 er5) (cwV 3 S.2.2.2.2 (ul_V tw_2_145 tw_2_146 tw_2_147 tw_1_2 cw_X1_isMissed) rfl rfl rfl hv_X1_isMissed ⟨Nat.le_of_ble_eq_true rfl, Nat.le_of_ble_eq_true rfl⟩) ⟨PreM.blind, hM.recv hK cfX1 c0 (ct_lt0 hc0) (ly_ct hc0), hM.pre hK⟩ rfl rfl hl.1 rfl (lv_room (Nat.le_of_ble_eq_true rfl)) dX1_strike_41 ⟨Nat.zero_le _, Nat.zero_le _⟩) ?_
  refine lv_istore (lv' := [(7, .int r5), (6, .int r4), (5, .int r3), (4, .int r2), (3, .ref q1), (0, .ref (g.2.2 c0)), (1, .int a1), (2, .int a2)]) S.1 S.2.1 dX1_strike_44 hl (by decide) rfl (fun ls hl => ?_)
  refine lv_aload_n S.1 S.2.1 dX1_strike_46 rfl (lv_at hl 5 rfl) ?_
  refine lv_iload S.1 S.2.1 dX1_strike_47 (lv_at hl 1 rfl) ?_
  obtain ⟨r6, er6, hF⟩ := bd1_some hF
  refine k_p (va_runV (As := [.int r4]) (rest := []) S (c_X1_takerBy hPL hc0 er6) (cwV 1 S.2.2.2.2 (ul_V tw_2_149 tw_2_150 tw_2_151 tw_1_2 cw_X1_takerBy) rfl rfl rfl hv_X1_takerBy ⟨Nat.le_of_ble_eq_true rfl, Nat.le_of_ble_eq_true rfl⟩) ⟨PreM.blind, hM.recv hK cfX1 c0 (ct_lt0 hc0) (ly_ct hc0), hM.pre hK⟩ rfl rfl hl.1 rfl (lv_room (Nat.le_of_ble_eq_true rfl)) dX1_strike_49 ⟨Nat.zero_le _, Nat.zero_le _⟩) ?_
  refine lv_istore (lv' := [(8, .int r6), (7, .int r5), (6, .int r4), (5, .int r3), (4, .int r2), (3, .ref q1), (0, .ref (g.2.2 c0)), (1, .int a1), (2, .int a2)]) S.1 S.2.1 dX1_strike_52 hl (by decide) rfl (fun ls hl => ?_)
  refine lv_aload_n S.1 S.2.1 dX1_strike_54 rfl (lv_at hl 6 rfl) ?_
  refine lv_dup S.1 S.2.1 dX1_strike_55 rfl ?_
  refine r_getI S hK hM cfX1 c0 11 (ct_lt0 hc0) (ly_ct hc0) rfl (by decide) tw_1_61 dX1_strike_56 ?_
  refine lv_iconst (v := 1) S.1 S.2.1 dX1_strike_59 (by decide) ?_
  refine lv_iadd S.1 S.2.1 dX1_strike_60 ?_
  obtain ⟨σ7, eσ7, hF⟩ := bd_some hF
  refine r_putI (ty := .int) S hK hM cfX1 tyX1_ok nmX1 c0 11 (ct_lt0 hc0) (ly_ct hc0) rfl (by decide) tw_1_61 rfl (by decide +kernel) rfl rfl eσ7 dX1_strike_61 (fun H locs hM => ?_)
  refine lv_aload_n S.1 S.2.1 dX1_strike_64 rfl (lv_at hl 6 rfl) ?_
  refine lv_aload_n S.1 S.2.1 dX1_strike_65 rfl (lv_at hl 6 rfl) ?_
  refine r_getI S hK hM cfX1 c0 9 (ct_lt0 hc0) (ly_ct hc0) rfl (by decide) tw_1_57 dX1_strike_66 ?_
  refine lv_aload_n S.1 S.2.1 dX1_strike_69 rfl (lv_at hl 5 rfl) ?_
  obtain ⟨r8, er8, hF⟩ := bd1_some hF
  refine k_p (rv_X1_119 (rest := [.int (σ7 c0 9), .ref (g.2.2 c0)]) S hK hM hPL er8 hl.1 dX1_strike_70 (Nat.le_of_ble_eq_true rfl) (Nat.le_of_ble_eq_true rfl) (lv_room (Nat.le_of_ble_eq_true rfl))) ?_
  obtain ⟨σ9, ρ10, er11, hF⟩ := bd2_some hF
  refine k_m (va_runV (As := [.int (σ7 c0 9), .int r8]) (rest := []) S (c_X1_weary hPL hc0 er11) (cwV 2 S.2.2.2.2 (ul_V tw_2_182 tw_2_183 tw_2_184 tw_1_2 cw_X1_weary) rfl rfl rfl hv_X1_weary ⟨Nat.le_of_ble_eq_true rfl, Nat.le_of_ble_eq_true rfl⟩) ⟨PreM.blind, hM.recv hK cfX1 c0 (ct_lt0 hc0) (ly_ct hc0), hM.pre hK⟩ rfl rfl hl.1 rfl (lv_room (Nat.le_of_ble_eq_true rfl)) dX1_strike_73 ⟨Nat.zero_le _, Nat.zero_le _⟩) hM (fun H locs hM => ?_)
  show W _ _ _ _ _ _ _ _ _ _ _ _ _ _ _ (F0 m 76 ls [])
  refine lv_iload S.1 S.2.1 dX1_strike_76 (lv_at hl 2 rfl) ?_
  refine lv_bipush (v := 8) S.1 S.2.1 dX1_strike_78 (by decide) ?_
  refine lv_icmp_ne (tgt := 100) S.1 S.2.1 dX1_strike_80 (by decide) (fun b12 => ?_) (fun b12 => ?_)
  · have hF := (if_neg b12).symm.trans hF
    exact w_X1_strike_100 hPL hc0 S hK hr hlk hM (lv_sub hl [6, 4, 3, 1, 0] rfl) hF
  · have hF := (if_pos b12).symm.trans hF
    refine lv_aload_n S.1 S.2.1 dX1_strike_83 rfl (lv_at hl 6 rfl) ?_
    refine lv_iload S.1 S.2.1 dX1_strike_84 (lv_at hl 0 rfl) ?_
    refine lv_iconst (v := 3) S.1 S.2.1 dX1_strike_86 (by decide) ?_
    obtain ⟨σ13, ρ14, er15, hF⟩ := bd2_some hF
    refine k_m (va_runV (As := [.int r6, .int 3]) (rest := []) S (c_X1_weary hPL hc0 er15) (cwV 2 S.2.2.2.2 (ul_V tw_2_182 tw_2_183 tw_2_184 tw_1_2 cw_X1_weary) rfl rfl rfl hv_X1_weary ⟨Nat.le_of_ble_eq_true rfl, Nat.le_of_ble_eq_true rfl⟩) ⟨PreM.blind, hM.recv hK cfX1 c0 (ct_lt0 hc0) (ly_ct hc0), hM.pre hK⟩ rfl rfl hl.1 rfl (lv_room (Nat.le_of_ble_eq_true rfl)) dX1_strike_87 ⟨Nat.zero_le _, Nat.zero_le _⟩) hM (fun H locs hM => ?_)
    show W _ _ _ _ _ _ _ _ _ _ _ _ _ _ _ (F0 m 90 ls [])
    refine lv_aload_n S.1 S.2.1 dX1_strike_90 rfl (lv_at hl 6 rfl) ?_
    refine lv_iload S.1 S.2.1 dX1_strike_91 (lv_at hl 0 rfl) ?_
    obtain ⟨r16, er16, hF⟩ := bd1_some hF
    refine k_p (va_runS (As := [.int r6]) (rest := [.ref (g.2.2 c0)]) S (c_X1_partnerOf hPL  er16) (va_cwS 1 S.2.2.2.2 (ul_S tw_2_186 tw_2_187 tw_1_2 cw_X1_partnerOf) rfl rfl rfl hs_X1_partnerOf ⟨Nat.le_of_ble_eq_true rfl, Nat.le_of_ble_eq_true rfl⟩) ⟨PreM.blind, hM.pre hK⟩ rfl rfl hl.1 rfl (lv_room (Nat.le_of_ble_eq_true rfl)) dX1_strike_93 ⟨Nat.zero_le _, Nat.zero_le _⟩) ?_
    refine lv_iconst (v := 3) S.1 S.2.1 dX1_strike_96 (by decide) ?_
    obtain ⟨σ17, ρ18, er19, hF⟩ := bd2_some hF
    refine k_m (va_runV (As := [.int r16, .int 3]) (rest := []) S (c_X1_weary hPL hc0 er19) (cwV 2 S.2.2.2.2 (ul_V tw_2_182 tw_2_183 tw_2_184 tw_1_2 cw_X1_weary) rfl rfl rfl hv_X1_weary ⟨Nat.le_of_ble_eq_true rfl, Nat.le_of_ble_eq_true rfl⟩) ⟨PreM.blind, hM.recv hK cfX1 c0 (ct_lt0 hc0) (ly_ct hc0), hM.pre hK⟩ rfl rfl hl.1 rfl (lv_room (Nat.le_of_ble_eq_true rfl)) dX1_strike_97 ⟨Nat.zero_le _, Nat.zero_le _⟩) hM (fun H locs hM => ?_)
    show W _ _ _ _ _ _ _ _ _ _ _ _ _ _ _ (F0 m 100 ls [])
    exact w_X1_strike_100 hPL hc0 S hK hr hlk hM (lv_sub hl [6, 4, 3, 1, 0] rfl) hF
/-! X1_outOfPlace -/
def X1_outOfPlace_b20 (kf : KF) (σ : IM) (ρ : RM) (c0 : Nat) (t0 : Int32) : Option Int32 := bd1 (X1_partnerOf t0) fun r2 => rd (σ (c0 + 1)) 4 r2 fun v3 => bd1 (X1_placeBy kf σ ρ c0 t0) fun r4 => bd1 (X11_way v3 r4) fun r5 => some r5
set_option maxRecDepth 20000 in
theorem w_X1_outOfPlace_20 {l : Launch} {g : GE} {A : Nat → Prop} {LP : List Nat} {kf : KF} {σ : IM} {ρ : RM} {c0 : Nat} (hPL : PL LP kf) (hc0 : Ct c0) {p : Program} {e : Env} {s : State} {m : MethodId} {args : Array Value} {below : List Frame} {meth : Method} {c : Code} (S : CallFix p m c cX1_outOfPlace 3 s args UL RX1) (hK : KK g s) (hr : meth.sig.returnType = (some .int)) (hlk : meth.locks = false) (hM : Mem lyC 48 g A (va_pl LP (skE kf)) σ ρ s.heap s.heap []) {out : Int32} : ∀ {t0 : Int32} {ls : Array Slot}, lv_has ls 3 [(0, .ref (g.2.2 c0))] → X1_outOfPlace_b20 kf σ ρ c0 t0 = some out → W p l e ({ frames := 2, cells := 0, slots := 0, locals := 42 }) s m args below meth c s.heap [] 0 0 (MQ below (Qp (some (.int out))) args s 0 0 NoA) (F0 m 20 ls [.int t0]) := by
  intro t0 ls hl hF
  unfold X1_outOfPlace_b20 at hF
  refine lv_istore_n (lv' := [(2, .int t0), (0, .ref (g.2.2 c0))]) S.1 S.2.1 dX1_outOfPlace_20 rfl hl (by decide) rfl (fun ls hl => ?_)
  refine lv_aload_n S.1 S.2.1 dX1_outOfPlace_21 rfl (lv_at hl 1 rfl) ?_
  refine r_getC S hK hM cfX1 c0 0 (c0 + 1) (ct_lt0 hc0) (ly_ct hc0) rfl (by decide) tw_1_39 dX1_outOfPlace_22 ?_
  refine lv_iload_n S.1 S.2.1 dX1_outOfPlace_25 rfl (lv_at hl 0 rfl) ?_
  obtain ⟨r2, er2, hF⟩ := bd1_some hF
  refine k_p (va_runS (As := [.int t0]) (rest := [.ref (g.2.2 (c0 + 1))]) S (c_X1_partnerOf hPL  er2) (va_cwS 1 S.2.2.2.2 (ul_S tw_2_186 tw_2_187 tw_1_2 cw_X1_partnerOf) rfl rfl rfl hs_X1_partnerOf ⟨Nat.le_of_ble_eq_true rfl, Nat.le_of_ble_eq_true rfl⟩) ⟨PreM.blind, hM.pre hK⟩ rfl rfl hl.1 rfl (lv_room (Nat.le_of_ble_eq_true rfl)) dX1_outOfPlace_26 ⟨Nat.zero_le _, Nat.zero_le _⟩) ?_
  obtain ⟨hv3, v3, ev3, hF⟩ := rd_some hF
  refine r_iald S hK hM (c0 + 1) (ct_lt hc0 1 (by decide)) (ly_c1 hc0) hv3 ev3 dX1_outOfPlace_29 ?_
  refine lv_aload_n S.1 S.2.1 dX1_outOfPlace_30 rfl (lv_at hl 1 rfl) ?_
  refine lv_iload_n S.1 S.2.1 dX1_outOfPlace_31 rfl (lv_at hl 0 rfl) ?_
  obtain ⟨r4, er4, hF⟩ := bd1_some hF
  refine k_p (va_runV (As := [.int t0]) (rest := [.int v3]) S (c_X1_placeBy hPL hc0 er4) (cwV 1 S.2.2.2.2 (ul_V tw_2_197 tw_2_198 tw_2_199 tw_1_2 cw_X1_placeBy) rfl rfl rfl hv_X1_placeBy ⟨Nat.le_of_ble_eq_true rfl, Nat.le_of_ble_eq_true rfl⟩) ⟨PreM.blind, hM.recv hK cfX1 c0 (ct_lt0 hc0) (ly_ct hc0), hM.pre hK⟩ rfl rfl hl.1 rfl (lv_room (Nat.le_of_ble_eq_true rfl)) dX1_outOfPlace_32 ⟨Nat.zero_le _, Nat.zero_le _⟩) ?_
  obtain ⟨r5, er5, hF⟩ := bd1_some hF
  refine k_p (va_runSN (As := [.int v3, .int r4]) (rest := []) S (c_X11_way hPL  er5) ⟨va_cnB 2 S.2.2.2.2 (ul_G (ul_c cw_X11_way)) rfl rfl rfl (hK.2.1 _ (List.mem_of_getElem? (i := 3) rfl)) (S.2.2.2.2 _ tw_1_1) hs_X11_way ⟨Nat.le_of_ble_eq_true rfl, Nat.le_of_ble_eq_true rfl⟩, S.2.2.2.2 _ tw_2_136, trivial⟩ ⟨PreM.blind, hM.pre hK⟩ rfl rfl hl.1 rfl (lv_room (Nat.le_of_ble_eq_true rfl)) dX1_outOfPlace_35 ⟨Nat.zero_le _, Nat.zero_le _⟩) ?_
  cases hF
  exact z_p S hr hlk rfl dX1_outOfPlace_38
def X1_outOfPlace (kf : KF) (σ : IM) (ρ : RM) (c0 : Nat) (a1 : Int32) : Option Int32 := if (σ c0 9) / 2 = a1 then (X1_outOfPlace_b20 kf σ ρ c0 (σ c0 9)) else (X1_outOfPlace_b20 kf σ ρ c0 (2 * a1))
set_option maxRecDepth 20000 in
theorem c_X1_outOfPlace {l : Launch} {g : GE} {A : Nat → Prop} {LP : List Nat} {kf : KF} {σ : IM} {ρ : RM} {c0 : Nat} {a1 : Int32} {out : Int32} (hPL : PL LP kf) (hc0 : Ct c0) (hF : X1_outOfPlace kf σ ρ c0 a1 = some out) : Met l yX1_outOfPlace (.code yX1_outOfPlace cX1_outOfPlace 3 (some .int) :: UL) ({ frames := 2, cells := 0, slots := 0, locals := 42 }) (va_Pc [.ref (g.2.2 c0), .int a1] (PreM lyC 48 g A (va_pl LP (skE kf)) σ ρ)) (Qp (some (.int out))) 0 0 NoA := by
  refine e_of (by decide) (Nat.le_of_ble_eq_true rfl) ?_
  intro p e s m below meth c ls S hr hlk hv hl
  have hM := Mem.of hv
  have hK := hv.2.1
  have hl : lv_has ls 3 [(0, .ref (g.2.2 c0)), (1, .int a1)] := hl
  unfold X1_outOfPlace at hF
  refine lv_aload_n S.1 S.2.1 dX1_outOfPlace_0 rfl (lv_at hl 0 rfl) ?_
  refine r_getI S hK hM cfX1 c0 9 (ct_lt0 hc0) (ly_ct hc0) rfl (by decide) tw_1_57 dX1_outOfPlace_1 ?_
  refine lv_iconst (v := 2) S.1 S.2.1 dX1_outOfPlace_4 (by decide) ?_
  refine lv_idiv S.1 S.2.1 dX1_outOfPlace_5 (by decide) ?_
  refine lv_iload_n S.1 S.2.1 dX1_outOfPlace_6 rfl (lv_at hl 1 rfl) ?_
  refine lv_icmp_ne (tgt := 17) S.1 S.2.1 dX1_outOfPlace_7 (by decide) (fun b1 => ?_) (fun b1 => ?_)
  · have hF := (if_neg b1).symm.trans hF
    refine lv_iconst (v := 2) S.1 S.2.1 dX1_outOfPlace_17 (by decide) ?_
    refine lv_iload_n S.1 S.2.1 dX1_outOfPlace_18 rfl (lv_at hl 1 rfl) ?_
    refine lv_imul S.1 S.2.1 dX1_outOfPlace_19 ?_
    exact w_X1_outOfPlace_20 hPL hc0 S hK hr hlk hM (lv_sub hl [0] rfl) hF
  · have hF := (if_pos b1).symm.trans hF
    refine lv_aload_n S.1 S.2.1 dX1_outOfPlace_10 rfl (lv_at hl 0 rfl) ?_
    refine r_getI S hK hM cfX1 c0 9 (ct_lt0 hc0) (ly_ct hc0) rfl (by decide) tw_1_57 dX1_outOfPlace_11 ?_
    refine lv_goto (tgt := 20) S.1 S.2.1 dX1_outOfPlace_14 (by decide) ?_
    exact w_X1_outOfPlace_20 hPL hc0 S hK hr hlk hM (lv_sub hl [0] rfl) hF
/-! X1_allTired -/
def X1_allTired (kf : KF) (σ : IM) (ρ : RM) (c0 : Nat) : Option Int32 := rd (σ (c0 + 3)) 4 0 fun v1 => rd (σ (c0 + 3)) 4 1 fun v2 => rd (σ (c0 + 3)) 4 2 fun v3 => rd (σ (c0 + 3)) 4 3 fun v4 => some (((v1 + v2) + v3) + v4)
set_option maxRecDepth 20000 in
theorem c_X1_allTired {l : Launch} {g : GE} {A : Nat → Prop} {LP : List Nat} {kf : KF} {σ : IM} {ρ : RM} {c0 : Nat} {out : Int32} (hPL : PL LP kf) (hc0 : Ct c0) (hF : X1_allTired kf σ ρ c0 = some out) : Met l yX1_allTired (.code yX1_allTired cX1_allTired 1 (some .int) :: UL) ({ frames := 0, cells := 0, slots := 0, locals := 0 }) (va_Pc [.ref (g.2.2 c0)] (PreM lyC 48 g A (va_pl LP (skE kf)) σ ρ)) (Qp (some (.int out))) 0 0 NoA := by
  refine e_of (by decide) (Nat.le_of_ble_eq_true rfl) ?_
  intro p e s m below meth c ls S hr hlk hv hl
  have hM := Mem.of hv
  have hK := hv.2.1
  have hl : lv_has ls 1 [(0, .ref (g.2.2 c0))] := hl
  unfold X1_allTired at hF
  refine lv_aload_n S.1 S.2.1 dX1_allTired_0 rfl (lv_at hl 0 rfl) ?_
  refine r_getC S hK hM cfX1 c0 2 (c0 + 3) (ct_lt0 hc0) (ly_ct hc0) rfl (by decide) tw_1_43 dX1_allTired_1 ?_
  refine lv_iconst (v := 0) S.1 S.2.1 dX1_allTired_4 (by decide) ?_
  obtain ⟨hv1, v1, ev1, hF⟩ := rd_some hF
  refine r_iald S hK hM (c0 + 3) (ct_lt hc0 3 (by decide)) (ly_c3 hc0) hv1 ev1 dX1_allTired_5 ?_
  refine lv_aload_n S.1 S.2.1 dX1_allTired_6 rfl (lv_at hl 0 rfl) ?_
  refine r_getC S hK hM cfX1 c0 2 (c0 + 3) (ct_lt0 hc0) (ly_ct hc0) rfl (by decide) tw_1_43 dX1_allTired_7 ?_
  refine lv_iconst (v := 1) S.1 S.2.1 dX1_allTired_10 (by decide) ?_
  obtain ⟨hv2, v2, ev2, hF⟩ := rd_some hF
  refine r_iald S hK hM (c0 + 3) (ct_lt hc0 3 (by decide)) (ly_c3 hc0) hv2 ev2 dX1_allTired_11 ?_
  refine lv_iadd S.1 S.2.1 dX1_allTired_12 ?_
  refine lv_aload_n S.1 S.2.1 dX1_allTired_13 rfl (lv_at hl 0 rfl) ?_
  refine r_getC S hK hM cfX1 c0 2 (c0 + 3) (ct_lt0 hc0) (ly_ct hc0) rfl (by decide) tw_1_43 dX1_allTired_14 ?_
  refine lv_iconst (v := 2) S.1 S.2.1 dX1_allTired_17 (by decide) ?_
  obtain ⟨hv3, v3, ev3, hF⟩ := rd_some hF
  refine r_iald S hK hM (c0 + 3) (ct_lt hc0 3 (by decide)) (ly_c3 hc0) hv3 ev3 dX1_allTired_18 ?_
  refine lv_iadd S.1 S.2.1 dX1_allTired_19 ?_
  refine lv_aload_n S.1 S.2.1 dX1_allTired_20 rfl (lv_at hl 0 rfl) ?_
  refine r_getC S hK hM cfX1 c0 2 (c0 + 3) (ct_lt0 hc0) (ly_ct hc0) rfl (by decide) tw_1_43 dX1_allTired_21 ?_
  refine lv_iconst (v := 3) S.1 S.2.1 dX1_allTired_24 (by decide) ?_
  obtain ⟨hv4, v4, ev4, hF⟩ := rd_some hF
  refine r_iald S hK hM (c0 + 3) (ct_lt hc0 3 (by decide)) (ly_c3 hc0) hv4 ev4 dX1_allTired_25 ?_
  refine lv_iadd S.1 S.2.1 dX1_allTired_26 ?_
  cases hF
  exact z_p S hr hlk rfl dX1_allTired_27
