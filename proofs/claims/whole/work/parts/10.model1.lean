/-! X12_isIn -/
def X12_isIn (a0 : Int32) (a1 : Int32) (a2 : Int32) : Option Int32 := if a0 < a1 then (some 0) else (if a2 < a0 then (some 0) else (some 1))
set_option maxRecDepth 20000 in
theorem c_X12_isIn {l : Launch} {g : GE} {A : Nat → Prop} {σ : IM} {a0 : Int32} {a1 : Int32} {a2 : Int32} {out : Int32} (hF : X12_isIn a0 a1 a2 = some out) : Met l yX12_isIn (.code yX12_isIn cX12_isIn 3 (some .boolean) :: UL) ({ frames := 0, cells := 0, slots := 0, locals := 0 }) (va_Pc [.int a0, .int a1, .int a2] (PreM lyM 13 g A [] σ nor)) (Qp (some (.int out))) 0 0 NoA := by
  refine e_of (by decide) (Nat.le_of_ble_eq_true rfl) ?_
  intro p e s m below meth c ls S hr hlk hv hl
  have hM := Mem.of hv
  have hK := hv.2.1
  have hl : lv_has ls 3 [(0, .int a0), (1, .int a1), (2, .int a2)] := hl
  unfold X12_isIn at hF
  refine lv_iload_n S.1 S.2.1 dX12_isIn_0 rfl (lv_at hl 0 rfl) ?_
  refine lv_iload_n S.1 S.2.1 dX12_isIn_1 rfl (lv_at hl 1 rfl) ?_
  refine lv_icmp_lt (tgt := 14) S.1 S.2.1 dX12_isIn_2 (by decide) (fun b1 => ?_) (fun b1 => ?_)
  · have hF := (if_pos b1).symm.trans hF
    refine lv_iconst (v := 0) S.1 S.2.1 dX12_isIn_14 (by decide) ?_
    cases hF
    exact z_p S hr hlk rfl dX12_isIn_15
  · have hF := (if_neg b1).symm.trans hF
    refine lv_iload_n S.1 S.2.1 dX12_isIn_5 rfl (lv_at hl 0 rfl) ?_
    refine lv_iload_n S.1 S.2.1 dX12_isIn_6 rfl (lv_at hl 2 rfl) ?_
    refine lv_icmp_gt (tgt := 14) S.1 S.2.1 dX12_isIn_7 (by decide) (fun b2 => ?_) (fun b2 => ?_)
    · have hF := (if_pos b2).symm.trans hF
      refine lv_iconst (v := 0) S.1 S.2.1 dX12_isIn_14 (by decide) ?_
      cases hF
      exact z_p S hr hlk rfl dX12_isIn_15
    · have hF := (if_neg b2).symm.trans hF
      refine lv_iconst (v := 1) S.1 S.2.1 dX12_isIn_10 (by decide) ?_
      refine lv_goto (tgt := 15) S.1 S.2.1 dX12_isIn_11 (by decide) ?_
      cases hF
      exact z_p S hr hlk rfl dX12_isIn_15
/-! X12_least -/
def X12_least (a0 : Int32) (a1 : Int32) : Option Int32 := if a1 ≤ a0 then (some a1) else (some a0)
set_option maxRecDepth 20000 in
theorem c_X12_least {l : Launch} {g : GE} {A : Nat → Prop} {σ : IM} {a0 : Int32} {a1 : Int32} {out : Int32} (hF : X12_least a0 a1 = some out) : Met l yX12_least (.code yX12_least cX12_least 2 (some .int) :: UL) ({ frames := 0, cells := 0, slots := 0, locals := 0 }) (va_Pc [.int a0, .int a1] (PreM lyM 13 g A [] σ nor)) (Qp (some (.int out))) 0 0 NoA := by
  refine e_of (by decide) (Nat.le_of_ble_eq_true rfl) ?_
  intro p e s m below meth c ls S hr hlk hv hl
  have hM := Mem.of hv
  have hK := hv.2.1
  have hl : lv_has ls 2 [(0, .int a0), (1, .int a1)] := hl
  unfold X12_least at hF
  refine lv_iload_n S.1 S.2.1 dX12_least_0 rfl (lv_at hl 0 rfl) ?_
  refine lv_iload_n S.1 S.2.1 dX12_least_1 rfl (lv_at hl 1 rfl) ?_
  refine lv_icmp_ge (tgt := 9) S.1 S.2.1 dX12_least_2 (by decide) (fun b1 => ?_) (fun b1 => ?_)
  · have hF := (if_pos b1).symm.trans hF
    refine lv_iload_n S.1 S.2.1 dX12_least_9 rfl (lv_at hl 1 rfl) ?_
    cases hF
    exact z_p S hr hlk rfl dX12_least_10
  · have hF := (if_neg b1).symm.trans hF
    refine lv_iload_n S.1 S.2.1 dX12_least_5 rfl (lv_at hl 0 rfl) ?_
    refine lv_goto (tgt := 10) S.1 S.2.1 dX12_least_6 (by decide) ?_
    cases hF
    exact z_p S hr hlk rfl dX12_least_10
/-! X12_copies -/
def X12_copies_s2 (r0 : Nat) (r1 : Nat) (k2 : Int32 → IM → Option IM) (x2 : Int32) (σ : IM) : Option IM := if 42 ≤ x2 then (some (σ)) else (rd (σ r0) 42 x2 fun v2 => wr σ r1 42 x2 v2 fun σ3 => bd (x2 + 1) fun v4 => k2 v4 σ3)
def X12_copies_b2 (r0 : Nat) (r1 : Nat) : Nat → Int32 → IM → Option IM
  | 0 => fun _ _ => none
  | n + 1 => X12_copies_s2 r0 r1 (X12_copies_b2 r0 r1 n)
set_option maxRecDepth 20000 in
theorem w_X12_copies_2 {l : Launch} {g : GE} {A : Nat → Prop} {r0 : Nat} {r1 : Nat} (hr0 : Ar r0) (hr1 : Ar r1) {p : Program} {e : Env} {s : State} {m : MethodId} {args : Array Value} {below : List Frame} {meth : Method} {c : Code} (S : CallFix p m c cX12_copies 3 s args UL RX12) (hK : KK g s) (hr : meth.sig.returnType = none) (hlk : meth.locks = false) {out : IM} {k2 : Int32 → IM → Option IM} (hk2 : ∀ {x2 : Int32} {σ : IM} {H : Heap} {locs : List Loc} {ls : Array Slot}, Mem lyM 13 g A [] σ nor s.heap H locs → lv_has ls 3 [(0, .ref (g.2.2 r0)), (1, .ref (g.2.2 r1)), (2, .int x2)] → k2 x2 σ = some out → W p l e ({ frames := 0, cells := 0, slots := 0, locals := 0 }) s m args below meth c H locs 0 0 (MQ below (Qm lyM 13 g A [] out nor none) args s 0 0 A) (F0 m 2 ls [])) : ∀ {x2 : Int32} {σ : IM} {H : Heap} {locs : List Loc} {ls : Array Slot}, Mem lyM 13 g A [] σ nor s.heap H locs → lv_has ls 3 [(0, .ref (g.2.2 r0)), (1, .ref (g.2.2 r1)), (2, .int x2)] → X12_copies_s2 r0 r1 k2 x2 σ = some out → W p l e ({ frames := 0, cells := 0, slots := 0, locals := 0 }) s m args below meth c H locs 0 0 (MQ below (Qm lyM 13 g A [] out nor none) args s 0 0 A) (F0 m 2 ls []) := by
  intro x2 σ H locs ls hM hl hF
  unfold X12_copies_s2 at hF
  refine lv_iload_n S.1 S.2.1 dX12_copies_2 rfl (lv_at hl 2 rfl) ?_
  refine lv_bipush (v := 42) S.1 S.2.1 dX12_copies_3 (by decide) ?_
  refine lv_icmp_ge (tgt := 20) S.1 S.2.1 dX12_copies_5 (by decide) (fun b1 => ?_) (fun b1 => ?_)
  · have hF := (if_pos b1).symm.trans hF
    cases hF
    exact z_mv S hM hr hlk dX12_copies_20
  · have hF := (if_neg b1).symm.trans hF
    refine lv_aload_n S.1 S.2.1 dX12_copies_8 rfl (lv_at hl 1 rfl) ?_
    refine lv_iload_n S.1 S.2.1 dX12_copies_9 rfl (lv_at hl 2 rfl) ?_
    refine lv_aload_n S.1 S.2.1 dX12_copies_10 rfl (lv_at hl 0 rfl) ?_
    refine lv_iload_n S.1 S.2.1 dX12_copies_11 rfl (lv_at hl 2 rfl) ?_
    obtain ⟨hv2, v2, ev2, hF⟩ := rd_some hF
    refine r_iald S hK hM r0 (ar_lt hr0) (ly_ar hr0) hv2 ev2 dX12_copies_12 ?_
    obtain ⟨hσ3, σ3, eσ3, hF⟩ := wr_some hF
    refine r_iast S hK hM r1 (ar_lt hr1) (ly_ar hr1) hσ3 eσ3 dX12_copies_13 (fun H locs hM => ?_)
    obtain ⟨v4, ev4, hF⟩ := bd_some hF
    refine lv_iinc (v := v4) (lv' := [(2, .int v4), (0, .ref (g.2.2 r0)), (1, .ref (g.2.2 r1))]) S.1 S.2.1 dX12_copies_14 hl (k := 2) rfl (by rw [ev4]; rfl) (by decide) rfl (fun ls hl => ?_)
    refine lv_goto (tgt := 2) S.1 S.2.1 dX12_copies_17 (by decide) ?_
    exact hk2 hM (lv_sub hl [1, 2, 0] rfl)  hF
theorem wl_X12_copies_2 {l : Launch} {g : GE} {A : Nat → Prop} {r0 : Nat} {r1 : Nat} (hr0 : Ar r0) (hr1 : Ar r1) {p : Program} {e : Env} {s : State} {m : MethodId} {args : Array Value} {below : List Frame} {meth : Method} {c : Code} (S : CallFix p m c cX12_copies 3 s args UL RX12) (hK : KK g s) (hr : meth.sig.returnType = none) (hlk : meth.locks = false) {out : IM} : ∀ (n : Nat) {x2 : Int32} {σ : IM} {H : Heap} {locs : List Loc} {ls : Array Slot}, Mem lyM 13 g A [] σ nor s.heap H locs → lv_has ls 3 [(0, .ref (g.2.2 r0)), (1, .ref (g.2.2 r1)), (2, .int x2)] → X12_copies_b2 r0 r1 n x2 σ = some out → W p l e ({ frames := 0, cells := 0, slots := 0, locals := 0 }) s m args below meth c H locs 0 0 (MQ below (Qm lyM 13 g A [] out nor none) args s 0 0 A) (F0 m 2 ls []) := by
  intro n
  induction n with
  | zero =>
    intro x2 σ H locs ls hM hl hF
    cases hF
  | succ n ih =>
    intro x2 σ H locs ls hM hl hF
    exact w_X12_copies_2 hr0 hr1 S hK hr hlk ih hM hl hF
def X12_copies (σ : IM) (r0 : Nat) (r1 : Nat) : Option IM := X12_copies_b2 r0 r1 1000 0 σ
set_option maxRecDepth 20000 in
theorem c_X12_copies {l : Launch} {g : GE} {A : Nat → Prop} {σ : IM} {r0 : Nat} {r1 : Nat} {out : IM} (hr0 : Ar r0) (hr1 : Ar r1) (hF : X12_copies σ r0 r1 = some out) : Met l yX12_copies (.code yX12_copies cX12_copies 3 none :: UL) ({ frames := 0, cells := 0, slots := 0, locals := 0 }) (va_Pc [.ref (g.2.2 r0), .ref (g.2.2 r1)] (PreM lyM 13 g A [] σ nor)) (Qm lyM 13 g A [] out nor none) 0 0 A := by
  refine e_of (by decide) (Nat.le_of_ble_eq_true rfl) ?_
  intro p e s m below meth c ls S hr hlk hv hl
  have hM := Mem.of hv
  have hK := hv.2.1
  have hl : lv_has ls 3 [(0, .ref (g.2.2 r0)), (1, .ref (g.2.2 r1))] := hl
  unfold X12_copies at hF
  refine lv_iconst (v := 0) S.1 S.2.1 dX12_copies_0 (by decide) ?_
  refine lv_istore_n (lv' := [(2, .int 0), (0, .ref (g.2.2 r0)), (1, .ref (g.2.2 r1))]) S.1 S.2.1 dX12_copies_1 rfl hl (by decide) rfl (fun ls hl => ?_)
  exact wl_X12_copies_2 hr0 hr1 S hK hr hlk 1000 hM (lv_sub hl [1, 2, 0] rfl) hF
/-! X12_ofS -/
def X12_ofS (a0 : Int32) (a1 : Int32) : Option Int32 := some ((4 + (2 * a0)) + a1)
set_option maxRecDepth 20000 in
theorem c_X12_ofS {l : Launch} {g : GE} {A : Nat → Prop} {σ : IM} {a0 : Int32} {a1 : Int32} {out : Int32} (hF : X12_ofS a0 a1 = some out) : Met l yX12_ofS (.code yX12_ofS cX12_ofS 2 (some .int) :: UL) ({ frames := 0, cells := 0, slots := 0, locals := 0 }) (va_Pc [.int a0, .int a1] (PreM lyM 13 g A [] σ nor)) (Qp (some (.int out))) 0 0 NoA := by
  refine e_of (by decide) (Nat.le_of_ble_eq_true rfl) ?_
  intro p e s m below meth c ls S hr hlk hv hl
  have hM := Mem.of hv
  have hK := hv.2.1
  have hl : lv_has ls 2 [(0, .int a0), (1, .int a1)] := hl
  unfold X12_ofS at hF
  refine lv_iconst (v := 4) S.1 S.2.1 dX12_ofS_0 (by decide) ?_
  refine lv_iconst (v := 2) S.1 S.2.1 dX12_ofS_1 (by decide) ?_
  refine lv_iload_n S.1 S.2.1 dX12_ofS_2 rfl (lv_at hl 0 rfl) ?_
  refine lv_imul S.1 S.2.1 dX12_ofS_3 ?_
  refine lv_iadd S.1 S.2.1 dX12_ofS_4 ?_
  refine lv_iload_n S.1 S.2.1 dX12_ofS_5 rfl (lv_at hl 1 rfl) ?_
  refine lv_iadd S.1 S.2.1 dX12_ofS_6 ?_
  cases hF
  exact z_p S hr hlk rfl dX12_ofS_7
/-! X12_ofP -/
def X12_ofP (a0 : Int32) (a1 : Int32) : Option Int32 := some ((20 + (4 * a0)) + a1)
set_option maxRecDepth 20000 in
theorem c_X12_ofP {l : Launch} {g : GE} {A : Nat → Prop} {σ : IM} {a0 : Int32} {a1 : Int32} {out : Int32} (hF : X12_ofP a0 a1 = some out) : Met l yX12_ofP (.code yX12_ofP cX12_ofP 2 (some .int) :: UL) ({ frames := 0, cells := 0, slots := 0, locals := 0 }) (va_Pc [.int a0, .int a1] (PreM lyM 13 g A [] σ nor)) (Qp (some (.int out))) 0 0 NoA := by
  refine e_of (by decide) (Nat.le_of_ble_eq_true rfl) ?_
  intro p e s m below meth c ls S hr hlk hv hl
  have hM := Mem.of hv
  have hK := hv.2.1
  have hl : lv_has ls 2 [(0, .int a0), (1, .int a1)] := hl
  unfold X12_ofP at hF
  refine lv_bipush (v := 20) S.1 S.2.1 dX12_ofP_0 (by decide) ?_
  refine lv_iconst (v := 4) S.1 S.2.1 dX12_ofP_2 (by decide) ?_
  refine lv_iload_n S.1 S.2.1 dX12_ofP_3 rfl (lv_at hl 0 rfl) ?_
  refine lv_imul S.1 S.2.1 dX12_ofP_4 ?_
  refine lv_iadd S.1 S.2.1 dX12_ofP_5 ?_
  refine lv_iload_n S.1 S.2.1 dX12_ofP_6 rfl (lv_at hl 1 rfl) ?_
  refine lv_iadd S.1 S.2.1 dX12_ofP_7 ?_
  cases hF
  exact z_p S hr hlk rfl dX12_ofP_8
/-! X12_ofSide -/
def X12_ofSide (a0 : Int32) (a1 : Int32) : Option Int32 := some ((36 + (3 * a0)) + a1)
set_option maxRecDepth 20000 in
theorem c_X12_ofSide {l : Launch} {g : GE} {A : Nat → Prop} {σ : IM} {a0 : Int32} {a1 : Int32} {out : Int32} (hF : X12_ofSide a0 a1 = some out) : Met l yX12_ofSide (.code yX12_ofSide cX12_ofSide 2 (some .int) :: UL) ({ frames := 0, cells := 0, slots := 0, locals := 0 }) (va_Pc [.int a0, .int a1] (PreM lyM 13 g A [] σ nor)) (Qp (some (.int out))) 0 0 NoA := by
  refine e_of (by decide) (Nat.le_of_ble_eq_true rfl) ?_
  intro p e s m below meth c ls S hr hlk hv hl
  have hM := Mem.of hv
  have hK := hv.2.1
  have hl : lv_has ls 2 [(0, .int a0), (1, .int a1)] := hl
  unfold X12_ofSide at hF
  refine lv_bipush (v := 36) S.1 S.2.1 dX12_ofSide_0 (by decide) ?_
  refine lv_iconst (v := 3) S.1 S.2.1 dX12_ofSide_2 (by decide) ?_
  refine lv_iload_n S.1 S.2.1 dX12_ofSide_3 rfl (lv_at hl 0 rfl) ?_
  refine lv_imul S.1 S.2.1 dX12_ofSide_4 ?_
  refine lv_iadd S.1 S.2.1 dX12_ofSide_5 ?_
  refine lv_iload_n S.1 S.2.1 dX12_ofSide_6 rfl (lv_at hl 1 rfl) ?_
  refine lv_iadd S.1 S.2.1 dX12_ofSide_7 ?_
  cases hF
  exact z_p S hr hlk rfl dX12_ofSide_8
/-! X12_isStroke -/
def X12_isStroke (σ : IM) (a1 : Int32) : Option Int32 := rd (σ 1) 42 0 fun v1 => bd1 (X12_isIn a1 0 (v1 - 1)) fun r2 => bz r2 <| some r2
set_option maxRecDepth 20000 in
theorem c_X12_isStroke {l : Launch} {g : GE} {A : Nat → Prop} {σ : IM} {a1 : Int32} {out : Int32} (hF : X12_isStroke σ a1 = some out) : Met l yX12_isStroke (.code yX12_isStroke cX12_isStroke 2 (some .boolean) :: UL) ({ frames := 1, cells := 0, slots := 0, locals := 22 }) (va_Pc [.ref (g.2.2 0), .int a1] (PreM lyM 13 g A [] σ nor)) (Qp (some (.int out))) 0 0 NoA := by
  refine e_of (by decide) (Nat.le_of_ble_eq_true rfl) ?_
  intro p e s m below meth c ls S hr hlk hv hl
  have hM := Mem.of hv
  have hK := hv.2.1
  have hl : lv_has ls 2 [(0, .ref (g.2.2 0)), (1, .int a1)] := hl
  unfold X12_isStroke at hF
  refine lv_iload_n S.1 S.2.1 dX12_isStroke_0 rfl (lv_at hl 1 rfl) ?_
  refine lv_iconst (v := 0) S.1 S.2.1 dX12_isStroke_1 (by decide) ?_
  refine lv_aload_n S.1 S.2.1 dX12_isStroke_2 rfl (lv_at hl 0 rfl) ?_
  refine r_getC S hK hM cfX12 0 0 1 (by decide) lm_0 rfl (by decide) tw_5_31 dX12_isStroke_3 ?_
  refine lv_iconst (v := 0) S.1 S.2.1 dX12_isStroke_6 (by decide) ?_
  obtain ⟨hv1, v1, ev1, hF⟩ := rd_some hF
  refine r_iald S hK hM 1 (by decide) rfl hv1 ev1 dX12_isStroke_7 ?_
  refine lv_iconst (v := 1) S.1 S.2.1 dX12_isStroke_8 (by decide) ?_
  refine lv_isub S.1 S.2.1 dX12_isStroke_9 ?_
  obtain ⟨r2, er2, hF⟩ := bd1_some hF
  refine k_p (va_runS (As := [.int a1, .int 0, .int (v1 - 1)]) (rest := []) S (c_X12_isIn   er2) (va_cwS 3 S.2.2.2.2 (ul_S tw_5_103 tw_5_104 tw_1_12 cw_X12_isIn) rfl rfl rfl hs_X12_isIn ⟨Nat.le_of_ble_eq_true rfl, Nat.le_of_ble_eq_true rfl⟩) ⟨PreM.blind, hM.pre hK⟩ rfl rfl hl.1 rfl (lv_room (Nat.le_of_ble_eq_true rfl)) dX12_isStroke_10 ⟨Nat.zero_le _, Nat.zero_le _⟩) ?_
  obtain ⟨h3, hF⟩ := bz_some hF
  cases hF
  exact z_p S hr hlk h3 dX12_isStroke_13
/-! X12_isCell -/
def X12_isCell (a0 : Int32) : Option Int32 := bd1 (X12_isIn a0 0 8) fun r1 => bz r1 <| some r1
set_option maxRecDepth 20000 in
theorem c_X12_isCell {l : Launch} {g : GE} {A : Nat → Prop} {σ : IM} {a0 : Int32} {out : Int32} (hF : X12_isCell a0 = some out) : Met l yX12_isCell (.code yX12_isCell cX12_isCell 1 (some .boolean) :: UL) ({ frames := 1, cells := 0, slots := 0, locals := 22 }) (va_Pc [.int a0] (PreM lyM 13 g A [] σ nor)) (Qp (some (.int out))) 0 0 NoA := by
  refine e_of (by decide) (Nat.le_of_ble_eq_true rfl) ?_
  intro p e s m below meth c ls S hr hlk hv hl
  have hM := Mem.of hv
  have hK := hv.2.1
  have hl : lv_has ls 1 [(0, .int a0)] := hl
  unfold X12_isCell at hF
  refine lv_iload_n S.1 S.2.1 dX12_isCell_0 rfl (lv_at hl 0 rfl) ?_
  refine lv_iconst (v := 0) S.1 S.2.1 dX12_isCell_1 (by decide) ?_
  refine lv_bipush (v := 8) S.1 S.2.1 dX12_isCell_2 (by decide) ?_
  obtain ⟨r1, er1, hF⟩ := bd1_some hF
  refine k_p (va_runS (As := [.int a0, .int 0, .int 8]) (rest := []) S (c_X12_isIn   er1) (va_cwS 3 S.2.2.2.2 (ul_S tw_5_103 tw_5_104 tw_1_12 cw_X12_isIn) rfl rfl rfl hs_X12_isIn ⟨Nat.le_of_ble_eq_true rfl, Nat.le_of_ble_eq_true rfl⟩) ⟨PreM.blind, hM.pre hK⟩ rfl rfl hl.1 rfl (lv_room (Nat.le_of_ble_eq_true rfl)) dX12_isCell_4 ⟨Nat.zero_le _, Nat.zero_le _⟩) ?_
  obtain ⟨h2, hF⟩ := bz_some hF
  cases hF
  exact z_p S hr hlk h2 dX12_isCell_7
/-! X12_isPlayer -/
def X12_isPlayer (a0 : Int32) : Option Int32 := bd1 (X12_isIn a0 0 3) fun r1 => bz r1 <| some r1
set_option maxRecDepth 20000 in
theorem c_X12_isPlayer {l : Launch} {g : GE} {A : Nat → Prop} {σ : IM} {a0 : Int32} {out : Int32} (hF : X12_isPlayer a0 = some out) : Met l yX12_isPlayer (.code yX12_isPlayer cX12_isPlayer 1 (some .boolean) :: UL) ({ frames := 1, cells := 0, slots := 0, locals := 22 }) (va_Pc [.int a0] (PreM lyM 13 g A [] σ nor)) (Qp (some (.int out))) 0 0 NoA := by
  refine e_of (by decide) (Nat.le_of_ble_eq_true rfl) ?_
  intro p e s m below meth c ls S hr hlk hv hl
  have hM := Mem.of hv
  have hK := hv.2.1
  have hl : lv_has ls 1 [(0, .int a0)] := hl
  unfold X12_isPlayer at hF
  refine lv_iload_n S.1 S.2.1 dX12_isPlayer_0 rfl (lv_at hl 0 rfl) ?_
  refine lv_iconst (v := 0) S.1 S.2.1 dX12_isPlayer_1 (by decide) ?_
  refine lv_iconst (v := 3) S.1 S.2.1 dX12_isPlayer_2 (by decide) ?_
  obtain ⟨r1, er1, hF⟩ := bd1_some hF
  refine k_p (va_runS (As := [.int a0, .int 0, .int 3]) (rest := []) S (c_X12_isIn   er1) (va_cwS 3 S.2.2.2.2 (ul_S tw_5_103 tw_5_104 tw_1_12 cw_X12_isIn) rfl rfl rfl hs_X12_isIn ⟨Nat.le_of_ble_eq_true rfl, Nat.le_of_ble_eq_true rfl⟩) ⟨PreM.blind, hM.pre hK⟩ rfl rfl hl.1 rfl (lv_room (Nat.le_of_ble_eq_true rfl)) dX12_isPlayer_3 ⟨Nat.zero_le _, Nat.zero_le _⟩) ?_
  obtain ⟨h2, hF⟩ := bz_some hF
  cases hF
  exact z_p S hr hlk h2 dX12_isPlayer_6
/-! X12_has -/
def X12_has (a0 : Int32) (a1 : Int32) : Option Int32 := if (a0 >>> (a1 &&& 31)) &&& 1 = 1 then (some 1) else (some 0)
set_option maxRecDepth 20000 in
theorem c_X12_has {l : Launch} {g : GE} {A : Nat → Prop} {σ : IM} {a0 : Int32} {a1 : Int32} {out : Int32} (hF : X12_has a0 a1 = some out) : Met l yX12_has (.code yX12_has cX12_has 2 (some .boolean) :: UL) ({ frames := 0, cells := 0, slots := 0, locals := 0 }) (va_Pc [.int a0, .int a1] (PreM lyM 13 g A [] σ nor)) (Qp (some (.int out))) 0 0 NoA := by
  refine e_of (by decide) (Nat.le_of_ble_eq_true rfl) ?_
  intro p e s m below meth c ls S hr hlk hv hl
  have hM := Mem.of hv
  have hK := hv.2.1
  have hl : lv_has ls 2 [(0, .int a0), (1, .int a1)] := hl
  unfold X12_has at hF
  refine lv_iload_n S.1 S.2.1 dX12_has_0 rfl (lv_at hl 0 rfl) ?_
  refine lv_iload_n S.1 S.2.1 dX12_has_1 rfl (lv_at hl 1 rfl) ?_
  refine lv_ishr S.1 S.2.1 dX12_has_2 ?_
  refine lv_iconst (v := 1) S.1 S.2.1 dX12_has_3 (by decide) ?_
  refine lv_iand S.1 S.2.1 dX12_has_4 ?_
  refine lv_iconst (v := 1) S.1 S.2.1 dX12_has_5 (by decide) ?_
  refine lv_icmp_ne (tgt := 13) S.1 S.2.1 dX12_has_6 (by decide) (fun b1 => ?_) (fun b1 => ?_)
  · have hF := (if_neg b1).symm.trans hF
    refine lv_iconst (v := 0) S.1 S.2.1 dX12_has_13 (by decide) ?_
    cases hF
    exact z_p S hr hlk rfl dX12_has_14
  · have hF := (if_pos b1).symm.trans hF
    refine lv_iconst (v := 1) S.1 S.2.1 dX12_has_9 (by decide) ?_
    refine lv_goto (tgt := 14) S.1 S.2.1 dX12_has_10 (by decide) ?_
    cases hF
    exact z_p S hr hlk rfl dX12_has_14
/-! X12_apart -/
def X12_apart (a0 : Int32) (a1 : Int32) : Option Int32 := if a1 ≤ a0 then (some (a0 - a1)) else (some (a1 - a0))
set_option maxRecDepth 20000 in
theorem c_X12_apart {l : Launch} {g : GE} {A : Nat → Prop} {σ : IM} {a0 : Int32} {a1 : Int32} {out : Int32} (hF : X12_apart a0 a1 = some out) : Met l yX12_apart (.code yX12_apart cX12_apart 2 (some .int) :: UL) ({ frames := 0, cells := 0, slots := 0, locals := 0 }) (va_Pc [.int a0, .int a1] (PreM lyM 13 g A [] σ nor)) (Qp (some (.int out))) 0 0 NoA := by
  refine e_of (by decide) (Nat.le_of_ble_eq_true rfl) ?_
  intro p e s m below meth c ls S hr hlk hv hl
  have hM := Mem.of hv
  have hK := hv.2.1
  have hl : lv_has ls 2 [(0, .int a0), (1, .int a1)] := hl
  unfold X12_apart at hF
  refine lv_iload_n S.1 S.2.1 dX12_apart_0 rfl (lv_at hl 0 rfl) ?_
  refine lv_iload_n S.1 S.2.1 dX12_apart_1 rfl (lv_at hl 1 rfl) ?_
  refine lv_icmp_ge (tgt := 11) S.1 S.2.1 dX12_apart_2 (by decide) (fun b1 => ?_) (fun b1 => ?_)
  · have hF := (if_pos b1).symm.trans hF
    refine lv_iload_n S.1 S.2.1 dX12_apart_11 rfl (lv_at hl 0 rfl) ?_
    refine lv_iload_n S.1 S.2.1 dX12_apart_12 rfl (lv_at hl 1 rfl) ?_
    refine lv_isub S.1 S.2.1 dX12_apart_13 ?_
    cases hF
    exact z_p S hr hlk rfl dX12_apart_14
  · have hF := (if_neg b1).symm.trans hF
    refine lv_iload_n S.1 S.2.1 dX12_apart_5 rfl (lv_at hl 1 rfl) ?_
    refine lv_iload_n S.1 S.2.1 dX12_apart_6 rfl (lv_at hl 0 rfl) ?_
    refine lv_isub S.1 S.2.1 dX12_apart_7 ?_
    refine lv_goto (tgt := 14) S.1 S.2.1 dX12_apart_8 (by decide) ?_
    cases hF
    exact z_p S hr hlk rfl dX12_apart_14
/-! X12_wayOf -/
def X12_wayOf (a0 : Int32) (a1 : Int32) : Option Int32 := bd1 (X12_apart (a0 / 3) (a1 / 3)) fun r1 => bd1 (X12_apart (rem32 a0 3) (rem32 a1 3)) fun r2 => some (r1 + r2)
set_option maxRecDepth 20000 in
theorem c_X12_wayOf {l : Launch} {g : GE} {A : Nat → Prop} {σ : IM} {a0 : Int32} {a1 : Int32} {out : Int32} (hF : X12_wayOf a0 a1 = some out) : Met l yX12_wayOf (.code yX12_wayOf cX12_wayOf 2 (some .int) :: UL) ({ frames := 1, cells := 0, slots := 0, locals := 21 }) (va_Pc [.int a0, .int a1] (PreM lyM 13 g A [] σ nor)) (Qp (some (.int out))) 0 0 NoA := by
  refine e_of (by decide) (Nat.le_of_ble_eq_true rfl) ?_
  intro p e s m below meth c ls S hr hlk hv hl
  have hM := Mem.of hv
  have hK := hv.2.1
  have hl : lv_has ls 2 [(0, .int a0), (1, .int a1)] := hl
  unfold X12_wayOf at hF
  refine lv_iload_n S.1 S.2.1 dX12_wayOf_0 rfl (lv_at hl 0 rfl) ?_
  refine lv_iconst (v := 3) S.1 S.2.1 dX12_wayOf_1 (by decide) ?_
  refine lv_idiv S.1 S.2.1 dX12_wayOf_2 (by decide) ?_
  refine lv_iload_n S.1 S.2.1 dX12_wayOf_3 rfl (lv_at hl 1 rfl) ?_
  refine lv_iconst (v := 3) S.1 S.2.1 dX12_wayOf_4 (by decide) ?_
  refine lv_idiv S.1 S.2.1 dX12_wayOf_5 (by decide) ?_
  obtain ⟨r1, er1, hF⟩ := bd1_some hF
  refine k_p (va_runS (As := [.int (a0 / 3), .int (a1 / 3)]) (rest := []) S (c_X12_apart   er1) (va_cwS 2 S.2.2.2.2 (ul_S tw_5_168 tw_5_169 tw_1_12 cw_X12_apart) rfl rfl rfl hs_X12_apart ⟨Nat.le_of_ble_eq_true rfl, Nat.le_of_ble_eq_true rfl⟩) ⟨PreM.blind, hM.pre hK⟩ rfl rfl hl.1 rfl (lv_room (Nat.le_of_ble_eq_true rfl)) dX12_wayOf_6 ⟨Nat.zero_le _, Nat.zero_le _⟩) ?_
  refine lv_iload_n S.1 S.2.1 dX12_wayOf_9 rfl (lv_at hl 0 rfl) ?_
  refine lv_iconst (v := 3) S.1 S.2.1 dX12_wayOf_10 (by decide) ?_
  refine r_irem S dX12_wayOf_11 (by decide) ?_
  refine lv_iload_n S.1 S.2.1 dX12_wayOf_12 rfl (lv_at hl 1 rfl) ?_
  refine lv_iconst (v := 3) S.1 S.2.1 dX12_wayOf_13 (by decide) ?_
  refine r_irem S dX12_wayOf_14 (by decide) ?_
  obtain ⟨r2, er2, hF⟩ := bd1_some hF
  refine k_p (va_runS (As := [.int (rem32 a0 3), .int (rem32 a1 3)]) (rest := [.int r1]) S (c_X12_apart   er2) (va_cwS 2 S.2.2.2.2 (ul_S tw_5_168 tw_5_169 tw_1_12 cw_X12_apart) rfl rfl rfl hs_X12_apart ⟨Nat.le_of_ble_eq_true rfl, Nat.le_of_ble_eq_true rfl⟩) ⟨PreM.blind, hM.pre hK⟩ rfl rfl hl.1 rfl (lv_room (Nat.le_of_ble_eq_true rfl)) dX12_wayOf_15 ⟨Nat.zero_le _, Nat.zero_le _⟩) ?_
  refine lv_iadd S.1 S.2.1 dX12_wayOf_18 ?_
  cases hF
  exact z_p S hr hlk rfl dX12_wayOf_19
/-! X12_timeBy -/
def X12_timeBy_b11 (x0 : Int32) (x1 : Int32) (t0 : Int32) : Option Int32 := if x0 = 1 then (if x1 < 5 then (some 2) else (some 1)) else (if x0 = 2 then (some t0) else (if x0 = 3 then (some 6) else (if x0 = 4 then (some (t0 - 1)) else (if x0 = 7 then (some 7) else (some 3)))))
set_option maxRecDepth 20000 in
theorem w_X12_timeBy_11 {l : Launch} {g : GE} {A : Nat → Prop} {σ : IM} {p : Program} {e : Env} {s : State} {m : MethodId} {args : Array Value} {below : List Frame} {meth : Method} {c : Code} (S : CallFix p m c cX12_timeBy 4 s args UL RX12) (hK : KK g s) (hr : meth.sig.returnType = (some .int)) (hlk : meth.locks = false) (hM : Mem lyM 13 g A [] σ nor s.heap s.heap []) {out : Int32} : ∀ {x0 : Int32} {x1 : Int32} {t0 : Int32} {ls : Array Slot}, lv_has ls 4 [(0, .int x0), (1, .int x1)] → X12_timeBy_b11 x0 x1 t0 = some out → W p l e ({ frames := 0, cells := 0, slots := 0, locals := 0 }) s m args below meth c s.heap [] 0 0 (MQ below (Qp (some (.int out))) args s 0 0 NoA) (F0 m 11 ls [.int t0]) := by
  intro x0 x1 t0 ls hl hF
  unfold X12_timeBy_b11 at hF
  refine lv_istore_n (lv' := [(3, .int t0), (0, .int x0), (1, .int x1)]) S.1 S.2.1 dX12_timeBy_11 rfl hl (by decide) rfl (fun ls hl => ?_)
  refine lv_iload_n S.1 S.2.1 dX12_timeBy_12 rfl (lv_at hl 1 rfl) ?_
  by_cases b2 : x0 = 1
  · have hF := (if_pos b2).symm.trans hF
    refine r_tab (off := 43) (tgt := 56) S dX12_timeBy_13 b2 (by decide) (by decide) ?_
    refine lv_iload_n S.1 S.2.1 dX12_timeBy_56 rfl (lv_at hl 2 rfl) ?_
    refine lv_iconst (v := 5) S.1 S.2.1 dX12_timeBy_57 (by decide) ?_
    refine lv_icmp_lt (tgt := 65) S.1 S.2.1 dX12_timeBy_58 (by decide) (fun b3 => ?_) (fun b3 => ?_)
    · have hF := (if_pos b3).symm.trans hF
      refine lv_iconst (v := 2) S.1 S.2.1 dX12_timeBy_65 (by decide) ?_
      cases hF
      exact z_p S hr hlk rfl dX12_timeBy_66
    · have hF := (if_neg b3).symm.trans hF
      refine lv_iconst (v := 1) S.1 S.2.1 dX12_timeBy_61 (by decide) ?_
      refine lv_goto (tgt := 66) S.1 S.2.1 dX12_timeBy_62 (by decide) ?_
      cases hF
      exact z_p S hr hlk rfl dX12_timeBy_66
  · have hF := (if_neg b2).symm.trans hF
    by_cases b4 : x0 = 2
    · have hF := (if_pos b4).symm.trans hF
      refine r_tab (off := 54) (tgt := 67) S dX12_timeBy_13 b4 (by decide) (by decide) ?_
      refine lv_iload_n S.1 S.2.1 dX12_timeBy_67 rfl (lv_at hl 0 rfl) ?_
      cases hF
      exact z_p S hr hlk rfl dX12_timeBy_68
    · have hF := (if_neg b4).symm.trans hF
      by_cases b5 : x0 = 3
      · have hF := (if_pos b5).symm.trans hF
        refine r_tab (off := 56) (tgt := 69) S dX12_timeBy_13 b5 (by decide) (by decide) ?_
        refine lv_bipush (v := 6) S.1 S.2.1 dX12_timeBy_69 (by decide) ?_
        cases hF
        exact z_p S hr hlk rfl dX12_timeBy_71
      · have hF := (if_neg b5).symm.trans hF
        by_cases b6 : x0 = 4
        · have hF := (if_pos b6).symm.trans hF
          refine r_tab (off := 59) (tgt := 72) S dX12_timeBy_13 b6 (by decide) (by decide) ?_
          refine lv_iload_n S.1 S.2.1 dX12_timeBy_72 rfl (lv_at hl 0 rfl) ?_
          refine lv_iconst (v := 1) S.1 S.2.1 dX12_timeBy_73 (by decide) ?_
          refine lv_isub S.1 S.2.1 dX12_timeBy_74 ?_
          cases hF
          exact z_p S hr hlk rfl dX12_timeBy_75
        · have hF := (if_neg b6).symm.trans hF
          by_cases b7 : x0 = 7
          · have hF := (if_pos b7).symm.trans hF
            refine r_tab (off := 63) (tgt := 76) S dX12_timeBy_13 b7 (by decide) (by decide) ?_
            refine lv_bipush (v := 7) S.1 S.2.1 dX12_timeBy_76 (by decide) ?_
            cases hF
            exact z_p S hr hlk rfl dX12_timeBy_78
          · have hF := (if_neg b7).symm.trans hF
            by_cases b8 : x0 = 5
            · refine r_tab (off := 66) (tgt := 79) S dX12_timeBy_13 b8 (by decide) (by decide) ?_
              refine lv_iconst (v := 3) S.1 S.2.1 dX12_timeBy_79 (by decide) ?_
              cases hF
              exact z_p S hr hlk rfl dX12_timeBy_80
            · by_cases b9 : x0 = 6
              · refine r_tab (off := 66) (tgt := 79) S dX12_timeBy_13 b9 (by decide) (by decide) ?_
                refine lv_iconst (v := 3) S.1 S.2.1 dX12_timeBy_79 (by decide) ?_
                cases hF
                exact z_p S hr hlk rfl dX12_timeBy_80
              · refine r_tabD (tgt := 79) S dX12_timeBy_13 (by have n0 := ne_toInt b2 (k := 1) (by decide); have n1 := ne_toInt b4 (k := 2) (by decide); have n2 := ne_toInt b5 (k := 3) (by decide); have n3 := ne_toInt b6 (k := 4) (by decide); have n4 := ne_toInt b7 (k := 7) (by decide); have n5 := ne_toInt b8 (k := 5) (by decide); have n6 := ne_toInt b9 (k := 6) (by decide); omega) (by decide) ?_
                refine lv_iconst (v := 3) S.1 S.2.1 dX12_timeBy_79 (by decide) ?_
                cases hF
                exact z_p S hr hlk rfl dX12_timeBy_80
def X12_timeBy (a0 : Int32) (a1 : Int32) (a2 : Int32) : Option Int32 := if a2 / 3 = 0 then (X12_timeBy_b11 a0 a1 2) else (X12_timeBy_b11 a0 a1 3)
set_option maxRecDepth 20000 in
theorem c_X12_timeBy {l : Launch} {g : GE} {A : Nat → Prop} {σ : IM} {a0 : Int32} {a1 : Int32} {a2 : Int32} {out : Int32} (hF : X12_timeBy a0 a1 a2 = some out) : Met l yX12_timeBy (.code yX12_timeBy cX12_timeBy 4 (some .int) :: UL) ({ frames := 0, cells := 0, slots := 0, locals := 0 }) (va_Pc [.int a0, .int a1, .int a2] (PreM lyM 13 g A [] σ nor)) (Qp (some (.int out))) 0 0 NoA := by
  refine e_of (by decide) (Nat.le_of_ble_eq_true rfl) ?_
  intro p e s m below meth c ls S hr hlk hv hl
  have hM := Mem.of hv
  have hK := hv.2.1
  have hl : lv_has ls 4 [(0, .int a0), (1, .int a1), (2, .int a2)] := hl
  unfold X12_timeBy at hF
  refine lv_iload_n S.1 S.2.1 dX12_timeBy_0 rfl (lv_at hl 2 rfl) ?_
  refine lv_iconst (v := 3) S.1 S.2.1 dX12_timeBy_1 (by decide) ?_
  refine lv_idiv S.1 S.2.1 dX12_timeBy_2 (by decide) ?_
  refine lv_if_ne (tgt := 10) S.1 S.2.1 dX12_timeBy_3 (by decide) (fun b1 => ?_) (fun b1 => ?_)
  · have hF := (if_neg b1).symm.trans hF
    refine lv_iconst (v := 3) S.1 S.2.1 dX12_timeBy_10 (by decide) ?_
    exact w_X12_timeBy_11 S hK hr hlk hM (lv_sub hl [0, 1] rfl) hF
  · have hF := (if_pos b1).symm.trans hF
    refine lv_iconst (v := 2) S.1 S.2.1 dX12_timeBy_6 (by decide) ?_
    refine lv_goto (tgt := 11) S.1 S.2.1 dX12_timeBy_7 (by decide) ?_
    exact w_X12_timeBy_11 S hK hr hlk hM (lv_sub hl [0, 1] rfl) hF
/-! X12_tiresBy -/
def X12_tiresBy_b46 (x1 : Int32) : Option Int32 := some (1 + (x1 / 3))
set_option maxRecDepth 20000 in
theorem w_X12_tiresBy_46 {l : Launch} {g : GE} {A : Nat → Prop} {σ : IM} {p : Program} {e : Env} {s : State} {m : MethodId} {args : Array Value} {below : List Frame} {meth : Method} {c : Code} (S : CallFix p m c cX12_tiresBy 2 s args UL RX12) (hK : KK g s) (hr : meth.sig.returnType = (some .int)) (hlk : meth.locks = false) (hM : Mem lyM 13 g A [] σ nor s.heap s.heap []) {out : Int32} : ∀ {x1 : Int32} {ls : Array Slot}, lv_has ls 2 [(1, .int x1)] → X12_tiresBy_b46 x1 = some out → W p l e ({ frames := 0, cells := 0, slots := 0, locals := 0 }) s m args below meth c s.heap [] 0 0 (MQ below (Qp (some (.int out))) args s 0 0 NoA) (F0 m 46 ls []) := by
  intro x1 ls hl hF
  unfold X12_tiresBy_b46 at hF
  refine lv_iconst (v := 1) S.1 S.2.1 dX12_tiresBy_46 (by decide) ?_
  refine lv_iload_n S.1 S.2.1 dX12_tiresBy_47 rfl (lv_at hl 0 rfl) ?_
  refine lv_iconst (v := 3) S.1 S.2.1 dX12_tiresBy_48 (by decide) ?_
  refine lv_idiv S.1 S.2.1 dX12_tiresBy_49 (by decide) ?_
  refine lv_iadd S.1 S.2.1 dX12_tiresBy_50 ?_
  cases hF
  exact z_p S hr hlk rfl dX12_tiresBy_51
def X12_tiresBy (a0 : Int32) (a1 : Int32) : Option Int32 := if a0 = 1 then (some 5) else (if a0 = 2 then (X12_tiresBy_b46 a1) else (if a0 = 3 then (some 2) else (if a0 = 4 then (X12_tiresBy_b46 a1) else (if a0 = 7 then (some 2) else (some 1)))))
set_option maxRecDepth 20000 in
theorem c_X12_tiresBy {l : Launch} {g : GE} {A : Nat → Prop} {σ : IM} {a0 : Int32} {a1 : Int32} {out : Int32} (hF : X12_tiresBy a0 a1 = some out) : Met l yX12_tiresBy (.code yX12_tiresBy cX12_tiresBy 2 (some .int) :: UL) ({ frames := 0, cells := 0, slots := 0, locals := 0 }) (va_Pc [.int a0, .int a1] (PreM lyM 13 g A [] σ nor)) (Qp (some (.int out))) 0 0 NoA := by
  refine e_of (by decide) (Nat.le_of_ble_eq_true rfl) ?_
  intro p e s m below meth c ls S hr hlk hv hl
  have hM := Mem.of hv
  have hK := hv.2.1
  have hl : lv_has ls 2 [(0, .int a0), (1, .int a1)] := hl
  unfold X12_tiresBy at hF
  refine lv_iload_n S.1 S.2.1 dX12_tiresBy_0 rfl (lv_at hl 0 rfl) ?_
  by_cases b1 : a0 = 1
  · have hF := (if_pos b1).symm.trans hF
    refine r_tab (off := 43) (tgt := 44) S dX12_tiresBy_1 b1 (by decide) (by decide) ?_
    refine lv_iconst (v := 5) S.1 S.2.1 dX12_tiresBy_44 (by decide) ?_
    cases hF
    exact z_p S hr hlk rfl dX12_tiresBy_45
  · have hF := (if_neg b1).symm.trans hF
    by_cases b2 : a0 = 2
    · have hF := (if_pos b2).symm.trans hF
      refine r_tab (off := 45) (tgt := 46) S dX12_tiresBy_1 b2 (by decide) (by decide) ?_
      exact w_X12_tiresBy_46 S hK hr hlk hM (lv_sub hl [1] rfl) hF
    · have hF := (if_neg b2).symm.trans hF
      by_cases b3 : a0 = 3
      · have hF := (if_pos b3).symm.trans hF
        refine r_tab (off := 51) (tgt := 52) S dX12_tiresBy_1 b3 (by decide) (by decide) ?_
        refine lv_iconst (v := 2) S.1 S.2.1 dX12_tiresBy_52 (by decide) ?_
        cases hF
        exact z_p S hr hlk rfl dX12_tiresBy_53
      · have hF := (if_neg b3).symm.trans hF
        by_cases b4 : a0 = 4
        · have hF := (if_pos b4).symm.trans hF
          refine r_tab (off := 45) (tgt := 46) S dX12_tiresBy_1 b4 (by decide) (by decide) ?_
          exact w_X12_tiresBy_46 S hK hr hlk hM (lv_sub hl [1] rfl) hF
        · have hF := (if_neg b4).symm.trans hF
          by_cases b5 : a0 = 7
          · have hF := (if_pos b5).symm.trans hF
            refine r_tab (off := 51) (tgt := 52) S dX12_tiresBy_1 b5 (by decide) (by decide) ?_
            refine lv_iconst (v := 2) S.1 S.2.1 dX12_tiresBy_52 (by decide) ?_
            cases hF
            exact z_p S hr hlk rfl dX12_tiresBy_53
          · have hF := (if_neg b5).symm.trans hF
            by_cases b6 : a0 = 5
            · refine r_tab (off := 53) (tgt := 54) S dX12_tiresBy_1 b6 (by decide) (by decide) ?_
              refine lv_iconst (v := 1) S.1 S.2.1 dX12_tiresBy_54 (by decide) ?_
              cases hF
              exact z_p S hr hlk rfl dX12_tiresBy_55
            · by_cases b7 : a0 = 6
              · refine r_tab (off := 53) (tgt := 54) S dX12_tiresBy_1 b7 (by decide) (by decide) ?_
                refine lv_iconst (v := 1) S.1 S.2.1 dX12_tiresBy_54 (by decide) ?_
                cases hF
                exact z_p S hr hlk rfl dX12_tiresBy_55
              · refine r_tabD (tgt := 54) S dX12_tiresBy_1 (by have n0 := ne_toInt b1 (k := 1) (by decide); have n1 := ne_toInt b2 (k := 2) (by decide); have n2 := ne_toInt b3 (k := 3) (by decide); have n3 := ne_toInt b4 (k := 4) (by decide); have n4 := ne_toInt b5 (k := 7) (by decide); have n5 := ne_toInt b6 (k := 5) (by decide); have n6 := ne_toInt b7 (k := 6) (by decide); omega) (by decide) ?_
                refine lv_iconst (v := 1) S.1 S.2.1 dX12_tiresBy_54 (by decide) ?_
                cases hF
                exact z_p S hr hlk rfl dX12_tiresBy_55
/-! X12_fallsIn -/
def X12_fallsIn_b74 (σ : IM) (r0 : Nat) (t0 : Int32) (t1 : Int32) : Option Int32 := some (t1 + t0)
set_option maxRecDepth 20000 in
theorem w_X12_fallsIn_74 {l : Launch} {g : GE} {A : Nat → Prop} {σ : IM} {r0 : Nat} (hr0 : Ar r0) {p : Program} {e : Env} {s : State} {m : MethodId} {args : Array Value} {below : List Frame} {meth : Method} {c : Code} (S : CallFix p m c cX12_fallsIn 5 s args UL RX12) (hK : KK g s) (hr : meth.sig.returnType = (some .int)) (hlk : meth.locks = false) (hM : Mem lyM 13 g A [] σ nor s.heap s.heap []) {out : Int32} : ∀ {t0 : Int32} {t1 : Int32} {ls : Array Slot}, lv_has ls 5 [] → X12_fallsIn_b74 σ r0 t0 t1 = some out → W p l e ({ frames := 1, cells := 0, slots := 0, locals := 21 }) s m args below meth c s.heap [] 0 0 (MQ below (Qp (some (.int out))) args s 0 0 NoA) (F0 m 74 ls [.int t0, .int t1]) := by
  intro t0 t1 ls hl hF
  unfold X12_fallsIn_b74 at hF
  refine lv_iadd S.1 S.2.1 dX12_fallsIn_74 ?_
  cases hF
  exact z_p S hr hlk rfl dX12_fallsIn_75
def X12_fallsIn (σ : IM) (r0 : Nat) (a1 : Int32) (a2 : Int32) : Option Int32 := bd ((a2 / 3) * 3) fun v1 => rd (σ r0) 42 3 fun v2 => bd ((rem32 a2 3) + v2) fun v3 => bd1 (X12_ofS a1 0) fun r4 => rd (σ r0) 42 r4 fun v5 => if v5 = 6 then (some (v1 + 1)) else (if v5 = 7 then (if 0 ≤ v3 then (if v3 ≤ 2 then (X12_fallsIn_b74 σ r0 v3 v1) else (X12_fallsIn_b74 σ r0 2 v1)) else (X12_fallsIn_b74 σ r0 0 v1)) else (some a2))
set_option maxRecDepth 20000 in
theorem c_X12_fallsIn {l : Launch} {g : GE} {A : Nat → Prop} {σ : IM} {r0 : Nat} {a1 : Int32} {a2 : Int32} {out : Int32} (hr0 : Ar r0) (hF : X12_fallsIn σ r0 a1 a2 = some out) : Met l yX12_fallsIn (.code yX12_fallsIn cX12_fallsIn 5 (some .int) :: UL) ({ frames := 1, cells := 0, slots := 0, locals := 21 }) (va_Pc [.ref (g.2.2 r0), .int a1, .int a2] (PreM lyM 13 g A [] σ nor)) (Qp (some (.int out))) 0 0 NoA := by
  refine e_of (by decide) (Nat.le_of_ble_eq_true rfl) ?_
  intro p e s m below meth c ls S hr hlk hv hl
  have hM := Mem.of hv
  have hK := hv.2.1
  have hl : lv_has ls 5 [(0, .ref (g.2.2 r0)), (1, .int a1), (2, .int a2)] := hl
  unfold X12_fallsIn at hF
  refine lv_iload_n S.1 S.2.1 dX12_fallsIn_0 rfl (lv_at hl 2 rfl) ?_
  refine lv_iconst (v := 3) S.1 S.2.1 dX12_fallsIn_1 (by decide) ?_
  refine lv_idiv S.1 S.2.1 dX12_fallsIn_2 (by decide) ?_
  refine lv_iconst (v := 3) S.1 S.2.1 dX12_fallsIn_3 (by decide) ?_
  refine lv_imul S.1 S.2.1 dX12_fallsIn_4 ?_
  refine lv_topi (fun v1 ev1 => ?_)
  have hF := bd_at ev1 hF
  refine lv_istore_n (lv' := [(3, .int v1), (0, .ref (g.2.2 r0)), (1, .int a1), (2, .int a2)]) S.1 S.2.1 dX12_fallsIn_5 rfl hl (by decide) rfl (fun ls hl => ?_)
  refine lv_iload_n S.1 S.2.1 dX12_fallsIn_6 rfl (lv_at hl 3 rfl) ?_
  refine lv_iconst (v := 3) S.1 S.2.1 dX12_fallsIn_7 (by decide) ?_
  refine r_irem S dX12_fallsIn_8 (by decide) ?_
  refine lv_aload_n S.1 S.2.1 dX12_fallsIn_9 rfl (lv_at hl 1 rfl) ?_
  refine lv_iconst (v := 3) S.1 S.2.1 dX12_fallsIn_10 (by decide) ?_
  obtain ⟨hv2, v2, ev2, hF⟩ := rd_some hF
  refine r_iald S hK hM r0 (ar_lt hr0) (ly_ar hr0) hv2 ev2 dX12_fallsIn_11 ?_
  refine lv_iadd S.1 S.2.1 dX12_fallsIn_12 ?_
  refine lv_topi (fun v3 ev3 => ?_)
  have hF := bd_at ev3 hF
  refine lv_istore (lv' := [(4, .int v3), (3, .int v1), (0, .ref (g.2.2 r0)), (1, .int a1), (2, .int a2)]) S.1 S.2.1 dX12_fallsIn_13 hl (by decide) rfl (fun ls hl => ?_)
  refine lv_aload_n S.1 S.2.1 dX12_fallsIn_15 rfl (lv_at hl 2 rfl) ?_
  refine lv_iload_n S.1 S.2.1 dX12_fallsIn_16 rfl (lv_at hl 3 rfl) ?_
  refine lv_iconst (v := 0) S.1 S.2.1 dX12_fallsIn_17 (by decide) ?_
  obtain ⟨r4, er4, hF⟩ := bd1_some hF
  refine k_p (va_runS (As := [.int a1, .int 0]) (rest := [.ref (g.2.2 r0)]) S (c_X12_ofS   er4) (va_cwS 2 S.2.2.2.2 (ul_S tw_5_129 tw_5_130 tw_1_12 cw_X12_ofS) rfl rfl rfl hs_X12_ofS ⟨Nat.le_of_ble_eq_true rfl, Nat.le_of_ble_eq_true rfl⟩) ⟨PreM.blind, hM.pre hK⟩ rfl rfl hl.1 rfl (lv_room (Nat.le_of_ble_eq_true rfl)) dX12_fallsIn_18 ⟨Nat.zero_le _, Nat.zero_le _⟩) ?_
  obtain ⟨hv5, v5, ev5, hF⟩ := rd_some hF
  refine r_iald S hK hM r0 (ar_lt hr0) (ly_ar hr0) hv5 ev5 dX12_fallsIn_21 ?_
  by_cases b6 : v5 = 6
  · have hF := (if_pos b6).symm.trans hF
    refine lv_lookup (off := 26) (tgt := 48) S.1 S.2.1 dX12_fallsIn_22 (by decide) (by rw [b6]; decide) (by decide) ?_
    refine lv_iload_n S.1 S.2.1 dX12_fallsIn_48 rfl (lv_at hl 1 rfl) ?_
    refine lv_iconst (v := 1) S.1 S.2.1 dX12_fallsIn_49 (by decide) ?_
    refine lv_iadd S.1 S.2.1 dX12_fallsIn_50 ?_
    cases hF
    exact z_p S hr hlk rfl dX12_fallsIn_51
  · have hF := (if_neg b6).symm.trans hF
    by_cases b7 : v5 = 7
    · have hF := (if_pos b7).symm.trans hF
      refine lv_lookup (off := 30) (tgt := 52) S.1 S.2.1 dX12_fallsIn_22 (by decide) (by rw [b7]; decide) (by decide) ?_
      refine lv_iload_n S.1 S.2.1 dX12_fallsIn_52 rfl (lv_at hl 1 rfl) ?_
      refine lv_iload S.1 S.2.1 dX12_fallsIn_53 (lv_at hl 0 rfl) ?_
      refine lv_if_ge (tgt := 62) S.1 S.2.1 dX12_fallsIn_55 (by decide) (fun b8 => ?_) (fun b8 => ?_)
      · have hF := (if_pos b8).symm.trans hF
        refine lv_iload S.1 S.2.1 dX12_fallsIn_62 (lv_at hl 0 rfl) ?_
        refine lv_iconst (v := 2) S.1 S.2.1 dX12_fallsIn_64 (by decide) ?_
        refine lv_icmp_le (tgt := 72) S.1 S.2.1 dX12_fallsIn_65 (by decide) (fun b9 => ?_) (fun b9 => ?_)
        · have hF := (if_pos b9).symm.trans hF
          refine lv_iload S.1 S.2.1 dX12_fallsIn_72 (lv_at hl 0 rfl) ?_
          exact w_X12_fallsIn_74 hr0 S hK hr hlk hM (lv_sub hl [] rfl) hF
        · have hF := (if_neg b9).symm.trans hF
          refine lv_iconst (v := 2) S.1 S.2.1 dX12_fallsIn_68 (by decide) ?_
          refine lv_goto (tgt := 74) S.1 S.2.1 dX12_fallsIn_69 (by decide) ?_
          exact w_X12_fallsIn_74 hr0 S hK hr hlk hM (lv_sub hl [] rfl) hF
      · have hF := (if_neg b8).symm.trans hF
        refine lv_iconst (v := 0) S.1 S.2.1 dX12_fallsIn_58 (by decide) ?_
        refine lv_goto (tgt := 74) S.1 S.2.1 dX12_fallsIn_59 (by decide) ?_
        exact w_X12_fallsIn_74 hr0 S hK hr hlk hM (lv_sub hl [] rfl) hF
    · have hF := (if_neg b7).symm.trans hF
      refine lv_lookup (off := 54) (tgt := 76) S.1 S.2.1 dX12_fallsIn_22 (by decide) (by have n0 := ne_toInt b6 (k := 6) (by decide); have n1 := ne_toInt b7 (k := 7) (by decide); simp [Op.lookupswitch.offset, Ne.symm n0, Ne.symm n1]) (by decide) ?_
      refine lv_iload_n S.1 S.2.1 dX12_fallsIn_76 rfl (lv_at hl 4 rfl) ?_
      cases hF
      exact z_p S hr hlk rfl dX12_fallsIn_77
/-! X12_timeIn -/
def X12_timeIn (σ : IM) (r0 : Nat) (a1 : Int32) (a2 : Int32) : Option Int32 := bd1 (X12_ofS a1 0) fun r1 => rd (σ r0) 42 r1 fun v2 => bd1 (X12_ofS a1 1) fun r3 => rd (σ r0) 42 r3 fun v4 => bd1 (X12_timeBy v2 v4 a2) fun r5 => some r5
set_option maxRecDepth 20000 in
theorem c_X12_timeIn {l : Launch} {g : GE} {A : Nat → Prop} {σ : IM} {r0 : Nat} {a1 : Int32} {a2 : Int32} {out : Int32} (hr0 : Ar r0) (hF : X12_timeIn σ r0 a1 a2 = some out) : Met l yX12_timeIn (.code yX12_timeIn cX12_timeIn 3 (some .int) :: UL) ({ frames := 1, cells := 0, slots := 0, locals := 23 }) (va_Pc [.ref (g.2.2 r0), .int a1, .int a2] (PreM lyM 13 g A [] σ nor)) (Qp (some (.int out))) 0 0 NoA := by
  refine e_of (by decide) (Nat.le_of_ble_eq_true rfl) ?_
  intro p e s m below meth c ls S hr hlk hv hl
  have hM := Mem.of hv
  have hK := hv.2.1
  have hl : lv_has ls 3 [(0, .ref (g.2.2 r0)), (1, .int a1), (2, .int a2)] := hl
  unfold X12_timeIn at hF
  refine lv_aload_n S.1 S.2.1 dX12_timeIn_0 rfl (lv_at hl 0 rfl) ?_
  refine lv_iload_n S.1 S.2.1 dX12_timeIn_1 rfl (lv_at hl 1 rfl) ?_
  refine lv_iconst (v := 0) S.1 S.2.1 dX12_timeIn_2 (by decide) ?_
  obtain ⟨r1, er1, hF⟩ := bd1_some hF
  refine k_p (va_runS (As := [.int a1, .int 0]) (rest := [.ref (g.2.2 r0)]) S (c_X12_ofS   er1) (va_cwS 2 S.2.2.2.2 (ul_S tw_5_129 tw_5_130 tw_1_12 cw_X12_ofS) rfl rfl rfl hs_X12_ofS ⟨Nat.le_of_ble_eq_true rfl, Nat.le_of_ble_eq_true rfl⟩) ⟨PreM.blind, hM.pre hK⟩ rfl rfl hl.1 rfl (lv_room (Nat.le_of_ble_eq_true rfl)) dX12_timeIn_3 ⟨Nat.zero_le _, Nat.zero_le _⟩) ?_
  obtain ⟨hv2, v2, ev2, hF⟩ := rd_some hF
  refine r_iald S hK hM r0 (ar_lt hr0) (ly_ar hr0) hv2 ev2 dX12_timeIn_6 ?_
  refine lv_aload_n S.1 S.2.1 dX12_timeIn_7 rfl (lv_at hl 0 rfl) ?_
  refine lv_iload_n S.1 S.2.1 dX12_timeIn_8 rfl (lv_at hl 1 rfl) ?_
  refine lv_iconst (v := 1) S.1 S.2.1 dX12_timeIn_9 (by decide) ?_
  obtain ⟨r3, er3, hF⟩ := bd1_some hF
  refine k_p (va_runS (As := [.int a1, .int 1]) (rest := [.ref (g.2.2 r0), .int v2]) S (c_X12_ofS   er3) (va_cwS 2 S.2.2.2.2 (ul_S tw_5_129 tw_5_130 tw_1_12 cw_X12_ofS) rfl rfl rfl hs_X12_ofS ⟨Nat.le_of_ble_eq_true rfl, Nat.le_of_ble_eq_true rfl⟩) ⟨PreM.blind, hM.pre hK⟩ rfl rfl hl.1 rfl (lv_room (Nat.le_of_ble_eq_true rfl)) dX12_timeIn_10 ⟨Nat.zero_le _, Nat.zero_le _⟩) ?_
  obtain ⟨hv4, v4, ev4, hF⟩ := rd_some hF
  refine r_iald S hK hM r0 (ar_lt hr0) (ly_ar hr0) hv4 ev4 dX12_timeIn_13 ?_
  refine lv_iload_n S.1 S.2.1 dX12_timeIn_14 rfl (lv_at hl 2 rfl) ?_
  obtain ⟨r5, er5, hF⟩ := bd1_some hF
  refine k_p (va_runS (As := [.int v2, .int v4, .int a2]) (rest := []) S (c_X12_timeBy   er5) (va_cwS 3 S.2.2.2.2 (ul_S tw_5_159 tw_5_160 tw_1_12 cw_X12_timeBy) rfl rfl rfl hs_X12_timeBy ⟨Nat.le_of_ble_eq_true rfl, Nat.le_of_ble_eq_true rfl⟩) ⟨PreM.blind, hM.pre hK⟩ rfl rfl hl.1 rfl (lv_room (Nat.le_of_ble_eq_true rfl)) dX12_timeIn_15 ⟨Nat.zero_le _, Nat.zero_le _⟩) ?_
  cases hF
  exact z_p S hr hlk rfl dX12_timeIn_18
/-! X12_sideOf -/
def X12_sideOf (a0 : Int32) : Option Int32 := some (a0 / 2)
set_option maxRecDepth 20000 in
theorem c_X12_sideOf {l : Launch} {g : GE} {A : Nat → Prop} {σ : IM} {a0 : Int32} {out : Int32} (hF : X12_sideOf a0 = some out) : Met l yX12_sideOf (.code yX12_sideOf cX12_sideOf 1 (some .int) :: UL) ({ frames := 0, cells := 0, slots := 0, locals := 0 }) (va_Pc [.int a0] (PreM lyM 13 g A [] σ nor)) (Qp (some (.int out))) 0 0 NoA := by
  refine e_of (by decide) (Nat.le_of_ble_eq_true rfl) ?_
  intro p e s m below meth c ls S hr hlk hv hl
  have hM := Mem.of hv
  have hK := hv.2.1
  have hl : lv_has ls 1 [(0, .int a0)] := hl
  unfold X12_sideOf at hF
  refine lv_iload_n S.1 S.2.1 dX12_sideOf_0 rfl (lv_at hl 0 rfl) ?_
  refine lv_iconst (v := 2) S.1 S.2.1 dX12_sideOf_1 (by decide) ?_
  refine lv_idiv S.1 S.2.1 dX12_sideOf_2 (by decide) ?_
  cases hF
  exact z_p S hr hlk rfl dX12_sideOf_3
/-! X12_partner -/
def X12_partner (a0 : Int32) : Option Int32 := if rem32 a0 2 = 0 then (some (a0 + 1)) else (some (a0 - 1))
set_option maxRecDepth 20000 in
theorem c_X12_partner {l : Launch} {g : GE} {A : Nat → Prop} {σ : IM} {a0 : Int32} {out : Int32} (hF : X12_partner a0 = some out) : Met l yX12_partner (.code yX12_partner cX12_partner 1 (some .int) :: UL) ({ frames := 0, cells := 0, slots := 0, locals := 0 }) (va_Pc [.int a0] (PreM lyM 13 g A [] σ nor)) (Qp (some (.int out))) 0 0 NoA := by
  refine e_of (by decide) (Nat.le_of_ble_eq_true rfl) ?_
  intro p e s m below meth c ls S hr hlk hv hl
  have hM := Mem.of hv
  have hK := hv.2.1
  have hl : lv_has ls 1 [(0, .int a0)] := hl
  unfold X12_partner at hF
  refine lv_iload_n S.1 S.2.1 dX12_partner_0 rfl (lv_at hl 0 rfl) ?_
  refine lv_iconst (v := 2) S.1 S.2.1 dX12_partner_1 (by decide) ?_
  refine r_irem S dX12_partner_2 (by decide) ?_
  refine lv_if_ne (tgt := 12) S.1 S.2.1 dX12_partner_3 (by decide) (fun b1 => ?_) (fun b1 => ?_)
  · have hF := (if_neg b1).symm.trans hF
    refine lv_iload_n S.1 S.2.1 dX12_partner_12 rfl (lv_at hl 0 rfl) ?_
    refine lv_iconst (v := 1) S.1 S.2.1 dX12_partner_13 (by decide) ?_
    refine lv_isub S.1 S.2.1 dX12_partner_14 ?_
    cases hF
    exact z_p S hr hlk rfl dX12_partner_15
  · have hF := (if_pos b1).symm.trans hF
    refine lv_iload_n S.1 S.2.1 dX12_partner_6 rfl (lv_at hl 0 rfl) ?_
    refine lv_iconst (v := 1) S.1 S.2.1 dX12_partner_7 (by decide) ?_
    refine lv_iadd S.1 S.2.1 dX12_partner_8 ?_
    refine lv_goto (tgt := 15) S.1 S.2.1 dX12_partner_9 (by decide) ?_
    cases hF
    exact z_p S hr hlk rfl dX12_partner_15
/-! X12_stepsIn -/
def X12_stepsIn_b30 (σ : IM) (r0 : Nat) (t0 : Int32) (t1 : Int32) : Option Int32 := some (t1 * t0)
set_option maxRecDepth 20000 in
theorem w_X12_stepsIn_30 {l : Launch} {g : GE} {A : Nat → Prop} {σ : IM} {r0 : Nat} (hr0 : Ar r0) {p : Program} {e : Env} {s : State} {m : MethodId} {args : Array Value} {below : List Frame} {meth : Method} {c : Code} (S : CallFix p m c cX12_stepsIn 4 s args UL RX12) (hK : KK g s) (hr : meth.sig.returnType = (some .int)) (hlk : meth.locks = false) (hM : Mem lyM 13 g A [] σ nor s.heap s.heap []) {out : Int32} : ∀ {t0 : Int32} {t1 : Int32} {ls : Array Slot}, lv_has ls 4 [] → X12_stepsIn_b30 σ r0 t0 t1 = some out → W p l e ({ frames := 1, cells := 0, slots := 0, locals := 21 }) s m args below meth c s.heap [] 0 0 (MQ below (Qp (some (.int out))) args s 0 0 NoA) (F0 m 30 ls [.int t0, .int t1]) := by
  intro t0 t1 ls hl hF
  unfold X12_stepsIn_b30 at hF
  refine lv_imul S.1 S.2.1 dX12_stepsIn_30 ?_
  cases hF
  exact z_p S hr hlk rfl dX12_stepsIn_31
def X12_stepsIn (σ : IM) (r0 : Nat) (a1 : Int32) (a2 : Int32) : Option Int32 := bd1 (X12_ofP a1 1) fun r1 => rd (σ r0) 42 r1 fun v2 => bd1 (X12_ofP a1 2) fun r3 => rd (σ r0) 42 r3 fun v4 => bd (v2 - (v4 / 30)) fun v5 => if 1 ≤ v5 then (X12_stepsIn_b30 σ r0 v5 a2) else (X12_stepsIn_b30 σ r0 1 a2)
set_option maxRecDepth 20000 in
theorem c_X12_stepsIn {l : Launch} {g : GE} {A : Nat → Prop} {σ : IM} {r0 : Nat} {a1 : Int32} {a2 : Int32} {out : Int32} (hr0 : Ar r0) (hF : X12_stepsIn σ r0 a1 a2 = some out) : Met l yX12_stepsIn (.code yX12_stepsIn cX12_stepsIn 4 (some .int) :: UL) ({ frames := 1, cells := 0, slots := 0, locals := 21 }) (va_Pc [.ref (g.2.2 r0), .int a1, .int a2] (PreM lyM 13 g A [] σ nor)) (Qp (some (.int out))) 0 0 NoA := by
  refine e_of (by decide) (Nat.le_of_ble_eq_true rfl) ?_
  intro p e s m below meth c ls S hr hlk hv hl
  have hM := Mem.of hv
  have hK := hv.2.1
  have hl : lv_has ls 4 [(0, .ref (g.2.2 r0)), (1, .int a1), (2, .int a2)] := hl
  unfold X12_stepsIn at hF
  refine lv_aload_n S.1 S.2.1 dX12_stepsIn_0 rfl (lv_at hl 0 rfl) ?_
  refine lv_iload_n S.1 S.2.1 dX12_stepsIn_1 rfl (lv_at hl 1 rfl) ?_
  refine lv_iconst (v := 1) S.1 S.2.1 dX12_stepsIn_2 (by decide) ?_
  obtain ⟨r1, er1, hF⟩ := bd1_some hF
  refine k_p (va_runS (As := [.int a1, .int 1]) (rest := [.ref (g.2.2 r0)]) S (c_X12_ofP   er1) (va_cwS 2 S.2.2.2.2 (ul_S tw_5_25 tw_5_26 tw_1_12 cw_X12_ofP) rfl rfl rfl hs_X12_ofP ⟨Nat.le_of_ble_eq_true rfl, Nat.le_of_ble_eq_true rfl⟩) ⟨PreM.blind, hM.pre hK⟩ rfl rfl hl.1 rfl (lv_room (Nat.le_of_ble_eq_true rfl)) dX12_stepsIn_3 ⟨Nat.zero_le _, Nat.zero_le _⟩) ?_
  obtain ⟨hv2, v2, ev2, hF⟩ := rd_some hF
  refine r_iald S hK hM r0 (ar_lt hr0) (ly_ar hr0) hv2 ev2 dX12_stepsIn_6 ?_
  refine lv_aload_n S.1 S.2.1 dX12_stepsIn_7 rfl (lv_at hl 0 rfl) ?_
  refine lv_iload_n S.1 S.2.1 dX12_stepsIn_8 rfl (lv_at hl 1 rfl) ?_
  refine lv_iconst (v := 2) S.1 S.2.1 dX12_stepsIn_9 (by decide) ?_
  obtain ⟨r3, er3, hF⟩ := bd1_some hF
  refine k_p (va_runS (As := [.int a1, .int 2]) (rest := [.ref (g.2.2 r0), .int v2]) S (c_X12_ofP   er3) (va_cwS 2 S.2.2.2.2 (ul_S tw_5_25 tw_5_26 tw_1_12 cw_X12_ofP) rfl rfl rfl hs_X12_ofP ⟨Nat.le_of_ble_eq_true rfl, Nat.le_of_ble_eq_true rfl⟩) ⟨PreM.blind, hM.pre hK⟩ rfl rfl hl.1 rfl (lv_room (Nat.le_of_ble_eq_true rfl)) dX12_stepsIn_10 ⟨Nat.zero_le _, Nat.zero_le _⟩) ?_
  obtain ⟨hv4, v4, ev4, hF⟩ := rd_some hF
  refine r_iald S hK hM r0 (ar_lt hr0) (ly_ar hr0) hv4 ev4 dX12_stepsIn_13 ?_
  refine lv_bipush (v := 30) S.1 S.2.1 dX12_stepsIn_14 (by decide) ?_
  refine lv_idiv S.1 S.2.1 dX12_stepsIn_16 (by decide) ?_
  refine lv_isub S.1 S.2.1 dX12_stepsIn_17 ?_
  refine lv_topi (fun v5 ev5 => ?_)
  have hF := bd_at ev5 hF
  refine lv_istore_n (lv' := [(3, .int v5), (0, .ref (g.2.2 r0)), (1, .int a1), (2, .int a2)]) S.1 S.2.1 dX12_stepsIn_18 rfl hl (by decide) rfl (fun ls hl => ?_)
  refine lv_iload_n S.1 S.2.1 dX12_stepsIn_19 rfl (lv_at hl 3 rfl) ?_
  refine lv_iload_n S.1 S.2.1 dX12_stepsIn_20 rfl (lv_at hl 0 rfl) ?_
  refine lv_iconst (v := 1) S.1 S.2.1 dX12_stepsIn_21 (by decide) ?_
  refine lv_icmp_ge (tgt := 29) S.1 S.2.1 dX12_stepsIn_22 (by decide) (fun b6 => ?_) (fun b6 => ?_)
  · have hF := (if_pos b6).symm.trans hF
    refine lv_iload_n S.1 S.2.1 dX12_stepsIn_29 rfl (lv_at hl 0 rfl) ?_
    exact w_X12_stepsIn_30 hr0 S hK hr hlk hM (lv_sub hl [] rfl) hF
  · have hF := (if_neg b6).symm.trans hF
    refine lv_iconst (v := 1) S.1 S.2.1 dX12_stepsIn_25 (by decide) ?_
    refine lv_goto (tgt := 30) S.1 S.2.1 dX12_stepsIn_26 (by decide) ?_
    exact w_X12_stepsIn_30 hr0 S hK hr hlk hM (lv_sub hl [] rfl) hF
/-! X12_isTired -/
def X12_isTired (σ : IM) (r0 : Nat) (a1 : Int32) (a2 : Int32) : Option IM := bd1 (X12_ofP a1 2) fun r1 => bd1 (X12_ofP a1 2) fun r2 => rd (σ r0) 42 r2 fun v3 => bd1 (X12_least 99 (v3 + a2)) fun r4 => wr σ r0 42 r1 r4 fun σ5 => some (σ5)
set_option maxRecDepth 20000 in
theorem c_X12_isTired {l : Launch} {g : GE} {A : Nat → Prop} {σ : IM} {r0 : Nat} {a1 : Int32} {a2 : Int32} {out : IM} (hr0 : Ar r0) (hF : X12_isTired σ r0 a1 a2 = some out) : Met l yX12_isTired (.code yX12_isTired cX12_isTired 3 none :: UL) ({ frames := 1, cells := 0, slots := 0, locals := 21 }) (va_Pc [.ref (g.2.2 r0), .int a1, .int a2] (PreM lyM 13 g A [] σ nor)) (Qm lyM 13 g A [] out nor none) 0 0 A := by
  refine e_of (by decide) (Nat.le_of_ble_eq_true rfl) ?_
  intro p e s m below meth c ls S hr hlk hv hl
  have hM := Mem.of hv
  have hK := hv.2.1
  have hl : lv_has ls 3 [(0, .ref (g.2.2 r0)), (1, .int a1), (2, .int a2)] := hl
  unfold X12_isTired at hF
  refine lv_aload_n S.1 S.2.1 dX12_isTired_0 rfl (lv_at hl 0 rfl) ?_
  refine lv_iload_n S.1 S.2.1 dX12_isTired_1 rfl (lv_at hl 1 rfl) ?_
  refine lv_iconst (v := 2) S.1 S.2.1 dX12_isTired_2 (by decide) ?_
  obtain ⟨r1, er1, hF⟩ := bd1_some hF
  refine k_p (va_runS (As := [.int a1, .int 2]) (rest := [.ref (g.2.2 r0)]) S (c_X12_ofP   er1) (va_cwS 2 S.2.2.2.2 (ul_S tw_5_25 tw_5_26 tw_1_12 cw_X12_ofP) rfl rfl rfl hs_X12_ofP ⟨Nat.le_of_ble_eq_true rfl, Nat.le_of_ble_eq_true rfl⟩) ⟨PreM.blind, hM.pre hK⟩ rfl rfl hl.1 rfl (lv_room (Nat.le_of_ble_eq_true rfl)) dX12_isTired_3 ⟨Nat.zero_le _, Nat.zero_le _⟩) ?_
  refine lv_bipush (v := 99) S.1 S.2.1 dX12_isTired_6 (by decide) ?_
  refine lv_aload_n S.1 S.2.1 dX12_isTired_8 rfl (lv_at hl 0 rfl) ?_
  refine lv_iload_n S.1 S.2.1 dX12_isTired_9 rfl (lv_at hl 1 rfl) ?_
  refine lv_iconst (v := 2) S.1 S.2.1 dX12_isTired_10 (by decide) ?_
  obtain ⟨r2, er2, hF⟩ := bd1_some hF
  refine k_p (va_runS (As := [.int a1, .int 2]) (rest := [.ref (g.2.2 r0), .int 99, .int r1, .ref (g.2.2 r0)]) S (c_X12_ofP   er2) (va_cwS 2 S.2.2.2.2 (ul_S tw_5_25 tw_5_26 tw_1_12 cw_X12_ofP) rfl rfl rfl hs_X12_ofP ⟨Nat.le_of_ble_eq_true rfl, Nat.le_of_ble_eq_true rfl⟩) ⟨PreM.blind, hM.pre hK⟩ rfl rfl hl.1 rfl (lv_room (Nat.le_of_ble_eq_true rfl)) dX12_isTired_11 ⟨Nat.zero_le _, Nat.zero_le _⟩) ?_
  obtain ⟨hv3, v3, ev3, hF⟩ := rd_some hF
  refine r_iald S hK hM r0 (ar_lt hr0) (ly_ar hr0) hv3 ev3 dX12_isTired_14 ?_
  refine lv_iload_n S.1 S.2.1 dX12_isTired_15 rfl (lv_at hl 2 rfl) ?_
  refine lv_iadd S.1 S.2.1 dX12_isTired_16 ?_
  obtain ⟨r4, er4, hF⟩ := bd1_some hF
  refine k_p (va_runS (As := [.int 99, .int (v3 + a2)]) (rest := [.int r1, .ref (g.2.2 r0)]) S (c_X12_least   er4) (va_cwS 2 S.2.2.2.2 (ul_S tw_5_177 tw_5_178 tw_1_12 cw_X12_least) rfl rfl rfl hs_X12_least ⟨Nat.le_of_ble_eq_true rfl, Nat.le_of_ble_eq_true rfl⟩) ⟨PreM.blind, hM.pre hK⟩ rfl rfl hl.1 rfl (lv_room (Nat.le_of_ble_eq_true rfl)) dX12_isTired_17 ⟨Nat.zero_le _, Nat.zero_le _⟩) ?_
  obtain ⟨hσ5, σ5, eσ5, hF⟩ := wr_some hF
  refine r_iast S hK hM r0 (ar_lt hr0) (ly_ar hr0) hσ5 eσ5 dX12_isTired_20 (fun H locs hM => ?_)
  cases hF
  exact z_mv S hM hr hlk dX12_isTired_21
/-! X12_whoseIn -/
def X12_whoseIn_b101 (σ : IM) (r0 : Nat) (x3 : Int32) (x6 : Int32) (t0 : Int32) : Option Int32 := if x6 = 3 then (if t0 = 0 then (some 9) else (bd1 (X12_ofP x3 3) fun r21 => rd (σ r0) 42 r21 fun v22 => if v22 = 1 then (some x3) else (some (x3 + 1)))) else (some 9)
set_option maxRecDepth 20000 in
theorem w_X12_whoseIn_101 {l : Launch} {g : GE} {A : Nat → Prop} {σ : IM} {r0 : Nat} (hr0 : Ar r0) {p : Program} {e : Env} {s : State} {m : MethodId} {args : Array Value} {below : List Frame} {meth : Method} {c : Code} (S : CallFix p m c cX12_whoseIn 8 s args UL RX12) (hK : KK g s) (hr : meth.sig.returnType = (some .int)) (hlk : meth.locks = false) (hM : Mem lyM 13 g A [] σ nor s.heap s.heap []) {out : Int32} : ∀ {x3 : Int32} {x6 : Int32} {t0 : Int32} {ls : Array Slot}, lv_has ls 8 [(0, .ref (g.2.2 r0)), (3, .int x3), (6, .int x6)] → X12_whoseIn_b101 σ r0 x3 x6 t0 = some out → W p l e ({ frames := 2, cells := 0, slots := 0, locals := 42 }) s m args below meth c s.heap [] 0 0 (MQ below (Qp (some (.int out))) args s 0 0 NoA) (F0 m 101 ls [.int t0]) := by
  intro x3 x6 t0 ls hl hF
  unfold X12_whoseIn_b101 at hF
  refine lv_istore (lv' := [(7, .int t0), (0, .ref (g.2.2 r0)), (3, .int x3), (6, .int x6)]) S.1 S.2.1 dX12_whoseIn_101 hl (by decide) rfl (fun ls hl => ?_)
  refine lv_iload S.1 S.2.1 dX12_whoseIn_103 (lv_at hl 3 rfl) ?_
  refine lv_iconst (v := 3) S.1 S.2.1 dX12_whoseIn_105 (by decide) ?_
  refine lv_icmp_ne (tgt := 135) S.1 S.2.1 dX12_whoseIn_106 (by decide) (fun b19 => ?_) (fun b19 => ?_)
  · have hF := (if_neg b19).symm.trans hF
    refine lv_bipush (v := 9) S.1 S.2.1 dX12_whoseIn_135 (by decide) ?_
    cases hF
    exact z_p S hr hlk rfl dX12_whoseIn_137
  · have hF := (if_pos b19).symm.trans hF
    refine lv_iload S.1 S.2.1 dX12_whoseIn_109 (lv_at hl 0 rfl) ?_
    refine lv_if_eq (tgt := 135) S.1 S.2.1 dX12_whoseIn_111 (by decide) (fun b20 => ?_) (fun b20 => ?_)
    · have hF := (if_pos b20).symm.trans hF
      refine lv_bipush (v := 9) S.1 S.2.1 dX12_whoseIn_135 (by decide) ?_
      cases hF
      exact z_p S hr hlk rfl dX12_whoseIn_137
    · have hF := (if_neg b20).symm.trans hF
      refine lv_aload_n S.1 S.2.1 dX12_whoseIn_114 rfl (lv_at hl 1 rfl) ?_
      refine lv_iload_n S.1 S.2.1 dX12_whoseIn_115 rfl (lv_at hl 2 rfl) ?_
      refine lv_iconst (v := 3) S.1 S.2.1 dX12_whoseIn_116 (by decide) ?_
      obtain ⟨r21, er21, hF⟩ := bd1_some hF
      refine k_p (va_runS (As := [.int x3, .int 3]) (rest := [.ref (g.2.2 r0)]) S (c_X12_ofP   er21) (va_cwS 2 S.2.2.2.2 (ul_S tw_5_25 tw_5_26 tw_1_12 cw_X12_ofP) rfl rfl rfl hs_X12_ofP ⟨Nat.le_of_ble_eq_true rfl, Nat.le_of_ble_eq_true rfl⟩) ⟨PreM.blind, hM.pre hK⟩ rfl rfl hl.1 rfl (lv_room (Nat.le_of_ble_eq_true rfl)) dX12_whoseIn_117 ⟨Nat.zero_le _, Nat.zero_le _⟩) ?_
      obtain ⟨hv22, v22, ev22, hF⟩ := rd_some hF
      refine r_iald S hK hM r0 (ar_lt hr0) (ly_ar hr0) hv22 ev22 dX12_whoseIn_120 ?_
      refine lv_iconst (v := 1) S.1 S.2.1 dX12_whoseIn_121 (by decide) ?_
      refine lv_icmp_ne (tgt := 129) S.1 S.2.1 dX12_whoseIn_122 (by decide) (fun b23 => ?_) (fun b23 => ?_)
      · have hF := (if_neg b23).symm.trans hF
        refine lv_iload_n S.1 S.2.1 dX12_whoseIn_129 rfl (lv_at hl 2 rfl) ?_
        refine lv_iconst (v := 1) S.1 S.2.1 dX12_whoseIn_130 (by decide) ?_
        refine lv_iadd S.1 S.2.1 dX12_whoseIn_131 ?_
        refine lv_goto (tgt := 137) S.1 S.2.1 dX12_whoseIn_132 (by decide) ?_
        cases hF
        exact z_p S hr hlk rfl dX12_whoseIn_137
      · have hF := (if_pos b23).symm.trans hF
        refine lv_iload_n S.1 S.2.1 dX12_whoseIn_125 rfl (lv_at hl 2 rfl) ?_
        refine lv_goto (tgt := 137) S.1 S.2.1 dX12_whoseIn_126 (by decide) ?_
        cases hF
        exact z_p S hr hlk rfl dX12_whoseIn_137
def X12_whoseIn (σ : IM) (r0 : Nat) (a1 : Int32) (a2 : Int32) : Option Int32 := bd (2 * a1) fun v1 => bd1 (X12_ofP v1 0) fun r2 => rd (σ r0) 42 r2 fun v3 => bd1 (X12_wayOf v3 a2) fun r4 => bd1 (X12_ofP (v1 + 1) 0) fun r5 => rd (σ r0) 42 r5 fun v6 => bd1 (X12_wayOf v6 a2) fun r7 => if r4 = r7 then (bd1 (X12_ofSide a1 1) fun r9 => rd (σ r0) 42 r9 fun v10 => if v10 = 1 then (some v1) else (if v10 = 2 then (some v1) else (bd1 (X12_ofP v1 3) fun r13 => rd (σ r0) 42 r13 fun v14 => bd1 (X12_ofP (v1 + 1) 3) fun r15 => rd (σ r0) 42 r15 fun v16 => if v14 = v16 then (X12_whoseIn_b101 σ r0 v1 v10 0) else (X12_whoseIn_b101 σ r0 v1 v10 1)))) else (if r7 ≤ r4 then (some (v1 + 1)) else (some v1))
set_option maxRecDepth 20000 in
theorem c_X12_whoseIn {l : Launch} {g : GE} {A : Nat → Prop} {σ : IM} {r0 : Nat} {a1 : Int32} {a2 : Int32} {out : Int32} (hr0 : Ar r0) (hF : X12_whoseIn σ r0 a1 a2 = some out) : Met l yX12_whoseIn (.code yX12_whoseIn cX12_whoseIn 8 (some .int) :: UL) ({ frames := 2, cells := 0, slots := 0, locals := 42 }) (va_Pc [.ref (g.2.2 r0), .int a1, .int a2] (PreM lyM 13 g A [] σ nor)) (Qp (some (.int out))) 0 0 NoA := by
  refine e_of (by decide) (Nat.le_of_ble_eq_true rfl) ?_
  intro p e s m below meth c ls S hr hlk hv hl
  have hM := Mem.of hv
  have hK := hv.2.1
  have hl : lv_has ls 8 [(0, .ref (g.2.2 r0)), (1, .int a1), (2, .int a2)] := hl
  unfold X12_whoseIn at hF
  refine lv_iconst (v := 2) S.1 S.2.1 dX12_whoseIn_0 (by decide) ?_
  refine lv_iload_n S.1 S.2.1 dX12_whoseIn_1 rfl (lv_at hl 1 rfl) ?_
  refine lv_imul S.1 S.2.1 dX12_whoseIn_2 ?_
  refine lv_topi (fun v1 ev1 => ?_)
  have hF := bd_at ev1 hF
  refine lv_istore_n (lv' := [(3, .int v1), (0, .ref (g.2.2 r0)), (1, .int a1), (2, .int a2)]) S.1 S.2.1 dX12_whoseIn_3 rfl hl (by decide) rfl (fun ls hl => ?_)
  refine lv_aload_n S.1 S.2.1 dX12_whoseIn_4 rfl (lv_at hl 1 rfl) ?_
  refine lv_iload_n S.1 S.2.1 dX12_whoseIn_5 rfl (lv_at hl 0 rfl) ?_
  refine lv_iconst (v := 0) S.1 S.2.1 dX12_whoseIn_6 (by decide) ?_
  obtain ⟨r2, er2, hF⟩ := bd1_some hF
  refine k_p (va_runS (As := [.int v1, .int 0]) (rest := [.ref (g.2.2 r0)]) S (c_X12_ofP   er2) (va_cwS 2 S.2.2.2.2 (ul_S tw_5_25 tw_5_26 tw_1_12 cw_X12_ofP) rfl rfl rfl hs_X12_ofP ⟨Nat.le_of_ble_eq_true rfl, Nat.le_of_ble_eq_true rfl⟩) ⟨PreM.blind, hM.pre hK⟩ rfl rfl hl.1 rfl (lv_room (Nat.le_of_ble_eq_true rfl)) dX12_whoseIn_7 ⟨Nat.zero_le _, Nat.zero_le _⟩) ?_
  obtain ⟨hv3, v3, ev3, hF⟩ := rd_some hF
  refine r_iald S hK hM r0 (ar_lt hr0) (ly_ar hr0) hv3 ev3 dX12_whoseIn_10 ?_
  refine lv_iload_n S.1 S.2.1 dX12_whoseIn_11 rfl (lv_at hl 3 rfl) ?_
  obtain ⟨r4, er4, hF⟩ := bd1_some hF
  refine k_p (va_runS (As := [.int v3, .int a2]) (rest := []) S (c_X12_wayOf   er4) (va_cwS 2 S.2.2.2.2 (ul_S tw_5_165 tw_5_166 tw_1_12 cw_X12_wayOf) rfl rfl rfl hs_X12_wayOf ⟨Nat.le_of_ble_eq_true rfl, Nat.le_of_ble_eq_true rfl⟩) ⟨PreM.blind, hM.pre hK⟩ rfl rfl hl.1 rfl (lv_room (Nat.le_of_ble_eq_true rfl)) dX12_whoseIn_12 ⟨Nat.zero_le _, Nat.zero_le _⟩) ?_
  refine lv_istore (lv' := [(4, .int r4), (3, .int v1), (0, .ref (g.2.2 r0)), (1, .int a1), (2, .int a2)]) S.1 S.2.1 dX12_whoseIn_15 hl (by decide) rfl (fun ls hl => ?_)
  refine lv_aload_n S.1 S.2.1 dX12_whoseIn_17 rfl (lv_at hl 2 rfl) ?_
  refine lv_iload_n S.1 S.2.1 dX12_whoseIn_18 rfl (lv_at hl 1 rfl) ?_
  refine lv_iconst (v := 1) S.1 S.2.1 dX12_whoseIn_19 (by decide) ?_
  refine lv_iadd S.1 S.2.1 dX12_whoseIn_20 ?_
  refine lv_iconst (v := 0) S.1 S.2.1 dX12_whoseIn_21 (by decide) ?_
  obtain ⟨r5, er5, hF⟩ := bd1_some hF
  refine k_p (va_runS (As := [.int (v1 + 1), .int 0]) (rest := [.ref (g.2.2 r0)]) S (c_X12_ofP   er5) (va_cwS 2 S.2.2.2.2 (ul_S tw_5_25 tw_5_26 tw_1_12 cw_X12_ofP) rfl rfl rfl hs_X12_ofP ⟨Nat.le_of_ble_eq_true rfl, Nat.le_of_ble_eq_true rfl⟩) ⟨PreM.blind, hM.pre hK⟩ rfl rfl hl.1 rfl (lv_room (Nat.le_of_ble_eq_true rfl)) dX12_whoseIn_22 ⟨Nat.zero_le _, Nat.zero_le _⟩) ?_
  obtain ⟨hv6, v6, ev6, hF⟩ := rd_some hF
  refine r_iald S hK hM r0 (ar_lt hr0) (ly_ar hr0) hv6 ev6 dX12_whoseIn_25 ?_
  refine lv_iload_n S.1 S.2.1 dX12_whoseIn_26 rfl (lv_at hl 4 rfl) ?_
  obtain ⟨r7, er7, hF⟩ := bd1_some hF
  refine k_p (va_runS (As := [.int v6, .int a2]) (rest := []) S (c_X12_wayOf   er7) (va_cwS 2 S.2.2.2.2 (ul_S tw_5_165 tw_5_166 tw_1_12 cw_X12_wayOf) rfl rfl rfl hs_X12_wayOf ⟨Nat.le_of_ble_eq_true rfl, Nat.le_of_ble_eq_true rfl⟩) ⟨PreM.blind, hM.pre hK⟩ rfl rfl hl.1 rfl (lv_room (Nat.le_of_ble_eq_true rfl)) dX12_whoseIn_27 ⟨Nat.zero_le _, Nat.zero_le _⟩) ?_
  refine lv_istore (lv' := [(5, .int r7), (4, .int r4), (3, .int v1), (0, .ref (g.2.2 r0)), (1, .int a1), (2, .int a2)]) S.1 S.2.1 dX12_whoseIn_30 hl (by decide) rfl (fun ls hl => ?_)
  refine lv_iload S.1 S.2.1 dX12_whoseIn_32 (lv_at hl 1 rfl) ?_
  refine lv_iload S.1 S.2.1 dX12_whoseIn_34 (lv_at hl 0 rfl) ?_
  refine lv_icmp_eq (tgt := 54) S.1 S.2.1 dX12_whoseIn_36 (by decide) (fun b8 => ?_) (fun b8 => ?_)
  · have hF := (if_pos b8).symm.trans hF
    refine lv_aload_n S.1 S.2.1 dX12_whoseIn_54 rfl (lv_at hl 3 rfl) ?_
    refine lv_iload_n S.1 S.2.1 dX12_whoseIn_55 rfl (lv_at hl 4 rfl) ?_
    refine lv_iconst (v := 1) S.1 S.2.1 dX12_whoseIn_56 (by decide) ?_
    obtain ⟨r9, er9, hF⟩ := bd1_some hF
    refine k_p (va_runS (As := [.int a1, .int 1]) (rest := [.ref (g.2.2 r0)]) S (c_X12_ofSide   er9) (va_cwS 2 S.2.2.2.2 (ul_S tw_5_28 tw_5_29 tw_1_12 cw_X12_ofSide) rfl rfl rfl hs_X12_ofSide ⟨Nat.le_of_ble_eq_true rfl, Nat.le_of_ble_eq_true rfl⟩) ⟨PreM.blind, hM.pre hK⟩ rfl rfl hl.1 rfl (lv_room (Nat.le_of_ble_eq_true rfl)) dX12_whoseIn_57 ⟨Nat.zero_le _, Nat.zero_le _⟩) ?_
    obtain ⟨hv10, v10, ev10, hF⟩ := rd_some hF
    refine r_iald S hK hM r0 (ar_lt hr0) (ly_ar hr0) hv10 ev10 dX12_whoseIn_60 ?_
    refine lv_istore (lv' := [(6, .int v10), (5, .int r7), (4, .int r4), (3, .int v1), (0, .ref (g.2.2 r0)), (1, .int a1), (2, .int a2)]) S.1 S.2.1 dX12_whoseIn_61 hl (by decide) rfl (fun ls hl => ?_)
    refine lv_iload S.1 S.2.1 dX12_whoseIn_63 (lv_at hl 0 rfl) ?_
    refine lv_iconst (v := 1) S.1 S.2.1 dX12_whoseIn_65 (by decide) ?_
    refine lv_icmp_eq (tgt := 75) S.1 S.2.1 dX12_whoseIn_66 (by decide) (fun b11 => ?_) (fun b11 => ?_)
    · have hF := (if_pos b11).symm.trans hF
      refine lv_iload_n S.1 S.2.1 dX12_whoseIn_75 rfl (lv_at hl 3 rfl) ?_
      cases hF
      exact z_p S hr hlk rfl dX12_whoseIn_76
    · have hF := (if_neg b11).symm.trans hF
      refine lv_iload S.1 S.2.1 dX12_whoseIn_69 (lv_at hl 0 rfl) ?_
      refine lv_iconst (v := 2) S.1 S.2.1 dX12_whoseIn_71 (by decide) ?_
      refine lv_icmp_ne (tgt := 77) S.1 S.2.1 dX12_whoseIn_72 (by decide) (fun b12 => ?_) (fun b12 => ?_)
      · have hF := (if_neg b12).symm.trans hF
        refine lv_aload_n S.1 S.2.1 dX12_whoseIn_77 rfl (lv_at hl 4 rfl) ?_
        refine lv_iload_n S.1 S.2.1 dX12_whoseIn_78 rfl (lv_at hl 3 rfl) ?_
        refine lv_iconst (v := 3) S.1 S.2.1 dX12_whoseIn_79 (by decide) ?_
        obtain ⟨r13, er13, hF⟩ := bd1_some hF
        refine k_p (va_runS (As := [.int v1, .int 3]) (rest := [.ref (g.2.2 r0)]) S (c_X12_ofP   er13) (va_cwS 2 S.2.2.2.2 (ul_S tw_5_25 tw_5_26 tw_1_12 cw_X12_ofP) rfl rfl rfl hs_X12_ofP ⟨Nat.le_of_ble_eq_true rfl, Nat.le_of_ble_eq_true rfl⟩) ⟨PreM.blind, hM.pre hK⟩ rfl rfl hl.1 rfl (lv_room (Nat.le_of_ble_eq_true rfl)) dX12_whoseIn_80 ⟨Nat.zero_le _, Nat.zero_le _⟩) ?_
        obtain ⟨hv14, v14, ev14, hF⟩ := rd_some hF
        refine r_iald S hK hM r0 (ar_lt hr0) (ly_ar hr0) hv14 ev14 dX12_whoseIn_83 ?_
        refine lv_aload_n S.1 S.2.1 dX12_whoseIn_84 rfl (lv_at hl 4 rfl) ?_
        refine lv_iload_n S.1 S.2.1 dX12_whoseIn_85 rfl (lv_at hl 3 rfl) ?_
        refine lv_iconst (v := 1) S.1 S.2.1 dX12_whoseIn_86 (by decide) ?_
        refine lv_iadd S.1 S.2.1 dX12_whoseIn_87 ?_
        refine lv_iconst (v := 3) S.1 S.2.1 dX12_whoseIn_88 (by decide) ?_
        obtain ⟨r15, er15, hF⟩ := bd1_some hF
        refine k_p (va_runS (As := [.int (v1 + 1), .int 3]) (rest := [.ref (g.2.2 r0), .int v14]) S (c_X12_ofP   er15) (va_cwS 2 S.2.2.2.2 (ul_S tw_5_25 tw_5_26 tw_1_12 cw_X12_ofP) rfl rfl rfl hs_X12_ofP ⟨Nat.le_of_ble_eq_true rfl, Nat.le_of_ble_eq_true rfl⟩) ⟨PreM.blind, hM.pre hK⟩ rfl rfl hl.1 rfl (lv_room (Nat.le_of_ble_eq_true rfl)) dX12_whoseIn_89 ⟨Nat.zero_le _, Nat.zero_le _⟩) ?_
        obtain ⟨hv16, v16, ev16, hF⟩ := rd_some hF
        refine r_iald S hK hM r0 (ar_lt hr0) (ly_ar hr0) hv16 ev16 dX12_whoseIn_92 ?_
        refine lv_icmp_eq (tgt := 100) S.1 S.2.1 dX12_whoseIn_93 (by decide) (fun b17 => ?_) (fun b17 => ?_)
        · have hF := (if_pos b17).symm.trans hF
          refine lv_iconst (v := 0) S.1 S.2.1 dX12_whoseIn_100 (by decide) ?_
          exact w_X12_whoseIn_101 hr0 S hK hr hlk hM (lv_sub hl [4, 3, 0] rfl) hF
        · have hF := (if_neg b17).symm.trans hF
          refine lv_iconst (v := 1) S.1 S.2.1 dX12_whoseIn_96 (by decide) ?_
          refine lv_goto (tgt := 101) S.1 S.2.1 dX12_whoseIn_97 (by decide) ?_
          exact w_X12_whoseIn_101 hr0 S hK hr hlk hM (lv_sub hl [4, 3, 0] rfl) hF
      · have hF := (if_pos b12).symm.trans hF
        refine lv_iload_n S.1 S.2.1 dX12_whoseIn_75 rfl (lv_at hl 3 rfl) ?_
        cases hF
        exact z_p S hr hlk rfl dX12_whoseIn_76
  · have hF := (if_neg b8).symm.trans hF
    refine lv_iload S.1 S.2.1 dX12_whoseIn_39 (lv_at hl 1 rfl) ?_
    refine lv_iload S.1 S.2.1 dX12_whoseIn_41 (lv_at hl 0 rfl) ?_
    refine lv_icmp_ge (tgt := 50) S.1 S.2.1 dX12_whoseIn_43 (by decide) (fun b18 => ?_) (fun b18 => ?_)
    · have hF := (if_pos b18).symm.trans hF
      refine lv_iload_n S.1 S.2.1 dX12_whoseIn_50 rfl (lv_at hl 2 rfl) ?_
      refine lv_iconst (v := 1) S.1 S.2.1 dX12_whoseIn_51 (by decide) ?_
      refine lv_iadd S.1 S.2.1 dX12_whoseIn_52 ?_
      cases hF
      exact z_p S hr hlk rfl dX12_whoseIn_53
    · have hF := (if_neg b18).symm.trans hF
      refine lv_iload_n S.1 S.2.1 dX12_whoseIn_46 rfl (lv_at hl 2 rfl) ?_
      refine lv_goto (tgt := 53) S.1 S.2.1 dX12_whoseIn_47 (by decide) ?_
      cases hF
      exact z_p S hr hlk rfl dX12_whoseIn_53
/-! X12_isBoths -/
def X12_isBoths (σ : IM) (r0 : Nat) (a1 : Int32) (a2 : Int32) : Option Int32 := bd1 (X12_ofSide a1 1) fun r1 => rd (σ r0) 42 r1 fun v2 => if v2 = 2 then (bd1 (X12_ofP (2 * a1) 0) fun r4 => rd (σ r0) 42 r4 fun v5 => bd1 (X12_wayOf v5 a2) fun r6 => bd1 (X12_ofP ((2 * a1) + 1) 0) fun r7 => rd (σ r0) 42 r7 fun v8 => bd1 (X12_wayOf v8 a2) fun r9 => if r6 = r9 then (some 1) else (some 0)) else (some 0)
set_option maxRecDepth 20000 in
theorem c_X12_isBoths {l : Launch} {g : GE} {A : Nat → Prop} {σ : IM} {r0 : Nat} {a1 : Int32} {a2 : Int32} {out : Int32} (hr0 : Ar r0) (hF : X12_isBoths σ r0 a1 a2 = some out) : Met l yX12_isBoths (.code yX12_isBoths cX12_isBoths 3 (some .boolean) :: UL) ({ frames := 2, cells := 0, slots := 0, locals := 42 }) (va_Pc [.ref (g.2.2 r0), .int a1, .int a2] (PreM lyM 13 g A [] σ nor)) (Qp (some (.int out))) 0 0 NoA := by
  refine e_of (by decide) (Nat.le_of_ble_eq_true rfl) ?_
  intro p e s m below meth c ls S hr hlk hv hl
  have hM := Mem.of hv
  have hK := hv.2.1
  have hl : lv_has ls 3 [(0, .ref (g.2.2 r0)), (1, .int a1), (2, .int a2)] := hl
  unfold X12_isBoths at hF
  refine lv_aload_n S.1 S.2.1 dX12_isBoths_0 rfl (lv_at hl 0 rfl) ?_
  refine lv_iload_n S.1 S.2.1 dX12_isBoths_1 rfl (lv_at hl 1 rfl) ?_
  refine lv_iconst (v := 1) S.1 S.2.1 dX12_isBoths_2 (by decide) ?_
  obtain ⟨r1, er1, hF⟩ := bd1_some hF
  refine k_p (va_runS (As := [.int a1, .int 1]) (rest := [.ref (g.2.2 r0)]) S (c_X12_ofSide   er1) (va_cwS 2 S.2.2.2.2 (ul_S tw_5_28 tw_5_29 tw_1_12 cw_X12_ofSide) rfl rfl rfl hs_X12_ofSide ⟨Nat.le_of_ble_eq_true rfl, Nat.le_of_ble_eq_true rfl⟩) ⟨PreM.blind, hM.pre hK⟩ rfl rfl hl.1 rfl (lv_room (Nat.le_of_ble_eq_true rfl)) dX12_isBoths_3 ⟨Nat.zero_le _, Nat.zero_le _⟩) ?_
  obtain ⟨hv2, v2, ev2, hF⟩ := rd_some hF
  refine r_iald S hK hM r0 (ar_lt hr0) (ly_ar hr0) hv2 ev2 dX12_isBoths_6 ?_
  refine lv_iconst (v := 2) S.1 S.2.1 dX12_isBoths_7 (by decide) ?_
  refine lv_icmp_ne (tgt := 46) S.1 S.2.1 dX12_isBoths_8 (by decide) (fun b3 => ?_) (fun b3 => ?_)
  · have hF := (if_neg b3).symm.trans hF
    refine lv_iconst (v := 0) S.1 S.2.1 dX12_isBoths_46 (by decide) ?_
    cases hF
    exact z_p S hr hlk rfl dX12_isBoths_47
  · have hF := (if_pos b3).symm.trans hF
    refine lv_aload_n S.1 S.2.1 dX12_isBoths_11 rfl (lv_at hl 0 rfl) ?_
    refine lv_iconst (v := 2) S.1 S.2.1 dX12_isBoths_12 (by decide) ?_
    refine lv_iload_n S.1 S.2.1 dX12_isBoths_13 rfl (lv_at hl 1 rfl) ?_
    refine lv_imul S.1 S.2.1 dX12_isBoths_14 ?_
    refine lv_iconst (v := 0) S.1 S.2.1 dX12_isBoths_15 (by decide) ?_
    obtain ⟨r4, er4, hF⟩ := bd1_some hF
    refine k_p (va_runS (As := [.int (2 * a1), .int 0]) (rest := [.ref (g.2.2 r0)]) S (c_X12_ofP   er4) (va_cwS 2 S.2.2.2.2 (ul_S tw_5_25 tw_5_26 tw_1_12 cw_X12_ofP) rfl rfl rfl hs_X12_ofP ⟨Nat.le_of_ble_eq_true rfl, Nat.le_of_ble_eq_true rfl⟩) ⟨PreM.blind, hM.pre hK⟩ rfl rfl hl.1 rfl (lv_room (Nat.le_of_ble_eq_true rfl)) dX12_isBoths_16 ⟨Nat.zero_le _, Nat.zero_le _⟩) ?_
    obtain ⟨hv5, v5, ev5, hF⟩ := rd_some hF
    refine r_iald S hK hM r0 (ar_lt hr0) (ly_ar hr0) hv5 ev5 dX12_isBoths_19 ?_
    refine lv_iload_n S.1 S.2.1 dX12_isBoths_20 rfl (lv_at hl 2 rfl) ?_
    obtain ⟨r6, er6, hF⟩ := bd1_some hF
    refine k_p (va_runS (As := [.int v5, .int a2]) (rest := []) S (c_X12_wayOf   er6) (va_cwS 2 S.2.2.2.2 (ul_S tw_5_165 tw_5_166 tw_1_12 cw_X12_wayOf) rfl rfl rfl hs_X12_wayOf ⟨Nat.le_of_ble_eq_true rfl, Nat.le_of_ble_eq_true rfl⟩) ⟨PreM.blind, hM.pre hK⟩ rfl rfl hl.1 rfl (lv_room (Nat.le_of_ble_eq_true rfl)) dX12_isBoths_21 ⟨Nat.zero_le _, Nat.zero_le _⟩) ?_
    refine lv_aload_n S.1 S.2.1 dX12_isBoths_24 rfl (lv_at hl 0 rfl) ?_
    refine lv_iconst (v := 2) S.1 S.2.1 dX12_isBoths_25 (by decide) ?_
    refine lv_iload_n S.1 S.2.1 dX12_isBoths_26 rfl (lv_at hl 1 rfl) ?_
    refine lv_imul S.1 S.2.1 dX12_isBoths_27 ?_
    refine lv_iconst (v := 1) S.1 S.2.1 dX12_isBoths_28 (by decide) ?_
    refine lv_iadd S.1 S.2.1 dX12_isBoths_29 ?_
    refine lv_iconst (v := 0) S.1 S.2.1 dX12_isBoths_30 (by decide) ?_
    obtain ⟨r7, er7, hF⟩ := bd1_some hF
    refine k_p (va_runS (As := [.int ((2 * a1) + 1), .int 0]) (rest := [.ref (g.2.2 r0), .int r6]) S (c_X12_ofP   er7) (va_cwS 2 S.2.2.2.2 (ul_S tw_5_25 tw_5_26 tw_1_12 cw_X12_ofP) rfl rfl rfl hs_X12_ofP ⟨Nat.le_of_ble_eq_true rfl, Nat.le_of_ble_eq_true rfl⟩) ⟨PreM.blind, hM.pre hK⟩ rfl rfl hl.1 rfl (lv_room (Nat.le_of_ble_eq_true rfl)) dX12_isBoths_31 ⟨Nat.zero_le _, Nat.zero_le _⟩) ?_
    obtain ⟨hv8, v8, ev8, hF⟩ := rd_some hF
    refine r_iald S hK hM r0 (ar_lt hr0) (ly_ar hr0) hv8 ev8 dX12_isBoths_34 ?_
    refine lv_iload_n S.1 S.2.1 dX12_isBoths_35 rfl (lv_at hl 2 rfl) ?_
    obtain ⟨r9, er9, hF⟩ := bd1_some hF
    refine k_p (va_runS (As := [.int v8, .int a2]) (rest := [.int r6]) S (c_X12_wayOf   er9) (va_cwS 2 S.2.2.2.2 (ul_S tw_5_165 tw_5_166 tw_1_12 cw_X12_wayOf) rfl rfl rfl hs_X12_wayOf ⟨Nat.le_of_ble_eq_true rfl, Nat.le_of_ble_eq_true rfl⟩) ⟨PreM.blind, hM.pre hK⟩ rfl rfl hl.1 rfl (lv_room (Nat.le_of_ble_eq_true rfl)) dX12_isBoths_36 ⟨Nat.zero_le _, Nat.zero_le _⟩) ?_
    refine lv_icmp_ne (tgt := 46) S.1 S.2.1 dX12_isBoths_39 (by decide) (fun b10 => ?_) (fun b10 => ?_)
    · have hF := (if_neg b10).symm.trans hF
      refine lv_iconst (v := 0) S.1 S.2.1 dX12_isBoths_46 (by decide) ?_
      cases hF
      exact z_p S hr hlk rfl dX12_isBoths_47
    · have hF := (if_pos b10).symm.trans hF
      refine lv_iconst (v := 1) S.1 S.2.1 dX12_isBoths_42 (by decide) ?_
      refine lv_goto (tgt := 47) S.1 S.2.1 dX12_isBoths_43 (by decide) ?_
      cases hF
      exact z_p S hr hlk rfl dX12_isBoths_47
/-! X12_placeFor -/
def X12_placeFor (a0 : Int32) (a1 : Int32) : Option Int32 := if a0 = 0 then (some (5 - (rem32 a1 3))) else (some ((3 * (2 - (a1 / 3))) + 1))
set_option maxRecDepth 20000 in
theorem c_X12_placeFor {l : Launch} {g : GE} {A : Nat → Prop} {σ : IM} {a0 : Int32} {a1 : Int32} {out : Int32} (hF : X12_placeFor a0 a1 = some out) : Met l yX12_placeFor (.code yX12_placeFor cX12_placeFor 2 (some .int) :: UL) ({ frames := 0, cells := 0, slots := 0, locals := 0 }) (va_Pc [.int a0, .int a1] (PreM lyM 13 g A [] σ nor)) (Qp (some (.int out))) 0 0 NoA := by
  refine e_of (by decide) (Nat.le_of_ble_eq_true rfl) ?_
  intro p e s m below meth c ls S hr hlk hv hl
  have hM := Mem.of hv
  have hK := hv.2.1
  have hl : lv_has ls 2 [(0, .int a0), (1, .int a1)] := hl
  unfold X12_placeFor at hF
  refine lv_iload_n S.1 S.2.1 dX12_placeFor_0 rfl (lv_at hl 0 rfl) ?_
  refine lv_if_ne (tgt := 12) S.1 S.2.1 dX12_placeFor_1 (by decide) (fun b1 => ?_) (fun b1 => ?_)
  · have hF := (if_neg b1).symm.trans hF
    refine lv_iconst (v := 3) S.1 S.2.1 dX12_placeFor_12 (by decide) ?_
    refine lv_iconst (v := 2) S.1 S.2.1 dX12_placeFor_13 (by decide) ?_
    refine lv_iload_n S.1 S.2.1 dX12_placeFor_14 rfl (lv_at hl 1 rfl) ?_
    refine lv_iconst (v := 3) S.1 S.2.1 dX12_placeFor_15 (by decide) ?_
    refine lv_idiv S.1 S.2.1 dX12_placeFor_16 (by decide) ?_
    refine lv_isub S.1 S.2.1 dX12_placeFor_17 ?_
    refine lv_imul S.1 S.2.1 dX12_placeFor_18 ?_
    refine lv_iconst (v := 1) S.1 S.2.1 dX12_placeFor_19 (by decide) ?_
    refine lv_iadd S.1 S.2.1 dX12_placeFor_20 ?_
    cases hF
    exact z_p S hr hlk rfl dX12_placeFor_21
  · have hF := (if_pos b1).symm.trans hF
    refine lv_iconst (v := 5) S.1 S.2.1 dX12_placeFor_4 (by decide) ?_
    refine lv_iload_n S.1 S.2.1 dX12_placeFor_5 rfl (lv_at hl 1 rfl) ?_
    refine lv_iconst (v := 3) S.1 S.2.1 dX12_placeFor_6 (by decide) ?_
    refine r_irem S dX12_placeFor_7 (by decide) ?_
    refine lv_isub S.1 S.2.1 dX12_placeFor_8 ?_
    refine lv_goto (tgt := 21) S.1 S.2.1 dX12_placeFor_9 (by decide) ?_
    cases hF
    exact z_p S hr hlk rfl dX12_placeFor_21
/-! X12_towards -/
def X12_towards_b85 (x4 : Int32) (x5 : Int32) : Option Int32 := some ((3 * x5) + x4)
set_option maxRecDepth 20000 in
theorem w_X12_towards_85 {l : Launch} {g : GE} {A : Nat → Prop} {σ : IM} {p : Program} {e : Env} {s : State} {m : MethodId} {args : Array Value} {below : List Frame} {meth : Method} {c : Code} (S : CallFix p m c cX12_towards 6 s args UL RX12) (hK : KK g s) (hr : meth.sig.returnType = (some .int)) (hlk : meth.locks = false) (hM : Mem lyM 13 g A [] σ nor s.heap s.heap []) {out : Int32} : ∀ {x4 : Int32} {x5 : Int32} {ls : Array Slot}, lv_has ls 6 [(4, .int x4), (5, .int x5)] → X12_towards_b85 x4 x5 = some out → W p l e ({ frames := 0, cells := 0, slots := 0, locals := 0 }) s m args below meth c s.heap [] 0 0 (MQ below (Qp (some (.int out))) args s 0 0 NoA) (F0 m 85 ls []) := by
  intro x4 x5 ls hl hF
  unfold X12_towards_b85 at hF
  refine lv_iconst (v := 3) S.1 S.2.1 dX12_towards_85 (by decide) ?_
  refine lv_iload S.1 S.2.1 dX12_towards_86 (lv_at hl 1 rfl) ?_
  refine lv_imul S.1 S.2.1 dX12_towards_88 ?_
  refine lv_iload S.1 S.2.1 dX12_towards_89 (lv_at hl 0 rfl) ?_
  refine lv_iadd S.1 S.2.1 dX12_towards_91 ?_
  cases hF
  exact z_p S hr hlk rfl dX12_towards_92
def X12_towards_b79 (k12 : Int32 → Int32 → Int32 → Int32 → Option Int32) (x1 : Int32) (x3 : Int32) (x4 : Int32) (x5 : Int32) : Option Int32 := bd (x3 + (-1)) fun v11 => k12 x1 v11 x4 x5
set_option maxRecDepth 20000 in
theorem w_X12_towards_79 {l : Launch} {g : GE} {A : Nat → Prop} {σ : IM} {p : Program} {e : Env} {s : State} {m : MethodId} {args : Array Value} {below : List Frame} {meth : Method} {c : Code} (S : CallFix p m c cX12_towards 6 s args UL RX12) (hK : KK g s) (hr : meth.sig.returnType = (some .int)) (hlk : meth.locks = false) (hM : Mem lyM 13 g A [] σ nor s.heap s.heap []) {out : Int32} {k12 : Int32 → Int32 → Int32 → Int32 → Option Int32} (hk12 : ∀ {x1 : Int32} {x3 : Int32} {x4 : Int32} {x5 : Int32} {ls : Array Slot}, lv_has ls 6 [(1, .int x1), (3, .int x3), (4, .int x4), (5, .int x5)] → k12 x1 x3 x4 x5 = some out → W p l e ({ frames := 0, cells := 0, slots := 0, locals := 0 }) s m args below meth c s.heap [] 0 0 (MQ below (Qp (some (.int out))) args s 0 0 NoA) (F0 m 12 ls [])) : ∀ {x1 : Int32} {x3 : Int32} {x4 : Int32} {x5 : Int32} {ls : Array Slot}, lv_has ls 6 [(1, .int x1), (3, .int x3), (4, .int x4), (5, .int x5)] → X12_towards_b79 k12 x1 x3 x4 x5 = some out → W p l e ({ frames := 0, cells := 0, slots := 0, locals := 0 }) s m args below meth c s.heap [] 0 0 (MQ below (Qp (some (.int out))) args s 0 0 NoA) (F0 m 79 ls []) := by
  intro x1 x3 x4 x5 ls hl hF
  unfold X12_towards_b79 at hF
  obtain ⟨v11, ev11, hF⟩ := bd_some hF
  refine lv_iinc (v := v11) (lv' := [(3, .int v11), (1, .int x1), (4, .int x4), (5, .int x5)]) S.1 S.2.1 dX12_towards_79 hl (k := 1) rfl (by rw [ev11]; rfl) (by decide) rfl (fun ls hl => ?_)
  refine lv_goto (tgt := 12) S.1 S.2.1 dX12_towards_82 (by decide) ?_
  exact hk12  (lv_sub hl [1, 0, 2, 3] rfl)  hF
def X12_towards_b76 (k12 : Int32 → Int32 → Int32 → Int32 → Option Int32) (x1 : Int32) (x3 : Int32) (x4 : Int32) (t0 : Int32) (t1 : Int32) : Option Int32 := bd (t1 + t0) fun v10 => X12_towards_b79 k12 x1 x3 x4 v10
set_option maxRecDepth 20000 in
theorem w_X12_towards_76 {l : Launch} {g : GE} {A : Nat → Prop} {σ : IM} {p : Program} {e : Env} {s : State} {m : MethodId} {args : Array Value} {below : List Frame} {meth : Method} {c : Code} (S : CallFix p m c cX12_towards 6 s args UL RX12) (hK : KK g s) (hr : meth.sig.returnType = (some .int)) (hlk : meth.locks = false) (hM : Mem lyM 13 g A [] σ nor s.heap s.heap []) {out : Int32} {k12 : Int32 → Int32 → Int32 → Int32 → Option Int32} (hk12 : ∀ {x1 : Int32} {x3 : Int32} {x4 : Int32} {x5 : Int32} {ls : Array Slot}, lv_has ls 6 [(1, .int x1), (3, .int x3), (4, .int x4), (5, .int x5)] → k12 x1 x3 x4 x5 = some out → W p l e ({ frames := 0, cells := 0, slots := 0, locals := 0 }) s m args below meth c s.heap [] 0 0 (MQ below (Qp (some (.int out))) args s 0 0 NoA) (F0 m 12 ls [])) : ∀ {x1 : Int32} {x3 : Int32} {x4 : Int32} {t0 : Int32} {t1 : Int32} {ls : Array Slot}, lv_has ls 6 [(1, .int x1), (3, .int x3), (4, .int x4)] → X12_towards_b76 k12 x1 x3 x4 t0 t1 = some out → W p l e ({ frames := 0, cells := 0, slots := 0, locals := 0 }) s m args below meth c s.heap [] 0 0 (MQ below (Qp (some (.int out))) args s 0 0 NoA) (F0 m 76 ls [.int t0, .int t1]) := by
  intro x1 x3 x4 t0 t1 ls hl hF
  unfold X12_towards_b76 at hF
  refine lv_iadd S.1 S.2.1 dX12_towards_76 ?_
  refine lv_topi (fun v10 ev10 => ?_)
  have hF := bd_at ev10 hF
  refine lv_istore (lv' := [(5, .int v10), (1, .int x1), (3, .int x3), (4, .int x4)]) S.1 S.2.1 dX12_towards_77 hl (by decide) rfl (fun ls hl => ?_)
  exact w_X12_towards_79 S hK hr hlk hM hk12 (lv_sub hl [1, 2, 3, 0] rfl) hF
def X12_towards_b55 (k12 : Int32 → Int32 → Int32 → Int32 → Option Int32) (x1 : Int32) (x3 : Int32) (x5 : Int32) (t0 : Int32) (t1 : Int32) : Option Int32 := bd (t1 + t0) fun v9 => X12_towards_b79 k12 x1 x3 v9 x5
set_option maxRecDepth 20000 in
theorem w_X12_towards_55 {l : Launch} {g : GE} {A : Nat → Prop} {σ : IM} {p : Program} {e : Env} {s : State} {m : MethodId} {args : Array Value} {below : List Frame} {meth : Method} {c : Code} (S : CallFix p m c cX12_towards 6 s args UL RX12) (hK : KK g s) (hr : meth.sig.returnType = (some .int)) (hlk : meth.locks = false) (hM : Mem lyM 13 g A [] σ nor s.heap s.heap []) {out : Int32} {k12 : Int32 → Int32 → Int32 → Int32 → Option Int32} (hk12 : ∀ {x1 : Int32} {x3 : Int32} {x4 : Int32} {x5 : Int32} {ls : Array Slot}, lv_has ls 6 [(1, .int x1), (3, .int x3), (4, .int x4), (5, .int x5)] → k12 x1 x3 x4 x5 = some out → W p l e ({ frames := 0, cells := 0, slots := 0, locals := 0 }) s m args below meth c s.heap [] 0 0 (MQ below (Qp (some (.int out))) args s 0 0 NoA) (F0 m 12 ls [])) : ∀ {x1 : Int32} {x3 : Int32} {x5 : Int32} {t0 : Int32} {t1 : Int32} {ls : Array Slot}, lv_has ls 6 [(1, .int x1), (3, .int x3), (5, .int x5)] → X12_towards_b55 k12 x1 x3 x5 t0 t1 = some out → W p l e ({ frames := 0, cells := 0, slots := 0, locals := 0 }) s m args below meth c s.heap [] 0 0 (MQ below (Qp (some (.int out))) args s 0 0 NoA) (F0 m 55 ls [.int t0, .int t1]) := by
  intro x1 x3 x5 t0 t1 ls hl hF
  unfold X12_towards_b55 at hF
  refine lv_iadd S.1 S.2.1 dX12_towards_55 ?_
  refine lv_topi (fun v9 ev9 => ?_)
  have hF := bd_at ev9 hF
  refine lv_istore (lv' := [(4, .int v9), (1, .int x1), (3, .int x3), (5, .int x5)]) S.1 S.2.1 dX12_towards_56 hl (by decide) rfl (fun ls hl => ?_)
  refine lv_goto (tgt := 79) S.1 S.2.1 dX12_towards_58 (by decide) ?_
  exact w_X12_towards_79 S hK hr hlk hM hk12 (lv_sub hl [1, 2, 0, 3] rfl) hF
def X12_towards_b32 (k12 : Int32 → Int32 → Int32 → Int32 → Option Int32) (x1 : Int32) (x3 : Int32) (x4 : Int32) (x5 : Int32) : Option Int32 := if x4 = rem32 x1 3 then (if x1 / 3 ≤ x5 then (X12_towards_b76 k12 x1 x3 x4 (-1) x5) else (X12_towards_b76 k12 x1 x3 x4 1 x5)) else (if rem32 x1 3 ≤ x4 then (X12_towards_b55 k12 x1 x3 x5 (-1) x4) else (X12_towards_b55 k12 x1 x3 x5 1 x4))
set_option maxRecDepth 20000 in
theorem w_X12_towards_32 {l : Launch} {g : GE} {A : Nat → Prop} {σ : IM} {p : Program} {e : Env} {s : State} {m : MethodId} {args : Array Value} {below : List Frame} {meth : Method} {c : Code} (S : CallFix p m c cX12_towards 6 s args UL RX12) (hK : KK g s) (hr : meth.sig.returnType = (some .int)) (hlk : meth.locks = false) (hM : Mem lyM 13 g A [] σ nor s.heap s.heap []) {out : Int32} {k12 : Int32 → Int32 → Int32 → Int32 → Option Int32} (hk12 : ∀ {x1 : Int32} {x3 : Int32} {x4 : Int32} {x5 : Int32} {ls : Array Slot}, lv_has ls 6 [(1, .int x1), (3, .int x3), (4, .int x4), (5, .int x5)] → k12 x1 x3 x4 x5 = some out → W p l e ({ frames := 0, cells := 0, slots := 0, locals := 0 }) s m args below meth c s.heap [] 0 0 (MQ below (Qp (some (.int out))) args s 0 0 NoA) (F0 m 12 ls [])) : ∀ {x1 : Int32} {x3 : Int32} {x4 : Int32} {x5 : Int32} {ls : Array Slot}, lv_has ls 6 [(1, .int x1), (3, .int x3), (4, .int x4), (5, .int x5)] → X12_towards_b32 k12 x1 x3 x4 x5 = some out → W p l e ({ frames := 0, cells := 0, slots := 0, locals := 0 }) s m args below meth c s.heap [] 0 0 (MQ below (Qp (some (.int out))) args s 0 0 NoA) (F0 m 32 ls []) := by
  intro x1 x3 x4 x5 ls hl hF
  unfold X12_towards_b32 at hF
  refine lv_iload S.1 S.2.1 dX12_towards_32 (lv_at hl 2 rfl) ?_
  refine lv_iload_n S.1 S.2.1 dX12_towards_34 rfl (lv_at hl 0 rfl) ?_
  refine lv_iconst (v := 3) S.1 S.2.1 dX12_towards_35 (by decide) ?_
  refine r_irem S dX12_towards_36 (by decide) ?_
  refine lv_icmp_eq (tgt := 61) S.1 S.2.1 dX12_towards_37 (by decide) (fun b6 => ?_) (fun b6 => ?_)
  · have hF := (if_pos b6).symm.trans hF
    refine lv_iload S.1 S.2.1 dX12_towards_61 (lv_at hl 3 rfl) ?_
    refine lv_iload S.1 S.2.1 dX12_towards_63 (lv_at hl 3 rfl) ?_
    refine lv_iload_n S.1 S.2.1 dX12_towards_65 rfl (lv_at hl 0 rfl) ?_
    refine lv_iconst (v := 3) S.1 S.2.1 dX12_towards_66 (by decide) ?_
    refine lv_idiv S.1 S.2.1 dX12_towards_67 (by decide) ?_
    refine lv_icmp_ge (tgt := 75) S.1 S.2.1 dX12_towards_68 (by decide) (fun b7 => ?_) (fun b7 => ?_)
    · have hF := (if_pos b7).symm.trans hF
      refine lv_iconst (v := (-1)) S.1 S.2.1 dX12_towards_75 (by decide) ?_
      exact w_X12_towards_76 S hK hr hlk hM hk12 (lv_sub hl [0, 1, 2] rfl) hF
    · have hF := (if_neg b7).symm.trans hF
      refine lv_iconst (v := 1) S.1 S.2.1 dX12_towards_71 (by decide) ?_
      refine lv_goto (tgt := 76) S.1 S.2.1 dX12_towards_72 (by decide) ?_
      exact w_X12_towards_76 S hK hr hlk hM hk12 (lv_sub hl [0, 1, 2] rfl) hF
  · have hF := (if_neg b6).symm.trans hF
    refine lv_iload S.1 S.2.1 dX12_towards_40 (lv_at hl 2 rfl) ?_
    refine lv_iload S.1 S.2.1 dX12_towards_42 (lv_at hl 2 rfl) ?_
    refine lv_iload_n S.1 S.2.1 dX12_towards_44 rfl (lv_at hl 0 rfl) ?_
    refine lv_iconst (v := 3) S.1 S.2.1 dX12_towards_45 (by decide) ?_
    refine r_irem S dX12_towards_46 (by decide) ?_
    refine lv_icmp_ge (tgt := 54) S.1 S.2.1 dX12_towards_47 (by decide) (fun b8 => ?_) (fun b8 => ?_)
    · have hF := (if_pos b8).symm.trans hF
      refine lv_iconst (v := (-1)) S.1 S.2.1 dX12_towards_54 (by decide) ?_
      exact w_X12_towards_55 S hK hr hlk hM hk12 (lv_sub hl [0, 1, 3] rfl) hF
    · have hF := (if_neg b8).symm.trans hF
      refine lv_iconst (v := 1) S.1 S.2.1 dX12_towards_50 (by decide) ?_
      refine lv_goto (tgt := 55) S.1 S.2.1 dX12_towards_51 (by decide) ?_
      exact w_X12_towards_55 S hK hr hlk hM hk12 (lv_sub hl [0, 1, 3] rfl) hF
def X12_towards_s12 (k12 : Int32 → Int32 → Int32 → Int32 → Option Int32) (x1 : Int32) (x3 : Int32) (x4 : Int32) (x5 : Int32) : Option Int32 := if x3 ≤ 0 then (X12_towards_b85 x4 x5) else (if x4 = rem32 x1 3 then (if x5 = x1 / 3 then (X12_towards_b85 x4 x5) else (X12_towards_b32 k12 x1 x3 x4 x5)) else (X12_towards_b32 k12 x1 x3 x4 x5))
def X12_towards_b12 : Nat → Int32 → Int32 → Int32 → Int32 → Option Int32
  | 0 => fun _ _ _ _ => none
  | n + 1 => X12_towards_s12 (X12_towards_b12 n)
set_option maxRecDepth 20000 in
theorem w_X12_towards_12 {l : Launch} {g : GE} {A : Nat → Prop} {σ : IM} {p : Program} {e : Env} {s : State} {m : MethodId} {args : Array Value} {below : List Frame} {meth : Method} {c : Code} (S : CallFix p m c cX12_towards 6 s args UL RX12) (hK : KK g s) (hr : meth.sig.returnType = (some .int)) (hlk : meth.locks = false) (hM : Mem lyM 13 g A [] σ nor s.heap s.heap []) {out : Int32} {k12 : Int32 → Int32 → Int32 → Int32 → Option Int32} (hk12 : ∀ {x1 : Int32} {x3 : Int32} {x4 : Int32} {x5 : Int32} {ls : Array Slot}, lv_has ls 6 [(1, .int x1), (3, .int x3), (4, .int x4), (5, .int x5)] → k12 x1 x3 x4 x5 = some out → W p l e ({ frames := 0, cells := 0, slots := 0, locals := 0 }) s m args below meth c s.heap [] 0 0 (MQ below (Qp (some (.int out))) args s 0 0 NoA) (F0 m 12 ls [])) : ∀ {x1 : Int32} {x3 : Int32} {x4 : Int32} {x5 : Int32} {ls : Array Slot}, lv_has ls 6 [(1, .int x1), (3, .int x3), (4, .int x4), (5, .int x5)] → X12_towards_s12 k12 x1 x3 x4 x5 = some out → W p l e ({ frames := 0, cells := 0, slots := 0, locals := 0 }) s m args below meth c s.heap [] 0 0 (MQ below (Qp (some (.int out))) args s 0 0 NoA) (F0 m 12 ls []) := by
  intro x1 x3 x4 x5 ls hl hF
  unfold X12_towards_s12 at hF
  refine lv_iload_n S.1 S.2.1 dX12_towards_12 rfl (lv_at hl 1 rfl) ?_
  refine lv_if_le (tgt := 85) S.1 S.2.1 dX12_towards_13 (by decide) (fun b3 => ?_) (fun b3 => ?_)
  · have hF := (if_pos b3).symm.trans hF
    exact w_X12_towards_85 S hK hr hlk hM (lv_sub hl [2, 3] rfl) hF
  · have hF := (if_neg b3).symm.trans hF
    refine lv_iload S.1 S.2.1 dX12_towards_16 (lv_at hl 2 rfl) ?_
    refine lv_iload_n S.1 S.2.1 dX12_towards_18 rfl (lv_at hl 0 rfl) ?_
    refine lv_iconst (v := 3) S.1 S.2.1 dX12_towards_19 (by decide) ?_
    refine r_irem S dX12_towards_20 (by decide) ?_
    refine lv_icmp_ne (tgt := 32) S.1 S.2.1 dX12_towards_21 (by decide) (fun b4 => ?_) (fun b4 => ?_)
    · have hF := (if_neg b4).symm.trans hF
      exact w_X12_towards_32 S hK hr hlk hM hk12 (lv_sub hl [0, 1, 2, 3] rfl) hF
    · have hF := (if_pos b4).symm.trans hF
      refine lv_iload S.1 S.2.1 dX12_towards_24 (lv_at hl 3 rfl) ?_
      refine lv_iload_n S.1 S.2.1 dX12_towards_26 rfl (lv_at hl 0 rfl) ?_
      refine lv_iconst (v := 3) S.1 S.2.1 dX12_towards_27 (by decide) ?_
      refine lv_idiv S.1 S.2.1 dX12_towards_28 (by decide) ?_
      refine lv_icmp_eq (tgt := 85) S.1 S.2.1 dX12_towards_29 (by decide) (fun b5 => ?_) (fun b5 => ?_)
      · have hF := (if_pos b5).symm.trans hF
        exact w_X12_towards_85 S hK hr hlk hM (lv_sub hl [2, 3] rfl) hF
      · have hF := (if_neg b5).symm.trans hF
        exact w_X12_towards_32 S hK hr hlk hM hk12 (lv_sub hl [0, 1, 2, 3] rfl) hF
theorem wl_X12_towards_12 {l : Launch} {g : GE} {A : Nat → Prop} {σ : IM} {p : Program} {e : Env} {s : State} {m : MethodId} {args : Array Value} {below : List Frame} {meth : Method} {c : Code} (S : CallFix p m c cX12_towards 6 s args UL RX12) (hK : KK g s) (hr : meth.sig.returnType = (some .int)) (hlk : meth.locks = false) (hM : Mem lyM 13 g A [] σ nor s.heap s.heap []) {out : Int32} : ∀ (n : Nat) {x1 : Int32} {x3 : Int32} {x4 : Int32} {x5 : Int32} {ls : Array Slot}, lv_has ls 6 [(1, .int x1), (3, .int x3), (4, .int x4), (5, .int x5)] → X12_towards_b12 n x1 x3 x4 x5 = some out → W p l e ({ frames := 0, cells := 0, slots := 0, locals := 0 }) s m args below meth c s.heap [] 0 0 (MQ below (Qp (some (.int out))) args s 0 0 NoA) (F0 m 12 ls []) := by
  intro n
  induction n with
  | zero =>
    intro x1 x3 x4 x5 ls hl hF
    cases hF
  | succ n ih =>
    intro x1 x3 x4 x5 ls hl hF
    exact w_X12_towards_12 S hK hr hlk hM ih hl hF
def X12_towards (a0 : Int32) (a1 : Int32) (a2 : Int32) : Option Int32 := bd (rem32 a0 3) fun v1 => bd (a0 / 3) fun v2 => X12_towards_b12 1000 a1 a2 v1 v2
set_option maxRecDepth 20000 in
theorem c_X12_towards {l : Launch} {g : GE} {A : Nat → Prop} {σ : IM} {a0 : Int32} {a1 : Int32} {a2 : Int32} {out : Int32} (hF : X12_towards a0 a1 a2 = some out) : Met l yX12_towards (.code yX12_towards cX12_towards 6 (some .int) :: UL) ({ frames := 0, cells := 0, slots := 0, locals := 0 }) (va_Pc [.int a0, .int a1, .int a2] (PreM lyM 13 g A [] σ nor)) (Qp (some (.int out))) 0 0 NoA := by
  refine e_of (by decide) (Nat.le_of_ble_eq_true rfl) ?_
  intro p e s m below meth c ls S hr hlk hv hl
  have hM := Mem.of hv
  have hK := hv.2.1
  have hl : lv_has ls 6 [(0, .int a0), (1, .int a1), (2, .int a2)] := hl
  unfold X12_towards at hF
  refine lv_iload_n S.1 S.2.1 dX12_towards_0 rfl (lv_at hl 2 rfl) ?_
  refine lv_istore_n (lv' := [(3, .int a2), (0, .int a0), (1, .int a1), (2, .int a2)]) S.1 S.2.1 dX12_towards_1 rfl hl (by decide) rfl (fun ls hl => ?_)
  refine lv_iload_n S.1 S.2.1 dX12_towards_2 rfl (lv_at hl 1 rfl) ?_
  refine lv_iconst (v := 3) S.1 S.2.1 dX12_towards_3 (by decide) ?_
  refine r_irem S dX12_towards_4 (by decide) ?_
  refine lv_topi (fun v1 ev1 => ?_)
  have hF := bd_at ev1 hF
  refine lv_istore (lv' := [(4, .int v1), (3, .int a2), (0, .int a0), (1, .int a1), (2, .int a2)]) S.1 S.2.1 dX12_towards_5 hl (by decide) rfl (fun ls hl => ?_)
  refine lv_iload_n S.1 S.2.1 dX12_towards_7 rfl (lv_at hl 2 rfl) ?_
  refine lv_iconst (v := 3) S.1 S.2.1 dX12_towards_8 (by decide) ?_
  refine lv_idiv S.1 S.2.1 dX12_towards_9 (by decide) ?_
  refine lv_topi (fun v2 ev2 => ?_)
  have hF := bd_at ev2 hF
  refine lv_istore (lv' := [(5, .int v2), (4, .int v1), (3, .int a2), (0, .int a0), (1, .int a1), (2, .int a2)]) S.1 S.2.1 dX12_towards_10 hl (by decide) rfl (fun ls hl => ?_)
  exact wl_X12_towards_12 S hK hr hlk hM 1000 (lv_sub hl [4, 2, 1, 0] rfl) hF
/-! X12_moves -/
def X12_moves (σ : IM) (r1 : Nat) (a2 : Int32) (a3 : Int32) : Option IM := rd (σ 5) 4 a2 fun v1 => bd1 (X12_ofP a2 0) fun r2 => rd (σ r1) 42 r2 fun v3 => bd1 (X12_wayOf v3 a3) fun r4 => wr σ 5 4 a2 (v1 + r4) fun σ5 => bd1 (X12_ofP a2 0) fun r6 => wr σ5 r1 42 r6 a3 fun σ7 => some (σ7)
set_option maxRecDepth 20000 in
theorem c_X12_moves {l : Launch} {g : GE} {A : Nat → Prop} {σ : IM} {r1 : Nat} {a2 : Int32} {a3 : Int32} {out : IM} (hr1 : Ar r1) (hF : X12_moves σ r1 a2 a3 = some out) : Met l yX12_moves (.code yX12_moves cX12_moves 4 none :: UL) ({ frames := 2, cells := 0, slots := 0, locals := 42 }) (va_Pc [.ref (g.2.2 0), .ref (g.2.2 r1), .int a2, .int a3] (PreM lyM 13 g A [] σ nor)) (Qm lyM 13 g A [] out nor none) 0 0 A := by
  refine e_of (by decide) (Nat.le_of_ble_eq_true rfl) ?_
  intro p e s m below meth c ls S hr hlk hv hl
  have hM := Mem.of hv
  have hK := hv.2.1
  have hl : lv_has ls 4 [(0, .ref (g.2.2 0)), (1, .ref (g.2.2 r1)), (2, .int a2), (3, .int a3)] := hl
  unfold X12_moves at hF
  refine lv_aload_n S.1 S.2.1 dX12_moves_0 rfl (lv_at hl 0 rfl) ?_
  refine r_getC S hK hM cfX12 0 4 5 (by decide) lm_0 rfl (by decide) tw_5_35 dX12_moves_1 ?_
  refine lv_iload_n S.1 S.2.1 dX12_moves_4 rfl (lv_at hl 2 rfl) ?_
  refine lv_dup2_11 S.1 S.2.1 dX12_moves_5 rfl rfl ?_
  obtain ⟨hv1, v1, ev1, hF⟩ := rd_some hF
  refine r_iald S hK hM 5 (by decide) rfl hv1 ev1 dX12_moves_6 ?_
  refine lv_aload_n S.1 S.2.1 dX12_moves_7 rfl (lv_at hl 1 rfl) ?_
  refine lv_iload_n S.1 S.2.1 dX12_moves_8 rfl (lv_at hl 2 rfl) ?_
  refine lv_iconst (v := 0) S.1 S.2.1 dX12_moves_9 (by decide) ?_
  obtain ⟨r2, er2, hF⟩ := bd1_some hF
  refine k_p (va_runS (As := [.int a2, .int 0]) (rest := [.ref (g.2.2 r1), .int v1, .int a2, .ref (g.2.2 5)]) S (c_X12_ofP   er2) (va_cwS 2 S.2.2.2.2 (ul_S tw_5_25 tw_5_26 tw_1_12 cw_X12_ofP) rfl rfl rfl hs_X12_ofP ⟨Nat.le_of_ble_eq_true rfl, Nat.le_of_ble_eq_true rfl⟩) ⟨PreM.blind, hM.pre hK⟩ rfl rfl hl.1 rfl (lv_room (Nat.le_of_ble_eq_true rfl)) dX12_moves_10 ⟨Nat.zero_le _, Nat.zero_le _⟩) ?_
  obtain ⟨hv3, v3, ev3, hF⟩ := rd_some hF
  refine r_iald S hK hM r1 (ar_lt hr1) (ly_ar hr1) hv3 ev3 dX12_moves_13 ?_
  refine lv_iload_n S.1 S.2.1 dX12_moves_14 rfl (lv_at hl 3 rfl) ?_
  obtain ⟨r4, er4, hF⟩ := bd1_some hF
  refine k_p (va_runS (As := [.int v3, .int a3]) (rest := [.int v1, .int a2, .ref (g.2.2 5)]) S (c_X12_wayOf   er4) (va_cwS 2 S.2.2.2.2 (ul_S tw_5_165 tw_5_166 tw_1_12 cw_X12_wayOf) rfl rfl rfl hs_X12_wayOf ⟨Nat.le_of_ble_eq_true rfl, Nat.le_of_ble_eq_true rfl⟩) ⟨PreM.blind, hM.pre hK⟩ rfl rfl hl.1 rfl (lv_room (Nat.le_of_ble_eq_true rfl)) dX12_moves_15 ⟨Nat.zero_le _, Nat.zero_le _⟩) ?_
  refine lv_iadd S.1 S.2.1 dX12_moves_18 ?_
  obtain ⟨hσ5, σ5, eσ5, hF⟩ := wr_some hF
  refine r_iast S hK hM 5 (by decide) rfl hσ5 eσ5 dX12_moves_19 (fun H locs hM => ?_)
  refine lv_aload_n S.1 S.2.1 dX12_moves_20 rfl (lv_at hl 1 rfl) ?_
  refine lv_iload_n S.1 S.2.1 dX12_moves_21 rfl (lv_at hl 2 rfl) ?_
  refine lv_iconst (v := 0) S.1 S.2.1 dX12_moves_22 (by decide) ?_
  obtain ⟨r6, er6, hF⟩ := bd1_some hF
  refine k_p (va_runS (As := [.int a2, .int 0]) (rest := [.ref (g.2.2 r1)]) S (c_X12_ofP   er6) (va_cwS 2 S.2.2.2.2 (ul_S tw_5_25 tw_5_26 tw_1_12 cw_X12_ofP) rfl rfl rfl hs_X12_ofP ⟨Nat.le_of_ble_eq_true rfl, Nat.le_of_ble_eq_true rfl⟩) ⟨PreM.blind, hM.pre hK⟩ rfl rfl hl.1 rfl (lv_room (Nat.le_of_ble_eq_true rfl)) dX12_moves_23 ⟨Nat.zero_le _, Nat.zero_le _⟩) ?_
  refine lv_iload_n S.1 S.2.1 dX12_moves_26 rfl (lv_at hl 3 rfl) ?_
  obtain ⟨hσ7, σ7, eσ7, hF⟩ := wr_some hF
  refine r_iast S hK hM r1 (ar_lt hr1) (ly_ar hr1) hσ7 eσ7 dX12_moves_27 (fun H locs hM => ?_)
  cases hF
  exact z_mv S hM hr hlk dX12_moves_28
/-! X12_hits -/
def X12_hits_b133 (r1 : Nat) (x5 : Int32) (σ : IM) : Option (Int32 × IM) := bd1 (X12_ofSide (1 - x5) 2) fun r52 => rd (σ r1) 42 r52 fun v53 => wr σ r1 42 r52 (v53 + 1) fun σ54 => wr σ54 r1 42 2 (2 * (1 - x5)) fun σ55 => some (1, σ55)
set_option maxRecDepth 20000 in
theorem w_X12_hits_133 {l : Launch} {g : GE} {A : Nat → Prop} {r1 : Nat} (hr1 : Ar r1) {p : Program} {e : Env} {s : State} {m : MethodId} {args : Array Value} {below : List Frame} {meth : Method} {c : Code} (S : CallFix p m c cX12_hits 11 s args UL RX12) (hK : KK g s) (hr : meth.sig.returnType = (some .boolean)) (hlk : meth.locks = false) {out : Int32 × IM} : ∀ {x5 : Int32} {σ : IM} {H : Heap} {locs : List Loc} {ls : Array Slot}, Mem lyM 13 g A [] σ nor s.heap H locs → lv_has ls 11 [(1, .ref (g.2.2 r1)), (5, .int x5)] → X12_hits_b133 r1 x5 σ = some out → W p l e ({ frames := 3, cells := 0, slots := 0, locals := 69 }) s m args below meth c H locs 0 0 (MQ below (Qm lyM 13 g A [] out.2 nor (some (.int out.1))) args s 0 0 A) (F0 m 133 ls []) := by
  intro x5 σ H locs ls hM hl hF
  unfold X12_hits_b133 at hF
  refine lv_aload_n S.1 S.2.1 dX12_hits_133 rfl (lv_at hl 0 rfl) ?_
  refine lv_iconst (v := 1) S.1 S.2.1 dX12_hits_134 (by decide) ?_
  refine lv_iload S.1 S.2.1 dX12_hits_135 (lv_at hl 1 rfl) ?_
  refine lv_isub S.1 S.2.1 dX12_hits_137 ?_
  refine lv_iconst (v := 2) S.1 S.2.1 dX12_hits_138 (by decide) ?_
  obtain ⟨r52, er52, hF⟩ := bd1_some hF
  refine k_p (va_runS (As := [.int (1 - x5), .int 2]) (rest := [.ref (g.2.2 r1)]) S (c_X12_ofSide   er52) (va_cwS 2 S.2.2.2.2 (ul_S tw_5_28 tw_5_29 tw_1_12 cw_X12_ofSide) rfl rfl rfl hs_X12_ofSide ⟨Nat.le_of_ble_eq_true rfl, Nat.le_of_ble_eq_true rfl⟩) ⟨PreM.blind, hM.pre hK⟩ rfl rfl hl.1 rfl (lv_room (Nat.le_of_ble_eq_true rfl)) dX12_hits_139 ⟨Nat.zero_le _, Nat.zero_le _⟩) ?_
  refine lv_dup2_11 S.1 S.2.1 dX12_hits_142 rfl rfl ?_
  obtain ⟨hv53, v53, ev53, hF⟩ := rd_some hF
  refine r_iald S hK hM r1 (ar_lt hr1) (ly_ar hr1) hv53 ev53 dX12_hits_143 ?_
  refine lv_iconst (v := 1) S.1 S.2.1 dX12_hits_144 (by decide) ?_
  refine lv_iadd S.1 S.2.1 dX12_hits_145 ?_
  obtain ⟨hσ54, σ54, eσ54, hF⟩ := wr_some hF
  refine r_iast S hK hM r1 (ar_lt hr1) (ly_ar hr1) hσ54 eσ54 dX12_hits_146 (fun H locs hM => ?_)
  refine lv_aload_n S.1 S.2.1 dX12_hits_147 rfl (lv_at hl 0 rfl) ?_
  refine lv_iconst (v := 2) S.1 S.2.1 dX12_hits_148 (by decide) ?_
  refine lv_iconst (v := 2) S.1 S.2.1 dX12_hits_149 (by decide) ?_
  refine lv_iconst (v := 1) S.1 S.2.1 dX12_hits_150 (by decide) ?_
  refine lv_iload S.1 S.2.1 dX12_hits_151 (lv_at hl 1 rfl) ?_
  refine lv_isub S.1 S.2.1 dX12_hits_153 ?_
  refine lv_imul S.1 S.2.1 dX12_hits_154 ?_
  obtain ⟨hσ55, σ55, eσ55, hF⟩ := wr_some hF
  refine r_iast S hK hM r1 (ar_lt hr1) (ly_ar hr1) hσ55 eσ55 dX12_hits_155 (fun H locs hM => ?_)
  refine lv_iconst (v := 1) S.1 S.2.1 dX12_hits_156 (by decide) ?_
  cases hF
  exact z_m (v := 1) S hM hr hlk rfl dX12_hits_157
def X12_hits_b102 (r1 : Nat) (x5 : Int32) (x6 : Int32) (x7 : Int32) (x8 : Int32) (σ : IM) : Option (Int32 × IM) := if x8 = 9 then (X12_hits_b133 r1 x5 σ) else (bd1 (X12_ofP x8 0) fun r26 => rd (σ r1) 42 r26 fun v27 => bd1 (X12_wayOf v27 x6) fun r28 => bd1 (X12_stepsIn σ r1 x8 x7) fun r29 => if r28 ≤ r29 then (bd1 (X12_ofP x8 0) fun r31 => rd (σ r1) 42 r31 fun v32 => bd1 (X12_wayOf v32 x6) fun r33 => bd1 (X12_moves σ r1 x8 x6) fun σ34 => bd1 (X12_isTired σ34 r1 x8 r33) fun σ37 => wr σ37 r1 42 2 x8 fun σ40 => bd1 (X12_partner x8) fun r41 => bd1 (X12_ofP r41 0) fun r42 => rd (σ40 r1) 42 r42 fun v43 => bd1 (X12_ofSide x5 0) fun r44 => rd (σ40 r1) 42 r44 fun v45 => bd1 (X12_placeFor v45 x6) fun r46 => bd1 (X12_stepsIn σ40 r1 r41 x7) fun r47 => bd1 (X12_towards v43 r46 r47) fun r48 => bd1 (X12_moves σ40 r1 r41 r48) fun σ49 => some (0, σ49)) else (X12_hits_b133 r1 x5 σ))
set_option maxRecDepth 20000 in
theorem w_X12_hits_102 {l : Launch} {g : GE} {A : Nat → Prop} {r1 : Nat} (hr1 : Ar r1) {p : Program} {e : Env} {s : State} {m : MethodId} {args : Array Value} {below : List Frame} {meth : Method} {c : Code} (S : CallFix p m c cX12_hits 11 s args UL RX12) (hK : KK g s) (hr : meth.sig.returnType = (some .boolean)) (hlk : meth.locks = false) {out : Int32 × IM} : ∀ {x5 : Int32} {x6 : Int32} {x7 : Int32} {x8 : Int32} {σ : IM} {H : Heap} {locs : List Loc} {ls : Array Slot}, Mem lyM 13 g A [] σ nor s.heap H locs → lv_has ls 11 [(0, .ref (g.2.2 0)), (1, .ref (g.2.2 r1)), (5, .int x5), (6, .int x6), (7, .int x7), (8, .int x8)] → X12_hits_b102 r1 x5 x6 x7 x8 σ = some out → W p l e ({ frames := 3, cells := 0, slots := 0, locals := 69 }) s m args below meth c H locs 0 0 (MQ below (Qm lyM 13 g A [] out.2 nor (some (.int out.1))) args s 0 0 A) (F0 m 102 ls []) := by
  intro x5 x6 x7 x8 σ H locs ls hM hl hF
  unfold X12_hits_b102 at hF
  refine lv_iload S.1 S.2.1 dX12_hits_102 (lv_at hl 5 rfl) ?_
  refine lv_bipush (v := 9) S.1 S.2.1 dX12_hits_104 (by decide) ?_
  refine lv_icmp_eq (tgt := 133) S.1 S.2.1 dX12_hits_106 (by decide) (fun b25 => ?_) (fun b25 => ?_)
  · have hF := (if_pos b25).symm.trans hF
    exact w_X12_hits_133 hr1 S hK hr hlk hM (lv_sub hl [1, 2] rfl) hF
  · have hF := (if_neg b25).symm.trans hF
    refine lv_aload_n S.1 S.2.1 dX12_hits_109 rfl (lv_at hl 1 rfl) ?_
    refine lv_iload S.1 S.2.1 dX12_hits_110 (lv_at hl 5 rfl) ?_
    refine lv_iconst (v := 0) S.1 S.2.1 dX12_hits_112 (by decide) ?_
    obtain ⟨r26, er26, hF⟩ := bd1_some hF
    refine k_p (va_runS (As := [.int x8, .int 0]) (rest := [.ref (g.2.2 r1)]) S (c_X12_ofP   er26) (va_cwS 2 S.2.2.2.2 (ul_S tw_5_25 tw_5_26 tw_1_12 cw_X12_ofP) rfl rfl rfl hs_X12_ofP ⟨Nat.le_of_ble_eq_true rfl, Nat.le_of_ble_eq_true rfl⟩) ⟨PreM.blind, hM.pre hK⟩ rfl rfl hl.1 rfl (lv_room (Nat.le_of_ble_eq_true rfl)) dX12_hits_113 ⟨Nat.zero_le _, Nat.zero_le _⟩) ?_
    obtain ⟨hv27, v27, ev27, hF⟩ := rd_some hF
    refine r_iald S hK hM r1 (ar_lt hr1) (ly_ar hr1) hv27 ev27 dX12_hits_116 ?_
    refine lv_iload S.1 S.2.1 dX12_hits_117 (lv_at hl 3 rfl) ?_
    obtain ⟨r28, er28, hF⟩ := bd1_some hF
    refine k_p (va_runS (As := [.int v27, .int x6]) (rest := []) S (c_X12_wayOf   er28) (va_cwS 2 S.2.2.2.2 (ul_S tw_5_165 tw_5_166 tw_1_12 cw_X12_wayOf) rfl rfl rfl hs_X12_wayOf ⟨Nat.le_of_ble_eq_true rfl, Nat.le_of_ble_eq_true rfl⟩) ⟨PreM.blind, hM.pre hK⟩ rfl rfl hl.1 rfl (lv_room (Nat.le_of_ble_eq_true rfl)) dX12_hits_119 ⟨Nat.zero_le _, Nat.zero_le _⟩) ?_
    refine lv_aload_n S.1 S.2.1 dX12_hits_122 rfl (lv_at hl 1 rfl) ?_
    refine lv_iload S.1 S.2.1 dX12_hits_123 (lv_at hl 5 rfl) ?_
    refine lv_iload S.1 S.2.1 dX12_hits_125 (lv_at hl 4 rfl) ?_
    obtain ⟨r29, er29, hF⟩ := bd1_some hF
    refine k_p (va_runS (As := [.ref (g.2.2 r1), .int x8, .int x7]) (rest := [.int r28]) S (c_X12_stepsIn  hr1 er29) (va_cwS 3 S.2.2.2.2 (ul_S tw_5_183 tw_5_184 tw_1_12 cw_X12_stepsIn) rfl rfl rfl hs_X12_stepsIn ⟨Nat.le_of_ble_eq_true rfl, Nat.le_of_ble_eq_true rfl⟩) ⟨PreM.blind, hM.pre hK⟩ rfl rfl hl.1 rfl (lv_room (Nat.le_of_ble_eq_true rfl)) dX12_hits_127 ⟨Nat.zero_le _, Nat.zero_le _⟩) ?_
    refine lv_icmp_le (tgt := 158) S.1 S.2.1 dX12_hits_130 (by decide) (fun b30 => ?_) (fun b30 => ?_)
    · have hF := (if_pos b30).symm.trans hF
      refine lv_aload_n S.1 S.2.1 dX12_hits_158 rfl (lv_at hl 1 rfl) ?_
      refine lv_iload S.1 S.2.1 dX12_hits_159 (lv_at hl 5 rfl) ?_
      refine lv_iconst (v := 0) S.1 S.2.1 dX12_hits_161 (by decide) ?_
      obtain ⟨r31, er31, hF⟩ := bd1_some hF
      refine k_p (va_runS (As := [.int x8, .int 0]) (rest := [.ref (g.2.2 r1)]) S (c_X12_ofP   er31) (va_cwS 2 S.2.2.2.2 (ul_S tw_5_25 tw_5_26 tw_1_12 cw_X12_ofP) rfl rfl rfl hs_X12_ofP ⟨Nat.le_of_ble_eq_true rfl, Nat.le_of_ble_eq_true rfl⟩) ⟨PreM.blind, hM.pre hK⟩ rfl rfl hl.1 rfl (lv_room (Nat.le_of_ble_eq_true rfl)) dX12_hits_162 ⟨Nat.zero_le _, Nat.zero_le _⟩) ?_
      obtain ⟨hv32, v32, ev32, hF⟩ := rd_some hF
      refine r_iald S hK hM r1 (ar_lt hr1) (ly_ar hr1) hv32 ev32 dX12_hits_165 ?_
      refine lv_iload S.1 S.2.1 dX12_hits_166 (lv_at hl 3 rfl) ?_
      obtain ⟨r33, er33, hF⟩ := bd1_some hF
      refine k_p (va_runS (As := [.int v32, .int x6]) (rest := []) S (c_X12_wayOf   er33) (va_cwS 2 S.2.2.2.2 (ul_S tw_5_165 tw_5_166 tw_1_12 cw_X12_wayOf) rfl rfl rfl hs_X12_wayOf ⟨Nat.le_of_ble_eq_true rfl, Nat.le_of_ble_eq_true rfl⟩) ⟨PreM.blind, hM.pre hK⟩ rfl rfl hl.1 rfl (lv_room (Nat.le_of_ble_eq_true rfl)) dX12_hits_168 ⟨Nat.zero_le _, Nat.zero_le _⟩) ?_
      refine lv_istore (lv' := [(9, .int r33), (0, .ref (g.2.2 0)), (1, .ref (g.2.2 r1)), (5, .int x5), (6, .int x6), (7, .int x7), (8, .int x8)]) S.1 S.2.1 dX12_hits_171 hl (by decide) rfl (fun ls hl => ?_)
      refine lv_aload_n S.1 S.2.1 dX12_hits_173 rfl (lv_at hl 1 rfl) ?_
      refine lv_aload_n S.1 S.2.1 dX12_hits_174 rfl (lv_at hl 2 rfl) ?_
      refine lv_iload S.1 S.2.1 dX12_hits_175 (lv_at hl 6 rfl) ?_
      refine lv_iload S.1 S.2.1 dX12_hits_177 (lv_at hl 4 rfl) ?_
      obtain ⟨σ34, er36, hF⟩ := bd1_some hF
      refine k_m (va_runV (As := [.ref (g.2.2 r1), .int x8, .int x6]) (rest := []) S (c_X12_moves  hr1 er36) (cwV 3 S.2.2.2.2 (ul_V tw_5_186 tw_5_188 ts_X12_moves tw_1_12 cw_X12_moves) rfl rfl rfl hv_X12_moves ⟨Nat.le_of_ble_eq_true rfl, Nat.le_of_ble_eq_true rfl⟩) ⟨PreM.blind, hM.recv hK cfX12 0 (by decide) lm_0, hM.pre hK⟩ rfl rfl hl.1 rfl (lv_room (Nat.le_of_ble_eq_true rfl)) dX12_hits_179 ⟨Nat.zero_le _, Nat.zero_le _⟩) hM (fun H locs hM => ?_)
      show W _ _ _ _ _ _ _ _ _ _ _ _ _ _ _ (F0 m 182 ls [])
      refine lv_aload_n S.1 S.2.1 dX12_hits_182 rfl (lv_at hl 2 rfl) ?_
      refine lv_iload S.1 S.2.1 dX12_hits_183 (lv_at hl 6 rfl) ?_
      refine lv_iload S.1 S.2.1 dX12_hits_185 (lv_at hl 0 rfl) ?_
      obtain ⟨σ37, er39, hF⟩ := bd1_some hF
      refine k_m (va_runS (As := [.ref (g.2.2 r1), .int x8, .int r33]) (rest := []) S (c_X12_isTired  hr1 er39) (va_cwS 3 S.2.2.2.2 (ul_S tw_5_174 tw_5_175 tw_1_12 cw_X12_isTired) rfl rfl rfl hs_X12_isTired ⟨Nat.le_of_ble_eq_true rfl, Nat.le_of_ble_eq_true rfl⟩) ⟨PreM.blind, hM.pre hK⟩ rfl rfl hl.1 rfl (lv_room (Nat.le_of_ble_eq_true rfl)) dX12_hits_187 ⟨Nat.zero_le _, Nat.zero_le _⟩) hM (fun H locs hM => ?_)
      show W _ _ _ _ _ _ _ _ _ _ _ _ _ _ _ (F0 m 190 ls [])
      refine lv_aload_n S.1 S.2.1 dX12_hits_190 rfl (lv_at hl 2 rfl) ?_
      refine lv_iconst (v := 2) S.1 S.2.1 dX12_hits_191 (by decide) ?_
      refine lv_iload S.1 S.2.1 dX12_hits_192 (lv_at hl 6 rfl) ?_
      obtain ⟨hσ40, σ40, eσ40, hF⟩ := wr_some hF
      refine r_iast S hK hM r1 (ar_lt hr1) (ly_ar hr1) hσ40 eσ40 dX12_hits_194 (fun H locs hM => ?_)
      refine lv_iload S.1 S.2.1 dX12_hits_195 (lv_at hl 6 rfl) ?_
      obtain ⟨r41, er41, hF⟩ := bd1_some hF
      refine k_p (va_runS (As := [.int x8]) (rest := []) S (c_X12_partner   er41) (va_cwS 1 S.2.2.2.2 (ul_S tw_5_190 tw_5_191 tw_1_12 cw_X12_partner) rfl rfl rfl hs_X12_partner ⟨Nat.le_of_ble_eq_true rfl, Nat.le_of_ble_eq_true rfl⟩) ⟨PreM.blind, hM.pre hK⟩ rfl rfl hl.1 rfl (lv_room (Nat.le_of_ble_eq_true rfl)) dX12_hits_197 ⟨Nat.zero_le _, Nat.zero_le _⟩) ?_
      refine lv_istore (lv' := [(10, .int r41), (9, .int r33), (0, .ref (g.2.2 0)), (1, .ref (g.2.2 r1)), (5, .int x5), (6, .int x6), (7, .int x7), (8, .int x8)]) S.1 S.2.1 dX12_hits_200 hl (by decide) rfl (fun ls hl => ?_)
      refine lv_aload_n S.1 S.2.1 dX12_hits_202 rfl (lv_at hl 2 rfl) ?_
      refine lv_aload_n S.1 S.2.1 dX12_hits_203 rfl (lv_at hl 3 rfl) ?_
      refine lv_iload S.1 S.2.1 dX12_hits_204 (lv_at hl 0 rfl) ?_
      refine lv_aload_n S.1 S.2.1 dX12_hits_206 rfl (lv_at hl 3 rfl) ?_
      refine lv_iload S.1 S.2.1 dX12_hits_207 (lv_at hl 0 rfl) ?_
      refine lv_iconst (v := 0) S.1 S.2.1 dX12_hits_209 (by decide) ?_
      obtain ⟨r42, er42, hF⟩ := bd1_some hF
      refine k_p (va_runS (As := [.int r41, .int 0]) (rest := [.ref (g.2.2 r1), .int r41, .ref (g.2.2 r1), .ref (g.2.2 0)]) S (c_X12_ofP   er42) (va_cwS 2 S.2.2.2.2 (ul_S tw_5_25 tw_5_26 tw_1_12 cw_X12_ofP) rfl rfl rfl hs_X12_ofP ⟨Nat.le_of_ble_eq_true rfl, Nat.le_of_ble_eq_true rfl⟩) ⟨PreM.blind, hM.pre hK⟩ rfl rfl hl.1 rfl (lv_room (Nat.le_of_ble_eq_true rfl)) dX12_hits_210 ⟨Nat.zero_le _, Nat.zero_le _⟩) ?_
      obtain ⟨hv43, v43, ev43, hF⟩ := rd_some hF
      refine r_iald S hK hM r1 (ar_lt hr1) (ly_ar hr1) hv43 ev43 dX12_hits_213 ?_
      refine lv_aload_n S.1 S.2.1 dX12_hits_214 rfl (lv_at hl 3 rfl) ?_
      refine lv_iload S.1 S.2.1 dX12_hits_215 (lv_at hl 4 rfl) ?_
      refine lv_iconst (v := 0) S.1 S.2.1 dX12_hits_217 (by decide) ?_
      obtain ⟨r44, er44, hF⟩ := bd1_some hF
      refine k_p (va_runS (As := [.int x5, .int 0]) (rest := [.ref (g.2.2 r1), .int v43, .int r41, .ref (g.2.2 r1), .ref (g.2.2 0)]) S (c_X12_ofSide   er44) (va_cwS 2 S.2.2.2.2 (ul_S tw_5_28 tw_5_29 tw_1_12 cw_X12_ofSide) rfl rfl rfl hs_X12_ofSide ⟨Nat.le_of_ble_eq_true rfl, Nat.le_of_ble_eq_true rfl⟩) ⟨PreM.blind, hM.pre hK⟩ rfl rfl hl.1 rfl (lv_room (Nat.le_of_ble_eq_true rfl)) dX12_hits_218 ⟨Nat.zero_le _, Nat.zero_le _⟩) ?_
      obtain ⟨hv45, v45, ev45, hF⟩ := rd_some hF
      refine r_iald S hK hM r1 (ar_lt hr1) (ly_ar hr1) hv45 ev45 dX12_hits_221 ?_
      refine lv_iload S.1 S.2.1 dX12_hits_222 (lv_at hl 5 rfl) ?_
      obtain ⟨r46, er46, hF⟩ := bd1_some hF
      refine k_p (va_runS (As := [.int v45, .int x6]) (rest := [.int v43, .int r41, .ref (g.2.2 r1), .ref (g.2.2 0)]) S (c_X12_placeFor   er46) (va_cwS 2 S.2.2.2.2 (ul_S tw_5_193 tw_5_194 tw_1_12 cw_X12_placeFor) rfl rfl rfl hs_X12_placeFor ⟨Nat.le_of_ble_eq_true rfl, Nat.le_of_ble_eq_true rfl⟩) ⟨PreM.blind, hM.pre hK⟩ rfl rfl hl.1 rfl (lv_room (Nat.le_of_ble_eq_true rfl)) dX12_hits_224 ⟨Nat.zero_le _, Nat.zero_le _⟩) ?_
      refine lv_aload_n S.1 S.2.1 dX12_hits_227 rfl (lv_at hl 3 rfl) ?_
      refine lv_iload S.1 S.2.1 dX12_hits_228 (lv_at hl 0 rfl) ?_
      refine lv_iload S.1 S.2.1 dX12_hits_230 (lv_at hl 6 rfl) ?_
      obtain ⟨r47, er47, hF⟩ := bd1_some hF
      refine k_p (va_runS (As := [.ref (g.2.2 r1), .int r41, .int x7]) (rest := [.int r46, .int v43, .int r41, .ref (g.2.2 r1), .ref (g.2.2 0)]) S (c_X12_stepsIn  hr1 er47) (va_cwS 3 S.2.2.2.2 (ul_S tw_5_183 tw_5_184 tw_1_12 cw_X12_stepsIn) rfl rfl rfl hs_X12_stepsIn ⟨Nat.le_of_ble_eq_true rfl, Nat.le_of_ble_eq_true rfl⟩) ⟨PreM.blind, hM.pre hK⟩ rfl rfl hl.1 rfl (lv_room (Nat.le_of_ble_eq_true rfl)) dX12_hits_232 ⟨Nat.zero_le _, Nat.zero_le _⟩) ?_
      obtain ⟨r48, er48, hF⟩ := bd1_some hF
      refine k_p (va_runS (As := [.int v43, .int r46, .int r47]) (rest := [.int r41, .ref (g.2.2 r1), .ref (g.2.2 0)]) S (c_X12_towards   er48) (va_cwS 3 S.2.2.2.2 (ul_S tw_5_196 tw_5_197 tw_1_12 cw_X12_towards) rfl rfl rfl hs_X12_towards ⟨Nat.le_of_ble_eq_true rfl, Nat.le_of_ble_eq_true rfl⟩) ⟨PreM.blind, hM.pre hK⟩ rfl rfl hl.1 rfl (lv_room (Nat.le_of_ble_eq_true rfl)) dX12_hits_235 ⟨Nat.zero_le _, Nat.zero_le _⟩) ?_
      obtain ⟨σ49, er51, hF⟩ := bd1_some hF
      refine k_m (va_runV (As := [.ref (g.2.2 r1), .int r41, .int r48]) (rest := []) S (c_X12_moves  hr1 er51) (cwV 3 S.2.2.2.2 (ul_V tw_5_186 tw_5_188 ts_X12_moves tw_1_12 cw_X12_moves) rfl rfl rfl hv_X12_moves ⟨Nat.le_of_ble_eq_true rfl, Nat.le_of_ble_eq_true rfl⟩) ⟨PreM.blind, hM.recv hK cfX12 0 (by decide) lm_0, hM.pre hK⟩ rfl rfl hl.1 rfl (lv_room (Nat.le_of_ble_eq_true rfl)) dX12_hits_238 ⟨Nat.zero_le _, Nat.zero_le _⟩) hM (fun H locs hM => ?_)
      show W _ _ _ _ _ _ _ _ _ _ _ _ _ _ _ (F0 m 241 ls [])
      refine lv_iconst (v := 0) S.1 S.2.1 dX12_hits_241 (by decide) ?_
      cases hF
      exact z_m (v := 0) S hM hr hlk rfl dX12_hits_242
    · have hF := (if_neg b30).symm.trans hF
      exact w_X12_hits_133 hr1 S hK hr hlk hM (lv_sub hl [1, 2] rfl) hF
def X12_hits (σ : IM) (r1 : Nat) (a2 : Int32) (a3 : Int32) : Option (Int32 × IM) := rd (σ r1) 42 2 fun v1 => bd1 (X12_sideOf v1) fun r2 => bd (1 - r2) fun v3 => bd1 (X12_fallsIn σ r1 a2 a3) fun r4 => bd1 (X12_timeIn σ r1 a2 r4) fun r5 => bd1 (X12_whoseIn σ r1 v3 r4) fun r6 => rd (σ r1) 42 1 fun v7 => wr σ r1 42 1 (v7 + 1) fun σ8 => bd1 (X12_ofS a2 0) fun r9 => rd (σ8 r1) 42 r9 fun v10 => bd1 (X12_ofS a2 1) fun r11 => rd (σ8 r1) 42 r11 fun v12 => bd1 (X12_tiresBy v10 v12) fun r13 => bd1 (X12_isTired σ8 r1 v1 r13) fun σ14 => bd1 (X12_isBoths σ14 r1 v3 r4) fun r17 => if r17 = 0 then (X12_hits_b102 r1 v3 r4 r5 r6 σ14) else (bd1 (X12_isTired σ14 r1 (2 * v3) 3) fun σ19 => bd1 (X12_isTired σ19 r1 ((2 * v3) + 1) 3) fun σ22 => X12_hits_b102 r1 v3 r4 r5 r6 σ22)
set_option maxRecDepth 20000 in
theorem c_X12_hits {l : Launch} {g : GE} {A : Nat → Prop} {σ : IM} {r1 : Nat} {a2 : Int32} {a3 : Int32} {out : Int32 × IM} (hr1 : Ar r1) (hF : X12_hits σ r1 a2 a3 = some out) : Met l yX12_hits (.code yX12_hits cX12_hits 11 (some .boolean) :: UL) ({ frames := 3, cells := 0, slots := 0, locals := 69 }) (va_Pc [.ref (g.2.2 0), .ref (g.2.2 r1), .int a2, .int a3] (PreM lyM 13 g A [] σ nor)) (Qm lyM 13 g A [] out.2 nor (some (.int out.1))) 0 0 A := by
  refine e_of (by decide) (Nat.le_of_ble_eq_true rfl) ?_
  intro p e s m below meth c ls S hr hlk hv hl
  have hM := Mem.of hv
  have hK := hv.2.1
  have hl : lv_has ls 11 [(0, .ref (g.2.2 0)), (1, .ref (g.2.2 r1)), (2, .int a2), (3, .int a3)] := hl
  unfold X12_hits at hF
  refine lv_aload_n S.1 S.2.1 dX12_hits_0 rfl (lv_at hl 1 rfl) ?_
  refine lv_iconst (v := 2) S.1 S.2.1 dX12_hits_1 (by decide) ?_
  obtain ⟨hv1, v1, ev1, hF⟩ := rd_some hF
  refine r_iald S hK hM r1 (ar_lt hr1) (ly_ar hr1) hv1 ev1 dX12_hits_2 ?_
  refine lv_istore (lv' := [(4, .int v1), (0, .ref (g.2.2 0)), (1, .ref (g.2.2 r1)), (2, .int a2), (3, .int a3)]) S.1 S.2.1 dX12_hits_3 hl (by decide) rfl (fun ls hl => ?_)
  refine lv_iconst (v := 1) S.1 S.2.1 dX12_hits_5 (by decide) ?_
  refine lv_iload S.1 S.2.1 dX12_hits_6 (lv_at hl 0 rfl) ?_
  obtain ⟨r2, er2, hF⟩ := bd1_some hF
  refine k_p (va_runS (As := [.int v1]) (rest := [.int 1]) S (c_X12_sideOf   er2) (va_cwS 1 S.2.2.2.2 (ul_S tw_5_150 tw_5_151 tw_1_12 cw_X12_sideOf) rfl rfl rfl hs_X12_sideOf ⟨Nat.le_of_ble_eq_true rfl, Nat.le_of_ble_eq_true rfl⟩) ⟨PreM.blind, hM.pre hK⟩ rfl rfl hl.1 rfl (lv_room (Nat.le_of_ble_eq_true rfl)) dX12_hits_8 ⟨Nat.zero_le _, Nat.zero_le _⟩) ?_
  refine lv_isub S.1 S.2.1 dX12_hits_11 ?_
  refine lv_topi (fun v3 ev3 => ?_)
  have hF := bd_at ev3 hF
  refine lv_istore (lv' := [(5, .int v3), (4, .int v1), (0, .ref (g.2.2 0)), (1, .ref (g.2.2 r1)), (2, .int a2), (3, .int a3)]) S.1 S.2.1 dX12_hits_12 hl (by decide) rfl (fun ls hl => ?_)
  refine lv_aload_n S.1 S.2.1 dX12_hits_14 rfl (lv_at hl 3 rfl) ?_
  refine lv_iload_n S.1 S.2.1 dX12_hits_15 rfl (lv_at hl 4 rfl) ?_
  refine lv_iload_n S.1 S.2.1 dX12_hits_16 rfl (lv_at hl 5 rfl) ?_
  obtain ⟨r4, er4, hF⟩ := bd1_some hF
  refine k_p (va_runS (As := [.ref (g.2.2 r1), .int a2, .int a3]) (rest := []) S (c_X12_fallsIn  hr1 er4) (va_cwS 3 S.2.2.2.2 (ul_S tw_5_153 tw_5_154 tw_1_12 cw_X12_fallsIn) rfl rfl rfl hs_X12_fallsIn ⟨Nat.le_of_ble_eq_true rfl, Nat.le_of_ble_eq_true rfl⟩) ⟨PreM.blind, hM.pre hK⟩ rfl rfl hl.1 rfl (lv_room (Nat.le_of_ble_eq_true rfl)) dX12_hits_17 ⟨Nat.zero_le _, Nat.zero_le _⟩) ?_
  refine lv_istore (lv' := [(6, .int r4), (5, .int v3), (4, .int v1), (0, .ref (g.2.2 0)), (1, .ref (g.2.2 r1)), (2, .int a2), (3, .int a3)]) S.1 S.2.1 dX12_hits_20 hl (by decide) rfl (fun ls hl => ?_)
  refine lv_aload_n S.1 S.2.1 dX12_hits_22 rfl (lv_at hl 4 rfl) ?_
  refine lv_iload_n S.1 S.2.1 dX12_hits_23 rfl (lv_at hl 5 rfl) ?_
  refine lv_iload S.1 S.2.1 dX12_hits_24 (lv_at hl 0 rfl) ?_
  obtain ⟨r5, er5, hF⟩ := bd1_some hF
  refine k_p (va_runS (As := [.ref (g.2.2 r1), .int a2, .int r4]) (rest := []) S (c_X12_timeIn  hr1 er5) (va_cwS 3 S.2.2.2.2 (ul_S tw_5_156 tw_5_157 tw_1_12 cw_X12_timeIn) rfl rfl rfl hs_X12_timeIn ⟨Nat.le_of_ble_eq_true rfl, Nat.le_of_ble_eq_true rfl⟩) ⟨PreM.blind, hM.pre hK⟩ rfl rfl hl.1 rfl (lv_room (Nat.le_of_ble_eq_true rfl)) dX12_hits_26 ⟨Nat.zero_le _, Nat.zero_le _⟩) ?_
  refine lv_istore (lv' := [(7, .int r5), (6, .int r4), (5, .int v3), (4, .int v1), (0, .ref (g.2.2 0)), (1, .ref (g.2.2 r1)), (2, .int a2), (3, .int a3)]) S.1 S.2.1 dX12_hits_29 hl (by decide) rfl (fun ls hl => ?_)
  refine lv_aload_n S.1 S.2.1 dX12_hits_31 rfl (lv_at hl 5 rfl) ?_
  refine lv_iload S.1 S.2.1 dX12_hits_32 (lv_at hl 2 rfl) ?_
  refine lv_iload S.1 S.2.1 dX12_hits_34 (lv_at hl 1 rfl) ?_
  obtain ⟨r6, er6, hF⟩ := bd1_some hF
  refine k_p (va_runS (As := [.ref (g.2.2 r1), .int v3, .int r4]) (rest := []) S (c_X12_whoseIn  hr1 er6) (va_cwS 3 S.2.2.2.2 (ul_S tw_5_162 tw_5_163 tw_1_12 cw_X12_whoseIn) rfl rfl rfl hs_X12_whoseIn ⟨Nat.le_of_ble_eq_true rfl, Nat.le_of_ble_eq_true rfl⟩) ⟨PreM.blind, hM.pre hK⟩ rfl rfl hl.1 rfl (lv_room (Nat.le_of_ble_eq_true rfl)) dX12_hits_36 ⟨Nat.zero_le _, Nat.zero_le _⟩) ?_
  refine lv_istore (lv' := [(8, .int r6), (7, .int r5), (6, .int r4), (5, .int v3), (4, .int v1), (0, .ref (g.2.2 0)), (1, .ref (g.2.2 r1)), (2, .int a2), (3, .int a3)]) S.1 S.2.1 dX12_hits_39 hl (by decide) rfl (fun ls hl => ?_)
  refine lv_aload_n S.1 S.2.1 dX12_hits_41 rfl (lv_at hl 6 rfl) ?_
  refine lv_iconst (v := 1) S.1 S.2.1 dX12_hits_42 (by decide) ?_
  refine lv_dup2_11 S.1 S.2.1 dX12_hits_43 rfl rfl ?_
  obtain ⟨hv7, v7, ev7, hF⟩ := rd_some hF
  refine r_iald S hK hM r1 (ar_lt hr1) (ly_ar hr1) hv7 ev7 dX12_hits_44 ?_
  refine lv_iconst (v := 1) S.1 S.2.1 dX12_hits_45 (by decide) ?_
  refine lv_iadd S.1 S.2.1 dX12_hits_46 ?_
  obtain ⟨hσ8, σ8, eσ8, hF⟩ := wr_some hF
  refine r_iast S hK hM r1 (ar_lt hr1) (ly_ar hr1) hσ8 eσ8 dX12_hits_47 (fun H locs hM => ?_)
  refine lv_aload_n S.1 S.2.1 dX12_hits_48 rfl (lv_at hl 6 rfl) ?_
  refine lv_iload S.1 S.2.1 dX12_hits_49 (lv_at hl 4 rfl) ?_
  refine lv_aload_n S.1 S.2.1 dX12_hits_51 rfl (lv_at hl 6 rfl) ?_
  refine lv_iload_n S.1 S.2.1 dX12_hits_52 rfl (lv_at hl 7 rfl) ?_
  refine lv_iconst (v := 0) S.1 S.2.1 dX12_hits_53 (by decide) ?_
  obtain ⟨r9, er9, hF⟩ := bd1_some hF
  refine k_p (va_runS (As := [.int a2, .int 0]) (rest := [.ref (g.2.2 r1), .int v1, .ref (g.2.2 r1)]) S (c_X12_ofS   er9) (va_cwS 2 S.2.2.2.2 (ul_S tw_5_129 tw_5_130 tw_1_12 cw_X12_ofS) rfl rfl rfl hs_X12_ofS ⟨Nat.le_of_ble_eq_true rfl, Nat.le_of_ble_eq_true rfl⟩) ⟨PreM.blind, hM.pre hK⟩ rfl rfl hl.1 rfl (lv_room (Nat.le_of_ble_eq_true rfl)) dX12_hits_54 ⟨Nat.zero_le _, Nat.zero_le _⟩) ?_
  obtain ⟨hv10, v10, ev10, hF⟩ := rd_some hF
  refine r_iald S hK hM r1 (ar_lt hr1) (ly_ar hr1) hv10 ev10 dX12_hits_57 ?_
  refine lv_aload_n S.1 S.2.1 dX12_hits_58 rfl (lv_at hl 6 rfl) ?_
  refine lv_iload_n S.1 S.2.1 dX12_hits_59 rfl (lv_at hl 7 rfl) ?_
  refine lv_iconst (v := 1) S.1 S.2.1 dX12_hits_60 (by decide) ?_
  obtain ⟨r11, er11, hF⟩ := bd1_some hF
  refine k_p (va_runS (As := [.int a2, .int 1]) (rest := [.ref (g.2.2 r1), .int v10, .int v1, .ref (g.2.2 r1)]) S (c_X12_ofS   er11) (va_cwS 2 S.2.2.2.2 (ul_S tw_5_129 tw_5_130 tw_1_12 cw_X12_ofS) rfl rfl rfl hs_X12_ofS ⟨Nat.le_of_ble_eq_true rfl, Nat.le_of_ble_eq_true rfl⟩) ⟨PreM.blind, hM.pre hK⟩ rfl rfl hl.1 rfl (lv_room (Nat.le_of_ble_eq_true rfl)) dX12_hits_61 ⟨Nat.zero_le _, Nat.zero_le _⟩) ?_
  obtain ⟨hv12, v12, ev12, hF⟩ := rd_some hF
  refine r_iald S hK hM r1 (ar_lt hr1) (ly_ar hr1) hv12 ev12 dX12_hits_64 ?_
  obtain ⟨r13, er13, hF⟩ := bd1_some hF
  refine k_p (va_runS (As := [.int v10, .int v12]) (rest := [.int v1, .ref (g.2.2 r1)]) S (c_X12_tiresBy   er13) (va_cwS 2 S.2.2.2.2 (ul_S tw_5_171 tw_5_172 tw_1_12 cw_X12_tiresBy) rfl rfl rfl hs_X12_tiresBy ⟨Nat.le_of_ble_eq_true rfl, Nat.le_of_ble_eq_true rfl⟩) ⟨PreM.blind, hM.pre hK⟩ rfl rfl hl.1 rfl (lv_room (Nat.le_of_ble_eq_true rfl)) dX12_hits_65 ⟨Nat.zero_le _, Nat.zero_le _⟩) ?_
  obtain ⟨σ14, er16, hF⟩ := bd1_some hF
  refine k_m (va_runS (As := [.ref (g.2.2 r1), .int v1, .int r13]) (rest := []) S (c_X12_isTired  hr1 er16) (va_cwS 3 S.2.2.2.2 (ul_S tw_5_174 tw_5_175 tw_1_12 cw_X12_isTired) rfl rfl rfl hs_X12_isTired ⟨Nat.le_of_ble_eq_true rfl, Nat.le_of_ble_eq_true rfl⟩) ⟨PreM.blind, hM.pre hK⟩ rfl rfl hl.1 rfl (lv_room (Nat.le_of_ble_eq_true rfl)) dX12_hits_68 ⟨Nat.zero_le _, Nat.zero_le _⟩) hM (fun H locs hM => ?_)
  show W _ _ _ _ _ _ _ _ _ _ _ _ _ _ _ (F0 m 71 ls [])
  refine lv_aload_n S.1 S.2.1 dX12_hits_71 rfl (lv_at hl 6 rfl) ?_
  refine lv_iload S.1 S.2.1 dX12_hits_72 (lv_at hl 3 rfl) ?_
  refine lv_iload S.1 S.2.1 dX12_hits_74 (lv_at hl 2 rfl) ?_
  obtain ⟨r17, er17, hF⟩ := bd1_some hF
  refine k_p (va_runS (As := [.ref (g.2.2 r1), .int v3, .int r4]) (rest := []) S (c_X12_isBoths  hr1 er17) (va_cwS 3 S.2.2.2.2 (ul_S tw_5_180 tw_5_181 tw_1_12 cw_X12_isBoths) rfl rfl rfl hs_X12_isBoths ⟨Nat.le_of_ble_eq_true rfl, Nat.le_of_ble_eq_true rfl⟩) ⟨PreM.blind, hM.pre hK⟩ rfl rfl hl.1 rfl (lv_room (Nat.le_of_ble_eq_true rfl)) dX12_hits_76 ⟨Nat.zero_le _, Nat.zero_le _⟩) ?_
  refine lv_if_eq (tgt := 102) S.1 S.2.1 dX12_hits_79 (by decide) (fun b18 => ?_) (fun b18 => ?_)
  · have hF := (if_pos b18).symm.trans hF
    exact w_X12_hits_102 hr1 S hK hr hlk hM (lv_sub hl [5, 6, 3, 2, 1, 0] rfl) hF
  · have hF := (if_neg b18).symm.trans hF
    refine lv_aload_n S.1 S.2.1 dX12_hits_82 rfl (lv_at hl 6 rfl) ?_
    refine lv_iconst (v := 2) S.1 S.2.1 dX12_hits_83 (by decide) ?_
    refine lv_iload S.1 S.2.1 dX12_hits_84 (lv_at hl 3 rfl) ?_
    refine lv_imul S.1 S.2.1 dX12_hits_86 ?_
    refine lv_iconst (v := 3) S.1 S.2.1 dX12_hits_87 (by decide) ?_
    obtain ⟨σ19, er21, hF⟩ := bd1_some hF
    refine k_m (va_runS (As := [.ref (g.2.2 r1), .int (2 * v3), .int 3]) (rest := []) S (c_X12_isTired  hr1 er21) (va_cwS 3 S.2.2.2.2 (ul_S tw_5_174 tw_5_175 tw_1_12 cw_X12_isTired) rfl rfl rfl hs_X12_isTired ⟨Nat.le_of_ble_eq_true rfl, Nat.le_of_ble_eq_true rfl⟩) ⟨PreM.blind, hM.pre hK⟩ rfl rfl hl.1 rfl (lv_room (Nat.le_of_ble_eq_true rfl)) dX12_hits_88 ⟨Nat.zero_le _, Nat.zero_le _⟩) hM (fun H locs hM => ?_)
    show W _ _ _ _ _ _ _ _ _ _ _ _ _ _ _ (F0 m 91 ls [])
    refine lv_aload_n S.1 S.2.1 dX12_hits_91 rfl (lv_at hl 6 rfl) ?_
    refine lv_iconst (v := 2) S.1 S.2.1 dX12_hits_92 (by decide) ?_
    refine lv_iload S.1 S.2.1 dX12_hits_93 (lv_at hl 3 rfl) ?_
    refine lv_imul S.1 S.2.1 dX12_hits_95 ?_
    refine lv_iconst (v := 1) S.1 S.2.1 dX12_hits_96 (by decide) ?_
    refine lv_iadd S.1 S.2.1 dX12_hits_97 ?_
    refine lv_iconst (v := 3) S.1 S.2.1 dX12_hits_98 (by decide) ?_
    obtain ⟨σ22, er24, hF⟩ := bd1_some hF
    refine k_m (va_runS (As := [.ref (g.2.2 r1), .int ((2 * v3) + 1), .int 3]) (rest := []) S (c_X12_isTired  hr1 er24) (va_cwS 3 S.2.2.2.2 (ul_S tw_5_174 tw_5_175 tw_1_12 cw_X12_isTired) rfl rfl rfl hs_X12_isTired ⟨Nat.le_of_ble_eq_true rfl, Nat.le_of_ble_eq_true rfl⟩) ⟨PreM.blind, hM.pre hK⟩ rfl rfl hl.1 rfl (lv_room (Nat.le_of_ble_eq_true rfl)) dX12_hits_99 ⟨Nat.zero_le _, Nat.zero_le _⟩) hM (fun H locs hM => ?_)
    show W _ _ _ _ _ _ _ _ _ _ _ _ _ _ _ (F0 m 102 ls [])
    exact w_X12_hits_102 hr1 S hK hr hlk hM (lv_sub hl [5, 6, 3, 2, 1, 0] rfl) hF
