/-! X12_here -/
def X12_here (σ : IM) : Option Int32 := if σ 0 8 ≤ σ 0 6 then (some (-1)) else (rd (σ 12) 800 ((σ 0 7) + (σ 0 6)) fun v2 => some (v2 &&& 255))
set_option maxRecDepth 20000 in
theorem c_X12_here {l : Launch} {g : GE} {A : Nat → Prop} {σ : IM} {out : Int32} (hF : X12_here σ = some out) : Met l yX12_here (.code yX12_here cX12_here 1 (some .int) :: UL) ({ frames := 0, cells := 0, slots := 0, locals := 0 }) (va_Pc [.ref (g.2.2 0)] (PreM lyM 13 g A [] σ nor)) (Qp (some (.int out))) 0 0 NoA := by
  refine e_of (by decide) (Nat.le_of_ble_eq_true rfl) ?_
  intro p e s m below meth c ls S hr hlk hv hl
  have hM := Mem.of hv
  have hK := hv.2.1
  have hl : lv_has ls 1 [(0, .ref (g.2.2 0))] := hl
  unfold X12_here at hF
  refine lv_aload_n S.1 S.2.1 dX12_here_0 rfl (lv_at hl 0 rfl) ?_
  refine r_getI S hK hM cfX12 0 6 (by decide) lm_0 rfl (by decide) tw_5_37 dX12_here_1 ?_
  refine lv_aload_n S.1 S.2.1 dX12_here_4 rfl (lv_at hl 0 rfl) ?_
  refine r_getI S hK hM cfX12 0 8 (by decide) lm_0 rfl (by decide) tw_5_39 dX12_here_5 ?_
  refine lv_icmp_ge (tgt := 32) S.1 S.2.1 dX12_here_8 (by decide) (fun b1 => ?_) (fun b1 => ?_)
  · have hF := (if_pos b1).symm.trans hF
    refine lv_iconst (v := (-1)) S.1 S.2.1 dX12_here_32 (by decide) ?_
    cases hF
    exact z_p S hr hlk rfl dX12_here_33
  · have hF := (if_neg b1).symm.trans hF
    refine lv_aload_n S.1 S.2.1 dX12_here_11 rfl (lv_at hl 0 rfl) ?_
    refine r_getC S hK hM cfX12 0 18 12 (by decide) lm_0 rfl (by decide) tw_5_49 dX12_here_12 ?_
    refine lv_aload_n S.1 S.2.1 dX12_here_15 rfl (lv_at hl 0 rfl) ?_
    refine r_getI S hK hM cfX12 0 7 (by decide) lm_0 rfl (by decide) tw_5_38 dX12_here_16 ?_
    refine lv_aload_n S.1 S.2.1 dX12_here_19 rfl (lv_at hl 0 rfl) ?_
    refine r_getI S hK hM cfX12 0 6 (by decide) lm_0 rfl (by decide) tw_5_37 dX12_here_20 ?_
    refine lv_iadd S.1 S.2.1 dX12_here_23 ?_
    obtain ⟨hv2, v2, ev2, hF⟩ := rd_some hF
    refine r_iald S hK hM 12 (by decide) rfl hv2 ev2 dX12_here_24 ?_
    refine lv_sipush (v := 255) S.1 S.2.1 dX12_here_25 (by decide) ?_
    refine lv_iand S.1 S.2.1 dX12_here_28 ?_
    refine lv_goto (tgt := 33) S.1 S.2.1 dX12_here_29 (by decide) ?_
    cases hF
    exact z_p S hr hlk rfl dX12_here_33
/-! X12_readsNumber -/
def X12_readsNumber_s9 (k9 : Int32 → Int32 → Int32 → IM → Option (Int32 × IM)) (x1 : Int32) (x2 : Int32) (x3 : Int32) (σ : IM) : Option (Int32 × IM) := if x2 ≤ x3 then (some (1, σ)) else (bd1 (X12_here σ) fun r3 => bd1 (X12_isIn r3 48 57) fun r4 => if r4 = 0 then (some (0, σ)) else (rd (σ 6) 3 x1 fun v6 => bd1 (X12_here σ) fun r7 => wr σ 6 3 x1 (((10 * v6) + r7) - 48) fun σ8 => bd (up2 σ8 0 6 ((σ8 0 6) + 1)) fun σ9 => bd (x3 + 1) fun v10 => k9 x1 x2 v10 σ9))
def X12_readsNumber_b9 : Nat → Int32 → Int32 → Int32 → IM → Option (Int32 × IM)
  | 0 => fun _ _ _ _ => none
  | n + 1 => X12_readsNumber_s9 (X12_readsNumber_b9 n)
set_option maxRecDepth 20000 in
theorem w_X12_readsNumber_9 {l : Launch} {g : GE} {A : Nat → Prop} {p : Program} {e : Env} {s : State} {m : MethodId} {args : Array Value} {below : List Frame} {meth : Method} {c : Code} (S : CallFix p m c cX12_readsNumber 4 s args UL RX12) (hK : KK g s) (hr : meth.sig.returnType = (some .boolean)) (hlk : meth.locks = false) {out : Int32 × IM} {k9 : Int32 → Int32 → Int32 → IM → Option (Int32 × IM)} (hk9 : ∀ {x1 : Int32} {x2 : Int32} {x3 : Int32} {σ : IM} {H : Heap} {locs : List Loc} {ls : Array Slot}, Mem lyM 13 g A [] σ nor s.heap H locs → lv_has ls 4 [(0, .ref (g.2.2 0)), (1, .int x1), (2, .int x2), (3, .int x3)] → k9 x1 x2 x3 σ = some out → W p l e ({ frames := 1, cells := 0, slots := 0, locals := 22 }) s m args below meth c H locs 0 0 (MQ below (Qm lyM 13 g A [] out.2 nor (some (.int out.1))) args s 0 0 A) (F0 m 9 ls [])) : ∀ {x1 : Int32} {x2 : Int32} {x3 : Int32} {σ : IM} {H : Heap} {locs : List Loc} {ls : Array Slot}, Mem lyM 13 g A [] σ nor s.heap H locs → lv_has ls 4 [(0, .ref (g.2.2 0)), (1, .int x1), (2, .int x2), (3, .int x3)] → X12_readsNumber_s9 k9 x1 x2 x3 σ = some out → W p l e ({ frames := 1, cells := 0, slots := 0, locals := 22 }) s m args below meth c H locs 0 0 (MQ below (Qm lyM 13 g A [] out.2 nor (some (.int out.1))) args s 0 0 A) (F0 m 9 ls []) := by
  intro x1 x2 x3 σ H locs ls hM hl hF
  unfold X12_readsNumber_s9 at hF
  refine lv_iload_n S.1 S.2.1 dX12_readsNumber_9 rfl (lv_at hl 3 rfl) ?_
  refine lv_iload_n S.1 S.2.1 dX12_readsNumber_10 rfl (lv_at hl 2 rfl) ?_
  refine lv_icmp_ge (tgt := 69) S.1 S.2.1 dX12_readsNumber_11 (by decide) (fun b2 => ?_) (fun b2 => ?_)
  · have hF := (if_pos b2).symm.trans hF
    refine lv_iconst (v := 1) S.1 S.2.1 dX12_readsNumber_69 (by decide) ?_
    cases hF
    exact z_m (v := 1) S hM hr hlk rfl dX12_readsNumber_70
  · have hF := (if_neg b2).symm.trans hF
    refine lv_aload_n S.1 S.2.1 dX12_readsNumber_14 rfl (lv_at hl 0 rfl) ?_
    obtain ⟨r3, er3, hF⟩ := bd1_some hF
    refine k_p (va_runV (As := []) (rest := []) S (c_X12_here   er3) (cwV 0 S.2.2.2.2 (ul_V tw_5_110 tw_5_112 ts_X12_here tw_1_12 cw_X12_here) rfl rfl rfl hv_X12_here ⟨Nat.le_of_ble_eq_true rfl, Nat.le_of_ble_eq_true rfl⟩) ⟨PreM.blind, hM.recv hK cfX12 0 (by decide) lm_0, hM.pre hK⟩ rfl rfl hl.1 rfl (lv_room (Nat.le_of_ble_eq_true rfl)) dX12_readsNumber_15 ⟨Nat.zero_le _, Nat.zero_le _⟩) ?_
    refine lv_bipush (v := 48) S.1 S.2.1 dX12_readsNumber_18 (by decide) ?_
    refine lv_bipush (v := 57) S.1 S.2.1 dX12_readsNumber_20 (by decide) ?_
    obtain ⟨r4, er4, hF⟩ := bd1_some hF
    refine k_p (va_runS (As := [.int r3, .int 48, .int 57]) (rest := []) S (c_X12_isIn   er4) (va_cwS 3 S.2.2.2.2 (ul_S tw_5_103 tw_5_104 tw_1_12 cw_X12_isIn) rfl rfl rfl hs_X12_isIn ⟨Nat.le_of_ble_eq_true rfl, Nat.le_of_ble_eq_true rfl⟩) ⟨PreM.blind, hM.pre hK⟩ rfl rfl hl.1 rfl (lv_room (Nat.le_of_ble_eq_true rfl)) dX12_readsNumber_22 ⟨Nat.zero_le _, Nat.zero_le _⟩) ?_
    refine lv_if_ne (tgt := 30) S.1 S.2.1 dX12_readsNumber_25 (by decide) (fun b5 => ?_) (fun b5 => ?_)
    · have hF := (if_neg b5).symm.trans hF
      refine lv_aload_n S.1 S.2.1 dX12_readsNumber_30 rfl (lv_at hl 0 rfl) ?_
      refine r_getC S hK hM cfX12 0 9 6 (by decide) lm_0 rfl (by decide) tw_5_40 dX12_readsNumber_31 ?_
      refine lv_iload_n S.1 S.2.1 dX12_readsNumber_34 rfl (lv_at hl 1 rfl) ?_
      refine lv_bipush (v := 10) S.1 S.2.1 dX12_readsNumber_35 (by decide) ?_
      refine lv_aload_n S.1 S.2.1 dX12_readsNumber_37 rfl (lv_at hl 0 rfl) ?_
      refine r_getC S hK hM cfX12 0 9 6 (by decide) lm_0 rfl (by decide) tw_5_40 dX12_readsNumber_38 ?_
      refine lv_iload_n S.1 S.2.1 dX12_readsNumber_41 rfl (lv_at hl 1 rfl) ?_
      obtain ⟨hv6, v6, ev6, hF⟩ := rd_some hF
      refine r_iald S hK hM 6 (by decide) rfl hv6 ev6 dX12_readsNumber_42 ?_
      refine lv_imul S.1 S.2.1 dX12_readsNumber_43 ?_
      refine lv_aload_n S.1 S.2.1 dX12_readsNumber_44 rfl (lv_at hl 0 rfl) ?_
      obtain ⟨r7, er7, hF⟩ := bd1_some hF
      refine k_p (va_runV (As := []) (rest := [.int (10 * v6), .int x1, .ref (g.2.2 6)]) S (c_X12_here   er7) (cwV 0 S.2.2.2.2 (ul_V tw_5_110 tw_5_112 ts_X12_here tw_1_12 cw_X12_here) rfl rfl rfl hv_X12_here ⟨Nat.le_of_ble_eq_true rfl, Nat.le_of_ble_eq_true rfl⟩) ⟨PreM.blind, hM.recv hK cfX12 0 (by decide) lm_0, hM.pre hK⟩ rfl rfl hl.1 rfl (lv_room (Nat.le_of_ble_eq_true rfl)) dX12_readsNumber_45 ⟨Nat.zero_le _, Nat.zero_le _⟩) ?_
      refine lv_iadd S.1 S.2.1 dX12_readsNumber_48 ?_
      refine lv_bipush (v := 48) S.1 S.2.1 dX12_readsNumber_49 (by decide) ?_
      refine lv_isub S.1 S.2.1 dX12_readsNumber_51 ?_
      obtain ⟨hσ8, σ8, eσ8, hF⟩ := wr_some hF
      refine r_iast S hK hM 6 (by decide) rfl hσ8 eσ8 dX12_readsNumber_52 (fun H locs hM => ?_)
      refine lv_aload_n S.1 S.2.1 dX12_readsNumber_53 rfl (lv_at hl 0 rfl) ?_
      refine lv_dup S.1 S.2.1 dX12_readsNumber_54 rfl ?_
      refine r_getI S hK hM cfX12 0 6 (by decide) lm_0 rfl (by decide) tw_5_37 dX12_readsNumber_55 ?_
      refine lv_iconst (v := 1) S.1 S.2.1 dX12_readsNumber_58 (by decide) ?_
      refine lv_iadd S.1 S.2.1 dX12_readsNumber_59 ?_
      obtain ⟨σ9, eσ9, hF⟩ := bd_some hF
      refine r_putI (ty := .int) S hK hM cfX12 tyX12_ok nmX12 0 6 (by decide) lm_0 rfl (by decide) tw_5_37 rfl (by decide +kernel) rfl rfl eσ9 dX12_readsNumber_60 (fun H locs hM => ?_)
      obtain ⟨v10, ev10, hF⟩ := bd_some hF
      refine lv_iinc (v := v10) (lv' := [(3, .int v10), (0, .ref (g.2.2 0)), (1, .int x1), (2, .int x2)]) S.1 S.2.1 dX12_readsNumber_63 hl (k := 3) rfl (by rw [ev10]; rfl) (by decide) rfl (fun ls hl => ?_)
      refine lv_goto (tgt := 9) S.1 S.2.1 dX12_readsNumber_66 (by decide) ?_
      exact hk9 hM (lv_sub hl [1, 2, 3, 0] rfl)  hF
    · have hF := (if_pos b5).symm.trans hF
      refine lv_iconst (v := 0) S.1 S.2.1 dX12_readsNumber_28 (by decide) ?_
      cases hF
      exact z_m (v := 0) S hM hr hlk rfl dX12_readsNumber_29
theorem wl_X12_readsNumber_9 {l : Launch} {g : GE} {A : Nat → Prop} {p : Program} {e : Env} {s : State} {m : MethodId} {args : Array Value} {below : List Frame} {meth : Method} {c : Code} (S : CallFix p m c cX12_readsNumber 4 s args UL RX12) (hK : KK g s) (hr : meth.sig.returnType = (some .boolean)) (hlk : meth.locks = false) {out : Int32 × IM} : ∀ (n : Nat) {x1 : Int32} {x2 : Int32} {x3 : Int32} {σ : IM} {H : Heap} {locs : List Loc} {ls : Array Slot}, Mem lyM 13 g A [] σ nor s.heap H locs → lv_has ls 4 [(0, .ref (g.2.2 0)), (1, .int x1), (2, .int x2), (3, .int x3)] → X12_readsNumber_b9 n x1 x2 x3 σ = some out → W p l e ({ frames := 1, cells := 0, slots := 0, locals := 22 }) s m args below meth c H locs 0 0 (MQ below (Qm lyM 13 g A [] out.2 nor (some (.int out.1))) args s 0 0 A) (F0 m 9 ls []) := by
  intro n
  induction n with
  | zero =>
    intro x1 x2 x3 σ H locs ls hM hl hF
    cases hF
  | succ n ih =>
    intro x1 x2 x3 σ H locs ls hM hl hF
    exact w_X12_readsNumber_9 S hK hr hlk ih hM hl hF
def X12_readsNumber (σ : IM) (a1 : Int32) (a2 : Int32) : Option (Int32 × IM) := wr σ 6 3 a1 0 fun σ1 => X12_readsNumber_b9 1000 a1 a2 0 σ1
set_option maxRecDepth 20000 in
theorem c_X12_readsNumber {l : Launch} {g : GE} {A : Nat → Prop} {σ : IM} {a1 : Int32} {a2 : Int32} {out : Int32 × IM} (hF : X12_readsNumber σ a1 a2 = some out) : Met l yX12_readsNumber (.code yX12_readsNumber cX12_readsNumber 4 (some .boolean) :: UL) ({ frames := 1, cells := 0, slots := 0, locals := 22 }) (va_Pc [.ref (g.2.2 0), .int a1, .int a2] (PreM lyM 13 g A [] σ nor)) (Qm lyM 13 g A [] out.2 nor (some (.int out.1))) 0 0 A := by
  refine e_of (by decide) (Nat.le_of_ble_eq_true rfl) ?_
  intro p e s m below meth c ls S hr hlk hv hl
  have hM := Mem.of hv
  have hK := hv.2.1
  have hl : lv_has ls 4 [(0, .ref (g.2.2 0)), (1, .int a1), (2, .int a2)] := hl
  unfold X12_readsNumber at hF
  refine lv_aload_n S.1 S.2.1 dX12_readsNumber_0 rfl (lv_at hl 0 rfl) ?_
  refine r_getC S hK hM cfX12 0 9 6 (by decide) lm_0 rfl (by decide) tw_5_40 dX12_readsNumber_1 ?_
  refine lv_iload_n S.1 S.2.1 dX12_readsNumber_4 rfl (lv_at hl 1 rfl) ?_
  refine lv_iconst (v := 0) S.1 S.2.1 dX12_readsNumber_5 (by decide) ?_
  obtain ⟨hσ1, σ1, eσ1, hF⟩ := wr_some hF
  refine r_iast S hK hM 6 (by decide) rfl hσ1 eσ1 dX12_readsNumber_6 (fun H locs hM => ?_)
  refine lv_iconst (v := 0) S.1 S.2.1 dX12_readsNumber_7 (by decide) ?_
  refine lv_istore_n (lv' := [(3, .int 0), (0, .ref (g.2.2 0)), (1, .int a1), (2, .int a2)]) S.1 S.2.1 dX12_readsNumber_8 rfl hl (by decide) rfl (fun ls hl => ?_)
  exact wl_X12_readsNumber_9 S hK hr hlk 1000 hM (lv_sub hl [1, 2, 3, 0] rfl) hF
/-! X12_readsStatement -/
def X12_readsStatement_b236 (x2 : Int32) (σ : IM) : Option (Int32 × IM) := if x2 = 0 then (some (0, σ)) else (bd1 (X12_here σ) fun r59 => if r59 = 59 then (bd (up2 σ 0 6 ((σ 0 6) + 1)) fun σ61 => some (1, σ61)) else (some (0, σ)))
set_option maxRecDepth 20000 in
theorem w_X12_readsStatement_236 {l : Launch} {g : GE} {A : Nat → Prop} {p : Program} {e : Env} {s : State} {m : MethodId} {args : Array Value} {below : List Frame} {meth : Method} {c : Code} (S : CallFix p m c cX12_readsStatement 3 s args UL RX12) (hK : KK g s) (hr : meth.sig.returnType = (some .boolean)) (hlk : meth.locks = false) {out : Int32 × IM} : ∀ {x2 : Int32} {σ : IM} {H : Heap} {locs : List Loc} {ls : Array Slot}, Mem lyM 13 g A [] σ nor s.heap H locs → lv_has ls 3 [(0, .ref (g.2.2 0)), (2, .int x2)] → X12_readsStatement_b236 x2 σ = some out → W p l e ({ frames := 2, cells := 0, slots := 0, locals := 45 }) s m args below meth c H locs 0 0 (MQ below (Qm lyM 13 g A [] out.2 nor (some (.int out.1))) args s 0 0 A) (F0 m 236 ls []) := by
  intro x2 σ H locs ls hM hl hF
  unfold X12_readsStatement_b236 at hF
  refine lv_iload_n S.1 S.2.1 dX12_readsStatement_236 rfl (lv_at hl 1 rfl) ?_
  refine lv_if_eq (tgt := 249) S.1 S.2.1 dX12_readsStatement_237 (by decide) (fun b58 => ?_) (fun b58 => ?_)
  · have hF := (if_pos b58).symm.trans hF
    refine lv_iconst (v := 0) S.1 S.2.1 dX12_readsStatement_249 (by decide) ?_
    cases hF
    exact z_m (v := 0) S hM hr hlk rfl dX12_readsStatement_250
  · have hF := (if_neg b58).symm.trans hF
    refine lv_aload_n S.1 S.2.1 dX12_readsStatement_240 rfl (lv_at hl 0 rfl) ?_
    obtain ⟨r59, er59, hF⟩ := bd1_some hF
    refine k_p (va_runV (As := []) (rest := []) S (c_X12_here   er59) (cwV 0 S.2.2.2.2 (ul_V tw_5_110 tw_5_112 ts_X12_here tw_1_12 cw_X12_here) rfl rfl rfl hv_X12_here ⟨Nat.le_of_ble_eq_true rfl, Nat.le_of_ble_eq_true rfl⟩) ⟨PreM.blind, hM.recv hK cfX12 0 (by decide) lm_0, hM.pre hK⟩ rfl rfl hl.1 rfl (lv_room (Nat.le_of_ble_eq_true rfl)) dX12_readsStatement_241 ⟨Nat.zero_le _, Nat.zero_le _⟩) ?_
    refine lv_bipush (v := 59) S.1 S.2.1 dX12_readsStatement_244 (by decide) ?_
    refine lv_icmp_eq (tgt := 251) S.1 S.2.1 dX12_readsStatement_246 (by decide) (fun b60 => ?_) (fun b60 => ?_)
    · have hF := (if_pos b60).symm.trans hF
      refine lv_aload_n S.1 S.2.1 dX12_readsStatement_251 rfl (lv_at hl 0 rfl) ?_
      refine lv_dup S.1 S.2.1 dX12_readsStatement_252 rfl ?_
      refine r_getI S hK hM cfX12 0 6 (by decide) lm_0 rfl (by decide) tw_5_37 dX12_readsStatement_253 ?_
      refine lv_iconst (v := 1) S.1 S.2.1 dX12_readsStatement_256 (by decide) ?_
      refine lv_iadd S.1 S.2.1 dX12_readsStatement_257 ?_
      obtain ⟨σ61, eσ61, hF⟩ := bd_some hF
      refine r_putI (ty := .int) S hK hM cfX12 tyX12_ok nmX12 0 6 (by decide) lm_0 rfl (by decide) tw_5_37 rfl (by decide +kernel) rfl rfl eσ61 dX12_readsStatement_258 (fun H locs hM => ?_)
      refine lv_iconst (v := 1) S.1 S.2.1 dX12_readsStatement_261 (by decide) ?_
      cases hF
      exact z_m (v := 1) S hM hr hlk rfl dX12_readsStatement_262
    · have hF := (if_neg b60).symm.trans hF
      refine lv_iconst (v := 0) S.1 S.2.1 dX12_readsStatement_249 (by decide) ?_
      cases hF
      exact z_m (v := 0) S hM hr hlk rfl dX12_readsStatement_250
def X12_readsStatement_b147 (t0 : Int32) (σ : IM) : Option (Int32 × IM) := X12_readsStatement_b236 t0 σ
set_option maxRecDepth 20000 in
theorem w_X12_readsStatement_147 {l : Launch} {g : GE} {A : Nat → Prop} {p : Program} {e : Env} {s : State} {m : MethodId} {args : Array Value} {below : List Frame} {meth : Method} {c : Code} (S : CallFix p m c cX12_readsStatement 3 s args UL RX12) (hK : KK g s) (hr : meth.sig.returnType = (some .boolean)) (hlk : meth.locks = false) {out : Int32 × IM} : ∀ {t0 : Int32} {σ : IM} {H : Heap} {locs : List Loc} {ls : Array Slot}, Mem lyM 13 g A [] σ nor s.heap H locs → lv_has ls 3 [(0, .ref (g.2.2 0))] → X12_readsStatement_b147 t0 σ = some out → W p l e ({ frames := 2, cells := 0, slots := 0, locals := 45 }) s m args below meth c H locs 0 0 (MQ below (Qm lyM 13 g A [] out.2 nor (some (.int out.1))) args s 0 0 A) (F0 m 147 ls [.int t0]) := by
  intro t0 σ H locs ls hM hl hF
  unfold X12_readsStatement_b147 at hF
  refine lv_istore_n (lv' := [(2, .int t0), (0, .ref (g.2.2 0))]) S.1 S.2.1 dX12_readsStatement_147 rfl hl (by decide) rfl (fun ls hl => ?_)
  refine lv_goto (tgt := 236) S.1 S.2.1 dX12_readsStatement_148 (by decide) ?_
  exact w_X12_readsStatement_236 S hK hr hlk hM (lv_sub hl [1, 0] rfl) hF
def X12_readsStatement_b146 (σ : IM) : Option (Int32 × IM) := X12_readsStatement_b147 0 σ
set_option maxRecDepth 20000 in
theorem w_X12_readsStatement_146 {l : Launch} {g : GE} {A : Nat → Prop} {p : Program} {e : Env} {s : State} {m : MethodId} {args : Array Value} {below : List Frame} {meth : Method} {c : Code} (S : CallFix p m c cX12_readsStatement 3 s args UL RX12) (hK : KK g s) (hr : meth.sig.returnType = (some .boolean)) (hlk : meth.locks = false) {out : Int32 × IM} : ∀ {σ : IM} {H : Heap} {locs : List Loc} {ls : Array Slot}, Mem lyM 13 g A [] σ nor s.heap H locs → lv_has ls 3 [(0, .ref (g.2.2 0))] → X12_readsStatement_b146 σ = some out → W p l e ({ frames := 2, cells := 0, slots := 0, locals := 45 }) s m args below meth c H locs 0 0 (MQ below (Qm lyM 13 g A [] out.2 nor (some (.int out.1))) args s 0 0 A) (F0 m 146 ls []) := by
  intro σ H locs ls hM hl hF
  unfold X12_readsStatement_b146 at hF
  refine lv_iconst (v := 0) S.1 S.2.1 dX12_readsStatement_146 (by decide) ?_
  exact w_X12_readsStatement_147 S hK hr hlk hM (lv_sub hl [0] rfl) hF
def X12_readsStatement_b124 (σ : IM) : Option (Int32 × IM) := bd2 (X12_readsNumber σ 0 1) fun r52 σ50 => if r52 = 0 then (X12_readsStatement_b146 σ50) else (bd2 (X12_readsNumber σ50 1 1) fun r56 σ54 => if r56 = 0 then (X12_readsStatement_b146 σ54) else (X12_readsStatement_b147 1 σ54))
set_option maxRecDepth 20000 in
theorem w_X12_readsStatement_124 {l : Launch} {g : GE} {A : Nat → Prop} {p : Program} {e : Env} {s : State} {m : MethodId} {args : Array Value} {below : List Frame} {meth : Method} {c : Code} (S : CallFix p m c cX12_readsStatement 3 s args UL RX12) (hK : KK g s) (hr : meth.sig.returnType = (some .boolean)) (hlk : meth.locks = false) {out : Int32 × IM} : ∀ {σ : IM} {H : Heap} {locs : List Loc} {ls : Array Slot}, Mem lyM 13 g A [] σ nor s.heap H locs → lv_has ls 3 [(0, .ref (g.2.2 0))] → X12_readsStatement_b124 σ = some out → W p l e ({ frames := 2, cells := 0, slots := 0, locals := 45 }) s m args below meth c H locs 0 0 (MQ below (Qm lyM 13 g A [] out.2 nor (some (.int out.1))) args s 0 0 A) (F0 m 124 ls []) := by
  intro σ H locs ls hM hl hF
  unfold X12_readsStatement_b124 at hF
  refine lv_aload_n S.1 S.2.1 dX12_readsStatement_124 rfl (lv_at hl 0 rfl) ?_
  refine lv_iconst (v := 0) S.1 S.2.1 dX12_readsStatement_125 (by decide) ?_
  refine lv_iconst (v := 1) S.1 S.2.1 dX12_readsStatement_126 (by decide) ?_
  obtain ⟨r52, σ50, er52, hF⟩ := bd2_some hF
  refine k_m (va_runV (As := [.int 0, .int 1]) (rest := []) S (c_X12_readsNumber   er52) (cwV 2 S.2.2.2.2 (ul_V tw_5_114 tw_5_116 ts_X12_readsNumber tw_1_12 cw_X12_readsNumber) rfl rfl rfl hv_X12_readsNumber ⟨Nat.le_of_ble_eq_true rfl, Nat.le_of_ble_eq_true rfl⟩) ⟨PreM.blind, hM.recv hK cfX12 0 (by decide) lm_0, hM.pre hK⟩ rfl rfl hl.1 rfl (lv_room (Nat.le_of_ble_eq_true rfl)) dX12_readsStatement_127 ⟨Nat.zero_le _, Nat.zero_le _⟩) hM (fun H locs hM => ?_)
  show W _ _ _ _ _ _ _ _ _ _ _ _ _ _ _ (F0 m 130 ls [.int r52])
  refine lv_if_eq (tgt := 146) S.1 S.2.1 dX12_readsStatement_130 (by decide) (fun b53 => ?_) (fun b53 => ?_)
  · have hF := (if_pos b53).symm.trans hF
    exact w_X12_readsStatement_146 S hK hr hlk hM (lv_sub hl [0] rfl) hF
  · have hF := (if_neg b53).symm.trans hF
    refine lv_aload_n S.1 S.2.1 dX12_readsStatement_133 rfl (lv_at hl 0 rfl) ?_
    refine lv_iconst (v := 1) S.1 S.2.1 dX12_readsStatement_134 (by decide) ?_
    refine lv_iconst (v := 1) S.1 S.2.1 dX12_readsStatement_135 (by decide) ?_
    obtain ⟨r56, σ54, er56, hF⟩ := bd2_some hF
    refine k_m (va_runV (As := [.int 1, .int 1]) (rest := []) S (c_X12_readsNumber   er56) (cwV 2 S.2.2.2.2 (ul_V tw_5_114 tw_5_116 ts_X12_readsNumber tw_1_12 cw_X12_readsNumber) rfl rfl rfl hv_X12_readsNumber ⟨Nat.le_of_ble_eq_true rfl, Nat.le_of_ble_eq_true rfl⟩) ⟨PreM.blind, hM.recv hK cfX12 0 (by decide) lm_0, hM.pre hK⟩ rfl rfl hl.1 rfl (lv_room (Nat.le_of_ble_eq_true rfl)) dX12_readsStatement_136 ⟨Nat.zero_le _, Nat.zero_le _⟩) hM (fun H locs hM => ?_)
    show W _ _ _ _ _ _ _ _ _ _ _ _ _ _ _ (F0 m 139 ls [.int r56])
    refine lv_if_eq (tgt := 146) S.1 S.2.1 dX12_readsStatement_139 (by decide) (fun b57 => ?_) (fun b57 => ?_)
    · have hF := (if_pos b57).symm.trans hF
      exact w_X12_readsStatement_146 S hK hr hlk hM (lv_sub hl [0] rfl) hF
    · have hF := (if_neg b57).symm.trans hF
      refine lv_iconst (v := 1) S.1 S.2.1 dX12_readsStatement_142 (by decide) ?_
      refine lv_goto (tgt := 147) S.1 S.2.1 dX12_readsStatement_143 (by decide) ?_
      exact w_X12_readsStatement_147 S hK hr hlk hM (lv_sub hl [0] rfl) hF
def X12_readsStatement_b224 (σ : IM) : Option (Int32 × IM) := bd (up2 σ 0 6 ((σ 0 6) - 1)) fun σ49 => some (0, σ49)
set_option maxRecDepth 20000 in
theorem w_X12_readsStatement_224 {l : Launch} {g : GE} {A : Nat → Prop} {p : Program} {e : Env} {s : State} {m : MethodId} {args : Array Value} {below : List Frame} {meth : Method} {c : Code} (S : CallFix p m c cX12_readsStatement 3 s args UL RX12) (hK : KK g s) (hr : meth.sig.returnType = (some .boolean)) (hlk : meth.locks = false) {out : Int32 × IM} : ∀ {σ : IM} {H : Heap} {locs : List Loc} {ls : Array Slot}, Mem lyM 13 g A [] σ nor s.heap H locs → lv_has ls 3 [(0, .ref (g.2.2 0))] → X12_readsStatement_b224 σ = some out → W p l e ({ frames := 2, cells := 0, slots := 0, locals := 45 }) s m args below meth c H locs 0 0 (MQ below (Qm lyM 13 g A [] out.2 nor (some (.int out.1))) args s 0 0 A) (F0 m 224 ls []) := by
  intro σ H locs ls hM hl hF
  unfold X12_readsStatement_b224 at hF
  refine lv_aload_n S.1 S.2.1 dX12_readsStatement_224 rfl (lv_at hl 0 rfl) ?_
  refine lv_dup S.1 S.2.1 dX12_readsStatement_225 rfl ?_
  refine r_getI S hK hM cfX12 0 6 (by decide) lm_0 rfl (by decide) tw_5_37 dX12_readsStatement_226 ?_
  refine lv_iconst (v := 1) S.1 S.2.1 dX12_readsStatement_229 (by decide) ?_
  refine lv_isub S.1 S.2.1 dX12_readsStatement_230 ?_
  obtain ⟨σ49, eσ49, hF⟩ := bd_some hF
  refine r_putI (ty := .int) S hK hM cfX12 tyX12_ok nmX12 0 6 (by decide) lm_0 rfl (by decide) tw_5_37 rfl (by decide +kernel) rfl rfl eσ49 dX12_readsStatement_231 (fun H locs hM => ?_)
  refine lv_iconst (v := 0) S.1 S.2.1 dX12_readsStatement_234 (by decide) ?_
  cases hF
  exact z_m (v := 0) S hM hr hlk rfl dX12_readsStatement_235
def X12_readsStatement_b214 (σ : IM) : Option (Int32 × IM) := bd2 (X12_readsNumber σ 0 1) fun r48 σ46 => X12_readsStatement_b236 r48 σ46
set_option maxRecDepth 20000 in
theorem w_X12_readsStatement_214 {l : Launch} {g : GE} {A : Nat → Prop} {p : Program} {e : Env} {s : State} {m : MethodId} {args : Array Value} {below : List Frame} {meth : Method} {c : Code} (S : CallFix p m c cX12_readsStatement 3 s args UL RX12) (hK : KK g s) (hr : meth.sig.returnType = (some .boolean)) (hlk : meth.locks = false) {out : Int32 × IM} : ∀ {σ : IM} {H : Heap} {locs : List Loc} {ls : Array Slot}, Mem lyM 13 g A [] σ nor s.heap H locs → lv_has ls 3 [(0, .ref (g.2.2 0))] → X12_readsStatement_b214 σ = some out → W p l e ({ frames := 2, cells := 0, slots := 0, locals := 45 }) s m args below meth c H locs 0 0 (MQ below (Qm lyM 13 g A [] out.2 nor (some (.int out.1))) args s 0 0 A) (F0 m 214 ls []) := by
  intro σ H locs ls hM hl hF
  unfold X12_readsStatement_b214 at hF
  refine lv_aload_n S.1 S.2.1 dX12_readsStatement_214 rfl (lv_at hl 0 rfl) ?_
  refine lv_iconst (v := 0) S.1 S.2.1 dX12_readsStatement_215 (by decide) ?_
  refine lv_iconst (v := 1) S.1 S.2.1 dX12_readsStatement_216 (by decide) ?_
  obtain ⟨r48, σ46, er48, hF⟩ := bd2_some hF
  refine k_m (va_runV (As := [.int 0, .int 1]) (rest := []) S (c_X12_readsNumber   er48) (cwV 2 S.2.2.2.2 (ul_V tw_5_114 tw_5_116 ts_X12_readsNumber tw_1_12 cw_X12_readsNumber) rfl rfl rfl hv_X12_readsNumber ⟨Nat.le_of_ble_eq_true rfl, Nat.le_of_ble_eq_true rfl⟩) ⟨PreM.blind, hM.recv hK cfX12 0 (by decide) lm_0, hM.pre hK⟩ rfl rfl hl.1 rfl (lv_room (Nat.le_of_ble_eq_true rfl)) dX12_readsStatement_217 ⟨Nat.zero_le _, Nat.zero_le _⟩) hM (fun H locs hM => ?_)
  show W _ _ _ _ _ _ _ _ _ _ _ _ _ _ _ (F0 m 220 ls [.int r48])
  refine lv_istore_n (lv' := [(2, .int r48), (0, .ref (g.2.2 0))]) S.1 S.2.1 dX12_readsStatement_220 rfl hl (by decide) rfl (fun ls hl => ?_)
  refine lv_goto (tgt := 236) S.1 S.2.1 dX12_readsStatement_221 (by decide) ?_
  exact w_X12_readsStatement_236 S hK hr hlk hM (lv_sub hl [1, 0] rfl) hF
def X12_readsStatement_b183 (t0 : Int32) (σ : IM) : Option (Int32 × IM) := X12_readsStatement_b236 t0 σ
set_option maxRecDepth 20000 in
theorem w_X12_readsStatement_183 {l : Launch} {g : GE} {A : Nat → Prop} {p : Program} {e : Env} {s : State} {m : MethodId} {args : Array Value} {below : List Frame} {meth : Method} {c : Code} (S : CallFix p m c cX12_readsStatement 3 s args UL RX12) (hK : KK g s) (hr : meth.sig.returnType = (some .boolean)) (hlk : meth.locks = false) {out : Int32 × IM} : ∀ {t0 : Int32} {σ : IM} {H : Heap} {locs : List Loc} {ls : Array Slot}, Mem lyM 13 g A [] σ nor s.heap H locs → lv_has ls 3 [(0, .ref (g.2.2 0))] → X12_readsStatement_b183 t0 σ = some out → W p l e ({ frames := 2, cells := 0, slots := 0, locals := 45 }) s m args below meth c H locs 0 0 (MQ below (Qm lyM 13 g A [] out.2 nor (some (.int out.1))) args s 0 0 A) (F0 m 183 ls [.int t0]) := by
  intro t0 σ H locs ls hM hl hF
  unfold X12_readsStatement_b183 at hF
  refine lv_istore_n (lv' := [(2, .int t0), (0, .ref (g.2.2 0))]) S.1 S.2.1 dX12_readsStatement_183 rfl hl (by decide) rfl (fun ls hl => ?_)
  refine lv_goto (tgt := 236) S.1 S.2.1 dX12_readsStatement_184 (by decide) ?_
  exact w_X12_readsStatement_236 S hK hr hlk hM (lv_sub hl [1, 0] rfl) hF
def X12_readsStatement_b182 (σ : IM) : Option (Int32 × IM) := X12_readsStatement_b183 0 σ
set_option maxRecDepth 20000 in
theorem w_X12_readsStatement_182 {l : Launch} {g : GE} {A : Nat → Prop} {p : Program} {e : Env} {s : State} {m : MethodId} {args : Array Value} {below : List Frame} {meth : Method} {c : Code} (S : CallFix p m c cX12_readsStatement 3 s args UL RX12) (hK : KK g s) (hr : meth.sig.returnType = (some .boolean)) (hlk : meth.locks = false) {out : Int32 × IM} : ∀ {σ : IM} {H : Heap} {locs : List Loc} {ls : Array Slot}, Mem lyM 13 g A [] σ nor s.heap H locs → lv_has ls 3 [(0, .ref (g.2.2 0))] → X12_readsStatement_b182 σ = some out → W p l e ({ frames := 2, cells := 0, slots := 0, locals := 45 }) s m args below meth c H locs 0 0 (MQ below (Qm lyM 13 g A [] out.2 nor (some (.int out.1))) args s 0 0 A) (F0 m 182 ls []) := by
  intro σ H locs ls hM hl hF
  unfold X12_readsStatement_b182 at hF
  refine lv_iconst (v := 0) S.1 S.2.1 dX12_readsStatement_182 (by decide) ?_
  exact w_X12_readsStatement_183 S hK hr hlk hM (lv_sub hl [0] rfl) hF
def X12_readsStatement_b210 (t0 : Int32) (σ : IM) : Option (Int32 × IM) := X12_readsStatement_b236 t0 σ
set_option maxRecDepth 20000 in
theorem w_X12_readsStatement_210 {l : Launch} {g : GE} {A : Nat → Prop} {p : Program} {e : Env} {s : State} {m : MethodId} {args : Array Value} {below : List Frame} {meth : Method} {c : Code} (S : CallFix p m c cX12_readsStatement 3 s args UL RX12) (hK : KK g s) (hr : meth.sig.returnType = (some .boolean)) (hlk : meth.locks = false) {out : Int32 × IM} : ∀ {t0 : Int32} {σ : IM} {H : Heap} {locs : List Loc} {ls : Array Slot}, Mem lyM 13 g A [] σ nor s.heap H locs → lv_has ls 3 [(0, .ref (g.2.2 0))] → X12_readsStatement_b210 t0 σ = some out → W p l e ({ frames := 2, cells := 0, slots := 0, locals := 45 }) s m args below meth c H locs 0 0 (MQ below (Qm lyM 13 g A [] out.2 nor (some (.int out.1))) args s 0 0 A) (F0 m 210 ls [.int t0]) := by
  intro t0 σ H locs ls hM hl hF
  unfold X12_readsStatement_b210 at hF
  refine lv_istore_n (lv' := [(2, .int t0), (0, .ref (g.2.2 0))]) S.1 S.2.1 dX12_readsStatement_210 rfl hl (by decide) rfl (fun ls hl => ?_)
  refine lv_goto (tgt := 236) S.1 S.2.1 dX12_readsStatement_211 (by decide) ?_
  exact w_X12_readsStatement_236 S hK hr hlk hM (lv_sub hl [1, 0] rfl) hF
def X12_readsStatement_b209 (σ : IM) : Option (Int32 × IM) := X12_readsStatement_b210 0 σ
set_option maxRecDepth 20000 in
theorem w_X12_readsStatement_209 {l : Launch} {g : GE} {A : Nat → Prop} {p : Program} {e : Env} {s : State} {m : MethodId} {args : Array Value} {below : List Frame} {meth : Method} {c : Code} (S : CallFix p m c cX12_readsStatement 3 s args UL RX12) (hK : KK g s) (hr : meth.sig.returnType = (some .boolean)) (hlk : meth.locks = false) {out : Int32 × IM} : ∀ {σ : IM} {H : Heap} {locs : List Loc} {ls : Array Slot}, Mem lyM 13 g A [] σ nor s.heap H locs → lv_has ls 3 [(0, .ref (g.2.2 0))] → X12_readsStatement_b209 σ = some out → W p l e ({ frames := 2, cells := 0, slots := 0, locals := 45 }) s m args below meth c H locs 0 0 (MQ below (Qm lyM 13 g A [] out.2 nor (some (.int out.1))) args s 0 0 A) (F0 m 209 ls []) := by
  intro σ H locs ls hM hl hF
  unfold X12_readsStatement_b209 at hF
  refine lv_iconst (v := 0) S.1 S.2.1 dX12_readsStatement_209 (by decide) ?_
  exact w_X12_readsStatement_210 S hK hr hlk hM (lv_sub hl [0] rfl) hF
def X12_readsStatement (σ : IM) : Option (Int32 × IM) := bd1 (X12_here σ) fun r1 => bd (up2 σ 0 6 ((σ 0 6) + 1)) fun σ2 => if r1 = 98 then (X12_readsStatement_b124 σ2) else (if r1 = 100 then (X12_readsStatement_b214 σ2) else (if r1 = 102 then (X12_readsStatement_b124 σ2) else (if r1 = 104 then (X12_readsStatement_b124 σ2) else (if r1 = 108 then (X12_readsStatement_b214 σ2) else (if r1 = 112 then (bd2 (X12_readsNumber σ2 0 1) fun r11 σ9 => if r11 = 0 then (X12_readsStatement_b182 σ9) else (bd2 (X12_readsNumber σ9 1 1) fun r15 σ13 => if r15 = 0 then (X12_readsStatement_b182 σ13) else (bd2 (X12_readsNumber σ13 2 1) fun r19 σ17 => if r19 = 0 then (X12_readsStatement_b182 σ17) else (X12_readsStatement_b183 1 σ17)))) else (if r1 = 116 then (bd2 (X12_readsNumber σ2 0 1) fun r24 σ22 => if r24 = 0 then (X12_readsStatement_b209 σ22) else (bd2 (X12_readsNumber σ22 1 2) fun r28 σ26 => if r28 = 0 then (X12_readsStatement_b209 σ26) else (X12_readsStatement_b210 1 σ26))) else (if r1 = 120 then (X12_readsStatement_b124 σ2) else (X12_readsStatement_b224 σ2))))))))
set_option maxRecDepth 20000 in
theorem c_X12_readsStatement {l : Launch} {g : GE} {A : Nat → Prop} {σ : IM} {out : Int32 × IM} (hF : X12_readsStatement σ = some out) : Met l yX12_readsStatement (.code yX12_readsStatement cX12_readsStatement 3 (some .boolean) :: UL) ({ frames := 2, cells := 0, slots := 0, locals := 45 }) (va_Pc [.ref (g.2.2 0)] (PreM lyM 13 g A [] σ nor)) (Qm lyM 13 g A [] out.2 nor (some (.int out.1))) 0 0 A := by
  refine e_of (by decide) (Nat.le_of_ble_eq_true rfl) ?_
  intro p e s m below meth c ls S hr hlk hv hl
  have hM := Mem.of hv
  have hK := hv.2.1
  have hl : lv_has ls 3 [(0, .ref (g.2.2 0))] := hl
  unfold X12_readsStatement at hF
  refine lv_aload_n S.1 S.2.1 dX12_readsStatement_0 rfl (lv_at hl 0 rfl) ?_
  obtain ⟨r1, er1, hF⟩ := bd1_some hF
  refine k_p (va_runV (As := []) (rest := []) S (c_X12_here   er1) (cwV 0 S.2.2.2.2 (ul_V tw_5_110 tw_5_112 ts_X12_here tw_1_12 cw_X12_here) rfl rfl rfl hv_X12_here ⟨Nat.le_of_ble_eq_true rfl, Nat.le_of_ble_eq_true rfl⟩) ⟨PreM.blind, hM.recv hK cfX12 0 (by decide) lm_0, hM.pre hK⟩ rfl rfl hl.1 rfl (lv_room (Nat.le_of_ble_eq_true rfl)) dX12_readsStatement_1 ⟨Nat.zero_le _, Nat.zero_le _⟩) ?_
  refine lv_istore_n (lv' := [(1, .int r1), (0, .ref (g.2.2 0))]) S.1 S.2.1 dX12_readsStatement_4 rfl hl (by decide) rfl (fun ls hl => ?_)
  refine lv_aload_n S.1 S.2.1 dX12_readsStatement_5 rfl (lv_at hl 1 rfl) ?_
  refine lv_dup S.1 S.2.1 dX12_readsStatement_6 rfl ?_
  refine r_getI S hK hM cfX12 0 6 (by decide) lm_0 rfl (by decide) tw_5_37 dX12_readsStatement_7 ?_
  refine lv_iconst (v := 1) S.1 S.2.1 dX12_readsStatement_10 (by decide) ?_
  refine lv_iadd S.1 S.2.1 dX12_readsStatement_11 ?_
  obtain ⟨σ2, eσ2, hF⟩ := bd_some hF
  refine r_putI (ty := .int) S hK hM cfX12 tyX12_ok nmX12 0 6 (by decide) lm_0 rfl (by decide) tw_5_37 rfl (by decide +kernel) rfl rfl eσ2 dX12_readsStatement_12 (fun H locs hM => ?_)
  refine lv_iload_n S.1 S.2.1 dX12_readsStatement_15 rfl (lv_at hl 0 rfl) ?_
  by_cases b3 : r1 = 98
  · have hF := (if_pos b3).symm.trans hF
    refine r_tab (off := 108) (tgt := 124) S dX12_readsStatement_16 b3 (by decide) (by decide) ?_
    exact w_X12_readsStatement_124 S hK hr hlk hM (lv_sub hl [1] rfl) hF
  · have hF := (if_neg b3).symm.trans hF
    by_cases b4 : r1 = 100
    · have hF := (if_pos b4).symm.trans hF
      refine r_tab (off := 198) (tgt := 214) S dX12_readsStatement_16 b4 (by decide) (by decide) ?_
      exact w_X12_readsStatement_214 S hK hr hlk hM (lv_sub hl [1] rfl) hF
    · have hF := (if_neg b4).symm.trans hF
      by_cases b5 : r1 = 102
      · have hF := (if_pos b5).symm.trans hF
        refine r_tab (off := 108) (tgt := 124) S dX12_readsStatement_16 b5 (by decide) (by decide) ?_
        exact w_X12_readsStatement_124 S hK hr hlk hM (lv_sub hl [1] rfl) hF
      · have hF := (if_neg b5).symm.trans hF
        by_cases b6 : r1 = 104
        · have hF := (if_pos b6).symm.trans hF
          refine r_tab (off := 108) (tgt := 124) S dX12_readsStatement_16 b6 (by decide) (by decide) ?_
          exact w_X12_readsStatement_124 S hK hr hlk hM (lv_sub hl [1] rfl) hF
        · have hF := (if_neg b6).symm.trans hF
          by_cases b7 : r1 = 108
          · have hF := (if_pos b7).symm.trans hF
            refine r_tab (off := 198) (tgt := 214) S dX12_readsStatement_16 b7 (by decide) (by decide) ?_
            exact w_X12_readsStatement_214 S hK hr hlk hM (lv_sub hl [1] rfl) hF
          · have hF := (if_neg b7).symm.trans hF
            by_cases b8 : r1 = 112
            · have hF := (if_pos b8).symm.trans hF
              refine r_tab (off := 135) (tgt := 151) S dX12_readsStatement_16 b8 (by decide) (by decide) ?_
              refine lv_aload_n S.1 S.2.1 dX12_readsStatement_151 rfl (lv_at hl 1 rfl) ?_
              refine lv_iconst (v := 0) S.1 S.2.1 dX12_readsStatement_152 (by decide) ?_
              refine lv_iconst (v := 1) S.1 S.2.1 dX12_readsStatement_153 (by decide) ?_
              obtain ⟨r11, σ9, er11, hF⟩ := bd2_some hF
              refine k_m (va_runV (As := [.int 0, .int 1]) (rest := []) S (c_X12_readsNumber   er11) (cwV 2 S.2.2.2.2 (ul_V tw_5_114 tw_5_116 ts_X12_readsNumber tw_1_12 cw_X12_readsNumber) rfl rfl rfl hv_X12_readsNumber ⟨Nat.le_of_ble_eq_true rfl, Nat.le_of_ble_eq_true rfl⟩) ⟨PreM.blind, hM.recv hK cfX12 0 (by decide) lm_0, hM.pre hK⟩ rfl rfl hl.1 rfl (lv_room (Nat.le_of_ble_eq_true rfl)) dX12_readsStatement_154 ⟨Nat.zero_le _, Nat.zero_le _⟩) hM (fun H locs hM => ?_)
              show W _ _ _ _ _ _ _ _ _ _ _ _ _ _ _ (F0 m 157 ls [.int r11])
              refine lv_if_eq (tgt := 182) S.1 S.2.1 dX12_readsStatement_157 (by decide) (fun b12 => ?_) (fun b12 => ?_)
              · have hF := (if_pos b12).symm.trans hF
                exact w_X12_readsStatement_182 S hK hr hlk hM (lv_sub hl [1] rfl) hF
              · have hF := (if_neg b12).symm.trans hF
                refine lv_aload_n S.1 S.2.1 dX12_readsStatement_160 rfl (lv_at hl 1 rfl) ?_
                refine lv_iconst (v := 1) S.1 S.2.1 dX12_readsStatement_161 (by decide) ?_
                refine lv_iconst (v := 1) S.1 S.2.1 dX12_readsStatement_162 (by decide) ?_
                obtain ⟨r15, σ13, er15, hF⟩ := bd2_some hF
                refine k_m (va_runV (As := [.int 1, .int 1]) (rest := []) S (c_X12_readsNumber   er15) (cwV 2 S.2.2.2.2 (ul_V tw_5_114 tw_5_116 ts_X12_readsNumber tw_1_12 cw_X12_readsNumber) rfl rfl rfl hv_X12_readsNumber ⟨Nat.le_of_ble_eq_true rfl, Nat.le_of_ble_eq_true rfl⟩) ⟨PreM.blind, hM.recv hK cfX12 0 (by decide) lm_0, hM.pre hK⟩ rfl rfl hl.1 rfl (lv_room (Nat.le_of_ble_eq_true rfl)) dX12_readsStatement_163 ⟨Nat.zero_le _, Nat.zero_le _⟩) hM (fun H locs hM => ?_)
                show W _ _ _ _ _ _ _ _ _ _ _ _ _ _ _ (F0 m 166 ls [.int r15])
                refine lv_if_eq (tgt := 182) S.1 S.2.1 dX12_readsStatement_166 (by decide) (fun b16 => ?_) (fun b16 => ?_)
                · have hF := (if_pos b16).symm.trans hF
                  exact w_X12_readsStatement_182 S hK hr hlk hM (lv_sub hl [1] rfl) hF
                · have hF := (if_neg b16).symm.trans hF
                  refine lv_aload_n S.1 S.2.1 dX12_readsStatement_169 rfl (lv_at hl 1 rfl) ?_
                  refine lv_iconst (v := 2) S.1 S.2.1 dX12_readsStatement_170 (by decide) ?_
                  refine lv_iconst (v := 1) S.1 S.2.1 dX12_readsStatement_171 (by decide) ?_
                  obtain ⟨r19, σ17, er19, hF⟩ := bd2_some hF
                  refine k_m (va_runV (As := [.int 2, .int 1]) (rest := []) S (c_X12_readsNumber   er19) (cwV 2 S.2.2.2.2 (ul_V tw_5_114 tw_5_116 ts_X12_readsNumber tw_1_12 cw_X12_readsNumber) rfl rfl rfl hv_X12_readsNumber ⟨Nat.le_of_ble_eq_true rfl, Nat.le_of_ble_eq_true rfl⟩) ⟨PreM.blind, hM.recv hK cfX12 0 (by decide) lm_0, hM.pre hK⟩ rfl rfl hl.1 rfl (lv_room (Nat.le_of_ble_eq_true rfl)) dX12_readsStatement_172 ⟨Nat.zero_le _, Nat.zero_le _⟩) hM (fun H locs hM => ?_)
                  show W _ _ _ _ _ _ _ _ _ _ _ _ _ _ _ (F0 m 175 ls [.int r19])
                  refine lv_if_eq (tgt := 182) S.1 S.2.1 dX12_readsStatement_175 (by decide) (fun b20 => ?_) (fun b20 => ?_)
                  · have hF := (if_pos b20).symm.trans hF
                    exact w_X12_readsStatement_182 S hK hr hlk hM (lv_sub hl [1] rfl) hF
                  · have hF := (if_neg b20).symm.trans hF
                    refine lv_iconst (v := 1) S.1 S.2.1 dX12_readsStatement_178 (by decide) ?_
                    refine lv_goto (tgt := 183) S.1 S.2.1 dX12_readsStatement_179 (by decide) ?_
                    exact w_X12_readsStatement_183 S hK hr hlk hM (lv_sub hl [1] rfl) hF
            · have hF := (if_neg b8).symm.trans hF
              by_cases b21 : r1 = 116
              · have hF := (if_pos b21).symm.trans hF
                refine r_tab (off := 171) (tgt := 187) S dX12_readsStatement_16 b21 (by decide) (by decide) ?_
                refine lv_aload_n S.1 S.2.1 dX12_readsStatement_187 rfl (lv_at hl 1 rfl) ?_
                refine lv_iconst (v := 0) S.1 S.2.1 dX12_readsStatement_188 (by decide) ?_
                refine lv_iconst (v := 1) S.1 S.2.1 dX12_readsStatement_189 (by decide) ?_
                obtain ⟨r24, σ22, er24, hF⟩ := bd2_some hF
                refine k_m (va_runV (As := [.int 0, .int 1]) (rest := []) S (c_X12_readsNumber   er24) (cwV 2 S.2.2.2.2 (ul_V tw_5_114 tw_5_116 ts_X12_readsNumber tw_1_12 cw_X12_readsNumber) rfl rfl rfl hv_X12_readsNumber ⟨Nat.le_of_ble_eq_true rfl, Nat.le_of_ble_eq_true rfl⟩) ⟨PreM.blind, hM.recv hK cfX12 0 (by decide) lm_0, hM.pre hK⟩ rfl rfl hl.1 rfl (lv_room (Nat.le_of_ble_eq_true rfl)) dX12_readsStatement_190 ⟨Nat.zero_le _, Nat.zero_le _⟩) hM (fun H locs hM => ?_)
                show W _ _ _ _ _ _ _ _ _ _ _ _ _ _ _ (F0 m 193 ls [.int r24])
                refine lv_if_eq (tgt := 209) S.1 S.2.1 dX12_readsStatement_193 (by decide) (fun b25 => ?_) (fun b25 => ?_)
                · have hF := (if_pos b25).symm.trans hF
                  exact w_X12_readsStatement_209 S hK hr hlk hM (lv_sub hl [1] rfl) hF
                · have hF := (if_neg b25).symm.trans hF
                  refine lv_aload_n S.1 S.2.1 dX12_readsStatement_196 rfl (lv_at hl 1 rfl) ?_
                  refine lv_iconst (v := 1) S.1 S.2.1 dX12_readsStatement_197 (by decide) ?_
                  refine lv_iconst (v := 2) S.1 S.2.1 dX12_readsStatement_198 (by decide) ?_
                  obtain ⟨r28, σ26, er28, hF⟩ := bd2_some hF
                  refine k_m (va_runV (As := [.int 1, .int 2]) (rest := []) S (c_X12_readsNumber   er28) (cwV 2 S.2.2.2.2 (ul_V tw_5_114 tw_5_116 ts_X12_readsNumber tw_1_12 cw_X12_readsNumber) rfl rfl rfl hv_X12_readsNumber ⟨Nat.le_of_ble_eq_true rfl, Nat.le_of_ble_eq_true rfl⟩) ⟨PreM.blind, hM.recv hK cfX12 0 (by decide) lm_0, hM.pre hK⟩ rfl rfl hl.1 rfl (lv_room (Nat.le_of_ble_eq_true rfl)) dX12_readsStatement_199 ⟨Nat.zero_le _, Nat.zero_le _⟩) hM (fun H locs hM => ?_)
                  show W _ _ _ _ _ _ _ _ _ _ _ _ _ _ _ (F0 m 202 ls [.int r28])
                  refine lv_if_eq (tgt := 209) S.1 S.2.1 dX12_readsStatement_202 (by decide) (fun b29 => ?_) (fun b29 => ?_)
                  · have hF := (if_pos b29).symm.trans hF
                    exact w_X12_readsStatement_209 S hK hr hlk hM (lv_sub hl [1] rfl) hF
                  · have hF := (if_neg b29).symm.trans hF
                    refine lv_iconst (v := 1) S.1 S.2.1 dX12_readsStatement_205 (by decide) ?_
                    refine lv_goto (tgt := 210) S.1 S.2.1 dX12_readsStatement_206 (by decide) ?_
                    exact w_X12_readsStatement_210 S hK hr hlk hM (lv_sub hl [1] rfl) hF
              · have hF := (if_neg b21).symm.trans hF
                by_cases b30 : r1 = 120
                · have hF := (if_pos b30).symm.trans hF
                  refine r_tab (off := 108) (tgt := 124) S dX12_readsStatement_16 b30 (by decide) (by decide) ?_
                  exact w_X12_readsStatement_124 S hK hr hlk hM (lv_sub hl [1] rfl) hF
                · have hF := (if_neg b30).symm.trans hF
                  by_cases b31 : r1 = 99
                  · refine r_tab (off := 208) (tgt := 224) S dX12_readsStatement_16 b31 (by decide) (by decide) ?_
                    exact w_X12_readsStatement_224 S hK hr hlk hM (lv_sub hl [1] rfl) hF
                  · by_cases b32 : r1 = 101
                    · refine r_tab (off := 208) (tgt := 224) S dX12_readsStatement_16 b32 (by decide) (by decide) ?_
                      exact w_X12_readsStatement_224 S hK hr hlk hM (lv_sub hl [1] rfl) hF
                    · by_cases b33 : r1 = 103
                      · refine r_tab (off := 208) (tgt := 224) S dX12_readsStatement_16 b33 (by decide) (by decide) ?_
                        exact w_X12_readsStatement_224 S hK hr hlk hM (lv_sub hl [1] rfl) hF
                      · by_cases b34 : r1 = 105
                        · refine r_tab (off := 208) (tgt := 224) S dX12_readsStatement_16 b34 (by decide) (by decide) ?_
                          exact w_X12_readsStatement_224 S hK hr hlk hM (lv_sub hl [1] rfl) hF
                        · by_cases b35 : r1 = 106
                          · refine r_tab (off := 208) (tgt := 224) S dX12_readsStatement_16 b35 (by decide) (by decide) ?_
                            exact w_X12_readsStatement_224 S hK hr hlk hM (lv_sub hl [1] rfl) hF
                          · by_cases b36 : r1 = 107
                            · refine r_tab (off := 208) (tgt := 224) S dX12_readsStatement_16 b36 (by decide) (by decide) ?_
                              exact w_X12_readsStatement_224 S hK hr hlk hM (lv_sub hl [1] rfl) hF
                            · by_cases b37 : r1 = 109
                              · refine r_tab (off := 208) (tgt := 224) S dX12_readsStatement_16 b37 (by decide) (by decide) ?_
                                exact w_X12_readsStatement_224 S hK hr hlk hM (lv_sub hl [1] rfl) hF
                              · by_cases b38 : r1 = 110
                                · refine r_tab (off := 208) (tgt := 224) S dX12_readsStatement_16 b38 (by decide) (by decide) ?_
                                  exact w_X12_readsStatement_224 S hK hr hlk hM (lv_sub hl [1] rfl) hF
                                · by_cases b39 : r1 = 111
                                  · refine r_tab (off := 208) (tgt := 224) S dX12_readsStatement_16 b39 (by decide) (by decide) ?_
                                    exact w_X12_readsStatement_224 S hK hr hlk hM (lv_sub hl [1] rfl) hF
                                  · by_cases b40 : r1 = 113
                                    · refine r_tab (off := 208) (tgt := 224) S dX12_readsStatement_16 b40 (by decide) (by decide) ?_
                                      exact w_X12_readsStatement_224 S hK hr hlk hM (lv_sub hl [1] rfl) hF
                                    · by_cases b41 : r1 = 114
                                      · refine r_tab (off := 208) (tgt := 224) S dX12_readsStatement_16 b41 (by decide) (by decide) ?_
                                        exact w_X12_readsStatement_224 S hK hr hlk hM (lv_sub hl [1] rfl) hF
                                      · by_cases b42 : r1 = 115
                                        · refine r_tab (off := 208) (tgt := 224) S dX12_readsStatement_16 b42 (by decide) (by decide) ?_
                                          exact w_X12_readsStatement_224 S hK hr hlk hM (lv_sub hl [1] rfl) hF
                                        · by_cases b43 : r1 = 117
                                          · refine r_tab (off := 208) (tgt := 224) S dX12_readsStatement_16 b43 (by decide) (by decide) ?_
                                            exact w_X12_readsStatement_224 S hK hr hlk hM (lv_sub hl [1] rfl) hF
                                          · by_cases b44 : r1 = 118
                                            · refine r_tab (off := 208) (tgt := 224) S dX12_readsStatement_16 b44 (by decide) (by decide) ?_
                                              exact w_X12_readsStatement_224 S hK hr hlk hM (lv_sub hl [1] rfl) hF
                                            · by_cases b45 : r1 = 119
                                              · refine r_tab (off := 208) (tgt := 224) S dX12_readsStatement_16 b45 (by decide) (by decide) ?_
                                                exact w_X12_readsStatement_224 S hK hr hlk hM (lv_sub hl [1] rfl) hF
                                              · refine r_tabD (tgt := 224) S dX12_readsStatement_16 (by have n0 := ne_toInt b3 (k := 98) (by decide); have n1 := ne_toInt b4 (k := 100) (by decide); have n2 := ne_toInt b5 (k := 102) (by decide); have n3 := ne_toInt b6 (k := 104) (by decide); have n4 := ne_toInt b7 (k := 108) (by decide); have n5 := ne_toInt b8 (k := 112) (by decide); have n6 := ne_toInt b21 (k := 116) (by decide); have n7 := ne_toInt b30 (k := 120) (by decide); have n8 := ne_toInt b31 (k := 99) (by decide); have n9 := ne_toInt b32 (k := 101) (by decide); have n10 := ne_toInt b33 (k := 103) (by decide); have n11 := ne_toInt b34 (k := 105) (by decide); have n12 := ne_toInt b35 (k := 106) (by decide); have n13 := ne_toInt b36 (k := 107) (by decide); have n14 := ne_toInt b37 (k := 109) (by decide); have n15 := ne_toInt b38 (k := 110) (by decide); have n16 := ne_toInt b39 (k := 111) (by decide); have n17 := ne_toInt b40 (k := 113) (by decide); have n18 := ne_toInt b41 (k := 114) (by decide); have n19 := ne_toInt b42 (k := 115) (by decide); have n20 := ne_toInt b43 (k := 117) (by decide); have n21 := ne_toInt b44 (k := 118) (by decide); have n22 := ne_toInt b45 (k := 119) (by decide); omega) (by decide) ?_
                                                exact w_X12_readsStatement_224 S hK hr hlk hM (lv_sub hl [1] rfl) hF
/-! X12_adds -/
def X12_adds (σ : IM) (a1 : Int32) (a2 : Int32) : Option IM := rd (σ 1) 42 0 fun v1 => bd1 (X12_ofS v1 0) fun r2 => wr σ 1 42 r2 a1 fun σ3 => rd (σ3 1) 42 0 fun v4 => bd1 (X12_ofS v4 1) fun r5 => wr σ3 1 42 r5 a2 fun σ6 => rd (σ6 1) 42 0 fun v7 => wr σ6 1 42 0 (v7 + 1) fun σ8 => some (σ8)
set_option maxRecDepth 20000 in
theorem c_X12_adds {l : Launch} {g : GE} {A : Nat → Prop} {σ : IM} {a1 : Int32} {a2 : Int32} {out : IM} (hF : X12_adds σ a1 a2 = some out) : Met l yX12_adds (.code yX12_adds cX12_adds 3 none :: UL) ({ frames := 1, cells := 0, slots := 0, locals := 21 }) (va_Pc [.ref (g.2.2 0), .int a1, .int a2] (PreM lyM 13 g A [] σ nor)) (Qm lyM 13 g A [] out nor none) 0 0 A := by
  refine e_of (by decide) (Nat.le_of_ble_eq_true rfl) ?_
  intro p e s m below meth c ls S hr hlk hv hl
  have hM := Mem.of hv
  have hK := hv.2.1
  have hl : lv_has ls 3 [(0, .ref (g.2.2 0)), (1, .int a1), (2, .int a2)] := hl
  unfold X12_adds at hF
  refine lv_aload_n S.1 S.2.1 dX12_adds_0 rfl (lv_at hl 0 rfl) ?_
  refine r_getC S hK hM cfX12 0 0 1 (by decide) lm_0 rfl (by decide) tw_5_31 dX12_adds_1 ?_
  refine lv_aload_n S.1 S.2.1 dX12_adds_4 rfl (lv_at hl 0 rfl) ?_
  refine r_getC S hK hM cfX12 0 0 1 (by decide) lm_0 rfl (by decide) tw_5_31 dX12_adds_5 ?_
  refine lv_iconst (v := 0) S.1 S.2.1 dX12_adds_8 (by decide) ?_
  obtain ⟨hv1, v1, ev1, hF⟩ := rd_some hF
  refine r_iald S hK hM 1 (by decide) rfl hv1 ev1 dX12_adds_9 ?_
  refine lv_iconst (v := 0) S.1 S.2.1 dX12_adds_10 (by decide) ?_
  obtain ⟨r2, er2, hF⟩ := bd1_some hF
  refine k_p (va_runS (As := [.int v1, .int 0]) (rest := [.ref (g.2.2 1)]) S (c_X12_ofS   er2) (va_cwS 2 S.2.2.2.2 (ul_S tw_5_129 tw_5_130 tw_1_12 cw_X12_ofS) rfl rfl rfl hs_X12_ofS ⟨Nat.le_of_ble_eq_true rfl, Nat.le_of_ble_eq_true rfl⟩) ⟨PreM.blind, hM.pre hK⟩ rfl rfl hl.1 rfl (lv_room (Nat.le_of_ble_eq_true rfl)) dX12_adds_11 ⟨Nat.zero_le _, Nat.zero_le _⟩) ?_
  refine lv_iload_n S.1 S.2.1 dX12_adds_14 rfl (lv_at hl 1 rfl) ?_
  obtain ⟨hσ3, σ3, eσ3, hF⟩ := wr_some hF
  refine r_iast S hK hM 1 (by decide) rfl hσ3 eσ3 dX12_adds_15 (fun H locs hM => ?_)
  refine lv_aload_n S.1 S.2.1 dX12_adds_16 rfl (lv_at hl 0 rfl) ?_
  refine r_getC S hK hM cfX12 0 0 1 (by decide) lm_0 rfl (by decide) tw_5_31 dX12_adds_17 ?_
  refine lv_aload_n S.1 S.2.1 dX12_adds_20 rfl (lv_at hl 0 rfl) ?_
  refine r_getC S hK hM cfX12 0 0 1 (by decide) lm_0 rfl (by decide) tw_5_31 dX12_adds_21 ?_
  refine lv_iconst (v := 0) S.1 S.2.1 dX12_adds_24 (by decide) ?_
  obtain ⟨hv4, v4, ev4, hF⟩ := rd_some hF
  refine r_iald S hK hM 1 (by decide) rfl hv4 ev4 dX12_adds_25 ?_
  refine lv_iconst (v := 1) S.1 S.2.1 dX12_adds_26 (by decide) ?_
  obtain ⟨r5, er5, hF⟩ := bd1_some hF
  refine k_p (va_runS (As := [.int v4, .int 1]) (rest := [.ref (g.2.2 1)]) S (c_X12_ofS   er5) (va_cwS 2 S.2.2.2.2 (ul_S tw_5_129 tw_5_130 tw_1_12 cw_X12_ofS) rfl rfl rfl hs_X12_ofS ⟨Nat.le_of_ble_eq_true rfl, Nat.le_of_ble_eq_true rfl⟩) ⟨PreM.blind, hM.pre hK⟩ rfl rfl hl.1 rfl (lv_room (Nat.le_of_ble_eq_true rfl)) dX12_adds_27 ⟨Nat.zero_le _, Nat.zero_le _⟩) ?_
  refine lv_iload_n S.1 S.2.1 dX12_adds_30 rfl (lv_at hl 2 rfl) ?_
  obtain ⟨hσ6, σ6, eσ6, hF⟩ := wr_some hF
  refine r_iast S hK hM 1 (by decide) rfl hσ6 eσ6 dX12_adds_31 (fun H locs hM => ?_)
  refine lv_aload_n S.1 S.2.1 dX12_adds_32 rfl (lv_at hl 0 rfl) ?_
  refine r_getC S hK hM cfX12 0 0 1 (by decide) lm_0 rfl (by decide) tw_5_31 dX12_adds_33 ?_
  refine lv_iconst (v := 0) S.1 S.2.1 dX12_adds_36 (by decide) ?_
  refine lv_dup2_11 S.1 S.2.1 dX12_adds_37 rfl rfl ?_
  obtain ⟨hv7, v7, ev7, hF⟩ := rd_some hF
  refine r_iald S hK hM 1 (by decide) rfl hv7 ev7 dX12_adds_38 ?_
  refine lv_iconst (v := 1) S.1 S.2.1 dX12_adds_39 (by decide) ?_
  refine lv_iadd S.1 S.2.1 dX12_adds_40 ?_
  obtain ⟨hσ8, σ8, eσ8, hF⟩ := wr_some hF
  refine r_iast S hK hM 1 (by decide) rfl hσ8 eσ8 dX12_adds_41 (fun H locs hM => ?_)
  cases hF
  exact z_mv S hM hr hlk dX12_adds_42
/-! X12_isOver -/
def X12_isOver_b42 (σ : IM) : Option Int32 := some 1
set_option maxRecDepth 20000 in
theorem w_X12_isOver_42 {l : Launch} {g : GE} {A : Nat → Prop} {σ : IM} {p : Program} {e : Env} {s : State} {m : MethodId} {args : Array Value} {below : List Frame} {meth : Method} {c : Code} (S : CallFix p m c cX12_isOver 1 s args UL RX12) (hK : KK g s) (hr : meth.sig.returnType = (some .boolean)) (hlk : meth.locks = false) (hM : Mem lyM 13 g A [] σ nor s.heap s.heap []) {out : Int32} : ∀ {ls : Array Slot}, lv_has ls 1 [] → X12_isOver_b42 σ = some out → W p l e ({ frames := 1, cells := 0, slots := 0, locals := 21 }) s m args below meth c s.heap [] 0 0 (MQ below (Qp (some (.int out))) args s 0 0 NoA) (F0 m 42 ls []) := by
  intro ls hl hF
  unfold X12_isOver_b42 at hF
  refine lv_iconst (v := 1) S.1 S.2.1 dX12_isOver_42 (by decide) ?_
  refine lv_goto (tgt := 47) S.1 S.2.1 dX12_isOver_43 (by decide) ?_
  cases hF
  exact z_p S hr hlk rfl dX12_isOver_47
def X12_isOver (σ : IM) : Option Int32 := rd (σ 1) 42 1 fun v1 => if v1 = 999 then (X12_isOver_b42 σ) else (bd1 (X12_ofSide 0 2) fun r3 => rd (σ 1) 42 r3 fun v4 => if v4 = 99 then (X12_isOver_b42 σ) else (bd1 (X12_ofSide 1 2) fun r6 => rd (σ 1) 42 r6 fun v7 => if v7 = 99 then (X12_isOver_b42 σ) else (some 0)))
set_option maxRecDepth 20000 in
theorem c_X12_isOver {l : Launch} {g : GE} {A : Nat → Prop} {σ : IM} {out : Int32} (hF : X12_isOver σ = some out) : Met l yX12_isOver (.code yX12_isOver cX12_isOver 1 (some .boolean) :: UL) ({ frames := 1, cells := 0, slots := 0, locals := 21 }) (va_Pc [.ref (g.2.2 0)] (PreM lyM 13 g A [] σ nor)) (Qp (some (.int out))) 0 0 NoA := by
  refine e_of (by decide) (Nat.le_of_ble_eq_true rfl) ?_
  intro p e s m below meth c ls S hr hlk hv hl
  have hM := Mem.of hv
  have hK := hv.2.1
  have hl : lv_has ls 1 [(0, .ref (g.2.2 0))] := hl
  unfold X12_isOver at hF
  refine lv_aload_n S.1 S.2.1 dX12_isOver_0 rfl (lv_at hl 0 rfl) ?_
  refine r_getC S hK hM cfX12 0 0 1 (by decide) lm_0 rfl (by decide) tw_5_31 dX12_isOver_1 ?_
  refine lv_iconst (v := 1) S.1 S.2.1 dX12_isOver_4 (by decide) ?_
  obtain ⟨hv1, v1, ev1, hF⟩ := rd_some hF
  refine r_iald S hK hM 1 (by decide) rfl hv1 ev1 dX12_isOver_5 ?_
  refine lv_sipush (v := 999) S.1 S.2.1 dX12_isOver_6 (by decide) ?_
  refine lv_icmp_eq (tgt := 42) S.1 S.2.1 dX12_isOver_9 (by decide) (fun b2 => ?_) (fun b2 => ?_)
  · have hF := (if_pos b2).symm.trans hF
    exact w_X12_isOver_42 S hK hr hlk hM (lv_sub hl [] rfl) hF
  · have hF := (if_neg b2).symm.trans hF
    refine lv_aload_n S.1 S.2.1 dX12_isOver_12 rfl (lv_at hl 0 rfl) ?_
    refine r_getC S hK hM cfX12 0 0 1 (by decide) lm_0 rfl (by decide) tw_5_31 dX12_isOver_13 ?_
    refine lv_iconst (v := 0) S.1 S.2.1 dX12_isOver_16 (by decide) ?_
    refine lv_iconst (v := 2) S.1 S.2.1 dX12_isOver_17 (by decide) ?_
    obtain ⟨r3, er3, hF⟩ := bd1_some hF
    refine k_p (va_runS (As := [.int 0, .int 2]) (rest := [.ref (g.2.2 1)]) S (c_X12_ofSide   er3) (va_cwS 2 S.2.2.2.2 (ul_S tw_5_28 tw_5_29 tw_1_12 cw_X12_ofSide) rfl rfl rfl hs_X12_ofSide ⟨Nat.le_of_ble_eq_true rfl, Nat.le_of_ble_eq_true rfl⟩) ⟨PreM.blind, hM.pre hK⟩ rfl rfl hl.1 rfl (lv_room (Nat.le_of_ble_eq_true rfl)) dX12_isOver_18 ⟨Nat.zero_le _, Nat.zero_le _⟩) ?_
    obtain ⟨hv4, v4, ev4, hF⟩ := rd_some hF
    refine r_iald S hK hM 1 (by decide) rfl hv4 ev4 dX12_isOver_21 ?_
    refine lv_bipush (v := 99) S.1 S.2.1 dX12_isOver_22 (by decide) ?_
    refine lv_icmp_eq (tgt := 42) S.1 S.2.1 dX12_isOver_24 (by decide) (fun b5 => ?_) (fun b5 => ?_)
    · have hF := (if_pos b5).symm.trans hF
      exact w_X12_isOver_42 S hK hr hlk hM (lv_sub hl [] rfl) hF
    · have hF := (if_neg b5).symm.trans hF
      refine lv_aload_n S.1 S.2.1 dX12_isOver_27 rfl (lv_at hl 0 rfl) ?_
      refine r_getC S hK hM cfX12 0 0 1 (by decide) lm_0 rfl (by decide) tw_5_31 dX12_isOver_28 ?_
      refine lv_iconst (v := 1) S.1 S.2.1 dX12_isOver_31 (by decide) ?_
      refine lv_iconst (v := 2) S.1 S.2.1 dX12_isOver_32 (by decide) ?_
      obtain ⟨r6, er6, hF⟩ := bd1_some hF
      refine k_p (va_runS (As := [.int 1, .int 2]) (rest := [.ref (g.2.2 1)]) S (c_X12_ofSide   er6) (va_cwS 2 S.2.2.2.2 (ul_S tw_5_28 tw_5_29 tw_1_12 cw_X12_ofSide) rfl rfl rfl hs_X12_ofSide ⟨Nat.le_of_ble_eq_true rfl, Nat.le_of_ble_eq_true rfl⟩) ⟨PreM.blind, hM.pre hK⟩ rfl rfl hl.1 rfl (lv_room (Nat.le_of_ble_eq_true rfl)) dX12_isOver_33 ⟨Nat.zero_le _, Nat.zero_le _⟩) ?_
      obtain ⟨hv7, v7, ev7, hF⟩ := rd_some hF
      refine r_iald S hK hM 1 (by decide) rfl hv7 ev7 dX12_isOver_36 ?_
      refine lv_bipush (v := 99) S.1 S.2.1 dX12_isOver_37 (by decide) ?_
      refine lv_icmp_ne (tgt := 46) S.1 S.2.1 dX12_isOver_39 (by decide) (fun b8 => ?_) (fun b8 => ?_)
      · have hF := (if_neg b8).symm.trans hF
        refine lv_iconst (v := 0) S.1 S.2.1 dX12_isOver_46 (by decide) ?_
        cases hF
        exact z_p S hr hlk rfl dX12_isOver_47
      · have hF := (if_pos b8).symm.trans hF
        exact w_X12_isOver_42 S hK hr hlk hM (lv_sub hl [] rfl) hF
/-! X12_isDone -/
def X12_isDone_b300 (x2 : Int32) (x3 : Int32) (σ : IM) : Option (Int32 × IM) := bd1 (X12_isStroke σ x2) fun r57 => if r57 = 0 then (some (0, σ)) else (bd1 (X12_isCell x3) fun r59 => if r59 = 0 then (some (0, σ)) else (bd1 (X12_isOver σ) fun r61 => if r61 = 0 then (bd2 (X12_hits σ 1 x2 x3) fun r65 σ63 => some (1, σ63)) else (some (0, σ))))
set_option maxRecDepth 20000 in
theorem w_X12_isDone_300 {l : Launch} {g : GE} {A : Nat → Prop} {p : Program} {e : Env} {s : State} {m : MethodId} {args : Array Value} {below : List Frame} {meth : Method} {c : Code} (S : CallFix p m c cX12_isDone 5 s args UL RX12) (hK : KK g s) (hr : meth.sig.returnType = (some .boolean)) (hlk : meth.locks = false) {out : Int32 × IM} : ∀ {x2 : Int32} {x3 : Int32} {σ : IM} {H : Heap} {locs : List Loc} {ls : Array Slot}, Mem lyM 13 g A [] σ nor s.heap H locs → lv_has ls 5 [(0, .ref (g.2.2 0)), (2, .int x2), (3, .int x3)] → X12_isDone_b300 x2 x3 σ = some out → W p l e ({ frames := 4, cells := 0, slots := 0, locals := 99 }) s m args below meth c H locs 0 0 (MQ below (Qm lyM 13 g A [] out.2 nor (some (.int out.1))) args s 0 0 A) (F0 m 300 ls []) := by
  intro x2 x3 σ H locs ls hM hl hF
  unfold X12_isDone_b300 at hF
  refine lv_aload_n S.1 S.2.1 dX12_isDone_300 rfl (lv_at hl 0 rfl) ?_
  refine lv_iload_n S.1 S.2.1 dX12_isDone_301 rfl (lv_at hl 1 rfl) ?_
  obtain ⟨r57, er57, hF⟩ := bd1_some hF
  refine k_p (va_runV (As := [.int x2]) (rest := []) S (c_X12_isStroke   er57) (cwV 1 S.2.2.2.2 (ul_V tw_5_138 tw_5_140 ts_X12_isStroke tw_1_12 cw_X12_isStroke) rfl rfl rfl hv_X12_isStroke ⟨Nat.le_of_ble_eq_true rfl, Nat.le_of_ble_eq_true rfl⟩) ⟨PreM.blind, hM.recv hK cfX12 0 (by decide) lm_0, hM.pre hK⟩ rfl rfl hl.1 rfl (lv_room (Nat.le_of_ble_eq_true rfl)) dX12_isDone_302 ⟨Nat.zero_le _, Nat.zero_le _⟩) ?_
  refine lv_if_eq (tgt := 322) S.1 S.2.1 dX12_isDone_305 (by decide) (fun b58 => ?_) (fun b58 => ?_)
  · have hF := (if_pos b58).symm.trans hF
    refine lv_iconst (v := 0) S.1 S.2.1 dX12_isDone_322 (by decide) ?_
    cases hF
    exact z_m (v := 0) S hM hr hlk rfl dX12_isDone_323
  · have hF := (if_neg b58).symm.trans hF
    refine lv_iload_n S.1 S.2.1 dX12_isDone_308 rfl (lv_at hl 2 rfl) ?_
    obtain ⟨r59, er59, hF⟩ := bd1_some hF
    refine k_p (va_runS (As := [.int x3]) (rest := []) S (c_X12_isCell   er59) (va_cwS 1 S.2.2.2.2 (ul_S tw_5_135 tw_5_136 tw_1_12 cw_X12_isCell) rfl rfl rfl hs_X12_isCell ⟨Nat.le_of_ble_eq_true rfl, Nat.le_of_ble_eq_true rfl⟩) ⟨PreM.blind, hM.pre hK⟩ rfl rfl hl.1 rfl (lv_room (Nat.le_of_ble_eq_true rfl)) dX12_isDone_309 ⟨Nat.zero_le _, Nat.zero_le _⟩) ?_
    refine lv_if_eq (tgt := 322) S.1 S.2.1 dX12_isDone_312 (by decide) (fun b60 => ?_) (fun b60 => ?_)
    · have hF := (if_pos b60).symm.trans hF
      refine lv_iconst (v := 0) S.1 S.2.1 dX12_isDone_322 (by decide) ?_
      cases hF
      exact z_m (v := 0) S hM hr hlk rfl dX12_isDone_323
    · have hF := (if_neg b60).symm.trans hF
      refine lv_aload_n S.1 S.2.1 dX12_isDone_315 rfl (lv_at hl 0 rfl) ?_
      obtain ⟨r61, er61, hF⟩ := bd1_some hF
      refine k_p (va_runV (As := []) (rest := []) S (c_X12_isOver   er61) (cwV 0 S.2.2.2.2 (ul_V tw_5_142 tw_5_144 ts_X12_isOver tw_1_12 cw_X12_isOver) rfl rfl rfl hv_X12_isOver ⟨Nat.le_of_ble_eq_true rfl, Nat.le_of_ble_eq_true rfl⟩) ⟨PreM.blind, hM.recv hK cfX12 0 (by decide) lm_0, hM.pre hK⟩ rfl rfl hl.1 rfl (lv_room (Nat.le_of_ble_eq_true rfl)) dX12_isDone_316 ⟨Nat.zero_le _, Nat.zero_le _⟩) ?_
      refine lv_if_eq (tgt := 324) S.1 S.2.1 dX12_isDone_319 (by decide) (fun b62 => ?_) (fun b62 => ?_)
      · have hF := (if_pos b62).symm.trans hF
        refine lv_aload_n S.1 S.2.1 dX12_isDone_324 rfl (lv_at hl 0 rfl) ?_
        refine lv_aload_n S.1 S.2.1 dX12_isDone_325 rfl (lv_at hl 0 rfl) ?_
        refine r_getC S hK hM cfX12 0 0 1 (by decide) lm_0 rfl (by decide) tw_5_31 dX12_isDone_326 ?_
        refine lv_iload_n S.1 S.2.1 dX12_isDone_329 rfl (lv_at hl 1 rfl) ?_
        refine lv_iload_n S.1 S.2.1 dX12_isDone_330 rfl (lv_at hl 2 rfl) ?_
        obtain ⟨r65, σ63, er65, hF⟩ := bd2_some hF
        refine k_m (va_runV (As := [.ref (g.2.2 1), .int x2, .int x3]) (rest := []) S (c_X12_hits  ar_1 er65) (cwV 3 S.2.2.2.2 (ul_V tw_5_146 tw_5_148 ts_X12_hits tw_1_12 cw_X12_hits) rfl rfl rfl hv_X12_hits ⟨Nat.le_of_ble_eq_true rfl, Nat.le_of_ble_eq_true rfl⟩) ⟨PreM.blind, hM.recv hK cfX12 0 (by decide) lm_0, hM.pre hK⟩ rfl rfl hl.1 rfl (lv_room (Nat.le_of_ble_eq_true rfl)) dX12_isDone_331 ⟨Nat.zero_le _, Nat.zero_le _⟩) hM (fun H locs hM => ?_)
        show W _ _ _ _ _ _ _ _ _ _ _ _ _ _ _ (F0 m 334 ls [.int r65])
        refine lv_istore (lv' := [(4, .int r65), (0, .ref (g.2.2 0)), (2, .int x2), (3, .int x3)]) S.1 S.2.1 dX12_isDone_334 hl (by decide) rfl (fun ls hl => ?_)
        refine lv_iconst (v := 1) S.1 S.2.1 dX12_isDone_336 (by decide) ?_
        cases hF
        exact z_m (v := 1) S hM hr hlk rfl dX12_isDone_337
      · have hF := (if_neg b62).symm.trans hF
        refine lv_iconst (v := 0) S.1 S.2.1 dX12_isDone_322 (by decide) ?_
        cases hF
        exact z_m (v := 0) S hM hr hlk rfl dX12_isDone_323
def X12_isDone_b275 (x3 : Int32) (t0 : Int32) (t1 : Int32) (σ : IM) : Option (Int32 × IM) := bd1 (X12_ofSide t1 t0) fun r55 => wr σ 1 42 r55 x3 fun σ56 => some (1, σ56)
set_option maxRecDepth 20000 in
theorem w_X12_isDone_275 {l : Launch} {g : GE} {A : Nat → Prop} {p : Program} {e : Env} {s : State} {m : MethodId} {args : Array Value} {below : List Frame} {meth : Method} {c : Code} (S : CallFix p m c cX12_isDone 5 s args UL RX12) (hK : KK g s) (hr : meth.sig.returnType = (some .boolean)) (hlk : meth.locks = false) {out : Int32 × IM} : ∀ {x3 : Int32} {t0 : Int32} {t1 : Int32} {σ : IM} {H : Heap} {locs : List Loc} {ls : Array Slot}, Mem lyM 13 g A [] σ nor s.heap H locs → lv_has ls 5 [(3, .int x3)] → X12_isDone_b275 x3 t0 t1 σ = some out → W p l e ({ frames := 4, cells := 0, slots := 0, locals := 99 }) s m args below meth c H locs 0 0 (MQ below (Qm lyM 13 g A [] out.2 nor (some (.int out.1))) args s 0 0 A) (F0 m 275 ls [.int t0, .int t1, .ref (g.2.2 1)]) := by
  intro x3 t0 t1 σ H locs ls hM hl hF
  unfold X12_isDone_b275 at hF
  obtain ⟨r55, er55, hF⟩ := bd1_some hF
  refine k_p (va_runS (As := [.int t1, .int t0]) (rest := [.ref (g.2.2 1)]) S (c_X12_ofSide   er55) (va_cwS 2 S.2.2.2.2 (ul_S tw_5_28 tw_5_29 tw_1_12 cw_X12_ofSide) rfl rfl rfl hs_X12_ofSide ⟨Nat.le_of_ble_eq_true rfl, Nat.le_of_ble_eq_true rfl⟩) ⟨PreM.blind, hM.pre hK⟩ rfl rfl hl.1 rfl (lv_room (Nat.le_of_ble_eq_true rfl)) dX12_isDone_275 ⟨Nat.zero_le _, Nat.zero_le _⟩) ?_
  refine lv_iload_n S.1 S.2.1 dX12_isDone_278 rfl (lv_at hl 0 rfl) ?_
  obtain ⟨hσ56, σ56, eσ56, hF⟩ := wr_some hF
  refine r_iast S hK hM 1 (by decide) rfl hσ56 eσ56 dX12_isDone_279 (fun H locs hM => ?_)
  refine lv_iconst (v := 1) S.1 S.2.1 dX12_isDone_280 (by decide) ?_
  cases hF
  exact z_m (v := 1) S hM hr hlk rfl dX12_isDone_281
def X12_isDone_b254 (x1 : Int32) (x2 : Int32) (x3 : Int32) (t0 : Int32) (t1 : Int32) (σ : IM) : Option (Int32 × IM) := if t1 ≤ t0 then (if x1 = 102 then (X12_isDone_b275 x3 0 x2 σ) else (X12_isDone_b275 x3 1 x2 σ)) else (some (0, σ))
set_option maxRecDepth 20000 in
theorem w_X12_isDone_254 {l : Launch} {g : GE} {A : Nat → Prop} {p : Program} {e : Env} {s : State} {m : MethodId} {args : Array Value} {below : List Frame} {meth : Method} {c : Code} (S : CallFix p m c cX12_isDone 5 s args UL RX12) (hK : KK g s) (hr : meth.sig.returnType = (some .boolean)) (hlk : meth.locks = false) {out : Int32 × IM} : ∀ {x1 : Int32} {x2 : Int32} {x3 : Int32} {t0 : Int32} {t1 : Int32} {σ : IM} {H : Heap} {locs : List Loc} {ls : Array Slot}, Mem lyM 13 g A [] σ nor s.heap H locs → lv_has ls 5 [(0, .ref (g.2.2 0)), (1, .int x1), (2, .int x2), (3, .int x3)] → X12_isDone_b254 x1 x2 x3 t0 t1 σ = some out → W p l e ({ frames := 4, cells := 0, slots := 0, locals := 99 }) s m args below meth c H locs 0 0 (MQ below (Qm lyM 13 g A [] out.2 nor (some (.int out.1))) args s 0 0 A) (F0 m 254 ls [.int t0, .int t1]) := by
  intro x1 x2 x3 t0 t1 σ H locs ls hM hl hF
  unfold X12_isDone_b254 at hF
  refine lv_icmp_le (tgt := 259) S.1 S.2.1 dX12_isDone_254 (by decide) (fun b53 => ?_) (fun b53 => ?_)
  · have hF := (if_pos b53).symm.trans hF
    refine lv_aload_n S.1 S.2.1 dX12_isDone_259 rfl (lv_at hl 0 rfl) ?_
    refine r_getC S hK hM cfX12 0 0 1 (by decide) lm_0 rfl (by decide) tw_5_31 dX12_isDone_260 ?_
    refine lv_iload_n S.1 S.2.1 dX12_isDone_263 rfl (lv_at hl 2 rfl) ?_
    refine lv_iload_n S.1 S.2.1 dX12_isDone_264 rfl (lv_at hl 1 rfl) ?_
    refine lv_bipush (v := 102) S.1 S.2.1 dX12_isDone_265 (by decide) ?_
    refine lv_icmp_ne (tgt := 274) S.1 S.2.1 dX12_isDone_267 (by decide) (fun b54 => ?_) (fun b54 => ?_)
    · have hF := (if_neg b54).symm.trans hF
      refine lv_iconst (v := 1) S.1 S.2.1 dX12_isDone_274 (by decide) ?_
      exact w_X12_isDone_275 S hK hr hlk hM (lv_sub hl [3] rfl) hF
    · have hF := (if_pos b54).symm.trans hF
      refine lv_iconst (v := 0) S.1 S.2.1 dX12_isDone_270 (by decide) ?_
      refine lv_goto (tgt := 275) S.1 S.2.1 dX12_isDone_271 (by decide) ?_
      exact w_X12_isDone_275 S hK hr hlk hM (lv_sub hl [3] rfl) hF
  · have hF := (if_neg b53).symm.trans hF
    refine lv_iconst (v := 0) S.1 S.2.1 dX12_isDone_257 (by decide) ?_
    cases hF
    exact z_m (v := 0) S hM hr hlk rfl dX12_isDone_258
def X12_isDone_b237 (x1 : Int32) (x2 : Int32) (x3 : Int32) (σ : IM) : Option (Int32 × IM) := if 1 < x2 then (some (0, σ)) else (if x1 = 102 then (X12_isDone_b254 x1 x2 x3 1 x3 σ) else (X12_isDone_b254 x1 x2 x3 3 x3 σ))
set_option maxRecDepth 20000 in
theorem w_X12_isDone_237 {l : Launch} {g : GE} {A : Nat → Prop} {p : Program} {e : Env} {s : State} {m : MethodId} {args : Array Value} {below : List Frame} {meth : Method} {c : Code} (S : CallFix p m c cX12_isDone 5 s args UL RX12) (hK : KK g s) (hr : meth.sig.returnType = (some .boolean)) (hlk : meth.locks = false) {out : Int32 × IM} : ∀ {x1 : Int32} {x2 : Int32} {x3 : Int32} {σ : IM} {H : Heap} {locs : List Loc} {ls : Array Slot}, Mem lyM 13 g A [] σ nor s.heap H locs → lv_has ls 5 [(0, .ref (g.2.2 0)), (1, .int x1), (2, .int x2), (3, .int x3)] → X12_isDone_b237 x1 x2 x3 σ = some out → W p l e ({ frames := 4, cells := 0, slots := 0, locals := 99 }) s m args below meth c H locs 0 0 (MQ below (Qm lyM 13 g A [] out.2 nor (some (.int out.1))) args s 0 0 A) (F0 m 237 ls []) := by
  intro x1 x2 x3 σ H locs ls hM hl hF
  unfold X12_isDone_b237 at hF
  refine lv_iload_n S.1 S.2.1 dX12_isDone_237 rfl (lv_at hl 2 rfl) ?_
  refine lv_iconst (v := 1) S.1 S.2.1 dX12_isDone_238 (by decide) ?_
  refine lv_icmp_gt (tgt := 257) S.1 S.2.1 dX12_isDone_239 (by decide) (fun b51 => ?_) (fun b51 => ?_)
  · have hF := (if_pos b51).symm.trans hF
    refine lv_iconst (v := 0) S.1 S.2.1 dX12_isDone_257 (by decide) ?_
    cases hF
    exact z_m (v := 0) S hM hr hlk rfl dX12_isDone_258
  · have hF := (if_neg b51).symm.trans hF
    refine lv_iload_n S.1 S.2.1 dX12_isDone_242 rfl (lv_at hl 3 rfl) ?_
    refine lv_iload_n S.1 S.2.1 dX12_isDone_243 rfl (lv_at hl 1 rfl) ?_
    refine lv_bipush (v := 102) S.1 S.2.1 dX12_isDone_244 (by decide) ?_
    refine lv_icmp_ne (tgt := 253) S.1 S.2.1 dX12_isDone_246 (by decide) (fun b52 => ?_) (fun b52 => ?_)
    · have hF := (if_neg b52).symm.trans hF
      refine lv_iconst (v := 3) S.1 S.2.1 dX12_isDone_253 (by decide) ?_
      exact w_X12_isDone_254 S hK hr hlk hM (lv_sub hl [0, 1, 2, 3] rfl) hF
    · have hF := (if_pos b52).symm.trans hF
      refine lv_iconst (v := 1) S.1 S.2.1 dX12_isDone_249 (by decide) ?_
      refine lv_goto (tgt := 254) S.1 S.2.1 dX12_isDone_250 (by decide) ?_
      exact w_X12_isDone_254 S hK hr hlk hM (lv_sub hl [0, 1, 2, 3] rfl) hF
def X12_isDone (σ : IM) (a1 : Int32) : Option (Int32 × IM) := rd (σ 6) 3 0 fun v1 => rd (σ 6) 3 1 fun v2 => if a1 = 98 then (if 8 ≤ v1 then (some (0, σ)) else (rd (σ 1) 42 0 fun v5 => if v5 = 8 then (some (0, σ)) else (bd1 (X12_adds σ v1 v2) fun σ7 => some (1, σ7)))) else (if a1 = 100 then (if v1 ≤ 2 then (wr σ 1 42 3 (v1 - 1) fun σ12 => some (1, σ12)) else (some (0, σ))) else (if a1 = 102 then (X12_isDone_b237 a1 v1 v2 σ) else (if a1 = 104 then (X12_isDone_b237 a1 v1 v2 σ) else (if a1 = 108 then (bd1 (X12_isPlayer v1) fun r16 => if r16 = 0 then (some (0, σ)) else (bd1 (X12_ofP v1 3) fun r18 => rd (σ 1) 42 r18 fun v19 => wr σ 1 42 r18 (v19 ^^^ 1) fun σ20 => some (1, σ20))) else (if a1 = 112 then (bd1 (X12_isPlayer v1) fun r22 => if r22 = 0 then (some (0, σ)) else (bd1 (X12_isCell v2) fun r24 => if r24 = 0 then (some (0, σ)) else (rd (σ 6) 3 2 fun v26 => bd1 (X12_isIn v26 1 4) fun r27 => if r27 = 0 then (some (0, σ)) else (bd1 (X12_ofP v1 0) fun r29 => wr σ 1 42 r29 v2 fun σ30 => bd1 (X12_ofP v1 1) fun r31 => rd (σ30 6) 3 2 fun v32 => wr σ30 1 42 r31 v32 fun σ33 => some (1, σ33))))) else (if a1 = 116 then (bd1 (X12_isPlayer v1) fun r35 => if r35 = 0 then (some (0, σ)) else (bd1 (X12_ofP v1 2) fun r37 => wr σ 1 42 r37 v2 fun σ38 => some (1, σ38))) else (X12_isDone_b300 v1 v2 σ)))))))
set_option maxRecDepth 20000 in
theorem c_X12_isDone {l : Launch} {g : GE} {A : Nat → Prop} {σ : IM} {a1 : Int32} {out : Int32 × IM} (hF : X12_isDone σ a1 = some out) : Met l yX12_isDone (.code yX12_isDone cX12_isDone 5 (some .boolean) :: UL) ({ frames := 4, cells := 0, slots := 0, locals := 99 }) (va_Pc [.ref (g.2.2 0), .int a1] (PreM lyM 13 g A [] σ nor)) (Qm lyM 13 g A [] out.2 nor (some (.int out.1))) 0 0 A := by
  refine e_of (by decide) (Nat.le_of_ble_eq_true rfl) ?_
  intro p e s m below meth c ls S hr hlk hv hl
  have hM := Mem.of hv
  have hK := hv.2.1
  have hl : lv_has ls 5 [(0, .ref (g.2.2 0)), (1, .int a1)] := hl
  unfold X12_isDone at hF
  refine lv_aload_n S.1 S.2.1 dX12_isDone_0 rfl (lv_at hl 0 rfl) ?_
  refine r_getC S hK hM cfX12 0 9 6 (by decide) lm_0 rfl (by decide) tw_5_40 dX12_isDone_1 ?_
  refine lv_iconst (v := 0) S.1 S.2.1 dX12_isDone_4 (by decide) ?_
  obtain ⟨hv1, v1, ev1, hF⟩ := rd_some hF
  refine r_iald S hK hM 6 (by decide) rfl hv1 ev1 dX12_isDone_5 ?_
  refine lv_istore_n (lv' := [(2, .int v1), (0, .ref (g.2.2 0)), (1, .int a1)]) S.1 S.2.1 dX12_isDone_6 rfl hl (by decide) rfl (fun ls hl => ?_)
  refine lv_aload_n S.1 S.2.1 dX12_isDone_7 rfl (lv_at hl 1 rfl) ?_
  refine r_getC S hK hM cfX12 0 9 6 (by decide) lm_0 rfl (by decide) tw_5_40 dX12_isDone_8 ?_
  refine lv_iconst (v := 1) S.1 S.2.1 dX12_isDone_11 (by decide) ?_
  obtain ⟨hv2, v2, ev2, hF⟩ := rd_some hF
  refine r_iald S hK hM 6 (by decide) rfl hv2 ev2 dX12_isDone_12 ?_
  refine lv_istore_n (lv' := [(3, .int v2), (2, .int v1), (0, .ref (g.2.2 0)), (1, .int a1)]) S.1 S.2.1 dX12_isDone_13 rfl hl (by decide) rfl (fun ls hl => ?_)
  refine lv_iload_n S.1 S.2.1 dX12_isDone_14 rfl (lv_at hl 3 rfl) ?_
  by_cases b3 : a1 = 98
  · have hF := (if_pos b3).symm.trans hF
    refine r_tab (off := 89) (tgt := 104) S dX12_isDone_15 b3 (by decide) (by decide) ?_
    refine lv_iload_n S.1 S.2.1 dX12_isDone_104 rfl (lv_at hl 1 rfl) ?_
    refine lv_bipush (v := 8) S.1 S.2.1 dX12_isDone_105 (by decide) ?_
    refine lv_icmp_ge (tgt := 121) S.1 S.2.1 dX12_isDone_107 (by decide) (fun b4 => ?_) (fun b4 => ?_)
    · have hF := (if_pos b4).symm.trans hF
      refine lv_iconst (v := 0) S.1 S.2.1 dX12_isDone_121 (by decide) ?_
      cases hF
      exact z_m (v := 0) S hM hr hlk rfl dX12_isDone_122
    · have hF := (if_neg b4).symm.trans hF
      refine lv_aload_n S.1 S.2.1 dX12_isDone_110 rfl (lv_at hl 2 rfl) ?_
      refine r_getC S hK hM cfX12 0 0 1 (by decide) lm_0 rfl (by decide) tw_5_31 dX12_isDone_111 ?_
      refine lv_iconst (v := 0) S.1 S.2.1 dX12_isDone_114 (by decide) ?_
      obtain ⟨hv5, v5, ev5, hF⟩ := rd_some hF
      refine r_iald S hK hM 1 (by decide) rfl hv5 ev5 dX12_isDone_115 ?_
      refine lv_bipush (v := 8) S.1 S.2.1 dX12_isDone_116 (by decide) ?_
      refine lv_icmp_ne (tgt := 123) S.1 S.2.1 dX12_isDone_118 (by decide) (fun b6 => ?_) (fun b6 => ?_)
      · have hF := (if_neg b6).symm.trans hF
        refine lv_aload_n S.1 S.2.1 dX12_isDone_123 rfl (lv_at hl 2 rfl) ?_
        refine lv_iload_n S.1 S.2.1 dX12_isDone_124 rfl (lv_at hl 1 rfl) ?_
        refine lv_iload_n S.1 S.2.1 dX12_isDone_125 rfl (lv_at hl 0 rfl) ?_
        obtain ⟨σ7, er9, hF⟩ := bd1_some hF
        refine k_m (va_runV (As := [.int v1, .int v2]) (rest := []) S (c_X12_adds   er9) (cwV 2 S.2.2.2.2 (ul_V tw_5_125 tw_5_127 ts_X12_adds tw_1_12 cw_X12_adds) rfl rfl rfl hv_X12_adds ⟨Nat.le_of_ble_eq_true rfl, Nat.le_of_ble_eq_true rfl⟩) ⟨PreM.blind, hM.recv hK cfX12 0 (by decide) lm_0, hM.pre hK⟩ rfl rfl hl.1 rfl (lv_room (Nat.le_of_ble_eq_true rfl)) dX12_isDone_126 ⟨Nat.zero_le _, Nat.zero_le _⟩) hM (fun H locs hM => ?_)
        show W _ _ _ _ _ _ _ _ _ _ _ _ _ _ _ (F0 m 129 ls [])
        refine lv_iconst (v := 1) S.1 S.2.1 dX12_isDone_129 (by decide) ?_
        cases hF
        exact z_m (v := 1) S hM hr hlk rfl dX12_isDone_130
      · have hF := (if_pos b6).symm.trans hF
        refine lv_iconst (v := 0) S.1 S.2.1 dX12_isDone_121 (by decide) ?_
        cases hF
        exact z_m (v := 0) S hM hr hlk rfl dX12_isDone_122
  · have hF := (if_neg b3).symm.trans hF
    by_cases b10 : a1 = 100
    · have hF := (if_pos b10).symm.trans hF
      refine r_tab (off := 267) (tgt := 282) S dX12_isDone_15 b10 (by decide) (by decide) ?_
      refine lv_iload_n S.1 S.2.1 dX12_isDone_282 rfl (lv_at hl 1 rfl) ?_
      refine lv_iconst (v := 2) S.1 S.2.1 dX12_isDone_283 (by decide) ?_
      refine lv_icmp_le (tgt := 289) S.1 S.2.1 dX12_isDone_284 (by decide) (fun b11 => ?_) (fun b11 => ?_)
      · have hF := (if_pos b11).symm.trans hF
        refine lv_aload_n S.1 S.2.1 dX12_isDone_289 rfl (lv_at hl 2 rfl) ?_
        refine r_getC S hK hM cfX12 0 0 1 (by decide) lm_0 rfl (by decide) tw_5_31 dX12_isDone_290 ?_
        refine lv_iconst (v := 3) S.1 S.2.1 dX12_isDone_293 (by decide) ?_
        refine lv_iload_n S.1 S.2.1 dX12_isDone_294 rfl (lv_at hl 1 rfl) ?_
        refine lv_iconst (v := 1) S.1 S.2.1 dX12_isDone_295 (by decide) ?_
        refine lv_isub S.1 S.2.1 dX12_isDone_296 ?_
        obtain ⟨hσ12, σ12, eσ12, hF⟩ := wr_some hF
        refine r_iast S hK hM 1 (by decide) rfl hσ12 eσ12 dX12_isDone_297 (fun H locs hM => ?_)
        refine lv_iconst (v := 1) S.1 S.2.1 dX12_isDone_298 (by decide) ?_
        cases hF
        exact z_m (v := 1) S hM hr hlk rfl dX12_isDone_299
      · have hF := (if_neg b11).symm.trans hF
        refine lv_iconst (v := 0) S.1 S.2.1 dX12_isDone_287 (by decide) ?_
        cases hF
        exact z_m (v := 0) S hM hr hlk rfl dX12_isDone_288
    · have hF := (if_neg b10).symm.trans hF
      by_cases b13 : a1 = 102
      · have hF := (if_pos b13).symm.trans hF
        refine r_tab (off := 222) (tgt := 237) S dX12_isDone_15 b13 (by decide) (by decide) ?_
        exact w_X12_isDone_237 S hK hr hlk hM (lv_sub hl [2, 3, 1, 0] rfl) hF
      · have hF := (if_neg b13).symm.trans hF
        by_cases b14 : a1 = 104
        · have hF := (if_pos b14).symm.trans hF
          refine r_tab (off := 222) (tgt := 237) S dX12_isDone_15 b14 (by decide) (by decide) ?_
          exact w_X12_isDone_237 S hK hr hlk hM (lv_sub hl [2, 3, 1, 0] rfl) hF
        · have hF := (if_neg b14).symm.trans hF
          by_cases b15 : a1 = 108
          · have hF := (if_pos b15).symm.trans hF
            refine r_tab (off := 197) (tgt := 212) S dX12_isDone_15 b15 (by decide) (by decide) ?_
            refine lv_iload_n S.1 S.2.1 dX12_isDone_212 rfl (lv_at hl 1 rfl) ?_
            obtain ⟨r16, er16, hF⟩ := bd1_some hF
            refine k_p (va_runS (As := [.int v1]) (rest := []) S (c_X12_isPlayer   er16) (va_cwS 1 S.2.2.2.2 (ul_S tw_5_132 tw_5_133 tw_1_12 cw_X12_isPlayer) rfl rfl rfl hs_X12_isPlayer ⟨Nat.le_of_ble_eq_true rfl, Nat.le_of_ble_eq_true rfl⟩) ⟨PreM.blind, hM.pre hK⟩ rfl rfl hl.1 rfl (lv_room (Nat.le_of_ble_eq_true rfl)) dX12_isDone_213 ⟨Nat.zero_le _, Nat.zero_le _⟩) ?_
            refine lv_if_ne (tgt := 221) S.1 S.2.1 dX12_isDone_216 (by decide) (fun b17 => ?_) (fun b17 => ?_)
            · have hF := (if_neg b17).symm.trans hF
              refine lv_aload_n S.1 S.2.1 dX12_isDone_221 rfl (lv_at hl 2 rfl) ?_
              refine r_getC S hK hM cfX12 0 0 1 (by decide) lm_0 rfl (by decide) tw_5_31 dX12_isDone_222 ?_
              refine lv_iload_n S.1 S.2.1 dX12_isDone_225 rfl (lv_at hl 1 rfl) ?_
              refine lv_iconst (v := 3) S.1 S.2.1 dX12_isDone_226 (by decide) ?_
              obtain ⟨r18, er18, hF⟩ := bd1_some hF
              refine k_p (va_runS (As := [.int v1, .int 3]) (rest := [.ref (g.2.2 1)]) S (c_X12_ofP   er18) (va_cwS 2 S.2.2.2.2 (ul_S tw_5_25 tw_5_26 tw_1_12 cw_X12_ofP) rfl rfl rfl hs_X12_ofP ⟨Nat.le_of_ble_eq_true rfl, Nat.le_of_ble_eq_true rfl⟩) ⟨PreM.blind, hM.pre hK⟩ rfl rfl hl.1 rfl (lv_room (Nat.le_of_ble_eq_true rfl)) dX12_isDone_227 ⟨Nat.zero_le _, Nat.zero_le _⟩) ?_
              refine lv_dup2_11 S.1 S.2.1 dX12_isDone_230 rfl rfl ?_
              obtain ⟨hv19, v19, ev19, hF⟩ := rd_some hF
              refine r_iald S hK hM 1 (by decide) rfl hv19 ev19 dX12_isDone_231 ?_
              refine lv_iconst (v := 1) S.1 S.2.1 dX12_isDone_232 (by decide) ?_
              refine lv_ixor S.1 S.2.1 dX12_isDone_233 ?_
              obtain ⟨hσ20, σ20, eσ20, hF⟩ := wr_some hF
              refine r_iast S hK hM 1 (by decide) rfl hσ20 eσ20 dX12_isDone_234 (fun H locs hM => ?_)
              refine lv_iconst (v := 1) S.1 S.2.1 dX12_isDone_235 (by decide) ?_
              cases hF
              exact z_m (v := 1) S hM hr hlk rfl dX12_isDone_236
            · have hF := (if_pos b17).symm.trans hF
              refine lv_iconst (v := 0) S.1 S.2.1 dX12_isDone_219 (by decide) ?_
              cases hF
              exact z_m (v := 0) S hM hr hlk rfl dX12_isDone_220
          · have hF := (if_neg b15).symm.trans hF
            by_cases b21 : a1 = 112
            · have hF := (if_pos b21).symm.trans hF
              refine r_tab (off := 116) (tgt := 131) S dX12_isDone_15 b21 (by decide) (by decide) ?_
              refine lv_iload_n S.1 S.2.1 dX12_isDone_131 rfl (lv_at hl 1 rfl) ?_
              obtain ⟨r22, er22, hF⟩ := bd1_some hF
              refine k_p (va_runS (As := [.int v1]) (rest := []) S (c_X12_isPlayer   er22) (va_cwS 1 S.2.2.2.2 (ul_S tw_5_132 tw_5_133 tw_1_12 cw_X12_isPlayer) rfl rfl rfl hs_X12_isPlayer ⟨Nat.le_of_ble_eq_true rfl, Nat.le_of_ble_eq_true rfl⟩) ⟨PreM.blind, hM.pre hK⟩ rfl rfl hl.1 rfl (lv_room (Nat.le_of_ble_eq_true rfl)) dX12_isDone_132 ⟨Nat.zero_le _, Nat.zero_le _⟩) ?_
              refine lv_if_eq (tgt := 159) S.1 S.2.1 dX12_isDone_135 (by decide) (fun b23 => ?_) (fun b23 => ?_)
              · have hF := (if_pos b23).symm.trans hF
                refine lv_iconst (v := 0) S.1 S.2.1 dX12_isDone_159 (by decide) ?_
                cases hF
                exact z_m (v := 0) S hM hr hlk rfl dX12_isDone_160
              · have hF := (if_neg b23).symm.trans hF
                refine lv_iload_n S.1 S.2.1 dX12_isDone_138 rfl (lv_at hl 0 rfl) ?_
                obtain ⟨r24, er24, hF⟩ := bd1_some hF
                refine k_p (va_runS (As := [.int v2]) (rest := []) S (c_X12_isCell   er24) (va_cwS 1 S.2.2.2.2 (ul_S tw_5_135 tw_5_136 tw_1_12 cw_X12_isCell) rfl rfl rfl hs_X12_isCell ⟨Nat.le_of_ble_eq_true rfl, Nat.le_of_ble_eq_true rfl⟩) ⟨PreM.blind, hM.pre hK⟩ rfl rfl hl.1 rfl (lv_room (Nat.le_of_ble_eq_true rfl)) dX12_isDone_139 ⟨Nat.zero_le _, Nat.zero_le _⟩) ?_
                refine lv_if_eq (tgt := 159) S.1 S.2.1 dX12_isDone_142 (by decide) (fun b25 => ?_) (fun b25 => ?_)
                · have hF := (if_pos b25).symm.trans hF
                  refine lv_iconst (v := 0) S.1 S.2.1 dX12_isDone_159 (by decide) ?_
                  cases hF
                  exact z_m (v := 0) S hM hr hlk rfl dX12_isDone_160
                · have hF := (if_neg b25).symm.trans hF
                  refine lv_aload_n S.1 S.2.1 dX12_isDone_145 rfl (lv_at hl 2 rfl) ?_
                  refine r_getC S hK hM cfX12 0 9 6 (by decide) lm_0 rfl (by decide) tw_5_40 dX12_isDone_146 ?_
                  refine lv_iconst (v := 2) S.1 S.2.1 dX12_isDone_149 (by decide) ?_
                  obtain ⟨hv26, v26, ev26, hF⟩ := rd_some hF
                  refine r_iald S hK hM 6 (by decide) rfl hv26 ev26 dX12_isDone_150 ?_
                  refine lv_iconst (v := 1) S.1 S.2.1 dX12_isDone_151 (by decide) ?_
                  refine lv_iconst (v := 4) S.1 S.2.1 dX12_isDone_152 (by decide) ?_
                  obtain ⟨r27, er27, hF⟩ := bd1_some hF
                  refine k_p (va_runS (As := [.int v26, .int 1, .int 4]) (rest := []) S (c_X12_isIn   er27) (va_cwS 3 S.2.2.2.2 (ul_S tw_5_103 tw_5_104 tw_1_12 cw_X12_isIn) rfl rfl rfl hs_X12_isIn ⟨Nat.le_of_ble_eq_true rfl, Nat.le_of_ble_eq_true rfl⟩) ⟨PreM.blind, hM.pre hK⟩ rfl rfl hl.1 rfl (lv_room (Nat.le_of_ble_eq_true rfl)) dX12_isDone_153 ⟨Nat.zero_le _, Nat.zero_le _⟩) ?_
                  refine lv_if_ne (tgt := 161) S.1 S.2.1 dX12_isDone_156 (by decide) (fun b28 => ?_) (fun b28 => ?_)
                  · have hF := (if_neg b28).symm.trans hF
                    refine lv_aload_n S.1 S.2.1 dX12_isDone_161 rfl (lv_at hl 2 rfl) ?_
                    refine r_getC S hK hM cfX12 0 0 1 (by decide) lm_0 rfl (by decide) tw_5_31 dX12_isDone_162 ?_
                    refine lv_iload_n S.1 S.2.1 dX12_isDone_165 rfl (lv_at hl 1 rfl) ?_
                    refine lv_iconst (v := 0) S.1 S.2.1 dX12_isDone_166 (by decide) ?_
                    obtain ⟨r29, er29, hF⟩ := bd1_some hF
                    refine k_p (va_runS (As := [.int v1, .int 0]) (rest := [.ref (g.2.2 1)]) S (c_X12_ofP   er29) (va_cwS 2 S.2.2.2.2 (ul_S tw_5_25 tw_5_26 tw_1_12 cw_X12_ofP) rfl rfl rfl hs_X12_ofP ⟨Nat.le_of_ble_eq_true rfl, Nat.le_of_ble_eq_true rfl⟩) ⟨PreM.blind, hM.pre hK⟩ rfl rfl hl.1 rfl (lv_room (Nat.le_of_ble_eq_true rfl)) dX12_isDone_167 ⟨Nat.zero_le _, Nat.zero_le _⟩) ?_
                    refine lv_iload_n S.1 S.2.1 dX12_isDone_170 rfl (lv_at hl 0 rfl) ?_
                    obtain ⟨hσ30, σ30, eσ30, hF⟩ := wr_some hF
                    refine r_iast S hK hM 1 (by decide) rfl hσ30 eσ30 dX12_isDone_171 (fun H locs hM => ?_)
                    refine lv_aload_n S.1 S.2.1 dX12_isDone_172 rfl (lv_at hl 2 rfl) ?_
                    refine r_getC S hK hM cfX12 0 0 1 (by decide) lm_0 rfl (by decide) tw_5_31 dX12_isDone_173 ?_
                    refine lv_iload_n S.1 S.2.1 dX12_isDone_176 rfl (lv_at hl 1 rfl) ?_
                    refine lv_iconst (v := 1) S.1 S.2.1 dX12_isDone_177 (by decide) ?_
                    obtain ⟨r31, er31, hF⟩ := bd1_some hF
                    refine k_p (va_runS (As := [.int v1, .int 1]) (rest := [.ref (g.2.2 1)]) S (c_X12_ofP   er31) (va_cwS 2 S.2.2.2.2 (ul_S tw_5_25 tw_5_26 tw_1_12 cw_X12_ofP) rfl rfl rfl hs_X12_ofP ⟨Nat.le_of_ble_eq_true rfl, Nat.le_of_ble_eq_true rfl⟩) ⟨PreM.blind, hM.pre hK⟩ rfl rfl hl.1 rfl (lv_room (Nat.le_of_ble_eq_true rfl)) dX12_isDone_178 ⟨Nat.zero_le _, Nat.zero_le _⟩) ?_
                    refine lv_aload_n S.1 S.2.1 dX12_isDone_181 rfl (lv_at hl 2 rfl) ?_
                    refine r_getC S hK hM cfX12 0 9 6 (by decide) lm_0 rfl (by decide) tw_5_40 dX12_isDone_182 ?_
                    refine lv_iconst (v := 2) S.1 S.2.1 dX12_isDone_185 (by decide) ?_
                    obtain ⟨hv32, v32, ev32, hF⟩ := rd_some hF
                    refine r_iald S hK hM 6 (by decide) rfl hv32 ev32 dX12_isDone_186 ?_
                    obtain ⟨hσ33, σ33, eσ33, hF⟩ := wr_some hF
                    refine r_iast S hK hM 1 (by decide) rfl hσ33 eσ33 dX12_isDone_187 (fun H locs hM => ?_)
                    refine lv_iconst (v := 1) S.1 S.2.1 dX12_isDone_188 (by decide) ?_
                    cases hF
                    exact z_m (v := 1) S hM hr hlk rfl dX12_isDone_189
                  · have hF := (if_pos b28).symm.trans hF
                    refine lv_iconst (v := 0) S.1 S.2.1 dX12_isDone_159 (by decide) ?_
                    cases hF
                    exact z_m (v := 0) S hM hr hlk rfl dX12_isDone_160
            · have hF := (if_neg b21).symm.trans hF
              by_cases b34 : a1 = 116
              · have hF := (if_pos b34).symm.trans hF
                refine r_tab (off := 175) (tgt := 190) S dX12_isDone_15 b34 (by decide) (by decide) ?_
                refine lv_iload_n S.1 S.2.1 dX12_isDone_190 rfl (lv_at hl 1 rfl) ?_
                obtain ⟨r35, er35, hF⟩ := bd1_some hF
                refine k_p (va_runS (As := [.int v1]) (rest := []) S (c_X12_isPlayer   er35) (va_cwS 1 S.2.2.2.2 (ul_S tw_5_132 tw_5_133 tw_1_12 cw_X12_isPlayer) rfl rfl rfl hs_X12_isPlayer ⟨Nat.le_of_ble_eq_true rfl, Nat.le_of_ble_eq_true rfl⟩) ⟨PreM.blind, hM.pre hK⟩ rfl rfl hl.1 rfl (lv_room (Nat.le_of_ble_eq_true rfl)) dX12_isDone_191 ⟨Nat.zero_le _, Nat.zero_le _⟩) ?_
                refine lv_if_ne (tgt := 199) S.1 S.2.1 dX12_isDone_194 (by decide) (fun b36 => ?_) (fun b36 => ?_)
                · have hF := (if_neg b36).symm.trans hF
                  refine lv_aload_n S.1 S.2.1 dX12_isDone_199 rfl (lv_at hl 2 rfl) ?_
                  refine r_getC S hK hM cfX12 0 0 1 (by decide) lm_0 rfl (by decide) tw_5_31 dX12_isDone_200 ?_
                  refine lv_iload_n S.1 S.2.1 dX12_isDone_203 rfl (lv_at hl 1 rfl) ?_
                  refine lv_iconst (v := 2) S.1 S.2.1 dX12_isDone_204 (by decide) ?_
                  obtain ⟨r37, er37, hF⟩ := bd1_some hF
                  refine k_p (va_runS (As := [.int v1, .int 2]) (rest := [.ref (g.2.2 1)]) S (c_X12_ofP   er37) (va_cwS 2 S.2.2.2.2 (ul_S tw_5_25 tw_5_26 tw_1_12 cw_X12_ofP) rfl rfl rfl hs_X12_ofP ⟨Nat.le_of_ble_eq_true rfl, Nat.le_of_ble_eq_true rfl⟩) ⟨PreM.blind, hM.pre hK⟩ rfl rfl hl.1 rfl (lv_room (Nat.le_of_ble_eq_true rfl)) dX12_isDone_205 ⟨Nat.zero_le _, Nat.zero_le _⟩) ?_
                  refine lv_iload_n S.1 S.2.1 dX12_isDone_208 rfl (lv_at hl 0 rfl) ?_
                  obtain ⟨hσ38, σ38, eσ38, hF⟩ := wr_some hF
                  refine r_iast S hK hM 1 (by decide) rfl hσ38 eσ38 dX12_isDone_209 (fun H locs hM => ?_)
                  refine lv_iconst (v := 1) S.1 S.2.1 dX12_isDone_210 (by decide) ?_
                  cases hF
                  exact z_m (v := 1) S hM hr hlk rfl dX12_isDone_211
                · have hF := (if_pos b36).symm.trans hF
                  refine lv_iconst (v := 0) S.1 S.2.1 dX12_isDone_197 (by decide) ?_
                  cases hF
                  exact z_m (v := 0) S hM hr hlk rfl dX12_isDone_198
              · have hF := (if_neg b34).symm.trans hF
                by_cases b39 : a1 = 99
                · refine r_tab (off := 285) (tgt := 300) S dX12_isDone_15 b39 (by decide) (by decide) ?_
                  exact w_X12_isDone_300 S hK hr hlk hM (lv_sub hl [2, 1, 0] rfl) hF
                · by_cases b40 : a1 = 101
                  · refine r_tab (off := 285) (tgt := 300) S dX12_isDone_15 b40 (by decide) (by decide) ?_
                    exact w_X12_isDone_300 S hK hr hlk hM (lv_sub hl [2, 1, 0] rfl) hF
                  · by_cases b41 : a1 = 103
                    · refine r_tab (off := 285) (tgt := 300) S dX12_isDone_15 b41 (by decide) (by decide) ?_
                      exact w_X12_isDone_300 S hK hr hlk hM (lv_sub hl [2, 1, 0] rfl) hF
                    · by_cases b42 : a1 = 105
                      · refine r_tab (off := 285) (tgt := 300) S dX12_isDone_15 b42 (by decide) (by decide) ?_
                        exact w_X12_isDone_300 S hK hr hlk hM (lv_sub hl [2, 1, 0] rfl) hF
                      · by_cases b43 : a1 = 106
                        · refine r_tab (off := 285) (tgt := 300) S dX12_isDone_15 b43 (by decide) (by decide) ?_
                          exact w_X12_isDone_300 S hK hr hlk hM (lv_sub hl [2, 1, 0] rfl) hF
                        · by_cases b44 : a1 = 107
                          · refine r_tab (off := 285) (tgt := 300) S dX12_isDone_15 b44 (by decide) (by decide) ?_
                            exact w_X12_isDone_300 S hK hr hlk hM (lv_sub hl [2, 1, 0] rfl) hF
                          · by_cases b45 : a1 = 109
                            · refine r_tab (off := 285) (tgt := 300) S dX12_isDone_15 b45 (by decide) (by decide) ?_
                              exact w_X12_isDone_300 S hK hr hlk hM (lv_sub hl [2, 1, 0] rfl) hF
                            · by_cases b46 : a1 = 110
                              · refine r_tab (off := 285) (tgt := 300) S dX12_isDone_15 b46 (by decide) (by decide) ?_
                                exact w_X12_isDone_300 S hK hr hlk hM (lv_sub hl [2, 1, 0] rfl) hF
                              · by_cases b47 : a1 = 111
                                · refine r_tab (off := 285) (tgt := 300) S dX12_isDone_15 b47 (by decide) (by decide) ?_
                                  exact w_X12_isDone_300 S hK hr hlk hM (lv_sub hl [2, 1, 0] rfl) hF
                                · by_cases b48 : a1 = 113
                                  · refine r_tab (off := 285) (tgt := 300) S dX12_isDone_15 b48 (by decide) (by decide) ?_
                                    exact w_X12_isDone_300 S hK hr hlk hM (lv_sub hl [2, 1, 0] rfl) hF
                                  · by_cases b49 : a1 = 114
                                    · refine r_tab (off := 285) (tgt := 300) S dX12_isDone_15 b49 (by decide) (by decide) ?_
                                      exact w_X12_isDone_300 S hK hr hlk hM (lv_sub hl [2, 1, 0] rfl) hF
                                    · by_cases b50 : a1 = 115
                                      · refine r_tab (off := 285) (tgt := 300) S dX12_isDone_15 b50 (by decide) (by decide) ?_
                                        exact w_X12_isDone_300 S hK hr hlk hM (lv_sub hl [2, 1, 0] rfl) hF
                                      · refine r_tabD (tgt := 300) S dX12_isDone_15 (by have n0 := ne_toInt b3 (k := 98) (by decide); have n1 := ne_toInt b10 (k := 100) (by decide); have n2 := ne_toInt b13 (k := 102) (by decide); have n3 := ne_toInt b14 (k := 104) (by decide); have n4 := ne_toInt b15 (k := 108) (by decide); have n5 := ne_toInt b21 (k := 112) (by decide); have n6 := ne_toInt b34 (k := 116) (by decide); have n7 := ne_toInt b39 (k := 99) (by decide); have n8 := ne_toInt b40 (k := 101) (by decide); have n9 := ne_toInt b41 (k := 103) (by decide); have n10 := ne_toInt b42 (k := 105) (by decide); have n11 := ne_toInt b43 (k := 106) (by decide); have n12 := ne_toInt b44 (k := 107) (by decide); have n13 := ne_toInt b45 (k := 109) (by decide); have n14 := ne_toInt b46 (k := 110) (by decide); have n15 := ne_toInt b47 (k := 111) (by decide); have n16 := ne_toInt b48 (k := 113) (by decide); have n17 := ne_toInt b49 (k := 114) (by decide); have n18 := ne_toInt b50 (k := 115) (by decide); omega) (by decide) ?_
                                        exact w_X12_isDone_300 S hK hr hlk hM (lv_sub hl [2, 1, 0] rfl) hF
/-! X12_isShelf -/
def X12_isShelf (a0 : Int32) : Option Int32 := bd1 (X12_isIn a0 0 7) fun r1 => bz r1 <| some r1
set_option maxRecDepth 20000 in
theorem c_X12_isShelf {l : Launch} {g : GE} {A : Nat → Prop} {σ : IM} {a0 : Int32} {out : Int32} (hF : X12_isShelf a0 = some out) : Met l yX12_isShelf (.code yX12_isShelf cX12_isShelf 1 (some .boolean) :: UL) ({ frames := 1, cells := 0, slots := 0, locals := 22 }) (va_Pc [.int a0] (PreM lyM 13 g A [] σ nor)) (Qp (some (.int out))) 0 0 NoA := by
  refine e_of (by decide) (Nat.le_of_ble_eq_true rfl) ?_
  intro p e s m below meth c ls S hr hlk hv hl
  have hM := Mem.of hv
  have hK := hv.2.1
  have hl : lv_has ls 1 [(0, .int a0)] := hl
  unfold X12_isShelf at hF
  refine lv_iload_n S.1 S.2.1 dX12_isShelf_0 rfl (lv_at hl 0 rfl) ?_
  refine lv_iconst (v := 0) S.1 S.2.1 dX12_isShelf_1 (by decide) ?_
  refine lv_bipush (v := 7) S.1 S.2.1 dX12_isShelf_2 (by decide) ?_
  obtain ⟨r1, er1, hF⟩ := bd1_some hF
  refine k_p (va_runS (As := [.int a0, .int 0, .int 7]) (rest := []) S (c_X12_isIn   er1) (va_cwS 3 S.2.2.2.2 (ul_S tw_5_103 tw_5_104 tw_1_12 cw_X12_isIn) rfl rfl rfl hs_X12_isIn ⟨Nat.le_of_ble_eq_true rfl, Nat.le_of_ble_eq_true rfl⟩) ⟨PreM.blind, hM.pre hK⟩ rfl rfl hl.1 rfl (lv_room (Nat.le_of_ble_eq_true rfl)) dX12_isShelf_4 ⟨Nat.zero_le _, Nat.zero_le _⟩) ?_
  obtain ⟨h2, hF⟩ := bz_some hF
  cases hF
  exact z_p S hr hlk h2 dX12_isShelf_7
/-! X12_wrongRow -/
def X12_wrongRow_b49 (σ : IM) : Option Int32 := some (-12)
set_option maxRecDepth 20000 in
theorem w_X12_wrongRow_49 {l : Launch} {g : GE} {A : Nat → Prop} {σ : IM} {p : Program} {e : Env} {s : State} {m : MethodId} {args : Array Value} {below : List Frame} {meth : Method} {c : Code} (S : CallFix p m c cX12_wrongRow 3 s args UL RX12) (hK : KK g s) (hr : meth.sig.returnType = (some .int)) (hlk : meth.locks = false) (hM : Mem lyM 13 g A [] σ nor s.heap s.heap []) {out : Int32} : ∀ {ls : Array Slot}, lv_has ls 3 [] → X12_wrongRow_b49 σ = some out → W p l e ({ frames := 2, cells := 0, slots := 0, locals := 42 }) s m args below meth c s.heap [] 0 0 (MQ below (Qp (some (.int out))) args s 0 0 NoA) (F0 m 49 ls []) := by
  intro ls hl hF
  unfold X12_wrongRow_b49 at hF
  refine lv_bipush (v := (-12)) S.1 S.2.1 dX12_wrongRow_49 (by decide) ?_
  refine lv_goto (tgt := 55) S.1 S.2.1 dX12_wrongRow_51 (by decide) ?_
  cases hF
  exact z_p S hr hlk rfl dX12_wrongRow_55
def X12_wrongRow (σ : IM) (a1 : Int32) (a2 : Int32) : Option Int32 := bd1 (X12_isShelf a1) fun r1 => if r1 = 0 then (some (-1)) else (rd (σ 7) 8 a1 fun v3 => if v3 = 0 then (some (-11)) else (rd (σ 7) 8 a1 fun v5 => if v5 = 2 then (if a2 < 0 then (some 0) else (rd (σ 10) 8 a1 fun v8 => if v8 = a2 then (some 0) else (X12_wrongRow_b49 σ))) else (X12_wrongRow_b49 σ)))
set_option maxRecDepth 20000 in
theorem c_X12_wrongRow {l : Launch} {g : GE} {A : Nat → Prop} {σ : IM} {a1 : Int32} {a2 : Int32} {out : Int32} (hF : X12_wrongRow σ a1 a2 = some out) : Met l yX12_wrongRow (.code yX12_wrongRow cX12_wrongRow 3 (some .int) :: UL) ({ frames := 2, cells := 0, slots := 0, locals := 42 }) (va_Pc [.ref (g.2.2 0), .int a1, .int a2] (PreM lyM 13 g A [] σ nor)) (Qp (some (.int out))) 0 0 NoA := by
  refine e_of (by decide) (Nat.le_of_ble_eq_true rfl) ?_
  intro p e s m below meth c ls S hr hlk hv hl
  have hM := Mem.of hv
  have hK := hv.2.1
  have hl : lv_has ls 3 [(0, .ref (g.2.2 0)), (1, .int a1), (2, .int a2)] := hl
  unfold X12_wrongRow at hF
  refine lv_iload_n S.1 S.2.1 dX12_wrongRow_0 rfl (lv_at hl 1 rfl) ?_
  obtain ⟨r1, er1, hF⟩ := bd1_some hF
  refine k_p (va_runS (As := [.int a1]) (rest := []) S (c_X12_isShelf   er1) (va_cwS 1 S.2.2.2.2 (ul_S tw_5_100 tw_5_101 tw_1_12 cw_X12_isShelf) rfl rfl rfl hs_X12_isShelf ⟨Nat.le_of_ble_eq_true rfl, Nat.le_of_ble_eq_true rfl⟩) ⟨PreM.blind, hM.pre hK⟩ rfl rfl hl.1 rfl (lv_room (Nat.le_of_ble_eq_true rfl)) dX12_wrongRow_1 ⟨Nat.zero_le _, Nat.zero_le _⟩) ?_
  refine lv_if_ne (tgt := 11) S.1 S.2.1 dX12_wrongRow_4 (by decide) (fun b2 => ?_) (fun b2 => ?_)
  · have hF := (if_neg b2).symm.trans hF
    refine lv_aload_n S.1 S.2.1 dX12_wrongRow_11 rfl (lv_at hl 0 rfl) ?_
    refine r_getC S hK hM cfX12 0 13 7 (by decide) lm_0 rfl (by decide) tw_5_44 dX12_wrongRow_12 ?_
    refine lv_iload_n S.1 S.2.1 dX12_wrongRow_15 rfl (lv_at hl 1 rfl) ?_
    obtain ⟨hv3, v3, ev3, hF⟩ := rd_some hF
    refine r_iald S hK hM 7 (by decide) rfl hv3 ev3 dX12_wrongRow_16 ?_
    refine lv_if_ne (tgt := 25) S.1 S.2.1 dX12_wrongRow_17 (by decide) (fun b4 => ?_) (fun b4 => ?_)
    · have hF := (if_neg b4).symm.trans hF
      refine lv_aload_n S.1 S.2.1 dX12_wrongRow_25 rfl (lv_at hl 0 rfl) ?_
      refine r_getC S hK hM cfX12 0 13 7 (by decide) lm_0 rfl (by decide) tw_5_44 dX12_wrongRow_26 ?_
      refine lv_iload_n S.1 S.2.1 dX12_wrongRow_29 rfl (lv_at hl 1 rfl) ?_
      obtain ⟨hv5, v5, ev5, hF⟩ := rd_some hF
      refine r_iald S hK hM 7 (by decide) rfl hv5 ev5 dX12_wrongRow_30 ?_
      refine lv_iconst (v := 2) S.1 S.2.1 dX12_wrongRow_31 (by decide) ?_
      refine lv_icmp_ne (tgt := 49) S.1 S.2.1 dX12_wrongRow_32 (by decide) (fun b6 => ?_) (fun b6 => ?_)
      · have hF := (if_neg b6).symm.trans hF
        exact w_X12_wrongRow_49 S hK hr hlk hM (lv_sub hl [] rfl) hF
      · have hF := (if_pos b6).symm.trans hF
        refine lv_iload_n S.1 S.2.1 dX12_wrongRow_35 rfl (lv_at hl 2 rfl) ?_
        refine lv_if_lt (tgt := 54) S.1 S.2.1 dX12_wrongRow_36 (by decide) (fun b7 => ?_) (fun b7 => ?_)
        · have hF := (if_pos b7).symm.trans hF
          refine lv_iconst (v := 0) S.1 S.2.1 dX12_wrongRow_54 (by decide) ?_
          cases hF
          exact z_p S hr hlk rfl dX12_wrongRow_55
        · have hF := (if_neg b7).symm.trans hF
          refine lv_aload_n S.1 S.2.1 dX12_wrongRow_39 rfl (lv_at hl 0 rfl) ?_
          refine r_getC S hK hM cfX12 0 16 10 (by decide) lm_0 rfl (by decide) tw_5_47 dX12_wrongRow_40 ?_
          refine lv_iload_n S.1 S.2.1 dX12_wrongRow_43 rfl (lv_at hl 1 rfl) ?_
          obtain ⟨hv8, v8, ev8, hF⟩ := rd_some hF
          refine r_iald S hK hM 10 (by decide) rfl hv8 ev8 dX12_wrongRow_44 ?_
          refine lv_iload_n S.1 S.2.1 dX12_wrongRow_45 rfl (lv_at hl 2 rfl) ?_
          refine lv_icmp_eq (tgt := 54) S.1 S.2.1 dX12_wrongRow_46 (by decide) (fun b9 => ?_) (fun b9 => ?_)
          · have hF := (if_pos b9).symm.trans hF
            refine lv_iconst (v := 0) S.1 S.2.1 dX12_wrongRow_54 (by decide) ?_
            cases hF
            exact z_p S hr hlk rfl dX12_wrongRow_55
          · have hF := (if_neg b9).symm.trans hF
            exact w_X12_wrongRow_49 S hK hr hlk hM (lv_sub hl [] rfl) hF
    · have hF := (if_pos b4).symm.trans hF
      refine lv_bipush (v := (-11)) S.1 S.2.1 dX12_wrongRow_20 (by decide) ?_
      refine lv_goto (tgt := 55) S.1 S.2.1 dX12_wrongRow_22 (by decide) ?_
      cases hF
      exact z_p S hr hlk rfl dX12_wrongRow_55
  · have hF := (if_pos b2).symm.trans hF
    refine lv_iconst (v := (-1)) S.1 S.2.1 dX12_wrongRow_7 (by decide) ?_
    refine lv_goto (tgt := 55) S.1 S.2.1 dX12_wrongRow_8 (by decide) ?_
    cases hF
    exact z_p S hr hlk rfl dX12_wrongRow_55
/-! X12_court -/
def X12_court_b161 (x3 : Int32) (x4 : Int32) (σ : IM) : Option (Int32 × IM) := if x4 = 0 then (some (x3, σ)) else (some (x4, σ))
set_option maxRecDepth 20000 in
theorem w_X12_court_161 {l : Launch} {g : GE} {A : Nat → Prop} {p : Program} {e : Env} {s : State} {m : MethodId} {args : Array Value} {below : List Frame} {meth : Method} {c : Code} (S : CallFix p m c cX12_court 8 s args UL RX12) (hK : KK g s) (hr : meth.sig.returnType = (some .int)) (hlk : meth.locks = false) {out : Int32 × IM} : ∀ {x3 : Int32} {x4 : Int32} {σ : IM} {H : Heap} {locs : List Loc} {ls : Array Slot}, Mem lyM 13 g A [] σ nor s.heap H locs → lv_has ls 8 [(3, .int x3), (4, .int x4)] → X12_court_b161 x3 x4 σ = some out → W p l e ({ frames := 5, cells := 0, slots := 0, locals := 123 }) s m args below meth c H locs 0 0 (MQ below (Qm lyM 13 g A [] out.2 nor (some (.int out.1))) args s 0 0 A) (F0 m 161 ls []) := by
  intro x3 x4 σ H locs ls hM hl hF
  unfold X12_court_b161 at hF
  refine lv_iload S.1 S.2.1 dX12_court_161 (lv_at hl 1 rfl) ?_
  refine lv_if_ne (tgt := 170) S.1 S.2.1 dX12_court_163 (by decide) (fun b34 => ?_) (fun b34 => ?_)
  · have hF := (if_neg b34).symm.trans hF
    refine lv_iload S.1 S.2.1 dX12_court_170 (lv_at hl 1 rfl) ?_
    cases hF
    exact z_m (v := x4) S hM hr hlk rfl dX12_court_172
  · have hF := (if_pos b34).symm.trans hF
    refine lv_iload_n S.1 S.2.1 dX12_court_166 rfl (lv_at hl 0 rfl) ?_
    refine lv_goto (tgt := 172) S.1 S.2.1 dX12_court_167 (by decide) ?_
    cases hF
    exact z_m (v := x3) S hM hr hlk rfl dX12_court_172
def X12_court_s93 (k93 : Int32 → Int32 → IM → Option (Int32 × IM)) (x3 : Int32) (x4 : Int32) (σ : IM) : Option (Int32 × IM) := if x4 = 0 then (if σ 0 8 ≤ σ 0 6 then (X12_court_b161 x3 x4 σ) else (bd (σ 0 6) fun v21 => bd1 (X12_here σ) fun r22 => bd2 (X12_readsStatement σ) fun r25 σ23 => bd2 (X12_isDone σ23 r22) fun r28 σ26 => if r28 = 0 then (bd ((-2000) - v21) fun v30 => bd1 (X12_copies σ26 4 1) fun σ31 => k93 x3 v30 σ31) else (k93 x3 x4 σ26))) else (X12_court_b161 x3 x4 σ)
def X12_court_b93 : Nat → Int32 → Int32 → IM → Option (Int32 × IM)
  | 0 => fun _ _ _ => none
  | n + 1 => X12_court_s93 (X12_court_b93 n)
set_option maxRecDepth 20000 in
theorem w_X12_court_93 {l : Launch} {g : GE} {A : Nat → Prop} {p : Program} {e : Env} {s : State} {m : MethodId} {args : Array Value} {below : List Frame} {meth : Method} {c : Code} (S : CallFix p m c cX12_court 8 s args UL RX12) (hK : KK g s) (hr : meth.sig.returnType = (some .int)) (hlk : meth.locks = false) {out : Int32 × IM} {k93 : Int32 → Int32 → IM → Option (Int32 × IM)} (hk93 : ∀ {x3 : Int32} {x4 : Int32} {σ : IM} {H : Heap} {locs : List Loc} {ls : Array Slot}, Mem lyM 13 g A [] σ nor s.heap H locs → lv_has ls 8 [(0, .ref (g.2.2 0)), (3, .int x3), (4, .int x4)] → k93 x3 x4 σ = some out → W p l e ({ frames := 5, cells := 0, slots := 0, locals := 123 }) s m args below meth c H locs 0 0 (MQ below (Qm lyM 13 g A [] out.2 nor (some (.int out.1))) args s 0 0 A) (F0 m 93 ls [])) : ∀ {x3 : Int32} {x4 : Int32} {σ : IM} {H : Heap} {locs : List Loc} {ls : Array Slot}, Mem lyM 13 g A [] σ nor s.heap H locs → lv_has ls 8 [(0, .ref (g.2.2 0)), (3, .int x3), (4, .int x4)] → X12_court_s93 k93 x3 x4 σ = some out → W p l e ({ frames := 5, cells := 0, slots := 0, locals := 123 }) s m args below meth c H locs 0 0 (MQ below (Qm lyM 13 g A [] out.2 nor (some (.int out.1))) args s 0 0 A) (F0 m 93 ls []) := by
  intro x3 x4 σ H locs ls hM hl hF
  unfold X12_court_s93 at hF
  refine lv_iload S.1 S.2.1 dX12_court_93 (lv_at hl 2 rfl) ?_
  refine lv_if_ne (tgt := 161) S.1 S.2.1 dX12_court_95 (by decide) (fun b19 => ?_) (fun b19 => ?_)
  · have hF := (if_neg b19).symm.trans hF
    exact w_X12_court_161 S hK hr hlk hM (lv_sub hl [1, 2] rfl) hF
  · have hF := (if_pos b19).symm.trans hF
    refine lv_aload_n S.1 S.2.1 dX12_court_98 rfl (lv_at hl 0 rfl) ?_
    refine r_getI S hK hM cfX12 0 6 (by decide) lm_0 rfl (by decide) tw_5_37 dX12_court_99 ?_
    refine lv_aload_n S.1 S.2.1 dX12_court_102 rfl (lv_at hl 0 rfl) ?_
    refine r_getI S hK hM cfX12 0 8 (by decide) lm_0 rfl (by decide) tw_5_39 dX12_court_103 ?_
    refine lv_icmp_ge (tgt := 161) S.1 S.2.1 dX12_court_106 (by decide) (fun b20 => ?_) (fun b20 => ?_)
    · have hF := (if_pos b20).symm.trans hF
      exact w_X12_court_161 S hK hr hlk hM (lv_sub hl [1, 2] rfl) hF
    · have hF := (if_neg b20).symm.trans hF
      refine lv_aload_n S.1 S.2.1 dX12_court_109 rfl (lv_at hl 0 rfl) ?_
      refine r_getI S hK hM cfX12 0 6 (by decide) lm_0 rfl (by decide) tw_5_37 dX12_court_110 ?_
      refine lv_topi (fun v21 ev21 => ?_)
      have hF := bd_at ev21 hF
      refine lv_istore (lv' := [(5, .int v21), (0, .ref (g.2.2 0)), (3, .int x3), (4, .int x4)]) S.1 S.2.1 dX12_court_113 hl (by decide) rfl (fun ls hl => ?_)
      refine lv_aload_n S.1 S.2.1 dX12_court_115 rfl (lv_at hl 1 rfl) ?_
      obtain ⟨r22, er22, hF⟩ := bd1_some hF
      refine k_p (va_runV (As := []) (rest := []) S (c_X12_here   er22) (cwV 0 S.2.2.2.2 (ul_V tw_5_110 tw_5_112 ts_X12_here tw_1_12 cw_X12_here) rfl rfl rfl hv_X12_here ⟨Nat.le_of_ble_eq_true rfl, Nat.le_of_ble_eq_true rfl⟩) ⟨PreM.blind, hM.recv hK cfX12 0 (by decide) lm_0, hM.pre hK⟩ rfl rfl hl.1 rfl (lv_room (Nat.le_of_ble_eq_true rfl)) dX12_court_116 ⟨Nat.zero_le _, Nat.zero_le _⟩) ?_
      refine lv_istore (lv' := [(6, .int r22), (5, .int v21), (0, .ref (g.2.2 0)), (3, .int x3), (4, .int x4)]) S.1 S.2.1 dX12_court_119 hl (by decide) rfl (fun ls hl => ?_)
      refine lv_aload_n S.1 S.2.1 dX12_court_121 rfl (lv_at hl 2 rfl) ?_
      obtain ⟨r25, σ23, er25, hF⟩ := bd2_some hF
      refine k_m (va_runV (As := []) (rest := []) S (c_X12_readsStatement   er25) (cwV 0 S.2.2.2.2 (ul_V tw_5_106 tw_5_108 ts_X12_readsStatement tw_1_12 cw_X12_readsStatement) rfl rfl rfl hv_X12_readsStatement ⟨Nat.le_of_ble_eq_true rfl, Nat.le_of_ble_eq_true rfl⟩) ⟨PreM.blind, hM.recv hK cfX12 0 (by decide) lm_0, hM.pre hK⟩ rfl rfl hl.1 rfl (lv_room (Nat.le_of_ble_eq_true rfl)) dX12_court_122 ⟨Nat.zero_le _, Nat.zero_le _⟩) hM (fun H locs hM => ?_)
      show W _ _ _ _ _ _ _ _ _ _ _ _ _ _ _ (F0 m 125 ls [.int r25])
      refine lv_istore (lv' := [(7, .int r25), (6, .int r22), (5, .int v21), (0, .ref (g.2.2 0)), (3, .int x3), (4, .int x4)]) S.1 S.2.1 dX12_court_125 hl (by decide) rfl (fun ls hl => ?_)
      refine lv_aload_n S.1 S.2.1 dX12_court_127 rfl (lv_at hl 3 rfl) ?_
      refine lv_iload S.1 S.2.1 dX12_court_128 (lv_at hl 1 rfl) ?_
      obtain ⟨r28, σ26, er28, hF⟩ := bd2_some hF
      refine k_m (va_runV (As := [.int r22]) (rest := []) S (c_X12_isDone   er28) (cwV 1 S.2.2.2.2 (ul_V tw_5_121 tw_5_123 ts_X12_isDone tw_1_12 cw_X12_isDone) rfl rfl rfl hv_X12_isDone ⟨Nat.le_of_ble_eq_true rfl, Nat.le_of_ble_eq_true rfl⟩) ⟨PreM.blind, hM.recv hK cfX12 0 (by decide) lm_0, hM.pre hK⟩ rfl rfl hl.1 rfl (lv_room (Nat.le_of_ble_eq_true rfl)) dX12_court_130 ⟨Nat.zero_le _, Nat.zero_le _⟩) hM (fun H locs hM => ?_)
      show W _ _ _ _ _ _ _ _ _ _ _ _ _ _ _ (F0 m 133 ls [.int r28])
      refine lv_if_eq (tgt := 139) S.1 S.2.1 dX12_court_133 (by decide) (fun b29 => ?_) (fun b29 => ?_)
      · have hF := (if_pos b29).symm.trans hF
        refine lv_sipush (v := (-2000)) S.1 S.2.1 dX12_court_139 (by decide) ?_
        refine lv_iload S.1 S.2.1 dX12_court_142 (lv_at hl 2 rfl) ?_
        refine lv_isub S.1 S.2.1 dX12_court_144 ?_
        refine lv_topi (fun v30 ev30 => ?_)
        have hF := bd_at ev30 hF
        refine lv_istore (lv' := [(4, .int v30), (7, .int r25), (6, .int r22), (5, .int v21), (0, .ref (g.2.2 0)), (3, .int x3)]) S.1 S.2.1 dX12_court_145 hl (by decide) rfl (fun ls hl => ?_)
        refine lv_aload_n S.1 S.2.1 dX12_court_147 rfl (lv_at hl 4 rfl) ?_
        refine r_getC S hK hM cfX12 0 3 4 (by decide) lm_0 rfl (by decide) tw_5_34 dX12_court_148 ?_
        refine lv_aload_n S.1 S.2.1 dX12_court_151 rfl (lv_at hl 4 rfl) ?_
        refine r_getC S hK hM cfX12 0 0 1 (by decide) lm_0 rfl (by decide) tw_5_31 dX12_court_152 ?_
        obtain ⟨σ31, er33, hF⟩ := bd1_some hF
        refine k_m (va_runS (As := [.ref (g.2.2 4), .ref (g.2.2 1)]) (rest := []) S (c_X12_copies  ar_4 ar_1 er33) (va_cwS 2 S.2.2.2.2 (ul_S tw_5_118 tw_5_119 tw_1_12 cw_X12_copies) rfl rfl rfl hs_X12_copies ⟨Nat.le_of_ble_eq_true rfl, Nat.le_of_ble_eq_true rfl⟩) ⟨PreM.blind, hM.pre hK⟩ rfl rfl hl.1 rfl (lv_room (Nat.le_of_ble_eq_true rfl)) dX12_court_155 ⟨Nat.zero_le _, Nat.zero_le _⟩) hM (fun H locs hM => ?_)
        show W _ _ _ _ _ _ _ _ _ _ _ _ _ _ _ (F0 m 158 ls [])
        refine lv_goto (tgt := 93) S.1 S.2.1 dX12_court_158 (by decide) ?_
        exact hk93 hM (lv_sub hl [4, 5, 0] rfl)  hF
      · have hF := (if_neg b29).symm.trans hF
        refine lv_goto (tgt := 93) S.1 S.2.1 dX12_court_136 (by decide) ?_
        exact hk93 hM (lv_sub hl [3, 4, 5] rfl)  hF
theorem wl_X12_court_93 {l : Launch} {g : GE} {A : Nat → Prop} {p : Program} {e : Env} {s : State} {m : MethodId} {args : Array Value} {below : List Frame} {meth : Method} {c : Code} (S : CallFix p m c cX12_court 8 s args UL RX12) (hK : KK g s) (hr : meth.sig.returnType = (some .int)) (hlk : meth.locks = false) {out : Int32 × IM} : ∀ (n : Nat) {x3 : Int32} {x4 : Int32} {σ : IM} {H : Heap} {locs : List Loc} {ls : Array Slot}, Mem lyM 13 g A [] σ nor s.heap H locs → lv_has ls 8 [(0, .ref (g.2.2 0)), (3, .int x3), (4, .int x4)] → X12_court_b93 n x3 x4 σ = some out → W p l e ({ frames := 5, cells := 0, slots := 0, locals := 123 }) s m args below meth c H locs 0 0 (MQ below (Qm lyM 13 g A [] out.2 nor (some (.int out.1))) args s 0 0 A) (F0 m 93 ls []) := by
  intro n
  induction n with
  | zero =>
    intro x3 x4 σ H locs ls hM hl hF
    cases hF
  | succ n ih =>
    intro x3 x4 σ H locs ls hM hl hF
    exact w_X12_court_93 S hK hr hlk ih hM hl hF
def X12_court_b77 (x3 : Int32) (x4 : Int32) (σ : IM) : Option (Int32 × IM) := bd1 (X12_copies σ 1 4) fun σ15 => bd (up2 σ15 0 6 0) fun σ18 => X12_court_b93 1000 x3 x4 σ18
set_option maxRecDepth 20000 in
theorem w_X12_court_77 {l : Launch} {g : GE} {A : Nat → Prop} {p : Program} {e : Env} {s : State} {m : MethodId} {args : Array Value} {below : List Frame} {meth : Method} {c : Code} (S : CallFix p m c cX12_court 8 s args UL RX12) (hK : KK g s) (hr : meth.sig.returnType = (some .int)) (hlk : meth.locks = false) {out : Int32 × IM} : ∀ {x3 : Int32} {x4 : Int32} {σ : IM} {H : Heap} {locs : List Loc} {ls : Array Slot}, Mem lyM 13 g A [] σ nor s.heap H locs → lv_has ls 8 [(0, .ref (g.2.2 0)), (3, .int x3), (4, .int x4)] → X12_court_b77 x3 x4 σ = some out → W p l e ({ frames := 5, cells := 0, slots := 0, locals := 123 }) s m args below meth c H locs 0 0 (MQ below (Qm lyM 13 g A [] out.2 nor (some (.int out.1))) args s 0 0 A) (F0 m 77 ls []) := by
  intro x3 x4 σ H locs ls hM hl hF
  unfold X12_court_b77 at hF
  refine lv_aload_n S.1 S.2.1 dX12_court_77 rfl (lv_at hl 0 rfl) ?_
  refine r_getC S hK hM cfX12 0 0 1 (by decide) lm_0 rfl (by decide) tw_5_31 dX12_court_78 ?_
  refine lv_aload_n S.1 S.2.1 dX12_court_81 rfl (lv_at hl 0 rfl) ?_
  refine r_getC S hK hM cfX12 0 3 4 (by decide) lm_0 rfl (by decide) tw_5_34 dX12_court_82 ?_
  obtain ⟨σ15, er17, hF⟩ := bd1_some hF
  refine k_m (va_runS (As := [.ref (g.2.2 1), .ref (g.2.2 4)]) (rest := []) S (c_X12_copies  ar_1 ar_4 er17) (va_cwS 2 S.2.2.2.2 (ul_S tw_5_118 tw_5_119 tw_1_12 cw_X12_copies) rfl rfl rfl hs_X12_copies ⟨Nat.le_of_ble_eq_true rfl, Nat.le_of_ble_eq_true rfl⟩) ⟨PreM.blind, hM.pre hK⟩ rfl rfl hl.1 rfl (lv_room (Nat.le_of_ble_eq_true rfl)) dX12_court_85 ⟨Nat.zero_le _, Nat.zero_le _⟩) hM (fun H locs hM => ?_)
  show W _ _ _ _ _ _ _ _ _ _ _ _ _ _ _ (F0 m 88 ls [])
  refine lv_aload_n S.1 S.2.1 dX12_court_88 rfl (lv_at hl 0 rfl) ?_
  refine lv_iconst (v := 0) S.1 S.2.1 dX12_court_89 (by decide) ?_
  obtain ⟨σ18, eσ18, hF⟩ := bd_some hF
  refine r_putI (ty := .int) S hK hM cfX12 tyX12_ok nmX12 0 6 (by decide) lm_0 rfl (by decide) tw_5_37 rfl (by decide +kernel) rfl rfl eσ18 dX12_court_90 (fun H locs hM => ?_)
  exact wl_X12_court_93 S hK hr hlk 1000 hM (lv_sub hl [0, 1, 2] rfl) hF
def X12_court_b58 (k41 : Int32 → Int32 → IM → Option (Int32 × IM)) (x3 : Int32) (x4 : Int32) (σ : IM) : Option (Int32 × IM) := bd (x3 + 1) fun v12 => if x4 = 0 then (if σ 0 6 < σ 0 8 then (k41 v12 x4 σ) else (X12_court_b77 v12 x4 σ)) else (X12_court_b77 v12 x4 σ)
set_option maxRecDepth 20000 in
theorem w_X12_court_58 {l : Launch} {g : GE} {A : Nat → Prop} {p : Program} {e : Env} {s : State} {m : MethodId} {args : Array Value} {below : List Frame} {meth : Method} {c : Code} (S : CallFix p m c cX12_court 8 s args UL RX12) (hK : KK g s) (hr : meth.sig.returnType = (some .int)) (hlk : meth.locks = false) {out : Int32 × IM} {k41 : Int32 → Int32 → IM → Option (Int32 × IM)} (hk41 : ∀ {x3 : Int32} {x4 : Int32} {σ : IM} {H : Heap} {locs : List Loc} {ls : Array Slot}, Mem lyM 13 g A [] σ nor s.heap H locs → lv_has ls 8 [(0, .ref (g.2.2 0)), (3, .int x3), (4, .int x4)] → k41 x3 x4 σ = some out → W p l e ({ frames := 5, cells := 0, slots := 0, locals := 123 }) s m args below meth c H locs 0 0 (MQ below (Qm lyM 13 g A [] out.2 nor (some (.int out.1))) args s 0 0 A) (F0 m 41 ls [])) : ∀ {x3 : Int32} {x4 : Int32} {σ : IM} {H : Heap} {locs : List Loc} {ls : Array Slot}, Mem lyM 13 g A [] σ nor s.heap H locs → lv_has ls 8 [(0, .ref (g.2.2 0)), (3, .int x3), (4, .int x4)] → X12_court_b58 k41 x3 x4 σ = some out → W p l e ({ frames := 5, cells := 0, slots := 0, locals := 123 }) s m args below meth c H locs 0 0 (MQ below (Qm lyM 13 g A [] out.2 nor (some (.int out.1))) args s 0 0 A) (F0 m 58 ls []) := by
  intro x3 x4 σ H locs ls hM hl hF
  unfold X12_court_b58 at hF
  obtain ⟨v12, ev12, hF⟩ := bd_some hF
  refine lv_iinc (v := v12) (lv' := [(3, .int v12), (0, .ref (g.2.2 0)), (4, .int x4)]) S.1 S.2.1 dX12_court_58 hl (k := 1) rfl (by rw [ev12]; rfl) (by decide) rfl (fun ls hl => ?_)
  refine lv_iload S.1 S.2.1 dX12_court_61 (lv_at hl 2 rfl) ?_
  refine lv_if_ne (tgt := 77) S.1 S.2.1 dX12_court_63 (by decide) (fun b13 => ?_) (fun b13 => ?_)
  · have hF := (if_neg b13).symm.trans hF
    exact w_X12_court_77 S hK hr hlk hM (lv_sub hl [1, 0, 2] rfl) hF
  · have hF := (if_pos b13).symm.trans hF
    refine lv_aload_n S.1 S.2.1 dX12_court_66 rfl (lv_at hl 1 rfl) ?_
    refine r_getI S hK hM cfX12 0 6 (by decide) lm_0 rfl (by decide) tw_5_37 dX12_court_67 ?_
    refine lv_aload_n S.1 S.2.1 dX12_court_70 rfl (lv_at hl 1 rfl) ?_
    refine r_getI S hK hM cfX12 0 8 (by decide) lm_0 rfl (by decide) tw_5_39 dX12_court_71 ?_
    refine lv_icmp_lt (tgt := 41) S.1 S.2.1 dX12_court_74 (by decide) (fun b14 => ?_) (fun b14 => ?_)
    · have hF := (if_pos b14).symm.trans hF
      exact hk41 hM (lv_sub hl [1, 0, 2] rfl)  hF
    · have hF := (if_neg b14).symm.trans hF
      exact w_X12_court_77 S hK hr hlk hM (lv_sub hl [1, 0, 2] rfl) hF
def X12_court_s41 (k41 : Int32 → Int32 → IM → Option (Int32 × IM)) (x3 : Int32) (x4 : Int32) (σ : IM) : Option (Int32 × IM) := bd2 (X12_readsStatement σ) fun r9 σ7 => if r9 = 0 then (bd ((-1000) - (σ7 0 6)) fun v11 => X12_court_b58 k41 x3 v11 σ7) else (X12_court_b58 k41 x3 x4 σ7)
def X12_court_b41 : Nat → Int32 → Int32 → IM → Option (Int32 × IM)
  | 0 => fun _ _ _ => none
  | n + 1 => X12_court_s41 (X12_court_b41 n)
set_option maxRecDepth 20000 in
theorem w_X12_court_41 {l : Launch} {g : GE} {A : Nat → Prop} {p : Program} {e : Env} {s : State} {m : MethodId} {args : Array Value} {below : List Frame} {meth : Method} {c : Code} (S : CallFix p m c cX12_court 8 s args UL RX12) (hK : KK g s) (hr : meth.sig.returnType = (some .int)) (hlk : meth.locks = false) {out : Int32 × IM} {k41 : Int32 → Int32 → IM → Option (Int32 × IM)} (hk41 : ∀ {x3 : Int32} {x4 : Int32} {σ : IM} {H : Heap} {locs : List Loc} {ls : Array Slot}, Mem lyM 13 g A [] σ nor s.heap H locs → lv_has ls 8 [(0, .ref (g.2.2 0)), (3, .int x3), (4, .int x4)] → k41 x3 x4 σ = some out → W p l e ({ frames := 5, cells := 0, slots := 0, locals := 123 }) s m args below meth c H locs 0 0 (MQ below (Qm lyM 13 g A [] out.2 nor (some (.int out.1))) args s 0 0 A) (F0 m 41 ls [])) : ∀ {x3 : Int32} {x4 : Int32} {σ : IM} {H : Heap} {locs : List Loc} {ls : Array Slot}, Mem lyM 13 g A [] σ nor s.heap H locs → lv_has ls 8 [(0, .ref (g.2.2 0)), (3, .int x3), (4, .int x4)] → X12_court_s41 k41 x3 x4 σ = some out → W p l e ({ frames := 5, cells := 0, slots := 0, locals := 123 }) s m args below meth c H locs 0 0 (MQ below (Qm lyM 13 g A [] out.2 nor (some (.int out.1))) args s 0 0 A) (F0 m 41 ls []) := by
  intro x3 x4 σ H locs ls hM hl hF
  unfold X12_court_s41 at hF
  refine lv_aload_n S.1 S.2.1 dX12_court_41 rfl (lv_at hl 0 rfl) ?_
  obtain ⟨r9, σ7, er9, hF⟩ := bd2_some hF
  refine k_m (va_runV (As := []) (rest := []) S (c_X12_readsStatement   er9) (cwV 0 S.2.2.2.2 (ul_V tw_5_106 tw_5_108 ts_X12_readsStatement tw_1_12 cw_X12_readsStatement) rfl rfl rfl hv_X12_readsStatement ⟨Nat.le_of_ble_eq_true rfl, Nat.le_of_ble_eq_true rfl⟩) ⟨PreM.blind, hM.recv hK cfX12 0 (by decide) lm_0, hM.pre hK⟩ rfl rfl hl.1 rfl (lv_room (Nat.le_of_ble_eq_true rfl)) dX12_court_42 ⟨Nat.zero_le _, Nat.zero_le _⟩) hM (fun H locs hM => ?_)
  show W _ _ _ _ _ _ _ _ _ _ _ _ _ _ _ (F0 m 45 ls [.int r9])
  refine lv_if_ne (tgt := 58) S.1 S.2.1 dX12_court_45 (by decide) (fun b10 => ?_) (fun b10 => ?_)
  · have hF := (if_neg b10).symm.trans hF
    exact w_X12_court_58 S hK hr hlk hk41 hM (lv_sub hl [0, 1, 2] rfl) hF
  · have hF := (if_pos b10).symm.trans hF
    refine lv_sipush (v := (-1000)) S.1 S.2.1 dX12_court_48 (by decide) ?_
    refine lv_aload_n S.1 S.2.1 dX12_court_51 rfl (lv_at hl 0 rfl) ?_
    refine r_getI S hK hM cfX12 0 6 (by decide) lm_0 rfl (by decide) tw_5_37 dX12_court_52 ?_
    refine lv_isub S.1 S.2.1 dX12_court_55 ?_
    refine lv_topi (fun v11 ev11 => ?_)
    have hF := bd_at ev11 hF
    refine lv_istore (lv' := [(4, .int v11), (0, .ref (g.2.2 0)), (3, .int x3)]) S.1 S.2.1 dX12_court_56 hl (by decide) rfl (fun ls hl => ?_)
    exact w_X12_court_58 S hK hr hlk hk41 hM (lv_sub hl [1, 2, 0] rfl) hF
theorem wl_X12_court_41 {l : Launch} {g : GE} {A : Nat → Prop} {p : Program} {e : Env} {s : State} {m : MethodId} {args : Array Value} {below : List Frame} {meth : Method} {c : Code} (S : CallFix p m c cX12_court 8 s args UL RX12) (hK : KK g s) (hr : meth.sig.returnType = (some .int)) (hlk : meth.locks = false) {out : Int32 × IM} : ∀ (n : Nat) {x3 : Int32} {x4 : Int32} {σ : IM} {H : Heap} {locs : List Loc} {ls : Array Slot}, Mem lyM 13 g A [] σ nor s.heap H locs → lv_has ls 8 [(0, .ref (g.2.2 0)), (3, .int x3), (4, .int x4)] → X12_court_b41 n x3 x4 σ = some out → W p l e ({ frames := 5, cells := 0, slots := 0, locals := 123 }) s m args below meth c H locs 0 0 (MQ below (Qm lyM 13 g A [] out.2 nor (some (.int out.1))) args s 0 0 A) (F0 m 41 ls []) := by
  intro n
  induction n with
  | zero =>
    intro x3 x4 σ H locs ls hM hl hF
    cases hF
  | succ n ih =>
    intro x3 x4 σ H locs ls hM hl hF
    exact w_X12_court_41 S hK hr hlk ih hM hl hF
def X12_court (σ : IM) (a1 : Int32) : Option (Int32 × IM) := bd1 (X12_wrongRow σ a1 0) fun r1 => if r1 = 0 then (bd (up2 σ 0 7 (100 * a1)) fun σ3 => rd (σ3 11) 8 a1 fun v4 => bd (up2 σ3 0 8 v4) fun σ5 => bd (up2 σ5 0 6 0) fun σ6 => X12_court_b41 1000 0 0 σ6) else (some (r1, σ))
set_option maxRecDepth 20000 in
theorem c_X12_court {l : Launch} {g : GE} {A : Nat → Prop} {σ : IM} {a1 : Int32} {out : Int32 × IM} (hF : X12_court σ a1 = some out) : Met l yX12_court (.code yX12_court cX12_court 8 (some .int) :: UL) ({ frames := 5, cells := 0, slots := 0, locals := 123 }) (va_Pc [.ref (g.2.2 0), .int a1] (PreM lyM 13 g A [] σ nor)) (Qm lyM 13 g A [] out.2 nor (some (.int out.1))) 0 0 A := by
  refine e_of (by decide) (Nat.le_of_ble_eq_true rfl) ?_
  intro p e s m below meth c ls S hr hlk hv hl
  have hM := Mem.of hv
  have hK := hv.2.1
  have hl : lv_has ls 8 [(0, .ref (g.2.2 0)), (1, .int a1)] := hl
  unfold X12_court at hF
  refine lv_aload_n S.1 S.2.1 dX12_court_0 rfl (lv_at hl 0 rfl) ?_
  refine lv_iload_n S.1 S.2.1 dX12_court_1 rfl (lv_at hl 1 rfl) ?_
  refine lv_iconst (v := 0) S.1 S.2.1 dX12_court_2 (by decide) ?_
  obtain ⟨r1, er1, hF⟩ := bd1_some hF
  refine k_p (va_runV (As := [.int a1, .int 0]) (rest := []) S (c_X12_wrongRow   er1) (cwV 2 S.2.2.2.2 (ul_V tw_5_96 tw_5_98 ts_X12_wrongRow tw_1_12 cw_X12_wrongRow) rfl rfl rfl hv_X12_wrongRow ⟨Nat.le_of_ble_eq_true rfl, Nat.le_of_ble_eq_true rfl⟩) ⟨PreM.blind, hM.recv hK cfX12 0 (by decide) lm_0, hM.pre hK⟩ rfl rfl hl.1 rfl (lv_room (Nat.le_of_ble_eq_true rfl)) dX12_court_3 ⟨Nat.zero_le _, Nat.zero_le _⟩) ?_
  refine lv_istore_n (lv' := [(2, .int r1), (0, .ref (g.2.2 0)), (1, .int a1)]) S.1 S.2.1 dX12_court_6 rfl hl (by decide) rfl (fun ls hl => ?_)
  refine lv_iload_n S.1 S.2.1 dX12_court_7 rfl (lv_at hl 0 rfl) ?_
  refine lv_if_eq (tgt := 13) S.1 S.2.1 dX12_court_8 (by decide) (fun b2 => ?_) (fun b2 => ?_)
  · have hF := (if_pos b2).symm.trans hF
    refine lv_aload_n S.1 S.2.1 dX12_court_13 rfl (lv_at hl 1 rfl) ?_
    refine lv_bipush (v := 100) S.1 S.2.1 dX12_court_14 (by decide) ?_
    refine lv_iload_n S.1 S.2.1 dX12_court_16 rfl (lv_at hl 2 rfl) ?_
    refine lv_imul S.1 S.2.1 dX12_court_17 ?_
    obtain ⟨σ3, eσ3, hF⟩ := bd_some hF
    refine r_putI (ty := .int) S hK hM cfX12 tyX12_ok nmX12 0 7 (by decide) lm_0 rfl (by decide) tw_5_38 rfl (by decide +kernel) rfl rfl eσ3 dX12_court_18 (fun H locs hM => ?_)
    refine lv_aload_n S.1 S.2.1 dX12_court_21 rfl (lv_at hl 1 rfl) ?_
    refine lv_aload_n S.1 S.2.1 dX12_court_22 rfl (lv_at hl 1 rfl) ?_
    refine r_getC S hK hM cfX12 0 17 11 (by decide) lm_0 rfl (by decide) tw_5_48 dX12_court_23 ?_
    refine lv_iload_n S.1 S.2.1 dX12_court_26 rfl (lv_at hl 2 rfl) ?_
    obtain ⟨hv4, v4, ev4, hF⟩ := rd_some hF
    refine r_iald S hK hM 11 (by decide) rfl hv4 ev4 dX12_court_27 ?_
    obtain ⟨σ5, eσ5, hF⟩ := bd_some hF
    refine r_putI (ty := .int) S hK hM cfX12 tyX12_ok nmX12 0 8 (by decide) lm_0 rfl (by decide) tw_5_39 rfl (by decide +kernel) rfl rfl eσ5 dX12_court_28 (fun H locs hM => ?_)
    refine lv_aload_n S.1 S.2.1 dX12_court_31 rfl (lv_at hl 1 rfl) ?_
    refine lv_iconst (v := 0) S.1 S.2.1 dX12_court_32 (by decide) ?_
    obtain ⟨σ6, eσ6, hF⟩ := bd_some hF
    refine r_putI (ty := .int) S hK hM cfX12 tyX12_ok nmX12 0 6 (by decide) lm_0 rfl (by decide) tw_5_37 rfl (by decide +kernel) rfl rfl eσ6 dX12_court_33 (fun H locs hM => ?_)
    refine lv_iconst (v := 0) S.1 S.2.1 dX12_court_36 (by decide) ?_
    refine lv_istore_n (lv' := [(3, .int 0), (2, .int r1), (0, .ref (g.2.2 0)), (1, .int a1)]) S.1 S.2.1 dX12_court_37 rfl hl (by decide) rfl (fun ls hl => ?_)
    refine lv_iconst (v := 0) S.1 S.2.1 dX12_court_38 (by decide) ?_
    refine lv_istore (lv' := [(4, .int 0), (3, .int 0), (2, .int r1), (0, .ref (g.2.2 0)), (1, .int a1)]) S.1 S.2.1 dX12_court_39 hl (by decide) rfl (fun ls hl => ?_)
    exact wl_X12_court_41 S hK hr hlk 1000 hM (lv_sub hl [3, 1, 0] rfl) hF
  · have hF := (if_neg b2).symm.trans hF
    refine lv_iload_n S.1 S.2.1 dX12_court_11 rfl (lv_at hl 0 rfl) ?_
    cases hF
    exact z_m (v := r1) S hM hr hlk rfl dX12_court_12
/-! X12_stroke -/
def X12_stroke_b88 (σ : IM) (t0 : Int32) (t1 : Int32) (t2 : Int32) : Option Int32 := bd1 (X12_timeBy t2 t1 t0) fun r14 => some r14
set_option maxRecDepth 20000 in
theorem w_X12_stroke_88 {l : Launch} {g : GE} {A : Nat → Prop} {σ : IM} {p : Program} {e : Env} {s : State} {m : MethodId} {args : Array Value} {below : List Frame} {meth : Method} {c : Code} (S : CallFix p m c cX12_stroke 5 s args UL RX12) (hK : KK g s) (hr : meth.sig.returnType = (some .int)) (hlk : meth.locks = false) (hM : Mem lyM 13 g A [] σ nor s.heap s.heap []) {out : Int32} : ∀ {t0 : Int32} {t1 : Int32} {t2 : Int32} {ls : Array Slot}, lv_has ls 5 [] → X12_stroke_b88 σ t0 t1 t2 = some out → W p l e ({ frames := 2, cells := 0, slots := 0, locals := 43 }) s m args below meth c s.heap [] 0 0 (MQ below (Qp (some (.int out))) args s 0 0 NoA) (F0 m 88 ls [.int t0, .int t1, .int t2]) := by
  intro t0 t1 t2 ls hl hF
  unfold X12_stroke_b88 at hF
  obtain ⟨r14, er14, hF⟩ := bd1_some hF
  refine k_p (va_runS (As := [.int t2, .int t1, .int t0]) (rest := []) S (c_X12_timeBy   er14) (va_cwS 3 S.2.2.2.2 (ul_S tw_5_159 tw_5_160 tw_1_12 cw_X12_timeBy) rfl rfl rfl hs_X12_timeBy ⟨Nat.le_of_ble_eq_true rfl, Nat.le_of_ble_eq_true rfl⟩) ⟨PreM.blind, hM.pre hK⟩ rfl rfl hl.1 rfl (lv_room (Nat.le_of_ble_eq_true rfl)) dX12_stroke_88 ⟨Nat.zero_le _, Nat.zero_le _⟩) ?_
  cases hF
  exact z_p S hr hlk rfl dX12_stroke_91
def X12_stroke (σ : IM) (a1 : Int32) (a2 : Int32) : Option Int32 := bd1 (X12_isStroke σ a1) fun r1 => if r1 = 0 then (some (-1)) else (bd1 (X12_isIn a2 0 4) fun r3 => if r3 = 0 then (some (-1)) else (bd1 (X12_ofS a1 0) fun r5 => rd (σ 1) 42 r5 fun v6 => bd1 (X12_ofS a1 1) fun r7 => rd (σ 1) 42 r7 fun v8 => if a2 = 0 then (some v6) else (if a2 = 1 then (some v8) else (if a2 = 2 then (bd1 (X12_tiresBy v6 v8) fun r13 => some r13) else (if a2 = 3 then (X12_stroke_b88 σ 0 v8 v6) else (X12_stroke_b88 σ 8 v8 v6))))))
set_option maxRecDepth 20000 in
theorem c_X12_stroke {l : Launch} {g : GE} {A : Nat → Prop} {σ : IM} {a1 : Int32} {a2 : Int32} {out : Int32} (hF : X12_stroke σ a1 a2 = some out) : Met l yX12_stroke (.code yX12_stroke cX12_stroke 5 (some .int) :: UL) ({ frames := 2, cells := 0, slots := 0, locals := 43 }) (va_Pc [.ref (g.2.2 0), .int a1, .int a2] (PreM lyM 13 g A [] σ nor)) (Qp (some (.int out))) 0 0 NoA := by
  refine e_of (by decide) (Nat.le_of_ble_eq_true rfl) ?_
  intro p e s m below meth c ls S hr hlk hv hl
  have hM := Mem.of hv
  have hK := hv.2.1
  have hl : lv_has ls 5 [(0, .ref (g.2.2 0)), (1, .int a1), (2, .int a2)] := hl
  unfold X12_stroke at hF
  refine lv_aload_n S.1 S.2.1 dX12_stroke_0 rfl (lv_at hl 0 rfl) ?_
  refine lv_iload_n S.1 S.2.1 dX12_stroke_1 rfl (lv_at hl 1 rfl) ?_
  obtain ⟨r1, er1, hF⟩ := bd1_some hF
  refine k_p (va_runV (As := [.int a1]) (rest := []) S (c_X12_isStroke   er1) (cwV 1 S.2.2.2.2 (ul_V tw_5_138 tw_5_140 ts_X12_isStroke tw_1_12 cw_X12_isStroke) rfl rfl rfl hv_X12_isStroke ⟨Nat.le_of_ble_eq_true rfl, Nat.le_of_ble_eq_true rfl⟩) ⟨PreM.blind, hM.recv hK cfX12 0 (by decide) lm_0, hM.pre hK⟩ rfl rfl hl.1 rfl (lv_room (Nat.le_of_ble_eq_true rfl)) dX12_stroke_2 ⟨Nat.zero_le _, Nat.zero_le _⟩) ?_
  refine lv_if_eq (tgt := 17) S.1 S.2.1 dX12_stroke_5 (by decide) (fun b2 => ?_) (fun b2 => ?_)
  · have hF := (if_pos b2).symm.trans hF
    refine lv_iconst (v := (-1)) S.1 S.2.1 dX12_stroke_17 (by decide) ?_
    cases hF
    exact z_p S hr hlk rfl dX12_stroke_18
  · have hF := (if_neg b2).symm.trans hF
    refine lv_iload_n S.1 S.2.1 dX12_stroke_8 rfl (lv_at hl 2 rfl) ?_
    refine lv_iconst (v := 0) S.1 S.2.1 dX12_stroke_9 (by decide) ?_
    refine lv_iconst (v := 4) S.1 S.2.1 dX12_stroke_10 (by decide) ?_
    obtain ⟨r3, er3, hF⟩ := bd1_some hF
    refine k_p (va_runS (As := [.int a2, .int 0, .int 4]) (rest := []) S (c_X12_isIn   er3) (va_cwS 3 S.2.2.2.2 (ul_S tw_5_103 tw_5_104 tw_1_12 cw_X12_isIn) rfl rfl rfl hs_X12_isIn ⟨Nat.le_of_ble_eq_true rfl, Nat.le_of_ble_eq_true rfl⟩) ⟨PreM.blind, hM.pre hK⟩ rfl rfl hl.1 rfl (lv_room (Nat.le_of_ble_eq_true rfl)) dX12_stroke_11 ⟨Nat.zero_le _, Nat.zero_le _⟩) ?_
    refine lv_if_ne (tgt := 19) S.1 S.2.1 dX12_stroke_14 (by decide) (fun b4 => ?_) (fun b4 => ?_)
    · have hF := (if_neg b4).symm.trans hF
      refine lv_aload_n S.1 S.2.1 dX12_stroke_19 rfl (lv_at hl 0 rfl) ?_
      refine r_getC S hK hM cfX12 0 0 1 (by decide) lm_0 rfl (by decide) tw_5_31 dX12_stroke_20 ?_
      refine lv_iload_n S.1 S.2.1 dX12_stroke_23 rfl (lv_at hl 1 rfl) ?_
      refine lv_iconst (v := 0) S.1 S.2.1 dX12_stroke_24 (by decide) ?_
      obtain ⟨r5, er5, hF⟩ := bd1_some hF
      refine k_p (va_runS (As := [.int a1, .int 0]) (rest := [.ref (g.2.2 1)]) S (c_X12_ofS   er5) (va_cwS 2 S.2.2.2.2 (ul_S tw_5_129 tw_5_130 tw_1_12 cw_X12_ofS) rfl rfl rfl hs_X12_ofS ⟨Nat.le_of_ble_eq_true rfl, Nat.le_of_ble_eq_true rfl⟩) ⟨PreM.blind, hM.pre hK⟩ rfl rfl hl.1 rfl (lv_room (Nat.le_of_ble_eq_true rfl)) dX12_stroke_25 ⟨Nat.zero_le _, Nat.zero_le _⟩) ?_
      obtain ⟨hv6, v6, ev6, hF⟩ := rd_some hF
      refine r_iald S hK hM 1 (by decide) rfl hv6 ev6 dX12_stroke_28 ?_
      refine lv_istore_n (lv' := [(3, .int v6), (0, .ref (g.2.2 0)), (1, .int a1), (2, .int a2)]) S.1 S.2.1 dX12_stroke_29 rfl hl (by decide) rfl (fun ls hl => ?_)
      refine lv_aload_n S.1 S.2.1 dX12_stroke_30 rfl (lv_at hl 1 rfl) ?_
      refine r_getC S hK hM cfX12 0 0 1 (by decide) lm_0 rfl (by decide) tw_5_31 dX12_stroke_31 ?_
      refine lv_iload_n S.1 S.2.1 dX12_stroke_34 rfl (lv_at hl 2 rfl) ?_
      refine lv_iconst (v := 1) S.1 S.2.1 dX12_stroke_35 (by decide) ?_
      obtain ⟨r7, er7, hF⟩ := bd1_some hF
      refine k_p (va_runS (As := [.int a1, .int 1]) (rest := [.ref (g.2.2 1)]) S (c_X12_ofS   er7) (va_cwS 2 S.2.2.2.2 (ul_S tw_5_129 tw_5_130 tw_1_12 cw_X12_ofS) rfl rfl rfl hs_X12_ofS ⟨Nat.le_of_ble_eq_true rfl, Nat.le_of_ble_eq_true rfl⟩) ⟨PreM.blind, hM.pre hK⟩ rfl rfl hl.1 rfl (lv_room (Nat.le_of_ble_eq_true rfl)) dX12_stroke_36 ⟨Nat.zero_le _, Nat.zero_le _⟩) ?_
      obtain ⟨hv8, v8, ev8, hF⟩ := rd_some hF
      refine r_iald S hK hM 1 (by decide) rfl hv8 ev8 dX12_stroke_39 ?_
      refine lv_istore (lv' := [(4, .int v8), (3, .int v6), (0, .ref (g.2.2 0)), (1, .int a1), (2, .int a2)]) S.1 S.2.1 dX12_stroke_40 hl (by decide) rfl (fun ls hl => ?_)
      refine lv_iload_n S.1 S.2.1 dX12_stroke_42 rfl (lv_at hl 4 rfl) ?_
      refine lv_if_ne (tgt := 50) S.1 S.2.1 dX12_stroke_43 (by decide) (fun b9 => ?_) (fun b9 => ?_)
      · have hF := (if_neg b9).symm.trans hF
        refine lv_iload_n S.1 S.2.1 dX12_stroke_50 rfl (lv_at hl 4 rfl) ?_
        refine lv_iconst (v := 1) S.1 S.2.1 dX12_stroke_51 (by decide) ?_
        refine lv_icmp_ne (tgt := 60) S.1 S.2.1 dX12_stroke_52 (by decide) (fun b10 => ?_) (fun b10 => ?_)
        · have hF := (if_neg b10).symm.trans hF
          refine lv_iload_n S.1 S.2.1 dX12_stroke_60 rfl (lv_at hl 4 rfl) ?_
          refine lv_iconst (v := 2) S.1 S.2.1 dX12_stroke_61 (by decide) ?_
          refine lv_icmp_ne (tgt := 74) S.1 S.2.1 dX12_stroke_62 (by decide) (fun b11 => ?_) (fun b11 => ?_)
          · have hF := (if_neg b11).symm.trans hF
            refine lv_iload_n S.1 S.2.1 dX12_stroke_74 rfl (lv_at hl 1 rfl) ?_
            refine lv_iload S.1 S.2.1 dX12_stroke_75 (lv_at hl 0 rfl) ?_
            refine lv_iload_n S.1 S.2.1 dX12_stroke_77 rfl (lv_at hl 4 rfl) ?_
            refine lv_iconst (v := 3) S.1 S.2.1 dX12_stroke_78 (by decide) ?_
            refine lv_icmp_ne (tgt := 86) S.1 S.2.1 dX12_stroke_79 (by decide) (fun b12 => ?_) (fun b12 => ?_)
            · have hF := (if_neg b12).symm.trans hF
              refine lv_bipush (v := 8) S.1 S.2.1 dX12_stroke_86 (by decide) ?_
              exact w_X12_stroke_88 S hK hr hlk hM (lv_sub hl [] rfl) hF
            · have hF := (if_pos b12).symm.trans hF
              refine lv_iconst (v := 0) S.1 S.2.1 dX12_stroke_82 (by decide) ?_
              refine lv_goto (tgt := 88) S.1 S.2.1 dX12_stroke_83 (by decide) ?_
              exact w_X12_stroke_88 S hK hr hlk hM (lv_sub hl [] rfl) hF
          · have hF := (if_pos b11).symm.trans hF
            refine lv_iload_n S.1 S.2.1 dX12_stroke_65 rfl (lv_at hl 1 rfl) ?_
            refine lv_iload S.1 S.2.1 dX12_stroke_66 (lv_at hl 0 rfl) ?_
            obtain ⟨r13, er13, hF⟩ := bd1_some hF
            refine k_p (va_runS (As := [.int v6, .int v8]) (rest := []) S (c_X12_tiresBy   er13) (va_cwS 2 S.2.2.2.2 (ul_S tw_5_171 tw_5_172 tw_1_12 cw_X12_tiresBy) rfl rfl rfl hs_X12_tiresBy ⟨Nat.le_of_ble_eq_true rfl, Nat.le_of_ble_eq_true rfl⟩) ⟨PreM.blind, hM.pre hK⟩ rfl rfl hl.1 rfl (lv_room (Nat.le_of_ble_eq_true rfl)) dX12_stroke_68 ⟨Nat.zero_le _, Nat.zero_le _⟩) ?_
            refine lv_goto (tgt := 91) S.1 S.2.1 dX12_stroke_71 (by decide) ?_
            cases hF
            exact z_p S hr hlk rfl dX12_stroke_91
        · have hF := (if_pos b10).symm.trans hF
          refine lv_iload S.1 S.2.1 dX12_stroke_55 (lv_at hl 0 rfl) ?_
          refine lv_goto (tgt := 91) S.1 S.2.1 dX12_stroke_57 (by decide) ?_
          cases hF
          exact z_p S hr hlk rfl dX12_stroke_91
      · have hF := (if_pos b9).symm.trans hF
        refine lv_iload_n S.1 S.2.1 dX12_stroke_46 rfl (lv_at hl 1 rfl) ?_
        refine lv_goto (tgt := 91) S.1 S.2.1 dX12_stroke_47 (by decide) ?_
        cases hF
        exact z_p S hr hlk rfl dX12_stroke_91
    · have hF := (if_pos b4).symm.trans hF
      refine lv_iconst (v := (-1)) S.1 S.2.1 dX12_stroke_17 (by decide) ?_
      cases hF
      exact z_p S hr hlk rfl dX12_stroke_18
/-! X12_player -/
def X12_player (σ : IM) (a1 : Int32) (a2 : Int32) : Option Int32 := bd1 (X12_isPlayer a1) fun r1 => if r1 = 0 then (some (-1)) else (bd1 (X12_isIn a2 0 4) fun r3 => if r3 = 0 then (some (-1)) else (if a2 = 4 then (bd1 (X12_stepsIn σ 1 a1 1) fun r8 => some r8) else (bd1 (X12_ofP a1 a2) fun r6 => rd (σ 1) 42 r6 fun v7 => some v7)))
set_option maxRecDepth 20000 in
theorem c_X12_player {l : Launch} {g : GE} {A : Nat → Prop} {σ : IM} {a1 : Int32} {a2 : Int32} {out : Int32} (hF : X12_player σ a1 a2 = some out) : Met l yX12_player (.code yX12_player cX12_player 3 (some .int) :: UL) ({ frames := 2, cells := 0, slots := 0, locals := 44 }) (va_Pc [.ref (g.2.2 0), .int a1, .int a2] (PreM lyM 13 g A [] σ nor)) (Qp (some (.int out))) 0 0 NoA := by
  refine e_of (by decide) (Nat.le_of_ble_eq_true rfl) ?_
  intro p e s m below meth c ls S hr hlk hv hl
  have hM := Mem.of hv
  have hK := hv.2.1
  have hl : lv_has ls 3 [(0, .ref (g.2.2 0)), (1, .int a1), (2, .int a2)] := hl
  unfold X12_player at hF
  refine lv_iload_n S.1 S.2.1 dX12_player_0 rfl (lv_at hl 1 rfl) ?_
  obtain ⟨r1, er1, hF⟩ := bd1_some hF
  refine k_p (va_runS (As := [.int a1]) (rest := []) S (c_X12_isPlayer   er1) (va_cwS 1 S.2.2.2.2 (ul_S tw_5_132 tw_5_133 tw_1_12 cw_X12_isPlayer) rfl rfl rfl hs_X12_isPlayer ⟨Nat.le_of_ble_eq_true rfl, Nat.le_of_ble_eq_true rfl⟩) ⟨PreM.blind, hM.pre hK⟩ rfl rfl hl.1 rfl (lv_room (Nat.le_of_ble_eq_true rfl)) dX12_player_1 ⟨Nat.zero_le _, Nat.zero_le _⟩) ?_
  refine lv_if_eq (tgt := 16) S.1 S.2.1 dX12_player_4 (by decide) (fun b2 => ?_) (fun b2 => ?_)
  · have hF := (if_pos b2).symm.trans hF
    refine lv_iconst (v := (-1)) S.1 S.2.1 dX12_player_16 (by decide) ?_
    cases hF
    exact z_p S hr hlk rfl dX12_player_17
  · have hF := (if_neg b2).symm.trans hF
    refine lv_iload_n S.1 S.2.1 dX12_player_7 rfl (lv_at hl 2 rfl) ?_
    refine lv_iconst (v := 0) S.1 S.2.1 dX12_player_8 (by decide) ?_
    refine lv_iconst (v := 4) S.1 S.2.1 dX12_player_9 (by decide) ?_
    obtain ⟨r3, er3, hF⟩ := bd1_some hF
    refine k_p (va_runS (As := [.int a2, .int 0, .int 4]) (rest := []) S (c_X12_isIn   er3) (va_cwS 3 S.2.2.2.2 (ul_S tw_5_103 tw_5_104 tw_1_12 cw_X12_isIn) rfl rfl rfl hs_X12_isIn ⟨Nat.le_of_ble_eq_true rfl, Nat.le_of_ble_eq_true rfl⟩) ⟨PreM.blind, hM.pre hK⟩ rfl rfl hl.1 rfl (lv_room (Nat.le_of_ble_eq_true rfl)) dX12_player_10 ⟨Nat.zero_le _, Nat.zero_le _⟩) ?_
    refine lv_if_ne (tgt := 18) S.1 S.2.1 dX12_player_13 (by decide) (fun b4 => ?_) (fun b4 => ?_)
    · have hF := (if_neg b4).symm.trans hF
      refine lv_iload_n S.1 S.2.1 dX12_player_18 rfl (lv_at hl 2 rfl) ?_
      refine lv_iconst (v := 4) S.1 S.2.1 dX12_player_19 (by decide) ?_
      refine lv_icmp_ne (tgt := 35) S.1 S.2.1 dX12_player_20 (by decide) (fun b5 => ?_) (fun b5 => ?_)
      · have hF := (if_neg b5).symm.trans hF
        refine lv_aload_n S.1 S.2.1 dX12_player_35 rfl (lv_at hl 0 rfl) ?_
        refine r_getC S hK hM cfX12 0 0 1 (by decide) lm_0 rfl (by decide) tw_5_31 dX12_player_36 ?_
        refine lv_iload_n S.1 S.2.1 dX12_player_39 rfl (lv_at hl 1 rfl) ?_
        refine lv_iload_n S.1 S.2.1 dX12_player_40 rfl (lv_at hl 2 rfl) ?_
        obtain ⟨r6, er6, hF⟩ := bd1_some hF
        refine k_p (va_runS (As := [.int a1, .int a2]) (rest := [.ref (g.2.2 1)]) S (c_X12_ofP   er6) (va_cwS 2 S.2.2.2.2 (ul_S tw_5_25 tw_5_26 tw_1_12 cw_X12_ofP) rfl rfl rfl hs_X12_ofP ⟨Nat.le_of_ble_eq_true rfl, Nat.le_of_ble_eq_true rfl⟩) ⟨PreM.blind, hM.pre hK⟩ rfl rfl hl.1 rfl (lv_room (Nat.le_of_ble_eq_true rfl)) dX12_player_41 ⟨Nat.zero_le _, Nat.zero_le _⟩) ?_
        obtain ⟨hv7, v7, ev7, hF⟩ := rd_some hF
        refine r_iald S hK hM 1 (by decide) rfl hv7 ev7 dX12_player_44 ?_
        cases hF
        exact z_p S hr hlk rfl dX12_player_45
      · have hF := (if_pos b5).symm.trans hF
        refine lv_aload_n S.1 S.2.1 dX12_player_23 rfl (lv_at hl 0 rfl) ?_
        refine r_getC S hK hM cfX12 0 0 1 (by decide) lm_0 rfl (by decide) tw_5_31 dX12_player_24 ?_
        refine lv_iload_n S.1 S.2.1 dX12_player_27 rfl (lv_at hl 1 rfl) ?_
        refine lv_iconst (v := 1) S.1 S.2.1 dX12_player_28 (by decide) ?_
        obtain ⟨r8, er8, hF⟩ := bd1_some hF
        refine k_p (va_runS (As := [.ref (g.2.2 1), .int a1, .int 1]) (rest := []) S (c_X12_stepsIn  ar_1 er8) (va_cwS 3 S.2.2.2.2 (ul_S tw_5_183 tw_5_184 tw_1_12 cw_X12_stepsIn) rfl rfl rfl hs_X12_stepsIn ⟨Nat.le_of_ble_eq_true rfl, Nat.le_of_ble_eq_true rfl⟩) ⟨PreM.blind, hM.pre hK⟩ rfl rfl hl.1 rfl (lv_room (Nat.le_of_ble_eq_true rfl)) dX12_player_29 ⟨Nat.zero_le _, Nat.zero_le _⟩) ?_
        refine lv_goto (tgt := 45) S.1 S.2.1 dX12_player_32 (by decide) ?_
        cases hF
        exact z_p S hr hlk rfl dX12_player_45
    · have hF := (if_pos b4).symm.trans hF
      refine lv_iconst (v := (-1)) S.1 S.2.1 dX12_player_16 (by decide) ?_
      cases hF
      exact z_p S hr hlk rfl dX12_player_17
/-! X12_outOfPlace -/
def X12_outOfPlace_b25 (σ : IM) (x1 : Int32) (t0 : Int32) : Option Int32 := bd1 (X12_partner t0) fun r5 => bd1 (X12_ofP r5 0) fun r6 => rd (σ 1) 42 r6 fun v7 => bd1 (X12_ofSide x1 0) fun r8 => rd (σ 1) 42 r8 fun v9 => bd1 (X12_ofP t0 0) fun r10 => rd (σ 1) 42 r10 fun v11 => bd1 (X12_placeFor v9 v11) fun r12 => bd1 (X12_wayOf v7 r12) fun r13 => some r13
set_option maxRecDepth 20000 in
theorem w_X12_outOfPlace_25 {l : Launch} {g : GE} {A : Nat → Prop} {σ : IM} {p : Program} {e : Env} {s : State} {m : MethodId} {args : Array Value} {below : List Frame} {meth : Method} {c : Code} (S : CallFix p m c cX12_outOfPlace 3 s args UL RX12) (hK : KK g s) (hr : meth.sig.returnType = (some .int)) (hlk : meth.locks = false) (hM : Mem lyM 13 g A [] σ nor s.heap s.heap []) {out : Int32} : ∀ {x1 : Int32} {t0 : Int32} {ls : Array Slot}, lv_has ls 3 [(0, .ref (g.2.2 0)), (1, .int x1)] → X12_outOfPlace_b25 σ x1 t0 = some out → W p l e ({ frames := 2, cells := 0, slots := 0, locals := 42 }) s m args below meth c s.heap [] 0 0 (MQ below (Qp (some (.int out))) args s 0 0 NoA) (F0 m 25 ls [.int t0]) := by
  intro x1 t0 ls hl hF
  unfold X12_outOfPlace_b25 at hF
  refine lv_istore_n (lv' := [(2, .int t0), (0, .ref (g.2.2 0)), (1, .int x1)]) S.1 S.2.1 dX12_outOfPlace_25 rfl hl (by decide) rfl (fun ls hl => ?_)
  refine lv_aload_n S.1 S.2.1 dX12_outOfPlace_26 rfl (lv_at hl 1 rfl) ?_
  refine r_getC S hK hM cfX12 0 0 1 (by decide) lm_0 rfl (by decide) tw_5_31 dX12_outOfPlace_27 ?_
  refine lv_iload_n S.1 S.2.1 dX12_outOfPlace_30 rfl (lv_at hl 0 rfl) ?_
  obtain ⟨r5, er5, hF⟩ := bd1_some hF
  refine k_p (va_runS (As := [.int t0]) (rest := [.ref (g.2.2 1)]) S (c_X12_partner   er5) (va_cwS 1 S.2.2.2.2 (ul_S tw_5_190 tw_5_191 tw_1_12 cw_X12_partner) rfl rfl rfl hs_X12_partner ⟨Nat.le_of_ble_eq_true rfl, Nat.le_of_ble_eq_true rfl⟩) ⟨PreM.blind, hM.pre hK⟩ rfl rfl hl.1 rfl (lv_room (Nat.le_of_ble_eq_true rfl)) dX12_outOfPlace_31 ⟨Nat.zero_le _, Nat.zero_le _⟩) ?_
  refine lv_iconst (v := 0) S.1 S.2.1 dX12_outOfPlace_34 (by decide) ?_
  obtain ⟨r6, er6, hF⟩ := bd1_some hF
  refine k_p (va_runS (As := [.int r5, .int 0]) (rest := [.ref (g.2.2 1)]) S (c_X12_ofP   er6) (va_cwS 2 S.2.2.2.2 (ul_S tw_5_25 tw_5_26 tw_1_12 cw_X12_ofP) rfl rfl rfl hs_X12_ofP ⟨Nat.le_of_ble_eq_true rfl, Nat.le_of_ble_eq_true rfl⟩) ⟨PreM.blind, hM.pre hK⟩ rfl rfl hl.1 rfl (lv_room (Nat.le_of_ble_eq_true rfl)) dX12_outOfPlace_35 ⟨Nat.zero_le _, Nat.zero_le _⟩) ?_
  obtain ⟨hv7, v7, ev7, hF⟩ := rd_some hF
  refine r_iald S hK hM 1 (by decide) rfl hv7 ev7 dX12_outOfPlace_38 ?_
  refine lv_aload_n S.1 S.2.1 dX12_outOfPlace_39 rfl (lv_at hl 1 rfl) ?_
  refine r_getC S hK hM cfX12 0 0 1 (by decide) lm_0 rfl (by decide) tw_5_31 dX12_outOfPlace_40 ?_
  refine lv_iload_n S.1 S.2.1 dX12_outOfPlace_43 rfl (lv_at hl 2 rfl) ?_
  refine lv_iconst (v := 0) S.1 S.2.1 dX12_outOfPlace_44 (by decide) ?_
  obtain ⟨r8, er8, hF⟩ := bd1_some hF
  refine k_p (va_runS (As := [.int x1, .int 0]) (rest := [.ref (g.2.2 1), .int v7]) S (c_X12_ofSide   er8) (va_cwS 2 S.2.2.2.2 (ul_S tw_5_28 tw_5_29 tw_1_12 cw_X12_ofSide) rfl rfl rfl hs_X12_ofSide ⟨Nat.le_of_ble_eq_true rfl, Nat.le_of_ble_eq_true rfl⟩) ⟨PreM.blind, hM.pre hK⟩ rfl rfl hl.1 rfl (lv_room (Nat.le_of_ble_eq_true rfl)) dX12_outOfPlace_45 ⟨Nat.zero_le _, Nat.zero_le _⟩) ?_
  obtain ⟨hv9, v9, ev9, hF⟩ := rd_some hF
  refine r_iald S hK hM 1 (by decide) rfl hv9 ev9 dX12_outOfPlace_48 ?_
  refine lv_aload_n S.1 S.2.1 dX12_outOfPlace_49 rfl (lv_at hl 1 rfl) ?_
  refine r_getC S hK hM cfX12 0 0 1 (by decide) lm_0 rfl (by decide) tw_5_31 dX12_outOfPlace_50 ?_
  refine lv_iload_n S.1 S.2.1 dX12_outOfPlace_53 rfl (lv_at hl 0 rfl) ?_
  refine lv_iconst (v := 0) S.1 S.2.1 dX12_outOfPlace_54 (by decide) ?_
  obtain ⟨r10, er10, hF⟩ := bd1_some hF
  refine k_p (va_runS (As := [.int t0, .int 0]) (rest := [.ref (g.2.2 1), .int v9, .int v7]) S (c_X12_ofP   er10) (va_cwS 2 S.2.2.2.2 (ul_S tw_5_25 tw_5_26 tw_1_12 cw_X12_ofP) rfl rfl rfl hs_X12_ofP ⟨Nat.le_of_ble_eq_true rfl, Nat.le_of_ble_eq_true rfl⟩) ⟨PreM.blind, hM.pre hK⟩ rfl rfl hl.1 rfl (lv_room (Nat.le_of_ble_eq_true rfl)) dX12_outOfPlace_55 ⟨Nat.zero_le _, Nat.zero_le _⟩) ?_
  obtain ⟨hv11, v11, ev11, hF⟩ := rd_some hF
  refine r_iald S hK hM 1 (by decide) rfl hv11 ev11 dX12_outOfPlace_58 ?_
  obtain ⟨r12, er12, hF⟩ := bd1_some hF
  refine k_p (va_runS (As := [.int v9, .int v11]) (rest := [.int v7]) S (c_X12_placeFor   er12) (va_cwS 2 S.2.2.2.2 (ul_S tw_5_193 tw_5_194 tw_1_12 cw_X12_placeFor) rfl rfl rfl hs_X12_placeFor ⟨Nat.le_of_ble_eq_true rfl, Nat.le_of_ble_eq_true rfl⟩) ⟨PreM.blind, hM.pre hK⟩ rfl rfl hl.1 rfl (lv_room (Nat.le_of_ble_eq_true rfl)) dX12_outOfPlace_59 ⟨Nat.zero_le _, Nat.zero_le _⟩) ?_
  obtain ⟨r13, er13, hF⟩ := bd1_some hF
  refine k_p (va_runS (As := [.int v7, .int r12]) (rest := []) S (c_X12_wayOf   er13) (va_cwS 2 S.2.2.2.2 (ul_S tw_5_165 tw_5_166 tw_1_12 cw_X12_wayOf) rfl rfl rfl hs_X12_wayOf ⟨Nat.le_of_ble_eq_true rfl, Nat.le_of_ble_eq_true rfl⟩) ⟨PreM.blind, hM.pre hK⟩ rfl rfl hl.1 rfl (lv_room (Nat.le_of_ble_eq_true rfl)) dX12_outOfPlace_62 ⟨Nat.zero_le _, Nat.zero_le _⟩) ?_
  cases hF
  exact z_p S hr hlk rfl dX12_outOfPlace_65
def X12_outOfPlace (σ : IM) (a1 : Int32) : Option Int32 := rd (σ 1) 42 2 fun v1 => bd1 (X12_sideOf v1) fun r2 => if r2 = a1 then (rd (σ 1) 42 2 fun v4 => X12_outOfPlace_b25 σ a1 v4) else (X12_outOfPlace_b25 σ a1 (2 * a1))
set_option maxRecDepth 20000 in
theorem c_X12_outOfPlace {l : Launch} {g : GE} {A : Nat → Prop} {σ : IM} {a1 : Int32} {out : Int32} (hF : X12_outOfPlace σ a1 = some out) : Met l yX12_outOfPlace (.code yX12_outOfPlace cX12_outOfPlace 3 (some .int) :: UL) ({ frames := 2, cells := 0, slots := 0, locals := 42 }) (va_Pc [.ref (g.2.2 0), .int a1] (PreM lyM 13 g A [] σ nor)) (Qp (some (.int out))) 0 0 NoA := by
  refine e_of (by decide) (Nat.le_of_ble_eq_true rfl) ?_
  intro p e s m below meth c ls S hr hlk hv hl
  have hM := Mem.of hv
  have hK := hv.2.1
  have hl : lv_has ls 3 [(0, .ref (g.2.2 0)), (1, .int a1)] := hl
  unfold X12_outOfPlace at hF
  refine lv_aload_n S.1 S.2.1 dX12_outOfPlace_0 rfl (lv_at hl 0 rfl) ?_
  refine r_getC S hK hM cfX12 0 0 1 (by decide) lm_0 rfl (by decide) tw_5_31 dX12_outOfPlace_1 ?_
  refine lv_iconst (v := 2) S.1 S.2.1 dX12_outOfPlace_4 (by decide) ?_
  obtain ⟨hv1, v1, ev1, hF⟩ := rd_some hF
  refine r_iald S hK hM 1 (by decide) rfl hv1 ev1 dX12_outOfPlace_5 ?_
  obtain ⟨r2, er2, hF⟩ := bd1_some hF
  refine k_p (va_runS (As := [.int v1]) (rest := []) S (c_X12_sideOf   er2) (va_cwS 1 S.2.2.2.2 (ul_S tw_5_150 tw_5_151 tw_1_12 cw_X12_sideOf) rfl rfl rfl hs_X12_sideOf ⟨Nat.le_of_ble_eq_true rfl, Nat.le_of_ble_eq_true rfl⟩) ⟨PreM.blind, hM.pre hK⟩ rfl rfl hl.1 rfl (lv_room (Nat.le_of_ble_eq_true rfl)) dX12_outOfPlace_6 ⟨Nat.zero_le _, Nat.zero_le _⟩) ?_
  refine lv_iload_n S.1 S.2.1 dX12_outOfPlace_9 rfl (lv_at hl 1 rfl) ?_
  refine lv_icmp_ne (tgt := 22) S.1 S.2.1 dX12_outOfPlace_10 (by decide) (fun b3 => ?_) (fun b3 => ?_)
  · have hF := (if_neg b3).symm.trans hF
    refine lv_iconst (v := 2) S.1 S.2.1 dX12_outOfPlace_22 (by decide) ?_
    refine lv_iload_n S.1 S.2.1 dX12_outOfPlace_23 rfl (lv_at hl 1 rfl) ?_
    refine lv_imul S.1 S.2.1 dX12_outOfPlace_24 ?_
    exact w_X12_outOfPlace_25 S hK hr hlk hM (lv_sub hl [0, 1] rfl) hF
  · have hF := (if_pos b3).symm.trans hF
    refine lv_aload_n S.1 S.2.1 dX12_outOfPlace_13 rfl (lv_at hl 0 rfl) ?_
    refine r_getC S hK hM cfX12 0 0 1 (by decide) lm_0 rfl (by decide) tw_5_31 dX12_outOfPlace_14 ?_
    refine lv_iconst (v := 2) S.1 S.2.1 dX12_outOfPlace_17 (by decide) ?_
    obtain ⟨hv4, v4, ev4, hF⟩ := rd_some hF
    refine r_iald S hK hM 1 (by decide) rfl hv4 ev4 dX12_outOfPlace_18 ?_
    refine lv_goto (tgt := 25) S.1 S.2.1 dX12_outOfPlace_19 (by decide) ?_
    exact w_X12_outOfPlace_25 S hK hr hlk hM (lv_sub hl [0, 1] rfl) hF
/-! X12_side -/
def X12_side (σ : IM) (a1 : Int32) (a2 : Int32) : Option Int32 := bd1 (X12_isIn a1 0 1) fun r1 => if r1 = 0 then (some (-1)) else (bd1 (X12_isIn a2 0 3) fun r3 => if r3 = 0 then (some (-1)) else (if a2 = 3 then (bd1 (X12_outOfPlace σ a1) fun r8 => some r8) else (bd1 (X12_ofSide a1 a2) fun r6 => rd (σ 1) 42 r6 fun v7 => some v7)))
set_option maxRecDepth 20000 in
theorem c_X12_side {l : Launch} {g : GE} {A : Nat → Prop} {σ : IM} {a1 : Int32} {a2 : Int32} {out : Int32} (hF : X12_side σ a1 a2 = some out) : Met l yX12_side (.code yX12_side cX12_side 3 (some .int) :: UL) ({ frames := 3, cells := 0, slots := 0, locals := 64 }) (va_Pc [.ref (g.2.2 0), .int a1, .int a2] (PreM lyM 13 g A [] σ nor)) (Qp (some (.int out))) 0 0 NoA := by
  refine e_of (by decide) (Nat.le_of_ble_eq_true rfl) ?_
  intro p e s m below meth c ls S hr hlk hv hl
  have hM := Mem.of hv
  have hK := hv.2.1
  have hl : lv_has ls 3 [(0, .ref (g.2.2 0)), (1, .int a1), (2, .int a2)] := hl
  unfold X12_side at hF
  refine lv_iload_n S.1 S.2.1 dX12_side_0 rfl (lv_at hl 1 rfl) ?_
  refine lv_iconst (v := 0) S.1 S.2.1 dX12_side_1 (by decide) ?_
  refine lv_iconst (v := 1) S.1 S.2.1 dX12_side_2 (by decide) ?_
  obtain ⟨r1, er1, hF⟩ := bd1_some hF
  refine k_p (va_runS (As := [.int a1, .int 0, .int 1]) (rest := []) S (c_X12_isIn   er1) (va_cwS 3 S.2.2.2.2 (ul_S tw_5_103 tw_5_104 tw_1_12 cw_X12_isIn) rfl rfl rfl hs_X12_isIn ⟨Nat.le_of_ble_eq_true rfl, Nat.le_of_ble_eq_true rfl⟩) ⟨PreM.blind, hM.pre hK⟩ rfl rfl hl.1 rfl (lv_room (Nat.le_of_ble_eq_true rfl)) dX12_side_3 ⟨Nat.zero_le _, Nat.zero_le _⟩) ?_
  refine lv_if_eq (tgt := 18) S.1 S.2.1 dX12_side_6 (by decide) (fun b2 => ?_) (fun b2 => ?_)
  · have hF := (if_pos b2).symm.trans hF
    refine lv_iconst (v := (-1)) S.1 S.2.1 dX12_side_18 (by decide) ?_
    cases hF
    exact z_p S hr hlk rfl dX12_side_19
  · have hF := (if_neg b2).symm.trans hF
    refine lv_iload_n S.1 S.2.1 dX12_side_9 rfl (lv_at hl 2 rfl) ?_
    refine lv_iconst (v := 0) S.1 S.2.1 dX12_side_10 (by decide) ?_
    refine lv_iconst (v := 3) S.1 S.2.1 dX12_side_11 (by decide) ?_
    obtain ⟨r3, er3, hF⟩ := bd1_some hF
    refine k_p (va_runS (As := [.int a2, .int 0, .int 3]) (rest := []) S (c_X12_isIn   er3) (va_cwS 3 S.2.2.2.2 (ul_S tw_5_103 tw_5_104 tw_1_12 cw_X12_isIn) rfl rfl rfl hs_X12_isIn ⟨Nat.le_of_ble_eq_true rfl, Nat.le_of_ble_eq_true rfl⟩) ⟨PreM.blind, hM.pre hK⟩ rfl rfl hl.1 rfl (lv_room (Nat.le_of_ble_eq_true rfl)) dX12_side_12 ⟨Nat.zero_le _, Nat.zero_le _⟩) ?_
    refine lv_if_ne (tgt := 20) S.1 S.2.1 dX12_side_15 (by decide) (fun b4 => ?_) (fun b4 => ?_)
    · have hF := (if_neg b4).symm.trans hF
      refine lv_iload_n S.1 S.2.1 dX12_side_20 rfl (lv_at hl 2 rfl) ?_
      refine lv_iconst (v := 3) S.1 S.2.1 dX12_side_21 (by decide) ?_
      refine lv_icmp_ne (tgt := 33) S.1 S.2.1 dX12_side_22 (by decide) (fun b5 => ?_) (fun b5 => ?_)
      · have hF := (if_neg b5).symm.trans hF
        refine lv_aload_n S.1 S.2.1 dX12_side_33 rfl (lv_at hl 0 rfl) ?_
        refine r_getC S hK hM cfX12 0 0 1 (by decide) lm_0 rfl (by decide) tw_5_31 dX12_side_34 ?_
        refine lv_iload_n S.1 S.2.1 dX12_side_37 rfl (lv_at hl 1 rfl) ?_
        refine lv_iload_n S.1 S.2.1 dX12_side_38 rfl (lv_at hl 2 rfl) ?_
        obtain ⟨r6, er6, hF⟩ := bd1_some hF
        refine k_p (va_runS (As := [.int a1, .int a2]) (rest := [.ref (g.2.2 1)]) S (c_X12_ofSide   er6) (va_cwS 2 S.2.2.2.2 (ul_S tw_5_28 tw_5_29 tw_1_12 cw_X12_ofSide) rfl rfl rfl hs_X12_ofSide ⟨Nat.le_of_ble_eq_true rfl, Nat.le_of_ble_eq_true rfl⟩) ⟨PreM.blind, hM.pre hK⟩ rfl rfl hl.1 rfl (lv_room (Nat.le_of_ble_eq_true rfl)) dX12_side_39 ⟨Nat.zero_le _, Nat.zero_le _⟩) ?_
        obtain ⟨hv7, v7, ev7, hF⟩ := rd_some hF
        refine r_iald S hK hM 1 (by decide) rfl hv7 ev7 dX12_side_42 ?_
        cases hF
        exact z_p S hr hlk rfl dX12_side_43
      · have hF := (if_pos b5).symm.trans hF
        refine lv_aload_n S.1 S.2.1 dX12_side_25 rfl (lv_at hl 0 rfl) ?_
        refine lv_iload_n S.1 S.2.1 dX12_side_26 rfl (lv_at hl 1 rfl) ?_
        obtain ⟨r8, er8, hF⟩ := bd1_some hF
        refine k_p (va_runV (As := [.int a1]) (rest := []) S (c_X12_outOfPlace   er8) (cwV 1 S.2.2.2.2 (ul_V tw_5_211 tw_5_213 ts_X12_outOfPlace tw_1_12 cw_X12_outOfPlace) rfl rfl rfl hv_X12_outOfPlace ⟨Nat.le_of_ble_eq_true rfl, Nat.le_of_ble_eq_true rfl⟩) ⟨PreM.blind, hM.recv hK cfX12 0 (by decide) lm_0, hM.pre hK⟩ rfl rfl hl.1 rfl (lv_room (Nat.le_of_ble_eq_true rfl)) dX12_side_27 ⟨Nat.zero_le _, Nat.zero_le _⟩) ?_
        refine lv_goto (tgt := 43) S.1 S.2.1 dX12_side_30 (by decide) ?_
        cases hF
        exact z_p S hr hlk rfl dX12_side_43
    · have hF := (if_pos b4).symm.trans hF
      refine lv_iconst (v := (-1)) S.1 S.2.1 dX12_side_18 (by decide) ?_
      cases hF
      exact z_p S hr hlk rfl dX12_side_19
/-! X12_wrongKept -/
def X12_wrongKept (σ : IM) (a1 : Int32) : Option Int32 := bd1 (X12_isShelf a1) fun r1 => if r1 = 0 then (some (-1)) else (rd (σ 7) 8 a1 fun v3 => if v3 = 0 then (some (-11)) else (rd (σ 7) 8 a1 fun v5 => if v5 = 2 then (some (-12)) else (some 0)))
set_option maxRecDepth 20000 in
theorem c_X12_wrongKept {l : Launch} {g : GE} {A : Nat → Prop} {σ : IM} {a1 : Int32} {out : Int32} (hF : X12_wrongKept σ a1 = some out) : Met l yX12_wrongKept (.code yX12_wrongKept cX12_wrongKept 2 (some .int) :: UL) ({ frames := 2, cells := 0, slots := 0, locals := 42 }) (va_Pc [.ref (g.2.2 0), .int a1] (PreM lyM 13 g A [] σ nor)) (Qp (some (.int out))) 0 0 NoA := by
  refine e_of (by decide) (Nat.le_of_ble_eq_true rfl) ?_
  intro p e s m below meth c ls S hr hlk hv hl
  have hM := Mem.of hv
  have hK := hv.2.1
  have hl : lv_has ls 2 [(0, .ref (g.2.2 0)), (1, .int a1)] := hl
  unfold X12_wrongKept at hF
  refine lv_iload_n S.1 S.2.1 dX12_wrongKept_0 rfl (lv_at hl 1 rfl) ?_
  obtain ⟨r1, er1, hF⟩ := bd1_some hF
  refine k_p (va_runS (As := [.int a1]) (rest := []) S (c_X12_isShelf   er1) (va_cwS 1 S.2.2.2.2 (ul_S tw_5_100 tw_5_101 tw_1_12 cw_X12_isShelf) rfl rfl rfl hs_X12_isShelf ⟨Nat.le_of_ble_eq_true rfl, Nat.le_of_ble_eq_true rfl⟩) ⟨PreM.blind, hM.pre hK⟩ rfl rfl hl.1 rfl (lv_room (Nat.le_of_ble_eq_true rfl)) dX12_wrongKept_1 ⟨Nat.zero_le _, Nat.zero_le _⟩) ?_
  refine lv_if_ne (tgt := 11) S.1 S.2.1 dX12_wrongKept_4 (by decide) (fun b2 => ?_) (fun b2 => ?_)
  · have hF := (if_neg b2).symm.trans hF
    refine lv_aload_n S.1 S.2.1 dX12_wrongKept_11 rfl (lv_at hl 0 rfl) ?_
    refine r_getC S hK hM cfX12 0 13 7 (by decide) lm_0 rfl (by decide) tw_5_44 dX12_wrongKept_12 ?_
    refine lv_iload_n S.1 S.2.1 dX12_wrongKept_15 rfl (lv_at hl 1 rfl) ?_
    obtain ⟨hv3, v3, ev3, hF⟩ := rd_some hF
    refine r_iald S hK hM 7 (by decide) rfl hv3 ev3 dX12_wrongKept_16 ?_
    refine lv_if_ne (tgt := 25) S.1 S.2.1 dX12_wrongKept_17 (by decide) (fun b4 => ?_) (fun b4 => ?_)
    · have hF := (if_neg b4).symm.trans hF
      refine lv_aload_n S.1 S.2.1 dX12_wrongKept_25 rfl (lv_at hl 0 rfl) ?_
      refine r_getC S hK hM cfX12 0 13 7 (by decide) lm_0 rfl (by decide) tw_5_44 dX12_wrongKept_26 ?_
      refine lv_iload_n S.1 S.2.1 dX12_wrongKept_29 rfl (lv_at hl 1 rfl) ?_
      obtain ⟨hv5, v5, ev5, hF⟩ := rd_some hF
      refine r_iald S hK hM 7 (by decide) rfl hv5 ev5 dX12_wrongKept_30 ?_
      refine lv_iconst (v := 2) S.1 S.2.1 dX12_wrongKept_31 (by decide) ?_
      refine lv_icmp_ne (tgt := 40) S.1 S.2.1 dX12_wrongKept_32 (by decide) (fun b6 => ?_) (fun b6 => ?_)
      · have hF := (if_neg b6).symm.trans hF
        refine lv_iconst (v := 0) S.1 S.2.1 dX12_wrongKept_40 (by decide) ?_
        cases hF
        exact z_p S hr hlk rfl dX12_wrongKept_41
      · have hF := (if_pos b6).symm.trans hF
        refine lv_bipush (v := (-12)) S.1 S.2.1 dX12_wrongKept_35 (by decide) ?_
        refine lv_goto (tgt := 41) S.1 S.2.1 dX12_wrongKept_37 (by decide) ?_
        cases hF
        exact z_p S hr hlk rfl dX12_wrongKept_41
    · have hF := (if_pos b4).symm.trans hF
      refine lv_bipush (v := (-11)) S.1 S.2.1 dX12_wrongKept_20 (by decide) ?_
      refine lv_goto (tgt := 41) S.1 S.2.1 dX12_wrongKept_22 (by decide) ?_
      cases hF
      exact z_p S hr hlk rfl dX12_wrongKept_41
  · have hF := (if_pos b2).symm.trans hF
    refine lv_iconst (v := (-1)) S.1 S.2.1 dX12_wrongKept_7 (by decide) ?_
    refine lv_goto (tgt := 41) S.1 S.2.1 dX12_wrongKept_8 (by decide) ?_
    cases hF
    exact z_p S hr hlk rfl dX12_wrongKept_41
/-! X12_learns -/
def X12_learns (σ : IM) (a1 : Int32) : Option (Int32 × IM) := bd1 (X12_wrongKept σ a1) fun r1 => if r1 = 0 then (rd (σ 1) 42 0 fun v3 => if v3 = 8 then (some ((-2), σ)) else (rd (σ 8) 8 a1 fun v5 => rd (σ 9) 8 a1 fun v6 => bd1 (X12_adds σ v5 v6) fun σ7 => rd (σ7 1) 42 0 fun v10 => some (v10 - 1, σ7))) else (some (r1, σ))
set_option maxRecDepth 20000 in
theorem c_X12_learns {l : Launch} {g : GE} {A : Nat → Prop} {σ : IM} {a1 : Int32} {out : Int32 × IM} (hF : X12_learns σ a1 = some out) : Met l yX12_learns (.code yX12_learns cX12_learns 3 (some .int) :: UL) ({ frames := 3, cells := 0, slots := 0, locals := 63 }) (va_Pc [.ref (g.2.2 0), .int a1] (PreM lyM 13 g A [] σ nor)) (Qm lyM 13 g A [] out.2 nor (some (.int out.1))) 0 0 A := by
  refine e_of (by decide) (Nat.le_of_ble_eq_true rfl) ?_
  intro p e s m below meth c ls S hr hlk hv hl
  have hM := Mem.of hv
  have hK := hv.2.1
  have hl : lv_has ls 3 [(0, .ref (g.2.2 0)), (1, .int a1)] := hl
  unfold X12_learns at hF
  refine lv_aload_n S.1 S.2.1 dX12_learns_0 rfl (lv_at hl 0 rfl) ?_
  refine lv_iload_n S.1 S.2.1 dX12_learns_1 rfl (lv_at hl 1 rfl) ?_
  obtain ⟨r1, er1, hF⟩ := bd1_some hF
  refine k_p (va_runV (As := [.int a1]) (rest := []) S (c_X12_wrongKept   er1) (cwV 1 S.2.2.2.2 (ul_V tw_5_219 tw_5_221 ts_X12_wrongKept tw_1_12 cw_X12_wrongKept) rfl rfl rfl hv_X12_wrongKept ⟨Nat.le_of_ble_eq_true rfl, Nat.le_of_ble_eq_true rfl⟩) ⟨PreM.blind, hM.recv hK cfX12 0 (by decide) lm_0, hM.pre hK⟩ rfl rfl hl.1 rfl (lv_room (Nat.le_of_ble_eq_true rfl)) dX12_learns_2 ⟨Nat.zero_le _, Nat.zero_le _⟩) ?_
  refine lv_istore_n (lv' := [(2, .int r1), (0, .ref (g.2.2 0)), (1, .int a1)]) S.1 S.2.1 dX12_learns_5 rfl hl (by decide) rfl (fun ls hl => ?_)
  refine lv_iload_n S.1 S.2.1 dX12_learns_6 rfl (lv_at hl 0 rfl) ?_
  refine lv_if_eq (tgt := 12) S.1 S.2.1 dX12_learns_7 (by decide) (fun b2 => ?_) (fun b2 => ?_)
  · have hF := (if_pos b2).symm.trans hF
    refine lv_aload_n S.1 S.2.1 dX12_learns_12 rfl (lv_at hl 1 rfl) ?_
    refine r_getC S hK hM cfX12 0 0 1 (by decide) lm_0 rfl (by decide) tw_5_31 dX12_learns_13 ?_
    refine lv_iconst (v := 0) S.1 S.2.1 dX12_learns_16 (by decide) ?_
    obtain ⟨hv3, v3, ev3, hF⟩ := rd_some hF
    refine r_iald S hK hM 1 (by decide) rfl hv3 ev3 dX12_learns_17 ?_
    refine lv_bipush (v := 8) S.1 S.2.1 dX12_learns_18 (by decide) ?_
    refine lv_icmp_ne (tgt := 26) S.1 S.2.1 dX12_learns_20 (by decide) (fun b4 => ?_) (fun b4 => ?_)
    · have hF := (if_neg b4).symm.trans hF
      refine lv_aload_n S.1 S.2.1 dX12_learns_26 rfl (lv_at hl 1 rfl) ?_
      refine lv_aload_n S.1 S.2.1 dX12_learns_27 rfl (lv_at hl 1 rfl) ?_
      refine r_getC S hK hM cfX12 0 14 8 (by decide) lm_0 rfl (by decide) tw_5_45 dX12_learns_28 ?_
      refine lv_iload_n S.1 S.2.1 dX12_learns_31 rfl (lv_at hl 2 rfl) ?_
      obtain ⟨hv5, v5, ev5, hF⟩ := rd_some hF
      refine r_iald S hK hM 8 (by decide) rfl hv5 ev5 dX12_learns_32 ?_
      refine lv_aload_n S.1 S.2.1 dX12_learns_33 rfl (lv_at hl 1 rfl) ?_
      refine r_getC S hK hM cfX12 0 15 9 (by decide) lm_0 rfl (by decide) tw_5_46 dX12_learns_34 ?_
      refine lv_iload_n S.1 S.2.1 dX12_learns_37 rfl (lv_at hl 2 rfl) ?_
      obtain ⟨hv6, v6, ev6, hF⟩ := rd_some hF
      refine r_iald S hK hM 9 (by decide) rfl hv6 ev6 dX12_learns_38 ?_
      obtain ⟨σ7, er9, hF⟩ := bd1_some hF
      refine k_m (va_runV (As := [.int v5, .int v6]) (rest := []) S (c_X12_adds   er9) (cwV 2 S.2.2.2.2 (ul_V tw_5_125 tw_5_127 ts_X12_adds tw_1_12 cw_X12_adds) rfl rfl rfl hv_X12_adds ⟨Nat.le_of_ble_eq_true rfl, Nat.le_of_ble_eq_true rfl⟩) ⟨PreM.blind, hM.recv hK cfX12 0 (by decide) lm_0, hM.pre hK⟩ rfl rfl hl.1 rfl (lv_room (Nat.le_of_ble_eq_true rfl)) dX12_learns_39 ⟨Nat.zero_le _, Nat.zero_le _⟩) hM (fun H locs hM => ?_)
      show W _ _ _ _ _ _ _ _ _ _ _ _ _ _ _ (F0 m 42 ls [])
      refine lv_aload_n S.1 S.2.1 dX12_learns_42 rfl (lv_at hl 1 rfl) ?_
      refine r_getC S hK hM cfX12 0 0 1 (by decide) lm_0 rfl (by decide) tw_5_31 dX12_learns_43 ?_
      refine lv_iconst (v := 0) S.1 S.2.1 dX12_learns_46 (by decide) ?_
      obtain ⟨hv10, v10, ev10, hF⟩ := rd_some hF
      refine r_iald S hK hM 1 (by decide) rfl hv10 ev10 dX12_learns_47 ?_
      refine lv_iconst (v := 1) S.1 S.2.1 dX12_learns_48 (by decide) ?_
      refine lv_isub S.1 S.2.1 dX12_learns_49 ?_
      cases hF
      exact z_m (v := v10 - 1) S hM hr hlk rfl dX12_learns_50
    · have hF := (if_pos b4).symm.trans hF
      refine lv_bipush (v := (-2)) S.1 S.2.1 dX12_learns_23 (by decide) ?_
      cases hF
      exact z_m (v := (-2)) S hM hr hlk rfl dX12_learns_25
  · have hF := (if_neg b2).symm.trans hF
    refine lv_iload_n S.1 S.2.1 dX12_learns_10 rfl (lv_at hl 0 rfl) ?_
    cases hF
    exact z_m (v := r1) S hM hr hlk rfl dX12_learns_11
/-! X12_stands -/
def X12_stands (σ : IM) (a1 : Int32) (a2 : Int32) (a3 : Int32) : Option (Int32 × IM) := bd1 (X12_isPlayer a1) fun r1 => if r1 = 0 then (some ((-1), σ)) else (bd1 (X12_isCell a2) fun r3 => if r3 = 0 then (some ((-1), σ)) else (bd1 (X12_isIn a3 1 4) fun r5 => if r5 = 0 then (some ((-1), σ)) else (bd1 (X12_ofP a1 0) fun r7 => rd (σ 1) 42 r7 fun v8 => bd1 (X12_ofP a1 0) fun r9 => wr σ 1 42 r9 a2 fun σ10 => bd1 (X12_ofP a1 1) fun r11 => wr σ10 1 42 r11 a3 fun σ12 => some (v8, σ12))))
set_option maxRecDepth 20000 in
theorem c_X12_stands {l : Launch} {g : GE} {A : Nat → Prop} {σ : IM} {a1 : Int32} {a2 : Int32} {a3 : Int32} {out : Int32 × IM} (hF : X12_stands σ a1 a2 a3 = some out) : Met l yX12_stands (.code yX12_stands cX12_stands 5 (some .int) :: UL) ({ frames := 2, cells := 0, slots := 0, locals := 42 }) (va_Pc [.ref (g.2.2 0), .int a1, .int a2, .int a3] (PreM lyM 13 g A [] σ nor)) (Qm lyM 13 g A [] out.2 nor (some (.int out.1))) 0 0 A := by
  refine e_of (by decide) (Nat.le_of_ble_eq_true rfl) ?_
  intro p e s m below meth c ls S hr hlk hv hl
  have hM := Mem.of hv
  have hK := hv.2.1
  have hl : lv_has ls 5 [(0, .ref (g.2.2 0)), (1, .int a1), (2, .int a2), (3, .int a3)] := hl
  unfold X12_stands at hF
  refine lv_iload_n S.1 S.2.1 dX12_stands_0 rfl (lv_at hl 1 rfl) ?_
  obtain ⟨r1, er1, hF⟩ := bd1_some hF
  refine k_p (va_runS (As := [.int a1]) (rest := []) S (c_X12_isPlayer   er1) (va_cwS 1 S.2.2.2.2 (ul_S tw_5_132 tw_5_133 tw_1_12 cw_X12_isPlayer) rfl rfl rfl hs_X12_isPlayer ⟨Nat.le_of_ble_eq_true rfl, Nat.le_of_ble_eq_true rfl⟩) ⟨PreM.blind, hM.pre hK⟩ rfl rfl hl.1 rfl (lv_room (Nat.le_of_ble_eq_true rfl)) dX12_stands_1 ⟨Nat.zero_le _, Nat.zero_le _⟩) ?_
  refine lv_if_eq (tgt := 23) S.1 S.2.1 dX12_stands_4 (by decide) (fun b2 => ?_) (fun b2 => ?_)
  · have hF := (if_pos b2).symm.trans hF
    refine lv_iconst (v := (-1)) S.1 S.2.1 dX12_stands_23 (by decide) ?_
    cases hF
    exact z_m (v := (-1)) S hM hr hlk rfl dX12_stands_24
  · have hF := (if_neg b2).symm.trans hF
    refine lv_iload_n S.1 S.2.1 dX12_stands_7 rfl (lv_at hl 2 rfl) ?_
    obtain ⟨r3, er3, hF⟩ := bd1_some hF
    refine k_p (va_runS (As := [.int a2]) (rest := []) S (c_X12_isCell   er3) (va_cwS 1 S.2.2.2.2 (ul_S tw_5_135 tw_5_136 tw_1_12 cw_X12_isCell) rfl rfl rfl hs_X12_isCell ⟨Nat.le_of_ble_eq_true rfl, Nat.le_of_ble_eq_true rfl⟩) ⟨PreM.blind, hM.pre hK⟩ rfl rfl hl.1 rfl (lv_room (Nat.le_of_ble_eq_true rfl)) dX12_stands_8 ⟨Nat.zero_le _, Nat.zero_le _⟩) ?_
    refine lv_if_eq (tgt := 23) S.1 S.2.1 dX12_stands_11 (by decide) (fun b4 => ?_) (fun b4 => ?_)
    · have hF := (if_pos b4).symm.trans hF
      refine lv_iconst (v := (-1)) S.1 S.2.1 dX12_stands_23 (by decide) ?_
      cases hF
      exact z_m (v := (-1)) S hM hr hlk rfl dX12_stands_24
    · have hF := (if_neg b4).symm.trans hF
      refine lv_iload_n S.1 S.2.1 dX12_stands_14 rfl (lv_at hl 3 rfl) ?_
      refine lv_iconst (v := 1) S.1 S.2.1 dX12_stands_15 (by decide) ?_
      refine lv_iconst (v := 4) S.1 S.2.1 dX12_stands_16 (by decide) ?_
      obtain ⟨r5, er5, hF⟩ := bd1_some hF
      refine k_p (va_runS (As := [.int a3, .int 1, .int 4]) (rest := []) S (c_X12_isIn   er5) (va_cwS 3 S.2.2.2.2 (ul_S tw_5_103 tw_5_104 tw_1_12 cw_X12_isIn) rfl rfl rfl hs_X12_isIn ⟨Nat.le_of_ble_eq_true rfl, Nat.le_of_ble_eq_true rfl⟩) ⟨PreM.blind, hM.pre hK⟩ rfl rfl hl.1 rfl (lv_room (Nat.le_of_ble_eq_true rfl)) dX12_stands_17 ⟨Nat.zero_le _, Nat.zero_le _⟩) ?_
      refine lv_if_ne (tgt := 25) S.1 S.2.1 dX12_stands_20 (by decide) (fun b6 => ?_) (fun b6 => ?_)
      · have hF := (if_neg b6).symm.trans hF
        refine lv_aload_n S.1 S.2.1 dX12_stands_25 rfl (lv_at hl 0 rfl) ?_
        refine r_getC S hK hM cfX12 0 0 1 (by decide) lm_0 rfl (by decide) tw_5_31 dX12_stands_26 ?_
        refine lv_iload_n S.1 S.2.1 dX12_stands_29 rfl (lv_at hl 1 rfl) ?_
        refine lv_iconst (v := 0) S.1 S.2.1 dX12_stands_30 (by decide) ?_
        obtain ⟨r7, er7, hF⟩ := bd1_some hF
        refine k_p (va_runS (As := [.int a1, .int 0]) (rest := [.ref (g.2.2 1)]) S (c_X12_ofP   er7) (va_cwS 2 S.2.2.2.2 (ul_S tw_5_25 tw_5_26 tw_1_12 cw_X12_ofP) rfl rfl rfl hs_X12_ofP ⟨Nat.le_of_ble_eq_true rfl, Nat.le_of_ble_eq_true rfl⟩) ⟨PreM.blind, hM.pre hK⟩ rfl rfl hl.1 rfl (lv_room (Nat.le_of_ble_eq_true rfl)) dX12_stands_31 ⟨Nat.zero_le _, Nat.zero_le _⟩) ?_
        obtain ⟨hv8, v8, ev8, hF⟩ := rd_some hF
        refine r_iald S hK hM 1 (by decide) rfl hv8 ev8 dX12_stands_34 ?_
        refine lv_istore (lv' := [(4, .int v8), (0, .ref (g.2.2 0)), (1, .int a1), (2, .int a2), (3, .int a3)]) S.1 S.2.1 dX12_stands_35 hl (by decide) rfl (fun ls hl => ?_)
        refine lv_aload_n S.1 S.2.1 dX12_stands_37 rfl (lv_at hl 1 rfl) ?_
        refine r_getC S hK hM cfX12 0 0 1 (by decide) lm_0 rfl (by decide) tw_5_31 dX12_stands_38 ?_
        refine lv_iload_n S.1 S.2.1 dX12_stands_41 rfl (lv_at hl 2 rfl) ?_
        refine lv_iconst (v := 0) S.1 S.2.1 dX12_stands_42 (by decide) ?_
        obtain ⟨r9, er9, hF⟩ := bd1_some hF
        refine k_p (va_runS (As := [.int a1, .int 0]) (rest := [.ref (g.2.2 1)]) S (c_X12_ofP   er9) (va_cwS 2 S.2.2.2.2 (ul_S tw_5_25 tw_5_26 tw_1_12 cw_X12_ofP) rfl rfl rfl hs_X12_ofP ⟨Nat.le_of_ble_eq_true rfl, Nat.le_of_ble_eq_true rfl⟩) ⟨PreM.blind, hM.pre hK⟩ rfl rfl hl.1 rfl (lv_room (Nat.le_of_ble_eq_true rfl)) dX12_stands_43 ⟨Nat.zero_le _, Nat.zero_le _⟩) ?_
        refine lv_iload_n S.1 S.2.1 dX12_stands_46 rfl (lv_at hl 3 rfl) ?_
        obtain ⟨hσ10, σ10, eσ10, hF⟩ := wr_some hF
        refine r_iast S hK hM 1 (by decide) rfl hσ10 eσ10 dX12_stands_47 (fun H locs hM => ?_)
        refine lv_aload_n S.1 S.2.1 dX12_stands_48 rfl (lv_at hl 1 rfl) ?_
        refine r_getC S hK hM cfX12 0 0 1 (by decide) lm_0 rfl (by decide) tw_5_31 dX12_stands_49 ?_
        refine lv_iload_n S.1 S.2.1 dX12_stands_52 rfl (lv_at hl 2 rfl) ?_
        refine lv_iconst (v := 1) S.1 S.2.1 dX12_stands_53 (by decide) ?_
        obtain ⟨r11, er11, hF⟩ := bd1_some hF
        refine k_p (va_runS (As := [.int a1, .int 1]) (rest := [.ref (g.2.2 1)]) S (c_X12_ofP   er11) (va_cwS 2 S.2.2.2.2 (ul_S tw_5_25 tw_5_26 tw_1_12 cw_X12_ofP) rfl rfl rfl hs_X12_ofP ⟨Nat.le_of_ble_eq_true rfl, Nat.le_of_ble_eq_true rfl⟩) ⟨PreM.blind, hM.pre hK⟩ rfl rfl hl.1 rfl (lv_room (Nat.le_of_ble_eq_true rfl)) dX12_stands_54 ⟨Nat.zero_le _, Nat.zero_le _⟩) ?_
        refine lv_iload_n S.1 S.2.1 dX12_stands_57 rfl (lv_at hl 4 rfl) ?_
        obtain ⟨hσ12, σ12, eσ12, hF⟩ := wr_some hF
        refine r_iast S hK hM 1 (by decide) rfl hσ12 eσ12 dX12_stands_58 (fun H locs hM => ?_)
        refine lv_iload S.1 S.2.1 dX12_stands_59 (lv_at hl 0 rfl) ?_
        cases hF
        exact z_m (v := v8) S hM hr hlk rfl dX12_stands_61
      · have hF := (if_pos b6).symm.trans hF
        refine lv_iconst (v := (-1)) S.1 S.2.1 dX12_stands_23 (by decide) ?_
        cases hF
        exact z_m (v := (-1)) S hM hr hlk rfl dX12_stands_24
/-! X12_tires -/
def X12_tires (σ : IM) (a1 : Int32) (a2 : Int32) : Option (Int32 × IM) := bd1 (X12_isPlayer a1) fun r1 => if r1 = 0 then (some ((-1), σ)) else (bd1 (X12_isIn a2 0 99) fun r3 => if r3 = 0 then (some ((-1), σ)) else (bd1 (X12_ofP a1 2) fun r5 => rd (σ 1) 42 r5 fun v6 => bd1 (X12_ofP a1 2) fun r7 => wr σ 1 42 r7 a2 fun σ8 => some (v6, σ8)))
set_option maxRecDepth 20000 in
theorem c_X12_tires {l : Launch} {g : GE} {A : Nat → Prop} {σ : IM} {a1 : Int32} {a2 : Int32} {out : Int32 × IM} (hF : X12_tires σ a1 a2 = some out) : Met l yX12_tires (.code yX12_tires cX12_tires 4 (some .int) :: UL) ({ frames := 2, cells := 0, slots := 0, locals := 42 }) (va_Pc [.ref (g.2.2 0), .int a1, .int a2] (PreM lyM 13 g A [] σ nor)) (Qm lyM 13 g A [] out.2 nor (some (.int out.1))) 0 0 A := by
  refine e_of (by decide) (Nat.le_of_ble_eq_true rfl) ?_
  intro p e s m below meth c ls S hr hlk hv hl
  have hM := Mem.of hv
  have hK := hv.2.1
  have hl : lv_has ls 4 [(0, .ref (g.2.2 0)), (1, .int a1), (2, .int a2)] := hl
  unfold X12_tires at hF
  refine lv_iload_n S.1 S.2.1 dX12_tires_0 rfl (lv_at hl 1 rfl) ?_
  obtain ⟨r1, er1, hF⟩ := bd1_some hF
  refine k_p (va_runS (As := [.int a1]) (rest := []) S (c_X12_isPlayer   er1) (va_cwS 1 S.2.2.2.2 (ul_S tw_5_132 tw_5_133 tw_1_12 cw_X12_isPlayer) rfl rfl rfl hs_X12_isPlayer ⟨Nat.le_of_ble_eq_true rfl, Nat.le_of_ble_eq_true rfl⟩) ⟨PreM.blind, hM.pre hK⟩ rfl rfl hl.1 rfl (lv_room (Nat.le_of_ble_eq_true rfl)) dX12_tires_1 ⟨Nat.zero_le _, Nat.zero_le _⟩) ?_
  refine lv_if_eq (tgt := 17) S.1 S.2.1 dX12_tires_4 (by decide) (fun b2 => ?_) (fun b2 => ?_)
  · have hF := (if_pos b2).symm.trans hF
    refine lv_iconst (v := (-1)) S.1 S.2.1 dX12_tires_17 (by decide) ?_
    cases hF
    exact z_m (v := (-1)) S hM hr hlk rfl dX12_tires_18
  · have hF := (if_neg b2).symm.trans hF
    refine lv_iload_n S.1 S.2.1 dX12_tires_7 rfl (lv_at hl 2 rfl) ?_
    refine lv_iconst (v := 0) S.1 S.2.1 dX12_tires_8 (by decide) ?_
    refine lv_bipush (v := 99) S.1 S.2.1 dX12_tires_9 (by decide) ?_
    obtain ⟨r3, er3, hF⟩ := bd1_some hF
    refine k_p (va_runS (As := [.int a2, .int 0, .int 99]) (rest := []) S (c_X12_isIn   er3) (va_cwS 3 S.2.2.2.2 (ul_S tw_5_103 tw_5_104 tw_1_12 cw_X12_isIn) rfl rfl rfl hs_X12_isIn ⟨Nat.le_of_ble_eq_true rfl, Nat.le_of_ble_eq_true rfl⟩) ⟨PreM.blind, hM.pre hK⟩ rfl rfl hl.1 rfl (lv_room (Nat.le_of_ble_eq_true rfl)) dX12_tires_11 ⟨Nat.zero_le _, Nat.zero_le _⟩) ?_
    refine lv_if_ne (tgt := 19) S.1 S.2.1 dX12_tires_14 (by decide) (fun b4 => ?_) (fun b4 => ?_)
    · have hF := (if_neg b4).symm.trans hF
      refine lv_aload_n S.1 S.2.1 dX12_tires_19 rfl (lv_at hl 0 rfl) ?_
      refine r_getC S hK hM cfX12 0 0 1 (by decide) lm_0 rfl (by decide) tw_5_31 dX12_tires_20 ?_
      refine lv_iload_n S.1 S.2.1 dX12_tires_23 rfl (lv_at hl 1 rfl) ?_
      refine lv_iconst (v := 2) S.1 S.2.1 dX12_tires_24 (by decide) ?_
      obtain ⟨r5, er5, hF⟩ := bd1_some hF
      refine k_p (va_runS (As := [.int a1, .int 2]) (rest := [.ref (g.2.2 1)]) S (c_X12_ofP   er5) (va_cwS 2 S.2.2.2.2 (ul_S tw_5_25 tw_5_26 tw_1_12 cw_X12_ofP) rfl rfl rfl hs_X12_ofP ⟨Nat.le_of_ble_eq_true rfl, Nat.le_of_ble_eq_true rfl⟩) ⟨PreM.blind, hM.pre hK⟩ rfl rfl hl.1 rfl (lv_room (Nat.le_of_ble_eq_true rfl)) dX12_tires_25 ⟨Nat.zero_le _, Nat.zero_le _⟩) ?_
      obtain ⟨hv6, v6, ev6, hF⟩ := rd_some hF
      refine r_iald S hK hM 1 (by decide) rfl hv6 ev6 dX12_tires_28 ?_
      refine lv_istore_n (lv' := [(3, .int v6), (0, .ref (g.2.2 0)), (1, .int a1), (2, .int a2)]) S.1 S.2.1 dX12_tires_29 rfl hl (by decide) rfl (fun ls hl => ?_)
      refine lv_aload_n S.1 S.2.1 dX12_tires_30 rfl (lv_at hl 1 rfl) ?_
      refine r_getC S hK hM cfX12 0 0 1 (by decide) lm_0 rfl (by decide) tw_5_31 dX12_tires_31 ?_
      refine lv_iload_n S.1 S.2.1 dX12_tires_34 rfl (lv_at hl 2 rfl) ?_
      refine lv_iconst (v := 2) S.1 S.2.1 dX12_tires_35 (by decide) ?_
      obtain ⟨r7, er7, hF⟩ := bd1_some hF
      refine k_p (va_runS (As := [.int a1, .int 2]) (rest := [.ref (g.2.2 1)]) S (c_X12_ofP   er7) (va_cwS 2 S.2.2.2.2 (ul_S tw_5_25 tw_5_26 tw_1_12 cw_X12_ofP) rfl rfl rfl hs_X12_ofP ⟨Nat.le_of_ble_eq_true rfl, Nat.le_of_ble_eq_true rfl⟩) ⟨PreM.blind, hM.pre hK⟩ rfl rfl hl.1 rfl (lv_room (Nat.le_of_ble_eq_true rfl)) dX12_tires_36 ⟨Nat.zero_le _, Nat.zero_le _⟩) ?_
      refine lv_iload_n S.1 S.2.1 dX12_tires_39 rfl (lv_at hl 3 rfl) ?_
      obtain ⟨hσ8, σ8, eσ8, hF⟩ := wr_some hF
      refine r_iast S hK hM 1 (by decide) rfl hσ8 eσ8 dX12_tires_40 (fun H locs hM => ?_)
      refine lv_iload_n S.1 S.2.1 dX12_tires_41 rfl (lv_at hl 0 rfl) ?_
      cases hF
      exact z_m (v := v6) S hM hr hlk rfl dX12_tires_42
    · have hF := (if_pos b4).symm.trans hF
      refine lv_iconst (v := (-1)) S.1 S.2.1 dX12_tires_17 (by decide) ?_
      cases hF
      exact z_m (v := (-1)) S hM hr hlk rfl dX12_tires_18
/-! X12_hands -/
def X12_hands (σ : IM) (a1 : Int32) : Option (Int32 × IM) := bd1 (X12_isPlayer a1) fun r1 => if r1 = 0 then (some ((-1), σ)) else (bd1 (X12_ofP a1 3) fun r3 => rd (σ 1) 42 r3 fun v4 => wr σ 1 42 r3 (v4 ^^^ 1) fun σ5 => bd1 (X12_ofP a1 3) fun r6 => rd (σ5 1) 42 r6 fun v7 => some (v7, σ5))
set_option maxRecDepth 20000 in
theorem c_X12_hands {l : Launch} {g : GE} {A : Nat → Prop} {σ : IM} {a1 : Int32} {out : Int32 × IM} (hF : X12_hands σ a1 = some out) : Met l yX12_hands (.code yX12_hands cX12_hands 2 (some .int) :: UL) ({ frames := 2, cells := 0, slots := 0, locals := 42 }) (va_Pc [.ref (g.2.2 0), .int a1] (PreM lyM 13 g A [] σ nor)) (Qm lyM 13 g A [] out.2 nor (some (.int out.1))) 0 0 A := by
  refine e_of (by decide) (Nat.le_of_ble_eq_true rfl) ?_
  intro p e s m below meth c ls S hr hlk hv hl
  have hM := Mem.of hv
  have hK := hv.2.1
  have hl : lv_has ls 2 [(0, .ref (g.2.2 0)), (1, .int a1)] := hl
  unfold X12_hands at hF
  refine lv_iload_n S.1 S.2.1 dX12_hands_0 rfl (lv_at hl 1 rfl) ?_
  obtain ⟨r1, er1, hF⟩ := bd1_some hF
  refine k_p (va_runS (As := [.int a1]) (rest := []) S (c_X12_isPlayer   er1) (va_cwS 1 S.2.2.2.2 (ul_S tw_5_132 tw_5_133 tw_1_12 cw_X12_isPlayer) rfl rfl rfl hs_X12_isPlayer ⟨Nat.le_of_ble_eq_true rfl, Nat.le_of_ble_eq_true rfl⟩) ⟨PreM.blind, hM.pre hK⟩ rfl rfl hl.1 rfl (lv_room (Nat.le_of_ble_eq_true rfl)) dX12_hands_1 ⟨Nat.zero_le _, Nat.zero_le _⟩) ?_
  refine lv_if_ne (tgt := 9) S.1 S.2.1 dX12_hands_4 (by decide) (fun b2 => ?_) (fun b2 => ?_)
  · have hF := (if_neg b2).symm.trans hF
    refine lv_aload_n S.1 S.2.1 dX12_hands_9 rfl (lv_at hl 0 rfl) ?_
    refine r_getC S hK hM cfX12 0 0 1 (by decide) lm_0 rfl (by decide) tw_5_31 dX12_hands_10 ?_
    refine lv_iload_n S.1 S.2.1 dX12_hands_13 rfl (lv_at hl 1 rfl) ?_
    refine lv_iconst (v := 3) S.1 S.2.1 dX12_hands_14 (by decide) ?_
    obtain ⟨r3, er3, hF⟩ := bd1_some hF
    refine k_p (va_runS (As := [.int a1, .int 3]) (rest := [.ref (g.2.2 1)]) S (c_X12_ofP   er3) (va_cwS 2 S.2.2.2.2 (ul_S tw_5_25 tw_5_26 tw_1_12 cw_X12_ofP) rfl rfl rfl hs_X12_ofP ⟨Nat.le_of_ble_eq_true rfl, Nat.le_of_ble_eq_true rfl⟩) ⟨PreM.blind, hM.pre hK⟩ rfl rfl hl.1 rfl (lv_room (Nat.le_of_ble_eq_true rfl)) dX12_hands_15 ⟨Nat.zero_le _, Nat.zero_le _⟩) ?_
    refine lv_dup2_11 S.1 S.2.1 dX12_hands_18 rfl rfl ?_
    obtain ⟨hv4, v4, ev4, hF⟩ := rd_some hF
    refine r_iald S hK hM 1 (by decide) rfl hv4 ev4 dX12_hands_19 ?_
    refine lv_iconst (v := 1) S.1 S.2.1 dX12_hands_20 (by decide) ?_
    refine lv_ixor S.1 S.2.1 dX12_hands_21 ?_
    obtain ⟨hσ5, σ5, eσ5, hF⟩ := wr_some hF
    refine r_iast S hK hM 1 (by decide) rfl hσ5 eσ5 dX12_hands_22 (fun H locs hM => ?_)
    refine lv_aload_n S.1 S.2.1 dX12_hands_23 rfl (lv_at hl 0 rfl) ?_
    refine r_getC S hK hM cfX12 0 0 1 (by decide) lm_0 rfl (by decide) tw_5_31 dX12_hands_24 ?_
    refine lv_iload_n S.1 S.2.1 dX12_hands_27 rfl (lv_at hl 1 rfl) ?_
    refine lv_iconst (v := 3) S.1 S.2.1 dX12_hands_28 (by decide) ?_
    obtain ⟨r6, er6, hF⟩ := bd1_some hF
    refine k_p (va_runS (As := [.int a1, .int 3]) (rest := [.ref (g.2.2 1)]) S (c_X12_ofP   er6) (va_cwS 2 S.2.2.2.2 (ul_S tw_5_25 tw_5_26 tw_1_12 cw_X12_ofP) rfl rfl rfl hs_X12_ofP ⟨Nat.le_of_ble_eq_true rfl, Nat.le_of_ble_eq_true rfl⟩) ⟨PreM.blind, hM.pre hK⟩ rfl rfl hl.1 rfl (lv_room (Nat.le_of_ble_eq_true rfl)) dX12_hands_29 ⟨Nat.zero_le _, Nat.zero_le _⟩) ?_
    obtain ⟨hv7, v7, ev7, hF⟩ := rd_some hF
    refine r_iald S hK hM 1 (by decide) rfl hv7 ev7 dX12_hands_32 ?_
    cases hF
    exact z_m (v := v7) S hM hr hlk rfl dX12_hands_33
  · have hF := (if_pos b2).symm.trans hF
    refine lv_iconst (v := (-1)) S.1 S.2.1 dX12_hands_7 (by decide) ?_
    cases hF
    exact z_m (v := (-1)) S hM hr hlk rfl dX12_hands_8
/-! X12_forms -/
def X12_forms_b29 (x1 : Int32) (x2 : Int32) (x3 : Int32) (t0 : Int32) (t1 : Int32) (t2 : Int32) (σ : IM) : Option (Int32 × IM) := bd1 (X12_isIn t2 t1 t0) fun r6 => if r6 = 0 then (some ((-1), σ)) else (bd1 (X12_ofSide x1 x2) fun r8 => rd (σ 1) 42 r8 fun v9 => bd1 (X12_ofSide x1 x2) fun r10 => wr σ 1 42 r10 x3 fun σ11 => some (v9, σ11))
set_option maxRecDepth 20000 in
theorem w_X12_forms_29 {l : Launch} {g : GE} {A : Nat → Prop} {p : Program} {e : Env} {s : State} {m : MethodId} {args : Array Value} {below : List Frame} {meth : Method} {c : Code} (S : CallFix p m c cX12_forms 5 s args UL RX12) (hK : KK g s) (hr : meth.sig.returnType = (some .int)) (hlk : meth.locks = false) {out : Int32 × IM} : ∀ {x1 : Int32} {x2 : Int32} {x3 : Int32} {t0 : Int32} {t1 : Int32} {t2 : Int32} {σ : IM} {H : Heap} {locs : List Loc} {ls : Array Slot}, Mem lyM 13 g A [] σ nor s.heap H locs → lv_has ls 5 [(0, .ref (g.2.2 0)), (1, .int x1), (2, .int x2), (3, .int x3)] → X12_forms_b29 x1 x2 x3 t0 t1 t2 σ = some out → W p l e ({ frames := 1, cells := 0, slots := 0, locals := 22 }) s m args below meth c H locs 0 0 (MQ below (Qm lyM 13 g A [] out.2 nor (some (.int out.1))) args s 0 0 A) (F0 m 29 ls [.int t0, .int t1, .int t2]) := by
  intro x1 x2 x3 t0 t1 t2 σ H locs ls hM hl hF
  unfold X12_forms_b29 at hF
  obtain ⟨r6, er6, hF⟩ := bd1_some hF
  refine k_p (va_runS (As := [.int t2, .int t1, .int t0]) (rest := []) S (c_X12_isIn   er6) (va_cwS 3 S.2.2.2.2 (ul_S tw_5_103 tw_5_104 tw_1_12 cw_X12_isIn) rfl rfl rfl hs_X12_isIn ⟨Nat.le_of_ble_eq_true rfl, Nat.le_of_ble_eq_true rfl⟩) ⟨PreM.blind, hM.pre hK⟩ rfl rfl hl.1 rfl (lv_room (Nat.le_of_ble_eq_true rfl)) dX12_forms_29 ⟨Nat.zero_le _, Nat.zero_le _⟩) ?_
  refine lv_if_ne (tgt := 37) S.1 S.2.1 dX12_forms_32 (by decide) (fun b7 => ?_) (fun b7 => ?_)
  · have hF := (if_neg b7).symm.trans hF
    refine lv_aload_n S.1 S.2.1 dX12_forms_37 rfl (lv_at hl 0 rfl) ?_
    refine r_getC S hK hM cfX12 0 0 1 (by decide) lm_0 rfl (by decide) tw_5_31 dX12_forms_38 ?_
    refine lv_iload_n S.1 S.2.1 dX12_forms_41 rfl (lv_at hl 1 rfl) ?_
    refine lv_iload_n S.1 S.2.1 dX12_forms_42 rfl (lv_at hl 2 rfl) ?_
    obtain ⟨r8, er8, hF⟩ := bd1_some hF
    refine k_p (va_runS (As := [.int x1, .int x2]) (rest := [.ref (g.2.2 1)]) S (c_X12_ofSide   er8) (va_cwS 2 S.2.2.2.2 (ul_S tw_5_28 tw_5_29 tw_1_12 cw_X12_ofSide) rfl rfl rfl hs_X12_ofSide ⟨Nat.le_of_ble_eq_true rfl, Nat.le_of_ble_eq_true rfl⟩) ⟨PreM.blind, hM.pre hK⟩ rfl rfl hl.1 rfl (lv_room (Nat.le_of_ble_eq_true rfl)) dX12_forms_43 ⟨Nat.zero_le _, Nat.zero_le _⟩) ?_
    obtain ⟨hv9, v9, ev9, hF⟩ := rd_some hF
    refine r_iald S hK hM 1 (by decide) rfl hv9 ev9 dX12_forms_46 ?_
    refine lv_istore (lv' := [(4, .int v9), (0, .ref (g.2.2 0)), (1, .int x1), (2, .int x2), (3, .int x3)]) S.1 S.2.1 dX12_forms_47 hl (by decide) rfl (fun ls hl => ?_)
    refine lv_aload_n S.1 S.2.1 dX12_forms_49 rfl (lv_at hl 1 rfl) ?_
    refine r_getC S hK hM cfX12 0 0 1 (by decide) lm_0 rfl (by decide) tw_5_31 dX12_forms_50 ?_
    refine lv_iload_n S.1 S.2.1 dX12_forms_53 rfl (lv_at hl 2 rfl) ?_
    refine lv_iload_n S.1 S.2.1 dX12_forms_54 rfl (lv_at hl 3 rfl) ?_
    obtain ⟨r10, er10, hF⟩ := bd1_some hF
    refine k_p (va_runS (As := [.int x1, .int x2]) (rest := [.ref (g.2.2 1)]) S (c_X12_ofSide   er10) (va_cwS 2 S.2.2.2.2 (ul_S tw_5_28 tw_5_29 tw_1_12 cw_X12_ofSide) rfl rfl rfl hs_X12_ofSide ⟨Nat.le_of_ble_eq_true rfl, Nat.le_of_ble_eq_true rfl⟩) ⟨PreM.blind, hM.pre hK⟩ rfl rfl hl.1 rfl (lv_room (Nat.le_of_ble_eq_true rfl)) dX12_forms_55 ⟨Nat.zero_le _, Nat.zero_le _⟩) ?_
    refine lv_iload_n S.1 S.2.1 dX12_forms_58 rfl (lv_at hl 4 rfl) ?_
    obtain ⟨hσ11, σ11, eσ11, hF⟩ := wr_some hF
    refine r_iast S hK hM 1 (by decide) rfl hσ11 eσ11 dX12_forms_59 (fun H locs hM => ?_)
    refine lv_iload S.1 S.2.1 dX12_forms_60 (lv_at hl 0 rfl) ?_
    cases hF
    exact z_m (v := v9) S hM hr hlk rfl dX12_forms_62
  · have hF := (if_pos b7).symm.trans hF
    refine lv_iconst (v := (-1)) S.1 S.2.1 dX12_forms_35 (by decide) ?_
    cases hF
    exact z_m (v := (-1)) S hM hr hlk rfl dX12_forms_36
def X12_forms (σ : IM) (a1 : Int32) (a2 : Int32) (a3 : Int32) : Option (Int32 × IM) := bd1 (X12_isIn a1 0 1) fun r1 => if r1 = 0 then (some ((-1), σ)) else (bd1 (X12_isIn a2 0 1) fun r3 => if r3 = 0 then (some ((-1), σ)) else (if a2 = 0 then (X12_forms_b29 a1 a2 a3 1 0 a3 σ) else (X12_forms_b29 a1 a2 a3 3 0 a3 σ)))
set_option maxRecDepth 20000 in
theorem c_X12_forms {l : Launch} {g : GE} {A : Nat → Prop} {σ : IM} {a1 : Int32} {a2 : Int32} {a3 : Int32} {out : Int32 × IM} (hF : X12_forms σ a1 a2 a3 = some out) : Met l yX12_forms (.code yX12_forms cX12_forms 5 (some .int) :: UL) ({ frames := 1, cells := 0, slots := 0, locals := 22 }) (va_Pc [.ref (g.2.2 0), .int a1, .int a2, .int a3] (PreM lyM 13 g A [] σ nor)) (Qm lyM 13 g A [] out.2 nor (some (.int out.1))) 0 0 A := by
  refine e_of (by decide) (Nat.le_of_ble_eq_true rfl) ?_
  intro p e s m below meth c ls S hr hlk hv hl
  have hM := Mem.of hv
  have hK := hv.2.1
  have hl : lv_has ls 5 [(0, .ref (g.2.2 0)), (1, .int a1), (2, .int a2), (3, .int a3)] := hl
  unfold X12_forms at hF
  refine lv_iload_n S.1 S.2.1 dX12_forms_0 rfl (lv_at hl 1 rfl) ?_
  refine lv_iconst (v := 0) S.1 S.2.1 dX12_forms_1 (by decide) ?_
  refine lv_iconst (v := 1) S.1 S.2.1 dX12_forms_2 (by decide) ?_
  obtain ⟨r1, er1, hF⟩ := bd1_some hF
  refine k_p (va_runS (As := [.int a1, .int 0, .int 1]) (rest := []) S (c_X12_isIn   er1) (va_cwS 3 S.2.2.2.2 (ul_S tw_5_103 tw_5_104 tw_1_12 cw_X12_isIn) rfl rfl rfl hs_X12_isIn ⟨Nat.le_of_ble_eq_true rfl, Nat.le_of_ble_eq_true rfl⟩) ⟨PreM.blind, hM.pre hK⟩ rfl rfl hl.1 rfl (lv_room (Nat.le_of_ble_eq_true rfl)) dX12_forms_3 ⟨Nat.zero_le _, Nat.zero_le _⟩) ?_
  refine lv_if_eq (tgt := 35) S.1 S.2.1 dX12_forms_6 (by decide) (fun b2 => ?_) (fun b2 => ?_)
  · have hF := (if_pos b2).symm.trans hF
    refine lv_iconst (v := (-1)) S.1 S.2.1 dX12_forms_35 (by decide) ?_
    cases hF
    exact z_m (v := (-1)) S hM hr hlk rfl dX12_forms_36
  · have hF := (if_neg b2).symm.trans hF
    refine lv_iload_n S.1 S.2.1 dX12_forms_9 rfl (lv_at hl 2 rfl) ?_
    refine lv_iconst (v := 0) S.1 S.2.1 dX12_forms_10 (by decide) ?_
    refine lv_iconst (v := 1) S.1 S.2.1 dX12_forms_11 (by decide) ?_
    obtain ⟨r3, er3, hF⟩ := bd1_some hF
    refine k_p (va_runS (As := [.int a2, .int 0, .int 1]) (rest := []) S (c_X12_isIn   er3) (va_cwS 3 S.2.2.2.2 (ul_S tw_5_103 tw_5_104 tw_1_12 cw_X12_isIn) rfl rfl rfl hs_X12_isIn ⟨Nat.le_of_ble_eq_true rfl, Nat.le_of_ble_eq_true rfl⟩) ⟨PreM.blind, hM.pre hK⟩ rfl rfl hl.1 rfl (lv_room (Nat.le_of_ble_eq_true rfl)) dX12_forms_12 ⟨Nat.zero_le _, Nat.zero_le _⟩) ?_
    refine lv_if_eq (tgt := 35) S.1 S.2.1 dX12_forms_15 (by decide) (fun b4 => ?_) (fun b4 => ?_)
    · have hF := (if_pos b4).symm.trans hF
      refine lv_iconst (v := (-1)) S.1 S.2.1 dX12_forms_35 (by decide) ?_
      cases hF
      exact z_m (v := (-1)) S hM hr hlk rfl dX12_forms_36
    · have hF := (if_neg b4).symm.trans hF
      refine lv_iload_n S.1 S.2.1 dX12_forms_18 rfl (lv_at hl 3 rfl) ?_
      refine lv_iconst (v := 0) S.1 S.2.1 dX12_forms_19 (by decide) ?_
      refine lv_iload_n S.1 S.2.1 dX12_forms_20 rfl (lv_at hl 2 rfl) ?_
      refine lv_if_ne (tgt := 28) S.1 S.2.1 dX12_forms_21 (by decide) (fun b5 => ?_) (fun b5 => ?_)
      · have hF := (if_neg b5).symm.trans hF
        refine lv_iconst (v := 3) S.1 S.2.1 dX12_forms_28 (by decide) ?_
        exact w_X12_forms_29 S hK hr hlk hM (lv_sub hl [0, 1, 2, 3] rfl) hF
      · have hF := (if_pos b5).symm.trans hF
        refine lv_iconst (v := 1) S.1 S.2.1 dX12_forms_24 (by decide) ?_
        refine lv_goto (tgt := 29) S.1 S.2.1 dX12_forms_25 (by decide) ?_
        exact w_X12_forms_29 S hK hr hlk hM (lv_sub hl [0, 1, 2, 3] rfl) hF
/-! X12_blows -/
def X12_blows (σ : IM) (a1 : Int32) : Option (Int32 × IM) := bd1 (X12_isIn a1 0 2) fun r1 => if r1 = 0 then (some ((-1), σ)) else (rd (σ 1) 42 3 fun v3 => bd (v3 + 1) fun v4 => wr σ 1 42 3 (a1 - 1) fun σ5 => some (v4, σ5))
set_option maxRecDepth 20000 in
theorem c_X12_blows {l : Launch} {g : GE} {A : Nat → Prop} {σ : IM} {a1 : Int32} {out : Int32 × IM} (hF : X12_blows σ a1 = some out) : Met l yX12_blows (.code yX12_blows cX12_blows 3 (some .int) :: UL) ({ frames := 1, cells := 0, slots := 0, locals := 22 }) (va_Pc [.ref (g.2.2 0), .int a1] (PreM lyM 13 g A [] σ nor)) (Qm lyM 13 g A [] out.2 nor (some (.int out.1))) 0 0 A := by
  refine e_of (by decide) (Nat.le_of_ble_eq_true rfl) ?_
  intro p e s m below meth c ls S hr hlk hv hl
  have hM := Mem.of hv
  have hK := hv.2.1
  have hl : lv_has ls 3 [(0, .ref (g.2.2 0)), (1, .int a1)] := hl
  unfold X12_blows at hF
  refine lv_iload_n S.1 S.2.1 dX12_blows_0 rfl (lv_at hl 1 rfl) ?_
  refine lv_iconst (v := 0) S.1 S.2.1 dX12_blows_1 (by decide) ?_
  refine lv_iconst (v := 2) S.1 S.2.1 dX12_blows_2 (by decide) ?_
  obtain ⟨r1, er1, hF⟩ := bd1_some hF
  refine k_p (va_runS (As := [.int a1, .int 0, .int 2]) (rest := []) S (c_X12_isIn   er1) (va_cwS 3 S.2.2.2.2 (ul_S tw_5_103 tw_5_104 tw_1_12 cw_X12_isIn) rfl rfl rfl hs_X12_isIn ⟨Nat.le_of_ble_eq_true rfl, Nat.le_of_ble_eq_true rfl⟩) ⟨PreM.blind, hM.pre hK⟩ rfl rfl hl.1 rfl (lv_room (Nat.le_of_ble_eq_true rfl)) dX12_blows_3 ⟨Nat.zero_le _, Nat.zero_le _⟩) ?_
  refine lv_if_ne (tgt := 11) S.1 S.2.1 dX12_blows_6 (by decide) (fun b2 => ?_) (fun b2 => ?_)
  · have hF := (if_neg b2).symm.trans hF
    refine lv_aload_n S.1 S.2.1 dX12_blows_11 rfl (lv_at hl 0 rfl) ?_
    refine r_getC S hK hM cfX12 0 0 1 (by decide) lm_0 rfl (by decide) tw_5_31 dX12_blows_12 ?_
    refine lv_iconst (v := 3) S.1 S.2.1 dX12_blows_15 (by decide) ?_
    obtain ⟨hv3, v3, ev3, hF⟩ := rd_some hF
    refine r_iald S hK hM 1 (by decide) rfl hv3 ev3 dX12_blows_16 ?_
    refine lv_iconst (v := 1) S.1 S.2.1 dX12_blows_17 (by decide) ?_
    refine lv_iadd S.1 S.2.1 dX12_blows_18 ?_
    refine lv_topi (fun v4 ev4 => ?_)
    have hF := bd_at ev4 hF
    refine lv_istore_n (lv' := [(2, .int v4), (0, .ref (g.2.2 0)), (1, .int a1)]) S.1 S.2.1 dX12_blows_19 rfl hl (by decide) rfl (fun ls hl => ?_)
    refine lv_aload_n S.1 S.2.1 dX12_blows_20 rfl (lv_at hl 1 rfl) ?_
    refine r_getC S hK hM cfX12 0 0 1 (by decide) lm_0 rfl (by decide) tw_5_31 dX12_blows_21 ?_
    refine lv_iconst (v := 3) S.1 S.2.1 dX12_blows_24 (by decide) ?_
    refine lv_iload_n S.1 S.2.1 dX12_blows_25 rfl (lv_at hl 2 rfl) ?_
    refine lv_iconst (v := 1) S.1 S.2.1 dX12_blows_26 (by decide) ?_
    refine lv_isub S.1 S.2.1 dX12_blows_27 ?_
    obtain ⟨hσ5, σ5, eσ5, hF⟩ := wr_some hF
    refine r_iast S hK hM 1 (by decide) rfl hσ5 eσ5 dX12_blows_28 (fun H locs hM => ?_)
    refine lv_iload_n S.1 S.2.1 dX12_blows_29 rfl (lv_at hl 0 rfl) ?_
    cases hF
    exact z_m (v := v4) S hM hr hlk rfl dX12_blows_30
  · have hF := (if_pos b2).symm.trans hF
    refine lv_iconst (v := (-1)) S.1 S.2.1 dX12_blows_9 (by decide) ?_
    cases hF
    exact z_m (v := (-1)) S hM hr hlk rfl dX12_blows_10
/-! X12_hit -/
def X12_hit (σ : IM) (a1 : Int32) (a2 : Int32) : Option (Int32 × IM) := bd1 (X12_isStroke σ a1) fun r1 => if r1 = 0 then (some ((-1), σ)) else (bd1 (X12_isCell a2) fun r3 => if r3 = 0 then (some ((-1), σ)) else (bd1 (X12_isOver σ) fun r5 => if r5 = 0 then (bd2 (X12_hits σ 1 a1 a2) fun r9 σ7 => rd (σ7 1) 42 2 fun v10 => some (v10, σ7)) else (some ((-3), σ))))
set_option maxRecDepth 20000 in
theorem c_X12_hit {l : Launch} {g : GE} {A : Nat → Prop} {σ : IM} {a1 : Int32} {a2 : Int32} {out : Int32 × IM} (hF : X12_hit σ a1 a2 = some out) : Met l yX12_hit (.code yX12_hit cX12_hit 4 (some .int) :: UL) ({ frames := 4, cells := 0, slots := 0, locals := 99 }) (va_Pc [.ref (g.2.2 0), .int a1, .int a2] (PreM lyM 13 g A [] σ nor)) (Qm lyM 13 g A [] out.2 nor (some (.int out.1))) 0 0 A := by
  refine e_of (by decide) (Nat.le_of_ble_eq_true rfl) ?_
  intro p e s m below meth c ls S hr hlk hv hl
  have hM := Mem.of hv
  have hK := hv.2.1
  have hl : lv_has ls 4 [(0, .ref (g.2.2 0)), (1, .int a1), (2, .int a2)] := hl
  unfold X12_hit at hF
  refine lv_aload_n S.1 S.2.1 dX12_hit_0 rfl (lv_at hl 0 rfl) ?_
  refine lv_iload_n S.1 S.2.1 dX12_hit_1 rfl (lv_at hl 1 rfl) ?_
  obtain ⟨r1, er1, hF⟩ := bd1_some hF
  refine k_p (va_runV (As := [.int a1]) (rest := []) S (c_X12_isStroke   er1) (cwV 1 S.2.2.2.2 (ul_V tw_5_138 tw_5_140 ts_X12_isStroke tw_1_12 cw_X12_isStroke) rfl rfl rfl hv_X12_isStroke ⟨Nat.le_of_ble_eq_true rfl, Nat.le_of_ble_eq_true rfl⟩) ⟨PreM.blind, hM.recv hK cfX12 0 (by decide) lm_0, hM.pre hK⟩ rfl rfl hl.1 rfl (lv_room (Nat.le_of_ble_eq_true rfl)) dX12_hit_2 ⟨Nat.zero_le _, Nat.zero_le _⟩) ?_
  refine lv_if_eq (tgt := 15) S.1 S.2.1 dX12_hit_5 (by decide) (fun b2 => ?_) (fun b2 => ?_)
  · have hF := (if_pos b2).symm.trans hF
    refine lv_iconst (v := (-1)) S.1 S.2.1 dX12_hit_15 (by decide) ?_
    cases hF
    exact z_m (v := (-1)) S hM hr hlk rfl dX12_hit_16
  · have hF := (if_neg b2).symm.trans hF
    refine lv_iload_n S.1 S.2.1 dX12_hit_8 rfl (lv_at hl 2 rfl) ?_
    obtain ⟨r3, er3, hF⟩ := bd1_some hF
    refine k_p (va_runS (As := [.int a2]) (rest := []) S (c_X12_isCell   er3) (va_cwS 1 S.2.2.2.2 (ul_S tw_5_135 tw_5_136 tw_1_12 cw_X12_isCell) rfl rfl rfl hs_X12_isCell ⟨Nat.le_of_ble_eq_true rfl, Nat.le_of_ble_eq_true rfl⟩) ⟨PreM.blind, hM.pre hK⟩ rfl rfl hl.1 rfl (lv_room (Nat.le_of_ble_eq_true rfl)) dX12_hit_9 ⟨Nat.zero_le _, Nat.zero_le _⟩) ?_
    refine lv_if_ne (tgt := 17) S.1 S.2.1 dX12_hit_12 (by decide) (fun b4 => ?_) (fun b4 => ?_)
    · have hF := (if_neg b4).symm.trans hF
      refine lv_aload_n S.1 S.2.1 dX12_hit_17 rfl (lv_at hl 0 rfl) ?_
      obtain ⟨r5, er5, hF⟩ := bd1_some hF
      refine k_p (va_runV (As := []) (rest := []) S (c_X12_isOver   er5) (cwV 0 S.2.2.2.2 (ul_V tw_5_142 tw_5_144 ts_X12_isOver tw_1_12 cw_X12_isOver) rfl rfl rfl hv_X12_isOver ⟨Nat.le_of_ble_eq_true rfl, Nat.le_of_ble_eq_true rfl⟩) ⟨PreM.blind, hM.recv hK cfX12 0 (by decide) lm_0, hM.pre hK⟩ rfl rfl hl.1 rfl (lv_room (Nat.le_of_ble_eq_true rfl)) dX12_hit_18 ⟨Nat.zero_le _, Nat.zero_le _⟩) ?_
      refine lv_if_eq (tgt := 27) S.1 S.2.1 dX12_hit_21 (by decide) (fun b6 => ?_) (fun b6 => ?_)
      · have hF := (if_pos b6).symm.trans hF
        refine lv_aload_n S.1 S.2.1 dX12_hit_27 rfl (lv_at hl 0 rfl) ?_
        refine lv_aload_n S.1 S.2.1 dX12_hit_28 rfl (lv_at hl 0 rfl) ?_
        refine r_getC S hK hM cfX12 0 0 1 (by decide) lm_0 rfl (by decide) tw_5_31 dX12_hit_29 ?_
        refine lv_iload_n S.1 S.2.1 dX12_hit_32 rfl (lv_at hl 1 rfl) ?_
        refine lv_iload_n S.1 S.2.1 dX12_hit_33 rfl (lv_at hl 2 rfl) ?_
        obtain ⟨r9, σ7, er9, hF⟩ := bd2_some hF
        refine k_m (va_runV (As := [.ref (g.2.2 1), .int a1, .int a2]) (rest := []) S (c_X12_hits  ar_1 er9) (cwV 3 S.2.2.2.2 (ul_V tw_5_146 tw_5_148 ts_X12_hits tw_1_12 cw_X12_hits) rfl rfl rfl hv_X12_hits ⟨Nat.le_of_ble_eq_true rfl, Nat.le_of_ble_eq_true rfl⟩) ⟨PreM.blind, hM.recv hK cfX12 0 (by decide) lm_0, hM.pre hK⟩ rfl rfl hl.1 rfl (lv_room (Nat.le_of_ble_eq_true rfl)) dX12_hit_34 ⟨Nat.zero_le _, Nat.zero_le _⟩) hM (fun H locs hM => ?_)
        show W _ _ _ _ _ _ _ _ _ _ _ _ _ _ _ (F0 m 37 ls [.int r9])
        refine lv_istore_n (lv' := [(3, .int r9), (0, .ref (g.2.2 0)), (1, .int a1), (2, .int a2)]) S.1 S.2.1 dX12_hit_37 rfl hl (by decide) rfl (fun ls hl => ?_)
        refine lv_aload_n S.1 S.2.1 dX12_hit_38 rfl (lv_at hl 1 rfl) ?_
        refine r_getC S hK hM cfX12 0 0 1 (by decide) lm_0 rfl (by decide) tw_5_31 dX12_hit_39 ?_
        refine lv_iconst (v := 2) S.1 S.2.1 dX12_hit_42 (by decide) ?_
        obtain ⟨hv10, v10, ev10, hF⟩ := rd_some hF
        refine r_iald S hK hM 1 (by decide) rfl hv10 ev10 dX12_hit_43 ?_
        cases hF
        exact z_m (v := v10) S hM hr hlk rfl dX12_hit_44
      · have hF := (if_neg b6).symm.trans hF
        refine lv_bipush (v := (-3)) S.1 S.2.1 dX12_hit_24 (by decide) ?_
        cases hF
        exact z_m (v := (-3)) S hM hr hlk rfl dX12_hit_26
    · have hF := (if_pos b4).symm.trans hF
      refine lv_iconst (v := (-1)) S.1 S.2.1 dX12_hit_15 (by decide) ?_
      cases hF
      exact z_m (v := (-1)) S hM hr hlk rfl dX12_hit_16
/-! X12_otherSide -/
def X12_otherSide (σ : IM) : Option Int32 := rd (σ 1) 42 2 fun v1 => bd1 (X12_sideOf v1) fun r2 => some (1 - r2)
set_option maxRecDepth 20000 in
theorem c_X12_otherSide {l : Launch} {g : GE} {A : Nat → Prop} {σ : IM} {out : Int32} (hF : X12_otherSide σ = some out) : Met l yX12_otherSide (.code yX12_otherSide cX12_otherSide 1 (some .int) :: UL) ({ frames := 1, cells := 0, slots := 0, locals := 20 }) (va_Pc [.ref (g.2.2 0)] (PreM lyM 13 g A [] σ nor)) (Qp (some (.int out))) 0 0 NoA := by
  refine e_of (by decide) (Nat.le_of_ble_eq_true rfl) ?_
  intro p e s m below meth c ls S hr hlk hv hl
  have hM := Mem.of hv
  have hK := hv.2.1
  have hl : lv_has ls 1 [(0, .ref (g.2.2 0))] := hl
  unfold X12_otherSide at hF
  refine lv_iconst (v := 1) S.1 S.2.1 dX12_otherSide_0 (by decide) ?_
  refine lv_aload_n S.1 S.2.1 dX12_otherSide_1 rfl (lv_at hl 0 rfl) ?_
  refine r_getC S hK hM cfX12 0 0 1 (by decide) lm_0 rfl (by decide) tw_5_31 dX12_otherSide_2 ?_
  refine lv_iconst (v := 2) S.1 S.2.1 dX12_otherSide_5 (by decide) ?_
  obtain ⟨hv1, v1, ev1, hF⟩ := rd_some hF
  refine r_iald S hK hM 1 (by decide) rfl hv1 ev1 dX12_otherSide_6 ?_
  obtain ⟨r2, er2, hF⟩ := bd1_some hF
  refine k_p (va_runS (As := [.int v1]) (rest := [.int 1]) S (c_X12_sideOf   er2) (va_cwS 1 S.2.2.2.2 (ul_S tw_5_150 tw_5_151 tw_1_12 cw_X12_sideOf) rfl rfl rfl hs_X12_sideOf ⟨Nat.le_of_ble_eq_true rfl, Nat.le_of_ble_eq_true rfl⟩) ⟨PreM.blind, hM.pre hK⟩ rfl rfl hl.1 rfl (lv_room (Nat.le_of_ble_eq_true rfl)) dX12_otherSide_7 ⟨Nat.zero_le _, Nat.zero_le _⟩) ?_
  refine lv_isub S.1 S.2.1 dX12_otherSide_10 ?_
  cases hF
  exact z_p S hr hlk rfl dX12_otherSide_11
/-! X12_whoseNow -/
def X12_whoseNow (σ : IM) (a1 : Int32) (a2 : Int32) : Option Int32 := bd1 (X12_otherSide σ) fun r1 => bd1 (X12_fallsIn σ 1 a1 a2) fun r2 => bd1 (X12_whoseIn σ 1 r1 r2) fun r3 => some r3
set_option maxRecDepth 20000 in
theorem c_X12_whoseNow {l : Launch} {g : GE} {A : Nat → Prop} {σ : IM} {a1 : Int32} {a2 : Int32} {out : Int32} (hF : X12_whoseNow σ a1 a2 = some out) : Met l yX12_whoseNow (.code yX12_whoseNow cX12_whoseNow 3 (some .int) :: UL) ({ frames := 3, cells := 0, slots := 0, locals := 69 }) (va_Pc [.ref (g.2.2 0), .int a1, .int a2] (PreM lyM 13 g A [] σ nor)) (Qp (some (.int out))) 0 0 NoA := by
  refine e_of (by decide) (Nat.le_of_ble_eq_true rfl) ?_
  intro p e s m below meth c ls S hr hlk hv hl
  have hM := Mem.of hv
  have hK := hv.2.1
  have hl : lv_has ls 3 [(0, .ref (g.2.2 0)), (1, .int a1), (2, .int a2)] := hl
  unfold X12_whoseNow at hF
  refine lv_aload_n S.1 S.2.1 dX12_whoseNow_0 rfl (lv_at hl 0 rfl) ?_
  refine r_getC S hK hM cfX12 0 0 1 (by decide) lm_0 rfl (by decide) tw_5_31 dX12_whoseNow_1 ?_
  refine lv_aload_n S.1 S.2.1 dX12_whoseNow_4 rfl (lv_at hl 0 rfl) ?_
  obtain ⟨r1, er1, hF⟩ := bd1_some hF
  refine k_p (va_runV (As := []) (rest := [.ref (g.2.2 1)]) S (c_X12_otherSide   er1) (cwV 0 S.2.2.2.2 (ul_V tw_6_19 tw_6_21 ts_X12_otherSide tw_1_12 cw_X12_otherSide) rfl rfl rfl hv_X12_otherSide ⟨Nat.le_of_ble_eq_true rfl, Nat.le_of_ble_eq_true rfl⟩) ⟨PreM.blind, hM.recv hK cfX12 0 (by decide) lm_0, hM.pre hK⟩ rfl rfl hl.1 rfl (lv_room (Nat.le_of_ble_eq_true rfl)) dX12_whoseNow_5 ⟨Nat.zero_le _, Nat.zero_le _⟩) ?_
  refine lv_aload_n S.1 S.2.1 dX12_whoseNow_8 rfl (lv_at hl 0 rfl) ?_
  refine r_getC S hK hM cfX12 0 0 1 (by decide) lm_0 rfl (by decide) tw_5_31 dX12_whoseNow_9 ?_
  refine lv_iload_n S.1 S.2.1 dX12_whoseNow_12 rfl (lv_at hl 1 rfl) ?_
  refine lv_iload_n S.1 S.2.1 dX12_whoseNow_13 rfl (lv_at hl 2 rfl) ?_
  obtain ⟨r2, er2, hF⟩ := bd1_some hF
  refine k_p (va_runS (As := [.ref (g.2.2 1), .int a1, .int a2]) (rest := [.int r1, .ref (g.2.2 1)]) S (c_X12_fallsIn  ar_1 er2) (va_cwS 3 S.2.2.2.2 (ul_S tw_5_153 tw_5_154 tw_1_12 cw_X12_fallsIn) rfl rfl rfl hs_X12_fallsIn ⟨Nat.le_of_ble_eq_true rfl, Nat.le_of_ble_eq_true rfl⟩) ⟨PreM.blind, hM.pre hK⟩ rfl rfl hl.1 rfl (lv_room (Nat.le_of_ble_eq_true rfl)) dX12_whoseNow_14 ⟨Nat.zero_le _, Nat.zero_le _⟩) ?_
  obtain ⟨r3, er3, hF⟩ := bd1_some hF
  refine k_p (va_runS (As := [.ref (g.2.2 1), .int r1, .int r2]) (rest := []) S (c_X12_whoseIn  ar_1 er3) (va_cwS 3 S.2.2.2.2 (ul_S tw_5_162 tw_5_163 tw_1_12 cw_X12_whoseIn) rfl rfl rfl hs_X12_whoseIn ⟨Nat.le_of_ble_eq_true rfl, Nat.le_of_ble_eq_true rfl⟩) ⟨PreM.blind, hM.pre hK⟩ rfl rfl hl.1 rfl (lv_room (Nat.le_of_ble_eq_true rfl)) dX12_whoseNow_17 ⟨Nat.zero_le _, Nat.zero_le _⟩) ?_
  cases hF
  exact z_p S hr hlk rfl dX12_whoseNow_20
/-! X12_isWon -/
def X12_isWon (σ : IM) (a1 : Int32) (a2 : Int32) : Option (Int32 × IM) := bd1 (X12_copies σ 1 2) fun σ1 => bd2 (X12_hits σ1 2 a1 a2) fun r6 σ4 => bz r6 <| some (r6, σ4)
set_option maxRecDepth 20000 in
theorem c_X12_isWon {l : Launch} {g : GE} {A : Nat → Prop} {σ : IM} {a1 : Int32} {a2 : Int32} {out : Int32 × IM} (hF : X12_isWon σ a1 a2 = some out) : Met l yX12_isWon (.code yX12_isWon cX12_isWon 3 (some .boolean) :: UL) ({ frames := 4, cells := 0, slots := 0, locals := 99 }) (va_Pc [.ref (g.2.2 0), .int a1, .int a2] (PreM lyM 13 g A [] σ nor)) (Qm lyM 13 g A [] out.2 nor (some (.int out.1))) 0 0 A := by
  refine e_of (by decide) (Nat.le_of_ble_eq_true rfl) ?_
  intro p e s m below meth c ls S hr hlk hv hl
  have hM := Mem.of hv
  have hK := hv.2.1
  have hl : lv_has ls 3 [(0, .ref (g.2.2 0)), (1, .int a1), (2, .int a2)] := hl
  unfold X12_isWon at hF
  refine lv_aload_n S.1 S.2.1 dX12_isWon_0 rfl (lv_at hl 0 rfl) ?_
  refine r_getC S hK hM cfX12 0 0 1 (by decide) lm_0 rfl (by decide) tw_5_31 dX12_isWon_1 ?_
  refine lv_aload_n S.1 S.2.1 dX12_isWon_4 rfl (lv_at hl 0 rfl) ?_
  refine r_getC S hK hM cfX12 0 1 2 (by decide) lm_0 rfl (by decide) tw_5_32 dX12_isWon_5 ?_
  obtain ⟨σ1, er3, hF⟩ := bd1_some hF
  refine k_m (va_runS (As := [.ref (g.2.2 1), .ref (g.2.2 2)]) (rest := []) S (c_X12_copies  ar_1 ar_2 er3) (va_cwS 2 S.2.2.2.2 (ul_S tw_5_118 tw_5_119 tw_1_12 cw_X12_copies) rfl rfl rfl hs_X12_copies ⟨Nat.le_of_ble_eq_true rfl, Nat.le_of_ble_eq_true rfl⟩) ⟨PreM.blind, hM.pre hK⟩ rfl rfl hl.1 rfl (lv_room (Nat.le_of_ble_eq_true rfl)) dX12_isWon_8 ⟨Nat.zero_le _, Nat.zero_le _⟩) hM (fun H locs hM => ?_)
  show W _ _ _ _ _ _ _ _ _ _ _ _ _ _ _ (F0 m 11 ls [])
  refine lv_aload_n S.1 S.2.1 dX12_isWon_11 rfl (lv_at hl 0 rfl) ?_
  refine lv_aload_n S.1 S.2.1 dX12_isWon_12 rfl (lv_at hl 0 rfl) ?_
  refine r_getC S hK hM cfX12 0 1 2 (by decide) lm_0 rfl (by decide) tw_5_32 dX12_isWon_13 ?_
  refine lv_iload_n S.1 S.2.1 dX12_isWon_16 rfl (lv_at hl 1 rfl) ?_
  refine lv_iload_n S.1 S.2.1 dX12_isWon_17 rfl (lv_at hl 2 rfl) ?_
  obtain ⟨r6, σ4, er6, hF⟩ := bd2_some hF
  refine k_m (va_runV (As := [.ref (g.2.2 2), .int a1, .int a2]) (rest := []) S (c_X12_hits  ar_2 er6) (cwV 3 S.2.2.2.2 (ul_V tw_5_146 tw_5_148 ts_X12_hits tw_1_12 cw_X12_hits) rfl rfl rfl hv_X12_hits ⟨Nat.le_of_ble_eq_true rfl, Nat.le_of_ble_eq_true rfl⟩) ⟨PreM.blind, hM.recv hK cfX12 0 (by decide) lm_0, hM.pre hK⟩ rfl rfl hl.1 rfl (lv_room (Nat.le_of_ble_eq_true rfl)) dX12_isWon_18 ⟨Nat.zero_le _, Nat.zero_le _⟩) hM (fun H locs hM => ?_)
  show W _ _ _ _ _ _ _ _ _ _ _ _ _ _ _ (F0 m 21 ls [.int r6])
  obtain ⟨h7, hF⟩ := bz_some hF
  cases hF
  exact z_m (v := r6) S hM hr hlk h7 dX12_isWon_21
/-! X12_isHit -/
def X12_isHit (σ : IM) (a1 : Int32) (a2 : Int32) : Option Int32 := bd1 (X12_isStroke σ a1) fun r1 => if r1 = 0 then (some 0) else (bd1 (X12_isCell a2) fun r3 => if r3 = 0 then (some 0) else (some 1))
set_option maxRecDepth 20000 in
theorem c_X12_isHit {l : Launch} {g : GE} {A : Nat → Prop} {σ : IM} {a1 : Int32} {a2 : Int32} {out : Int32} (hF : X12_isHit σ a1 a2 = some out) : Met l yX12_isHit (.code yX12_isHit cX12_isHit 3 (some .boolean) :: UL) ({ frames := 2, cells := 0, slots := 0, locals := 43 }) (va_Pc [.ref (g.2.2 0), .int a1, .int a2] (PreM lyM 13 g A [] σ nor)) (Qp (some (.int out))) 0 0 NoA := by
  refine e_of (by decide) (Nat.le_of_ble_eq_true rfl) ?_
  intro p e s m below meth c ls S hr hlk hv hl
  have hM := Mem.of hv
  have hK := hv.2.1
  have hl : lv_has ls 3 [(0, .ref (g.2.2 0)), (1, .int a1), (2, .int a2)] := hl
  unfold X12_isHit at hF
  refine lv_aload_n S.1 S.2.1 dX12_isHit_0 rfl (lv_at hl 0 rfl) ?_
  refine lv_iload_n S.1 S.2.1 dX12_isHit_1 rfl (lv_at hl 1 rfl) ?_
  obtain ⟨r1, er1, hF⟩ := bd1_some hF
  refine k_p (va_runV (As := [.int a1]) (rest := []) S (c_X12_isStroke   er1) (cwV 1 S.2.2.2.2 (ul_V tw_5_138 tw_5_140 ts_X12_isStroke tw_1_12 cw_X12_isStroke) rfl rfl rfl hv_X12_isStroke ⟨Nat.le_of_ble_eq_true rfl, Nat.le_of_ble_eq_true rfl⟩) ⟨PreM.blind, hM.recv hK cfX12 0 (by decide) lm_0, hM.pre hK⟩ rfl rfl hl.1 rfl (lv_room (Nat.le_of_ble_eq_true rfl)) dX12_isHit_2 ⟨Nat.zero_le _, Nat.zero_le _⟩) ?_
  refine lv_if_eq (tgt := 19) S.1 S.2.1 dX12_isHit_5 (by decide) (fun b2 => ?_) (fun b2 => ?_)
  · have hF := (if_pos b2).symm.trans hF
    refine lv_iconst (v := 0) S.1 S.2.1 dX12_isHit_19 (by decide) ?_
    cases hF
    exact z_p S hr hlk rfl dX12_isHit_20
  · have hF := (if_neg b2).symm.trans hF
    refine lv_iload_n S.1 S.2.1 dX12_isHit_8 rfl (lv_at hl 2 rfl) ?_
    obtain ⟨r3, er3, hF⟩ := bd1_some hF
    refine k_p (va_runS (As := [.int a2]) (rest := []) S (c_X12_isCell   er3) (va_cwS 1 S.2.2.2.2 (ul_S tw_5_135 tw_5_136 tw_1_12 cw_X12_isCell) rfl rfl rfl hs_X12_isCell ⟨Nat.le_of_ble_eq_true rfl, Nat.le_of_ble_eq_true rfl⟩) ⟨PreM.blind, hM.pre hK⟩ rfl rfl hl.1 rfl (lv_room (Nat.le_of_ble_eq_true rfl)) dX12_isHit_9 ⟨Nat.zero_le _, Nat.zero_le _⟩) ?_
    refine lv_if_eq (tgt := 19) S.1 S.2.1 dX12_isHit_12 (by decide) (fun b4 => ?_) (fun b4 => ?_)
    · have hF := (if_pos b4).symm.trans hF
      refine lv_iconst (v := 0) S.1 S.2.1 dX12_isHit_19 (by decide) ?_
      cases hF
      exact z_p S hr hlk rfl dX12_isHit_20
    · have hF := (if_neg b4).symm.trans hF
      refine lv_iconst (v := 1) S.1 S.2.1 dX12_isHit_15 (by decide) ?_
      refine lv_goto (tgt := 20) S.1 S.2.1 dX12_isHit_16 (by decide) ?_
      cases hF
      exact z_p S hr hlk rfl dX12_isHit_20
/-! X12_whose -/
def X12_whose (σ : IM) (a1 : Int32) (a2 : Int32) : Option Int32 := bd1 (X12_isHit σ a1 a2) fun r1 => if r1 = 0 then (some (-1)) else (bd1 (X12_whoseNow σ a1 a2) fun r3 => some r3)
set_option maxRecDepth 20000 in
theorem c_X12_whose {l : Launch} {g : GE} {A : Nat → Prop} {σ : IM} {a1 : Int32} {a2 : Int32} {out : Int32} (hF : X12_whose σ a1 a2 = some out) : Met l yX12_whose (.code yX12_whose cX12_whose 3 (some .int) :: UL) ({ frames := 4, cells := 0, slots := 0, locals := 91 }) (va_Pc [.ref (g.2.2 0), .int a1, .int a2] (PreM lyM 13 g A [] σ nor)) (Qp (some (.int out))) 0 0 NoA := by
  refine e_of (by decide) (Nat.le_of_ble_eq_true rfl) ?_
  intro p e s m below meth c ls S hr hlk hv hl
  have hM := Mem.of hv
  have hK := hv.2.1
  have hl : lv_has ls 3 [(0, .ref (g.2.2 0)), (1, .int a1), (2, .int a2)] := hl
  unfold X12_whose at hF
  refine lv_aload_n S.1 S.2.1 dX12_whose_0 rfl (lv_at hl 0 rfl) ?_
  refine lv_iload_n S.1 S.2.1 dX12_whose_1 rfl (lv_at hl 1 rfl) ?_
  refine lv_iload_n S.1 S.2.1 dX12_whose_2 rfl (lv_at hl 2 rfl) ?_
  obtain ⟨r1, er1, hF⟩ := bd1_some hF
  refine k_p (va_runV (As := [.int a1, .int a2]) (rest := []) S (c_X12_isHit   er1) (cwV 2 S.2.2.2.2 (ul_V tw_6_11 tw_6_13 ts_X12_isHit tw_1_12 cw_X12_isHit) rfl rfl rfl hv_X12_isHit ⟨Nat.le_of_ble_eq_true rfl, Nat.le_of_ble_eq_true rfl⟩) ⟨PreM.blind, hM.recv hK cfX12 0 (by decide) lm_0, hM.pre hK⟩ rfl rfl hl.1 rfl (lv_room (Nat.le_of_ble_eq_true rfl)) dX12_whose_3 ⟨Nat.zero_le _, Nat.zero_le _⟩) ?_
  refine lv_if_eq (tgt := 18) S.1 S.2.1 dX12_whose_6 (by decide) (fun b2 => ?_) (fun b2 => ?_)
  · have hF := (if_pos b2).symm.trans hF
    refine lv_iconst (v := (-1)) S.1 S.2.1 dX12_whose_18 (by decide) ?_
    cases hF
    exact z_p S hr hlk rfl dX12_whose_19
  · have hF := (if_neg b2).symm.trans hF
    refine lv_aload_n S.1 S.2.1 dX12_whose_9 rfl (lv_at hl 0 rfl) ?_
    refine lv_iload_n S.1 S.2.1 dX12_whose_10 rfl (lv_at hl 1 rfl) ?_
    refine lv_iload_n S.1 S.2.1 dX12_whose_11 rfl (lv_at hl 2 rfl) ?_
    obtain ⟨r3, er3, hF⟩ := bd1_some hF
    refine k_p (va_runV (As := [.int a1, .int a2]) (rest := []) S (c_X12_whoseNow   er3) (cwV 2 S.2.2.2.2 (ul_V tw_6_15 tw_6_17 ts_X12_whoseNow tw_1_12 cw_X12_whoseNow) rfl rfl rfl hv_X12_whoseNow ⟨Nat.le_of_ble_eq_true rfl, Nat.le_of_ble_eq_true rfl⟩) ⟨PreM.blind, hM.recv hK cfX12 0 (by decide) lm_0, hM.pre hK⟩ rfl rfl hl.1 rfl (lv_room (Nat.le_of_ble_eq_true rfl)) dX12_whose_12 ⟨Nat.zero_le _, Nat.zero_le _⟩) ?_
    refine lv_goto (tgt := 19) S.1 S.2.1 dX12_whose_15 (by decide) ?_
    cases hF
    exact z_p S hr hlk rfl dX12_whose_19
