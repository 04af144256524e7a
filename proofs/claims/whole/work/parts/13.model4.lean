/-! X12_gcd -/
def X12_gcd_s6 (k6 : Int64 → Int64 → Option Int64) (x4 : Int64) (x6 : Int64) : Option Int64 := if lg_cmp x6 0 = 0 then (some x4) else (nzl x6 <| bd (rem64 x4 x6) fun v3 => k6 x6 v3)
def X12_gcd_b6 : Nat → Int64 → Int64 → Option Int64
  | 0 => fun _ _ => none
  | n + 1 => X12_gcd_s6 (X12_gcd_b6 n)
set_option maxRecDepth 20000 in
theorem w_X12_gcd_6 {l : Launch} {g : GE} {A : Nat → Prop} {σ : IM} {p : Program} {e : Env} {s : State} {m : MethodId} {args : Array Value} {below : List Frame} {meth : Method} {c : Code} (S : CallFix p m c cX12_gcd 10 s args UL RX12) (hK : KK g s) (hr : meth.sig.returnType = (some .long)) (hlk : meth.locks = false) (hM : Mem lyM 13 g A [] σ nor s.heap s.heap []) {out : Int64} {k6 : Int64 → Int64 → Option Int64} (hk6 : ∀ {x4 : Int64} {x6 : Int64} {ls : Array Slot}, lv_has ls 10 [(4, .long x4), (6, .long x6)] → k6 x4 x6 = some out → W p l e ({ frames := 0, cells := 0, slots := 0, locals := 0 }) s m args below meth c s.heap [] 0 0 (MQ below (Qp (some (.long out))) args s 0 0 NoA) (F0 m 6 ls [])) : ∀ {x4 : Int64} {x6 : Int64} {ls : Array Slot}, lv_has ls 10 [(4, .long x4), (6, .long x6)] → X12_gcd_s6 k6 x4 x6 = some out → W p l e ({ frames := 0, cells := 0, slots := 0, locals := 0 }) s m args below meth c s.heap [] 0 0 (MQ below (Qp (some (.long out))) args s 0 0 NoA) (F0 m 6 ls []) := by
  intro x4 x6 ls hl hF
  unfold X12_gcd_s6 at hF
  refine lv_lload S.1 S.2.1 dX12_gcd_6 (lv_at hl 1 rfl) ?_
  refine lv_lconst (v := 0) S.1 S.2.1 dX12_gcd_8 (by decide) ?_
  refine W.lcmp S.1 S.2.1 dX12_gcd_9 ?_
  refine lv_if_eq (tgt := 31) S.1 S.2.1 dX12_gcd_10 (by decide) (fun b1 => ?_) (fun b1 => ?_)
  · have hF := (if_pos b1).symm.trans hF
    refine lv_lload S.1 S.2.1 dX12_gcd_31 (lv_at hl 0 rfl) ?_
    cases hF
    exact z_pl S hr hlk dX12_gcd_33
  · have hF := (if_neg b1).symm.trans hF
    refine lv_lload S.1 S.2.1 dX12_gcd_13 (lv_at hl 0 rfl) ?_
    refine lv_lload S.1 S.2.1 dX12_gcd_15 (lv_at hl 1 rfl) ?_
    obtain ⟨h2, hF⟩ := nzl_some hF
    refine r_lrem S dX12_gcd_17 h2 ?_
    refine lv_topl (fun v3 ev3 => ?_)
    have hF := bd_at ev3 hF
    refine lv_lstore (lv' := [(8, .long v3), (4, .long x4), (6, .long x6)]) S.1 S.2.1 dX12_gcd_18 hl (by decide) rfl (fun ls hl => ?_)
    refine lv_lload S.1 S.2.1 dX12_gcd_20 (lv_at hl 2 rfl) ?_
    refine lv_lstore (lv' := [(4, .long x6), (8, .long v3), (6, .long x6)]) S.1 S.2.1 dX12_gcd_22 hl (by decide) rfl (fun ls hl => ?_)
    refine lv_lload S.1 S.2.1 dX12_gcd_24 (lv_at hl 1 rfl) ?_
    refine lv_lstore (lv' := [(6, .long v3), (4, .long x6), (8, .long v3)]) S.1 S.2.1 dX12_gcd_26 hl (by decide) rfl (fun ls hl => ?_)
    refine lv_goto (tgt := 6) S.1 S.2.1 dX12_gcd_28 (by decide) ?_
    exact hk6  (lv_sub hl [1, 0] rfl)  hF
theorem wl_X12_gcd_6 {l : Launch} {g : GE} {A : Nat → Prop} {σ : IM} {p : Program} {e : Env} {s : State} {m : MethodId} {args : Array Value} {below : List Frame} {meth : Method} {c : Code} (S : CallFix p m c cX12_gcd 10 s args UL RX12) (hK : KK g s) (hr : meth.sig.returnType = (some .long)) (hlk : meth.locks = false) (hM : Mem lyM 13 g A [] σ nor s.heap s.heap []) {out : Int64} : ∀ (n : Nat) {x4 : Int64} {x6 : Int64} {ls : Array Slot}, lv_has ls 10 [(4, .long x4), (6, .long x6)] → X12_gcd_b6 n x4 x6 = some out → W p l e ({ frames := 0, cells := 0, slots := 0, locals := 0 }) s m args below meth c s.heap [] 0 0 (MQ below (Qp (some (.long out))) args s 0 0 NoA) (F0 m 6 ls []) := by
  intro n
  induction n with
  | zero =>
    intro x4 x6 ls hl hF
    cases hF
  | succ n ih =>
    intro x4 x6 ls hl hF
    exact w_X12_gcd_6 S hK hr hlk hM ih hl hF
def X12_gcd (a0 : Int64) (a2 : Int64) : Option Int64 := X12_gcd_b6 1000 a0 a2
set_option maxRecDepth 20000 in
theorem c_X12_gcd {l : Launch} {g : GE} {A : Nat → Prop} {σ : IM} {a0 : Int64} {a2 : Int64} {out : Int64} (hF : X12_gcd a0 a2 = some out) : Met l yX12_gcd (.code yX12_gcd cX12_gcd 10 (some .long) :: UL) ({ frames := 0, cells := 0, slots := 0, locals := 0 }) (va_Pc [.long a0, .long a2] (PreM lyM 13 g A [] σ nor)) (Qp (some (.long out))) 0 0 NoA := by
  refine e_of (by decide) (Nat.le_of_ble_eq_true rfl) ?_
  intro p e s m below meth c ls S hr hlk hv hl
  have hM := Mem.of hv
  have hK := hv.2.1
  have hl : lv_has ls 10 [(0, .long a0), (2, .long a2)] := hl
  unfold X12_gcd at hF
  refine lv_lload_n S.1 S.2.1 dX12_gcd_0 rfl (lv_at hl 0 rfl) ?_
  refine lv_lstore (lv' := [(4, .long a0), (0, .long a0), (2, .long a2)]) S.1 S.2.1 dX12_gcd_1 hl (by decide) rfl (fun ls hl => ?_)
  refine lv_lload_n S.1 S.2.1 dX12_gcd_3 rfl (lv_at hl 2 rfl) ?_
  refine lv_lstore (lv' := [(6, .long a2), (4, .long a0), (0, .long a0), (2, .long a2)]) S.1 S.2.1 dX12_gcd_4 hl (by decide) rfl (fun ls hl => ?_)
  exact wl_X12_gcd_6 S hK hr hlk hM 1000 (lv_sub hl [1, 0] rfl) hF
/-! X12_partOf -/
def X12_partOf_b20 (x0 : Int64) (x2 : Int64) (t0 : Int64) : Option Int64 := bd1 (X12_gcd x0 x2) fun r3 => nzl r3 <| some (t0 / r3)
set_option maxRecDepth 20000 in
theorem w_X12_partOf_20 {l : Launch} {g : GE} {A : Nat → Prop} {σ : IM} {p : Program} {e : Env} {s : State} {m : MethodId} {args : Array Value} {below : List Frame} {meth : Method} {c : Code} (S : CallFix p m c cX12_partOf 5 s args UL RX12) (hK : KK g s) (hr : meth.sig.returnType = (some .long)) (hlk : meth.locks = false) (hM : Mem lyM 13 g A [] σ nor s.heap s.heap []) {out : Int64} : ∀ {x0 : Int64} {x2 : Int64} {t0 : Int64} {ls : Array Slot}, lv_has ls 5 [(0, .long x0), (2, .long x2)] → X12_partOf_b20 x0 x2 t0 = some out → W p l e ({ frames := 1, cells := 0, slots := 0, locals := 29 }) s m args below meth c s.heap [] 0 0 (MQ below (Qp (some (.long out))) args s 0 0 NoA) (F0 m 20 ls [.long t0]) := by
  intro x0 x2 t0 ls hl hF
  unfold X12_partOf_b20 at hF
  refine lv_lload_n S.1 S.2.1 dX12_partOf_20 rfl (lv_at hl 0 rfl) ?_
  refine lv_lload_n S.1 S.2.1 dX12_partOf_21 rfl (lv_at hl 1 rfl) ?_
  obtain ⟨r3, er3, hF⟩ := bd1_some hF
  refine k_p (va_runS (As := [.long x0, .long x2]) (rest := [.long t0]) S (c_X12_gcd   er3) (va_cwS 2 S.2.2.2.2 (ul_S tw_6_147 tw_6_148 tw_1_12 cw_X12_gcd) rfl rfl rfl hs_X12_gcd ⟨Nat.le_of_ble_eq_true rfl, Nat.le_of_ble_eq_true rfl⟩) ⟨PreM.blind, hM.pre hK⟩ rfl rfl hl.1 rfl (lv_room (Nat.le_of_ble_eq_true rfl)) dX12_partOf_22 ⟨Nat.zero_le _, Nat.zero_le _⟩) ?_
  obtain ⟨h4, hF⟩ := nzl_some hF
  refine lv_ldiv S.1 S.2.1 dX12_partOf_25 h4 ?_
  cases hF
  exact z_pl S hr hlk dX12_partOf_26
def X12_partOf (a0 : Int64) (a2 : Int64) (a4 : Int32) : Option Int64 := if lg_cmp a0 0 = 0 then (some ((a4 : Int32).toInt64)) else (if a4 = 0 then (X12_partOf_b20 a0 a2 a0) else (X12_partOf_b20 a0 a2 a2))
set_option maxRecDepth 20000 in
theorem c_X12_partOf {l : Launch} {g : GE} {A : Nat → Prop} {σ : IM} {a0 : Int64} {a2 : Int64} {a4 : Int32} {out : Int64} (hF : X12_partOf a0 a2 a4 = some out) : Met l yX12_partOf (.code yX12_partOf cX12_partOf 5 (some .long) :: UL) ({ frames := 1, cells := 0, slots := 0, locals := 29 }) (va_Pc [.long a0, .long a2, .int a4] (PreM lyM 13 g A [] σ nor)) (Qp (some (.long out))) 0 0 NoA := by
  refine e_of (by decide) (Nat.le_of_ble_eq_true rfl) ?_
  intro p e s m below meth c ls S hr hlk hv hl
  have hM := Mem.of hv
  have hK := hv.2.1
  have hl : lv_has ls 5 [(0, .long a0), (2, .long a2), (4, .int a4)] := hl
  unfold X12_partOf at hF
  refine lv_lload_n S.1 S.2.1 dX12_partOf_0 rfl (lv_at hl 0 rfl) ?_
  refine lv_lconst (v := 0) S.1 S.2.1 dX12_partOf_1 (by decide) ?_
  refine W.lcmp S.1 S.2.1 dX12_partOf_2 ?_
  refine lv_if_ne (tgt := 10) S.1 S.2.1 dX12_partOf_3 (by decide) (fun b1 => ?_) (fun b1 => ?_)
  · have hF := (if_neg b1).symm.trans hF
    refine lv_iload S.1 S.2.1 dX12_partOf_10 (lv_at hl 2 rfl) ?_
    refine lv_if_ne (tgt := 19) S.1 S.2.1 dX12_partOf_12 (by decide) (fun b2 => ?_) (fun b2 => ?_)
    · have hF := (if_neg b2).symm.trans hF
      refine lv_lload_n S.1 S.2.1 dX12_partOf_19 rfl (lv_at hl 1 rfl) ?_
      exact w_X12_partOf_20 S hK hr hlk hM (lv_sub hl [0, 1] rfl) hF
    · have hF := (if_pos b2).symm.trans hF
      refine lv_lload_n S.1 S.2.1 dX12_partOf_15 rfl (lv_at hl 0 rfl) ?_
      refine lv_goto (tgt := 20) S.1 S.2.1 dX12_partOf_16 (by decide) ?_
      exact w_X12_partOf_20 S hK hr hlk hM (lv_sub hl [0, 1] rfl) hF
  · have hF := (if_pos b1).symm.trans hF
    refine lv_iload S.1 S.2.1 dX12_partOf_6 (lv_at hl 2 rfl) ?_
    refine lv_i2l S.1 S.2.1 dX12_partOf_8 rfl ?_
    cases hF
    exact z_pl S hr hlk dX12_partOf_9
/-! X12_isPointless -/
def X12_isPointless_b41 (k13 : Int32 → Int32 → Int32 → IM → Option (Int32 × IM)) (x1 : Int32) (x2 : Int32) (x3 : Int32) (t0 : Int32) (t1 : Int32) (σ : IM) : Option (Int32 × IM) := wr σ 2 42 t1 t0 fun σ8 => bd2 (X12_hits σ8 2 x3 2) fun r11 σ9 => if r11 = 0 then (bd (x3 + 1) fun v13 => k13 x1 x2 v13 σ9) else (some (0, σ9))
set_option maxRecDepth 20000 in
theorem w_X12_isPointless_41 {l : Launch} {g : GE} {A : Nat → Prop} {p : Program} {e : Env} {s : State} {m : MethodId} {args : Array Value} {below : List Frame} {meth : Method} {c : Code} (S : CallFix p m c cX12_isPointless 4 s args UL RX12) (hK : KK g s) (hr : meth.sig.returnType = (some .boolean)) (hlk : meth.locks = false) {out : Int32 × IM} {k13 : Int32 → Int32 → Int32 → IM → Option (Int32 × IM)} (hk13 : ∀ {x1 : Int32} {x2 : Int32} {x3 : Int32} {σ : IM} {H : Heap} {locs : List Loc} {ls : Array Slot}, Mem lyM 13 g A [] σ nor s.heap H locs → lv_has ls 4 [(0, .ref (g.2.2 0)), (1, .int x1), (2, .int x2), (3, .int x3)] → k13 x1 x2 x3 σ = some out → W p l e ({ frames := 4, cells := 0, slots := 0, locals := 99 }) s m args below meth c H locs 0 0 (MQ below (Qm lyM 13 g A [] out.2 nor (some (.int out.1))) args s 0 0 A) (F0 m 13 ls [])) : ∀ {x1 : Int32} {x2 : Int32} {x3 : Int32} {t0 : Int32} {t1 : Int32} {σ : IM} {H : Heap} {locs : List Loc} {ls : Array Slot}, Mem lyM 13 g A [] σ nor s.heap H locs → lv_has ls 4 [(0, .ref (g.2.2 0)), (1, .int x1), (2, .int x2), (3, .int x3)] → X12_isPointless_b41 k13 x1 x2 x3 t0 t1 σ = some out → W p l e ({ frames := 4, cells := 0, slots := 0, locals := 99 }) s m args below meth c H locs 0 0 (MQ below (Qm lyM 13 g A [] out.2 nor (some (.int out.1))) args s 0 0 A) (F0 m 41 ls [.int t0, .int t1, .ref (g.2.2 2)]) := by
  intro x1 x2 x3 t0 t1 σ H locs ls hM hl hF
  unfold X12_isPointless_b41 at hF
  obtain ⟨hσ8, σ8, eσ8, hF⟩ := wr_some hF
  refine r_iast S hK hM 2 (by decide) rfl hσ8 eσ8 dX12_isPointless_41 (fun H locs hM => ?_)
  refine lv_aload_n S.1 S.2.1 dX12_isPointless_42 rfl (lv_at hl 0 rfl) ?_
  refine lv_aload_n S.1 S.2.1 dX12_isPointless_43 rfl (lv_at hl 0 rfl) ?_
  refine r_getC S hK hM cfX12 0 1 2 (by decide) lm_0 rfl (by decide) tw_5_32 dX12_isPointless_44 ?_
  refine lv_iload_n S.1 S.2.1 dX12_isPointless_47 rfl (lv_at hl 3 rfl) ?_
  refine lv_iconst (v := 2) S.1 S.2.1 dX12_isPointless_48 (by decide) ?_
  obtain ⟨r11, σ9, er11, hF⟩ := bd2_some hF
  refine k_m (va_runV (As := [.ref (g.2.2 2), .int x3, .int 2]) (rest := []) S (c_X12_hits  ar_2 er11) (cwV 3 S.2.2.2.2 (ul_V tw_5_146 tw_5_148 ts_X12_hits tw_1_12 cw_X12_hits) rfl rfl rfl hv_X12_hits ⟨Nat.le_of_ble_eq_true rfl, Nat.le_of_ble_eq_true rfl⟩) ⟨PreM.blind, hM.recv hK cfX12 0 (by decide) lm_0, hM.pre hK⟩ rfl rfl hl.1 rfl (lv_room (Nat.le_of_ble_eq_true rfl)) dX12_isPointless_49 ⟨Nat.zero_le _, Nat.zero_le _⟩) hM (fun H locs hM => ?_)
  show W _ _ _ _ _ _ _ _ _ _ _ _ _ _ _ (F0 m 52 ls [.int r11])
  refine lv_if_eq (tgt := 57) S.1 S.2.1 dX12_isPointless_52 (by decide) (fun b12 => ?_) (fun b12 => ?_)
  · have hF := (if_pos b12).symm.trans hF
    obtain ⟨v13, ev13, hF⟩ := bd_some hF
    refine lv_iinc (v := v13) (lv' := [(3, .int v13), (0, .ref (g.2.2 0)), (1, .int x1), (2, .int x2)]) S.1 S.2.1 dX12_isPointless_57 hl (k := 3) rfl (by rw [ev13]; rfl) (by decide) rfl (fun ls hl => ?_)
    refine lv_goto (tgt := 13) S.1 S.2.1 dX12_isPointless_60 (by decide) ?_
    exact hk13 hM (lv_sub hl [1, 2, 3, 0] rfl)  hF
  · have hF := (if_neg b12).symm.trans hF
    refine lv_iconst (v := 0) S.1 S.2.1 dX12_isPointless_55 (by decide) ?_
    cases hF
    exact z_m (v := 0) S hM hr hlk rfl dX12_isPointless_56
def X12_isPointless_s13 (k13 : Int32 → Int32 → Int32 → IM → Option (Int32 × IM)) (x1 : Int32) (x2 : Int32) (x3 : Int32) (σ : IM) : Option (Int32 × IM) := if x1 ≤ x3 then (some (1, σ)) else (bd1 (X12_has x2 x3) fun r5 => if r5 = 0 then (rd (σ 1) 42 3 fun v7 => X12_isPointless_b41 k13 x1 x2 x3 v7 3 σ) else (X12_isPointless_b41 k13 x1 x2 x3 1 3 σ))
def X12_isPointless_b13 : Nat → Int32 → Int32 → Int32 → IM → Option (Int32 × IM)
  | 0 => fun _ _ _ _ => none
  | n + 1 => X12_isPointless_s13 (X12_isPointless_b13 n)
set_option maxRecDepth 20000 in
theorem w_X12_isPointless_13 {l : Launch} {g : GE} {A : Nat → Prop} {p : Program} {e : Env} {s : State} {m : MethodId} {args : Array Value} {below : List Frame} {meth : Method} {c : Code} (S : CallFix p m c cX12_isPointless 4 s args UL RX12) (hK : KK g s) (hr : meth.sig.returnType = (some .boolean)) (hlk : meth.locks = false) {out : Int32 × IM} {k13 : Int32 → Int32 → Int32 → IM → Option (Int32 × IM)} (hk13 : ∀ {x1 : Int32} {x2 : Int32} {x3 : Int32} {σ : IM} {H : Heap} {locs : List Loc} {ls : Array Slot}, Mem lyM 13 g A [] σ nor s.heap H locs → lv_has ls 4 [(0, .ref (g.2.2 0)), (1, .int x1), (2, .int x2), (3, .int x3)] → k13 x1 x2 x3 σ = some out → W p l e ({ frames := 4, cells := 0, slots := 0, locals := 99 }) s m args below meth c H locs 0 0 (MQ below (Qm lyM 13 g A [] out.2 nor (some (.int out.1))) args s 0 0 A) (F0 m 13 ls [])) : ∀ {x1 : Int32} {x2 : Int32} {x3 : Int32} {σ : IM} {H : Heap} {locs : List Loc} {ls : Array Slot}, Mem lyM 13 g A [] σ nor s.heap H locs → lv_has ls 4 [(0, .ref (g.2.2 0)), (1, .int x1), (2, .int x2), (3, .int x3)] → X12_isPointless_s13 k13 x1 x2 x3 σ = some out → W p l e ({ frames := 4, cells := 0, slots := 0, locals := 99 }) s m args below meth c H locs 0 0 (MQ below (Qm lyM 13 g A [] out.2 nor (some (.int out.1))) args s 0 0 A) (F0 m 13 ls []) := by
  intro x1 x2 x3 σ H locs ls hM hl hF
  unfold X12_isPointless_s13 at hF
  refine lv_iload_n S.1 S.2.1 dX12_isPointless_13 rfl (lv_at hl 3 rfl) ?_
  refine lv_iload_n S.1 S.2.1 dX12_isPointless_14 rfl (lv_at hl 1 rfl) ?_
  refine lv_icmp_ge (tgt := 63) S.1 S.2.1 dX12_isPointless_15 (by decide) (fun b4 => ?_) (fun b4 => ?_)
  · have hF := (if_pos b4).symm.trans hF
    refine lv_iconst (v := 1) S.1 S.2.1 dX12_isPointless_63 (by decide) ?_
    cases hF
    exact z_m (v := 1) S hM hr hlk rfl dX12_isPointless_64
  · have hF := (if_neg b4).symm.trans hF
    refine lv_aload_n S.1 S.2.1 dX12_isPointless_18 rfl (lv_at hl 0 rfl) ?_
    refine r_getC S hK hM cfX12 0 1 2 (by decide) lm_0 rfl (by decide) tw_5_32 dX12_isPointless_19 ?_
    refine lv_iconst (v := 3) S.1 S.2.1 dX12_isPointless_22 (by decide) ?_
    refine lv_iload_n S.1 S.2.1 dX12_isPointless_23 rfl (lv_at hl 2 rfl) ?_
    refine lv_iload_n S.1 S.2.1 dX12_isPointless_24 rfl (lv_at hl 3 rfl) ?_
    obtain ⟨r5, er5, hF⟩ := bd1_some hF
    refine k_p (va_runS (As := [.int x2, .int x3]) (rest := [.int 3, .ref (g.2.2 2)]) S (c_X12_has   er5) (va_cwS 2 S.2.2.2.2 (ul_S tw_6_137 tw_6_138 tw_1_12 cw_X12_has) rfl rfl rfl hs_X12_has ⟨Nat.le_of_ble_eq_true rfl, Nat.le_of_ble_eq_true rfl⟩) ⟨PreM.blind, hM.pre hK⟩ rfl rfl hl.1 rfl (lv_room (Nat.le_of_ble_eq_true rfl)) dX12_isPointless_25 ⟨Nat.zero_le _, Nat.zero_le _⟩) ?_
    refine lv_if_eq (tgt := 35) S.1 S.2.1 dX12_isPointless_28 (by decide) (fun b6 => ?_) (fun b6 => ?_)
    · have hF := (if_pos b6).symm.trans hF
      refine lv_aload_n S.1 S.2.1 dX12_isPointless_35 rfl (lv_at hl 0 rfl) ?_
      refine r_getC S hK hM cfX12 0 0 1 (by decide) lm_0 rfl (by decide) tw_5_31 dX12_isPointless_36 ?_
      refine lv_iconst (v := 3) S.1 S.2.1 dX12_isPointless_39 (by decide) ?_
      obtain ⟨hv7, v7, ev7, hF⟩ := rd_some hF
      refine r_iald S hK hM 1 (by decide) rfl hv7 ev7 dX12_isPointless_40 ?_
      exact w_X12_isPointless_41 S hK hr hlk hk13 hM (lv_sub hl [0, 1, 2, 3] rfl) hF
    · have hF := (if_neg b6).symm.trans hF
      refine lv_iconst (v := 1) S.1 S.2.1 dX12_isPointless_31 (by decide) ?_
      refine lv_goto (tgt := 41) S.1 S.2.1 dX12_isPointless_32 (by decide) ?_
      exact w_X12_isPointless_41 S hK hr hlk hk13 hM (lv_sub hl [0, 1, 2, 3] rfl) hF
theorem wl_X12_isPointless_13 {l : Launch} {g : GE} {A : Nat → Prop} {p : Program} {e : Env} {s : State} {m : MethodId} {args : Array Value} {below : List Frame} {meth : Method} {c : Code} (S : CallFix p m c cX12_isPointless 4 s args UL RX12) (hK : KK g s) (hr : meth.sig.returnType = (some .boolean)) (hlk : meth.locks = false) {out : Int32 × IM} : ∀ (n : Nat) {x1 : Int32} {x2 : Int32} {x3 : Int32} {σ : IM} {H : Heap} {locs : List Loc} {ls : Array Slot}, Mem lyM 13 g A [] σ nor s.heap H locs → lv_has ls 4 [(0, .ref (g.2.2 0)), (1, .int x1), (2, .int x2), (3, .int x3)] → X12_isPointless_b13 n x1 x2 x3 σ = some out → W p l e ({ frames := 4, cells := 0, slots := 0, locals := 99 }) s m args below meth c H locs 0 0 (MQ below (Qm lyM 13 g A [] out.2 nor (some (.int out.1))) args s 0 0 A) (F0 m 13 ls []) := by
  intro n
  induction n with
  | zero =>
    intro x1 x2 x3 σ H locs ls hM hl hF
    cases hF
  | succ n ih =>
    intro x1 x2 x3 σ H locs ls hM hl hF
    exact w_X12_isPointless_13 S hK hr hlk ih hM hl hF
def X12_isPointless (σ : IM) (a1 : Int32) (a2 : Int32) : Option (Int32 × IM) := bd1 (X12_copies σ 1 2) fun σ1 => X12_isPointless_b13 1000 a1 a2 0 σ1
set_option maxRecDepth 20000 in
theorem c_X12_isPointless {l : Launch} {g : GE} {A : Nat → Prop} {σ : IM} {a1 : Int32} {a2 : Int32} {out : Int32 × IM} (hF : X12_isPointless σ a1 a2 = some out) : Met l yX12_isPointless (.code yX12_isPointless cX12_isPointless 4 (some .boolean) :: UL) ({ frames := 4, cells := 0, slots := 0, locals := 99 }) (va_Pc [.ref (g.2.2 0), .int a1, .int a2] (PreM lyM 13 g A [] σ nor)) (Qm lyM 13 g A [] out.2 nor (some (.int out.1))) 0 0 A := by
  refine e_of (by decide) (Nat.le_of_ble_eq_true rfl) ?_
  intro p e s m below meth c ls S hr hlk hv hl
  have hM := Mem.of hv
  have hK := hv.2.1
  have hl : lv_has ls 4 [(0, .ref (g.2.2 0)), (1, .int a1), (2, .int a2)] := hl
  unfold X12_isPointless at hF
  refine lv_aload_n S.1 S.2.1 dX12_isPointless_0 rfl (lv_at hl 0 rfl) ?_
  refine r_getC S hK hM cfX12 0 0 1 (by decide) lm_0 rfl (by decide) tw_5_31 dX12_isPointless_1 ?_
  refine lv_aload_n S.1 S.2.1 dX12_isPointless_4 rfl (lv_at hl 0 rfl) ?_
  refine r_getC S hK hM cfX12 0 1 2 (by decide) lm_0 rfl (by decide) tw_5_32 dX12_isPointless_5 ?_
  obtain ⟨σ1, er3, hF⟩ := bd1_some hF
  refine k_m (va_runS (As := [.ref (g.2.2 1), .ref (g.2.2 2)]) (rest := []) S (c_X12_copies  ar_1 ar_2 er3) (va_cwS 2 S.2.2.2.2 (ul_S tw_5_118 tw_5_119 tw_1_12 cw_X12_copies) rfl rfl rfl hs_X12_copies ⟨Nat.le_of_ble_eq_true rfl, Nat.le_of_ble_eq_true rfl⟩) ⟨PreM.blind, hM.pre hK⟩ rfl rfl hl.1 rfl (lv_room (Nat.le_of_ble_eq_true rfl)) dX12_isPointless_8 ⟨Nat.zero_le _, Nat.zero_le _⟩) hM (fun H locs hM => ?_)
  show W _ _ _ _ _ _ _ _ _ _ _ _ _ _ _ (F0 m 11 ls [])
  refine lv_iconst (v := 0) S.1 S.2.1 dX12_isPointless_11 (by decide) ?_
  refine lv_istore_n (lv' := [(3, .int 0), (0, .ref (g.2.2 0)), (1, .int a1), (2, .int a2)]) S.1 S.2.1 dX12_isPointless_12 rfl hl (by decide) rfl (fun ls hl => ?_)
  exact wl_X12_isPointless_13 S hK hr hlk 1000 hM (lv_sub hl [1, 2, 3, 0] rfl) hF
/-! X12_draughts -/
def X12_draughts_b140 (k73 : Int32 → Int32 → Int32 → Int64 → Int64 → Int32 → IM → Option (Int64 × IM)) (x1 : Int32) (x2 : Int32) (x3 : Int32) (x6 : Int64) (x8 : Int32) (t0 : Int64) (t1 : Int64) (σ : IM) : Option (Int64 × IM) := bd (t1 + t0) fun v23 => bd (x8 + 1) fun v24 => k73 x1 x2 x3 v23 x6 v24 σ
set_option maxRecDepth 20000 in
theorem w_X12_draughts_140 {l : Launch} {g : GE} {A : Nat → Prop} {p : Program} {e : Env} {s : State} {m : MethodId} {args : Array Value} {below : List Frame} {meth : Method} {c : Code} (S : CallFix p m c cX12_draughts 12 s args UL RX12) (hK : KK g s) (hr : meth.sig.returnType = (some .long)) (hlk : meth.locks = false) {out : Int64 × IM} {k73 : Int32 → Int32 → Int32 → Int64 → Int64 → Int32 → IM → Option (Int64 × IM)} (hk73 : ∀ {x1 : Int32} {x2 : Int32} {x3 : Int32} {x4 : Int64} {x6 : Int64} {x8 : Int32} {σ : IM} {H : Heap} {locs : List Loc} {ls : Array Slot}, Mem lyM 13 g A [] σ nor s.heap H locs → lv_has ls 12 [(0, .ref (g.2.2 0)), (1, .int x1), (2, .int x2), (3, .int x3), (4, .long x4), (6, .long x6), (8, .int x8)] → k73 x1 x2 x3 x4 x6 x8 σ = some out → W p l e ({ frames := 5, cells := 0, slots := 0, locals := 122 }) s m args below meth c H locs 0 0 (MQ below (Qm lyM 13 g A [] out.2 nor (some (.long out.1))) args s 0 0 A) (F0 m 73 ls [])) : ∀ {x1 : Int32} {x2 : Int32} {x3 : Int32} {x6 : Int64} {x8 : Int32} {t0 : Int64} {t1 : Int64} {σ : IM} {H : Heap} {locs : List Loc} {ls : Array Slot}, Mem lyM 13 g A [] σ nor s.heap H locs → lv_has ls 12 [(0, .ref (g.2.2 0)), (1, .int x1), (2, .int x2), (3, .int x3), (6, .long x6), (8, .int x8)] → X12_draughts_b140 k73 x1 x2 x3 x6 x8 t0 t1 σ = some out → W p l e ({ frames := 5, cells := 0, slots := 0, locals := 122 }) s m args below meth c H locs 0 0 (MQ below (Qm lyM 13 g A [] out.2 nor (some (.long out.1))) args s 0 0 A) (F0 m 140 ls [.long t0, .long t1]) := by
  intro x1 x2 x3 x6 x8 t0 t1 σ H locs ls hM hl hF
  unfold X12_draughts_b140 at hF
  refine lv_ladd S.1 S.2.1 dX12_draughts_140 ?_
  refine lv_topl (fun v23 ev23 => ?_)
  have hF := bd_at ev23 hF
  refine lv_lstore (lv' := [(4, .long v23), (0, .ref (g.2.2 0)), (1, .int x1), (2, .int x2), (3, .int x3), (6, .long x6), (8, .int x8)]) S.1 S.2.1 dX12_draughts_141 hl (by decide) rfl (fun ls hl => ?_)
  obtain ⟨v24, ev24, hF⟩ := bd_some hF
  refine lv_iinc (v := v24) (lv' := [(8, .int v24), (4, .long v23), (0, .ref (g.2.2 0)), (1, .int x1), (2, .int x2), (3, .int x3), (6, .long x6)]) S.1 S.2.1 dX12_draughts_143 hl (k := 6) rfl (by rw [ev24]; rfl) (by decide) rfl (fun ls hl => ?_)
  refine lv_goto (tgt := 73) S.1 S.2.1 dX12_draughts_146 (by decide) ?_
  exact hk73 hM (lv_sub hl [2, 3, 4, 5, 1, 6, 0] rfl)  hF
def X12_draughts_b113 (k73 : Int32 → Int32 → Int32 → Int64 → Int64 → Int32 → IM → Option (Int64 × IM)) (k87 : Int32 → Int32 → Int32 → Int64 → Int64 → Int32 → Int64 → Int32 → IM → Option (Int64 × IM)) (x1 : Int32) (x2 : Int32) (x3 : Int32) (x4 : Int64) (x6 : Int64) (x8 : Int32) (x11 : Int32) (t0 : Int64) (t1 : Int64) (σ : IM) : Option (Int64 × IM) := bd (t1 * t0) fun v21 => bd (x11 + 1) fun v22 => k87 x1 x2 x3 x4 x6 x8 v21 v22 σ
set_option maxRecDepth 20000 in
theorem w_X12_draughts_113 {l : Launch} {g : GE} {A : Nat → Prop} {p : Program} {e : Env} {s : State} {m : MethodId} {args : Array Value} {below : List Frame} {meth : Method} {c : Code} (S : CallFix p m c cX12_draughts 12 s args UL RX12) (hK : KK g s) (hr : meth.sig.returnType = (some .long)) (hlk : meth.locks = false) {out : Int64 × IM} {k73 : Int32 → Int32 → Int32 → Int64 → Int64 → Int32 → IM → Option (Int64 × IM)} (hk73 : ∀ {x1 : Int32} {x2 : Int32} {x3 : Int32} {x4 : Int64} {x6 : Int64} {x8 : Int32} {σ : IM} {H : Heap} {locs : List Loc} {ls : Array Slot}, Mem lyM 13 g A [] σ nor s.heap H locs → lv_has ls 12 [(0, .ref (g.2.2 0)), (1, .int x1), (2, .int x2), (3, .int x3), (4, .long x4), (6, .long x6), (8, .int x8)] → k73 x1 x2 x3 x4 x6 x8 σ = some out → W p l e ({ frames := 5, cells := 0, slots := 0, locals := 122 }) s m args below meth c H locs 0 0 (MQ below (Qm lyM 13 g A [] out.2 nor (some (.long out.1))) args s 0 0 A) (F0 m 73 ls [])) {k87 : Int32 → Int32 → Int32 → Int64 → Int64 → Int32 → Int64 → Int32 → IM → Option (Int64 × IM)} (hk87 : ∀ {x1 : Int32} {x2 : Int32} {x3 : Int32} {x4 : Int64} {x6 : Int64} {x8 : Int32} {x9 : Int64} {x11 : Int32} {σ : IM} {H : Heap} {locs : List Loc} {ls : Array Slot}, Mem lyM 13 g A [] σ nor s.heap H locs → lv_has ls 12 [(0, .ref (g.2.2 0)), (1, .int x1), (2, .int x2), (3, .int x3), (4, .long x4), (6, .long x6), (8, .int x8), (9, .long x9), (11, .int x11)] → k87 x1 x2 x3 x4 x6 x8 x9 x11 σ = some out → W p l e ({ frames := 5, cells := 0, slots := 0, locals := 122 }) s m args below meth c H locs 0 0 (MQ below (Qm lyM 13 g A [] out.2 nor (some (.long out.1))) args s 0 0 A) (F0 m 87 ls [])) : ∀ {x1 : Int32} {x2 : Int32} {x3 : Int32} {x4 : Int64} {x6 : Int64} {x8 : Int32} {x11 : Int32} {t0 : Int64} {t1 : Int64} {σ : IM} {H : Heap} {locs : List Loc} {ls : Array Slot}, Mem lyM 13 g A [] σ nor s.heap H locs → lv_has ls 12 [(0, .ref (g.2.2 0)), (1, .int x1), (2, .int x2), (3, .int x3), (4, .long x4), (6, .long x6), (8, .int x8), (11, .int x11)] → X12_draughts_b113 k73 k87 x1 x2 x3 x4 x6 x8 x11 t0 t1 σ = some out → W p l e ({ frames := 5, cells := 0, slots := 0, locals := 122 }) s m args below meth c H locs 0 0 (MQ below (Qm lyM 13 g A [] out.2 nor (some (.long out.1))) args s 0 0 A) (F0 m 113 ls [.long t0, .long t1]) := by
  intro x1 x2 x3 x4 x6 x8 x11 t0 t1 σ H locs ls hM hl hF
  unfold X12_draughts_b113 at hF
  refine lv_lmul S.1 S.2.1 dX12_draughts_113 ?_
  refine lv_topl (fun v21 ev21 => ?_)
  have hF := bd_at ev21 hF
  refine lv_lstore (lv' := [(9, .long v21), (0, .ref (g.2.2 0)), (1, .int x1), (2, .int x2), (3, .int x3), (4, .long x4), (6, .long x6), (8, .int x8), (11, .int x11)]) S.1 S.2.1 dX12_draughts_114 hl (by decide) rfl (fun ls hl => ?_)
  obtain ⟨v22, ev22, hF⟩ := bd_some hF
  refine lv_iinc (v := v22) (lv' := [(11, .int v22), (9, .long v21), (0, .ref (g.2.2 0)), (1, .int x1), (2, .int x2), (3, .int x3), (4, .long x4), (6, .long x6), (8, .int x8)]) S.1 S.2.1 dX12_draughts_116 hl (k := 8) rfl (by rw [ev22]; rfl) (by decide) rfl (fun ls hl => ?_)
  refine lv_goto (tgt := 87) S.1 S.2.1 dX12_draughts_119 (by decide) ?_
  exact hk87 hM (lv_sub hl [2, 3, 4, 5, 6, 7, 8, 1, 0] rfl)  hF
def X12_draughts_s87 (k73 : Int32 → Int32 → Int32 → Int64 → Int64 → Int32 → IM → Option (Int64 × IM)) (k87 : Int32 → Int32 → Int32 → Int64 → Int64 → Int32 → Int64 → Int32 → IM → Option (Int64 × IM)) (x1 : Int32) (x2 : Int32) (x3 : Int32) (x4 : Int64) (x6 : Int64) (x8 : Int32) (x9 : Int64) (x11 : Int32) (σ : IM) : Option (Int64 × IM) := if x1 ≤ x11 then (bd2 (X12_isPointless σ x1 x8) fun r17 σ15 => if r17 = 0 then (X12_draughts_b140 k73 x1 x2 x3 x6 x8 0 x4 σ15) else (X12_draughts_b140 k73 x1 x2 x3 x6 x8 x9 x4 σ15)) else (bd1 (X12_has x8 x11) fun r19 => if r19 = 0 then (X12_draughts_b113 k73 k87 x1 x2 x3 x4 x6 x8 x11 ((x2 - 1 : Int32).toInt64) x9 σ) else (X12_draughts_b113 k73 k87 x1 x2 x3 x4 x6 x8 x11 1 x9 σ))
def X12_draughts_b87 (k73 : Int32 → Int32 → Int32 → Int64 → Int64 → Int32 → IM → Option (Int64 × IM)) : Nat → Int32 → Int32 → Int32 → Int64 → Int64 → Int32 → Int64 → Int32 → IM → Option (Int64 × IM)
  | 0 => fun _ _ _ _ _ _ _ _ _ => none
  | n + 1 => X12_draughts_s87 k73 (X12_draughts_b87 k73 n)
set_option maxRecDepth 20000 in
theorem w_X12_draughts_87 {l : Launch} {g : GE} {A : Nat → Prop} {p : Program} {e : Env} {s : State} {m : MethodId} {args : Array Value} {below : List Frame} {meth : Method} {c : Code} (S : CallFix p m c cX12_draughts 12 s args UL RX12) (hK : KK g s) (hr : meth.sig.returnType = (some .long)) (hlk : meth.locks = false) {out : Int64 × IM} {k73 : Int32 → Int32 → Int32 → Int64 → Int64 → Int32 → IM → Option (Int64 × IM)} (hk73 : ∀ {x1 : Int32} {x2 : Int32} {x3 : Int32} {x4 : Int64} {x6 : Int64} {x8 : Int32} {σ : IM} {H : Heap} {locs : List Loc} {ls : Array Slot}, Mem lyM 13 g A [] σ nor s.heap H locs → lv_has ls 12 [(0, .ref (g.2.2 0)), (1, .int x1), (2, .int x2), (3, .int x3), (4, .long x4), (6, .long x6), (8, .int x8)] → k73 x1 x2 x3 x4 x6 x8 σ = some out → W p l e ({ frames := 5, cells := 0, slots := 0, locals := 122 }) s m args below meth c H locs 0 0 (MQ below (Qm lyM 13 g A [] out.2 nor (some (.long out.1))) args s 0 0 A) (F0 m 73 ls [])) {k87 : Int32 → Int32 → Int32 → Int64 → Int64 → Int32 → Int64 → Int32 → IM → Option (Int64 × IM)} (hk87 : ∀ {x1 : Int32} {x2 : Int32} {x3 : Int32} {x4 : Int64} {x6 : Int64} {x8 : Int32} {x9 : Int64} {x11 : Int32} {σ : IM} {H : Heap} {locs : List Loc} {ls : Array Slot}, Mem lyM 13 g A [] σ nor s.heap H locs → lv_has ls 12 [(0, .ref (g.2.2 0)), (1, .int x1), (2, .int x2), (3, .int x3), (4, .long x4), (6, .long x6), (8, .int x8), (9, .long x9), (11, .int x11)] → k87 x1 x2 x3 x4 x6 x8 x9 x11 σ = some out → W p l e ({ frames := 5, cells := 0, slots := 0, locals := 122 }) s m args below meth c H locs 0 0 (MQ below (Qm lyM 13 g A [] out.2 nor (some (.long out.1))) args s 0 0 A) (F0 m 87 ls [])) : ∀ {x1 : Int32} {x2 : Int32} {x3 : Int32} {x4 : Int64} {x6 : Int64} {x8 : Int32} {x9 : Int64} {x11 : Int32} {σ : IM} {H : Heap} {locs : List Loc} {ls : Array Slot}, Mem lyM 13 g A [] σ nor s.heap H locs → lv_has ls 12 [(0, .ref (g.2.2 0)), (1, .int x1), (2, .int x2), (3, .int x3), (4, .long x4), (6, .long x6), (8, .int x8), (9, .long x9), (11, .int x11)] → X12_draughts_s87 k73 k87 x1 x2 x3 x4 x6 x8 x9 x11 σ = some out → W p l e ({ frames := 5, cells := 0, slots := 0, locals := 122 }) s m args below meth c H locs 0 0 (MQ below (Qm lyM 13 g A [] out.2 nor (some (.long out.1))) args s 0 0 A) (F0 m 87 ls []) := by
  intro x1 x2 x3 x4 x6 x8 x9 x11 σ H locs ls hM hl hF
  unfold X12_draughts_s87 at hF
  refine lv_iload S.1 S.2.1 dX12_draughts_87 (lv_at hl 8 rfl) ?_
  refine lv_iload_n S.1 S.2.1 dX12_draughts_89 rfl (lv_at hl 1 rfl) ?_
  refine lv_icmp_ge (tgt := 122) S.1 S.2.1 dX12_draughts_90 (by decide) (fun b14 => ?_) (fun b14 => ?_)
  · have hF := (if_pos b14).symm.trans hF
    refine lv_lload S.1 S.2.1 dX12_draughts_122 (lv_at hl 4 rfl) ?_
    refine lv_aload_n S.1 S.2.1 dX12_draughts_124 rfl (lv_at hl 0 rfl) ?_
    refine lv_iload_n S.1 S.2.1 dX12_draughts_125 rfl (lv_at hl 1 rfl) ?_
    refine lv_iload S.1 S.2.1 dX12_draughts_126 (lv_at hl 6 rfl) ?_
    obtain ⟨r17, σ15, er17, hF⟩ := bd2_some hF
    refine k_m (va_runV (As := [.int x1, .int x8]) (rest := [.long x4]) S (c_X12_isPointless   er17) (cwV 2 S.2.2.2.2 (ul_V tw_6_140 tw_6_142 ts_X12_isPointless tw_1_12 cw_X12_isPointless) rfl rfl rfl hv_X12_isPointless ⟨Nat.le_of_ble_eq_true rfl, Nat.le_of_ble_eq_true rfl⟩) ⟨PreM.blind, hM.recv hK cfX12 0 (by decide) lm_0, hM.pre hK⟩ rfl rfl hl.1 rfl (lv_room (Nat.le_of_ble_eq_true rfl)) dX12_draughts_128 ⟨Nat.zero_le _, Nat.zero_le _⟩) hM (fun H locs hM => ?_)
    show W _ _ _ _ _ _ _ _ _ _ _ _ _ _ _ (F0 m 131 ls [.int r17, .long x4])
    refine lv_if_eq (tgt := 139) S.1 S.2.1 dX12_draughts_131 (by decide) (fun b18 => ?_) (fun b18 => ?_)
    · have hF := (if_pos b18).symm.trans hF
      refine lv_lconst (v := 0) S.1 S.2.1 dX12_draughts_139 (by decide) ?_
      exact w_X12_draughts_140 S hK hr hlk hk73 hM (lv_sub hl [0, 1, 2, 3, 5, 6] rfl) hF
    · have hF := (if_neg b18).symm.trans hF
      refine lv_lload S.1 S.2.1 dX12_draughts_134 (lv_at hl 7 rfl) ?_
      refine lv_goto (tgt := 140) S.1 S.2.1 dX12_draughts_136 (by decide) ?_
      exact w_X12_draughts_140 S hK hr hlk hk73 hM (lv_sub hl [0, 1, 2, 3, 5, 6] rfl) hF
  · have hF := (if_neg b14).symm.trans hF
    refine lv_lload S.1 S.2.1 dX12_draughts_93 (lv_at hl 7 rfl) ?_
    refine lv_iload S.1 S.2.1 dX12_draughts_95 (lv_at hl 6 rfl) ?_
    refine lv_iload S.1 S.2.1 dX12_draughts_97 (lv_at hl 8 rfl) ?_
    obtain ⟨r19, er19, hF⟩ := bd1_some hF
    refine k_p (va_runS (As := [.int x8, .int x11]) (rest := [.long x9]) S (c_X12_has   er19) (va_cwS 2 S.2.2.2.2 (ul_S tw_6_137 tw_6_138 tw_1_12 cw_X12_has) rfl rfl rfl hs_X12_has ⟨Nat.le_of_ble_eq_true rfl, Nat.le_of_ble_eq_true rfl⟩) ⟨PreM.blind, hM.pre hK⟩ rfl rfl hl.1 rfl (lv_room (Nat.le_of_ble_eq_true rfl)) dX12_draughts_99 ⟨Nat.zero_le _, Nat.zero_le _⟩) ?_
    refine lv_if_eq (tgt := 109) S.1 S.2.1 dX12_draughts_102 (by decide) (fun b20 => ?_) (fun b20 => ?_)
    · have hF := (if_pos b20).symm.trans hF
      refine lv_iload_n S.1 S.2.1 dX12_draughts_109 rfl (lv_at hl 2 rfl) ?_
      refine lv_iconst (v := 1) S.1 S.2.1 dX12_draughts_110 (by decide) ?_
      refine lv_isub S.1 S.2.1 dX12_draughts_111 ?_
      refine lv_i2l S.1 S.2.1 dX12_draughts_112 rfl ?_
      exact w_X12_draughts_113 S hK hr hlk hk73 hk87 hM (lv_sub hl [0, 1, 2, 3, 4, 5, 6, 8] rfl) hF
    · have hF := (if_neg b20).symm.trans hF
      refine lv_lconst (v := 1) S.1 S.2.1 dX12_draughts_105 (by decide) ?_
      refine lv_goto (tgt := 113) S.1 S.2.1 dX12_draughts_106 (by decide) ?_
      exact w_X12_draughts_113 S hK hr hlk hk73 hk87 hM (lv_sub hl [0, 1, 2, 3, 4, 5, 6, 8] rfl) hF
theorem wl_X12_draughts_87 {l : Launch} {g : GE} {A : Nat → Prop} {p : Program} {e : Env} {s : State} {m : MethodId} {args : Array Value} {below : List Frame} {meth : Method} {c : Code} (S : CallFix p m c cX12_draughts 12 s args UL RX12) (hK : KK g s) (hr : meth.sig.returnType = (some .long)) (hlk : meth.locks = false) {out : Int64 × IM} {k73 : Int32 → Int32 → Int32 → Int64 → Int64 → Int32 → IM → Option (Int64 × IM)} (hk73 : ∀ {x1 : Int32} {x2 : Int32} {x3 : Int32} {x4 : Int64} {x6 : Int64} {x8 : Int32} {σ : IM} {H : Heap} {locs : List Loc} {ls : Array Slot}, Mem lyM 13 g A [] σ nor s.heap H locs → lv_has ls 12 [(0, .ref (g.2.2 0)), (1, .int x1), (2, .int x2), (3, .int x3), (4, .long x4), (6, .long x6), (8, .int x8)] → k73 x1 x2 x3 x4 x6 x8 σ = some out → W p l e ({ frames := 5, cells := 0, slots := 0, locals := 122 }) s m args below meth c H locs 0 0 (MQ below (Qm lyM 13 g A [] out.2 nor (some (.long out.1))) args s 0 0 A) (F0 m 73 ls [])) : ∀ (n : Nat) {x1 : Int32} {x2 : Int32} {x3 : Int32} {x4 : Int64} {x6 : Int64} {x8 : Int32} {x9 : Int64} {x11 : Int32} {σ : IM} {H : Heap} {locs : List Loc} {ls : Array Slot}, Mem lyM 13 g A [] σ nor s.heap H locs → lv_has ls 12 [(0, .ref (g.2.2 0)), (1, .int x1), (2, .int x2), (3, .int x3), (4, .long x4), (6, .long x6), (8, .int x8), (9, .long x9), (11, .int x11)] → X12_draughts_b87 k73 n x1 x2 x3 x4 x6 x8 x9 x11 σ = some out → W p l e ({ frames := 5, cells := 0, slots := 0, locals := 122 }) s m args below meth c H locs 0 0 (MQ below (Qm lyM 13 g A [] out.2 nor (some (.long out.1))) args s 0 0 A) (F0 m 87 ls []) := by
  intro n
  induction n with
  | zero =>
    intro x1 x2 x3 x4 x6 x8 x9 x11 σ H locs ls hM hl hF
    cases hF
  | succ n ih =>
    intro x1 x2 x3 x4 x6 x8 x9 x11 σ H locs ls hM hl hF
    exact w_X12_draughts_87 S hK hr hlk hk73 ih hM hl hF
def X12_draughts_s73 (k73 : Int32 → Int32 → Int32 → Int64 → Int64 → Int32 → IM → Option (Int64 × IM)) (x1 : Int32) (x2 : Int32) (x3 : Int32) (x4 : Int64) (x6 : Int64) (x8 : Int32) (σ : IM) : Option (Int64 × IM) := if 1 <<< (x1 &&& 31) ≤ x8 then (bd1 (X12_partOf x4 x6 x3) fun r13 => some (r13, σ)) else (X12_draughts_b87 k73 1000 x1 x2 x3 x4 x6 x8 1 0 σ)
def X12_draughts_b73 : Nat → Int32 → Int32 → Int32 → Int64 → Int64 → Int32 → IM → Option (Int64 × IM)
  | 0 => fun _ _ _ _ _ _ _ => none
  | n + 1 => X12_draughts_s73 (X12_draughts_b73 n)
set_option maxRecDepth 20000 in
theorem w_X12_draughts_73 {l : Launch} {g : GE} {A : Nat → Prop} {p : Program} {e : Env} {s : State} {m : MethodId} {args : Array Value} {below : List Frame} {meth : Method} {c : Code} (S : CallFix p m c cX12_draughts 12 s args UL RX12) (hK : KK g s) (hr : meth.sig.returnType = (some .long)) (hlk : meth.locks = false) {out : Int64 × IM} {k73 : Int32 → Int32 → Int32 → Int64 → Int64 → Int32 → IM → Option (Int64 × IM)} (hk73 : ∀ {x1 : Int32} {x2 : Int32} {x3 : Int32} {x4 : Int64} {x6 : Int64} {x8 : Int32} {σ : IM} {H : Heap} {locs : List Loc} {ls : Array Slot}, Mem lyM 13 g A [] σ nor s.heap H locs → lv_has ls 12 [(0, .ref (g.2.2 0)), (1, .int x1), (2, .int x2), (3, .int x3), (4, .long x4), (6, .long x6), (8, .int x8)] → k73 x1 x2 x3 x4 x6 x8 σ = some out → W p l e ({ frames := 5, cells := 0, slots := 0, locals := 122 }) s m args below meth c H locs 0 0 (MQ below (Qm lyM 13 g A [] out.2 nor (some (.long out.1))) args s 0 0 A) (F0 m 73 ls [])) : ∀ {x1 : Int32} {x2 : Int32} {x3 : Int32} {x4 : Int64} {x6 : Int64} {x8 : Int32} {σ : IM} {H : Heap} {locs : List Loc} {ls : Array Slot}, Mem lyM 13 g A [] σ nor s.heap H locs → lv_has ls 12 [(0, .ref (g.2.2 0)), (1, .int x1), (2, .int x2), (3, .int x3), (4, .long x4), (6, .long x6), (8, .int x8)] → X12_draughts_s73 k73 x1 x2 x3 x4 x6 x8 σ = some out → W p l e ({ frames := 5, cells := 0, slots := 0, locals := 122 }) s m args below meth c H locs 0 0 (MQ below (Qm lyM 13 g A [] out.2 nor (some (.long out.1))) args s 0 0 A) (F0 m 73 ls []) := by
  intro x1 x2 x3 x4 x6 x8 σ H locs ls hM hl hF
  unfold X12_draughts_s73 at hF
  refine lv_iload S.1 S.2.1 dX12_draughts_73 (lv_at hl 6 rfl) ?_
  refine lv_iconst (v := 1) S.1 S.2.1 dX12_draughts_75 (by decide) ?_
  refine lv_iload_n S.1 S.2.1 dX12_draughts_76 rfl (lv_at hl 1 rfl) ?_
  refine lv_ishl S.1 S.2.1 dX12_draughts_77 ?_
  refine lv_icmp_ge (tgt := 149) S.1 S.2.1 dX12_draughts_78 (by decide) (fun b12 => ?_) (fun b12 => ?_)
  · have hF := (if_pos b12).symm.trans hF
    refine lv_lload S.1 S.2.1 dX12_draughts_149 (lv_at hl 4 rfl) ?_
    refine lv_lload S.1 S.2.1 dX12_draughts_151 (lv_at hl 5 rfl) ?_
    refine lv_iload_n S.1 S.2.1 dX12_draughts_153 rfl (lv_at hl 3 rfl) ?_
    obtain ⟨r13, er13, hF⟩ := bd1_some hF
    refine k_p (va_runS (As := [.long x4, .long x6, .int x3]) (rest := []) S (c_X12_partOf   er13) (va_cwS 3 S.2.2.2.2 (ul_S tw_6_144 tw_6_145 tw_1_12 cw_X12_partOf) rfl rfl rfl hs_X12_partOf ⟨Nat.le_of_ble_eq_true rfl, Nat.le_of_ble_eq_true rfl⟩) ⟨PreM.blind, hM.pre hK⟩ rfl rfl hl.1 rfl (lv_room (Nat.le_of_ble_eq_true rfl)) dX12_draughts_154 ⟨Nat.zero_le _, Nat.zero_le _⟩) ?_
    cases hF
    exact z_ml S hM hr hlk dX12_draughts_157
  · have hF := (if_neg b12).symm.trans hF
    refine lv_lconst (v := 1) S.1 S.2.1 dX12_draughts_81 (by decide) ?_
    refine lv_lstore (lv' := [(9, .long 1), (0, .ref (g.2.2 0)), (1, .int x1), (2, .int x2), (3, .int x3), (4, .long x4), (6, .long x6), (8, .int x8)]) S.1 S.2.1 dX12_draughts_82 hl (by decide) rfl (fun ls hl => ?_)
    refine lv_iconst (v := 0) S.1 S.2.1 dX12_draughts_84 (by decide) ?_
    refine lv_istore (lv' := [(11, .int 0), (9, .long 1), (0, .ref (g.2.2 0)), (1, .int x1), (2, .int x2), (3, .int x3), (4, .long x4), (6, .long x6), (8, .int x8)]) S.1 S.2.1 dX12_draughts_85 hl (by decide) rfl (fun ls hl => ?_)
    exact wl_X12_draughts_87 S hK hr hlk hk73 1000 hM (lv_sub hl [2, 3, 4, 5, 6, 7, 8, 1, 0] rfl) hF
theorem wl_X12_draughts_73 {l : Launch} {g : GE} {A : Nat → Prop} {p : Program} {e : Env} {s : State} {m : MethodId} {args : Array Value} {below : List Frame} {meth : Method} {c : Code} (S : CallFix p m c cX12_draughts 12 s args UL RX12) (hK : KK g s) (hr : meth.sig.returnType = (some .long)) (hlk : meth.locks = false) {out : Int64 × IM} : ∀ (n : Nat) {x1 : Int32} {x2 : Int32} {x3 : Int32} {x4 : Int64} {x6 : Int64} {x8 : Int32} {σ : IM} {H : Heap} {locs : List Loc} {ls : Array Slot}, Mem lyM 13 g A [] σ nor s.heap H locs → lv_has ls 12 [(0, .ref (g.2.2 0)), (1, .int x1), (2, .int x2), (3, .int x3), (4, .long x4), (6, .long x6), (8, .int x8)] → X12_draughts_b73 n x1 x2 x3 x4 x6 x8 σ = some out → W p l e ({ frames := 5, cells := 0, slots := 0, locals := 122 }) s m args below meth c H locs 0 0 (MQ below (Qm lyM 13 g A [] out.2 nor (some (.long out.1))) args s 0 0 A) (F0 m 73 ls []) := by
  intro n
  induction n with
  | zero =>
    intro x1 x2 x3 x4 x6 x8 σ H locs ls hM hl hF
    cases hF
  | succ n ih =>
    intro x1 x2 x3 x4 x6 x8 σ H locs ls hM hl hF
    exact w_X12_draughts_73 S hK hr hlk ih hM hl hF
def X12_draughts_s51 (k51 : Int32 → Int32 → Int32 → Int64 → Int64 → Int32 → IM → Option (Int64 × IM)) (x1 : Int32) (x2 : Int32) (x3 : Int32) (x4 : Int64) (x6 : Int64) (x8 : Int32) (σ : IM) : Option (Int64 × IM) := if x1 ≤ x8 then (X12_draughts_b73 1000 x1 x2 x3 x4 x6 0 σ) else (bd (x6 * ((x2 : Int32).toInt64)) fun v10 => bd (x8 + 1) fun v11 => k51 x1 x2 x3 x4 v10 v11 σ)
def X12_draughts_b51 : Nat → Int32 → Int32 → Int32 → Int64 → Int64 → Int32 → IM → Option (Int64 × IM)
  | 0 => fun _ _ _ _ _ _ _ => none
  | n + 1 => X12_draughts_s51 (X12_draughts_b51 n)
set_option maxRecDepth 20000 in
theorem w_X12_draughts_51 {l : Launch} {g : GE} {A : Nat → Prop} {p : Program} {e : Env} {s : State} {m : MethodId} {args : Array Value} {below : List Frame} {meth : Method} {c : Code} (S : CallFix p m c cX12_draughts 12 s args UL RX12) (hK : KK g s) (hr : meth.sig.returnType = (some .long)) (hlk : meth.locks = false) {out : Int64 × IM} {k51 : Int32 → Int32 → Int32 → Int64 → Int64 → Int32 → IM → Option (Int64 × IM)} (hk51 : ∀ {x1 : Int32} {x2 : Int32} {x3 : Int32} {x4 : Int64} {x6 : Int64} {x8 : Int32} {σ : IM} {H : Heap} {locs : List Loc} {ls : Array Slot}, Mem lyM 13 g A [] σ nor s.heap H locs → lv_has ls 12 [(0, .ref (g.2.2 0)), (1, .int x1), (2, .int x2), (3, .int x3), (4, .long x4), (6, .long x6), (8, .int x8)] → k51 x1 x2 x3 x4 x6 x8 σ = some out → W p l e ({ frames := 5, cells := 0, slots := 0, locals := 122 }) s m args below meth c H locs 0 0 (MQ below (Qm lyM 13 g A [] out.2 nor (some (.long out.1))) args s 0 0 A) (F0 m 51 ls [])) : ∀ {x1 : Int32} {x2 : Int32} {x3 : Int32} {x4 : Int64} {x6 : Int64} {x8 : Int32} {σ : IM} {H : Heap} {locs : List Loc} {ls : Array Slot}, Mem lyM 13 g A [] σ nor s.heap H locs → lv_has ls 12 [(0, .ref (g.2.2 0)), (1, .int x1), (2, .int x2), (3, .int x3), (4, .long x4), (6, .long x6), (8, .int x8)] → X12_draughts_s51 k51 x1 x2 x3 x4 x6 x8 σ = some out → W p l e ({ frames := 5, cells := 0, slots := 0, locals := 122 }) s m args below meth c H locs 0 0 (MQ below (Qm lyM 13 g A [] out.2 nor (some (.long out.1))) args s 0 0 A) (F0 m 51 ls []) := by
  intro x1 x2 x3 x4 x6 x8 σ H locs ls hM hl hF
  unfold X12_draughts_s51 at hF
  refine lv_iload S.1 S.2.1 dX12_draughts_51 (lv_at hl 6 rfl) ?_
  refine lv_iload_n S.1 S.2.1 dX12_draughts_53 rfl (lv_at hl 1 rfl) ?_
  refine lv_icmp_ge (tgt := 70) S.1 S.2.1 dX12_draughts_54 (by decide) (fun b9 => ?_) (fun b9 => ?_)
  · have hF := (if_pos b9).symm.trans hF
    refine lv_iconst (v := 0) S.1 S.2.1 dX12_draughts_70 (by decide) ?_
    refine lv_istore (lv' := [(8, .int 0), (0, .ref (g.2.2 0)), (1, .int x1), (2, .int x2), (3, .int x3), (4, .long x4), (6, .long x6)]) S.1 S.2.1 dX12_draughts_71 hl (by decide) rfl (fun ls hl => ?_)
    exact wl_X12_draughts_73 S hK hr hlk 1000 hM (lv_sub hl [1, 2, 3, 4, 5, 6, 0] rfl) hF
  · have hF := (if_neg b9).symm.trans hF
    refine lv_lload S.1 S.2.1 dX12_draughts_57 (lv_at hl 5 rfl) ?_
    refine lv_iload_n S.1 S.2.1 dX12_draughts_59 rfl (lv_at hl 2 rfl) ?_
    refine lv_i2l S.1 S.2.1 dX12_draughts_60 rfl ?_
    refine lv_lmul S.1 S.2.1 dX12_draughts_61 ?_
    refine lv_topl (fun v10 ev10 => ?_)
    have hF := bd_at ev10 hF
    refine lv_lstore (lv' := [(6, .long v10), (0, .ref (g.2.2 0)), (1, .int x1), (2, .int x2), (3, .int x3), (4, .long x4), (8, .int x8)]) S.1 S.2.1 dX12_draughts_62 hl (by decide) rfl (fun ls hl => ?_)
    obtain ⟨v11, ev11, hF⟩ := bd_some hF
    refine lv_iinc (v := v11) (lv' := [(8, .int v11), (6, .long v10), (0, .ref (g.2.2 0)), (1, .int x1), (2, .int x2), (3, .int x3), (4, .long x4)]) S.1 S.2.1 dX12_draughts_64 hl (k := 6) rfl (by rw [ev11]; rfl) (by decide) rfl (fun ls hl => ?_)
    refine lv_goto (tgt := 51) S.1 S.2.1 dX12_draughts_67 (by decide) ?_
    exact hk51 hM (lv_sub hl [2, 3, 4, 5, 6, 1, 0] rfl)  hF
theorem wl_X12_draughts_51 {l : Launch} {g : GE} {A : Nat → Prop} {p : Program} {e : Env} {s : State} {m : MethodId} {args : Array Value} {below : List Frame} {meth : Method} {c : Code} (S : CallFix p m c cX12_draughts 12 s args UL RX12) (hK : KK g s) (hr : meth.sig.returnType = (some .long)) (hlk : meth.locks = false) {out : Int64 × IM} : ∀ (n : Nat) {x1 : Int32} {x2 : Int32} {x3 : Int32} {x4 : Int64} {x6 : Int64} {x8 : Int32} {σ : IM} {H : Heap} {locs : List Loc} {ls : Array Slot}, Mem lyM 13 g A [] σ nor s.heap H locs → lv_has ls 12 [(0, .ref (g.2.2 0)), (1, .int x1), (2, .int x2), (3, .int x3), (4, .long x4), (6, .long x6), (8, .int x8)] → X12_draughts_b51 n x1 x2 x3 x4 x6 x8 σ = some out → W p l e ({ frames := 5, cells := 0, slots := 0, locals := 122 }) s m args below meth c H locs 0 0 (MQ below (Qm lyM 13 g A [] out.2 nor (some (.long out.1))) args s 0 0 A) (F0 m 51 ls []) := by
  intro n
  induction n with
  | zero =>
    intro x1 x2 x3 x4 x6 x8 σ H locs ls hM hl hF
    cases hF
  | succ n ih =>
    intro x1 x2 x3 x4 x6 x8 σ H locs ls hM hl hF
    exact w_X12_draughts_51 S hK hr hlk ih hM hl hF
def X12_draughts (σ : IM) (a1 : Int32) (a2 : Int32) (a3 : Int32) : Option (Int64 × IM) := bd1 (X12_isIn a1 0 5) fun r1 => if r1 = 0 then (some (1000000001, σ)) else (rd (σ 1) 42 0 fun v3 => if v3 < a1 then (some (1000000001, σ)) else (bd1 (X12_isIn a2 2 20) fun r5 => if r5 = 0 then (some (1000000001, σ)) else (bd1 (X12_isIn a3 0 1) fun r7 => if r7 = 0 then (some (1000000001, σ)) else (X12_draughts_b51 1000 a1 a2 a3 0 1 0 σ))))
set_option maxRecDepth 20000 in
theorem c_X12_draughts {l : Launch} {g : GE} {A : Nat → Prop} {σ : IM} {a1 : Int32} {a2 : Int32} {a3 : Int32} {out : Int64 × IM} (hF : X12_draughts σ a1 a2 a3 = some out) : Met l yX12_draughts (.code yX12_draughts cX12_draughts 12 (some .long) :: UL) ({ frames := 5, cells := 0, slots := 0, locals := 122 }) (va_Pc [.ref (g.2.2 0), .int a1, .int a2, .int a3] (PreM lyM 13 g A [] σ nor)) (Qm lyM 13 g A [] out.2 nor (some (.long out.1))) 0 0 A := by
  refine e_of (by decide) (Nat.le_of_ble_eq_true rfl) ?_
  intro p e s m below meth c ls S hr hlk hv hl
  have hM := Mem.of hv
  have hK := hv.2.1
  have hl : lv_has ls 12 [(0, .ref (g.2.2 0)), (1, .int a1), (2, .int a2), (3, .int a3)] := hl
  unfold X12_draughts at hF
  refine lv_iload_n S.1 S.2.1 dX12_draughts_0 rfl (lv_at hl 1 rfl) ?_
  refine lv_iconst (v := 0) S.1 S.2.1 dX12_draughts_1 (by decide) ?_
  refine lv_iconst (v := 5) S.1 S.2.1 dX12_draughts_2 (by decide) ?_
  obtain ⟨r1, er1, hF⟩ := bd1_some hF
  refine k_p (va_runS (As := [.int a1, .int 0, .int 5]) (rest := []) S (c_X12_isIn   er1) (va_cwS 3 S.2.2.2.2 (ul_S tw_5_103 tw_5_104 tw_1_12 cw_X12_isIn) rfl rfl rfl hs_X12_isIn ⟨Nat.le_of_ble_eq_true rfl, Nat.le_of_ble_eq_true rfl⟩) ⟨PreM.blind, hM.pre hK⟩ rfl rfl hl.1 rfl (lv_room (Nat.le_of_ble_eq_true rfl)) dX12_draughts_3 ⟨Nat.zero_le _, Nat.zero_le _⟩) ?_
  refine lv_if_eq (tgt := 38) S.1 S.2.1 dX12_draughts_6 (by decide) (fun b2 => ?_) (fun b2 => ?_)
  · have hF := (if_pos b2).symm.trans hF
    refine lv_ldc2 (v := 1000000001) S.1 S.2.1 S.2.2.2.1 (S.2.2.2.2 _ tw_6_136) dX12_draughts_38 ?_
    cases hF
    exact z_ml S hM hr hlk dX12_draughts_41
  · have hF := (if_neg b2).symm.trans hF
    refine lv_iload_n S.1 S.2.1 dX12_draughts_9 rfl (lv_at hl 1 rfl) ?_
    refine lv_aload_n S.1 S.2.1 dX12_draughts_10 rfl (lv_at hl 0 rfl) ?_
    refine r_getC S hK hM cfX12 0 0 1 (by decide) lm_0 rfl (by decide) tw_5_31 dX12_draughts_11 ?_
    refine lv_iconst (v := 0) S.1 S.2.1 dX12_draughts_14 (by decide) ?_
    obtain ⟨hv3, v3, ev3, hF⟩ := rd_some hF
    refine r_iald S hK hM 1 (by decide) rfl hv3 ev3 dX12_draughts_15 ?_
    refine lv_icmp_gt (tgt := 38) S.1 S.2.1 dX12_draughts_16 (by decide) (fun b4 => ?_) (fun b4 => ?_)
    · have hF := (if_pos b4).symm.trans hF
      refine lv_ldc2 (v := 1000000001) S.1 S.2.1 S.2.2.2.1 (S.2.2.2.2 _ tw_6_136) dX12_draughts_38 ?_
      cases hF
      exact z_ml S hM hr hlk dX12_draughts_41
    · have hF := (if_neg b4).symm.trans hF
      refine lv_iload_n S.1 S.2.1 dX12_draughts_19 rfl (lv_at hl 2 rfl) ?_
      refine lv_iconst (v := 2) S.1 S.2.1 dX12_draughts_20 (by decide) ?_
      refine lv_bipush (v := 20) S.1 S.2.1 dX12_draughts_21 (by decide) ?_
      obtain ⟨r5, er5, hF⟩ := bd1_some hF
      refine k_p (va_runS (As := [.int a2, .int 2, .int 20]) (rest := []) S (c_X12_isIn   er5) (va_cwS 3 S.2.2.2.2 (ul_S tw_5_103 tw_5_104 tw_1_12 cw_X12_isIn) rfl rfl rfl hs_X12_isIn ⟨Nat.le_of_ble_eq_true rfl, Nat.le_of_ble_eq_true rfl⟩) ⟨PreM.blind, hM.pre hK⟩ rfl rfl hl.1 rfl (lv_room (Nat.le_of_ble_eq_true rfl)) dX12_draughts_23 ⟨Nat.zero_le _, Nat.zero_le _⟩) ?_
      refine lv_if_eq (tgt := 38) S.1 S.2.1 dX12_draughts_26 (by decide) (fun b6 => ?_) (fun b6 => ?_)
      · have hF := (if_pos b6).symm.trans hF
        refine lv_ldc2 (v := 1000000001) S.1 S.2.1 S.2.2.2.1 (S.2.2.2.2 _ tw_6_136) dX12_draughts_38 ?_
        cases hF
        exact z_ml S hM hr hlk dX12_draughts_41
      · have hF := (if_neg b6).symm.trans hF
        refine lv_iload_n S.1 S.2.1 dX12_draughts_29 rfl (lv_at hl 3 rfl) ?_
        refine lv_iconst (v := 0) S.1 S.2.1 dX12_draughts_30 (by decide) ?_
        refine lv_iconst (v := 1) S.1 S.2.1 dX12_draughts_31 (by decide) ?_
        obtain ⟨r7, er7, hF⟩ := bd1_some hF
        refine k_p (va_runS (As := [.int a3, .int 0, .int 1]) (rest := []) S (c_X12_isIn   er7) (va_cwS 3 S.2.2.2.2 (ul_S tw_5_103 tw_5_104 tw_1_12 cw_X12_isIn) rfl rfl rfl hs_X12_isIn ⟨Nat.le_of_ble_eq_true rfl, Nat.le_of_ble_eq_true rfl⟩) ⟨PreM.blind, hM.pre hK⟩ rfl rfl hl.1 rfl (lv_room (Nat.le_of_ble_eq_true rfl)) dX12_draughts_32 ⟨Nat.zero_le _, Nat.zero_le _⟩) ?_
        refine lv_if_ne (tgt := 42) S.1 S.2.1 dX12_draughts_35 (by decide) (fun b8 => ?_) (fun b8 => ?_)
        · have hF := (if_neg b8).symm.trans hF
          refine lv_lconst (v := 0) S.1 S.2.1 dX12_draughts_42 (by decide) ?_
          refine lv_lstore (lv' := [(4, .long 0), (0, .ref (g.2.2 0)), (1, .int a1), (2, .int a2), (3, .int a3)]) S.1 S.2.1 dX12_draughts_43 hl (by decide) rfl (fun ls hl => ?_)
          refine lv_lconst (v := 1) S.1 S.2.1 dX12_draughts_45 (by decide) ?_
          refine lv_lstore (lv' := [(6, .long 1), (4, .long 0), (0, .ref (g.2.2 0)), (1, .int a1), (2, .int a2), (3, .int a3)]) S.1 S.2.1 dX12_draughts_46 hl (by decide) rfl (fun ls hl => ?_)
          refine lv_iconst (v := 0) S.1 S.2.1 dX12_draughts_48 (by decide) ?_
          refine lv_istore (lv' := [(8, .int 0), (6, .long 1), (4, .long 0), (0, .ref (g.2.2 0)), (1, .int a1), (2, .int a2), (3, .int a3)]) S.1 S.2.1 dX12_draughts_49 hl (by decide) rfl (fun ls hl => ?_)
          exact wl_X12_draughts_51 S hK hr hlk 1000 hM (lv_sub hl [3, 4, 5, 6, 2, 1, 0] rfl) hF
        · have hF := (if_pos b8).symm.trans hF
          refine lv_ldc2 (v := 1000000001) S.1 S.2.1 S.2.2.2.1 (S.2.2.2.2 _ tw_6_136) dX12_draughts_38 ?_
          cases hF
          exact z_ml S hM hr hlk dX12_draughts_41
/-! X12_allTired -/
def X12_allTired_s4 (σ : IM) (k4 : Int32 → Int32 → Option Int32) (x1 : Int32) (x2 : Int32) : Option Int32 := if 4 ≤ x2 then (some x1) else (bd1 (X12_ofP x2 2) fun r2 => rd (σ 1) 42 r2 fun v3 => bd (x1 + v3) fun v4 => bd (x2 + 1) fun v5 => k4 v4 v5)
def X12_allTired_b4 (σ : IM) : Nat → Int32 → Int32 → Option Int32
  | 0 => fun _ _ => none
  | n + 1 => X12_allTired_s4 σ (X12_allTired_b4 σ n)
set_option maxRecDepth 20000 in
theorem w_X12_allTired_4 {l : Launch} {g : GE} {A : Nat → Prop} {σ : IM} {p : Program} {e : Env} {s : State} {m : MethodId} {args : Array Value} {below : List Frame} {meth : Method} {c : Code} (S : CallFix p m c cX12_allTired 3 s args UL RX12) (hK : KK g s) (hr : meth.sig.returnType = (some .int)) (hlk : meth.locks = false) (hM : Mem lyM 13 g A [] σ nor s.heap s.heap []) {out : Int32} {k4 : Int32 → Int32 → Option Int32} (hk4 : ∀ {x1 : Int32} {x2 : Int32} {ls : Array Slot}, lv_has ls 3 [(0, .ref (g.2.2 0)), (1, .int x1), (2, .int x2)] → k4 x1 x2 = some out → W p l e ({ frames := 1, cells := 0, slots := 0, locals := 21 }) s m args below meth c s.heap [] 0 0 (MQ below (Qp (some (.int out))) args s 0 0 NoA) (F0 m 4 ls [])) : ∀ {x1 : Int32} {x2 : Int32} {ls : Array Slot}, lv_has ls 3 [(0, .ref (g.2.2 0)), (1, .int x1), (2, .int x2)] → X12_allTired_s4 σ k4 x1 x2 = some out → W p l e ({ frames := 1, cells := 0, slots := 0, locals := 21 }) s m args below meth c s.heap [] 0 0 (MQ below (Qp (some (.int out))) args s 0 0 NoA) (F0 m 4 ls []) := by
  intro x1 x2 ls hl hF
  unfold X12_allTired_s4 at hF
  refine lv_iload_n S.1 S.2.1 dX12_allTired_4 rfl (lv_at hl 2 rfl) ?_
  refine lv_iconst (v := 4) S.1 S.2.1 dX12_allTired_5 (by decide) ?_
  refine lv_icmp_ge (tgt := 28) S.1 S.2.1 dX12_allTired_6 (by decide) (fun b1 => ?_) (fun b1 => ?_)
  · have hF := (if_pos b1).symm.trans hF
    refine lv_iload_n S.1 S.2.1 dX12_allTired_28 rfl (lv_at hl 1 rfl) ?_
    cases hF
    exact z_p S hr hlk rfl dX12_allTired_29
  · have hF := (if_neg b1).symm.trans hF
    refine lv_iload_n S.1 S.2.1 dX12_allTired_9 rfl (lv_at hl 1 rfl) ?_
    refine lv_aload_n S.1 S.2.1 dX12_allTired_10 rfl (lv_at hl 0 rfl) ?_
    refine r_getC S hK hM cfX12 0 0 1 (by decide) lm_0 rfl (by decide) tw_5_31 dX12_allTired_11 ?_
    refine lv_iload_n S.1 S.2.1 dX12_allTired_14 rfl (lv_at hl 2 rfl) ?_
    refine lv_iconst (v := 2) S.1 S.2.1 dX12_allTired_15 (by decide) ?_
    obtain ⟨r2, er2, hF⟩ := bd1_some hF
    refine k_p (va_runS (As := [.int x2, .int 2]) (rest := [.ref (g.2.2 1), .int x1]) S (c_X12_ofP   er2) (va_cwS 2 S.2.2.2.2 (ul_S tw_5_25 tw_5_26 tw_1_12 cw_X12_ofP) rfl rfl rfl hs_X12_ofP ⟨Nat.le_of_ble_eq_true rfl, Nat.le_of_ble_eq_true rfl⟩) ⟨PreM.blind, hM.pre hK⟩ rfl rfl hl.1 rfl (lv_room (Nat.le_of_ble_eq_true rfl)) dX12_allTired_16 ⟨Nat.zero_le _, Nat.zero_le _⟩) ?_
    obtain ⟨hv3, v3, ev3, hF⟩ := rd_some hF
    refine r_iald S hK hM 1 (by decide) rfl hv3 ev3 dX12_allTired_19 ?_
    refine lv_iadd S.1 S.2.1 dX12_allTired_20 ?_
    refine lv_topi (fun v4 ev4 => ?_)
    have hF := bd_at ev4 hF
    refine lv_istore_n (lv' := [(1, .int v4), (0, .ref (g.2.2 0)), (2, .int x2)]) S.1 S.2.1 dX12_allTired_21 rfl hl (by decide) rfl (fun ls hl => ?_)
    obtain ⟨v5, ev5, hF⟩ := bd_some hF
    refine lv_iinc (v := v5) (lv' := [(2, .int v5), (1, .int v4), (0, .ref (g.2.2 0))]) S.1 S.2.1 dX12_allTired_22 hl (k := 2) rfl (by rw [ev5]; rfl) (by decide) rfl (fun ls hl => ?_)
    refine lv_goto (tgt := 4) S.1 S.2.1 dX12_allTired_25 (by decide) ?_
    exact hk4  (lv_sub hl [2, 1, 0] rfl)  hF
theorem wl_X12_allTired_4 {l : Launch} {g : GE} {A : Nat → Prop} {σ : IM} {p : Program} {e : Env} {s : State} {m : MethodId} {args : Array Value} {below : List Frame} {meth : Method} {c : Code} (S : CallFix p m c cX12_allTired 3 s args UL RX12) (hK : KK g s) (hr : meth.sig.returnType = (some .int)) (hlk : meth.locks = false) (hM : Mem lyM 13 g A [] σ nor s.heap s.heap []) {out : Int32} : ∀ (n : Nat) {x1 : Int32} {x2 : Int32} {ls : Array Slot}, lv_has ls 3 [(0, .ref (g.2.2 0)), (1, .int x1), (2, .int x2)] → X12_allTired_b4 σ n x1 x2 = some out → W p l e ({ frames := 1, cells := 0, slots := 0, locals := 21 }) s m args below meth c s.heap [] 0 0 (MQ below (Qp (some (.int out))) args s 0 0 NoA) (F0 m 4 ls []) := by
  intro n
  induction n with
  | zero =>
    intro x1 x2 ls hl hF
    cases hF
  | succ n ih =>
    intro x1 x2 ls hl hF
    exact w_X12_allTired_4 S hK hr hlk hM ih hl hF
def X12_allTired (σ : IM) : Option Int32 := X12_allTired_b4 σ 1000 0 0
set_option maxRecDepth 20000 in
theorem c_X12_allTired {l : Launch} {g : GE} {A : Nat → Prop} {σ : IM} {out : Int32} (hF : X12_allTired σ = some out) : Met l yX12_allTired (.code yX12_allTired cX12_allTired 3 (some .int) :: UL) ({ frames := 1, cells := 0, slots := 0, locals := 21 }) (va_Pc [.ref (g.2.2 0)] (PreM lyM 13 g A [] σ nor)) (Qp (some (.int out))) 0 0 NoA := by
  refine e_of (by decide) (Nat.le_of_ble_eq_true rfl) ?_
  intro p e s m below meth c ls S hr hlk hv hl
  have hM := Mem.of hv
  have hK := hv.2.1
  have hl : lv_has ls 3 [(0, .ref (g.2.2 0))] := hl
  unfold X12_allTired at hF
  refine lv_iconst (v := 0) S.1 S.2.1 dX12_allTired_0 (by decide) ?_
  refine lv_istore_n (lv' := [(1, .int 0), (0, .ref (g.2.2 0))]) S.1 S.2.1 dX12_allTired_1 rfl hl (by decide) rfl (fun ls hl => ?_)
  refine lv_iconst (v := 0) S.1 S.2.1 dX12_allTired_2 (by decide) ?_
  refine lv_istore_n (lv' := [(2, .int 0), (1, .int 0), (0, .ref (g.2.2 0))]) S.1 S.2.1 dX12_allTired_3 rfl hl (by decide) rfl (fun ls hl => ?_)
  exact wl_X12_allTired_4 S hK hr hlk hM 1000 (lv_sub hl [2, 1, 0] rfl) hF
/-! X12_mean -/
def X12_mean (σ : IM) (a1 : Int32) : Option Int64 := bd1 (X12_isIn a1 0 1) fun r1 => if r1 = 0 then (some 1000000001) else (bd1 (X12_allTired σ) fun r3 => bd1 (X12_partOf ((r3 : Int32).toInt64) 4 a1) fun r4 => some r4)
set_option maxRecDepth 20000 in
theorem c_X12_mean {l : Launch} {g : GE} {A : Nat → Prop} {σ : IM} {a1 : Int32} {out : Int64} (hF : X12_mean σ a1 = some out) : Met l yX12_mean (.code yX12_mean cX12_mean 2 (some .long) :: UL) ({ frames := 2, cells := 0, slots := 0, locals := 53 }) (va_Pc [.ref (g.2.2 0), .int a1] (PreM lyM 13 g A [] σ nor)) (Qp (some (.long out))) 0 0 NoA := by
  refine e_of (by decide) (Nat.le_of_ble_eq_true rfl) ?_
  intro p e s m below meth c ls S hr hlk hv hl
  have hM := Mem.of hv
  have hK := hv.2.1
  have hl : lv_has ls 2 [(0, .ref (g.2.2 0)), (1, .int a1)] := hl
  unfold X12_mean at hF
  refine lv_iload_n S.1 S.2.1 dX12_mean_0 rfl (lv_at hl 1 rfl) ?_
  refine lv_iconst (v := 0) S.1 S.2.1 dX12_mean_1 (by decide) ?_
  refine lv_iconst (v := 1) S.1 S.2.1 dX12_mean_2 (by decide) ?_
  obtain ⟨r1, er1, hF⟩ := bd1_some hF
  refine k_p (va_runS (As := [.int a1, .int 0, .int 1]) (rest := []) S (c_X12_isIn   er1) (va_cwS 3 S.2.2.2.2 (ul_S tw_5_103 tw_5_104 tw_1_12 cw_X12_isIn) rfl rfl rfl hs_X12_isIn ⟨Nat.le_of_ble_eq_true rfl, Nat.le_of_ble_eq_true rfl⟩) ⟨PreM.blind, hM.pre hK⟩ rfl rfl hl.1 rfl (lv_room (Nat.le_of_ble_eq_true rfl)) dX12_mean_3 ⟨Nat.zero_le _, Nat.zero_le _⟩) ?_
  refine lv_if_eq (tgt := 24) S.1 S.2.1 dX12_mean_6 (by decide) (fun b2 => ?_) (fun b2 => ?_)
  · have hF := (if_pos b2).symm.trans hF
    refine lv_ldc2 (v := 1000000001) S.1 S.2.1 S.2.2.2.1 (S.2.2.2.2 _ tw_6_136) dX12_mean_24 ?_
    cases hF
    exact z_pl S hr hlk dX12_mean_27
  · have hF := (if_neg b2).symm.trans hF
    refine lv_aload_n S.1 S.2.1 dX12_mean_9 rfl (lv_at hl 0 rfl) ?_
    obtain ⟨r3, er3, hF⟩ := bd1_some hF
    refine k_p (va_runV (As := []) (rest := []) S (c_X12_allTired   er3) (cwV 0 S.2.2.2.2 (ul_V tw_6_154 tw_6_156 ts_X12_allTired tw_1_12 cw_X12_allTired) rfl rfl rfl hv_X12_allTired ⟨Nat.le_of_ble_eq_true rfl, Nat.le_of_ble_eq_true rfl⟩) ⟨PreM.blind, hM.recv hK cfX12 0 (by decide) lm_0, hM.pre hK⟩ rfl rfl hl.1 rfl (lv_room (Nat.le_of_ble_eq_true rfl)) dX12_mean_10 ⟨Nat.zero_le _, Nat.zero_le _⟩) ?_
    refine lv_i2l S.1 S.2.1 dX12_mean_13 rfl ?_
    refine lv_ldc2 (v := 4) S.1 S.2.1 S.2.2.2.1 (S.2.2.2.2 _ tw_6_158) dX12_mean_14 ?_
    refine lv_iload_n S.1 S.2.1 dX12_mean_17 rfl (lv_at hl 1 rfl) ?_
    obtain ⟨r4, er4, hF⟩ := bd1_some hF
    refine k_p (va_runS (As := [.long ((r3 : Int32).toInt64), .long 4, .int a1]) (rest := []) S (c_X12_partOf   er4) (va_cwS 3 S.2.2.2.2 (ul_S tw_6_144 tw_6_145 tw_1_12 cw_X12_partOf) rfl rfl rfl hs_X12_partOf ⟨Nat.le_of_ble_eq_true rfl, Nat.le_of_ble_eq_true rfl⟩) ⟨PreM.blind, hM.pre hK⟩ rfl rfl hl.1 rfl (lv_room (Nat.le_of_ble_eq_true rfl)) dX12_mean_18 ⟨Nat.zero_le _, Nat.zero_le _⟩) ?_
    refine lv_goto (tgt := 27) S.1 S.2.1 dX12_mean_21 (by decide) ?_
    cases hF
    exact z_pl S hr hlk dX12_mean_27
/-! X12_forged -/
def X12_forged_b104 (x4 : Int32) (σ : IM) : Option (Int32 × IM) := some (x4 / 2, σ)
set_option maxRecDepth 20000 in
theorem w_X12_forged_104 {l : Launch} {g : GE} {A : Nat → Prop} {p : Program} {e : Env} {s : State} {m : MethodId} {args : Array Value} {below : List Frame} {meth : Method} {c : Code} (S : CallFix p m c cX12_forged 7 s args UL RX12) (hK : KK g s) (hr : meth.sig.returnType = (some .int)) (hlk : meth.locks = false) {out : Int32 × IM} : ∀ {x4 : Int32} {σ : IM} {H : Heap} {locs : List Loc} {ls : Array Slot}, Mem lyM 13 g A [] σ nor s.heap H locs → lv_has ls 7 [(4, .int x4)] → X12_forged_b104 x4 σ = some out → W p l e ({ frames := 4, cells := 0, slots := 0, locals := 99 }) s m args below meth c H locs 0 0 (MQ below (Qm lyM 13 g A [] out.2 nor (some (.int out.1))) args s 0 0 A) (F0 m 104 ls []) := by
  intro x4 σ H locs ls hM hl hF
  unfold X12_forged_b104 at hF
  refine lv_iload S.1 S.2.1 dX12_forged_104 (lv_at hl 0 rfl) ?_
  refine lv_iconst (v := 2) S.1 S.2.1 dX12_forged_106 (by decide) ?_
  refine lv_idiv S.1 S.2.1 dX12_forged_107 (by decide) ?_
  cases hF
  exact z_m (v := x4 / 2) S hM hr hlk rfl dX12_forged_108
def X12_forged_s48 (k48 : Int32 → Int32 → Int32 → IM → Option (Int32 × IM)) (x1 : Int32) (x3 : Int32) (x4 : Int32) (σ : IM) : Option (Int32 × IM) := rd (σ 11) 8 x1 fun v9 => if v9 ≤ x4 then (some ((-4), σ)) else (rd (σ 12) 800 ((100 * x1) + x4) fun v11 => rd (σ 12) 800 (((100 * x1) + x4) + 1) fun v12 => if x3 = 0 then (bd1 (X12_isHit σ v11 v12) fun r14 => if r14 = 0 then (X12_forged_b104 x4 σ) else (bd2 (X12_hits σ 2 v11 v12) fun r18 σ16 => bd (x4 + 2) fun v19 => k48 x1 r18 v19 σ16)) else (X12_forged_b104 x4 σ))
def X12_forged_b48 : Nat → Int32 → Int32 → Int32 → IM → Option (Int32 × IM)
  | 0 => fun _ _ _ _ => none
  | n + 1 => X12_forged_s48 (X12_forged_b48 n)
set_option maxRecDepth 20000 in
theorem w_X12_forged_48 {l : Launch} {g : GE} {A : Nat → Prop} {p : Program} {e : Env} {s : State} {m : MethodId} {args : Array Value} {below : List Frame} {meth : Method} {c : Code} (S : CallFix p m c cX12_forged 7 s args UL RX12) (hK : KK g s) (hr : meth.sig.returnType = (some .int)) (hlk : meth.locks = false) {out : Int32 × IM} {k48 : Int32 → Int32 → Int32 → IM → Option (Int32 × IM)} (hk48 : ∀ {x1 : Int32} {x3 : Int32} {x4 : Int32} {σ : IM} {H : Heap} {locs : List Loc} {ls : Array Slot}, Mem lyM 13 g A [] σ nor s.heap H locs → lv_has ls 7 [(0, .ref (g.2.2 0)), (1, .int x1), (3, .int x3), (4, .int x4)] → k48 x1 x3 x4 σ = some out → W p l e ({ frames := 4, cells := 0, slots := 0, locals := 99 }) s m args below meth c H locs 0 0 (MQ below (Qm lyM 13 g A [] out.2 nor (some (.int out.1))) args s 0 0 A) (F0 m 48 ls [])) : ∀ {x1 : Int32} {x3 : Int32} {x4 : Int32} {σ : IM} {H : Heap} {locs : List Loc} {ls : Array Slot}, Mem lyM 13 g A [] σ nor s.heap H locs → lv_has ls 7 [(0, .ref (g.2.2 0)), (1, .int x1), (3, .int x3), (4, .int x4)] → X12_forged_s48 k48 x1 x3 x4 σ = some out → W p l e ({ frames := 4, cells := 0, slots := 0, locals := 99 }) s m args below meth c H locs 0 0 (MQ below (Qm lyM 13 g A [] out.2 nor (some (.int out.1))) args s 0 0 A) (F0 m 48 ls []) := by
  intro x1 x3 x4 σ H locs ls hM hl hF
  unfold X12_forged_s48 at hF
  refine lv_iload S.1 S.2.1 dX12_forged_48 (lv_at hl 3 rfl) ?_
  refine lv_aload_n S.1 S.2.1 dX12_forged_50 rfl (lv_at hl 0 rfl) ?_
  refine r_getC S hK hM cfX12 0 17 11 (by decide) lm_0 rfl (by decide) tw_5_48 dX12_forged_51 ?_
  refine lv_iload_n S.1 S.2.1 dX12_forged_54 rfl (lv_at hl 1 rfl) ?_
  obtain ⟨hv9, v9, ev9, hF⟩ := rd_some hF
  refine r_iald S hK hM 11 (by decide) rfl hv9 ev9 dX12_forged_55 ?_
  refine lv_icmp_ge (tgt := 128) S.1 S.2.1 dX12_forged_56 (by decide) (fun b10 => ?_) (fun b10 => ?_)
  · have hF := (if_pos b10).symm.trans hF
    refine lv_bipush (v := (-4)) S.1 S.2.1 dX12_forged_128 (by decide) ?_
    cases hF
    exact z_m (v := (-4)) S hM hr hlk rfl dX12_forged_130
  · have hF := (if_neg b10).symm.trans hF
    refine lv_aload_n S.1 S.2.1 dX12_forged_59 rfl (lv_at hl 0 rfl) ?_
    refine r_getC S hK hM cfX12 0 18 12 (by decide) lm_0 rfl (by decide) tw_5_49 dX12_forged_60 ?_
    refine lv_bipush (v := 100) S.1 S.2.1 dX12_forged_63 (by decide) ?_
    refine lv_iload_n S.1 S.2.1 dX12_forged_65 rfl (lv_at hl 1 rfl) ?_
    refine lv_imul S.1 S.2.1 dX12_forged_66 ?_
    refine lv_iload S.1 S.2.1 dX12_forged_67 (lv_at hl 3 rfl) ?_
    refine lv_iadd S.1 S.2.1 dX12_forged_69 ?_
    obtain ⟨hv11, v11, ev11, hF⟩ := rd_some hF
    refine r_iald S hK hM 12 (by decide) rfl hv11 ev11 dX12_forged_70 ?_
    refine lv_istore (lv' := [(5, .int v11), (0, .ref (g.2.2 0)), (1, .int x1), (3, .int x3), (4, .int x4)]) S.1 S.2.1 dX12_forged_71 hl (by decide) rfl (fun ls hl => ?_)
    refine lv_aload_n S.1 S.2.1 dX12_forged_73 rfl (lv_at hl 1 rfl) ?_
    refine r_getC S hK hM cfX12 0 18 12 (by decide) lm_0 rfl (by decide) tw_5_49 dX12_forged_74 ?_
    refine lv_bipush (v := 100) S.1 S.2.1 dX12_forged_77 (by decide) ?_
    refine lv_iload_n S.1 S.2.1 dX12_forged_79 rfl (lv_at hl 2 rfl) ?_
    refine lv_imul S.1 S.2.1 dX12_forged_80 ?_
    refine lv_iload S.1 S.2.1 dX12_forged_81 (lv_at hl 4 rfl) ?_
    refine lv_iadd S.1 S.2.1 dX12_forged_83 ?_
    refine lv_iconst (v := 1) S.1 S.2.1 dX12_forged_84 (by decide) ?_
    refine lv_iadd S.1 S.2.1 dX12_forged_85 ?_
    obtain ⟨hv12, v12, ev12, hF⟩ := rd_some hF
    refine r_iald S hK hM 12 (by decide) rfl hv12 ev12 dX12_forged_86 ?_
    refine lv_istore (lv' := [(6, .int v12), (5, .int v11), (0, .ref (g.2.2 0)), (1, .int x1), (3, .int x3), (4, .int x4)]) S.1 S.2.1 dX12_forged_87 hl (by decide) rfl (fun ls hl => ?_)
    refine lv_iload_n S.1 S.2.1 dX12_forged_89 rfl (lv_at hl 4 rfl) ?_
    refine lv_if_ne (tgt := 104) S.1 S.2.1 dX12_forged_90 (by decide) (fun b13 => ?_) (fun b13 => ?_)
    · have hF := (if_neg b13).symm.trans hF
      exact w_X12_forged_104 S hK hr hlk hM (lv_sub hl [5] rfl) hF
    · have hF := (if_pos b13).symm.trans hF
      refine lv_aload_n S.1 S.2.1 dX12_forged_93 rfl (lv_at hl 2 rfl) ?_
      refine lv_iload S.1 S.2.1 dX12_forged_94 (lv_at hl 1 rfl) ?_
      refine lv_iload S.1 S.2.1 dX12_forged_96 (lv_at hl 0 rfl) ?_
      obtain ⟨r14, er14, hF⟩ := bd1_some hF
      refine k_p (va_runV (As := [.int v11, .int v12]) (rest := []) S (c_X12_isHit   er14) (cwV 2 S.2.2.2.2 (ul_V tw_6_11 tw_6_13 ts_X12_isHit tw_1_12 cw_X12_isHit) rfl rfl rfl hv_X12_isHit ⟨Nat.le_of_ble_eq_true rfl, Nat.le_of_ble_eq_true rfl⟩) ⟨PreM.blind, hM.recv hK cfX12 0 (by decide) lm_0, hM.pre hK⟩ rfl rfl hl.1 rfl (lv_room (Nat.le_of_ble_eq_true rfl)) dX12_forged_98 ⟨Nat.zero_le _, Nat.zero_le _⟩) ?_
      refine lv_if_ne (tgt := 109) S.1 S.2.1 dX12_forged_101 (by decide) (fun b15 => ?_) (fun b15 => ?_)
      · have hF := (if_neg b15).symm.trans hF
        refine lv_aload_n S.1 S.2.1 dX12_forged_109 rfl (lv_at hl 2 rfl) ?_
        refine lv_aload_n S.1 S.2.1 dX12_forged_110 rfl (lv_at hl 2 rfl) ?_
        refine r_getC S hK hM cfX12 0 1 2 (by decide) lm_0 rfl (by decide) tw_5_32 dX12_forged_111 ?_
        refine lv_iload S.1 S.2.1 dX12_forged_114 (lv_at hl 1 rfl) ?_
        refine lv_iload S.1 S.2.1 dX12_forged_116 (lv_at hl 0 rfl) ?_
        obtain ⟨r18, σ16, er18, hF⟩ := bd2_some hF
        refine k_m (va_runV (As := [.ref (g.2.2 2), .int v11, .int v12]) (rest := []) S (c_X12_hits  ar_2 er18) (cwV 3 S.2.2.2.2 (ul_V tw_5_146 tw_5_148 ts_X12_hits tw_1_12 cw_X12_hits) rfl rfl rfl hv_X12_hits ⟨Nat.le_of_ble_eq_true rfl, Nat.le_of_ble_eq_true rfl⟩) ⟨PreM.blind, hM.recv hK cfX12 0 (by decide) lm_0, hM.pre hK⟩ rfl rfl hl.1 rfl (lv_room (Nat.le_of_ble_eq_true rfl)) dX12_forged_118 ⟨Nat.zero_le _, Nat.zero_le _⟩) hM (fun H locs hM => ?_)
        show W _ _ _ _ _ _ _ _ _ _ _ _ _ _ _ (F0 m 121 ls [.int r18])
        refine lv_istore_n (lv' := [(3, .int r18), (6, .int v12), (5, .int v11), (0, .ref (g.2.2 0)), (1, .int x1), (4, .int x4)]) S.1 S.2.1 dX12_forged_121 rfl hl (by decide) rfl (fun ls hl => ?_)
        obtain ⟨v19, ev19, hF⟩ := bd_some hF
        refine lv_iinc (v := v19) (lv' := [(4, .int v19), (3, .int r18), (6, .int v12), (5, .int v11), (0, .ref (g.2.2 0)), (1, .int x1)]) S.1 S.2.1 dX12_forged_122 hl (k := 5) rfl (by rw [ev19]; rfl) (by decide) rfl (fun ls hl => ?_)
        refine lv_goto (tgt := 48) S.1 S.2.1 dX12_forged_125 (by decide) ?_
        exact hk48 hM (lv_sub hl [4, 5, 1, 0] rfl)  hF
      · have hF := (if_pos b15).symm.trans hF
        exact w_X12_forged_104 S hK hr hlk hM (lv_sub hl [5] rfl) hF
theorem wl_X12_forged_48 {l : Launch} {g : GE} {A : Nat → Prop} {p : Program} {e : Env} {s : State} {m : MethodId} {args : Array Value} {below : List Frame} {meth : Method} {c : Code} (S : CallFix p m c cX12_forged 7 s args UL RX12) (hK : KK g s) (hr : meth.sig.returnType = (some .int)) (hlk : meth.locks = false) {out : Int32 × IM} : ∀ (n : Nat) {x1 : Int32} {x3 : Int32} {x4 : Int32} {σ : IM} {H : Heap} {locs : List Loc} {ls : Array Slot}, Mem lyM 13 g A [] σ nor s.heap H locs → lv_has ls 7 [(0, .ref (g.2.2 0)), (1, .int x1), (3, .int x3), (4, .int x4)] → X12_forged_b48 n x1 x3 x4 σ = some out → W p l e ({ frames := 4, cells := 0, slots := 0, locals := 99 }) s m args below meth c H locs 0 0 (MQ below (Qm lyM 13 g A [] out.2 nor (some (.int out.1))) args s 0 0 A) (F0 m 48 ls []) := by
  intro n
  induction n with
  | zero =>
    intro x1 x3 x4 σ H locs ls hM hl hF
    cases hF
  | succ n ih =>
    intro x1 x3 x4 σ H locs ls hM hl hF
    exact w_X12_forged_48 S hK hr hlk ih hM hl hF
def X12_forged_b26 (x1 : Int32) (x2 : Int32) (σ : IM) : Option (Int32 × IM) := if x2 = 0 then (bd1 (X12_copies σ 1 2) fun σ6 => X12_forged_b48 1000 x1 0 0 σ6) else (some (x2, σ))
set_option maxRecDepth 20000 in
theorem w_X12_forged_26 {l : Launch} {g : GE} {A : Nat → Prop} {p : Program} {e : Env} {s : State} {m : MethodId} {args : Array Value} {below : List Frame} {meth : Method} {c : Code} (S : CallFix p m c cX12_forged 7 s args UL RX12) (hK : KK g s) (hr : meth.sig.returnType = (some .int)) (hlk : meth.locks = false) {out : Int32 × IM} : ∀ {x1 : Int32} {x2 : Int32} {σ : IM} {H : Heap} {locs : List Loc} {ls : Array Slot}, Mem lyM 13 g A [] σ nor s.heap H locs → lv_has ls 7 [(0, .ref (g.2.2 0)), (1, .int x1), (2, .int x2)] → X12_forged_b26 x1 x2 σ = some out → W p l e ({ frames := 4, cells := 0, slots := 0, locals := 99 }) s m args below meth c H locs 0 0 (MQ below (Qm lyM 13 g A [] out.2 nor (some (.int out.1))) args s 0 0 A) (F0 m 26 ls []) := by
  intro x1 x2 σ H locs ls hM hl hF
  unfold X12_forged_b26 at hF
  refine lv_iload_n S.1 S.2.1 dX12_forged_26 rfl (lv_at hl 2 rfl) ?_
  refine lv_if_eq (tgt := 32) S.1 S.2.1 dX12_forged_27 (by decide) (fun b5 => ?_) (fun b5 => ?_)
  · have hF := (if_pos b5).symm.trans hF
    refine lv_aload_n S.1 S.2.1 dX12_forged_32 rfl (lv_at hl 0 rfl) ?_
    refine r_getC S hK hM cfX12 0 0 1 (by decide) lm_0 rfl (by decide) tw_5_31 dX12_forged_33 ?_
    refine lv_aload_n S.1 S.2.1 dX12_forged_36 rfl (lv_at hl 0 rfl) ?_
    refine r_getC S hK hM cfX12 0 1 2 (by decide) lm_0 rfl (by decide) tw_5_32 dX12_forged_37 ?_
    obtain ⟨σ6, er8, hF⟩ := bd1_some hF
    refine k_m (va_runS (As := [.ref (g.2.2 1), .ref (g.2.2 2)]) (rest := []) S (c_X12_copies  ar_1 ar_2 er8) (va_cwS 2 S.2.2.2.2 (ul_S tw_5_118 tw_5_119 tw_1_12 cw_X12_copies) rfl rfl rfl hs_X12_copies ⟨Nat.le_of_ble_eq_true rfl, Nat.le_of_ble_eq_true rfl⟩) ⟨PreM.blind, hM.pre hK⟩ rfl rfl hl.1 rfl (lv_room (Nat.le_of_ble_eq_true rfl)) dX12_forged_40 ⟨Nat.zero_le _, Nat.zero_le _⟩) hM (fun H locs hM => ?_)
    show W _ _ _ _ _ _ _ _ _ _ _ _ _ _ _ (F0 m 43 ls [])
    refine lv_iconst (v := 0) S.1 S.2.1 dX12_forged_43 (by decide) ?_
    refine lv_istore_n (lv' := [(3, .int 0), (0, .ref (g.2.2 0)), (1, .int x1), (2, .int x2)]) S.1 S.2.1 dX12_forged_44 rfl hl (by decide) rfl (fun ls hl => ?_)
    refine lv_iconst (v := 0) S.1 S.2.1 dX12_forged_45 (by decide) ?_
    refine lv_istore (lv' := [(4, .int 0), (3, .int 0), (0, .ref (g.2.2 0)), (1, .int x1), (2, .int x2)]) S.1 S.2.1 dX12_forged_46 hl (by decide) rfl (fun ls hl => ?_)
    exact wl_X12_forged_48 S hK hr hlk 1000 hM (lv_sub hl [2, 3, 1, 0] rfl) hF
  · have hF := (if_neg b5).symm.trans hF
    refine lv_iload_n S.1 S.2.1 dX12_forged_30 rfl (lv_at hl 2 rfl) ?_
    cases hF
    exact z_m (v := x2) S hM hr hlk rfl dX12_forged_31
def X12_forged (σ : IM) (a1 : Int32) : Option (Int32 × IM) := bd1 (X12_wrongRow σ a1 (-1)) fun r1 => if r1 = 0 then (rd (σ 11) 8 a1 fun v3 => if rem32 v3 2 = 1 then (X12_forged_b26 a1 (-13) σ) else (X12_forged_b26 a1 r1 σ)) else (X12_forged_b26 a1 r1 σ)
set_option maxRecDepth 20000 in
theorem c_X12_forged {l : Launch} {g : GE} {A : Nat → Prop} {σ : IM} {a1 : Int32} {out : Int32 × IM} (hF : X12_forged σ a1 = some out) : Met l yX12_forged (.code yX12_forged cX12_forged 7 (some .int) :: UL) ({ frames := 4, cells := 0, slots := 0, locals := 99 }) (va_Pc [.ref (g.2.2 0), .int a1] (PreM lyM 13 g A [] σ nor)) (Qm lyM 13 g A [] out.2 nor (some (.int out.1))) 0 0 A := by
  refine e_of (by decide) (Nat.le_of_ble_eq_true rfl) ?_
  intro p e s m below meth c ls S hr hlk hv hl
  have hM := Mem.of hv
  have hK := hv.2.1
  have hl : lv_has ls 7 [(0, .ref (g.2.2 0)), (1, .int a1)] := hl
  unfold X12_forged at hF
  refine lv_aload_n S.1 S.2.1 dX12_forged_0 rfl (lv_at hl 0 rfl) ?_
  refine lv_iload_n S.1 S.2.1 dX12_forged_1 rfl (lv_at hl 1 rfl) ?_
  refine lv_iconst (v := (-1)) S.1 S.2.1 dX12_forged_2 (by decide) ?_
  obtain ⟨r1, er1, hF⟩ := bd1_some hF
  refine k_p (va_runV (As := [.int a1, .int (-1)]) (rest := []) S (c_X12_wrongRow   er1) (cwV 2 S.2.2.2.2 (ul_V tw_5_96 tw_5_98 ts_X12_wrongRow tw_1_12 cw_X12_wrongRow) rfl rfl rfl hv_X12_wrongRow ⟨Nat.le_of_ble_eq_true rfl, Nat.le_of_ble_eq_true rfl⟩) ⟨PreM.blind, hM.recv hK cfX12 0 (by decide) lm_0, hM.pre hK⟩ rfl rfl hl.1 rfl (lv_room (Nat.le_of_ble_eq_true rfl)) dX12_forged_3 ⟨Nat.zero_le _, Nat.zero_le _⟩) ?_
  refine lv_istore_n (lv' := [(2, .int r1), (0, .ref (g.2.2 0)), (1, .int a1)]) S.1 S.2.1 dX12_forged_6 rfl hl (by decide) rfl (fun ls hl => ?_)
  refine lv_iload_n S.1 S.2.1 dX12_forged_7 rfl (lv_at hl 0 rfl) ?_
  refine lv_if_ne (tgt := 26) S.1 S.2.1 dX12_forged_8 (by decide) (fun b2 => ?_) (fun b2 => ?_)
  · have hF := (if_neg b2).symm.trans hF
    exact w_X12_forged_26 S hK hr hlk hM (lv_sub hl [1, 2, 0] rfl) hF
  · have hF := (if_pos b2).symm.trans hF
    refine lv_aload_n S.1 S.2.1 dX12_forged_11 rfl (lv_at hl 1 rfl) ?_
    refine r_getC S hK hM cfX12 0 17 11 (by decide) lm_0 rfl (by decide) tw_5_48 dX12_forged_12 ?_
    refine lv_iload_n S.1 S.2.1 dX12_forged_15 rfl (lv_at hl 2 rfl) ?_
    obtain ⟨hv3, v3, ev3, hF⟩ := rd_some hF
    refine r_iald S hK hM 11 (by decide) rfl hv3 ev3 dX12_forged_16 ?_
    refine lv_iconst (v := 2) S.1 S.2.1 dX12_forged_17 (by decide) ?_
    refine r_irem S dX12_forged_18 (by decide) ?_
    refine lv_iconst (v := 1) S.1 S.2.1 dX12_forged_19 (by decide) ?_
    refine lv_icmp_ne (tgt := 26) S.1 S.2.1 dX12_forged_20 (by decide) (fun b4 => ?_) (fun b4 => ?_)
    · have hF := (if_neg b4).symm.trans hF
      exact w_X12_forged_26 S hK hr hlk hM (lv_sub hl [1, 2, 0] rfl) hF
    · have hF := (if_pos b4).symm.trans hF
      refine lv_bipush (v := (-13)) S.1 S.2.1 dX12_forged_23 (by decide) ?_
      refine lv_istore_n (lv' := [(2, .int (-13)), (0, .ref (g.2.2 0)), (1, .int a1)]) S.1 S.2.1 dX12_forged_25 rfl hl (by decide) rfl (fun ls hl => ?_)
      exact w_X12_forged_26 S hK hr hlk hM (lv_sub hl [1, 2, 0] rfl) hF
/-! X12_judge -/
def X12_judge_b116 (k42 : Int32 → Int32 → IM → Option (Int32 × IM)) (x1 : Int32) (x3 : Int32) (t0 : Int32) (t1 : Int32) (σ : IM) : Option (Int32 × IM) := bd2 (X12_hits σ 2 t1 t0) fun r22 σ20 => bd (x3 + 1) fun v23 => k42 x1 v23 σ20
set_option maxRecDepth 20000 in
theorem w_X12_judge_116 {l : Launch} {g : GE} {A : Nat → Prop} {p : Program} {e : Env} {s : State} {m : MethodId} {args : Array Value} {below : List Frame} {meth : Method} {c : Code} (S : CallFix p m c cX12_judge 5 s args UL RX12) (hK : KK g s) (hr : meth.sig.returnType = (some .int)) (hlk : meth.locks = false) {out : Int32 × IM} {k42 : Int32 → Int32 → IM → Option (Int32 × IM)} (hk42 : ∀ {x1 : Int32} {x3 : Int32} {σ : IM} {H : Heap} {locs : List Loc} {ls : Array Slot}, Mem lyM 13 g A [] σ nor s.heap H locs → lv_has ls 5 [(0, .ref (g.2.2 0)), (1, .int x1), (3, .int x3)] → k42 x1 x3 σ = some out → W p l e ({ frames := 4, cells := 0, slots := 0, locals := 99 }) s m args below meth c H locs 0 0 (MQ below (Qm lyM 13 g A [] out.2 nor (some (.int out.1))) args s 0 0 A) (F0 m 42 ls [])) : ∀ {x1 : Int32} {x3 : Int32} {t0 : Int32} {t1 : Int32} {σ : IM} {H : Heap} {locs : List Loc} {ls : Array Slot}, Mem lyM 13 g A [] σ nor s.heap H locs → lv_has ls 5 [(0, .ref (g.2.2 0)), (1, .int x1), (3, .int x3)] → X12_judge_b116 k42 x1 x3 t0 t1 σ = some out → W p l e ({ frames := 4, cells := 0, slots := 0, locals := 99 }) s m args below meth c H locs 0 0 (MQ below (Qm lyM 13 g A [] out.2 nor (some (.int out.1))) args s 0 0 A) (F0 m 116 ls [.int t0, .int t1, .ref (g.2.2 2), .ref (g.2.2 0)]) := by
  intro x1 x3 t0 t1 σ H locs ls hM hl hF
  unfold X12_judge_b116 at hF
  obtain ⟨r22, σ20, er22, hF⟩ := bd2_some hF
  refine k_m (va_runV (As := [.ref (g.2.2 2), .int t1, .int t0]) (rest := []) S (c_X12_hits  ar_2 er22) (cwV 3 S.2.2.2.2 (ul_V tw_5_146 tw_5_148 ts_X12_hits tw_1_12 cw_X12_hits) rfl rfl rfl hv_X12_hits ⟨Nat.le_of_ble_eq_true rfl, Nat.le_of_ble_eq_true rfl⟩) ⟨PreM.blind, hM.recv hK cfX12 0 (by decide) lm_0, hM.pre hK⟩ rfl rfl hl.1 rfl (lv_room (Nat.le_of_ble_eq_true rfl)) dX12_judge_116 ⟨Nat.zero_le _, Nat.zero_le _⟩) hM (fun H locs hM => ?_)
  show W _ _ _ _ _ _ _ _ _ _ _ _ _ _ _ (F0 m 119 ls [.int r22])
  refine lv_istore (lv' := [(4, .int r22), (0, .ref (g.2.2 0)), (1, .int x1), (3, .int x3)]) S.1 S.2.1 dX12_judge_119 hl (by decide) rfl (fun ls hl => ?_)
  obtain ⟨v23, ev23, hF⟩ := bd_some hF
  refine lv_iinc (v := v23) (lv' := [(3, .int v23), (4, .int r22), (0, .ref (g.2.2 0)), (1, .int x1)]) S.1 S.2.1 dX12_judge_121 hl (k := 3) rfl (by rw [ev23]; rfl) (by decide) rfl (fun ls hl => ?_)
  refine lv_goto (tgt := 42) S.1 S.2.1 dX12_judge_124 (by decide) ?_
  exact hk42 hM (lv_sub hl [2, 3, 0] rfl)  hF
def X12_judge_b98 (k42 : Int32 → Int32 → IM → Option (Int32 × IM)) (x1 : Int32) (x3 : Int32) (σ : IM) : Option (Int32 × IM) := if rem32 x3 2 = 0 then (X12_judge_b116 k42 x1 x3 0 0 σ) else (X12_judge_b116 k42 x1 x3 8 0 σ)
set_option maxRecDepth 20000 in
theorem w_X12_judge_98 {l : Launch} {g : GE} {A : Nat → Prop} {p : Program} {e : Env} {s : State} {m : MethodId} {args : Array Value} {below : List Frame} {meth : Method} {c : Code} (S : CallFix p m c cX12_judge 5 s args UL RX12) (hK : KK g s) (hr : meth.sig.returnType = (some .int)) (hlk : meth.locks = false) {out : Int32 × IM} {k42 : Int32 → Int32 → IM → Option (Int32 × IM)} (hk42 : ∀ {x1 : Int32} {x3 : Int32} {σ : IM} {H : Heap} {locs : List Loc} {ls : Array Slot}, Mem lyM 13 g A [] σ nor s.heap H locs → lv_has ls 5 [(0, .ref (g.2.2 0)), (1, .int x1), (3, .int x3)] → k42 x1 x3 σ = some out → W p l e ({ frames := 4, cells := 0, slots := 0, locals := 99 }) s m args below meth c H locs 0 0 (MQ below (Qm lyM 13 g A [] out.2 nor (some (.int out.1))) args s 0 0 A) (F0 m 42 ls [])) : ∀ {x1 : Int32} {x3 : Int32} {σ : IM} {H : Heap} {locs : List Loc} {ls : Array Slot}, Mem lyM 13 g A [] σ nor s.heap H locs → lv_has ls 5 [(0, .ref (g.2.2 0)), (1, .int x1), (3, .int x3)] → X12_judge_b98 k42 x1 x3 σ = some out → W p l e ({ frames := 4, cells := 0, slots := 0, locals := 99 }) s m args below meth c H locs 0 0 (MQ below (Qm lyM 13 g A [] out.2 nor (some (.int out.1))) args s 0 0 A) (F0 m 98 ls []) := by
  intro x1 x3 σ H locs ls hM hl hF
  unfold X12_judge_b98 at hF
  refine lv_aload_n S.1 S.2.1 dX12_judge_98 rfl (lv_at hl 0 rfl) ?_
  refine lv_aload_n S.1 S.2.1 dX12_judge_99 rfl (lv_at hl 0 rfl) ?_
  refine r_getC S hK hM cfX12 0 1 2 (by decide) lm_0 rfl (by decide) tw_5_32 dX12_judge_100 ?_
  refine lv_iconst (v := 0) S.1 S.2.1 dX12_judge_103 (by decide) ?_
  refine lv_iload_n S.1 S.2.1 dX12_judge_104 rfl (lv_at hl 2 rfl) ?_
  refine lv_iconst (v := 2) S.1 S.2.1 dX12_judge_105 (by decide) ?_
  refine r_irem S dX12_judge_106 (by decide) ?_
  refine lv_if_ne (tgt := 114) S.1 S.2.1 dX12_judge_107 (by decide) (fun b19 => ?_) (fun b19 => ?_)
  · have hF := (if_neg b19).symm.trans hF
    refine lv_bipush (v := 8) S.1 S.2.1 dX12_judge_114 (by decide) ?_
    exact w_X12_judge_116 S hK hr hlk hk42 hM (lv_sub hl [0, 1, 2] rfl) hF
  · have hF := (if_pos b19).symm.trans hF
    refine lv_iconst (v := 0) S.1 S.2.1 dX12_judge_110 (by decide) ?_
    refine lv_goto (tgt := 116) S.1 S.2.1 dX12_judge_111 (by decide) ?_
    exact w_X12_judge_116 S hK hr hlk hk42 hM (lv_sub hl [0, 1, 2] rfl) hF
def X12_judge_s42 (k42 : Int32 → Int32 → IM → Option (Int32 × IM)) (x1 : Int32) (x3 : Int32) (σ : IM) : Option (Int32 × IM) := rd (σ 11) 8 x1 fun v9 => if v9 ≤ x3 then (some ((-4), σ)) else (bd1 (X12_isSkipped σ x1 x3) fun r11 => if r11 = 0 then (rd (σ 12) 800 ((100 * x1) + x3) fun v13 => bd1 (X12_ofSide 0 2) fun r14 => rd (σ 2) 42 r14 fun v15 => bd1 (X12_ofSide 1 2) fun r16 => rd (σ 2) 42 r16 fun v17 => if v13 = v15 + v17 then (X12_judge_b98 k42 x1 x3 σ) else (some (x3, σ))) else (X12_judge_b98 k42 x1 x3 σ))
def X12_judge_b42 : Nat → Int32 → Int32 → IM → Option (Int32 × IM)
  | 0 => fun _ _ _ => none
  | n + 1 => X12_judge_s42 (X12_judge_b42 n)
set_option maxRecDepth 20000 in
theorem w_X12_judge_42 {l : Launch} {g : GE} {A : Nat → Prop} {p : Program} {e : Env} {s : State} {m : MethodId} {args : Array Value} {below : List Frame} {meth : Method} {c : Code} (S : CallFix p m c cX12_judge 5 s args UL RX12) (hK : KK g s) (hr : meth.sig.returnType = (some .int)) (hlk : meth.locks = false) {out : Int32 × IM} {k42 : Int32 → Int32 → IM → Option (Int32 × IM)} (hk42 : ∀ {x1 : Int32} {x3 : Int32} {σ : IM} {H : Heap} {locs : List Loc} {ls : Array Slot}, Mem lyM 13 g A [] σ nor s.heap H locs → lv_has ls 5 [(0, .ref (g.2.2 0)), (1, .int x1), (3, .int x3)] → k42 x1 x3 σ = some out → W p l e ({ frames := 4, cells := 0, slots := 0, locals := 99 }) s m args below meth c H locs 0 0 (MQ below (Qm lyM 13 g A [] out.2 nor (some (.int out.1))) args s 0 0 A) (F0 m 42 ls [])) : ∀ {x1 : Int32} {x3 : Int32} {σ : IM} {H : Heap} {locs : List Loc} {ls : Array Slot}, Mem lyM 13 g A [] σ nor s.heap H locs → lv_has ls 5 [(0, .ref (g.2.2 0)), (1, .int x1), (3, .int x3)] → X12_judge_s42 k42 x1 x3 σ = some out → W p l e ({ frames := 4, cells := 0, slots := 0, locals := 99 }) s m args below meth c H locs 0 0 (MQ below (Qm lyM 13 g A [] out.2 nor (some (.int out.1))) args s 0 0 A) (F0 m 42 ls []) := by
  intro x1 x3 σ H locs ls hM hl hF
  unfold X12_judge_s42 at hF
  refine lv_iload_n S.1 S.2.1 dX12_judge_42 rfl (lv_at hl 2 rfl) ?_
  refine lv_aload_n S.1 S.2.1 dX12_judge_43 rfl (lv_at hl 0 rfl) ?_
  refine r_getC S hK hM cfX12 0 17 11 (by decide) lm_0 rfl (by decide) tw_5_48 dX12_judge_44 ?_
  refine lv_iload_n S.1 S.2.1 dX12_judge_47 rfl (lv_at hl 1 rfl) ?_
  obtain ⟨hv9, v9, ev9, hF⟩ := rd_some hF
  refine r_iald S hK hM 11 (by decide) rfl hv9 ev9 dX12_judge_48 ?_
  refine lv_icmp_ge (tgt := 127) S.1 S.2.1 dX12_judge_49 (by decide) (fun b10 => ?_) (fun b10 => ?_)
  · have hF := (if_pos b10).symm.trans hF
    refine lv_bipush (v := (-4)) S.1 S.2.1 dX12_judge_127 (by decide) ?_
    cases hF
    exact z_m (v := (-4)) S hM hr hlk rfl dX12_judge_129
  · have hF := (if_neg b10).symm.trans hF
    refine lv_aload_n S.1 S.2.1 dX12_judge_52 rfl (lv_at hl 0 rfl) ?_
    refine lv_iload_n S.1 S.2.1 dX12_judge_53 rfl (lv_at hl 1 rfl) ?_
    refine lv_iload_n S.1 S.2.1 dX12_judge_54 rfl (lv_at hl 2 rfl) ?_
    obtain ⟨r11, er11, hF⟩ := bd1_some hF
    refine k_p (va_runV (As := [.int x1, .int x3]) (rest := []) S (c_X12_isSkipped   er11) (cwV 2 S.2.2.2.2 (ul_V tw_6_112 tw_6_114 ts_X12_isSkipped tw_1_12 cw_X12_isSkipped) rfl rfl rfl hv_X12_isSkipped ⟨Nat.le_of_ble_eq_true rfl, Nat.le_of_ble_eq_true rfl⟩) ⟨PreM.blind, hM.recv hK cfX12 0 (by decide) lm_0, hM.pre hK⟩ rfl rfl hl.1 rfl (lv_room (Nat.le_of_ble_eq_true rfl)) dX12_judge_55 ⟨Nat.zero_le _, Nat.zero_le _⟩) ?_
    refine lv_if_ne (tgt := 98) S.1 S.2.1 dX12_judge_58 (by decide) (fun b12 => ?_) (fun b12 => ?_)
    · have hF := (if_neg b12).symm.trans hF
      exact w_X12_judge_98 S hK hr hlk hk42 hM (lv_sub hl [0, 1, 2] rfl) hF
    · have hF := (if_pos b12).symm.trans hF
      refine lv_aload_n S.1 S.2.1 dX12_judge_61 rfl (lv_at hl 0 rfl) ?_
      refine r_getC S hK hM cfX12 0 18 12 (by decide) lm_0 rfl (by decide) tw_5_49 dX12_judge_62 ?_
      refine lv_bipush (v := 100) S.1 S.2.1 dX12_judge_65 (by decide) ?_
      refine lv_iload_n S.1 S.2.1 dX12_judge_67 rfl (lv_at hl 1 rfl) ?_
      refine lv_imul S.1 S.2.1 dX12_judge_68 ?_
      refine lv_iload_n S.1 S.2.1 dX12_judge_69 rfl (lv_at hl 2 rfl) ?_
      refine lv_iadd S.1 S.2.1 dX12_judge_70 ?_
      obtain ⟨hv13, v13, ev13, hF⟩ := rd_some hF
      refine r_iald S hK hM 12 (by decide) rfl hv13 ev13 dX12_judge_71 ?_
      refine lv_aload_n S.1 S.2.1 dX12_judge_72 rfl (lv_at hl 0 rfl) ?_
      refine r_getC S hK hM cfX12 0 1 2 (by decide) lm_0 rfl (by decide) tw_5_32 dX12_judge_73 ?_
      refine lv_iconst (v := 0) S.1 S.2.1 dX12_judge_76 (by decide) ?_
      refine lv_iconst (v := 2) S.1 S.2.1 dX12_judge_77 (by decide) ?_
      obtain ⟨r14, er14, hF⟩ := bd1_some hF
      refine k_p (va_runS (As := [.int 0, .int 2]) (rest := [.ref (g.2.2 2), .int v13]) S (c_X12_ofSide   er14) (va_cwS 2 S.2.2.2.2 (ul_S tw_5_28 tw_5_29 tw_1_12 cw_X12_ofSide) rfl rfl rfl hs_X12_ofSide ⟨Nat.le_of_ble_eq_true rfl, Nat.le_of_ble_eq_true rfl⟩) ⟨PreM.blind, hM.pre hK⟩ rfl rfl hl.1 rfl (lv_room (Nat.le_of_ble_eq_true rfl)) dX12_judge_78 ⟨Nat.zero_le _, Nat.zero_le _⟩) ?_
      obtain ⟨hv15, v15, ev15, hF⟩ := rd_some hF
      refine r_iald S hK hM 2 (by decide) rfl hv15 ev15 dX12_judge_81 ?_
      refine lv_aload_n S.1 S.2.1 dX12_judge_82 rfl (lv_at hl 0 rfl) ?_
      refine r_getC S hK hM cfX12 0 1 2 (by decide) lm_0 rfl (by decide) tw_5_32 dX12_judge_83 ?_
      refine lv_iconst (v := 1) S.1 S.2.1 dX12_judge_86 (by decide) ?_
      refine lv_iconst (v := 2) S.1 S.2.1 dX12_judge_87 (by decide) ?_
      obtain ⟨r16, er16, hF⟩ := bd1_some hF
      refine k_p (va_runS (As := [.int 1, .int 2]) (rest := [.ref (g.2.2 2), .int v15, .int v13]) S (c_X12_ofSide   er16) (va_cwS 2 S.2.2.2.2 (ul_S tw_5_28 tw_5_29 tw_1_12 cw_X12_ofSide) rfl rfl rfl hs_X12_ofSide ⟨Nat.le_of_ble_eq_true rfl, Nat.le_of_ble_eq_true rfl⟩) ⟨PreM.blind, hM.pre hK⟩ rfl rfl hl.1 rfl (lv_room (Nat.le_of_ble_eq_true rfl)) dX12_judge_88 ⟨Nat.zero_le _, Nat.zero_le _⟩) ?_
      obtain ⟨hv17, v17, ev17, hF⟩ := rd_some hF
      refine r_iald S hK hM 2 (by decide) rfl hv17 ev17 dX12_judge_91 ?_
      refine lv_iadd S.1 S.2.1 dX12_judge_92 ?_
      refine lv_icmp_eq (tgt := 98) S.1 S.2.1 dX12_judge_93 (by decide) (fun b18 => ?_) (fun b18 => ?_)
      · have hF := (if_pos b18).symm.trans hF
        exact w_X12_judge_98 S hK hr hlk hk42 hM (lv_sub hl [0, 1, 2] rfl) hF
      · have hF := (if_neg b18).symm.trans hF
        refine lv_iload_n S.1 S.2.1 dX12_judge_96 rfl (lv_at hl 2 rfl) ?_
        cases hF
        exact z_m (v := x3) S hM hr hlk rfl dX12_judge_97
theorem wl_X12_judge_42 {l : Launch} {g : GE} {A : Nat → Prop} {p : Program} {e : Env} {s : State} {m : MethodId} {args : Array Value} {below : List Frame} {meth : Method} {c : Code} (S : CallFix p m c cX12_judge 5 s args UL RX12) (hK : KK g s) (hr : meth.sig.returnType = (some .int)) (hlk : meth.locks = false) {out : Int32 × IM} : ∀ (n : Nat) {x1 : Int32} {x3 : Int32} {σ : IM} {H : Heap} {locs : List Loc} {ls : Array Slot}, Mem lyM 13 g A [] σ nor s.heap H locs → lv_has ls 5 [(0, .ref (g.2.2 0)), (1, .int x1), (3, .int x3)] → X12_judge_b42 n x1 x3 σ = some out → W p l e ({ frames := 4, cells := 0, slots := 0, locals := 99 }) s m args below meth c H locs 0 0 (MQ below (Qm lyM 13 g A [] out.2 nor (some (.int out.1))) args s 0 0 A) (F0 m 42 ls []) := by
  intro n
  induction n with
  | zero =>
    intro x1 x3 σ H locs ls hM hl hF
    cases hF
  | succ n ih =>
    intro x1 x3 σ H locs ls hM hl hF
    exact w_X12_judge_42 S hK hr hlk ih hM hl hF
def X12_judge_b23 (x1 : Int32) (x2 : Int32) (σ : IM) : Option (Int32 × IM) := if x2 = 0 then (bd1 (X12_copies σ 1 2) fun σ6 => X12_judge_b42 1000 x1 0 σ6) else (some (x2, σ))
set_option maxRecDepth 20000 in
theorem w_X12_judge_23 {l : Launch} {g : GE} {A : Nat → Prop} {p : Program} {e : Env} {s : State} {m : MethodId} {args : Array Value} {below : List Frame} {meth : Method} {c : Code} (S : CallFix p m c cX12_judge 5 s args UL RX12) (hK : KK g s) (hr : meth.sig.returnType = (some .int)) (hlk : meth.locks = false) {out : Int32 × IM} : ∀ {x1 : Int32} {x2 : Int32} {σ : IM} {H : Heap} {locs : List Loc} {ls : Array Slot}, Mem lyM 13 g A [] σ nor s.heap H locs → lv_has ls 5 [(0, .ref (g.2.2 0)), (1, .int x1), (2, .int x2)] → X12_judge_b23 x1 x2 σ = some out → W p l e ({ frames := 4, cells := 0, slots := 0, locals := 99 }) s m args below meth c H locs 0 0 (MQ below (Qm lyM 13 g A [] out.2 nor (some (.int out.1))) args s 0 0 A) (F0 m 23 ls []) := by
  intro x1 x2 σ H locs ls hM hl hF
  unfold X12_judge_b23 at hF
  refine lv_iload_n S.1 S.2.1 dX12_judge_23 rfl (lv_at hl 2 rfl) ?_
  refine lv_if_eq (tgt := 29) S.1 S.2.1 dX12_judge_24 (by decide) (fun b5 => ?_) (fun b5 => ?_)
  · have hF := (if_pos b5).symm.trans hF
    refine lv_aload_n S.1 S.2.1 dX12_judge_29 rfl (lv_at hl 0 rfl) ?_
    refine r_getC S hK hM cfX12 0 0 1 (by decide) lm_0 rfl (by decide) tw_5_31 dX12_judge_30 ?_
    refine lv_aload_n S.1 S.2.1 dX12_judge_33 rfl (lv_at hl 0 rfl) ?_
    refine r_getC S hK hM cfX12 0 1 2 (by decide) lm_0 rfl (by decide) tw_5_32 dX12_judge_34 ?_
    obtain ⟨σ6, er8, hF⟩ := bd1_some hF
    refine k_m (va_runS (As := [.ref (g.2.2 1), .ref (g.2.2 2)]) (rest := []) S (c_X12_copies  ar_1 ar_2 er8) (va_cwS 2 S.2.2.2.2 (ul_S tw_5_118 tw_5_119 tw_1_12 cw_X12_copies) rfl rfl rfl hs_X12_copies ⟨Nat.le_of_ble_eq_true rfl, Nat.le_of_ble_eq_true rfl⟩) ⟨PreM.blind, hM.pre hK⟩ rfl rfl hl.1 rfl (lv_room (Nat.le_of_ble_eq_true rfl)) dX12_judge_37 ⟨Nat.zero_le _, Nat.zero_le _⟩) hM (fun H locs hM => ?_)
    show W _ _ _ _ _ _ _ _ _ _ _ _ _ _ _ (F0 m 40 ls [])
    refine lv_iconst (v := 0) S.1 S.2.1 dX12_judge_40 (by decide) ?_
    refine lv_istore_n (lv' := [(3, .int 0), (0, .ref (g.2.2 0)), (1, .int x1), (2, .int x2)]) S.1 S.2.1 dX12_judge_41 rfl hl (by decide) rfl (fun ls hl => ?_)
    exact wl_X12_judge_42 S hK hr hlk 1000 hM (lv_sub hl [1, 2, 0] rfl) hF
  · have hF := (if_neg b5).symm.trans hF
    refine lv_iload_n S.1 S.2.1 dX12_judge_27 rfl (lv_at hl 2 rfl) ?_
    cases hF
    exact z_m (v := x2) S hM hr hlk rfl dX12_judge_28
def X12_judge (σ : IM) (a1 : Int32) : Option (Int32 × IM) := bd1 (X12_wrongRow σ a1 (-1)) fun r1 => if r1 = 0 then (rd (σ 1) 42 0 fun v3 => if v3 = 0 then (X12_judge_b23 a1 (-3) σ) else (X12_judge_b23 a1 r1 σ)) else (X12_judge_b23 a1 r1 σ)
set_option maxRecDepth 20000 in
theorem c_X12_judge {l : Launch} {g : GE} {A : Nat → Prop} {σ : IM} {a1 : Int32} {out : Int32 × IM} (hF : X12_judge σ a1 = some out) : Met l yX12_judge (.code yX12_judge cX12_judge 5 (some .int) :: UL) ({ frames := 4, cells := 0, slots := 0, locals := 99 }) (va_Pc [.ref (g.2.2 0), .int a1] (PreM lyM 13 g A [] σ nor)) (Qm lyM 13 g A [] out.2 nor (some (.int out.1))) 0 0 A := by
  refine e_of (by decide) (Nat.le_of_ble_eq_true rfl) ?_
  intro p e s m below meth c ls S hr hlk hv hl
  have hM := Mem.of hv
  have hK := hv.2.1
  have hl : lv_has ls 5 [(0, .ref (g.2.2 0)), (1, .int a1)] := hl
  unfold X12_judge at hF
  refine lv_aload_n S.1 S.2.1 dX12_judge_0 rfl (lv_at hl 0 rfl) ?_
  refine lv_iload_n S.1 S.2.1 dX12_judge_1 rfl (lv_at hl 1 rfl) ?_
  refine lv_iconst (v := (-1)) S.1 S.2.1 dX12_judge_2 (by decide) ?_
  obtain ⟨r1, er1, hF⟩ := bd1_some hF
  refine k_p (va_runV (As := [.int a1, .int (-1)]) (rest := []) S (c_X12_wrongRow   er1) (cwV 2 S.2.2.2.2 (ul_V tw_5_96 tw_5_98 ts_X12_wrongRow tw_1_12 cw_X12_wrongRow) rfl rfl rfl hv_X12_wrongRow ⟨Nat.le_of_ble_eq_true rfl, Nat.le_of_ble_eq_true rfl⟩) ⟨PreM.blind, hM.recv hK cfX12 0 (by decide) lm_0, hM.pre hK⟩ rfl rfl hl.1 rfl (lv_room (Nat.le_of_ble_eq_true rfl)) dX12_judge_3 ⟨Nat.zero_le _, Nat.zero_le _⟩) ?_
  refine lv_istore_n (lv' := [(2, .int r1), (0, .ref (g.2.2 0)), (1, .int a1)]) S.1 S.2.1 dX12_judge_6 rfl hl (by decide) rfl (fun ls hl => ?_)
  refine lv_iload_n S.1 S.2.1 dX12_judge_7 rfl (lv_at hl 0 rfl) ?_
  refine lv_if_ne (tgt := 23) S.1 S.2.1 dX12_judge_8 (by decide) (fun b2 => ?_) (fun b2 => ?_)
  · have hF := (if_neg b2).symm.trans hF
    exact w_X12_judge_23 S hK hr hlk hM (lv_sub hl [1, 2, 0] rfl) hF
  · have hF := (if_pos b2).symm.trans hF
    refine lv_aload_n S.1 S.2.1 dX12_judge_11 rfl (lv_at hl 1 rfl) ?_
    refine r_getC S hK hM cfX12 0 0 1 (by decide) lm_0 rfl (by decide) tw_5_31 dX12_judge_12 ?_
    refine lv_iconst (v := 0) S.1 S.2.1 dX12_judge_15 (by decide) ?_
    obtain ⟨hv3, v3, ev3, hF⟩ := rd_some hF
    refine r_iald S hK hM 1 (by decide) rfl hv3 ev3 dX12_judge_16 ?_
    refine lv_if_ne (tgt := 23) S.1 S.2.1 dX12_judge_17 (by decide) (fun b4 => ?_) (fun b4 => ?_)
    · have hF := (if_neg b4).symm.trans hF
      exact w_X12_judge_23 S hK hr hlk hM (lv_sub hl [1, 2, 0] rfl) hF
    · have hF := (if_pos b4).symm.trans hF
      refine lv_bipush (v := (-3)) S.1 S.2.1 dX12_judge_20 (by decide) ?_
      refine lv_istore_n (lv' := [(2, .int (-3)), (0, .ref (g.2.2 0)), (1, .int a1)]) S.1 S.2.1 dX12_judge_22 rfl hl (by decide) rfl (fun ls hl => ?_)
      exact w_X12_judge_23 S hK hr hlk hM (lv_sub hl [1, 2, 0] rfl) hF
/-! X12_drawn -/
def X12_drawn (σ : IM) (a1 : Int32) : Option (Int32 × IM) := bd (up2 σ 0 12 (((σ 0 12) * 1103515245) + 12345)) fun σ1 => nz a1 <| some (rem32 (((σ1 0 12) &&& 2147483647) / 65536) a1, σ1)
set_option maxRecDepth 20000 in
theorem c_X12_drawn {l : Launch} {g : GE} {A : Nat → Prop} {σ : IM} {a1 : Int32} {out : Int32 × IM} (hF : X12_drawn σ a1 = some out) : Met l yX12_drawn (.code yX12_drawn cX12_drawn 2 (some .int) :: UL) ({ frames := 0, cells := 0, slots := 0, locals := 0 }) (va_Pc [.ref (g.2.2 0), .int a1] (PreM lyM 13 g A [] σ nor)) (Qm lyM 13 g A [] out.2 nor (some (.int out.1))) 0 0 A := by
  refine e_of (by decide) (Nat.le_of_ble_eq_true rfl) ?_
  intro p e s m below meth c ls S hr hlk hv hl
  have hM := Mem.of hv
  have hK := hv.2.1
  have hl : lv_has ls 2 [(0, .ref (g.2.2 0)), (1, .int a1)] := hl
  unfold X12_drawn at hF
  refine lv_aload_n S.1 S.2.1 dX12_drawn_0 rfl (lv_at hl 0 rfl) ?_
  refine lv_aload_n S.1 S.2.1 dX12_drawn_1 rfl (lv_at hl 0 rfl) ?_
  refine r_getI S hK hM cfX12 0 12 (by decide) lm_0 rfl (by decide) tw_5_43 dX12_drawn_2 ?_
  refine lv_ldc (v := 1103515245) S.1 S.2.1 S.2.2.2.1 (S.2.2.2.2 _ tw_6_175) dX12_drawn_5 ?_
  refine lv_imul S.1 S.2.1 dX12_drawn_7 ?_
  refine lv_sipush (v := 12345) S.1 S.2.1 dX12_drawn_8 (by decide) ?_
  refine lv_iadd S.1 S.2.1 dX12_drawn_11 ?_
  obtain ⟨σ1, eσ1, hF⟩ := bd_some hF
  refine r_putI (ty := .int) S hK hM cfX12 tyX12_ok nmX12 0 12 (by decide) lm_0 rfl (by decide) tw_5_43 rfl (by decide +kernel) rfl rfl eσ1 dX12_drawn_12 (fun H locs hM => ?_)
  refine lv_aload_n S.1 S.2.1 dX12_drawn_15 rfl (lv_at hl 0 rfl) ?_
  refine r_getI S hK hM cfX12 0 12 (by decide) lm_0 rfl (by decide) tw_5_43 dX12_drawn_16 ?_
  refine lv_ldc (v := 2147483647) S.1 S.2.1 S.2.2.2.1 (S.2.2.2.2 _ tw_6_176) dX12_drawn_19 ?_
  refine lv_iand S.1 S.2.1 dX12_drawn_21 ?_
  refine lv_ldc (v := 65536) S.1 S.2.1 S.2.2.2.1 (S.2.2.2.2 _ tw_6_177) dX12_drawn_22 ?_
  refine lv_idiv S.1 S.2.1 dX12_drawn_24 (by decide) ?_
  refine lv_iload_n S.1 S.2.1 dX12_drawn_25 rfl (lv_at hl 1 rfl) ?_
  obtain ⟨h2, hF⟩ := nz_some hF
  refine r_irem S dX12_drawn_26 h2 ?_
  cases hF
  exact z_m (v := rem32 (((σ1 0 12) &&& 2147483647) / 65536) a1) S hM hr hlk rfl dX12_drawn_27
/-! X12_nights -/
def X12_nights_s64 (k44 : Int32 → Int32 → Int32 → Int32 → IM → Option (Int32 × IM)) (k64 : Int32 → Int32 → Int32 → Int32 → Int32 → IM → Option (Int32 × IM)) (x1 : Int32) (x3 : Int32) (x4 : Int32) (x5 : Int32) (x6 : Int32) (σ : IM) : Option (Int32 × IM) := if 12 ≤ x6 then (bd1 (X12_ofSide x3 2) fun r13 => rd (σ 2) 42 r13 fun v14 => bd1 (X12_ofSide x3 2) fun r15 => rd (σ 1) 42 r15 fun v16 => bd (x4 + (v14 - v16)) fun v17 => bd (x5 + 1) fun v18 => k44 x1 x3 v17 v18 σ) else (rd (σ 1) 42 0 fun v19 => bd2 (X12_drawn σ v19) fun r22 σ20 => bd2 (X12_drawn σ20 9) fun r25 σ23 => bd2 (X12_hits σ23 2 r22 r25) fun r28 σ26 => bd (x6 + 1) fun v29 => k64 x1 x3 x4 x5 v29 σ26)
def X12_nights_b64 (k44 : Int32 → Int32 → Int32 → Int32 → IM → Option (Int32 × IM)) : Nat → Int32 → Int32 → Int32 → Int32 → Int32 → IM → Option (Int32 × IM)
  | 0 => fun _ _ _ _ _ _ => none
  | n + 1 => X12_nights_s64 k44 (X12_nights_b64 k44 n)
set_option maxRecDepth 20000 in
theorem w_X12_nights_64 {l : Launch} {g : GE} {A : Nat → Prop} {p : Program} {e : Env} {s : State} {m : MethodId} {args : Array Value} {below : List Frame} {meth : Method} {c : Code} (S : CallFix p m c cX12_nights 9 s args UL RX12) (hK : KK g s) (hr : meth.sig.returnType = (some .int)) (hlk : meth.locks = false) {out : Int32 × IM} {k44 : Int32 → Int32 → Int32 → Int32 → IM → Option (Int32 × IM)} (hk44 : ∀ {x1 : Int32} {x3 : Int32} {x4 : Int32} {x5 : Int32} {σ : IM} {H : Heap} {locs : List Loc} {ls : Array Slot}, Mem lyM 13 g A [] σ nor s.heap H locs → lv_has ls 9 [(0, .ref (g.2.2 0)), (1, .int x1), (3, .int x3), (4, .int x4), (5, .int x5)] → k44 x1 x3 x4 x5 σ = some out → W p l e ({ frames := 4, cells := 0, slots := 0, locals := 99 }) s m args below meth c H locs 0 0 (MQ below (Qm lyM 13 g A [] out.2 nor (some (.int out.1))) args s 0 0 A) (F0 m 44 ls [])) {k64 : Int32 → Int32 → Int32 → Int32 → Int32 → IM → Option (Int32 × IM)} (hk64 : ∀ {x1 : Int32} {x3 : Int32} {x4 : Int32} {x5 : Int32} {x6 : Int32} {σ : IM} {H : Heap} {locs : List Loc} {ls : Array Slot}, Mem lyM 13 g A [] σ nor s.heap H locs → lv_has ls 9 [(0, .ref (g.2.2 0)), (1, .int x1), (3, .int x3), (4, .int x4), (5, .int x5), (6, .int x6)] → k64 x1 x3 x4 x5 x6 σ = some out → W p l e ({ frames := 4, cells := 0, slots := 0, locals := 99 }) s m args below meth c H locs 0 0 (MQ below (Qm lyM 13 g A [] out.2 nor (some (.int out.1))) args s 0 0 A) (F0 m 64 ls [])) : ∀ {x1 : Int32} {x3 : Int32} {x4 : Int32} {x5 : Int32} {x6 : Int32} {σ : IM} {H : Heap} {locs : List Loc} {ls : Array Slot}, Mem lyM 13 g A [] σ nor s.heap H locs → lv_has ls 9 [(0, .ref (g.2.2 0)), (1, .int x1), (3, .int x3), (4, .int x4), (5, .int x5), (6, .int x6)] → X12_nights_s64 k44 k64 x1 x3 x4 x5 x6 σ = some out → W p l e ({ frames := 4, cells := 0, slots := 0, locals := 99 }) s m args below meth c H locs 0 0 (MQ below (Qm lyM 13 g A [] out.2 nor (some (.int out.1))) args s 0 0 A) (F0 m 64 ls []) := by
  intro x1 x3 x4 x5 x6 σ H locs ls hM hl hF
  unfold X12_nights_s64 at hF
  refine lv_iload S.1 S.2.1 dX12_nights_64 (lv_at hl 5 rfl) ?_
  refine lv_bipush (v := 12) S.1 S.2.1 dX12_nights_66 (by decide) ?_
  refine lv_icmp_ge (tgt := 107) S.1 S.2.1 dX12_nights_68 (by decide) (fun b12 => ?_) (fun b12 => ?_)
  · have hF := (if_pos b12).symm.trans hF
    refine lv_iload S.1 S.2.1 dX12_nights_107 (lv_at hl 3 rfl) ?_
    refine lv_aload_n S.1 S.2.1 dX12_nights_109 rfl (lv_at hl 0 rfl) ?_
    refine r_getC S hK hM cfX12 0 1 2 (by decide) lm_0 rfl (by decide) tw_5_32 dX12_nights_110 ?_
    refine lv_iload_n S.1 S.2.1 dX12_nights_113 rfl (lv_at hl 2 rfl) ?_
    refine lv_iconst (v := 2) S.1 S.2.1 dX12_nights_114 (by decide) ?_
    obtain ⟨r13, er13, hF⟩ := bd1_some hF
    refine k_p (va_runS (As := [.int x3, .int 2]) (rest := [.ref (g.2.2 2), .int x4]) S (c_X12_ofSide   er13) (va_cwS 2 S.2.2.2.2 (ul_S tw_5_28 tw_5_29 tw_1_12 cw_X12_ofSide) rfl rfl rfl hs_X12_ofSide ⟨Nat.le_of_ble_eq_true rfl, Nat.le_of_ble_eq_true rfl⟩) ⟨PreM.blind, hM.pre hK⟩ rfl rfl hl.1 rfl (lv_room (Nat.le_of_ble_eq_true rfl)) dX12_nights_115 ⟨Nat.zero_le _, Nat.zero_le _⟩) ?_
    obtain ⟨hv14, v14, ev14, hF⟩ := rd_some hF
    refine r_iald S hK hM 2 (by decide) rfl hv14 ev14 dX12_nights_118 ?_
    refine lv_aload_n S.1 S.2.1 dX12_nights_119 rfl (lv_at hl 0 rfl) ?_
    refine r_getC S hK hM cfX12 0 0 1 (by decide) lm_0 rfl (by decide) tw_5_31 dX12_nights_120 ?_
    refine lv_iload_n S.1 S.2.1 dX12_nights_123 rfl (lv_at hl 2 rfl) ?_
    refine lv_iconst (v := 2) S.1 S.2.1 dX12_nights_124 (by decide) ?_
    obtain ⟨r15, er15, hF⟩ := bd1_some hF
    refine k_p (va_runS (As := [.int x3, .int 2]) (rest := [.ref (g.2.2 1), .int v14, .int x4]) S (c_X12_ofSide   er15) (va_cwS 2 S.2.2.2.2 (ul_S tw_5_28 tw_5_29 tw_1_12 cw_X12_ofSide) rfl rfl rfl hs_X12_ofSide ⟨Nat.le_of_ble_eq_true rfl, Nat.le_of_ble_eq_true rfl⟩) ⟨PreM.blind, hM.pre hK⟩ rfl rfl hl.1 rfl (lv_room (Nat.le_of_ble_eq_true rfl)) dX12_nights_125 ⟨Nat.zero_le _, Nat.zero_le _⟩) ?_
    obtain ⟨hv16, v16, ev16, hF⟩ := rd_some hF
    refine r_iald S hK hM 1 (by decide) rfl hv16 ev16 dX12_nights_128 ?_
    refine lv_isub S.1 S.2.1 dX12_nights_129 ?_
    refine lv_iadd S.1 S.2.1 dX12_nights_130 ?_
    refine lv_topi (fun v17 ev17 => ?_)
    have hF := bd_at ev17 hF
    refine lv_istore (lv' := [(4, .int v17), (0, .ref (g.2.2 0)), (1, .int x1), (3, .int x3), (5, .int x5), (6, .int x6)]) S.1 S.2.1 dX12_nights_131 hl (by decide) rfl (fun ls hl => ?_)
    obtain ⟨v18, ev18, hF⟩ := bd_some hF
    refine lv_iinc (v := v18) (lv' := [(5, .int v18), (4, .int v17), (0, .ref (g.2.2 0)), (1, .int x1), (3, .int x3), (6, .int x6)]) S.1 S.2.1 dX12_nights_133 hl (k := 4) rfl (by rw [ev18]; rfl) (by decide) rfl (fun ls hl => ?_)
    refine lv_goto (tgt := 44) S.1 S.2.1 dX12_nights_136 (by decide) ?_
    exact hk44 hM (lv_sub hl [2, 3, 4, 1, 0] rfl)  hF
  · have hF := (if_neg b12).symm.trans hF
    refine lv_aload_n S.1 S.2.1 dX12_nights_71 rfl (lv_at hl 0 rfl) ?_
    refine lv_aload_n S.1 S.2.1 dX12_nights_72 rfl (lv_at hl 0 rfl) ?_
    refine r_getC S hK hM cfX12 0 0 1 (by decide) lm_0 rfl (by decide) tw_5_31 dX12_nights_73 ?_
    refine lv_iconst (v := 0) S.1 S.2.1 dX12_nights_76 (by decide) ?_
    obtain ⟨hv19, v19, ev19, hF⟩ := rd_some hF
    refine r_iald S hK hM 1 (by decide) rfl hv19 ev19 dX12_nights_77 ?_
    obtain ⟨r22, σ20, er22, hF⟩ := bd2_some hF
    refine k_m (va_runV (As := [.int v19]) (rest := []) S (c_X12_drawn   er22) (cwV 1 S.2.2.2.2 (ul_V tw_6_171 tw_6_173 ts_X12_drawn tw_1_12 cw_X12_drawn) rfl rfl rfl hv_X12_drawn ⟨Nat.le_of_ble_eq_true rfl, Nat.le_of_ble_eq_true rfl⟩) ⟨PreM.blind, hM.recv hK cfX12 0 (by decide) lm_0, hM.pre hK⟩ rfl rfl hl.1 rfl (lv_room (Nat.le_of_ble_eq_true rfl)) dX12_nights_78 ⟨Nat.zero_le _, Nat.zero_le _⟩) hM (fun H locs hM => ?_)
    show W _ _ _ _ _ _ _ _ _ _ _ _ _ _ _ (F0 m 81 ls [.int r22])
    refine lv_istore (lv' := [(7, .int r22), (0, .ref (g.2.2 0)), (1, .int x1), (3, .int x3), (4, .int x4), (5, .int x5), (6, .int x6)]) S.1 S.2.1 dX12_nights_81 hl (by decide) rfl (fun ls hl => ?_)
    refine lv_aload_n S.1 S.2.1 dX12_nights_83 rfl (lv_at hl 1 rfl) ?_
    refine lv_aload_n S.1 S.2.1 dX12_nights_84 rfl (lv_at hl 1 rfl) ?_
    refine r_getC S hK hM cfX12 0 1 2 (by decide) lm_0 rfl (by decide) tw_5_32 dX12_nights_85 ?_
    refine lv_iload S.1 S.2.1 dX12_nights_88 (lv_at hl 0 rfl) ?_
    refine lv_aload_n S.1 S.2.1 dX12_nights_90 rfl (lv_at hl 1 rfl) ?_
    refine lv_bipush (v := 9) S.1 S.2.1 dX12_nights_91 (by decide) ?_
    obtain ⟨r25, σ23, er25, hF⟩ := bd2_some hF
    refine k_m (va_runV (As := [.int 9]) (rest := [.int r22, .ref (g.2.2 2), .ref (g.2.2 0)]) S (c_X12_drawn   er25) (cwV 1 S.2.2.2.2 (ul_V tw_6_171 tw_6_173 ts_X12_drawn tw_1_12 cw_X12_drawn) rfl rfl rfl hv_X12_drawn ⟨Nat.le_of_ble_eq_true rfl, Nat.le_of_ble_eq_true rfl⟩) ⟨PreM.blind, hM.recv hK cfX12 0 (by decide) lm_0, hM.pre hK⟩ rfl rfl hl.1 rfl (lv_room (Nat.le_of_ble_eq_true rfl)) dX12_nights_93 ⟨Nat.zero_le _, Nat.zero_le _⟩) hM (fun H locs hM => ?_)
    show W _ _ _ _ _ _ _ _ _ _ _ _ _ _ _ (F0 m 96 ls [.int r25, .int r22, .ref (g.2.2 2), .ref (g.2.2 0)])
    obtain ⟨r28, σ26, er28, hF⟩ := bd2_some hF
    refine k_m (va_runV (As := [.ref (g.2.2 2), .int r22, .int r25]) (rest := []) S (c_X12_hits  ar_2 er28) (cwV 3 S.2.2.2.2 (ul_V tw_5_146 tw_5_148 ts_X12_hits tw_1_12 cw_X12_hits) rfl rfl rfl hv_X12_hits ⟨Nat.le_of_ble_eq_true rfl, Nat.le_of_ble_eq_true rfl⟩) ⟨PreM.blind, hM.recv hK cfX12 0 (by decide) lm_0, hM.pre hK⟩ rfl rfl hl.1 rfl (lv_room (Nat.le_of_ble_eq_true rfl)) dX12_nights_96 ⟨Nat.zero_le _, Nat.zero_le _⟩) hM (fun H locs hM => ?_)
    show W _ _ _ _ _ _ _ _ _ _ _ _ _ _ _ (F0 m 99 ls [.int r28])
    refine lv_istore (lv' := [(8, .int r28), (7, .int r22), (0, .ref (g.2.2 0)), (1, .int x1), (3, .int x3), (4, .int x4), (5, .int x5), (6, .int x6)]) S.1 S.2.1 dX12_nights_99 hl (by decide) rfl (fun ls hl => ?_)
    obtain ⟨v29, ev29, hF⟩ := bd_some hF
    refine lv_iinc (v := v29) (lv' := [(6, .int v29), (8, .int r28), (7, .int r22), (0, .ref (g.2.2 0)), (1, .int x1), (3, .int x3), (4, .int x4), (5, .int x5)]) S.1 S.2.1 dX12_nights_101 hl (k := 7) rfl (by rw [ev29]; rfl) (by decide) rfl (fun ls hl => ?_)
    refine lv_goto (tgt := 64) S.1 S.2.1 dX12_nights_104 (by decide) ?_
    exact hk64 hM (lv_sub hl [3, 4, 5, 6, 7, 0] rfl)  hF
theorem wl_X12_nights_64 {l : Launch} {g : GE} {A : Nat → Prop} {p : Program} {e : Env} {s : State} {m : MethodId} {args : Array Value} {below : List Frame} {meth : Method} {c : Code} (S : CallFix p m c cX12_nights 9 s args UL RX12) (hK : KK g s) (hr : meth.sig.returnType = (some .int)) (hlk : meth.locks = false) {out : Int32 × IM} {k44 : Int32 → Int32 → Int32 → Int32 → IM → Option (Int32 × IM)} (hk44 : ∀ {x1 : Int32} {x3 : Int32} {x4 : Int32} {x5 : Int32} {σ : IM} {H : Heap} {locs : List Loc} {ls : Array Slot}, Mem lyM 13 g A [] σ nor s.heap H locs → lv_has ls 9 [(0, .ref (g.2.2 0)), (1, .int x1), (3, .int x3), (4, .int x4), (5, .int x5)] → k44 x1 x3 x4 x5 σ = some out → W p l e ({ frames := 4, cells := 0, slots := 0, locals := 99 }) s m args below meth c H locs 0 0 (MQ below (Qm lyM 13 g A [] out.2 nor (some (.int out.1))) args s 0 0 A) (F0 m 44 ls [])) : ∀ (n : Nat) {x1 : Int32} {x3 : Int32} {x4 : Int32} {x5 : Int32} {x6 : Int32} {σ : IM} {H : Heap} {locs : List Loc} {ls : Array Slot}, Mem lyM 13 g A [] σ nor s.heap H locs → lv_has ls 9 [(0, .ref (g.2.2 0)), (1, .int x1), (3, .int x3), (4, .int x4), (5, .int x5), (6, .int x6)] → X12_nights_b64 k44 n x1 x3 x4 x5 x6 σ = some out → W p l e ({ frames := 4, cells := 0, slots := 0, locals := 99 }) s m args below meth c H locs 0 0 (MQ below (Qm lyM 13 g A [] out.2 nor (some (.int out.1))) args s 0 0 A) (F0 m 64 ls []) := by
  intro n
  induction n with
  | zero =>
    intro x1 x3 x4 x5 x6 σ H locs ls hM hl hF
    cases hF
  | succ n ih =>
    intro x1 x3 x4 x5 x6 σ H locs ls hM hl hF
    exact w_X12_nights_64 S hK hr hlk hk44 ih hM hl hF
def X12_nights_s44 (k44 : Int32 → Int32 → Int32 → Int32 → IM → Option (Int32 × IM)) (x1 : Int32) (x3 : Int32) (x4 : Int32) (x5 : Int32) (σ : IM) : Option (Int32 × IM) := if x1 ≤ x5 then (some (x4, σ)) else (bd1 (X12_copies σ 1 2) fun σ9 => X12_nights_b64 k44 1000 x1 x3 x4 x5 0 σ9)
def X12_nights_b44 : Nat → Int32 → Int32 → Int32 → Int32 → IM → Option (Int32 × IM)
  | 0 => fun _ _ _ _ _ => none
  | n + 1 => X12_nights_s44 (X12_nights_b44 n)
set_option maxRecDepth 20000 in
theorem w_X12_nights_44 {l : Launch} {g : GE} {A : Nat → Prop} {p : Program} {e : Env} {s : State} {m : MethodId} {args : Array Value} {below : List Frame} {meth : Method} {c : Code} (S : CallFix p m c cX12_nights 9 s args UL RX12) (hK : KK g s) (hr : meth.sig.returnType = (some .int)) (hlk : meth.locks = false) {out : Int32 × IM} {k44 : Int32 → Int32 → Int32 → Int32 → IM → Option (Int32 × IM)} (hk44 : ∀ {x1 : Int32} {x3 : Int32} {x4 : Int32} {x5 : Int32} {σ : IM} {H : Heap} {locs : List Loc} {ls : Array Slot}, Mem lyM 13 g A [] σ nor s.heap H locs → lv_has ls 9 [(0, .ref (g.2.2 0)), (1, .int x1), (3, .int x3), (4, .int x4), (5, .int x5)] → k44 x1 x3 x4 x5 σ = some out → W p l e ({ frames := 4, cells := 0, slots := 0, locals := 99 }) s m args below meth c H locs 0 0 (MQ below (Qm lyM 13 g A [] out.2 nor (some (.int out.1))) args s 0 0 A) (F0 m 44 ls [])) : ∀ {x1 : Int32} {x3 : Int32} {x4 : Int32} {x5 : Int32} {σ : IM} {H : Heap} {locs : List Loc} {ls : Array Slot}, Mem lyM 13 g A [] σ nor s.heap H locs → lv_has ls 9 [(0, .ref (g.2.2 0)), (1, .int x1), (3, .int x3), (4, .int x4), (5, .int x5)] → X12_nights_s44 k44 x1 x3 x4 x5 σ = some out → W p l e ({ frames := 4, cells := 0, slots := 0, locals := 99 }) s m args below meth c H locs 0 0 (MQ below (Qm lyM 13 g A [] out.2 nor (some (.int out.1))) args s 0 0 A) (F0 m 44 ls []) := by
  intro x1 x3 x4 x5 σ H locs ls hM hl hF
  unfold X12_nights_s44 at hF
  refine lv_iload S.1 S.2.1 dX12_nights_44 (lv_at hl 4 rfl) ?_
  refine lv_iload_n S.1 S.2.1 dX12_nights_46 rfl (lv_at hl 1 rfl) ?_
  refine lv_icmp_ge (tgt := 139) S.1 S.2.1 dX12_nights_47 (by decide) (fun b8 => ?_) (fun b8 => ?_)
  · have hF := (if_pos b8).symm.trans hF
    refine lv_iload S.1 S.2.1 dX12_nights_139 (lv_at hl 3 rfl) ?_
    cases hF
    exact z_m (v := x4) S hM hr hlk rfl dX12_nights_141
  · have hF := (if_neg b8).symm.trans hF
    refine lv_aload_n S.1 S.2.1 dX12_nights_50 rfl (lv_at hl 0 rfl) ?_
    refine r_getC S hK hM cfX12 0 0 1 (by decide) lm_0 rfl (by decide) tw_5_31 dX12_nights_51 ?_
    refine lv_aload_n S.1 S.2.1 dX12_nights_54 rfl (lv_at hl 0 rfl) ?_
    refine r_getC S hK hM cfX12 0 1 2 (by decide) lm_0 rfl (by decide) tw_5_32 dX12_nights_55 ?_
    obtain ⟨σ9, er11, hF⟩ := bd1_some hF
    refine k_m (va_runS (As := [.ref (g.2.2 1), .ref (g.2.2 2)]) (rest := []) S (c_X12_copies  ar_1 ar_2 er11) (va_cwS 2 S.2.2.2.2 (ul_S tw_5_118 tw_5_119 tw_1_12 cw_X12_copies) rfl rfl rfl hs_X12_copies ⟨Nat.le_of_ble_eq_true rfl, Nat.le_of_ble_eq_true rfl⟩) ⟨PreM.blind, hM.pre hK⟩ rfl rfl hl.1 rfl (lv_room (Nat.le_of_ble_eq_true rfl)) dX12_nights_58 ⟨Nat.zero_le _, Nat.zero_le _⟩) hM (fun H locs hM => ?_)
    show W _ _ _ _ _ _ _ _ _ _ _ _ _ _ _ (F0 m 61 ls [])
    refine lv_iconst (v := 0) S.1 S.2.1 dX12_nights_61 (by decide) ?_
    refine lv_istore (lv' := [(6, .int 0), (0, .ref (g.2.2 0)), (1, .int x1), (3, .int x3), (4, .int x4), (5, .int x5)]) S.1 S.2.1 dX12_nights_62 hl (by decide) rfl (fun ls hl => ?_)
    exact wl_X12_nights_64 S hK hr hlk hk44 1000 hM (lv_sub hl [1, 2, 3, 4, 5, 0] rfl) hF
theorem wl_X12_nights_44 {l : Launch} {g : GE} {A : Nat → Prop} {p : Program} {e : Env} {s : State} {m : MethodId} {args : Array Value} {below : List Frame} {meth : Method} {c : Code} (S : CallFix p m c cX12_nights 9 s args UL RX12) (hK : KK g s) (hr : meth.sig.returnType = (some .int)) (hlk : meth.locks = false) {out : Int32 × IM} : ∀ (n : Nat) {x1 : Int32} {x3 : Int32} {x4 : Int32} {x5 : Int32} {σ : IM} {H : Heap} {locs : List Loc} {ls : Array Slot}, Mem lyM 13 g A [] σ nor s.heap H locs → lv_has ls 9 [(0, .ref (g.2.2 0)), (1, .int x1), (3, .int x3), (4, .int x4), (5, .int x5)] → X12_nights_b44 n x1 x3 x4 x5 σ = some out → W p l e ({ frames := 4, cells := 0, slots := 0, locals := 99 }) s m args below meth c H locs 0 0 (MQ below (Qm lyM 13 g A [] out.2 nor (some (.int out.1))) args s 0 0 A) (F0 m 44 ls []) := by
  intro n
  induction n with
  | zero =>
    intro x1 x3 x4 x5 σ H locs ls hM hl hF
    cases hF
  | succ n ih =>
    intro x1 x3 x4 x5 σ H locs ls hM hl hF
    exact w_X12_nights_44 S hK hr hlk ih hM hl hF
def X12_nights (σ : IM) (a1 : Int32) (a2 : Int32) (a3 : Int32) : Option (Int32 × IM) := bd1 (X12_isIn a1 1 20) fun r1 => if r1 = 0 then (some ((-1), σ)) else (bd1 (X12_isIn a3 0 1) fun r3 => if r3 = 0 then (some ((-1), σ)) else (rd (σ 1) 42 0 fun v5 => if v5 = 0 then (some ((-3), σ)) else (bd (up2 σ 0 12 a2) fun σ7 => X12_nights_b44 1000 a1 a3 0 0 σ7)))
set_option maxRecDepth 20000 in
theorem c_X12_nights {l : Launch} {g : GE} {A : Nat → Prop} {σ : IM} {a1 : Int32} {a2 : Int32} {a3 : Int32} {out : Int32 × IM} (hF : X12_nights σ a1 a2 a3 = some out) : Met l yX12_nights (.code yX12_nights cX12_nights 9 (some .int) :: UL) ({ frames := 4, cells := 0, slots := 0, locals := 99 }) (va_Pc [.ref (g.2.2 0), .int a1, .int a2, .int a3] (PreM lyM 13 g A [] σ nor)) (Qm lyM 13 g A [] out.2 nor (some (.int out.1))) 0 0 A := by
  refine e_of (by decide) (Nat.le_of_ble_eq_true rfl) ?_
  intro p e s m below meth c ls S hr hlk hv hl
  have hM := Mem.of hv
  have hK := hv.2.1
  have hl : lv_has ls 9 [(0, .ref (g.2.2 0)), (1, .int a1), (2, .int a2), (3, .int a3)] := hl
  unfold X12_nights at hF
  refine lv_iload_n S.1 S.2.1 dX12_nights_0 rfl (lv_at hl 1 rfl) ?_
  refine lv_iconst (v := 1) S.1 S.2.1 dX12_nights_1 (by decide) ?_
  refine lv_bipush (v := 20) S.1 S.2.1 dX12_nights_2 (by decide) ?_
  obtain ⟨r1, er1, hF⟩ := bd1_some hF
  refine k_p (va_runS (As := [.int a1, .int 1, .int 20]) (rest := []) S (c_X12_isIn   er1) (va_cwS 3 S.2.2.2.2 (ul_S tw_5_103 tw_5_104 tw_1_12 cw_X12_isIn) rfl rfl rfl hs_X12_isIn ⟨Nat.le_of_ble_eq_true rfl, Nat.le_of_ble_eq_true rfl⟩) ⟨PreM.blind, hM.pre hK⟩ rfl rfl hl.1 rfl (lv_room (Nat.le_of_ble_eq_true rfl)) dX12_nights_4 ⟨Nat.zero_le _, Nat.zero_le _⟩) ?_
  refine lv_if_eq (tgt := 19) S.1 S.2.1 dX12_nights_7 (by decide) (fun b2 => ?_) (fun b2 => ?_)
  · have hF := (if_pos b2).symm.trans hF
    refine lv_iconst (v := (-1)) S.1 S.2.1 dX12_nights_19 (by decide) ?_
    cases hF
    exact z_m (v := (-1)) S hM hr hlk rfl dX12_nights_20
  · have hF := (if_neg b2).symm.trans hF
    refine lv_iload_n S.1 S.2.1 dX12_nights_10 rfl (lv_at hl 3 rfl) ?_
    refine lv_iconst (v := 0) S.1 S.2.1 dX12_nights_11 (by decide) ?_
    refine lv_iconst (v := 1) S.1 S.2.1 dX12_nights_12 (by decide) ?_
    obtain ⟨r3, er3, hF⟩ := bd1_some hF
    refine k_p (va_runS (As := [.int a3, .int 0, .int 1]) (rest := []) S (c_X12_isIn   er3) (va_cwS 3 S.2.2.2.2 (ul_S tw_5_103 tw_5_104 tw_1_12 cw_X12_isIn) rfl rfl rfl hs_X12_isIn ⟨Nat.le_of_ble_eq_true rfl, Nat.le_of_ble_eq_true rfl⟩) ⟨PreM.blind, hM.pre hK⟩ rfl rfl hl.1 rfl (lv_room (Nat.le_of_ble_eq_true rfl)) dX12_nights_13 ⟨Nat.zero_le _, Nat.zero_le _⟩) ?_
    refine lv_if_ne (tgt := 21) S.1 S.2.1 dX12_nights_16 (by decide) (fun b4 => ?_) (fun b4 => ?_)
    · have hF := (if_neg b4).symm.trans hF
      refine lv_aload_n S.1 S.2.1 dX12_nights_21 rfl (lv_at hl 0 rfl) ?_
      refine r_getC S hK hM cfX12 0 0 1 (by decide) lm_0 rfl (by decide) tw_5_31 dX12_nights_22 ?_
      refine lv_iconst (v := 0) S.1 S.2.1 dX12_nights_25 (by decide) ?_
      obtain ⟨hv5, v5, ev5, hF⟩ := rd_some hF
      refine r_iald S hK hM 1 (by decide) rfl hv5 ev5 dX12_nights_26 ?_
      refine lv_if_ne (tgt := 33) S.1 S.2.1 dX12_nights_27 (by decide) (fun b6 => ?_) (fun b6 => ?_)
      · have hF := (if_neg b6).symm.trans hF
        refine lv_aload_n S.1 S.2.1 dX12_nights_33 rfl (lv_at hl 0 rfl) ?_
        refine lv_iload_n S.1 S.2.1 dX12_nights_34 rfl (lv_at hl 2 rfl) ?_
        obtain ⟨σ7, eσ7, hF⟩ := bd_some hF
        refine r_putI (ty := .int) S hK hM cfX12 tyX12_ok nmX12 0 12 (by decide) lm_0 rfl (by decide) tw_5_43 rfl (by decide +kernel) rfl rfl eσ7 dX12_nights_35 (fun H locs hM => ?_)
        refine lv_iconst (v := 0) S.1 S.2.1 dX12_nights_38 (by decide) ?_
        refine lv_istore (lv' := [(4, .int 0), (0, .ref (g.2.2 0)), (1, .int a1), (2, .int a2), (3, .int a3)]) S.1 S.2.1 dX12_nights_39 hl (by decide) rfl (fun ls hl => ?_)
        refine lv_iconst (v := 0) S.1 S.2.1 dX12_nights_41 (by decide) ?_
        refine lv_istore (lv' := [(5, .int 0), (4, .int 0), (0, .ref (g.2.2 0)), (1, .int a1), (2, .int a2), (3, .int a3)]) S.1 S.2.1 dX12_nights_42 hl (by decide) rfl (fun ls hl => ?_)
        exact wl_X12_nights_44 S hK hr hlk 1000 hM (lv_sub hl [2, 3, 5, 1, 0] rfl) hF
      · have hF := (if_pos b6).symm.trans hF
        refine lv_bipush (v := (-3)) S.1 S.2.1 dX12_nights_30 (by decide) ?_
        cases hF
        exact z_m (v := (-3)) S hM hr hlk rfl dX12_nights_32
    · have hF := (if_pos b4).symm.trans hF
      refine lv_iconst (v := (-1)) S.1 S.2.1 dX12_nights_19 (by decide) ?_
      cases hF
      exact z_m (v := (-1)) S hM hr hlk rfl dX12_nights_20
/-! X12_image -/
def X12_image (σ : IM) : Option (Int32 × IM) := bd1 (X12_copies σ 1 3) fun σ1 => bd (up2 σ1 0 5 1) fun σ4 => rd (σ4 1) 42 1 fun v5 => some (v5, σ4)
set_option maxRecDepth 20000 in
theorem c_X12_image {l : Launch} {g : GE} {A : Nat → Prop} {σ : IM} {out : Int32 × IM} (hF : X12_image σ = some out) : Met l yX12_image (.code yX12_image cX12_image 1 (some .int) :: UL) ({ frames := 1, cells := 0, slots := 0, locals := 22 }) (va_Pc [.ref (g.2.2 0)] (PreM lyM 13 g A [] σ nor)) (Qm lyM 13 g A [] out.2 nor (some (.int out.1))) 0 0 A := by
  refine e_of (by decide) (Nat.le_of_ble_eq_true rfl) ?_
  intro p e s m below meth c ls S hr hlk hv hl
  have hM := Mem.of hv
  have hK := hv.2.1
  have hl : lv_has ls 1 [(0, .ref (g.2.2 0))] := hl
  unfold X12_image at hF
  refine lv_aload_n S.1 S.2.1 dX12_image_0 rfl (lv_at hl 0 rfl) ?_
  refine r_getC S hK hM cfX12 0 0 1 (by decide) lm_0 rfl (by decide) tw_5_31 dX12_image_1 ?_
  refine lv_aload_n S.1 S.2.1 dX12_image_4 rfl (lv_at hl 0 rfl) ?_
  refine r_getC S hK hM cfX12 0 2 3 (by decide) lm_0 rfl (by decide) tw_5_33 dX12_image_5 ?_
  obtain ⟨σ1, er3, hF⟩ := bd1_some hF
  refine k_m (va_runS (As := [.ref (g.2.2 1), .ref (g.2.2 3)]) (rest := []) S (c_X12_copies  ar_1 ar_3 er3) (va_cwS 2 S.2.2.2.2 (ul_S tw_5_118 tw_5_119 tw_1_12 cw_X12_copies) rfl rfl rfl hs_X12_copies ⟨Nat.le_of_ble_eq_true rfl, Nat.le_of_ble_eq_true rfl⟩) ⟨PreM.blind, hM.pre hK⟩ rfl rfl hl.1 rfl (lv_room (Nat.le_of_ble_eq_true rfl)) dX12_image_8 ⟨Nat.zero_le _, Nat.zero_le _⟩) hM (fun H locs hM => ?_)
  show W _ _ _ _ _ _ _ _ _ _ _ _ _ _ _ (F0 m 11 ls [])
  refine lv_aload_n S.1 S.2.1 dX12_image_11 rfl (lv_at hl 0 rfl) ?_
  refine lv_iconst (v := 1) S.1 S.2.1 dX12_image_12 (by decide) ?_
  obtain ⟨σ4, eσ4, hF⟩ := bd_some hF
  refine r_putI (ty := .boolean) S hK hM cfX12 tyX12_ok nmX12 0 5 (by decide) lm_0 rfl (by decide) tw_5_36 rfl (by decide +kernel) rfl rfl eσ4 dX12_image_13 (fun H locs hM => ?_)
  refine lv_aload_n S.1 S.2.1 dX12_image_16 rfl (lv_at hl 0 rfl) ?_
  refine r_getC S hK hM cfX12 0 0 1 (by decide) lm_0 rfl (by decide) tw_5_31 dX12_image_17 ?_
  refine lv_iconst (v := 1) S.1 S.2.1 dX12_image_20 (by decide) ?_
  obtain ⟨hv5, v5, ev5, hF⟩ := rd_some hF
  refine r_iald S hK hM 1 (by decide) rfl hv5 ev5 dX12_image_21 ?_
  cases hF
  exact z_m (v := v5) S hM hr hlk rfl dX12_image_22
/-! X12_restore -/
def X12_restore (σ : IM) : Option (Int32 × IM) := if σ 0 5 = 0 then (some ((-3), σ)) else (bd1 (X12_copies σ 3 1) fun σ2 => rd (σ2 1) 42 1 fun v5 => some (v5, σ2))
set_option maxRecDepth 20000 in
theorem c_X12_restore {l : Launch} {g : GE} {A : Nat → Prop} {σ : IM} {out : Int32 × IM} (hF : X12_restore σ = some out) : Met l yX12_restore (.code yX12_restore cX12_restore 1 (some .int) :: UL) ({ frames := 1, cells := 0, slots := 0, locals := 22 }) (va_Pc [.ref (g.2.2 0)] (PreM lyM 13 g A [] σ nor)) (Qm lyM 13 g A [] out.2 nor (some (.int out.1))) 0 0 A := by
  refine e_of (by decide) (Nat.le_of_ble_eq_true rfl) ?_
  intro p e s m below meth c ls S hr hlk hv hl
  have hM := Mem.of hv
  have hK := hv.2.1
  have hl : lv_has ls 1 [(0, .ref (g.2.2 0))] := hl
  unfold X12_restore at hF
  refine lv_aload_n S.1 S.2.1 dX12_restore_0 rfl (lv_at hl 0 rfl) ?_
  refine r_getI S hK hM cfX12 0 5 (by decide) lm_0 rfl (by decide) tw_5_36 dX12_restore_1 ?_
  refine lv_if_ne (tgt := 10) S.1 S.2.1 dX12_restore_4 (by decide) (fun b1 => ?_) (fun b1 => ?_)
  · have hF := (if_neg b1).symm.trans hF
    refine lv_aload_n S.1 S.2.1 dX12_restore_10 rfl (lv_at hl 0 rfl) ?_
    refine r_getC S hK hM cfX12 0 2 3 (by decide) lm_0 rfl (by decide) tw_5_33 dX12_restore_11 ?_
    refine lv_aload_n S.1 S.2.1 dX12_restore_14 rfl (lv_at hl 0 rfl) ?_
    refine r_getC S hK hM cfX12 0 0 1 (by decide) lm_0 rfl (by decide) tw_5_31 dX12_restore_15 ?_
    obtain ⟨σ2, er4, hF⟩ := bd1_some hF
    refine k_m (va_runS (As := [.ref (g.2.2 3), .ref (g.2.2 1)]) (rest := []) S (c_X12_copies  ar_3 ar_1 er4) (va_cwS 2 S.2.2.2.2 (ul_S tw_5_118 tw_5_119 tw_1_12 cw_X12_copies) rfl rfl rfl hs_X12_copies ⟨Nat.le_of_ble_eq_true rfl, Nat.le_of_ble_eq_true rfl⟩) ⟨PreM.blind, hM.pre hK⟩ rfl rfl hl.1 rfl (lv_room (Nat.le_of_ble_eq_true rfl)) dX12_restore_18 ⟨Nat.zero_le _, Nat.zero_le _⟩) hM (fun H locs hM => ?_)
    show W _ _ _ _ _ _ _ _ _ _ _ _ _ _ _ (F0 m 21 ls [])
    refine lv_aload_n S.1 S.2.1 dX12_restore_21 rfl (lv_at hl 0 rfl) ?_
    refine r_getC S hK hM cfX12 0 0 1 (by decide) lm_0 rfl (by decide) tw_5_31 dX12_restore_22 ?_
    refine lv_iconst (v := 1) S.1 S.2.1 dX12_restore_25 (by decide) ?_
    obtain ⟨hv5, v5, ev5, hF⟩ := rd_some hF
    refine r_iald S hK hM 1 (by decide) rfl hv5 ev5 dX12_restore_26 ?_
    cases hF
    exact z_m (v := v5) S hM hr hlk rfl dX12_restore_27
  · have hF := (if_pos b1).symm.trans hF
    refine lv_bipush (v := (-3)) S.1 S.2.1 dX12_restore_7 (by decide) ?_
    cases hF
    exact z_m (v := (-3)) S hM hr hlk rfl dX12_restore_9
/-! X12_count -/
def X12_count_b40 (σ : IM) (x1 : Int32) : Option Int32 := rd (σ 1) 42 x1 fun v14 => some v14
set_option maxRecDepth 20000 in
theorem w_X12_count_40 {l : Launch} {g : GE} {A : Nat → Prop} {σ : IM} {p : Program} {e : Env} {s : State} {m : MethodId} {args : Array Value} {below : List Frame} {meth : Method} {c : Code} (S : CallFix p m c cX12_count 4 s args UL RX12) (hK : KK g s) (hr : meth.sig.returnType = (some .int)) (hlk : meth.locks = false) (hM : Mem lyM 13 g A [] σ nor s.heap s.heap []) {out : Int32} : ∀ {x1 : Int32} {ls : Array Slot}, lv_has ls 4 [(0, .ref (g.2.2 0)), (1, .int x1)] → X12_count_b40 σ x1 = some out → W p l e ({ frames := 2, cells := 0, slots := 0, locals := 43 }) s m args below meth c s.heap [] 0 0 (MQ below (Qp (some (.int out))) args s 0 0 NoA) (F0 m 40 ls []) := by
  intro x1 ls hl hF
  unfold X12_count_b40 at hF
  refine lv_aload_n S.1 S.2.1 dX12_count_40 rfl (lv_at hl 0 rfl) ?_
  refine r_getC S hK hM cfX12 0 0 1 (by decide) lm_0 rfl (by decide) tw_5_31 dX12_count_41 ?_
  refine lv_iload_n S.1 S.2.1 dX12_count_44 rfl (lv_at hl 1 rfl) ?_
  obtain ⟨hv14, v14, ev14, hF⟩ := rd_some hF
  refine r_iald S hK hM 1 (by decide) rfl hv14 ev14 dX12_count_45 ?_
  cases hF
  exact z_p S hr hlk rfl dX12_count_46
def X12_count_s63 (σ : IM) (k63 : Int32 → Int32 → Option Int32) (x2 : Int32) (x3 : Int32) : Option Int32 := if 4 ≤ x3 then (some x2) else (bd1 (X12_ofP x3 3) fun r10 => rd (σ 1) 42 r10 fun v11 => bd (x2 ||| (v11 <<< (x3 &&& 31))) fun v12 => bd (x3 + 1) fun v13 => k63 v12 v13)
def X12_count_b63 (σ : IM) : Nat → Int32 → Int32 → Option Int32
  | 0 => fun _ _ => none
  | n + 1 => X12_count_s63 σ (X12_count_b63 σ n)
set_option maxRecDepth 20000 in
theorem w_X12_count_63 {l : Launch} {g : GE} {A : Nat → Prop} {σ : IM} {p : Program} {e : Env} {s : State} {m : MethodId} {args : Array Value} {below : List Frame} {meth : Method} {c : Code} (S : CallFix p m c cX12_count 4 s args UL RX12) (hK : KK g s) (hr : meth.sig.returnType = (some .int)) (hlk : meth.locks = false) (hM : Mem lyM 13 g A [] σ nor s.heap s.heap []) {out : Int32} {k63 : Int32 → Int32 → Option Int32} (hk63 : ∀ {x2 : Int32} {x3 : Int32} {ls : Array Slot}, lv_has ls 4 [(0, .ref (g.2.2 0)), (2, .int x2), (3, .int x3)] → k63 x2 x3 = some out → W p l e ({ frames := 2, cells := 0, slots := 0, locals := 43 }) s m args below meth c s.heap [] 0 0 (MQ below (Qp (some (.int out))) args s 0 0 NoA) (F0 m 63 ls [])) : ∀ {x2 : Int32} {x3 : Int32} {ls : Array Slot}, lv_has ls 4 [(0, .ref (g.2.2 0)), (2, .int x2), (3, .int x3)] → X12_count_s63 σ k63 x2 x3 = some out → W p l e ({ frames := 2, cells := 0, slots := 0, locals := 43 }) s m args below meth c s.heap [] 0 0 (MQ below (Qp (some (.int out))) args s 0 0 NoA) (F0 m 63 ls []) := by
  intro x2 x3 ls hl hF
  unfold X12_count_s63 at hF
  refine lv_iload_n S.1 S.2.1 dX12_count_63 rfl (lv_at hl 2 rfl) ?_
  refine lv_iconst (v := 4) S.1 S.2.1 dX12_count_64 (by decide) ?_
  refine lv_icmp_ge (tgt := 89) S.1 S.2.1 dX12_count_65 (by decide) (fun b9 => ?_) (fun b9 => ?_)
  · have hF := (if_pos b9).symm.trans hF
    refine lv_iload_n S.1 S.2.1 dX12_count_89 rfl (lv_at hl 1 rfl) ?_
    cases hF
    exact z_p S hr hlk rfl dX12_count_90
  · have hF := (if_neg b9).symm.trans hF
    refine lv_iload_n S.1 S.2.1 dX12_count_68 rfl (lv_at hl 1 rfl) ?_
    refine lv_aload_n S.1 S.2.1 dX12_count_69 rfl (lv_at hl 0 rfl) ?_
    refine r_getC S hK hM cfX12 0 0 1 (by decide) lm_0 rfl (by decide) tw_5_31 dX12_count_70 ?_
    refine lv_iload_n S.1 S.2.1 dX12_count_73 rfl (lv_at hl 2 rfl) ?_
    refine lv_iconst (v := 3) S.1 S.2.1 dX12_count_74 (by decide) ?_
    obtain ⟨r10, er10, hF⟩ := bd1_some hF
    refine k_p (va_runS (As := [.int x3, .int 3]) (rest := [.ref (g.2.2 1), .int x2]) S (c_X12_ofP   er10) (va_cwS 2 S.2.2.2.2 (ul_S tw_5_25 tw_5_26 tw_1_12 cw_X12_ofP) rfl rfl rfl hs_X12_ofP ⟨Nat.le_of_ble_eq_true rfl, Nat.le_of_ble_eq_true rfl⟩) ⟨PreM.blind, hM.pre hK⟩ rfl rfl hl.1 rfl (lv_room (Nat.le_of_ble_eq_true rfl)) dX12_count_75 ⟨Nat.zero_le _, Nat.zero_le _⟩) ?_
    obtain ⟨hv11, v11, ev11, hF⟩ := rd_some hF
    refine r_iald S hK hM 1 (by decide) rfl hv11 ev11 dX12_count_78 ?_
    refine lv_iload_n S.1 S.2.1 dX12_count_79 rfl (lv_at hl 2 rfl) ?_
    refine lv_ishl S.1 S.2.1 dX12_count_80 ?_
    refine lv_ior S.1 S.2.1 dX12_count_81 ?_
    refine lv_topi (fun v12 ev12 => ?_)
    have hF := bd_at ev12 hF
    refine lv_istore_n (lv' := [(2, .int v12), (0, .ref (g.2.2 0)), (3, .int x3)]) S.1 S.2.1 dX12_count_82 rfl hl (by decide) rfl (fun ls hl => ?_)
    obtain ⟨v13, ev13, hF⟩ := bd_some hF
    refine lv_iinc (v := v13) (lv' := [(3, .int v13), (2, .int v12), (0, .ref (g.2.2 0))]) S.1 S.2.1 dX12_count_83 hl (k := 2) rfl (by rw [ev13]; rfl) (by decide) rfl (fun ls hl => ?_)
    refine lv_goto (tgt := 63) S.1 S.2.1 dX12_count_86 (by decide) ?_
    exact hk63  (lv_sub hl [2, 1, 0] rfl)  hF
theorem wl_X12_count_63 {l : Launch} {g : GE} {A : Nat → Prop} {σ : IM} {p : Program} {e : Env} {s : State} {m : MethodId} {args : Array Value} {below : List Frame} {meth : Method} {c : Code} (S : CallFix p m c cX12_count 4 s args UL RX12) (hK : KK g s) (hr : meth.sig.returnType = (some .int)) (hlk : meth.locks = false) (hM : Mem lyM 13 g A [] σ nor s.heap s.heap []) {out : Int32} : ∀ (n : Nat) {x2 : Int32} {x3 : Int32} {ls : Array Slot}, lv_has ls 4 [(0, .ref (g.2.2 0)), (2, .int x2), (3, .int x3)] → X12_count_b63 σ n x2 x3 = some out → W p l e ({ frames := 2, cells := 0, slots := 0, locals := 43 }) s m args below meth c s.heap [] 0 0 (MQ below (Qp (some (.int out))) args s 0 0 NoA) (F0 m 63 ls []) := by
  intro n
  induction n with
  | zero =>
    intro x2 x3 ls hl hF
    cases hF
  | succ n ih =>
    intro x2 x3 ls hl hF
    exact w_X12_count_63 S hK hr hlk hM ih hl hF
def X12_count (σ : IM) (a1 : Int32) : Option Int32 := if a1 = 0 then (X12_count_b40 σ a1) else (if a1 = 1 then (X12_count_b40 σ a1) else (if a1 = 2 then (X12_count_b40 σ a1) else (if a1 = 3 then (rd (σ 1) 42 3 fun v5 => some (v5 + 1)) else (if a1 = 4 then (bd1 (X12_allTired σ) fun r7 => some r7) else (if a1 = 5 then (X12_count_b63 σ 1000 0 0) else (some (-1)))))))
set_option maxRecDepth 20000 in
theorem c_X12_count {l : Launch} {g : GE} {A : Nat → Prop} {σ : IM} {a1 : Int32} {out : Int32} (hF : X12_count σ a1 = some out) : Met l yX12_count (.code yX12_count cX12_count 4 (some .int) :: UL) ({ frames := 2, cells := 0, slots := 0, locals := 43 }) (va_Pc [.ref (g.2.2 0), .int a1] (PreM lyM 13 g A [] σ nor)) (Qp (some (.int out))) 0 0 NoA := by
  refine e_of (by decide) (Nat.le_of_ble_eq_true rfl) ?_
  intro p e s m below meth c ls S hr hlk hv hl
  have hM := Mem.of hv
  have hK := hv.2.1
  have hl : lv_has ls 4 [(0, .ref (g.2.2 0)), (1, .int a1)] := hl
  unfold X12_count at hF
  refine lv_iconst (v := 0) S.1 S.2.1 dX12_count_0 (by decide) ?_
  refine lv_istore_n (lv' := [(2, .int 0), (0, .ref (g.2.2 0)), (1, .int a1)]) S.1 S.2.1 dX12_count_1 rfl hl (by decide) rfl (fun ls hl => ?_)
  refine lv_iload_n S.1 S.2.1 dX12_count_2 rfl (lv_at hl 2 rfl) ?_
  by_cases b1 : a1 = 0
  · have hF := (if_pos b1).symm.trans hF
    refine r_tab (off := 37) (tgt := 40) S dX12_count_3 b1 (by decide) (by decide) ?_
    exact w_X12_count_40 S hK hr hlk hM (lv_sub hl [1, 2] rfl) hF
  · have hF := (if_neg b1).symm.trans hF
    by_cases b2 : a1 = 1
    · have hF := (if_pos b2).symm.trans hF
      refine r_tab (off := 37) (tgt := 40) S dX12_count_3 b2 (by decide) (by decide) ?_
      exact w_X12_count_40 S hK hr hlk hM (lv_sub hl [1, 2] rfl) hF
    · have hF := (if_neg b2).symm.trans hF
      by_cases b3 : a1 = 2
      · have hF := (if_pos b3).symm.trans hF
        refine r_tab (off := 37) (tgt := 40) S dX12_count_3 b3 (by decide) (by decide) ?_
        exact w_X12_count_40 S hK hr hlk hM (lv_sub hl [1, 2] rfl) hF
      · have hF := (if_neg b3).symm.trans hF
        by_cases b4 : a1 = 3
        · have hF := (if_pos b4).symm.trans hF
          refine r_tab (off := 44) (tgt := 47) S dX12_count_3 b4 (by decide) (by decide) ?_
          refine lv_aload_n S.1 S.2.1 dX12_count_47 rfl (lv_at hl 1 rfl) ?_
          refine r_getC S hK hM cfX12 0 0 1 (by decide) lm_0 rfl (by decide) tw_5_31 dX12_count_48 ?_
          refine lv_iconst (v := 3) S.1 S.2.1 dX12_count_51 (by decide) ?_
          obtain ⟨hv5, v5, ev5, hF⟩ := rd_some hF
          refine r_iald S hK hM 1 (by decide) rfl hv5 ev5 dX12_count_52 ?_
          refine lv_iconst (v := 1) S.1 S.2.1 dX12_count_53 (by decide) ?_
          refine lv_iadd S.1 S.2.1 dX12_count_54 ?_
          cases hF
          exact z_p S hr hlk rfl dX12_count_55
        · have hF := (if_neg b4).symm.trans hF
          by_cases b6 : a1 = 4
          · have hF := (if_pos b6).symm.trans hF
            refine r_tab (off := 53) (tgt := 56) S dX12_count_3 b6 (by decide) (by decide) ?_
            refine lv_aload_n S.1 S.2.1 dX12_count_56 rfl (lv_at hl 1 rfl) ?_
            obtain ⟨r7, er7, hF⟩ := bd1_some hF
            refine k_p (va_runV (As := []) (rest := []) S (c_X12_allTired   er7) (cwV 0 S.2.2.2.2 (ul_V tw_6_154 tw_6_156 ts_X12_allTired tw_1_12 cw_X12_allTired) rfl rfl rfl hv_X12_allTired ⟨Nat.le_of_ble_eq_true rfl, Nat.le_of_ble_eq_true rfl⟩) ⟨PreM.blind, hM.recv hK cfX12 0 (by decide) lm_0, hM.pre hK⟩ rfl rfl hl.1 rfl (lv_room (Nat.le_of_ble_eq_true rfl)) dX12_count_57 ⟨Nat.zero_le _, Nat.zero_le _⟩) ?_
            cases hF
            exact z_p S hr hlk rfl dX12_count_60
          · have hF := (if_neg b6).symm.trans hF
            by_cases b8 : a1 = 5
            · have hF := (if_pos b8).symm.trans hF
              refine r_tab (off := 58) (tgt := 61) S dX12_count_3 b8 (by decide) (by decide) ?_
              refine lv_iconst (v := 0) S.1 S.2.1 dX12_count_61 (by decide) ?_
              refine lv_istore_n (lv' := [(3, .int 0), (2, .int 0), (0, .ref (g.2.2 0)), (1, .int a1)]) S.1 S.2.1 dX12_count_62 rfl hl (by decide) rfl (fun ls hl => ?_)
              exact wl_X12_count_63 S hK hr hlk hM 1000 (lv_sub hl [2, 1, 0] rfl) hF
            · have hF := (if_neg b8).symm.trans hF
              refine r_tabD (tgt := 91) S dX12_count_3 (by have n0 := ne_toInt b1 (k := 0) (by decide); have n1 := ne_toInt b2 (k := 1) (by decide); have n2 := ne_toInt b3 (k := 2) (by decide); have n3 := ne_toInt b4 (k := 3) (by decide); have n4 := ne_toInt b6 (k := 4) (by decide); have n5 := ne_toInt b8 (k := 5) (by decide); omega) (by decide) ?_
              refine lv_iconst (v := (-1)) S.1 S.2.1 dX12_count_91 (by decide) ?_
              cases hF
              exact z_p S hr hlk rfl dX12_count_92
/-! X12_thrown -/
def X12_thrown (σ : IM) : Option Int32 := some (σ 0 19)
set_option maxRecDepth 20000 in
theorem c_X12_thrown {l : Launch} {g : GE} {A : Nat → Prop} {σ : IM} {out : Int32} (hF : X12_thrown σ = some out) : Met l yX12_thrown (.code yX12_thrown cX12_thrown 1 (some .int) :: UL) ({ frames := 0, cells := 0, slots := 0, locals := 0 }) (va_Pc [.ref (g.2.2 0)] (PreM lyM 13 g A [] σ nor)) (Qp (some (.int out))) 0 0 NoA := by
  refine e_of (by decide) (Nat.le_of_ble_eq_true rfl) ?_
  intro p e s m below meth c ls S hr hlk hv hl
  have hM := Mem.of hv
  have hK := hv.2.1
  have hl : lv_has ls 1 [(0, .ref (g.2.2 0))] := hl
  unfold X12_thrown at hF
  refine lv_aload_n S.1 S.2.1 dX12_thrown_0 rfl (lv_at hl 0 rfl) ?_
  refine r_getI S hK hM cfX12 0 19 (by decide) lm_0 rfl (by decide) tw_5_50 dX12_thrown_1 ?_
  cases hF
  exact z_p S hr hlk rfl dX12_thrown_4
/-! X12_keep -/
def X12_keep_b44 (x1 : Int32) (x2 : Int32) (x3 : Int32) (x4 : Int32) (σ : IM) : Option (Int32 × IM) := wr σ 7 8 x1 x2 fun σ10 => wr σ10 8 8 x1 x3 fun σ11 => wr σ11 9 8 x1 x4 fun σ12 => some (0, σ12)
set_option maxRecDepth 20000 in
theorem w_X12_keep_44 {l : Launch} {g : GE} {A : Nat → Prop} {p : Program} {e : Env} {s : State} {m : MethodId} {args : Array Value} {below : List Frame} {meth : Method} {c : Code} (S : CallFix p m c cX12_keep 5 s args UL RX12) (hK : KK g s) (hr : meth.sig.returnType = (some .int)) (hlk : meth.locks = false) {out : Int32 × IM} : ∀ {x1 : Int32} {x2 : Int32} {x3 : Int32} {x4 : Int32} {σ : IM} {H : Heap} {locs : List Loc} {ls : Array Slot}, Mem lyM 13 g A [] σ nor s.heap H locs → lv_has ls 5 [(0, .ref (g.2.2 0)), (1, .int x1), (2, .int x2), (3, .int x3), (4, .int x4)] → X12_keep_b44 x1 x2 x3 x4 σ = some out → W p l e ({ frames := 2, cells := 0, slots := 0, locals := 42 }) s m args below meth c H locs 0 0 (MQ below (Qm lyM 13 g A [] out.2 nor (some (.int out.1))) args s 0 0 A) (F0 m 44 ls []) := by
  intro x1 x2 x3 x4 σ H locs ls hM hl hF
  unfold X12_keep_b44 at hF
  refine lv_aload_n S.1 S.2.1 dX12_keep_44 rfl (lv_at hl 0 rfl) ?_
  refine r_getC S hK hM cfX12 0 13 7 (by decide) lm_0 rfl (by decide) tw_5_44 dX12_keep_45 ?_
  refine lv_iload_n S.1 S.2.1 dX12_keep_48 rfl (lv_at hl 1 rfl) ?_
  refine lv_iload_n S.1 S.2.1 dX12_keep_49 rfl (lv_at hl 2 rfl) ?_
  obtain ⟨hσ10, σ10, eσ10, hF⟩ := wr_some hF
  refine r_iast S hK hM 7 (by decide) rfl hσ10 eσ10 dX12_keep_50 (fun H locs hM => ?_)
  refine lv_aload_n S.1 S.2.1 dX12_keep_51 rfl (lv_at hl 0 rfl) ?_
  refine r_getC S hK hM cfX12 0 14 8 (by decide) lm_0 rfl (by decide) tw_5_45 dX12_keep_52 ?_
  refine lv_iload_n S.1 S.2.1 dX12_keep_55 rfl (lv_at hl 1 rfl) ?_
  refine lv_iload_n S.1 S.2.1 dX12_keep_56 rfl (lv_at hl 3 rfl) ?_
  obtain ⟨hσ11, σ11, eσ11, hF⟩ := wr_some hF
  refine r_iast S hK hM 8 (by decide) rfl hσ11 eσ11 dX12_keep_57 (fun H locs hM => ?_)
  refine lv_aload_n S.1 S.2.1 dX12_keep_58 rfl (lv_at hl 0 rfl) ?_
  refine r_getC S hK hM cfX12 0 15 9 (by decide) lm_0 rfl (by decide) tw_5_46 dX12_keep_59 ?_
  refine lv_iload_n S.1 S.2.1 dX12_keep_62 rfl (lv_at hl 1 rfl) ?_
  refine lv_iload S.1 S.2.1 dX12_keep_63 (lv_at hl 4 rfl) ?_
  obtain ⟨hσ12, σ12, eσ12, hF⟩ := wr_some hF
  refine r_iast S hK hM 9 (by decide) rfl hσ12 eσ12 dX12_keep_65 (fun H locs hM => ?_)
  refine lv_iconst (v := 0) S.1 S.2.1 dX12_keep_66 (by decide) ?_
  cases hF
  exact z_m (v := 0) S hM hr hlk rfl dX12_keep_67
def X12_keep (σ : IM) (a1 : Int32) (a2 : Int32) (a3 : Int32) (a4 : Int32) : Option (Int32 × IM) := bd1 (X12_isShelf a1) fun r1 => if r1 = 0 then (some ((-1), σ)) else (bd1 (X12_isIn a2 0 1) fun r3 => if r3 = 0 then (some ((-1), σ)) else (if a2 = 1 then (bd1 (X12_isIn a3 0 7) fun r6 => if r6 = 0 then (some ((-1), σ)) else (bd1 (X12_isIn a4 0 9) fun r8 => if r8 = 0 then (some ((-1), σ)) else (X12_keep_b44 a1 a2 a3 a4 σ))) else (X12_keep_b44 a1 a2 a3 a4 σ)))
set_option maxRecDepth 20000 in
theorem c_X12_keep {l : Launch} {g : GE} {A : Nat → Prop} {σ : IM} {a1 : Int32} {a2 : Int32} {a3 : Int32} {a4 : Int32} {out : Int32 × IM} (hF : X12_keep σ a1 a2 a3 a4 = some out) : Met l yX12_keep (.code yX12_keep cX12_keep 5 (some .int) :: UL) ({ frames := 2, cells := 0, slots := 0, locals := 42 }) (va_Pc [.ref (g.2.2 0), .int a1, .int a2, .int a3, .int a4] (PreM lyM 13 g A [] σ nor)) (Qm lyM 13 g A [] out.2 nor (some (.int out.1))) 0 0 A := by
  refine e_of (by decide) (Nat.le_of_ble_eq_true rfl) ?_
  intro p e s m below meth c ls S hr hlk hv hl
  have hM := Mem.of hv
  have hK := hv.2.1
  have hl : lv_has ls 5 [(0, .ref (g.2.2 0)), (1, .int a1), (2, .int a2), (3, .int a3), (4, .int a4)] := hl
  unfold X12_keep at hF
  refine lv_iload_n S.1 S.2.1 dX12_keep_0 rfl (lv_at hl 1 rfl) ?_
  obtain ⟨r1, er1, hF⟩ := bd1_some hF
  refine k_p (va_runS (As := [.int a1]) (rest := []) S (c_X12_isShelf   er1) (va_cwS 1 S.2.2.2.2 (ul_S tw_5_100 tw_5_101 tw_1_12 cw_X12_isShelf) rfl rfl rfl hs_X12_isShelf ⟨Nat.le_of_ble_eq_true rfl, Nat.le_of_ble_eq_true rfl⟩) ⟨PreM.blind, hM.pre hK⟩ rfl rfl hl.1 rfl (lv_room (Nat.le_of_ble_eq_true rfl)) dX12_keep_1 ⟨Nat.zero_le _, Nat.zero_le _⟩) ?_
  refine lv_if_eq (tgt := 42) S.1 S.2.1 dX12_keep_4 (by decide) (fun b2 => ?_) (fun b2 => ?_)
  · have hF := (if_pos b2).symm.trans hF
    refine lv_iconst (v := (-1)) S.1 S.2.1 dX12_keep_42 (by decide) ?_
    cases hF
    exact z_m (v := (-1)) S hM hr hlk rfl dX12_keep_43
  · have hF := (if_neg b2).symm.trans hF
    refine lv_iload_n S.1 S.2.1 dX12_keep_7 rfl (lv_at hl 2 rfl) ?_
    refine lv_iconst (v := 0) S.1 S.2.1 dX12_keep_8 (by decide) ?_
    refine lv_iconst (v := 1) S.1 S.2.1 dX12_keep_9 (by decide) ?_
    obtain ⟨r3, er3, hF⟩ := bd1_some hF
    refine k_p (va_runS (As := [.int a2, .int 0, .int 1]) (rest := []) S (c_X12_isIn   er3) (va_cwS 3 S.2.2.2.2 (ul_S tw_5_103 tw_5_104 tw_1_12 cw_X12_isIn) rfl rfl rfl hs_X12_isIn ⟨Nat.le_of_ble_eq_true rfl, Nat.le_of_ble_eq_true rfl⟩) ⟨PreM.blind, hM.pre hK⟩ rfl rfl hl.1 rfl (lv_room (Nat.le_of_ble_eq_true rfl)) dX12_keep_10 ⟨Nat.zero_le _, Nat.zero_le _⟩) ?_
    refine lv_if_eq (tgt := 42) S.1 S.2.1 dX12_keep_13 (by decide) (fun b4 => ?_) (fun b4 => ?_)
    · have hF := (if_pos b4).symm.trans hF
      refine lv_iconst (v := (-1)) S.1 S.2.1 dX12_keep_42 (by decide) ?_
      cases hF
      exact z_m (v := (-1)) S hM hr hlk rfl dX12_keep_43
    · have hF := (if_neg b4).symm.trans hF
      refine lv_iload_n S.1 S.2.1 dX12_keep_16 rfl (lv_at hl 2 rfl) ?_
      refine lv_iconst (v := 1) S.1 S.2.1 dX12_keep_17 (by decide) ?_
      refine lv_icmp_ne (tgt := 44) S.1 S.2.1 dX12_keep_18 (by decide) (fun b5 => ?_) (fun b5 => ?_)
      · have hF := (if_neg b5).symm.trans hF
        exact w_X12_keep_44 S hK hr hlk hM (lv_sub hl [0, 1, 2, 3, 4] rfl) hF
      · have hF := (if_pos b5).symm.trans hF
        refine lv_iload_n S.1 S.2.1 dX12_keep_21 rfl (lv_at hl 3 rfl) ?_
        refine lv_iconst (v := 0) S.1 S.2.1 dX12_keep_22 (by decide) ?_
        refine lv_bipush (v := 7) S.1 S.2.1 dX12_keep_23 (by decide) ?_
        obtain ⟨r6, er6, hF⟩ := bd1_some hF
        refine k_p (va_runS (As := [.int a3, .int 0, .int 7]) (rest := []) S (c_X12_isIn   er6) (va_cwS 3 S.2.2.2.2 (ul_S tw_5_103 tw_5_104 tw_1_12 cw_X12_isIn) rfl rfl rfl hs_X12_isIn ⟨Nat.le_of_ble_eq_true rfl, Nat.le_of_ble_eq_true rfl⟩) ⟨PreM.blind, hM.pre hK⟩ rfl rfl hl.1 rfl (lv_room (Nat.le_of_ble_eq_true rfl)) dX12_keep_25 ⟨Nat.zero_le _, Nat.zero_le _⟩) ?_
        refine lv_if_eq (tgt := 42) S.1 S.2.1 dX12_keep_28 (by decide) (fun b7 => ?_) (fun b7 => ?_)
        · have hF := (if_pos b7).symm.trans hF
          refine lv_iconst (v := (-1)) S.1 S.2.1 dX12_keep_42 (by decide) ?_
          cases hF
          exact z_m (v := (-1)) S hM hr hlk rfl dX12_keep_43
        · have hF := (if_neg b7).symm.trans hF
          refine lv_iload S.1 S.2.1 dX12_keep_31 (lv_at hl 4 rfl) ?_
          refine lv_iconst (v := 0) S.1 S.2.1 dX12_keep_33 (by decide) ?_
          refine lv_bipush (v := 9) S.1 S.2.1 dX12_keep_34 (by decide) ?_
          obtain ⟨r8, er8, hF⟩ := bd1_some hF
          refine k_p (va_runS (As := [.int a4, .int 0, .int 9]) (rest := []) S (c_X12_isIn   er8) (va_cwS 3 S.2.2.2.2 (ul_S tw_5_103 tw_5_104 tw_1_12 cw_X12_isIn) rfl rfl rfl hs_X12_isIn ⟨Nat.le_of_ble_eq_true rfl, Nat.le_of_ble_eq_true rfl⟩) ⟨PreM.blind, hM.pre hK⟩ rfl rfl hl.1 rfl (lv_room (Nat.le_of_ble_eq_true rfl)) dX12_keep_36 ⟨Nat.zero_le _, Nat.zero_le _⟩) ?_
          refine lv_if_ne (tgt := 44) S.1 S.2.1 dX12_keep_39 (by decide) (fun b9 => ?_) (fun b9 => ?_)
          · have hF := (if_neg b9).symm.trans hF
            exact w_X12_keep_44 S hK hr hlk hM (lv_sub hl [0, 1, 2, 3, 4] rfl) hF
          · have hF := (if_pos b9).symm.trans hF
            refine lv_iconst (v := (-1)) S.1 S.2.1 dX12_keep_42 (by decide) ?_
            cases hF
            exact z_m (v := (-1)) S hM hr hlk rfl dX12_keep_43
/-! X12_row -/
def X12_row_s55 (k55 : Int32 → Int32 → IM → Option (Int32 × IM)) (x1 : Int32) (x4 : Int32) (σ : IM) : Option (Int32 × IM) := if 100 ≤ x4 then (some (0, σ)) else (wr σ 12 800 ((100 * x1) + x4) 0 fun σ11 => bd (x4 + 1) fun v12 => k55 x1 v12 σ11)
def X12_row_b55 : Nat → Int32 → Int32 → IM → Option (Int32 × IM)
  | 0 => fun _ _ _ => none
  | n + 1 => X12_row_s55 (X12_row_b55 n)
set_option maxRecDepth 20000 in
theorem w_X12_row_55 {l : Launch} {g : GE} {A : Nat → Prop} {p : Program} {e : Env} {s : State} {m : MethodId} {args : Array Value} {below : List Frame} {meth : Method} {c : Code} (S : CallFix p m c cX12_row 5 s args UL RX12) (hK : KK g s) (hr : meth.sig.returnType = (some .int)) (hlk : meth.locks = false) {out : Int32 × IM} {k55 : Int32 → Int32 → IM → Option (Int32 × IM)} (hk55 : ∀ {x1 : Int32} {x4 : Int32} {σ : IM} {H : Heap} {locs : List Loc} {ls : Array Slot}, Mem lyM 13 g A [] σ nor s.heap H locs → lv_has ls 5 [(0, .ref (g.2.2 0)), (1, .int x1), (4, .int x4)] → k55 x1 x4 σ = some out → W p l e ({ frames := 2, cells := 0, slots := 0, locals := 42 }) s m args below meth c H locs 0 0 (MQ below (Qm lyM 13 g A [] out.2 nor (some (.int out.1))) args s 0 0 A) (F0 m 55 ls [])) : ∀ {x1 : Int32} {x4 : Int32} {σ : IM} {H : Heap} {locs : List Loc} {ls : Array Slot}, Mem lyM 13 g A [] σ nor s.heap H locs → lv_has ls 5 [(0, .ref (g.2.2 0)), (1, .int x1), (4, .int x4)] → X12_row_s55 k55 x1 x4 σ = some out → W p l e ({ frames := 2, cells := 0, slots := 0, locals := 42 }) s m args below meth c H locs 0 0 (MQ below (Qm lyM 13 g A [] out.2 nor (some (.int out.1))) args s 0 0 A) (F0 m 55 ls []) := by
  intro x1 x4 σ H locs ls hM hl hF
  unfold X12_row_s55 at hF
  refine lv_iload S.1 S.2.1 dX12_row_55 (lv_at hl 2 rfl) ?_
  refine lv_bipush (v := 100) S.1 S.2.1 dX12_row_57 (by decide) ?_
  refine lv_icmp_ge (tgt := 81) S.1 S.2.1 dX12_row_59 (by decide) (fun b10 => ?_) (fun b10 => ?_)
  · have hF := (if_pos b10).symm.trans hF
    refine lv_iconst (v := 0) S.1 S.2.1 dX12_row_81 (by decide) ?_
    cases hF
    exact z_m (v := 0) S hM hr hlk rfl dX12_row_82
  · have hF := (if_neg b10).symm.trans hF
    refine lv_aload_n S.1 S.2.1 dX12_row_62 rfl (lv_at hl 0 rfl) ?_
    refine r_getC S hK hM cfX12 0 18 12 (by decide) lm_0 rfl (by decide) tw_5_49 dX12_row_63 ?_
    refine lv_bipush (v := 100) S.1 S.2.1 dX12_row_66 (by decide) ?_
    refine lv_iload_n S.1 S.2.1 dX12_row_68 rfl (lv_at hl 1 rfl) ?_
    refine lv_imul S.1 S.2.1 dX12_row_69 ?_
    refine lv_iload S.1 S.2.1 dX12_row_70 (lv_at hl 2 rfl) ?_
    refine lv_iadd S.1 S.2.1 dX12_row_72 ?_
    refine lv_iconst (v := 0) S.1 S.2.1 dX12_row_73 (by decide) ?_
    obtain ⟨hσ11, σ11, eσ11, hF⟩ := wr_some hF
    refine r_iast S hK hM 12 (by decide) rfl hσ11 eσ11 dX12_row_74 (fun H locs hM => ?_)
    obtain ⟨v12, ev12, hF⟩ := bd_some hF
    refine lv_iinc (v := v12) (lv' := [(4, .int v12), (0, .ref (g.2.2 0)), (1, .int x1)]) S.1 S.2.1 dX12_row_75 hl (k := 2) rfl (by rw [ev12]; rfl) (by decide) rfl (fun ls hl => ?_)
    refine lv_goto (tgt := 55) S.1 S.2.1 dX12_row_78 (by decide) ?_
    exact hk55 hM (lv_sub hl [1, 2, 0] rfl)  hF
theorem wl_X12_row_55 {l : Launch} {g : GE} {A : Nat → Prop} {p : Program} {e : Env} {s : State} {m : MethodId} {args : Array Value} {below : List Frame} {meth : Method} {c : Code} (S : CallFix p m c cX12_row 5 s args UL RX12) (hK : KK g s) (hr : meth.sig.returnType = (some .int)) (hlk : meth.locks = false) {out : Int32 × IM} : ∀ (n : Nat) {x1 : Int32} {x4 : Int32} {σ : IM} {H : Heap} {locs : List Loc} {ls : Array Slot}, Mem lyM 13 g A [] σ nor s.heap H locs → lv_has ls 5 [(0, .ref (g.2.2 0)), (1, .int x1), (4, .int x4)] → X12_row_b55 n x1 x4 σ = some out → W p l e ({ frames := 2, cells := 0, slots := 0, locals := 42 }) s m args below meth c H locs 0 0 (MQ below (Qm lyM 13 g A [] out.2 nor (some (.int out.1))) args s 0 0 A) (F0 m 55 ls []) := by
  intro n
  induction n with
  | zero =>
    intro x1 x4 σ H locs ls hM hl hF
    cases hF
  | succ n ih =>
    intro x1 x4 σ H locs ls hM hl hF
    exact w_X12_row_55 S hK hr hlk ih hM hl hF
def X12_row (σ : IM) (a1 : Int32) (a2 : Int32) (a3 : Int32) : Option (Int32 × IM) := bd1 (X12_isShelf a1) fun r1 => if r1 = 0 then (some ((-1), σ)) else (bd1 (X12_isIn a2 0 2) fun r3 => if r3 = 0 then (some ((-1), σ)) else (if a3 ≤ 100 then (if 0 ≤ a3 then (wr σ 7 8 a1 2 fun σ7 => wr σ7 10 8 a1 a2 fun σ8 => wr σ8 11 8 a1 a3 fun σ9 => X12_row_b55 1000 a1 0 σ9) else (some ((-14), σ))) else (some ((-1), σ))))
set_option maxRecDepth 20000 in
theorem c_X12_row {l : Launch} {g : GE} {A : Nat → Prop} {σ : IM} {a1 : Int32} {a2 : Int32} {a3 : Int32} {out : Int32 × IM} (hF : X12_row σ a1 a2 a3 = some out) : Met l yX12_row (.code yX12_row cX12_row 5 (some .int) :: UL) ({ frames := 2, cells := 0, slots := 0, locals := 42 }) (va_Pc [.ref (g.2.2 0), .int a1, .int a2, .int a3] (PreM lyM 13 g A [] σ nor)) (Qm lyM 13 g A [] out.2 nor (some (.int out.1))) 0 0 A := by
  refine e_of (by decide) (Nat.le_of_ble_eq_true rfl) ?_
  intro p e s m below meth c ls S hr hlk hv hl
  have hM := Mem.of hv
  have hK := hv.2.1
  have hl : lv_has ls 5 [(0, .ref (g.2.2 0)), (1, .int a1), (2, .int a2), (3, .int a3)] := hl
  unfold X12_row at hF
  refine lv_iload_n S.1 S.2.1 dX12_row_0 rfl (lv_at hl 1 rfl) ?_
  obtain ⟨r1, er1, hF⟩ := bd1_some hF
  refine k_p (va_runS (As := [.int a1]) (rest := []) S (c_X12_isShelf   er1) (va_cwS 1 S.2.2.2.2 (ul_S tw_5_100 tw_5_101 tw_1_12 cw_X12_isShelf) rfl rfl rfl hs_X12_isShelf ⟨Nat.le_of_ble_eq_true rfl, Nat.le_of_ble_eq_true rfl⟩) ⟨PreM.blind, hM.pre hK⟩ rfl rfl hl.1 rfl (lv_room (Nat.le_of_ble_eq_true rfl)) dX12_row_1 ⟨Nat.zero_le _, Nat.zero_le _⟩) ?_
  refine lv_if_eq (tgt := 22) S.1 S.2.1 dX12_row_4 (by decide) (fun b2 => ?_) (fun b2 => ?_)
  · have hF := (if_pos b2).symm.trans hF
    refine lv_iconst (v := (-1)) S.1 S.2.1 dX12_row_22 (by decide) ?_
    cases hF
    exact z_m (v := (-1)) S hM hr hlk rfl dX12_row_23
  · have hF := (if_neg b2).symm.trans hF
    refine lv_iload_n S.1 S.2.1 dX12_row_7 rfl (lv_at hl 2 rfl) ?_
    refine lv_iconst (v := 0) S.1 S.2.1 dX12_row_8 (by decide) ?_
    refine lv_iconst (v := 2) S.1 S.2.1 dX12_row_9 (by decide) ?_
    obtain ⟨r3, er3, hF⟩ := bd1_some hF
    refine k_p (va_runS (As := [.int a2, .int 0, .int 2]) (rest := []) S (c_X12_isIn   er3) (va_cwS 3 S.2.2.2.2 (ul_S tw_5_103 tw_5_104 tw_1_12 cw_X12_isIn) rfl rfl rfl hs_X12_isIn ⟨Nat.le_of_ble_eq_true rfl, Nat.le_of_ble_eq_true rfl⟩) ⟨PreM.blind, hM.pre hK⟩ rfl rfl hl.1 rfl (lv_room (Nat.le_of_ble_eq_true rfl)) dX12_row_10 ⟨Nat.zero_le _, Nat.zero_le _⟩) ?_
    refine lv_if_eq (tgt := 22) S.1 S.2.1 dX12_row_13 (by decide) (fun b4 => ?_) (fun b4 => ?_)
    · have hF := (if_pos b4).symm.trans hF
      refine lv_iconst (v := (-1)) S.1 S.2.1 dX12_row_22 (by decide) ?_
      cases hF
      exact z_m (v := (-1)) S hM hr hlk rfl dX12_row_23
    · have hF := (if_neg b4).symm.trans hF
      refine lv_iload_n S.1 S.2.1 dX12_row_16 rfl (lv_at hl 3 rfl) ?_
      refine lv_bipush (v := 100) S.1 S.2.1 dX12_row_17 (by decide) ?_
      refine lv_icmp_le (tgt := 24) S.1 S.2.1 dX12_row_19 (by decide) (fun b5 => ?_) (fun b5 => ?_)
      · have hF := (if_pos b5).symm.trans hF
        refine lv_iload_n S.1 S.2.1 dX12_row_24 rfl (lv_at hl 3 rfl) ?_
        refine lv_if_ge (tgt := 31) S.1 S.2.1 dX12_row_25 (by decide) (fun b6 => ?_) (fun b6 => ?_)
        · have hF := (if_pos b6).symm.trans hF
          refine lv_aload_n S.1 S.2.1 dX12_row_31 rfl (lv_at hl 0 rfl) ?_
          refine r_getC S hK hM cfX12 0 13 7 (by decide) lm_0 rfl (by decide) tw_5_44 dX12_row_32 ?_
          refine lv_iload_n S.1 S.2.1 dX12_row_35 rfl (lv_at hl 1 rfl) ?_
          refine lv_iconst (v := 2) S.1 S.2.1 dX12_row_36 (by decide) ?_
          obtain ⟨hσ7, σ7, eσ7, hF⟩ := wr_some hF
          refine r_iast S hK hM 7 (by decide) rfl hσ7 eσ7 dX12_row_37 (fun H locs hM => ?_)
          refine lv_aload_n S.1 S.2.1 dX12_row_38 rfl (lv_at hl 0 rfl) ?_
          refine r_getC S hK hM cfX12 0 16 10 (by decide) lm_0 rfl (by decide) tw_5_47 dX12_row_39 ?_
          refine lv_iload_n S.1 S.2.1 dX12_row_42 rfl (lv_at hl 1 rfl) ?_
          refine lv_iload_n S.1 S.2.1 dX12_row_43 rfl (lv_at hl 2 rfl) ?_
          obtain ⟨hσ8, σ8, eσ8, hF⟩ := wr_some hF
          refine r_iast S hK hM 10 (by decide) rfl hσ8 eσ8 dX12_row_44 (fun H locs hM => ?_)
          refine lv_aload_n S.1 S.2.1 dX12_row_45 rfl (lv_at hl 0 rfl) ?_
          refine r_getC S hK hM cfX12 0 17 11 (by decide) lm_0 rfl (by decide) tw_5_48 dX12_row_46 ?_
          refine lv_iload_n S.1 S.2.1 dX12_row_49 rfl (lv_at hl 1 rfl) ?_
          refine lv_iload_n S.1 S.2.1 dX12_row_50 rfl (lv_at hl 3 rfl) ?_
          obtain ⟨hσ9, σ9, eσ9, hF⟩ := wr_some hF
          refine r_iast S hK hM 11 (by decide) rfl hσ9 eσ9 dX12_row_51 (fun H locs hM => ?_)
          refine lv_iconst (v := 0) S.1 S.2.1 dX12_row_52 (by decide) ?_
          refine lv_istore (lv' := [(4, .int 0), (0, .ref (g.2.2 0)), (1, .int a1), (2, .int a2), (3, .int a3)]) S.1 S.2.1 dX12_row_53 hl (by decide) rfl (fun ls hl => ?_)
          exact wl_X12_row_55 S hK hr hlk 1000 hM (lv_sub hl [1, 2, 0] rfl) hF
        · have hF := (if_neg b6).symm.trans hF
          refine lv_bipush (v := (-14)) S.1 S.2.1 dX12_row_28 (by decide) ?_
          cases hF
          exact z_m (v := (-14)) S hM hr hlk rfl dX12_row_30
      · have hF := (if_neg b5).symm.trans hF
        refine lv_iconst (v := (-1)) S.1 S.2.1 dX12_row_22 (by decide) ?_
        cases hF
        exact z_m (v := (-1)) S hM hr hlk rfl dX12_row_23
/-! X12_put -/
def X12_put_b75 (t0 : Int32) (t1 : Int32) (σ : IM) : Option (Int32 × IM) := wr σ 12 800 t1 t0 fun σ10 => some (0, σ10)
set_option maxRecDepth 20000 in
theorem w_X12_put_75 {l : Launch} {g : GE} {A : Nat → Prop} {p : Program} {e : Env} {s : State} {m : MethodId} {args : Array Value} {below : List Frame} {meth : Method} {c : Code} (S : CallFix p m c cX12_put 5 s args UL RX12) (hK : KK g s) (hr : meth.sig.returnType = (some .int)) (hlk : meth.locks = false) {out : Int32 × IM} : ∀ {t0 : Int32} {t1 : Int32} {σ : IM} {H : Heap} {locs : List Loc} {ls : Array Slot}, Mem lyM 13 g A [] σ nor s.heap H locs → lv_has ls 5 [] → X12_put_b75 t0 t1 σ = some out → W p l e ({ frames := 3, cells := 0, slots := 0, locals := 64 }) s m args below meth c H locs 0 0 (MQ below (Qm lyM 13 g A [] out.2 nor (some (.int out.1))) args s 0 0 A) (F0 m 75 ls [.int t0, .int t1, .ref (g.2.2 12)]) := by
  intro t0 t1 σ H locs ls hM hl hF
  unfold X12_put_b75 at hF
  obtain ⟨hσ10, σ10, eσ10, hF⟩ := wr_some hF
  refine r_iast S hK hM 12 (by decide) rfl hσ10 eσ10 dX12_put_75 (fun H locs hM => ?_)
  refine lv_iconst (v := 0) S.1 S.2.1 dX12_put_76 (by decide) ?_
  cases hF
  exact z_m (v := 0) S hM hr hlk rfl dX12_put_77
def X12_put (σ : IM) (a1 : Int32) (a2 : Int32) (a3 : Int32) : Option (Int32 × IM) := bd1 (X12_wrongRow σ a1 (-1)) fun r1 => if r1 = 0 then (rd (σ 11) 8 a1 fun v3 => bd1 (X12_isIn a2 0 (v3 - 1)) fun r4 => if r4 = 0 then (some ((-13), σ)) else (rd (σ 10) 8 a1 fun v6 => if v6 = 0 then (X12_put_b75 a3.toInt8.toInt32 ((100 * a1) + a2) σ) else (rd (σ 10) 8 a1 fun v8 => if v8 = 1 then (X12_put_b75 a3.toInt16.toInt32 ((100 * a1) + a2) σ) else (X12_put_b75 a3 ((100 * a1) + a2) σ)))) else (some (r1, σ))
set_option maxRecDepth 20000 in
theorem c_X12_put {l : Launch} {g : GE} {A : Nat → Prop} {σ : IM} {a1 : Int32} {a2 : Int32} {a3 : Int32} {out : Int32 × IM} (hF : X12_put σ a1 a2 a3 = some out) : Met l yX12_put (.code yX12_put cX12_put 5 (some .int) :: UL) ({ frames := 3, cells := 0, slots := 0, locals := 64 }) (va_Pc [.ref (g.2.2 0), .int a1, .int a2, .int a3] (PreM lyM 13 g A [] σ nor)) (Qm lyM 13 g A [] out.2 nor (some (.int out.1))) 0 0 A := by
  refine e_of (by decide) (Nat.le_of_ble_eq_true rfl) ?_
  intro p e s m below meth c ls S hr hlk hv hl
  have hM := Mem.of hv
  have hK := hv.2.1
  have hl : lv_has ls 5 [(0, .ref (g.2.2 0)), (1, .int a1), (2, .int a2), (3, .int a3)] := hl
  unfold X12_put at hF
  refine lv_aload_n S.1 S.2.1 dX12_put_0 rfl (lv_at hl 0 rfl) ?_
  refine lv_iload_n S.1 S.2.1 dX12_put_1 rfl (lv_at hl 1 rfl) ?_
  refine lv_iconst (v := (-1)) S.1 S.2.1 dX12_put_2 (by decide) ?_
  obtain ⟨r1, er1, hF⟩ := bd1_some hF
  refine k_p (va_runV (As := [.int a1, .int (-1)]) (rest := []) S (c_X12_wrongRow   er1) (cwV 2 S.2.2.2.2 (ul_V tw_5_96 tw_5_98 ts_X12_wrongRow tw_1_12 cw_X12_wrongRow) rfl rfl rfl hv_X12_wrongRow ⟨Nat.le_of_ble_eq_true rfl, Nat.le_of_ble_eq_true rfl⟩) ⟨PreM.blind, hM.recv hK cfX12 0 (by decide) lm_0, hM.pre hK⟩ rfl rfl hl.1 rfl (lv_room (Nat.le_of_ble_eq_true rfl)) dX12_put_3 ⟨Nat.zero_le _, Nat.zero_le _⟩) ?_
  refine lv_istore (lv' := [(4, .int r1), (0, .ref (g.2.2 0)), (1, .int a1), (2, .int a2), (3, .int a3)]) S.1 S.2.1 dX12_put_6 hl (by decide) rfl (fun ls hl => ?_)
  refine lv_iload S.1 S.2.1 dX12_put_8 (lv_at hl 0 rfl) ?_
  refine lv_if_eq (tgt := 16) S.1 S.2.1 dX12_put_10 (by decide) (fun b2 => ?_) (fun b2 => ?_)
  · have hF := (if_pos b2).symm.trans hF
    refine lv_iload_n S.1 S.2.1 dX12_put_16 rfl (lv_at hl 3 rfl) ?_
    refine lv_iconst (v := 0) S.1 S.2.1 dX12_put_17 (by decide) ?_
    refine lv_aload_n S.1 S.2.1 dX12_put_18 rfl (lv_at hl 1 rfl) ?_
    refine r_getC S hK hM cfX12 0 17 11 (by decide) lm_0 rfl (by decide) tw_5_48 dX12_put_19 ?_
    refine lv_iload_n S.1 S.2.1 dX12_put_22 rfl (lv_at hl 2 rfl) ?_
    obtain ⟨hv3, v3, ev3, hF⟩ := rd_some hF
    refine r_iald S hK hM 11 (by decide) rfl hv3 ev3 dX12_put_23 ?_
    refine lv_iconst (v := 1) S.1 S.2.1 dX12_put_24 (by decide) ?_
    refine lv_isub S.1 S.2.1 dX12_put_25 ?_
    obtain ⟨r4, er4, hF⟩ := bd1_some hF
    refine k_p (va_runS (As := [.int a2, .int 0, .int (v3 - 1)]) (rest := []) S (c_X12_isIn   er4) (va_cwS 3 S.2.2.2.2 (ul_S tw_5_103 tw_5_104 tw_1_12 cw_X12_isIn) rfl rfl rfl hs_X12_isIn ⟨Nat.le_of_ble_eq_true rfl, Nat.le_of_ble_eq_true rfl⟩) ⟨PreM.blind, hM.pre hK⟩ rfl rfl hl.1 rfl (lv_room (Nat.le_of_ble_eq_true rfl)) dX12_put_26 ⟨Nat.zero_le _, Nat.zero_le _⟩) ?_
    refine lv_if_ne (tgt := 35) S.1 S.2.1 dX12_put_29 (by decide) (fun b5 => ?_) (fun b5 => ?_)
    · have hF := (if_neg b5).symm.trans hF
      refine lv_aload_n S.1 S.2.1 dX12_put_35 rfl (lv_at hl 1 rfl) ?_
      refine r_getC S hK hM cfX12 0 18 12 (by decide) lm_0 rfl (by decide) tw_5_49 dX12_put_36 ?_
      refine lv_bipush (v := 100) S.1 S.2.1 dX12_put_39 (by decide) ?_
      refine lv_iload_n S.1 S.2.1 dX12_put_41 rfl (lv_at hl 2 rfl) ?_
      refine lv_imul S.1 S.2.1 dX12_put_42 ?_
      refine lv_iload_n S.1 S.2.1 dX12_put_43 rfl (lv_at hl 3 rfl) ?_
      refine lv_iadd S.1 S.2.1 dX12_put_44 ?_
      refine lv_aload_n S.1 S.2.1 dX12_put_45 rfl (lv_at hl 1 rfl) ?_
      refine r_getC S hK hM cfX12 0 16 10 (by decide) lm_0 rfl (by decide) tw_5_47 dX12_put_46 ?_
      refine lv_iload_n S.1 S.2.1 dX12_put_49 rfl (lv_at hl 2 rfl) ?_
      obtain ⟨hv6, v6, ev6, hF⟩ := rd_some hF
      refine r_iald S hK hM 10 (by decide) rfl hv6 ev6 dX12_put_50 ?_
      refine lv_if_ne (tgt := 59) S.1 S.2.1 dX12_put_51 (by decide) (fun b7 => ?_) (fun b7 => ?_)
      · have hF := (if_neg b7).symm.trans hF
        refine lv_aload_n S.1 S.2.1 dX12_put_59 rfl (lv_at hl 1 rfl) ?_
        refine r_getC S hK hM cfX12 0 16 10 (by decide) lm_0 rfl (by decide) tw_5_47 dX12_put_60 ?_
        refine lv_iload_n S.1 S.2.1 dX12_put_63 rfl (lv_at hl 2 rfl) ?_
        obtain ⟨hv8, v8, ev8, hF⟩ := rd_some hF
        refine r_iald S hK hM 10 (by decide) rfl hv8 ev8 dX12_put_64 ?_
        refine lv_iconst (v := 1) S.1 S.2.1 dX12_put_65 (by decide) ?_
        refine lv_icmp_ne (tgt := 74) S.1 S.2.1 dX12_put_66 (by decide) (fun b9 => ?_) (fun b9 => ?_)
        · have hF := (if_neg b9).symm.trans hF
          refine lv_iload_n S.1 S.2.1 dX12_put_74 rfl (lv_at hl 4 rfl) ?_
          exact w_X12_put_75 S hK hr hlk hM (lv_sub hl [] rfl) hF
        · have hF := (if_pos b9).symm.trans hF
          refine lv_iload_n S.1 S.2.1 dX12_put_69 rfl (lv_at hl 4 rfl) ?_
          refine lv_i2s S.1 S.2.1 dX12_put_70 rfl ?_
          refine lv_goto (tgt := 75) S.1 S.2.1 dX12_put_71 (by decide) ?_
          exact w_X12_put_75 S hK hr hlk hM (lv_sub hl [] rfl) hF
      · have hF := (if_pos b7).symm.trans hF
        refine lv_iload_n S.1 S.2.1 dX12_put_54 rfl (lv_at hl 4 rfl) ?_
        refine lv_i2b S.1 S.2.1 dX12_put_55 rfl ?_
        refine lv_goto (tgt := 75) S.1 S.2.1 dX12_put_56 (by decide) ?_
        exact w_X12_put_75 S hK hr hlk hM (lv_sub hl [] rfl) hF
    · have hF := (if_pos b5).symm.trans hF
      refine lv_bipush (v := (-13)) S.1 S.2.1 dX12_put_32 (by decide) ?_
      cases hF
      exact z_m (v := (-13)) S hM hr hlk rfl dX12_put_34
  · have hF := (if_neg b2).symm.trans hF
    refine lv_iload S.1 S.2.1 dX12_put_13 (lv_at hl 0 rfl) ?_
    cases hF
    exact z_m (v := r1) S hM hr hlk rfl dX12_put_15
/-! X12_element -/
def X12_element_b43 (x1 : Int32) (x2 : Int32) (t0 : Int32) (σ : IM) : Option (Int64 × IM) := bd (up2 σ 0 19 t0) fun σ8 => if σ8 0 19 = 0 then (rd (σ8 12) 800 ((100 * x1) + x2) fun v10 => some ((v10 : Int32).toInt64, σ8)) else (some (0, σ8))
set_option maxRecDepth 20000 in
theorem w_X12_element_43 {l : Launch} {g : GE} {A : Nat → Prop} {p : Program} {e : Env} {s : State} {m : MethodId} {args : Array Value} {below : List Frame} {meth : Method} {c : Code} (S : CallFix p m c cX12_element 3 s args UL RX12) (hK : KK g s) (hr : meth.sig.returnType = (some .long)) (hlk : meth.locks = false) {out : Int64 × IM} : ∀ {x1 : Int32} {x2 : Int32} {t0 : Int32} {σ : IM} {H : Heap} {locs : List Loc} {ls : Array Slot}, Mem lyM 13 g A [] σ nor s.heap H locs → lv_has ls 3 [(0, .ref (g.2.2 0)), (1, .int x1), (2, .int x2)] → X12_element_b43 x1 x2 t0 σ = some out → W p l e ({ frames := 2, cells := 0, slots := 0, locals := 42 }) s m args below meth c H locs 0 0 (MQ below (Qm lyM 13 g A [] out.2 nor (some (.long out.1))) args s 0 0 A) (F0 m 43 ls [.int t0, .ref (g.2.2 0)]) := by
  intro x1 x2 t0 σ H locs ls hM hl hF
  unfold X12_element_b43 at hF
  obtain ⟨σ8, eσ8, hF⟩ := bd_some hF
  refine r_putI (ty := .int) S hK hM cfX12 tyX12_ok nmX12 0 19 (by decide) lm_0 rfl (by decide) tw_5_50 rfl (by decide +kernel) rfl rfl eσ8 dX12_element_43 (fun H locs hM => ?_)
  refine lv_aload_n S.1 S.2.1 dX12_element_46 rfl (lv_at hl 0 rfl) ?_
  refine r_getI S hK hM cfX12 0 19 (by decide) lm_0 rfl (by decide) tw_5_50 dX12_element_47 ?_
  refine lv_if_ne (tgt := 68) S.1 S.2.1 dX12_element_50 (by decide) (fun b9 => ?_) (fun b9 => ?_)
  · have hF := (if_neg b9).symm.trans hF
    refine lv_lconst (v := 0) S.1 S.2.1 dX12_element_68 (by decide) ?_
    cases hF
    exact z_ml S hM hr hlk dX12_element_69
  · have hF := (if_pos b9).symm.trans hF
    refine lv_aload_n S.1 S.2.1 dX12_element_53 rfl (lv_at hl 0 rfl) ?_
    refine r_getC S hK hM cfX12 0 18 12 (by decide) lm_0 rfl (by decide) tw_5_49 dX12_element_54 ?_
    refine lv_bipush (v := 100) S.1 S.2.1 dX12_element_57 (by decide) ?_
    refine lv_iload_n S.1 S.2.1 dX12_element_59 rfl (lv_at hl 1 rfl) ?_
    refine lv_imul S.1 S.2.1 dX12_element_60 ?_
    refine lv_iload_n S.1 S.2.1 dX12_element_61 rfl (lv_at hl 2 rfl) ?_
    refine lv_iadd S.1 S.2.1 dX12_element_62 ?_
    obtain ⟨hv10, v10, ev10, hF⟩ := rd_some hF
    refine r_iald S hK hM 12 (by decide) rfl hv10 ev10 dX12_element_63 ?_
    refine lv_i2l S.1 S.2.1 dX12_element_64 rfl ?_
    refine lv_goto (tgt := 69) S.1 S.2.1 dX12_element_65 (by decide) ?_
    cases hF
    exact z_ml S hM hr hlk dX12_element_69
def X12_element_b38 (x1 : Int32) (x2 : Int32) (σ : IM) : Option (Int64 × IM) := X12_element_b43 x1 x2 2 σ
set_option maxRecDepth 20000 in
theorem w_X12_element_38 {l : Launch} {g : GE} {A : Nat → Prop} {p : Program} {e : Env} {s : State} {m : MethodId} {args : Array Value} {below : List Frame} {meth : Method} {c : Code} (S : CallFix p m c cX12_element 3 s args UL RX12) (hK : KK g s) (hr : meth.sig.returnType = (some .long)) (hlk : meth.locks = false) {out : Int64 × IM} : ∀ {x1 : Int32} {x2 : Int32} {σ : IM} {H : Heap} {locs : List Loc} {ls : Array Slot}, Mem lyM 13 g A [] σ nor s.heap H locs → lv_has ls 3 [(0, .ref (g.2.2 0)), (1, .int x1), (2, .int x2)] → X12_element_b38 x1 x2 σ = some out → W p l e ({ frames := 2, cells := 0, slots := 0, locals := 42 }) s m args below meth c H locs 0 0 (MQ below (Qm lyM 13 g A [] out.2 nor (some (.long out.1))) args s 0 0 A) (F0 m 38 ls [.ref (g.2.2 0)]) := by
  intro x1 x2 σ H locs ls hM hl hF
  unfold X12_element_b38 at hF
  refine lv_iconst (v := 2) S.1 S.2.1 dX12_element_38 (by decide) ?_
  refine lv_goto (tgt := 43) S.1 S.2.1 dX12_element_39 (by decide) ?_
  exact w_X12_element_43 S hK hr hlk hM (lv_sub hl [0, 1, 2] rfl) hF
def X12_element (σ : IM) (a1 : Int32) (a2 : Int32) : Option (Int64 × IM) := bd1 (X12_isShelf a1) fun r1 => if r1 = 0 then (X12_element_b43 a1 a2 1 σ) else (rd (σ 7) 8 a1 fun v3 => if v3 = 2 then (rd (σ 11) 8 a1 fun v5 => bd1 (X12_isIn a2 0 (v5 - 1)) fun r6 => if r6 = 0 then (X12_element_b38 a1 a2 σ) else (X12_element_b43 a1 a2 0 σ)) else (X12_element_b38 a1 a2 σ))
set_option maxRecDepth 20000 in
theorem c_X12_element {l : Launch} {g : GE} {A : Nat → Prop} {σ : IM} {a1 : Int32} {a2 : Int32} {out : Int64 × IM} (hF : X12_element σ a1 a2 = some out) : Met l yX12_element (.code yX12_element cX12_element 3 (some .long) :: UL) ({ frames := 2, cells := 0, slots := 0, locals := 42 }) (va_Pc [.ref (g.2.2 0), .int a1, .int a2] (PreM lyM 13 g A [] σ nor)) (Qm lyM 13 g A [] out.2 nor (some (.long out.1))) 0 0 A := by
  refine e_of (by decide) (Nat.le_of_ble_eq_true rfl) ?_
  intro p e s m below meth c ls S hr hlk hv hl
  have hM := Mem.of hv
  have hK := hv.2.1
  have hl : lv_has ls 3 [(0, .ref (g.2.2 0)), (1, .int a1), (2, .int a2)] := hl
  unfold X12_element at hF
  refine lv_aload_n S.1 S.2.1 dX12_element_0 rfl (lv_at hl 0 rfl) ?_
  refine lv_iload_n S.1 S.2.1 dX12_element_1 rfl (lv_at hl 1 rfl) ?_
  obtain ⟨r1, er1, hF⟩ := bd1_some hF
  refine k_p (va_runS (As := [.int a1]) (rest := [.ref (g.2.2 0)]) S (c_X12_isShelf   er1) (va_cwS 1 S.2.2.2.2 (ul_S tw_5_100 tw_5_101 tw_1_12 cw_X12_isShelf) rfl rfl rfl hs_X12_isShelf ⟨Nat.le_of_ble_eq_true rfl, Nat.le_of_ble_eq_true rfl⟩) ⟨PreM.blind, hM.pre hK⟩ rfl rfl hl.1 rfl (lv_room (Nat.le_of_ble_eq_true rfl)) dX12_element_2 ⟨Nat.zero_le _, Nat.zero_le _⟩) ?_
  refine lv_if_ne (tgt := 12) S.1 S.2.1 dX12_element_5 (by decide) (fun b2 => ?_) (fun b2 => ?_)
  · have hF := (if_neg b2).symm.trans hF
    refine lv_aload_n S.1 S.2.1 dX12_element_12 rfl (lv_at hl 0 rfl) ?_
    refine r_getC S hK hM cfX12 0 13 7 (by decide) lm_0 rfl (by decide) tw_5_44 dX12_element_13 ?_
    refine lv_iload_n S.1 S.2.1 dX12_element_16 rfl (lv_at hl 1 rfl) ?_
    obtain ⟨hv3, v3, ev3, hF⟩ := rd_some hF
    refine r_iald S hK hM 7 (by decide) rfl hv3 ev3 dX12_element_17 ?_
    refine lv_iconst (v := 2) S.1 S.2.1 dX12_element_18 (by decide) ?_
    refine lv_icmp_ne (tgt := 38) S.1 S.2.1 dX12_element_19 (by decide) (fun b4 => ?_) (fun b4 => ?_)
    · have hF := (if_neg b4).symm.trans hF
      exact w_X12_element_38 S hK hr hlk hM (lv_sub hl [0, 1, 2] rfl) hF
    · have hF := (if_pos b4).symm.trans hF
      refine lv_iload_n S.1 S.2.1 dX12_element_22 rfl (lv_at hl 2 rfl) ?_
      refine lv_iconst (v := 0) S.1 S.2.1 dX12_element_23 (by decide) ?_
      refine lv_aload_n S.1 S.2.1 dX12_element_24 rfl (lv_at hl 0 rfl) ?_
      refine r_getC S hK hM cfX12 0 17 11 (by decide) lm_0 rfl (by decide) tw_5_48 dX12_element_25 ?_
      refine lv_iload_n S.1 S.2.1 dX12_element_28 rfl (lv_at hl 1 rfl) ?_
      obtain ⟨hv5, v5, ev5, hF⟩ := rd_some hF
      refine r_iald S hK hM 11 (by decide) rfl hv5 ev5 dX12_element_29 ?_
      refine lv_iconst (v := 1) S.1 S.2.1 dX12_element_30 (by decide) ?_
      refine lv_isub S.1 S.2.1 dX12_element_31 ?_
      obtain ⟨r6, er6, hF⟩ := bd1_some hF
      refine k_p (va_runS (As := [.int a2, .int 0, .int (v5 - 1)]) (rest := [.ref (g.2.2 0)]) S (c_X12_isIn   er6) (va_cwS 3 S.2.2.2.2 (ul_S tw_5_103 tw_5_104 tw_1_12 cw_X12_isIn) rfl rfl rfl hs_X12_isIn ⟨Nat.le_of_ble_eq_true rfl, Nat.le_of_ble_eq_true rfl⟩) ⟨PreM.blind, hM.pre hK⟩ rfl rfl hl.1 rfl (lv_room (Nat.le_of_ble_eq_true rfl)) dX12_element_32 ⟨Nat.zero_le _, Nat.zero_le _⟩) ?_
      refine lv_if_ne (tgt := 42) S.1 S.2.1 dX12_element_35 (by decide) (fun b7 => ?_) (fun b7 => ?_)
      · have hF := (if_neg b7).symm.trans hF
        refine lv_iconst (v := 0) S.1 S.2.1 dX12_element_42 (by decide) ?_
        exact w_X12_element_43 S hK hr hlk hM (lv_sub hl [0, 1, 2] rfl) hF
      · have hF := (if_pos b7).symm.trans hF
        exact w_X12_element_38 S hK hr hlk hM (lv_sub hl [0, 1, 2] rfl) hF
  · have hF := (if_pos b2).symm.trans hF
    refine lv_iconst (v := 1) S.1 S.2.1 dX12_element_8 (by decide) ?_
    refine lv_goto (tgt := 43) S.1 S.2.1 dX12_element_9 (by decide) ?_
    exact w_X12_element_43 S hK hr hlk hM (lv_sub hl [0, 1, 2] rfl) hF
/-! X12_copy -/
def X12_copy_b147 (k122 : Int32 → Int32 → Int32 → Int32 → Int32 → Int32 → IM → Option (Int32 × IM)) (x1 : Int32) (x2 : Int32) (x3 : Int32) (x4 : Int32) (x5 : Int32) (x6 : Int32) (t0 : Int32) (σ : IM) : Option (Int32 × IM) := rd (σ 12) 800 (((100 * x1) + x2) + t0) fun v25 => wr σ 12 800 (((100 * x3) + x4) + t0) v25 fun σ26 => bd (x6 + 1) fun v27 => k122 x1 x2 x3 x4 x5 v27 σ26
set_option maxRecDepth 20000 in
theorem w_X12_copy_147 {l : Launch} {g : GE} {A : Nat → Prop} {p : Program} {e : Env} {s : State} {m : MethodId} {args : Array Value} {below : List Frame} {meth : Method} {c : Code} (S : CallFix p m c cX12_copy 8 s args UL RX12) (hK : KK g s) (hr : meth.sig.returnType = (some .int)) (hlk : meth.locks = false) {out : Int32 × IM} {k122 : Int32 → Int32 → Int32 → Int32 → Int32 → Int32 → IM → Option (Int32 × IM)} (hk122 : ∀ {x1 : Int32} {x2 : Int32} {x3 : Int32} {x4 : Int32} {x5 : Int32} {x6 : Int32} {σ : IM} {H : Heap} {locs : List Loc} {ls : Array Slot}, Mem lyM 13 g A [] σ nor s.heap H locs → lv_has ls 8 [(0, .ref (g.2.2 0)), (1, .int x1), (2, .int x2), (3, .int x3), (4, .int x4), (5, .int x5), (6, .int x6)] → k122 x1 x2 x3 x4 x5 x6 σ = some out → W p l e ({ frames := 2, cells := 0, slots := 0, locals := 42 }) s m args below meth c H locs 0 0 (MQ below (Qm lyM 13 g A [] out.2 nor (some (.int out.1))) args s 0 0 A) (F0 m 122 ls [])) : ∀ {x1 : Int32} {x2 : Int32} {x3 : Int32} {x4 : Int32} {x5 : Int32} {x6 : Int32} {t0 : Int32} {σ : IM} {H : Heap} {locs : List Loc} {ls : Array Slot}, Mem lyM 13 g A [] σ nor s.heap H locs → lv_has ls 8 [(0, .ref (g.2.2 0)), (1, .int x1), (2, .int x2), (3, .int x3), (4, .int x4), (5, .int x5), (6, .int x6)] → X12_copy_b147 k122 x1 x2 x3 x4 x5 x6 t0 σ = some out → W p l e ({ frames := 2, cells := 0, slots := 0, locals := 42 }) s m args below meth c H locs 0 0 (MQ below (Qm lyM 13 g A [] out.2 nor (some (.int out.1))) args s 0 0 A) (F0 m 147 ls [.int t0]) := by
  intro x1 x2 x3 x4 x5 x6 t0 σ H locs ls hM hl hF
  unfold X12_copy_b147 at hF
  refine lv_istore (lv' := [(7, .int t0), (0, .ref (g.2.2 0)), (1, .int x1), (2, .int x2), (3, .int x3), (4, .int x4), (5, .int x5), (6, .int x6)]) S.1 S.2.1 dX12_copy_147 hl (by decide) rfl (fun ls hl => ?_)
  refine lv_aload_n S.1 S.2.1 dX12_copy_149 rfl (lv_at hl 1 rfl) ?_
  refine r_getC S hK hM cfX12 0 18 12 (by decide) lm_0 rfl (by decide) tw_5_49 dX12_copy_150 ?_
  refine lv_bipush (v := 100) S.1 S.2.1 dX12_copy_153 (by decide) ?_
  refine lv_iload_n S.1 S.2.1 dX12_copy_155 rfl (lv_at hl 4 rfl) ?_
  refine lv_imul S.1 S.2.1 dX12_copy_156 ?_
  refine lv_iload S.1 S.2.1 dX12_copy_157 (lv_at hl 5 rfl) ?_
  refine lv_iadd S.1 S.2.1 dX12_copy_159 ?_
  refine lv_iload S.1 S.2.1 dX12_copy_160 (lv_at hl 0 rfl) ?_
  refine lv_iadd S.1 S.2.1 dX12_copy_162 ?_
  refine lv_aload_n S.1 S.2.1 dX12_copy_163 rfl (lv_at hl 1 rfl) ?_
  refine r_getC S hK hM cfX12 0 18 12 (by decide) lm_0 rfl (by decide) tw_5_49 dX12_copy_164 ?_
  refine lv_bipush (v := 100) S.1 S.2.1 dX12_copy_167 (by decide) ?_
  refine lv_iload_n S.1 S.2.1 dX12_copy_169 rfl (lv_at hl 2 rfl) ?_
  refine lv_imul S.1 S.2.1 dX12_copy_170 ?_
  refine lv_iload_n S.1 S.2.1 dX12_copy_171 rfl (lv_at hl 3 rfl) ?_
  refine lv_iadd S.1 S.2.1 dX12_copy_172 ?_
  refine lv_iload S.1 S.2.1 dX12_copy_173 (lv_at hl 0 rfl) ?_
  refine lv_iadd S.1 S.2.1 dX12_copy_175 ?_
  obtain ⟨hv25, v25, ev25, hF⟩ := rd_some hF
  refine r_iald S hK hM 12 (by decide) rfl hv25 ev25 dX12_copy_176 ?_
  obtain ⟨hσ26, σ26, eσ26, hF⟩ := wr_some hF
  refine r_iast S hK hM 12 (by decide) rfl hσ26 eσ26 dX12_copy_177 (fun H locs hM => ?_)
  obtain ⟨v27, ev27, hF⟩ := bd_some hF
  refine lv_iinc (v := v27) (lv' := [(6, .int v27), (7, .int t0), (0, .ref (g.2.2 0)), (1, .int x1), (2, .int x2), (3, .int x3), (4, .int x4), (5, .int x5)]) S.1 S.2.1 dX12_copy_178 hl (k := 7) rfl (by rw [ev27]; rfl) (by decide) rfl (fun ls hl => ?_)
  refine lv_goto (tgt := 122) S.1 S.2.1 dX12_copy_181 (by decide) ?_
  exact hk122 hM (lv_sub hl [2, 3, 4, 5, 6, 7, 0] rfl)  hF
def X12_copy_s122 (k122 : Int32 → Int32 → Int32 → Int32 → Int32 → Int32 → IM → Option (Int32 × IM)) (x1 : Int32) (x2 : Int32) (x3 : Int32) (x4 : Int32) (x5 : Int32) (x6 : Int32) (σ : IM) : Option (Int32 × IM) := if x5 ≤ x6 then (some (x5, σ)) else (if x2 ≤ x4 then (X12_copy_b147 k122 x1 x2 x3 x4 x5 x6 ((x5 - 1) - x6) σ) else (X12_copy_b147 k122 x1 x2 x3 x4 x5 x6 x6 σ))
def X12_copy_b122 : Nat → Int32 → Int32 → Int32 → Int32 → Int32 → Int32 → IM → Option (Int32 × IM)
  | 0 => fun _ _ _ _ _ _ _ => none
  | n + 1 => X12_copy_s122 (X12_copy_b122 n)
set_option maxRecDepth 20000 in
theorem w_X12_copy_122 {l : Launch} {g : GE} {A : Nat → Prop} {p : Program} {e : Env} {s : State} {m : MethodId} {args : Array Value} {below : List Frame} {meth : Method} {c : Code} (S : CallFix p m c cX12_copy 8 s args UL RX12) (hK : KK g s) (hr : meth.sig.returnType = (some .int)) (hlk : meth.locks = false) {out : Int32 × IM} {k122 : Int32 → Int32 → Int32 → Int32 → Int32 → Int32 → IM → Option (Int32 × IM)} (hk122 : ∀ {x1 : Int32} {x2 : Int32} {x3 : Int32} {x4 : Int32} {x5 : Int32} {x6 : Int32} {σ : IM} {H : Heap} {locs : List Loc} {ls : Array Slot}, Mem lyM 13 g A [] σ nor s.heap H locs → lv_has ls 8 [(0, .ref (g.2.2 0)), (1, .int x1), (2, .int x2), (3, .int x3), (4, .int x4), (5, .int x5), (6, .int x6)] → k122 x1 x2 x3 x4 x5 x6 σ = some out → W p l e ({ frames := 2, cells := 0, slots := 0, locals := 42 }) s m args below meth c H locs 0 0 (MQ below (Qm lyM 13 g A [] out.2 nor (some (.int out.1))) args s 0 0 A) (F0 m 122 ls [])) : ∀ {x1 : Int32} {x2 : Int32} {x3 : Int32} {x4 : Int32} {x5 : Int32} {x6 : Int32} {σ : IM} {H : Heap} {locs : List Loc} {ls : Array Slot}, Mem lyM 13 g A [] σ nor s.heap H locs → lv_has ls 8 [(0, .ref (g.2.2 0)), (1, .int x1), (2, .int x2), (3, .int x3), (4, .int x4), (5, .int x5), (6, .int x6)] → X12_copy_s122 k122 x1 x2 x3 x4 x5 x6 σ = some out → W p l e ({ frames := 2, cells := 0, slots := 0, locals := 42 }) s m args below meth c H locs 0 0 (MQ below (Qm lyM 13 g A [] out.2 nor (some (.int out.1))) args s 0 0 A) (F0 m 122 ls []) := by
  intro x1 x2 x3 x4 x5 x6 σ H locs ls hM hl hF
  unfold X12_copy_s122 at hF
  refine lv_iload S.1 S.2.1 dX12_copy_122 (lv_at hl 6 rfl) ?_
  refine lv_iload S.1 S.2.1 dX12_copy_124 (lv_at hl 5 rfl) ?_
  refine lv_icmp_ge (tgt := 184) S.1 S.2.1 dX12_copy_126 (by decide) (fun b23 => ?_) (fun b23 => ?_)
  · have hF := (if_pos b23).symm.trans hF
    refine lv_iload S.1 S.2.1 dX12_copy_184 (lv_at hl 5 rfl) ?_
    cases hF
    exact z_m (v := x5) S hM hr hlk rfl dX12_copy_186
  · have hF := (if_neg b23).symm.trans hF
    refine lv_iload_n S.1 S.2.1 dX12_copy_129 rfl (lv_at hl 2 rfl) ?_
    refine lv_iload S.1 S.2.1 dX12_copy_130 (lv_at hl 4 rfl) ?_
    refine lv_icmp_le (tgt := 140) S.1 S.2.1 dX12_copy_132 (by decide) (fun b24 => ?_) (fun b24 => ?_)
    · have hF := (if_pos b24).symm.trans hF
      refine lv_iload S.1 S.2.1 dX12_copy_140 (lv_at hl 5 rfl) ?_
      refine lv_iconst (v := 1) S.1 S.2.1 dX12_copy_142 (by decide) ?_
      refine lv_isub S.1 S.2.1 dX12_copy_143 ?_
      refine lv_iload S.1 S.2.1 dX12_copy_144 (lv_at hl 6 rfl) ?_
      refine lv_isub S.1 S.2.1 dX12_copy_146 ?_
      exact w_X12_copy_147 S hK hr hlk hk122 hM (lv_sub hl [0, 1, 2, 3, 4, 5, 6] rfl) hF
    · have hF := (if_neg b24).symm.trans hF
      refine lv_iload S.1 S.2.1 dX12_copy_135 (lv_at hl 6 rfl) ?_
      refine lv_goto (tgt := 147) S.1 S.2.1 dX12_copy_137 (by decide) ?_
      exact w_X12_copy_147 S hK hr hlk hk122 hM (lv_sub hl [0, 1, 2, 3, 4, 5, 6] rfl) hF
theorem wl_X12_copy_122 {l : Launch} {g : GE} {A : Nat → Prop} {p : Program} {e : Env} {s : State} {m : MethodId} {args : Array Value} {below : List Frame} {meth : Method} {c : Code} (S : CallFix p m c cX12_copy 8 s args UL RX12) (hK : KK g s) (hr : meth.sig.returnType = (some .int)) (hlk : meth.locks = false) {out : Int32 × IM} : ∀ (n : Nat) {x1 : Int32} {x2 : Int32} {x3 : Int32} {x4 : Int32} {x5 : Int32} {x6 : Int32} {σ : IM} {H : Heap} {locs : List Loc} {ls : Array Slot}, Mem lyM 13 g A [] σ nor s.heap H locs → lv_has ls 8 [(0, .ref (g.2.2 0)), (1, .int x1), (2, .int x2), (3, .int x3), (4, .int x4), (5, .int x5), (6, .int x6)] → X12_copy_b122 n x1 x2 x3 x4 x5 x6 σ = some out → W p l e ({ frames := 2, cells := 0, slots := 0, locals := 42 }) s m args below meth c H locs 0 0 (MQ below (Qm lyM 13 g A [] out.2 nor (some (.int out.1))) args s 0 0 A) (F0 m 122 ls []) := by
  intro n
  induction n with
  | zero =>
    intro x1 x2 x3 x4 x5 x6 σ H locs ls hM hl hF
    cases hF
  | succ n ih =>
    intro x1 x2 x3 x4 x5 x6 σ H locs ls hM hl hF
    exact w_X12_copy_122 S hK hr hlk ih hM hl hF
def X12_copy (σ : IM) (a1 : Int32) (a2 : Int32) (a3 : Int32) (a4 : Int32) (a5 : Int32) : Option (Int32 × IM) := bd1 (X12_isShelf a1) fun r1 => if r1 = 0 then (some ((-1), σ)) else (bd1 (X12_isShelf a3) fun r3 => if r3 = 0 then (some ((-1), σ)) else (rd (σ 7) 8 a1 fun v5 => if v5 = 0 then (some ((-11), σ)) else (rd (σ 7) 8 a3 fun v7 => if v7 = 0 then (some ((-11), σ)) else (rd (σ 7) 8 a1 fun v9 => if v9 = 2 then (rd (σ 7) 8 a3 fun v11 => if v11 = 2 then (rd (σ 10) 8 a1 fun v13 => rd (σ 10) 8 a3 fun v14 => if v13 = v14 then (if a5 < 0 then (some ((-13), σ)) else (if a2 < 0 then (some ((-13), σ)) else (if a4 < 0 then (some ((-13), σ)) else (rd (σ 11) 8 a1 fun v19 => if v19 - a2 < a5 then (some ((-13), σ)) else (rd (σ 11) 8 a3 fun v21 => if a5 ≤ v21 - a4 then (X12_copy_b122 1000 a1 a2 a3 a4 a5 0 σ) else (some ((-13), σ))))))) else (some ((-12), σ))) else (some ((-12), σ))) else (some ((-12), σ))))))
set_option maxRecDepth 20000 in
theorem c_X12_copy {l : Launch} {g : GE} {A : Nat → Prop} {σ : IM} {a1 : Int32} {a2 : Int32} {a3 : Int32} {a4 : Int32} {a5 : Int32} {out : Int32 × IM} (hF : X12_copy σ a1 a2 a3 a4 a5 = some out) : Met l yX12_copy (.code yX12_copy cX12_copy 8 (some .int) :: UL) ({ frames := 2, cells := 0, slots := 0, locals := 42 }) (va_Pc [.ref (g.2.2 0), .int a1, .int a2, .int a3, .int a4, .int a5] (PreM lyM 13 g A [] σ nor)) (Qm lyM 13 g A [] out.2 nor (some (.int out.1))) 0 0 A := by
  refine e_of (by decide) (Nat.le_of_ble_eq_true rfl) ?_
  intro p e s m below meth c ls S hr hlk hv hl
  have hM := Mem.of hv
  have hK := hv.2.1
  have hl : lv_has ls 8 [(0, .ref (g.2.2 0)), (1, .int a1), (2, .int a2), (3, .int a3), (4, .int a4), (5, .int a5)] := hl
  unfold X12_copy at hF
  refine lv_iload_n S.1 S.2.1 dX12_copy_0 rfl (lv_at hl 1 rfl) ?_
  obtain ⟨r1, er1, hF⟩ := bd1_some hF
  refine k_p (va_runS (As := [.int a1]) (rest := []) S (c_X12_isShelf   er1) (va_cwS 1 S.2.2.2.2 (ul_S tw_5_100 tw_5_101 tw_1_12 cw_X12_isShelf) rfl rfl rfl hs_X12_isShelf ⟨Nat.le_of_ble_eq_true rfl, Nat.le_of_ble_eq_true rfl⟩) ⟨PreM.blind, hM.pre hK⟩ rfl rfl hl.1 rfl (lv_room (Nat.le_of_ble_eq_true rfl)) dX12_copy_1 ⟨Nat.zero_le _, Nat.zero_le _⟩) ?_
  refine lv_if_eq (tgt := 14) S.1 S.2.1 dX12_copy_4 (by decide) (fun b2 => ?_) (fun b2 => ?_)
  · have hF := (if_pos b2).symm.trans hF
    refine lv_iconst (v := (-1)) S.1 S.2.1 dX12_copy_14 (by decide) ?_
    cases hF
    exact z_m (v := (-1)) S hM hr hlk rfl dX12_copy_15
  · have hF := (if_neg b2).symm.trans hF
    refine lv_iload_n S.1 S.2.1 dX12_copy_7 rfl (lv_at hl 3 rfl) ?_
    obtain ⟨r3, er3, hF⟩ := bd1_some hF
    refine k_p (va_runS (As := [.int a3]) (rest := []) S (c_X12_isShelf   er3) (va_cwS 1 S.2.2.2.2 (ul_S tw_5_100 tw_5_101 tw_1_12 cw_X12_isShelf) rfl rfl rfl hs_X12_isShelf ⟨Nat.le_of_ble_eq_true rfl, Nat.le_of_ble_eq_true rfl⟩) ⟨PreM.blind, hM.pre hK⟩ rfl rfl hl.1 rfl (lv_room (Nat.le_of_ble_eq_true rfl)) dX12_copy_8 ⟨Nat.zero_le _, Nat.zero_le _⟩) ?_
    refine lv_if_ne (tgt := 16) S.1 S.2.1 dX12_copy_11 (by decide) (fun b4 => ?_) (fun b4 => ?_)
    · have hF := (if_neg b4).symm.trans hF
      refine lv_aload_n S.1 S.2.1 dX12_copy_16 rfl (lv_at hl 0 rfl) ?_
      refine r_getC S hK hM cfX12 0 13 7 (by decide) lm_0 rfl (by decide) tw_5_44 dX12_copy_17 ?_
      refine lv_iload_n S.1 S.2.1 dX12_copy_20 rfl (lv_at hl 1 rfl) ?_
      obtain ⟨hv5, v5, ev5, hF⟩ := rd_some hF
      refine r_iald S hK hM 7 (by decide) rfl hv5 ev5 dX12_copy_21 ?_
      refine lv_if_eq (tgt := 34) S.1 S.2.1 dX12_copy_22 (by decide) (fun b6 => ?_) (fun b6 => ?_)
      · have hF := (if_pos b6).symm.trans hF
        refine lv_bipush (v := (-11)) S.1 S.2.1 dX12_copy_34 (by decide) ?_
        cases hF
        exact z_m (v := (-11)) S hM hr hlk rfl dX12_copy_36
      · have hF := (if_neg b6).symm.trans hF
        refine lv_aload_n S.1 S.2.1 dX12_copy_25 rfl (lv_at hl 0 rfl) ?_
        refine r_getC S hK hM cfX12 0 13 7 (by decide) lm_0 rfl (by decide) tw_5_44 dX12_copy_26 ?_
        refine lv_iload_n S.1 S.2.1 dX12_copy_29 rfl (lv_at hl 3 rfl) ?_
        obtain ⟨hv7, v7, ev7, hF⟩ := rd_some hF
        refine r_iald S hK hM 7 (by decide) rfl hv7 ev7 dX12_copy_30 ?_
        refine lv_if_ne (tgt := 37) S.1 S.2.1 dX12_copy_31 (by decide) (fun b8 => ?_) (fun b8 => ?_)
        · have hF := (if_neg b8).symm.trans hF
          refine lv_aload_n S.1 S.2.1 dX12_copy_37 rfl (lv_at hl 0 rfl) ?_
          refine r_getC S hK hM cfX12 0 13 7 (by decide) lm_0 rfl (by decide) tw_5_44 dX12_copy_38 ?_
          refine lv_iload_n S.1 S.2.1 dX12_copy_41 rfl (lv_at hl 1 rfl) ?_
          obtain ⟨hv9, v9, ev9, hF⟩ := rd_some hF
          refine r_iald S hK hM 7 (by decide) rfl hv9 ev9 dX12_copy_42 ?_
          refine lv_iconst (v := 2) S.1 S.2.1 dX12_copy_43 (by decide) ?_
          refine lv_icmp_ne (tgt := 72) S.1 S.2.1 dX12_copy_44 (by decide) (fun b10 => ?_) (fun b10 => ?_)
          · have hF := (if_neg b10).symm.trans hF
            refine lv_bipush (v := (-12)) S.1 S.2.1 dX12_copy_72 (by decide) ?_
            cases hF
            exact z_m (v := (-12)) S hM hr hlk rfl dX12_copy_74
          · have hF := (if_pos b10).symm.trans hF
            refine lv_aload_n S.1 S.2.1 dX12_copy_47 rfl (lv_at hl 0 rfl) ?_
            refine r_getC S hK hM cfX12 0 13 7 (by decide) lm_0 rfl (by decide) tw_5_44 dX12_copy_48 ?_
            refine lv_iload_n S.1 S.2.1 dX12_copy_51 rfl (lv_at hl 3 rfl) ?_
            obtain ⟨hv11, v11, ev11, hF⟩ := rd_some hF
            refine r_iald S hK hM 7 (by decide) rfl hv11 ev11 dX12_copy_52 ?_
            refine lv_iconst (v := 2) S.1 S.2.1 dX12_copy_53 (by decide) ?_
            refine lv_icmp_ne (tgt := 72) S.1 S.2.1 dX12_copy_54 (by decide) (fun b12 => ?_) (fun b12 => ?_)
            · have hF := (if_neg b12).symm.trans hF
              refine lv_bipush (v := (-12)) S.1 S.2.1 dX12_copy_72 (by decide) ?_
              cases hF
              exact z_m (v := (-12)) S hM hr hlk rfl dX12_copy_74
            · have hF := (if_pos b12).symm.trans hF
              refine lv_aload_n S.1 S.2.1 dX12_copy_57 rfl (lv_at hl 0 rfl) ?_
              refine r_getC S hK hM cfX12 0 16 10 (by decide) lm_0 rfl (by decide) tw_5_47 dX12_copy_58 ?_
              refine lv_iload_n S.1 S.2.1 dX12_copy_61 rfl (lv_at hl 1 rfl) ?_
              obtain ⟨hv13, v13, ev13, hF⟩ := rd_some hF
              refine r_iald S hK hM 10 (by decide) rfl hv13 ev13 dX12_copy_62 ?_
              refine lv_aload_n S.1 S.2.1 dX12_copy_63 rfl (lv_at hl 0 rfl) ?_
              refine r_getC S hK hM cfX12 0 16 10 (by decide) lm_0 rfl (by decide) tw_5_47 dX12_copy_64 ?_
              refine lv_iload_n S.1 S.2.1 dX12_copy_67 rfl (lv_at hl 3 rfl) ?_
              obtain ⟨hv14, v14, ev14, hF⟩ := rd_some hF
              refine r_iald S hK hM 10 (by decide) rfl hv14 ev14 dX12_copy_68 ?_
              refine lv_icmp_eq (tgt := 75) S.1 S.2.1 dX12_copy_69 (by decide) (fun b15 => ?_) (fun b15 => ?_)
              · have hF := (if_pos b15).symm.trans hF
                refine lv_iload S.1 S.2.1 dX12_copy_75 (lv_at hl 5 rfl) ?_
                refine lv_if_lt (tgt := 116) S.1 S.2.1 dX12_copy_77 (by decide) (fun b16 => ?_) (fun b16 => ?_)
                · have hF := (if_pos b16).symm.trans hF
                  refine lv_bipush (v := (-13)) S.1 S.2.1 dX12_copy_116 (by decide) ?_
                  cases hF
                  exact z_m (v := (-13)) S hM hr hlk rfl dX12_copy_118
                · have hF := (if_neg b16).symm.trans hF
                  refine lv_iload_n S.1 S.2.1 dX12_copy_80 rfl (lv_at hl 2 rfl) ?_
                  refine lv_if_lt (tgt := 116) S.1 S.2.1 dX12_copy_81 (by decide) (fun b17 => ?_) (fun b17 => ?_)
                  · have hF := (if_pos b17).symm.trans hF
                    refine lv_bipush (v := (-13)) S.1 S.2.1 dX12_copy_116 (by decide) ?_
                    cases hF
                    exact z_m (v := (-13)) S hM hr hlk rfl dX12_copy_118
                  · have hF := (if_neg b17).symm.trans hF
                    refine lv_iload S.1 S.2.1 dX12_copy_84 (lv_at hl 4 rfl) ?_
                    refine lv_if_lt (tgt := 116) S.1 S.2.1 dX12_copy_86 (by decide) (fun b18 => ?_) (fun b18 => ?_)
                    · have hF := (if_pos b18).symm.trans hF
                      refine lv_bipush (v := (-13)) S.1 S.2.1 dX12_copy_116 (by decide) ?_
                      cases hF
                      exact z_m (v := (-13)) S hM hr hlk rfl dX12_copy_118
                    · have hF := (if_neg b18).symm.trans hF
                      refine lv_iload S.1 S.2.1 dX12_copy_89 (lv_at hl 5 rfl) ?_
                      refine lv_aload_n S.1 S.2.1 dX12_copy_91 rfl (lv_at hl 0 rfl) ?_
                      refine r_getC S hK hM cfX12 0 17 11 (by decide) lm_0 rfl (by decide) tw_5_48 dX12_copy_92 ?_
                      refine lv_iload_n S.1 S.2.1 dX12_copy_95 rfl (lv_at hl 1 rfl) ?_
                      obtain ⟨hv19, v19, ev19, hF⟩ := rd_some hF
                      refine r_iald S hK hM 11 (by decide) rfl hv19 ev19 dX12_copy_96 ?_
                      refine lv_iload_n S.1 S.2.1 dX12_copy_97 rfl (lv_at hl 2 rfl) ?_
                      refine lv_isub S.1 S.2.1 dX12_copy_98 ?_
                      refine lv_icmp_gt (tgt := 116) S.1 S.2.1 dX12_copy_99 (by decide) (fun b20 => ?_) (fun b20 => ?_)
                      · have hF := (if_pos b20).symm.trans hF
                        refine lv_bipush (v := (-13)) S.1 S.2.1 dX12_copy_116 (by decide) ?_
                        cases hF
                        exact z_m (v := (-13)) S hM hr hlk rfl dX12_copy_118
                      · have hF := (if_neg b20).symm.trans hF
                        refine lv_iload S.1 S.2.1 dX12_copy_102 (lv_at hl 5 rfl) ?_
                        refine lv_aload_n S.1 S.2.1 dX12_copy_104 rfl (lv_at hl 0 rfl) ?_
                        refine r_getC S hK hM cfX12 0 17 11 (by decide) lm_0 rfl (by decide) tw_5_48 dX12_copy_105 ?_
                        refine lv_iload_n S.1 S.2.1 dX12_copy_108 rfl (lv_at hl 3 rfl) ?_
                        obtain ⟨hv21, v21, ev21, hF⟩ := rd_some hF
                        refine r_iald S hK hM 11 (by decide) rfl hv21 ev21 dX12_copy_109 ?_
                        refine lv_iload S.1 S.2.1 dX12_copy_110 (lv_at hl 4 rfl) ?_
                        refine lv_isub S.1 S.2.1 dX12_copy_112 ?_
                        refine lv_icmp_le (tgt := 119) S.1 S.2.1 dX12_copy_113 (by decide) (fun b22 => ?_) (fun b22 => ?_)
                        · have hF := (if_pos b22).symm.trans hF
                          refine lv_iconst (v := 0) S.1 S.2.1 dX12_copy_119 (by decide) ?_
                          refine lv_istore (lv' := [(6, .int 0), (0, .ref (g.2.2 0)), (1, .int a1), (2, .int a2), (3, .int a3), (4, .int a4), (5, .int a5)]) S.1 S.2.1 dX12_copy_120 hl (by decide) rfl (fun ls hl => ?_)
                          exact wl_X12_copy_122 S hK hr hlk 1000 hM (lv_sub hl [1, 2, 3, 4, 5, 6, 0] rfl) hF
                        · have hF := (if_neg b22).symm.trans hF
                          refine lv_bipush (v := (-13)) S.1 S.2.1 dX12_copy_116 (by decide) ?_
                          cases hF
                          exact z_m (v := (-13)) S hM hr hlk rfl dX12_copy_118
              · have hF := (if_neg b15).symm.trans hF
                refine lv_bipush (v := (-12)) S.1 S.2.1 dX12_copy_72 (by decide) ?_
                cases hF
                exact z_m (v := (-12)) S hM hr hlk rfl dX12_copy_74
        · have hF := (if_pos b8).symm.trans hF
          refine lv_bipush (v := (-11)) S.1 S.2.1 dX12_copy_34 (by decide) ?_
          cases hF
          exact z_m (v := (-11)) S hM hr hlk rfl dX12_copy_36
    · have hF := (if_pos b4).symm.trans hF
      refine lv_iconst (v := (-1)) S.1 S.2.1 dX12_copy_14 (by decide) ?_
      cases hF
      exact z_m (v := (-1)) S hM hr hlk rfl dX12_copy_15
/-! X12_costBy -/
def X12_costBy (a0 : Int32) (a1 : Int32) : Option Int32 := if a0 = 1 then (some 6) else (if a0 = 2 then (some (2 + a1)) else (if a0 = 3 then (some 1) else (if a0 = 4 then (some ((2 + a1) / 2)) else (if a0 = 5 then (some 3) else (if a0 = 6 then (some a1) else (if a0 = 7 then (some 0) else (some 2)))))))
set_option maxRecDepth 20000 in
theorem c_X12_costBy {l : Launch} {g : GE} {A : Nat → Prop} {σ : IM} {a0 : Int32} {a1 : Int32} {out : Int32} (hF : X12_costBy a0 a1 = some out) : Met l yX12_costBy (.code yX12_costBy cX12_costBy 2 (some .int) :: UL) ({ frames := 0, cells := 0, slots := 0, locals := 0 }) (va_Pc [.int a0, .int a1] (PreM lyM 13 g A [] σ nor)) (Qp (some (.int out))) 0 0 NoA := by
  refine e_of (by decide) (Nat.le_of_ble_eq_true rfl) ?_
  intro p e s m below meth c ls S hr hlk hv hl
  have hM := Mem.of hv
  have hK := hv.2.1
  have hl : lv_has ls 2 [(0, .int a0), (1, .int a1)] := hl
  unfold X12_costBy at hF
  refine lv_iload_n S.1 S.2.1 dX12_costBy_0 rfl (lv_at hl 0 rfl) ?_
  by_cases b1 : a0 = 1
  · have hF := (if_pos b1).symm.trans hF
    refine r_tab (off := 43) (tgt := 44) S dX12_costBy_1 b1 (by decide) (by decide) ?_
    refine lv_bipush (v := 6) S.1 S.2.1 dX12_costBy_44 (by decide) ?_
    cases hF
    exact z_p S hr hlk rfl dX12_costBy_46
  · have hF := (if_neg b1).symm.trans hF
    by_cases b2 : a0 = 2
    · have hF := (if_pos b2).symm.trans hF
      refine r_tab (off := 46) (tgt := 47) S dX12_costBy_1 b2 (by decide) (by decide) ?_
      refine lv_iconst (v := 2) S.1 S.2.1 dX12_costBy_47 (by decide) ?_
      refine lv_iload_n S.1 S.2.1 dX12_costBy_48 rfl (lv_at hl 1 rfl) ?_
      refine lv_iadd S.1 S.2.1 dX12_costBy_49 ?_
      cases hF
      exact z_p S hr hlk rfl dX12_costBy_50
    · have hF := (if_neg b2).symm.trans hF
      by_cases b3 : a0 = 3
      · have hF := (if_pos b3).symm.trans hF
        refine r_tab (off := 50) (tgt := 51) S dX12_costBy_1 b3 (by decide) (by decide) ?_
        refine lv_iconst (v := 1) S.1 S.2.1 dX12_costBy_51 (by decide) ?_
        cases hF
        exact z_p S hr hlk rfl dX12_costBy_52
      · have hF := (if_neg b3).symm.trans hF
        by_cases b4 : a0 = 4
        · have hF := (if_pos b4).symm.trans hF
          refine r_tab (off := 52) (tgt := 53) S dX12_costBy_1 b4 (by decide) (by decide) ?_
          refine lv_iconst (v := 2) S.1 S.2.1 dX12_costBy_53 (by decide) ?_
          refine lv_iload_n S.1 S.2.1 dX12_costBy_54 rfl (lv_at hl 1 rfl) ?_
          refine lv_iadd S.1 S.2.1 dX12_costBy_55 ?_
          refine lv_iconst (v := 2) S.1 S.2.1 dX12_costBy_56 (by decide) ?_
          refine lv_idiv S.1 S.2.1 dX12_costBy_57 (by decide) ?_
          cases hF
          exact z_p S hr hlk rfl dX12_costBy_58
        · have hF := (if_neg b4).symm.trans hF
          by_cases b5 : a0 = 5
          · have hF := (if_pos b5).symm.trans hF
            refine r_tab (off := 58) (tgt := 59) S dX12_costBy_1 b5 (by decide) (by decide) ?_
            refine lv_iconst (v := 3) S.1 S.2.1 dX12_costBy_59 (by decide) ?_
            cases hF
            exact z_p S hr hlk rfl dX12_costBy_60
          · have hF := (if_neg b5).symm.trans hF
            by_cases b6 : a0 = 6
            · have hF := (if_pos b6).symm.trans hF
              refine r_tab (off := 60) (tgt := 61) S dX12_costBy_1 b6 (by decide) (by decide) ?_
              refine lv_iload_n S.1 S.2.1 dX12_costBy_61 rfl (lv_at hl 1 rfl) ?_
              cases hF
              exact z_p S hr hlk rfl dX12_costBy_62
            · have hF := (if_neg b6).symm.trans hF
              by_cases b7 : a0 = 7
              · have hF := (if_pos b7).symm.trans hF
                refine r_tab (off := 62) (tgt := 63) S dX12_costBy_1 b7 (by decide) (by decide) ?_
                refine lv_iconst (v := 0) S.1 S.2.1 dX12_costBy_63 (by decide) ?_
                cases hF
                exact z_p S hr hlk rfl dX12_costBy_64
              · have hF := (if_neg b7).symm.trans hF
                refine r_tabD (tgt := 65) S dX12_costBy_1 (by have n0 := ne_toInt b1 (k := 1) (by decide); have n1 := ne_toInt b2 (k := 2) (by decide); have n2 := ne_toInt b3 (k := 3) (by decide); have n3 := ne_toInt b4 (k := 4) (by decide); have n4 := ne_toInt b5 (k := 5) (by decide); have n5 := ne_toInt b6 (k := 6) (by decide); have n6 := ne_toInt b7 (k := 7) (by decide); omega) (by decide) ?_
                refine lv_iconst (v := 2) S.1 S.2.1 dX12_costBy_65 (by decide) ?_
                cases hF
                exact z_p S hr hlk rfl dX12_costBy_66
/-! X12_cost -/
def X12_cost (σ : IM) (a1 : Int32) : Option Int32 := bd1 (X12_wrongKept σ a1) fun r1 => if r1 = 0 then (rd (σ 8) 8 a1 fun v3 => rd (σ 9) 8 a1 fun v4 => bd1 (X12_costBy v3 v4) fun r5 => some r5) else (some r1)
set_option maxRecDepth 20000 in
theorem c_X12_cost {l : Launch} {g : GE} {A : Nat → Prop} {σ : IM} {a1 : Int32} {out : Int32} (hF : X12_cost σ a1 = some out) : Met l yX12_cost (.code yX12_cost cX12_cost 3 (some .int) :: UL) ({ frames := 3, cells := 0, slots := 0, locals := 63 }) (va_Pc [.ref (g.2.2 0), .int a1] (PreM lyM 13 g A [] σ nor)) (Qp (some (.int out))) 0 0 NoA := by
  refine e_of (by decide) (Nat.le_of_ble_eq_true rfl) ?_
  intro p e s m below meth c ls S hr hlk hv hl
  have hM := Mem.of hv
  have hK := hv.2.1
  have hl : lv_has ls 3 [(0, .ref (g.2.2 0)), (1, .int a1)] := hl
  unfold X12_cost at hF
  refine lv_aload_n S.1 S.2.1 dX12_cost_0 rfl (lv_at hl 0 rfl) ?_
  refine lv_iload_n S.1 S.2.1 dX12_cost_1 rfl (lv_at hl 1 rfl) ?_
  obtain ⟨r1, er1, hF⟩ := bd1_some hF
  refine k_p (va_runV (As := [.int a1]) (rest := []) S (c_X12_wrongKept   er1) (cwV 1 S.2.2.2.2 (ul_V tw_5_219 tw_5_221 ts_X12_wrongKept tw_1_12 cw_X12_wrongKept) rfl rfl rfl hv_X12_wrongKept ⟨Nat.le_of_ble_eq_true rfl, Nat.le_of_ble_eq_true rfl⟩) ⟨PreM.blind, hM.recv hK cfX12 0 (by decide) lm_0, hM.pre hK⟩ rfl rfl hl.1 rfl (lv_room (Nat.le_of_ble_eq_true rfl)) dX12_cost_2 ⟨Nat.zero_le _, Nat.zero_le _⟩) ?_
  refine lv_istore_n (lv' := [(2, .int r1), (0, .ref (g.2.2 0)), (1, .int a1)]) S.1 S.2.1 dX12_cost_5 rfl hl (by decide) rfl (fun ls hl => ?_)
  refine lv_iload_n S.1 S.2.1 dX12_cost_6 rfl (lv_at hl 0 rfl) ?_
  refine lv_if_eq (tgt := 14) S.1 S.2.1 dX12_cost_7 (by decide) (fun b2 => ?_) (fun b2 => ?_)
  · have hF := (if_pos b2).symm.trans hF
    refine lv_aload_n S.1 S.2.1 dX12_cost_14 rfl (lv_at hl 1 rfl) ?_
    refine r_getC S hK hM cfX12 0 14 8 (by decide) lm_0 rfl (by decide) tw_5_45 dX12_cost_15 ?_
    refine lv_iload_n S.1 S.2.1 dX12_cost_18 rfl (lv_at hl 2 rfl) ?_
    obtain ⟨hv3, v3, ev3, hF⟩ := rd_some hF
    refine r_iald S hK hM 8 (by decide) rfl hv3 ev3 dX12_cost_19 ?_
    refine lv_aload_n S.1 S.2.1 dX12_cost_20 rfl (lv_at hl 1 rfl) ?_
    refine r_getC S hK hM cfX12 0 15 9 (by decide) lm_0 rfl (by decide) tw_5_46 dX12_cost_21 ?_
    refine lv_iload_n S.1 S.2.1 dX12_cost_24 rfl (lv_at hl 2 rfl) ?_
    obtain ⟨hv4, v4, ev4, hF⟩ := rd_some hF
    refine r_iald S hK hM 9 (by decide) rfl hv4 ev4 dX12_cost_25 ?_
    obtain ⟨r5, er5, hF⟩ := bd1_some hF
    refine k_p (va_runS (As := [.int v3, .int v4]) (rest := []) S (c_X12_costBy   er5) (va_cwS 2 S.2.2.2.2 (ul_S tw_6_218 tw_6_219 tw_1_12 cw_X12_costBy) rfl rfl rfl hs_X12_costBy ⟨Nat.le_of_ble_eq_true rfl, Nat.le_of_ble_eq_true rfl⟩) ⟨PreM.blind, hM.pre hK⟩ rfl rfl hl.1 rfl (lv_room (Nat.le_of_ble_eq_true rfl)) dX12_cost_26 ⟨Nat.zero_le _, Nat.zero_le _⟩) ?_
    cases hF
    exact z_p S hr hlk rfl dX12_cost_29
  · have hF := (if_neg b2).symm.trans hF
    refine lv_iload_n S.1 S.2.1 dX12_cost_10 rfl (lv_at hl 0 rfl) ?_
    refine lv_goto (tgt := 29) S.1 S.2.1 dX12_cost_11 (by decide) ?_
    cases hF
    exact z_p S hr hlk rfl dX12_cost_29
/-! X12_toss -/
def X12_toss (σ : IM) (a1 : Int32) : Option Int32 := bd1 (X12_wrongKept σ a1) fun r1 => if r1 = 0 then (rd (σ 8) 8 a1 fun v3 => rd (σ 9) 8 a1 fun v4 => if v3 = 3 then (some (-15)) else (if v3 = 5 then (some (-15)) else (if v3 = 7 then (some (-15)) else (if v4 = 0 then (some (-15)) else (if v3 = 4 then (bd1 (X12_costBy v3 v4) fun r11 => some (200 + r11)) else (if v3 = 2 then (some (100 + v4)) else (some v4))))))) else (some r1)
set_option maxRecDepth 20000 in
theorem c_X12_toss {l : Launch} {g : GE} {A : Nat → Prop} {σ : IM} {a1 : Int32} {out : Int32} (hF : X12_toss σ a1 = some out) : Met l yX12_toss (.code yX12_toss cX12_toss 5 (some .int) :: UL) ({ frames := 3, cells := 0, slots := 0, locals := 63 }) (va_Pc [.ref (g.2.2 0), .int a1] (PreM lyM 13 g A [] σ nor)) (Qp (some (.int out))) 0 0 NoA := by
  refine e_of (by decide) (Nat.le_of_ble_eq_true rfl) ?_
  intro p e s m below meth c ls S hr hlk hv hl
  have hM := Mem.of hv
  have hK := hv.2.1
  have hl : lv_has ls 5 [(0, .ref (g.2.2 0)), (1, .int a1)] := hl
  unfold X12_toss at hF
  refine lv_aload_n S.1 S.2.1 dX12_toss_0 rfl (lv_at hl 0 rfl) ?_
  refine lv_iload_n S.1 S.2.1 dX12_toss_1 rfl (lv_at hl 1 rfl) ?_
  obtain ⟨r1, er1, hF⟩ := bd1_some hF
  refine k_p (va_runV (As := [.int a1]) (rest := []) S (c_X12_wrongKept   er1) (cwV 1 S.2.2.2.2 (ul_V tw_5_219 tw_5_221 ts_X12_wrongKept tw_1_12 cw_X12_wrongKept) rfl rfl rfl hv_X12_wrongKept ⟨Nat.le_of_ble_eq_true rfl, Nat.le_of_ble_eq_true rfl⟩) ⟨PreM.blind, hM.recv hK cfX12 0 (by decide) lm_0, hM.pre hK⟩ rfl rfl hl.1 rfl (lv_room (Nat.le_of_ble_eq_true rfl)) dX12_toss_2 ⟨Nat.zero_le _, Nat.zero_le _⟩) ?_
  refine lv_istore_n (lv' := [(2, .int r1), (0, .ref (g.2.2 0)), (1, .int a1)]) S.1 S.2.1 dX12_toss_5 rfl hl (by decide) rfl (fun ls hl => ?_)
  refine lv_iload_n S.1 S.2.1 dX12_toss_6 rfl (lv_at hl 0 rfl) ?_
  refine lv_if_eq (tgt := 12) S.1 S.2.1 dX12_toss_7 (by decide) (fun b2 => ?_) (fun b2 => ?_)
  · have hF := (if_pos b2).symm.trans hF
    refine lv_aload_n S.1 S.2.1 dX12_toss_12 rfl (lv_at hl 1 rfl) ?_
    refine r_getC S hK hM cfX12 0 14 8 (by decide) lm_0 rfl (by decide) tw_5_45 dX12_toss_13 ?_
    refine lv_iload_n S.1 S.2.1 dX12_toss_16 rfl (lv_at hl 2 rfl) ?_
    obtain ⟨hv3, v3, ev3, hF⟩ := rd_some hF
    refine r_iald S hK hM 8 (by decide) rfl hv3 ev3 dX12_toss_17 ?_
    refine lv_istore_n (lv' := [(3, .int v3), (2, .int r1), (0, .ref (g.2.2 0)), (1, .int a1)]) S.1 S.2.1 dX12_toss_18 rfl hl (by decide) rfl (fun ls hl => ?_)
    refine lv_aload_n S.1 S.2.1 dX12_toss_19 rfl (lv_at hl 2 rfl) ?_
    refine r_getC S hK hM cfX12 0 15 9 (by decide) lm_0 rfl (by decide) tw_5_46 dX12_toss_20 ?_
    refine lv_iload_n S.1 S.2.1 dX12_toss_23 rfl (lv_at hl 3 rfl) ?_
    obtain ⟨hv4, v4, ev4, hF⟩ := rd_some hF
    refine r_iald S hK hM 9 (by decide) rfl hv4 ev4 dX12_toss_24 ?_
    refine lv_istore (lv' := [(4, .int v4), (3, .int v3), (2, .int r1), (0, .ref (g.2.2 0)), (1, .int a1)]) S.1 S.2.1 dX12_toss_25 hl (by decide) rfl (fun ls hl => ?_)
    refine lv_iload_n S.1 S.2.1 dX12_toss_27 rfl (lv_at hl 1 rfl) ?_
    refine lv_iconst (v := 3) S.1 S.2.1 dX12_toss_28 (by decide) ?_
    refine lv_icmp_eq (tgt := 48) S.1 S.2.1 dX12_toss_29 (by decide) (fun b5 => ?_) (fun b5 => ?_)
    · have hF := (if_pos b5).symm.trans hF
      refine lv_bipush (v := (-15)) S.1 S.2.1 dX12_toss_48 (by decide) ?_
      cases hF
      exact z_p S hr hlk rfl dX12_toss_50
    · have hF := (if_neg b5).symm.trans hF
      refine lv_iload_n S.1 S.2.1 dX12_toss_32 rfl (lv_at hl 1 rfl) ?_
      refine lv_iconst (v := 5) S.1 S.2.1 dX12_toss_33 (by decide) ?_
      refine lv_icmp_eq (tgt := 48) S.1 S.2.1 dX12_toss_34 (by decide) (fun b6 => ?_) (fun b6 => ?_)
      · have hF := (if_pos b6).symm.trans hF
        refine lv_bipush (v := (-15)) S.1 S.2.1 dX12_toss_48 (by decide) ?_
        cases hF
        exact z_p S hr hlk rfl dX12_toss_50
      · have hF := (if_neg b6).symm.trans hF
        refine lv_iload_n S.1 S.2.1 dX12_toss_37 rfl (lv_at hl 1 rfl) ?_
        refine lv_bipush (v := 7) S.1 S.2.1 dX12_toss_38 (by decide) ?_
        refine lv_icmp_eq (tgt := 48) S.1 S.2.1 dX12_toss_40 (by decide) (fun b7 => ?_) (fun b7 => ?_)
        · have hF := (if_pos b7).symm.trans hF
          refine lv_bipush (v := (-15)) S.1 S.2.1 dX12_toss_48 (by decide) ?_
          cases hF
          exact z_p S hr hlk rfl dX12_toss_50
        · have hF := (if_neg b7).symm.trans hF
          refine lv_iload S.1 S.2.1 dX12_toss_43 (lv_at hl 0 rfl) ?_
          refine lv_if_ne (tgt := 51) S.1 S.2.1 dX12_toss_45 (by decide) (fun b8 => ?_) (fun b8 => ?_)
          · have hF := (if_neg b8).symm.trans hF
            refine lv_iload_n S.1 S.2.1 dX12_toss_51 rfl (lv_at hl 1 rfl) ?_
            refine lv_iconst (v := 4) S.1 S.2.1 dX12_toss_52 (by decide) ?_
            refine lv_icmp_ne (tgt := 69) S.1 S.2.1 dX12_toss_53 (by decide) (fun b9 => ?_) (fun b9 => ?_)
            · have hF := (if_neg b9).symm.trans hF
              refine lv_iload_n S.1 S.2.1 dX12_toss_69 rfl (lv_at hl 1 rfl) ?_
              refine lv_iconst (v := 2) S.1 S.2.1 dX12_toss_70 (by decide) ?_
              refine lv_icmp_ne (tgt := 82) S.1 S.2.1 dX12_toss_71 (by decide) (fun b10 => ?_) (fun b10 => ?_)
              · have hF := (if_neg b10).symm.trans hF
                refine lv_iload S.1 S.2.1 dX12_toss_82 (lv_at hl 0 rfl) ?_
                cases hF
                exact z_p S hr hlk rfl dX12_toss_84
              · have hF := (if_pos b10).symm.trans hF
                refine lv_bipush (v := 100) S.1 S.2.1 dX12_toss_74 (by decide) ?_
                refine lv_iload S.1 S.2.1 dX12_toss_76 (lv_at hl 0 rfl) ?_
                refine lv_iadd S.1 S.2.1 dX12_toss_78 ?_
                refine lv_goto (tgt := 84) S.1 S.2.1 dX12_toss_79 (by decide) ?_
                cases hF
                exact z_p S hr hlk rfl dX12_toss_84
            · have hF := (if_pos b9).symm.trans hF
              refine lv_sipush (v := 200) S.1 S.2.1 dX12_toss_56 (by decide) ?_
              refine lv_iload_n S.1 S.2.1 dX12_toss_59 rfl (lv_at hl 1 rfl) ?_
              refine lv_iload S.1 S.2.1 dX12_toss_60 (lv_at hl 0 rfl) ?_
              obtain ⟨r11, er11, hF⟩ := bd1_some hF
              refine k_p (va_runS (As := [.int v3, .int v4]) (rest := [.int 200]) S (c_X12_costBy   er11) (va_cwS 2 S.2.2.2.2 (ul_S tw_6_218 tw_6_219 tw_1_12 cw_X12_costBy) rfl rfl rfl hs_X12_costBy ⟨Nat.le_of_ble_eq_true rfl, Nat.le_of_ble_eq_true rfl⟩) ⟨PreM.blind, hM.pre hK⟩ rfl rfl hl.1 rfl (lv_room (Nat.le_of_ble_eq_true rfl)) dX12_toss_62 ⟨Nat.zero_le _, Nat.zero_le _⟩) ?_
              refine lv_iadd S.1 S.2.1 dX12_toss_65 ?_
              refine lv_goto (tgt := 84) S.1 S.2.1 dX12_toss_66 (by decide) ?_
              cases hF
              exact z_p S hr hlk rfl dX12_toss_84
          · have hF := (if_pos b8).symm.trans hF
            refine lv_bipush (v := (-15)) S.1 S.2.1 dX12_toss_48 (by decide) ?_
            cases hF
            exact z_p S hr hlk rfl dX12_toss_50
  · have hF := (if_neg b2).symm.trans hF
    refine lv_iload_n S.1 S.2.1 dX12_toss_10 rfl (lv_at hl 0 rfl) ?_
    cases hF
    exact z_p S hr hlk rfl dX12_toss_11
