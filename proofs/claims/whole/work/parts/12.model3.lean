/-! X12_wins -/
def X12_wins (σ : IM) (a1 : Int32) (a2 : Int32) : Option (Int32 × IM) := bd1 (X12_isHit σ a1 a2) fun r1 => if r1 = 0 then (some ((-1), σ)) else (bd2 (X12_isWon σ a1 a2) fun r5 σ3 => if r5 = 0 then (some (0, σ3)) else (some (1, σ3)))
set_option maxRecDepth 20000 in
theorem c_X12_wins {l : Launch} {g : GE} {A : Nat → Prop} {σ : IM} {a1 : Int32} {a2 : Int32} {out : Int32 × IM} (hF : X12_wins σ a1 a2 = some out) : Met l yX12_wins (.code yX12_wins cX12_wins 3 (some .int) :: UL) ({ frames := 5, cells := 0, slots := 0, locals := 121 }) (va_Pc [.ref (g.2.2 0), .int a1, .int a2] (PreM lyM 13 g A [] σ nor)) (Qm lyM 13 g A [] out.2 nor (some (.int out.1))) 0 0 A := by
  refine e_of (by decide) (Nat.le_of_ble_eq_true rfl) ?_
  intro p e s m below meth c ls S hr hlk hv hl
  have hM := Mem.of hv
  have hK := hv.2.1
  have hl : lv_has ls 3 [(0, .ref (g.2.2 0)), (1, .int a1), (2, .int a2)] := hl
  unfold X12_wins at hF
  refine lv_aload_n S.1 S.2.1 dX12_wins_0 rfl (lv_at hl 0 rfl) ?_
  refine lv_iload_n S.1 S.2.1 dX12_wins_1 rfl (lv_at hl 1 rfl) ?_
  refine lv_iload_n S.1 S.2.1 dX12_wins_2 rfl (lv_at hl 2 rfl) ?_
  obtain ⟨r1, er1, hF⟩ := bd1_some hF
  refine k_p (va_runV (As := [.int a1, .int a2]) (rest := []) S (c_X12_isHit   er1) (cwV 2 S.2.2.2.2 (ul_V tw_6_11 tw_6_13 ts_X12_isHit tw_1_12 cw_X12_isHit) rfl rfl rfl hv_X12_isHit ⟨Nat.le_of_ble_eq_true rfl, Nat.le_of_ble_eq_true rfl⟩) ⟨PreM.blind, hM.recv hK cfX12 0 (by decide) lm_0, hM.pre hK⟩ rfl rfl hl.1 rfl (lv_room (Nat.le_of_ble_eq_true rfl)) dX12_wins_3 ⟨Nat.zero_le _, Nat.zero_le _⟩) ?_
  refine lv_if_ne (tgt := 13) S.1 S.2.1 dX12_wins_6 (by decide) (fun b2 => ?_) (fun b2 => ?_)
  · have hF := (if_neg b2).symm.trans hF
    refine lv_aload_n S.1 S.2.1 dX12_wins_13 rfl (lv_at hl 0 rfl) ?_
    refine lv_iload_n S.1 S.2.1 dX12_wins_14 rfl (lv_at hl 1 rfl) ?_
    refine lv_iload_n S.1 S.2.1 dX12_wins_15 rfl (lv_at hl 2 rfl) ?_
    obtain ⟨r5, σ3, er5, hF⟩ := bd2_some hF
    refine k_m (va_runV (As := [.int a1, .int a2]) (rest := []) S (c_X12_isWon   er5) (cwV 2 S.2.2.2.2 (ul_V tw_6_27 tw_6_29 ts_X12_isWon tw_1_12 cw_X12_isWon) rfl rfl rfl hv_X12_isWon ⟨Nat.le_of_ble_eq_true rfl, Nat.le_of_ble_eq_true rfl⟩) ⟨PreM.blind, hM.recv hK cfX12 0 (by decide) lm_0, hM.pre hK⟩ rfl rfl hl.1 rfl (lv_room (Nat.le_of_ble_eq_true rfl)) dX12_wins_16 ⟨Nat.zero_le _, Nat.zero_le _⟩) hM (fun H locs hM => ?_)
    show W _ _ _ _ _ _ _ _ _ _ _ _ _ _ _ (F0 m 19 ls [.int r5])
    refine lv_if_eq (tgt := 26) S.1 S.2.1 dX12_wins_19 (by decide) (fun b6 => ?_) (fun b6 => ?_)
    · have hF := (if_pos b6).symm.trans hF
      refine lv_iconst (v := 0) S.1 S.2.1 dX12_wins_26 (by decide) ?_
      cases hF
      exact z_m (v := 0) S hM hr hlk rfl dX12_wins_27
    · have hF := (if_neg b6).symm.trans hF
      refine lv_iconst (v := 1) S.1 S.2.1 dX12_wins_22 (by decide) ?_
      refine lv_goto (tgt := 27) S.1 S.2.1 dX12_wins_23 (by decide) ?_
      cases hF
      exact z_m (v := 1) S hM hr hlk rfl dX12_wins_27
  · have hF := (if_pos b2).symm.trans hF
    refine lv_iconst (v := (-1)) S.1 S.2.1 dX12_wins_9 (by decide) ?_
    refine lv_goto (tgt := 27) S.1 S.2.1 dX12_wins_10 (by decide) ?_
    cases hF
    exact z_m (v := (-1)) S hM hr hlk rfl dX12_wins_27
/-! X12_falls -/
def X12_falls (σ : IM) (a1 : Int32) (a2 : Int32) : Option Int32 := bd1 (X12_isHit σ a1 a2) fun r1 => if r1 = 0 then (some (-1)) else (bd1 (X12_fallsIn σ 1 a1 a2) fun r3 => some r3)
set_option maxRecDepth 20000 in
theorem c_X12_falls {l : Launch} {g : GE} {A : Nat → Prop} {σ : IM} {a1 : Int32} {a2 : Int32} {out : Int32} (hF : X12_falls σ a1 a2 = some out) : Met l yX12_falls (.code yX12_falls cX12_falls 3 (some .int) :: UL) ({ frames := 3, cells := 0, slots := 0, locals := 65 }) (va_Pc [.ref (g.2.2 0), .int a1, .int a2] (PreM lyM 13 g A [] σ nor)) (Qp (some (.int out))) 0 0 NoA := by
  refine e_of (by decide) (Nat.le_of_ble_eq_true rfl) ?_
  intro p e s m below meth c ls S hr hlk hv hl
  have hM := Mem.of hv
  have hK := hv.2.1
  have hl : lv_has ls 3 [(0, .ref (g.2.2 0)), (1, .int a1), (2, .int a2)] := hl
  unfold X12_falls at hF
  refine lv_aload_n S.1 S.2.1 dX12_falls_0 rfl (lv_at hl 0 rfl) ?_
  refine lv_iload_n S.1 S.2.1 dX12_falls_1 rfl (lv_at hl 1 rfl) ?_
  refine lv_iload_n S.1 S.2.1 dX12_falls_2 rfl (lv_at hl 2 rfl) ?_
  obtain ⟨r1, er1, hF⟩ := bd1_some hF
  refine k_p (va_runV (As := [.int a1, .int a2]) (rest := []) S (c_X12_isHit   er1) (cwV 2 S.2.2.2.2 (ul_V tw_6_11 tw_6_13 ts_X12_isHit tw_1_12 cw_X12_isHit) rfl rfl rfl hv_X12_isHit ⟨Nat.le_of_ble_eq_true rfl, Nat.le_of_ble_eq_true rfl⟩) ⟨PreM.blind, hM.recv hK cfX12 0 (by decide) lm_0, hM.pre hK⟩ rfl rfl hl.1 rfl (lv_room (Nat.le_of_ble_eq_true rfl)) dX12_falls_3 ⟨Nat.zero_le _, Nat.zero_le _⟩) ?_
  refine lv_if_eq (tgt := 21) S.1 S.2.1 dX12_falls_6 (by decide) (fun b2 => ?_) (fun b2 => ?_)
  · have hF := (if_pos b2).symm.trans hF
    refine lv_iconst (v := (-1)) S.1 S.2.1 dX12_falls_21 (by decide) ?_
    cases hF
    exact z_p S hr hlk rfl dX12_falls_22
  · have hF := (if_neg b2).symm.trans hF
    refine lv_aload_n S.1 S.2.1 dX12_falls_9 rfl (lv_at hl 0 rfl) ?_
    refine r_getC S hK hM cfX12 0 0 1 (by decide) lm_0 rfl (by decide) tw_5_31 dX12_falls_10 ?_
    refine lv_iload_n S.1 S.2.1 dX12_falls_13 rfl (lv_at hl 1 rfl) ?_
    refine lv_iload_n S.1 S.2.1 dX12_falls_14 rfl (lv_at hl 2 rfl) ?_
    obtain ⟨r3, er3, hF⟩ := bd1_some hF
    refine k_p (va_runS (As := [.ref (g.2.2 1), .int a1, .int a2]) (rest := []) S (c_X12_fallsIn  ar_1 er3) (va_cwS 3 S.2.2.2.2 (ul_S tw_5_153 tw_5_154 tw_1_12 cw_X12_fallsIn) rfl rfl rfl hs_X12_fallsIn ⟨Nat.le_of_ble_eq_true rfl, Nat.le_of_ble_eq_true rfl⟩) ⟨PreM.blind, hM.pre hK⟩ rfl rfl hl.1 rfl (lv_room (Nat.le_of_ble_eq_true rfl)) dX12_falls_15 ⟨Nat.zero_le _, Nat.zero_le _⟩) ?_
    refine lv_goto (tgt := 22) S.1 S.2.1 dX12_falls_18 (by decide) ?_
    cases hF
    exact z_p S hr hlk rfl dX12_falls_22
/-! X12_openTo -/
def X12_openTo_b27 (k4 : Int32 → Int32 → Int32 → IM → Option (Int32 × IM)) (x1 : Int32) (x3 : Int32) (t0 : Int32) (t1 : Int32) (σ : IM) : Option (Int32 × IM) := bd (t1 ||| t0) fun v6 => bd (x3 + 1) fun v7 => k4 x1 v6 v7 σ
set_option maxRecDepth 20000 in
theorem w_X12_openTo_27 {l : Launch} {g : GE} {A : Nat → Prop} {p : Program} {e : Env} {s : State} {m : MethodId} {args : Array Value} {below : List Frame} {meth : Method} {c : Code} (S : CallFix p m c cX12_openTo 4 s args UL RX12) (hK : KK g s) (hr : meth.sig.returnType = (some .int)) (hlk : meth.locks = false) {out : Int32 × IM} {k4 : Int32 → Int32 → Int32 → IM → Option (Int32 × IM)} (hk4 : ∀ {x1 : Int32} {x2 : Int32} {x3 : Int32} {σ : IM} {H : Heap} {locs : List Loc} {ls : Array Slot}, Mem lyM 13 g A [] σ nor s.heap H locs → lv_has ls 4 [(0, .ref (g.2.2 0)), (1, .int x1), (2, .int x2), (3, .int x3)] → k4 x1 x2 x3 σ = some out → W p l e ({ frames := 5, cells := 0, slots := 0, locals := 121 }) s m args below meth c H locs 0 0 (MQ below (Qm lyM 13 g A [] out.2 nor (some (.int out.1))) args s 0 0 A) (F0 m 4 ls [])) : ∀ {x1 : Int32} {x3 : Int32} {t0 : Int32} {t1 : Int32} {σ : IM} {H : Heap} {locs : List Loc} {ls : Array Slot}, Mem lyM 13 g A [] σ nor s.heap H locs → lv_has ls 4 [(0, .ref (g.2.2 0)), (1, .int x1), (3, .int x3)] → X12_openTo_b27 k4 x1 x3 t0 t1 σ = some out → W p l e ({ frames := 5, cells := 0, slots := 0, locals := 121 }) s m args below meth c H locs 0 0 (MQ below (Qm lyM 13 g A [] out.2 nor (some (.int out.1))) args s 0 0 A) (F0 m 27 ls [.int t0, .int t1]) := by
  intro x1 x3 t0 t1 σ H locs ls hM hl hF
  unfold X12_openTo_b27 at hF
  refine lv_ior S.1 S.2.1 dX12_openTo_27 ?_
  refine lv_topi (fun v6 ev6 => ?_)
  have hF := bd_at ev6 hF
  refine lv_istore_n (lv' := [(2, .int v6), (0, .ref (g.2.2 0)), (1, .int x1), (3, .int x3)]) S.1 S.2.1 dX12_openTo_28 rfl hl (by decide) rfl (fun ls hl => ?_)
  obtain ⟨v7, ev7, hF⟩ := bd_some hF
  refine lv_iinc (v := v7) (lv' := [(3, .int v7), (2, .int v6), (0, .ref (g.2.2 0)), (1, .int x1)]) S.1 S.2.1 dX12_openTo_29 hl (k := 3) rfl (by rw [ev7]; rfl) (by decide) rfl (fun ls hl => ?_)
  refine lv_goto (tgt := 4) S.1 S.2.1 dX12_openTo_32 (by decide) ?_
  exact hk4 hM (lv_sub hl [2, 3, 1, 0] rfl)  hF
def X12_openTo_s4 (k4 : Int32 → Int32 → Int32 → IM → Option (Int32 × IM)) (x1 : Int32) (x2 : Int32) (x3 : Int32) (σ : IM) : Option (Int32 × IM) := if 9 ≤ x3 then (some (x2, σ)) else (bd2 (X12_isWon σ x1 x3) fun r4 σ2 => if r4 = 0 then (X12_openTo_b27 k4 x1 x3 0 x2 σ2) else (X12_openTo_b27 k4 x1 x3 (1 <<< (x3 &&& 31)) x2 σ2))
def X12_openTo_b4 : Nat → Int32 → Int32 → Int32 → IM → Option (Int32 × IM)
  | 0 => fun _ _ _ _ => none
  | n + 1 => X12_openTo_s4 (X12_openTo_b4 n)
set_option maxRecDepth 20000 in
theorem w_X12_openTo_4 {l : Launch} {g : GE} {A : Nat → Prop} {p : Program} {e : Env} {s : State} {m : MethodId} {args : Array Value} {below : List Frame} {meth : Method} {c : Code} (S : CallFix p m c cX12_openTo 4 s args UL RX12) (hK : KK g s) (hr : meth.sig.returnType = (some .int)) (hlk : meth.locks = false) {out : Int32 × IM} {k4 : Int32 → Int32 → Int32 → IM → Option (Int32 × IM)} (hk4 : ∀ {x1 : Int32} {x2 : Int32} {x3 : Int32} {σ : IM} {H : Heap} {locs : List Loc} {ls : Array Slot}, Mem lyM 13 g A [] σ nor s.heap H locs → lv_has ls 4 [(0, .ref (g.2.2 0)), (1, .int x1), (2, .int x2), (3, .int x3)] → k4 x1 x2 x3 σ = some out → W p l e ({ frames := 5, cells := 0, slots := 0, locals := 121 }) s m args below meth c H locs 0 0 (MQ below (Qm lyM 13 g A [] out.2 nor (some (.int out.1))) args s 0 0 A) (F0 m 4 ls [])) : ∀ {x1 : Int32} {x2 : Int32} {x3 : Int32} {σ : IM} {H : Heap} {locs : List Loc} {ls : Array Slot}, Mem lyM 13 g A [] σ nor s.heap H locs → lv_has ls 4 [(0, .ref (g.2.2 0)), (1, .int x1), (2, .int x2), (3, .int x3)] → X12_openTo_s4 k4 x1 x2 x3 σ = some out → W p l e ({ frames := 5, cells := 0, slots := 0, locals := 121 }) s m args below meth c H locs 0 0 (MQ below (Qm lyM 13 g A [] out.2 nor (some (.int out.1))) args s 0 0 A) (F0 m 4 ls []) := by
  intro x1 x2 x3 σ H locs ls hM hl hF
  unfold X12_openTo_s4 at hF
  refine lv_iload_n S.1 S.2.1 dX12_openTo_4 rfl (lv_at hl 3 rfl) ?_
  refine lv_bipush (v := 9) S.1 S.2.1 dX12_openTo_5 (by decide) ?_
  refine lv_icmp_ge (tgt := 35) S.1 S.2.1 dX12_openTo_7 (by decide) (fun b1 => ?_) (fun b1 => ?_)
  · have hF := (if_pos b1).symm.trans hF
    refine lv_iload_n S.1 S.2.1 dX12_openTo_35 rfl (lv_at hl 2 rfl) ?_
    cases hF
    exact z_m (v := x2) S hM hr hlk rfl dX12_openTo_36
  · have hF := (if_neg b1).symm.trans hF
    refine lv_iload_n S.1 S.2.1 dX12_openTo_10 rfl (lv_at hl 2 rfl) ?_
    refine lv_aload_n S.1 S.2.1 dX12_openTo_11 rfl (lv_at hl 0 rfl) ?_
    refine lv_iload_n S.1 S.2.1 dX12_openTo_12 rfl (lv_at hl 1 rfl) ?_
    refine lv_iload_n S.1 S.2.1 dX12_openTo_13 rfl (lv_at hl 3 rfl) ?_
    obtain ⟨r4, σ2, er4, hF⟩ := bd2_some hF
    refine k_m (va_runV (As := [.int x1, .int x3]) (rest := [.int x2]) S (c_X12_isWon   er4) (cwV 2 S.2.2.2.2 (ul_V tw_6_27 tw_6_29 ts_X12_isWon tw_1_12 cw_X12_isWon) rfl rfl rfl hv_X12_isWon ⟨Nat.le_of_ble_eq_true rfl, Nat.le_of_ble_eq_true rfl⟩) ⟨PreM.blind, hM.recv hK cfX12 0 (by decide) lm_0, hM.pre hK⟩ rfl rfl hl.1 rfl (lv_room (Nat.le_of_ble_eq_true rfl)) dX12_openTo_14 ⟨Nat.zero_le _, Nat.zero_le _⟩) hM (fun H locs hM => ?_)
    show W _ _ _ _ _ _ _ _ _ _ _ _ _ _ _ (F0 m 17 ls [.int r4, .int x2])
    refine lv_if_eq (tgt := 26) S.1 S.2.1 dX12_openTo_17 (by decide) (fun b5 => ?_) (fun b5 => ?_)
    · have hF := (if_pos b5).symm.trans hF
      refine lv_iconst (v := 0) S.1 S.2.1 dX12_openTo_26 (by decide) ?_
      exact w_X12_openTo_27 S hK hr hlk hk4 hM (lv_sub hl [0, 1, 3] rfl) hF
    · have hF := (if_neg b5).symm.trans hF
      refine lv_iconst (v := 1) S.1 S.2.1 dX12_openTo_20 (by decide) ?_
      refine lv_iload_n S.1 S.2.1 dX12_openTo_21 rfl (lv_at hl 3 rfl) ?_
      refine lv_ishl S.1 S.2.1 dX12_openTo_22 ?_
      refine lv_goto (tgt := 27) S.1 S.2.1 dX12_openTo_23 (by decide) ?_
      exact w_X12_openTo_27 S hK hr hlk hk4 hM (lv_sub hl [0, 1, 3] rfl) hF
theorem wl_X12_openTo_4 {l : Launch} {g : GE} {A : Nat → Prop} {p : Program} {e : Env} {s : State} {m : MethodId} {args : Array Value} {below : List Frame} {meth : Method} {c : Code} (S : CallFix p m c cX12_openTo 4 s args UL RX12) (hK : KK g s) (hr : meth.sig.returnType = (some .int)) (hlk : meth.locks = false) {out : Int32 × IM} : ∀ (n : Nat) {x1 : Int32} {x2 : Int32} {x3 : Int32} {σ : IM} {H : Heap} {locs : List Loc} {ls : Array Slot}, Mem lyM 13 g A [] σ nor s.heap H locs → lv_has ls 4 [(0, .ref (g.2.2 0)), (1, .int x1), (2, .int x2), (3, .int x3)] → X12_openTo_b4 n x1 x2 x3 σ = some out → W p l e ({ frames := 5, cells := 0, slots := 0, locals := 121 }) s m args below meth c H locs 0 0 (MQ below (Qm lyM 13 g A [] out.2 nor (some (.int out.1))) args s 0 0 A) (F0 m 4 ls []) := by
  intro n
  induction n with
  | zero =>
    intro x1 x2 x3 σ H locs ls hM hl hF
    cases hF
  | succ n ih =>
    intro x1 x2 x3 σ H locs ls hM hl hF
    exact w_X12_openTo_4 S hK hr hlk ih hM hl hF
def X12_openTo (σ : IM) (a1 : Int32) : Option (Int32 × IM) := X12_openTo_b4 1000 a1 0 0 σ
set_option maxRecDepth 20000 in
theorem c_X12_openTo {l : Launch} {g : GE} {A : Nat → Prop} {σ : IM} {a1 : Int32} {out : Int32 × IM} (hF : X12_openTo σ a1 = some out) : Met l yX12_openTo (.code yX12_openTo cX12_openTo 4 (some .int) :: UL) ({ frames := 5, cells := 0, slots := 0, locals := 121 }) (va_Pc [.ref (g.2.2 0), .int a1] (PreM lyM 13 g A [] σ nor)) (Qm lyM 13 g A [] out.2 nor (some (.int out.1))) 0 0 A := by
  refine e_of (by decide) (Nat.le_of_ble_eq_true rfl) ?_
  intro p e s m below meth c ls S hr hlk hv hl
  have hM := Mem.of hv
  have hK := hv.2.1
  have hl : lv_has ls 4 [(0, .ref (g.2.2 0)), (1, .int a1)] := hl
  unfold X12_openTo at hF
  refine lv_iconst (v := 0) S.1 S.2.1 dX12_openTo_0 (by decide) ?_
  refine lv_istore_n (lv' := [(2, .int 0), (0, .ref (g.2.2 0)), (1, .int a1)]) S.1 S.2.1 dX12_openTo_1 rfl hl (by decide) rfl (fun ls hl => ?_)
  refine lv_iconst (v := 0) S.1 S.2.1 dX12_openTo_2 (by decide) ?_
  refine lv_istore_n (lv' := [(3, .int 0), (2, .int 0), (0, .ref (g.2.2 0)), (1, .int a1)]) S.1 S.2.1 dX12_openTo_3 rfl hl (by decide) rfl (fun ls hl => ?_)
  exact wl_X12_openTo_4 S hK hr hlk 1000 hM (lv_sub hl [2, 3, 1, 0] rfl) hF
/-! X12_open -/
def X12_open (σ : IM) (a1 : Int32) : Option (Int32 × IM) := bd1 (X12_isStroke σ a1) fun r1 => if r1 = 0 then (some ((-1), σ)) else (bd2 (X12_openTo σ a1) fun r5 σ3 => some (r5, σ3))
set_option maxRecDepth 20000 in
theorem c_X12_open {l : Launch} {g : GE} {A : Nat → Prop} {σ : IM} {a1 : Int32} {out : Int32 × IM} (hF : X12_open σ a1 = some out) : Met l yX12_open (.code yX12_open cX12_open 2 (some .int) :: UL) ({ frames := 6, cells := 0, slots := 0, locals := 144 }) (va_Pc [.ref (g.2.2 0), .int a1] (PreM lyM 13 g A [] σ nor)) (Qm lyM 13 g A [] out.2 nor (some (.int out.1))) 0 0 A := by
  refine e_of (by decide) (Nat.le_of_ble_eq_true rfl) ?_
  intro p e s m below meth c ls S hr hlk hv hl
  have hM := Mem.of hv
  have hK := hv.2.1
  have hl : lv_has ls 2 [(0, .ref (g.2.2 0)), (1, .int a1)] := hl
  unfold X12_open at hF
  refine lv_aload_n S.1 S.2.1 dX12_open_0 rfl (lv_at hl 0 rfl) ?_
  refine lv_iload_n S.1 S.2.1 dX12_open_1 rfl (lv_at hl 1 rfl) ?_
  obtain ⟨r1, er1, hF⟩ := bd1_some hF
  refine k_p (va_runV (As := [.int a1]) (rest := []) S (c_X12_isStroke   er1) (cwV 1 S.2.2.2.2 (ul_V tw_5_138 tw_5_140 ts_X12_isStroke tw_1_12 cw_X12_isStroke) rfl rfl rfl hv_X12_isStroke ⟨Nat.le_of_ble_eq_true rfl, Nat.le_of_ble_eq_true rfl⟩) ⟨PreM.blind, hM.recv hK cfX12 0 (by decide) lm_0, hM.pre hK⟩ rfl rfl hl.1 rfl (lv_room (Nat.le_of_ble_eq_true rfl)) dX12_open_2 ⟨Nat.zero_le _, Nat.zero_le _⟩) ?_
  refine lv_if_eq (tgt := 16) S.1 S.2.1 dX12_open_5 (by decide) (fun b2 => ?_) (fun b2 => ?_)
  · have hF := (if_pos b2).symm.trans hF
    refine lv_iconst (v := (-1)) S.1 S.2.1 dX12_open_16 (by decide) ?_
    cases hF
    exact z_m (v := (-1)) S hM hr hlk rfl dX12_open_17
  · have hF := (if_neg b2).symm.trans hF
    refine lv_aload_n S.1 S.2.1 dX12_open_8 rfl (lv_at hl 0 rfl) ?_
    refine lv_iload_n S.1 S.2.1 dX12_open_9 rfl (lv_at hl 1 rfl) ?_
    obtain ⟨r5, σ3, er5, hF⟩ := bd2_some hF
    refine k_m (va_runV (As := [.int a1]) (rest := []) S (c_X12_openTo   er5) (cwV 1 S.2.2.2.2 (ul_V tw_6_39 tw_6_41 ts_X12_openTo tw_1_12 cw_X12_openTo) rfl rfl rfl hv_X12_openTo ⟨Nat.le_of_ble_eq_true rfl, Nat.le_of_ble_eq_true rfl⟩) ⟨PreM.blind, hM.recv hK cfX12 0 (by decide) lm_0, hM.pre hK⟩ rfl rfl hl.1 rfl (lv_room (Nat.le_of_ble_eq_true rfl)) dX12_open_10 ⟨Nat.zero_le _, Nat.zero_le _⟩) hM (fun H locs hM => ?_)
    show W _ _ _ _ _ _ _ _ _ _ _ _ _ _ _ (F0 m 13 ls [.int r5])
    refine lv_goto (tgt := 17) S.1 S.2.1 dX12_open_13 (by decide) ?_
    cases hF
    exact z_m (v := r5) S hM hr hlk rfl dX12_open_17
/-! X12_forced -/
def X12_forced_s2 (k2 : Int32 → IM → Option (Int32 × IM)) (x1 : Int32) (σ : IM) : Option (Int32 × IM) := rd (σ 1) 42 0 fun v1 => if 9 * v1 ≤ x1 then (some ((-4), σ)) else (bd2 (X12_isWon σ (x1 / 9) (rem32 x1 9)) fun r5 σ3 => if r5 = 0 then (bd (x1 + 1) fun v7 => k2 v7 σ3) else (some ((10 * (x1 / 9)) + (rem32 x1 9), σ3)))
def X12_forced_b2 : Nat → Int32 → IM → Option (Int32 × IM)
  | 0 => fun _ _ => none
  | n + 1 => X12_forced_s2 (X12_forced_b2 n)
set_option maxRecDepth 20000 in
theorem w_X12_forced_2 {l : Launch} {g : GE} {A : Nat → Prop} {p : Program} {e : Env} {s : State} {m : MethodId} {args : Array Value} {below : List Frame} {meth : Method} {c : Code} (S : CallFix p m c cX12_forced 2 s args UL RX12) (hK : KK g s) (hr : meth.sig.returnType = (some .int)) (hlk : meth.locks = false) {out : Int32 × IM} {k2 : Int32 → IM → Option (Int32 × IM)} (hk2 : ∀ {x1 : Int32} {σ : IM} {H : Heap} {locs : List Loc} {ls : Array Slot}, Mem lyM 13 g A [] σ nor s.heap H locs → lv_has ls 2 [(0, .ref (g.2.2 0)), (1, .int x1)] → k2 x1 σ = some out → W p l e ({ frames := 5, cells := 0, slots := 0, locals := 121 }) s m args below meth c H locs 0 0 (MQ below (Qm lyM 13 g A [] out.2 nor (some (.int out.1))) args s 0 0 A) (F0 m 2 ls [])) : ∀ {x1 : Int32} {σ : IM} {H : Heap} {locs : List Loc} {ls : Array Slot}, Mem lyM 13 g A [] σ nor s.heap H locs → lv_has ls 2 [(0, .ref (g.2.2 0)), (1, .int x1)] → X12_forced_s2 k2 x1 σ = some out → W p l e ({ frames := 5, cells := 0, slots := 0, locals := 121 }) s m args below meth c H locs 0 0 (MQ below (Qm lyM 13 g A [] out.2 nor (some (.int out.1))) args s 0 0 A) (F0 m 2 ls []) := by
  intro x1 σ H locs ls hM hl hF
  unfold X12_forced_s2 at hF
  refine lv_iload_n S.1 S.2.1 dX12_forced_2 rfl (lv_at hl 1 rfl) ?_
  refine lv_bipush (v := 9) S.1 S.2.1 dX12_forced_3 (by decide) ?_
  refine lv_aload_n S.1 S.2.1 dX12_forced_5 rfl (lv_at hl 0 rfl) ?_
  refine r_getC S hK hM cfX12 0 0 1 (by decide) lm_0 rfl (by decide) tw_5_31 dX12_forced_6 ?_
  refine lv_iconst (v := 0) S.1 S.2.1 dX12_forced_9 (by decide) ?_
  obtain ⟨hv1, v1, ev1, hF⟩ := rd_some hF
  refine r_iald S hK hM 1 (by decide) rfl hv1 ev1 dX12_forced_10 ?_
  refine lv_imul S.1 S.2.1 dX12_forced_11 ?_
  refine lv_icmp_ge (tgt := 49) S.1 S.2.1 dX12_forced_12 (by decide) (fun b2 => ?_) (fun b2 => ?_)
  · have hF := (if_pos b2).symm.trans hF
    refine lv_bipush (v := (-4)) S.1 S.2.1 dX12_forced_49 (by decide) ?_
    cases hF
    exact z_m (v := (-4)) S hM hr hlk rfl dX12_forced_51
  · have hF := (if_neg b2).symm.trans hF
    refine lv_aload_n S.1 S.2.1 dX12_forced_15 rfl (lv_at hl 0 rfl) ?_
    refine lv_iload_n S.1 S.2.1 dX12_forced_16 rfl (lv_at hl 1 rfl) ?_
    refine lv_bipush (v := 9) S.1 S.2.1 dX12_forced_17 (by decide) ?_
    refine lv_idiv S.1 S.2.1 dX12_forced_19 (by decide) ?_
    refine lv_iload_n S.1 S.2.1 dX12_forced_20 rfl (lv_at hl 1 rfl) ?_
    refine lv_bipush (v := 9) S.1 S.2.1 dX12_forced_21 (by decide) ?_
    refine r_irem S dX12_forced_23 (by decide) ?_
    obtain ⟨r5, σ3, er5, hF⟩ := bd2_some hF
    refine k_m (va_runV (As := [.int (x1 / 9), .int (rem32 x1 9)]) (rest := []) S (c_X12_isWon   er5) (cwV 2 S.2.2.2.2 (ul_V tw_6_27 tw_6_29 ts_X12_isWon tw_1_12 cw_X12_isWon) rfl rfl rfl hv_X12_isWon ⟨Nat.le_of_ble_eq_true rfl, Nat.le_of_ble_eq_true rfl⟩) ⟨PreM.blind, hM.recv hK cfX12 0 (by decide) lm_0, hM.pre hK⟩ rfl rfl hl.1 rfl (lv_room (Nat.le_of_ble_eq_true rfl)) dX12_forced_24 ⟨Nat.zero_le _, Nat.zero_le _⟩) hM (fun H locs hM => ?_)
    show W _ _ _ _ _ _ _ _ _ _ _ _ _ _ _ (F0 m 27 ls [.int r5])
    refine lv_if_eq (tgt := 43) S.1 S.2.1 dX12_forced_27 (by decide) (fun b6 => ?_) (fun b6 => ?_)
    · have hF := (if_pos b6).symm.trans hF
      obtain ⟨v7, ev7, hF⟩ := bd_some hF
      refine lv_iinc (v := v7) (lv' := [(1, .int v7), (0, .ref (g.2.2 0))]) S.1 S.2.1 dX12_forced_43 hl (k := 1) rfl (by rw [ev7]; rfl) (by decide) rfl (fun ls hl => ?_)
      refine lv_goto (tgt := 2) S.1 S.2.1 dX12_forced_46 (by decide) ?_
      exact hk2 hM (lv_sub hl [1, 0] rfl)  hF
    · have hF := (if_neg b6).symm.trans hF
      refine lv_bipush (v := 10) S.1 S.2.1 dX12_forced_30 (by decide) ?_
      refine lv_iload_n S.1 S.2.1 dX12_forced_32 rfl (lv_at hl 1 rfl) ?_
      refine lv_bipush (v := 9) S.1 S.2.1 dX12_forced_33 (by decide) ?_
      refine lv_idiv S.1 S.2.1 dX12_forced_35 (by decide) ?_
      refine lv_imul S.1 S.2.1 dX12_forced_36 ?_
      refine lv_iload_n S.1 S.2.1 dX12_forced_37 rfl (lv_at hl 1 rfl) ?_
      refine lv_bipush (v := 9) S.1 S.2.1 dX12_forced_38 (by decide) ?_
      refine r_irem S dX12_forced_40 (by decide) ?_
      refine lv_iadd S.1 S.2.1 dX12_forced_41 ?_
      cases hF
      exact z_m (v := (10 * (x1 / 9)) + (rem32 x1 9)) S hM hr hlk rfl dX12_forced_42
theorem wl_X12_forced_2 {l : Launch} {g : GE} {A : Nat → Prop} {p : Program} {e : Env} {s : State} {m : MethodId} {args : Array Value} {below : List Frame} {meth : Method} {c : Code} (S : CallFix p m c cX12_forced 2 s args UL RX12) (hK : KK g s) (hr : meth.sig.returnType = (some .int)) (hlk : meth.locks = false) {out : Int32 × IM} : ∀ (n : Nat) {x1 : Int32} {σ : IM} {H : Heap} {locs : List Loc} {ls : Array Slot}, Mem lyM 13 g A [] σ nor s.heap H locs → lv_has ls 2 [(0, .ref (g.2.2 0)), (1, .int x1)] → X12_forced_b2 n x1 σ = some out → W p l e ({ frames := 5, cells := 0, slots := 0, locals := 121 }) s m args below meth c H locs 0 0 (MQ below (Qm lyM 13 g A [] out.2 nor (some (.int out.1))) args s 0 0 A) (F0 m 2 ls []) := by
  intro n
  induction n with
  | zero =>
    intro x1 σ H locs ls hM hl hF
    cases hF
  | succ n ih =>
    intro x1 σ H locs ls hM hl hF
    exact w_X12_forced_2 S hK hr hlk ih hM hl hF
def X12_forced (σ : IM) : Option (Int32 × IM) := X12_forced_b2 1000 0 σ
set_option maxRecDepth 20000 in
theorem c_X12_forced {l : Launch} {g : GE} {A : Nat → Prop} {σ : IM} {out : Int32 × IM} (hF : X12_forced σ = some out) : Met l yX12_forced (.code yX12_forced cX12_forced 2 (some .int) :: UL) ({ frames := 5, cells := 0, slots := 0, locals := 121 }) (va_Pc [.ref (g.2.2 0)] (PreM lyM 13 g A [] σ nor)) (Qm lyM 13 g A [] out.2 nor (some (.int out.1))) 0 0 A := by
  refine e_of (by decide) (Nat.le_of_ble_eq_true rfl) ?_
  intro p e s m below meth c ls S hr hlk hv hl
  have hM := Mem.of hv
  have hK := hv.2.1
  have hl : lv_has ls 2 [(0, .ref (g.2.2 0))] := hl
  unfold X12_forced at hF
  refine lv_iconst (v := 0) S.1 S.2.1 dX12_forced_0 (by decide) ?_
  refine lv_istore_n (lv' := [(1, .int 0), (0, .ref (g.2.2 0))]) S.1 S.2.1 dX12_forced_1 rfl hl (by decide) rfl (fun ls hl => ?_)
  exact wl_X12_forced_2 S hK hr hlk 1000 hM (lv_sub hl [1, 0] rfl) hF
/-! X12_leads -/
def X12_leads (σ : IM) (a1 : Int32) (a2 : Int32) : Option Int32 := bd1 (X12_whoseNow σ a1 a2) fun r1 => if r1 = 9 then (some 99) else (bd1 (X12_ofP r1 0) fun r3 => rd (σ 1) 42 r3 fun v4 => bd1 (X12_fallsIn σ 1 a1 a2) fun r5 => bd1 (X12_wayOf v4 r5) fun r6 => some r6)
set_option maxRecDepth 20000 in
theorem c_X12_leads {l : Launch} {g : GE} {A : Nat → Prop} {σ : IM} {a1 : Int32} {a2 : Int32} {out : Int32} (hF : X12_leads σ a1 a2 = some out) : Met l yX12_leads (.code yX12_leads cX12_leads 4 (some .int) :: UL) ({ frames := 4, cells := 0, slots := 0, locals := 91 }) (va_Pc [.ref (g.2.2 0), .int a1, .int a2] (PreM lyM 13 g A [] σ nor)) (Qp (some (.int out))) 0 0 NoA := by
  refine e_of (by decide) (Nat.le_of_ble_eq_true rfl) ?_
  intro p e s m below meth c ls S hr hlk hv hl
  have hM := Mem.of hv
  have hK := hv.2.1
  have hl : lv_has ls 4 [(0, .ref (g.2.2 0)), (1, .int a1), (2, .int a2)] := hl
  unfold X12_leads at hF
  refine lv_aload_n S.1 S.2.1 dX12_leads_0 rfl (lv_at hl 0 rfl) ?_
  refine lv_iload_n S.1 S.2.1 dX12_leads_1 rfl (lv_at hl 1 rfl) ?_
  refine lv_iload_n S.1 S.2.1 dX12_leads_2 rfl (lv_at hl 2 rfl) ?_
  obtain ⟨r1, er1, hF⟩ := bd1_some hF
  refine k_p (va_runV (As := [.int a1, .int a2]) (rest := []) S (c_X12_whoseNow   er1) (cwV 2 S.2.2.2.2 (ul_V tw_6_15 tw_6_17 ts_X12_whoseNow tw_1_12 cw_X12_whoseNow) rfl rfl rfl hv_X12_whoseNow ⟨Nat.le_of_ble_eq_true rfl, Nat.le_of_ble_eq_true rfl⟩) ⟨PreM.blind, hM.recv hK cfX12 0 (by decide) lm_0, hM.pre hK⟩ rfl rfl hl.1 rfl (lv_room (Nat.le_of_ble_eq_true rfl)) dX12_leads_3 ⟨Nat.zero_le _, Nat.zero_le _⟩) ?_
  refine lv_istore_n (lv' := [(3, .int r1), (0, .ref (g.2.2 0)), (1, .int a1), (2, .int a2)]) S.1 S.2.1 dX12_leads_6 rfl hl (by decide) rfl (fun ls hl => ?_)
  refine lv_iload_n S.1 S.2.1 dX12_leads_7 rfl (lv_at hl 0 rfl) ?_
  refine lv_bipush (v := 9) S.1 S.2.1 dX12_leads_8 (by decide) ?_
  refine lv_icmp_ne (tgt := 18) S.1 S.2.1 dX12_leads_10 (by decide) (fun b2 => ?_) (fun b2 => ?_)
  · have hF := (if_neg b2).symm.trans hF
    refine lv_aload_n S.1 S.2.1 dX12_leads_18 rfl (lv_at hl 1 rfl) ?_
    refine r_getC S hK hM cfX12 0 0 1 (by decide) lm_0 rfl (by decide) tw_5_31 dX12_leads_19 ?_
    refine lv_iload_n S.1 S.2.1 dX12_leads_22 rfl (lv_at hl 0 rfl) ?_
    refine lv_iconst (v := 0) S.1 S.2.1 dX12_leads_23 (by decide) ?_
    obtain ⟨r3, er3, hF⟩ := bd1_some hF
    refine k_p (va_runS (As := [.int r1, .int 0]) (rest := [.ref (g.2.2 1)]) S (c_X12_ofP   er3) (va_cwS 2 S.2.2.2.2 (ul_S tw_5_25 tw_5_26 tw_1_12 cw_X12_ofP) rfl rfl rfl hs_X12_ofP ⟨Nat.le_of_ble_eq_true rfl, Nat.le_of_ble_eq_true rfl⟩) ⟨PreM.blind, hM.pre hK⟩ rfl rfl hl.1 rfl (lv_room (Nat.le_of_ble_eq_true rfl)) dX12_leads_24 ⟨Nat.zero_le _, Nat.zero_le _⟩) ?_
    obtain ⟨hv4, v4, ev4, hF⟩ := rd_some hF
    refine r_iald S hK hM 1 (by decide) rfl hv4 ev4 dX12_leads_27 ?_
    refine lv_aload_n S.1 S.2.1 dX12_leads_28 rfl (lv_at hl 1 rfl) ?_
    refine r_getC S hK hM cfX12 0 0 1 (by decide) lm_0 rfl (by decide) tw_5_31 dX12_leads_29 ?_
    refine lv_iload_n S.1 S.2.1 dX12_leads_32 rfl (lv_at hl 2 rfl) ?_
    refine lv_iload_n S.1 S.2.1 dX12_leads_33 rfl (lv_at hl 3 rfl) ?_
    obtain ⟨r5, er5, hF⟩ := bd1_some hF
    refine k_p (va_runS (As := [.ref (g.2.2 1), .int a1, .int a2]) (rest := [.int v4]) S (c_X12_fallsIn  ar_1 er5) (va_cwS 3 S.2.2.2.2 (ul_S tw_5_153 tw_5_154 tw_1_12 cw_X12_fallsIn) rfl rfl rfl hs_X12_fallsIn ⟨Nat.le_of_ble_eq_true rfl, Nat.le_of_ble_eq_true rfl⟩) ⟨PreM.blind, hM.pre hK⟩ rfl rfl hl.1 rfl (lv_room (Nat.le_of_ble_eq_true rfl)) dX12_leads_34 ⟨Nat.zero_le _, Nat.zero_le _⟩) ?_
    obtain ⟨r6, er6, hF⟩ := bd1_some hF
    refine k_p (va_runS (As := [.int v4, .int r5]) (rest := []) S (c_X12_wayOf   er6) (va_cwS 2 S.2.2.2.2 (ul_S tw_5_165 tw_5_166 tw_1_12 cw_X12_wayOf) rfl rfl rfl hs_X12_wayOf ⟨Nat.le_of_ble_eq_true rfl, Nat.le_of_ble_eq_true rfl⟩) ⟨PreM.blind, hM.pre hK⟩ rfl rfl hl.1 rfl (lv_room (Nat.le_of_ble_eq_true rfl)) dX12_leads_37 ⟨Nat.zero_le _, Nat.zero_le _⟩) ?_
    cases hF
    exact z_p S hr hlk rfl dX12_leads_40
  · have hF := (if_pos b2).symm.trans hF
    refine lv_bipush (v := 99) S.1 S.2.1 dX12_leads_13 (by decide) ?_
    refine lv_goto (tgt := 40) S.1 S.2.1 dX12_leads_15 (by decide) ?_
    cases hF
    exact z_p S hr hlk rfl dX12_leads_40
/-! X12_farthest -/
def X12_farthest_b50 (σ : IM) (k24 : Int32 → Int32 → Int32 → Int32 → Option Int32) (x1 : Int32) (x2 : Int32) (x3 : Int32) (x4 : Int32) : Option Int32 := bd (x4 + 1) fun v11 => k24 x1 x2 x3 v11
set_option maxRecDepth 20000 in
theorem w_X12_farthest_50 {l : Launch} {g : GE} {A : Nat → Prop} {σ : IM} {p : Program} {e : Env} {s : State} {m : MethodId} {args : Array Value} {below : List Frame} {meth : Method} {c : Code} (S : CallFix p m c cX12_farthest 5 s args UL RX12) (hK : KK g s) (hr : meth.sig.returnType = (some .int)) (hlk : meth.locks = false) (hM : Mem lyM 13 g A [] σ nor s.heap s.heap []) {out : Int32} {k24 : Int32 → Int32 → Int32 → Int32 → Option Int32} (hk24 : ∀ {x1 : Int32} {x2 : Int32} {x3 : Int32} {x4 : Int32} {ls : Array Slot}, lv_has ls 5 [(0, .ref (g.2.2 0)), (1, .int x1), (2, .int x2), (3, .int x3), (4, .int x4)] → k24 x1 x2 x3 x4 = some out → W p l e ({ frames := 5, cells := 0, slots := 0, locals := 114 }) s m args below meth c s.heap [] 0 0 (MQ below (Qp (some (.int out))) args s 0 0 NoA) (F0 m 24 ls [])) : ∀ {x1 : Int32} {x2 : Int32} {x3 : Int32} {x4 : Int32} {ls : Array Slot}, lv_has ls 5 [(0, .ref (g.2.2 0)), (1, .int x1), (2, .int x2), (3, .int x3), (4, .int x4)] → X12_farthest_b50 σ k24 x1 x2 x3 x4 = some out → W p l e ({ frames := 5, cells := 0, slots := 0, locals := 114 }) s m args below meth c s.heap [] 0 0 (MQ below (Qp (some (.int out))) args s 0 0 NoA) (F0 m 50 ls []) := by
  intro x1 x2 x3 x4 ls hl hF
  unfold X12_farthest_b50 at hF
  obtain ⟨v11, ev11, hF⟩ := bd_some hF
  refine lv_iinc (v := v11) (lv' := [(4, .int v11), (0, .ref (g.2.2 0)), (1, .int x1), (2, .int x2), (3, .int x3)]) S.1 S.2.1 dX12_farthest_50 hl (k := 4) rfl (by rw [ev11]; rfl) (by decide) rfl (fun ls hl => ?_)
  refine lv_goto (tgt := 24) S.1 S.2.1 dX12_farthest_53 (by decide) ?_
  exact hk24  (lv_sub hl [1, 2, 3, 4, 0] rfl)  hF
def X12_farthest_s24 (σ : IM) (k24 : Int32 → Int32 → Int32 → Int32 → Option Int32) (x1 : Int32) (x2 : Int32) (x3 : Int32) (x4 : Int32) : Option Int32 := if 9 ≤ x4 then (if x2 = 0 then (some x3) else (bd1 (X12_leads σ x1 x3) fun r7 => some r7)) else (bd1 (X12_leads σ x1 x4) fun r8 => bd1 (X12_leads σ x1 x3) fun r9 => if r8 ≤ r9 then (X12_farthest_b50 σ k24 x1 x2 x3 x4) else (X12_farthest_b50 σ k24 x1 x2 x4 x4))
def X12_farthest_b24 (σ : IM) : Nat → Int32 → Int32 → Int32 → Int32 → Option Int32
  | 0 => fun _ _ _ _ => none
  | n + 1 => X12_farthest_s24 σ (X12_farthest_b24 σ n)
set_option maxRecDepth 20000 in
theorem w_X12_farthest_24 {l : Launch} {g : GE} {A : Nat → Prop} {σ : IM} {p : Program} {e : Env} {s : State} {m : MethodId} {args : Array Value} {below : List Frame} {meth : Method} {c : Code} (S : CallFix p m c cX12_farthest 5 s args UL RX12) (hK : KK g s) (hr : meth.sig.returnType = (some .int)) (hlk : meth.locks = false) (hM : Mem lyM 13 g A [] σ nor s.heap s.heap []) {out : Int32} {k24 : Int32 → Int32 → Int32 → Int32 → Option Int32} (hk24 : ∀ {x1 : Int32} {x2 : Int32} {x3 : Int32} {x4 : Int32} {ls : Array Slot}, lv_has ls 5 [(0, .ref (g.2.2 0)), (1, .int x1), (2, .int x2), (3, .int x3), (4, .int x4)] → k24 x1 x2 x3 x4 = some out → W p l e ({ frames := 5, cells := 0, slots := 0, locals := 114 }) s m args below meth c s.heap [] 0 0 (MQ below (Qp (some (.int out))) args s 0 0 NoA) (F0 m 24 ls [])) : ∀ {x1 : Int32} {x2 : Int32} {x3 : Int32} {x4 : Int32} {ls : Array Slot}, lv_has ls 5 [(0, .ref (g.2.2 0)), (1, .int x1), (2, .int x2), (3, .int x3), (4, .int x4)] → X12_farthest_s24 σ k24 x1 x2 x3 x4 = some out → W p l e ({ frames := 5, cells := 0, slots := 0, locals := 114 }) s m args below meth c s.heap [] 0 0 (MQ below (Qp (some (.int out))) args s 0 0 NoA) (F0 m 24 ls []) := by
  intro x1 x2 x3 x4 ls hl hF
  unfold X12_farthest_s24 at hF
  refine lv_iload S.1 S.2.1 dX12_farthest_24 (lv_at hl 4 rfl) ?_
  refine lv_bipush (v := 9) S.1 S.2.1 dX12_farthest_26 (by decide) ?_
  refine lv_icmp_ge (tgt := 56) S.1 S.2.1 dX12_farthest_28 (by decide) (fun b5 => ?_) (fun b5 => ?_)
  · have hF := (if_pos b5).symm.trans hF
    refine lv_iload_n S.1 S.2.1 dX12_farthest_56 rfl (lv_at hl 2 rfl) ?_
    refine lv_if_ne (tgt := 64) S.1 S.2.1 dX12_farthest_57 (by decide) (fun b6 => ?_) (fun b6 => ?_)
    · have hF := (if_neg b6).symm.trans hF
      refine lv_aload_n S.1 S.2.1 dX12_farthest_64 rfl (lv_at hl 0 rfl) ?_
      refine lv_iload_n S.1 S.2.1 dX12_farthest_65 rfl (lv_at hl 1 rfl) ?_
      refine lv_iload_n S.1 S.2.1 dX12_farthest_66 rfl (lv_at hl 3 rfl) ?_
      obtain ⟨r7, er7, hF⟩ := bd1_some hF
      refine k_p (va_runV (As := [.int x1, .int x3]) (rest := []) S (c_X12_leads   er7) (cwV 2 S.2.2.2.2 (ul_V tw_6_51 tw_6_53 ts_X12_leads tw_1_12 cw_X12_leads) rfl rfl rfl hv_X12_leads ⟨Nat.le_of_ble_eq_true rfl, Nat.le_of_ble_eq_true rfl⟩) ⟨PreM.blind, hM.recv hK cfX12 0 (by decide) lm_0, hM.pre hK⟩ rfl rfl hl.1 rfl (lv_room (Nat.le_of_ble_eq_true rfl)) dX12_farthest_67 ⟨Nat.zero_le _, Nat.zero_le _⟩) ?_
      cases hF
      exact z_p S hr hlk rfl dX12_farthest_70
    · have hF := (if_pos b6).symm.trans hF
      refine lv_iload_n S.1 S.2.1 dX12_farthest_60 rfl (lv_at hl 3 rfl) ?_
      refine lv_goto (tgt := 70) S.1 S.2.1 dX12_farthest_61 (by decide) ?_
      cases hF
      exact z_p S hr hlk rfl dX12_farthest_70
  · have hF := (if_neg b5).symm.trans hF
    refine lv_aload_n S.1 S.2.1 dX12_farthest_31 rfl (lv_at hl 0 rfl) ?_
    refine lv_iload_n S.1 S.2.1 dX12_farthest_32 rfl (lv_at hl 1 rfl) ?_
    refine lv_iload S.1 S.2.1 dX12_farthest_33 (lv_at hl 4 rfl) ?_
    obtain ⟨r8, er8, hF⟩ := bd1_some hF
    refine k_p (va_runV (As := [.int x1, .int x4]) (rest := []) S (c_X12_leads   er8) (cwV 2 S.2.2.2.2 (ul_V tw_6_51 tw_6_53 ts_X12_leads tw_1_12 cw_X12_leads) rfl rfl rfl hv_X12_leads ⟨Nat.le_of_ble_eq_true rfl, Nat.le_of_ble_eq_true rfl⟩) ⟨PreM.blind, hM.recv hK cfX12 0 (by decide) lm_0, hM.pre hK⟩ rfl rfl hl.1 rfl (lv_room (Nat.le_of_ble_eq_true rfl)) dX12_farthest_35 ⟨Nat.zero_le _, Nat.zero_le _⟩) ?_
    refine lv_aload_n S.1 S.2.1 dX12_farthest_38 rfl (lv_at hl 0 rfl) ?_
    refine lv_iload_n S.1 S.2.1 dX12_farthest_39 rfl (lv_at hl 1 rfl) ?_
    refine lv_iload_n S.1 S.2.1 dX12_farthest_40 rfl (lv_at hl 3 rfl) ?_
    obtain ⟨r9, er9, hF⟩ := bd1_some hF
    refine k_p (va_runV (As := [.int x1, .int x3]) (rest := [.int r8]) S (c_X12_leads   er9) (cwV 2 S.2.2.2.2 (ul_V tw_6_51 tw_6_53 ts_X12_leads tw_1_12 cw_X12_leads) rfl rfl rfl hv_X12_leads ⟨Nat.le_of_ble_eq_true rfl, Nat.le_of_ble_eq_true rfl⟩) ⟨PreM.blind, hM.recv hK cfX12 0 (by decide) lm_0, hM.pre hK⟩ rfl rfl hl.1 rfl (lv_room (Nat.le_of_ble_eq_true rfl)) dX12_farthest_41 ⟨Nat.zero_le _, Nat.zero_le _⟩) ?_
    refine lv_icmp_le (tgt := 50) S.1 S.2.1 dX12_farthest_44 (by decide) (fun b10 => ?_) (fun b10 => ?_)
    · have hF := (if_pos b10).symm.trans hF
      exact w_X12_farthest_50 S hK hr hlk hM hk24 (lv_sub hl [0, 1, 2, 3, 4] rfl) hF
    · have hF := (if_neg b10).symm.trans hF
      refine lv_iload S.1 S.2.1 dX12_farthest_47 (lv_at hl 4 rfl) ?_
      refine lv_istore_n (lv' := [(3, .int x4), (0, .ref (g.2.2 0)), (1, .int x1), (2, .int x2), (4, .int x4)]) S.1 S.2.1 dX12_farthest_49 rfl hl (by decide) rfl (fun ls hl => ?_)
      exact w_X12_farthest_50 S hK hr hlk hM hk24 (lv_sub hl [1, 2, 3, 0, 4] rfl) hF
theorem wl_X12_farthest_24 {l : Launch} {g : GE} {A : Nat → Prop} {σ : IM} {p : Program} {e : Env} {s : State} {m : MethodId} {args : Array Value} {below : List Frame} {meth : Method} {c : Code} (S : CallFix p m c cX12_farthest 5 s args UL RX12) (hK : KK g s) (hr : meth.sig.returnType = (some .int)) (hlk : meth.locks = false) (hM : Mem lyM 13 g A [] σ nor s.heap s.heap []) {out : Int32} : ∀ (n : Nat) {x1 : Int32} {x2 : Int32} {x3 : Int32} {x4 : Int32} {ls : Array Slot}, lv_has ls 5 [(0, .ref (g.2.2 0)), (1, .int x1), (2, .int x2), (3, .int x3), (4, .int x4)] → X12_farthest_b24 σ n x1 x2 x3 x4 = some out → W p l e ({ frames := 5, cells := 0, slots := 0, locals := 114 }) s m args below meth c s.heap [] 0 0 (MQ below (Qp (some (.int out))) args s 0 0 NoA) (F0 m 24 ls []) := by
  intro n
  induction n with
  | zero =>
    intro x1 x2 x3 x4 ls hl hF
    cases hF
  | succ n ih =>
    intro x1 x2 x3 x4 ls hl hF
    exact w_X12_farthest_24 S hK hr hlk hM ih hl hF
def X12_farthest (σ : IM) (a1 : Int32) (a2 : Int32) : Option Int32 := bd1 (X12_isStroke σ a1) fun r1 => if r1 = 0 then (some (-1)) else (bd1 (X12_isIn a2 0 1) fun r3 => if r3 = 0 then (some (-1)) else (X12_farthest_b24 σ 1000 a1 a2 0 0))
set_option maxRecDepth 20000 in
theorem c_X12_farthest {l : Launch} {g : GE} {A : Nat → Prop} {σ : IM} {a1 : Int32} {a2 : Int32} {out : Int32} (hF : X12_farthest σ a1 a2 = some out) : Met l yX12_farthest (.code yX12_farthest cX12_farthest 5 (some .int) :: UL) ({ frames := 5, cells := 0, slots := 0, locals := 114 }) (va_Pc [.ref (g.2.2 0), .int a1, .int a2] (PreM lyM 13 g A [] σ nor)) (Qp (some (.int out))) 0 0 NoA := by
  refine e_of (by decide) (Nat.le_of_ble_eq_true rfl) ?_
  intro p e s m below meth c ls S hr hlk hv hl
  have hM := Mem.of hv
  have hK := hv.2.1
  have hl : lv_has ls 5 [(0, .ref (g.2.2 0)), (1, .int a1), (2, .int a2)] := hl
  unfold X12_farthest at hF
  refine lv_aload_n S.1 S.2.1 dX12_farthest_0 rfl (lv_at hl 0 rfl) ?_
  refine lv_iload_n S.1 S.2.1 dX12_farthest_1 rfl (lv_at hl 1 rfl) ?_
  obtain ⟨r1, er1, hF⟩ := bd1_some hF
  refine k_p (va_runV (As := [.int a1]) (rest := []) S (c_X12_isStroke   er1) (cwV 1 S.2.2.2.2 (ul_V tw_5_138 tw_5_140 ts_X12_isStroke tw_1_12 cw_X12_isStroke) rfl rfl rfl hv_X12_isStroke ⟨Nat.le_of_ble_eq_true rfl, Nat.le_of_ble_eq_true rfl⟩) ⟨PreM.blind, hM.recv hK cfX12 0 (by decide) lm_0, hM.pre hK⟩ rfl rfl hl.1 rfl (lv_room (Nat.le_of_ble_eq_true rfl)) dX12_farthest_2 ⟨Nat.zero_le _, Nat.zero_le _⟩) ?_
  refine lv_if_eq (tgt := 17) S.1 S.2.1 dX12_farthest_5 (by decide) (fun b2 => ?_) (fun b2 => ?_)
  · have hF := (if_pos b2).symm.trans hF
    refine lv_iconst (v := (-1)) S.1 S.2.1 dX12_farthest_17 (by decide) ?_
    cases hF
    exact z_p S hr hlk rfl dX12_farthest_18
  · have hF := (if_neg b2).symm.trans hF
    refine lv_iload_n S.1 S.2.1 dX12_farthest_8 rfl (lv_at hl 2 rfl) ?_
    refine lv_iconst (v := 0) S.1 S.2.1 dX12_farthest_9 (by decide) ?_
    refine lv_iconst (v := 1) S.1 S.2.1 dX12_farthest_10 (by decide) ?_
    obtain ⟨r3, er3, hF⟩ := bd1_some hF
    refine k_p (va_runS (As := [.int a2, .int 0, .int 1]) (rest := []) S (c_X12_isIn   er3) (va_cwS 3 S.2.2.2.2 (ul_S tw_5_103 tw_5_104 tw_1_12 cw_X12_isIn) rfl rfl rfl hs_X12_isIn ⟨Nat.le_of_ble_eq_true rfl, Nat.le_of_ble_eq_true rfl⟩) ⟨PreM.blind, hM.pre hK⟩ rfl rfl hl.1 rfl (lv_room (Nat.le_of_ble_eq_true rfl)) dX12_farthest_11 ⟨Nat.zero_le _, Nat.zero_le _⟩) ?_
    refine lv_if_ne (tgt := 19) S.1 S.2.1 dX12_farthest_14 (by decide) (fun b4 => ?_) (fun b4 => ?_)
    · have hF := (if_neg b4).symm.trans hF
      refine lv_iconst (v := 0) S.1 S.2.1 dX12_farthest_19 (by decide) ?_
      refine lv_istore_n (lv' := [(3, .int 0), (0, .ref (g.2.2 0)), (1, .int a1), (2, .int a2)]) S.1 S.2.1 dX12_farthest_20 rfl hl (by decide) rfl (fun ls hl => ?_)
      refine lv_iconst (v := 0) S.1 S.2.1 dX12_farthest_21 (by decide) ?_
      refine lv_istore (lv' := [(4, .int 0), (3, .int 0), (0, .ref (g.2.2 0)), (1, .int a1), (2, .int a2)]) S.1 S.2.1 dX12_farthest_22 hl (by decide) rfl (fun ls hl => ?_)
      exact wl_X12_farthest_24 S hK hr hlk hM 1000 (lv_sub hl [2, 3, 4, 1, 0] rfl) hF
    · have hF := (if_pos b4).symm.trans hF
      refine lv_iconst (v := (-1)) S.1 S.2.1 dX12_farthest_17 (by decide) ?_
      cases hF
      exact z_p S hr hlk rfl dX12_farthest_18
/-! X12_atWhom -/
def X12_atWhom_b76 (k18 : Int32 → Int32 → Int32 → Int32 → IM → Option (Int32 × IM)) (x1 : Int32) (x2 : Int32) (x3 : Int32) (x4 : Int32) (σ : IM) : Option (Int32 × IM) := bd (x4 + 1) fun v15 => k18 x1 x2 x3 v15 σ
set_option maxRecDepth 20000 in
theorem w_X12_atWhom_76 {l : Launch} {g : GE} {A : Nat → Prop} {p : Program} {e : Env} {s : State} {m : MethodId} {args : Array Value} {below : List Frame} {meth : Method} {c : Code} (S : CallFix p m c cX12_atWhom 5 s args UL RX12) (hK : KK g s) (hr : meth.sig.returnType = (some .int)) (hlk : meth.locks = false) {out : Int32 × IM} {k18 : Int32 → Int32 → Int32 → Int32 → IM → Option (Int32 × IM)} (hk18 : ∀ {x1 : Int32} {x2 : Int32} {x3 : Int32} {x4 : Int32} {σ : IM} {H : Heap} {locs : List Loc} {ls : Array Slot}, Mem lyM 13 g A [] σ nor s.heap H locs → lv_has ls 5 [(0, .ref (g.2.2 0)), (1, .int x1), (2, .int x2), (3, .int x3), (4, .int x4)] → k18 x1 x2 x3 x4 σ = some out → W p l e ({ frames := 5, cells := 0, slots := 0, locals := 121 }) s m args below meth c H locs 0 0 (MQ below (Qm lyM 13 g A [] out.2 nor (some (.int out.1))) args s 0 0 A) (F0 m 18 ls [])) : ∀ {x1 : Int32} {x2 : Int32} {x3 : Int32} {x4 : Int32} {σ : IM} {H : Heap} {locs : List Loc} {ls : Array Slot}, Mem lyM 13 g A [] σ nor s.heap H locs → lv_has ls 5 [(0, .ref (g.2.2 0)), (1, .int x1), (2, .int x2), (3, .int x3), (4, .int x4)] → X12_atWhom_b76 k18 x1 x2 x3 x4 σ = some out → W p l e ({ frames := 5, cells := 0, slots := 0, locals := 121 }) s m args below meth c H locs 0 0 (MQ below (Qm lyM 13 g A [] out.2 nor (some (.int out.1))) args s 0 0 A) (F0 m 76 ls []) := by
  intro x1 x2 x3 x4 σ H locs ls hM hl hF
  unfold X12_atWhom_b76 at hF
  obtain ⟨v15, ev15, hF⟩ := bd_some hF
  refine lv_iinc (v := v15) (lv' := [(4, .int v15), (0, .ref (g.2.2 0)), (1, .int x1), (2, .int x2), (3, .int x3)]) S.1 S.2.1 dX12_atWhom_76 hl (k := 4) rfl (by rw [ev15]; rfl) (by decide) rfl (fun ls hl => ?_)
  refine lv_goto (tgt := 18) S.1 S.2.1 dX12_atWhom_79 (by decide) ?_
  exact hk18 hM (lv_sub hl [1, 2, 3, 4, 0] rfl)  hF
def X12_atWhom_s18 (k18 : Int32 → Int32 → Int32 → Int32 → IM → Option (Int32 × IM)) (x1 : Int32) (x2 : Int32) (x3 : Int32) (x4 : Int32) (σ : IM) : Option (Int32 × IM) := if 9 ≤ x4 then (some (x2, σ)) else (bd2 (X12_isWon σ x1 x4) fun r6 σ4 => if r6 = 0 then (rd (σ4 2) 42 2 fun v8 => bd1 (X12_ofP v8 2) fun r9 => rd (σ4 2) 42 r9 fun v10 => if x3 < v10 then (rd (σ4 2) 42 2 fun v12 => bd1 (X12_ofP v12 2) fun r13 => rd (σ4 2) 42 r13 fun v14 => X12_atWhom_b76 k18 x1 x4 v14 x4 σ4) else (X12_atWhom_b76 k18 x1 x2 x3 x4 σ4)) else (X12_atWhom_b76 k18 x1 x2 x3 x4 σ4))
def X12_atWhom_b18 : Nat → Int32 → Int32 → Int32 → Int32 → IM → Option (Int32 × IM)
  | 0 => fun _ _ _ _ _ => none
  | n + 1 => X12_atWhom_s18 (X12_atWhom_b18 n)
set_option maxRecDepth 20000 in
theorem w_X12_atWhom_18 {l : Launch} {g : GE} {A : Nat → Prop} {p : Program} {e : Env} {s : State} {m : MethodId} {args : Array Value} {below : List Frame} {meth : Method} {c : Code} (S : CallFix p m c cX12_atWhom 5 s args UL RX12) (hK : KK g s) (hr : meth.sig.returnType = (some .int)) (hlk : meth.locks = false) {out : Int32 × IM} {k18 : Int32 → Int32 → Int32 → Int32 → IM → Option (Int32 × IM)} (hk18 : ∀ {x1 : Int32} {x2 : Int32} {x3 : Int32} {x4 : Int32} {σ : IM} {H : Heap} {locs : List Loc} {ls : Array Slot}, Mem lyM 13 g A [] σ nor s.heap H locs → lv_has ls 5 [(0, .ref (g.2.2 0)), (1, .int x1), (2, .int x2), (3, .int x3), (4, .int x4)] → k18 x1 x2 x3 x4 σ = some out → W p l e ({ frames := 5, cells := 0, slots := 0, locals := 121 }) s m args below meth c H locs 0 0 (MQ below (Qm lyM 13 g A [] out.2 nor (some (.int out.1))) args s 0 0 A) (F0 m 18 ls [])) : ∀ {x1 : Int32} {x2 : Int32} {x3 : Int32} {x4 : Int32} {σ : IM} {H : Heap} {locs : List Loc} {ls : Array Slot}, Mem lyM 13 g A [] σ nor s.heap H locs → lv_has ls 5 [(0, .ref (g.2.2 0)), (1, .int x1), (2, .int x2), (3, .int x3), (4, .int x4)] → X12_atWhom_s18 k18 x1 x2 x3 x4 σ = some out → W p l e ({ frames := 5, cells := 0, slots := 0, locals := 121 }) s m args below meth c H locs 0 0 (MQ below (Qm lyM 13 g A [] out.2 nor (some (.int out.1))) args s 0 0 A) (F0 m 18 ls []) := by
  intro x1 x2 x3 x4 σ H locs ls hM hl hF
  unfold X12_atWhom_s18 at hF
  refine lv_iload S.1 S.2.1 dX12_atWhom_18 (lv_at hl 4 rfl) ?_
  refine lv_bipush (v := 9) S.1 S.2.1 dX12_atWhom_20 (by decide) ?_
  refine lv_icmp_ge (tgt := 82) S.1 S.2.1 dX12_atWhom_22 (by decide) (fun b3 => ?_) (fun b3 => ?_)
  · have hF := (if_pos b3).symm.trans hF
    refine lv_iload_n S.1 S.2.1 dX12_atWhom_82 rfl (lv_at hl 2 rfl) ?_
    cases hF
    exact z_m (v := x2) S hM hr hlk rfl dX12_atWhom_83
  · have hF := (if_neg b3).symm.trans hF
    refine lv_aload_n S.1 S.2.1 dX12_atWhom_25 rfl (lv_at hl 0 rfl) ?_
    refine lv_iload_n S.1 S.2.1 dX12_atWhom_26 rfl (lv_at hl 1 rfl) ?_
    refine lv_iload S.1 S.2.1 dX12_atWhom_27 (lv_at hl 4 rfl) ?_
    obtain ⟨r6, σ4, er6, hF⟩ := bd2_some hF
    refine k_m (va_runV (As := [.int x1, .int x4]) (rest := []) S (c_X12_isWon   er6) (cwV 2 S.2.2.2.2 (ul_V tw_6_27 tw_6_29 ts_X12_isWon tw_1_12 cw_X12_isWon) rfl rfl rfl hv_X12_isWon ⟨Nat.le_of_ble_eq_true rfl, Nat.le_of_ble_eq_true rfl⟩) ⟨PreM.blind, hM.recv hK cfX12 0 (by decide) lm_0, hM.pre hK⟩ rfl rfl hl.1 rfl (lv_room (Nat.le_of_ble_eq_true rfl)) dX12_atWhom_29 ⟨Nat.zero_le _, Nat.zero_le _⟩) hM (fun H locs hM => ?_)
    show W _ _ _ _ _ _ _ _ _ _ _ _ _ _ _ (F0 m 32 ls [.int r6])
    refine lv_if_ne (tgt := 76) S.1 S.2.1 dX12_atWhom_32 (by decide) (fun b7 => ?_) (fun b7 => ?_)
    · have hF := (if_neg b7).symm.trans hF
      exact w_X12_atWhom_76 S hK hr hlk hk18 hM (lv_sub hl [0, 1, 2, 3, 4] rfl) hF
    · have hF := (if_pos b7).symm.trans hF
      refine lv_aload_n S.1 S.2.1 dX12_atWhom_35 rfl (lv_at hl 0 rfl) ?_
      refine r_getC S hK hM cfX12 0 1 2 (by decide) lm_0 rfl (by decide) tw_5_32 dX12_atWhom_36 ?_
      refine lv_aload_n S.1 S.2.1 dX12_atWhom_39 rfl (lv_at hl 0 rfl) ?_
      refine r_getC S hK hM cfX12 0 1 2 (by decide) lm_0 rfl (by decide) tw_5_32 dX12_atWhom_40 ?_
      refine lv_iconst (v := 2) S.1 S.2.1 dX12_atWhom_43 (by decide) ?_
      obtain ⟨hv8, v8, ev8, hF⟩ := rd_some hF
      refine r_iald S hK hM 2 (by decide) rfl hv8 ev8 dX12_atWhom_44 ?_
      refine lv_iconst (v := 2) S.1 S.2.1 dX12_atWhom_45 (by decide) ?_
      obtain ⟨r9, er9, hF⟩ := bd1_some hF
      refine k_p (va_runS (As := [.int v8, .int 2]) (rest := [.ref (g.2.2 2)]) S (c_X12_ofP   er9) (va_cwS 2 S.2.2.2.2 (ul_S tw_5_25 tw_5_26 tw_1_12 cw_X12_ofP) rfl rfl rfl hs_X12_ofP ⟨Nat.le_of_ble_eq_true rfl, Nat.le_of_ble_eq_true rfl⟩) ⟨PreM.blind, hM.pre hK⟩ rfl rfl hl.1 rfl (lv_room (Nat.le_of_ble_eq_true rfl)) dX12_atWhom_46 ⟨Nat.zero_le _, Nat.zero_le _⟩) ?_
      obtain ⟨hv10, v10, ev10, hF⟩ := rd_some hF
      refine r_iald S hK hM 2 (by decide) rfl hv10 ev10 dX12_atWhom_49 ?_
      refine lv_iload_n S.1 S.2.1 dX12_atWhom_50 rfl (lv_at hl 3 rfl) ?_
      refine lv_icmp_gt (tgt := 57) S.1 S.2.1 dX12_atWhom_51 (by decide) (fun b11 => ?_) (fun b11 => ?_)
      · have hF := (if_pos b11).symm.trans hF
        refine lv_iload S.1 S.2.1 dX12_atWhom_57 (lv_at hl 4 rfl) ?_
        refine lv_istore_n (lv' := [(2, .int x4), (0, .ref (g.2.2 0)), (1, .int x1), (3, .int x3), (4, .int x4)]) S.1 S.2.1 dX12_atWhom_59 rfl hl (by decide) rfl (fun ls hl => ?_)
        refine lv_aload_n S.1 S.2.1 dX12_atWhom_60 rfl (lv_at hl 1 rfl) ?_
        refine r_getC S hK hM cfX12 0 1 2 (by decide) lm_0 rfl (by decide) tw_5_32 dX12_atWhom_61 ?_
        refine lv_aload_n S.1 S.2.1 dX12_atWhom_64 rfl (lv_at hl 1 rfl) ?_
        refine r_getC S hK hM cfX12 0 1 2 (by decide) lm_0 rfl (by decide) tw_5_32 dX12_atWhom_65 ?_
        refine lv_iconst (v := 2) S.1 S.2.1 dX12_atWhom_68 (by decide) ?_
        obtain ⟨hv12, v12, ev12, hF⟩ := rd_some hF
        refine r_iald S hK hM 2 (by decide) rfl hv12 ev12 dX12_atWhom_69 ?_
        refine lv_iconst (v := 2) S.1 S.2.1 dX12_atWhom_70 (by decide) ?_
        obtain ⟨r13, er13, hF⟩ := bd1_some hF
        refine k_p (va_runS (As := [.int v12, .int 2]) (rest := [.ref (g.2.2 2)]) S (c_X12_ofP   er13) (va_cwS 2 S.2.2.2.2 (ul_S tw_5_25 tw_5_26 tw_1_12 cw_X12_ofP) rfl rfl rfl hs_X12_ofP ⟨Nat.le_of_ble_eq_true rfl, Nat.le_of_ble_eq_true rfl⟩) ⟨PreM.blind, hM.pre hK⟩ rfl rfl hl.1 rfl (lv_room (Nat.le_of_ble_eq_true rfl)) dX12_atWhom_71 ⟨Nat.zero_le _, Nat.zero_le _⟩) ?_
        obtain ⟨hv14, v14, ev14, hF⟩ := rd_some hF
        refine r_iald S hK hM 2 (by decide) rfl hv14 ev14 dX12_atWhom_74 ?_
        refine lv_istore_n (lv' := [(3, .int v14), (2, .int x4), (0, .ref (g.2.2 0)), (1, .int x1), (4, .int x4)]) S.1 S.2.1 dX12_atWhom_75 rfl hl (by decide) rfl (fun ls hl => ?_)
        exact w_X12_atWhom_76 S hK hr hlk hk18 hM (lv_sub hl [2, 3, 1, 0, 4] rfl) hF
      · have hF := (if_neg b11).symm.trans hF
        refine lv_goto (tgt := 76) S.1 S.2.1 dX12_atWhom_54 (by decide) ?_
        exact w_X12_atWhom_76 S hK hr hlk hk18 hM (lv_sub hl [0, 1, 2, 3, 4] rfl) hF
theorem wl_X12_atWhom_18 {l : Launch} {g : GE} {A : Nat → Prop} {p : Program} {e : Env} {s : State} {m : MethodId} {args : Array Value} {below : List Frame} {meth : Method} {c : Code} (S : CallFix p m c cX12_atWhom 5 s args UL RX12) (hK : KK g s) (hr : meth.sig.returnType = (some .int)) (hlk : meth.locks = false) {out : Int32 × IM} : ∀ (n : Nat) {x1 : Int32} {x2 : Int32} {x3 : Int32} {x4 : Int32} {σ : IM} {H : Heap} {locs : List Loc} {ls : Array Slot}, Mem lyM 13 g A [] σ nor s.heap H locs → lv_has ls 5 [(0, .ref (g.2.2 0)), (1, .int x1), (2, .int x2), (3, .int x3), (4, .int x4)] → X12_atWhom_b18 n x1 x2 x3 x4 σ = some out → W p l e ({ frames := 5, cells := 0, slots := 0, locals := 121 }) s m args below meth c H locs 0 0 (MQ below (Qm lyM 13 g A [] out.2 nor (some (.int out.1))) args s 0 0 A) (F0 m 18 ls []) := by
  intro n
  induction n with
  | zero =>
    intro x1 x2 x3 x4 σ H locs ls hM hl hF
    cases hF
  | succ n ih =>
    intro x1 x2 x3 x4 σ H locs ls hM hl hF
    exact w_X12_atWhom_18 S hK hr hlk ih hM hl hF
def X12_atWhom (σ : IM) (a1 : Int32) : Option (Int32 × IM) := bd1 (X12_isStroke σ a1) fun r1 => if r1 = 0 then (some ((-1), σ)) else (X12_atWhom_b18 1000 a1 (-4) (-1) 0 σ)
set_option maxRecDepth 20000 in
theorem c_X12_atWhom {l : Launch} {g : GE} {A : Nat → Prop} {σ : IM} {a1 : Int32} {out : Int32 × IM} (hF : X12_atWhom σ a1 = some out) : Met l yX12_atWhom (.code yX12_atWhom cX12_atWhom 5 (some .int) :: UL) ({ frames := 5, cells := 0, slots := 0, locals := 121 }) (va_Pc [.ref (g.2.2 0), .int a1] (PreM lyM 13 g A [] σ nor)) (Qm lyM 13 g A [] out.2 nor (some (.int out.1))) 0 0 A := by
  refine e_of (by decide) (Nat.le_of_ble_eq_true rfl) ?_
  intro p e s m below meth c ls S hr hlk hv hl
  have hM := Mem.of hv
  have hK := hv.2.1
  have hl : lv_has ls 5 [(0, .ref (g.2.2 0)), (1, .int a1)] := hl
  unfold X12_atWhom at hF
  refine lv_aload_n S.1 S.2.1 dX12_atWhom_0 rfl (lv_at hl 0 rfl) ?_
  refine lv_iload_n S.1 S.2.1 dX12_atWhom_1 rfl (lv_at hl 1 rfl) ?_
  obtain ⟨r1, er1, hF⟩ := bd1_some hF
  refine k_p (va_runV (As := [.int a1]) (rest := []) S (c_X12_isStroke   er1) (cwV 1 S.2.2.2.2 (ul_V tw_5_138 tw_5_140 ts_X12_isStroke tw_1_12 cw_X12_isStroke) rfl rfl rfl hv_X12_isStroke ⟨Nat.le_of_ble_eq_true rfl, Nat.le_of_ble_eq_true rfl⟩) ⟨PreM.blind, hM.recv hK cfX12 0 (by decide) lm_0, hM.pre hK⟩ rfl rfl hl.1 rfl (lv_room (Nat.le_of_ble_eq_true rfl)) dX12_atWhom_2 ⟨Nat.zero_le _, Nat.zero_le _⟩) ?_
  refine lv_if_ne (tgt := 10) S.1 S.2.1 dX12_atWhom_5 (by decide) (fun b2 => ?_) (fun b2 => ?_)
  · have hF := (if_neg b2).symm.trans hF
    refine lv_bipush (v := (-4)) S.1 S.2.1 dX12_atWhom_10 (by decide) ?_
    refine lv_istore_n (lv' := [(2, .int (-4)), (0, .ref (g.2.2 0)), (1, .int a1)]) S.1 S.2.1 dX12_atWhom_12 rfl hl (by decide) rfl (fun ls hl => ?_)
    refine lv_iconst (v := (-1)) S.1 S.2.1 dX12_atWhom_13 (by decide) ?_
    refine lv_istore_n (lv' := [(3, .int (-1)), (2, .int (-4)), (0, .ref (g.2.2 0)), (1, .int a1)]) S.1 S.2.1 dX12_atWhom_14 rfl hl (by decide) rfl (fun ls hl => ?_)
    refine lv_iconst (v := 0) S.1 S.2.1 dX12_atWhom_15 (by decide) ?_
    refine lv_istore (lv' := [(4, .int 0), (3, .int (-1)), (2, .int (-4)), (0, .ref (g.2.2 0)), (1, .int a1)]) S.1 S.2.1 dX12_atWhom_16 hl (by decide) rfl (fun ls hl => ?_)
    exact wl_X12_atWhom_18 S hK hr hlk 1000 hM (lv_sub hl [3, 4, 2, 1, 0] rfl) hF
  · have hF := (if_pos b2).symm.trans hF
    refine lv_iconst (v := (-1)) S.1 S.2.1 dX12_atWhom_8 (by decide) ?_
    cases hF
    exact z_m (v := (-1)) S hM hr hlk rfl dX12_atWhom_9
/-! X12_isWonInThree -/
def X12_isWonInThree (σ : IM) (a1 : Int32) (a2 : Int32) : Option (Int32 × IM) := bd2 (X12_isWon σ (a1 / 9) (rem32 a1 9)) fun r3 σ1 => if r3 = 0 then (bd2 (X12_hits σ1 2 0 4) fun r7 σ5 => if r7 = 0 then (bd2 (X12_hits σ5 2 (a2 / 9) (rem32 a2 9)) fun r11 σ9 => bz r11 <| some (r11, σ9)) else (some (0, σ5))) else (some (0, σ1))
set_option maxRecDepth 20000 in
theorem c_X12_isWonInThree {l : Launch} {g : GE} {A : Nat → Prop} {σ : IM} {a1 : Int32} {a2 : Int32} {out : Int32 × IM} (hF : X12_isWonInThree σ a1 a2 = some out) : Met l yX12_isWonInThree (.code yX12_isWonInThree cX12_isWonInThree 3 (some .boolean) :: UL) ({ frames := 5, cells := 0, slots := 0, locals := 121 }) (va_Pc [.ref (g.2.2 0), .int a1, .int a2] (PreM lyM 13 g A [] σ nor)) (Qm lyM 13 g A [] out.2 nor (some (.int out.1))) 0 0 A := by
  refine e_of (by decide) (Nat.le_of_ble_eq_true rfl) ?_
  intro p e s m below meth c ls S hr hlk hv hl
  have hM := Mem.of hv
  have hK := hv.2.1
  have hl : lv_has ls 3 [(0, .ref (g.2.2 0)), (1, .int a1), (2, .int a2)] := hl
  unfold X12_isWonInThree at hF
  refine lv_aload_n S.1 S.2.1 dX12_isWonInThree_0 rfl (lv_at hl 0 rfl) ?_
  refine lv_iload_n S.1 S.2.1 dX12_isWonInThree_1 rfl (lv_at hl 1 rfl) ?_
  refine lv_bipush (v := 9) S.1 S.2.1 dX12_isWonInThree_2 (by decide) ?_
  refine lv_idiv S.1 S.2.1 dX12_isWonInThree_4 (by decide) ?_
  refine lv_iload_n S.1 S.2.1 dX12_isWonInThree_5 rfl (lv_at hl 1 rfl) ?_
  refine lv_bipush (v := 9) S.1 S.2.1 dX12_isWonInThree_6 (by decide) ?_
  refine r_irem S dX12_isWonInThree_8 (by decide) ?_
  obtain ⟨r3, σ1, er3, hF⟩ := bd2_some hF
  refine k_m (va_runV (As := [.int (a1 / 9), .int (rem32 a1 9)]) (rest := []) S (c_X12_isWon   er3) (cwV 2 S.2.2.2.2 (ul_V tw_6_27 tw_6_29 ts_X12_isWon tw_1_12 cw_X12_isWon) rfl rfl rfl hv_X12_isWon ⟨Nat.le_of_ble_eq_true rfl, Nat.le_of_ble_eq_true rfl⟩) ⟨PreM.blind, hM.recv hK cfX12 0 (by decide) lm_0, hM.pre hK⟩ rfl rfl hl.1 rfl (lv_room (Nat.le_of_ble_eq_true rfl)) dX12_isWonInThree_9 ⟨Nat.zero_le _, Nat.zero_le _⟩) hM (fun H locs hM => ?_)
  show W _ _ _ _ _ _ _ _ _ _ _ _ _ _ _ (F0 m 12 ls [.int r3])
  refine lv_if_ne (tgt := 28) S.1 S.2.1 dX12_isWonInThree_12 (by decide) (fun b4 => ?_) (fun b4 => ?_)
  · have hF := (if_neg b4).symm.trans hF
    refine lv_iconst (v := 0) S.1 S.2.1 dX12_isWonInThree_28 (by decide) ?_
    cases hF
    exact z_m (v := 0) S hM hr hlk rfl dX12_isWonInThree_29
  · have hF := (if_pos b4).symm.trans hF
    refine lv_aload_n S.1 S.2.1 dX12_isWonInThree_15 rfl (lv_at hl 0 rfl) ?_
    refine lv_aload_n S.1 S.2.1 dX12_isWonInThree_16 rfl (lv_at hl 0 rfl) ?_
    refine r_getC S hK hM cfX12 0 1 2 (by decide) lm_0 rfl (by decide) tw_5_32 dX12_isWonInThree_17 ?_
    refine lv_iconst (v := 0) S.1 S.2.1 dX12_isWonInThree_20 (by decide) ?_
    refine lv_iconst (v := 4) S.1 S.2.1 dX12_isWonInThree_21 (by decide) ?_
    obtain ⟨r7, σ5, er7, hF⟩ := bd2_some hF
    refine k_m (va_runV (As := [.ref (g.2.2 2), .int 0, .int 4]) (rest := []) S (c_X12_hits  ar_2 er7) (cwV 3 S.2.2.2.2 (ul_V tw_5_146 tw_5_148 ts_X12_hits tw_1_12 cw_X12_hits) rfl rfl rfl hv_X12_hits ⟨Nat.le_of_ble_eq_true rfl, Nat.le_of_ble_eq_true rfl⟩) ⟨PreM.blind, hM.recv hK cfX12 0 (by decide) lm_0, hM.pre hK⟩ rfl rfl hl.1 rfl (lv_room (Nat.le_of_ble_eq_true rfl)) dX12_isWonInThree_22 ⟨Nat.zero_le _, Nat.zero_le _⟩) hM (fun H locs hM => ?_)
    show W _ _ _ _ _ _ _ _ _ _ _ _ _ _ _ (F0 m 25 ls [.int r7])
    refine lv_if_eq (tgt := 30) S.1 S.2.1 dX12_isWonInThree_25 (by decide) (fun b8 => ?_) (fun b8 => ?_)
    · have hF := (if_pos b8).symm.trans hF
      refine lv_aload_n S.1 S.2.1 dX12_isWonInThree_30 rfl (lv_at hl 0 rfl) ?_
      refine lv_aload_n S.1 S.2.1 dX12_isWonInThree_31 rfl (lv_at hl 0 rfl) ?_
      refine r_getC S hK hM cfX12 0 1 2 (by decide) lm_0 rfl (by decide) tw_5_32 dX12_isWonInThree_32 ?_
      refine lv_iload_n S.1 S.2.1 dX12_isWonInThree_35 rfl (lv_at hl 2 rfl) ?_
      refine lv_bipush (v := 9) S.1 S.2.1 dX12_isWonInThree_36 (by decide) ?_
      refine lv_idiv S.1 S.2.1 dX12_isWonInThree_38 (by decide) ?_
      refine lv_iload_n S.1 S.2.1 dX12_isWonInThree_39 rfl (lv_at hl 2 rfl) ?_
      refine lv_bipush (v := 9) S.1 S.2.1 dX12_isWonInThree_40 (by decide) ?_
      refine r_irem S dX12_isWonInThree_42 (by decide) ?_
      obtain ⟨r11, σ9, er11, hF⟩ := bd2_some hF
      refine k_m (va_runV (As := [.ref (g.2.2 2), .int (a2 / 9), .int (rem32 a2 9)]) (rest := []) S (c_X12_hits  ar_2 er11) (cwV 3 S.2.2.2.2 (ul_V tw_5_146 tw_5_148 ts_X12_hits tw_1_12 cw_X12_hits) rfl rfl rfl hv_X12_hits ⟨Nat.le_of_ble_eq_true rfl, Nat.le_of_ble_eq_true rfl⟩) ⟨PreM.blind, hM.recv hK cfX12 0 (by decide) lm_0, hM.pre hK⟩ rfl rfl hl.1 rfl (lv_room (Nat.le_of_ble_eq_true rfl)) dX12_isWonInThree_43 ⟨Nat.zero_le _, Nat.zero_le _⟩) hM (fun H locs hM => ?_)
      show W _ _ _ _ _ _ _ _ _ _ _ _ _ _ _ (F0 m 46 ls [.int r11])
      obtain ⟨h12, hF⟩ := bz_some hF
      cases hF
      exact z_m (v := r11) S hM hr hlk h12 dX12_isWonInThree_46
    · have hF := (if_neg b8).symm.trans hF
      refine lv_iconst (v := 0) S.1 S.2.1 dX12_isWonInThree_28 (by decide) ?_
      cases hF
      exact z_m (v := 0) S hM hr hlk rfl dX12_isWonInThree_29
/-! X12_fewest -/
def X12_fewest_s64 (k55 : Int32 → Int32 → Int32 → IM → Option (Int32 × IM)) (k64 : Int32 → Int32 → Int32 → Int32 → IM → Option (Int32 × IM)) (x1 : Int32) (x3 : Int32) (x4 : Int32) (x5 : Int32) (σ : IM) : Option (Int32 × IM) := if x3 ≤ x5 then (bd (x4 + 1) fun v14 => k55 x1 x3 v14 σ) else (bd2 (X12_isWonInThree σ x4 x5) fun r17 σ15 => if r17 = 0 then (bd (x5 + 1) fun v19 => k64 x1 x3 x4 v19 σ15) else (if x1 = 0 then (some (3, σ15)) else (some ((10 * (x4 / 9)) + (rem32 x4 9), σ15))))
def X12_fewest_b64 (k55 : Int32 → Int32 → Int32 → IM → Option (Int32 × IM)) : Nat → Int32 → Int32 → Int32 → Int32 → IM → Option (Int32 × IM)
  | 0 => fun _ _ _ _ _ => none
  | n + 1 => X12_fewest_s64 k55 (X12_fewest_b64 k55 n)
set_option maxRecDepth 20000 in
theorem w_X12_fewest_64 {l : Launch} {g : GE} {A : Nat → Prop} {p : Program} {e : Env} {s : State} {m : MethodId} {args : Array Value} {below : List Frame} {meth : Method} {c : Code} (S : CallFix p m c cX12_fewest 6 s args UL RX12) (hK : KK g s) (hr : meth.sig.returnType = (some .int)) (hlk : meth.locks = false) {out : Int32 × IM} {k55 : Int32 → Int32 → Int32 → IM → Option (Int32 × IM)} (hk55 : ∀ {x1 : Int32} {x3 : Int32} {x4 : Int32} {σ : IM} {H : Heap} {locs : List Loc} {ls : Array Slot}, Mem lyM 13 g A [] σ nor s.heap H locs → lv_has ls 6 [(0, .ref (g.2.2 0)), (1, .int x1), (3, .int x3), (4, .int x4)] → k55 x1 x3 x4 σ = some out → W p l e ({ frames := 6, cells := 0, slots := 0, locals := 143 }) s m args below meth c H locs 0 0 (MQ below (Qm lyM 13 g A [] out.2 nor (some (.int out.1))) args s 0 0 A) (F0 m 55 ls [])) {k64 : Int32 → Int32 → Int32 → Int32 → IM → Option (Int32 × IM)} (hk64 : ∀ {x1 : Int32} {x3 : Int32} {x4 : Int32} {x5 : Int32} {σ : IM} {H : Heap} {locs : List Loc} {ls : Array Slot}, Mem lyM 13 g A [] σ nor s.heap H locs → lv_has ls 6 [(0, .ref (g.2.2 0)), (1, .int x1), (3, .int x3), (4, .int x4), (5, .int x5)] → k64 x1 x3 x4 x5 σ = some out → W p l e ({ frames := 6, cells := 0, slots := 0, locals := 143 }) s m args below meth c H locs 0 0 (MQ below (Qm lyM 13 g A [] out.2 nor (some (.int out.1))) args s 0 0 A) (F0 m 64 ls [])) : ∀ {x1 : Int32} {x3 : Int32} {x4 : Int32} {x5 : Int32} {σ : IM} {H : Heap} {locs : List Loc} {ls : Array Slot}, Mem lyM 13 g A [] σ nor s.heap H locs → lv_has ls 6 [(0, .ref (g.2.2 0)), (1, .int x1), (3, .int x3), (4, .int x4), (5, .int x5)] → X12_fewest_s64 k55 k64 x1 x3 x4 x5 σ = some out → W p l e ({ frames := 6, cells := 0, slots := 0, locals := 143 }) s m args below meth c H locs 0 0 (MQ below (Qm lyM 13 g A [] out.2 nor (some (.int out.1))) args s 0 0 A) (F0 m 64 ls []) := by
  intro x1 x3 x4 x5 σ H locs ls hM hl hF
  unfold X12_fewest_s64 at hF
  refine lv_iload S.1 S.2.1 dX12_fewest_64 (lv_at hl 4 rfl) ?_
  refine lv_iload_n S.1 S.2.1 dX12_fewest_66 rfl (lv_at hl 2 rfl) ?_
  refine lv_icmp_ge (tgt := 110) S.1 S.2.1 dX12_fewest_67 (by decide) (fun b13 => ?_) (fun b13 => ?_)
  · have hF := (if_pos b13).symm.trans hF
    obtain ⟨v14, ev14, hF⟩ := bd_some hF
    refine lv_iinc (v := v14) (lv' := [(4, .int v14), (0, .ref (g.2.2 0)), (1, .int x1), (3, .int x3), (5, .int x5)]) S.1 S.2.1 dX12_fewest_110 hl (k := 3) rfl (by rw [ev14]; rfl) (by decide) rfl (fun ls hl => ?_)
    refine lv_goto (tgt := 55) S.1 S.2.1 dX12_fewest_113 (by decide) ?_
    exact hk55 hM (lv_sub hl [1, 2, 3, 0] rfl)  hF
  · have hF := (if_neg b13).symm.trans hF
    refine lv_aload_n S.1 S.2.1 dX12_fewest_70 rfl (lv_at hl 0 rfl) ?_
    refine lv_iload S.1 S.2.1 dX12_fewest_71 (lv_at hl 3 rfl) ?_
    refine lv_iload S.1 S.2.1 dX12_fewest_73 (lv_at hl 4 rfl) ?_
    obtain ⟨r17, σ15, er17, hF⟩ := bd2_some hF
    refine k_m (va_runV (As := [.int x4, .int x5]) (rest := []) S (c_X12_isWonInThree   er17) (cwV 2 S.2.2.2.2 (ul_V tw_6_64 tw_6_66 ts_X12_isWonInThree tw_1_12 cw_X12_isWonInThree) rfl rfl rfl hv_X12_isWonInThree ⟨Nat.le_of_ble_eq_true rfl, Nat.le_of_ble_eq_true rfl⟩) ⟨PreM.blind, hM.recv hK cfX12 0 (by decide) lm_0, hM.pre hK⟩ rfl rfl hl.1 rfl (lv_room (Nat.le_of_ble_eq_true rfl)) dX12_fewest_75 ⟨Nat.zero_le _, Nat.zero_le _⟩) hM (fun H locs hM => ?_)
    show W _ _ _ _ _ _ _ _ _ _ _ _ _ _ _ (F0 m 78 ls [.int r17])
    refine lv_if_eq (tgt := 104) S.1 S.2.1 dX12_fewest_78 (by decide) (fun b18 => ?_) (fun b18 => ?_)
    · have hF := (if_pos b18).symm.trans hF
      obtain ⟨v19, ev19, hF⟩ := bd_some hF
      refine lv_iinc (v := v19) (lv' := [(5, .int v19), (0, .ref (g.2.2 0)), (1, .int x1), (3, .int x3), (4, .int x4)]) S.1 S.2.1 dX12_fewest_104 hl (k := 4) rfl (by rw [ev19]; rfl) (by decide) rfl (fun ls hl => ?_)
      refine lv_goto (tgt := 64) S.1 S.2.1 dX12_fewest_107 (by decide) ?_
      exact hk64 hM (lv_sub hl [1, 2, 3, 4, 0] rfl)  hF
    · have hF := (if_neg b18).symm.trans hF
      refine lv_iload_n S.1 S.2.1 dX12_fewest_81 rfl (lv_at hl 1 rfl) ?_
      refine lv_if_ne (tgt := 89) S.1 S.2.1 dX12_fewest_82 (by decide) (fun b20 => ?_) (fun b20 => ?_)
      · have hF := (if_neg b20).symm.trans hF
        refine lv_bipush (v := 10) S.1 S.2.1 dX12_fewest_89 (by decide) ?_
        refine lv_iload S.1 S.2.1 dX12_fewest_91 (lv_at hl 3 rfl) ?_
        refine lv_bipush (v := 9) S.1 S.2.1 dX12_fewest_93 (by decide) ?_
        refine lv_idiv S.1 S.2.1 dX12_fewest_95 (by decide) ?_
        refine lv_imul S.1 S.2.1 dX12_fewest_96 ?_
        refine lv_iload S.1 S.2.1 dX12_fewest_97 (lv_at hl 3 rfl) ?_
        refine lv_bipush (v := 9) S.1 S.2.1 dX12_fewest_99 (by decide) ?_
        refine r_irem S dX12_fewest_101 (by decide) ?_
        refine lv_iadd S.1 S.2.1 dX12_fewest_102 ?_
        cases hF
        exact z_m (v := (10 * (x4 / 9)) + (rem32 x4 9)) S hM hr hlk rfl dX12_fewest_103
      · have hF := (if_pos b20).symm.trans hF
        refine lv_iconst (v := 3) S.1 S.2.1 dX12_fewest_85 (by decide) ?_
        refine lv_goto (tgt := 103) S.1 S.2.1 dX12_fewest_86 (by decide) ?_
        cases hF
        exact z_m (v := 3) S hM hr hlk rfl dX12_fewest_103
theorem wl_X12_fewest_64 {l : Launch} {g : GE} {A : Nat → Prop} {p : Program} {e : Env} {s : State} {m : MethodId} {args : Array Value} {below : List Frame} {meth : Method} {c : Code} (S : CallFix p m c cX12_fewest 6 s args UL RX12) (hK : KK g s) (hr : meth.sig.returnType = (some .int)) (hlk : meth.locks = false) {out : Int32 × IM} {k55 : Int32 → Int32 → Int32 → IM → Option (Int32 × IM)} (hk55 : ∀ {x1 : Int32} {x3 : Int32} {x4 : Int32} {σ : IM} {H : Heap} {locs : List Loc} {ls : Array Slot}, Mem lyM 13 g A [] σ nor s.heap H locs → lv_has ls 6 [(0, .ref (g.2.2 0)), (1, .int x1), (3, .int x3), (4, .int x4)] → k55 x1 x3 x4 σ = some out → W p l e ({ frames := 6, cells := 0, slots := 0, locals := 143 }) s m args below meth c H locs 0 0 (MQ below (Qm lyM 13 g A [] out.2 nor (some (.int out.1))) args s 0 0 A) (F0 m 55 ls [])) : ∀ (n : Nat) {x1 : Int32} {x3 : Int32} {x4 : Int32} {x5 : Int32} {σ : IM} {H : Heap} {locs : List Loc} {ls : Array Slot}, Mem lyM 13 g A [] σ nor s.heap H locs → lv_has ls 6 [(0, .ref (g.2.2 0)), (1, .int x1), (3, .int x3), (4, .int x4), (5, .int x5)] → X12_fewest_b64 k55 n x1 x3 x4 x5 σ = some out → W p l e ({ frames := 6, cells := 0, slots := 0, locals := 143 }) s m args below meth c H locs 0 0 (MQ below (Qm lyM 13 g A [] out.2 nor (some (.int out.1))) args s 0 0 A) (F0 m 64 ls []) := by
  intro n
  induction n with
  | zero =>
    intro x1 x3 x4 x5 σ H locs ls hM hl hF
    cases hF
  | succ n ih =>
    intro x1 x3 x4 x5 σ H locs ls hM hl hF
    exact w_X12_fewest_64 S hK hr hlk hk55 ih hM hl hF
def X12_fewest_s55 (k55 : Int32 → Int32 → Int32 → IM → Option (Int32 × IM)) (x1 : Int32) (x3 : Int32) (x4 : Int32) (σ : IM) : Option (Int32 × IM) := if x3 ≤ x4 then (some ((-4), σ)) else (X12_fewest_b64 k55 1000 x1 x3 x4 0 σ)
def X12_fewest_b55 : Nat → Int32 → Int32 → Int32 → IM → Option (Int32 × IM)
  | 0 => fun _ _ _ _ => none
  | n + 1 => X12_fewest_s55 (X12_fewest_b55 n)
set_option maxRecDepth 20000 in
theorem w_X12_fewest_55 {l : Launch} {g : GE} {A : Nat → Prop} {p : Program} {e : Env} {s : State} {m : MethodId} {args : Array Value} {below : List Frame} {meth : Method} {c : Code} (S : CallFix p m c cX12_fewest 6 s args UL RX12) (hK : KK g s) (hr : meth.sig.returnType = (some .int)) (hlk : meth.locks = false) {out : Int32 × IM} {k55 : Int32 → Int32 → Int32 → IM → Option (Int32 × IM)} (hk55 : ∀ {x1 : Int32} {x3 : Int32} {x4 : Int32} {σ : IM} {H : Heap} {locs : List Loc} {ls : Array Slot}, Mem lyM 13 g A [] σ nor s.heap H locs → lv_has ls 6 [(0, .ref (g.2.2 0)), (1, .int x1), (3, .int x3), (4, .int x4)] → k55 x1 x3 x4 σ = some out → W p l e ({ frames := 6, cells := 0, slots := 0, locals := 143 }) s m args below meth c H locs 0 0 (MQ below (Qm lyM 13 g A [] out.2 nor (some (.int out.1))) args s 0 0 A) (F0 m 55 ls [])) : ∀ {x1 : Int32} {x3 : Int32} {x4 : Int32} {σ : IM} {H : Heap} {locs : List Loc} {ls : Array Slot}, Mem lyM 13 g A [] σ nor s.heap H locs → lv_has ls 6 [(0, .ref (g.2.2 0)), (1, .int x1), (3, .int x3), (4, .int x4)] → X12_fewest_s55 k55 x1 x3 x4 σ = some out → W p l e ({ frames := 6, cells := 0, slots := 0, locals := 143 }) s m args below meth c H locs 0 0 (MQ below (Qm lyM 13 g A [] out.2 nor (some (.int out.1))) args s 0 0 A) (F0 m 55 ls []) := by
  intro x1 x3 x4 σ H locs ls hM hl hF
  unfold X12_fewest_s55 at hF
  refine lv_iload S.1 S.2.1 dX12_fewest_55 (lv_at hl 3 rfl) ?_
  refine lv_iload_n S.1 S.2.1 dX12_fewest_57 rfl (lv_at hl 2 rfl) ?_
  refine lv_icmp_ge (tgt := 116) S.1 S.2.1 dX12_fewest_58 (by decide) (fun b12 => ?_) (fun b12 => ?_)
  · have hF := (if_pos b12).symm.trans hF
    refine lv_bipush (v := (-4)) S.1 S.2.1 dX12_fewest_116 (by decide) ?_
    cases hF
    exact z_m (v := (-4)) S hM hr hlk rfl dX12_fewest_118
  · have hF := (if_neg b12).symm.trans hF
    refine lv_iconst (v := 0) S.1 S.2.1 dX12_fewest_61 (by decide) ?_
    refine lv_istore (lv' := [(5, .int 0), (0, .ref (g.2.2 0)), (1, .int x1), (3, .int x3), (4, .int x4)]) S.1 S.2.1 dX12_fewest_62 hl (by decide) rfl (fun ls hl => ?_)
    exact wl_X12_fewest_64 S hK hr hlk hk55 1000 hM (lv_sub hl [1, 2, 3, 4, 0] rfl) hF
theorem wl_X12_fewest_55 {l : Launch} {g : GE} {A : Nat → Prop} {p : Program} {e : Env} {s : State} {m : MethodId} {args : Array Value} {below : List Frame} {meth : Method} {c : Code} (S : CallFix p m c cX12_fewest 6 s args UL RX12) (hK : KK g s) (hr : meth.sig.returnType = (some .int)) (hlk : meth.locks = false) {out : Int32 × IM} : ∀ (n : Nat) {x1 : Int32} {x3 : Int32} {x4 : Int32} {σ : IM} {H : Heap} {locs : List Loc} {ls : Array Slot}, Mem lyM 13 g A [] σ nor s.heap H locs → lv_has ls 6 [(0, .ref (g.2.2 0)), (1, .int x1), (3, .int x3), (4, .int x4)] → X12_fewest_b55 n x1 x3 x4 σ = some out → W p l e ({ frames := 6, cells := 0, slots := 0, locals := 143 }) s m args below meth c H locs 0 0 (MQ below (Qm lyM 13 g A [] out.2 nor (some (.int out.1))) args s 0 0 A) (F0 m 55 ls []) := by
  intro n
  induction n with
  | zero =>
    intro x1 x3 x4 σ H locs ls hM hl hF
    cases hF
  | succ n ih =>
    intro x1 x3 x4 σ H locs ls hM hl hF
    exact w_X12_fewest_55 S hK hr hlk ih hM hl hF
def X12_fewest (σ : IM) (a1 : Int32) : Option (Int32 × IM) := bd1 (X12_isIn a1 0 1) fun r1 => if r1 = 0 then (some ((-1), σ)) else (rd (σ 1) 42 0 fun v3 => if v3 = 0 then (some ((-3), σ)) else (bd2 (X12_forced σ) fun r7 σ5 => if r7 < 0 then (rd (σ5 1) 42 0 fun v9 => bd (9 * v9) fun v10 => X12_fewest_b55 1000 a1 v10 0 σ5) else (if a1 = 0 then (some (1, σ5)) else (some (r7, σ5)))))
set_option maxRecDepth 20000 in
theorem c_X12_fewest {l : Launch} {g : GE} {A : Nat → Prop} {σ : IM} {a1 : Int32} {out : Int32 × IM} (hF : X12_fewest σ a1 = some out) : Met l yX12_fewest (.code yX12_fewest cX12_fewest 6 (some .int) :: UL) ({ frames := 6, cells := 0, slots := 0, locals := 143 }) (va_Pc [.ref (g.2.2 0), .int a1] (PreM lyM 13 g A [] σ nor)) (Qm lyM 13 g A [] out.2 nor (some (.int out.1))) 0 0 A := by
  refine e_of (by decide) (Nat.le_of_ble_eq_true rfl) ?_
  intro p e s m below meth c ls S hr hlk hv hl
  have hM := Mem.of hv
  have hK := hv.2.1
  have hl : lv_has ls 6 [(0, .ref (g.2.2 0)), (1, .int a1)] := hl
  unfold X12_fewest at hF
  refine lv_iload_n S.1 S.2.1 dX12_fewest_0 rfl (lv_at hl 1 rfl) ?_
  refine lv_iconst (v := 0) S.1 S.2.1 dX12_fewest_1 (by decide) ?_
  refine lv_iconst (v := 1) S.1 S.2.1 dX12_fewest_2 (by decide) ?_
  obtain ⟨r1, er1, hF⟩ := bd1_some hF
  refine k_p (va_runS (As := [.int a1, .int 0, .int 1]) (rest := []) S (c_X12_isIn   er1) (va_cwS 3 S.2.2.2.2 (ul_S tw_5_103 tw_5_104 tw_1_12 cw_X12_isIn) rfl rfl rfl hs_X12_isIn ⟨Nat.le_of_ble_eq_true rfl, Nat.le_of_ble_eq_true rfl⟩) ⟨PreM.blind, hM.pre hK⟩ rfl rfl hl.1 rfl (lv_room (Nat.le_of_ble_eq_true rfl)) dX12_fewest_3 ⟨Nat.zero_le _, Nat.zero_le _⟩) ?_
  refine lv_if_ne (tgt := 11) S.1 S.2.1 dX12_fewest_6 (by decide) (fun b2 => ?_) (fun b2 => ?_)
  · have hF := (if_neg b2).symm.trans hF
    refine lv_aload_n S.1 S.2.1 dX12_fewest_11 rfl (lv_at hl 0 rfl) ?_
    refine r_getC S hK hM cfX12 0 0 1 (by decide) lm_0 rfl (by decide) tw_5_31 dX12_fewest_12 ?_
    refine lv_iconst (v := 0) S.1 S.2.1 dX12_fewest_15 (by decide) ?_
    obtain ⟨hv3, v3, ev3, hF⟩ := rd_some hF
    refine r_iald S hK hM 1 (by decide) rfl hv3 ev3 dX12_fewest_16 ?_
    refine lv_if_ne (tgt := 23) S.1 S.2.1 dX12_fewest_17 (by decide) (fun b4 => ?_) (fun b4 => ?_)
    · have hF := (if_neg b4).symm.trans hF
      refine lv_aload_n S.1 S.2.1 dX12_fewest_23 rfl (lv_at hl 0 rfl) ?_
      obtain ⟨r7, σ5, er7, hF⟩ := bd2_some hF
      refine k_m (va_runV (As := []) (rest := []) S (c_X12_forced   er7) (cwV 0 S.2.2.2.2 (ul_V tw_6_63 tw_6_44 tw_6_45 tw_1_12 cw_X12_forced) rfl rfl rfl hv_X12_forced ⟨Nat.le_of_ble_eq_true rfl, Nat.le_of_ble_eq_true rfl⟩) ⟨PreM.blind, hM.recv hK cfX12 0 (by decide) lm_0, hM.pre hK⟩ rfl rfl hl.1 rfl (lv_room (Nat.le_of_ble_eq_true rfl)) dX12_fewest_24 ⟨Nat.zero_le _, Nat.zero_le _⟩) hM (fun H locs hM => ?_)
      show W _ _ _ _ _ _ _ _ _ _ _ _ _ _ _ (F0 m 27 ls [.int r7])
      refine lv_istore_n (lv' := [(2, .int r7), (0, .ref (g.2.2 0)), (1, .int a1)]) S.1 S.2.1 dX12_fewest_27 rfl hl (by decide) rfl (fun ls hl => ?_)
      refine lv_iload_n S.1 S.2.1 dX12_fewest_28 rfl (lv_at hl 0 rfl) ?_
      refine lv_if_lt (tgt := 42) S.1 S.2.1 dX12_fewest_29 (by decide) (fun b8 => ?_) (fun b8 => ?_)
      · have hF := (if_pos b8).symm.trans hF
        refine lv_bipush (v := 9) S.1 S.2.1 dX12_fewest_42 (by decide) ?_
        refine lv_aload_n S.1 S.2.1 dX12_fewest_44 rfl (lv_at hl 1 rfl) ?_
        refine r_getC S hK hM cfX12 0 0 1 (by decide) lm_0 rfl (by decide) tw_5_31 dX12_fewest_45 ?_
        refine lv_iconst (v := 0) S.1 S.2.1 dX12_fewest_48 (by decide) ?_
        obtain ⟨hv9, v9, ev9, hF⟩ := rd_some hF
        refine r_iald S hK hM 1 (by decide) rfl hv9 ev9 dX12_fewest_49 ?_
        refine lv_imul S.1 S.2.1 dX12_fewest_50 ?_
        refine lv_topi (fun v10 ev10 => ?_)
        have hF := bd_at ev10 hF
        refine lv_istore_n (lv' := [(3, .int v10), (2, .int r7), (0, .ref (g.2.2 0)), (1, .int a1)]) S.1 S.2.1 dX12_fewest_51 rfl hl (by decide) rfl (fun ls hl => ?_)
        refine lv_iconst (v := 0) S.1 S.2.1 dX12_fewest_52 (by decide) ?_
        refine lv_istore (lv' := [(4, .int 0), (3, .int v10), (2, .int r7), (0, .ref (g.2.2 0)), (1, .int a1)]) S.1 S.2.1 dX12_fewest_53 hl (by decide) rfl (fun ls hl => ?_)
        exact wl_X12_fewest_55 S hK hr hlk 1000 hM (lv_sub hl [3, 4, 1, 0] rfl) hF
      · have hF := (if_neg b8).symm.trans hF
        refine lv_iload_n S.1 S.2.1 dX12_fewest_32 rfl (lv_at hl 2 rfl) ?_
        refine lv_if_ne (tgt := 40) S.1 S.2.1 dX12_fewest_33 (by decide) (fun b11 => ?_) (fun b11 => ?_)
        · have hF := (if_neg b11).symm.trans hF
          refine lv_iload_n S.1 S.2.1 dX12_fewest_40 rfl (lv_at hl 0 rfl) ?_
          cases hF
          exact z_m (v := r7) S hM hr hlk rfl dX12_fewest_41
        · have hF := (if_pos b11).symm.trans hF
          refine lv_iconst (v := 1) S.1 S.2.1 dX12_fewest_36 (by decide) ?_
          refine lv_goto (tgt := 41) S.1 S.2.1 dX12_fewest_37 (by decide) ?_
          cases hF
          exact z_m (v := 1) S hM hr hlk rfl dX12_fewest_41
    · have hF := (if_pos b4).symm.trans hF
      refine lv_bipush (v := (-3)) S.1 S.2.1 dX12_fewest_20 (by decide) ?_
      cases hF
      exact z_m (v := (-3)) S hM hr hlk rfl dX12_fewest_22
  · have hF := (if_pos b2).symm.trans hF
    refine lv_iconst (v := (-1)) S.1 S.2.1 dX12_fewest_9 (by decide) ?_
    cases hF
    exact z_m (v := (-1)) S hM hr hlk rfl dX12_fewest_10
/-! X12_isHeld -/
def X12_isHeld_b92 (σ : IM) : Option (Int32 × IM) := some (1, σ)
set_option maxRecDepth 20000 in
theorem w_X12_isHeld_92 {l : Launch} {g : GE} {A : Nat → Prop} {p : Program} {e : Env} {s : State} {m : MethodId} {args : Array Value} {below : List Frame} {meth : Method} {c : Code} (S : CallFix p m c cX12_isHeld 5 s args UL RX12) (hK : KK g s) (hr : meth.sig.returnType = (some .boolean)) (hlk : meth.locks = false) {out : Int32 × IM} : ∀ {σ : IM} {H : Heap} {locs : List Loc} {ls : Array Slot}, Mem lyM 13 g A [] σ nor s.heap H locs → lv_has ls 5 [] → X12_isHeld_b92 σ = some out → W p l e ({ frames := 4, cells := 0, slots := 0, locals := 99 }) s m args below meth c H locs 0 0 (MQ below (Qm lyM 13 g A [] out.2 nor (some (.int out.1))) args s 0 0 A) (F0 m 92 ls []) := by
  intro σ H locs ls hM hl hF
  unfold X12_isHeld_b92 at hF
  refine lv_iconst (v := 1) S.1 S.2.1 dX12_isHeld_92 (by decide) ?_
  refine lv_goto (tgt := 97) S.1 S.2.1 dX12_isHeld_93 (by decide) ?_
  cases hF
  exact z_m (v := 1) S hM hr hlk rfl dX12_isHeld_97
def X12_isHeld_b46 (x4 : Int32) (σ : IM) : Option (Int32 × IM) := bd2 (X12_hits σ 2 0 x4) fun r12 σ10 => if r12 = 0 then (bd2 (X12_hits σ10 2 0 4) fun r16 σ14 => if r16 = 0 then (bd2 (X12_hits σ14 2 0 (8 - x4)) fun r20 σ18 => if r20 = 0 then (X12_isHeld_b92 σ18) else (some (0, σ18))) else (X12_isHeld_b92 σ14)) else (some (0, σ10))
set_option maxRecDepth 20000 in
theorem w_X12_isHeld_46 {l : Launch} {g : GE} {A : Nat → Prop} {p : Program} {e : Env} {s : State} {m : MethodId} {args : Array Value} {below : List Frame} {meth : Method} {c : Code} (S : CallFix p m c cX12_isHeld 5 s args UL RX12) (hK : KK g s) (hr : meth.sig.returnType = (some .boolean)) (hlk : meth.locks = false) {out : Int32 × IM} : ∀ {x4 : Int32} {σ : IM} {H : Heap} {locs : List Loc} {ls : Array Slot}, Mem lyM 13 g A [] σ nor s.heap H locs → lv_has ls 5 [(0, .ref (g.2.2 0)), (4, .int x4)] → X12_isHeld_b46 x4 σ = some out → W p l e ({ frames := 4, cells := 0, slots := 0, locals := 99 }) s m args below meth c H locs 0 0 (MQ below (Qm lyM 13 g A [] out.2 nor (some (.int out.1))) args s 0 0 A) (F0 m 46 ls []) := by
  intro x4 σ H locs ls hM hl hF
  unfold X12_isHeld_b46 at hF
  refine lv_aload_n S.1 S.2.1 dX12_isHeld_46 rfl (lv_at hl 0 rfl) ?_
  refine lv_aload_n S.1 S.2.1 dX12_isHeld_47 rfl (lv_at hl 0 rfl) ?_
  refine r_getC S hK hM cfX12 0 1 2 (by decide) lm_0 rfl (by decide) tw_5_32 dX12_isHeld_48 ?_
  refine lv_iconst (v := 0) S.1 S.2.1 dX12_isHeld_51 (by decide) ?_
  refine lv_iload S.1 S.2.1 dX12_isHeld_52 (lv_at hl 1 rfl) ?_
  obtain ⟨r12, σ10, er12, hF⟩ := bd2_some hF
  refine k_m (va_runV (As := [.ref (g.2.2 2), .int 0, .int x4]) (rest := []) S (c_X12_hits  ar_2 er12) (cwV 3 S.2.2.2.2 (ul_V tw_5_146 tw_5_148 ts_X12_hits tw_1_12 cw_X12_hits) rfl rfl rfl hv_X12_hits ⟨Nat.le_of_ble_eq_true rfl, Nat.le_of_ble_eq_true rfl⟩) ⟨PreM.blind, hM.recv hK cfX12 0 (by decide) lm_0, hM.pre hK⟩ rfl rfl hl.1 rfl (lv_room (Nat.le_of_ble_eq_true rfl)) dX12_isHeld_54 ⟨Nat.zero_le _, Nat.zero_le _⟩) hM (fun H locs hM => ?_)
  show W _ _ _ _ _ _ _ _ _ _ _ _ _ _ _ (F0 m 57 ls [.int r12])
  refine lv_if_eq (tgt := 62) S.1 S.2.1 dX12_isHeld_57 (by decide) (fun b13 => ?_) (fun b13 => ?_)
  · have hF := (if_pos b13).symm.trans hF
    refine lv_aload_n S.1 S.2.1 dX12_isHeld_62 rfl (lv_at hl 0 rfl) ?_
    refine lv_aload_n S.1 S.2.1 dX12_isHeld_63 rfl (lv_at hl 0 rfl) ?_
    refine r_getC S hK hM cfX12 0 1 2 (by decide) lm_0 rfl (by decide) tw_5_32 dX12_isHeld_64 ?_
    refine lv_iconst (v := 0) S.1 S.2.1 dX12_isHeld_67 (by decide) ?_
    refine lv_iconst (v := 4) S.1 S.2.1 dX12_isHeld_68 (by decide) ?_
    obtain ⟨r16, σ14, er16, hF⟩ := bd2_some hF
    refine k_m (va_runV (As := [.ref (g.2.2 2), .int 0, .int 4]) (rest := []) S (c_X12_hits  ar_2 er16) (cwV 3 S.2.2.2.2 (ul_V tw_5_146 tw_5_148 ts_X12_hits tw_1_12 cw_X12_hits) rfl rfl rfl hv_X12_hits ⟨Nat.le_of_ble_eq_true rfl, Nat.le_of_ble_eq_true rfl⟩) ⟨PreM.blind, hM.recv hK cfX12 0 (by decide) lm_0, hM.pre hK⟩ rfl rfl hl.1 rfl (lv_room (Nat.le_of_ble_eq_true rfl)) dX12_isHeld_69 ⟨Nat.zero_le _, Nat.zero_le _⟩) hM (fun H locs hM => ?_)
    show W _ _ _ _ _ _ _ _ _ _ _ _ _ _ _ (F0 m 72 ls [.int r16])
    refine lv_if_ne (tgt := 92) S.1 S.2.1 dX12_isHeld_72 (by decide) (fun b17 => ?_) (fun b17 => ?_)
    · have hF := (if_neg b17).symm.trans hF
      exact w_X12_isHeld_92 S hK hr hlk hM (lv_sub hl [] rfl) hF
    · have hF := (if_pos b17).symm.trans hF
      refine lv_aload_n S.1 S.2.1 dX12_isHeld_75 rfl (lv_at hl 0 rfl) ?_
      refine lv_aload_n S.1 S.2.1 dX12_isHeld_76 rfl (lv_at hl 0 rfl) ?_
      refine r_getC S hK hM cfX12 0 1 2 (by decide) lm_0 rfl (by decide) tw_5_32 dX12_isHeld_77 ?_
      refine lv_iconst (v := 0) S.1 S.2.1 dX12_isHeld_80 (by decide) ?_
      refine lv_bipush (v := 8) S.1 S.2.1 dX12_isHeld_81 (by decide) ?_
      refine lv_iload S.1 S.2.1 dX12_isHeld_83 (lv_at hl 1 rfl) ?_
      refine lv_isub S.1 S.2.1 dX12_isHeld_85 ?_
      obtain ⟨r20, σ18, er20, hF⟩ := bd2_some hF
      refine k_m (va_runV (As := [.ref (g.2.2 2), .int 0, .int (8 - x4)]) (rest := []) S (c_X12_hits  ar_2 er20) (cwV 3 S.2.2.2.2 (ul_V tw_5_146 tw_5_148 ts_X12_hits tw_1_12 cw_X12_hits) rfl rfl rfl hv_X12_hits ⟨Nat.le_of_ble_eq_true rfl, Nat.le_of_ble_eq_true rfl⟩) ⟨PreM.blind, hM.recv hK cfX12 0 (by decide) lm_0, hM.pre hK⟩ rfl rfl hl.1 rfl (lv_room (Nat.le_of_ble_eq_true rfl)) dX12_isHeld_86 ⟨Nat.zero_le _, Nat.zero_le _⟩) hM (fun H locs hM => ?_)
      show W _ _ _ _ _ _ _ _ _ _ _ _ _ _ _ (F0 m 89 ls [.int r20])
      refine lv_if_ne (tgt := 96) S.1 S.2.1 dX12_isHeld_89 (by decide) (fun b21 => ?_) (fun b21 => ?_)
      · have hF := (if_neg b21).symm.trans hF
        refine lv_iconst (v := 0) S.1 S.2.1 dX12_isHeld_96 (by decide) ?_
        cases hF
        exact z_m (v := 0) S hM hr hlk rfl dX12_isHeld_97
      · have hF := (if_pos b21).symm.trans hF
        exact w_X12_isHeld_92 S hK hr hlk hM (lv_sub hl [] rfl) hF
  · have hF := (if_neg b13).symm.trans hF
    refine lv_iconst (v := 0) S.1 S.2.1 dX12_isHeld_60 (by decide) ?_
    cases hF
    exact z_m (v := 0) S hM hr hlk rfl dX12_isHeld_61
def X12_isHeld (σ : IM) (a1 : Int32) (a2 : Int32) (a3 : Int32) (a4 : Int32) : Option (Int32 × IM) := bd1 (X12_copies σ 1 2) fun σ1 => bd1 (X12_ofSide a1 a2) fun r4 => wr σ1 2 42 r4 a3 fun σ5 => rd (σ5 2) 42 2 fun v6 => bd1 (X12_sideOf v6) fun r7 => if r7 = a1 then (wr σ5 2 42 2 (2 * (1 - a1)) fun σ9 => X12_isHeld_b46 a4 σ9) else (X12_isHeld_b46 a4 σ5)
set_option maxRecDepth 20000 in
theorem c_X12_isHeld {l : Launch} {g : GE} {A : Nat → Prop} {σ : IM} {a1 : Int32} {a2 : Int32} {a3 : Int32} {a4 : Int32} {out : Int32 × IM} (hF : X12_isHeld σ a1 a2 a3 a4 = some out) : Met l yX12_isHeld (.code yX12_isHeld cX12_isHeld 5 (some .boolean) :: UL) ({ frames := 4, cells := 0, slots := 0, locals := 99 }) (va_Pc [.ref (g.2.2 0), .int a1, .int a2, .int a3, .int a4] (PreM lyM 13 g A [] σ nor)) (Qm lyM 13 g A [] out.2 nor (some (.int out.1))) 0 0 A := by
  refine e_of (by decide) (Nat.le_of_ble_eq_true rfl) ?_
  intro p e s m below meth c ls S hr hlk hv hl
  have hM := Mem.of hv
  have hK := hv.2.1
  have hl : lv_has ls 5 [(0, .ref (g.2.2 0)), (1, .int a1), (2, .int a2), (3, .int a3), (4, .int a4)] := hl
  unfold X12_isHeld at hF
  refine lv_aload_n S.1 S.2.1 dX12_isHeld_0 rfl (lv_at hl 0 rfl) ?_
  refine r_getC S hK hM cfX12 0 0 1 (by decide) lm_0 rfl (by decide) tw_5_31 dX12_isHeld_1 ?_
  refine lv_aload_n S.1 S.2.1 dX12_isHeld_4 rfl (lv_at hl 0 rfl) ?_
  refine r_getC S hK hM cfX12 0 1 2 (by decide) lm_0 rfl (by decide) tw_5_32 dX12_isHeld_5 ?_
  obtain ⟨σ1, er3, hF⟩ := bd1_some hF
  refine k_m (va_runS (As := [.ref (g.2.2 1), .ref (g.2.2 2)]) (rest := []) S (c_X12_copies  ar_1 ar_2 er3) (va_cwS 2 S.2.2.2.2 (ul_S tw_5_118 tw_5_119 tw_1_12 cw_X12_copies) rfl rfl rfl hs_X12_copies ⟨Nat.le_of_ble_eq_true rfl, Nat.le_of_ble_eq_true rfl⟩) ⟨PreM.blind, hM.pre hK⟩ rfl rfl hl.1 rfl (lv_room (Nat.le_of_ble_eq_true rfl)) dX12_isHeld_8 ⟨Nat.zero_le _, Nat.zero_le _⟩) hM (fun H locs hM => ?_)
  show W _ _ _ _ _ _ _ _ _ _ _ _ _ _ _ (F0 m 11 ls [])
  refine lv_aload_n S.1 S.2.1 dX12_isHeld_11 rfl (lv_at hl 0 rfl) ?_
  refine r_getC S hK hM cfX12 0 1 2 (by decide) lm_0 rfl (by decide) tw_5_32 dX12_isHeld_12 ?_
  refine lv_iload_n S.1 S.2.1 dX12_isHeld_15 rfl (lv_at hl 1 rfl) ?_
  refine lv_iload_n S.1 S.2.1 dX12_isHeld_16 rfl (lv_at hl 2 rfl) ?_
  obtain ⟨r4, er4, hF⟩ := bd1_some hF
  refine k_p (va_runS (As := [.int a1, .int a2]) (rest := [.ref (g.2.2 2)]) S (c_X12_ofSide   er4) (va_cwS 2 S.2.2.2.2 (ul_S tw_5_28 tw_5_29 tw_1_12 cw_X12_ofSide) rfl rfl rfl hs_X12_ofSide ⟨Nat.le_of_ble_eq_true rfl, Nat.le_of_ble_eq_true rfl⟩) ⟨PreM.blind, hM.pre hK⟩ rfl rfl hl.1 rfl (lv_room (Nat.le_of_ble_eq_true rfl)) dX12_isHeld_17 ⟨Nat.zero_le _, Nat.zero_le _⟩) ?_
  refine lv_iload_n S.1 S.2.1 dX12_isHeld_20 rfl (lv_at hl 3 rfl) ?_
  obtain ⟨hσ5, σ5, eσ5, hF⟩ := wr_some hF
  refine r_iast S hK hM 2 (by decide) rfl hσ5 eσ5 dX12_isHeld_21 (fun H locs hM => ?_)
  refine lv_aload_n S.1 S.2.1 dX12_isHeld_22 rfl (lv_at hl 0 rfl) ?_
  refine r_getC S hK hM cfX12 0 1 2 (by decide) lm_0 rfl (by decide) tw_5_32 dX12_isHeld_23 ?_
  refine lv_iconst (v := 2) S.1 S.2.1 dX12_isHeld_26 (by decide) ?_
  obtain ⟨hv6, v6, ev6, hF⟩ := rd_some hF
  refine r_iald S hK hM 2 (by decide) rfl hv6 ev6 dX12_isHeld_27 ?_
  obtain ⟨r7, er7, hF⟩ := bd1_some hF
  refine k_p (va_runS (As := [.int v6]) (rest := []) S (c_X12_sideOf   er7) (va_cwS 1 S.2.2.2.2 (ul_S tw_5_150 tw_5_151 tw_1_12 cw_X12_sideOf) rfl rfl rfl hs_X12_sideOf ⟨Nat.le_of_ble_eq_true rfl, Nat.le_of_ble_eq_true rfl⟩) ⟨PreM.blind, hM.pre hK⟩ rfl rfl hl.1 rfl (lv_room (Nat.le_of_ble_eq_true rfl)) dX12_isHeld_28 ⟨Nat.zero_le _, Nat.zero_le _⟩) ?_
  refine lv_iload_n S.1 S.2.1 dX12_isHeld_31 rfl (lv_at hl 1 rfl) ?_
  refine lv_icmp_ne (tgt := 46) S.1 S.2.1 dX12_isHeld_32 (by decide) (fun b8 => ?_) (fun b8 => ?_)
  · have hF := (if_neg b8).symm.trans hF
    exact w_X12_isHeld_46 S hK hr hlk hM (lv_sub hl [0, 4] rfl) hF
  · have hF := (if_pos b8).symm.trans hF
    refine lv_aload_n S.1 S.2.1 dX12_isHeld_35 rfl (lv_at hl 0 rfl) ?_
    refine r_getC S hK hM cfX12 0 1 2 (by decide) lm_0 rfl (by decide) tw_5_32 dX12_isHeld_36 ?_
    refine lv_iconst (v := 2) S.1 S.2.1 dX12_isHeld_39 (by decide) ?_
    refine lv_iconst (v := 2) S.1 S.2.1 dX12_isHeld_40 (by decide) ?_
    refine lv_iconst (v := 1) S.1 S.2.1 dX12_isHeld_41 (by decide) ?_
    refine lv_iload_n S.1 S.2.1 dX12_isHeld_42 rfl (lv_at hl 1 rfl) ?_
    refine lv_isub S.1 S.2.1 dX12_isHeld_43 ?_
    refine lv_imul S.1 S.2.1 dX12_isHeld_44 ?_
    obtain ⟨hσ9, σ9, eσ9, hF⟩ := wr_some hF
    refine r_iast S hK hM 2 (by decide) rfl hσ9 eσ9 dX12_isHeld_45 (fun H locs hM => ?_)
    exact w_X12_isHeld_46 S hK hr hlk hM (lv_sub hl [0, 4] rfl) hF
/-! X12_bestOf -/
def X12_bestOf_b108 (k42 : Int32 → Int32 → Int32 → Int32 → Int32 → Int32 → Int32 → IM → Option (Int32 × IM)) (x1 : Int32) (x2 : Int32) (x3 : Int32) (x4 : Int32) (x5 : Int32) (x6 : Int32) (x7 : Int32) (σ : IM) : Option (Int32 × IM) := bd (x7 + 1) fun v17 => k42 x1 x2 x3 x4 x5 x6 v17 σ
set_option maxRecDepth 20000 in
theorem w_X12_bestOf_108 {l : Launch} {g : GE} {A : Nat → Prop} {p : Program} {e : Env} {s : State} {m : MethodId} {args : Array Value} {below : List Frame} {meth : Method} {c : Code} (S : CallFix p m c cX12_bestOf 10 s args UL RX12) (hK : KK g s) (hr : meth.sig.returnType = (some .int)) (hlk : meth.locks = false) {out : Int32 × IM} {k42 : Int32 → Int32 → Int32 → Int32 → Int32 → Int32 → Int32 → IM → Option (Int32 × IM)} (hk42 : ∀ {x1 : Int32} {x2 : Int32} {x3 : Int32} {x4 : Int32} {x5 : Int32} {x6 : Int32} {x7 : Int32} {σ : IM} {H : Heap} {locs : List Loc} {ls : Array Slot}, Mem lyM 13 g A [] σ nor s.heap H locs → lv_has ls 10 [(0, .ref (g.2.2 0)), (1, .int x1), (2, .int x2), (3, .int x3), (4, .int x4), (5, .int x5), (6, .int x6), (7, .int x7)] → k42 x1 x2 x3 x4 x5 x6 x7 σ = some out → W p l e ({ frames := 5, cells := 0, slots := 0, locals := 123 }) s m args below meth c H locs 0 0 (MQ below (Qm lyM 13 g A [] out.2 nor (some (.int out.1))) args s 0 0 A) (F0 m 42 ls [])) : ∀ {x1 : Int32} {x2 : Int32} {x3 : Int32} {x4 : Int32} {x5 : Int32} {x6 : Int32} {x7 : Int32} {σ : IM} {H : Heap} {locs : List Loc} {ls : Array Slot}, Mem lyM 13 g A [] σ nor s.heap H locs → lv_has ls 10 [(0, .ref (g.2.2 0)), (1, .int x1), (2, .int x2), (3, .int x3), (4, .int x4), (5, .int x5), (6, .int x6), (7, .int x7)] → X12_bestOf_b108 k42 x1 x2 x3 x4 x5 x6 x7 σ = some out → W p l e ({ frames := 5, cells := 0, slots := 0, locals := 123 }) s m args below meth c H locs 0 0 (MQ below (Qm lyM 13 g A [] out.2 nor (some (.int out.1))) args s 0 0 A) (F0 m 108 ls []) := by
  intro x1 x2 x3 x4 x5 x6 x7 σ H locs ls hM hl hF
  unfold X12_bestOf_b108 at hF
  obtain ⟨v17, ev17, hF⟩ := bd_some hF
  refine lv_iinc (v := v17) (lv' := [(7, .int v17), (0, .ref (g.2.2 0)), (1, .int x1), (2, .int x2), (3, .int x3), (4, .int x4), (5, .int x5), (6, .int x6)]) S.1 S.2.1 dX12_bestOf_108 hl (k := 7) rfl (by rw [ev17]; rfl) (by decide) rfl (fun ls hl => ?_)
  refine lv_goto (tgt := 42) S.1 S.2.1 dX12_bestOf_111 (by decide) ?_
  exact hk42 hM (lv_sub hl [1, 2, 3, 4, 5, 6, 7, 0] rfl)  hF
def X12_bestOf_b81 (k42 : Int32 → Int32 → Int32 → Int32 → Int32 → Int32 → Int32 → IM → Option (Int32 × IM)) (k54 : Int32 → Int32 → Int32 → Int32 → Int32 → Int32 → Int32 → Int32 → Int32 → IM → Option (Int32 × IM)) (x1 : Int32) (x2 : Int32) (x3 : Int32) (x4 : Int32) (x5 : Int32) (x6 : Int32) (x7 : Int32) (x9 : Int32) (t0 : Int32) (t1 : Int32) (σ : IM) : Option (Int32 × IM) := bd (t1 + t0) fun v15 => bd (x9 + 1) fun v16 => k54 x1 x2 x3 x4 x5 x6 x7 v15 v16 σ
set_option maxRecDepth 20000 in
theorem w_X12_bestOf_81 {l : Launch} {g : GE} {A : Nat → Prop} {p : Program} {e : Env} {s : State} {m : MethodId} {args : Array Value} {below : List Frame} {meth : Method} {c : Code} (S : CallFix p m c cX12_bestOf 10 s args UL RX12) (hK : KK g s) (hr : meth.sig.returnType = (some .int)) (hlk : meth.locks = false) {out : Int32 × IM} {k42 : Int32 → Int32 → Int32 → Int32 → Int32 → Int32 → Int32 → IM → Option (Int32 × IM)} (hk42 : ∀ {x1 : Int32} {x2 : Int32} {x3 : Int32} {x4 : Int32} {x5 : Int32} {x6 : Int32} {x7 : Int32} {σ : IM} {H : Heap} {locs : List Loc} {ls : Array Slot}, Mem lyM 13 g A [] σ nor s.heap H locs → lv_has ls 10 [(0, .ref (g.2.2 0)), (1, .int x1), (2, .int x2), (3, .int x3), (4, .int x4), (5, .int x5), (6, .int x6), (7, .int x7)] → k42 x1 x2 x3 x4 x5 x6 x7 σ = some out → W p l e ({ frames := 5, cells := 0, slots := 0, locals := 123 }) s m args below meth c H locs 0 0 (MQ below (Qm lyM 13 g A [] out.2 nor (some (.int out.1))) args s 0 0 A) (F0 m 42 ls [])) {k54 : Int32 → Int32 → Int32 → Int32 → Int32 → Int32 → Int32 → Int32 → Int32 → IM → Option (Int32 × IM)} (hk54 : ∀ {x1 : Int32} {x2 : Int32} {x3 : Int32} {x4 : Int32} {x5 : Int32} {x6 : Int32} {x7 : Int32} {x8 : Int32} {x9 : Int32} {σ : IM} {H : Heap} {locs : List Loc} {ls : Array Slot}, Mem lyM 13 g A [] σ nor s.heap H locs → lv_has ls 10 [(0, .ref (g.2.2 0)), (1, .int x1), (2, .int x2), (3, .int x3), (4, .int x4), (5, .int x5), (6, .int x6), (7, .int x7), (8, .int x8), (9, .int x9)] → k54 x1 x2 x3 x4 x5 x6 x7 x8 x9 σ = some out → W p l e ({ frames := 5, cells := 0, slots := 0, locals := 123 }) s m args below meth c H locs 0 0 (MQ below (Qm lyM 13 g A [] out.2 nor (some (.int out.1))) args s 0 0 A) (F0 m 54 ls [])) : ∀ {x1 : Int32} {x2 : Int32} {x3 : Int32} {x4 : Int32} {x5 : Int32} {x6 : Int32} {x7 : Int32} {x9 : Int32} {t0 : Int32} {t1 : Int32} {σ : IM} {H : Heap} {locs : List Loc} {ls : Array Slot}, Mem lyM 13 g A [] σ nor s.heap H locs → lv_has ls 10 [(0, .ref (g.2.2 0)), (1, .int x1), (2, .int x2), (3, .int x3), (4, .int x4), (5, .int x5), (6, .int x6), (7, .int x7), (9, .int x9)] → X12_bestOf_b81 k42 k54 x1 x2 x3 x4 x5 x6 x7 x9 t0 t1 σ = some out → W p l e ({ frames := 5, cells := 0, slots := 0, locals := 123 }) s m args below meth c H locs 0 0 (MQ below (Qm lyM 13 g A [] out.2 nor (some (.int out.1))) args s 0 0 A) (F0 m 81 ls [.int t0, .int t1]) := by
  intro x1 x2 x3 x4 x5 x6 x7 x9 t0 t1 σ H locs ls hM hl hF
  unfold X12_bestOf_b81 at hF
  refine lv_iadd S.1 S.2.1 dX12_bestOf_81 ?_
  refine lv_topi (fun v15 ev15 => ?_)
  have hF := bd_at ev15 hF
  refine lv_istore (lv' := [(8, .int v15), (0, .ref (g.2.2 0)), (1, .int x1), (2, .int x2), (3, .int x3), (4, .int x4), (5, .int x5), (6, .int x6), (7, .int x7), (9, .int x9)]) S.1 S.2.1 dX12_bestOf_82 hl (by decide) rfl (fun ls hl => ?_)
  obtain ⟨v16, ev16, hF⟩ := bd_some hF
  refine lv_iinc (v := v16) (lv' := [(9, .int v16), (8, .int v15), (0, .ref (g.2.2 0)), (1, .int x1), (2, .int x2), (3, .int x3), (4, .int x4), (5, .int x5), (6, .int x6), (7, .int x7)]) S.1 S.2.1 dX12_bestOf_84 hl (k := 9) rfl (by rw [ev16]; rfl) (by decide) rfl (fun ls hl => ?_)
  refine lv_goto (tgt := 54) S.1 S.2.1 dX12_bestOf_87 (by decide) ?_
  exact hk54 hM (lv_sub hl [2, 3, 4, 5, 6, 7, 8, 9, 1, 0] rfl)  hF
def X12_bestOf_s54 (k42 : Int32 → Int32 → Int32 → Int32 → Int32 → Int32 → Int32 → IM → Option (Int32 × IM)) (k54 : Int32 → Int32 → Int32 → Int32 → Int32 → Int32 → Int32 → Int32 → Int32 → IM → Option (Int32 × IM)) (x1 : Int32) (x2 : Int32) (x3 : Int32) (x4 : Int32) (x5 : Int32) (x6 : Int32) (x7 : Int32) (x8 : Int32) (x9 : Int32) (σ : IM) : Option (Int32 × IM) := if 9 ≤ x9 then (if x6 < x8 then (X12_bestOf_b108 k42 x1 x2 x3 x4 x7 x8 x7 σ) else (X12_bestOf_b108 k42 x1 x2 x3 x4 x5 x6 x7 σ)) else (bd2 (X12_isHeld σ x1 x2 x7 x9) fun r13 σ11 => if r13 = 0 then (X12_bestOf_b81 k42 k54 x1 x2 x3 x4 x5 x6 x7 x9 0 x8 σ11) else (X12_bestOf_b81 k42 k54 x1 x2 x3 x4 x5 x6 x7 x9 1 x8 σ11))
def X12_bestOf_b54 (k42 : Int32 → Int32 → Int32 → Int32 → Int32 → Int32 → Int32 → IM → Option (Int32 × IM)) : Nat → Int32 → Int32 → Int32 → Int32 → Int32 → Int32 → Int32 → Int32 → Int32 → IM → Option (Int32 × IM)
  | 0 => fun _ _ _ _ _ _ _ _ _ _ => none
  | n + 1 => X12_bestOf_s54 k42 (X12_bestOf_b54 k42 n)
set_option maxRecDepth 20000 in
theorem w_X12_bestOf_54 {l : Launch} {g : GE} {A : Nat → Prop} {p : Program} {e : Env} {s : State} {m : MethodId} {args : Array Value} {below : List Frame} {meth : Method} {c : Code} (S : CallFix p m c cX12_bestOf 10 s args UL RX12) (hK : KK g s) (hr : meth.sig.returnType = (some .int)) (hlk : meth.locks = false) {out : Int32 × IM} {k42 : Int32 → Int32 → Int32 → Int32 → Int32 → Int32 → Int32 → IM → Option (Int32 × IM)} (hk42 : ∀ {x1 : Int32} {x2 : Int32} {x3 : Int32} {x4 : Int32} {x5 : Int32} {x6 : Int32} {x7 : Int32} {σ : IM} {H : Heap} {locs : List Loc} {ls : Array Slot}, Mem lyM 13 g A [] σ nor s.heap H locs → lv_has ls 10 [(0, .ref (g.2.2 0)), (1, .int x1), (2, .int x2), (3, .int x3), (4, .int x4), (5, .int x5), (6, .int x6), (7, .int x7)] → k42 x1 x2 x3 x4 x5 x6 x7 σ = some out → W p l e ({ frames := 5, cells := 0, slots := 0, locals := 123 }) s m args below meth c H locs 0 0 (MQ below (Qm lyM 13 g A [] out.2 nor (some (.int out.1))) args s 0 0 A) (F0 m 42 ls [])) {k54 : Int32 → Int32 → Int32 → Int32 → Int32 → Int32 → Int32 → Int32 → Int32 → IM → Option (Int32 × IM)} (hk54 : ∀ {x1 : Int32} {x2 : Int32} {x3 : Int32} {x4 : Int32} {x5 : Int32} {x6 : Int32} {x7 : Int32} {x8 : Int32} {x9 : Int32} {σ : IM} {H : Heap} {locs : List Loc} {ls : Array Slot}, Mem lyM 13 g A [] σ nor s.heap H locs → lv_has ls 10 [(0, .ref (g.2.2 0)), (1, .int x1), (2, .int x2), (3, .int x3), (4, .int x4), (5, .int x5), (6, .int x6), (7, .int x7), (8, .int x8), (9, .int x9)] → k54 x1 x2 x3 x4 x5 x6 x7 x8 x9 σ = some out → W p l e ({ frames := 5, cells := 0, slots := 0, locals := 123 }) s m args below meth c H locs 0 0 (MQ below (Qm lyM 13 g A [] out.2 nor (some (.int out.1))) args s 0 0 A) (F0 m 54 ls [])) : ∀ {x1 : Int32} {x2 : Int32} {x3 : Int32} {x4 : Int32} {x5 : Int32} {x6 : Int32} {x7 : Int32} {x8 : Int32} {x9 : Int32} {σ : IM} {H : Heap} {locs : List Loc} {ls : Array Slot}, Mem lyM 13 g A [] σ nor s.heap H locs → lv_has ls 10 [(0, .ref (g.2.2 0)), (1, .int x1), (2, .int x2), (3, .int x3), (4, .int x4), (5, .int x5), (6, .int x6), (7, .int x7), (8, .int x8), (9, .int x9)] → X12_bestOf_s54 k42 k54 x1 x2 x3 x4 x5 x6 x7 x8 x9 σ = some out → W p l e ({ frames := 5, cells := 0, slots := 0, locals := 123 }) s m args below meth c H locs 0 0 (MQ below (Qm lyM 13 g A [] out.2 nor (some (.int out.1))) args s 0 0 A) (F0 m 54 ls []) := by
  intro x1 x2 x3 x4 x5 x6 x7 x8 x9 σ H locs ls hM hl hF
  unfold X12_bestOf_s54 at hF
  refine lv_iload S.1 S.2.1 dX12_bestOf_54 (lv_at hl 9 rfl) ?_
  refine lv_bipush (v := 9) S.1 S.2.1 dX12_bestOf_56 (by decide) ?_
  refine lv_icmp_ge (tgt := 90) S.1 S.2.1 dX12_bestOf_58 (by decide) (fun b9 => ?_) (fun b9 => ?_)
  · have hF := (if_pos b9).symm.trans hF
    refine lv_iload S.1 S.2.1 dX12_bestOf_90 (lv_at hl 8 rfl) ?_
    refine lv_iload S.1 S.2.1 dX12_bestOf_92 (lv_at hl 6 rfl) ?_
    refine lv_icmp_gt (tgt := 100) S.1 S.2.1 dX12_bestOf_94 (by decide) (fun b10 => ?_) (fun b10 => ?_)
    · have hF := (if_pos b10).symm.trans hF
      refine lv_iload S.1 S.2.1 dX12_bestOf_100 (lv_at hl 7 rfl) ?_
      refine lv_istore (lv' := [(5, .int x7), (0, .ref (g.2.2 0)), (1, .int x1), (2, .int x2), (3, .int x3), (4, .int x4), (6, .int x6), (7, .int x7), (8, .int x8), (9, .int x9)]) S.1 S.2.1 dX12_bestOf_102 hl (by decide) rfl (fun ls hl => ?_)
      refine lv_iload S.1 S.2.1 dX12_bestOf_104 (lv_at hl 8 rfl) ?_
      refine lv_istore (lv' := [(6, .int x8), (5, .int x7), (0, .ref (g.2.2 0)), (1, .int x1), (2, .int x2), (3, .int x3), (4, .int x4), (7, .int x7), (8, .int x8), (9, .int x9)]) S.1 S.2.1 dX12_bestOf_106 hl (by decide) rfl (fun ls hl => ?_)
      exact w_X12_bestOf_108 S hK hr hlk hk42 hM (lv_sub hl [2, 3, 4, 5, 6, 1, 0, 7] rfl) hF
    · have hF := (if_neg b10).symm.trans hF
      refine lv_goto (tgt := 108) S.1 S.2.1 dX12_bestOf_97 (by decide) ?_
      exact w_X12_bestOf_108 S hK hr hlk hk42 hM (lv_sub hl [0, 1, 2, 3, 4, 5, 6, 7] rfl) hF
  · have hF := (if_neg b9).symm.trans hF
    refine lv_iload S.1 S.2.1 dX12_bestOf_61 (lv_at hl 8 rfl) ?_
    refine lv_aload_n S.1 S.2.1 dX12_bestOf_63 rfl (lv_at hl 0 rfl) ?_
    refine lv_iload_n S.1 S.2.1 dX12_bestOf_64 rfl (lv_at hl 1 rfl) ?_
    refine lv_iload_n S.1 S.2.1 dX12_bestOf_65 rfl (lv_at hl 2 rfl) ?_
    refine lv_iload S.1 S.2.1 dX12_bestOf_66 (lv_at hl 7 rfl) ?_
    refine lv_iload S.1 S.2.1 dX12_bestOf_68 (lv_at hl 9 rfl) ?_
    obtain ⟨r13, σ11, er13, hF⟩ := bd2_some hF
    refine k_m (va_runV (As := [.int x1, .int x2, .int x7, .int x9]) (rest := [.int x8]) S (c_X12_isHeld   er13) (cwV 4 S.2.2.2.2 (ul_V tw_6_76 tw_6_78 ts_X12_isHeld tw_1_12 cw_X12_isHeld) rfl rfl rfl hv_X12_isHeld ⟨Nat.le_of_ble_eq_true rfl, Nat.le_of_ble_eq_true rfl⟩) ⟨PreM.blind, hM.recv hK cfX12 0 (by decide) lm_0, hM.pre hK⟩ rfl rfl hl.1 rfl (lv_room (Nat.le_of_ble_eq_true rfl)) dX12_bestOf_70 ⟨Nat.zero_le _, Nat.zero_le _⟩) hM (fun H locs hM => ?_)
    show W _ _ _ _ _ _ _ _ _ _ _ _ _ _ _ (F0 m 73 ls [.int r13, .int x8])
    refine lv_if_eq (tgt := 80) S.1 S.2.1 dX12_bestOf_73 (by decide) (fun b14 => ?_) (fun b14 => ?_)
    · have hF := (if_pos b14).symm.trans hF
      refine lv_iconst (v := 0) S.1 S.2.1 dX12_bestOf_80 (by decide) ?_
      exact w_X12_bestOf_81 S hK hr hlk hk42 hk54 hM (lv_sub hl [0, 1, 2, 3, 4, 5, 6, 7, 9] rfl) hF
    · have hF := (if_neg b14).symm.trans hF
      refine lv_iconst (v := 1) S.1 S.2.1 dX12_bestOf_76 (by decide) ?_
      refine lv_goto (tgt := 81) S.1 S.2.1 dX12_bestOf_77 (by decide) ?_
      exact w_X12_bestOf_81 S hK hr hlk hk42 hk54 hM (lv_sub hl [0, 1, 2, 3, 4, 5, 6, 7, 9] rfl) hF
theorem wl_X12_bestOf_54 {l : Launch} {g : GE} {A : Nat → Prop} {p : Program} {e : Env} {s : State} {m : MethodId} {args : Array Value} {below : List Frame} {meth : Method} {c : Code} (S : CallFix p m c cX12_bestOf 10 s args UL RX12) (hK : KK g s) (hr : meth.sig.returnType = (some .int)) (hlk : meth.locks = false) {out : Int32 × IM} {k42 : Int32 → Int32 → Int32 → Int32 → Int32 → Int32 → Int32 → IM → Option (Int32 × IM)} (hk42 : ∀ {x1 : Int32} {x2 : Int32} {x3 : Int32} {x4 : Int32} {x5 : Int32} {x6 : Int32} {x7 : Int32} {σ : IM} {H : Heap} {locs : List Loc} {ls : Array Slot}, Mem lyM 13 g A [] σ nor s.heap H locs → lv_has ls 10 [(0, .ref (g.2.2 0)), (1, .int x1), (2, .int x2), (3, .int x3), (4, .int x4), (5, .int x5), (6, .int x6), (7, .int x7)] → k42 x1 x2 x3 x4 x5 x6 x7 σ = some out → W p l e ({ frames := 5, cells := 0, slots := 0, locals := 123 }) s m args below meth c H locs 0 0 (MQ below (Qm lyM 13 g A [] out.2 nor (some (.int out.1))) args s 0 0 A) (F0 m 42 ls [])) : ∀ (n : Nat) {x1 : Int32} {x2 : Int32} {x3 : Int32} {x4 : Int32} {x5 : Int32} {x6 : Int32} {x7 : Int32} {x8 : Int32} {x9 : Int32} {σ : IM} {H : Heap} {locs : List Loc} {ls : Array Slot}, Mem lyM 13 g A [] σ nor s.heap H locs → lv_has ls 10 [(0, .ref (g.2.2 0)), (1, .int x1), (2, .int x2), (3, .int x3), (4, .int x4), (5, .int x5), (6, .int x6), (7, .int x7), (8, .int x8), (9, .int x9)] → X12_bestOf_b54 k42 n x1 x2 x3 x4 x5 x6 x7 x8 x9 σ = some out → W p l e ({ frames := 5, cells := 0, slots := 0, locals := 123 }) s m args below meth c H locs 0 0 (MQ below (Qm lyM 13 g A [] out.2 nor (some (.int out.1))) args s 0 0 A) (F0 m 54 ls []) := by
  intro n
  induction n with
  | zero =>
    intro x1 x2 x3 x4 x5 x6 x7 x8 x9 σ H locs ls hM hl hF
    cases hF
  | succ n ih =>
    intro x1 x2 x3 x4 x5 x6 x7 x8 x9 σ H locs ls hM hl hF
    exact w_X12_bestOf_54 S hK hr hlk hk42 ih hM hl hF
def X12_bestOf_s42 (k42 : Int32 → Int32 → Int32 → Int32 → Int32 → Int32 → Int32 → IM → Option (Int32 × IM)) (x1 : Int32) (x2 : Int32) (x3 : Int32) (x4 : Int32) (x5 : Int32) (x6 : Int32) (x7 : Int32) (σ : IM) : Option (Int32 × IM) := if x3 ≤ x7 then (if x4 = 0 then (some (x5, σ)) else (some (x6, σ))) else (X12_bestOf_b54 k42 1000 x1 x2 x3 x4 x5 x6 x7 0 0 σ)
def X12_bestOf_b42 : Nat → Int32 → Int32 → Int32 → Int32 → Int32 → Int32 → Int32 → IM → Option (Int32 × IM)
  | 0 => fun _ _ _ _ _ _ _ _ => none
  | n + 1 => X12_bestOf_s42 (X12_bestOf_b42 n)
set_option maxRecDepth 20000 in
theorem w_X12_bestOf_42 {l : Launch} {g : GE} {A : Nat → Prop} {p : Program} {e : Env} {s : State} {m : MethodId} {args : Array Value} {below : List Frame} {meth : Method} {c : Code} (S : CallFix p m c cX12_bestOf 10 s args UL RX12) (hK : KK g s) (hr : meth.sig.returnType = (some .int)) (hlk : meth.locks = false) {out : Int32 × IM} {k42 : Int32 → Int32 → Int32 → Int32 → Int32 → Int32 → Int32 → IM → Option (Int32 × IM)} (hk42 : ∀ {x1 : Int32} {x2 : Int32} {x3 : Int32} {x4 : Int32} {x5 : Int32} {x6 : Int32} {x7 : Int32} {σ : IM} {H : Heap} {locs : List Loc} {ls : Array Slot}, Mem lyM 13 g A [] σ nor s.heap H locs → lv_has ls 10 [(0, .ref (g.2.2 0)), (1, .int x1), (2, .int x2), (3, .int x3), (4, .int x4), (5, .int x5), (6, .int x6), (7, .int x7)] → k42 x1 x2 x3 x4 x5 x6 x7 σ = some out → W p l e ({ frames := 5, cells := 0, slots := 0, locals := 123 }) s m args below meth c H locs 0 0 (MQ below (Qm lyM 13 g A [] out.2 nor (some (.int out.1))) args s 0 0 A) (F0 m 42 ls [])) : ∀ {x1 : Int32} {x2 : Int32} {x3 : Int32} {x4 : Int32} {x5 : Int32} {x6 : Int32} {x7 : Int32} {σ : IM} {H : Heap} {locs : List Loc} {ls : Array Slot}, Mem lyM 13 g A [] σ nor s.heap H locs → lv_has ls 10 [(0, .ref (g.2.2 0)), (1, .int x1), (2, .int x2), (3, .int x3), (4, .int x4), (5, .int x5), (6, .int x6), (7, .int x7)] → X12_bestOf_s42 k42 x1 x2 x3 x4 x5 x6 x7 σ = some out → W p l e ({ frames := 5, cells := 0, slots := 0, locals := 123 }) s m args below meth c H locs 0 0 (MQ below (Qm lyM 13 g A [] out.2 nor (some (.int out.1))) args s 0 0 A) (F0 m 42 ls []) := by
  intro x1 x2 x3 x4 x5 x6 x7 σ H locs ls hM hl hF
  unfold X12_bestOf_s42 at hF
  refine lv_iload S.1 S.2.1 dX12_bestOf_42 (lv_at hl 7 rfl) ?_
  refine lv_iload_n S.1 S.2.1 dX12_bestOf_44 rfl (lv_at hl 3 rfl) ?_
  refine lv_icmp_ge (tgt := 114) S.1 S.2.1 dX12_bestOf_45 (by decide) (fun b7 => ?_) (fun b7 => ?_)
  · have hF := (if_pos b7).symm.trans hF
    refine lv_iload S.1 S.2.1 dX12_bestOf_114 (lv_at hl 4 rfl) ?_
    refine lv_if_ne (tgt := 124) S.1 S.2.1 dX12_bestOf_116 (by decide) (fun b8 => ?_) (fun b8 => ?_)
    · have hF := (if_neg b8).symm.trans hF
      refine lv_iload S.1 S.2.1 dX12_bestOf_124 (lv_at hl 6 rfl) ?_
      cases hF
      exact z_m (v := x6) S hM hr hlk rfl dX12_bestOf_126
    · have hF := (if_pos b8).symm.trans hF
      refine lv_iload S.1 S.2.1 dX12_bestOf_119 (lv_at hl 5 rfl) ?_
      refine lv_goto (tgt := 126) S.1 S.2.1 dX12_bestOf_121 (by decide) ?_
      cases hF
      exact z_m (v := x5) S hM hr hlk rfl dX12_bestOf_126
  · have hF := (if_neg b7).symm.trans hF
    refine lv_iconst (v := 0) S.1 S.2.1 dX12_bestOf_48 (by decide) ?_
    refine lv_istore (lv' := [(8, .int 0), (0, .ref (g.2.2 0)), (1, .int x1), (2, .int x2), (3, .int x3), (4, .int x4), (5, .int x5), (6, .int x6), (7, .int x7)]) S.1 S.2.1 dX12_bestOf_49 hl (by decide) rfl (fun ls hl => ?_)
    refine lv_iconst (v := 0) S.1 S.2.1 dX12_bestOf_51 (by decide) ?_
    refine lv_istore (lv' := [(9, .int 0), (8, .int 0), (0, .ref (g.2.2 0)), (1, .int x1), (2, .int x2), (3, .int x3), (4, .int x4), (5, .int x5), (6, .int x6), (7, .int x7)]) S.1 S.2.1 dX12_bestOf_52 hl (by decide) rfl (fun ls hl => ?_)
    exact wl_X12_bestOf_54 S hK hr hlk hk42 1000 hM (lv_sub hl [2, 3, 4, 5, 6, 7, 8, 9, 1, 0] rfl) hF
theorem wl_X12_bestOf_42 {l : Launch} {g : GE} {A : Nat → Prop} {p : Program} {e : Env} {s : State} {m : MethodId} {args : Array Value} {below : List Frame} {meth : Method} {c : Code} (S : CallFix p m c cX12_bestOf 10 s args UL RX12) (hK : KK g s) (hr : meth.sig.returnType = (some .int)) (hlk : meth.locks = false) {out : Int32 × IM} : ∀ (n : Nat) {x1 : Int32} {x2 : Int32} {x3 : Int32} {x4 : Int32} {x5 : Int32} {x6 : Int32} {x7 : Int32} {σ : IM} {H : Heap} {locs : List Loc} {ls : Array Slot}, Mem lyM 13 g A [] σ nor s.heap H locs → lv_has ls 10 [(0, .ref (g.2.2 0)), (1, .int x1), (2, .int x2), (3, .int x3), (4, .int x4), (5, .int x5), (6, .int x6), (7, .int x7)] → X12_bestOf_b42 n x1 x2 x3 x4 x5 x6 x7 σ = some out → W p l e ({ frames := 5, cells := 0, slots := 0, locals := 123 }) s m args below meth c H locs 0 0 (MQ below (Qm lyM 13 g A [] out.2 nor (some (.int out.1))) args s 0 0 A) (F0 m 42 ls []) := by
  intro n
  induction n with
  | zero =>
    intro x1 x2 x3 x4 x5 x6 x7 σ H locs ls hM hl hF
    cases hF
  | succ n ih =>
    intro x1 x2 x3 x4 x5 x6 x7 σ H locs ls hM hl hF
    exact w_X12_bestOf_42 S hK hr hlk ih hM hl hF
def X12_bestOf (σ : IM) (a1 : Int32) (a2 : Int32) (a3 : Int32) (a4 : Int32) : Option (Int32 × IM) := bd1 (X12_isIn a1 0 1) fun r1 => if r1 = 0 then (some ((-1), σ)) else (bd1 (X12_isIn a4 0 1) fun r3 => if r3 = 0 then (some ((-1), σ)) else (rd (σ 1) 42 0 fun v5 => if v5 = 0 then (some ((-3), σ)) else (X12_bestOf_b42 1000 a1 a2 a3 a4 0 (-1) 0 σ)))
set_option maxRecDepth 20000 in
theorem c_X12_bestOf {l : Launch} {g : GE} {A : Nat → Prop} {σ : IM} {a1 : Int32} {a2 : Int32} {a3 : Int32} {a4 : Int32} {out : Int32 × IM} (hF : X12_bestOf σ a1 a2 a3 a4 = some out) : Met l yX12_bestOf (.code yX12_bestOf cX12_bestOf 10 (some .int) :: UL) ({ frames := 5, cells := 0, slots := 0, locals := 123 }) (va_Pc [.ref (g.2.2 0), .int a1, .int a2, .int a3, .int a4] (PreM lyM 13 g A [] σ nor)) (Qm lyM 13 g A [] out.2 nor (some (.int out.1))) 0 0 A := by
  refine e_of (by decide) (Nat.le_of_ble_eq_true rfl) ?_
  intro p e s m below meth c ls S hr hlk hv hl
  have hM := Mem.of hv
  have hK := hv.2.1
  have hl : lv_has ls 10 [(0, .ref (g.2.2 0)), (1, .int a1), (2, .int a2), (3, .int a3), (4, .int a4)] := hl
  unfold X12_bestOf at hF
  refine lv_iload_n S.1 S.2.1 dX12_bestOf_0 rfl (lv_at hl 1 rfl) ?_
  refine lv_iconst (v := 0) S.1 S.2.1 dX12_bestOf_1 (by decide) ?_
  refine lv_iconst (v := 1) S.1 S.2.1 dX12_bestOf_2 (by decide) ?_
  obtain ⟨r1, er1, hF⟩ := bd1_some hF
  refine k_p (va_runS (As := [.int a1, .int 0, .int 1]) (rest := []) S (c_X12_isIn   er1) (va_cwS 3 S.2.2.2.2 (ul_S tw_5_103 tw_5_104 tw_1_12 cw_X12_isIn) rfl rfl rfl hs_X12_isIn ⟨Nat.le_of_ble_eq_true rfl, Nat.le_of_ble_eq_true rfl⟩) ⟨PreM.blind, hM.pre hK⟩ rfl rfl hl.1 rfl (lv_room (Nat.le_of_ble_eq_true rfl)) dX12_bestOf_3 ⟨Nat.zero_le _, Nat.zero_le _⟩) ?_
  refine lv_if_eq (tgt := 19) S.1 S.2.1 dX12_bestOf_6 (by decide) (fun b2 => ?_) (fun b2 => ?_)
  · have hF := (if_pos b2).symm.trans hF
    refine lv_iconst (v := (-1)) S.1 S.2.1 dX12_bestOf_19 (by decide) ?_
    cases hF
    exact z_m (v := (-1)) S hM hr hlk rfl dX12_bestOf_20
  · have hF := (if_neg b2).symm.trans hF
    refine lv_iload S.1 S.2.1 dX12_bestOf_9 (lv_at hl 4 rfl) ?_
    refine lv_iconst (v := 0) S.1 S.2.1 dX12_bestOf_11 (by decide) ?_
    refine lv_iconst (v := 1) S.1 S.2.1 dX12_bestOf_12 (by decide) ?_
    obtain ⟨r3, er3, hF⟩ := bd1_some hF
    refine k_p (va_runS (As := [.int a4, .int 0, .int 1]) (rest := []) S (c_X12_isIn   er3) (va_cwS 3 S.2.2.2.2 (ul_S tw_5_103 tw_5_104 tw_1_12 cw_X12_isIn) rfl rfl rfl hs_X12_isIn ⟨Nat.le_of_ble_eq_true rfl, Nat.le_of_ble_eq_true rfl⟩) ⟨PreM.blind, hM.pre hK⟩ rfl rfl hl.1 rfl (lv_room (Nat.le_of_ble_eq_true rfl)) dX12_bestOf_13 ⟨Nat.zero_le _, Nat.zero_le _⟩) ?_
    refine lv_if_ne (tgt := 21) S.1 S.2.1 dX12_bestOf_16 (by decide) (fun b4 => ?_) (fun b4 => ?_)
    · have hF := (if_neg b4).symm.trans hF
      refine lv_aload_n S.1 S.2.1 dX12_bestOf_21 rfl (lv_at hl 0 rfl) ?_
      refine r_getC S hK hM cfX12 0 0 1 (by decide) lm_0 rfl (by decide) tw_5_31 dX12_bestOf_22 ?_
      refine lv_iconst (v := 0) S.1 S.2.1 dX12_bestOf_25 (by decide) ?_
      obtain ⟨hv5, v5, ev5, hF⟩ := rd_some hF
      refine r_iald S hK hM 1 (by decide) rfl hv5 ev5 dX12_bestOf_26 ?_
      refine lv_if_ne (tgt := 33) S.1 S.2.1 dX12_bestOf_27 (by decide) (fun b6 => ?_) (fun b6 => ?_)
      · have hF := (if_neg b6).symm.trans hF
        refine lv_iconst (v := 0) S.1 S.2.1 dX12_bestOf_33 (by decide) ?_
        refine lv_istore (lv' := [(5, .int 0), (0, .ref (g.2.2 0)), (1, .int a1), (2, .int a2), (3, .int a3), (4, .int a4)]) S.1 S.2.1 dX12_bestOf_34 hl (by decide) rfl (fun ls hl => ?_)
        refine lv_iconst (v := (-1)) S.1 S.2.1 dX12_bestOf_36 (by decide) ?_
        refine lv_istore (lv' := [(6, .int (-1)), (5, .int 0), (0, .ref (g.2.2 0)), (1, .int a1), (2, .int a2), (3, .int a3), (4, .int a4)]) S.1 S.2.1 dX12_bestOf_37 hl (by decide) rfl (fun ls hl => ?_)
        refine lv_iconst (v := 0) S.1 S.2.1 dX12_bestOf_39 (by decide) ?_
        refine lv_istore (lv' := [(7, .int 0), (6, .int (-1)), (5, .int 0), (0, .ref (g.2.2 0)), (1, .int a1), (2, .int a2), (3, .int a3), (4, .int a4)]) S.1 S.2.1 dX12_bestOf_40 hl (by decide) rfl (fun ls hl => ?_)
        exact wl_X12_bestOf_42 S hK hr hlk 1000 hM (lv_sub hl [3, 4, 5, 6, 7, 2, 1, 0] rfl) hF
      · have hF := (if_pos b6).symm.trans hF
        refine lv_bipush (v := (-3)) S.1 S.2.1 dX12_bestOf_30 (by decide) ?_
        cases hF
        exact z_m (v := (-3)) S hM hr hlk rfl dX12_bestOf_32
    · have hF := (if_pos b4).symm.trans hF
      refine lv_iconst (v := (-1)) S.1 S.2.1 dX12_bestOf_19 (by decide) ?_
      cases hF
      exact z_m (v := (-1)) S hM hr hlk rfl dX12_bestOf_20
/-! X12_bestForm -/
def X12_bestForm (σ : IM) (a1 : Int32) (a2 : Int32) : Option (Int32 × IM) := bd2 (X12_bestOf σ a1 0 2 a2) fun r3 σ1 => some (r3, σ1)
set_option maxRecDepth 20000 in
theorem c_X12_bestForm {l : Launch} {g : GE} {A : Nat → Prop} {σ : IM} {a1 : Int32} {a2 : Int32} {out : Int32 × IM} (hF : X12_bestForm σ a1 a2 = some out) : Met l yX12_bestForm (.code yX12_bestForm cX12_bestForm 3 (some .int) :: UL) ({ frames := 6, cells := 0, slots := 0, locals := 152 }) (va_Pc [.ref (g.2.2 0), .int a1, .int a2] (PreM lyM 13 g A [] σ nor)) (Qm lyM 13 g A [] out.2 nor (some (.int out.1))) 0 0 A := by
  refine e_of (by decide) (Nat.le_of_ble_eq_true rfl) ?_
  intro p e s m below meth c ls S hr hlk hv hl
  have hM := Mem.of hv
  have hK := hv.2.1
  have hl : lv_has ls 3 [(0, .ref (g.2.2 0)), (1, .int a1), (2, .int a2)] := hl
  unfold X12_bestForm at hF
  refine lv_aload_n S.1 S.2.1 dX12_bestForm_0 rfl (lv_at hl 0 rfl) ?_
  refine lv_iload_n S.1 S.2.1 dX12_bestForm_1 rfl (lv_at hl 1 rfl) ?_
  refine lv_iconst (v := 0) S.1 S.2.1 dX12_bestForm_2 (by decide) ?_
  refine lv_iconst (v := 2) S.1 S.2.1 dX12_bestForm_3 (by decide) ?_
  refine lv_iload_n S.1 S.2.1 dX12_bestForm_4 rfl (lv_at hl 2 rfl) ?_
  obtain ⟨r3, σ1, er3, hF⟩ := bd2_some hF
  refine k_m (va_runV (As := [.int a1, .int 0, .int 2, .int a2]) (rest := []) S (c_X12_bestOf   er3) (cwV 4 S.2.2.2.2 (ul_V tw_6_72 tw_6_74 ts_X12_bestOf tw_1_12 cw_X12_bestOf) rfl rfl rfl hv_X12_bestOf ⟨Nat.le_of_ble_eq_true rfl, Nat.le_of_ble_eq_true rfl⟩) ⟨PreM.blind, hM.recv hK cfX12 0 (by decide) lm_0, hM.pre hK⟩ rfl rfl hl.1 rfl (lv_room (Nat.le_of_ble_eq_true rfl)) dX12_bestForm_5 ⟨Nat.zero_le _, Nat.zero_le _⟩) hM (fun H locs hM => ?_)
  show W _ _ _ _ _ _ _ _ _ _ _ _ _ _ _ (F0 m 8 ls [.int r3])
  cases hF
  exact z_m (v := r3) S hM hr hlk rfl dX12_bestForm_8
/-! X12_bestHabit -/
def X12_bestHabit (σ : IM) (a1 : Int32) (a2 : Int32) : Option (Int32 × IM) := bd2 (X12_bestOf σ a1 1 4 a2) fun r3 σ1 => some (r3, σ1)
set_option maxRecDepth 20000 in
theorem c_X12_bestHabit {l : Launch} {g : GE} {A : Nat → Prop} {σ : IM} {a1 : Int32} {a2 : Int32} {out : Int32 × IM} (hF : X12_bestHabit σ a1 a2 = some out) : Met l yX12_bestHabit (.code yX12_bestHabit cX12_bestHabit 3 (some .int) :: UL) ({ frames := 6, cells := 0, slots := 0, locals := 152 }) (va_Pc [.ref (g.2.2 0), .int a1, .int a2] (PreM lyM 13 g A [] σ nor)) (Qm lyM 13 g A [] out.2 nor (some (.int out.1))) 0 0 A := by
  refine e_of (by decide) (Nat.le_of_ble_eq_true rfl) ?_
  intro p e s m below meth c ls S hr hlk hv hl
  have hM := Mem.of hv
  have hK := hv.2.1
  have hl : lv_has ls 3 [(0, .ref (g.2.2 0)), (1, .int a1), (2, .int a2)] := hl
  unfold X12_bestHabit at hF
  refine lv_aload_n S.1 S.2.1 dX12_bestHabit_0 rfl (lv_at hl 0 rfl) ?_
  refine lv_iload_n S.1 S.2.1 dX12_bestHabit_1 rfl (lv_at hl 1 rfl) ?_
  refine lv_iconst (v := 1) S.1 S.2.1 dX12_bestHabit_2 (by decide) ?_
  refine lv_iconst (v := 4) S.1 S.2.1 dX12_bestHabit_3 (by decide) ?_
  refine lv_iload_n S.1 S.2.1 dX12_bestHabit_4 rfl (lv_at hl 2 rfl) ?_
  obtain ⟨r3, σ1, er3, hF⟩ := bd2_some hF
  refine k_m (va_runV (As := [.int a1, .int 1, .int 4, .int a2]) (rest := []) S (c_X12_bestOf   er3) (cwV 4 S.2.2.2.2 (ul_V tw_6_72 tw_6_74 ts_X12_bestOf tw_1_12 cw_X12_bestOf) rfl rfl rfl hv_X12_bestOf ⟨Nat.le_of_ble_eq_true rfl, Nat.le_of_ble_eq_true rfl⟩) ⟨PreM.blind, hM.recv hK cfX12 0 (by decide) lm_0, hM.pre hK⟩ rfl rfl hl.1 rfl (lv_room (Nat.le_of_ble_eq_true rfl)) dX12_bestHabit_5 ⟨Nat.zero_le _, Nat.zero_le _⟩) hM (fun H locs hM => ?_)
  show W _ _ _ _ _ _ _ _ _ _ _ _ _ _ _ (F0 m 8 ls [.int r3])
  cases hF
  exact z_m (v := r3) S hM hr hlk rfl dX12_bestHabit_8
/-! X12_change -/
def X12_change_b51 (t0 : Int32) (t1 : Int32) (σ : IM) : Option (Int32 × IM) := bd1 (X12_ofP t1 t0) fun r11 => rd (σ 2) 42 r11 fun v12 => some (v12, σ)
set_option maxRecDepth 20000 in
theorem w_X12_change_51 {l : Launch} {g : GE} {A : Nat → Prop} {p : Program} {e : Env} {s : State} {m : MethodId} {args : Array Value} {below : List Frame} {meth : Method} {c : Code} (S : CallFix p m c cX12_change 6 s args UL RX12) (hK : KK g s) (hr : meth.sig.returnType = (some .int)) (hlk : meth.locks = false) {out : Int32 × IM} : ∀ {t0 : Int32} {t1 : Int32} {σ : IM} {H : Heap} {locs : List Loc} {ls : Array Slot}, Mem lyM 13 g A [] σ nor s.heap H locs → lv_has ls 6 [] → X12_change_b51 t0 t1 σ = some out → W p l e ({ frames := 5, cells := 0, slots := 0, locals := 121 }) s m args below meth c H locs 0 0 (MQ below (Qm lyM 13 g A [] out.2 nor (some (.int out.1))) args s 0 0 A) (F0 m 51 ls [.int t0, .int t1, .ref (g.2.2 2)]) := by
  intro t0 t1 σ H locs ls hM hl hF
  unfold X12_change_b51 at hF
  obtain ⟨r11, er11, hF⟩ := bd1_some hF
  refine k_p (va_runS (As := [.int t1, .int t0]) (rest := [.ref (g.2.2 2)]) S (c_X12_ofP   er11) (va_cwS 2 S.2.2.2.2 (ul_S tw_5_25 tw_5_26 tw_1_12 cw_X12_ofP) rfl rfl rfl hs_X12_ofP ⟨Nat.le_of_ble_eq_true rfl, Nat.le_of_ble_eq_true rfl⟩) ⟨PreM.blind, hM.pre hK⟩ rfl rfl hl.1 rfl (lv_room (Nat.le_of_ble_eq_true rfl)) dX12_change_51 ⟨Nat.zero_le _, Nat.zero_le _⟩) ?_
  obtain ⟨hv12, v12, ev12, hF⟩ := rd_some hF
  refine r_iald S hK hM 2 (by decide) rfl hv12 ev12 dX12_change_54 ?_
  cases hF
  exact z_m (v := v12) S hM hr hlk rfl dX12_change_55
def X12_change (σ : IM) (a1 : Int32) (a2 : Int32) (a3 : Int32) (a4 : Int32) : Option (Int32 × IM) := bd1 (X12_isHit σ a1 a2) fun r1 => if r1 = 0 then (some ((-1), σ)) else (bd1 (X12_isPlayer a3) fun r3 => if r3 = 0 then (some ((-1), σ)) else (bd1 (X12_isIn a4 0 1) fun r5 => if r5 = 0 then (some ((-1), σ)) else (bd2 (X12_isWon σ a1 a2) fun r9 σ7 => if a4 = 0 then (X12_change_b51 0 a3 σ7) else (X12_change_b51 2 a3 σ7))))
set_option maxRecDepth 20000 in
theorem c_X12_change {l : Launch} {g : GE} {A : Nat → Prop} {σ : IM} {a1 : Int32} {a2 : Int32} {a3 : Int32} {a4 : Int32} {out : Int32 × IM} (hF : X12_change σ a1 a2 a3 a4 = some out) : Met l yX12_change (.code yX12_change cX12_change 6 (some .int) :: UL) ({ frames := 5, cells := 0, slots := 0, locals := 121 }) (va_Pc [.ref (g.2.2 0), .int a1, .int a2, .int a3, .int a4] (PreM lyM 13 g A [] σ nor)) (Qm lyM 13 g A [] out.2 nor (some (.int out.1))) 0 0 A := by
  refine e_of (by decide) (Nat.le_of_ble_eq_true rfl) ?_
  intro p e s m below meth c ls S hr hlk hv hl
  have hM := Mem.of hv
  have hK := hv.2.1
  have hl : lv_has ls 6 [(0, .ref (g.2.2 0)), (1, .int a1), (2, .int a2), (3, .int a3), (4, .int a4)] := hl
  unfold X12_change at hF
  refine lv_aload_n S.1 S.2.1 dX12_change_0 rfl (lv_at hl 0 rfl) ?_
  refine lv_iload_n S.1 S.2.1 dX12_change_1 rfl (lv_at hl 1 rfl) ?_
  refine lv_iload_n S.1 S.2.1 dX12_change_2 rfl (lv_at hl 2 rfl) ?_
  obtain ⟨r1, er1, hF⟩ := bd1_some hF
  refine k_p (va_runV (As := [.int a1, .int a2]) (rest := []) S (c_X12_isHit   er1) (cwV 2 S.2.2.2.2 (ul_V tw_6_11 tw_6_13 ts_X12_isHit tw_1_12 cw_X12_isHit) rfl rfl rfl hv_X12_isHit ⟨Nat.le_of_ble_eq_true rfl, Nat.le_of_ble_eq_true rfl⟩) ⟨PreM.blind, hM.recv hK cfX12 0 (by decide) lm_0, hM.pre hK⟩ rfl rfl hl.1 rfl (lv_room (Nat.le_of_ble_eq_true rfl)) dX12_change_3 ⟨Nat.zero_le _, Nat.zero_le _⟩) ?_
  refine lv_if_eq (tgt := 26) S.1 S.2.1 dX12_change_6 (by decide) (fun b2 => ?_) (fun b2 => ?_)
  · have hF := (if_pos b2).symm.trans hF
    refine lv_iconst (v := (-1)) S.1 S.2.1 dX12_change_26 (by decide) ?_
    cases hF
    exact z_m (v := (-1)) S hM hr hlk rfl dX12_change_27
  · have hF := (if_neg b2).symm.trans hF
    refine lv_iload_n S.1 S.2.1 dX12_change_9 rfl (lv_at hl 3 rfl) ?_
    obtain ⟨r3, er3, hF⟩ := bd1_some hF
    refine k_p (va_runS (As := [.int a3]) (rest := []) S (c_X12_isPlayer   er3) (va_cwS 1 S.2.2.2.2 (ul_S tw_5_132 tw_5_133 tw_1_12 cw_X12_isPlayer) rfl rfl rfl hs_X12_isPlayer ⟨Nat.le_of_ble_eq_true rfl, Nat.le_of_ble_eq_true rfl⟩) ⟨PreM.blind, hM.pre hK⟩ rfl rfl hl.1 rfl (lv_room (Nat.le_of_ble_eq_true rfl)) dX12_change_10 ⟨Nat.zero_le _, Nat.zero_le _⟩) ?_
    refine lv_if_eq (tgt := 26) S.1 S.2.1 dX12_change_13 (by decide) (fun b4 => ?_) (fun b4 => ?_)
    · have hF := (if_pos b4).symm.trans hF
      refine lv_iconst (v := (-1)) S.1 S.2.1 dX12_change_26 (by decide) ?_
      cases hF
      exact z_m (v := (-1)) S hM hr hlk rfl dX12_change_27
    · have hF := (if_neg b4).symm.trans hF
      refine lv_iload S.1 S.2.1 dX12_change_16 (lv_at hl 4 rfl) ?_
      refine lv_iconst (v := 0) S.1 S.2.1 dX12_change_18 (by decide) ?_
      refine lv_iconst (v := 1) S.1 S.2.1 dX12_change_19 (by decide) ?_
      obtain ⟨r5, er5, hF⟩ := bd1_some hF
      refine k_p (va_runS (As := [.int a4, .int 0, .int 1]) (rest := []) S (c_X12_isIn   er5) (va_cwS 3 S.2.2.2.2 (ul_S tw_5_103 tw_5_104 tw_1_12 cw_X12_isIn) rfl rfl rfl hs_X12_isIn ⟨Nat.le_of_ble_eq_true rfl, Nat.le_of_ble_eq_true rfl⟩) ⟨PreM.blind, hM.pre hK⟩ rfl rfl hl.1 rfl (lv_room (Nat.le_of_ble_eq_true rfl)) dX12_change_20 ⟨Nat.zero_le _, Nat.zero_le _⟩) ?_
      refine lv_if_ne (tgt := 28) S.1 S.2.1 dX12_change_23 (by decide) (fun b6 => ?_) (fun b6 => ?_)
      · have hF := (if_neg b6).symm.trans hF
        refine lv_aload_n S.1 S.2.1 dX12_change_28 rfl (lv_at hl 0 rfl) ?_
        refine lv_iload_n S.1 S.2.1 dX12_change_29 rfl (lv_at hl 1 rfl) ?_
        refine lv_iload_n S.1 S.2.1 dX12_change_30 rfl (lv_at hl 2 rfl) ?_
        obtain ⟨r9, σ7, er9, hF⟩ := bd2_some hF
        refine k_m (va_runV (As := [.int a1, .int a2]) (rest := []) S (c_X12_isWon   er9) (cwV 2 S.2.2.2.2 (ul_V tw_6_27 tw_6_29 ts_X12_isWon tw_1_12 cw_X12_isWon) rfl rfl rfl hv_X12_isWon ⟨Nat.le_of_ble_eq_true rfl, Nat.le_of_ble_eq_true rfl⟩) ⟨PreM.blind, hM.recv hK cfX12 0 (by decide) lm_0, hM.pre hK⟩ rfl rfl hl.1 rfl (lv_room (Nat.le_of_ble_eq_true rfl)) dX12_change_31 ⟨Nat.zero_le _, Nat.zero_le _⟩) hM (fun H locs hM => ?_)
        show W _ _ _ _ _ _ _ _ _ _ _ _ _ _ _ (F0 m 34 ls [.int r9])
        refine lv_istore (lv' := [(5, .int r9), (0, .ref (g.2.2 0)), (1, .int a1), (2, .int a2), (3, .int a3), (4, .int a4)]) S.1 S.2.1 dX12_change_34 hl (by decide) rfl (fun ls hl => ?_)
        refine lv_aload_n S.1 S.2.1 dX12_change_36 rfl (lv_at hl 1 rfl) ?_
        refine r_getC S hK hM cfX12 0 1 2 (by decide) lm_0 rfl (by decide) tw_5_32 dX12_change_37 ?_
        refine lv_iload_n S.1 S.2.1 dX12_change_40 rfl (lv_at hl 4 rfl) ?_
        refine lv_iload S.1 S.2.1 dX12_change_41 (lv_at hl 5 rfl) ?_
        refine lv_if_ne (tgt := 50) S.1 S.2.1 dX12_change_43 (by decide) (fun b10 => ?_) (fun b10 => ?_)
        · have hF := (if_neg b10).symm.trans hF
          refine lv_iconst (v := 2) S.1 S.2.1 dX12_change_50 (by decide) ?_
          exact w_X12_change_51 S hK hr hlk hM (lv_sub hl [] rfl) hF
        · have hF := (if_pos b10).symm.trans hF
          refine lv_iconst (v := 0) S.1 S.2.1 dX12_change_46 (by decide) ?_
          refine lv_goto (tgt := 51) S.1 S.2.1 dX12_change_47 (by decide) ?_
          exact w_X12_change_51 S hK hr hlk hM (lv_sub hl [] rfl) hF
      · have hF := (if_pos b6).symm.trans hF
        refine lv_iconst (v := (-1)) S.1 S.2.1 dX12_change_26 (by decide) ?_
        cases hF
        exact z_m (v := (-1)) S hM hr hlk rfl dX12_change_27
/-! X12_wrongRally -/
def X12_wrongRally_b76 (σ : IM) (k28 : Int32 → Int32 → Int32 → Option Int32) (x1 : Int32) (x2 : Int32) (x3 : Int32) : Option Int32 := bd (x3 + 2) fun v12 => k28 x1 x2 v12
set_option maxRecDepth 20000 in
theorem w_X12_wrongRally_76 {l : Launch} {g : GE} {A : Nat → Prop} {σ : IM} {p : Program} {e : Env} {s : State} {m : MethodId} {args : Array Value} {below : List Frame} {meth : Method} {c : Code} (S : CallFix p m c cX12_wrongRally 4 s args UL RX12) (hK : KK g s) (hr : meth.sig.returnType = (some .int)) (hlk : meth.locks = false) (hM : Mem lyM 13 g A [] σ nor s.heap s.heap []) {out : Int32} {k28 : Int32 → Int32 → Int32 → Option Int32} (hk28 : ∀ {x1 : Int32} {x2 : Int32} {x3 : Int32} {ls : Array Slot}, lv_has ls 4 [(0, .ref (g.2.2 0)), (1, .int x1), (2, .int x2), (3, .int x3)] → k28 x1 x2 x3 = some out → W p l e ({ frames := 3, cells := 0, slots := 0, locals := 65 }) s m args below meth c s.heap [] 0 0 (MQ below (Qp (some (.int out))) args s 0 0 NoA) (F0 m 28 ls [])) : ∀ {x1 : Int32} {x2 : Int32} {x3 : Int32} {ls : Array Slot}, lv_has ls 4 [(0, .ref (g.2.2 0)), (1, .int x1), (2, .int x2), (3, .int x3)] → X12_wrongRally_b76 σ k28 x1 x2 x3 = some out → W p l e ({ frames := 3, cells := 0, slots := 0, locals := 65 }) s m args below meth c s.heap [] 0 0 (MQ below (Qp (some (.int out))) args s 0 0 NoA) (F0 m 76 ls []) := by
  intro x1 x2 x3 ls hl hF
  unfold X12_wrongRally_b76 at hF
  obtain ⟨v12, ev12, hF⟩ := bd_some hF
  refine lv_iinc (v := v12) (lv' := [(3, .int v12), (0, .ref (g.2.2 0)), (1, .int x1), (2, .int x2)]) S.1 S.2.1 dX12_wrongRally_76 hl (k := 3) rfl (by rw [ev12]; rfl) (by decide) rfl (fun ls hl => ?_)
  refine lv_goto (tgt := 28) S.1 S.2.1 dX12_wrongRally_79 (by decide) ?_
  exact hk28  (lv_sub hl [1, 2, 3, 0] rfl)  hF
def X12_wrongRally_s28 (σ : IM) (k28 : Int32 → Int32 → Int32 → Option Int32) (x1 : Int32) (x2 : Int32) (x3 : Int32) : Option Int32 := if x2 = 0 then (rd (σ 11) 8 x1 fun v6 => if v6 ≤ x3 then (some x2) else (rd (σ 12) 800 ((100 * x1) + x3) fun v8 => rd (σ 12) 800 (((100 * x1) + x3) + 1) fun v9 => bd1 (X12_isHit σ v8 v9) fun r10 => if r10 = 0 then (X12_wrongRally_b76 σ k28 x1 (-13) x3) else (X12_wrongRally_b76 σ k28 x1 x2 x3))) else (some x2)
def X12_wrongRally_b28 (σ : IM) : Nat → Int32 → Int32 → Int32 → Option Int32
  | 0 => fun _ _ _ => none
  | n + 1 => X12_wrongRally_s28 σ (X12_wrongRally_b28 σ n)
set_option maxRecDepth 20000 in
theorem w_X12_wrongRally_28 {l : Launch} {g : GE} {A : Nat → Prop} {σ : IM} {p : Program} {e : Env} {s : State} {m : MethodId} {args : Array Value} {below : List Frame} {meth : Method} {c : Code} (S : CallFix p m c cX12_wrongRally 4 s args UL RX12) (hK : KK g s) (hr : meth.sig.returnType = (some .int)) (hlk : meth.locks = false) (hM : Mem lyM 13 g A [] σ nor s.heap s.heap []) {out : Int32} {k28 : Int32 → Int32 → Int32 → Option Int32} (hk28 : ∀ {x1 : Int32} {x2 : Int32} {x3 : Int32} {ls : Array Slot}, lv_has ls 4 [(0, .ref (g.2.2 0)), (1, .int x1), (2, .int x2), (3, .int x3)] → k28 x1 x2 x3 = some out → W p l e ({ frames := 3, cells := 0, slots := 0, locals := 65 }) s m args below meth c s.heap [] 0 0 (MQ below (Qp (some (.int out))) args s 0 0 NoA) (F0 m 28 ls [])) : ∀ {x1 : Int32} {x2 : Int32} {x3 : Int32} {ls : Array Slot}, lv_has ls 4 [(0, .ref (g.2.2 0)), (1, .int x1), (2, .int x2), (3, .int x3)] → X12_wrongRally_s28 σ k28 x1 x2 x3 = some out → W p l e ({ frames := 3, cells := 0, slots := 0, locals := 65 }) s m args below meth c s.heap [] 0 0 (MQ below (Qp (some (.int out))) args s 0 0 NoA) (F0 m 28 ls []) := by
  intro x1 x2 x3 ls hl hF
  unfold X12_wrongRally_s28 at hF
  refine lv_iload_n S.1 S.2.1 dX12_wrongRally_28 rfl (lv_at hl 2 rfl) ?_
  refine lv_if_ne (tgt := 82) S.1 S.2.1 dX12_wrongRally_29 (by decide) (fun b5 => ?_) (fun b5 => ?_)
  · have hF := (if_neg b5).symm.trans hF
    refine lv_iload_n S.1 S.2.1 dX12_wrongRally_82 rfl (lv_at hl 2 rfl) ?_
    cases hF
    exact z_p S hr hlk rfl dX12_wrongRally_83
  · have hF := (if_pos b5).symm.trans hF
    refine lv_iload_n S.1 S.2.1 dX12_wrongRally_32 rfl (lv_at hl 3 rfl) ?_
    refine lv_aload_n S.1 S.2.1 dX12_wrongRally_33 rfl (lv_at hl 0 rfl) ?_
    refine r_getC S hK hM cfX12 0 17 11 (by decide) lm_0 rfl (by decide) tw_5_48 dX12_wrongRally_34 ?_
    refine lv_iload_n S.1 S.2.1 dX12_wrongRally_37 rfl (lv_at hl 1 rfl) ?_
    obtain ⟨hv6, v6, ev6, hF⟩ := rd_some hF
    refine r_iald S hK hM 11 (by decide) rfl hv6 ev6 dX12_wrongRally_38 ?_
    refine lv_icmp_ge (tgt := 82) S.1 S.2.1 dX12_wrongRally_39 (by decide) (fun b7 => ?_) (fun b7 => ?_)
    · have hF := (if_pos b7).symm.trans hF
      refine lv_iload_n S.1 S.2.1 dX12_wrongRally_82 rfl (lv_at hl 2 rfl) ?_
      cases hF
      exact z_p S hr hlk rfl dX12_wrongRally_83
    · have hF := (if_neg b7).symm.trans hF
      refine lv_aload_n S.1 S.2.1 dX12_wrongRally_42 rfl (lv_at hl 0 rfl) ?_
      refine lv_aload_n S.1 S.2.1 dX12_wrongRally_43 rfl (lv_at hl 0 rfl) ?_
      refine r_getC S hK hM cfX12 0 18 12 (by decide) lm_0 rfl (by decide) tw_5_49 dX12_wrongRally_44 ?_
      refine lv_bipush (v := 100) S.1 S.2.1 dX12_wrongRally_47 (by decide) ?_
      refine lv_iload_n S.1 S.2.1 dX12_wrongRally_49 rfl (lv_at hl 1 rfl) ?_
      refine lv_imul S.1 S.2.1 dX12_wrongRally_50 ?_
      refine lv_iload_n S.1 S.2.1 dX12_wrongRally_51 rfl (lv_at hl 3 rfl) ?_
      refine lv_iadd S.1 S.2.1 dX12_wrongRally_52 ?_
      obtain ⟨hv8, v8, ev8, hF⟩ := rd_some hF
      refine r_iald S hK hM 12 (by decide) rfl hv8 ev8 dX12_wrongRally_53 ?_
      refine lv_aload_n S.1 S.2.1 dX12_wrongRally_54 rfl (lv_at hl 0 rfl) ?_
      refine r_getC S hK hM cfX12 0 18 12 (by decide) lm_0 rfl (by decide) tw_5_49 dX12_wrongRally_55 ?_
      refine lv_bipush (v := 100) S.1 S.2.1 dX12_wrongRally_58 (by decide) ?_
      refine lv_iload_n S.1 S.2.1 dX12_wrongRally_60 rfl (lv_at hl 1 rfl) ?_
      refine lv_imul S.1 S.2.1 dX12_wrongRally_61 ?_
      refine lv_iload_n S.1 S.2.1 dX12_wrongRally_62 rfl (lv_at hl 3 rfl) ?_
      refine lv_iadd S.1 S.2.1 dX12_wrongRally_63 ?_
      refine lv_iconst (v := 1) S.1 S.2.1 dX12_wrongRally_64 (by decide) ?_
      refine lv_iadd S.1 S.2.1 dX12_wrongRally_65 ?_
      obtain ⟨hv9, v9, ev9, hF⟩ := rd_some hF
      refine r_iald S hK hM 12 (by decide) rfl hv9 ev9 dX12_wrongRally_66 ?_
      obtain ⟨r10, er10, hF⟩ := bd1_some hF
      refine k_p (va_runV (As := [.int v8, .int v9]) (rest := []) S (c_X12_isHit   er10) (cwV 2 S.2.2.2.2 (ul_V tw_6_11 tw_6_13 ts_X12_isHit tw_1_12 cw_X12_isHit) rfl rfl rfl hv_X12_isHit ⟨Nat.le_of_ble_eq_true rfl, Nat.le_of_ble_eq_true rfl⟩) ⟨PreM.blind, hM.recv hK cfX12 0 (by decide) lm_0, hM.pre hK⟩ rfl rfl hl.1 rfl (lv_room (Nat.le_of_ble_eq_true rfl)) dX12_wrongRally_67 ⟨Nat.zero_le _, Nat.zero_le _⟩) ?_
      refine lv_if_ne (tgt := 76) S.1 S.2.1 dX12_wrongRally_70 (by decide) (fun b11 => ?_) (fun b11 => ?_)
      · have hF := (if_neg b11).symm.trans hF
        exact w_X12_wrongRally_76 S hK hr hlk hM hk28 (lv_sub hl [0, 1, 2, 3] rfl) hF
      · have hF := (if_pos b11).symm.trans hF
        refine lv_bipush (v := (-13)) S.1 S.2.1 dX12_wrongRally_73 (by decide) ?_
        refine lv_istore_n (lv' := [(2, .int (-13)), (0, .ref (g.2.2 0)), (1, .int x1), (3, .int x3)]) S.1 S.2.1 dX12_wrongRally_75 rfl hl (by decide) rfl (fun ls hl => ?_)
        exact w_X12_wrongRally_76 S hK hr hlk hM hk28 (lv_sub hl [1, 2, 0, 3] rfl) hF
theorem wl_X12_wrongRally_28 {l : Launch} {g : GE} {A : Nat → Prop} {σ : IM} {p : Program} {e : Env} {s : State} {m : MethodId} {args : Array Value} {below : List Frame} {meth : Method} {c : Code} (S : CallFix p m c cX12_wrongRally 4 s args UL RX12) (hK : KK g s) (hr : meth.sig.returnType = (some .int)) (hlk : meth.locks = false) (hM : Mem lyM 13 g A [] σ nor s.heap s.heap []) {out : Int32} : ∀ (n : Nat) {x1 : Int32} {x2 : Int32} {x3 : Int32} {ls : Array Slot}, lv_has ls 4 [(0, .ref (g.2.2 0)), (1, .int x1), (2, .int x2), (3, .int x3)] → X12_wrongRally_b28 σ n x1 x2 x3 = some out → W p l e ({ frames := 3, cells := 0, slots := 0, locals := 65 }) s m args below meth c s.heap [] 0 0 (MQ below (Qp (some (.int out))) args s 0 0 NoA) (F0 m 28 ls []) := by
  intro n
  induction n with
  | zero =>
    intro x1 x2 x3 ls hl hF
    cases hF
  | succ n ih =>
    intro x1 x2 x3 ls hl hF
    exact w_X12_wrongRally_28 S hK hr hlk hM ih hl hF
def X12_wrongRally_b26 (σ : IM) (x1 : Int32) (x2 : Int32) : Option Int32 := X12_wrongRally_b28 σ 1000 x1 x2 0
set_option maxRecDepth 20000 in
theorem w_X12_wrongRally_26 {l : Launch} {g : GE} {A : Nat → Prop} {σ : IM} {p : Program} {e : Env} {s : State} {m : MethodId} {args : Array Value} {below : List Frame} {meth : Method} {c : Code} (S : CallFix p m c cX12_wrongRally 4 s args UL RX12) (hK : KK g s) (hr : meth.sig.returnType = (some .int)) (hlk : meth.locks = false) (hM : Mem lyM 13 g A [] σ nor s.heap s.heap []) {out : Int32} : ∀ {x1 : Int32} {x2 : Int32} {ls : Array Slot}, lv_has ls 4 [(0, .ref (g.2.2 0)), (1, .int x1), (2, .int x2)] → X12_wrongRally_b26 σ x1 x2 = some out → W p l e ({ frames := 3, cells := 0, slots := 0, locals := 65 }) s m args below meth c s.heap [] 0 0 (MQ below (Qp (some (.int out))) args s 0 0 NoA) (F0 m 26 ls []) := by
  intro x1 x2 ls hl hF
  unfold X12_wrongRally_b26 at hF
  refine lv_iconst (v := 0) S.1 S.2.1 dX12_wrongRally_26 (by decide) ?_
  refine lv_istore_n (lv' := [(3, .int 0), (0, .ref (g.2.2 0)), (1, .int x1), (2, .int x2)]) S.1 S.2.1 dX12_wrongRally_27 rfl hl (by decide) rfl (fun ls hl => ?_)
  exact wl_X12_wrongRally_28 S hK hr hlk hM 1000 (lv_sub hl [1, 2, 3, 0] rfl) hF
def X12_wrongRally (σ : IM) (a1 : Int32) : Option Int32 := bd1 (X12_wrongRow σ a1 (-1)) fun r1 => if r1 = 0 then (rd (σ 11) 8 a1 fun v3 => if rem32 v3 2 = 1 then (X12_wrongRally_b26 σ a1 (-13)) else (X12_wrongRally_b26 σ a1 r1)) else (X12_wrongRally_b26 σ a1 r1)
set_option maxRecDepth 20000 in
theorem c_X12_wrongRally {l : Launch} {g : GE} {A : Nat → Prop} {σ : IM} {a1 : Int32} {out : Int32} (hF : X12_wrongRally σ a1 = some out) : Met l yX12_wrongRally (.code yX12_wrongRally cX12_wrongRally 4 (some .int) :: UL) ({ frames := 3, cells := 0, slots := 0, locals := 65 }) (va_Pc [.ref (g.2.2 0), .int a1] (PreM lyM 13 g A [] σ nor)) (Qp (some (.int out))) 0 0 NoA := by
  refine e_of (by decide) (Nat.le_of_ble_eq_true rfl) ?_
  intro p e s m below meth c ls S hr hlk hv hl
  have hM := Mem.of hv
  have hK := hv.2.1
  have hl : lv_has ls 4 [(0, .ref (g.2.2 0)), (1, .int a1)] := hl
  unfold X12_wrongRally at hF
  refine lv_aload_n S.1 S.2.1 dX12_wrongRally_0 rfl (lv_at hl 0 rfl) ?_
  refine lv_iload_n S.1 S.2.1 dX12_wrongRally_1 rfl (lv_at hl 1 rfl) ?_
  refine lv_iconst (v := (-1)) S.1 S.2.1 dX12_wrongRally_2 (by decide) ?_
  obtain ⟨r1, er1, hF⟩ := bd1_some hF
  refine k_p (va_runV (As := [.int a1, .int (-1)]) (rest := []) S (c_X12_wrongRow   er1) (cwV 2 S.2.2.2.2 (ul_V tw_5_96 tw_5_98 ts_X12_wrongRow tw_1_12 cw_X12_wrongRow) rfl rfl rfl hv_X12_wrongRow ⟨Nat.le_of_ble_eq_true rfl, Nat.le_of_ble_eq_true rfl⟩) ⟨PreM.blind, hM.recv hK cfX12 0 (by decide) lm_0, hM.pre hK⟩ rfl rfl hl.1 rfl (lv_room (Nat.le_of_ble_eq_true rfl)) dX12_wrongRally_3 ⟨Nat.zero_le _, Nat.zero_le _⟩) ?_
  refine lv_istore_n (lv' := [(2, .int r1), (0, .ref (g.2.2 0)), (1, .int a1)]) S.1 S.2.1 dX12_wrongRally_6 rfl hl (by decide) rfl (fun ls hl => ?_)
  refine lv_iload_n S.1 S.2.1 dX12_wrongRally_7 rfl (lv_at hl 0 rfl) ?_
  refine lv_if_ne (tgt := 26) S.1 S.2.1 dX12_wrongRally_8 (by decide) (fun b2 => ?_) (fun b2 => ?_)
  · have hF := (if_neg b2).symm.trans hF
    exact w_X12_wrongRally_26 S hK hr hlk hM (lv_sub hl [1, 2, 0] rfl) hF
  · have hF := (if_pos b2).symm.trans hF
    refine lv_aload_n S.1 S.2.1 dX12_wrongRally_11 rfl (lv_at hl 1 rfl) ?_
    refine r_getC S hK hM cfX12 0 17 11 (by decide) lm_0 rfl (by decide) tw_5_48 dX12_wrongRally_12 ?_
    refine lv_iload_n S.1 S.2.1 dX12_wrongRally_15 rfl (lv_at hl 2 rfl) ?_
    obtain ⟨hv3, v3, ev3, hF⟩ := rd_some hF
    refine r_iald S hK hM 11 (by decide) rfl hv3 ev3 dX12_wrongRally_16 ?_
    refine lv_iconst (v := 2) S.1 S.2.1 dX12_wrongRally_17 (by decide) ?_
    refine r_irem S dX12_wrongRally_18 (by decide) ?_
    refine lv_iconst (v := 1) S.1 S.2.1 dX12_wrongRally_19 (by decide) ?_
    refine lv_icmp_ne (tgt := 26) S.1 S.2.1 dX12_wrongRally_20 (by decide) (fun b4 => ?_) (fun b4 => ?_)
    · have hF := (if_neg b4).symm.trans hF
      exact w_X12_wrongRally_26 S hK hr hlk hM (lv_sub hl [1, 2, 0] rfl) hF
    · have hF := (if_pos b4).symm.trans hF
      refine lv_bipush (v := (-13)) S.1 S.2.1 dX12_wrongRally_23 (by decide) ?_
      refine lv_istore_n (lv' := [(2, .int (-13)), (0, .ref (g.2.2 0)), (1, .int a1)]) S.1 S.2.1 dX12_wrongRally_25 rfl hl (by decide) rfl (fun ls hl => ?_)
      exact w_X12_wrongRally_26 S hK hr hlk hM (lv_sub hl [1, 2, 0] rfl) hF
/-! X12_rallies -/
def X12_rallies_b111 (k43 : Int32 → Int32 → IM → Option IM) (x1 : Int32) (x2 : Int32) (σ : IM) : Option IM := bd (up2 σ 0 10 ((σ 0 10) + 1)) fun σ21 => bd (x2 + 2) fun v22 => k43 x1 v22 σ21
set_option maxRecDepth 20000 in
theorem w_X12_rallies_111 {l : Launch} {g : GE} {A : Nat → Prop} {p : Program} {e : Env} {s : State} {m : MethodId} {args : Array Value} {below : List Frame} {meth : Method} {c : Code} (S : CallFix p m c cX12_rallies 4 s args UL RX12) (hK : KK g s) (hr : meth.sig.returnType = none) (hlk : meth.locks = false) {out : IM} {k43 : Int32 → Int32 → IM → Option IM} (hk43 : ∀ {x1 : Int32} {x2 : Int32} {σ : IM} {H : Heap} {locs : List Loc} {ls : Array Slot}, Mem lyM 13 g A [] σ nor s.heap H locs → lv_has ls 4 [(0, .ref (g.2.2 0)), (1, .int x1), (2, .int x2)] → k43 x1 x2 σ = some out → W p l e ({ frames := 4, cells := 0, slots := 0, locals := 99 }) s m args below meth c H locs 0 0 (MQ below (Qm lyM 13 g A [] out nor none) args s 0 0 A) (F0 m 43 ls [])) : ∀ {x1 : Int32} {x2 : Int32} {σ : IM} {H : Heap} {locs : List Loc} {ls : Array Slot}, Mem lyM 13 g A [] σ nor s.heap H locs → lv_has ls 4 [(0, .ref (g.2.2 0)), (1, .int x1), (2, .int x2)] → X12_rallies_b111 k43 x1 x2 σ = some out → W p l e ({ frames := 4, cells := 0, slots := 0, locals := 99 }) s m args below meth c H locs 0 0 (MQ below (Qm lyM 13 g A [] out nor none) args s 0 0 A) (F0 m 111 ls []) := by
  intro x1 x2 σ H locs ls hM hl hF
  unfold X12_rallies_b111 at hF
  refine lv_aload_n S.1 S.2.1 dX12_rallies_111 rfl (lv_at hl 0 rfl) ?_
  refine lv_dup S.1 S.2.1 dX12_rallies_112 rfl ?_
  refine r_getI S hK hM cfX12 0 10 (by decide) lm_0 rfl (by decide) tw_5_41 dX12_rallies_113 ?_
  refine lv_iconst (v := 1) S.1 S.2.1 dX12_rallies_116 (by decide) ?_
  refine lv_iadd S.1 S.2.1 dX12_rallies_117 ?_
  obtain ⟨σ21, eσ21, hF⟩ := bd_some hF
  refine r_putI (ty := .int) S hK hM cfX12 tyX12_ok nmX12 0 10 (by decide) lm_0 rfl (by decide) tw_5_41 rfl (by decide +kernel) rfl rfl eσ21 dX12_rallies_118 (fun H locs hM => ?_)
  obtain ⟨v22, ev22, hF⟩ := bd_some hF
  refine lv_iinc (v := v22) (lv' := [(2, .int v22), (0, .ref (g.2.2 0)), (1, .int x1)]) S.1 S.2.1 dX12_rallies_121 hl (k := 2) rfl (by rw [ev22]; rfl) (by decide) rfl (fun ls hl => ?_)
  refine lv_goto (tgt := 43) S.1 S.2.1 dX12_rallies_124 (by decide) ?_
  exact hk43 hM (lv_sub hl [1, 2, 0] rfl)  hF
def X12_rallies_s43 (k43 : Int32 → Int32 → IM → Option IM) (x1 : Int32) (x2 : Int32) (σ : IM) : Option IM := rd (σ 11) 8 x1 fun v9 => if v9 ≤ x2 then (some (σ)) else (if σ 0 11 = 2 then (rd (σ 2) 42 2 fun v12 => bd1 (X12_sideOf v12) fun r13 => rd (σ 12) 800 ((100 * x1) + x2) fun v14 => rd (σ 12) 800 (((100 * x1) + x2) + 1) fun v15 => bd2 (X12_hits σ 2 v14 v15) fun r18 σ16 => if r18 = 0 then (X12_rallies_b111 k43 x1 x2 σ16) else (bd (up2 σ16 0 11 r13) fun σ20 => X12_rallies_b111 k43 x1 x2 σ20)) else (some (σ)))
def X12_rallies_b43 : Nat → Int32 → Int32 → IM → Option IM
  | 0 => fun _ _ _ => none
  | n + 1 => X12_rallies_s43 (X12_rallies_b43 n)
set_option maxRecDepth 20000 in
theorem w_X12_rallies_43 {l : Launch} {g : GE} {A : Nat → Prop} {p : Program} {e : Env} {s : State} {m : MethodId} {args : Array Value} {below : List Frame} {meth : Method} {c : Code} (S : CallFix p m c cX12_rallies 4 s args UL RX12) (hK : KK g s) (hr : meth.sig.returnType = none) (hlk : meth.locks = false) {out : IM} {k43 : Int32 → Int32 → IM → Option IM} (hk43 : ∀ {x1 : Int32} {x2 : Int32} {σ : IM} {H : Heap} {locs : List Loc} {ls : Array Slot}, Mem lyM 13 g A [] σ nor s.heap H locs → lv_has ls 4 [(0, .ref (g.2.2 0)), (1, .int x1), (2, .int x2)] → k43 x1 x2 σ = some out → W p l e ({ frames := 4, cells := 0, slots := 0, locals := 99 }) s m args below meth c H locs 0 0 (MQ below (Qm lyM 13 g A [] out nor none) args s 0 0 A) (F0 m 43 ls [])) : ∀ {x1 : Int32} {x2 : Int32} {σ : IM} {H : Heap} {locs : List Loc} {ls : Array Slot}, Mem lyM 13 g A [] σ nor s.heap H locs → lv_has ls 4 [(0, .ref (g.2.2 0)), (1, .int x1), (2, .int x2)] → X12_rallies_s43 k43 x1 x2 σ = some out → W p l e ({ frames := 4, cells := 0, slots := 0, locals := 99 }) s m args below meth c H locs 0 0 (MQ below (Qm lyM 13 g A [] out nor none) args s 0 0 A) (F0 m 43 ls []) := by
  intro x1 x2 σ H locs ls hM hl hF
  unfold X12_rallies_s43 at hF
  refine lv_iload_n S.1 S.2.1 dX12_rallies_43 rfl (lv_at hl 2 rfl) ?_
  refine lv_aload_n S.1 S.2.1 dX12_rallies_44 rfl (lv_at hl 0 rfl) ?_
  refine r_getC S hK hM cfX12 0 17 11 (by decide) lm_0 rfl (by decide) tw_5_48 dX12_rallies_45 ?_
  refine lv_iload_n S.1 S.2.1 dX12_rallies_48 rfl (lv_at hl 1 rfl) ?_
  obtain ⟨hv9, v9, ev9, hF⟩ := rd_some hF
  refine r_iald S hK hM 11 (by decide) rfl hv9 ev9 dX12_rallies_49 ?_
  refine lv_icmp_ge (tgt := 127) S.1 S.2.1 dX12_rallies_50 (by decide) (fun b10 => ?_) (fun b10 => ?_)
  · have hF := (if_pos b10).symm.trans hF
    cases hF
    exact z_mv S hM hr hlk dX12_rallies_127
  · have hF := (if_neg b10).symm.trans hF
    refine lv_aload_n S.1 S.2.1 dX12_rallies_53 rfl (lv_at hl 0 rfl) ?_
    refine r_getI S hK hM cfX12 0 11 (by decide) lm_0 rfl (by decide) tw_5_42 dX12_rallies_54 ?_
    refine lv_iconst (v := 2) S.1 S.2.1 dX12_rallies_57 (by decide) ?_
    refine lv_icmp_ne (tgt := 127) S.1 S.2.1 dX12_rallies_58 (by decide) (fun b11 => ?_) (fun b11 => ?_)
    · have hF := (if_neg b11).symm.trans hF
      cases hF
      exact z_mv S hM hr hlk dX12_rallies_127
    · have hF := (if_pos b11).symm.trans hF
      refine lv_aload_n S.1 S.2.1 dX12_rallies_61 rfl (lv_at hl 0 rfl) ?_
      refine r_getC S hK hM cfX12 0 1 2 (by decide) lm_0 rfl (by decide) tw_5_32 dX12_rallies_62 ?_
      refine lv_iconst (v := 2) S.1 S.2.1 dX12_rallies_65 (by decide) ?_
      obtain ⟨hv12, v12, ev12, hF⟩ := rd_some hF
      refine r_iald S hK hM 2 (by decide) rfl hv12 ev12 dX12_rallies_66 ?_
      obtain ⟨r13, er13, hF⟩ := bd1_some hF
      refine k_p (va_runS (As := [.int v12]) (rest := []) S (c_X12_sideOf   er13) (va_cwS 1 S.2.2.2.2 (ul_S tw_5_150 tw_5_151 tw_1_12 cw_X12_sideOf) rfl rfl rfl hs_X12_sideOf ⟨Nat.le_of_ble_eq_true rfl, Nat.le_of_ble_eq_true rfl⟩) ⟨PreM.blind, hM.pre hK⟩ rfl rfl hl.1 rfl (lv_room (Nat.le_of_ble_eq_true rfl)) dX12_rallies_67 ⟨Nat.zero_le _, Nat.zero_le _⟩) ?_
      refine lv_istore_n (lv' := [(3, .int r13), (0, .ref (g.2.2 0)), (1, .int x1), (2, .int x2)]) S.1 S.2.1 dX12_rallies_70 rfl hl (by decide) rfl (fun ls hl => ?_)
      refine lv_aload_n S.1 S.2.1 dX12_rallies_71 rfl (lv_at hl 1 rfl) ?_
      refine lv_aload_n S.1 S.2.1 dX12_rallies_72 rfl (lv_at hl 1 rfl) ?_
      refine r_getC S hK hM cfX12 0 1 2 (by decide) lm_0 rfl (by decide) tw_5_32 dX12_rallies_73 ?_
      refine lv_aload_n S.1 S.2.1 dX12_rallies_76 rfl (lv_at hl 1 rfl) ?_
      refine r_getC S hK hM cfX12 0 18 12 (by decide) lm_0 rfl (by decide) tw_5_49 dX12_rallies_77 ?_
      refine lv_bipush (v := 100) S.1 S.2.1 dX12_rallies_80 (by decide) ?_
      refine lv_iload_n S.1 S.2.1 dX12_rallies_82 rfl (lv_at hl 2 rfl) ?_
      refine lv_imul S.1 S.2.1 dX12_rallies_83 ?_
      refine lv_iload_n S.1 S.2.1 dX12_rallies_84 rfl (lv_at hl 3 rfl) ?_
      refine lv_iadd S.1 S.2.1 dX12_rallies_85 ?_
      obtain ⟨hv14, v14, ev14, hF⟩ := rd_some hF
      refine r_iald S hK hM 12 (by decide) rfl hv14 ev14 dX12_rallies_86 ?_
      refine lv_aload_n S.1 S.2.1 dX12_rallies_87 rfl (lv_at hl 1 rfl) ?_
      refine r_getC S hK hM cfX12 0 18 12 (by decide) lm_0 rfl (by decide) tw_5_49 dX12_rallies_88 ?_
      refine lv_bipush (v := 100) S.1 S.2.1 dX12_rallies_91 (by decide) ?_
      refine lv_iload_n S.1 S.2.1 dX12_rallies_93 rfl (lv_at hl 2 rfl) ?_
      refine lv_imul S.1 S.2.1 dX12_rallies_94 ?_
      refine lv_iload_n S.1 S.2.1 dX12_rallies_95 rfl (lv_at hl 3 rfl) ?_
      refine lv_iadd S.1 S.2.1 dX12_rallies_96 ?_
      refine lv_iconst (v := 1) S.1 S.2.1 dX12_rallies_97 (by decide) ?_
      refine lv_iadd S.1 S.2.1 dX12_rallies_98 ?_
      obtain ⟨hv15, v15, ev15, hF⟩ := rd_some hF
      refine r_iald S hK hM 12 (by decide) rfl hv15 ev15 dX12_rallies_99 ?_
      obtain ⟨r18, σ16, er18, hF⟩ := bd2_some hF
      refine k_m (va_runV (As := [.ref (g.2.2 2), .int v14, .int v15]) (rest := []) S (c_X12_hits  ar_2 er18) (cwV 3 S.2.2.2.2 (ul_V tw_5_146 tw_5_148 ts_X12_hits tw_1_12 cw_X12_hits) rfl rfl rfl hv_X12_hits ⟨Nat.le_of_ble_eq_true rfl, Nat.le_of_ble_eq_true rfl⟩) ⟨PreM.blind, hM.recv hK cfX12 0 (by decide) lm_0, hM.pre hK⟩ rfl rfl hl.1 rfl (lv_room (Nat.le_of_ble_eq_true rfl)) dX12_rallies_100 ⟨Nat.zero_le _, Nat.zero_le _⟩) hM (fun H locs hM => ?_)
      show W _ _ _ _ _ _ _ _ _ _ _ _ _ _ _ (F0 m 103 ls [.int r18])
      refine lv_if_eq (tgt := 111) S.1 S.2.1 dX12_rallies_103 (by decide) (fun b19 => ?_) (fun b19 => ?_)
      · have hF := (if_pos b19).symm.trans hF
        exact w_X12_rallies_111 S hK hr hlk hk43 hM (lv_sub hl [1, 2, 3] rfl) hF
      · have hF := (if_neg b19).symm.trans hF
        refine lv_aload_n S.1 S.2.1 dX12_rallies_106 rfl (lv_at hl 1 rfl) ?_
        refine lv_iload_n S.1 S.2.1 dX12_rallies_107 rfl (lv_at hl 0 rfl) ?_
        obtain ⟨σ20, eσ20, hF⟩ := bd_some hF
        refine r_putI (ty := .int) S hK hM cfX12 tyX12_ok nmX12 0 11 (by decide) lm_0 rfl (by decide) tw_5_42 rfl (by decide +kernel) rfl rfl eσ20 dX12_rallies_108 (fun H locs hM => ?_)
        exact w_X12_rallies_111 S hK hr hlk hk43 hM (lv_sub hl [1, 2, 3] rfl) hF
theorem wl_X12_rallies_43 {l : Launch} {g : GE} {A : Nat → Prop} {p : Program} {e : Env} {s : State} {m : MethodId} {args : Array Value} {below : List Frame} {meth : Method} {c : Code} (S : CallFix p m c cX12_rallies 4 s args UL RX12) (hK : KK g s) (hr : meth.sig.returnType = none) (hlk : meth.locks = false) {out : IM} : ∀ (n : Nat) {x1 : Int32} {x2 : Int32} {σ : IM} {H : Heap} {locs : List Loc} {ls : Array Slot}, Mem lyM 13 g A [] σ nor s.heap H locs → lv_has ls 4 [(0, .ref (g.2.2 0)), (1, .int x1), (2, .int x2)] → X12_rallies_b43 n x1 x2 σ = some out → W p l e ({ frames := 4, cells := 0, slots := 0, locals := 99 }) s m args below meth c H locs 0 0 (MQ below (Qm lyM 13 g A [] out nor none) args s 0 0 A) (F0 m 43 ls []) := by
  intro n
  induction n with
  | zero =>
    intro x1 x2 σ H locs ls hM hl hF
    cases hF
  | succ n ih =>
    intro x1 x2 σ H locs ls hM hl hF
    exact w_X12_rallies_43 S hK hr hlk ih hM hl hF
def X12_rallies_s13 (k13 : Int32 → Int32 → IM → Option IM) (x1 : Int32) (x2 : Int32) (σ : IM) : Option IM := if 4 ≤ x2 then (bd (up2 σ 0 10 0) fun σ5 => bd (up2 σ5 0 11 2) fun σ6 => X12_rallies_b43 1000 x1 0 σ6) else (wr σ 5 4 x2 0 fun σ7 => bd (x2 + 1) fun v8 => k13 x1 v8 σ7)
def X12_rallies_b13 : Nat → Int32 → Int32 → IM → Option IM
  | 0 => fun _ _ _ => none
  | n + 1 => X12_rallies_s13 (X12_rallies_b13 n)
set_option maxRecDepth 20000 in
theorem w_X12_rallies_13 {l : Launch} {g : GE} {A : Nat → Prop} {p : Program} {e : Env} {s : State} {m : MethodId} {args : Array Value} {below : List Frame} {meth : Method} {c : Code} (S : CallFix p m c cX12_rallies 4 s args UL RX12) (hK : KK g s) (hr : meth.sig.returnType = none) (hlk : meth.locks = false) {out : IM} {k13 : Int32 → Int32 → IM → Option IM} (hk13 : ∀ {x1 : Int32} {x2 : Int32} {σ : IM} {H : Heap} {locs : List Loc} {ls : Array Slot}, Mem lyM 13 g A [] σ nor s.heap H locs → lv_has ls 4 [(0, .ref (g.2.2 0)), (1, .int x1), (2, .int x2)] → k13 x1 x2 σ = some out → W p l e ({ frames := 4, cells := 0, slots := 0, locals := 99 }) s m args below meth c H locs 0 0 (MQ below (Qm lyM 13 g A [] out nor none) args s 0 0 A) (F0 m 13 ls [])) : ∀ {x1 : Int32} {x2 : Int32} {σ : IM} {H : Heap} {locs : List Loc} {ls : Array Slot}, Mem lyM 13 g A [] σ nor s.heap H locs → lv_has ls 4 [(0, .ref (g.2.2 0)), (1, .int x1), (2, .int x2)] → X12_rallies_s13 k13 x1 x2 σ = some out → W p l e ({ frames := 4, cells := 0, slots := 0, locals := 99 }) s m args below meth c H locs 0 0 (MQ below (Qm lyM 13 g A [] out nor none) args s 0 0 A) (F0 m 13 ls []) := by
  intro x1 x2 σ H locs ls hM hl hF
  unfold X12_rallies_s13 at hF
  refine lv_iload_n S.1 S.2.1 dX12_rallies_13 rfl (lv_at hl 2 rfl) ?_
  refine lv_iconst (v := 4) S.1 S.2.1 dX12_rallies_14 (by decide) ?_
  refine lv_icmp_ge (tgt := 31) S.1 S.2.1 dX12_rallies_15 (by decide) (fun b4 => ?_) (fun b4 => ?_)
  · have hF := (if_pos b4).symm.trans hF
    refine lv_aload_n S.1 S.2.1 dX12_rallies_31 rfl (lv_at hl 0 rfl) ?_
    refine lv_iconst (v := 0) S.1 S.2.1 dX12_rallies_32 (by decide) ?_
    obtain ⟨σ5, eσ5, hF⟩ := bd_some hF
    refine r_putI (ty := .int) S hK hM cfX12 tyX12_ok nmX12 0 10 (by decide) lm_0 rfl (by decide) tw_5_41 rfl (by decide +kernel) rfl rfl eσ5 dX12_rallies_33 (fun H locs hM => ?_)
    refine lv_aload_n S.1 S.2.1 dX12_rallies_36 rfl (lv_at hl 0 rfl) ?_
    refine lv_iconst (v := 2) S.1 S.2.1 dX12_rallies_37 (by decide) ?_
    obtain ⟨σ6, eσ6, hF⟩ := bd_some hF
    refine r_putI (ty := .int) S hK hM cfX12 tyX12_ok nmX12 0 11 (by decide) lm_0 rfl (by decide) tw_5_42 rfl (by decide +kernel) rfl rfl eσ6 dX12_rallies_38 (fun H locs hM => ?_)
    refine lv_iconst (v := 0) S.1 S.2.1 dX12_rallies_41 (by decide) ?_
    refine lv_istore_n (lv' := [(2, .int 0), (0, .ref (g.2.2 0)), (1, .int x1)]) S.1 S.2.1 dX12_rallies_42 rfl hl (by decide) rfl (fun ls hl => ?_)
    exact wl_X12_rallies_43 S hK hr hlk 1000 hM (lv_sub hl [1, 2, 0] rfl) hF
  · have hF := (if_neg b4).symm.trans hF
    refine lv_aload_n S.1 S.2.1 dX12_rallies_18 rfl (lv_at hl 0 rfl) ?_
    refine r_getC S hK hM cfX12 0 4 5 (by decide) lm_0 rfl (by decide) tw_5_35 dX12_rallies_19 ?_
    refine lv_iload_n S.1 S.2.1 dX12_rallies_22 rfl (lv_at hl 2 rfl) ?_
    refine lv_iconst (v := 0) S.1 S.2.1 dX12_rallies_23 (by decide) ?_
    obtain ⟨hσ7, σ7, eσ7, hF⟩ := wr_some hF
    refine r_iast S hK hM 5 (by decide) rfl hσ7 eσ7 dX12_rallies_24 (fun H locs hM => ?_)
    obtain ⟨v8, ev8, hF⟩ := bd_some hF
    refine lv_iinc (v := v8) (lv' := [(2, .int v8), (0, .ref (g.2.2 0)), (1, .int x1)]) S.1 S.2.1 dX12_rallies_25 hl (k := 2) rfl (by rw [ev8]; rfl) (by decide) rfl (fun ls hl => ?_)
    refine lv_goto (tgt := 13) S.1 S.2.1 dX12_rallies_28 (by decide) ?_
    exact hk13 hM (lv_sub hl [1, 2, 0] rfl)  hF
theorem wl_X12_rallies_13 {l : Launch} {g : GE} {A : Nat → Prop} {p : Program} {e : Env} {s : State} {m : MethodId} {args : Array Value} {below : List Frame} {meth : Method} {c : Code} (S : CallFix p m c cX12_rallies 4 s args UL RX12) (hK : KK g s) (hr : meth.sig.returnType = none) (hlk : meth.locks = false) {out : IM} : ∀ (n : Nat) {x1 : Int32} {x2 : Int32} {σ : IM} {H : Heap} {locs : List Loc} {ls : Array Slot}, Mem lyM 13 g A [] σ nor s.heap H locs → lv_has ls 4 [(0, .ref (g.2.2 0)), (1, .int x1), (2, .int x2)] → X12_rallies_b13 n x1 x2 σ = some out → W p l e ({ frames := 4, cells := 0, slots := 0, locals := 99 }) s m args below meth c H locs 0 0 (MQ below (Qm lyM 13 g A [] out nor none) args s 0 0 A) (F0 m 13 ls []) := by
  intro n
  induction n with
  | zero =>
    intro x1 x2 σ H locs ls hM hl hF
    cases hF
  | succ n ih =>
    intro x1 x2 σ H locs ls hM hl hF
    exact w_X12_rallies_13 S hK hr hlk ih hM hl hF
def X12_rallies (σ : IM) (a1 : Int32) : Option IM := bd1 (X12_copies σ 1 2) fun σ1 => X12_rallies_b13 1000 a1 0 σ1
set_option maxRecDepth 20000 in
theorem c_X12_rallies {l : Launch} {g : GE} {A : Nat → Prop} {σ : IM} {a1 : Int32} {out : IM} (hF : X12_rallies σ a1 = some out) : Met l yX12_rallies (.code yX12_rallies cX12_rallies 4 none :: UL) ({ frames := 4, cells := 0, slots := 0, locals := 99 }) (va_Pc [.ref (g.2.2 0), .int a1] (PreM lyM 13 g A [] σ nor)) (Qm lyM 13 g A [] out nor none) 0 0 A := by
  refine e_of (by decide) (Nat.le_of_ble_eq_true rfl) ?_
  intro p e s m below meth c ls S hr hlk hv hl
  have hM := Mem.of hv
  have hK := hv.2.1
  have hl : lv_has ls 4 [(0, .ref (g.2.2 0)), (1, .int a1)] := hl
  unfold X12_rallies at hF
  refine lv_aload_n S.1 S.2.1 dX12_rallies_0 rfl (lv_at hl 0 rfl) ?_
  refine r_getC S hK hM cfX12 0 0 1 (by decide) lm_0 rfl (by decide) tw_5_31 dX12_rallies_1 ?_
  refine lv_aload_n S.1 S.2.1 dX12_rallies_4 rfl (lv_at hl 0 rfl) ?_
  refine r_getC S hK hM cfX12 0 1 2 (by decide) lm_0 rfl (by decide) tw_5_32 dX12_rallies_5 ?_
  obtain ⟨σ1, er3, hF⟩ := bd1_some hF
  refine k_m (va_runS (As := [.ref (g.2.2 1), .ref (g.2.2 2)]) (rest := []) S (c_X12_copies  ar_1 ar_2 er3) (va_cwS 2 S.2.2.2.2 (ul_S tw_5_118 tw_5_119 tw_1_12 cw_X12_copies) rfl rfl rfl hs_X12_copies ⟨Nat.le_of_ble_eq_true rfl, Nat.le_of_ble_eq_true rfl⟩) ⟨PreM.blind, hM.pre hK⟩ rfl rfl hl.1 rfl (lv_room (Nat.le_of_ble_eq_true rfl)) dX12_rallies_8 ⟨Nat.zero_le _, Nat.zero_le _⟩) hM (fun H locs hM => ?_)
  show W _ _ _ _ _ _ _ _ _ _ _ _ _ _ _ (F0 m 11 ls [])
  refine lv_iconst (v := 0) S.1 S.2.1 dX12_rallies_11 (by decide) ?_
  refine lv_istore_n (lv' := [(2, .int 0), (0, .ref (g.2.2 0)), (1, .int a1)]) S.1 S.2.1 dX12_rallies_12 rfl hl (by decide) rfl (fun ls hl => ?_)
  exact wl_X12_rallies_13 S hK hr hlk 1000 hM (lv_sub hl [1, 2, 0] rfl) hF
/-! X12_rally -/
def X12_rally (σ : IM) (a1 : Int32) (a2 : Int32) : Option (Int32 × IM) := bd1 (X12_isIn a2 0 1) fun r1 => if r1 = 0 then (some ((-1), σ)) else (bd1 (X12_wrongRally σ a1) fun r3 => if r3 = 0 then (bd1 (X12_rallies σ a1) fun σ5 => if a2 = 0 then (some (σ5 0 10, σ5)) else (some (σ5 0 11, σ5))) else (some (r3, σ)))
set_option maxRecDepth 20000 in
theorem c_X12_rally {l : Launch} {g : GE} {A : Nat → Prop} {σ : IM} {a1 : Int32} {a2 : Int32} {out : Int32 × IM} (hF : X12_rally σ a1 a2 = some out) : Met l yX12_rally (.code yX12_rally cX12_rally 4 (some .int) :: UL) ({ frames := 5, cells := 0, slots := 0, locals := 122 }) (va_Pc [.ref (g.2.2 0), .int a1, .int a2] (PreM lyM 13 g A [] σ nor)) (Qm lyM 13 g A [] out.2 nor (some (.int out.1))) 0 0 A := by
  refine e_of (by decide) (Nat.le_of_ble_eq_true rfl) ?_
  intro p e s m below meth c ls S hr hlk hv hl
  have hM := Mem.of hv
  have hK := hv.2.1
  have hl : lv_has ls 4 [(0, .ref (g.2.2 0)), (1, .int a1), (2, .int a2)] := hl
  unfold X12_rally at hF
  refine lv_iload_n S.1 S.2.1 dX12_rally_0 rfl (lv_at hl 2 rfl) ?_
  refine lv_iconst (v := 0) S.1 S.2.1 dX12_rally_1 (by decide) ?_
  refine lv_iconst (v := 1) S.1 S.2.1 dX12_rally_2 (by decide) ?_
  obtain ⟨r1, er1, hF⟩ := bd1_some hF
  refine k_p (va_runS (As := [.int a2, .int 0, .int 1]) (rest := []) S (c_X12_isIn   er1) (va_cwS 3 S.2.2.2.2 (ul_S tw_5_103 tw_5_104 tw_1_12 cw_X12_isIn) rfl rfl rfl hs_X12_isIn ⟨Nat.le_of_ble_eq_true rfl, Nat.le_of_ble_eq_true rfl⟩) ⟨PreM.blind, hM.pre hK⟩ rfl rfl hl.1 rfl (lv_room (Nat.le_of_ble_eq_true rfl)) dX12_rally_3 ⟨Nat.zero_le _, Nat.zero_le _⟩) ?_
  refine lv_if_ne (tgt := 11) S.1 S.2.1 dX12_rally_6 (by decide) (fun b2 => ?_) (fun b2 => ?_)
  · have hF := (if_neg b2).symm.trans hF
    refine lv_aload_n S.1 S.2.1 dX12_rally_11 rfl (lv_at hl 0 rfl) ?_
    refine lv_iload_n S.1 S.2.1 dX12_rally_12 rfl (lv_at hl 1 rfl) ?_
    obtain ⟨r3, er3, hF⟩ := bd1_some hF
    refine k_p (va_runV (As := [.int a1]) (rest := []) S (c_X12_wrongRally   er3) (cwV 1 S.2.2.2.2 (ul_V tw_6_92 tw_6_94 ts_X12_wrongRally tw_1_12 cw_X12_wrongRally) rfl rfl rfl hv_X12_wrongRally ⟨Nat.le_of_ble_eq_true rfl, Nat.le_of_ble_eq_true rfl⟩) ⟨PreM.blind, hM.recv hK cfX12 0 (by decide) lm_0, hM.pre hK⟩ rfl rfl hl.1 rfl (lv_room (Nat.le_of_ble_eq_true rfl)) dX12_rally_13 ⟨Nat.zero_le _, Nat.zero_le _⟩) ?_
    refine lv_istore_n (lv' := [(3, .int r3), (0, .ref (g.2.2 0)), (1, .int a1), (2, .int a2)]) S.1 S.2.1 dX12_rally_16 rfl hl (by decide) rfl (fun ls hl => ?_)
    refine lv_iload_n S.1 S.2.1 dX12_rally_17 rfl (lv_at hl 0 rfl) ?_
    refine lv_if_eq (tgt := 23) S.1 S.2.1 dX12_rally_18 (by decide) (fun b4 => ?_) (fun b4 => ?_)
    · have hF := (if_pos b4).symm.trans hF
      refine lv_aload_n S.1 S.2.1 dX12_rally_23 rfl (lv_at hl 1 rfl) ?_
      refine lv_iload_n S.1 S.2.1 dX12_rally_24 rfl (lv_at hl 2 rfl) ?_
      obtain ⟨σ5, er7, hF⟩ := bd1_some hF
      refine k_m (va_runV (As := [.int a1]) (rest := []) S (c_X12_rallies   er7) (cwV 1 S.2.2.2.2 (ul_V tw_6_96 tw_6_98 ts_X12_rallies tw_1_12 cw_X12_rallies) rfl rfl rfl hv_X12_rallies ⟨Nat.le_of_ble_eq_true rfl, Nat.le_of_ble_eq_true rfl⟩) ⟨PreM.blind, hM.recv hK cfX12 0 (by decide) lm_0, hM.pre hK⟩ rfl rfl hl.1 rfl (lv_room (Nat.le_of_ble_eq_true rfl)) dX12_rally_25 ⟨Nat.zero_le _, Nat.zero_le _⟩) hM (fun H locs hM => ?_)
      show W _ _ _ _ _ _ _ _ _ _ _ _ _ _ _ (F0 m 28 ls [])
      refine lv_iload_n S.1 S.2.1 dX12_rally_28 rfl (lv_at hl 3 rfl) ?_
      refine lv_if_ne (tgt := 39) S.1 S.2.1 dX12_rally_29 (by decide) (fun b8 => ?_) (fun b8 => ?_)
      · have hF := (if_neg b8).symm.trans hF
        refine lv_aload_n S.1 S.2.1 dX12_rally_39 rfl (lv_at hl 1 rfl) ?_
        refine r_getI S hK hM cfX12 0 11 (by decide) lm_0 rfl (by decide) tw_5_42 dX12_rally_40 ?_
        cases hF
        exact z_m (v := σ5 0 11) S hM hr hlk rfl dX12_rally_43
      · have hF := (if_pos b8).symm.trans hF
        refine lv_aload_n S.1 S.2.1 dX12_rally_32 rfl (lv_at hl 1 rfl) ?_
        refine r_getI S hK hM cfX12 0 10 (by decide) lm_0 rfl (by decide) tw_5_41 dX12_rally_33 ?_
        refine lv_goto (tgt := 43) S.1 S.2.1 dX12_rally_36 (by decide) ?_
        cases hF
        exact z_m (v := σ5 0 10) S hM hr hlk rfl dX12_rally_43
    · have hF := (if_neg b4).symm.trans hF
      refine lv_iload_n S.1 S.2.1 dX12_rally_21 rfl (lv_at hl 0 rfl) ?_
      cases hF
      exact z_m (v := r3) S hM hr hlk rfl dX12_rally_22
  · have hF := (if_pos b2).symm.trans hF
    refine lv_iconst (v := (-1)) S.1 S.2.1 dX12_rally_9 (by decide) ?_
    cases hF
    exact z_m (v := (-1)) S hM hr hlk rfl dX12_rally_10
/-! X12_ways -/
def X12_ways (σ : IM) (a1 : Int32) (a2 : Int32) : Option (Int32 × IM) := bd1 (X12_isPlayer a2) fun r1 => if r1 = 0 then (some ((-1), σ)) else (bd1 (X12_wrongRally σ a1) fun r3 => if r3 = 0 then (bd1 (X12_rallies σ a1) fun σ5 => rd (σ5 5) 4 a2 fun v8 => some (v8, σ5)) else (some (r3, σ)))
set_option maxRecDepth 20000 in
theorem c_X12_ways {l : Launch} {g : GE} {A : Nat → Prop} {σ : IM} {a1 : Int32} {a2 : Int32} {out : Int32 × IM} (hF : X12_ways σ a1 a2 = some out) : Met l yX12_ways (.code yX12_ways cX12_ways 4 (some .int) :: UL) ({ frames := 5, cells := 0, slots := 0, locals := 122 }) (va_Pc [.ref (g.2.2 0), .int a1, .int a2] (PreM lyM 13 g A [] σ nor)) (Qm lyM 13 g A [] out.2 nor (some (.int out.1))) 0 0 A := by
  refine e_of (by decide) (Nat.le_of_ble_eq_true rfl) ?_
  intro p e s m below meth c ls S hr hlk hv hl
  have hM := Mem.of hv
  have hK := hv.2.1
  have hl : lv_has ls 4 [(0, .ref (g.2.2 0)), (1, .int a1), (2, .int a2)] := hl
  unfold X12_ways at hF
  refine lv_iload_n S.1 S.2.1 dX12_ways_0 rfl (lv_at hl 2 rfl) ?_
  obtain ⟨r1, er1, hF⟩ := bd1_some hF
  refine k_p (va_runS (As := [.int a2]) (rest := []) S (c_X12_isPlayer   er1) (va_cwS 1 S.2.2.2.2 (ul_S tw_5_132 tw_5_133 tw_1_12 cw_X12_isPlayer) rfl rfl rfl hs_X12_isPlayer ⟨Nat.le_of_ble_eq_true rfl, Nat.le_of_ble_eq_true rfl⟩) ⟨PreM.blind, hM.pre hK⟩ rfl rfl hl.1 rfl (lv_room (Nat.le_of_ble_eq_true rfl)) dX12_ways_1 ⟨Nat.zero_le _, Nat.zero_le _⟩) ?_
  refine lv_if_ne (tgt := 9) S.1 S.2.1 dX12_ways_4 (by decide) (fun b2 => ?_) (fun b2 => ?_)
  · have hF := (if_neg b2).symm.trans hF
    refine lv_aload_n S.1 S.2.1 dX12_ways_9 rfl (lv_at hl 0 rfl) ?_
    refine lv_iload_n S.1 S.2.1 dX12_ways_10 rfl (lv_at hl 1 rfl) ?_
    obtain ⟨r3, er3, hF⟩ := bd1_some hF
    refine k_p (va_runV (As := [.int a1]) (rest := []) S (c_X12_wrongRally   er3) (cwV 1 S.2.2.2.2 (ul_V tw_6_92 tw_6_94 ts_X12_wrongRally tw_1_12 cw_X12_wrongRally) rfl rfl rfl hv_X12_wrongRally ⟨Nat.le_of_ble_eq_true rfl, Nat.le_of_ble_eq_true rfl⟩) ⟨PreM.blind, hM.recv hK cfX12 0 (by decide) lm_0, hM.pre hK⟩ rfl rfl hl.1 rfl (lv_room (Nat.le_of_ble_eq_true rfl)) dX12_ways_11 ⟨Nat.zero_le _, Nat.zero_le _⟩) ?_
    refine lv_istore_n (lv' := [(3, .int r3), (0, .ref (g.2.2 0)), (1, .int a1), (2, .int a2)]) S.1 S.2.1 dX12_ways_14 rfl hl (by decide) rfl (fun ls hl => ?_)
    refine lv_iload_n S.1 S.2.1 dX12_ways_15 rfl (lv_at hl 0 rfl) ?_
    refine lv_if_eq (tgt := 21) S.1 S.2.1 dX12_ways_16 (by decide) (fun b4 => ?_) (fun b4 => ?_)
    · have hF := (if_pos b4).symm.trans hF
      refine lv_aload_n S.1 S.2.1 dX12_ways_21 rfl (lv_at hl 1 rfl) ?_
      refine lv_iload_n S.1 S.2.1 dX12_ways_22 rfl (lv_at hl 2 rfl) ?_
      obtain ⟨σ5, er7, hF⟩ := bd1_some hF
      refine k_m (va_runV (As := [.int a1]) (rest := []) S (c_X12_rallies   er7) (cwV 1 S.2.2.2.2 (ul_V tw_6_96 tw_6_98 ts_X12_rallies tw_1_12 cw_X12_rallies) rfl rfl rfl hv_X12_rallies ⟨Nat.le_of_ble_eq_true rfl, Nat.le_of_ble_eq_true rfl⟩) ⟨PreM.blind, hM.recv hK cfX12 0 (by decide) lm_0, hM.pre hK⟩ rfl rfl hl.1 rfl (lv_room (Nat.le_of_ble_eq_true rfl)) dX12_ways_23 ⟨Nat.zero_le _, Nat.zero_le _⟩) hM (fun H locs hM => ?_)
      show W _ _ _ _ _ _ _ _ _ _ _ _ _ _ _ (F0 m 26 ls [])
      refine lv_aload_n S.1 S.2.1 dX12_ways_26 rfl (lv_at hl 1 rfl) ?_
      refine r_getC S hK hM cfX12 0 4 5 (by decide) lm_0 rfl (by decide) tw_5_35 dX12_ways_27 ?_
      refine lv_iload_n S.1 S.2.1 dX12_ways_30 rfl (lv_at hl 3 rfl) ?_
      obtain ⟨hv8, v8, ev8, hF⟩ := rd_some hF
      refine r_iald S hK hM 5 (by decide) rfl hv8 ev8 dX12_ways_31 ?_
      cases hF
      exact z_m (v := v8) S hM hr hlk rfl dX12_ways_32
    · have hF := (if_neg b4).symm.trans hF
      refine lv_iload_n S.1 S.2.1 dX12_ways_19 rfl (lv_at hl 0 rfl) ?_
      cases hF
      exact z_m (v := r3) S hM hr hlk rfl dX12_ways_20
  · have hF := (if_pos b2).symm.trans hF
    refine lv_iconst (v := (-1)) S.1 S.2.1 dX12_ways_7 (by decide) ?_
    cases hF
    exact z_m (v := (-1)) S hM hr hlk rfl dX12_ways_8
/-! X12_spent -/
def X12_spent_b55 (k22 : Int32 → Int32 → IM → Option (Int32 × IM)) (x3 : Int32) (x4 : Int32) (σ : IM) : Option (Int32 × IM) := bd (x4 + 1) fun v12 => k22 x3 v12 σ
set_option maxRecDepth 20000 in
theorem w_X12_spent_55 {l : Launch} {g : GE} {A : Nat → Prop} {p : Program} {e : Env} {s : State} {m : MethodId} {args : Array Value} {below : List Frame} {meth : Method} {c : Code} (S : CallFix p m c cX12_spent 5 s args UL RX12) (hK : KK g s) (hr : meth.sig.returnType = (some .int)) (hlk : meth.locks = false) {out : Int32 × IM} {k22 : Int32 → Int32 → IM → Option (Int32 × IM)} (hk22 : ∀ {x3 : Int32} {x4 : Int32} {σ : IM} {H : Heap} {locs : List Loc} {ls : Array Slot}, Mem lyM 13 g A [] σ nor s.heap H locs → lv_has ls 5 [(0, .ref (g.2.2 0)), (3, .int x3), (4, .int x4)] → k22 x3 x4 σ = some out → W p l e ({ frames := 5, cells := 0, slots := 0, locals := 122 }) s m args below meth c H locs 0 0 (MQ below (Qm lyM 13 g A [] out.2 nor (some (.int out.1))) args s 0 0 A) (F0 m 22 ls [])) : ∀ {x3 : Int32} {x4 : Int32} {σ : IM} {H : Heap} {locs : List Loc} {ls : Array Slot}, Mem lyM 13 g A [] σ nor s.heap H locs → lv_has ls 5 [(0, .ref (g.2.2 0)), (3, .int x3), (4, .int x4)] → X12_spent_b55 k22 x3 x4 σ = some out → W p l e ({ frames := 5, cells := 0, slots := 0, locals := 122 }) s m args below meth c H locs 0 0 (MQ below (Qm lyM 13 g A [] out.2 nor (some (.int out.1))) args s 0 0 A) (F0 m 55 ls []) := by
  intro x3 x4 σ H locs ls hM hl hF
  unfold X12_spent_b55 at hF
  obtain ⟨v12, ev12, hF⟩ := bd_some hF
  refine lv_iinc (v := v12) (lv' := [(4, .int v12), (0, .ref (g.2.2 0)), (3, .int x3)]) S.1 S.2.1 dX12_spent_55 hl (k := 2) rfl (by rw [ev12]; rfl) (by decide) rfl (fun ls hl => ?_)
  refine lv_goto (tgt := 22) S.1 S.2.1 dX12_spent_58 (by decide) ?_
  exact hk22 hM (lv_sub hl [1, 2, 0] rfl)  hF
def X12_spent_s22 (k22 : Int32 → Int32 → IM → Option (Int32 × IM)) (x3 : Int32) (x4 : Int32) (σ : IM) : Option (Int32 × IM) := if 4 ≤ x4 then (some (x3, σ)) else (bd1 (X12_ofP x4 2) fun r7 => rd (σ 2) 42 r7 fun v8 => bd1 (X12_ofP x3 2) fun r9 => rd (σ 2) 42 r9 fun v10 => if v8 ≤ v10 then (X12_spent_b55 k22 x3 x4 σ) else (X12_spent_b55 k22 x4 x4 σ))
def X12_spent_b22 : Nat → Int32 → Int32 → IM → Option (Int32 × IM)
  | 0 => fun _ _ _ => none
  | n + 1 => X12_spent_s22 (X12_spent_b22 n)
set_option maxRecDepth 20000 in
theorem w_X12_spent_22 {l : Launch} {g : GE} {A : Nat → Prop} {p : Program} {e : Env} {s : State} {m : MethodId} {args : Array Value} {below : List Frame} {meth : Method} {c : Code} (S : CallFix p m c cX12_spent 5 s args UL RX12) (hK : KK g s) (hr : meth.sig.returnType = (some .int)) (hlk : meth.locks = false) {out : Int32 × IM} {k22 : Int32 → Int32 → IM → Option (Int32 × IM)} (hk22 : ∀ {x3 : Int32} {x4 : Int32} {σ : IM} {H : Heap} {locs : List Loc} {ls : Array Slot}, Mem lyM 13 g A [] σ nor s.heap H locs → lv_has ls 5 [(0, .ref (g.2.2 0)), (3, .int x3), (4, .int x4)] → k22 x3 x4 σ = some out → W p l e ({ frames := 5, cells := 0, slots := 0, locals := 122 }) s m args below meth c H locs 0 0 (MQ below (Qm lyM 13 g A [] out.2 nor (some (.int out.1))) args s 0 0 A) (F0 m 22 ls [])) : ∀ {x3 : Int32} {x4 : Int32} {σ : IM} {H : Heap} {locs : List Loc} {ls : Array Slot}, Mem lyM 13 g A [] σ nor s.heap H locs → lv_has ls 5 [(0, .ref (g.2.2 0)), (3, .int x3), (4, .int x4)] → X12_spent_s22 k22 x3 x4 σ = some out → W p l e ({ frames := 5, cells := 0, slots := 0, locals := 122 }) s m args below meth c H locs 0 0 (MQ below (Qm lyM 13 g A [] out.2 nor (some (.int out.1))) args s 0 0 A) (F0 m 22 ls []) := by
  intro x3 x4 σ H locs ls hM hl hF
  unfold X12_spent_s22 at hF
  refine lv_iload S.1 S.2.1 dX12_spent_22 (lv_at hl 2 rfl) ?_
  refine lv_iconst (v := 4) S.1 S.2.1 dX12_spent_24 (by decide) ?_
  refine lv_icmp_ge (tgt := 61) S.1 S.2.1 dX12_spent_25 (by decide) (fun b6 => ?_) (fun b6 => ?_)
  · have hF := (if_pos b6).symm.trans hF
    refine lv_iload_n S.1 S.2.1 dX12_spent_61 rfl (lv_at hl 1 rfl) ?_
    cases hF
    exact z_m (v := x3) S hM hr hlk rfl dX12_spent_62
  · have hF := (if_neg b6).symm.trans hF
    refine lv_aload_n S.1 S.2.1 dX12_spent_28 rfl (lv_at hl 0 rfl) ?_
    refine r_getC S hK hM cfX12 0 1 2 (by decide) lm_0 rfl (by decide) tw_5_32 dX12_spent_29 ?_
    refine lv_iload S.1 S.2.1 dX12_spent_32 (lv_at hl 2 rfl) ?_
    refine lv_iconst (v := 2) S.1 S.2.1 dX12_spent_34 (by decide) ?_
    obtain ⟨r7, er7, hF⟩ := bd1_some hF
    refine k_p (va_runS (As := [.int x4, .int 2]) (rest := [.ref (g.2.2 2)]) S (c_X12_ofP   er7) (va_cwS 2 S.2.2.2.2 (ul_S tw_5_25 tw_5_26 tw_1_12 cw_X12_ofP) rfl rfl rfl hs_X12_ofP ⟨Nat.le_of_ble_eq_true rfl, Nat.le_of_ble_eq_true rfl⟩) ⟨PreM.blind, hM.pre hK⟩ rfl rfl hl.1 rfl (lv_room (Nat.le_of_ble_eq_true rfl)) dX12_spent_35 ⟨Nat.zero_le _, Nat.zero_le _⟩) ?_
    obtain ⟨hv8, v8, ev8, hF⟩ := rd_some hF
    refine r_iald S hK hM 2 (by decide) rfl hv8 ev8 dX12_spent_38 ?_
    refine lv_aload_n S.1 S.2.1 dX12_spent_39 rfl (lv_at hl 0 rfl) ?_
    refine r_getC S hK hM cfX12 0 1 2 (by decide) lm_0 rfl (by decide) tw_5_32 dX12_spent_40 ?_
    refine lv_iload_n S.1 S.2.1 dX12_spent_43 rfl (lv_at hl 1 rfl) ?_
    refine lv_iconst (v := 2) S.1 S.2.1 dX12_spent_44 (by decide) ?_
    obtain ⟨r9, er9, hF⟩ := bd1_some hF
    refine k_p (va_runS (As := [.int x3, .int 2]) (rest := [.ref (g.2.2 2), .int v8]) S (c_X12_ofP   er9) (va_cwS 2 S.2.2.2.2 (ul_S tw_5_25 tw_5_26 tw_1_12 cw_X12_ofP) rfl rfl rfl hs_X12_ofP ⟨Nat.le_of_ble_eq_true rfl, Nat.le_of_ble_eq_true rfl⟩) ⟨PreM.blind, hM.pre hK⟩ rfl rfl hl.1 rfl (lv_room (Nat.le_of_ble_eq_true rfl)) dX12_spent_45 ⟨Nat.zero_le _, Nat.zero_le _⟩) ?_
    obtain ⟨hv10, v10, ev10, hF⟩ := rd_some hF
    refine r_iald S hK hM 2 (by decide) rfl hv10 ev10 dX12_spent_48 ?_
    refine lv_icmp_le (tgt := 55) S.1 S.2.1 dX12_spent_49 (by decide) (fun b11 => ?_) (fun b11 => ?_)
    · have hF := (if_pos b11).symm.trans hF
      exact w_X12_spent_55 S hK hr hlk hk22 hM (lv_sub hl [0, 1, 2] rfl) hF
    · have hF := (if_neg b11).symm.trans hF
      refine lv_iload S.1 S.2.1 dX12_spent_52 (lv_at hl 2 rfl) ?_
      refine lv_istore_n (lv' := [(3, .int x4), (0, .ref (g.2.2 0)), (4, .int x4)]) S.1 S.2.1 dX12_spent_54 rfl hl (by decide) rfl (fun ls hl => ?_)
      exact w_X12_spent_55 S hK hr hlk hk22 hM (lv_sub hl [1, 0, 2] rfl) hF
theorem wl_X12_spent_22 {l : Launch} {g : GE} {A : Nat → Prop} {p : Program} {e : Env} {s : State} {m : MethodId} {args : Array Value} {below : List Frame} {meth : Method} {c : Code} (S : CallFix p m c cX12_spent 5 s args UL RX12) (hK : KK g s) (hr : meth.sig.returnType = (some .int)) (hlk : meth.locks = false) {out : Int32 × IM} : ∀ (n : Nat) {x3 : Int32} {x4 : Int32} {σ : IM} {H : Heap} {locs : List Loc} {ls : Array Slot}, Mem lyM 13 g A [] σ nor s.heap H locs → lv_has ls 5 [(0, .ref (g.2.2 0)), (3, .int x3), (4, .int x4)] → X12_spent_b22 n x3 x4 σ = some out → W p l e ({ frames := 5, cells := 0, slots := 0, locals := 122 }) s m args below meth c H locs 0 0 (MQ below (Qm lyM 13 g A [] out.2 nor (some (.int out.1))) args s 0 0 A) (F0 m 22 ls []) := by
  intro n
  induction n with
  | zero =>
    intro x3 x4 σ H locs ls hM hl hF
    cases hF
  | succ n ih =>
    intro x3 x4 σ H locs ls hM hl hF
    exact w_X12_spent_22 S hK hr hlk ih hM hl hF
def X12_spent (σ : IM) (a1 : Int32) : Option (Int32 × IM) := bd1 (X12_wrongRally σ a1) fun r1 => if r1 = 0 then (bd1 (X12_rallies σ a1) fun σ3 => X12_spent_b22 1000 0 0 σ3) else (some (r1, σ))
set_option maxRecDepth 20000 in
theorem c_X12_spent {l : Launch} {g : GE} {A : Nat → Prop} {σ : IM} {a1 : Int32} {out : Int32 × IM} (hF : X12_spent σ a1 = some out) : Met l yX12_spent (.code yX12_spent cX12_spent 5 (some .int) :: UL) ({ frames := 5, cells := 0, slots := 0, locals := 122 }) (va_Pc [.ref (g.2.2 0), .int a1] (PreM lyM 13 g A [] σ nor)) (Qm lyM 13 g A [] out.2 nor (some (.int out.1))) 0 0 A := by
  refine e_of (by decide) (Nat.le_of_ble_eq_true rfl) ?_
  intro p e s m below meth c ls S hr hlk hv hl
  have hM := Mem.of hv
  have hK := hv.2.1
  have hl : lv_has ls 5 [(0, .ref (g.2.2 0)), (1, .int a1)] := hl
  unfold X12_spent at hF
  refine lv_aload_n S.1 S.2.1 dX12_spent_0 rfl (lv_at hl 0 rfl) ?_
  refine lv_iload_n S.1 S.2.1 dX12_spent_1 rfl (lv_at hl 1 rfl) ?_
  obtain ⟨r1, er1, hF⟩ := bd1_some hF
  refine k_p (va_runV (As := [.int a1]) (rest := []) S (c_X12_wrongRally   er1) (cwV 1 S.2.2.2.2 (ul_V tw_6_92 tw_6_94 ts_X12_wrongRally tw_1_12 cw_X12_wrongRally) rfl rfl rfl hv_X12_wrongRally ⟨Nat.le_of_ble_eq_true rfl, Nat.le_of_ble_eq_true rfl⟩) ⟨PreM.blind, hM.recv hK cfX12 0 (by decide) lm_0, hM.pre hK⟩ rfl rfl hl.1 rfl (lv_room (Nat.le_of_ble_eq_true rfl)) dX12_spent_2 ⟨Nat.zero_le _, Nat.zero_le _⟩) ?_
  refine lv_istore_n (lv' := [(2, .int r1), (0, .ref (g.2.2 0)), (1, .int a1)]) S.1 S.2.1 dX12_spent_5 rfl hl (by decide) rfl (fun ls hl => ?_)
  refine lv_iload_n S.1 S.2.1 dX12_spent_6 rfl (lv_at hl 0 rfl) ?_
  refine lv_if_eq (tgt := 12) S.1 S.2.1 dX12_spent_7 (by decide) (fun b2 => ?_) (fun b2 => ?_)
  · have hF := (if_pos b2).symm.trans hF
    refine lv_aload_n S.1 S.2.1 dX12_spent_12 rfl (lv_at hl 1 rfl) ?_
    refine lv_iload_n S.1 S.2.1 dX12_spent_13 rfl (lv_at hl 2 rfl) ?_
    obtain ⟨σ3, er5, hF⟩ := bd1_some hF
    refine k_m (va_runV (As := [.int a1]) (rest := []) S (c_X12_rallies   er5) (cwV 1 S.2.2.2.2 (ul_V tw_6_96 tw_6_98 ts_X12_rallies tw_1_12 cw_X12_rallies) rfl rfl rfl hv_X12_rallies ⟨Nat.le_of_ble_eq_true rfl, Nat.le_of_ble_eq_true rfl⟩) ⟨PreM.blind, hM.recv hK cfX12 0 (by decide) lm_0, hM.pre hK⟩ rfl rfl hl.1 rfl (lv_room (Nat.le_of_ble_eq_true rfl)) dX12_spent_14 ⟨Nat.zero_le _, Nat.zero_le _⟩) hM (fun H locs hM => ?_)
    show W _ _ _ _ _ _ _ _ _ _ _ _ _ _ _ (F0 m 17 ls [])
    refine lv_iconst (v := 0) S.1 S.2.1 dX12_spent_17 (by decide) ?_
    refine lv_istore_n (lv' := [(3, .int 0), (2, .int r1), (0, .ref (g.2.2 0)), (1, .int a1)]) S.1 S.2.1 dX12_spent_18 rfl hl (by decide) rfl (fun ls hl => ?_)
    refine lv_iconst (v := 0) S.1 S.2.1 dX12_spent_19 (by decide) ?_
    refine lv_istore (lv' := [(4, .int 0), (3, .int 0), (2, .int r1), (0, .ref (g.2.2 0)), (1, .int a1)]) S.1 S.2.1 dX12_spent_20 hl (by decide) rfl (fun ls hl => ?_)
    exact wl_X12_spent_22 S hK hr hlk 1000 hM (lv_sub hl [3, 1, 0] rfl) hF
  · have hF := (if_neg b2).symm.trans hF
    refine lv_iload_n S.1 S.2.1 dX12_spent_10 rfl (lv_at hl 0 rfl) ?_
    cases hF
    exact z_m (v := r1) S hM hr hlk rfl dX12_spent_11
/-! X12_leastOf -/
def X12_leastOf (a0 : Int32) : Option Int32 := if a0 = 0 then (some (-128)) else (if a0 = 1 then (some (-32768)) else (some (-2147483648)))
set_option maxRecDepth 20000 in
theorem c_X12_leastOf {l : Launch} {g : GE} {A : Nat → Prop} {σ : IM} {a0 : Int32} {out : Int32} (hF : X12_leastOf a0 = some out) : Met l yX12_leastOf (.code yX12_leastOf cX12_leastOf 1 (some .int) :: UL) ({ frames := 0, cells := 0, slots := 0, locals := 0 }) (va_Pc [.int a0] (PreM lyM 13 g A [] σ nor)) (Qp (some (.int out))) 0 0 NoA := by
  refine e_of (by decide) (Nat.le_of_ble_eq_true rfl) ?_
  intro p e s m below meth c ls S hr hlk hv hl
  have hM := Mem.of hv
  have hK := hv.2.1
  have hl : lv_has ls 1 [(0, .int a0)] := hl
  unfold X12_leastOf at hF
  refine lv_iload_n S.1 S.2.1 dX12_leastOf_0 rfl (lv_at hl 0 rfl) ?_
  refine lv_if_ne (tgt := 9) S.1 S.2.1 dX12_leastOf_1 (by decide) (fun b1 => ?_) (fun b1 => ?_)
  · have hF := (if_neg b1).symm.trans hF
    refine lv_iload_n S.1 S.2.1 dX12_leastOf_9 rfl (lv_at hl 0 rfl) ?_
    refine lv_iconst (v := 1) S.1 S.2.1 dX12_leastOf_10 (by decide) ?_
    refine lv_icmp_ne (tgt := 20) S.1 S.2.1 dX12_leastOf_11 (by decide) (fun b2 => ?_) (fun b2 => ?_)
    · have hF := (if_neg b2).symm.trans hF
      refine lv_ldc (v := (-2147483648)) S.1 S.2.1 S.2.2.2.1 (S.2.2.2.2 _ tw_6_119) dX12_leastOf_20 ?_
      cases hF
      exact z_p S hr hlk rfl dX12_leastOf_22
    · have hF := (if_pos b2).symm.trans hF
      refine lv_sipush (v := (-32768)) S.1 S.2.1 dX12_leastOf_14 (by decide) ?_
      refine lv_goto (tgt := 22) S.1 S.2.1 dX12_leastOf_17 (by decide) ?_
      cases hF
      exact z_p S hr hlk rfl dX12_leastOf_22
  · have hF := (if_pos b1).symm.trans hF
    refine lv_bipush (v := (-128)) S.1 S.2.1 dX12_leastOf_4 (by decide) ?_
    refine lv_goto (tgt := 22) S.1 S.2.1 dX12_leastOf_6 (by decide) ?_
    cases hF
    exact z_p S hr hlk rfl dX12_leastOf_22
/-! X12_isSkipped -/
def X12_isSkipped (σ : IM) (a1 : Int32) (a2 : Int32) : Option Int32 := rd (σ 12) 800 ((100 * a1) + a2) fun v1 => rd (σ 10) 8 a1 fun v2 => bd1 (X12_leastOf v2) fun r3 => if v1 = r3 then (some 1) else (some 0)
set_option maxRecDepth 20000 in
theorem c_X12_isSkipped {l : Launch} {g : GE} {A : Nat → Prop} {σ : IM} {a1 : Int32} {a2 : Int32} {out : Int32} (hF : X12_isSkipped σ a1 a2 = some out) : Met l yX12_isSkipped (.code yX12_isSkipped cX12_isSkipped 3 (some .boolean) :: UL) ({ frames := 1, cells := 0, slots := 0, locals := 20 }) (va_Pc [.ref (g.2.2 0), .int a1, .int a2] (PreM lyM 13 g A [] σ nor)) (Qp (some (.int out))) 0 0 NoA := by
  refine e_of (by decide) (Nat.le_of_ble_eq_true rfl) ?_
  intro p e s m below meth c ls S hr hlk hv hl
  have hM := Mem.of hv
  have hK := hv.2.1
  have hl : lv_has ls 3 [(0, .ref (g.2.2 0)), (1, .int a1), (2, .int a2)] := hl
  unfold X12_isSkipped at hF
  refine lv_aload_n S.1 S.2.1 dX12_isSkipped_0 rfl (lv_at hl 0 rfl) ?_
  refine r_getC S hK hM cfX12 0 18 12 (by decide) lm_0 rfl (by decide) tw_5_49 dX12_isSkipped_1 ?_
  refine lv_bipush (v := 100) S.1 S.2.1 dX12_isSkipped_4 (by decide) ?_
  refine lv_iload_n S.1 S.2.1 dX12_isSkipped_6 rfl (lv_at hl 1 rfl) ?_
  refine lv_imul S.1 S.2.1 dX12_isSkipped_7 ?_
  refine lv_iload_n S.1 S.2.1 dX12_isSkipped_8 rfl (lv_at hl 2 rfl) ?_
  refine lv_iadd S.1 S.2.1 dX12_isSkipped_9 ?_
  obtain ⟨hv1, v1, ev1, hF⟩ := rd_some hF
  refine r_iald S hK hM 12 (by decide) rfl hv1 ev1 dX12_isSkipped_10 ?_
  refine lv_aload_n S.1 S.2.1 dX12_isSkipped_11 rfl (lv_at hl 0 rfl) ?_
  refine r_getC S hK hM cfX12 0 16 10 (by decide) lm_0 rfl (by decide) tw_5_47 dX12_isSkipped_12 ?_
  refine lv_iload_n S.1 S.2.1 dX12_isSkipped_15 rfl (lv_at hl 1 rfl) ?_
  obtain ⟨hv2, v2, ev2, hF⟩ := rd_some hF
  refine r_iald S hK hM 10 (by decide) rfl hv2 ev2 dX12_isSkipped_16 ?_
  obtain ⟨r3, er3, hF⟩ := bd1_some hF
  refine k_p (va_runS (As := [.int v2]) (rest := [.int v1]) S (c_X12_leastOf   er3) (va_cwS 1 S.2.2.2.2 (ul_S tw_6_116 tw_6_117 tw_1_12 cw_X12_leastOf) rfl rfl rfl hs_X12_leastOf ⟨Nat.le_of_ble_eq_true rfl, Nat.le_of_ble_eq_true rfl⟩) ⟨PreM.blind, hM.pre hK⟩ rfl rfl hl.1 rfl (lv_room (Nat.le_of_ble_eq_true rfl)) dX12_isSkipped_17 ⟨Nat.zero_le _, Nat.zero_le _⟩) ?_
  refine lv_icmp_ne (tgt := 27) S.1 S.2.1 dX12_isSkipped_20 (by decide) (fun b4 => ?_) (fun b4 => ?_)
  · have hF := (if_neg b4).symm.trans hF
    refine lv_iconst (v := 0) S.1 S.2.1 dX12_isSkipped_27 (by decide) ?_
    cases hF
    exact z_p S hr hlk rfl dX12_isSkipped_28
  · have hF := (if_pos b4).symm.trans hF
    refine lv_iconst (v := 1) S.1 S.2.1 dX12_isSkipped_23 (by decide) ?_
    refine lv_goto (tgt := 28) S.1 S.2.1 dX12_isSkipped_24 (by decide) ?_
    cases hF
    exact z_p S hr hlk rfl dX12_isSkipped_28
/-! X12_whatIs -/
def X12_whatIs_b199 (k61 : Int32 → Int32 → Int32 → Int32 → Int32 → IM → Option (Int32 × IM)) (x1 : Int32) (x2 : Int32) (x3 : Int32) (x6 : Int32) (t0 : Int32) (t1 : Int32) (σ : IM) : Option (Int32 × IM) := bd (t1 ||| t0) fun v29 => bd (x6 + 1) fun v30 => k61 x1 x2 x3 v29 v30 σ
set_option maxRecDepth 20000 in
theorem w_X12_whatIs_199 {l : Launch} {g : GE} {A : Nat → Prop} {p : Program} {e : Env} {s : State} {m : MethodId} {args : Array Value} {below : List Frame} {meth : Method} {c : Code} (S : CallFix p m c cX12_whatIs 9 s args UL RX12) (hK : KK g s) (hr : meth.sig.returnType = (some .int)) (hlk : meth.locks = false) {out : Int32 × IM} {k61 : Int32 → Int32 → Int32 → Int32 → Int32 → IM → Option (Int32 × IM)} (hk61 : ∀ {x1 : Int32} {x2 : Int32} {x3 : Int32} {x5 : Int32} {x6 : Int32} {σ : IM} {H : Heap} {locs : List Loc} {ls : Array Slot}, Mem lyM 13 g A [] σ nor s.heap H locs → lv_has ls 9 [(0, .ref (g.2.2 0)), (1, .int x1), (2, .int x2), (3, .int x3), (5, .int x5), (6, .int x6)] → k61 x1 x2 x3 x5 x6 σ = some out → W p l e ({ frames := 3, cells := 0, slots := 0, locals := 64 }) s m args below meth c H locs 0 0 (MQ below (Qm lyM 13 g A [] out.2 nor (some (.int out.1))) args s 0 0 A) (F0 m 61 ls [])) : ∀ {x1 : Int32} {x2 : Int32} {x3 : Int32} {x6 : Int32} {t0 : Int32} {t1 : Int32} {σ : IM} {H : Heap} {locs : List Loc} {ls : Array Slot}, Mem lyM 13 g A [] σ nor s.heap H locs → lv_has ls 9 [(0, .ref (g.2.2 0)), (1, .int x1), (2, .int x2), (3, .int x3), (6, .int x6)] → X12_whatIs_b199 k61 x1 x2 x3 x6 t0 t1 σ = some out → W p l e ({ frames := 3, cells := 0, slots := 0, locals := 64 }) s m args below meth c H locs 0 0 (MQ below (Qm lyM 13 g A [] out.2 nor (some (.int out.1))) args s 0 0 A) (F0 m 199 ls [.int t0, .int t1]) := by
  intro x1 x2 x3 x6 t0 t1 σ H locs ls hM hl hF
  unfold X12_whatIs_b199 at hF
  refine lv_ior S.1 S.2.1 dX12_whatIs_199 ?_
  refine lv_topi (fun v29 ev29 => ?_)
  have hF := bd_at ev29 hF
  refine lv_istore (lv' := [(5, .int v29), (0, .ref (g.2.2 0)), (1, .int x1), (2, .int x2), (3, .int x3), (6, .int x6)]) S.1 S.2.1 dX12_whatIs_200 hl (by decide) rfl (fun ls hl => ?_)
  obtain ⟨v30, ev30, hF⟩ := bd_some hF
  refine lv_iinc (v := v30) (lv' := [(6, .int v30), (5, .int v29), (0, .ref (g.2.2 0)), (1, .int x1), (2, .int x2), (3, .int x3)]) S.1 S.2.1 dX12_whatIs_202 hl (k := 5) rfl (by rw [ev30]; rfl) (by decide) rfl (fun ls hl => ?_)
  refine lv_goto (tgt := 61) S.1 S.2.1 dX12_whatIs_205 (by decide) ?_
  exact hk61 hM (lv_sub hl [2, 3, 4, 5, 1, 0] rfl)  hF
def X12_whatIs_b175 (k61 : Int32 → Int32 → Int32 → Int32 → Int32 → IM → Option (Int32 × IM)) (k122 : Int32 → Int32 → Int32 → Int32 → Int32 → Int32 → Int32 → IM → Option (Int32 × IM)) (x1 : Int32) (x2 : Int32) (x3 : Int32) (x5 : Int32) (x6 : Int32) (x8 : Int32) (t0 : Int32) (t1 : Int32) (σ : IM) : Option (Int32 × IM) := bd (t1 &&& t0) fun v27 => bd (x8 + 1) fun v28 => k122 x1 x2 x3 x5 x6 v27 v28 σ
set_option maxRecDepth 20000 in
theorem w_X12_whatIs_175 {l : Launch} {g : GE} {A : Nat → Prop} {p : Program} {e : Env} {s : State} {m : MethodId} {args : Array Value} {below : List Frame} {meth : Method} {c : Code} (S : CallFix p m c cX12_whatIs 9 s args UL RX12) (hK : KK g s) (hr : meth.sig.returnType = (some .int)) (hlk : meth.locks = false) {out : Int32 × IM} {k61 : Int32 → Int32 → Int32 → Int32 → Int32 → IM → Option (Int32 × IM)} (hk61 : ∀ {x1 : Int32} {x2 : Int32} {x3 : Int32} {x5 : Int32} {x6 : Int32} {σ : IM} {H : Heap} {locs : List Loc} {ls : Array Slot}, Mem lyM 13 g A [] σ nor s.heap H locs → lv_has ls 9 [(0, .ref (g.2.2 0)), (1, .int x1), (2, .int x2), (3, .int x3), (5, .int x5), (6, .int x6)] → k61 x1 x2 x3 x5 x6 σ = some out → W p l e ({ frames := 3, cells := 0, slots := 0, locals := 64 }) s m args below meth c H locs 0 0 (MQ below (Qm lyM 13 g A [] out.2 nor (some (.int out.1))) args s 0 0 A) (F0 m 61 ls [])) {k122 : Int32 → Int32 → Int32 → Int32 → Int32 → Int32 → Int32 → IM → Option (Int32 × IM)} (hk122 : ∀ {x1 : Int32} {x2 : Int32} {x3 : Int32} {x5 : Int32} {x6 : Int32} {x7 : Int32} {x8 : Int32} {σ : IM} {H : Heap} {locs : List Loc} {ls : Array Slot}, Mem lyM 13 g A [] σ nor s.heap H locs → lv_has ls 9 [(0, .ref (g.2.2 0)), (1, .int x1), (2, .int x2), (3, .int x3), (5, .int x5), (6, .int x6), (7, .int x7), (8, .int x8)] → k122 x1 x2 x3 x5 x6 x7 x8 σ = some out → W p l e ({ frames := 3, cells := 0, slots := 0, locals := 64 }) s m args below meth c H locs 0 0 (MQ below (Qm lyM 13 g A [] out.2 nor (some (.int out.1))) args s 0 0 A) (F0 m 122 ls [])) : ∀ {x1 : Int32} {x2 : Int32} {x3 : Int32} {x5 : Int32} {x6 : Int32} {x8 : Int32} {t0 : Int32} {t1 : Int32} {σ : IM} {H : Heap} {locs : List Loc} {ls : Array Slot}, Mem lyM 13 g A [] σ nor s.heap H locs → lv_has ls 9 [(0, .ref (g.2.2 0)), (1, .int x1), (2, .int x2), (3, .int x3), (5, .int x5), (6, .int x6), (8, .int x8)] → X12_whatIs_b175 k61 k122 x1 x2 x3 x5 x6 x8 t0 t1 σ = some out → W p l e ({ frames := 3, cells := 0, slots := 0, locals := 64 }) s m args below meth c H locs 0 0 (MQ below (Qm lyM 13 g A [] out.2 nor (some (.int out.1))) args s 0 0 A) (F0 m 175 ls [.int t0, .int t1]) := by
  intro x1 x2 x3 x5 x6 x8 t0 t1 σ H locs ls hM hl hF
  unfold X12_whatIs_b175 at hF
  refine lv_iand S.1 S.2.1 dX12_whatIs_175 ?_
  refine lv_topi (fun v27 ev27 => ?_)
  have hF := bd_at ev27 hF
  refine lv_istore (lv' := [(7, .int v27), (0, .ref (g.2.2 0)), (1, .int x1), (2, .int x2), (3, .int x3), (5, .int x5), (6, .int x6), (8, .int x8)]) S.1 S.2.1 dX12_whatIs_176 hl (by decide) rfl (fun ls hl => ?_)
  obtain ⟨v28, ev28, hF⟩ := bd_some hF
  refine lv_iinc (v := v28) (lv' := [(8, .int v28), (7, .int v27), (0, .ref (g.2.2 0)), (1, .int x1), (2, .int x2), (3, .int x3), (5, .int x5), (6, .int x6)]) S.1 S.2.1 dX12_whatIs_178 hl (k := 7) rfl (by rw [ev28]; rfl) (by decide) rfl (fun ls hl => ?_)
  refine lv_goto (tgt := 122) S.1 S.2.1 dX12_whatIs_181 (by decide) ?_
  exact hk122 hM (lv_sub hl [2, 3, 4, 5, 6, 7, 1, 0] rfl)  hF
def X12_whatIs_b170 (k61 : Int32 → Int32 → Int32 → Int32 → Int32 → IM → Option (Int32 × IM)) (k122 : Int32 → Int32 → Int32 → Int32 → Int32 → Int32 → Int32 → IM → Option (Int32 × IM)) (x1 : Int32) (x2 : Int32) (x3 : Int32) (x5 : Int32) (x6 : Int32) (x8 : Int32) (t0 : Int32) (σ : IM) : Option (Int32 × IM) := X12_whatIs_b175 k61 k122 x1 x2 x3 x5 x6 x8 1 t0 σ
set_option maxRecDepth 20000 in
theorem w_X12_whatIs_170 {l : Launch} {g : GE} {A : Nat → Prop} {p : Program} {e : Env} {s : State} {m : MethodId} {args : Array Value} {below : List Frame} {meth : Method} {c : Code} (S : CallFix p m c cX12_whatIs 9 s args UL RX12) (hK : KK g s) (hr : meth.sig.returnType = (some .int)) (hlk : meth.locks = false) {out : Int32 × IM} {k61 : Int32 → Int32 → Int32 → Int32 → Int32 → IM → Option (Int32 × IM)} (hk61 : ∀ {x1 : Int32} {x2 : Int32} {x3 : Int32} {x5 : Int32} {x6 : Int32} {σ : IM} {H : Heap} {locs : List Loc} {ls : Array Slot}, Mem lyM 13 g A [] σ nor s.heap H locs → lv_has ls 9 [(0, .ref (g.2.2 0)), (1, .int x1), (2, .int x2), (3, .int x3), (5, .int x5), (6, .int x6)] → k61 x1 x2 x3 x5 x6 σ = some out → W p l e ({ frames := 3, cells := 0, slots := 0, locals := 64 }) s m args below meth c H locs 0 0 (MQ below (Qm lyM 13 g A [] out.2 nor (some (.int out.1))) args s 0 0 A) (F0 m 61 ls [])) {k122 : Int32 → Int32 → Int32 → Int32 → Int32 → Int32 → Int32 → IM → Option (Int32 × IM)} (hk122 : ∀ {x1 : Int32} {x2 : Int32} {x3 : Int32} {x5 : Int32} {x6 : Int32} {x7 : Int32} {x8 : Int32} {σ : IM} {H : Heap} {locs : List Loc} {ls : Array Slot}, Mem lyM 13 g A [] σ nor s.heap H locs → lv_has ls 9 [(0, .ref (g.2.2 0)), (1, .int x1), (2, .int x2), (3, .int x3), (5, .int x5), (6, .int x6), (7, .int x7), (8, .int x8)] → k122 x1 x2 x3 x5 x6 x7 x8 σ = some out → W p l e ({ frames := 3, cells := 0, slots := 0, locals := 64 }) s m args below meth c H locs 0 0 (MQ below (Qm lyM 13 g A [] out.2 nor (some (.int out.1))) args s 0 0 A) (F0 m 122 ls [])) : ∀ {x1 : Int32} {x2 : Int32} {x3 : Int32} {x5 : Int32} {x6 : Int32} {x8 : Int32} {t0 : Int32} {σ : IM} {H : Heap} {locs : List Loc} {ls : Array Slot}, Mem lyM 13 g A [] σ nor s.heap H locs → lv_has ls 9 [(0, .ref (g.2.2 0)), (1, .int x1), (2, .int x2), (3, .int x3), (5, .int x5), (6, .int x6), (8, .int x8)] → X12_whatIs_b170 k61 k122 x1 x2 x3 x5 x6 x8 t0 σ = some out → W p l e ({ frames := 3, cells := 0, slots := 0, locals := 64 }) s m args below meth c H locs 0 0 (MQ below (Qm lyM 13 g A [] out.2 nor (some (.int out.1))) args s 0 0 A) (F0 m 170 ls [.int t0]) := by
  intro x1 x2 x3 x5 x6 x8 t0 σ H locs ls hM hl hF
  unfold X12_whatIs_b170 at hF
  refine lv_iconst (v := 1) S.1 S.2.1 dX12_whatIs_170 (by decide) ?_
  refine lv_goto (tgt := 175) S.1 S.2.1 dX12_whatIs_171 (by decide) ?_
  exact w_X12_whatIs_175 S hK hr hlk hk61 hk122 hM (lv_sub hl [0, 1, 2, 3, 4, 5, 6] rfl) hF
def X12_whatIs_s122 (k61 : Int32 → Int32 → Int32 → Int32 → Int32 → IM → Option (Int32 × IM)) (k122 : Int32 → Int32 → Int32 → Int32 → Int32 → Int32 → Int32 → IM → Option (Int32 × IM)) (x1 : Int32) (x2 : Int32) (x3 : Int32) (x5 : Int32) (x6 : Int32) (x7 : Int32) (x8 : Int32) (σ : IM) : Option (Int32 × IM) := rd (σ 11) 8 x1 fun v19 => if v19 ≤ x8 then (if x7 = 0 then (X12_whatIs_b199 k61 x1 x2 x3 x6 0 x5 σ) else (X12_whatIs_b199 k61 x1 x2 x3 x6 (1 <<< (x6 &&& 31)) x5 σ)) else (bd1 (X12_isSkipped σ x1 x8) fun r22 => if r22 = 0 then (rd (σ 12) 800 ((100 * x1) + x8) fun v24 => bd1 (X12_fallsIn σ 2 x2 x8) fun r25 => if v24 = r25 then (X12_whatIs_b170 k61 k122 x1 x2 x3 x5 x6 x8 x7 σ) else (X12_whatIs_b175 k61 k122 x1 x2 x3 x5 x6 x8 0 x7 σ)) else (X12_whatIs_b170 k61 k122 x1 x2 x3 x5 x6 x8 x7 σ))
def X12_whatIs_b122 (k61 : Int32 → Int32 → Int32 → Int32 → Int32 → IM → Option (Int32 × IM)) : Nat → Int32 → Int32 → Int32 → Int32 → Int32 → Int32 → Int32 → IM → Option (Int32 × IM)
  | 0 => fun _ _ _ _ _ _ _ _ => none
  | n + 1 => X12_whatIs_s122 k61 (X12_whatIs_b122 k61 n)
set_option maxRecDepth 20000 in
theorem w_X12_whatIs_122 {l : Launch} {g : GE} {A : Nat → Prop} {p : Program} {e : Env} {s : State} {m : MethodId} {args : Array Value} {below : List Frame} {meth : Method} {c : Code} (S : CallFix p m c cX12_whatIs 9 s args UL RX12) (hK : KK g s) (hr : meth.sig.returnType = (some .int)) (hlk : meth.locks = false) {out : Int32 × IM} {k61 : Int32 → Int32 → Int32 → Int32 → Int32 → IM → Option (Int32 × IM)} (hk61 : ∀ {x1 : Int32} {x2 : Int32} {x3 : Int32} {x5 : Int32} {x6 : Int32} {σ : IM} {H : Heap} {locs : List Loc} {ls : Array Slot}, Mem lyM 13 g A [] σ nor s.heap H locs → lv_has ls 9 [(0, .ref (g.2.2 0)), (1, .int x1), (2, .int x2), (3, .int x3), (5, .int x5), (6, .int x6)] → k61 x1 x2 x3 x5 x6 σ = some out → W p l e ({ frames := 3, cells := 0, slots := 0, locals := 64 }) s m args below meth c H locs 0 0 (MQ below (Qm lyM 13 g A [] out.2 nor (some (.int out.1))) args s 0 0 A) (F0 m 61 ls [])) {k122 : Int32 → Int32 → Int32 → Int32 → Int32 → Int32 → Int32 → IM → Option (Int32 × IM)} (hk122 : ∀ {x1 : Int32} {x2 : Int32} {x3 : Int32} {x5 : Int32} {x6 : Int32} {x7 : Int32} {x8 : Int32} {σ : IM} {H : Heap} {locs : List Loc} {ls : Array Slot}, Mem lyM 13 g A [] σ nor s.heap H locs → lv_has ls 9 [(0, .ref (g.2.2 0)), (1, .int x1), (2, .int x2), (3, .int x3), (5, .int x5), (6, .int x6), (7, .int x7), (8, .int x8)] → k122 x1 x2 x3 x5 x6 x7 x8 σ = some out → W p l e ({ frames := 3, cells := 0, slots := 0, locals := 64 }) s m args below meth c H locs 0 0 (MQ below (Qm lyM 13 g A [] out.2 nor (some (.int out.1))) args s 0 0 A) (F0 m 122 ls [])) : ∀ {x1 : Int32} {x2 : Int32} {x3 : Int32} {x5 : Int32} {x6 : Int32} {x7 : Int32} {x8 : Int32} {σ : IM} {H : Heap} {locs : List Loc} {ls : Array Slot}, Mem lyM 13 g A [] σ nor s.heap H locs → lv_has ls 9 [(0, .ref (g.2.2 0)), (1, .int x1), (2, .int x2), (3, .int x3), (5, .int x5), (6, .int x6), (7, .int x7), (8, .int x8)] → X12_whatIs_s122 k61 k122 x1 x2 x3 x5 x6 x7 x8 σ = some out → W p l e ({ frames := 3, cells := 0, slots := 0, locals := 64 }) s m args below meth c H locs 0 0 (MQ below (Qm lyM 13 g A [] out.2 nor (some (.int out.1))) args s 0 0 A) (F0 m 122 ls []) := by
  intro x1 x2 x3 x5 x6 x7 x8 σ H locs ls hM hl hF
  unfold X12_whatIs_s122 at hF
  refine lv_iload S.1 S.2.1 dX12_whatIs_122 (lv_at hl 7 rfl) ?_
  refine lv_aload_n S.1 S.2.1 dX12_whatIs_124 rfl (lv_at hl 0 rfl) ?_
  refine r_getC S hK hM cfX12 0 17 11 (by decide) lm_0 rfl (by decide) tw_5_48 dX12_whatIs_125 ?_
  refine lv_iload_n S.1 S.2.1 dX12_whatIs_128 rfl (lv_at hl 1 rfl) ?_
  obtain ⟨hv19, v19, ev19, hF⟩ := rd_some hF
  refine r_iald S hK hM 11 (by decide) rfl hv19 ev19 dX12_whatIs_129 ?_
  refine lv_icmp_ge (tgt := 184) S.1 S.2.1 dX12_whatIs_130 (by decide) (fun b20 => ?_) (fun b20 => ?_)
  · have hF := (if_pos b20).symm.trans hF
    refine lv_iload S.1 S.2.1 dX12_whatIs_184 (lv_at hl 4 rfl) ?_
    refine lv_iload S.1 S.2.1 dX12_whatIs_186 (lv_at hl 6 rfl) ?_
    refine lv_if_eq (tgt := 198) S.1 S.2.1 dX12_whatIs_188 (by decide) (fun b21 => ?_) (fun b21 => ?_)
    · have hF := (if_pos b21).symm.trans hF
      refine lv_iconst (v := 0) S.1 S.2.1 dX12_whatIs_198 (by decide) ?_
      exact w_X12_whatIs_199 S hK hr hlk hk61 hM (lv_sub hl [0, 1, 2, 3, 5] rfl) hF
    · have hF := (if_neg b21).symm.trans hF
      refine lv_iconst (v := 1) S.1 S.2.1 dX12_whatIs_191 (by decide) ?_
      refine lv_iload S.1 S.2.1 dX12_whatIs_192 (lv_at hl 5 rfl) ?_
      refine lv_ishl S.1 S.2.1 dX12_whatIs_194 ?_
      refine lv_goto (tgt := 199) S.1 S.2.1 dX12_whatIs_195 (by decide) ?_
      exact w_X12_whatIs_199 S hK hr hlk hk61 hM (lv_sub hl [0, 1, 2, 3, 5] rfl) hF
  · have hF := (if_neg b20).symm.trans hF
    refine lv_iload S.1 S.2.1 dX12_whatIs_133 (lv_at hl 6 rfl) ?_
    refine lv_aload_n S.1 S.2.1 dX12_whatIs_135 rfl (lv_at hl 0 rfl) ?_
    refine lv_iload_n S.1 S.2.1 dX12_whatIs_136 rfl (lv_at hl 1 rfl) ?_
    refine lv_iload S.1 S.2.1 dX12_whatIs_137 (lv_at hl 7 rfl) ?_
    obtain ⟨r22, er22, hF⟩ := bd1_some hF
    refine k_p (va_runV (As := [.int x1, .int x8]) (rest := [.int x7]) S (c_X12_isSkipped   er22) (cwV 2 S.2.2.2.2 (ul_V tw_6_112 tw_6_114 ts_X12_isSkipped tw_1_12 cw_X12_isSkipped) rfl rfl rfl hv_X12_isSkipped ⟨Nat.le_of_ble_eq_true rfl, Nat.le_of_ble_eq_true rfl⟩) ⟨PreM.blind, hM.recv hK cfX12 0 (by decide) lm_0, hM.pre hK⟩ rfl rfl hl.1 rfl (lv_room (Nat.le_of_ble_eq_true rfl)) dX12_whatIs_139 ⟨Nat.zero_le _, Nat.zero_le _⟩) ?_
    refine lv_if_ne (tgt := 170) S.1 S.2.1 dX12_whatIs_142 (by decide) (fun b23 => ?_) (fun b23 => ?_)
    · have hF := (if_neg b23).symm.trans hF
      exact w_X12_whatIs_170 S hK hr hlk hk61 hk122 hM (lv_sub hl [0, 1, 2, 3, 4, 5, 7] rfl) hF
    · have hF := (if_pos b23).symm.trans hF
      refine lv_aload_n S.1 S.2.1 dX12_whatIs_145 rfl (lv_at hl 0 rfl) ?_
      refine r_getC S hK hM cfX12 0 18 12 (by decide) lm_0 rfl (by decide) tw_5_49 dX12_whatIs_146 ?_
      refine lv_bipush (v := 100) S.1 S.2.1 dX12_whatIs_149 (by decide) ?_
      refine lv_iload_n S.1 S.2.1 dX12_whatIs_151 rfl (lv_at hl 1 rfl) ?_
      refine lv_imul S.1 S.2.1 dX12_whatIs_152 ?_
      refine lv_iload S.1 S.2.1 dX12_whatIs_153 (lv_at hl 7 rfl) ?_
      refine lv_iadd S.1 S.2.1 dX12_whatIs_155 ?_
      obtain ⟨hv24, v24, ev24, hF⟩ := rd_some hF
      refine r_iald S hK hM 12 (by decide) rfl hv24 ev24 dX12_whatIs_156 ?_
      refine lv_aload_n S.1 S.2.1 dX12_whatIs_157 rfl (lv_at hl 0 rfl) ?_
      refine r_getC S hK hM cfX12 0 1 2 (by decide) lm_0 rfl (by decide) tw_5_32 dX12_whatIs_158 ?_
      refine lv_iload_n S.1 S.2.1 dX12_whatIs_161 rfl (lv_at hl 2 rfl) ?_
      refine lv_iload S.1 S.2.1 dX12_whatIs_162 (lv_at hl 7 rfl) ?_
      obtain ⟨r25, er25, hF⟩ := bd1_some hF
      refine k_p (va_runS (As := [.ref (g.2.2 2), .int x2, .int x8]) (rest := [.int v24, .int x7]) S (c_X12_fallsIn  ar_2 er25) (va_cwS 3 S.2.2.2.2 (ul_S tw_5_153 tw_5_154 tw_1_12 cw_X12_fallsIn) rfl rfl rfl hs_X12_fallsIn ⟨Nat.le_of_ble_eq_true rfl, Nat.le_of_ble_eq_true rfl⟩) ⟨PreM.blind, hM.pre hK⟩ rfl rfl hl.1 rfl (lv_room (Nat.le_of_ble_eq_true rfl)) dX12_whatIs_164 ⟨Nat.zero_le _, Nat.zero_le _⟩) ?_
      refine lv_icmp_ne (tgt := 174) S.1 S.2.1 dX12_whatIs_167 (by decide) (fun b26 => ?_) (fun b26 => ?_)
      · have hF := (if_neg b26).symm.trans hF
        refine lv_iconst (v := 0) S.1 S.2.1 dX12_whatIs_174 (by decide) ?_
        exact w_X12_whatIs_175 S hK hr hlk hk61 hk122 hM (lv_sub hl [0, 1, 2, 3, 4, 5, 7] rfl) hF
      · have hF := (if_pos b26).symm.trans hF
        exact w_X12_whatIs_170 S hK hr hlk hk61 hk122 hM (lv_sub hl [0, 1, 2, 3, 4, 5, 7] rfl) hF
theorem wl_X12_whatIs_122 {l : Launch} {g : GE} {A : Nat → Prop} {p : Program} {e : Env} {s : State} {m : MethodId} {args : Array Value} {below : List Frame} {meth : Method} {c : Code} (S : CallFix p m c cX12_whatIs 9 s args UL RX12) (hK : KK g s) (hr : meth.sig.returnType = (some .int)) (hlk : meth.locks = false) {out : Int32 × IM} {k61 : Int32 → Int32 → Int32 → Int32 → Int32 → IM → Option (Int32 × IM)} (hk61 : ∀ {x1 : Int32} {x2 : Int32} {x3 : Int32} {x5 : Int32} {x6 : Int32} {σ : IM} {H : Heap} {locs : List Loc} {ls : Array Slot}, Mem lyM 13 g A [] σ nor s.heap H locs → lv_has ls 9 [(0, .ref (g.2.2 0)), (1, .int x1), (2, .int x2), (3, .int x3), (5, .int x5), (6, .int x6)] → k61 x1 x2 x3 x5 x6 σ = some out → W p l e ({ frames := 3, cells := 0, slots := 0, locals := 64 }) s m args below meth c H locs 0 0 (MQ below (Qm lyM 13 g A [] out.2 nor (some (.int out.1))) args s 0 0 A) (F0 m 61 ls [])) : ∀ (n : Nat) {x1 : Int32} {x2 : Int32} {x3 : Int32} {x5 : Int32} {x6 : Int32} {x7 : Int32} {x8 : Int32} {σ : IM} {H : Heap} {locs : List Loc} {ls : Array Slot}, Mem lyM 13 g A [] σ nor s.heap H locs → lv_has ls 9 [(0, .ref (g.2.2 0)), (1, .int x1), (2, .int x2), (3, .int x3), (5, .int x5), (6, .int x6), (7, .int x7), (8, .int x8)] → X12_whatIs_b122 k61 n x1 x2 x3 x5 x6 x7 x8 σ = some out → W p l e ({ frames := 3, cells := 0, slots := 0, locals := 64 }) s m args below meth c H locs 0 0 (MQ below (Qm lyM 13 g A [] out.2 nor (some (.int out.1))) args s 0 0 A) (F0 m 122 ls []) := by
  intro n
  induction n with
  | zero =>
    intro x1 x2 x3 x5 x6 x7 x8 σ H locs ls hM hl hF
    cases hF
  | succ n ih =>
    intro x1 x2 x3 x5 x6 x7 x8 σ H locs ls hM hl hF
    exact w_X12_whatIs_122 S hK hr hlk hk61 ih hM hl hF
def X12_whatIs_b119 (k61 : Int32 → Int32 → Int32 → Int32 → Int32 → IM → Option (Int32 × IM)) (x1 : Int32) (x2 : Int32) (x3 : Int32) (x5 : Int32) (x6 : Int32) (x7 : Int32) (σ : IM) : Option (Int32 × IM) := X12_whatIs_b122 k61 1000 x1 x2 x3 x5 x6 x7 0 σ
set_option maxRecDepth 20000 in
theorem w_X12_whatIs_119 {l : Launch} {g : GE} {A : Nat → Prop} {p : Program} {e : Env} {s : State} {m : MethodId} {args : Array Value} {below : List Frame} {meth : Method} {c : Code} (S : CallFix p m c cX12_whatIs 9 s args UL RX12) (hK : KK g s) (hr : meth.sig.returnType = (some .int)) (hlk : meth.locks = false) {out : Int32 × IM} {k61 : Int32 → Int32 → Int32 → Int32 → Int32 → IM → Option (Int32 × IM)} (hk61 : ∀ {x1 : Int32} {x2 : Int32} {x3 : Int32} {x5 : Int32} {x6 : Int32} {σ : IM} {H : Heap} {locs : List Loc} {ls : Array Slot}, Mem lyM 13 g A [] σ nor s.heap H locs → lv_has ls 9 [(0, .ref (g.2.2 0)), (1, .int x1), (2, .int x2), (3, .int x3), (5, .int x5), (6, .int x6)] → k61 x1 x2 x3 x5 x6 σ = some out → W p l e ({ frames := 3, cells := 0, slots := 0, locals := 64 }) s m args below meth c H locs 0 0 (MQ below (Qm lyM 13 g A [] out.2 nor (some (.int out.1))) args s 0 0 A) (F0 m 61 ls [])) : ∀ {x1 : Int32} {x2 : Int32} {x3 : Int32} {x5 : Int32} {x6 : Int32} {x7 : Int32} {σ : IM} {H : Heap} {locs : List Loc} {ls : Array Slot}, Mem lyM 13 g A [] σ nor s.heap H locs → lv_has ls 9 [(0, .ref (g.2.2 0)), (1, .int x1), (2, .int x2), (3, .int x3), (5, .int x5), (6, .int x6), (7, .int x7)] → X12_whatIs_b119 k61 x1 x2 x3 x5 x6 x7 σ = some out → W p l e ({ frames := 3, cells := 0, slots := 0, locals := 64 }) s m args below meth c H locs 0 0 (MQ below (Qm lyM 13 g A [] out.2 nor (some (.int out.1))) args s 0 0 A) (F0 m 119 ls []) := by
  intro x1 x2 x3 x5 x6 x7 σ H locs ls hM hl hF
  unfold X12_whatIs_b119 at hF
  refine lv_iconst (v := 0) S.1 S.2.1 dX12_whatIs_119 (by decide) ?_
  refine lv_istore (lv' := [(8, .int 0), (0, .ref (g.2.2 0)), (1, .int x1), (2, .int x2), (3, .int x3), (5, .int x5), (6, .int x6), (7, .int x7)]) S.1 S.2.1 dX12_whatIs_120 hl (by decide) rfl (fun ls hl => ?_)
  exact wl_X12_whatIs_122 S hK hr hlk hk61 1000 hM (lv_sub hl [1, 2, 3, 4, 5, 6, 7, 0] rfl) hF
def X12_whatIs_b73 (k61 : Int32 → Int32 → Int32 → Int32 → Int32 → IM → Option (Int32 × IM)) (x1 : Int32) (x2 : Int32) (x3 : Int32) (x5 : Int32) (x6 : Int32) (t0 : Int32) (t1 : Int32) (σ : IM) : Option (Int32 × IM) := if t0 ≤ t1 then (some (x5, σ)) else (bd1 (X12_copies σ 1 2) fun σ12 => if x3 = 0 then (bd1 (X12_ofS x2 0) fun r17 => wr σ12 2 42 r17 x6 fun σ18 => X12_whatIs_b119 k61 x1 x2 x3 x5 x6 1 σ18) else (wr σ12 2 42 3 (x6 - 1) fun σ16 => X12_whatIs_b119 k61 x1 x2 x3 x5 x6 1 σ16))
set_option maxRecDepth 20000 in
theorem w_X12_whatIs_73 {l : Launch} {g : GE} {A : Nat → Prop} {p : Program} {e : Env} {s : State} {m : MethodId} {args : Array Value} {below : List Frame} {meth : Method} {c : Code} (S : CallFix p m c cX12_whatIs 9 s args UL RX12) (hK : KK g s) (hr : meth.sig.returnType = (some .int)) (hlk : meth.locks = false) {out : Int32 × IM} {k61 : Int32 → Int32 → Int32 → Int32 → Int32 → IM → Option (Int32 × IM)} (hk61 : ∀ {x1 : Int32} {x2 : Int32} {x3 : Int32} {x5 : Int32} {x6 : Int32} {σ : IM} {H : Heap} {locs : List Loc} {ls : Array Slot}, Mem lyM 13 g A [] σ nor s.heap H locs → lv_has ls 9 [(0, .ref (g.2.2 0)), (1, .int x1), (2, .int x2), (3, .int x3), (5, .int x5), (6, .int x6)] → k61 x1 x2 x3 x5 x6 σ = some out → W p l e ({ frames := 3, cells := 0, slots := 0, locals := 64 }) s m args below meth c H locs 0 0 (MQ below (Qm lyM 13 g A [] out.2 nor (some (.int out.1))) args s 0 0 A) (F0 m 61 ls [])) : ∀ {x1 : Int32} {x2 : Int32} {x3 : Int32} {x5 : Int32} {x6 : Int32} {t0 : Int32} {t1 : Int32} {σ : IM} {H : Heap} {locs : List Loc} {ls : Array Slot}, Mem lyM 13 g A [] σ nor s.heap H locs → lv_has ls 9 [(0, .ref (g.2.2 0)), (1, .int x1), (2, .int x2), (3, .int x3), (5, .int x5), (6, .int x6)] → X12_whatIs_b73 k61 x1 x2 x3 x5 x6 t0 t1 σ = some out → W p l e ({ frames := 3, cells := 0, slots := 0, locals := 64 }) s m args below meth c H locs 0 0 (MQ below (Qm lyM 13 g A [] out.2 nor (some (.int out.1))) args s 0 0 A) (F0 m 73 ls [.int t0, .int t1]) := by
  intro x1 x2 x3 x5 x6 t0 t1 σ H locs ls hM hl hF
  unfold X12_whatIs_b73 at hF
  refine lv_icmp_ge (tgt := 208) S.1 S.2.1 dX12_whatIs_73 (by decide) (fun b11 => ?_) (fun b11 => ?_)
  · have hF := (if_pos b11).symm.trans hF
    refine lv_iload S.1 S.2.1 dX12_whatIs_208 (lv_at hl 4 rfl) ?_
    cases hF
    exact z_m (v := x5) S hM hr hlk rfl dX12_whatIs_210
  · have hF := (if_neg b11).symm.trans hF
    refine lv_iconst (v := 1) S.1 S.2.1 dX12_whatIs_76 (by decide) ?_
    refine lv_istore (lv' := [(7, .int 1), (0, .ref (g.2.2 0)), (1, .int x1), (2, .int x2), (3, .int x3), (5, .int x5), (6, .int x6)]) S.1 S.2.1 dX12_whatIs_77 hl (by decide) rfl (fun ls hl => ?_)
    refine lv_aload_n S.1 S.2.1 dX12_whatIs_79 rfl (lv_at hl 1 rfl) ?_
    refine r_getC S hK hM cfX12 0 0 1 (by decide) lm_0 rfl (by decide) tw_5_31 dX12_whatIs_80 ?_
    refine lv_aload_n S.1 S.2.1 dX12_whatIs_83 rfl (lv_at hl 1 rfl) ?_
    refine r_getC S hK hM cfX12 0 1 2 (by decide) lm_0 rfl (by decide) tw_5_32 dX12_whatIs_84 ?_
    obtain ⟨σ12, er14, hF⟩ := bd1_some hF
    refine k_m (va_runS (As := [.ref (g.2.2 1), .ref (g.2.2 2)]) (rest := []) S (c_X12_copies  ar_1 ar_2 er14) (va_cwS 2 S.2.2.2.2 (ul_S tw_5_118 tw_5_119 tw_1_12 cw_X12_copies) rfl rfl rfl hs_X12_copies ⟨Nat.le_of_ble_eq_true rfl, Nat.le_of_ble_eq_true rfl⟩) ⟨PreM.blind, hM.pre hK⟩ rfl rfl hl.1 rfl (lv_room (Nat.le_of_ble_eq_true rfl)) dX12_whatIs_87 ⟨Nat.zero_le _, Nat.zero_le _⟩) hM (fun H locs hM => ?_)
    show W _ _ _ _ _ _ _ _ _ _ _ _ _ _ _ (F0 m 90 ls [])
    refine lv_iload_n S.1 S.2.1 dX12_whatIs_90 rfl (lv_at hl 4 rfl) ?_
    refine lv_if_ne (tgt := 109) S.1 S.2.1 dX12_whatIs_91 (by decide) (fun b15 => ?_) (fun b15 => ?_)
    · have hF := (if_neg b15).symm.trans hF
      refine lv_aload_n S.1 S.2.1 dX12_whatIs_109 rfl (lv_at hl 1 rfl) ?_
      refine r_getC S hK hM cfX12 0 1 2 (by decide) lm_0 rfl (by decide) tw_5_32 dX12_whatIs_110 ?_
      refine lv_iconst (v := 3) S.1 S.2.1 dX12_whatIs_113 (by decide) ?_
      refine lv_iload S.1 S.2.1 dX12_whatIs_114 (lv_at hl 6 rfl) ?_
      refine lv_iconst (v := 1) S.1 S.2.1 dX12_whatIs_116 (by decide) ?_
      refine lv_isub S.1 S.2.1 dX12_whatIs_117 ?_
      obtain ⟨hσ16, σ16, eσ16, hF⟩ := wr_some hF
      refine r_iast S hK hM 2 (by decide) rfl hσ16 eσ16 dX12_whatIs_118 (fun H locs hM => ?_)
      exact w_X12_whatIs_119 S hK hr hlk hk61 hM (lv_sub hl [1, 2, 3, 4, 5, 6, 0] rfl) hF
    · have hF := (if_pos b15).symm.trans hF
      refine lv_aload_n S.1 S.2.1 dX12_whatIs_94 rfl (lv_at hl 1 rfl) ?_
      refine r_getC S hK hM cfX12 0 1 2 (by decide) lm_0 rfl (by decide) tw_5_32 dX12_whatIs_95 ?_
      refine lv_iload_n S.1 S.2.1 dX12_whatIs_98 rfl (lv_at hl 3 rfl) ?_
      refine lv_iconst (v := 0) S.1 S.2.1 dX12_whatIs_99 (by decide) ?_
      obtain ⟨r17, er17, hF⟩ := bd1_some hF
      refine k_p (va_runS (As := [.int x2, .int 0]) (rest := [.ref (g.2.2 2)]) S (c_X12_ofS   er17) (va_cwS 2 S.2.2.2.2 (ul_S tw_5_129 tw_5_130 tw_1_12 cw_X12_ofS) rfl rfl rfl hs_X12_ofS ⟨Nat.le_of_ble_eq_true rfl, Nat.le_of_ble_eq_true rfl⟩) ⟨PreM.blind, hM.pre hK⟩ rfl rfl hl.1 rfl (lv_room (Nat.le_of_ble_eq_true rfl)) dX12_whatIs_100 ⟨Nat.zero_le _, Nat.zero_le _⟩) ?_
      refine lv_iload S.1 S.2.1 dX12_whatIs_103 (lv_at hl 6 rfl) ?_
      obtain ⟨hσ18, σ18, eσ18, hF⟩ := wr_some hF
      refine r_iast S hK hM 2 (by decide) rfl hσ18 eσ18 dX12_whatIs_105 (fun H locs hM => ?_)
      refine lv_goto (tgt := 119) S.1 S.2.1 dX12_whatIs_106 (by decide) ?_
      exact w_X12_whatIs_119 S hK hr hlk hk61 hM (lv_sub hl [1, 2, 3, 4, 5, 6, 0] rfl) hF
def X12_whatIs_s61 (k61 : Int32 → Int32 → Int32 → Int32 → Int32 → IM → Option (Int32 × IM)) (x1 : Int32) (x2 : Int32) (x3 : Int32) (x5 : Int32) (x6 : Int32) (σ : IM) : Option (Int32 × IM) := if x3 = 0 then (X12_whatIs_b73 k61 x1 x2 x3 x5 x6 8 x6 σ) else (X12_whatIs_b73 k61 x1 x2 x3 x5 x6 3 x6 σ)
def X12_whatIs_b61 : Nat → Int32 → Int32 → Int32 → Int32 → Int32 → IM → Option (Int32 × IM)
  | 0 => fun _ _ _ _ _ _ => none
  | n + 1 => X12_whatIs_s61 (X12_whatIs_b61 n)
set_option maxRecDepth 20000 in
theorem w_X12_whatIs_61 {l : Launch} {g : GE} {A : Nat → Prop} {p : Program} {e : Env} {s : State} {m : MethodId} {args : Array Value} {below : List Frame} {meth : Method} {c : Code} (S : CallFix p m c cX12_whatIs 9 s args UL RX12) (hK : KK g s) (hr : meth.sig.returnType = (some .int)) (hlk : meth.locks = false) {out : Int32 × IM} {k61 : Int32 → Int32 → Int32 → Int32 → Int32 → IM → Option (Int32 × IM)} (hk61 : ∀ {x1 : Int32} {x2 : Int32} {x3 : Int32} {x5 : Int32} {x6 : Int32} {σ : IM} {H : Heap} {locs : List Loc} {ls : Array Slot}, Mem lyM 13 g A [] σ nor s.heap H locs → lv_has ls 9 [(0, .ref (g.2.2 0)), (1, .int x1), (2, .int x2), (3, .int x3), (5, .int x5), (6, .int x6)] → k61 x1 x2 x3 x5 x6 σ = some out → W p l e ({ frames := 3, cells := 0, slots := 0, locals := 64 }) s m args below meth c H locs 0 0 (MQ below (Qm lyM 13 g A [] out.2 nor (some (.int out.1))) args s 0 0 A) (F0 m 61 ls [])) : ∀ {x1 : Int32} {x2 : Int32} {x3 : Int32} {x5 : Int32} {x6 : Int32} {σ : IM} {H : Heap} {locs : List Loc} {ls : Array Slot}, Mem lyM 13 g A [] σ nor s.heap H locs → lv_has ls 9 [(0, .ref (g.2.2 0)), (1, .int x1), (2, .int x2), (3, .int x3), (5, .int x5), (6, .int x6)] → X12_whatIs_s61 k61 x1 x2 x3 x5 x6 σ = some out → W p l e ({ frames := 3, cells := 0, slots := 0, locals := 64 }) s m args below meth c H locs 0 0 (MQ below (Qm lyM 13 g A [] out.2 nor (some (.int out.1))) args s 0 0 A) (F0 m 61 ls []) := by
  intro x1 x2 x3 x5 x6 σ H locs ls hM hl hF
  unfold X12_whatIs_s61 at hF
  refine lv_iload S.1 S.2.1 dX12_whatIs_61 (lv_at hl 5 rfl) ?_
  refine lv_iload_n S.1 S.2.1 dX12_whatIs_63 rfl (lv_at hl 3 rfl) ?_
  refine lv_if_ne (tgt := 72) S.1 S.2.1 dX12_whatIs_64 (by decide) (fun b10 => ?_) (fun b10 => ?_)
  · have hF := (if_neg b10).symm.trans hF
    refine lv_iconst (v := 3) S.1 S.2.1 dX12_whatIs_72 (by decide) ?_
    exact w_X12_whatIs_73 S hK hr hlk hk61 hM (lv_sub hl [0, 1, 2, 3, 4, 5] rfl) hF
  · have hF := (if_pos b10).symm.trans hF
    refine lv_bipush (v := 8) S.1 S.2.1 dX12_whatIs_67 (by decide) ?_
    refine lv_goto (tgt := 73) S.1 S.2.1 dX12_whatIs_69 (by decide) ?_
    exact w_X12_whatIs_73 S hK hr hlk hk61 hM (lv_sub hl [0, 1, 2, 3, 4, 5] rfl) hF
theorem wl_X12_whatIs_61 {l : Launch} {g : GE} {A : Nat → Prop} {p : Program} {e : Env} {s : State} {m : MethodId} {args : Array Value} {below : List Frame} {meth : Method} {c : Code} (S : CallFix p m c cX12_whatIs 9 s args UL RX12) (hK : KK g s) (hr : meth.sig.returnType = (some .int)) (hlk : meth.locks = false) {out : Int32 × IM} : ∀ (n : Nat) {x1 : Int32} {x2 : Int32} {x3 : Int32} {x5 : Int32} {x6 : Int32} {σ : IM} {H : Heap} {locs : List Loc} {ls : Array Slot}, Mem lyM 13 g A [] σ nor s.heap H locs → lv_has ls 9 [(0, .ref (g.2.2 0)), (1, .int x1), (2, .int x2), (3, .int x3), (5, .int x5), (6, .int x6)] → X12_whatIs_b61 n x1 x2 x3 x5 x6 σ = some out → W p l e ({ frames := 3, cells := 0, slots := 0, locals := 64 }) s m args below meth c H locs 0 0 (MQ below (Qm lyM 13 g A [] out.2 nor (some (.int out.1))) args s 0 0 A) (F0 m 61 ls []) := by
  intro n
  induction n with
  | zero =>
    intro x1 x2 x3 x5 x6 σ H locs ls hM hl hF
    cases hF
  | succ n ih =>
    intro x1 x2 x3 x5 x6 σ H locs ls hM hl hF
    exact w_X12_whatIs_61 S hK hr hlk ih hM hl hF
def X12_whatIs_b47 (x1 : Int32) (x2 : Int32) (x3 : Int32) (x4 : Int32) (σ : IM) : Option (Int32 × IM) := if x4 = 0 then (X12_whatIs_b61 1000 x1 x2 x3 0 0 σ) else (some (x4, σ))
set_option maxRecDepth 20000 in
theorem w_X12_whatIs_47 {l : Launch} {g : GE} {A : Nat → Prop} {p : Program} {e : Env} {s : State} {m : MethodId} {args : Array Value} {below : List Frame} {meth : Method} {c : Code} (S : CallFix p m c cX12_whatIs 9 s args UL RX12) (hK : KK g s) (hr : meth.sig.returnType = (some .int)) (hlk : meth.locks = false) {out : Int32 × IM} : ∀ {x1 : Int32} {x2 : Int32} {x3 : Int32} {x4 : Int32} {σ : IM} {H : Heap} {locs : List Loc} {ls : Array Slot}, Mem lyM 13 g A [] σ nor s.heap H locs → lv_has ls 9 [(0, .ref (g.2.2 0)), (1, .int x1), (2, .int x2), (3, .int x3), (4, .int x4)] → X12_whatIs_b47 x1 x2 x3 x4 σ = some out → W p l e ({ frames := 3, cells := 0, slots := 0, locals := 64 }) s m args below meth c H locs 0 0 (MQ below (Qm lyM 13 g A [] out.2 nor (some (.int out.1))) args s 0 0 A) (F0 m 47 ls []) := by
  intro x1 x2 x3 x4 σ H locs ls hM hl hF
  unfold X12_whatIs_b47 at hF
  refine lv_iload S.1 S.2.1 dX12_whatIs_47 (lv_at hl 4 rfl) ?_
  refine lv_if_eq (tgt := 55) S.1 S.2.1 dX12_whatIs_49 (by decide) (fun b9 => ?_) (fun b9 => ?_)
  · have hF := (if_pos b9).symm.trans hF
    refine lv_iconst (v := 0) S.1 S.2.1 dX12_whatIs_55 (by decide) ?_
    refine lv_istore (lv' := [(5, .int 0), (0, .ref (g.2.2 0)), (1, .int x1), (2, .int x2), (3, .int x3), (4, .int x4)]) S.1 S.2.1 dX12_whatIs_56 hl (by decide) rfl (fun ls hl => ?_)
    refine lv_iconst (v := 0) S.1 S.2.1 dX12_whatIs_58 (by decide) ?_
    refine lv_istore (lv' := [(6, .int 0), (5, .int 0), (0, .ref (g.2.2 0)), (1, .int x1), (2, .int x2), (3, .int x3), (4, .int x4)]) S.1 S.2.1 dX12_whatIs_59 hl (by decide) rfl (fun ls hl => ?_)
    exact wl_X12_whatIs_61 S hK hr hlk 1000 hM (lv_sub hl [2, 3, 4, 5, 1, 0] rfl) hF
  · have hF := (if_neg b9).symm.trans hF
    refine lv_iload S.1 S.2.1 dX12_whatIs_52 (lv_at hl 4 rfl) ?_
    cases hF
    exact z_m (v := x4) S hM hr hlk rfl dX12_whatIs_54
def X12_whatIs (σ : IM) (a1 : Int32) (a2 : Int32) (a3 : Int32) : Option (Int32 × IM) := bd1 (X12_isStroke σ a2) fun r1 => if r1 = 0 then (some ((-1), σ)) else (bd1 (X12_isIn a3 0 1) fun r3 => if r3 = 0 then (some ((-1), σ)) else (bd1 (X12_wrongRow σ a1 (-1)) fun r5 => if r5 = 0 then (rd (σ 11) 8 a1 fun v7 => if v7 ≤ 9 then (X12_whatIs_b47 a1 a2 a3 r5 σ) else (X12_whatIs_b47 a1 a2 a3 (-13) σ)) else (X12_whatIs_b47 a1 a2 a3 r5 σ)))
set_option maxRecDepth 20000 in
theorem c_X12_whatIs {l : Launch} {g : GE} {A : Nat → Prop} {σ : IM} {a1 : Int32} {a2 : Int32} {a3 : Int32} {out : Int32 × IM} (hF : X12_whatIs σ a1 a2 a3 = some out) : Met l yX12_whatIs (.code yX12_whatIs cX12_whatIs 9 (some .int) :: UL) ({ frames := 3, cells := 0, slots := 0, locals := 64 }) (va_Pc [.ref (g.2.2 0), .int a1, .int a2, .int a3] (PreM lyM 13 g A [] σ nor)) (Qm lyM 13 g A [] out.2 nor (some (.int out.1))) 0 0 A := by
  refine e_of (by decide) (Nat.le_of_ble_eq_true rfl) ?_
  intro p e s m below meth c ls S hr hlk hv hl
  have hM := Mem.of hv
  have hK := hv.2.1
  have hl : lv_has ls 9 [(0, .ref (g.2.2 0)), (1, .int a1), (2, .int a2), (3, .int a3)] := hl
  unfold X12_whatIs at hF
  refine lv_aload_n S.1 S.2.1 dX12_whatIs_0 rfl (lv_at hl 0 rfl) ?_
  refine lv_iload_n S.1 S.2.1 dX12_whatIs_1 rfl (lv_at hl 2 rfl) ?_
  obtain ⟨r1, er1, hF⟩ := bd1_some hF
  refine k_p (va_runV (As := [.int a2]) (rest := []) S (c_X12_isStroke   er1) (cwV 1 S.2.2.2.2 (ul_V tw_5_138 tw_5_140 ts_X12_isStroke tw_1_12 cw_X12_isStroke) rfl rfl rfl hv_X12_isStroke ⟨Nat.le_of_ble_eq_true rfl, Nat.le_of_ble_eq_true rfl⟩) ⟨PreM.blind, hM.recv hK cfX12 0 (by decide) lm_0, hM.pre hK⟩ rfl rfl hl.1 rfl (lv_room (Nat.le_of_ble_eq_true rfl)) dX12_whatIs_2 ⟨Nat.zero_le _, Nat.zero_le _⟩) ?_
  refine lv_if_eq (tgt := 17) S.1 S.2.1 dX12_whatIs_5 (by decide) (fun b2 => ?_) (fun b2 => ?_)
  · have hF := (if_pos b2).symm.trans hF
    refine lv_iconst (v := (-1)) S.1 S.2.1 dX12_whatIs_17 (by decide) ?_
    cases hF
    exact z_m (v := (-1)) S hM hr hlk rfl dX12_whatIs_18
  · have hF := (if_neg b2).symm.trans hF
    refine lv_iload_n S.1 S.2.1 dX12_whatIs_8 rfl (lv_at hl 3 rfl) ?_
    refine lv_iconst (v := 0) S.1 S.2.1 dX12_whatIs_9 (by decide) ?_
    refine lv_iconst (v := 1) S.1 S.2.1 dX12_whatIs_10 (by decide) ?_
    obtain ⟨r3, er3, hF⟩ := bd1_some hF
    refine k_p (va_runS (As := [.int a3, .int 0, .int 1]) (rest := []) S (c_X12_isIn   er3) (va_cwS 3 S.2.2.2.2 (ul_S tw_5_103 tw_5_104 tw_1_12 cw_X12_isIn) rfl rfl rfl hs_X12_isIn ⟨Nat.le_of_ble_eq_true rfl, Nat.le_of_ble_eq_true rfl⟩) ⟨PreM.blind, hM.pre hK⟩ rfl rfl hl.1 rfl (lv_room (Nat.le_of_ble_eq_true rfl)) dX12_whatIs_11 ⟨Nat.zero_le _, Nat.zero_le _⟩) ?_
    refine lv_if_ne (tgt := 19) S.1 S.2.1 dX12_whatIs_14 (by decide) (fun b4 => ?_) (fun b4 => ?_)
    · have hF := (if_neg b4).symm.trans hF
      refine lv_aload_n S.1 S.2.1 dX12_whatIs_19 rfl (lv_at hl 0 rfl) ?_
      refine lv_iload_n S.1 S.2.1 dX12_whatIs_20 rfl (lv_at hl 1 rfl) ?_
      refine lv_iconst (v := (-1)) S.1 S.2.1 dX12_whatIs_21 (by decide) ?_
      obtain ⟨r5, er5, hF⟩ := bd1_some hF
      refine k_p (va_runV (As := [.int a1, .int (-1)]) (rest := []) S (c_X12_wrongRow   er5) (cwV 2 S.2.2.2.2 (ul_V tw_5_96 tw_5_98 ts_X12_wrongRow tw_1_12 cw_X12_wrongRow) rfl rfl rfl hv_X12_wrongRow ⟨Nat.le_of_ble_eq_true rfl, Nat.le_of_ble_eq_true rfl⟩) ⟨PreM.blind, hM.recv hK cfX12 0 (by decide) lm_0, hM.pre hK⟩ rfl rfl hl.1 rfl (lv_room (Nat.le_of_ble_eq_true rfl)) dX12_whatIs_22 ⟨Nat.zero_le _, Nat.zero_le _⟩) ?_
      refine lv_istore (lv' := [(4, .int r5), (0, .ref (g.2.2 0)), (1, .int a1), (2, .int a2), (3, .int a3)]) S.1 S.2.1 dX12_whatIs_25 hl (by decide) rfl (fun ls hl => ?_)
      refine lv_iload S.1 S.2.1 dX12_whatIs_27 (lv_at hl 0 rfl) ?_
      refine lv_if_ne (tgt := 47) S.1 S.2.1 dX12_whatIs_29 (by decide) (fun b6 => ?_) (fun b6 => ?_)
      · have hF := (if_neg b6).symm.trans hF
        exact w_X12_whatIs_47 S hK hr hlk hM (lv_sub hl [1, 2, 3, 4, 0] rfl) hF
      · have hF := (if_pos b6).symm.trans hF
        refine lv_aload_n S.1 S.2.1 dX12_whatIs_32 rfl (lv_at hl 1 rfl) ?_
        refine r_getC S hK hM cfX12 0 17 11 (by decide) lm_0 rfl (by decide) tw_5_48 dX12_whatIs_33 ?_
        refine lv_iload_n S.1 S.2.1 dX12_whatIs_36 rfl (lv_at hl 2 rfl) ?_
        obtain ⟨hv7, v7, ev7, hF⟩ := rd_some hF
        refine r_iald S hK hM 11 (by decide) rfl hv7 ev7 dX12_whatIs_37 ?_
        refine lv_bipush (v := 9) S.1 S.2.1 dX12_whatIs_38 (by decide) ?_
        refine lv_icmp_le (tgt := 47) S.1 S.2.1 dX12_whatIs_40 (by decide) (fun b8 => ?_) (fun b8 => ?_)
        · have hF := (if_pos b8).symm.trans hF
          exact w_X12_whatIs_47 S hK hr hlk hM (lv_sub hl [1, 2, 3, 4, 0] rfl) hF
        · have hF := (if_neg b8).symm.trans hF
          refine lv_bipush (v := (-13)) S.1 S.2.1 dX12_whatIs_43 (by decide) ?_
          refine lv_istore (lv' := [(4, .int (-13)), (0, .ref (g.2.2 0)), (1, .int a1), (2, .int a2), (3, .int a3)]) S.1 S.2.1 dX12_whatIs_45 hl (by decide) rfl (fun ls hl => ?_)
          exact w_X12_whatIs_47 S hK hr hlk hM (lv_sub hl [1, 2, 3, 4, 0] rfl) hF
    · have hF := (if_pos b4).symm.trans hF
      refine lv_iconst (v := (-1)) S.1 S.2.1 dX12_whatIs_17 (by decide) ?_
      cases hF
      exact z_m (v := (-1)) S hM hr hlk rfl dX12_whatIs_18
/-! X12_habits -/
def X12_habits_b177 (k52 : Int32 → Int32 → Int32 → IM → Option (Int32 × IM)) (x1 : Int32) (x4 : Int32) (t0 : Int32) (t1 : Int32) (σ : IM) : Option (Int32 × IM) := bd (t1 ||| t0) fun v28 => bd (x4 + 1) fun v29 => k52 x1 v28 v29 σ
set_option maxRecDepth 20000 in
theorem w_X12_habits_177 {l : Launch} {g : GE} {A : Nat → Prop} {p : Program} {e : Env} {s : State} {m : MethodId} {args : Array Value} {below : List Frame} {meth : Method} {c : Code} (S : CallFix p m c cX12_habits 7 s args UL RX12) (hK : KK g s) (hr : meth.sig.returnType = (some .int)) (hlk : meth.locks = false) {out : Int32 × IM} {k52 : Int32 → Int32 → Int32 → IM → Option (Int32 × IM)} (hk52 : ∀ {x1 : Int32} {x3 : Int32} {x4 : Int32} {σ : IM} {H : Heap} {locs : List Loc} {ls : Array Slot}, Mem lyM 13 g A [] σ nor s.heap H locs → lv_has ls 7 [(0, .ref (g.2.2 0)), (1, .int x1), (3, .int x3), (4, .int x4)] → k52 x1 x3 x4 σ = some out → W p l e ({ frames := 3, cells := 0, slots := 0, locals := 69 }) s m args below meth c H locs 0 0 (MQ below (Qm lyM 13 g A [] out.2 nor (some (.int out.1))) args s 0 0 A) (F0 m 52 ls [])) : ∀ {x1 : Int32} {x4 : Int32} {t0 : Int32} {t1 : Int32} {σ : IM} {H : Heap} {locs : List Loc} {ls : Array Slot}, Mem lyM 13 g A [] σ nor s.heap H locs → lv_has ls 7 [(0, .ref (g.2.2 0)), (1, .int x1), (4, .int x4)] → X12_habits_b177 k52 x1 x4 t0 t1 σ = some out → W p l e ({ frames := 3, cells := 0, slots := 0, locals := 69 }) s m args below meth c H locs 0 0 (MQ below (Qm lyM 13 g A [] out.2 nor (some (.int out.1))) args s 0 0 A) (F0 m 177 ls [.int t0, .int t1]) := by
  intro x1 x4 t0 t1 σ H locs ls hM hl hF
  unfold X12_habits_b177 at hF
  refine lv_ior S.1 S.2.1 dX12_habits_177 ?_
  refine lv_topi (fun v28 ev28 => ?_)
  have hF := bd_at ev28 hF
  refine lv_istore_n (lv' := [(3, .int v28), (0, .ref (g.2.2 0)), (1, .int x1), (4, .int x4)]) S.1 S.2.1 dX12_habits_178 rfl hl (by decide) rfl (fun ls hl => ?_)
  obtain ⟨v29, ev29, hF⟩ := bd_some hF
  refine lv_iinc (v := v29) (lv' := [(4, .int v29), (3, .int v28), (0, .ref (g.2.2 0)), (1, .int x1)]) S.1 S.2.1 dX12_habits_179 hl (k := 3) rfl (by rw [ev29]; rfl) (by decide) rfl (fun ls hl => ?_)
  refine lv_goto (tgt := 52) S.1 S.2.1 dX12_habits_182 (by decide) ?_
  exact hk52 hM (lv_sub hl [2, 3, 1, 0] rfl)  hF
def X12_habits_b154 (k52 : Int32 → Int32 → Int32 → IM → Option (Int32 × IM)) (k90 : Int32 → Int32 → Int32 → Int32 → Int32 → IM → Option (Int32 × IM)) (x1 : Int32) (x3 : Int32) (x4 : Int32) (x6 : Int32) (t0 : Int32) (t1 : Int32) (σ : IM) : Option (Int32 × IM) := bd (t1 &&& t0) fun v26 => bd (x6 + 1) fun v27 => k90 x1 x3 x4 v26 v27 σ
set_option maxRecDepth 20000 in
theorem w_X12_habits_154 {l : Launch} {g : GE} {A : Nat → Prop} {p : Program} {e : Env} {s : State} {m : MethodId} {args : Array Value} {below : List Frame} {meth : Method} {c : Code} (S : CallFix p m c cX12_habits 7 s args UL RX12) (hK : KK g s) (hr : meth.sig.returnType = (some .int)) (hlk : meth.locks = false) {out : Int32 × IM} {k52 : Int32 → Int32 → Int32 → IM → Option (Int32 × IM)} (hk52 : ∀ {x1 : Int32} {x3 : Int32} {x4 : Int32} {σ : IM} {H : Heap} {locs : List Loc} {ls : Array Slot}, Mem lyM 13 g A [] σ nor s.heap H locs → lv_has ls 7 [(0, .ref (g.2.2 0)), (1, .int x1), (3, .int x3), (4, .int x4)] → k52 x1 x3 x4 σ = some out → W p l e ({ frames := 3, cells := 0, slots := 0, locals := 69 }) s m args below meth c H locs 0 0 (MQ below (Qm lyM 13 g A [] out.2 nor (some (.int out.1))) args s 0 0 A) (F0 m 52 ls [])) {k90 : Int32 → Int32 → Int32 → Int32 → Int32 → IM → Option (Int32 × IM)} (hk90 : ∀ {x1 : Int32} {x3 : Int32} {x4 : Int32} {x5 : Int32} {x6 : Int32} {σ : IM} {H : Heap} {locs : List Loc} {ls : Array Slot}, Mem lyM 13 g A [] σ nor s.heap H locs → lv_has ls 7 [(0, .ref (g.2.2 0)), (1, .int x1), (3, .int x3), (4, .int x4), (5, .int x5), (6, .int x6)] → k90 x1 x3 x4 x5 x6 σ = some out → W p l e ({ frames := 3, cells := 0, slots := 0, locals := 69 }) s m args below meth c H locs 0 0 (MQ below (Qm lyM 13 g A [] out.2 nor (some (.int out.1))) args s 0 0 A) (F0 m 90 ls [])) : ∀ {x1 : Int32} {x3 : Int32} {x4 : Int32} {x6 : Int32} {t0 : Int32} {t1 : Int32} {σ : IM} {H : Heap} {locs : List Loc} {ls : Array Slot}, Mem lyM 13 g A [] σ nor s.heap H locs → lv_has ls 7 [(0, .ref (g.2.2 0)), (1, .int x1), (3, .int x3), (4, .int x4), (6, .int x6)] → X12_habits_b154 k52 k90 x1 x3 x4 x6 t0 t1 σ = some out → W p l e ({ frames := 3, cells := 0, slots := 0, locals := 69 }) s m args below meth c H locs 0 0 (MQ below (Qm lyM 13 g A [] out.2 nor (some (.int out.1))) args s 0 0 A) (F0 m 154 ls [.int t0, .int t1]) := by
  intro x1 x3 x4 x6 t0 t1 σ H locs ls hM hl hF
  unfold X12_habits_b154 at hF
  refine lv_iand S.1 S.2.1 dX12_habits_154 ?_
  refine lv_topi (fun v26 ev26 => ?_)
  have hF := bd_at ev26 hF
  refine lv_istore (lv' := [(5, .int v26), (0, .ref (g.2.2 0)), (1, .int x1), (3, .int x3), (4, .int x4), (6, .int x6)]) S.1 S.2.1 dX12_habits_155 hl (by decide) rfl (fun ls hl => ?_)
  obtain ⟨v27, ev27, hF⟩ := bd_some hF
  refine lv_iinc (v := v27) (lv' := [(6, .int v27), (5, .int v26), (0, .ref (g.2.2 0)), (1, .int x1), (3, .int x3), (4, .int x4)]) S.1 S.2.1 dX12_habits_157 hl (k := 5) rfl (by rw [ev27]; rfl) (by decide) rfl (fun ls hl => ?_)
  refine lv_goto (tgt := 90) S.1 S.2.1 dX12_habits_160 (by decide) ?_
  exact hk90 hM (lv_sub hl [2, 3, 4, 5, 1, 0] rfl)  hF
def X12_habits_b149 (k52 : Int32 → Int32 → Int32 → IM → Option (Int32 × IM)) (k90 : Int32 → Int32 → Int32 → Int32 → Int32 → IM → Option (Int32 × IM)) (x1 : Int32) (x3 : Int32) (x4 : Int32) (x6 : Int32) (t0 : Int32) (σ : IM) : Option (Int32 × IM) := X12_habits_b154 k52 k90 x1 x3 x4 x6 1 t0 σ
set_option maxRecDepth 20000 in
theorem w_X12_habits_149 {l : Launch} {g : GE} {A : Nat → Prop} {p : Program} {e : Env} {s : State} {m : MethodId} {args : Array Value} {below : List Frame} {meth : Method} {c : Code} (S : CallFix p m c cX12_habits 7 s args UL RX12) (hK : KK g s) (hr : meth.sig.returnType = (some .int)) (hlk : meth.locks = false) {out : Int32 × IM} {k52 : Int32 → Int32 → Int32 → IM → Option (Int32 × IM)} (hk52 : ∀ {x1 : Int32} {x3 : Int32} {x4 : Int32} {σ : IM} {H : Heap} {locs : List Loc} {ls : Array Slot}, Mem lyM 13 g A [] σ nor s.heap H locs → lv_has ls 7 [(0, .ref (g.2.2 0)), (1, .int x1), (3, .int x3), (4, .int x4)] → k52 x1 x3 x4 σ = some out → W p l e ({ frames := 3, cells := 0, slots := 0, locals := 69 }) s m args below meth c H locs 0 0 (MQ below (Qm lyM 13 g A [] out.2 nor (some (.int out.1))) args s 0 0 A) (F0 m 52 ls [])) {k90 : Int32 → Int32 → Int32 → Int32 → Int32 → IM → Option (Int32 × IM)} (hk90 : ∀ {x1 : Int32} {x3 : Int32} {x4 : Int32} {x5 : Int32} {x6 : Int32} {σ : IM} {H : Heap} {locs : List Loc} {ls : Array Slot}, Mem lyM 13 g A [] σ nor s.heap H locs → lv_has ls 7 [(0, .ref (g.2.2 0)), (1, .int x1), (3, .int x3), (4, .int x4), (5, .int x5), (6, .int x6)] → k90 x1 x3 x4 x5 x6 σ = some out → W p l e ({ frames := 3, cells := 0, slots := 0, locals := 69 }) s m args below meth c H locs 0 0 (MQ below (Qm lyM 13 g A [] out.2 nor (some (.int out.1))) args s 0 0 A) (F0 m 90 ls [])) : ∀ {x1 : Int32} {x3 : Int32} {x4 : Int32} {x6 : Int32} {t0 : Int32} {σ : IM} {H : Heap} {locs : List Loc} {ls : Array Slot}, Mem lyM 13 g A [] σ nor s.heap H locs → lv_has ls 7 [(0, .ref (g.2.2 0)), (1, .int x1), (3, .int x3), (4, .int x4), (6, .int x6)] → X12_habits_b149 k52 k90 x1 x3 x4 x6 t0 σ = some out → W p l e ({ frames := 3, cells := 0, slots := 0, locals := 69 }) s m args below meth c H locs 0 0 (MQ below (Qm lyM 13 g A [] out.2 nor (some (.int out.1))) args s 0 0 A) (F0 m 149 ls [.int t0]) := by
  intro x1 x3 x4 x6 t0 σ H locs ls hM hl hF
  unfold X12_habits_b149 at hF
  refine lv_iconst (v := 1) S.1 S.2.1 dX12_habits_149 (by decide) ?_
  refine lv_goto (tgt := 154) S.1 S.2.1 dX12_habits_150 (by decide) ?_
  exact w_X12_habits_154 S hK hr hlk hk52 hk90 hM (lv_sub hl [0, 1, 2, 3, 4] rfl) hF
def X12_habits_s90 (k52 : Int32 → Int32 → Int32 → IM → Option (Int32 × IM)) (k90 : Int32 → Int32 → Int32 → Int32 → Int32 → IM → Option (Int32 × IM)) (x1 : Int32) (x3 : Int32) (x4 : Int32) (x5 : Int32) (x6 : Int32) (σ : IM) : Option (Int32 × IM) := rd (σ 11) 8 x1 fun v16 => if v16 ≤ x6 then (if x5 = 0 then (X12_habits_b177 k52 x1 x4 0 x3 σ) else (X12_habits_b177 k52 x1 x4 (1 <<< (x4 &&& 31)) x3 σ)) else (bd1 (X12_isSkipped σ x1 x6) fun r19 => if r19 = 0 then (rd (σ 12) 800 ((100 * x1) + x6) fun v21 => bd1 (X12_otherSide σ) fun r22 => bd1 (X12_fallsIn σ 2 0 x6) fun r23 => bd1 (X12_whoseIn σ 2 r22 r23) fun r24 => if v21 = r24 then (X12_habits_b149 k52 k90 x1 x3 x4 x6 x5 σ) else (X12_habits_b154 k52 k90 x1 x3 x4 x6 0 x5 σ)) else (X12_habits_b149 k52 k90 x1 x3 x4 x6 x5 σ))
def X12_habits_b90 (k52 : Int32 → Int32 → Int32 → IM → Option (Int32 × IM)) : Nat → Int32 → Int32 → Int32 → Int32 → Int32 → IM → Option (Int32 × IM)
  | 0 => fun _ _ _ _ _ _ => none
  | n + 1 => X12_habits_s90 k52 (X12_habits_b90 k52 n)
set_option maxRecDepth 20000 in
theorem w_X12_habits_90 {l : Launch} {g : GE} {A : Nat → Prop} {p : Program} {e : Env} {s : State} {m : MethodId} {args : Array Value} {below : List Frame} {meth : Method} {c : Code} (S : CallFix p m c cX12_habits 7 s args UL RX12) (hK : KK g s) (hr : meth.sig.returnType = (some .int)) (hlk : meth.locks = false) {out : Int32 × IM} {k52 : Int32 → Int32 → Int32 → IM → Option (Int32 × IM)} (hk52 : ∀ {x1 : Int32} {x3 : Int32} {x4 : Int32} {σ : IM} {H : Heap} {locs : List Loc} {ls : Array Slot}, Mem lyM 13 g A [] σ nor s.heap H locs → lv_has ls 7 [(0, .ref (g.2.2 0)), (1, .int x1), (3, .int x3), (4, .int x4)] → k52 x1 x3 x4 σ = some out → W p l e ({ frames := 3, cells := 0, slots := 0, locals := 69 }) s m args below meth c H locs 0 0 (MQ below (Qm lyM 13 g A [] out.2 nor (some (.int out.1))) args s 0 0 A) (F0 m 52 ls [])) {k90 : Int32 → Int32 → Int32 → Int32 → Int32 → IM → Option (Int32 × IM)} (hk90 : ∀ {x1 : Int32} {x3 : Int32} {x4 : Int32} {x5 : Int32} {x6 : Int32} {σ : IM} {H : Heap} {locs : List Loc} {ls : Array Slot}, Mem lyM 13 g A [] σ nor s.heap H locs → lv_has ls 7 [(0, .ref (g.2.2 0)), (1, .int x1), (3, .int x3), (4, .int x4), (5, .int x5), (6, .int x6)] → k90 x1 x3 x4 x5 x6 σ = some out → W p l e ({ frames := 3, cells := 0, slots := 0, locals := 69 }) s m args below meth c H locs 0 0 (MQ below (Qm lyM 13 g A [] out.2 nor (some (.int out.1))) args s 0 0 A) (F0 m 90 ls [])) : ∀ {x1 : Int32} {x3 : Int32} {x4 : Int32} {x5 : Int32} {x6 : Int32} {σ : IM} {H : Heap} {locs : List Loc} {ls : Array Slot}, Mem lyM 13 g A [] σ nor s.heap H locs → lv_has ls 7 [(0, .ref (g.2.2 0)), (1, .int x1), (3, .int x3), (4, .int x4), (5, .int x5), (6, .int x6)] → X12_habits_s90 k52 k90 x1 x3 x4 x5 x6 σ = some out → W p l e ({ frames := 3, cells := 0, slots := 0, locals := 69 }) s m args below meth c H locs 0 0 (MQ below (Qm lyM 13 g A [] out.2 nor (some (.int out.1))) args s 0 0 A) (F0 m 90 ls []) := by
  intro x1 x3 x4 x5 x6 σ H locs ls hM hl hF
  unfold X12_habits_s90 at hF
  refine lv_iload S.1 S.2.1 dX12_habits_90 (lv_at hl 5 rfl) ?_
  refine lv_aload_n S.1 S.2.1 dX12_habits_92 rfl (lv_at hl 0 rfl) ?_
  refine r_getC S hK hM cfX12 0 17 11 (by decide) lm_0 rfl (by decide) tw_5_48 dX12_habits_93 ?_
  refine lv_iload_n S.1 S.2.1 dX12_habits_96 rfl (lv_at hl 1 rfl) ?_
  obtain ⟨hv16, v16, ev16, hF⟩ := rd_some hF
  refine r_iald S hK hM 11 (by decide) rfl hv16 ev16 dX12_habits_97 ?_
  refine lv_icmp_ge (tgt := 163) S.1 S.2.1 dX12_habits_98 (by decide) (fun b17 => ?_) (fun b17 => ?_)
  · have hF := (if_pos b17).symm.trans hF
    refine lv_iload_n S.1 S.2.1 dX12_habits_163 rfl (lv_at hl 2 rfl) ?_
    refine lv_iload S.1 S.2.1 dX12_habits_164 (lv_at hl 4 rfl) ?_
    refine lv_if_eq (tgt := 176) S.1 S.2.1 dX12_habits_166 (by decide) (fun b18 => ?_) (fun b18 => ?_)
    · have hF := (if_pos b18).symm.trans hF
      refine lv_iconst (v := 0) S.1 S.2.1 dX12_habits_176 (by decide) ?_
      exact w_X12_habits_177 S hK hr hlk hk52 hM (lv_sub hl [0, 1, 3] rfl) hF
    · have hF := (if_neg b18).symm.trans hF
      refine lv_iconst (v := 1) S.1 S.2.1 dX12_habits_169 (by decide) ?_
      refine lv_iload S.1 S.2.1 dX12_habits_170 (lv_at hl 3 rfl) ?_
      refine lv_ishl S.1 S.2.1 dX12_habits_172 ?_
      refine lv_goto (tgt := 177) S.1 S.2.1 dX12_habits_173 (by decide) ?_
      exact w_X12_habits_177 S hK hr hlk hk52 hM (lv_sub hl [0, 1, 3] rfl) hF
  · have hF := (if_neg b17).symm.trans hF
    refine lv_iload S.1 S.2.1 dX12_habits_101 (lv_at hl 4 rfl) ?_
    refine lv_aload_n S.1 S.2.1 dX12_habits_103 rfl (lv_at hl 0 rfl) ?_
    refine lv_iload_n S.1 S.2.1 dX12_habits_104 rfl (lv_at hl 1 rfl) ?_
    refine lv_iload S.1 S.2.1 dX12_habits_105 (lv_at hl 5 rfl) ?_
    obtain ⟨r19, er19, hF⟩ := bd1_some hF
    refine k_p (va_runV (As := [.int x1, .int x6]) (rest := [.int x5]) S (c_X12_isSkipped   er19) (cwV 2 S.2.2.2.2 (ul_V tw_6_112 tw_6_114 ts_X12_isSkipped tw_1_12 cw_X12_isSkipped) rfl rfl rfl hv_X12_isSkipped ⟨Nat.le_of_ble_eq_true rfl, Nat.le_of_ble_eq_true rfl⟩) ⟨PreM.blind, hM.recv hK cfX12 0 (by decide) lm_0, hM.pre hK⟩ rfl rfl hl.1 rfl (lv_room (Nat.le_of_ble_eq_true rfl)) dX12_habits_107 ⟨Nat.zero_le _, Nat.zero_le _⟩) ?_
    refine lv_if_ne (tgt := 149) S.1 S.2.1 dX12_habits_110 (by decide) (fun b20 => ?_) (fun b20 => ?_)
    · have hF := (if_neg b20).symm.trans hF
      exact w_X12_habits_149 S hK hr hlk hk52 hk90 hM (lv_sub hl [0, 1, 2, 3, 5] rfl) hF
    · have hF := (if_pos b20).symm.trans hF
      refine lv_aload_n S.1 S.2.1 dX12_habits_113 rfl (lv_at hl 0 rfl) ?_
      refine r_getC S hK hM cfX12 0 18 12 (by decide) lm_0 rfl (by decide) tw_5_49 dX12_habits_114 ?_
      refine lv_bipush (v := 100) S.1 S.2.1 dX12_habits_117 (by decide) ?_
      refine lv_iload_n S.1 S.2.1 dX12_habits_119 rfl (lv_at hl 1 rfl) ?_
      refine lv_imul S.1 S.2.1 dX12_habits_120 ?_
      refine lv_iload S.1 S.2.1 dX12_habits_121 (lv_at hl 5 rfl) ?_
      refine lv_iadd S.1 S.2.1 dX12_habits_123 ?_
      obtain ⟨hv21, v21, ev21, hF⟩ := rd_some hF
      refine r_iald S hK hM 12 (by decide) rfl hv21 ev21 dX12_habits_124 ?_
      refine lv_aload_n S.1 S.2.1 dX12_habits_125 rfl (lv_at hl 0 rfl) ?_
      refine r_getC S hK hM cfX12 0 1 2 (by decide) lm_0 rfl (by decide) tw_5_32 dX12_habits_126 ?_
      refine lv_aload_n S.1 S.2.1 dX12_habits_129 rfl (lv_at hl 0 rfl) ?_
      obtain ⟨r22, er22, hF⟩ := bd1_some hF
      refine k_p (va_runV (As := []) (rest := [.ref (g.2.2 2), .int v21, .int x5]) S (c_X12_otherSide   er22) (cwV 0 S.2.2.2.2 (ul_V tw_6_19 tw_6_21 ts_X12_otherSide tw_1_12 cw_X12_otherSide) rfl rfl rfl hv_X12_otherSide ⟨Nat.le_of_ble_eq_true rfl, Nat.le_of_ble_eq_true rfl⟩) ⟨PreM.blind, hM.recv hK cfX12 0 (by decide) lm_0, hM.pre hK⟩ rfl rfl hl.1 rfl (lv_room (Nat.le_of_ble_eq_true rfl)) dX12_habits_130 ⟨Nat.zero_le _, Nat.zero_le _⟩) ?_
      refine lv_aload_n S.1 S.2.1 dX12_habits_133 rfl (lv_at hl 0 rfl) ?_
      refine r_getC S hK hM cfX12 0 1 2 (by decide) lm_0 rfl (by decide) tw_5_32 dX12_habits_134 ?_
      refine lv_iconst (v := 0) S.1 S.2.1 dX12_habits_137 (by decide) ?_
      refine lv_iload S.1 S.2.1 dX12_habits_138 (lv_at hl 5 rfl) ?_
      obtain ⟨r23, er23, hF⟩ := bd1_some hF
      refine k_p (va_runS (As := [.ref (g.2.2 2), .int 0, .int x6]) (rest := [.int r22, .ref (g.2.2 2), .int v21, .int x5]) S (c_X12_fallsIn  ar_2 er23) (va_cwS 3 S.2.2.2.2 (ul_S tw_5_153 tw_5_154 tw_1_12 cw_X12_fallsIn) rfl rfl rfl hs_X12_fallsIn ⟨Nat.le_of_ble_eq_true rfl, Nat.le_of_ble_eq_true rfl⟩) ⟨PreM.blind, hM.pre hK⟩ rfl rfl hl.1 rfl (lv_room (Nat.le_of_ble_eq_true rfl)) dX12_habits_140 ⟨Nat.zero_le _, Nat.zero_le _⟩) ?_
      obtain ⟨r24, er24, hF⟩ := bd1_some hF
      refine k_p (va_runS (As := [.ref (g.2.2 2), .int r22, .int r23]) (rest := [.int v21, .int x5]) S (c_X12_whoseIn  ar_2 er24) (va_cwS 3 S.2.2.2.2 (ul_S tw_5_162 tw_5_163 tw_1_12 cw_X12_whoseIn) rfl rfl rfl hs_X12_whoseIn ⟨Nat.le_of_ble_eq_true rfl, Nat.le_of_ble_eq_true rfl⟩) ⟨PreM.blind, hM.pre hK⟩ rfl rfl hl.1 rfl (lv_room (Nat.le_of_ble_eq_true rfl)) dX12_habits_143 ⟨Nat.zero_le _, Nat.zero_le _⟩) ?_
      refine lv_icmp_ne (tgt := 153) S.1 S.2.1 dX12_habits_146 (by decide) (fun b25 => ?_) (fun b25 => ?_)
      · have hF := (if_neg b25).symm.trans hF
        refine lv_iconst (v := 0) S.1 S.2.1 dX12_habits_153 (by decide) ?_
        exact w_X12_habits_154 S hK hr hlk hk52 hk90 hM (lv_sub hl [0, 1, 2, 3, 5] rfl) hF
      · have hF := (if_pos b25).symm.trans hF
        exact w_X12_habits_149 S hK hr hlk hk52 hk90 hM (lv_sub hl [0, 1, 2, 3, 5] rfl) hF
theorem wl_X12_habits_90 {l : Launch} {g : GE} {A : Nat → Prop} {p : Program} {e : Env} {s : State} {m : MethodId} {args : Array Value} {below : List Frame} {meth : Method} {c : Code} (S : CallFix p m c cX12_habits 7 s args UL RX12) (hK : KK g s) (hr : meth.sig.returnType = (some .int)) (hlk : meth.locks = false) {out : Int32 × IM} {k52 : Int32 → Int32 → Int32 → IM → Option (Int32 × IM)} (hk52 : ∀ {x1 : Int32} {x3 : Int32} {x4 : Int32} {σ : IM} {H : Heap} {locs : List Loc} {ls : Array Slot}, Mem lyM 13 g A [] σ nor s.heap H locs → lv_has ls 7 [(0, .ref (g.2.2 0)), (1, .int x1), (3, .int x3), (4, .int x4)] → k52 x1 x3 x4 σ = some out → W p l e ({ frames := 3, cells := 0, slots := 0, locals := 69 }) s m args below meth c H locs 0 0 (MQ below (Qm lyM 13 g A [] out.2 nor (some (.int out.1))) args s 0 0 A) (F0 m 52 ls [])) : ∀ (n : Nat) {x1 : Int32} {x3 : Int32} {x4 : Int32} {x5 : Int32} {x6 : Int32} {σ : IM} {H : Heap} {locs : List Loc} {ls : Array Slot}, Mem lyM 13 g A [] σ nor s.heap H locs → lv_has ls 7 [(0, .ref (g.2.2 0)), (1, .int x1), (3, .int x3), (4, .int x4), (5, .int x5), (6, .int x6)] → X12_habits_b90 k52 n x1 x3 x4 x5 x6 σ = some out → W p l e ({ frames := 3, cells := 0, slots := 0, locals := 69 }) s m args below meth c H locs 0 0 (MQ below (Qm lyM 13 g A [] out.2 nor (some (.int out.1))) args s 0 0 A) (F0 m 90 ls []) := by
  intro n
  induction n with
  | zero =>
    intro x1 x3 x4 x5 x6 σ H locs ls hM hl hF
    cases hF
  | succ n ih =>
    intro x1 x3 x4 x5 x6 σ H locs ls hM hl hF
    exact w_X12_habits_90 S hK hr hlk hk52 ih hM hl hF
def X12_habits_s52 (k52 : Int32 → Int32 → Int32 → IM → Option (Int32 × IM)) (x1 : Int32) (x3 : Int32) (x4 : Int32) (σ : IM) : Option (Int32 × IM) := if 4 ≤ x4 then (some (x3, σ)) else (bd1 (X12_copies σ 1 2) fun σ10 => bd1 (X12_otherSide σ10) fun r13 => bd1 (X12_ofSide r13 1) fun r14 => wr σ10 2 42 r14 x4 fun σ15 => X12_habits_b90 k52 1000 x1 x3 x4 1 0 σ15)
def X12_habits_b52 : Nat → Int32 → Int32 → Int32 → IM → Option (Int32 × IM)
  | 0 => fun _ _ _ _ => none
  | n + 1 => X12_habits_s52 (X12_habits_b52 n)
set_option maxRecDepth 20000 in
theorem w_X12_habits_52 {l : Launch} {g : GE} {A : Nat → Prop} {p : Program} {e : Env} {s : State} {m : MethodId} {args : Array Value} {below : List Frame} {meth : Method} {c : Code} (S : CallFix p m c cX12_habits 7 s args UL RX12) (hK : KK g s) (hr : meth.sig.returnType = (some .int)) (hlk : meth.locks = false) {out : Int32 × IM} {k52 : Int32 → Int32 → Int32 → IM → Option (Int32 × IM)} (hk52 : ∀ {x1 : Int32} {x3 : Int32} {x4 : Int32} {σ : IM} {H : Heap} {locs : List Loc} {ls : Array Slot}, Mem lyM 13 g A [] σ nor s.heap H locs → lv_has ls 7 [(0, .ref (g.2.2 0)), (1, .int x1), (3, .int x3), (4, .int x4)] → k52 x1 x3 x4 σ = some out → W p l e ({ frames := 3, cells := 0, slots := 0, locals := 69 }) s m args below meth c H locs 0 0 (MQ below (Qm lyM 13 g A [] out.2 nor (some (.int out.1))) args s 0 0 A) (F0 m 52 ls [])) : ∀ {x1 : Int32} {x3 : Int32} {x4 : Int32} {σ : IM} {H : Heap} {locs : List Loc} {ls : Array Slot}, Mem lyM 13 g A [] σ nor s.heap H locs → lv_has ls 7 [(0, .ref (g.2.2 0)), (1, .int x1), (3, .int x3), (4, .int x4)] → X12_habits_s52 k52 x1 x3 x4 σ = some out → W p l e ({ frames := 3, cells := 0, slots := 0, locals := 69 }) s m args below meth c H locs 0 0 (MQ below (Qm lyM 13 g A [] out.2 nor (some (.int out.1))) args s 0 0 A) (F0 m 52 ls []) := by
  intro x1 x3 x4 σ H locs ls hM hl hF
  unfold X12_habits_s52 at hF
  refine lv_iload S.1 S.2.1 dX12_habits_52 (lv_at hl 3 rfl) ?_
  refine lv_iconst (v := 4) S.1 S.2.1 dX12_habits_54 (by decide) ?_
  refine lv_icmp_ge (tgt := 185) S.1 S.2.1 dX12_habits_55 (by decide) (fun b9 => ?_) (fun b9 => ?_)
  · have hF := (if_pos b9).symm.trans hF
    refine lv_iload_n S.1 S.2.1 dX12_habits_185 rfl (lv_at hl 2 rfl) ?_
    cases hF
    exact z_m (v := x3) S hM hr hlk rfl dX12_habits_186
  · have hF := (if_neg b9).symm.trans hF
    refine lv_iconst (v := 1) S.1 S.2.1 dX12_habits_58 (by decide) ?_
    refine lv_istore (lv' := [(5, .int 1), (0, .ref (g.2.2 0)), (1, .int x1), (3, .int x3), (4, .int x4)]) S.1 S.2.1 dX12_habits_59 hl (by decide) rfl (fun ls hl => ?_)
    refine lv_aload_n S.1 S.2.1 dX12_habits_61 rfl (lv_at hl 1 rfl) ?_
    refine r_getC S hK hM cfX12 0 0 1 (by decide) lm_0 rfl (by decide) tw_5_31 dX12_habits_62 ?_
    refine lv_aload_n S.1 S.2.1 dX12_habits_65 rfl (lv_at hl 1 rfl) ?_
    refine r_getC S hK hM cfX12 0 1 2 (by decide) lm_0 rfl (by decide) tw_5_32 dX12_habits_66 ?_
    obtain ⟨σ10, er12, hF⟩ := bd1_some hF
    refine k_m (va_runS (As := [.ref (g.2.2 1), .ref (g.2.2 2)]) (rest := []) S (c_X12_copies  ar_1 ar_2 er12) (va_cwS 2 S.2.2.2.2 (ul_S tw_5_118 tw_5_119 tw_1_12 cw_X12_copies) rfl rfl rfl hs_X12_copies ⟨Nat.le_of_ble_eq_true rfl, Nat.le_of_ble_eq_true rfl⟩) ⟨PreM.blind, hM.pre hK⟩ rfl rfl hl.1 rfl (lv_room (Nat.le_of_ble_eq_true rfl)) dX12_habits_69 ⟨Nat.zero_le _, Nat.zero_le _⟩) hM (fun H locs hM => ?_)
    show W _ _ _ _ _ _ _ _ _ _ _ _ _ _ _ (F0 m 72 ls [])
    refine lv_aload_n S.1 S.2.1 dX12_habits_72 rfl (lv_at hl 1 rfl) ?_
    refine r_getC S hK hM cfX12 0 1 2 (by decide) lm_0 rfl (by decide) tw_5_32 dX12_habits_73 ?_
    refine lv_aload_n S.1 S.2.1 dX12_habits_76 rfl (lv_at hl 1 rfl) ?_
    obtain ⟨r13, er13, hF⟩ := bd1_some hF
    refine k_p (va_runV (As := []) (rest := [.ref (g.2.2 2)]) S (c_X12_otherSide   er13) (cwV 0 S.2.2.2.2 (ul_V tw_6_19 tw_6_21 ts_X12_otherSide tw_1_12 cw_X12_otherSide) rfl rfl rfl hv_X12_otherSide ⟨Nat.le_of_ble_eq_true rfl, Nat.le_of_ble_eq_true rfl⟩) ⟨PreM.blind, hM.recv hK cfX12 0 (by decide) lm_0, hM.pre hK⟩ rfl rfl hl.1 rfl (lv_room (Nat.le_of_ble_eq_true rfl)) dX12_habits_77 ⟨Nat.zero_le _, Nat.zero_le _⟩) ?_
    refine lv_iconst (v := 1) S.1 S.2.1 dX12_habits_80 (by decide) ?_
    obtain ⟨r14, er14, hF⟩ := bd1_some hF
    refine k_p (va_runS (As := [.int r13, .int 1]) (rest := [.ref (g.2.2 2)]) S (c_X12_ofSide   er14) (va_cwS 2 S.2.2.2.2 (ul_S tw_5_28 tw_5_29 tw_1_12 cw_X12_ofSide) rfl rfl rfl hs_X12_ofSide ⟨Nat.le_of_ble_eq_true rfl, Nat.le_of_ble_eq_true rfl⟩) ⟨PreM.blind, hM.pre hK⟩ rfl rfl hl.1 rfl (lv_room (Nat.le_of_ble_eq_true rfl)) dX12_habits_81 ⟨Nat.zero_le _, Nat.zero_le _⟩) ?_
    refine lv_iload S.1 S.2.1 dX12_habits_84 (lv_at hl 4 rfl) ?_
    obtain ⟨hσ15, σ15, eσ15, hF⟩ := wr_some hF
    refine r_iast S hK hM 2 (by decide) rfl hσ15 eσ15 dX12_habits_86 (fun H locs hM => ?_)
    refine lv_iconst (v := 0) S.1 S.2.1 dX12_habits_87 (by decide) ?_
    refine lv_istore (lv' := [(6, .int 0), (5, .int 1), (0, .ref (g.2.2 0)), (1, .int x1), (3, .int x3), (4, .int x4)]) S.1 S.2.1 dX12_habits_88 hl (by decide) rfl (fun ls hl => ?_)
    exact wl_X12_habits_90 S hK hr hlk hk52 1000 hM (lv_sub hl [2, 3, 4, 5, 1, 0] rfl) hF
theorem wl_X12_habits_52 {l : Launch} {g : GE} {A : Nat → Prop} {p : Program} {e : Env} {s : State} {m : MethodId} {args : Array Value} {below : List Frame} {meth : Method} {c : Code} (S : CallFix p m c cX12_habits 7 s args UL RX12) (hK : KK g s) (hr : meth.sig.returnType = (some .int)) (hlk : meth.locks = false) {out : Int32 × IM} : ∀ (n : Nat) {x1 : Int32} {x3 : Int32} {x4 : Int32} {σ : IM} {H : Heap} {locs : List Loc} {ls : Array Slot}, Mem lyM 13 g A [] σ nor s.heap H locs → lv_has ls 7 [(0, .ref (g.2.2 0)), (1, .int x1), (3, .int x3), (4, .int x4)] → X12_habits_b52 n x1 x3 x4 σ = some out → W p l e ({ frames := 3, cells := 0, slots := 0, locals := 69 }) s m args below meth c H locs 0 0 (MQ below (Qm lyM 13 g A [] out.2 nor (some (.int out.1))) args s 0 0 A) (F0 m 52 ls []) := by
  intro n
  induction n with
  | zero =>
    intro x1 x3 x4 σ H locs ls hM hl hF
    cases hF
  | succ n ih =>
    intro x1 x3 x4 σ H locs ls hM hl hF
    exact w_X12_habits_52 S hK hr hlk ih hM hl hF
def X12_habits_b41 (x1 : Int32) (x2 : Int32) (σ : IM) : Option (Int32 × IM) := if x2 = 0 then (X12_habits_b52 1000 x1 0 0 σ) else (some (x2, σ))
set_option maxRecDepth 20000 in
theorem w_X12_habits_41 {l : Launch} {g : GE} {A : Nat → Prop} {p : Program} {e : Env} {s : State} {m : MethodId} {args : Array Value} {below : List Frame} {meth : Method} {c : Code} (S : CallFix p m c cX12_habits 7 s args UL RX12) (hK : KK g s) (hr : meth.sig.returnType = (some .int)) (hlk : meth.locks = false) {out : Int32 × IM} : ∀ {x1 : Int32} {x2 : Int32} {σ : IM} {H : Heap} {locs : List Loc} {ls : Array Slot}, Mem lyM 13 g A [] σ nor s.heap H locs → lv_has ls 7 [(0, .ref (g.2.2 0)), (1, .int x1), (2, .int x2)] → X12_habits_b41 x1 x2 σ = some out → W p l e ({ frames := 3, cells := 0, slots := 0, locals := 69 }) s m args below meth c H locs 0 0 (MQ below (Qm lyM 13 g A [] out.2 nor (some (.int out.1))) args s 0 0 A) (F0 m 41 ls []) := by
  intro x1 x2 σ H locs ls hM hl hF
  unfold X12_habits_b41 at hF
  refine lv_iload_n S.1 S.2.1 dX12_habits_41 rfl (lv_at hl 2 rfl) ?_
  refine lv_if_eq (tgt := 47) S.1 S.2.1 dX12_habits_42 (by decide) (fun b8 => ?_) (fun b8 => ?_)
  · have hF := (if_pos b8).symm.trans hF
    refine lv_iconst (v := 0) S.1 S.2.1 dX12_habits_47 (by decide) ?_
    refine lv_istore_n (lv' := [(3, .int 0), (0, .ref (g.2.2 0)), (1, .int x1), (2, .int x2)]) S.1 S.2.1 dX12_habits_48 rfl hl (by decide) rfl (fun ls hl => ?_)
    refine lv_iconst (v := 0) S.1 S.2.1 dX12_habits_49 (by decide) ?_
    refine lv_istore (lv' := [(4, .int 0), (3, .int 0), (0, .ref (g.2.2 0)), (1, .int x1), (2, .int x2)]) S.1 S.2.1 dX12_habits_50 hl (by decide) rfl (fun ls hl => ?_)
    exact wl_X12_habits_52 S hK hr hlk 1000 hM (lv_sub hl [2, 3, 1, 0] rfl) hF
  · have hF := (if_neg b8).symm.trans hF
    refine lv_iload_n S.1 S.2.1 dX12_habits_45 rfl (lv_at hl 2 rfl) ?_
    cases hF
    exact z_m (v := x2) S hM hr hlk rfl dX12_habits_46
def X12_habits_b25 (x1 : Int32) (x2 : Int32) (σ : IM) : Option (Int32 × IM) := if x2 = 0 then (rd (σ 1) 42 0 fun v6 => if v6 = 0 then (X12_habits_b41 x1 (-3) σ) else (X12_habits_b41 x1 x2 σ)) else (X12_habits_b41 x1 x2 σ)
set_option maxRecDepth 20000 in
theorem w_X12_habits_25 {l : Launch} {g : GE} {A : Nat → Prop} {p : Program} {e : Env} {s : State} {m : MethodId} {args : Array Value} {below : List Frame} {meth : Method} {c : Code} (S : CallFix p m c cX12_habits 7 s args UL RX12) (hK : KK g s) (hr : meth.sig.returnType = (some .int)) (hlk : meth.locks = false) {out : Int32 × IM} : ∀ {x1 : Int32} {x2 : Int32} {σ : IM} {H : Heap} {locs : List Loc} {ls : Array Slot}, Mem lyM 13 g A [] σ nor s.heap H locs → lv_has ls 7 [(0, .ref (g.2.2 0)), (1, .int x1), (2, .int x2)] → X12_habits_b25 x1 x2 σ = some out → W p l e ({ frames := 3, cells := 0, slots := 0, locals := 69 }) s m args below meth c H locs 0 0 (MQ below (Qm lyM 13 g A [] out.2 nor (some (.int out.1))) args s 0 0 A) (F0 m 25 ls []) := by
  intro x1 x2 σ H locs ls hM hl hF
  unfold X12_habits_b25 at hF
  refine lv_iload_n S.1 S.2.1 dX12_habits_25 rfl (lv_at hl 2 rfl) ?_
  refine lv_if_ne (tgt := 41) S.1 S.2.1 dX12_habits_26 (by decide) (fun b5 => ?_) (fun b5 => ?_)
  · have hF := (if_neg b5).symm.trans hF
    exact w_X12_habits_41 S hK hr hlk hM (lv_sub hl [0, 1, 2] rfl) hF
  · have hF := (if_pos b5).symm.trans hF
    refine lv_aload_n S.1 S.2.1 dX12_habits_29 rfl (lv_at hl 0 rfl) ?_
    refine r_getC S hK hM cfX12 0 0 1 (by decide) lm_0 rfl (by decide) tw_5_31 dX12_habits_30 ?_
    refine lv_iconst (v := 0) S.1 S.2.1 dX12_habits_33 (by decide) ?_
    obtain ⟨hv6, v6, ev6, hF⟩ := rd_some hF
    refine r_iald S hK hM 1 (by decide) rfl hv6 ev6 dX12_habits_34 ?_
    refine lv_if_ne (tgt := 41) S.1 S.2.1 dX12_habits_35 (by decide) (fun b7 => ?_) (fun b7 => ?_)
    · have hF := (if_neg b7).symm.trans hF
      exact w_X12_habits_41 S hK hr hlk hM (lv_sub hl [0, 1, 2] rfl) hF
    · have hF := (if_pos b7).symm.trans hF
      refine lv_bipush (v := (-3)) S.1 S.2.1 dX12_habits_38 (by decide) ?_
      refine lv_istore_n (lv' := [(2, .int (-3)), (0, .ref (g.2.2 0)), (1, .int x1)]) S.1 S.2.1 dX12_habits_40 rfl hl (by decide) rfl (fun ls hl => ?_)
      exact w_X12_habits_41 S hK hr hlk hM (lv_sub hl [1, 2, 0] rfl) hF
def X12_habits (σ : IM) (a1 : Int32) : Option (Int32 × IM) := bd1 (X12_wrongRow σ a1 (-1)) fun r1 => if r1 = 0 then (rd (σ 11) 8 a1 fun v3 => if v3 ≤ 9 then (X12_habits_b25 a1 r1 σ) else (X12_habits_b25 a1 (-13) σ)) else (X12_habits_b25 a1 r1 σ)
set_option maxRecDepth 20000 in
theorem c_X12_habits {l : Launch} {g : GE} {A : Nat → Prop} {σ : IM} {a1 : Int32} {out : Int32 × IM} (hF : X12_habits σ a1 = some out) : Met l yX12_habits (.code yX12_habits cX12_habits 7 (some .int) :: UL) ({ frames := 3, cells := 0, slots := 0, locals := 69 }) (va_Pc [.ref (g.2.2 0), .int a1] (PreM lyM 13 g A [] σ nor)) (Qm lyM 13 g A [] out.2 nor (some (.int out.1))) 0 0 A := by
  refine e_of (by decide) (Nat.le_of_ble_eq_true rfl) ?_
  intro p e s m below meth c ls S hr hlk hv hl
  have hM := Mem.of hv
  have hK := hv.2.1
  have hl : lv_has ls 7 [(0, .ref (g.2.2 0)), (1, .int a1)] := hl
  unfold X12_habits at hF
  refine lv_aload_n S.1 S.2.1 dX12_habits_0 rfl (lv_at hl 0 rfl) ?_
  refine lv_iload_n S.1 S.2.1 dX12_habits_1 rfl (lv_at hl 1 rfl) ?_
  refine lv_iconst (v := (-1)) S.1 S.2.1 dX12_habits_2 (by decide) ?_
  obtain ⟨r1, er1, hF⟩ := bd1_some hF
  refine k_p (va_runV (As := [.int a1, .int (-1)]) (rest := []) S (c_X12_wrongRow   er1) (cwV 2 S.2.2.2.2 (ul_V tw_5_96 tw_5_98 ts_X12_wrongRow tw_1_12 cw_X12_wrongRow) rfl rfl rfl hv_X12_wrongRow ⟨Nat.le_of_ble_eq_true rfl, Nat.le_of_ble_eq_true rfl⟩) ⟨PreM.blind, hM.recv hK cfX12 0 (by decide) lm_0, hM.pre hK⟩ rfl rfl hl.1 rfl (lv_room (Nat.le_of_ble_eq_true rfl)) dX12_habits_3 ⟨Nat.zero_le _, Nat.zero_le _⟩) ?_
  refine lv_istore_n (lv' := [(2, .int r1), (0, .ref (g.2.2 0)), (1, .int a1)]) S.1 S.2.1 dX12_habits_6 rfl hl (by decide) rfl (fun ls hl => ?_)
  refine lv_iload_n S.1 S.2.1 dX12_habits_7 rfl (lv_at hl 0 rfl) ?_
  refine lv_if_ne (tgt := 25) S.1 S.2.1 dX12_habits_8 (by decide) (fun b2 => ?_) (fun b2 => ?_)
  · have hF := (if_neg b2).symm.trans hF
    exact w_X12_habits_25 S hK hr hlk hM (lv_sub hl [1, 2, 0] rfl) hF
  · have hF := (if_pos b2).symm.trans hF
    refine lv_aload_n S.1 S.2.1 dX12_habits_11 rfl (lv_at hl 1 rfl) ?_
    refine r_getC S hK hM cfX12 0 17 11 (by decide) lm_0 rfl (by decide) tw_5_48 dX12_habits_12 ?_
    refine lv_iload_n S.1 S.2.1 dX12_habits_15 rfl (lv_at hl 2 rfl) ?_
    obtain ⟨hv3, v3, ev3, hF⟩ := rd_some hF
    refine r_iald S hK hM 11 (by decide) rfl hv3 ev3 dX12_habits_16 ?_
    refine lv_bipush (v := 9) S.1 S.2.1 dX12_habits_17 (by decide) ?_
    refine lv_icmp_le (tgt := 25) S.1 S.2.1 dX12_habits_19 (by decide) (fun b4 => ?_) (fun b4 => ?_)
    · have hF := (if_pos b4).symm.trans hF
      exact w_X12_habits_25 S hK hr hlk hM (lv_sub hl [1, 2, 0] rfl) hF
    · have hF := (if_neg b4).symm.trans hF
      refine lv_bipush (v := (-13)) S.1 S.2.1 dX12_habits_22 (by decide) ?_
      refine lv_istore_n (lv' := [(2, .int (-13)), (0, .ref (g.2.2 0)), (1, .int a1)]) S.1 S.2.1 dX12_habits_24 rfl hl (by decide) rfl (fun ls hl => ?_)
      exact w_X12_habits_25 S hK hr hlk hM (lv_sub hl [1, 2, 0] rfl) hF
/-! X12_costBy2 -/
def X12_costBy2_b137 (t0 : Int32) (t1 : Int32) (σ : IM) : Option (Int32 × IM) := some (t1 - t0, σ)
set_option maxRecDepth 20000 in
theorem w_X12_costBy2_137 {l : Launch} {g : GE} {A : Nat → Prop} {p : Program} {e : Env} {s : State} {m : MethodId} {args : Array Value} {below : List Frame} {meth : Method} {c : Code} (S : CallFix p m c cX12_costBy2 7 s args UL RX12) (hK : KK g s) (hr : meth.sig.returnType = (some .int)) (hlk : meth.locks = false) {out : Int32 × IM} : ∀ {t0 : Int32} {t1 : Int32} {σ : IM} {H : Heap} {locs : List Loc} {ls : Array Slot}, Mem lyM 13 g A [] σ nor s.heap H locs → lv_has ls 7 [] → X12_costBy2_b137 t0 t1 σ = some out → W p l e ({ frames := 4, cells := 0, slots := 0, locals := 99 }) s m args below meth c H locs 0 0 (MQ below (Qm lyM 13 g A [] out.2 nor (some (.int out.1))) args s 0 0 A) (F0 m 137 ls [.int t0, .int t1]) := by
  intro t0 t1 σ H locs ls hM hl hF
  unfold X12_costBy2_b137 at hF
  refine lv_isub S.1 S.2.1 dX12_costBy2_137 ?_
  cases hF
  exact z_m (v := t1 - t0) S hM hr hlk rfl dX12_costBy2_138
def X12_costBy2_b98 (x1 : Int32) (x4 : Int32) (σ : IM) : Option (Int32 × IM) := bd1 (X12_ofP (2 * x1) 2) fun r18 => rd (σ 2) 42 r18 fun v19 => bd1 (X12_ofP ((2 * x1) + 1) 2) fun r20 => rd (σ 2) 42 r20 fun v21 => if x4 = x1 then (X12_costBy2_b137 9 (v19 + v21) σ) else (X12_costBy2_b137 0 (v19 + v21) σ)
set_option maxRecDepth 20000 in
theorem w_X12_costBy2_98 {l : Launch} {g : GE} {A : Nat → Prop} {p : Program} {e : Env} {s : State} {m : MethodId} {args : Array Value} {below : List Frame} {meth : Method} {c : Code} (S : CallFix p m c cX12_costBy2 7 s args UL RX12) (hK : KK g s) (hr : meth.sig.returnType = (some .int)) (hlk : meth.locks = false) {out : Int32 × IM} : ∀ {x1 : Int32} {x4 : Int32} {σ : IM} {H : Heap} {locs : List Loc} {ls : Array Slot}, Mem lyM 13 g A [] σ nor s.heap H locs → lv_has ls 7 [(0, .ref (g.2.2 0)), (1, .int x1), (4, .int x4)] → X12_costBy2_b98 x1 x4 σ = some out → W p l e ({ frames := 4, cells := 0, slots := 0, locals := 99 }) s m args below meth c H locs 0 0 (MQ below (Qm lyM 13 g A [] out.2 nor (some (.int out.1))) args s 0 0 A) (F0 m 98 ls []) := by
  intro x1 x4 σ H locs ls hM hl hF
  unfold X12_costBy2_b98 at hF
  refine lv_aload_n S.1 S.2.1 dX12_costBy2_98 rfl (lv_at hl 0 rfl) ?_
  refine r_getC S hK hM cfX12 0 1 2 (by decide) lm_0 rfl (by decide) tw_5_32 dX12_costBy2_99 ?_
  refine lv_iconst (v := 2) S.1 S.2.1 dX12_costBy2_102 (by decide) ?_
  refine lv_iload_n S.1 S.2.1 dX12_costBy2_103 rfl (lv_at hl 1 rfl) ?_
  refine lv_imul S.1 S.2.1 dX12_costBy2_104 ?_
  refine lv_iconst (v := 2) S.1 S.2.1 dX12_costBy2_105 (by decide) ?_
  obtain ⟨r18, er18, hF⟩ := bd1_some hF
  refine k_p (va_runS (As := [.int (2 * x1), .int 2]) (rest := [.ref (g.2.2 2)]) S (c_X12_ofP   er18) (va_cwS 2 S.2.2.2.2 (ul_S tw_5_25 tw_5_26 tw_1_12 cw_X12_ofP) rfl rfl rfl hs_X12_ofP ⟨Nat.le_of_ble_eq_true rfl, Nat.le_of_ble_eq_true rfl⟩) ⟨PreM.blind, hM.pre hK⟩ rfl rfl hl.1 rfl (lv_room (Nat.le_of_ble_eq_true rfl)) dX12_costBy2_106 ⟨Nat.zero_le _, Nat.zero_le _⟩) ?_
  obtain ⟨hv19, v19, ev19, hF⟩ := rd_some hF
  refine r_iald S hK hM 2 (by decide) rfl hv19 ev19 dX12_costBy2_109 ?_
  refine lv_aload_n S.1 S.2.1 dX12_costBy2_110 rfl (lv_at hl 0 rfl) ?_
  refine r_getC S hK hM cfX12 0 1 2 (by decide) lm_0 rfl (by decide) tw_5_32 dX12_costBy2_111 ?_
  refine lv_iconst (v := 2) S.1 S.2.1 dX12_costBy2_114 (by decide) ?_
  refine lv_iload_n S.1 S.2.1 dX12_costBy2_115 rfl (lv_at hl 1 rfl) ?_
  refine lv_imul S.1 S.2.1 dX12_costBy2_116 ?_
  refine lv_iconst (v := 1) S.1 S.2.1 dX12_costBy2_117 (by decide) ?_
  refine lv_iadd S.1 S.2.1 dX12_costBy2_118 ?_
  refine lv_iconst (v := 2) S.1 S.2.1 dX12_costBy2_119 (by decide) ?_
  obtain ⟨r20, er20, hF⟩ := bd1_some hF
  refine k_p (va_runS (As := [.int ((2 * x1) + 1), .int 2]) (rest := [.ref (g.2.2 2), .int v19]) S (c_X12_ofP   er20) (va_cwS 2 S.2.2.2.2 (ul_S tw_5_25 tw_5_26 tw_1_12 cw_X12_ofP) rfl rfl rfl hs_X12_ofP ⟨Nat.le_of_ble_eq_true rfl, Nat.le_of_ble_eq_true rfl⟩) ⟨PreM.blind, hM.pre hK⟩ rfl rfl hl.1 rfl (lv_room (Nat.le_of_ble_eq_true rfl)) dX12_costBy2_120 ⟨Nat.zero_le _, Nat.zero_le _⟩) ?_
  obtain ⟨hv21, v21, ev21, hF⟩ := rd_some hF
  refine r_iald S hK hM 2 (by decide) rfl hv21 ev21 dX12_costBy2_123 ?_
  refine lv_iadd S.1 S.2.1 dX12_costBy2_124 ?_
  refine lv_iload S.1 S.2.1 dX12_costBy2_125 (lv_at hl 2 rfl) ?_
  refine lv_iload_n S.1 S.2.1 dX12_costBy2_127 rfl (lv_at hl 1 rfl) ?_
  refine lv_icmp_ne (tgt := 136) S.1 S.2.1 dX12_costBy2_128 (by decide) (fun b22 => ?_) (fun b22 => ?_)
  · have hF := (if_neg b22).symm.trans hF
    refine lv_iconst (v := 0) S.1 S.2.1 dX12_costBy2_136 (by decide) ?_
    exact w_X12_costBy2_137 S hK hr hlk hM (lv_sub hl [] rfl) hF
  · have hF := (if_pos b22).symm.trans hF
    refine lv_bipush (v := 9) S.1 S.2.1 dX12_costBy2_131 (by decide) ?_
    refine lv_goto (tgt := 137) S.1 S.2.1 dX12_costBy2_133 (by decide) ?_
    exact w_X12_costBy2_137 S hK hr hlk hM (lv_sub hl [] rfl) hF
def X12_costBy2_b92 (k39 : Int32 → Int32 → Int32 → IM → Option (Int32 × IM)) (x1 : Int32) (x4 : Int32) (x5 : Int32) (σ : IM) : Option (Int32 × IM) := bd (x5 + 1) fun v17 => k39 x1 x4 v17 σ
set_option maxRecDepth 20000 in
theorem w_X12_costBy2_92 {l : Launch} {g : GE} {A : Nat → Prop} {p : Program} {e : Env} {s : State} {m : MethodId} {args : Array Value} {below : List Frame} {meth : Method} {c : Code} (S : CallFix p m c cX12_costBy2 7 s args UL RX12) (hK : KK g s) (hr : meth.sig.returnType = (some .int)) (hlk : meth.locks = false) {out : Int32 × IM} {k39 : Int32 → Int32 → Int32 → IM → Option (Int32 × IM)} (hk39 : ∀ {x1 : Int32} {x4 : Int32} {x5 : Int32} {σ : IM} {H : Heap} {locs : List Loc} {ls : Array Slot}, Mem lyM 13 g A [] σ nor s.heap H locs → lv_has ls 7 [(0, .ref (g.2.2 0)), (1, .int x1), (4, .int x4), (5, .int x5)] → k39 x1 x4 x5 σ = some out → W p l e ({ frames := 4, cells := 0, slots := 0, locals := 99 }) s m args below meth c H locs 0 0 (MQ below (Qm lyM 13 g A [] out.2 nor (some (.int out.1))) args s 0 0 A) (F0 m 39 ls [])) : ∀ {x1 : Int32} {x4 : Int32} {x5 : Int32} {σ : IM} {H : Heap} {locs : List Loc} {ls : Array Slot}, Mem lyM 13 g A [] σ nor s.heap H locs → lv_has ls 7 [(0, .ref (g.2.2 0)), (1, .int x1), (4, .int x4), (5, .int x5)] → X12_costBy2_b92 k39 x1 x4 x5 σ = some out → W p l e ({ frames := 4, cells := 0, slots := 0, locals := 99 }) s m args below meth c H locs 0 0 (MQ below (Qm lyM 13 g A [] out.2 nor (some (.int out.1))) args s 0 0 A) (F0 m 92 ls []) := by
  intro x1 x4 x5 σ H locs ls hM hl hF
  unfold X12_costBy2_b92 at hF
  obtain ⟨v17, ev17, hF⟩ := bd_some hF
  refine lv_iinc (v := v17) (lv' := [(5, .int v17), (0, .ref (g.2.2 0)), (1, .int x1), (4, .int x4)]) S.1 S.2.1 dX12_costBy2_92 hl (k := 3) rfl (by rw [ev17]; rfl) (by decide) rfl (fun ls hl => ?_)
  refine lv_goto (tgt := 39) S.1 S.2.1 dX12_costBy2_95 (by decide) ?_
  exact hk39 hM (lv_sub hl [1, 2, 3, 0] rfl)  hF
def X12_costBy2_b82 (k39 : Int32 → Int32 → Int32 → IM → Option (Int32 × IM)) (x1 : Int32) (x4 : Int32) (x5 : Int32) (x6 : Int32) (t0 : Int32) (t1 : Int32) (σ : IM) : Option (Int32 × IM) := bd2 (X12_hits σ 2 t1 t0) fun r15 σ13 => if r15 = 0 then (X12_costBy2_b92 k39 x1 x4 x5 σ13) else (X12_costBy2_b92 k39 x1 x6 x5 σ13)
set_option maxRecDepth 20000 in
theorem w_X12_costBy2_82 {l : Launch} {g : GE} {A : Nat → Prop} {p : Program} {e : Env} {s : State} {m : MethodId} {args : Array Value} {below : List Frame} {meth : Method} {c : Code} (S : CallFix p m c cX12_costBy2 7 s args UL RX12) (hK : KK g s) (hr : meth.sig.returnType = (some .int)) (hlk : meth.locks = false) {out : Int32 × IM} {k39 : Int32 → Int32 → Int32 → IM → Option (Int32 × IM)} (hk39 : ∀ {x1 : Int32} {x4 : Int32} {x5 : Int32} {σ : IM} {H : Heap} {locs : List Loc} {ls : Array Slot}, Mem lyM 13 g A [] σ nor s.heap H locs → lv_has ls 7 [(0, .ref (g.2.2 0)), (1, .int x1), (4, .int x4), (5, .int x5)] → k39 x1 x4 x5 σ = some out → W p l e ({ frames := 4, cells := 0, slots := 0, locals := 99 }) s m args below meth c H locs 0 0 (MQ below (Qm lyM 13 g A [] out.2 nor (some (.int out.1))) args s 0 0 A) (F0 m 39 ls [])) : ∀ {x1 : Int32} {x4 : Int32} {x5 : Int32} {x6 : Int32} {t0 : Int32} {t1 : Int32} {σ : IM} {H : Heap} {locs : List Loc} {ls : Array Slot}, Mem lyM 13 g A [] σ nor s.heap H locs → lv_has ls 7 [(0, .ref (g.2.2 0)), (1, .int x1), (4, .int x4), (5, .int x5), (6, .int x6)] → X12_costBy2_b82 k39 x1 x4 x5 x6 t0 t1 σ = some out → W p l e ({ frames := 4, cells := 0, slots := 0, locals := 99 }) s m args below meth c H locs 0 0 (MQ below (Qm lyM 13 g A [] out.2 nor (some (.int out.1))) args s 0 0 A) (F0 m 82 ls [.int t0, .int t1, .ref (g.2.2 2), .ref (g.2.2 0)]) := by
  intro x1 x4 x5 x6 t0 t1 σ H locs ls hM hl hF
  unfold X12_costBy2_b82 at hF
  obtain ⟨r15, σ13, er15, hF⟩ := bd2_some hF
  refine k_m (va_runV (As := [.ref (g.2.2 2), .int t1, .int t0]) (rest := []) S (c_X12_hits  ar_2 er15) (cwV 3 S.2.2.2.2 (ul_V tw_5_146 tw_5_148 ts_X12_hits tw_1_12 cw_X12_hits) rfl rfl rfl hv_X12_hits ⟨Nat.le_of_ble_eq_true rfl, Nat.le_of_ble_eq_true rfl⟩) ⟨PreM.blind, hM.recv hK cfX12 0 (by decide) lm_0, hM.pre hK⟩ rfl rfl hl.1 rfl (lv_room (Nat.le_of_ble_eq_true rfl)) dX12_costBy2_82 ⟨Nat.zero_le _, Nat.zero_le _⟩) hM (fun H locs hM => ?_)
  show W _ _ _ _ _ _ _ _ _ _ _ _ _ _ _ (F0 m 85 ls [.int r15])
  refine lv_if_eq (tgt := 92) S.1 S.2.1 dX12_costBy2_85 (by decide) (fun b16 => ?_) (fun b16 => ?_)
  · have hF := (if_pos b16).symm.trans hF
    exact w_X12_costBy2_92 S hK hr hlk hk39 hM (lv_sub hl [0, 1, 2, 3] rfl) hF
  · have hF := (if_neg b16).symm.trans hF
    refine lv_iload S.1 S.2.1 dX12_costBy2_88 (lv_at hl 4 rfl) ?_
    refine lv_istore (lv' := [(4, .int x6), (0, .ref (g.2.2 0)), (1, .int x1), (5, .int x5), (6, .int x6)]) S.1 S.2.1 dX12_costBy2_90 hl (by decide) rfl (fun ls hl => ?_)
    exact w_X12_costBy2_92 S hK hr hlk hk39 hM (lv_sub hl [1, 2, 0, 3] rfl) hF
def X12_costBy2_s39 (k39 : Int32 → Int32 → Int32 → IM → Option (Int32 × IM)) (x1 : Int32) (x4 : Int32) (x5 : Int32) (σ : IM) : Option (Int32 × IM) := if 6 ≤ x5 then (X12_costBy2_b98 x1 x4 σ) else (if x4 = 2 then (rd (σ 2) 42 2 fun v10 => bd1 (X12_sideOf v10) fun r11 => if rem32 x5 2 = 0 then (X12_costBy2_b82 k39 x1 x4 x5 r11 0 0 σ) else (X12_costBy2_b82 k39 x1 x4 x5 r11 8 0 σ)) else (X12_costBy2_b98 x1 x4 σ))
def X12_costBy2_b39 : Nat → Int32 → Int32 → Int32 → IM → Option (Int32 × IM)
  | 0 => fun _ _ _ _ => none
  | n + 1 => X12_costBy2_s39 (X12_costBy2_b39 n)
set_option maxRecDepth 20000 in
theorem w_X12_costBy2_39 {l : Launch} {g : GE} {A : Nat → Prop} {p : Program} {e : Env} {s : State} {m : MethodId} {args : Array Value} {below : List Frame} {meth : Method} {c : Code} (S : CallFix p m c cX12_costBy2 7 s args UL RX12) (hK : KK g s) (hr : meth.sig.returnType = (some .int)) (hlk : meth.locks = false) {out : Int32 × IM} {k39 : Int32 → Int32 → Int32 → IM → Option (Int32 × IM)} (hk39 : ∀ {x1 : Int32} {x4 : Int32} {x5 : Int32} {σ : IM} {H : Heap} {locs : List Loc} {ls : Array Slot}, Mem lyM 13 g A [] σ nor s.heap H locs → lv_has ls 7 [(0, .ref (g.2.2 0)), (1, .int x1), (4, .int x4), (5, .int x5)] → k39 x1 x4 x5 σ = some out → W p l e ({ frames := 4, cells := 0, slots := 0, locals := 99 }) s m args below meth c H locs 0 0 (MQ below (Qm lyM 13 g A [] out.2 nor (some (.int out.1))) args s 0 0 A) (F0 m 39 ls [])) : ∀ {x1 : Int32} {x4 : Int32} {x5 : Int32} {σ : IM} {H : Heap} {locs : List Loc} {ls : Array Slot}, Mem lyM 13 g A [] σ nor s.heap H locs → lv_has ls 7 [(0, .ref (g.2.2 0)), (1, .int x1), (4, .int x4), (5, .int x5)] → X12_costBy2_s39 k39 x1 x4 x5 σ = some out → W p l e ({ frames := 4, cells := 0, slots := 0, locals := 99 }) s m args below meth c H locs 0 0 (MQ below (Qm lyM 13 g A [] out.2 nor (some (.int out.1))) args s 0 0 A) (F0 m 39 ls []) := by
  intro x1 x4 x5 σ H locs ls hM hl hF
  unfold X12_costBy2_s39 at hF
  refine lv_iload S.1 S.2.1 dX12_costBy2_39 (lv_at hl 3 rfl) ?_
  refine lv_bipush (v := 6) S.1 S.2.1 dX12_costBy2_41 (by decide) ?_
  refine lv_icmp_ge (tgt := 98) S.1 S.2.1 dX12_costBy2_43 (by decide) (fun b8 => ?_) (fun b8 => ?_)
  · have hF := (if_pos b8).symm.trans hF
    exact w_X12_costBy2_98 S hK hr hlk hM (lv_sub hl [0, 1, 2] rfl) hF
  · have hF := (if_neg b8).symm.trans hF
    refine lv_iload S.1 S.2.1 dX12_costBy2_46 (lv_at hl 2 rfl) ?_
    refine lv_iconst (v := 2) S.1 S.2.1 dX12_costBy2_48 (by decide) ?_
    refine lv_icmp_ne (tgt := 98) S.1 S.2.1 dX12_costBy2_49 (by decide) (fun b9 => ?_) (fun b9 => ?_)
    · have hF := (if_neg b9).symm.trans hF
      exact w_X12_costBy2_98 S hK hr hlk hM (lv_sub hl [0, 1, 2] rfl) hF
    · have hF := (if_pos b9).symm.trans hF
      refine lv_aload_n S.1 S.2.1 dX12_costBy2_52 rfl (lv_at hl 0 rfl) ?_
      refine r_getC S hK hM cfX12 0 1 2 (by decide) lm_0 rfl (by decide) tw_5_32 dX12_costBy2_53 ?_
      refine lv_iconst (v := 2) S.1 S.2.1 dX12_costBy2_56 (by decide) ?_
      obtain ⟨hv10, v10, ev10, hF⟩ := rd_some hF
      refine r_iald S hK hM 2 (by decide) rfl hv10 ev10 dX12_costBy2_57 ?_
      obtain ⟨r11, er11, hF⟩ := bd1_some hF
      refine k_p (va_runS (As := [.int v10]) (rest := []) S (c_X12_sideOf   er11) (va_cwS 1 S.2.2.2.2 (ul_S tw_5_150 tw_5_151 tw_1_12 cw_X12_sideOf) rfl rfl rfl hs_X12_sideOf ⟨Nat.le_of_ble_eq_true rfl, Nat.le_of_ble_eq_true rfl⟩) ⟨PreM.blind, hM.pre hK⟩ rfl rfl hl.1 rfl (lv_room (Nat.le_of_ble_eq_true rfl)) dX12_costBy2_58 ⟨Nat.zero_le _, Nat.zero_le _⟩) ?_
      refine lv_istore (lv' := [(6, .int r11), (0, .ref (g.2.2 0)), (1, .int x1), (4, .int x4), (5, .int x5)]) S.1 S.2.1 dX12_costBy2_61 hl (by decide) rfl (fun ls hl => ?_)
      refine lv_aload_n S.1 S.2.1 dX12_costBy2_63 rfl (lv_at hl 1 rfl) ?_
      refine lv_aload_n S.1 S.2.1 dX12_costBy2_64 rfl (lv_at hl 1 rfl) ?_
      refine r_getC S hK hM cfX12 0 1 2 (by decide) lm_0 rfl (by decide) tw_5_32 dX12_costBy2_65 ?_
      refine lv_iconst (v := 0) S.1 S.2.1 dX12_costBy2_68 (by decide) ?_
      refine lv_iload S.1 S.2.1 dX12_costBy2_69 (lv_at hl 4 rfl) ?_
      refine lv_iconst (v := 2) S.1 S.2.1 dX12_costBy2_71 (by decide) ?_
      refine r_irem S dX12_costBy2_72 (by decide) ?_
      refine lv_if_ne (tgt := 80) S.1 S.2.1 dX12_costBy2_73 (by decide) (fun b12 => ?_) (fun b12 => ?_)
      · have hF := (if_neg b12).symm.trans hF
        refine lv_bipush (v := 8) S.1 S.2.1 dX12_costBy2_80 (by decide) ?_
        exact w_X12_costBy2_82 S hK hr hlk hk39 hM (lv_sub hl [1, 2, 3, 4, 0] rfl) hF
      · have hF := (if_pos b12).symm.trans hF
        refine lv_iconst (v := 0) S.1 S.2.1 dX12_costBy2_76 (by decide) ?_
        refine lv_goto (tgt := 82) S.1 S.2.1 dX12_costBy2_77 (by decide) ?_
        exact w_X12_costBy2_82 S hK hr hlk hk39 hM (lv_sub hl [1, 2, 3, 4, 0] rfl) hF
theorem wl_X12_costBy2_39 {l : Launch} {g : GE} {A : Nat → Prop} {p : Program} {e : Env} {s : State} {m : MethodId} {args : Array Value} {below : List Frame} {meth : Method} {c : Code} (S : CallFix p m c cX12_costBy2 7 s args UL RX12) (hK : KK g s) (hr : meth.sig.returnType = (some .int)) (hlk : meth.locks = false) {out : Int32 × IM} : ∀ (n : Nat) {x1 : Int32} {x4 : Int32} {x5 : Int32} {σ : IM} {H : Heap} {locs : List Loc} {ls : Array Slot}, Mem lyM 13 g A [] σ nor s.heap H locs → lv_has ls 7 [(0, .ref (g.2.2 0)), (1, .int x1), (4, .int x4), (5, .int x5)] → X12_costBy2_b39 n x1 x4 x5 σ = some out → W p l e ({ frames := 4, cells := 0, slots := 0, locals := 99 }) s m args below meth c H locs 0 0 (MQ below (Qm lyM 13 g A [] out.2 nor (some (.int out.1))) args s 0 0 A) (F0 m 39 ls []) := by
  intro n
  induction n with
  | zero =>
    intro x1 x4 x5 σ H locs ls hM hl hF
    cases hF
  | succ n ih =>
    intro x1 x4 x5 σ H locs ls hM hl hF
    exact w_X12_costBy2_39 S hK hr hlk ih hM hl hF
def X12_costBy2 (σ : IM) (a1 : Int32) (a2 : Int32) (a3 : Int32) : Option (Int32 × IM) := bd1 (X12_copies σ 1 2) fun σ1 => bd1 (X12_ofSide 0 0) fun r4 => wr σ1 2 42 r4 a2 fun σ5 => bd1 (X12_ofSide 1 0) fun r6 => wr σ5 2 42 r6 a3 fun σ7 => X12_costBy2_b39 1000 a1 2 0 σ7
set_option maxRecDepth 20000 in
theorem c_X12_costBy2 {l : Launch} {g : GE} {A : Nat → Prop} {σ : IM} {a1 : Int32} {a2 : Int32} {a3 : Int32} {out : Int32 × IM} (hF : X12_costBy2 σ a1 a2 a3 = some out) : Met l yX12_costBy2 (.code yX12_costBy2 cX12_costBy2 7 (some .int) :: UL) ({ frames := 4, cells := 0, slots := 0, locals := 99 }) (va_Pc [.ref (g.2.2 0), .int a1, .int a2, .int a3] (PreM lyM 13 g A [] σ nor)) (Qm lyM 13 g A [] out.2 nor (some (.int out.1))) 0 0 A := by
  refine e_of (by decide) (Nat.le_of_ble_eq_true rfl) ?_
  intro p e s m below meth c ls S hr hlk hv hl
  have hM := Mem.of hv
  have hK := hv.2.1
  have hl : lv_has ls 7 [(0, .ref (g.2.2 0)), (1, .int a1), (2, .int a2), (3, .int a3)] := hl
  unfold X12_costBy2 at hF
  refine lv_aload_n S.1 S.2.1 dX12_costBy2_0 rfl (lv_at hl 0 rfl) ?_
  refine r_getC S hK hM cfX12 0 0 1 (by decide) lm_0 rfl (by decide) tw_5_31 dX12_costBy2_1 ?_
  refine lv_aload_n S.1 S.2.1 dX12_costBy2_4 rfl (lv_at hl 0 rfl) ?_
  refine r_getC S hK hM cfX12 0 1 2 (by decide) lm_0 rfl (by decide) tw_5_32 dX12_costBy2_5 ?_
  obtain ⟨σ1, er3, hF⟩ := bd1_some hF
  refine k_m (va_runS (As := [.ref (g.2.2 1), .ref (g.2.2 2)]) (rest := []) S (c_X12_copies  ar_1 ar_2 er3) (va_cwS 2 S.2.2.2.2 (ul_S tw_5_118 tw_5_119 tw_1_12 cw_X12_copies) rfl rfl rfl hs_X12_copies ⟨Nat.le_of_ble_eq_true rfl, Nat.le_of_ble_eq_true rfl⟩) ⟨PreM.blind, hM.pre hK⟩ rfl rfl hl.1 rfl (lv_room (Nat.le_of_ble_eq_true rfl)) dX12_costBy2_8 ⟨Nat.zero_le _, Nat.zero_le _⟩) hM (fun H locs hM => ?_)
  show W _ _ _ _ _ _ _ _ _ _ _ _ _ _ _ (F0 m 11 ls [])
  refine lv_aload_n S.1 S.2.1 dX12_costBy2_11 rfl (lv_at hl 0 rfl) ?_
  refine r_getC S hK hM cfX12 0 1 2 (by decide) lm_0 rfl (by decide) tw_5_32 dX12_costBy2_12 ?_
  refine lv_iconst (v := 0) S.1 S.2.1 dX12_costBy2_15 (by decide) ?_
  refine lv_iconst (v := 0) S.1 S.2.1 dX12_costBy2_16 (by decide) ?_
  obtain ⟨r4, er4, hF⟩ := bd1_some hF
  refine k_p (va_runS (As := [.int 0, .int 0]) (rest := [.ref (g.2.2 2)]) S (c_X12_ofSide   er4) (va_cwS 2 S.2.2.2.2 (ul_S tw_5_28 tw_5_29 tw_1_12 cw_X12_ofSide) rfl rfl rfl hs_X12_ofSide ⟨Nat.le_of_ble_eq_true rfl, Nat.le_of_ble_eq_true rfl⟩) ⟨PreM.blind, hM.pre hK⟩ rfl rfl hl.1 rfl (lv_room (Nat.le_of_ble_eq_true rfl)) dX12_costBy2_17 ⟨Nat.zero_le _, Nat.zero_le _⟩) ?_
  refine lv_iload_n S.1 S.2.1 dX12_costBy2_20 rfl (lv_at hl 2 rfl) ?_
  obtain ⟨hσ5, σ5, eσ5, hF⟩ := wr_some hF
  refine r_iast S hK hM 2 (by decide) rfl hσ5 eσ5 dX12_costBy2_21 (fun H locs hM => ?_)
  refine lv_aload_n S.1 S.2.1 dX12_costBy2_22 rfl (lv_at hl 0 rfl) ?_
  refine r_getC S hK hM cfX12 0 1 2 (by decide) lm_0 rfl (by decide) tw_5_32 dX12_costBy2_23 ?_
  refine lv_iconst (v := 1) S.1 S.2.1 dX12_costBy2_26 (by decide) ?_
  refine lv_iconst (v := 0) S.1 S.2.1 dX12_costBy2_27 (by decide) ?_
  obtain ⟨r6, er6, hF⟩ := bd1_some hF
  refine k_p (va_runS (As := [.int 1, .int 0]) (rest := [.ref (g.2.2 2)]) S (c_X12_ofSide   er6) (va_cwS 2 S.2.2.2.2 (ul_S tw_5_28 tw_5_29 tw_1_12 cw_X12_ofSide) rfl rfl rfl hs_X12_ofSide ⟨Nat.le_of_ble_eq_true rfl, Nat.le_of_ble_eq_true rfl⟩) ⟨PreM.blind, hM.pre hK⟩ rfl rfl hl.1 rfl (lv_room (Nat.le_of_ble_eq_true rfl)) dX12_costBy2_28 ⟨Nat.zero_le _, Nat.zero_le _⟩) ?_
  refine lv_iload_n S.1 S.2.1 dX12_costBy2_31 rfl (lv_at hl 3 rfl) ?_
  obtain ⟨hσ7, σ7, eσ7, hF⟩ := wr_some hF
  refine r_iast S hK hM 2 (by decide) rfl hσ7 eσ7 dX12_costBy2_32 (fun H locs hM => ?_)
  refine lv_iconst (v := 2) S.1 S.2.1 dX12_costBy2_33 (by decide) ?_
  refine lv_istore (lv' := [(4, .int 2), (0, .ref (g.2.2 0)), (1, .int a1), (2, .int a2), (3, .int a3)]) S.1 S.2.1 dX12_costBy2_34 hl (by decide) rfl (fun ls hl => ?_)
  refine lv_iconst (v := 0) S.1 S.2.1 dX12_costBy2_36 (by decide) ?_
  refine lv_istore (lv' := [(5, .int 0), (4, .int 2), (0, .ref (g.2.2 0)), (1, .int a1), (2, .int a2), (3, .int a3)]) S.1 S.2.1 dX12_costBy2_37 hl (by decide) rfl (fun ls hl => ?_)
  exact wl_X12_costBy2_39 S hK hr hlk 1000 hM (lv_sub hl [2, 3, 1, 0] rfl) hF
/-! X12_two -/
def X12_two_b72 (k14 : Int32 → IM → Option (Int32 × IM)) (x1 : Int32) (σ : IM) : Option (Int32 × IM) := bd (x1 + 1) fun v20 => k14 v20 σ
set_option maxRecDepth 20000 in
theorem w_X12_two_72 {l : Launch} {g : GE} {A : Nat → Prop} {p : Program} {e : Env} {s : State} {m : MethodId} {args : Array Value} {below : List Frame} {meth : Method} {c : Code} (S : CallFix p m c cX12_two 4 s args UL RX12) (hK : KK g s) (hr : meth.sig.returnType = (some .int)) (hlk : meth.locks = false) {out : Int32 × IM} {k14 : Int32 → IM → Option (Int32 × IM)} (hk14 : ∀ {x1 : Int32} {σ : IM} {H : Heap} {locs : List Loc} {ls : Array Slot}, Mem lyM 13 g A [] σ nor s.heap H locs → lv_has ls 4 [(0, .ref (g.2.2 0)), (1, .int x1)] → k14 x1 σ = some out → W p l e ({ frames := 5, cells := 0, slots := 0, locals := 125 }) s m args below meth c H locs 0 0 (MQ below (Qm lyM 13 g A [] out.2 nor (some (.int out.1))) args s 0 0 A) (F0 m 14 ls [])) : ∀ {x1 : Int32} {σ : IM} {H : Heap} {locs : List Loc} {ls : Array Slot}, Mem lyM 13 g A [] σ nor s.heap H locs → lv_has ls 4 [(0, .ref (g.2.2 0)), (1, .int x1)] → X12_two_b72 k14 x1 σ = some out → W p l e ({ frames := 5, cells := 0, slots := 0, locals := 125 }) s m args below meth c H locs 0 0 (MQ below (Qm lyM 13 g A [] out.2 nor (some (.int out.1))) args s 0 0 A) (F0 m 72 ls []) := by
  intro x1 σ H locs ls hM hl hF
  unfold X12_two_b72 at hF
  obtain ⟨v20, ev20, hF⟩ := bd_some hF
  refine lv_iinc (v := v20) (lv' := [(1, .int v20), (0, .ref (g.2.2 0))]) S.1 S.2.1 dX12_two_72 hl (k := 1) rfl (by rw [ev20]; rfl) (by decide) rfl (fun ls hl => ?_)
  refine lv_goto (tgt := 14) S.1 S.2.1 dX12_two_75 (by decide) ?_
  exact hk14 hM (lv_sub hl [1, 0] rfl)  hF
def X12_two_s14 (k14 : Int32 → IM → Option (Int32 × IM)) (x1 : Int32) (σ : IM) : Option (Int32 × IM) := if 4 ≤ x1 then (some ((-4), σ)) else (bd (x1 / 2) fun v4 => bd (rem32 x1 2) fun v5 => bd2 (X12_costBy2 σ 0 (1 - v4) v5) fun r8 σ6 => bd2 (X12_costBy2 σ6 0 v4 v5) fun r11 σ9 => if r8 < r11 then (X12_two_b72 k14 x1 σ9) else (bd2 (X12_costBy2 σ9 1 v4 (1 - v5)) fun r15 σ13 => bd2 (X12_costBy2 σ13 1 v4 v5) fun r18 σ16 => if r15 < r18 then (X12_two_b72 k14 x1 σ16) else (some ((10 * v4) + v5, σ16))))
def X12_two_b14 : Nat → Int32 → IM → Option (Int32 × IM)
  | 0 => fun _ _ => none
  | n + 1 => X12_two_s14 (X12_two_b14 n)
set_option maxRecDepth 20000 in
theorem w_X12_two_14 {l : Launch} {g : GE} {A : Nat → Prop} {p : Program} {e : Env} {s : State} {m : MethodId} {args : Array Value} {below : List Frame} {meth : Method} {c : Code} (S : CallFix p m c cX12_two 4 s args UL RX12) (hK : KK g s) (hr : meth.sig.returnType = (some .int)) (hlk : meth.locks = false) {out : Int32 × IM} {k14 : Int32 → IM → Option (Int32 × IM)} (hk14 : ∀ {x1 : Int32} {σ : IM} {H : Heap} {locs : List Loc} {ls : Array Slot}, Mem lyM 13 g A [] σ nor s.heap H locs → lv_has ls 4 [(0, .ref (g.2.2 0)), (1, .int x1)] → k14 x1 σ = some out → W p l e ({ frames := 5, cells := 0, slots := 0, locals := 125 }) s m args below meth c H locs 0 0 (MQ below (Qm lyM 13 g A [] out.2 nor (some (.int out.1))) args s 0 0 A) (F0 m 14 ls [])) : ∀ {x1 : Int32} {σ : IM} {H : Heap} {locs : List Loc} {ls : Array Slot}, Mem lyM 13 g A [] σ nor s.heap H locs → lv_has ls 4 [(0, .ref (g.2.2 0)), (1, .int x1)] → X12_two_s14 k14 x1 σ = some out → W p l e ({ frames := 5, cells := 0, slots := 0, locals := 125 }) s m args below meth c H locs 0 0 (MQ below (Qm lyM 13 g A [] out.2 nor (some (.int out.1))) args s 0 0 A) (F0 m 14 ls []) := by
  intro x1 σ H locs ls hM hl hF
  unfold X12_two_s14 at hF
  refine lv_iload_n S.1 S.2.1 dX12_two_14 rfl (lv_at hl 1 rfl) ?_
  refine lv_iconst (v := 4) S.1 S.2.1 dX12_two_15 (by decide) ?_
  refine lv_icmp_ge (tgt := 78) S.1 S.2.1 dX12_two_16 (by decide) (fun b3 => ?_) (fun b3 => ?_)
  · have hF := (if_pos b3).symm.trans hF
    refine lv_bipush (v := (-4)) S.1 S.2.1 dX12_two_78 (by decide) ?_
    cases hF
    exact z_m (v := (-4)) S hM hr hlk rfl dX12_two_80
  · have hF := (if_neg b3).symm.trans hF
    refine lv_iload_n S.1 S.2.1 dX12_two_19 rfl (lv_at hl 1 rfl) ?_
    refine lv_iconst (v := 2) S.1 S.2.1 dX12_two_20 (by decide) ?_
    refine lv_idiv S.1 S.2.1 dX12_two_21 (by decide) ?_
    refine lv_topi (fun v4 ev4 => ?_)
    have hF := bd_at ev4 hF
    refine lv_istore_n (lv' := [(2, .int v4), (0, .ref (g.2.2 0)), (1, .int x1)]) S.1 S.2.1 dX12_two_22 rfl hl (by decide) rfl (fun ls hl => ?_)
    refine lv_iload_n S.1 S.2.1 dX12_two_23 rfl (lv_at hl 2 rfl) ?_
    refine lv_iconst (v := 2) S.1 S.2.1 dX12_two_24 (by decide) ?_
    refine r_irem S dX12_two_25 (by decide) ?_
    refine lv_topi (fun v5 ev5 => ?_)
    have hF := bd_at ev5 hF
    refine lv_istore_n (lv' := [(3, .int v5), (2, .int v4), (0, .ref (g.2.2 0)), (1, .int x1)]) S.1 S.2.1 dX12_two_26 rfl hl (by decide) rfl (fun ls hl => ?_)
    refine lv_aload_n S.1 S.2.1 dX12_two_27 rfl (lv_at hl 2 rfl) ?_
    refine lv_iconst (v := 0) S.1 S.2.1 dX12_two_28 (by decide) ?_
    refine lv_iconst (v := 1) S.1 S.2.1 dX12_two_29 (by decide) ?_
    refine lv_iload_n S.1 S.2.1 dX12_two_30 rfl (lv_at hl 1 rfl) ?_
    refine lv_isub S.1 S.2.1 dX12_two_31 ?_
    refine lv_iload_n S.1 S.2.1 dX12_two_32 rfl (lv_at hl 0 rfl) ?_
    obtain ⟨r8, σ6, er8, hF⟩ := bd2_some hF
    refine k_m (va_runV (As := [.int 0, .int (1 - v4), .int v5]) (rest := []) S (c_X12_costBy2   er8) (cwV 3 S.2.2.2.2 (ul_V tw_6_128 tw_6_130 ts_X12_costBy2 tw_1_12 cw_X12_costBy2) rfl rfl rfl hv_X12_costBy2 ⟨Nat.le_of_ble_eq_true rfl, Nat.le_of_ble_eq_true rfl⟩) ⟨PreM.blind, hM.recv hK cfX12 0 (by decide) lm_0, hM.pre hK⟩ rfl rfl hl.1 rfl (lv_room (Nat.le_of_ble_eq_true rfl)) dX12_two_33 ⟨Nat.zero_le _, Nat.zero_le _⟩) hM (fun H locs hM => ?_)
    show W _ _ _ _ _ _ _ _ _ _ _ _ _ _ _ (F0 m 36 ls [.int r8])
    refine lv_aload_n S.1 S.2.1 dX12_two_36 rfl (lv_at hl 2 rfl) ?_
    refine lv_iconst (v := 0) S.1 S.2.1 dX12_two_37 (by decide) ?_
    refine lv_iload_n S.1 S.2.1 dX12_two_38 rfl (lv_at hl 1 rfl) ?_
    refine lv_iload_n S.1 S.2.1 dX12_two_39 rfl (lv_at hl 0 rfl) ?_
    obtain ⟨r11, σ9, er11, hF⟩ := bd2_some hF
    refine k_m (va_runV (As := [.int 0, .int v4, .int v5]) (rest := [.int r8]) S (c_X12_costBy2   er11) (cwV 3 S.2.2.2.2 (ul_V tw_6_128 tw_6_130 ts_X12_costBy2 tw_1_12 cw_X12_costBy2) rfl rfl rfl hv_X12_costBy2 ⟨Nat.le_of_ble_eq_true rfl, Nat.le_of_ble_eq_true rfl⟩) ⟨PreM.blind, hM.recv hK cfX12 0 (by decide) lm_0, hM.pre hK⟩ rfl rfl hl.1 rfl (lv_room (Nat.le_of_ble_eq_true rfl)) dX12_two_40 ⟨Nat.zero_le _, Nat.zero_le _⟩) hM (fun H locs hM => ?_)
    show W _ _ _ _ _ _ _ _ _ _ _ _ _ _ _ (F0 m 43 ls [.int r11, .int r8])
    refine lv_icmp_lt (tgt := 72) S.1 S.2.1 dX12_two_43 (by decide) (fun b12 => ?_) (fun b12 => ?_)
    · have hF := (if_pos b12).symm.trans hF
      exact w_X12_two_72 S hK hr hlk hk14 hM (lv_sub hl [2, 3] rfl) hF
    · have hF := (if_neg b12).symm.trans hF
      refine lv_aload_n S.1 S.2.1 dX12_two_46 rfl (lv_at hl 2 rfl) ?_
      refine lv_iconst (v := 1) S.1 S.2.1 dX12_two_47 (by decide) ?_
      refine lv_iload_n S.1 S.2.1 dX12_two_48 rfl (lv_at hl 1 rfl) ?_
      refine lv_iconst (v := 1) S.1 S.2.1 dX12_two_49 (by decide) ?_
      refine lv_iload_n S.1 S.2.1 dX12_two_50 rfl (lv_at hl 0 rfl) ?_
      refine lv_isub S.1 S.2.1 dX12_two_51 ?_
      obtain ⟨r15, σ13, er15, hF⟩ := bd2_some hF
      refine k_m (va_runV (As := [.int 1, .int v4, .int (1 - v5)]) (rest := []) S (c_X12_costBy2   er15) (cwV 3 S.2.2.2.2 (ul_V tw_6_128 tw_6_130 ts_X12_costBy2 tw_1_12 cw_X12_costBy2) rfl rfl rfl hv_X12_costBy2 ⟨Nat.le_of_ble_eq_true rfl, Nat.le_of_ble_eq_true rfl⟩) ⟨PreM.blind, hM.recv hK cfX12 0 (by decide) lm_0, hM.pre hK⟩ rfl rfl hl.1 rfl (lv_room (Nat.le_of_ble_eq_true rfl)) dX12_two_52 ⟨Nat.zero_le _, Nat.zero_le _⟩) hM (fun H locs hM => ?_)
      show W _ _ _ _ _ _ _ _ _ _ _ _ _ _ _ (F0 m 55 ls [.int r15])
      refine lv_aload_n S.1 S.2.1 dX12_two_55 rfl (lv_at hl 2 rfl) ?_
      refine lv_iconst (v := 1) S.1 S.2.1 dX12_two_56 (by decide) ?_
      refine lv_iload_n S.1 S.2.1 dX12_two_57 rfl (lv_at hl 1 rfl) ?_
      refine lv_iload_n S.1 S.2.1 dX12_two_58 rfl (lv_at hl 0 rfl) ?_
      obtain ⟨r18, σ16, er18, hF⟩ := bd2_some hF
      refine k_m (va_runV (As := [.int 1, .int v4, .int v5]) (rest := [.int r15]) S (c_X12_costBy2   er18) (cwV 3 S.2.2.2.2 (ul_V tw_6_128 tw_6_130 ts_X12_costBy2 tw_1_12 cw_X12_costBy2) rfl rfl rfl hv_X12_costBy2 ⟨Nat.le_of_ble_eq_true rfl, Nat.le_of_ble_eq_true rfl⟩) ⟨PreM.blind, hM.recv hK cfX12 0 (by decide) lm_0, hM.pre hK⟩ rfl rfl hl.1 rfl (lv_room (Nat.le_of_ble_eq_true rfl)) dX12_two_59 ⟨Nat.zero_le _, Nat.zero_le _⟩) hM (fun H locs hM => ?_)
      show W _ _ _ _ _ _ _ _ _ _ _ _ _ _ _ (F0 m 62 ls [.int r18, .int r15])
      refine lv_icmp_lt (tgt := 72) S.1 S.2.1 dX12_two_62 (by decide) (fun b19 => ?_) (fun b19 => ?_)
      · have hF := (if_pos b19).symm.trans hF
        exact w_X12_two_72 S hK hr hlk hk14 hM (lv_sub hl [2, 3] rfl) hF
      · have hF := (if_neg b19).symm.trans hF
        refine lv_bipush (v := 10) S.1 S.2.1 dX12_two_65 (by decide) ?_
        refine lv_iload_n S.1 S.2.1 dX12_two_67 rfl (lv_at hl 1 rfl) ?_
        refine lv_imul S.1 S.2.1 dX12_two_68 ?_
        refine lv_iload_n S.1 S.2.1 dX12_two_69 rfl (lv_at hl 0 rfl) ?_
        refine lv_iadd S.1 S.2.1 dX12_two_70 ?_
        cases hF
        exact z_m (v := (10 * v4) + v5) S hM hr hlk rfl dX12_two_71
theorem wl_X12_two_14 {l : Launch} {g : GE} {A : Nat → Prop} {p : Program} {e : Env} {s : State} {m : MethodId} {args : Array Value} {below : List Frame} {meth : Method} {c : Code} (S : CallFix p m c cX12_two 4 s args UL RX12) (hK : KK g s) (hr : meth.sig.returnType = (some .int)) (hlk : meth.locks = false) {out : Int32 × IM} : ∀ (n : Nat) {x1 : Int32} {σ : IM} {H : Heap} {locs : List Loc} {ls : Array Slot}, Mem lyM 13 g A [] σ nor s.heap H locs → lv_has ls 4 [(0, .ref (g.2.2 0)), (1, .int x1)] → X12_two_b14 n x1 σ = some out → W p l e ({ frames := 5, cells := 0, slots := 0, locals := 125 }) s m args below meth c H locs 0 0 (MQ below (Qm lyM 13 g A [] out.2 nor (some (.int out.1))) args s 0 0 A) (F0 m 14 ls []) := by
  intro n
  induction n with
  | zero =>
    intro x1 σ H locs ls hM hl hF
    cases hF
  | succ n ih =>
    intro x1 σ H locs ls hM hl hF
    exact w_X12_two_14 S hK hr hlk ih hM hl hF
def X12_two (σ : IM) : Option (Int32 × IM) := rd (σ 1) 42 0 fun v1 => if v1 = 0 then (some ((-3), σ)) else (X12_two_b14 1000 0 σ)
set_option maxRecDepth 20000 in
theorem c_X12_two {l : Launch} {g : GE} {A : Nat → Prop} {σ : IM} {out : Int32 × IM} (hF : X12_two σ = some out) : Met l yX12_two (.code yX12_two cX12_two 4 (some .int) :: UL) ({ frames := 5, cells := 0, slots := 0, locals := 125 }) (va_Pc [.ref (g.2.2 0)] (PreM lyM 13 g A [] σ nor)) (Qm lyM 13 g A [] out.2 nor (some (.int out.1))) 0 0 A := by
  refine e_of (by decide) (Nat.le_of_ble_eq_true rfl) ?_
  intro p e s m below meth c ls S hr hlk hv hl
  have hM := Mem.of hv
  have hK := hv.2.1
  have hl : lv_has ls 4 [(0, .ref (g.2.2 0))] := hl
  unfold X12_two at hF
  refine lv_aload_n S.1 S.2.1 dX12_two_0 rfl (lv_at hl 0 rfl) ?_
  refine r_getC S hK hM cfX12 0 0 1 (by decide) lm_0 rfl (by decide) tw_5_31 dX12_two_1 ?_
  refine lv_iconst (v := 0) S.1 S.2.1 dX12_two_4 (by decide) ?_
  obtain ⟨hv1, v1, ev1, hF⟩ := rd_some hF
  refine r_iald S hK hM 1 (by decide) rfl hv1 ev1 dX12_two_5 ?_
  refine lv_if_ne (tgt := 12) S.1 S.2.1 dX12_two_6 (by decide) (fun b2 => ?_) (fun b2 => ?_)
  · have hF := (if_neg b2).symm.trans hF
    refine lv_iconst (v := 0) S.1 S.2.1 dX12_two_12 (by decide) ?_
    refine lv_istore_n (lv' := [(1, .int 0), (0, .ref (g.2.2 0))]) S.1 S.2.1 dX12_two_13 rfl hl (by decide) rfl (fun ls hl => ?_)
    exact wl_X12_two_14 S hK hr hlk 1000 hM (lv_sub hl [1, 0] rfl) hF
  · have hF := (if_pos b2).symm.trans hF
    refine lv_bipush (v := (-3)) S.1 S.2.1 dX12_two_9 (by decide) ?_
    cases hF
    exact z_m (v := (-3)) S hM hr hlk rfl dX12_two_11
