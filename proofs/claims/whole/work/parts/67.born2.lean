/-! the reference born -/
def mz1 : IM := up2 (fun _ _ => 0) 1 20 1
def mz2 : IM := up2 mz1 1 21 1
def mz3 : IM := up2 mz2 1 24 7
def mz4 : IM := up2 mz3 1 25 1
def mz5 : IM := up2 mz4 1 28 1
def mz6 : IM := up2 mz5 1 29 1
def mz7 : IM := up2 mz6 1 32 7
def mz8 : IM := up2 mz7 1 33 1
def mz9 : IM := up2 mz8 1 37 1
def mz10 : IM := up2 mz9 1 40 1
def RX12_init (g : GE) (q0 : Nat) (o : Option Value) (w : va_W) : Prop := o = none ∧ ∃ ad : Nat → Nat, ad 0 = q0 ∧ w = wl lyM 13 (g.1, g.2.1, ad) mz10 nor []
set_option maxRecDepth 20000 in
theorem c_X12_init {l : Launch} {g : GE} {A : Nat → Prop} {q0 : Nat} : Met l yX12_init (.code yX12_init cX12_init 2 none :: UL) ({ frames := 1, cells := 12, slots := 1015, locals := 21 }) (va_Pc [.ref q0] (PreO g A [(q0, .inr (11, [.null, .null, .null, .null, .null, .int 0, .int 0, .int 0, .int 0, .null, .int 0, .int 0, .int 0, .null, .null, .null, .null, .null, .null, .int 0]))])) (QE g A (RX12_init g q0)) 12 1015 A := by
  refine e_of2 (by decide) (Nat.le_of_ble_eq_true rfl) ?_
  intro p e s m below meth c ls S hr hlk hnm hv hl
  obtain ⟨X, eX⟩ : ∃ X : va_W, X = [] := ⟨_, rfl⟩
  have hO := hv.2
  have hM : MemW g A (X ++ [(q0, .inr (11, [.null, .null, .null, .null, .null, .int 0, .int 0, .int 0, .int 0, .null, .int 0, .int 0, .int 0, .null, .null, .null, .null, .null, .null, .int 0]))]) s.heap s.heap [] := by rw [eX]; exact MemW.of hv.1
  have hK := hv.1.2.1
  have hl : lv_has ls 2 [(0, .ref q0)] := hl
  refine lv_aload_n S.1 S.2.1 dX12_init_0 rfl (lv_at hl 0 rfl) ?_
  refine W.objInit S.1 S.2.1 S.2.2.2.1 (S.2.2.2.2 _ tw_5_24) (S.2.2.2.2 _ tw_1_29) (S.2.2.2.2 _ tw_1_30) rfl (by rw [S.2.2.1]; exact hl.1) rfl dX12_init_1 (Nat.le_of_ble_eq_true rfl) (Nat.le_of_ble_eq_true rfl) ?_
  refine lv_aload_n S.1 S.2.1 dX12_init_4 rfl (lv_at hl 0 rfl) ?_
  refine lv_bipush (v := 42) S.1 S.2.1 dX12_init_5 (by decide) ?_
  refine n_newa (N := 42) S hK hM (by decide) rfl (by decide) (Nat.le_of_ble_eq_true rfl) (Nat.le_of_ble_eq_true rfl) dX12_init_7 (fun q1 H hM => ?_)
  have hM : MemW g A (X ++ [(q0, .inr (11, [.null, .null, .null, .null, .null, .int 0, .int 0, .int 0, .int 0, .null, .int 0, .int 0, .int 0, .null, .null, .null, .null, .null, .null, .int 0])), (q1, .inl (g.2.1 0, 42, .inl (fun _ => 0)))]) _ _ _ := hM
  refine n_putF (ty := tyX12 0) S hK hM cfX12 tyX12_ok nmX12 hnm 0 0 rfl (by decide) tw_5_31 rfl rfl (by decide +kernel) rfl rfl (Nat.le_of_ble_eq_true rfl) dX12_init_9 (fun H locs hM => ?_)
  have hM : MemW g A (X ++ [(q0, .inr (11, [.ref q1, .null, .null, .null, .null, .int 0, .int 0, .int 0, .int 0, .null, .int 0, .int 0, .int 0, .null, .null, .null, .null, .null, .null, .int 0])), (q1, .inl (g.2.1 0, 42, .inl (fun _ => 0)))]) _ _ _ := hM
  refine lv_aload_n S.1 S.2.1 dX12_init_12 rfl (lv_at hl 0 rfl) ?_
  refine lv_bipush (v := 42) S.1 S.2.1 dX12_init_13 (by decide) ?_
  refine n_newa (N := 42) S hK hM (by decide) rfl (by decide) (Nat.le_of_ble_eq_true rfl) (Nat.le_of_ble_eq_true rfl) dX12_init_15 (fun q2 H hM => ?_)
  have hM : MemW g A (X ++ [(q0, .inr (11, [.ref q1, .null, .null, .null, .null, .int 0, .int 0, .int 0, .int 0, .null, .int 0, .int 0, .int 0, .null, .null, .null, .null, .null, .null, .int 0])), (q1, .inl (g.2.1 0, 42, .inl (fun _ => 0))), (q2, .inl (g.2.1 0, 42, .inl (fun _ => 0)))]) _ _ _ := hM
  refine n_putF (ty := tyX12 1) S hK hM cfX12 tyX12_ok nmX12 hnm 0 1 rfl (by decide) tw_5_32 rfl rfl (by decide +kernel) rfl rfl (Nat.le_of_ble_eq_true rfl) dX12_init_17 (fun H locs hM => ?_)
  have hM : MemW g A (X ++ [(q0, .inr (11, [.ref q1, .ref q2, .null, .null, .null, .int 0, .int 0, .int 0, .int 0, .null, .int 0, .int 0, .int 0, .null, .null, .null, .null, .null, .null, .int 0])), (q1, .inl (g.2.1 0, 42, .inl (fun _ => 0))), (q2, .inl (g.2.1 0, 42, .inl (fun _ => 0)))]) _ _ _ := hM
  refine lv_aload_n S.1 S.2.1 dX12_init_20 rfl (lv_at hl 0 rfl) ?_
  refine lv_bipush (v := 42) S.1 S.2.1 dX12_init_21 (by decide) ?_
  refine n_newa (N := 42) S hK hM (by decide) rfl (by decide) (Nat.le_of_ble_eq_true rfl) (Nat.le_of_ble_eq_true rfl) dX12_init_23 (fun q3 H hM => ?_)
  have hM : MemW g A (X ++ [(q0, .inr (11, [.ref q1, .ref q2, .null, .null, .null, .int 0, .int 0, .int 0, .int 0, .null, .int 0, .int 0, .int 0, .null, .null, .null, .null, .null, .null, .int 0])), (q1, .inl (g.2.1 0, 42, .inl (fun _ => 0))), (q2, .inl (g.2.1 0, 42, .inl (fun _ => 0))), (q3, .inl (g.2.1 0, 42, .inl (fun _ => 0)))]) _ _ _ := hM
  refine n_putF (ty := tyX12 2) S hK hM cfX12 tyX12_ok nmX12 hnm 0 2 rfl (by decide) tw_5_33 rfl rfl (by decide +kernel) rfl rfl (Nat.le_of_ble_eq_true rfl) dX12_init_25 (fun H locs hM => ?_)
  have hM : MemW g A (X ++ [(q0, .inr (11, [.ref q1, .ref q2, .ref q3, .null, .null, .int 0, .int 0, .int 0, .int 0, .null, .int 0, .int 0, .int 0, .null, .null, .null, .null, .null, .null, .int 0])), (q1, .inl (g.2.1 0, 42, .inl (fun _ => 0))), (q2, .inl (g.2.1 0, 42, .inl (fun _ => 0))), (q3, .inl (g.2.1 0, 42, .inl (fun _ => 0)))]) _ _ _ := hM
  refine lv_aload_n S.1 S.2.1 dX12_init_28 rfl (lv_at hl 0 rfl) ?_
  refine lv_bipush (v := 42) S.1 S.2.1 dX12_init_29 (by decide) ?_
  refine n_newa (N := 42) S hK hM (by decide) rfl (by decide) (Nat.le_of_ble_eq_true rfl) (Nat.le_of_ble_eq_true rfl) dX12_init_31 (fun q4 H hM => ?_)
  have hM : MemW g A (X ++ [(q0, .inr (11, [.ref q1, .ref q2, .ref q3, .null, .null, .int 0, .int 0, .int 0, .int 0, .null, .int 0, .int 0, .int 0, .null, .null, .null, .null, .null, .null, .int 0])), (q1, .inl (g.2.1 0, 42, .inl (fun _ => 0))), (q2, .inl (g.2.1 0, 42, .inl (fun _ => 0))), (q3, .inl (g.2.1 0, 42, .inl (fun _ => 0))), (q4, .inl (g.2.1 0, 42, .inl (fun _ => 0)))]) _ _ _ := hM
  refine n_putF (ty := tyX12 3) S hK hM cfX12 tyX12_ok nmX12 hnm 0 3 rfl (by decide) tw_5_34 rfl rfl (by decide +kernel) rfl rfl (Nat.le_of_ble_eq_true rfl) dX12_init_33 (fun H locs hM => ?_)
  have hM : MemW g A (X ++ [(q0, .inr (11, [.ref q1, .ref q2, .ref q3, .ref q4, .null, .int 0, .int 0, .int 0, .int 0, .null, .int 0, .int 0, .int 0, .null, .null, .null, .null, .null, .null, .int 0])), (q1, .inl (g.2.1 0, 42, .inl (fun _ => 0))), (q2, .inl (g.2.1 0, 42, .inl (fun _ => 0))), (q3, .inl (g.2.1 0, 42, .inl (fun _ => 0))), (q4, .inl (g.2.1 0, 42, .inl (fun _ => 0)))]) _ _ _ := hM
  refine lv_aload_n S.1 S.2.1 dX12_init_36 rfl (lv_at hl 0 rfl) ?_
  refine lv_iconst (v := 4) S.1 S.2.1 dX12_init_37 (by decide) ?_
  refine n_newa (N := 4) S hK hM (by decide) rfl (by decide) (Nat.le_of_ble_eq_true rfl) (Nat.le_of_ble_eq_true rfl) dX12_init_38 (fun q5 H hM => ?_)
  have hM : MemW g A (X ++ [(q0, .inr (11, [.ref q1, .ref q2, .ref q3, .ref q4, .null, .int 0, .int 0, .int 0, .int 0, .null, .int 0, .int 0, .int 0, .null, .null, .null, .null, .null, .null, .int 0])), (q1, .inl (g.2.1 0, 42, .inl (fun _ => 0))), (q2, .inl (g.2.1 0, 42, .inl (fun _ => 0))), (q3, .inl (g.2.1 0, 42, .inl (fun _ => 0))), (q4, .inl (g.2.1 0, 42, .inl (fun _ => 0))), (q5, .inl (g.2.1 0, 4, .inl (fun _ => 0)))]) _ _ _ := hM
  refine n_putF (ty := tyX12 4) S hK hM cfX12 tyX12_ok nmX12 hnm 0 4 rfl (by decide) tw_5_35 rfl rfl (by decide +kernel) rfl rfl (Nat.le_of_ble_eq_true rfl) dX12_init_40 (fun H locs hM => ?_)
  have hM : MemW g A (X ++ [(q0, .inr (11, [.ref q1, .ref q2, .ref q3, .ref q4, .ref q5, .int 0, .int 0, .int 0, .int 0, .null, .int 0, .int 0, .int 0, .null, .null, .null, .null, .null, .null, .int 0])), (q1, .inl (g.2.1 0, 42, .inl (fun _ => 0))), (q2, .inl (g.2.1 0, 42, .inl (fun _ => 0))), (q3, .inl (g.2.1 0, 42, .inl (fun _ => 0))), (q4, .inl (g.2.1 0, 42, .inl (fun _ => 0))), (q5, .inl (g.2.1 0, 4, .inl (fun _ => 0)))]) _ _ _ := hM
  refine lv_aload_n S.1 S.2.1 dX12_init_43 rfl (lv_at hl 0 rfl) ?_
  refine lv_iconst (v := 3) S.1 S.2.1 dX12_init_44 (by decide) ?_
  refine n_newa (N := 3) S hK hM (by decide) rfl (by decide) (Nat.le_of_ble_eq_true rfl) (Nat.le_of_ble_eq_true rfl) dX12_init_45 (fun q6 H hM => ?_)
  have hM : MemW g A (X ++ [(q0, .inr (11, [.ref q1, .ref q2, .ref q3, .ref q4, .ref q5, .int 0, .int 0, .int 0, .int 0, .null, .int 0, .int 0, .int 0, .null, .null, .null, .null, .null, .null, .int 0])), (q1, .inl (g.2.1 0, 42, .inl (fun _ => 0))), (q2, .inl (g.2.1 0, 42, .inl (fun _ => 0))), (q3, .inl (g.2.1 0, 42, .inl (fun _ => 0))), (q4, .inl (g.2.1 0, 42, .inl (fun _ => 0))), (q5, .inl (g.2.1 0, 4, .inl (fun _ => 0))), (q6, .inl (g.2.1 0, 3, .inl (fun _ => 0)))]) _ _ _ := hM
  refine n_putF (ty := tyX12 9) S hK hM cfX12 tyX12_ok nmX12 hnm 0 9 rfl (by decide) tw_5_40 rfl rfl (by decide +kernel) rfl rfl (Nat.le_of_ble_eq_true rfl) dX12_init_47 (fun H locs hM => ?_)
  have hM : MemW g A (X ++ [(q0, .inr (11, [.ref q1, .ref q2, .ref q3, .ref q4, .ref q5, .int 0, .int 0, .int 0, .int 0, .ref q6, .int 0, .int 0, .int 0, .null, .null, .null, .null, .null, .null, .int 0])), (q1, .inl (g.2.1 0, 42, .inl (fun _ => 0))), (q2, .inl (g.2.1 0, 42, .inl (fun _ => 0))), (q3, .inl (g.2.1 0, 42, .inl (fun _ => 0))), (q4, .inl (g.2.1 0, 42, .inl (fun _ => 0))), (q5, .inl (g.2.1 0, 4, .inl (fun _ => 0))), (q6, .inl (g.2.1 0, 3, .inl (fun _ => 0)))]) _ _ _ := hM
  refine lv_aload_n S.1 S.2.1 dX12_init_50 rfl (lv_at hl 0 rfl) ?_
  refine lv_bipush (v := 8) S.1 S.2.1 dX12_init_51 (by decide) ?_
  refine n_newa (N := 8) S hK hM (by decide) rfl (by decide) (Nat.le_of_ble_eq_true rfl) (Nat.le_of_ble_eq_true rfl) dX12_init_53 (fun q7 H hM => ?_)
  have hM : MemW g A (X ++ [(q0, .inr (11, [.ref q1, .ref q2, .ref q3, .ref q4, .ref q5, .int 0, .int 0, .int 0, .int 0, .ref q6, .int 0, .int 0, .int 0, .null, .null, .null, .null, .null, .null, .int 0])), (q1, .inl (g.2.1 0, 42, .inl (fun _ => 0))), (q2, .inl (g.2.1 0, 42, .inl (fun _ => 0))), (q3, .inl (g.2.1 0, 42, .inl (fun _ => 0))), (q4, .inl (g.2.1 0, 42, .inl (fun _ => 0))), (q5, .inl (g.2.1 0, 4, .inl (fun _ => 0))), (q6, .inl (g.2.1 0, 3, .inl (fun _ => 0))), (q7, .inl (g.2.1 0, 8, .inl (fun _ => 0)))]) _ _ _ := hM
  refine n_putF (ty := tyX12 13) S hK hM cfX12 tyX12_ok nmX12 hnm 0 13 rfl (by decide) tw_5_44 rfl rfl (by decide +kernel) rfl rfl (Nat.le_of_ble_eq_true rfl) dX12_init_55 (fun H locs hM => ?_)
  have hM : MemW g A (X ++ [(q0, .inr (11, [.ref q1, .ref q2, .ref q3, .ref q4, .ref q5, .int 0, .int 0, .int 0, .int 0, .ref q6, .int 0, .int 0, .int 0, .ref q7, .null, .null, .null, .null, .null, .int 0])), (q1, .inl (g.2.1 0, 42, .inl (fun _ => 0))), (q2, .inl (g.2.1 0, 42, .inl (fun _ => 0))), (q3, .inl (g.2.1 0, 42, .inl (fun _ => 0))), (q4, .inl (g.2.1 0, 42, .inl (fun _ => 0))), (q5, .inl (g.2.1 0, 4, .inl (fun _ => 0))), (q6, .inl (g.2.1 0, 3, .inl (fun _ => 0))), (q7, .inl (g.2.1 0, 8, .inl (fun _ => 0)))]) _ _ _ := hM
  refine lv_aload_n S.1 S.2.1 dX12_init_58 rfl (lv_at hl 0 rfl) ?_
  refine lv_bipush (v := 8) S.1 S.2.1 dX12_init_59 (by decide) ?_
  refine n_newa (N := 8) S hK hM (by decide) rfl (by decide) (Nat.le_of_ble_eq_true rfl) (Nat.le_of_ble_eq_true rfl) dX12_init_61 (fun q8 H hM => ?_)
  have hM : MemW g A (X ++ [(q0, .inr (11, [.ref q1, .ref q2, .ref q3, .ref q4, .ref q5, .int 0, .int 0, .int 0, .int 0, .ref q6, .int 0, .int 0, .int 0, .ref q7, .null, .null, .null, .null, .null, .int 0])), (q1, .inl (g.2.1 0, 42, .inl (fun _ => 0))), (q2, .inl (g.2.1 0, 42, .inl (fun _ => 0))), (q3, .inl (g.2.1 0, 42, .inl (fun _ => 0))), (q4, .inl (g.2.1 0, 42, .inl (fun _ => 0))), (q5, .inl (g.2.1 0, 4, .inl (fun _ => 0))), (q6, .inl (g.2.1 0, 3, .inl (fun _ => 0))), (q7, .inl (g.2.1 0, 8, .inl (fun _ => 0))), (q8, .inl (g.2.1 0, 8, .inl (fun _ => 0)))]) _ _ _ := hM
  refine n_putF (ty := tyX12 14) S hK hM cfX12 tyX12_ok nmX12 hnm 0 14 rfl (by decide) tw_5_45 rfl rfl (by decide +kernel) rfl rfl (Nat.le_of_ble_eq_true rfl) dX12_init_63 (fun H locs hM => ?_)
  have hM : MemW g A (X ++ [(q0, .inr (11, [.ref q1, .ref q2, .ref q3, .ref q4, .ref q5, .int 0, .int 0, .int 0, .int 0, .ref q6, .int 0, .int 0, .int 0, .ref q7, .ref q8, .null, .null, .null, .null, .int 0])), (q1, .inl (g.2.1 0, 42, .inl (fun _ => 0))), (q2, .inl (g.2.1 0, 42, .inl (fun _ => 0))), (q3, .inl (g.2.1 0, 42, .inl (fun _ => 0))), (q4, .inl (g.2.1 0, 42, .inl (fun _ => 0))), (q5, .inl (g.2.1 0, 4, .inl (fun _ => 0))), (q6, .inl (g.2.1 0, 3, .inl (fun _ => 0))), (q7, .inl (g.2.1 0, 8, .inl (fun _ => 0))), (q8, .inl (g.2.1 0, 8, .inl (fun _ => 0)))]) _ _ _ := hM
  refine lv_aload_n S.1 S.2.1 dX12_init_66 rfl (lv_at hl 0 rfl) ?_
  refine lv_bipush (v := 8) S.1 S.2.1 dX12_init_67 (by decide) ?_
  refine n_newa (N := 8) S hK hM (by decide) rfl (by decide) (Nat.le_of_ble_eq_true rfl) (Nat.le_of_ble_eq_true rfl) dX12_init_69 (fun q9 H hM => ?_)
  have hM : MemW g A (X ++ [(q0, .inr (11, [.ref q1, .ref q2, .ref q3, .ref q4, .ref q5, .int 0, .int 0, .int 0, .int 0, .ref q6, .int 0, .int 0, .int 0, .ref q7, .ref q8, .null, .null, .null, .null, .int 0])), (q1, .inl (g.2.1 0, 42, .inl (fun _ => 0))), (q2, .inl (g.2.1 0, 42, .inl (fun _ => 0))), (q3, .inl (g.2.1 0, 42, .inl (fun _ => 0))), (q4, .inl (g.2.1 0, 42, .inl (fun _ => 0))), (q5, .inl (g.2.1 0, 4, .inl (fun _ => 0))), (q6, .inl (g.2.1 0, 3, .inl (fun _ => 0))), (q7, .inl (g.2.1 0, 8, .inl (fun _ => 0))), (q8, .inl (g.2.1 0, 8, .inl (fun _ => 0))), (q9, .inl (g.2.1 0, 8, .inl (fun _ => 0)))]) _ _ _ := hM
  refine n_putF (ty := tyX12 15) S hK hM cfX12 tyX12_ok nmX12 hnm 0 15 rfl (by decide) tw_5_46 rfl rfl (by decide +kernel) rfl rfl (Nat.le_of_ble_eq_true rfl) dX12_init_71 (fun H locs hM => ?_)
  have hM : MemW g A (X ++ [(q0, .inr (11, [.ref q1, .ref q2, .ref q3, .ref q4, .ref q5, .int 0, .int 0, .int 0, .int 0, .ref q6, .int 0, .int 0, .int 0, .ref q7, .ref q8, .ref q9, .null, .null, .null, .int 0])), (q1, .inl (g.2.1 0, 42, .inl (fun _ => 0))), (q2, .inl (g.2.1 0, 42, .inl (fun _ => 0))), (q3, .inl (g.2.1 0, 42, .inl (fun _ => 0))), (q4, .inl (g.2.1 0, 42, .inl (fun _ => 0))), (q5, .inl (g.2.1 0, 4, .inl (fun _ => 0))), (q6, .inl (g.2.1 0, 3, .inl (fun _ => 0))), (q7, .inl (g.2.1 0, 8, .inl (fun _ => 0))), (q8, .inl (g.2.1 0, 8, .inl (fun _ => 0))), (q9, .inl (g.2.1 0, 8, .inl (fun _ => 0)))]) _ _ _ := hM
  refine lv_aload_n S.1 S.2.1 dX12_init_74 rfl (lv_at hl 0 rfl) ?_
  refine lv_bipush (v := 8) S.1 S.2.1 dX12_init_75 (by decide) ?_
  refine n_newa (N := 8) S hK hM (by decide) rfl (by decide) (Nat.le_of_ble_eq_true rfl) (Nat.le_of_ble_eq_true rfl) dX12_init_77 (fun q10 H hM => ?_)
  have hM : MemW g A (X ++ [(q0, .inr (11, [.ref q1, .ref q2, .ref q3, .ref q4, .ref q5, .int 0, .int 0, .int 0, .int 0, .ref q6, .int 0, .int 0, .int 0, .ref q7, .ref q8, .ref q9, .null, .null, .null, .int 0])), (q1, .inl (g.2.1 0, 42, .inl (fun _ => 0))), (q2, .inl (g.2.1 0, 42, .inl (fun _ => 0))), (q3, .inl (g.2.1 0, 42, .inl (fun _ => 0))), (q4, .inl (g.2.1 0, 42, .inl (fun _ => 0))), (q5, .inl (g.2.1 0, 4, .inl (fun _ => 0))), (q6, .inl (g.2.1 0, 3, .inl (fun _ => 0))), (q7, .inl (g.2.1 0, 8, .inl (fun _ => 0))), (q8, .inl (g.2.1 0, 8, .inl (fun _ => 0))), (q9, .inl (g.2.1 0, 8, .inl (fun _ => 0))), (q10, .inl (g.2.1 0, 8, .inl (fun _ => 0)))]) _ _ _ := hM
  refine n_putF (ty := tyX12 16) S hK hM cfX12 tyX12_ok nmX12 hnm 0 16 rfl (by decide) tw_5_47 rfl rfl (by decide +kernel) rfl rfl (Nat.le_of_ble_eq_true rfl) dX12_init_79 (fun H locs hM => ?_)
  have hM : MemW g A (X ++ [(q0, .inr (11, [.ref q1, .ref q2, .ref q3, .ref q4, .ref q5, .int 0, .int 0, .int 0, .int 0, .ref q6, .int 0, .int 0, .int 0, .ref q7, .ref q8, .ref q9, .ref q10, .null, .null, .int 0])), (q1, .inl (g.2.1 0, 42, .inl (fun _ => 0))), (q2, .inl (g.2.1 0, 42, .inl (fun _ => 0))), (q3, .inl (g.2.1 0, 42, .inl (fun _ => 0))), (q4, .inl (g.2.1 0, 42, .inl (fun _ => 0))), (q5, .inl (g.2.1 0, 4, .inl (fun _ => 0))), (q6, .inl (g.2.1 0, 3, .inl (fun _ => 0))), (q7, .inl (g.2.1 0, 8, .inl (fun _ => 0))), (q8, .inl (g.2.1 0, 8, .inl (fun _ => 0))), (q9, .inl (g.2.1 0, 8, .inl (fun _ => 0))), (q10, .inl (g.2.1 0, 8, .inl (fun _ => 0)))]) _ _ _ := hM
  refine lv_aload_n S.1 S.2.1 dX12_init_82 rfl (lv_at hl 0 rfl) ?_
  refine lv_bipush (v := 8) S.1 S.2.1 dX12_init_83 (by decide) ?_
  refine n_newa (N := 8) S hK hM (by decide) rfl (by decide) (Nat.le_of_ble_eq_true rfl) (Nat.le_of_ble_eq_true rfl) dX12_init_85 (fun q11 H hM => ?_)
  have hM : MemW g A (X ++ [(q0, .inr (11, [.ref q1, .ref q2, .ref q3, .ref q4, .ref q5, .int 0, .int 0, .int 0, .int 0, .ref q6, .int 0, .int 0, .int 0, .ref q7, .ref q8, .ref q9, .ref q10, .null, .null, .int 0])), (q1, .inl (g.2.1 0, 42, .inl (fun _ => 0))), (q2, .inl (g.2.1 0, 42, .inl (fun _ => 0))), (q3, .inl (g.2.1 0, 42, .inl (fun _ => 0))), (q4, .inl (g.2.1 0, 42, .inl (fun _ => 0))), (q5, .inl (g.2.1 0, 4, .inl (fun _ => 0))), (q6, .inl (g.2.1 0, 3, .inl (fun _ => 0))), (q7, .inl (g.2.1 0, 8, .inl (fun _ => 0))), (q8, .inl (g.2.1 0, 8, .inl (fun _ => 0))), (q9, .inl (g.2.1 0, 8, .inl (fun _ => 0))), (q10, .inl (g.2.1 0, 8, .inl (fun _ => 0))), (q11, .inl (g.2.1 0, 8, .inl (fun _ => 0)))]) _ _ _ := hM
  refine n_putF (ty := tyX12 17) S hK hM cfX12 tyX12_ok nmX12 hnm 0 17 rfl (by decide) tw_5_48 rfl rfl (by decide +kernel) rfl rfl (Nat.le_of_ble_eq_true rfl) dX12_init_87 (fun H locs hM => ?_)
  have hM : MemW g A (X ++ [(q0, .inr (11, [.ref q1, .ref q2, .ref q3, .ref q4, .ref q5, .int 0, .int 0, .int 0, .int 0, .ref q6, .int 0, .int 0, .int 0, .ref q7, .ref q8, .ref q9, .ref q10, .ref q11, .null, .int 0])), (q1, .inl (g.2.1 0, 42, .inl (fun _ => 0))), (q2, .inl (g.2.1 0, 42, .inl (fun _ => 0))), (q3, .inl (g.2.1 0, 42, .inl (fun _ => 0))), (q4, .inl (g.2.1 0, 42, .inl (fun _ => 0))), (q5, .inl (g.2.1 0, 4, .inl (fun _ => 0))), (q6, .inl (g.2.1 0, 3, .inl (fun _ => 0))), (q7, .inl (g.2.1 0, 8, .inl (fun _ => 0))), (q8, .inl (g.2.1 0, 8, .inl (fun _ => 0))), (q9, .inl (g.2.1 0, 8, .inl (fun _ => 0))), (q10, .inl (g.2.1 0, 8, .inl (fun _ => 0))), (q11, .inl (g.2.1 0, 8, .inl (fun _ => 0)))]) _ _ _ := hM
  refine lv_aload_n S.1 S.2.1 dX12_init_90 rfl (lv_at hl 0 rfl) ?_
  refine lv_sipush (v := 800) S.1 S.2.1 dX12_init_91 (by decide) ?_
  refine n_newa (N := 800) S hK hM (by decide) rfl (by decide) (Nat.le_of_ble_eq_true rfl) (Nat.le_of_ble_eq_true rfl) dX12_init_94 (fun q12 H hM => ?_)
  have hM : MemW g A (X ++ [(q0, .inr (11, [.ref q1, .ref q2, .ref q3, .ref q4, .ref q5, .int 0, .int 0, .int 0, .int 0, .ref q6, .int 0, .int 0, .int 0, .ref q7, .ref q8, .ref q9, .ref q10, .ref q11, .null, .int 0])), (q1, .inl (g.2.1 0, 42, .inl (fun _ => 0))), (q2, .inl (g.2.1 0, 42, .inl (fun _ => 0))), (q3, .inl (g.2.1 0, 42, .inl (fun _ => 0))), (q4, .inl (g.2.1 0, 42, .inl (fun _ => 0))), (q5, .inl (g.2.1 0, 4, .inl (fun _ => 0))), (q6, .inl (g.2.1 0, 3, .inl (fun _ => 0))), (q7, .inl (g.2.1 0, 8, .inl (fun _ => 0))), (q8, .inl (g.2.1 0, 8, .inl (fun _ => 0))), (q9, .inl (g.2.1 0, 8, .inl (fun _ => 0))), (q10, .inl (g.2.1 0, 8, .inl (fun _ => 0))), (q11, .inl (g.2.1 0, 8, .inl (fun _ => 0))), (q12, .inl (g.2.1 0, 800, .inl (fun _ => 0)))]) _ _ _ := hM
  refine n_putF (ty := tyX12 18) S hK hM cfX12 tyX12_ok nmX12 hnm 0 18 rfl (by decide) tw_5_49 rfl rfl (by decide +kernel) rfl rfl (Nat.le_of_ble_eq_true rfl) dX12_init_96 (fun H locs hM => ?_)
  have hM : MemW g A (X ++ [(q0, .inr (11, [.ref q1, .ref q2, .ref q3, .ref q4, .ref q5, .int 0, .int 0, .int 0, .int 0, .ref q6, .int 0, .int 0, .int 0, .ref q7, .ref q8, .ref q9, .ref q10, .ref q11, .ref q12, .int 0])), (q1, .inl (g.2.1 0, 42, .inl (fun _ => 0))), (q2, .inl (g.2.1 0, 42, .inl (fun _ => 0))), (q3, .inl (g.2.1 0, 42, .inl (fun _ => 0))), (q4, .inl (g.2.1 0, 42, .inl (fun _ => 0))), (q5, .inl (g.2.1 0, 4, .inl (fun _ => 0))), (q6, .inl (g.2.1 0, 3, .inl (fun _ => 0))), (q7, .inl (g.2.1 0, 8, .inl (fun _ => 0))), (q8, .inl (g.2.1 0, 8, .inl (fun _ => 0))), (q9, .inl (g.2.1 0, 8, .inl (fun _ => 0))), (q10, .inl (g.2.1 0, 8, .inl (fun _ => 0))), (q11, .inl (g.2.1 0, 8, .inl (fun _ => 0))), (q12, .inl (g.2.1 0, 800, .inl (fun _ => 0)))]) _ _ _ := hM
  rw [eX] at hM
  have hK : KK (g.1, g.2.1, fun i => [q0, q1, q2, q3, q4, q5, q6, q7, q8, q9, q10, q11, q12].getD i 0) s := hK
  have hM : Mem lyM 13 (g.1, g.2.1, fun i => [q0, q1, q2, q3, q4, q5, q6, q7, q8, q9, q10, q11, q12].getD i 0) A [] (fun _ _ => 0) nor _ _ _ := hM
  obtain ⟨G, eG⟩ : ∃ G : GE, G = (g.1, g.2.1, fun i => [q0, q1, q2, q3, q4, q5, q6, q7, q8, q9, q10, q11, q12].getD i 0) := ⟨_, rfl⟩
  have e0 : q0 = G.2.2 0 := by rw [eG]; rfl
  rw [← eG] at hK hM
  rw [e0] at hl
  show W _ _ _ _ _ _ _ _ _ _ _ _ _ _ _ (F0 m 99 ls [])
  refine lv_iconst (v := 0) S.1 S.2.1 dX12_init_99 (by decide) ?_
  refine lv_istore_n (lv' := [(1, .int 0), (0, .ref (G.2.2 0))]) S.1 S.2.1 dX12_init_100 rfl hl (by decide) rfl (fun ls hl => ?_)
  refine lv_iload_n S.1 S.2.1 dX12_init_101 rfl (lv_at hl 0 rfl) ?_
  refine lv_iconst (v := 4) S.1 S.2.1 dX12_init_102 (by decide) ?_
  refine lv_icmp_ge (tgt := 145) S.1 S.2.1 dX12_init_103 (by decide) (fun b => absurd b (by decide)) (fun _ => ?_)
  refine lv_aload_n S.1 S.2.1 dX12_init_106 rfl (lv_at hl 1 rfl) ?_
  refine r_getC S hK hM cfX12 0 0 1 (by decide) lm_0 rfl (by decide) tw_5_31 dX12_init_107 ?_
  refine lv_iload_n S.1 S.2.1 dX12_init_110 rfl (lv_at hl 0 rfl) ?_
  refine lv_iconst (v := 0) S.1 S.2.1 dX12_init_111 (by decide) ?_
  refine k_p (va_runS (As := [.int 0, .int 0]) (rest := [.ref (G.2.2 1)]) S (c_X12_ofP (out := 20) (by decide)) (va_cwS 2 S.2.2.2.2 (ul_S tw_5_25 tw_5_26 tw_1_12 cw_X12_ofP) rfl rfl rfl hs_X12_ofP ⟨Nat.le_of_ble_eq_true rfl, Nat.le_of_ble_eq_true rfl⟩) ⟨PreM.blind, hM.pre hK⟩ rfl rfl hl.1 rfl (lv_room (Nat.le_of_ble_eq_true rfl)) dX12_init_112 ⟨Nat.le_of_ble_eq_true rfl, Nat.le_of_ble_eq_true rfl⟩) ?_
  refine lv_iload_n S.1 S.2.1 dX12_init_115 rfl (lv_at hl 0 rfl) ?_
  refine lv_iconst (v := 2) S.1 S.2.1 dX12_init_116 (by decide) ?_
  refine r_irem S dX12_init_117 (by decide) ?_
  refine lv_if_ne (tgt := 125) S.1 S.2.1 dX12_init_118 (by decide) (fun b => absurd (by decide) b) (fun _ => ?_)
  refine lv_iconst (v := 1) S.1 S.2.1 dX12_init_121 (by decide) ?_
  refine lv_goto (tgt := 127) S.1 S.2.1 dX12_init_122 (by decide) ?_
  refine r_iast (σ' := mz1) S hK hM 1 (by decide) rfl (by decide) rfl dX12_init_127 (fun H locs hM => ?_)
  refine lv_aload_n S.1 S.2.1 dX12_init_128 rfl (lv_at hl 1 rfl) ?_
  refine r_getC S hK hM cfX12 0 0 1 (by decide) lm_0 rfl (by decide) tw_5_31 dX12_init_129 ?_
  refine lv_iload_n S.1 S.2.1 dX12_init_132 rfl (lv_at hl 0 rfl) ?_
  refine lv_iconst (v := 1) S.1 S.2.1 dX12_init_133 (by decide) ?_
  refine k_p (va_runS (As := [.int 0, .int 1]) (rest := [.ref (G.2.2 1)]) S (c_X12_ofP (out := 21) (by decide)) (va_cwS 2 S.2.2.2.2 (ul_S tw_5_25 tw_5_26 tw_1_12 cw_X12_ofP) rfl rfl rfl hs_X12_ofP ⟨Nat.le_of_ble_eq_true rfl, Nat.le_of_ble_eq_true rfl⟩) ⟨PreM.blind, hM.pre hK⟩ rfl rfl hl.1 rfl (lv_room (Nat.le_of_ble_eq_true rfl)) dX12_init_134 ⟨Nat.le_of_ble_eq_true rfl, Nat.le_of_ble_eq_true rfl⟩) ?_
  refine lv_iconst (v := 1) S.1 S.2.1 dX12_init_137 (by decide) ?_
  refine r_iast (σ' := mz2) S hK hM 1 (by decide) rfl (by decide) rfl dX12_init_138 (fun H locs hM => ?_)
  refine lv_iinc (v := 1) (lv' := [(1, .int 1), (0, .ref (G.2.2 0))]) S.1 S.2.1 dX12_init_139 hl (k := 0) rfl (by decide) (by decide) rfl (fun ls hl => ?_)
  refine lv_goto (tgt := 101) S.1 S.2.1 dX12_init_142 (by decide) ?_
  refine lv_iload_n S.1 S.2.1 dX12_init_101 rfl (lv_at hl 0 rfl) ?_
  refine lv_iconst (v := 4) S.1 S.2.1 dX12_init_102 (by decide) ?_
  refine lv_icmp_ge (tgt := 145) S.1 S.2.1 dX12_init_103 (by decide) (fun b => absurd b (by decide)) (fun _ => ?_)
  refine lv_aload_n S.1 S.2.1 dX12_init_106 rfl (lv_at hl 1 rfl) ?_
  refine r_getC S hK hM cfX12 0 0 1 (by decide) lm_0 rfl (by decide) tw_5_31 dX12_init_107 ?_
  refine lv_iload_n S.1 S.2.1 dX12_init_110 rfl (lv_at hl 0 rfl) ?_
  refine lv_iconst (v := 0) S.1 S.2.1 dX12_init_111 (by decide) ?_
  refine k_p (va_runS (As := [.int 1, .int 0]) (rest := [.ref (G.2.2 1)]) S (c_X12_ofP (out := 24) (by decide)) (va_cwS 2 S.2.2.2.2 (ul_S tw_5_25 tw_5_26 tw_1_12 cw_X12_ofP) rfl rfl rfl hs_X12_ofP ⟨Nat.le_of_ble_eq_true rfl, Nat.le_of_ble_eq_true rfl⟩) ⟨PreM.blind, hM.pre hK⟩ rfl rfl hl.1 rfl (lv_room (Nat.le_of_ble_eq_true rfl)) dX12_init_112 ⟨Nat.le_of_ble_eq_true rfl, Nat.le_of_ble_eq_true rfl⟩) ?_
  refine lv_iload_n S.1 S.2.1 dX12_init_115 rfl (lv_at hl 0 rfl) ?_
  refine lv_iconst (v := 2) S.1 S.2.1 dX12_init_116 (by decide) ?_
  refine r_irem S dX12_init_117 (by decide) ?_
  refine lv_if_ne (tgt := 125) S.1 S.2.1 dX12_init_118 (by decide) (fun _ => ?_) (fun b => absurd b (by decide))
  refine lv_bipush (v := 7) S.1 S.2.1 dX12_init_125 (by decide) ?_
  refine r_iast (σ' := mz3) S hK hM 1 (by decide) rfl (by decide) rfl dX12_init_127 (fun H locs hM => ?_)
  refine lv_aload_n S.1 S.2.1 dX12_init_128 rfl (lv_at hl 1 rfl) ?_
  refine r_getC S hK hM cfX12 0 0 1 (by decide) lm_0 rfl (by decide) tw_5_31 dX12_init_129 ?_
  refine lv_iload_n S.1 S.2.1 dX12_init_132 rfl (lv_at hl 0 rfl) ?_
  refine lv_iconst (v := 1) S.1 S.2.1 dX12_init_133 (by decide) ?_
  refine k_p (va_runS (As := [.int 1, .int 1]) (rest := [.ref (G.2.2 1)]) S (c_X12_ofP (out := 25) (by decide)) (va_cwS 2 S.2.2.2.2 (ul_S tw_5_25 tw_5_26 tw_1_12 cw_X12_ofP) rfl rfl rfl hs_X12_ofP ⟨Nat.le_of_ble_eq_true rfl, Nat.le_of_ble_eq_true rfl⟩) ⟨PreM.blind, hM.pre hK⟩ rfl rfl hl.1 rfl (lv_room (Nat.le_of_ble_eq_true rfl)) dX12_init_134 ⟨Nat.le_of_ble_eq_true rfl, Nat.le_of_ble_eq_true rfl⟩) ?_
  refine lv_iconst (v := 1) S.1 S.2.1 dX12_init_137 (by decide) ?_
  refine r_iast (σ' := mz4) S hK hM 1 (by decide) rfl (by decide) rfl dX12_init_138 (fun H locs hM => ?_)
  refine lv_iinc (v := 2) (lv' := [(1, .int 2), (0, .ref (G.2.2 0))]) S.1 S.2.1 dX12_init_139 hl (k := 0) rfl (by decide) (by decide) rfl (fun ls hl => ?_)
  refine lv_goto (tgt := 101) S.1 S.2.1 dX12_init_142 (by decide) ?_
  refine lv_iload_n S.1 S.2.1 dX12_init_101 rfl (lv_at hl 0 rfl) ?_
  refine lv_iconst (v := 4) S.1 S.2.1 dX12_init_102 (by decide) ?_
  refine lv_icmp_ge (tgt := 145) S.1 S.2.1 dX12_init_103 (by decide) (fun b => absurd b (by decide)) (fun _ => ?_)
  refine lv_aload_n S.1 S.2.1 dX12_init_106 rfl (lv_at hl 1 rfl) ?_
  refine r_getC S hK hM cfX12 0 0 1 (by decide) lm_0 rfl (by decide) tw_5_31 dX12_init_107 ?_
  refine lv_iload_n S.1 S.2.1 dX12_init_110 rfl (lv_at hl 0 rfl) ?_
  refine lv_iconst (v := 0) S.1 S.2.1 dX12_init_111 (by decide) ?_
  refine k_p (va_runS (As := [.int 2, .int 0]) (rest := [.ref (G.2.2 1)]) S (c_X12_ofP (out := 28) (by decide)) (va_cwS 2 S.2.2.2.2 (ul_S tw_5_25 tw_5_26 tw_1_12 cw_X12_ofP) rfl rfl rfl hs_X12_ofP ⟨Nat.le_of_ble_eq_true rfl, Nat.le_of_ble_eq_true rfl⟩) ⟨PreM.blind, hM.pre hK⟩ rfl rfl hl.1 rfl (lv_room (Nat.le_of_ble_eq_true rfl)) dX12_init_112 ⟨Nat.le_of_ble_eq_true rfl, Nat.le_of_ble_eq_true rfl⟩) ?_
  refine lv_iload_n S.1 S.2.1 dX12_init_115 rfl (lv_at hl 0 rfl) ?_
  refine lv_iconst (v := 2) S.1 S.2.1 dX12_init_116 (by decide) ?_
  refine r_irem S dX12_init_117 (by decide) ?_
  refine lv_if_ne (tgt := 125) S.1 S.2.1 dX12_init_118 (by decide) (fun b => absurd (by decide) b) (fun _ => ?_)
  refine lv_iconst (v := 1) S.1 S.2.1 dX12_init_121 (by decide) ?_
  refine lv_goto (tgt := 127) S.1 S.2.1 dX12_init_122 (by decide) ?_
  refine r_iast (σ' := mz5) S hK hM 1 (by decide) rfl (by decide) rfl dX12_init_127 (fun H locs hM => ?_)
  refine lv_aload_n S.1 S.2.1 dX12_init_128 rfl (lv_at hl 1 rfl) ?_
  refine r_getC S hK hM cfX12 0 0 1 (by decide) lm_0 rfl (by decide) tw_5_31 dX12_init_129 ?_
  refine lv_iload_n S.1 S.2.1 dX12_init_132 rfl (lv_at hl 0 rfl) ?_
  refine lv_iconst (v := 1) S.1 S.2.1 dX12_init_133 (by decide) ?_
  refine k_p (va_runS (As := [.int 2, .int 1]) (rest := [.ref (G.2.2 1)]) S (c_X12_ofP (out := 29) (by decide)) (va_cwS 2 S.2.2.2.2 (ul_S tw_5_25 tw_5_26 tw_1_12 cw_X12_ofP) rfl rfl rfl hs_X12_ofP ⟨Nat.le_of_ble_eq_true rfl, Nat.le_of_ble_eq_true rfl⟩) ⟨PreM.blind, hM.pre hK⟩ rfl rfl hl.1 rfl (lv_room (Nat.le_of_ble_eq_true rfl)) dX12_init_134 ⟨Nat.le_of_ble_eq_true rfl, Nat.le_of_ble_eq_true rfl⟩) ?_
  refine lv_iconst (v := 1) S.1 S.2.1 dX12_init_137 (by decide) ?_
  refine r_iast (σ' := mz6) S hK hM 1 (by decide) rfl (by decide) rfl dX12_init_138 (fun H locs hM => ?_)
  refine lv_iinc (v := 3) (lv' := [(1, .int 3), (0, .ref (G.2.2 0))]) S.1 S.2.1 dX12_init_139 hl (k := 0) rfl (by decide) (by decide) rfl (fun ls hl => ?_)
  refine lv_goto (tgt := 101) S.1 S.2.1 dX12_init_142 (by decide) ?_
  refine lv_iload_n S.1 S.2.1 dX12_init_101 rfl (lv_at hl 0 rfl) ?_
  refine lv_iconst (v := 4) S.1 S.2.1 dX12_init_102 (by decide) ?_
  refine lv_icmp_ge (tgt := 145) S.1 S.2.1 dX12_init_103 (by decide) (fun b => absurd b (by decide)) (fun _ => ?_)
  refine lv_aload_n S.1 S.2.1 dX12_init_106 rfl (lv_at hl 1 rfl) ?_
  refine r_getC S hK hM cfX12 0 0 1 (by decide) lm_0 rfl (by decide) tw_5_31 dX12_init_107 ?_
  refine lv_iload_n S.1 S.2.1 dX12_init_110 rfl (lv_at hl 0 rfl) ?_
  refine lv_iconst (v := 0) S.1 S.2.1 dX12_init_111 (by decide) ?_
  refine k_p (va_runS (As := [.int 3, .int 0]) (rest := [.ref (G.2.2 1)]) S (c_X12_ofP (out := 32) (by decide)) (va_cwS 2 S.2.2.2.2 (ul_S tw_5_25 tw_5_26 tw_1_12 cw_X12_ofP) rfl rfl rfl hs_X12_ofP ⟨Nat.le_of_ble_eq_true rfl, Nat.le_of_ble_eq_true rfl⟩) ⟨PreM.blind, hM.pre hK⟩ rfl rfl hl.1 rfl (lv_room (Nat.le_of_ble_eq_true rfl)) dX12_init_112 ⟨Nat.le_of_ble_eq_true rfl, Nat.le_of_ble_eq_true rfl⟩) ?_
  refine lv_iload_n S.1 S.2.1 dX12_init_115 rfl (lv_at hl 0 rfl) ?_
  refine lv_iconst (v := 2) S.1 S.2.1 dX12_init_116 (by decide) ?_
  refine r_irem S dX12_init_117 (by decide) ?_
  refine lv_if_ne (tgt := 125) S.1 S.2.1 dX12_init_118 (by decide) (fun _ => ?_) (fun b => absurd b (by decide))
  refine lv_bipush (v := 7) S.1 S.2.1 dX12_init_125 (by decide) ?_
  refine r_iast (σ' := mz7) S hK hM 1 (by decide) rfl (by decide) rfl dX12_init_127 (fun H locs hM => ?_)
  refine lv_aload_n S.1 S.2.1 dX12_init_128 rfl (lv_at hl 1 rfl) ?_
  refine r_getC S hK hM cfX12 0 0 1 (by decide) lm_0 rfl (by decide) tw_5_31 dX12_init_129 ?_
  refine lv_iload_n S.1 S.2.1 dX12_init_132 rfl (lv_at hl 0 rfl) ?_
  refine lv_iconst (v := 1) S.1 S.2.1 dX12_init_133 (by decide) ?_
  refine k_p (va_runS (As := [.int 3, .int 1]) (rest := [.ref (G.2.2 1)]) S (c_X12_ofP (out := 33) (by decide)) (va_cwS 2 S.2.2.2.2 (ul_S tw_5_25 tw_5_26 tw_1_12 cw_X12_ofP) rfl rfl rfl hs_X12_ofP ⟨Nat.le_of_ble_eq_true rfl, Nat.le_of_ble_eq_true rfl⟩) ⟨PreM.blind, hM.pre hK⟩ rfl rfl hl.1 rfl (lv_room (Nat.le_of_ble_eq_true rfl)) dX12_init_134 ⟨Nat.le_of_ble_eq_true rfl, Nat.le_of_ble_eq_true rfl⟩) ?_
  refine lv_iconst (v := 1) S.1 S.2.1 dX12_init_137 (by decide) ?_
  refine r_iast (σ' := mz8) S hK hM 1 (by decide) rfl (by decide) rfl dX12_init_138 (fun H locs hM => ?_)
  refine lv_iinc (v := 4) (lv' := [(1, .int 4), (0, .ref (G.2.2 0))]) S.1 S.2.1 dX12_init_139 hl (k := 0) rfl (by decide) (by decide) rfl (fun ls hl => ?_)
  refine lv_goto (tgt := 101) S.1 S.2.1 dX12_init_142 (by decide) ?_
  refine lv_iload_n S.1 S.2.1 dX12_init_101 rfl (lv_at hl 0 rfl) ?_
  refine lv_iconst (v := 4) S.1 S.2.1 dX12_init_102 (by decide) ?_
  refine lv_icmp_ge (tgt := 145) S.1 S.2.1 dX12_init_103 (by decide) (fun _ => ?_) (fun b => absurd (by decide) b)
  refine lv_aload_n S.1 S.2.1 dX12_init_145 rfl (lv_at hl 1 rfl) ?_
  refine r_getC S hK hM cfX12 0 0 1 (by decide) lm_0 rfl (by decide) tw_5_31 dX12_init_146 ?_
  refine lv_iconst (v := 0) S.1 S.2.1 dX12_init_149 (by decide) ?_
  refine lv_iconst (v := 1) S.1 S.2.1 dX12_init_150 (by decide) ?_
  refine k_p (va_runS (As := [.int 0, .int 1]) (rest := [.ref (G.2.2 1)]) S (c_X12_ofSide (out := 37) (by decide)) (va_cwS 2 S.2.2.2.2 (ul_S tw_5_28 tw_5_29 tw_1_12 cw_X12_ofSide) rfl rfl rfl hs_X12_ofSide ⟨Nat.le_of_ble_eq_true rfl, Nat.le_of_ble_eq_true rfl⟩) ⟨PreM.blind, hM.pre hK⟩ rfl rfl hl.1 rfl (lv_room (Nat.le_of_ble_eq_true rfl)) dX12_init_151 ⟨Nat.le_of_ble_eq_true rfl, Nat.le_of_ble_eq_true rfl⟩) ?_
  refine lv_iconst (v := 1) S.1 S.2.1 dX12_init_154 (by decide) ?_
  refine r_iast (σ' := mz9) S hK hM 1 (by decide) rfl (by decide) rfl dX12_init_155 (fun H locs hM => ?_)
  refine lv_aload_n S.1 S.2.1 dX12_init_156 rfl (lv_at hl 1 rfl) ?_
  refine r_getC S hK hM cfX12 0 0 1 (by decide) lm_0 rfl (by decide) tw_5_31 dX12_init_157 ?_
  refine lv_iconst (v := 1) S.1 S.2.1 dX12_init_160 (by decide) ?_
  refine lv_iconst (v := 1) S.1 S.2.1 dX12_init_161 (by decide) ?_
  refine k_p (va_runS (As := [.int 1, .int 1]) (rest := [.ref (G.2.2 1)]) S (c_X12_ofSide (out := 40) (by decide)) (va_cwS 2 S.2.2.2.2 (ul_S tw_5_28 tw_5_29 tw_1_12 cw_X12_ofSide) rfl rfl rfl hs_X12_ofSide ⟨Nat.le_of_ble_eq_true rfl, Nat.le_of_ble_eq_true rfl⟩) ⟨PreM.blind, hM.pre hK⟩ rfl rfl hl.1 rfl (lv_room (Nat.le_of_ble_eq_true rfl)) dX12_init_162 ⟨Nat.le_of_ble_eq_true rfl, Nat.le_of_ble_eq_true rfl⟩) ?_
  refine lv_iconst (v := 1) S.1 S.2.1 dX12_init_165 (by decide) ?_
  refine r_iast (σ' := mz10) S hK hM 1 (by decide) rfl (by decide) rfl dX12_init_166 (fun H locs hM => ?_)
  refine z_ev (g := g) S (ws := wl lyM 13 (g.1, g.2.1, G.2.2) mz10 nor []) ?_ hr hlk ⟨rfl, G.2.2, e0.symm, rfl⟩ (Nat.le_of_ble_eq_true rfl) (Nat.le_of_ble_eq_true rfl) dX12_init_167
  have hM := hM.w
  rw [eG] at hM ⊢
  exact hM
