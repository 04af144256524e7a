/-! strokes made: their constructors, and `of` -/
theorem kcF {k : Nat} (hk : k < 8) : ∃ (C : String) (T : u_T) (ty0 : Nat → FieldType), CF (kci k) C T 1 ∧ (T 0).1 = RX9 ∧ (T 0).2.1 = "figure" ∧ (T 0).2.2.1 = "I" ∧ (T 0).2.2.2 = true ∧ (∀ k, k < 1 → parseFieldDescriptor (T k).2.2.1 = some (ty0 k)) ∧ (∀ a, a < 1 → ∀ b, b < 1 → a ≠ b → (T a).2.1 ≠ (T b).2.1) := by
  refine k8 (P := fun k => ∃ (C : String) (T : u_T) (ty0 : Nat → FieldType), CF (kci k) C T 1 ∧ (T 0).1 = RX9 ∧ (T 0).2.1 = "figure" ∧ (T 0).2.2.1 = "I" ∧ (T 0).2.2.2 = true ∧ (∀ k, k < 1 → parseFieldDescriptor (T k).2.2.1 = some (ty0 k)) ∧ (∀ a, a < 1 → ∀ b, b < 1 → a ≠ b → (T a).2.1 ≠ (T b).2.1)) ?_ ?_ ?_ ?_ ?_ ?_ ?_ ?_ hk
  · exact ⟨_, _, tyX9, cfX9, rfl, rfl, rfl, rfl, tyX9_ok, nmX9⟩
  · exact ⟨_, _, tyX8, cfX8, rfl, rfl, rfl, rfl, tyX8_ok, nmX8⟩
  · exact ⟨_, _, tyX3, cfX3, rfl, rfl, rfl, rfl, tyX3_ok, nmX3⟩
  · exact ⟨_, _, tyX5, cfX5, rfl, rfl, rfl, rfl, tyX5_ok, nmX5⟩
  · exact ⟨_, _, tyX6, cfX6, rfl, rfl, rfl, rfl, tyX6_ok, nmX6⟩
  · exact ⟨_, _, tyX4, cfX4, rfl, rfl, rfl, rfl, tyX4_ok, nmX4⟩
  · exact ⟨_, _, tyX0, cfX0, rfl, rfl, rfl, rfl, tyX0_ok, nmX0⟩
  · exact ⟨_, _, tyX10, cfX10, rfl, rfl, rfl, rfl, tyX10_ok, nmX10⟩
theorem c_X9_init {l : Launch} {g : GE} {A : Nat → Prop} {ws : va_W} {i q k : Nat} {x v : Int32} (hk : k < 8) (hi : ws[i]? = some (q, .inr (kci k, [.int x]))) : Met l yX9_init (.code yX9_init cX9_init 2 none :: UL) ({ frames := 1, cells := 0, slots := 0, locals := 20 }) (va_Pc [.ref q, .int v] (PreW g A ws)) (QE g A (fun o w => o = none ∧ w = ws.set i (q, .inr (kci k, [.int v])))) 0 0 A := by
  refine e_of2 (by decide) (Nat.le_of_ble_eq_true rfl) ?_
  intro p e s m below meth c ls S hr hlk hnm hv hl
  have hM := MemW.of hv
  have hK := hv.2.1
  have hl : lv_has ls 2 [(0, .ref q), (1, .int v)] := hl
  obtain ⟨C, T, ty0, cf, t1, t2, t3, t4, t5, t6⟩ := kcF hk
  refine lv_aload_n S.1 S.2.1 dX9_init_0 rfl (lv_at hl 0 rfl) ?_
  refine W.objInit S.1 S.2.1 S.2.2.2.1 (S.2.2.2.2 _ tw_1_126) (S.2.2.2.2 _ tw_1_29) (S.2.2.2.2 _ tw_1_30) rfl (by rw [S.2.2.1]; exact hl.1) rfl dX9_init_1 (Nat.le_of_ble_eq_true rfl) (Nat.le_of_ble_eq_true rfl) ?_
  refine lv_aload_n S.1 S.2.1 dX9_init_4 rfl (lv_at hl 0 rfl) ?_
  refine lv_iload_n S.1 S.2.1 dX9_init_5 rfl (lv_at hl 1 rfl) ?_
  refine va_putF (ref := RX9) (ty := .int) (cl := vwCl) S.1 S.2.1 S.2.2.2.2 cf.2 ty0 t5 t6 S.2.2.2.1 hK.1 hM.1 hM.2.1 hM.2.2.1 i hi cf.1 0 (by decide) (by rw [t2, t3]; exact S.2.2.2.2 _ tw_1_127) (by rw [t1]; exact fun _ h => h) t4 hnm t1 (by rw [t3]; decide +kernel) rfl rfl (Nat.le_of_ble_eq_true rfl) dX9_init_6 (fun H1 locs1 h1 h2 h3 => ?_)
  exact z_ev S ⟨h1, h2, h3, hM.2.2.2⟩ hr hlk ⟨rfl, rfl⟩ (Nat.zero_le _) (Nat.zero_le _) dX9_init_9
theorem c_X8_init {l : Launch} {g : GE} {A : Nat → Prop} {ws : va_W} {i q k : Nat} {x v : Int32} (hk : k < 8) (hi : ws[i]? = some (q, .inr (kci k, [.int x]))) : Met l yX8_init (.code yX8_init cX8_init 2 none :: UL) ({ frames := 2, cells := 0, slots := 0, locals := 41 }) (va_Pc [.ref q, .int v] (PreW g A ws)) (QE g A (fun o w => o = none ∧ w = ws.set i (q, .inr (kci k, [.int v])))) 0 0 A := by
  refine e_of2 (by decide) (Nat.le_of_ble_eq_true rfl) ?_
  intro p e s m below meth c ls S hr hlk hnm hv hl
  have hM := MemW.of hv
  have hK := hv.2.1
  have hl : lv_has ls 2 [(0, .ref q), (1, .int v)] := hl
  refine lv_aload_n S.1 S.2.1 dX8_init_0 rfl (lv_at hl 0 rfl) ?_
  refine lv_iload_n S.1 S.2.1 dX8_init_1 rfl (lv_at hl 1 rfl) ?_
  refine k_e (va_runI (As := [.int v]) (rest := []) S (c_X9_init hk hi) (cwI 1 S.2.2.2.2 (ul_G (ul_c cw_X9_init)) rfl rfl rfl (S.2.2.2.2 _ tw_1_4) (S.2.2.2.2 _ tw_1_123) (S.2.2.2.2 _ tw_1_124) rfl (by decide +kernel) ⟨Nat.le_of_ble_eq_true rfl, Nat.le_of_ble_eq_true rfl⟩) ⟨PreW.blind, hM.pre hK⟩ rfl rfl hl.1 rfl (lv_room (Nat.le_of_ble_eq_true rfl)) dX8_init_2 ⟨Nat.zero_le _, Nat.zero_le _⟩) hM (fun o w H1 locs1 hw hM => ?_)
  obtain ⟨rfl, hw⟩ := hw
  exact z_ev S hM hr hlk ⟨rfl, hw⟩ (Nat.zero_le _) (Nat.zero_le _) dX8_init_5
theorem c_X3_init {l : Launch} {g : GE} {A : Nat → Prop} {ws : va_W} {i q k : Nat} {x v : Int32} (hk : k < 8) (hi : ws[i]? = some (q, .inr (kci k, [.int x]))) : Met l yX3_init (.code yX3_init cX3_init 2 none :: UL) ({ frames := 2, cells := 0, slots := 0, locals := 41 }) (va_Pc [.ref q, .int v] (PreW g A ws)) (QE g A (fun o w => o = none ∧ w = ws.set i (q, .inr (kci k, [.int v])))) 0 0 A := by
  refine e_of2 (by decide) (Nat.le_of_ble_eq_true rfl) ?_
  intro p e s m below meth c ls S hr hlk hnm hv hl
  have hM := MemW.of hv
  have hK := hv.2.1
  have hl : lv_has ls 2 [(0, .ref q), (1, .int v)] := hl
  refine lv_aload_n S.1 S.2.1 dX3_init_0 rfl (lv_at hl 0 rfl) ?_
  refine lv_iload_n S.1 S.2.1 dX3_init_1 rfl (lv_at hl 1 rfl) ?_
  refine k_e (va_runI (As := [.int v]) (rest := []) S (c_X9_init hk hi) (cwI 1 S.2.2.2.2 (ul_G (ul_c cw_X9_init)) rfl rfl rfl (S.2.2.2.2 _ tw_1_4) (S.2.2.2.2 _ tw_1_145) (S.2.2.2.2 _ tw_1_124) rfl (by decide +kernel) ⟨Nat.le_of_ble_eq_true rfl, Nat.le_of_ble_eq_true rfl⟩) ⟨PreW.blind, hM.pre hK⟩ rfl rfl hl.1 rfl (lv_room (Nat.le_of_ble_eq_true rfl)) dX3_init_2 ⟨Nat.zero_le _, Nat.zero_le _⟩) hM (fun o w H1 locs1 hw hM => ?_)
  obtain ⟨rfl, hw⟩ := hw
  exact z_ev S hM hr hlk ⟨rfl, hw⟩ (Nat.zero_le _) (Nat.zero_le _) dX3_init_5
theorem c_X5_init {l : Launch} {g : GE} {A : Nat → Prop} {ws : va_W} {i q k : Nat} {x v : Int32} (hk : k < 8) (hi : ws[i]? = some (q, .inr (kci k, [.int x]))) : Met l yX5_init (.code yX5_init cX5_init 2 none :: UL) ({ frames := 2, cells := 0, slots := 0, locals := 41 }) (va_Pc [.ref q, .int v] (PreW g A ws)) (QE g A (fun o w => o = none ∧ w = ws.set i (q, .inr (kci k, [.int v])))) 0 0 A := by
  refine e_of2 (by decide) (Nat.le_of_ble_eq_true rfl) ?_
  intro p e s m below meth c ls S hr hlk hnm hv hl
  have hM := MemW.of hv
  have hK := hv.2.1
  have hl : lv_has ls 2 [(0, .ref q), (1, .int v)] := hl
  refine lv_aload_n S.1 S.2.1 dX5_init_0 rfl (lv_at hl 0 rfl) ?_
  refine lv_iload_n S.1 S.2.1 dX5_init_1 rfl (lv_at hl 1 rfl) ?_
  refine k_e (va_runI (As := [.int v]) (rest := []) S (c_X9_init hk hi) (cwI 1 S.2.2.2.2 (ul_G (ul_c cw_X9_init)) rfl rfl rfl (S.2.2.2.2 _ tw_1_4) (S.2.2.2.2 _ tw_1_153) (S.2.2.2.2 _ tw_1_124) rfl (by decide +kernel) ⟨Nat.le_of_ble_eq_true rfl, Nat.le_of_ble_eq_true rfl⟩) ⟨PreW.blind, hM.pre hK⟩ rfl rfl hl.1 rfl (lv_room (Nat.le_of_ble_eq_true rfl)) dX5_init_2 ⟨Nat.zero_le _, Nat.zero_le _⟩) hM (fun o w H1 locs1 hw hM => ?_)
  obtain ⟨rfl, hw⟩ := hw
  exact z_ev S hM hr hlk ⟨rfl, hw⟩ (Nat.zero_le _) (Nat.zero_le _) dX5_init_5
theorem c_X0_init {l : Launch} {g : GE} {A : Nat → Prop} {ws : va_W} {i q k : Nat} {x v : Int32} (hk : k < 8) (hi : ws[i]? = some (q, .inr (kci k, [.int x]))) : Met l yX0_init (.code yX0_init cX0_init 2 none :: UL) ({ frames := 2, cells := 0, slots := 0, locals := 41 }) (va_Pc [.ref q, .int v] (PreW g A ws)) (QE g A (fun o w => o = none ∧ w = ws.set i (q, .inr (kci k, [.int v])))) 0 0 A := by
  refine e_of2 (by decide) (Nat.le_of_ble_eq_true rfl) ?_
  intro p e s m below meth c ls S hr hlk hnm hv hl
  have hM := MemW.of hv
  have hK := hv.2.1
  have hl : lv_has ls 2 [(0, .ref q), (1, .int v)] := hl
  refine lv_aload_n S.1 S.2.1 dX0_init_0 rfl (lv_at hl 0 rfl) ?_
  refine lv_iload_n S.1 S.2.1 dX0_init_1 rfl (lv_at hl 1 rfl) ?_
  refine k_e (va_runI (As := [.int v]) (rest := []) S (c_X9_init hk hi) (cwI 1 S.2.2.2.2 (ul_G (ul_c cw_X9_init)) rfl rfl rfl (S.2.2.2.2 _ tw_1_4) (S.2.2.2.2 _ tw_1_177) (S.2.2.2.2 _ tw_1_124) rfl (by decide +kernel) ⟨Nat.le_of_ble_eq_true rfl, Nat.le_of_ble_eq_true rfl⟩) ⟨PreW.blind, hM.pre hK⟩ rfl rfl hl.1 rfl (lv_room (Nat.le_of_ble_eq_true rfl)) dX0_init_2 ⟨Nat.zero_le _, Nat.zero_le _⟩) hM (fun o w H1 locs1 hw hM => ?_)
  obtain ⟨rfl, hw⟩ := hw
  exact z_ev S hM hr hlk ⟨rfl, hw⟩ (Nat.zero_le _) (Nat.zero_le _) dX0_init_5
theorem c_X6_init {l : Launch} {g : GE} {A : Nat → Prop} {ws : va_W} {i q k : Nat} {x v : Int32} (hk : k < 8) (hi : ws[i]? = some (q, .inr (kci k, [.int x]))) : Met l yX6_init (.code yX6_init cX6_init 2 none :: UL) ({ frames := 3, cells := 0, slots := 0, locals := 62 }) (va_Pc [.ref q, .int v] (PreW g A ws)) (QE g A (fun o w => o = none ∧ w = ws.set i (q, .inr (kci k, [.int v])))) 0 0 A := by
  refine e_of2 (by decide) (Nat.le_of_ble_eq_true rfl) ?_
  intro p e s m below meth c ls S hr hlk hnm hv hl
  have hM := MemW.of hv
  have hK := hv.2.1
  have hl : lv_has ls 2 [(0, .ref q), (1, .int v)] := hl
  refine lv_aload_n S.1 S.2.1 dX6_init_0 rfl (lv_at hl 0 rfl) ?_
  refine lv_iload_n S.1 S.2.1 dX6_init_1 rfl (lv_at hl 1 rfl) ?_
  refine k_e (va_runI (As := [.int v]) (rest := []) S (c_X3_init hk hi) (cwI 1 S.2.2.2.2 (ul_G (ul_c cw_X3_init)) rfl rfl rfl (S.2.2.2.2 _ tw_1_6) (S.2.2.2.2 _ tw_1_161) (S.2.2.2.2 _ tw_1_143) rfl (by decide +kernel) ⟨Nat.le_of_ble_eq_true rfl, Nat.le_of_ble_eq_true rfl⟩) ⟨PreW.blind, hM.pre hK⟩ rfl rfl hl.1 rfl (lv_room (Nat.le_of_ble_eq_true rfl)) dX6_init_2 ⟨Nat.zero_le _, Nat.zero_le _⟩) hM (fun o w H1 locs1 hw hM => ?_)
  obtain ⟨rfl, hw⟩ := hw
  exact z_ev S hM hr hlk ⟨rfl, hw⟩ (Nat.zero_le _) (Nat.zero_le _) dX6_init_5
theorem c_X4_init {l : Launch} {g : GE} {A : Nat → Prop} {ws : va_W} {i q k : Nat} {x v : Int32} (hk : k < 8) (hi : ws[i]? = some (q, .inr (kci k, [.int x]))) : Met l yX4_init (.code yX4_init cX4_init 2 none :: UL) ({ frames := 3, cells := 0, slots := 0, locals := 62 }) (va_Pc [.ref q, .int v] (PreW g A ws)) (QE g A (fun o w => o = none ∧ w = ws.set i (q, .inr (kci k, [.int v])))) 0 0 A := by
  refine e_of2 (by decide) (Nat.le_of_ble_eq_true rfl) ?_
  intro p e s m below meth c ls S hr hlk hnm hv hl
  have hM := MemW.of hv
  have hK := hv.2.1
  have hl : lv_has ls 2 [(0, .ref q), (1, .int v)] := hl
  refine lv_aload_n S.1 S.2.1 dX4_init_0 rfl (lv_at hl 0 rfl) ?_
  refine lv_iload_n S.1 S.2.1 dX4_init_1 rfl (lv_at hl 1 rfl) ?_
  refine k_e (va_runI (As := [.int v]) (rest := []) S (c_X5_init hk hi) (cwI 1 S.2.2.2.2 (ul_G (ul_c cw_X5_init)) rfl rfl rfl (S.2.2.2.2 _ tw_1_7) (S.2.2.2.2 _ tw_1_169) (S.2.2.2.2 _ tw_1_151) rfl (by decide +kernel) ⟨Nat.le_of_ble_eq_true rfl, Nat.le_of_ble_eq_true rfl⟩) ⟨PreW.blind, hM.pre hK⟩ rfl rfl hl.1 rfl (lv_room (Nat.le_of_ble_eq_true rfl)) dX4_init_2 ⟨Nat.zero_le _, Nat.zero_le _⟩) hM (fun o w H1 locs1 hw hM => ?_)
  obtain ⟨rfl, hw⟩ := hw
  exact z_ev S hM hr hlk ⟨rfl, hw⟩ (Nat.zero_le _) (Nat.zero_le _) dX4_init_5
theorem c_X10_init {l : Launch} {g : GE} {A : Nat → Prop} {ws : va_W} {i q k : Nat} {x v : Int32} (hk : k < 8) (hi : ws[i]? = some (q, .inr (kci k, [.int x]))) : Met l yX10_init (.code yX10_init cX10_init 2 none :: UL) ({ frames := 3, cells := 0, slots := 0, locals := 62 }) (va_Pc [.ref q, .int v] (PreW g A ws)) (QE g A (fun o w => o = none ∧ w = ws.set i (q, .inr (kci k, [.int v])))) 0 0 A := by
  refine e_of2 (by decide) (Nat.le_of_ble_eq_true rfl) ?_
  intro p e s m below meth c ls S hr hlk hnm hv hl
  have hM := MemW.of hv
  have hK := hv.2.1
  have hl : lv_has ls 2 [(0, .ref q), (1, .int v)] := hl
  refine lv_aload_n S.1 S.2.1 dX10_init_0 rfl (lv_at hl 0 rfl) ?_
  refine lv_iload_n S.1 S.2.1 dX10_init_1 rfl (lv_at hl 1 rfl) ?_
  refine k_e (va_runI (As := [.int v]) (rest := []) S (c_X5_init hk hi) (cwI 1 S.2.2.2.2 (ul_G (ul_c cw_X5_init)) rfl rfl rfl (S.2.2.2.2 _ tw_1_7) (S.2.2.2.2 _ tw_1_185) (S.2.2.2.2 _ tw_1_151) rfl (by decide +kernel) ⟨Nat.le_of_ble_eq_true rfl, Nat.le_of_ble_eq_true rfl⟩) ⟨PreW.blind, hM.pre hK⟩ rfl rfl hl.1 rfl (lv_room (Nat.le_of_ble_eq_true rfl)) dX10_init_2 ⟨Nat.zero_le _, Nat.zero_le _⟩) hM (fun o w H1 locs1 hw hM => ?_)
  obtain ⟨rfl, hw⟩ := hw
  exact z_ev S hM hr hlk ⟨rfl, hw⟩ (Nat.zero_le _) (Nat.zero_le _) dX10_init_5
/-- what `of` makes -/
def kof (a : Int32) : Nat := if 1 ≤ a.toInt ∧ a.toInt ≤ 7 then a.toNatClampNeg else 0
def kfx (kf : KF) (q k : Nat) (v : Int32) : KF := fun a => if a = q then some (k, v) else kf a
theorem kfx_i {kf : KF} {q k : Nat} {v : Int32} : kfx kf q k v q = some (k, v) := by simp [kfx]
theorem kfx_o {kf : KF} {q k a : Nat} {v : Int32} (h : a ≠ q) : kfx kf q k v a = kf a := by simp [kfx, h]
theorem kof_lt (a : Int32) : kof a < 8 := by
  unfold kof
  split
  · rename_i h
    have : a.toNatClampNeg = a.toInt.toNat := rfl
    omega
  · decide
theorem PL.push {LP : List Nat} {kf : KF} (h : PL LP kf) {q k : Nat} {v : Int32} (hk : k < 8) : PL (LP ++ [q]) (kfx kf q k v) := by
  intro a k' f' ha
  by_cases e : a = q
  · subst e
    rw [kfx_i] at ha
    cases ha
    exact ⟨List.mem_append_right _ List.mem_cons_self, hk⟩
  · rw [kfx_o e] at ha
    exact ⟨List.mem_append_left _ (h a k' f' ha).1, (h a k' f' ha).2⟩
theorem skx {kf : KF} {q k : Nat} {v : Int32} : va_up (skE kf) q (.inr (kci k, [.int v])) = skE (kfx kf q k v) := by
  funext a
  by_cases e : a = q
  · subst e
    rw [va_up_self]
    simp [skE, kfx_i]
  · rw [va_up_ne _ _ e]
    simp [skE, kfx_o e]
theorem set_last {ws : va_W} {x y : Nat × va_E} : (ws ++ [x]).set ws.length y = ws ++ [y] := by
  rw [List.set_append_right _ _ (Nat.le_refl _)]
  simp
theorem notin_pl {A : Nat → Prop} {X : va_W} {LP : List Nat} {f : Nat → va_E} {q : Nat} {e : va_E} (h : va_D A ((X ++ va_pl LP f) ++ [(q, e)])) : q ∉ LP := by
  intro hq
  obtain ⟨i, hi⟩ := va_pl_get (X := X) (f := f) hq
  have hlt := (List.getElem?_eq_some_iff.mp hi).1
  have h1 : ((X ++ va_pl LP f) ++ [(q, e)])[i]? = some (q, f q) := by rw [List.getElem?_append_left hlt]; exact hi
  have h2 : ((X ++ va_pl LP f) ++ [(q, e)])[(X ++ va_pl LP f).length]? = some (q, e) := by simp
  have := h.1 i _ _ _ h1 h2 rfl
  omega
/-- what is said behind `of` -/
def OfR (g : GE) (LP : List Nat) (kf : KF) (σ : IM) (ρ : RM) (a v : Int32) (o : Option Value) (w : va_W) : Prop := ∃ q : Nat, o = some (.ref q) ∧ q ∉ LP ∧ w = wl lyC 48 g σ ρ (va_pl (LP ++ [q]) (skE (kfx kf q (kof a) v)))
theorem ofR {g : GE} {A : Nat → Prop} {LP : List Nat} {kf : KF} {σ : IM} {ρ : RM} {a v : Int32} {q k : Nat} {w : va_W} (hk : k = kof a) (hD : va_D A (wl lyC 48 g σ ρ (va_pl LP (skE kf)) ++ [(q, .inr (kci k, [.int v]))])) (hw : w = wl lyC 48 g σ ρ (va_pl LP (skE kf)) ++ [(q, .inr (kci k, [.int v]))]) : OfR g LP kf σ ρ a v (some (.ref q)) w := by
  subst hk
  have hq : q ∉ LP := notin_pl hD
  refine ⟨q, rfl, hq, ?_⟩
  rw [hw, ← skx, ← va_pl_push hq]
  unfold wl
  rw [List.append_assoc]
set_option maxRecDepth 20000 in
theorem c_X9_of {l : Launch} {g : GE} {A : Nat → Prop} {LP : List Nat} {kf : KF} {σ : IM} {ρ : RM} {a v : Int32} : Met l yX9_of (.code yX9_of cX9_of 2 (some (.object "SideBySide$Stroke")) :: UL) ({ frames := 4, cells := 1, slots := 1, locals := 83 }) (va_Pc [.int a, .int v] (PreM lyC 48 g A (va_pl LP (skE kf)) σ ρ)) (QE g A (OfR g LP kf σ ρ a v)) 1 1 A := by
  refine e_of2 (by decide) (Nat.le_of_ble_eq_true rfl) ?_
  intro p e s m below meth c ls S hr hlk hnm hv hl
  have hM := MemW.of hv.w
  have hK := hv.2.1
  have hl : lv_has ls 2 [(0, .int a), (1, .int v)] := hl
  refine lv_iload_n S.1 S.2.1 dX9_of_0 rfl (lv_at hl 0 rfl) ?_
  by_cases hz : a = 1
  · refine r_tab S dX9_of_1 hz (v := 1) (off := 43) (tgt := 44) (by decide) (by decide) ?_
    refine va_new (cl := vwCl) (fs := [.int 0]) S.1 S.2.1 S.2.2.2.2 cfX8.2 tyX8 tyX8_ok S.2.2.2.1 (S.2.2.2.2 _ tw_1_118) (S.2.2.2.2 _ tw_1_119) (S.2.2.2.2 _ tw_1_5) hK.1 hM.1 hM.2.1 hM.2.2.1 hM.2.2.2 cfX8.1 (fun j hj => by cases (show j = 0 by omega); rfl) (Nat.le_of_ble_eq_true rfl) (Nat.le_of_ble_eq_true rfl) dX9_of_44 (fun q H1 h1 h2 h3 => ?_)
    have hM1 : MemW g A (wl lyC 48 g σ ρ (va_pl LP (skE kf)) ++ [(q, .inr (kci 1, [.int 0]))]) s.heap H1 [] := ⟨h1, h2, h3, hM.2.2.2⟩
    refine lv_dup S.1 S.2.1 dX9_of_47 rfl ?_
    refine lv_iload_n S.1 S.2.1 dX9_of_48 rfl (lv_at hl 1 rfl) ?_
    refine k_e (va_runI (As := [.int v]) (rest := [.ref q]) S (c_X8_init (k := 1) (i := (wl lyC 48 g σ ρ (va_pl LP (skE kf))).length) (x := 0) (by decide) (by simp)) (cwI 1 S.2.2.2.2 (ul_G (ul_c cw_X8_init)) rfl rfl rfl (S.2.2.2.2 _ tw_1_5) (S.2.2.2.2 _ tw_1_120) (S.2.2.2.2 _ tw_1_121) rfl (by decide +kernel) ⟨Nat.le_of_ble_eq_true rfl, Nat.le_of_ble_eq_true rfl⟩) ⟨PreW.blind, hM1.pre hK⟩ rfl rfl hl.1 rfl (lv_room (Nat.le_of_ble_eq_true rfl)) dX9_of_49 ⟨Nat.le_of_ble_eq_true rfl, Nat.le_of_ble_eq_true rfl⟩) hM1 (fun o w H1 locs1 hw hM => ?_)
    obtain ⟨rfl, hw⟩ := hw
    rw [set_last] at hw
    exact z_e S hM hr (Or.inl ⟨_, rfl⟩) (Or.inr ⟨_, rfl⟩) hlk (ofR (by subst hz; decide) (by rw [← hw]; exact hM.2.1) hw) (Nat.le_of_ble_eq_true rfl) (Nat.le_of_ble_eq_true rfl) dX9_of_52
  have hz1 := hz
  clear hz
  by_cases hz : a = 2
  · refine r_tab S dX9_of_1 hz (v := 2) (off := 52) (tgt := 53) (by decide) (by decide) ?_
    refine va_new (cl := vwCl) (fs := [.int 0]) S.1 S.2.1 S.2.2.2.2 cfX3.2 tyX3 tyX3_ok S.2.2.2.1 (S.2.2.2.2 _ tw_1_140) (S.2.2.2.2 _ tw_1_141) (S.2.2.2.2 _ tw_1_6) hK.1 hM.1 hM.2.1 hM.2.2.1 hM.2.2.2 cfX3.1 (fun j hj => by cases (show j = 0 by omega); rfl) (Nat.le_of_ble_eq_true rfl) (Nat.le_of_ble_eq_true rfl) dX9_of_53 (fun q H1 h1 h2 h3 => ?_)
    have hM1 : MemW g A (wl lyC 48 g σ ρ (va_pl LP (skE kf)) ++ [(q, .inr (kci 2, [.int 0]))]) s.heap H1 [] := ⟨h1, h2, h3, hM.2.2.2⟩
    refine lv_dup S.1 S.2.1 dX9_of_56 rfl ?_
    refine lv_iload_n S.1 S.2.1 dX9_of_57 rfl (lv_at hl 1 rfl) ?_
    refine k_e (va_runI (As := [.int v]) (rest := [.ref q]) S (c_X3_init (k := 2) (i := (wl lyC 48 g σ ρ (va_pl LP (skE kf))).length) (x := 0) (by decide) (by simp)) (cwI 1 S.2.2.2.2 (ul_G (ul_c cw_X3_init)) rfl rfl rfl (S.2.2.2.2 _ tw_1_6) (S.2.2.2.2 _ tw_1_142) (S.2.2.2.2 _ tw_1_143) rfl (by decide +kernel) ⟨Nat.le_of_ble_eq_true rfl, Nat.le_of_ble_eq_true rfl⟩) ⟨PreW.blind, hM1.pre hK⟩ rfl rfl hl.1 rfl (lv_room (Nat.le_of_ble_eq_true rfl)) dX9_of_58 ⟨Nat.le_of_ble_eq_true rfl, Nat.le_of_ble_eq_true rfl⟩) hM1 (fun o w H1 locs1 hw hM => ?_)
    obtain ⟨rfl, hw⟩ := hw
    rw [set_last] at hw
    exact z_e S hM hr (Or.inl ⟨_, rfl⟩) (Or.inr ⟨_, rfl⟩) hlk (ofR (by subst hz; decide) (by rw [← hw]; exact hM.2.1) hw) (Nat.le_of_ble_eq_true rfl) (Nat.le_of_ble_eq_true rfl) dX9_of_61
  have hz2 := hz
  clear hz
  by_cases hz : a = 3
  · refine r_tab S dX9_of_1 hz (v := 3) (off := 61) (tgt := 62) (by decide) (by decide) ?_
    refine va_new (cl := vwCl) (fs := [.int 0]) S.1 S.2.1 S.2.2.2.2 cfX5.2 tyX5 tyX5_ok S.2.2.2.1 (S.2.2.2.2 _ tw_1_148) (S.2.2.2.2 _ tw_1_149) (S.2.2.2.2 _ tw_1_7) hK.1 hM.1 hM.2.1 hM.2.2.1 hM.2.2.2 cfX5.1 (fun j hj => by cases (show j = 0 by omega); rfl) (Nat.le_of_ble_eq_true rfl) (Nat.le_of_ble_eq_true rfl) dX9_of_62 (fun q H1 h1 h2 h3 => ?_)
    have hM1 : MemW g A (wl lyC 48 g σ ρ (va_pl LP (skE kf)) ++ [(q, .inr (kci 3, [.int 0]))]) s.heap H1 [] := ⟨h1, h2, h3, hM.2.2.2⟩
    refine lv_dup S.1 S.2.1 dX9_of_65 rfl ?_
    refine lv_iload_n S.1 S.2.1 dX9_of_66 rfl (lv_at hl 1 rfl) ?_
    refine k_e (va_runI (As := [.int v]) (rest := [.ref q]) S (c_X5_init (k := 3) (i := (wl lyC 48 g σ ρ (va_pl LP (skE kf))).length) (x := 0) (by decide) (by simp)) (cwI 1 S.2.2.2.2 (ul_G (ul_c cw_X5_init)) rfl rfl rfl (S.2.2.2.2 _ tw_1_7) (S.2.2.2.2 _ tw_1_150) (S.2.2.2.2 _ tw_1_151) rfl (by decide +kernel) ⟨Nat.le_of_ble_eq_true rfl, Nat.le_of_ble_eq_true rfl⟩) ⟨PreW.blind, hM1.pre hK⟩ rfl rfl hl.1 rfl (lv_room (Nat.le_of_ble_eq_true rfl)) dX9_of_67 ⟨Nat.le_of_ble_eq_true rfl, Nat.le_of_ble_eq_true rfl⟩) hM1 (fun o w H1 locs1 hw hM => ?_)
    obtain ⟨rfl, hw⟩ := hw
    rw [set_last] at hw
    exact z_e S hM hr (Or.inl ⟨_, rfl⟩) (Or.inr ⟨_, rfl⟩) hlk (ofR (by subst hz; decide) (by rw [← hw]; exact hM.2.1) hw) (Nat.le_of_ble_eq_true rfl) (Nat.le_of_ble_eq_true rfl) dX9_of_70
  have hz3 := hz
  clear hz
  by_cases hz : a = 4
  · refine r_tab S dX9_of_1 hz (v := 4) (off := 70) (tgt := 71) (by decide) (by decide) ?_
    refine va_new (cl := vwCl) (fs := [.int 0]) S.1 S.2.1 S.2.2.2.2 cfX6.2 tyX6 tyX6_ok S.2.2.2.1 (S.2.2.2.2 _ tw_1_156) (S.2.2.2.2 _ tw_1_157) (S.2.2.2.2 _ tw_1_8) hK.1 hM.1 hM.2.1 hM.2.2.1 hM.2.2.2 cfX6.1 (fun j hj => by cases (show j = 0 by omega); rfl) (Nat.le_of_ble_eq_true rfl) (Nat.le_of_ble_eq_true rfl) dX9_of_71 (fun q H1 h1 h2 h3 => ?_)
    have hM1 : MemW g A (wl lyC 48 g σ ρ (va_pl LP (skE kf)) ++ [(q, .inr (kci 4, [.int 0]))]) s.heap H1 [] := ⟨h1, h2, h3, hM.2.2.2⟩
    refine lv_dup S.1 S.2.1 dX9_of_74 rfl ?_
    refine lv_iload_n S.1 S.2.1 dX9_of_75 rfl (lv_at hl 1 rfl) ?_
    refine k_e (va_runI (As := [.int v]) (rest := [.ref q]) S (c_X6_init (k := 4) (i := (wl lyC 48 g σ ρ (va_pl LP (skE kf))).length) (x := 0) (by decide) (by simp)) (cwI 1 S.2.2.2.2 (ul_G (ul_c cw_X6_init)) rfl rfl rfl (S.2.2.2.2 _ tw_1_8) (S.2.2.2.2 _ tw_1_158) (S.2.2.2.2 _ tw_1_159) rfl (by decide +kernel) ⟨Nat.le_of_ble_eq_true rfl, Nat.le_of_ble_eq_true rfl⟩) ⟨PreW.blind, hM1.pre hK⟩ rfl rfl hl.1 rfl (lv_room (Nat.le_of_ble_eq_true rfl)) dX9_of_76 ⟨Nat.le_of_ble_eq_true rfl, Nat.le_of_ble_eq_true rfl⟩) hM1 (fun o w H1 locs1 hw hM => ?_)
    obtain ⟨rfl, hw⟩ := hw
    rw [set_last] at hw
    exact z_e S hM hr (Or.inl ⟨_, rfl⟩) (Or.inr ⟨_, rfl⟩) hlk (ofR (by subst hz; decide) (by rw [← hw]; exact hM.2.1) hw) (Nat.le_of_ble_eq_true rfl) (Nat.le_of_ble_eq_true rfl) dX9_of_79
  have hz4 := hz
  clear hz
  by_cases hz : a = 5
  · refine r_tab S dX9_of_1 hz (v := 5) (off := 79) (tgt := 80) (by decide) (by decide) ?_
    refine va_new (cl := vwCl) (fs := [.int 0]) S.1 S.2.1 S.2.2.2.2 cfX4.2 tyX4 tyX4_ok S.2.2.2.1 (S.2.2.2.2 _ tw_1_164) (S.2.2.2.2 _ tw_1_165) (S.2.2.2.2 _ tw_1_9) hK.1 hM.1 hM.2.1 hM.2.2.1 hM.2.2.2 cfX4.1 (fun j hj => by cases (show j = 0 by omega); rfl) (Nat.le_of_ble_eq_true rfl) (Nat.le_of_ble_eq_true rfl) dX9_of_80 (fun q H1 h1 h2 h3 => ?_)
    have hM1 : MemW g A (wl lyC 48 g σ ρ (va_pl LP (skE kf)) ++ [(q, .inr (kci 5, [.int 0]))]) s.heap H1 [] := ⟨h1, h2, h3, hM.2.2.2⟩
    refine lv_dup S.1 S.2.1 dX9_of_83 rfl ?_
    refine lv_iload_n S.1 S.2.1 dX9_of_84 rfl (lv_at hl 1 rfl) ?_
    refine k_e (va_runI (As := [.int v]) (rest := [.ref q]) S (c_X4_init (k := 5) (i := (wl lyC 48 g σ ρ (va_pl LP (skE kf))).length) (x := 0) (by decide) (by simp)) (cwI 1 S.2.2.2.2 (ul_G (ul_c cw_X4_init)) rfl rfl rfl (S.2.2.2.2 _ tw_1_9) (S.2.2.2.2 _ tw_1_166) (S.2.2.2.2 _ tw_1_167) rfl (by decide +kernel) ⟨Nat.le_of_ble_eq_true rfl, Nat.le_of_ble_eq_true rfl⟩) ⟨PreW.blind, hM1.pre hK⟩ rfl rfl hl.1 rfl (lv_room (Nat.le_of_ble_eq_true rfl)) dX9_of_85 ⟨Nat.le_of_ble_eq_true rfl, Nat.le_of_ble_eq_true rfl⟩) hM1 (fun o w H1 locs1 hw hM => ?_)
    obtain ⟨rfl, hw⟩ := hw
    rw [set_last] at hw
    exact z_e S hM hr (Or.inl ⟨_, rfl⟩) (Or.inr ⟨_, rfl⟩) hlk (ofR (by subst hz; decide) (by rw [← hw]; exact hM.2.1) hw) (Nat.le_of_ble_eq_true rfl) (Nat.le_of_ble_eq_true rfl) dX9_of_88
  have hz5 := hz
  clear hz
  by_cases hz : a = 6
  · refine r_tab S dX9_of_1 hz (v := 6) (off := 88) (tgt := 89) (by decide) (by decide) ?_
    refine va_new (cl := vwCl) (fs := [.int 0]) S.1 S.2.1 S.2.2.2.2 cfX0.2 tyX0 tyX0_ok S.2.2.2.1 (S.2.2.2.2 _ tw_1_172) (S.2.2.2.2 _ tw_1_173) (S.2.2.2.2 _ tw_1_10) hK.1 hM.1 hM.2.1 hM.2.2.1 hM.2.2.2 cfX0.1 (fun j hj => by cases (show j = 0 by omega); rfl) (Nat.le_of_ble_eq_true rfl) (Nat.le_of_ble_eq_true rfl) dX9_of_89 (fun q H1 h1 h2 h3 => ?_)
    have hM1 : MemW g A (wl lyC 48 g σ ρ (va_pl LP (skE kf)) ++ [(q, .inr (kci 6, [.int 0]))]) s.heap H1 [] := ⟨h1, h2, h3, hM.2.2.2⟩
    refine lv_dup S.1 S.2.1 dX9_of_92 rfl ?_
    refine lv_iload_n S.1 S.2.1 dX9_of_93 rfl (lv_at hl 1 rfl) ?_
    refine k_e (va_runI (As := [.int v]) (rest := [.ref q]) S (c_X0_init (k := 6) (i := (wl lyC 48 g σ ρ (va_pl LP (skE kf))).length) (x := 0) (by decide) (by simp)) (cwI 1 S.2.2.2.2 (ul_G (ul_c cw_X0_init)) rfl rfl rfl (S.2.2.2.2 _ tw_1_10) (S.2.2.2.2 _ tw_1_174) (S.2.2.2.2 _ tw_1_175) rfl (by decide +kernel) ⟨Nat.le_of_ble_eq_true rfl, Nat.le_of_ble_eq_true rfl⟩) ⟨PreW.blind, hM1.pre hK⟩ rfl rfl hl.1 rfl (lv_room (Nat.le_of_ble_eq_true rfl)) dX9_of_94 ⟨Nat.le_of_ble_eq_true rfl, Nat.le_of_ble_eq_true rfl⟩) hM1 (fun o w H1 locs1 hw hM => ?_)
    obtain ⟨rfl, hw⟩ := hw
    rw [set_last] at hw
    exact z_e S hM hr (Or.inl ⟨_, rfl⟩) (Or.inr ⟨_, rfl⟩) hlk (ofR (by subst hz; decide) (by rw [← hw]; exact hM.2.1) hw) (Nat.le_of_ble_eq_true rfl) (Nat.le_of_ble_eq_true rfl) dX9_of_97
  have hz6 := hz
  clear hz
  by_cases hz : a = 7
  · refine r_tab S dX9_of_1 hz (v := 7) (off := 97) (tgt := 98) (by decide) (by decide) ?_
    refine va_new (cl := vwCl) (fs := [.int 0]) S.1 S.2.1 S.2.2.2.2 cfX10.2 tyX10 tyX10_ok S.2.2.2.1 (S.2.2.2.2 _ tw_1_180) (S.2.2.2.2 _ tw_1_181) (S.2.2.2.2 _ tw_1_11) hK.1 hM.1 hM.2.1 hM.2.2.1 hM.2.2.2 cfX10.1 (fun j hj => by cases (show j = 0 by omega); rfl) (Nat.le_of_ble_eq_true rfl) (Nat.le_of_ble_eq_true rfl) dX9_of_98 (fun q H1 h1 h2 h3 => ?_)
    have hM1 : MemW g A (wl lyC 48 g σ ρ (va_pl LP (skE kf)) ++ [(q, .inr (kci 7, [.int 0]))]) s.heap H1 [] := ⟨h1, h2, h3, hM.2.2.2⟩
    refine lv_dup S.1 S.2.1 dX9_of_101 rfl ?_
    refine lv_iload_n S.1 S.2.1 dX9_of_102 rfl (lv_at hl 1 rfl) ?_
    refine k_e (va_runI (As := [.int v]) (rest := [.ref q]) S (c_X10_init (k := 7) (i := (wl lyC 48 g σ ρ (va_pl LP (skE kf))).length) (x := 0) (by decide) (by simp)) (cwI 1 S.2.2.2.2 (ul_G (ul_c cw_X10_init)) rfl rfl rfl (S.2.2.2.2 _ tw_1_11) (S.2.2.2.2 _ tw_1_182) (S.2.2.2.2 _ tw_1_183) rfl (by decide +kernel) ⟨Nat.le_of_ble_eq_true rfl, Nat.le_of_ble_eq_true rfl⟩) ⟨PreW.blind, hM1.pre hK⟩ rfl rfl hl.1 rfl (lv_room (Nat.le_of_ble_eq_true rfl)) dX9_of_103 ⟨Nat.le_of_ble_eq_true rfl, Nat.le_of_ble_eq_true rfl⟩) hM1 (fun o w H1 locs1 hw hM => ?_)
    obtain ⟨rfl, hw⟩ := hw
    rw [set_last] at hw
    exact z_e S hM hr (Or.inl ⟨_, rfl⟩) (Or.inr ⟨_, rfl⟩) hlk (ofR (by subst hz; decide) (by rw [← hw]; exact hM.2.1) hw) (Nat.le_of_ble_eq_true rfl) (Nat.le_of_ble_eq_true rfl) dX9_of_106
  have hz7 := hz
  clear hz
  have hz : ¬ (1 ≤ a.toInt ∧ a.toInt ≤ 7) := by
    have n1 := ne_toInt hz1 (k := 1) (by decide)
    have n2 := ne_toInt hz2 (k := 2) (by decide)
    have n3 := ne_toInt hz3 (k := 3) (by decide)
    have n4 := ne_toInt hz4 (k := 4) (by decide)
    have n5 := ne_toInt hz5 (k := 5) (by decide)
    have n6 := ne_toInt hz6 (k := 6) (by decide)
    have n7 := ne_toInt hz7 (k := 7) (by decide)
    omega
  refine r_tabD (tgt := 107) S dX9_of_1 hz (by decide) ?_
  refine va_new (cl := vwCl) (fs := [.int 0]) S.1 S.2.1 S.2.2.2.2 cfX9.2 tyX9 tyX9_ok S.2.2.2.1 (S.2.2.2.2 _ tw_1_188) (S.2.2.2.2 _ tw_1_189) (S.2.2.2.2 _ tw_1_4) hK.1 hM.1 hM.2.1 hM.2.2.1 hM.2.2.2 cfX9.1 (fun j hj => by cases (show j = 0 by omega); rfl) (Nat.le_of_ble_eq_true rfl) (Nat.le_of_ble_eq_true rfl) dX9_of_107 (fun q H1 h1 h2 h3 => ?_)
  have hM1 : MemW g A (wl lyC 48 g σ ρ (va_pl LP (skE kf)) ++ [(q, .inr (kci 0, [.int 0]))]) s.heap H1 [] := ⟨h1, h2, h3, hM.2.2.2⟩
  refine lv_dup S.1 S.2.1 dX9_of_110 rfl ?_
  refine lv_iload_n S.1 S.2.1 dX9_of_111 rfl (lv_at hl 1 rfl) ?_
  refine k_e (va_runI (As := [.int v]) (rest := [.ref q]) S (c_X9_init (k := 0) (i := (wl lyC 48 g σ ρ (va_pl LP (skE kf))).length) (x := 0) (by decide) (by simp)) (cwI 1 S.2.2.2.2 (ul_G (ul_c cw_X9_init)) rfl rfl rfl (S.2.2.2.2 _ tw_1_4) (S.2.2.2.2 _ tw_1_190) (S.2.2.2.2 _ tw_1_124) rfl (by decide +kernel) ⟨Nat.le_of_ble_eq_true rfl, Nat.le_of_ble_eq_true rfl⟩) ⟨PreW.blind, hM1.pre hK⟩ rfl rfl hl.1 rfl (lv_room (Nat.le_of_ble_eq_true rfl)) dX9_of_112 ⟨Nat.le_of_ble_eq_true rfl, Nat.le_of_ble_eq_true rfl⟩) hM1 (fun o w H1 locs1 hw hM => ?_)
  obtain ⟨rfl, hw⟩ := hw
  rw [set_last] at hw
  exact z_e S hM hr (Or.inl ⟨_, rfl⟩) (Or.inr ⟨_, rfl⟩) hlk (ofR (by unfold kof; rw [if_neg hz]) (by rw [← hw]; exact hM.2.1) hw) (Nat.le_of_ble_eq_true rfl) (Nat.le_of_ble_eq_true rfl) dX9_of_115
