/-! court and keep, with what stands after -/
theorem ix8 : ∀ {d : Nat}, d < 8 → ¬ (nI d < 0 ∨ 8 ≤ (nI d).toNatClampNeg) := fun {d} h => k8 (P := fun d => ¬ (nI d < 0 ∨ 8 ≤ (nI d).toNatClampNeg)) (by decide) (by decide) (by decide) (by decide) (by decide) (by decide) (by decide) (by decide) h
theorem cl8 : ∀ {d : Nat}, d < 8 → d = (nI d).toNatClampNeg := fun {d} h => k8 (P := fun d => d = (nI d).toNatClampNeg) (by decide) (by decide) (by decide) (by decide) (by decide) (by decide) (by decide) (by decide) h
/-- our answer and memory behind a call, by what the reference answers -/
def EndR (G : GE) (kf : KF) (y : Option (Int32 × IM)) (o : Option Value) (w : va_W) : Prop := ∃ (r : Int32) (μ' : IM) (LP' : List Nat) (kf' : KF) (σ' : IM) (ρ' : RM), y = some (r, μ') ∧ o = some (.int r) ∧ w = wl lyC 48 G σ' ρ' (va_pl LP' (skE kf')) ∧ PL LP' kf' ∧ Ext kf kf' ∧ All σ' ρ' kf' μ'
section ER
variable {t : Nat → Int32} {sz : Nat}
theorem er_st (hs : sz ≤ 100) : ∀ n p, 101 ≤ n + p → p ≤ 100 → erN t sz (n + 1) p = erN t sz n p ∧ (wfN t sz (n + 1) p → wfN t sz n p) := by
  intro n
  induction n with
  | zero => intro p a b; omega
  | succ n ih =>
    intro p a b
    have h3 := dgN_le (t p)
    have e1 : ∀ m, erN t sz (m + 1) p = (match errP t p with | some e => some e | none => if p + dgN (t p) + 2 < sz then erN t sz m (p + dgN (t p) + 2) else none) := fun m => rfl
    have e2 : ∀ m, wfN t sz (m + 1) p = (errP t p = none ∧ (p + dgN (t p) + 2 < sz → wfN t sz m (p + dgN (t p) + 2))) := fun m => rfl
    rw [e1 (n + 1), e1 n, e2 (n + 1), e2 n]
    by_cases c : p + dgN (t p) + 2 < sz
    · obtain ⟨i1, i2⟩ := ih _ (show 101 ≤ n + (p + dgN (t p) + 2) by omega) (by omega)
      rw [if_pos c, if_pos c, i1]
      exact ⟨rfl, fun h => ⟨h.1, fun x => i2 (h.2 x)⟩⟩
    · rw [if_neg c, if_neg c]
      exact ⟨rfl, fun h => ⟨h.1, fun x => absurd x c⟩⟩
theorem er_200 (hs : sz ≤ 100) (k : Nat) : erN t sz (200 + k) 0 = erN t sz 200 0 ∧ (wfN t sz (200 + k) 0 → wfN t sz 200 0) := by
  induction k with
  | zero => exact ⟨rfl, id⟩
  | succ k ih =>
    obtain ⟨a, b⟩ := er_st (t := t) hs (200 + k) 0 (by omega) (by omega)
    exact ⟨a.trans ih.1, fun h => ih.2 (b h)⟩
end ER
theorem er_0 {μ : IM} {d : Nat} : erN (tx μ d 0) 0 200 0 = some 0 := by
  have e : errP (tx μ d 0) 0 = some 0 := by
    unfold errP
    rw [tx_0 (Nat.le_refl _)]
    rfl
  unfold erN
  rw [e]
theorem C_wrongByteF {σ : IM} {ρ : RM} {kf : KF} {μ : IM} {d so sz : Nat} (g : ShR σ ρ μ d so sz) : (∃ e, erN (tx μ d sz) sz 200 0 = some e ∧ e ≤ 110 ∧ X2_wrongByte kf σ ρ d = some (nI e)) ∨ (0 < sz ∧ erN (tx μ d sz) sz 200 0 = none ∧ X2_wrongByte kf σ ρ d = some (-1) ∧ wfN (tx μ d sz) sz 200 0) := by
  have hs := g.2.2.2.1
  obtain ⟨q1, q2⟩ := er_200 (t := tx μ d sz) hs 800
  rcases C_wrongByteE (kf := kf) g 1000 0 (by omega) (by omega) with ⟨e, a, b, c⟩ | ⟨a, b, c⟩
  · exact Or.inl ⟨e, q1.symm.trans a, b, c⟩
  · refine Or.inr ⟨?_, q1.symm.trans a, b, q2 c⟩
    rcases Nat.eq_zero_or_pos sz with z | z
    · subst z
      rw [show (200 : Nat) + 800 = 1000 from rfl] at q1
      rw [q1, er_0] at a
      cases a
    · exact z
set_option maxRecDepth 20000 in
theorem c_courtE {l : Launch} {G : GE} {A : Nat → Prop} {LP : List Nat} {kf : KF} {σ : IM} {ρ : RM} {μ : IM} {a1 : Int32} (hPL : PL LP kf) (h : All σ ρ kf μ) : Met l yX11_court (.code yX11_court cX11_court 5 (some .int) :: UL) ({ frames := 7, cells := 128, slots := 128, locals := 160 }) (va_Pc [.ref (G.2.2 0), .int a1] (PreM lyC 48 G A (va_pl LP (skE kf)) σ ρ)) (QE G A (EndR G kf (X12_court μ a1))) 128 128 A := by
  refine e_of2 (by decide) (Nat.le_of_ble_eq_true rfl) ?_
  intro p e s m below meth c ls S hr hlk hnm hv hl
  have hM := Mem.of hv
  have hK := hv.2.1
  have hl : lv_has ls 5 [(0, .ref (G.2.2 0)), (1, .int a1)] := hl
  have h0 := h
  obtain ⟨⟨f, hf⟩, hrst⟩ := h
  refine lv_aload_n S.1 S.2.1 dX11_court_0 rfl (lv_at hl 0 rfl) ?_
  refine lv_iload_n S.1 S.2.1 dX11_court_1 rfl (lv_at hl 1 rfl) ?_
  refine lv_iconst (v := 1) S.1 S.2.1 dX11_court_2 (by decide) ?_
  have call1 : ∀ {r : Int32}, X11_refusalOf kf σ ρ a1 1 = some r → W p l e ({ frames := 7, cells := 128, slots := 128, locals := 160 }) s m [Value.ref (G.2.2 0), .int a1].toArray below meth c s.heap [] 0 0 (MQ below (QE G A (EndR G kf (X12_court μ a1))) [Value.ref (G.2.2 0), .int a1].toArray s 128 128 A) (F0 m 6 ls [.int r]) → W p l e ({ frames := 7, cells := 128, slots := 128, locals := 160 }) s m [Value.ref (G.2.2 0), .int a1].toArray below meth c s.heap [] 0 0 (MQ below (QE G A (EndR G kf (X12_court μ a1))) [Value.ref (G.2.2 0), .int a1].toArray s 128 128 A) (F0 m 3 ls [.int 1, .int a1, .ref (G.2.2 0)]) := fun er k =>
    k_p (va_runV (As := [.int a1, .int 1]) (rest := []) S (c_X11_refusalOf hPL er) (cwV 2 S.2.2.2.2 (ul_V tw_1_225 tw_1_227 ts_X11_refusalOf tw_1_1 cw_X11_refusalOf) rfl rfl rfl hv_X11_refusalOf ⟨Nat.le_of_ble_eq_true rfl, Nat.le_of_ble_eq_true rfl⟩) ⟨PreM.blind, hM.recv hK cfX11 0 (by decide) ly_0, hM.pre hK⟩ rfl rfl hl.1 rfl (lv_room (Nat.le_of_ble_eq_true rfl)) dX11_court_3 ⟨Nat.zero_le _, Nat.zero_le _⟩) k
  rcases wantR hrst.2.1 a1 with ⟨d, so, sz, hd, rfl, hS, q1, q2⟩ | ⟨r, hr0, q1, q2⟩
  rotate_left
  · refine call1 q1 ?_
    refine lv_istore_n (lv' := [(2, .int r), (0, .ref (G.2.2 0)), (1, .int a1)]) S.1 S.2.1 dX11_court_6 rfl hl (by decide) rfl (fun ls hl => ?_)
    refine lv_iload_n S.1 S.2.1 dX11_court_7 rfl (lv_at hl 0 rfl) ?_
    refine lv_if_eq (tgt := 13) S.1 S.2.1 dX11_court_8 (by decide) (fun b => absurd b hr0) (fun _ => ?_)
    refine lv_iload_n S.1 S.2.1 dX11_court_11 rfl (lv_at hl 0 rfl) ?_
    refine z_ei S hM.w hr rfl hlk ⟨r, μ, LP, kf, σ, ρ, ?_, rfl, rfl, hPL, Ext.rf, h0⟩ (Nat.zero_le _) (Nat.zero_le _) dX11_court_12
    unfold X12_court
    rw [q2, bd1_s, if_neg hr0]
  refine call1 q1 ?_
  refine lv_istore_n (lv' := [(2, .int 0), (0, .ref (G.2.2 0)), (1, .int (nI d))]) S.1 S.2.1 dX11_court_6 rfl hl (by decide) rfl (fun ls hl => ?_)
  refine lv_iload_n S.1 S.2.1 dX11_court_7 rfl (lv_at hl 0 rfl) ?_
  refine lv_if_eq (tgt := 13) S.1 S.2.1 dX11_court_8 (by decide) (fun _ => ?_) (fun b => absurd rfl b)
  refine lv_aload_n S.1 S.2.1 dX11_court_13 rfl (lv_at hl 1 rfl) ?_
  refine r_getC S hK hM cfX11 0 4 28 (by decide) ly_0 rfl (by decide) tw_1_197 dX11_court_14 ?_
  refine lv_iload_n S.1 S.2.1 dX11_court_17 rfl (lv_at hl 2 rfl) ?_
  have hj : ¬ (nI d < 0 ∨ 8 ≤ (nI d).toNatClampNeg) := ix8 hd
  have ej : d = (nI d).toNatClampNeg := cl8 hd
  refine r_aaldS S hK hM 28 (by decide) ly_28 hj ej dX11_court_18 ?_
  refine lv_astore_n (lv' := [(3, .ref (G.2.2 (29 + 2 * d))), (2, .int 0), (0, .ref (G.2.2 0)), (1, .int (nI d))]) S.1 S.2.1 dX11_court_19 rfl hl (by decide) rfl (fun ls hl => ?_)
  refine lv_aload_n S.1 S.2.1 dX11_court_20 rfl (lv_at hl 0 rfl) ?_
  refine r_getI S hK hM cfX7 (29 + 2 * d) 2 (sh_lt hd) (ly_sh hd) rfl (by decide) tw_1_102 dX11_court_21 ?_
  rw [hS.2.2.2.2.1]
  by_cases z : so = 0
  rotate_left
  · have hnz : ¬ nI so = 0 := nI_ne0 (by omega) (by have := hS.2.2.1; omega)
    refine lv_if_eq (tgt := 30) S.1 S.2.1 dX11_court_24 (by decide) (fun b => absurd b hnz) (fun _ => ?_)
    refine lv_bipush (v := (-12)) S.1 S.2.1 dX11_court_27 (by decide) ?_
    refine z_ei S hM.w hr rfl hlk ⟨-12, μ, LP, kf, σ, ρ, ?_, rfl, rfl, hPL, Ext.rf, h0⟩ (Nat.zero_le _) (Nat.zero_le _) dX11_court_29
    unfold X12_court
    rw [q2, bd1_s, if_neg (show ¬ (0 : Int32) < 0 by decide), if_neg hnz]
    rfl
  subst z
  refine lv_if_eq (tgt := 30) S.1 S.2.1 dX11_court_24 (by decide) (fun _ => ?_) (fun b => absurd rfl b)
  refine lv_aload_n S.1 S.2.1 dX11_court_30 rfl (lv_at hl 0 rfl) ?_
  have call2 : ∀ {r : Int32}, X2_wrongByte kf σ ρ d = some r → W p l e ({ frames := 7, cells := 128, slots := 128, locals := 160 }) s m [Value.ref (G.2.2 0), .int (nI d)].toArray below meth c s.heap [] 0 0 (MQ below (QE G A (EndR G kf (X12_court μ (nI d)))) [Value.ref (G.2.2 0), .int (nI d)].toArray s 128 128 A) (F0 m 34 ls [.int r]) → W p l e ({ frames := 7, cells := 128, slots := 128, locals := 160 }) s m [Value.ref (G.2.2 0), .int (nI d)].toArray below meth c s.heap [] 0 0 (MQ below (QE G A (EndR G kf (X12_court μ (nI d)))) [Value.ref (G.2.2 0), .int (nI d)].toArray s 128 128 A) (F0 m 31 ls [.ref (G.2.2 (29 + 2 * d))]) := fun er k =>
    k_p (va_runS (As := [.ref (G.2.2 (29 + 2 * d))]) (rest := []) S (c_X2_wrongByte hPL hd er) (va_cwS 1 S.2.2.2.2 (ul_S tw_2_1 tw_2_2 tw_1_13 cw_X2_wrongByte) rfl rfl rfl hs_X2_wrongByte ⟨Nat.le_of_ble_eq_true rfl, Nat.le_of_ble_eq_true rfl⟩) ⟨PreM.blind, hM.pre hK⟩ rfl rfl hl.1 rfl (lv_room (Nat.le_of_ble_eq_true rfl)) dX11_court_31 ⟨Nat.zero_le _, Nat.zero_le _⟩) k
  rcases C_wrongByteF (kf := kf) hS with ⟨er, k1, k2, k3⟩ | ⟨hsz, k1, k3, k4⟩
  · refine call2 k3 ?_
    refine lv_istore (lv' := [(4, .int (nI er)), (3, .ref (G.2.2 (29 + 2 * d))), (2, .int 0), (0, .ref (G.2.2 0)), (1, .int (nI d))]) S.1 S.2.1 dX11_court_34 hl (by decide) rfl (fun ls hl => ?_)
    refine lv_iload S.1 S.2.1 dX11_court_36 (lv_at hl 0 rfl) ?_
    refine lv_if_lt (tgt := 48) S.1 S.2.1 dX11_court_38 (by decide) (fun b => absurd b (nn (by omega))) (fun _ => ?_)
    refine lv_sipush (v := (-1000)) S.1 S.2.1 dX11_court_41 (by decide) ?_
    refine lv_iload S.1 S.2.1 dX11_court_44 (lv_at hl 0 rfl) ?_
    refine lv_isub S.1 S.2.1 dX11_court_46 ?_
    rcases R_courtE hf hS hd with ⟨er', μ', b1, b2, b3, b4⟩ | ⟨b1, -⟩
    · rw [k1] at b1
      cases b1
      exact z_ei S hM.w hr rfl hlk ⟨_, μ', LP, kf, σ, ρ, b3, rfl, rfl, hPL, Ext.rf, h0.fr FC.rf b4⟩ (Nat.zero_le _) (Nat.zero_le _) dX11_court_47
    · rw [k1] at b1
      cases b1
  refine call2 k3 ?_
  rcases R_courtE hf hS hd with ⟨er', μ', b1, -⟩ | ⟨-, b2⟩
  · rw [k1] at b1
    cases b1
  obtain ⟨μ', b2, b3, b4⟩ := b2 hsz k4
  refine lv_istore (lv' := [(4, .int (-1)), (3, .ref (G.2.2 (29 + 2 * d))), (2, .int 0), (0, .ref (G.2.2 0)), (1, .int (nI d))]) S.1 S.2.1 dX11_court_34 hl (by decide) rfl (fun ls hl => ?_)
  refine lv_iload S.1 S.2.1 dX11_court_36 (lv_at hl 0 rfl) ?_
  refine lv_if_lt (tgt := 48) S.1 S.2.1 dX11_court_38 (by decide) (fun _ => ?_) (fun b => absurd (by decide) b)
  refine lv_aload_n S.1 S.2.1 dX11_court_48 rfl (lv_at hl 3 rfl) ?_
  refine r_getC S hK hM cfX11 0 1 10 (by decide) ly_0 rfl (by decide) tw_1_194 dX11_court_49 ?_
  refine lv_aload_n S.1 S.2.1 dX11_court_52 rfl (lv_at hl 3 rfl) ?_
  refine r_getC S hK hM cfX11 0 0 1 (by decide) ly_0 rfl (by decide) tw_1_193 dX11_court_53 ?_
  obtain ⟨σ1, ρ1, m1, m2, m3, -⟩ := M_become hf
  refine k_m (va_runV (As := [.ref (G.2.2 1)]) (rest := []) S (c_X1_become hPL ct_10 ct_1 m1) (cwV 1 S.2.2.2.2 (ul_V tw_2_18 tw_2_19 tw_2_20 tw_1_2 cw_X1_become) rfl rfl rfl hv_X1_become ⟨Nat.le_of_ble_eq_true rfl, Nat.le_of_ble_eq_true rfl⟩) ⟨PreM.blind, hM.recv hK cfX1 10 (ct_lt0 ct_10) (ly_ct ct_10), hM.pre hK⟩ rfl rfl hl.1 rfl (lv_room (Nat.le_of_ble_eq_true rfl)) dX11_court_56 ⟨Nat.zero_le _, Nat.zero_le _⟩) hM (fun H locs hM => ?_)
  show W _ _ _ _ _ _ _ _ _ _ _ _ _ _ _ (F0 m 59 ls [])
  have hS1 := hS.fr hd m3 FR.rf
  refine lv_aload_n S.1 S.2.1 dX11_court_59 rfl (lv_at hl 1 rfl) ?_
  refine lv_aload_n S.1 S.2.1 dX11_court_60 rfl (lv_at hl 3 rfl) ?_
  refine r_getC S hK hM cfX11 0 1 10 (by decide) ly_0 rfl (by decide) tw_1_194 dX11_court_61 ?_
  refine k_e (va_runS (As := [.ref (G.2.2 (29 + 2 * d)), .ref (G.2.2 10)]) (rest := []) S (c_X2_wrongStatement (g := f) hd hPL hS1 (fun _ => k4) hf.1 hf.2.1 m2) (va_cwS 2 S.2.2.2.2 (ul_S tw_2_25 tw_2_26 tw_1_13 cw_X2_wrongStatement) rfl rfl rfl hs_X2_wrongStatement ⟨Nat.le_of_ble_eq_true rfl, Nat.le_of_ble_eq_true rfl⟩) ⟨PreM.blind, hM.pre hK⟩ rfl rfl hl.1 rfl (lv_room (Nat.le_of_ble_eq_true rfl)) dX11_court_64 ⟨Nat.le_of_ble_eq_true rfl, Nat.le_of_ble_eq_true rfl⟩) hM.w (fun o w H1 locs1 hw hM => ?_)
  obtain ⟨LP', kf', σ2, ρ2, rfl, hPL', hX, hF2, hE⟩ := hw
  have hM := hM.m
  have eX : runX (tx μ d sz) sz 200 0 f = runF (tx μ d sz) sz 200 0 f := if_pos hsz
  rw [eX] at hE
  have hF := m3.tr hF2
  have hR2 := hrst.keep (σ' := σ2) (ρ' := ρ2) (μ' := μ') ⟨fun i l1 l2 => hF.2.1 i (by omega) l2, hF.2.2.1, fun i l1 l2 => hF.2.2.2 i (by omega)⟩ b3
  rcases hE with ⟨x1, rfl, x2, x3, x4⟩ | ⟨q, x1, x2, rfl⟩
  rotate_left
  · rw [x1] at b2 b4
    show W _ _ _ _ _ _ _ _ _ _ _ _ _ _ _ (F0 m 67 ls [.int (nI q)])
    refine lv_istore (lv' := [(4, .int (nI q)), (3, .ref (G.2.2 (29 + 2 * d))), (2, .int 0), (0, .ref (G.2.2 0)), (1, .int (nI d))]) S.1 S.2.1 dX11_court_67 hl (by decide) rfl (fun ls hl => ?_)
    refine lv_iload S.1 S.2.1 dX11_court_69 (lv_at hl 0 rfl) ?_
    refine lv_if_lt (tgt := 81) S.1 S.2.1 dX11_court_71 (by decide) (fun b => absurd b (nn (by omega))) (fun _ => ?_)
    refine lv_sipush (v := (-2000)) S.1 S.2.1 dX11_court_74 (by decide) ?_
    refine lv_iload S.1 S.2.1 dX11_court_77 (lv_at hl 0 rfl) ?_
    refine lv_isub S.1 S.2.1 dX11_court_79 ?_
    have hN : Now σ2 ρ2 kf μ' f := ⟨hf.1, hf.2.1, hf.2.2.1.congr (fun i l1 l2 => hF.1 i (by omega) (by omega)), hf.2.2.2.1.congr (hF.2.2.2 _ (by omega)), b4⟩
    exact z_ei S hM.w hr rfl hlk ⟨_, μ', LP', kf', σ2, ρ2, b2, rfl, rfl, hPL', hX, All.ext ⟨⟨f, hN⟩, hR2⟩ hX⟩ (by omega) (by omega) dX11_court_80
  · rw [x1] at b2 b4
    show W _ _ _ _ _ _ _ _ _ _ _ _ _ _ _ (F0 m 67 ls [.int (-1)])
    refine lv_istore (lv' := [(4, .int (-1)), (3, .ref (G.2.2 (29 + 2 * d))), (2, .int 0), (0, .ref (G.2.2 0)), (1, .int (nI d))]) S.1 S.2.1 dX11_court_67 hl (by decide) rfl (fun ls hl => ?_)
    refine lv_iload S.1 S.2.1 dX11_court_69 (lv_at hl 0 rfl) ?_
    refine lv_if_lt (tgt := 81) S.1 S.2.1 dX11_court_71 (by decide) (fun _ => ?_) (fun b => absurd (by decide) b)
    refine lv_aload_n S.1 S.2.1 dX11_court_81 rfl (lv_at hl 3 rfl) ?_
    refine r_getC S hK hM cfX11 0 0 1 (by decide) ly_0 rfl (by decide) tw_1_193 dX11_court_82 ?_
    refine lv_aload_n S.1 S.2.1 dX11_court_85 rfl (lv_at hl 3 rfl) ?_
    refine r_getC S hK hM cfX11 0 1 10 (by decide) ly_0 rfl (by decide) tw_1_194 dX11_court_86 ?_
    obtain ⟨σ3, ρ3, n1, n2, n3, n4, n5⟩ := C_become (c0 := 1) (c1 := 10) (Or.inr (by omega)) x2.1 x2.2 x3.1
    refine k_m (va_runV (As := [.ref (G.2.2 10)]) (rest := []) S (c_X1_become hPL' ct_1 ct_10 n1) (cwV 1 S.2.2.2.2 (ul_V tw_2_18 tw_2_19 tw_2_20 tw_1_2 cw_X1_become) rfl rfl rfl hv_X1_become ⟨Nat.le_of_ble_eq_true rfl, Nat.le_of_ble_eq_true rfl⟩) ⟨PreM.blind, hM.recv hK cfX1 1 (ct_lt0 ct_1) (ly_ct ct_1), hM.pre hK⟩ rfl rfl hl.1 rfl (lv_room (Nat.le_of_ble_eq_true rfl)) dX11_court_89 ⟨Nat.le_of_ble_eq_true rfl, Nat.le_of_ble_eq_true rfl⟩) hM (fun H locs hM => ?_)
    show W _ _ _ _ _ _ _ _ _ _ _ _ _ _ _ (F0 m 92 ls [])
    refine lv_aload_n S.1 S.2.1 dX11_court_92 rfl (lv_at hl 1 rfl) ?_
    have hS3 : ShR σ3 ρ3 μ' d 0 sz := by
      obtain ⟨g1, g2, g3, g4, g5, g6, g7, g8, g9, gb⟩ := hS1.fr hd hF2 FR.rf
      refine ⟨by rw [b3.2.1 7 (by omega)]; exact g1, by rw [n5 _ (by omega)]; exact g2, g3, g4, by rw [n4 _ (by omega)]; exact g5, by rw [b3.2.1 10 (by omega)]; exact g6, by rw [n4 _ (by omega)]; exact g7, by rw [b3.2.1 11 (by omega)]; exact g8, fun i hi => ?_, fun e i hi => ?_⟩
      · rw [n4 _ (by omega), b3.2.1 12 (by omega)]
        exact g9 i hi
      · rw [b3.2.1 12 (by omega)]
        exact gb e i hi
    have etx : tx μ' d sz = tx μ d sz := by
      funext i
      unfold tx
      rw [b3.2.1 12 (by omega)]
    refine k_p (va_runS (As := [.ref (G.2.2 (29 + 2 * d))]) (rest := []) S (c_X2_statements hPL' hd (C_statements hS3)) (va_cwS 1 S.2.2.2.2 (ul_S tw_2_205 tw_2_206 tw_1_13 cw_X2_statements) rfl rfl rfl hs_X2_statements ⟨Nat.le_of_ble_eq_true rfl, Nat.le_of_ble_eq_true rfl⟩) ⟨PreM.blind, hM.pre hK⟩ rfl rfl hl.1 rfl (lv_room (Nat.le_of_ble_eq_true rfl)) dX11_court_93 ⟨Nat.le_of_ble_eq_true rfl, Nat.le_of_ble_eq_true rfl⟩) ?_
    have est : csN (tx μ' d sz) sz = stN (tx μ d sz) sz 200 0 := by
      rw [etx]
      have := csN_st (t := tx μ d sz) (sz := sz) (fun i hi => tx_0 hi) 200 0 hsz k4
      rw [this]
      exact Nat.zero_add _
    rw [est]
    have hN : Now σ3 ρ3 kf' μ' (runF (tx μ d sz) sz 200 0 f).2 := ⟨x3, x4, n2, n3, b4⟩
    have hR3 : Rst σ3 ρ3 kf μ' := hR2.keep (μ' := μ') ⟨fun i l1 l2 => n4 i (by omega), by rw [n4 0 (by omega)], fun i l1 l2 => n5 i (by omega)⟩ ⟨rfl, fun _ _ => rfl, rfl⟩
    have hA3 : All σ3 ρ3 kf' μ' := by
      obtain ⟨g1, g2, g3⟩ := hR3
      refine ⟨⟨_, hN⟩, ?_, fun d hd => (g2 d hd).ext hX, fun k hk => ?_⟩
      · rcases g1 with g1 | ⟨a, b, g, c1, c2, c3, c4, c5⟩
        · exact Or.inl g1
        · exact Or.inr ⟨a, b, g, c1, c2, c3, c4.ext hX, c5⟩
      · obtain ⟨q, a, b⟩ := g3 k hk
        exact ⟨q, a, hX q _ b⟩
    exact z_ei S hM.w hr rfl hlk ⟨_, μ', LP', kf', σ3, ρ3, b2, rfl, rfl, hPL', hX, hA3⟩ (by omega) (by omega) dX11_court_96
