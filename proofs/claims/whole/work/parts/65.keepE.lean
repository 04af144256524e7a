/-! keep, both ways; and calls of all kinds brought to one form -/
section RR
variable {p : Program} {l : Launch} {e : Env} {R : Room} {s : State} {m : MethodId} {args : Array Value} {below : List Frame} {meth : Method} {c : Code} {H : Heap} {locs : List Loc} {cells slots : Nat} {rest : List Value} {gf : JFrame} {a : Array Value} {g : GE} {A : Nat → Prop} {Rr : Option Value → va_W → Prop} {v : Option Value}
theorem run_m {ly : LY} {N : Nat} {X : va_W} {σ : IM} {ρ : RM} {mc ms : Nat} (h : va_Run p l e R s m args below meth c H locs cells slots 0 0 gf rest (Qm ly N g A X σ ρ v a) A) (hR : Rr v (wl ly N g σ ρ X)) : va_Run p l e R s m args below meth c H locs cells slots mc ms gf rest (QE g A Rr a) A := by
  intro T hT X1
  obtain ⟨w, st₀, t, T', L, h0, X2, hL, e1, e2, ⟨hv, hp, hd, hf⟩, st⟩ := h T hT X1
  exact ⟨w, st₀, t, T', L, h0, stand_widen X2 (by omega) (by omega), hL, e1, e2, ⟨v, _, hR, hv, hp, hd, hf⟩, st⟩
theorem run_p {ws : va_W} {H0 : Heap} {mc ms : Nat} (h : va_Run p l e R s m args below meth c H locs cells slots 0 0 gf rest (Qp v a) NoA) (hM : MemW g A ws H0 H locs) (hR : Rr v ws) : va_Run p l e R s m args below meth c H locs cells slots mc ms gf rest (QE g A Rr a) A := by
  intro T hT X1
  obtain ⟨w, st₀, t, T', L, h0, X2, hL, e1, e2, ⟨hv, hh⟩, st⟩ := h T hT X1
  exact ⟨w, st₀, t, T', L, h0, stand_widen X2 (by omega) (by omega), fun q hq => (hL q hq).elim, e1, e2, ⟨v, ws, hR, hv, by rw [hh, h0]; exact hM.1, hM.2.1, ⟨by rw [hh]; exact Nat.le_refl _, fun q _ _ => by rw [hh]⟩⟩, st⟩
theorem run_e {mc ms mc' ms' : Nat} {Ro : Option Value → va_W → Prop} (h : va_Run p l e R s m args below meth c H locs cells slots mc ms gf rest (QE g A Ro a) A) (h1 : mc ≤ mc') (h2 : ms ≤ ms') (hR : ∀ v w, Ro v w → Rr v w) : va_Run p l e R s m args below meth c H locs cells slots mc' ms' gf rest (QE g A Rr a) A := by
  intro T hT X1
  obtain ⟨w, st₀, t, T', L, h0, X2, hL, e1, e2, ⟨v, ws, hr, hv, hp⟩, st⟩ := h T hT X1
  exact ⟨w, st₀, t, T', L, h0, stand_widen X2 (by omega) (by omega), hL, e1, e2, ⟨v, ws, hR v ws hr, hv, hp⟩, st⟩
end RR
theorem met_imp {l : Launch} {y : MethodName} {ws : List Cond} {rm : Room} {Pc : Array Value → State → Prop} {g : GE} {A : Nat → Prop} {Ro Rr : Option Value → va_W → Prop} {mc ms : Nat} (h : Met l y ws rm Pc (QE g A Ro) mc ms A) (hR : ∀ v w, Ro v w → Rr v w) : Met l y ws rm Pc (QE g A Rr) mc ms A := by
  refine MetFree.mono (show MetFree _ _ _ _ _ _ from h) (fun _ _ h => h) (fun _ _ _ _ _ h => h) (fun a st oc t _ hq => ⟨?_, hq.2⟩)
  obtain ⟨v, w, h1, h2⟩ := hq.1
  exact ⟨v, w, hR v w h1, h2⟩
theorem EndR.of3 {G : GE} {LP : List Nat} {kf : KF} {x : Int32 × IM × RM} {y : Option (Int32 × IM)} (hPL : PL LP kf) {X : Option (Int32 × IM × RM)} (h : Same3 kf X y) (hx : X = some x) : EndR G kf y (some (.int x.1)) (wl lyC 48 G x.2.1 x.2.2 (va_pl LP (skE kf))) := by
  obtain ⟨r, σ', ρ', μ', e1, e2, h3⟩ := h
  cases e1.symm.trans hx
  exact ⟨r, μ', LP, kf, σ', ρ', e2, rfl, rfl, hPL, Ext.rf, h3⟩
set_option maxRecDepth 20000 in
theorem c_keepN {l : Launch} {g : GE} {A : Nat → Prop} {LP : List Nat} {kf : KF} {σ : IM} {ρ : RM} {a1 : Int32} {a2 : Int32} {a3 : Int32} {a4 : Int32} {out : Int32 × IM × RM} {Rr : Option Value → va_W → Prop} (hPL : PL LP kf) (hF : X11_keep kf σ ρ a1 a2 a3 a4 = some out) (hRr : Rr (some (.int out.1)) (wl lyC 48 g out.2.1 out.2.2 (va_pl LP (skE kf)))) : Met l yX11_keep (.code yX11_keep cX11_keep 5 (some .int) :: UL) ({ frames := 5, cells := 1, slots := 1, locals := 105 }) (va_Pc [.ref (g.2.2 0), .int a1, .int a2, .int a3, .int a4] (PreM lyC 48 g A (va_pl LP (skE kf)) σ ρ)) (QE g A Rr) 1 1 A := by
  refine e_of2 (by decide) (Nat.le_of_ble_eq_true rfl) ?_
  intro p e s m below meth c ls S hr hlk hnm hv hl
  have hM := Mem.of hv
  have hK := hv.2.1
  have hl : lv_has ls 5 [(0, .ref (g.2.2 0)), (1, .int a1), (2, .int a2), (3, .int a3), (4, .int a4)] := hl
  unfold X11_keep at hF
  refine lv_iload_n S.1 S.2.1 dX11_keep_0 rfl (lv_at hl 1 rfl) ?_
  refine lv_bipush (v := 8) S.1 S.2.1 dX11_keep_1 (by decide) ?_
  obtain ⟨r1, er1, hF⟩ := bd1_some hF
  refine k_p (va_runS (As := [.int a1, .int 8]) (rest := []) S (c_X11_isBelow hPL  er1) (va_cwS 2 S.2.2.2.2 (ul_S tw_1_229 tw_1_230 tw_1_1 cw_X11_isBelow) rfl rfl rfl hs_X11_isBelow ⟨Nat.le_of_ble_eq_true rfl, Nat.le_of_ble_eq_true rfl⟩) ⟨PreM.blind, hM.pre hK⟩ rfl rfl hl.1 rfl (lv_room (Nat.le_of_ble_eq_true rfl)) dX11_keep_3 ⟨Nat.zero_le _, Nat.zero_le _⟩) ?_
  refine lv_if_eq (tgt := 17) S.1 S.2.1 dX11_keep_6 (by decide) (fun b2 => ?_) (fun b2 => ?_)
  · have hF := (if_pos b2).symm.trans hF
    refine lv_iconst (v := (-1)) S.1 S.2.1 dX11_keep_17 (by decide) ?_
    cases hF
    exact z_ei S hM.w hr rfl hlk hRr (Nat.zero_le _) (Nat.zero_le _) dX11_keep_18
  · have hF := (if_neg b2).symm.trans hF
    refine lv_iload_n S.1 S.2.1 dX11_keep_9 rfl (lv_at hl 2 rfl) ?_
    refine lv_iconst (v := 2) S.1 S.2.1 dX11_keep_10 (by decide) ?_
    obtain ⟨r3, er3, hF⟩ := bd1_some hF
    refine k_p (va_runS (As := [.int a2, .int 2]) (rest := []) S (c_X11_isBelow hPL  er3) (va_cwS 2 S.2.2.2.2 (ul_S tw_1_229 tw_1_230 tw_1_1 cw_X11_isBelow) rfl rfl rfl hs_X11_isBelow ⟨Nat.le_of_ble_eq_true rfl, Nat.le_of_ble_eq_true rfl⟩) ⟨PreM.blind, hM.pre hK⟩ rfl rfl hl.1 rfl (lv_room (Nat.le_of_ble_eq_true rfl)) dX11_keep_11 ⟨Nat.zero_le _, Nat.zero_le _⟩) ?_
    refine lv_if_ne (tgt := 19) S.1 S.2.1 dX11_keep_14 (by decide) (fun b4 => ?_) (fun b4 => ?_)
    · have hF := (if_neg b4).symm.trans hF
      refine lv_iload_n S.1 S.2.1 dX11_keep_19 rfl (lv_at hl 2 rfl) ?_
      refine lv_if_ne (tgt := 34) S.1 S.2.1 dX11_keep_20 (by decide) (fun b5 => ?_) (fun b5 => ?_)
      · have hF := (if_neg b5).symm.trans hF
        refine lv_iload_n S.1 S.2.1 dX11_keep_34 rfl (lv_at hl 3 rfl) ?_
        refine lv_bipush (v := 8) S.1 S.2.1 dX11_keep_35 (by decide) ?_
        obtain ⟨r6, er6, hF⟩ := bd1_some hF
        refine k_p (va_runS (As := [.int a3, .int 8]) (rest := []) S (c_X11_isBelow hPL  er6) (va_cwS 2 S.2.2.2.2 (ul_S tw_1_229 tw_1_230 tw_1_1 cw_X11_isBelow) rfl rfl rfl hs_X11_isBelow ⟨Nat.le_of_ble_eq_true rfl, Nat.le_of_ble_eq_true rfl⟩) ⟨PreM.blind, hM.pre hK⟩ rfl rfl hl.1 rfl (lv_room (Nat.le_of_ble_eq_true rfl)) dX11_keep_37 ⟨Nat.zero_le _, Nat.zero_le _⟩) ?_
        refine lv_if_eq (tgt := 53) S.1 S.2.1 dX11_keep_40 (by decide) (fun b7 => ?_) (fun b7 => ?_)
        · have hF := (if_pos b7).symm.trans hF
          refine lv_iconst (v := (-1)) S.1 S.2.1 dX11_keep_53 (by decide) ?_
          cases hF
          exact z_ei S hM.w hr rfl hlk hRr (Nat.zero_le _) (Nat.zero_le _) dX11_keep_54
        · have hF := (if_neg b7).symm.trans hF
          refine lv_iload S.1 S.2.1 dX11_keep_43 (lv_at hl 4 rfl) ?_
          refine lv_bipush (v := 10) S.1 S.2.1 dX11_keep_45 (by decide) ?_
          obtain ⟨r8, er8, hF⟩ := bd1_some hF
          refine k_p (va_runS (As := [.int a4, .int 10]) (rest := []) S (c_X11_isBelow hPL  er8) (va_cwS 2 S.2.2.2.2 (ul_S tw_1_229 tw_1_230 tw_1_1 cw_X11_isBelow) rfl rfl rfl hs_X11_isBelow ⟨Nat.le_of_ble_eq_true rfl, Nat.le_of_ble_eq_true rfl⟩) ⟨PreM.blind, hM.pre hK⟩ rfl rfl hl.1 rfl (lv_room (Nat.le_of_ble_eq_true rfl)) dX11_keep_47 ⟨Nat.zero_le _, Nat.zero_le _⟩) ?_
          refine lv_if_ne (tgt := 55) S.1 S.2.1 dX11_keep_50 (by decide) (fun b9 => ?_) (fun b9 => ?_)
          · have hF := (if_neg b9).symm.trans hF
            refine lv_aload_n S.1 S.2.1 dX11_keep_55 rfl (lv_at hl 0 rfl) ?_
            refine r_getC S hK hM cfX11 0 4 28 (by decide) ly_0 rfl (by decide) tw_1_197 dX11_keep_56 ?_
            refine lv_iload_n S.1 S.2.1 dX11_keep_59 rfl (lv_at hl 1 rfl) ?_
            obtain ⟨hj10, j10, ej10, lj10, hF⟩ := ix_some hF
            refine r_aaldS S hK hM 28 (by decide) ly_28 hj10 ej10 dX11_keep_60 ?_
            refine lv_iload_n S.1 S.2.1 dX11_keep_61 rfl (lv_at hl 3 rfl) ?_
            refine lv_iload S.1 S.2.1 dX11_keep_62 (lv_at hl 4 rfl) ?_
            cases hF
          · have hF := (if_pos b9).symm.trans hF
            refine lv_iconst (v := (-1)) S.1 S.2.1 dX11_keep_53 (by decide) ?_
            cases hF
            exact z_ei S hM.w hr rfl hlk hRr (Nat.zero_le _) (Nat.zero_le _) dX11_keep_54
      · have hF := (if_pos b5).symm.trans hF
        refine lv_aload_n S.1 S.2.1 dX11_keep_23 rfl (lv_at hl 0 rfl) ?_
        refine r_getC S hK hM cfX11 0 4 28 (by decide) ly_0 rfl (by decide) tw_1_197 dX11_keep_24 ?_
        refine lv_iload_n S.1 S.2.1 dX11_keep_27 rfl (lv_at hl 1 rfl) ?_
        obtain ⟨hj11, j11, ej11, lj11, hF⟩ := ix_some hF
        refine r_aaldS S hK hM 28 (by decide) ly_28 hj11 ej11 dX11_keep_28 ?_
        obtain ⟨σ12, ρ13, er14, hF⟩ := bd2_some hF
        refine k_m (va_runV (As := []) (rest := []) S (c_X7_clear hPL lj11 er14) (cwV 0 S.2.2.2.2 (ul_V tw_4_55 tw_4_56 tw_4_57 tw_1_3 cw_X7_clear) rfl rfl rfl hv_X7_clear ⟨Nat.le_of_ble_eq_true rfl, Nat.le_of_ble_eq_true rfl⟩) ⟨PreM.blind, hM.recv hK cfX7 (29 + 2 * j11) (sh_lt lj11) (ly_sh lj11), hM.pre hK⟩ rfl rfl hl.1 rfl (lv_room (Nat.le_of_ble_eq_true rfl)) dX11_keep_29 ⟨Nat.zero_le _, Nat.zero_le _⟩) hM (fun H locs hM => ?_)
        show W _ _ _ _ _ _ _ _ _ _ _ _ _ _ _ (F0 m 32 ls [])
        refine lv_iconst (v := 0) S.1 S.2.1 dX11_keep_32 (by decide) ?_
        cases hF
        exact z_ei S hM.w hr rfl hlk hRr (Nat.zero_le _) (Nat.zero_le _) dX11_keep_33
    · have hF := (if_pos b4).symm.trans hF
      refine lv_iconst (v := (-1)) S.1 S.2.1 dX11_keep_17 (by decide) ?_
      cases hF
      exact z_ei S hM.w hr rfl hlk hRr (Nat.zero_le _) (Nat.zero_le _) dX11_keep_18
theorem is8 (x : Int32) : (∃ d, d < 8 ∧ x = nI d ∧ X11_isBelow x 8 = some 1 ∧ X12_isIn x 0 7 = some 1) ∨ (X11_isBelow x 8 = some 0 ∧ X12_isIn x 0 7 = some 0) := by
  rcases rng x 8 (by omega) with ⟨k, hk, rfl, q1, q2⟩ | ⟨q1, q2, -⟩
  · exact Or.inl ⟨k, hk, rfl, q1, q2⟩
  · exact Or.inr ⟨q1, q2⟩
theorem is2 (x : Int32) : (∃ d, d < 2 ∧ x = nI d ∧ X11_isBelow x 2 = some 1 ∧ X12_isIn x 0 1 = some 1) ∨ (X11_isBelow x 2 = some 0 ∧ X12_isIn x 0 1 = some 0) := by
  rcases rng x 2 (by omega) with ⟨k, hk, rfl, q1, q2⟩ | ⟨q1, q2, -⟩
  · exact Or.inl ⟨k, hk, rfl, q1, q2⟩
  · exact Or.inr ⟨q1, q2⟩
theorem is10 (x : Int32) : (∃ d, d < 10 ∧ x = nI d ∧ X11_isBelow x 10 = some 1 ∧ X12_isIn x 0 9 = some 1) ∨ (X11_isBelow x 10 = some 0 ∧ X12_isIn x 0 9 = some 0) := by
  rcases rng x 10 (by omega) with ⟨k, hk, rfl, q1, q2⟩ | ⟨q1, q2, -⟩
  · exact Or.inl ⟨k, hk, rfl, q1, q2⟩
  · exact Or.inr ⟨q1, q2⟩
/-- the reference's keep, behind its refusals -/
theorem R_keep {μ : IM} {d : Nat} (hd : d < 8) (a2 a3 a4 : Int32) : ∃ μ', X12_keep_b44 (nI d) a2 a3 a4 μ = some (0, μ') ∧ (∀ i, i < 7 → μ' i = μ i) ∧ (∀ x, x < 8 → x ≠ d → ShQ μ μ' x) ∧ μ' 7 d = a2 ∧ μ' 8 d = a3 ∧ μ' 9 d = a4 := by
  unfold X12_keep_b44
  rw [wrN (by omega) (by omega), wrN (by omega) (by omega), wrN (by omega) (by omega)]
  refine ⟨_, rfl, fun i hi => by rw [up2_o (by omega), up2_o (by omega), up2_o (by omega)], fun x hx hne => ⟨?_, ?_, ?_, ?_, ?_, ?_⟩, ?_, ?_, ?_⟩
  · rw [up2_oo (by omega), up2_oo (by omega), up2_oo (by omega)]
  · rw [up2_oo (by omega), up2_oo (by omega), up2_oo (by omega)]
  · rw [up2_oo (by omega), up2_oo (by omega), up2_oo (by omega)]
  · rw [up2_oo (by omega), up2_oo (by omega), up2_oo (by omega)]
  · rw [up2_oo (by omega), up2_oo (by omega), up2_oo (by omega)]
  · intro i _
    rw [up2_oo (by omega), up2_oo (by omega), up2_oo (by omega)]
  · rw [up2_oo (by omega), up2_oo (by omega), up2_ss]
  · rw [up2_oo (by omega), up2_ss]
  · rw [up2_ss]
theorem c_keepE {l : Launch} {G : GE} {A : Nat → Prop} {LP : List Nat} {kf : KF} {σ : IM} {ρ : RM} {μ : IM} {a1 a2 a3 a4 : Int32} (hPL : PL LP kf) (h : All σ ρ kf μ) : Met l yX11_keep (.code yX11_keep cX11_keep 5 (some .int) :: UL) ({ frames := 5, cells := 1, slots := 1, locals := 105 }) (va_Pc [.ref (G.2.2 0), .int a1, .int a2, .int a3, .int a4] (PreM lyC 48 G A (va_pl LP (skE kf)) σ ρ)) (QE G A (EndR G kf (X12_keep μ a1 a2 a3 a4))) 1 1 A := by
  have no : X11_keep kf σ ρ a1 a2 a3 a4 = some (-1, σ, ρ) → X12_keep μ a1 a2 a3 a4 = some (-1, μ) → Met l yX11_keep (.code yX11_keep cX11_keep 5 (some .int) :: UL) ({ frames := 5, cells := 1, slots := 1, locals := 105 }) (va_Pc [.ref (G.2.2 0), .int a1, .int a2, .int a3, .int a4] (PreM lyC 48 G A (va_pl LP (skE kf)) σ ρ)) (QE G A (EndR G kf (X12_keep μ a1 a2 a3 a4))) 1 1 A := fun e1 e2 => c_keepN hPL e1 (EndR.of3 hPL (Same3.no h e1 e2) e1)
  rcases isSh a1 with ⟨d, hd, rfl, p1, p2⟩ | ⟨p1, p2⟩
  rotate_left
  · exact no (by unfold X11_keep; rw [p1]; rfl) (by unfold X12_keep; rw [p2]; rfl)
  rcases is2 a2 with ⟨k, hk, rfl, r1, r2⟩ | ⟨r1, r2⟩
  rotate_left
  · exact no (by unfold X11_keep; rw [p1, bd1_s, if_neg n10, r1]; rfl) (by unfold X12_keep; rw [p2, bd1_s, if_neg n10, r2]; rfl)
  rcases (show k = 0 ∨ k = 1 by omega) with rfl | rfl
  · obtain ⟨μ', w1, w2, w3, w4, w5, w6⟩ := R_keep (μ := μ) hd (nI 0) a3 a4
    have e1 : X11_keep kf σ ρ (nI d) (nI 0) a3 a4 = some (0, up2 σ (29 + 2 * d) 2 (-1), upr ρ (29 + 2 * d) 1 none) := by
      unfold X11_keep
      rw [p1, bd1_s, if_neg n10, r1, bd1_s, if_neg n10, if_pos (show nI 0 = 0 from rfl), ixN (by omega) (by omega)]
      rfl
    have e2 : X12_keep μ (nI d) (nI 0) a3 a4 = some (0, μ') := by
      unfold X12_keep
      rw [p2, bd1_s, if_neg n10, r2, bd1_s, if_neg n10, if_neg (show ¬ nI 0 = 1 by decide)]
      exact w1
    refine c_keepN hPL e1 (EndR.of3 hPL ⟨0, _, _, μ', e1, e2, h.sh hd (fun i i1 _ => up2_o i1) (fun i i1 => upr_o i1) w2 w3 (Or.inl ⟨w4, by rw [up2_ss], ?_⟩)⟩ e1)
    rw [upr_i, va_up_self]
  rcases is8 a3 with ⟨k, hk, rfl, s1, s2⟩ | ⟨s1, s2⟩
  rotate_left
  · exact no (by unfold X11_keep; rw [p1, bd1_s, if_neg n10, r1, bd1_s, if_neg n10, if_neg (show ¬ nI 1 = 0 by decide), s1]; rfl) (by unfold X12_keep; rw [p2, bd1_s, if_neg n10, r2, bd1_s, if_neg n10, if_pos (show nI 1 = 1 from rfl), s2]; rfl)
  rcases is10 a4 with ⟨v, hv, rfl, t1, t2⟩ | ⟨t1, t2⟩
  rotate_left
  · exact no (by unfold X11_keep; rw [p1, bd1_s, if_neg n10, r1, bd1_s, if_neg n10, if_neg (show ¬ nI 1 = 0 by decide), s1, bd1_s, if_neg n10, t1]; rfl) (by unfold X12_keep; rw [p2, bd1_s, if_neg n10, r2, bd1_s, if_neg n10, if_pos (show nI 1 = 1 from rfl), s2, bd1_s, if_neg n10, t2]; rfl)
  obtain ⟨μ', w1, w2, w3, w4, w5, w6⟩ := R_keep (μ := μ) hd (nI 1) (nI k) (nI v)
  have e2 : X12_keep μ (nI d) (nI 1) (nI k) (nI v) = some (0, μ') := by
    unfold X12_keep
    rw [p2, bd1_s, if_neg n10, r2, bd1_s, if_neg n10, if_pos (show nI 1 = 1 from rfl), s2, bd1_s, if_neg n10, t2, bd1_s, if_neg n10]
    exact w1
  have hold : ∀ (kf' : KF) (q : Nat), X7_hold kf' σ ρ d q = some (up2 σ (29 + 2 * d) 2 (-1), upr (upr ρ (29 + 2 * d) 1 none) (29 + 2 * d) 1 (some q)) := fun _ _ => rfl
  have hm := c_X11_keepB (l := l) (g := G) (A := A) hPL p1 r1 (show ¬ nI 1 = 0 by decide) s1 t1 (ix8 hd) (cl8 hd) hd (fun q _ => ⟨_, hold _ q⟩)
  refine met_imp hm (fun o w hw => ?_)
  obtain ⟨q, σ', ρ', rfl, hq, e3, rfl⟩ := hw
  cases (hold _ q).symm.trans e3
  refine ⟨0, μ', _, _, _, _, e2, rfl, rfl, hPL.push (kof_lt _), hPL.ext hq, (h.ext (hPL.ext hq)).sh hd (fun i i1 _ => up2_o i1) (fun i i1 => by rw [upr_o i1, upr_o i1]) w2 w3 (Or.inr (Or.inl ⟨w4, by rw [up2_ss], q, k, v, ?_, hk, hv, ?_, w5, w6⟩))⟩
  · rw [upr_i, va_up_self]
  · rw [kfx_i, kof_nI hk]
