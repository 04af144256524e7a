/-! X1_leftOnes -/
def X1_leftOnes (kf : KF) (σ : IM) (ρ : RM) (c0 : Nat) : Option Int32 := rd (σ (c0 + 4)) 4 0 fun v1 => rd (σ (c0 + 4)) 4 1 fun v2 => rd (σ (c0 + 4)) 4 2 fun v3 => rd (σ (c0 + 4)) 4 3 fun v4 => some (((v1 ||| (v2 <<< (1 &&& 31))) ||| (v3 <<< (2 &&& 31))) ||| (v4 <<< (3 &&& 31)))
set_option maxRecDepth 20000 in
theorem c_X1_leftOnes {l : Launch} {g : GE} {A : Nat → Prop} {LP : List Nat} {kf : KF} {σ : IM} {ρ : RM} {c0 : Nat} {out : Int32} (hPL : PL LP kf) (hc0 : Ct c0) (hF : X1_leftOnes kf σ ρ c0 = some out) : Met l yX1_leftOnes (.code yX1_leftOnes cX1_leftOnes 1 (some .int) :: UL) ({ frames := 0, cells := 0, slots := 0, locals := 0 }) (va_Pc [.ref (g.2.2 c0)] (PreM lyC 48 g A (va_pl LP (skE kf)) σ ρ)) (Qp (some (.int out))) 0 0 NoA := by
  refine e_of (by decide) (Nat.le_of_ble_eq_true rfl) ?_
  intro p e s m below meth c ls S hr hlk hv hl
  have hM := Mem.of hv
  have hK := hv.2.1
  have hl : lv_has ls 1 [(0, .ref (g.2.2 c0))] := hl
  unfold X1_leftOnes at hF
  refine lv_aload_n S.1 S.2.1 dX1_leftOnes_0 rfl (lv_at hl 0 rfl) ?_
  refine r_getC S hK hM cfX1 c0 3 (c0 + 4) (ct_lt0 hc0) (ly_ct hc0) rfl (by decide) tw_1_45 dX1_leftOnes_1 ?_
  refine lv_iconst (v := 0) S.1 S.2.1 dX1_leftOnes_4 (by decide) ?_
  obtain ⟨hv1, v1, ev1, hF⟩ := rd_some hF
  refine r_iald S hK hM (c0 + 4) (ct_lt hc0 4 (by decide)) (ly_c4 hc0) hv1 ev1 dX1_leftOnes_5 ?_
  refine lv_aload_n S.1 S.2.1 dX1_leftOnes_6 rfl (lv_at hl 0 rfl) ?_
  refine r_getC S hK hM cfX1 c0 3 (c0 + 4) (ct_lt0 hc0) (ly_ct hc0) rfl (by decide) tw_1_45 dX1_leftOnes_7 ?_
  refine lv_iconst (v := 1) S.1 S.2.1 dX1_leftOnes_10 (by decide) ?_
  obtain ⟨hv2, v2, ev2, hF⟩ := rd_some hF
  refine r_iald S hK hM (c0 + 4) (ct_lt hc0 4 (by decide)) (ly_c4 hc0) hv2 ev2 dX1_leftOnes_11 ?_
  refine lv_iconst (v := 1) S.1 S.2.1 dX1_leftOnes_12 (by decide) ?_
  refine lv_ishl S.1 S.2.1 dX1_leftOnes_13 ?_
  refine lv_ior S.1 S.2.1 dX1_leftOnes_14 ?_
  refine lv_aload_n S.1 S.2.1 dX1_leftOnes_15 rfl (lv_at hl 0 rfl) ?_
  refine r_getC S hK hM cfX1 c0 3 (c0 + 4) (ct_lt0 hc0) (ly_ct hc0) rfl (by decide) tw_1_45 dX1_leftOnes_16 ?_
  refine lv_iconst (v := 2) S.1 S.2.1 dX1_leftOnes_19 (by decide) ?_
  obtain ⟨hv3, v3, ev3, hF⟩ := rd_some hF
  refine r_iald S hK hM (c0 + 4) (ct_lt hc0 4 (by decide)) (ly_c4 hc0) hv3 ev3 dX1_leftOnes_20 ?_
  refine lv_iconst (v := 2) S.1 S.2.1 dX1_leftOnes_21 (by decide) ?_
  refine lv_ishl S.1 S.2.1 dX1_leftOnes_22 ?_
  refine lv_ior S.1 S.2.1 dX1_leftOnes_23 ?_
  refine lv_aload_n S.1 S.2.1 dX1_leftOnes_24 rfl (lv_at hl 0 rfl) ?_
  refine r_getC S hK hM cfX1 c0 3 (c0 + 4) (ct_lt0 hc0) (ly_ct hc0) rfl (by decide) tw_1_45 dX1_leftOnes_25 ?_
  refine lv_iconst (v := 3) S.1 S.2.1 dX1_leftOnes_28 (by decide) ?_
  obtain ⟨hv4, v4, ev4, hF⟩ := rd_some hF
  refine r_iald S hK hM (c0 + 4) (ct_lt hc0 4 (by decide)) (ly_c4 hc0) hv4 ev4 dX1_leftOnes_29 ?_
  refine lv_iconst (v := 3) S.1 S.2.1 dX1_leftOnes_30 (by decide) ?_
  refine lv_ishl S.1 S.2.1 dX1_leftOnes_31 ?_
  refine lv_ior S.1 S.2.1 dX1_leftOnes_32 ?_
  cases hF
  exact z_p S hr hlk rfl dX1_leftOnes_33
/-! X7_byteAt -/
def X7_byteAt (kf : KF) (σ : IM) (ρ : RM) (j0 : Nat) (a1 : Int32) : Option Int32 := bd1 (X11_isBelow a1 (σ (29 + 2 * j0) 3)) fun r1 => if r1 = 0 then (some 0) else (rd (σ (29 + 2 * j0 + 1)) 100 a1 fun v3 => some v3)
set_option maxRecDepth 20000 in
theorem c_X7_byteAt {l : Launch} {g : GE} {A : Nat → Prop} {LP : List Nat} {kf : KF} {σ : IM} {ρ : RM} {j0 : Nat} {a1 : Int32} {out : Int32} (hPL : PL LP kf) (hj0 : j0 < 8) (hF : X7_byteAt kf σ ρ j0 a1 = some out) : Met l yX7_byteAt (.code yX7_byteAt cX7_byteAt 2 (some .int) :: UL) ({ frames := 1, cells := 0, slots := 0, locals := 21 }) (va_Pc [.ref (g.2.2 (29 + 2 * j0)), .int a1] (PreM lyC 48 g A (va_pl LP (skE kf)) σ ρ)) (Qp (some (.int out))) 0 0 NoA := by
  refine e_of (by decide) (Nat.le_of_ble_eq_true rfl) ?_
  intro p e s m below meth c ls S hr hlk hv hl
  have hM := Mem.of hv
  have hK := hv.2.1
  have hl : lv_has ls 2 [(0, .ref (g.2.2 (29 + 2 * j0))), (1, .int a1)] := hl
  unfold X7_byteAt at hF
  refine lv_iload_n S.1 S.2.1 dX7_byteAt_0 rfl (lv_at hl 1 rfl) ?_
  refine lv_aload_n S.1 S.2.1 dX7_byteAt_1 rfl (lv_at hl 0 rfl) ?_
  refine r_getI S hK hM cfX7 (29 + 2 * j0) 3 (sh_lt hj0) (ly_sh hj0) rfl (by decide) tw_1_104 dX7_byteAt_2 ?_
  obtain ⟨r1, er1, hF⟩ := bd1_some hF
  refine k_p (va_runSN (As := [.int a1, .int (σ (29 + 2 * j0) 3)]) (rest := []) S (c_X11_isBelow hPL  er1) ⟨va_cnB 2 S.2.2.2.2 (ul_G (ul_c cw_X11_isBelow)) rfl rfl rfl (hK.2.1 _ (List.mem_of_getElem? (i := 5) rfl)) (S.2.2.2.2 _ tw_1_1) hs_X11_isBelow ⟨Nat.le_of_ble_eq_true rfl, Nat.le_of_ble_eq_true rfl⟩, S.2.2.2.2 _ tw_1_230, trivial⟩ ⟨PreM.blind, hM.pre hK⟩ rfl rfl hl.1 rfl (lv_room (Nat.le_of_ble_eq_true rfl)) dX7_byteAt_5 ⟨Nat.zero_le _, Nat.zero_le _⟩) ?_
  refine lv_if_eq (tgt := 20) S.1 S.2.1 dX7_byteAt_8 (by decide) (fun b2 => ?_) (fun b2 => ?_)
  · have hF := (if_pos b2).symm.trans hF
    refine lv_iconst (v := 0) S.1 S.2.1 dX7_byteAt_20 (by decide) ?_
    cases hF
    exact z_p S hr hlk rfl dX7_byteAt_21
  · have hF := (if_neg b2).symm.trans hF
    refine lv_aload_n S.1 S.2.1 dX7_byteAt_11 rfl (lv_at hl 0 rfl) ?_
    refine r_getC S hK hM cfX7 (29 + 2 * j0) 0 (29 + 2 * j0 + 1) (sh_lt hj0) (ly_sh hj0) rfl (by decide) tw_1_97 dX7_byteAt_12 ?_
    refine lv_iload_n S.1 S.2.1 dX7_byteAt_15 rfl (lv_at hl 1 rfl) ?_
    obtain ⟨hv3, v3, ev3, hF⟩ := rd_some hF
    refine r_iald S hK hM (29 + 2 * j0 + 1) (sh_lt1 hj0) (ly_sh1 hj0) hv3 ev3 dX7_byteAt_16 ?_
    refine lv_goto (tgt := 21) S.1 S.2.1 dX7_byteAt_17 (by decide) ?_
    cases hF
    exact z_p S hr hlk rfl dX7_byteAt_21
/-! X2_digitsBehind -/
def X2_digitsBehind (a0 : Int32) : Option Int32 := if a0 = 98 then (some 2) else (if a0 = 100 then (some 1) else (if a0 = 102 then (some 2) else (if a0 = 104 then (some 2) else (if a0 = 108 then (some 1) else (if a0 = 112 then (some 3) else (if a0 = 116 then (some 3) else (if a0 = 120 then (some 2) else (some 0))))))))
set_option maxRecDepth 20000 in
theorem c_X2_digitsBehind {l : Launch} {g : GE} {A : Nat → Prop} {LP : List Nat} {kf : KF} {σ : IM} {ρ : RM} {a0 : Int32} {out : Int32} (hPL : PL LP kf) (hF : X2_digitsBehind a0 = some out) : Met l yX2_digitsBehind (.code yX2_digitsBehind cX2_digitsBehind 1 (some .int) :: UL) ({ frames := 0, cells := 0, slots := 0, locals := 0 }) (va_Pc [.int a0] (PreM lyC 48 g A (va_pl LP (skE kf)) σ ρ)) (Qp (some (.int out))) 0 0 NoA := by
  refine e_of (by decide) (Nat.le_of_ble_eq_true rfl) ?_
  intro p e s m below meth c ls S hr hlk hv hl
  have hM := Mem.of hv
  have hK := hv.2.1
  have hl : lv_has ls 1 [(0, .int a0)] := hl
  unfold X2_digitsBehind at hF
  refine lv_iload_n S.1 S.2.1 dX2_digitsBehind_0 rfl (lv_at hl 0 rfl) ?_
  by_cases b1 : a0 = 98
  · have hF := (if_pos b1).symm.trans hF
    refine r_tab (off := 109) (tgt := 110) S dX2_digitsBehind_1 b1 (by decide) (by decide) ?_
    refine lv_iconst (v := 2) S.1 S.2.1 dX2_digitsBehind_110 (by decide) ?_
    cases hF
    exact z_p S hr hlk rfl dX2_digitsBehind_111
  · have hF := (if_neg b1).symm.trans hF
    by_cases b2 : a0 = 100
    · have hF := (if_pos b2).symm.trans hF
      refine r_tab (off := 107) (tgt := 108) S dX2_digitsBehind_1 b2 (by decide) (by decide) ?_
      refine lv_iconst (v := 1) S.1 S.2.1 dX2_digitsBehind_108 (by decide) ?_
      cases hF
      exact z_p S hr hlk rfl dX2_digitsBehind_109
    · have hF := (if_neg b2).symm.trans hF
      by_cases b3 : a0 = 102
      · have hF := (if_pos b3).symm.trans hF
        refine r_tab (off := 109) (tgt := 110) S dX2_digitsBehind_1 b3 (by decide) (by decide) ?_
        refine lv_iconst (v := 2) S.1 S.2.1 dX2_digitsBehind_110 (by decide) ?_
        cases hF
        exact z_p S hr hlk rfl dX2_digitsBehind_111
      · have hF := (if_neg b3).symm.trans hF
        by_cases b4 : a0 = 104
        · have hF := (if_pos b4).symm.trans hF
          refine r_tab (off := 109) (tgt := 110) S dX2_digitsBehind_1 b4 (by decide) (by decide) ?_
          refine lv_iconst (v := 2) S.1 S.2.1 dX2_digitsBehind_110 (by decide) ?_
          cases hF
          exact z_p S hr hlk rfl dX2_digitsBehind_111
        · have hF := (if_neg b4).symm.trans hF
          by_cases b5 : a0 = 108
          · have hF := (if_pos b5).symm.trans hF
            refine r_tab (off := 107) (tgt := 108) S dX2_digitsBehind_1 b5 (by decide) (by decide) ?_
            refine lv_iconst (v := 1) S.1 S.2.1 dX2_digitsBehind_108 (by decide) ?_
            cases hF
            exact z_p S hr hlk rfl dX2_digitsBehind_109
          · have hF := (if_neg b5).symm.trans hF
            by_cases b6 : a0 = 112
            · have hF := (if_pos b6).symm.trans hF
              refine r_tab (off := 111) (tgt := 112) S dX2_digitsBehind_1 b6 (by decide) (by decide) ?_
              refine lv_iconst (v := 3) S.1 S.2.1 dX2_digitsBehind_112 (by decide) ?_
              cases hF
              exact z_p S hr hlk rfl dX2_digitsBehind_113
            · have hF := (if_neg b6).symm.trans hF
              by_cases b7 : a0 = 116
              · have hF := (if_pos b7).symm.trans hF
                refine r_tab (off := 111) (tgt := 112) S dX2_digitsBehind_1 b7 (by decide) (by decide) ?_
                refine lv_iconst (v := 3) S.1 S.2.1 dX2_digitsBehind_112 (by decide) ?_
                cases hF
                exact z_p S hr hlk rfl dX2_digitsBehind_113
              · have hF := (if_neg b7).symm.trans hF
                by_cases b8 : a0 = 120
                · have hF := (if_pos b8).symm.trans hF
                  refine r_tab (off := 109) (tgt := 110) S dX2_digitsBehind_1 b8 (by decide) (by decide) ?_
                  refine lv_iconst (v := 2) S.1 S.2.1 dX2_digitsBehind_110 (by decide) ?_
                  cases hF
                  exact z_p S hr hlk rfl dX2_digitsBehind_111
                · have hF := (if_neg b8).symm.trans hF
                  by_cases b9 : a0 = 99
                  · refine r_tab (off := 113) (tgt := 114) S dX2_digitsBehind_1 b9 (by decide) (by decide) ?_
                    refine lv_iconst (v := 0) S.1 S.2.1 dX2_digitsBehind_114 (by decide) ?_
                    cases hF
                    exact z_p S hr hlk rfl dX2_digitsBehind_115
                  · by_cases b10 : a0 = 101
                    · refine r_tab (off := 113) (tgt := 114) S dX2_digitsBehind_1 b10 (by decide) (by decide) ?_
                      refine lv_iconst (v := 0) S.1 S.2.1 dX2_digitsBehind_114 (by decide) ?_
                      cases hF
                      exact z_p S hr hlk rfl dX2_digitsBehind_115
                    · by_cases b11 : a0 = 103
                      · refine r_tab (off := 113) (tgt := 114) S dX2_digitsBehind_1 b11 (by decide) (by decide) ?_
                        refine lv_iconst (v := 0) S.1 S.2.1 dX2_digitsBehind_114 (by decide) ?_
                        cases hF
                        exact z_p S hr hlk rfl dX2_digitsBehind_115
                      · by_cases b12 : a0 = 105
                        · refine r_tab (off := 113) (tgt := 114) S dX2_digitsBehind_1 b12 (by decide) (by decide) ?_
                          refine lv_iconst (v := 0) S.1 S.2.1 dX2_digitsBehind_114 (by decide) ?_
                          cases hF
                          exact z_p S hr hlk rfl dX2_digitsBehind_115
                        · by_cases b13 : a0 = 106
                          · refine r_tab (off := 113) (tgt := 114) S dX2_digitsBehind_1 b13 (by decide) (by decide) ?_
                            refine lv_iconst (v := 0) S.1 S.2.1 dX2_digitsBehind_114 (by decide) ?_
                            cases hF
                            exact z_p S hr hlk rfl dX2_digitsBehind_115
                          · by_cases b14 : a0 = 107
                            · refine r_tab (off := 113) (tgt := 114) S dX2_digitsBehind_1 b14 (by decide) (by decide) ?_
                              refine lv_iconst (v := 0) S.1 S.2.1 dX2_digitsBehind_114 (by decide) ?_
                              cases hF
                              exact z_p S hr hlk rfl dX2_digitsBehind_115
                            · by_cases b15 : a0 = 109
                              · refine r_tab (off := 113) (tgt := 114) S dX2_digitsBehind_1 b15 (by decide) (by decide) ?_
                                refine lv_iconst (v := 0) S.1 S.2.1 dX2_digitsBehind_114 (by decide) ?_
                                cases hF
                                exact z_p S hr hlk rfl dX2_digitsBehind_115
                              · by_cases b16 : a0 = 110
                                · refine r_tab (off := 113) (tgt := 114) S dX2_digitsBehind_1 b16 (by decide) (by decide) ?_
                                  refine lv_iconst (v := 0) S.1 S.2.1 dX2_digitsBehind_114 (by decide) ?_
                                  cases hF
                                  exact z_p S hr hlk rfl dX2_digitsBehind_115
                                · by_cases b17 : a0 = 111
                                  · refine r_tab (off := 113) (tgt := 114) S dX2_digitsBehind_1 b17 (by decide) (by decide) ?_
                                    refine lv_iconst (v := 0) S.1 S.2.1 dX2_digitsBehind_114 (by decide) ?_
                                    cases hF
                                    exact z_p S hr hlk rfl dX2_digitsBehind_115
                                  · by_cases b18 : a0 = 113
                                    · refine r_tab (off := 113) (tgt := 114) S dX2_digitsBehind_1 b18 (by decide) (by decide) ?_
                                      refine lv_iconst (v := 0) S.1 S.2.1 dX2_digitsBehind_114 (by decide) ?_
                                      cases hF
                                      exact z_p S hr hlk rfl dX2_digitsBehind_115
                                    · by_cases b19 : a0 = 114
                                      · refine r_tab (off := 113) (tgt := 114) S dX2_digitsBehind_1 b19 (by decide) (by decide) ?_
                                        refine lv_iconst (v := 0) S.1 S.2.1 dX2_digitsBehind_114 (by decide) ?_
                                        cases hF
                                        exact z_p S hr hlk rfl dX2_digitsBehind_115
                                      · by_cases b20 : a0 = 115
                                        · refine r_tab (off := 113) (tgt := 114) S dX2_digitsBehind_1 b20 (by decide) (by decide) ?_
                                          refine lv_iconst (v := 0) S.1 S.2.1 dX2_digitsBehind_114 (by decide) ?_
                                          cases hF
                                          exact z_p S hr hlk rfl dX2_digitsBehind_115
                                        · by_cases b21 : a0 = 117
                                          · refine r_tab (off := 113) (tgt := 114) S dX2_digitsBehind_1 b21 (by decide) (by decide) ?_
                                            refine lv_iconst (v := 0) S.1 S.2.1 dX2_digitsBehind_114 (by decide) ?_
                                            cases hF
                                            exact z_p S hr hlk rfl dX2_digitsBehind_115
                                          · by_cases b22 : a0 = 118
                                            · refine r_tab (off := 113) (tgt := 114) S dX2_digitsBehind_1 b22 (by decide) (by decide) ?_
                                              refine lv_iconst (v := 0) S.1 S.2.1 dX2_digitsBehind_114 (by decide) ?_
                                              cases hF
                                              exact z_p S hr hlk rfl dX2_digitsBehind_115
                                            · by_cases b23 : a0 = 119
                                              · refine r_tab (off := 113) (tgt := 114) S dX2_digitsBehind_1 b23 (by decide) (by decide) ?_
                                                refine lv_iconst (v := 0) S.1 S.2.1 dX2_digitsBehind_114 (by decide) ?_
                                                cases hF
                                                exact z_p S hr hlk rfl dX2_digitsBehind_115
                                              · refine r_tabD (tgt := 114) S dX2_digitsBehind_1 (by have n0 := ne_toInt b1 (k := 98) (by decide); have n1 := ne_toInt b2 (k := 100) (by decide); have n2 := ne_toInt b3 (k := 102) (by decide); have n3 := ne_toInt b4 (k := 104) (by decide); have n4 := ne_toInt b5 (k := 108) (by decide); have n5 := ne_toInt b6 (k := 112) (by decide); have n6 := ne_toInt b7 (k := 116) (by decide); have n7 := ne_toInt b8 (k := 120) (by decide); have n8 := ne_toInt b9 (k := 99) (by decide); have n9 := ne_toInt b10 (k := 101) (by decide); have n10 := ne_toInt b11 (k := 103) (by decide); have n11 := ne_toInt b12 (k := 105) (by decide); have n12 := ne_toInt b13 (k := 106) (by decide); have n13 := ne_toInt b14 (k := 107) (by decide); have n14 := ne_toInt b15 (k := 109) (by decide); have n15 := ne_toInt b16 (k := 110) (by decide); have n16 := ne_toInt b17 (k := 111) (by decide); have n17 := ne_toInt b18 (k := 113) (by decide); have n18 := ne_toInt b19 (k := 114) (by decide); have n19 := ne_toInt b20 (k := 115) (by decide); have n20 := ne_toInt b21 (k := 117) (by decide); have n21 := ne_toInt b22 (k := 118) (by decide); have n22 := ne_toInt b23 (k := 119) (by decide); omega) (by decide) ?_
                                                refine lv_iconst (v := 0) S.1 S.2.1 dX2_digitsBehind_114 (by decide) ?_
                                                cases hF
                                                exact z_p S hr hlk rfl dX2_digitsBehind_115
/-! X7_digitAt -/
def X7_digitAt (kf : KF) (σ : IM) (ρ : RM) (j0 : Nat) (a1 : Int32) : Option Int32 := bd1 (X7_byteAt kf σ ρ j0 a1) fun r1 => some (r1 - 48)
set_option maxRecDepth 20000 in
theorem c_X7_digitAt {l : Launch} {g : GE} {A : Nat → Prop} {LP : List Nat} {kf : KF} {σ : IM} {ρ : RM} {j0 : Nat} {a1 : Int32} {out : Int32} (hPL : PL LP kf) (hj0 : j0 < 8) (hF : X7_digitAt kf σ ρ j0 a1 = some out) : Met l yX7_digitAt (.code yX7_digitAt cX7_digitAt 2 (some .int) :: UL) ({ frames := 2, cells := 0, slots := 0, locals := 42 }) (va_Pc [.ref (g.2.2 (29 + 2 * j0)), .int a1] (PreM lyC 48 g A (va_pl LP (skE kf)) σ ρ)) (Qp (some (.int out))) 0 0 NoA := by
  refine e_of (by decide) (Nat.le_of_ble_eq_true rfl) ?_
  intro p e s m below meth c ls S hr hlk hv hl
  have hM := Mem.of hv
  have hK := hv.2.1
  have hl : lv_has ls 2 [(0, .ref (g.2.2 (29 + 2 * j0))), (1, .int a1)] := hl
  unfold X7_digitAt at hF
  refine lv_aload_n S.1 S.2.1 dX7_digitAt_0 rfl (lv_at hl 0 rfl) ?_
  refine lv_iload_n S.1 S.2.1 dX7_digitAt_1 rfl (lv_at hl 1 rfl) ?_
  obtain ⟨r1, er1, hF⟩ := bd1_some hF
  refine k_p (va_runV (As := [.int a1]) (rest := []) S (c_X7_byteAt hPL hj0 er1) (cwV 1 S.2.2.2.2 (ul_V tw_2_16 tw_2_5 tw_2_6 tw_1_3 cw_X7_byteAt) rfl rfl rfl hv_X7_byteAt ⟨Nat.le_of_ble_eq_true rfl, Nat.le_of_ble_eq_true rfl⟩) ⟨PreM.blind, hM.recv hK cfX7 (29 + 2 * j0) (sh_lt hj0) (ly_sh hj0), hM.pre hK⟩ rfl rfl hl.1 rfl (lv_room (Nat.le_of_ble_eq_true rfl)) dX7_digitAt_2 ⟨Nat.zero_le _, Nat.zero_le _⟩) ?_
  refine lv_bipush (v := 48) S.1 S.2.1 dX7_digitAt_5 (by decide) ?_
  refine lv_isub S.1 S.2.1 dX7_digitAt_7 ?_
  cases hF
  exact z_p S hr hlk rfl dX7_digitAt_8
/-! X2_wrongByte -/
def X2_wrongByte_s19 (kf : KF) (σ : IM) (ρ : RM) (j0 : Nat) (k2 : Int32 → Option Int32) (k19 : Int32 → Int32 → Int32 → Option Int32) (x1 : Int32) (x2 : Int32) (x3 : Int32) : Option Int32 := if x2 < x3 then (bd1 (X7_byteAt kf σ ρ j0 ((x1 + x2) + 1)) fun r5 => if r5 = 59 then (bd (x1 + (x2 + 2)) fun v7 => if v7 < σ (29 + 2 * j0) 3 then (k2 v7) else (some (-1))) else (some ((x1 + x2) + 1))) else (bd1 (X7_digitAt kf σ ρ j0 (x1 + x3)) fun r9 => bd1 (X11_isBelow r9 10) fun r10 => if r10 = 0 then (some (x1 + x3)) else (bd (x3 + 1) fun v12 => k19 x1 x2 v12))
def X2_wrongByte_b19 (kf : KF) (σ : IM) (ρ : RM) (j0 : Nat) (k2 : Int32 → Option Int32) : Nat → Int32 → Int32 → Int32 → Option Int32
  | 0 => fun _ _ _ => none
  | n + 1 => X2_wrongByte_s19 kf σ ρ j0 k2 (X2_wrongByte_b19 kf σ ρ j0 k2 n)
set_option maxRecDepth 20000 in
theorem w_X2_wrongByte_19 {l : Launch} {g : GE} {A : Nat → Prop} {LP : List Nat} {kf : KF} {σ : IM} {ρ : RM} {j0 : Nat} (hPL : PL LP kf) (hj0 : j0 < 8) {p : Program} {e : Env} {s : State} {m : MethodId} {args : Array Value} {below : List Frame} {meth : Method} {c : Code} (S : CallFix p m c cX2_wrongByte 4 s args UL RX2) (hK : KK g s) (hr : meth.sig.returnType = (some .int)) (hlk : meth.locks = false) (hM : Mem lyC 48 g A (va_pl LP (skE kf)) σ ρ s.heap s.heap []) {out : Int32} {k2 : Int32 → Option Int32} (hk2 : ∀ {x1 : Int32} {ls : Array Slot}, lv_has ls 4 [(0, .ref (g.2.2 (29 + 2 * j0))), (1, .int x1)] → k2 x1 = some out → W p l e ({ frames := 3, cells := 0, slots := 0, locals := 63 }) s m args below meth c s.heap [] 0 0 (MQ below (Qp (some (.int out))) args s 0 0 NoA) (F0 m 2 ls [])) {k19 : Int32 → Int32 → Int32 → Option Int32} (hk19 : ∀ {x1 : Int32} {x2 : Int32} {x3 : Int32} {ls : Array Slot}, lv_has ls 4 [(0, .ref (g.2.2 (29 + 2 * j0))), (1, .int x1), (2, .int x2), (3, .int x3)] → k19 x1 x2 x3 = some out → W p l e ({ frames := 3, cells := 0, slots := 0, locals := 63 }) s m args below meth c s.heap [] 0 0 (MQ below (Qp (some (.int out))) args s 0 0 NoA) (F0 m 19 ls [])) : ∀ {x1 : Int32} {x2 : Int32} {x3 : Int32} {ls : Array Slot}, lv_has ls 4 [(0, .ref (g.2.2 (29 + 2 * j0))), (1, .int x1), (2, .int x2), (3, .int x3)] → X2_wrongByte_s19 kf σ ρ j0 k2 k19 x1 x2 x3 = some out → W p l e ({ frames := 3, cells := 0, slots := 0, locals := 63 }) s m args below meth c s.heap [] 0 0 (MQ below (Qp (some (.int out))) args s 0 0 NoA) (F0 m 19 ls []) := by
  intro x1 x2 x3 ls hl hF
  unfold X2_wrongByte_s19 at hF
  refine lv_iload_n S.1 S.2.1 dX2_wrongByte_19 rfl (lv_at hl 3 rfl) ?_
  refine lv_iload_n S.1 S.2.1 dX2_wrongByte_20 rfl (lv_at hl 2 rfl) ?_
  refine lv_icmp_gt (tgt := 49) S.1 S.2.1 dX2_wrongByte_21 (by decide) (fun b4 => ?_) (fun b4 => ?_)
  · have hF := (if_pos b4).symm.trans hF
    refine lv_aload_n S.1 S.2.1 dX2_wrongByte_49 rfl (lv_at hl 0 rfl) ?_
    refine lv_iload_n S.1 S.2.1 dX2_wrongByte_50 rfl (lv_at hl 1 rfl) ?_
    refine lv_iload_n S.1 S.2.1 dX2_wrongByte_51 rfl (lv_at hl 2 rfl) ?_
    refine lv_iadd S.1 S.2.1 dX2_wrongByte_52 ?_
    refine lv_iconst (v := 1) S.1 S.2.1 dX2_wrongByte_53 (by decide) ?_
    refine lv_iadd S.1 S.2.1 dX2_wrongByte_54 ?_
    obtain ⟨r5, er5, hF⟩ := bd1_some hF
    refine k_p (va_runV (As := [.int ((x1 + x2) + 1)]) (rest := []) S (c_X7_byteAt hPL hj0 er5) (cwV 1 S.2.2.2.2 (ul_V tw_2_4 tw_2_5 tw_2_6 tw_1_3 cw_X7_byteAt) rfl rfl rfl hv_X7_byteAt ⟨Nat.le_of_ble_eq_true rfl, Nat.le_of_ble_eq_true rfl⟩) ⟨PreM.blind, hM.recv hK cfX7 (29 + 2 * j0) (sh_lt hj0) (ly_sh hj0), hM.pre hK⟩ rfl rfl hl.1 rfl (lv_room (Nat.le_of_ble_eq_true rfl)) dX2_wrongByte_55 ⟨Nat.zero_le _, Nat.zero_le _⟩) ?_
    refine lv_bipush (v := 59) S.1 S.2.1 dX2_wrongByte_58 (by decide) ?_
    refine lv_icmp_eq (tgt := 69) S.1 S.2.1 dX2_wrongByte_60 (by decide) (fun b6 => ?_) (fun b6 => ?_)
    · have hF := (if_pos b6).symm.trans hF
      refine lv_iload_n S.1 S.2.1 dX2_wrongByte_69 rfl (lv_at hl 1 rfl) ?_
      refine lv_iload_n S.1 S.2.1 dX2_wrongByte_70 rfl (lv_at hl 2 rfl) ?_
      refine lv_iconst (v := 2) S.1 S.2.1 dX2_wrongByte_71 (by decide) ?_
      refine lv_iadd S.1 S.2.1 dX2_wrongByte_72 ?_
      refine lv_iadd S.1 S.2.1 dX2_wrongByte_73 ?_
      refine lv_topi (fun v7 ev7 => ?_)
      have hF := bd_at ev7 hF
      refine lv_istore_n (lv' := [(1, .int v7), (0, .ref (g.2.2 (29 + 2 * j0))), (2, .int x2), (3, .int x3)]) S.1 S.2.1 dX2_wrongByte_74 rfl hl (by decide) rfl (fun ls hl => ?_)
      refine lv_iload_n S.1 S.2.1 dX2_wrongByte_75 rfl (lv_at hl 0 rfl) ?_
      refine lv_aload_n S.1 S.2.1 dX2_wrongByte_76 rfl (lv_at hl 1 rfl) ?_
      refine r_getI S hK hM cfX7 (29 + 2 * j0) 3 (sh_lt hj0) (ly_sh hj0) rfl (by decide) tw_1_103 dX2_wrongByte_77 ?_
      refine lv_icmp_lt (tgt := 2) S.1 S.2.1 dX2_wrongByte_80 (by decide) (fun b8 => ?_) (fun b8 => ?_)
      · have hF := (if_pos b8).symm.trans hF
        exact hk2  (lv_sub hl [1, 0] rfl)  hF
      · have hF := (if_neg b8).symm.trans hF
        refine lv_iconst (v := (-1)) S.1 S.2.1 dX2_wrongByte_83 (by decide) ?_
        cases hF
        exact z_p S hr hlk rfl dX2_wrongByte_84
    · have hF := (if_neg b6).symm.trans hF
      refine lv_iload_n S.1 S.2.1 dX2_wrongByte_63 rfl (lv_at hl 1 rfl) ?_
      refine lv_iload_n S.1 S.2.1 dX2_wrongByte_64 rfl (lv_at hl 2 rfl) ?_
      refine lv_iadd S.1 S.2.1 dX2_wrongByte_65 ?_
      refine lv_iconst (v := 1) S.1 S.2.1 dX2_wrongByte_66 (by decide) ?_
      refine lv_iadd S.1 S.2.1 dX2_wrongByte_67 ?_
      cases hF
      exact z_p S hr hlk rfl dX2_wrongByte_68
  · have hF := (if_neg b4).symm.trans hF
    refine lv_aload_n S.1 S.2.1 dX2_wrongByte_24 rfl (lv_at hl 0 rfl) ?_
    refine lv_iload_n S.1 S.2.1 dX2_wrongByte_25 rfl (lv_at hl 1 rfl) ?_
    refine lv_iload_n S.1 S.2.1 dX2_wrongByte_26 rfl (lv_at hl 3 rfl) ?_
    refine lv_iadd S.1 S.2.1 dX2_wrongByte_27 ?_
    obtain ⟨r9, er9, hF⟩ := bd1_some hF
    refine k_p (va_runV (As := [.int (x1 + x3)]) (rest := []) S (c_X7_digitAt hPL hj0 er9) (cwV 1 S.2.2.2.2 (ul_V tw_2_12 tw_2_13 tw_2_14 tw_1_3 cw_X7_digitAt) rfl rfl rfl hv_X7_digitAt ⟨Nat.le_of_ble_eq_true rfl, Nat.le_of_ble_eq_true rfl⟩) ⟨PreM.blind, hM.recv hK cfX7 (29 + 2 * j0) (sh_lt hj0) (ly_sh hj0), hM.pre hK⟩ rfl rfl hl.1 rfl (lv_room (Nat.le_of_ble_eq_true rfl)) dX2_wrongByte_28 ⟨Nat.zero_le _, Nat.zero_le _⟩) ?_
    refine lv_bipush (v := 10) S.1 S.2.1 dX2_wrongByte_31 (by decide) ?_
    obtain ⟨r10, er10, hF⟩ := bd1_some hF
    refine k_p (va_runSN (As := [.int r9, .int 10]) (rest := []) S (c_X11_isBelow hPL  er10) ⟨va_cnB 2 S.2.2.2.2 (ul_G (ul_c cw_X11_isBelow)) rfl rfl rfl (hK.2.1 _ (List.mem_of_getElem? (i := 4) rfl)) (S.2.2.2.2 _ tw_1_1) hs_X11_isBelow ⟨Nat.le_of_ble_eq_true rfl, Nat.le_of_ble_eq_true rfl⟩, S.2.2.2.2 _ tw_1_230, trivial⟩ ⟨PreM.blind, hM.pre hK⟩ rfl rfl hl.1 rfl (lv_room (Nat.le_of_ble_eq_true rfl)) dX2_wrongByte_33 ⟨Nat.zero_le _, Nat.zero_le _⟩) ?_
    refine lv_if_ne (tgt := 43) S.1 S.2.1 dX2_wrongByte_36 (by decide) (fun b11 => ?_) (fun b11 => ?_)
    · have hF := (if_neg b11).symm.trans hF
      obtain ⟨v12, ev12, hF⟩ := bd_some hF
      refine lv_iinc (v := v12) (lv' := [(3, .int v12), (0, .ref (g.2.2 (29 + 2 * j0))), (1, .int x1), (2, .int x2)]) S.1 S.2.1 dX2_wrongByte_43 hl (k := 3) rfl (by rw [ev12]; rfl) (by decide) rfl (fun ls hl => ?_)
      refine lv_goto (tgt := 19) S.1 S.2.1 dX2_wrongByte_46 (by decide) ?_
      exact hk19  (lv_sub hl [1, 2, 3, 0] rfl)  hF
    · have hF := (if_pos b11).symm.trans hF
      refine lv_iload_n S.1 S.2.1 dX2_wrongByte_39 rfl (lv_at hl 1 rfl) ?_
      refine lv_iload_n S.1 S.2.1 dX2_wrongByte_40 rfl (lv_at hl 3 rfl) ?_
      refine lv_iadd S.1 S.2.1 dX2_wrongByte_41 ?_
      cases hF
      exact z_p S hr hlk rfl dX2_wrongByte_42
theorem wl_X2_wrongByte_19 {l : Launch} {g : GE} {A : Nat → Prop} {LP : List Nat} {kf : KF} {σ : IM} {ρ : RM} {j0 : Nat} (hPL : PL LP kf) (hj0 : j0 < 8) {p : Program} {e : Env} {s : State} {m : MethodId} {args : Array Value} {below : List Frame} {meth : Method} {c : Code} (S : CallFix p m c cX2_wrongByte 4 s args UL RX2) (hK : KK g s) (hr : meth.sig.returnType = (some .int)) (hlk : meth.locks = false) (hM : Mem lyC 48 g A (va_pl LP (skE kf)) σ ρ s.heap s.heap []) {out : Int32} {k2 : Int32 → Option Int32} (hk2 : ∀ {x1 : Int32} {ls : Array Slot}, lv_has ls 4 [(0, .ref (g.2.2 (29 + 2 * j0))), (1, .int x1)] → k2 x1 = some out → W p l e ({ frames := 3, cells := 0, slots := 0, locals := 63 }) s m args below meth c s.heap [] 0 0 (MQ below (Qp (some (.int out))) args s 0 0 NoA) (F0 m 2 ls [])) : ∀ (n : Nat) {x1 : Int32} {x2 : Int32} {x3 : Int32} {ls : Array Slot}, lv_has ls 4 [(0, .ref (g.2.2 (29 + 2 * j0))), (1, .int x1), (2, .int x2), (3, .int x3)] → X2_wrongByte_b19 kf σ ρ j0 k2 n x1 x2 x3 = some out → W p l e ({ frames := 3, cells := 0, slots := 0, locals := 63 }) s m args below meth c s.heap [] 0 0 (MQ below (Qp (some (.int out))) args s 0 0 NoA) (F0 m 19 ls []) := by
  intro n
  induction n with
  | zero =>
    intro x1 x2 x3 ls hl hF
    cases hF
  | succ n ih =>
    intro x1 x2 x3 ls hl hF
    exact w_X2_wrongByte_19 hPL hj0 S hK hr hlk hM hk2 ih hl hF
def X2_wrongByte_s2 (kf : KF) (σ : IM) (ρ : RM) (j0 : Nat) (k2 : Int32 → Option Int32) (x1 : Int32) : Option Int32 := bd1 (X7_byteAt kf σ ρ j0 x1) fun r1 => bd1 (X2_digitsBehind r1) fun r2 => if r2 = 0 then (some x1) else (X2_wrongByte_b19 kf σ ρ j0 k2 1000 x1 r2 1)
def X2_wrongByte_b2 (kf : KF) (σ : IM) (ρ : RM) (j0 : Nat) : Nat → Int32 → Option Int32
  | 0 => fun _ => none
  | n + 1 => X2_wrongByte_s2 kf σ ρ j0 (X2_wrongByte_b2 kf σ ρ j0 n)
set_option maxRecDepth 20000 in
theorem w_X2_wrongByte_2 {l : Launch} {g : GE} {A : Nat → Prop} {LP : List Nat} {kf : KF} {σ : IM} {ρ : RM} {j0 : Nat} (hPL : PL LP kf) (hj0 : j0 < 8) {p : Program} {e : Env} {s : State} {m : MethodId} {args : Array Value} {below : List Frame} {meth : Method} {c : Code} (S : CallFix p m c cX2_wrongByte 4 s args UL RX2) (hK : KK g s) (hr : meth.sig.returnType = (some .int)) (hlk : meth.locks = false) (hM : Mem lyC 48 g A (va_pl LP (skE kf)) σ ρ s.heap s.heap []) {out : Int32} {k2 : Int32 → Option Int32} (hk2 : ∀ {x1 : Int32} {ls : Array Slot}, lv_has ls 4 [(0, .ref (g.2.2 (29 + 2 * j0))), (1, .int x1)] → k2 x1 = some out → W p l e ({ frames := 3, cells := 0, slots := 0, locals := 63 }) s m args below meth c s.heap [] 0 0 (MQ below (Qp (some (.int out))) args s 0 0 NoA) (F0 m 2 ls [])) : ∀ {x1 : Int32} {ls : Array Slot}, lv_has ls 4 [(0, .ref (g.2.2 (29 + 2 * j0))), (1, .int x1)] → X2_wrongByte_s2 kf σ ρ j0 k2 x1 = some out → W p l e ({ frames := 3, cells := 0, slots := 0, locals := 63 }) s m args below meth c s.heap [] 0 0 (MQ below (Qp (some (.int out))) args s 0 0 NoA) (F0 m 2 ls []) := by
  intro x1 ls hl hF
  unfold X2_wrongByte_s2 at hF
  refine lv_aload_n S.1 S.2.1 dX2_wrongByte_2 rfl (lv_at hl 0 rfl) ?_
  refine lv_iload_n S.1 S.2.1 dX2_wrongByte_3 rfl (lv_at hl 1 rfl) ?_
  obtain ⟨r1, er1, hF⟩ := bd1_some hF
  refine k_p (va_runV (As := [.int x1]) (rest := []) S (c_X7_byteAt hPL hj0 er1) (cwV 1 S.2.2.2.2 (ul_V tw_2_4 tw_2_5 tw_2_6 tw_1_3 cw_X7_byteAt) rfl rfl rfl hv_X7_byteAt ⟨Nat.le_of_ble_eq_true rfl, Nat.le_of_ble_eq_true rfl⟩) ⟨PreM.blind, hM.recv hK cfX7 (29 + 2 * j0) (sh_lt hj0) (ly_sh hj0), hM.pre hK⟩ rfl rfl hl.1 rfl (lv_room (Nat.le_of_ble_eq_true rfl)) dX2_wrongByte_4 ⟨Nat.zero_le _, Nat.zero_le _⟩) ?_
  obtain ⟨r2, er2, hF⟩ := bd1_some hF
  refine k_p (va_runS (As := [.int r1]) (rest := []) S (c_X2_digitsBehind hPL  er2) (va_cwS 1 S.2.2.2.2 (ul_S tw_2_9 tw_2_10 tw_1_13 cw_X2_digitsBehind) rfl rfl rfl hs_X2_digitsBehind ⟨Nat.le_of_ble_eq_true rfl, Nat.le_of_ble_eq_true rfl⟩) ⟨PreM.blind, hM.pre hK⟩ rfl rfl hl.1 rfl (lv_room (Nat.le_of_ble_eq_true rfl)) dX2_wrongByte_7 ⟨Nat.zero_le _, Nat.zero_le _⟩) ?_
  refine lv_istore_n (lv' := [(2, .int r2), (0, .ref (g.2.2 (29 + 2 * j0))), (1, .int x1)]) S.1 S.2.1 dX2_wrongByte_10 rfl hl (by decide) rfl (fun ls hl => ?_)
  refine lv_iload_n S.1 S.2.1 dX2_wrongByte_11 rfl (lv_at hl 0 rfl) ?_
  refine lv_if_ne (tgt := 17) S.1 S.2.1 dX2_wrongByte_12 (by decide) (fun b3 => ?_) (fun b3 => ?_)
  · have hF := (if_neg b3).symm.trans hF
    refine lv_iconst (v := 1) S.1 S.2.1 dX2_wrongByte_17 (by decide) ?_
    refine lv_istore_n (lv' := [(3, .int 1), (2, .int r2), (0, .ref (g.2.2 (29 + 2 * j0))), (1, .int x1)]) S.1 S.2.1 dX2_wrongByte_18 rfl hl (by decide) rfl (fun ls hl => ?_)
    exact wl_X2_wrongByte_19 hPL hj0 S hK hr hlk hM hk2 1000 (lv_sub hl [2, 3, 1, 0] rfl) hF
  · have hF := (if_pos b3).symm.trans hF
    refine lv_iload_n S.1 S.2.1 dX2_wrongByte_15 rfl (lv_at hl 2 rfl) ?_
    cases hF
    exact z_p S hr hlk rfl dX2_wrongByte_16
theorem wl_X2_wrongByte_2 {l : Launch} {g : GE} {A : Nat → Prop} {LP : List Nat} {kf : KF} {σ : IM} {ρ : RM} {j0 : Nat} (hPL : PL LP kf) (hj0 : j0 < 8) {p : Program} {e : Env} {s : State} {m : MethodId} {args : Array Value} {below : List Frame} {meth : Method} {c : Code} (S : CallFix p m c cX2_wrongByte 4 s args UL RX2) (hK : KK g s) (hr : meth.sig.returnType = (some .int)) (hlk : meth.locks = false) (hM : Mem lyC 48 g A (va_pl LP (skE kf)) σ ρ s.heap s.heap []) {out : Int32} : ∀ (n : Nat) {x1 : Int32} {ls : Array Slot}, lv_has ls 4 [(0, .ref (g.2.2 (29 + 2 * j0))), (1, .int x1)] → X2_wrongByte_b2 kf σ ρ j0 n x1 = some out → W p l e ({ frames := 3, cells := 0, slots := 0, locals := 63 }) s m args below meth c s.heap [] 0 0 (MQ below (Qp (some (.int out))) args s 0 0 NoA) (F0 m 2 ls []) := by
  intro n
  induction n with
  | zero =>
    intro x1 ls hl hF
    cases hF
  | succ n ih =>
    intro x1 ls hl hF
    exact w_X2_wrongByte_2 hPL hj0 S hK hr hlk hM ih hl hF
def X2_wrongByte (kf : KF) (σ : IM) (ρ : RM) (j0 : Nat) : Option Int32 := X2_wrongByte_b2 kf σ ρ j0 1000 0
set_option maxRecDepth 20000 in
theorem c_X2_wrongByte {l : Launch} {g : GE} {A : Nat → Prop} {LP : List Nat} {kf : KF} {σ : IM} {ρ : RM} {j0 : Nat} {out : Int32} (hPL : PL LP kf) (hj0 : j0 < 8) (hF : X2_wrongByte kf σ ρ j0 = some out) : Met l yX2_wrongByte (.code yX2_wrongByte cX2_wrongByte 4 (some .int) :: UL) ({ frames := 3, cells := 0, slots := 0, locals := 63 }) (va_Pc [.ref (g.2.2 (29 + 2 * j0))] (PreM lyC 48 g A (va_pl LP (skE kf)) σ ρ)) (Qp (some (.int out))) 0 0 NoA := by
  refine e_of (by decide) (Nat.le_of_ble_eq_true rfl) ?_
  intro p e s m below meth c ls S hr hlk hv hl
  have hM := Mem.of hv
  have hK := hv.2.1
  have hl : lv_has ls 4 [(0, .ref (g.2.2 (29 + 2 * j0)))] := hl
  unfold X2_wrongByte at hF
  refine lv_iconst (v := 0) S.1 S.2.1 dX2_wrongByte_0 (by decide) ?_
  refine lv_istore_n (lv' := [(1, .int 0), (0, .ref (g.2.2 (29 + 2 * j0)))]) S.1 S.2.1 dX2_wrongByte_1 rfl hl (by decide) rfl (fun ls hl => ?_)
  exact wl_X2_wrongByte_2 hPL hj0 S hK hr hlk hM 1000 (lv_sub hl [1, 0] rfl) hF
/-! X2_statements -/
def X2_statements_b25 (kf : KF) (σ : IM) (ρ : RM) (j0 : Nat) (k4 : Int32 → Int32 → Option Int32) (x1 : Int32) (x2 : Int32) : Option Int32 := bd (x2 + 1) fun v5 => k4 x1 v5
set_option maxRecDepth 20000 in
theorem w_X2_statements_25 {l : Launch} {g : GE} {A : Nat → Prop} {LP : List Nat} {kf : KF} {σ : IM} {ρ : RM} {j0 : Nat} (hPL : PL LP kf) (hj0 : j0 < 8) {p : Program} {e : Env} {s : State} {m : MethodId} {args : Array Value} {below : List Frame} {meth : Method} {c : Code} (S : CallFix p m c cX2_statements 3 s args UL RX2) (hK : KK g s) (hr : meth.sig.returnType = (some .int)) (hlk : meth.locks = false) (hM : Mem lyC 48 g A (va_pl LP (skE kf)) σ ρ s.heap s.heap []) {out : Int32} {k4 : Int32 → Int32 → Option Int32} (hk4 : ∀ {x1 : Int32} {x2 : Int32} {ls : Array Slot}, lv_has ls 3 [(0, .ref (g.2.2 (29 + 2 * j0))), (1, .int x1), (2, .int x2)] → k4 x1 x2 = some out → W p l e ({ frames := 2, cells := 0, slots := 0, locals := 42 }) s m args below meth c s.heap [] 0 0 (MQ below (Qp (some (.int out))) args s 0 0 NoA) (F0 m 4 ls [])) : ∀ {x1 : Int32} {x2 : Int32} {ls : Array Slot}, lv_has ls 3 [(0, .ref (g.2.2 (29 + 2 * j0))), (1, .int x1), (2, .int x2)] → X2_statements_b25 kf σ ρ j0 k4 x1 x2 = some out → W p l e ({ frames := 2, cells := 0, slots := 0, locals := 42 }) s m args below meth c s.heap [] 0 0 (MQ below (Qp (some (.int out))) args s 0 0 NoA) (F0 m 25 ls []) := by
  intro x1 x2 ls hl hF
  unfold X2_statements_b25 at hF
  obtain ⟨v5, ev5, hF⟩ := bd_some hF
  refine lv_iinc (v := v5) (lv' := [(2, .int v5), (0, .ref (g.2.2 (29 + 2 * j0))), (1, .int x1)]) S.1 S.2.1 dX2_statements_25 hl (k := 2) rfl (by rw [ev5]; rfl) (by decide) rfl (fun ls hl => ?_)
  refine lv_goto (tgt := 4) S.1 S.2.1 dX2_statements_28 (by decide) ?_
  exact hk4  (lv_sub hl [1, 2, 0] rfl)  hF
def X2_statements_s4 (kf : KF) (σ : IM) (ρ : RM) (j0 : Nat) (k4 : Int32 → Int32 → Option Int32) (x1 : Int32) (x2 : Int32) : Option Int32 := if σ (29 + 2 * j0) 3 ≤ x2 then (some x1) else (bd1 (X7_byteAt kf σ ρ j0 x2) fun r2 => if r2 = 59 then (bd (x1 + 1) fun v4 => X2_statements_b25 kf σ ρ j0 k4 v4 x2) else (X2_statements_b25 kf σ ρ j0 k4 x1 x2))
def X2_statements_b4 (kf : KF) (σ : IM) (ρ : RM) (j0 : Nat) : Nat → Int32 → Int32 → Option Int32
  | 0 => fun _ _ => none
  | n + 1 => X2_statements_s4 kf σ ρ j0 (X2_statements_b4 kf σ ρ j0 n)
set_option maxRecDepth 20000 in
theorem w_X2_statements_4 {l : Launch} {g : GE} {A : Nat → Prop} {LP : List Nat} {kf : KF} {σ : IM} {ρ : RM} {j0 : Nat} (hPL : PL LP kf) (hj0 : j0 < 8) {p : Program} {e : Env} {s : State} {m : MethodId} {args : Array Value} {below : List Frame} {meth : Method} {c : Code} (S : CallFix p m c cX2_statements 3 s args UL RX2) (hK : KK g s) (hr : meth.sig.returnType = (some .int)) (hlk : meth.locks = false) (hM : Mem lyC 48 g A (va_pl LP (skE kf)) σ ρ s.heap s.heap []) {out : Int32} {k4 : Int32 → Int32 → Option Int32} (hk4 : ∀ {x1 : Int32} {x2 : Int32} {ls : Array Slot}, lv_has ls 3 [(0, .ref (g.2.2 (29 + 2 * j0))), (1, .int x1), (2, .int x2)] → k4 x1 x2 = some out → W p l e ({ frames := 2, cells := 0, slots := 0, locals := 42 }) s m args below meth c s.heap [] 0 0 (MQ below (Qp (some (.int out))) args s 0 0 NoA) (F0 m 4 ls [])) : ∀ {x1 : Int32} {x2 : Int32} {ls : Array Slot}, lv_has ls 3 [(0, .ref (g.2.2 (29 + 2 * j0))), (1, .int x1), (2, .int x2)] → X2_statements_s4 kf σ ρ j0 k4 x1 x2 = some out → W p l e ({ frames := 2, cells := 0, slots := 0, locals := 42 }) s m args below meth c s.heap [] 0 0 (MQ below (Qp (some (.int out))) args s 0 0 NoA) (F0 m 4 ls []) := by
  intro x1 x2 ls hl hF
  unfold X2_statements_s4 at hF
  refine lv_iload_n S.1 S.2.1 dX2_statements_4 rfl (lv_at hl 2 rfl) ?_
  refine lv_aload_n S.1 S.2.1 dX2_statements_5 rfl (lv_at hl 0 rfl) ?_
  refine r_getI S hK hM cfX7 (29 + 2 * j0) 3 (sh_lt hj0) (ly_sh hj0) rfl (by decide) tw_1_103 dX2_statements_6 ?_
  refine lv_icmp_ge (tgt := 31) S.1 S.2.1 dX2_statements_9 (by decide) (fun b1 => ?_) (fun b1 => ?_)
  · have hF := (if_pos b1).symm.trans hF
    refine lv_iload_n S.1 S.2.1 dX2_statements_31 rfl (lv_at hl 1 rfl) ?_
    cases hF
    exact z_p S hr hlk rfl dX2_statements_32
  · have hF := (if_neg b1).symm.trans hF
    refine lv_aload_n S.1 S.2.1 dX2_statements_12 rfl (lv_at hl 0 rfl) ?_
    refine lv_iload_n S.1 S.2.1 dX2_statements_13 rfl (lv_at hl 2 rfl) ?_
    obtain ⟨r2, er2, hF⟩ := bd1_some hF
    refine k_p (va_runV (As := [.int x2]) (rest := []) S (c_X7_byteAt hPL hj0 er2) (cwV 1 S.2.2.2.2 (ul_V tw_2_4 tw_2_5 tw_2_6 tw_1_3 cw_X7_byteAt) rfl rfl rfl hv_X7_byteAt ⟨Nat.le_of_ble_eq_true rfl, Nat.le_of_ble_eq_true rfl⟩) ⟨PreM.blind, hM.recv hK cfX7 (29 + 2 * j0) (sh_lt hj0) (ly_sh hj0), hM.pre hK⟩ rfl rfl hl.1 rfl (lv_room (Nat.le_of_ble_eq_true rfl)) dX2_statements_14 ⟨Nat.zero_le _, Nat.zero_le _⟩) ?_
    refine lv_bipush (v := 59) S.1 S.2.1 dX2_statements_17 (by decide) ?_
    refine lv_icmp_ne (tgt := 25) S.1 S.2.1 dX2_statements_19 (by decide) (fun b3 => ?_) (fun b3 => ?_)
    · have hF := (if_neg b3).symm.trans hF
      exact w_X2_statements_25 hPL hj0 S hK hr hlk hM hk4 (lv_sub hl [0, 1, 2] rfl) hF
    · have hF := (if_pos b3).symm.trans hF
      obtain ⟨v4, ev4, hF⟩ := bd_some hF
      refine lv_iinc (v := v4) (lv' := [(1, .int v4), (0, .ref (g.2.2 (29 + 2 * j0))), (2, .int x2)]) S.1 S.2.1 dX2_statements_22 hl (k := 1) rfl (by rw [ev4]; rfl) (by decide) rfl (fun ls hl => ?_)
      exact w_X2_statements_25 hPL hj0 S hK hr hlk hM hk4 (lv_sub hl [1, 0, 2] rfl) hF
theorem wl_X2_statements_4 {l : Launch} {g : GE} {A : Nat → Prop} {LP : List Nat} {kf : KF} {σ : IM} {ρ : RM} {j0 : Nat} (hPL : PL LP kf) (hj0 : j0 < 8) {p : Program} {e : Env} {s : State} {m : MethodId} {args : Array Value} {below : List Frame} {meth : Method} {c : Code} (S : CallFix p m c cX2_statements 3 s args UL RX2) (hK : KK g s) (hr : meth.sig.returnType = (some .int)) (hlk : meth.locks = false) (hM : Mem lyC 48 g A (va_pl LP (skE kf)) σ ρ s.heap s.heap []) {out : Int32} : ∀ (n : Nat) {x1 : Int32} {x2 : Int32} {ls : Array Slot}, lv_has ls 3 [(0, .ref (g.2.2 (29 + 2 * j0))), (1, .int x1), (2, .int x2)] → X2_statements_b4 kf σ ρ j0 n x1 x2 = some out → W p l e ({ frames := 2, cells := 0, slots := 0, locals := 42 }) s m args below meth c s.heap [] 0 0 (MQ below (Qp (some (.int out))) args s 0 0 NoA) (F0 m 4 ls []) := by
  intro n
  induction n with
  | zero =>
    intro x1 x2 ls hl hF
    cases hF
  | succ n ih =>
    intro x1 x2 ls hl hF
    exact w_X2_statements_4 hPL hj0 S hK hr hlk hM ih hl hF
def X2_statements (kf : KF) (σ : IM) (ρ : RM) (j0 : Nat) : Option Int32 := X2_statements_b4 kf σ ρ j0 1000 0 0
set_option maxRecDepth 20000 in
theorem c_X2_statements {l : Launch} {g : GE} {A : Nat → Prop} {LP : List Nat} {kf : KF} {σ : IM} {ρ : RM} {j0 : Nat} {out : Int32} (hPL : PL LP kf) (hj0 : j0 < 8) (hF : X2_statements kf σ ρ j0 = some out) : Met l yX2_statements (.code yX2_statements cX2_statements 3 (some .int) :: UL) ({ frames := 2, cells := 0, slots := 0, locals := 42 }) (va_Pc [.ref (g.2.2 (29 + 2 * j0))] (PreM lyC 48 g A (va_pl LP (skE kf)) σ ρ)) (Qp (some (.int out))) 0 0 NoA := by
  refine e_of (by decide) (Nat.le_of_ble_eq_true rfl) ?_
  intro p e s m below meth c ls S hr hlk hv hl
  have hM := Mem.of hv
  have hK := hv.2.1
  have hl : lv_has ls 3 [(0, .ref (g.2.2 (29 + 2 * j0)))] := hl
  unfold X2_statements at hF
  refine lv_iconst (v := 0) S.1 S.2.1 dX2_statements_0 (by decide) ?_
  refine lv_istore_n (lv' := [(1, .int 0), (0, .ref (g.2.2 (29 + 2 * j0)))]) S.1 S.2.1 dX2_statements_1 rfl hl (by decide) rfl (fun ls hl => ?_)
  refine lv_iconst (v := 0) S.1 S.2.1 dX2_statements_2 (by decide) ?_
  refine lv_istore_n (lv' := [(2, .int 0), (1, .int 0), (0, .ref (g.2.2 (29 + 2 * j0)))]) S.1 S.2.1 dX2_statements_3 rfl hl (by decide) rfl (fun ls hl => ?_)
  exact wl_X2_statements_4 hPL hj0 S hK hr hlk hM 1000 (lv_sub hl [2, 1, 0] rfl) hF
/-! X7_isRow -/
def X7_isRow (kf : KF) (σ : IM) (ρ : RM) (j0 : Nat) : Option Int32 := if σ (29 + 2 * j0) 2 = (-1) then (some 0) else (some 1)
set_option maxRecDepth 20000 in
theorem c_X7_isRow {l : Launch} {g : GE} {A : Nat → Prop} {LP : List Nat} {kf : KF} {σ : IM} {ρ : RM} {j0 : Nat} {out : Int32} (hPL : PL LP kf) (hj0 : j0 < 8) (hF : X7_isRow kf σ ρ j0 = some out) : Met l yX7_isRow (.code yX7_isRow cX7_isRow 1 (some .boolean) :: UL) ({ frames := 0, cells := 0, slots := 0, locals := 0 }) (va_Pc [.ref (g.2.2 (29 + 2 * j0))] (PreM lyC 48 g A (va_pl LP (skE kf)) σ ρ)) (Qp (some (.int out))) 0 0 NoA := by
  refine e_of (by decide) (Nat.le_of_ble_eq_true rfl) ?_
  intro p e s m below meth c ls S hr hlk hv hl
  have hM := Mem.of hv
  have hK := hv.2.1
  have hl : lv_has ls 1 [(0, .ref (g.2.2 (29 + 2 * j0)))] := hl
  unfold X7_isRow at hF
  refine lv_aload_n S.1 S.2.1 dX7_isRow_0 rfl (lv_at hl 0 rfl) ?_
  refine r_getI S hK hM cfX7 (29 + 2 * j0) 2 (sh_lt hj0) (ly_sh hj0) rfl (by decide) tw_1_101 dX7_isRow_1 ?_
  refine lv_iconst (v := (-1)) S.1 S.2.1 dX7_isRow_4 (by decide) ?_
  refine lv_icmp_eq (tgt := 12) S.1 S.2.1 dX7_isRow_5 (by decide) (fun b1 => ?_) (fun b1 => ?_)
  · have hF := (if_pos b1).symm.trans hF
    refine lv_iconst (v := 0) S.1 S.2.1 dX7_isRow_12 (by decide) ?_
    cases hF
    exact z_p S hr hlk rfl dX7_isRow_13
  · have hF := (if_neg b1).symm.trans hF
    refine lv_iconst (v := 1) S.1 S.2.1 dX7_isRow_8 (by decide) ?_
    refine lv_goto (tgt := 13) S.1 S.2.1 dX7_isRow_9 (by decide) ?_
    cases hF
    exact z_p S hr hlk rfl dX7_isRow_13
/-! X7_isBare -/
def X7_isBare (kf : KF) (σ : IM) (ρ : RM) (j0 : Nat) : Option Int32 := oc (ρ (29 + 2 * j0) 1) (bd1 (X7_isRow kf σ ρ j0) fun r2 => if r2 = 0 then (some 1) else (some 0)) (fun q1 => some 0)
set_option maxRecDepth 20000 in
theorem c_X7_isBare {l : Launch} {g : GE} {A : Nat → Prop} {LP : List Nat} {kf : KF} {σ : IM} {ρ : RM} {j0 : Nat} {out : Int32} (hPL : PL LP kf) (hj0 : j0 < 8) (hF : X7_isBare kf σ ρ j0 = some out) : Met l yX7_isBare (.code yX7_isBare cX7_isBare 1 (some .boolean) :: UL) ({ frames := 1, cells := 0, slots := 0, locals := 20 }) (va_Pc [.ref (g.2.2 (29 + 2 * j0))] (PreM lyC 48 g A (va_pl LP (skE kf)) σ ρ)) (Qp (some (.int out))) 0 0 NoA := by
  refine e_of (by decide) (Nat.le_of_ble_eq_true rfl) ?_
  intro p e s m below meth c ls S hr hlk hv hl
  have hM := Mem.of hv
  have hK := hv.2.1
  have hl : lv_has ls 1 [(0, .ref (g.2.2 (29 + 2 * j0)))] := hl
  unfold X7_isBare at hF
  refine lv_aload_n S.1 S.2.1 dX7_isBare_0 rfl (lv_at hl 0 rfl) ?_
  rcases oc_some hF with ⟨eq1, hF⟩ | ⟨q1, eq1, hF⟩
  · refine r_getR S hK hM cfX7 (29 + 2 * j0) 1 eq1 (sh_lt hj0) (ly_sh hj0) rfl (by decide) tw_1_99 dX7_isBare_1 ?_
    refine lv_ifnonnullN S.1 S.2.1 dX7_isBare_4 ?_
    refine lv_aload_n S.1 S.2.1 dX7_isBare_7 rfl (lv_at hl 0 rfl) ?_
    obtain ⟨r2, er2, hF⟩ := bd1_some hF
    refine k_p (va_runV (As := []) (rest := []) S (c_X7_isRow hPL hj0 er2) (cwV 0 S.2.2.2.2 (ul_V tw_1_236 tw_1_237 tw_1_238 tw_1_3 cw_X7_isRow) rfl rfl rfl hv_X7_isRow ⟨Nat.le_of_ble_eq_true rfl, Nat.le_of_ble_eq_true rfl⟩) ⟨PreM.blind, hM.recv hK cfX7 (29 + 2 * j0) (sh_lt hj0) (ly_sh hj0), hM.pre hK⟩ rfl rfl hl.1 rfl (lv_room (Nat.le_of_ble_eq_true rfl)) dX7_isBare_8 ⟨Nat.zero_le _, Nat.zero_le _⟩) ?_
    refine lv_if_ne (tgt := 18) S.1 S.2.1 dX7_isBare_11 (by decide) (fun b3 => ?_) (fun b3 => ?_)
    · have hF := (if_neg b3).symm.trans hF
      refine lv_iconst (v := 0) S.1 S.2.1 dX7_isBare_18 (by decide) ?_
      cases hF
      exact z_p S hr hlk rfl dX7_isBare_19
    · have hF := (if_pos b3).symm.trans hF
      refine lv_iconst (v := 1) S.1 S.2.1 dX7_isBare_14 (by decide) ?_
      refine lv_goto (tgt := 19) S.1 S.2.1 dX7_isBare_15 (by decide) ?_
      cases hF
      exact z_p S hr hlk rfl dX7_isBare_19
  · refine r_getR S hK hM cfX7 (29 + 2 * j0) 1 eq1 (sh_lt hj0) (ly_sh hj0) rfl (by decide) tw_1_99 dX7_isBare_1 ?_
    refine lv_ifnonnull (tgt := 18) S.1 S.2.1 dX7_isBare_4 (by decide) ?_
    refine lv_iconst (v := 0) S.1 S.2.1 dX7_isBare_18 (by decide) ?_
    cases hF
    exact z_p S hr hlk rfl dX7_isBare_19
/-! X7_clear -/
def X7_clear (kf : KF) (σ : IM) (ρ : RM) (j0 : Nat) : Option (IM × RM) := bd (upr ρ (29 + 2 * j0) 1 none) fun ρ1 => bd (up2 σ (29 + 2 * j0) 2 (-1)) fun σ2 => some (σ2, ρ1)
set_option maxRecDepth 20000 in
theorem c_X7_clear {l : Launch} {g : GE} {A : Nat → Prop} {LP : List Nat} {kf : KF} {σ : IM} {ρ : RM} {j0 : Nat} {out : IM × RM} (hPL : PL LP kf) (hj0 : j0 < 8) (hF : X7_clear kf σ ρ j0 = some out) : Met l yX7_clear (.code yX7_clear cX7_clear 1 none :: UL) ({ frames := 0, cells := 0, slots := 0, locals := 0 }) (va_Pc [.ref (g.2.2 (29 + 2 * j0))] (PreM lyC 48 g A (va_pl LP (skE kf)) σ ρ)) (Qm lyC 48 g A (va_pl LP (skE kf)) out.1 out.2 none) 0 0 A := by
  refine e_of (by decide) (Nat.le_of_ble_eq_true rfl) ?_
  intro p e s m below meth c ls S hr hlk hv hl
  have hM := Mem.of hv
  have hK := hv.2.1
  have hl : lv_has ls 1 [(0, .ref (g.2.2 (29 + 2 * j0)))] := hl
  unfold X7_clear at hF
  refine lv_aload_n S.1 S.2.1 dX7_clear_0 rfl (lv_at hl 0 rfl) ?_
  refine lv_null S.1 S.2.1 dX7_clear_1 ?_
  obtain ⟨ρ1, eρ1, hF⟩ := bd_some hF
  refine r_putR (ty := .object "SideBySide$Stroke") (v := none) S hK hM cfX7 tyX7_ok nmX7 (29 + 2 * j0) 1 rfl (sh_lt hj0) (ly_sh hj0) rfl (by decide) tw_1_99 rfl (by decide +kernel) rfl rfl eρ1 dX7_clear_2 (fun H locs hM => ?_)
  refine lv_aload_n S.1 S.2.1 dX7_clear_5 rfl (lv_at hl 0 rfl) ?_
  refine lv_iconst (v := (-1)) S.1 S.2.1 dX7_clear_6 (by decide) ?_
  obtain ⟨σ2, eσ2, hF⟩ := bd_some hF
  refine r_putI (ty := .int) S hK hM cfX7 tyX7_ok nmX7 (29 + 2 * j0) 2 (sh_lt hj0) (ly_sh hj0) rfl (by decide) tw_1_101 rfl (by decide +kernel) rfl rfl eσ2 dX7_clear_7 (fun H locs hM => ?_)
  cases hF
  exact z_mv S hM hr hlk dX7_clear_10
/-! X7_hold -/
def X7_hold (kf : KF) (σ : IM) (ρ : RM) (j0 : Nat) (q1 : Nat) : Option (IM × RM) := bd2 (X7_clear kf σ ρ j0) fun σ1 ρ2 => bd (upr ρ2 (29 + 2 * j0) 1 (some q1)) fun ρ4 => some (σ1, ρ4)
set_option maxRecDepth 20000 in
theorem c_X7_hold {l : Launch} {g : GE} {A : Nat → Prop} {LP : List Nat} {kf : KF} {σ : IM} {ρ : RM} {j0 : Nat} {q1 : Nat} {out : IM × RM} (hPL : PL LP kf) (hj0 : j0 < 8) (hF : X7_hold kf σ ρ j0 q1 = some out) : Met l yX7_hold (.code yX7_hold cX7_hold 2 none :: UL) ({ frames := 1, cells := 0, slots := 0, locals := 20 }) (va_Pc [.ref (g.2.2 (29 + 2 * j0)), .ref q1] (PreM lyC 48 g A (va_pl LP (skE kf)) σ ρ)) (Qm lyC 48 g A (va_pl LP (skE kf)) out.1 out.2 none) 0 0 A := by
  refine e_of (by decide) (Nat.le_of_ble_eq_true rfl) ?_
  intro p e s m below meth c ls S hr hlk hv hl
  have hM := Mem.of hv
  have hK := hv.2.1
  have hl : lv_has ls 2 [(0, .ref (g.2.2 (29 + 2 * j0))), (1, .ref q1)] := hl
  unfold X7_hold at hF
  refine lv_aload_n S.1 S.2.1 dX7_hold_0 rfl (lv_at hl 0 rfl) ?_
  obtain ⟨σ1, ρ2, er3, hF⟩ := bd2_some hF
  refine k_m (va_runV (As := []) (rest := []) S (c_X7_clear hPL hj0 er3) (cwV 0 S.2.2.2.2 (ul_V tw_4_63 tw_4_56 tw_4_57 tw_1_3 cw_X7_clear) rfl rfl rfl hv_X7_clear ⟨Nat.le_of_ble_eq_true rfl, Nat.le_of_ble_eq_true rfl⟩) ⟨PreM.blind, hM.recv hK cfX7 (29 + 2 * j0) (sh_lt hj0) (ly_sh hj0), hM.pre hK⟩ rfl rfl hl.1 rfl (lv_room (Nat.le_of_ble_eq_true rfl)) dX7_hold_1 ⟨Nat.zero_le _, Nat.zero_le _⟩) hM (fun H locs hM => ?_)
  show W _ _ _ _ _ _ _ _ _ _ _ _ _ _ _ (F0 m 4 ls [])
  refine lv_aload_n S.1 S.2.1 dX7_hold_4 rfl (lv_at hl 0 rfl) ?_
  refine lv_aload_n S.1 S.2.1 dX7_hold_5 rfl (lv_at hl 1 rfl) ?_
  obtain ⟨ρ4, eρ4, hF⟩ := bd_some hF
  refine r_putR (ty := .object "SideBySide$Stroke") (v := (some q1)) S hK hM cfX7 tyX7_ok nmX7 (29 + 2 * j0) 1 rfl (sh_lt hj0) (ly_sh hj0) rfl (by decide) tw_1_99 rfl (by decide +kernel) rfl rfl eρ4 dX7_hold_6 (fun H locs hM => ?_)
  cases hF
  exact z_mv S hM hr hlk dX7_hold_9
/-! X7_lay -/
def X7_lay_s16 (kf : KF) (j0 : Nat) (k16 : Int32 → Int32 → IM → RM → Option (IM × RM)) (x2 : Int32) (x3 : Int32) (σ : IM) (ρ : RM) : Option (IM × RM) := if x2 ≤ x3 then (some (σ, ρ)) else (wr σ (29 + 2 * j0 + 1) 100 x3 0 fun σ7 => bd (x3 + 1) fun v8 => k16 x2 v8 σ7 ρ)
def X7_lay_b16 (kf : KF) (j0 : Nat) : Nat → Int32 → Int32 → IM → RM → Option (IM × RM)
  | 0 => fun _ _ _ _ => none
  | n + 1 => X7_lay_s16 kf j0 (X7_lay_b16 kf j0 n)
set_option maxRecDepth 20000 in
theorem w_X7_lay_16 {l : Launch} {g : GE} {A : Nat → Prop} {LP : List Nat} {kf : KF} {j0 : Nat} (hPL : PL LP kf) (hj0 : j0 < 8) {p : Program} {e : Env} {s : State} {m : MethodId} {args : Array Value} {below : List Frame} {meth : Method} {c : Code} (S : CallFix p m c cX7_lay 4 s args UL RX7) (hK : KK g s) (hr : meth.sig.returnType = none) (hlk : meth.locks = false) {out : IM × RM} {k16 : Int32 → Int32 → IM → RM → Option (IM × RM)} (hk16 : ∀ {x2 : Int32} {x3 : Int32} {σ : IM} {ρ : RM} {H : Heap} {locs : List Loc} {ls : Array Slot}, Mem lyC 48 g A (va_pl LP (skE kf)) σ ρ s.heap H locs → lv_has ls 4 [(0, .ref (g.2.2 (29 + 2 * j0))), (2, .int x2), (3, .int x3)] → k16 x2 x3 σ ρ = some out → W p l e ({ frames := 1, cells := 0, slots := 0, locals := 20 }) s m args below meth c H locs 0 0 (MQ below (Qm lyC 48 g A (va_pl LP (skE kf)) out.1 out.2 none) args s 0 0 A) (F0 m 16 ls [])) : ∀ {x2 : Int32} {x3 : Int32} {σ : IM} {ρ : RM} {H : Heap} {locs : List Loc} {ls : Array Slot}, Mem lyC 48 g A (va_pl LP (skE kf)) σ ρ s.heap H locs → lv_has ls 4 [(0, .ref (g.2.2 (29 + 2 * j0))), (2, .int x2), (3, .int x3)] → X7_lay_s16 kf j0 k16 x2 x3 σ ρ = some out → W p l e ({ frames := 1, cells := 0, slots := 0, locals := 20 }) s m args below meth c H locs 0 0 (MQ below (Qm lyC 48 g A (va_pl LP (skE kf)) out.1 out.2 none) args s 0 0 A) (F0 m 16 ls []) := by
  intro x2 x3 σ ρ H locs ls hM hl hF
  unfold X7_lay_s16 at hF
  refine lv_iload_n S.1 S.2.1 dX7_lay_16 rfl (lv_at hl 2 rfl) ?_
  refine lv_iload_n S.1 S.2.1 dX7_lay_17 rfl (lv_at hl 1 rfl) ?_
  refine lv_icmp_ge (tgt := 34) S.1 S.2.1 dX7_lay_18 (by decide) (fun b6 => ?_) (fun b6 => ?_)
  · have hF := (if_pos b6).symm.trans hF
    cases hF
    exact z_mv S hM hr hlk dX7_lay_34
  · have hF := (if_neg b6).symm.trans hF
    refine lv_aload_n S.1 S.2.1 dX7_lay_21 rfl (lv_at hl 0 rfl) ?_
    refine r_getC S hK hM cfX7 (29 + 2 * j0) 0 (29 + 2 * j0 + 1) (sh_lt hj0) (ly_sh hj0) rfl (by decide) tw_1_97 dX7_lay_22 ?_
    refine lv_iload_n S.1 S.2.1 dX7_lay_25 rfl (lv_at hl 2 rfl) ?_
    refine lv_iconst (v := 0) S.1 S.2.1 dX7_lay_26 (by decide) ?_
    obtain ⟨hσ7, σ7, eσ7, hF⟩ := wr_some hF
    refine r_iast S hK hM (29 + 2 * j0 + 1) (sh_lt1 hj0) (ly_sh1 hj0) hσ7 eσ7 dX7_lay_27 (fun H locs hM => ?_)
    obtain ⟨v8, ev8, hF⟩ := bd_some hF
    refine lv_iinc (v := v8) (lv' := [(3, .int v8), (0, .ref (g.2.2 (29 + 2 * j0))), (2, .int x2)]) S.1 S.2.1 dX7_lay_28 hl (k := 2) rfl (by rw [ev8]; rfl) (by decide) rfl (fun ls hl => ?_)
    refine lv_goto (tgt := 16) S.1 S.2.1 dX7_lay_31 (by decide) ?_
    exact hk16 hM (lv_sub hl [1, 2, 0] rfl)  hF
theorem wl_X7_lay_16 {l : Launch} {g : GE} {A : Nat → Prop} {LP : List Nat} {kf : KF} {j0 : Nat} (hPL : PL LP kf) (hj0 : j0 < 8) {p : Program} {e : Env} {s : State} {m : MethodId} {args : Array Value} {below : List Frame} {meth : Method} {c : Code} (S : CallFix p m c cX7_lay 4 s args UL RX7) (hK : KK g s) (hr : meth.sig.returnType = none) (hlk : meth.locks = false) {out : IM × RM} : ∀ (n : Nat) {x2 : Int32} {x3 : Int32} {σ : IM} {ρ : RM} {H : Heap} {locs : List Loc} {ls : Array Slot}, Mem lyC 48 g A (va_pl LP (skE kf)) σ ρ s.heap H locs → lv_has ls 4 [(0, .ref (g.2.2 (29 + 2 * j0))), (2, .int x2), (3, .int x3)] → X7_lay_b16 kf j0 n x2 x3 σ ρ = some out → W p l e ({ frames := 1, cells := 0, slots := 0, locals := 20 }) s m args below meth c H locs 0 0 (MQ below (Qm lyC 48 g A (va_pl LP (skE kf)) out.1 out.2 none) args s 0 0 A) (F0 m 16 ls []) := by
  intro n
  induction n with
  | zero =>
    intro x2 x3 σ ρ H locs ls hM hl hF
    cases hF
  | succ n ih =>
    intro x2 x3 σ ρ H locs ls hM hl hF
    exact w_X7_lay_16 hPL hj0 S hK hr hlk ih hM hl hF
def X7_lay (kf : KF) (σ : IM) (ρ : RM) (j0 : Nat) (a1 : Int32) (a2 : Int32) : Option (IM × RM) := bd2 (X7_clear kf σ ρ j0) fun σ1 ρ2 => bd (up2 σ1 (29 + 2 * j0) 2 a1) fun σ4 => bd (up2 σ4 (29 + 2 * j0) 3 a2) fun σ5 => X7_lay_b16 kf j0 1000 a2 0 σ5 ρ2
set_option maxRecDepth 20000 in
theorem c_X7_lay {l : Launch} {g : GE} {A : Nat → Prop} {LP : List Nat} {kf : KF} {σ : IM} {ρ : RM} {j0 : Nat} {a1 : Int32} {a2 : Int32} {out : IM × RM} (hPL : PL LP kf) (hj0 : j0 < 8) (hF : X7_lay kf σ ρ j0 a1 a2 = some out) : Met l yX7_lay (.code yX7_lay cX7_lay 4 none :: UL) ({ frames := 1, cells := 0, slots := 0, locals := 20 }) (va_Pc [.ref (g.2.2 (29 + 2 * j0)), .int a1, .int a2] (PreM lyC 48 g A (va_pl LP (skE kf)) σ ρ)) (Qm lyC 48 g A (va_pl LP (skE kf)) out.1 out.2 none) 0 0 A := by
  refine e_of (by decide) (Nat.le_of_ble_eq_true rfl) ?_
  intro p e s m below meth c ls S hr hlk hv hl
  have hM := Mem.of hv
  have hK := hv.2.1
  have hl : lv_has ls 4 [(0, .ref (g.2.2 (29 + 2 * j0))), (1, .int a1), (2, .int a2)] := hl
  unfold X7_lay at hF
  refine lv_aload_n S.1 S.2.1 dX7_lay_0 rfl (lv_at hl 0 rfl) ?_
  obtain ⟨σ1, ρ2, er3, hF⟩ := bd2_some hF
  refine k_m (va_runV (As := []) (rest := []) S (c_X7_clear hPL hj0 er3) (cwV 0 S.2.2.2.2 (ul_V tw_4_63 tw_4_56 tw_4_57 tw_1_3 cw_X7_clear) rfl rfl rfl hv_X7_clear ⟨Nat.le_of_ble_eq_true rfl, Nat.le_of_ble_eq_true rfl⟩) ⟨PreM.blind, hM.recv hK cfX7 (29 + 2 * j0) (sh_lt hj0) (ly_sh hj0), hM.pre hK⟩ rfl rfl hl.1 rfl (lv_room (Nat.le_of_ble_eq_true rfl)) dX7_lay_1 ⟨Nat.zero_le _, Nat.zero_le _⟩) hM (fun H locs hM => ?_)
  show W _ _ _ _ _ _ _ _ _ _ _ _ _ _ _ (F0 m 4 ls [])
  refine lv_aload_n S.1 S.2.1 dX7_lay_4 rfl (lv_at hl 0 rfl) ?_
  refine lv_iload_n S.1 S.2.1 dX7_lay_5 rfl (lv_at hl 1 rfl) ?_
  obtain ⟨σ4, eσ4, hF⟩ := bd_some hF
  refine r_putI (ty := .int) S hK hM cfX7 tyX7_ok nmX7 (29 + 2 * j0) 2 (sh_lt hj0) (ly_sh hj0) rfl (by decide) tw_1_101 rfl (by decide +kernel) rfl rfl eσ4 dX7_lay_6 (fun H locs hM => ?_)
  refine lv_aload_n S.1 S.2.1 dX7_lay_9 rfl (lv_at hl 0 rfl) ?_
  refine lv_iload_n S.1 S.2.1 dX7_lay_10 rfl (lv_at hl 2 rfl) ?_
  obtain ⟨σ5, eσ5, hF⟩ := bd_some hF
  refine r_putI (ty := .int) S hK hM cfX7 tyX7_ok nmX7 (29 + 2 * j0) 3 (sh_lt hj0) (ly_sh hj0) rfl (by decide) tw_1_104 rfl (by decide +kernel) rfl rfl eσ5 dX7_lay_11 (fun H locs hM => ?_)
  refine lv_iconst (v := 0) S.1 S.2.1 dX7_lay_14 (by decide) ?_
  refine lv_istore_n (lv' := [(3, .int 0), (0, .ref (g.2.2 (29 + 2 * j0))), (1, .int a1), (2, .int a2)]) S.1 S.2.1 dX7_lay_15 rfl hl (by decide) rfl (fun ls hl => ?_)
  exact wl_X7_lay_16 hPL hj0 S hK hr hlk 1000 hM (lv_sub hl [1, 3, 0] rfl) hF
/-! X7_fitted -/
def X7_fitted (kf : KF) (σ : IM) (ρ : RM) (j0 : Nat) (a1 : Int32) : Option Int32 := if σ (29 + 2 * j0) 2 = 0 then (some a1.toInt8.toInt32) else (if σ (29 + 2 * j0) 2 = 1 then (some a1.toInt16.toInt32) else (some a1))
set_option maxRecDepth 20000 in
theorem c_X7_fitted {l : Launch} {g : GE} {A : Nat → Prop} {LP : List Nat} {kf : KF} {σ : IM} {ρ : RM} {j0 : Nat} {a1 : Int32} {out : Int32} (hPL : PL LP kf) (hj0 : j0 < 8) (hF : X7_fitted kf σ ρ j0 a1 = some out) : Met l yX7_fitted (.code yX7_fitted cX7_fitted 2 (some .int) :: UL) ({ frames := 0, cells := 0, slots := 0, locals := 0 }) (va_Pc [.ref (g.2.2 (29 + 2 * j0)), .int a1] (PreM lyC 48 g A (va_pl LP (skE kf)) σ ρ)) (Qp (some (.int out))) 0 0 NoA := by
  refine e_of (by decide) (Nat.le_of_ble_eq_true rfl) ?_
  intro p e s m below meth c ls S hr hlk hv hl
  have hM := Mem.of hv
  have hK := hv.2.1
  have hl : lv_has ls 2 [(0, .ref (g.2.2 (29 + 2 * j0))), (1, .int a1)] := hl
  unfold X7_fitted at hF
  refine lv_aload_n S.1 S.2.1 dX7_fitted_0 rfl (lv_at hl 0 rfl) ?_
  refine r_getI S hK hM cfX7 (29 + 2 * j0) 2 (sh_lt hj0) (ly_sh hj0) rfl (by decide) tw_1_101 dX7_fitted_1 ?_
  refine lv_if_ne (tgt := 10) S.1 S.2.1 dX7_fitted_4 (by decide) (fun b1 => ?_) (fun b1 => ?_)
  · have hF := (if_neg b1).symm.trans hF
    refine lv_aload_n S.1 S.2.1 dX7_fitted_10 rfl (lv_at hl 0 rfl) ?_
    refine r_getI S hK hM cfX7 (29 + 2 * j0) 2 (sh_lt hj0) (ly_sh hj0) rfl (by decide) tw_1_101 dX7_fitted_11 ?_
    refine lv_iconst (v := 1) S.1 S.2.1 dX7_fitted_14 (by decide) ?_
    refine lv_icmp_ne (tgt := 23) S.1 S.2.1 dX7_fitted_15 (by decide) (fun b2 => ?_) (fun b2 => ?_)
    · have hF := (if_neg b2).symm.trans hF
      refine lv_iload_n S.1 S.2.1 dX7_fitted_23 rfl (lv_at hl 1 rfl) ?_
      cases hF
      exact z_p S hr hlk rfl dX7_fitted_24
    · have hF := (if_pos b2).symm.trans hF
      refine lv_iload_n S.1 S.2.1 dX7_fitted_18 rfl (lv_at hl 1 rfl) ?_
      refine lv_i2s S.1 S.2.1 dX7_fitted_19 rfl ?_
      refine lv_goto (tgt := 24) S.1 S.2.1 dX7_fitted_20 (by decide) ?_
      cases hF
      exact z_p S hr hlk rfl dX7_fitted_24
  · have hF := (if_pos b1).symm.trans hF
    refine lv_iload_n S.1 S.2.1 dX7_fitted_7 rfl (lv_at hl 1 rfl) ?_
    refine lv_i2b S.1 S.2.1 dX7_fitted_8 rfl ?_
    cases hF
    exact z_p S hr hlk rfl dX7_fitted_9
/-! X7_least -/
def X7_least (kf : KF) (σ : IM) (ρ : RM) (j0 : Nat) : Option Int32 := if σ (29 + 2 * j0) 2 = 0 then (some (-128)) else (if σ (29 + 2 * j0) 2 = 1 then (some (-32768)) else (some (-2147483648)))
set_option maxRecDepth 20000 in
theorem c_X7_least {l : Launch} {g : GE} {A : Nat → Prop} {LP : List Nat} {kf : KF} {σ : IM} {ρ : RM} {j0 : Nat} {out : Int32} (hPL : PL LP kf) (hj0 : j0 < 8) (hF : X7_least kf σ ρ j0 = some out) : Met l yX7_least (.code yX7_least cX7_least 1 (some .int) :: UL) ({ frames := 0, cells := 0, slots := 0, locals := 0 }) (va_Pc [.ref (g.2.2 (29 + 2 * j0))] (PreM lyC 48 g A (va_pl LP (skE kf)) σ ρ)) (Qp (some (.int out))) 0 0 NoA := by
  refine e_of (by decide) (Nat.le_of_ble_eq_true rfl) ?_
  intro p e s m below meth c ls S hr hlk hv hl
  have hM := Mem.of hv
  have hK := hv.2.1
  have hl : lv_has ls 1 [(0, .ref (g.2.2 (29 + 2 * j0)))] := hl
  unfold X7_least at hF
  refine lv_aload_n S.1 S.2.1 dX7_least_0 rfl (lv_at hl 0 rfl) ?_
  refine r_getI S hK hM cfX7 (29 + 2 * j0) 2 (sh_lt hj0) (ly_sh hj0) rfl (by decide) tw_1_101 dX7_least_1 ?_
  refine lv_if_ne (tgt := 10) S.1 S.2.1 dX7_least_4 (by decide) (fun b1 => ?_) (fun b1 => ?_)
  · have hF := (if_neg b1).symm.trans hF
    refine lv_aload_n S.1 S.2.1 dX7_least_10 rfl (lv_at hl 0 rfl) ?_
    refine r_getI S hK hM cfX7 (29 + 2 * j0) 2 (sh_lt hj0) (ly_sh hj0) rfl (by decide) tw_1_101 dX7_least_11 ?_
    refine lv_iconst (v := 1) S.1 S.2.1 dX7_least_14 (by decide) ?_
    refine lv_icmp_ne (tgt := 24) S.1 S.2.1 dX7_least_15 (by decide) (fun b2 => ?_) (fun b2 => ?_)
    · have hF := (if_neg b2).symm.trans hF
      refine lv_ldc (v := (-2147483648)) S.1 S.2.1 S.2.2.2.1 (S.2.2.2.2 _ tw_3_197) dX7_least_24 ?_
      cases hF
      exact z_p S hr hlk rfl dX7_least_26
    · have hF := (if_pos b2).symm.trans hF
      refine lv_sipush (v := (-32768)) S.1 S.2.1 dX7_least_18 (by decide) ?_
      refine lv_goto (tgt := 26) S.1 S.2.1 dX7_least_21 (by decide) ?_
      cases hF
      exact z_p S hr hlk rfl dX7_least_26
  · have hF := (if_pos b1).symm.trans hF
    refine lv_bipush (v := (-128)) S.1 S.2.1 dX7_least_7 (by decide) ?_
    cases hF
    exact z_p S hr hlk rfl dX7_least_9
/-! X7_spans -/
def X7_spans (kf : KF) (σ : IM) (ρ : RM) (j0 : Nat) (a1 : Int32) (a2 : Int32) : Option Int32 := if a2 < 0 then (some 0) else (if a1 < 0 then (some 0) else (if (σ (29 + 2 * j0) 3) - a2 < a1 then (some 0) else (some 1)))
set_option maxRecDepth 20000 in
theorem c_X7_spans {l : Launch} {g : GE} {A : Nat → Prop} {LP : List Nat} {kf : KF} {σ : IM} {ρ : RM} {j0 : Nat} {a1 : Int32} {a2 : Int32} {out : Int32} (hPL : PL LP kf) (hj0 : j0 < 8) (hF : X7_spans kf σ ρ j0 a1 a2 = some out) : Met l yX7_spans (.code yX7_spans cX7_spans 3 (some .boolean) :: UL) ({ frames := 0, cells := 0, slots := 0, locals := 0 }) (va_Pc [.ref (g.2.2 (29 + 2 * j0)), .int a1, .int a2] (PreM lyC 48 g A (va_pl LP (skE kf)) σ ρ)) (Qp (some (.int out))) 0 0 NoA := by
  refine e_of (by decide) (Nat.le_of_ble_eq_true rfl) ?_
  intro p e s m below meth c ls S hr hlk hv hl
  have hM := Mem.of hv
  have hK := hv.2.1
  have hl : lv_has ls 3 [(0, .ref (g.2.2 (29 + 2 * j0))), (1, .int a1), (2, .int a2)] := hl
  unfold X7_spans at hF
  refine lv_iload_n S.1 S.2.1 dX7_spans_0 rfl (lv_at hl 2 rfl) ?_
  refine lv_if_lt (tgt := 22) S.1 S.2.1 dX7_spans_1 (by decide) (fun b1 => ?_) (fun b1 => ?_)
  · have hF := (if_pos b1).symm.trans hF
    refine lv_iconst (v := 0) S.1 S.2.1 dX7_spans_22 (by decide) ?_
    cases hF
    exact z_p S hr hlk rfl dX7_spans_23
  · have hF := (if_neg b1).symm.trans hF
    refine lv_iload_n S.1 S.2.1 dX7_spans_4 rfl (lv_at hl 1 rfl) ?_
    refine lv_if_lt (tgt := 22) S.1 S.2.1 dX7_spans_5 (by decide) (fun b2 => ?_) (fun b2 => ?_)
    · have hF := (if_pos b2).symm.trans hF
      refine lv_iconst (v := 0) S.1 S.2.1 dX7_spans_22 (by decide) ?_
      cases hF
      exact z_p S hr hlk rfl dX7_spans_23
    · have hF := (if_neg b2).symm.trans hF
      refine lv_iload_n S.1 S.2.1 dX7_spans_8 rfl (lv_at hl 1 rfl) ?_
      refine lv_aload_n S.1 S.2.1 dX7_spans_9 rfl (lv_at hl 0 rfl) ?_
      refine r_getI S hK hM cfX7 (29 + 2 * j0) 3 (sh_lt hj0) (ly_sh hj0) rfl (by decide) tw_1_104 dX7_spans_10 ?_
      refine lv_iload_n S.1 S.2.1 dX7_spans_13 rfl (lv_at hl 2 rfl) ?_
      refine lv_isub S.1 S.2.1 dX7_spans_14 ?_
      refine lv_icmp_gt (tgt := 22) S.1 S.2.1 dX7_spans_15 (by decide) (fun b3 => ?_) (fun b3 => ?_)
      · have hF := (if_pos b3).symm.trans hF
        refine lv_iconst (v := 0) S.1 S.2.1 dX7_spans_22 (by decide) ?_
        cases hF
        exact z_p S hr hlk rfl dX7_spans_23
      · have hF := (if_neg b3).symm.trans hF
        refine lv_iconst (v := 1) S.1 S.2.1 dX7_spans_18 (by decide) ?_
        refine lv_goto (tgt := 23) S.1 S.2.1 dX7_spans_19 (by decide) ?_
        cases hF
        exact z_p S hr hlk rfl dX7_spans_23
/-! X7_allows -/
def X7_allows_b23 (kf : KF) (σ : IM) (ρ : RM) (j0 : Nat) : Option Int32 := some 1
set_option maxRecDepth 20000 in
theorem w_X7_allows_23 {l : Launch} {g : GE} {A : Nat → Prop} {LP : List Nat} {kf : KF} {σ : IM} {ρ : RM} {j0 : Nat} (hPL : PL LP kf) (hj0 : j0 < 8) {p : Program} {e : Env} {s : State} {m : MethodId} {args : Array Value} {below : List Frame} {meth : Method} {c : Code} (S : CallFix p m c cX7_allows 3 s args UL RX7) (hK : KK g s) (hr : meth.sig.returnType = (some .boolean)) (hlk : meth.locks = false) (hM : Mem lyC 48 g A (va_pl LP (skE kf)) σ ρ s.heap s.heap []) {out : Int32} : ∀ {ls : Array Slot}, lv_has ls 3 [] → X7_allows_b23 kf σ ρ j0 = some out → W p l e ({ frames := 1, cells := 0, slots := 0, locals := 20 }) s m args below meth c s.heap [] 0 0 (MQ below (Qp (some (.int out))) args s 0 0 NoA) (F0 m 23 ls []) := by
  intro ls hl hF
  unfold X7_allows_b23 at hF
  refine lv_iconst (v := 1) S.1 S.2.1 dX7_allows_23 (by decide) ?_
  refine lv_goto (tgt := 28) S.1 S.2.1 dX7_allows_24 (by decide) ?_
  cases hF
  exact z_p S hr hlk rfl dX7_allows_28
def X7_allows (kf : KF) (σ : IM) (ρ : RM) (j0 : Nat) (a1 : Int32) (a2 : Int32) : Option Int32 := rd (σ (29 + 2 * j0 + 1)) 100 a1 fun v1 => if v1 = a2 then (X7_allows_b23 kf σ ρ j0) else (rd (σ (29 + 2 * j0 + 1)) 100 a1 fun v3 => bd1 (X7_least kf σ ρ j0) fun r4 => if v3 = r4 then (X7_allows_b23 kf σ ρ j0) else (some 0))
set_option maxRecDepth 20000 in
theorem c_X7_allows {l : Launch} {g : GE} {A : Nat → Prop} {LP : List Nat} {kf : KF} {σ : IM} {ρ : RM} {j0 : Nat} {a1 : Int32} {a2 : Int32} {out : Int32} (hPL : PL LP kf) (hj0 : j0 < 8) (hF : X7_allows kf σ ρ j0 a1 a2 = some out) : Met l yX7_allows (.code yX7_allows cX7_allows 3 (some .boolean) :: UL) ({ frames := 1, cells := 0, slots := 0, locals := 20 }) (va_Pc [.ref (g.2.2 (29 + 2 * j0)), .int a1, .int a2] (PreM lyC 48 g A (va_pl LP (skE kf)) σ ρ)) (Qp (some (.int out))) 0 0 NoA := by
  refine e_of (by decide) (Nat.le_of_ble_eq_true rfl) ?_
  intro p e s m below meth c ls S hr hlk hv hl
  have hM := Mem.of hv
  have hK := hv.2.1
  have hl : lv_has ls 3 [(0, .ref (g.2.2 (29 + 2 * j0))), (1, .int a1), (2, .int a2)] := hl
  unfold X7_allows at hF
  refine lv_aload_n S.1 S.2.1 dX7_allows_0 rfl (lv_at hl 0 rfl) ?_
  refine r_getC S hK hM cfX7 (29 + 2 * j0) 0 (29 + 2 * j0 + 1) (sh_lt hj0) (ly_sh hj0) rfl (by decide) tw_1_97 dX7_allows_1 ?_
  refine lv_iload_n S.1 S.2.1 dX7_allows_4 rfl (lv_at hl 1 rfl) ?_
  obtain ⟨hv1, v1, ev1, hF⟩ := rd_some hF
  refine r_iald S hK hM (29 + 2 * j0 + 1) (sh_lt1 hj0) (ly_sh1 hj0) hv1 ev1 dX7_allows_5 ?_
  refine lv_iload_n S.1 S.2.1 dX7_allows_6 rfl (lv_at hl 2 rfl) ?_
  refine lv_icmp_eq (tgt := 23) S.1 S.2.1 dX7_allows_7 (by decide) (fun b2 => ?_) (fun b2 => ?_)
  · have hF := (if_pos b2).symm.trans hF
    exact w_X7_allows_23 hPL hj0 S hK hr hlk hM (lv_sub hl [] rfl) hF
  · have hF := (if_neg b2).symm.trans hF
    refine lv_aload_n S.1 S.2.1 dX7_allows_10 rfl (lv_at hl 0 rfl) ?_
    refine r_getC S hK hM cfX7 (29 + 2 * j0) 0 (29 + 2 * j0 + 1) (sh_lt hj0) (ly_sh hj0) rfl (by decide) tw_1_97 dX7_allows_11 ?_
    refine lv_iload_n S.1 S.2.1 dX7_allows_14 rfl (lv_at hl 1 rfl) ?_
    obtain ⟨hv3, v3, ev3, hF⟩ := rd_some hF
    refine r_iald S hK hM (29 + 2 * j0 + 1) (sh_lt1 hj0) (ly_sh1 hj0) hv3 ev3 dX7_allows_15 ?_
    refine lv_aload_n S.1 S.2.1 dX7_allows_16 rfl (lv_at hl 0 rfl) ?_
    obtain ⟨r4, er4, hF⟩ := bd1_some hF
    refine k_p (va_runV (As := []) (rest := [.int v3]) S (c_X7_least hPL hj0 er4) (cwV 0 S.2.2.2.2 (ul_V tw_3_193 tw_3_194 tw_3_195 tw_1_3 cw_X7_least) rfl rfl rfl hv_X7_least ⟨Nat.le_of_ble_eq_true rfl, Nat.le_of_ble_eq_true rfl⟩) ⟨PreM.blind, hM.recv hK cfX7 (29 + 2 * j0) (sh_lt hj0) (ly_sh hj0), hM.pre hK⟩ rfl rfl hl.1 rfl (lv_room (Nat.le_of_ble_eq_true rfl)) dX7_allows_17 ⟨Nat.zero_le _, Nat.zero_le _⟩) ?_
    refine lv_icmp_ne (tgt := 27) S.1 S.2.1 dX7_allows_20 (by decide) (fun b5 => ?_) (fun b5 => ?_)
    · have hF := (if_neg b5).symm.trans hF
      refine lv_iconst (v := 0) S.1 S.2.1 dX7_allows_27 (by decide) ?_
      cases hF
      exact z_p S hr hlk rfl dX7_allows_28
    · have hF := (if_pos b5).symm.trans hF
      exact w_X7_allows_23 hPL hj0 S hK hr hlk hM (lv_sub hl [] rfl) hF
/-! X11_stroke -/
def X11_stroke (kf : KF) (σ : IM) (ρ : RM) (a1 : Int32) (a2 : Int32) : Option Int32 := bd1 (X1_knows kf σ ρ 1 a1) fun r1 => if r1 = 0 then (some (-1)) else (rq (ρ (1 + 8)) 8 a1 fun q3 => if a2 = 0 then (bd1 (V_kind kf q3) fun r5 => some r5) else (if a2 = 1 then (bd2 (kf q3) fun z7k z7 => some z7) else (if a2 = 2 then (bd1 (V_effort kf q3) fun r9 => some r9) else (if a2 = 3 then (bd1 (V_timeTo kf q3 0) fun r11 => some r11) else (if a2 = 4 then (bd1 (V_timeTo kf q3 8) fun r13 => some r13) else (some (-1)))))))
set_option maxRecDepth 20000 in
theorem c_X11_stroke {l : Launch} {g : GE} {A : Nat → Prop} {LP : List Nat} {kf : KF} {σ : IM} {ρ : RM} {a1 : Int32} {a2 : Int32} {out : Int32} (hPL : PL LP kf) (hF : X11_stroke kf σ ρ a1 a2 = some out) : Met l yX11_stroke (.code yX11_stroke cX11_stroke 4 (some .int) :: UL) ({ frames := 3, cells := 0, slots := 0, locals := 63 }) (va_Pc [.ref (g.2.2 0), .int a1, .int a2] (PreM lyC 48 g A (va_pl LP (skE kf)) σ ρ)) (Qp (some (.int out))) 0 0 NoA := by
  refine e_of (by decide) (Nat.le_of_ble_eq_true rfl) ?_
  intro p e s m below meth c ls S hr hlk hv hl
  have hM := Mem.of hv
  have hK := hv.2.1
  have hl : lv_has ls 4 [(0, .ref (g.2.2 0)), (1, .int a1), (2, .int a2)] := hl
  unfold X11_stroke at hF
  refine lv_aload_n S.1 S.2.1 dX11_stroke_0 rfl (lv_at hl 0 rfl) ?_
  refine r_getC S hK hM cfX11 0 0 1 (by decide) ly_0 rfl (by decide) tw_1_193 dX11_stroke_1 ?_
  refine lv_iload_n S.1 S.2.1 dX11_stroke_4 rfl (lv_at hl 1 rfl) ?_
  obtain ⟨r1, er1, hF⟩ := bd1_some hF
  refine k_p (va_runV (As := [.int a1]) (rest := []) S (c_X1_knows hPL ct_1 er1) (cwV 1 S.2.2.2.2 (ul_V tw_2_212 tw_2_69 tw_2_70 tw_1_2 cw_X1_knows) rfl rfl rfl hv_X1_knows ⟨Nat.le_of_ble_eq_true rfl, Nat.le_of_ble_eq_true rfl⟩) ⟨PreM.blind, hM.recv hK cfX1 1 (ct_lt0 ct_1) (ly_ct ct_1), hM.pre hK⟩ rfl rfl hl.1 rfl (lv_room (Nat.le_of_ble_eq_true rfl)) dX11_stroke_5 ⟨Nat.zero_le _, Nat.zero_le _⟩) ?_
  refine lv_if_ne (tgt := 13) S.1 S.2.1 dX11_stroke_8 (by decide) (fun b2 => ?_) (fun b2 => ?_)
  · have hF := (if_neg b2).symm.trans hF
    refine lv_aload_n S.1 S.2.1 dX11_stroke_13 rfl (lv_at hl 0 rfl) ?_
    refine r_getC S hK hM cfX11 0 0 1 (by decide) ly_0 rfl (by decide) tw_1_193 dX11_stroke_14 ?_
    refine r_getC S hK hM cfX1 1 7 (1 + 8) (ct_lt0 ct_1) (ly_ct ct_1) rfl (by decide) tw_1_54 dX11_stroke_17 ?_
    refine lv_iload_n S.1 S.2.1 dX11_stroke_20 rfl (lv_at hl 1 rfl) ?_
    obtain ⟨hq3, q3, eq3, hF⟩ := rq_some hF
    refine r_aald S hK hM (1 + 8) (ct_lt ct_1 8 (by decide)) (ly_c8 ct_1) hq3 eq3 dX11_stroke_21 ?_
    refine lv_astore_n (lv' := [(3, .ref q3), (0, .ref (g.2.2 0)), (1, .int a1), (2, .int a2)]) S.1 S.2.1 dX11_stroke_22 rfl hl (by decide) rfl (fun ls hl => ?_)
    refine lv_iload_n S.1 S.2.1 dX11_stroke_23 rfl (lv_at hl 3 rfl) ?_
    by_cases b4 : a2 = 0
    · have hF := (if_pos b4).symm.trans hF
      refine r_tab (off := 36) (tgt := 60) S dX11_stroke_24 b4 (by decide) (by decide) ?_
      refine lv_aload_n S.1 S.2.1 dX11_stroke_60 rfl (lv_at hl 0 rfl) ?_
      obtain ⟨r5, er5, hF⟩ := bd1_some hF
      refine k_p (rv_X11_78 (rest := []) S hK hM hPL er5 hl.1 dX11_stroke_61 (Nat.le_of_ble_eq_true rfl) (Nat.le_of_ble_eq_true rfl) (lv_room (Nat.le_of_ble_eq_true rfl))) ?_
      cases hF
      exact z_p S hr hlk rfl dX11_stroke_64
    · have hF := (if_neg b4).symm.trans hF
      by_cases b6 : a2 = 1
      · have hF := (if_pos b6).symm.trans hF
        refine r_tab (off := 41) (tgt := 65) S dX11_stroke_24 b6 (by decide) (by decide) ?_
        refine lv_aload_n S.1 S.2.1 dX11_stroke_65 rfl (lv_at hl 0 rfl) ?_
        obtain ⟨z7k, z7, ez7, hF⟩ := bd2_some hF
        refine r_fig S hK hM hPL ez7 tw_1_130 (fun _ h => h) dX11_stroke_66 ?_
        cases hF
        exact z_p S hr hlk rfl dX11_stroke_69
      · have hF := (if_neg b6).symm.trans hF
        by_cases b8 : a2 = 2
        · have hF := (if_pos b8).symm.trans hF
          refine r_tab (off := 46) (tgt := 70) S dX11_stroke_24 b8 (by decide) (by decide) ?_
          refine lv_aload_n S.1 S.2.1 dX11_stroke_70 rfl (lv_at hl 0 rfl) ?_
          obtain ⟨r9, er9, hF⟩ := bd1_some hF
          refine k_p (rv_X11_85 (rest := []) S hK hM hPL er9 hl.1 dX11_stroke_71 (Nat.le_of_ble_eq_true rfl) (Nat.le_of_ble_eq_true rfl) (lv_room (Nat.le_of_ble_eq_true rfl))) ?_
          cases hF
          exact z_p S hr hlk rfl dX11_stroke_74
        · have hF := (if_neg b8).symm.trans hF
          by_cases b10 : a2 = 3
          · have hF := (if_pos b10).symm.trans hF
            refine r_tab (off := 51) (tgt := 75) S dX11_stroke_24 b10 (by decide) (by decide) ?_
            refine lv_aload_n S.1 S.2.1 dX11_stroke_75 rfl (lv_at hl 0 rfl) ?_
            refine lv_iconst (v := 0) S.1 S.2.1 dX11_stroke_76 (by decide) ?_
            obtain ⟨r11, er11, hF⟩ := bd1_some hF
            refine k_p (rv_X11_88 (rest := []) S hK hM hPL er11 hl.1 dX11_stroke_77 (Nat.le_of_ble_eq_true rfl) (Nat.le_of_ble_eq_true rfl) (lv_room (Nat.le_of_ble_eq_true rfl))) ?_
            cases hF
            exact z_p S hr hlk rfl dX11_stroke_80
          · have hF := (if_neg b10).symm.trans hF
            by_cases b12 : a2 = 4
            · have hF := (if_pos b12).symm.trans hF
              refine r_tab (off := 57) (tgt := 81) S dX11_stroke_24 b12 (by decide) (by decide) ?_
              refine lv_aload_n S.1 S.2.1 dX11_stroke_81 rfl (lv_at hl 0 rfl) ?_
              refine lv_bipush (v := 8) S.1 S.2.1 dX11_stroke_82 (by decide) ?_
              obtain ⟨r13, er13, hF⟩ := bd1_some hF
              refine k_p (rv_X11_88 (rest := []) S hK hM hPL er13 hl.1 dX11_stroke_84 (Nat.le_of_ble_eq_true rfl) (Nat.le_of_ble_eq_true rfl) (lv_room (Nat.le_of_ble_eq_true rfl))) ?_
              cases hF
              exact z_p S hr hlk rfl dX11_stroke_87
            · have hF := (if_neg b12).symm.trans hF
              refine r_tabD (tgt := 88) S dX11_stroke_24 (by have n0 := ne_toInt b4 (k := 0) (by decide); have n1 := ne_toInt b6 (k := 1) (by decide); have n2 := ne_toInt b8 (k := 2) (by decide); have n3 := ne_toInt b10 (k := 3) (by decide); have n4 := ne_toInt b12 (k := 4) (by decide); omega) (by decide) ?_
              refine lv_iconst (v := (-1)) S.1 S.2.1 dX11_stroke_88 (by decide) ?_
              cases hF
              exact z_p S hr hlk rfl dX11_stroke_89
  · have hF := (if_pos b2).symm.trans hF
    refine lv_iconst (v := (-1)) S.1 S.2.1 dX11_stroke_11 (by decide) ?_
    cases hF
    exact z_p S hr hlk rfl dX11_stroke_12
/-! X11_player -/
def X11_player (kf : KF) (σ : IM) (ρ : RM) (a1 : Int32) (a2 : Int32) : Option Int32 := bd1 (X11_isBelow a1 4) fun r1 => if r1 = 0 then (some (-1)) else (if a2 = 0 then (rd (σ (1 + 1)) 4 a1 fun v4 => some v4) else (if a2 = 1 then (rd (σ (1 + 2)) 4 a1 fun v6 => some v6) else (if a2 = 2 then (rd (σ (1 + 3)) 4 a1 fun v8 => some v8) else (if a2 = 3 then (rd (σ (1 + 4)) 4 a1 fun v10 => some v10) else (if a2 = 4 then (rd (σ (1 + 3)) 4 a1 fun v12 => bd1 (X1_stepsIn kf σ ρ 1 1 a1 v12) fun r13 => some r13) else (some (-1)))))))
set_option maxRecDepth 20000 in
theorem c_X11_player {l : Launch} {g : GE} {A : Nat → Prop} {LP : List Nat} {kf : KF} {σ : IM} {ρ : RM} {a1 : Int32} {a2 : Int32} {out : Int32} (hPL : PL LP kf) (hF : X11_player kf σ ρ a1 a2 = some out) : Met l yX11_player (.code yX11_player cX11_player 3 (some .int) :: UL) ({ frames := 2, cells := 0, slots := 0, locals := 44 }) (va_Pc [.ref (g.2.2 0), .int a1, .int a2] (PreM lyC 48 g A (va_pl LP (skE kf)) σ ρ)) (Qp (some (.int out))) 0 0 NoA := by
  refine e_of (by decide) (Nat.le_of_ble_eq_true rfl) ?_
  intro p e s m below meth c ls S hr hlk hv hl
  have hM := Mem.of hv
  have hK := hv.2.1
  have hl : lv_has ls 3 [(0, .ref (g.2.2 0)), (1, .int a1), (2, .int a2)] := hl
  unfold X11_player at hF
  refine lv_iload_n S.1 S.2.1 dX11_player_0 rfl (lv_at hl 1 rfl) ?_
  refine lv_iconst (v := 4) S.1 S.2.1 dX11_player_1 (by decide) ?_
  obtain ⟨r1, er1, hF⟩ := bd1_some hF
  refine k_p (va_runS (As := [.int a1, .int 4]) (rest := []) S (c_X11_isBelow hPL  er1) (va_cwS 2 S.2.2.2.2 (ul_S tw_1_229 tw_1_230 tw_1_1 cw_X11_isBelow) rfl rfl rfl hs_X11_isBelow ⟨Nat.le_of_ble_eq_true rfl, Nat.le_of_ble_eq_true rfl⟩) ⟨PreM.blind, hM.pre hK⟩ rfl rfl hl.1 rfl (lv_room (Nat.le_of_ble_eq_true rfl)) dX11_player_2 ⟨Nat.zero_le _, Nat.zero_le _⟩) ?_
  refine lv_if_ne (tgt := 10) S.1 S.2.1 dX11_player_5 (by decide) (fun b2 => ?_) (fun b2 => ?_)
  · have hF := (if_neg b2).symm.trans hF
    refine lv_iload_n S.1 S.2.1 dX11_player_10 rfl (lv_at hl 2 rfl) ?_
    by_cases b3 : a2 = 0
    · have hF := (if_pos b3).symm.trans hF
      refine r_tab (off := 33) (tgt := 44) S dX11_player_11 b3 (by decide) (by decide) ?_
      refine lv_aload_n S.1 S.2.1 dX11_player_44 rfl (lv_at hl 0 rfl) ?_
      refine r_getC S hK hM cfX11 0 0 1 (by decide) ly_0 rfl (by decide) tw_1_193 dX11_player_45 ?_
      refine r_getC S hK hM cfX1 1 0 (1 + 1) (ct_lt0 ct_1) (ly_ct ct_1) rfl (by decide) tw_1_40 dX11_player_48 ?_
      refine lv_iload_n S.1 S.2.1 dX11_player_51 rfl (lv_at hl 1 rfl) ?_
      obtain ⟨hv4, v4, ev4, hF⟩ := rd_some hF
      refine r_iald S hK hM (1 + 1) (ct_lt ct_1 1 (by decide)) (ly_c1 ct_1) hv4 ev4 dX11_player_52 ?_
      cases hF
      exact z_p S hr hlk rfl dX11_player_53
    · have hF := (if_neg b3).symm.trans hF
      by_cases b5 : a2 = 1
      · have hF := (if_pos b5).symm.trans hF
        refine r_tab (off := 43) (tgt := 54) S dX11_player_11 b5 (by decide) (by decide) ?_
        refine lv_aload_n S.1 S.2.1 dX11_player_54 rfl (lv_at hl 0 rfl) ?_
        refine r_getC S hK hM cfX11 0 0 1 (by decide) ly_0 rfl (by decide) tw_1_193 dX11_player_55 ?_
        refine r_getC S hK hM cfX1 1 1 (1 + 2) (ct_lt0 ct_1) (ly_ct ct_1) rfl (by decide) tw_1_42 dX11_player_58 ?_
        refine lv_iload_n S.1 S.2.1 dX11_player_61 rfl (lv_at hl 1 rfl) ?_
        obtain ⟨hv6, v6, ev6, hF⟩ := rd_some hF
        refine r_iald S hK hM (1 + 2) (ct_lt ct_1 2 (by decide)) (ly_c2 ct_1) hv6 ev6 dX11_player_62 ?_
        cases hF
        exact z_p S hr hlk rfl dX11_player_63
      · have hF := (if_neg b5).symm.trans hF
        by_cases b7 : a2 = 2
        · have hF := (if_pos b7).symm.trans hF
          refine r_tab (off := 53) (tgt := 64) S dX11_player_11 b7 (by decide) (by decide) ?_
          refine lv_aload_n S.1 S.2.1 dX11_player_64 rfl (lv_at hl 0 rfl) ?_
          refine r_getC S hK hM cfX11 0 0 1 (by decide) ly_0 rfl (by decide) tw_1_193 dX11_player_65 ?_
          refine r_getC S hK hM cfX1 1 2 (1 + 3) (ct_lt0 ct_1) (ly_ct ct_1) rfl (by decide) tw_1_44 dX11_player_68 ?_
          refine lv_iload_n S.1 S.2.1 dX11_player_71 rfl (lv_at hl 1 rfl) ?_
          obtain ⟨hv8, v8, ev8, hF⟩ := rd_some hF
          refine r_iald S hK hM (1 + 3) (ct_lt ct_1 3 (by decide)) (ly_c3 ct_1) hv8 ev8 dX11_player_72 ?_
          cases hF
          exact z_p S hr hlk rfl dX11_player_73
        · have hF := (if_neg b7).symm.trans hF
          by_cases b9 : a2 = 3
          · have hF := (if_pos b9).symm.trans hF
            refine r_tab (off := 63) (tgt := 74) S dX11_player_11 b9 (by decide) (by decide) ?_
            refine lv_aload_n S.1 S.2.1 dX11_player_74 rfl (lv_at hl 0 rfl) ?_
            refine r_getC S hK hM cfX11 0 0 1 (by decide) ly_0 rfl (by decide) tw_1_193 dX11_player_75 ?_
            refine r_getC S hK hM cfX1 1 3 (1 + 4) (ct_lt0 ct_1) (ly_ct ct_1) rfl (by decide) tw_1_46 dX11_player_78 ?_
            refine lv_iload_n S.1 S.2.1 dX11_player_81 rfl (lv_at hl 1 rfl) ?_
            obtain ⟨hv10, v10, ev10, hF⟩ := rd_some hF
            refine r_iald S hK hM (1 + 4) (ct_lt ct_1 4 (by decide)) (ly_c4 ct_1) hv10 ev10 dX11_player_82 ?_
            cases hF
            exact z_p S hr hlk rfl dX11_player_83
          · have hF := (if_neg b9).symm.trans hF
            by_cases b11 : a2 = 4
            · have hF := (if_pos b11).symm.trans hF
              refine r_tab (off := 73) (tgt := 84) S dX11_player_11 b11 (by decide) (by decide) ?_
              refine lv_aload_n S.1 S.2.1 dX11_player_84 rfl (lv_at hl 0 rfl) ?_
              refine r_getC S hK hM cfX11 0 0 1 (by decide) ly_0 rfl (by decide) tw_1_193 dX11_player_85 ?_
              refine lv_iconst (v := 1) S.1 S.2.1 dX11_player_88 (by decide) ?_
              refine lv_iload_n S.1 S.2.1 dX11_player_89 rfl (lv_at hl 1 rfl) ?_
              refine lv_aload_n S.1 S.2.1 dX11_player_90 rfl (lv_at hl 0 rfl) ?_
              refine r_getC S hK hM cfX11 0 0 1 (by decide) ly_0 rfl (by decide) tw_1_193 dX11_player_91 ?_
              refine r_getC S hK hM cfX1 1 2 (1 + 3) (ct_lt0 ct_1) (ly_ct ct_1) rfl (by decide) tw_1_44 dX11_player_94 ?_
              refine lv_iload_n S.1 S.2.1 dX11_player_97 rfl (lv_at hl 1 rfl) ?_
              obtain ⟨hv12, v12, ev12, hF⟩ := rd_some hF
              refine r_iald S hK hM (1 + 3) (ct_lt ct_1 3 (by decide)) (ly_c3 ct_1) hv12 ev12 dX11_player_98 ?_
              obtain ⟨r13, er13, hF⟩ := bd1_some hF
              refine k_p (va_runV (As := [.int 1, .int a1, .int v12]) (rest := []) S (c_X1_stepsIn hPL ct_1 er13) (cwV 3 S.2.2.2.2 (ul_V tw_3_5 tw_2_155 tw_2_156 tw_1_2 cw_X1_stepsIn) rfl rfl rfl hv_X1_stepsIn ⟨Nat.le_of_ble_eq_true rfl, Nat.le_of_ble_eq_true rfl⟩) ⟨PreM.blind, hM.recv hK cfX1 1 (ct_lt0 ct_1) (ly_ct ct_1), hM.pre hK⟩ rfl rfl hl.1 rfl (lv_room (Nat.le_of_ble_eq_true rfl)) dX11_player_99 ⟨Nat.zero_le _, Nat.zero_le _⟩) ?_
              cases hF
              exact z_p S hr hlk rfl dX11_player_102
            · have hF := (if_neg b11).symm.trans hF
              refine r_tabD (tgt := 103) S dX11_player_11 (by have n0 := ne_toInt b3 (k := 0) (by decide); have n1 := ne_toInt b5 (k := 1) (by decide); have n2 := ne_toInt b7 (k := 2) (by decide); have n3 := ne_toInt b9 (k := 3) (by decide); have n4 := ne_toInt b11 (k := 4) (by decide); omega) (by decide) ?_
              refine lv_iconst (v := (-1)) S.1 S.2.1 dX11_player_103 (by decide) ?_
              cases hF
              exact z_p S hr hlk rfl dX11_player_104
  · have hF := (if_pos b2).symm.trans hF
    refine lv_iconst (v := (-1)) S.1 S.2.1 dX11_player_8 (by decide) ?_
    cases hF
    exact z_p S hr hlk rfl dX11_player_9
/-! X11_side -/
def X11_side (kf : KF) (σ : IM) (ρ : RM) (a1 : Int32) (a2 : Int32) : Option Int32 := bd1 (X11_isBelow a1 2) fun r1 => if r1 = 0 then (some (-1)) else (if a2 = 0 then (rd (σ (1 + 5)) 2 a1 fun v4 => some v4) else (if a2 = 1 then (rd (σ (1 + 6)) 2 a1 fun v6 => some v6) else (if a2 = 2 then (rd (σ (1 + 7)) 2 a1 fun v8 => some v8) else (if a2 = 3 then (bd1 (X1_outOfPlace kf σ ρ 1 a1) fun r10 => some r10) else (some (-1))))))
set_option maxRecDepth 20000 in
theorem c_X11_side {l : Launch} {g : GE} {A : Nat → Prop} {LP : List Nat} {kf : KF} {σ : IM} {ρ : RM} {a1 : Int32} {a2 : Int32} {out : Int32} (hPL : PL LP kf) (hF : X11_side kf σ ρ a1 a2 = some out) : Met l yX11_side (.code yX11_side cX11_side 3 (some .int) :: UL) ({ frames := 3, cells := 0, slots := 0, locals := 64 }) (va_Pc [.ref (g.2.2 0), .int a1, .int a2] (PreM lyC 48 g A (va_pl LP (skE kf)) σ ρ)) (Qp (some (.int out))) 0 0 NoA := by
  refine e_of (by decide) (Nat.le_of_ble_eq_true rfl) ?_
  intro p e s m below meth c ls S hr hlk hv hl
  have hM := Mem.of hv
  have hK := hv.2.1
  have hl : lv_has ls 3 [(0, .ref (g.2.2 0)), (1, .int a1), (2, .int a2)] := hl
  unfold X11_side at hF
  refine lv_iload_n S.1 S.2.1 dX11_side_0 rfl (lv_at hl 1 rfl) ?_
  refine lv_iconst (v := 2) S.1 S.2.1 dX11_side_1 (by decide) ?_
  obtain ⟨r1, er1, hF⟩ := bd1_some hF
  refine k_p (va_runS (As := [.int a1, .int 2]) (rest := []) S (c_X11_isBelow hPL  er1) (va_cwS 2 S.2.2.2.2 (ul_S tw_1_229 tw_1_230 tw_1_1 cw_X11_isBelow) rfl rfl rfl hs_X11_isBelow ⟨Nat.le_of_ble_eq_true rfl, Nat.le_of_ble_eq_true rfl⟩) ⟨PreM.blind, hM.pre hK⟩ rfl rfl hl.1 rfl (lv_room (Nat.le_of_ble_eq_true rfl)) dX11_side_2 ⟨Nat.zero_le _, Nat.zero_le _⟩) ?_
  refine lv_if_ne (tgt := 10) S.1 S.2.1 dX11_side_5 (by decide) (fun b2 => ?_) (fun b2 => ?_)
  · have hF := (if_neg b2).symm.trans hF
    refine lv_iload_n S.1 S.2.1 dX11_side_10 rfl (lv_at hl 2 rfl) ?_
    by_cases b3 : a2 = 0
    · have hF := (if_pos b3).symm.trans hF
      refine r_tab (off := 29) (tgt := 40) S dX11_side_11 b3 (by decide) (by decide) ?_
      refine lv_aload_n S.1 S.2.1 dX11_side_40 rfl (lv_at hl 0 rfl) ?_
      refine r_getC S hK hM cfX11 0 0 1 (by decide) ly_0 rfl (by decide) tw_1_193 dX11_side_41 ?_
      refine r_getC S hK hM cfX1 1 4 (1 + 5) (ct_lt0 ct_1) (ly_ct ct_1) rfl (by decide) tw_1_48 dX11_side_44 ?_
      refine lv_iload_n S.1 S.2.1 dX11_side_47 rfl (lv_at hl 1 rfl) ?_
      obtain ⟨hv4, v4, ev4, hF⟩ := rd_some hF
      refine r_iald S hK hM (1 + 5) (ct_lt ct_1 5 (by decide)) (ly_c5 ct_1) hv4 ev4 dX11_side_48 ?_
      cases hF
      exact z_p S hr hlk rfl dX11_side_49
    · have hF := (if_neg b3).symm.trans hF
      by_cases b5 : a2 = 1
      · have hF := (if_pos b5).symm.trans hF
        refine r_tab (off := 39) (tgt := 50) S dX11_side_11 b5 (by decide) (by decide) ?_
        refine lv_aload_n S.1 S.2.1 dX11_side_50 rfl (lv_at hl 0 rfl) ?_
        refine r_getC S hK hM cfX11 0 0 1 (by decide) ly_0 rfl (by decide) tw_1_193 dX11_side_51 ?_
        refine r_getC S hK hM cfX1 1 5 (1 + 6) (ct_lt0 ct_1) (ly_ct ct_1) rfl (by decide) tw_1_50 dX11_side_54 ?_
        refine lv_iload_n S.1 S.2.1 dX11_side_57 rfl (lv_at hl 1 rfl) ?_
        obtain ⟨hv6, v6, ev6, hF⟩ := rd_some hF
        refine r_iald S hK hM (1 + 6) (ct_lt ct_1 6 (by decide)) (ly_c6 ct_1) hv6 ev6 dX11_side_58 ?_
        cases hF
        exact z_p S hr hlk rfl dX11_side_59
      · have hF := (if_neg b5).symm.trans hF
        by_cases b7 : a2 = 2
        · have hF := (if_pos b7).symm.trans hF
          refine r_tab (off := 49) (tgt := 60) S dX11_side_11 b7 (by decide) (by decide) ?_
          refine lv_aload_n S.1 S.2.1 dX11_side_60 rfl (lv_at hl 0 rfl) ?_
          refine r_getC S hK hM cfX11 0 0 1 (by decide) ly_0 rfl (by decide) tw_1_193 dX11_side_61 ?_
          refine r_getC S hK hM cfX1 1 6 (1 + 7) (ct_lt0 ct_1) (ly_ct ct_1) rfl (by decide) tw_1_52 dX11_side_64 ?_
          refine lv_iload_n S.1 S.2.1 dX11_side_67 rfl (lv_at hl 1 rfl) ?_
          obtain ⟨hv8, v8, ev8, hF⟩ := rd_some hF
          refine r_iald S hK hM (1 + 7) (ct_lt ct_1 7 (by decide)) (ly_c7 ct_1) hv8 ev8 dX11_side_68 ?_
          cases hF
          exact z_p S hr hlk rfl dX11_side_69
        · have hF := (if_neg b7).symm.trans hF
          by_cases b9 : a2 = 3
          · have hF := (if_pos b9).symm.trans hF
            refine r_tab (off := 59) (tgt := 70) S dX11_side_11 b9 (by decide) (by decide) ?_
            refine lv_aload_n S.1 S.2.1 dX11_side_70 rfl (lv_at hl 0 rfl) ?_
            refine r_getC S hK hM cfX11 0 0 1 (by decide) ly_0 rfl (by decide) tw_1_193 dX11_side_71 ?_
            refine lv_iload_n S.1 S.2.1 dX11_side_74 rfl (lv_at hl 1 rfl) ?_
            obtain ⟨r10, er10, hF⟩ := bd1_some hF
            refine k_p (va_runV (As := [.int a1]) (rest := []) S (c_X1_outOfPlace hPL ct_1 er10) (cwV 1 S.2.2.2.2 (ul_V tw_3_10 tw_3_11 tw_3_12 tw_1_2 cw_X1_outOfPlace) rfl rfl rfl hv_X1_outOfPlace ⟨Nat.le_of_ble_eq_true rfl, Nat.le_of_ble_eq_true rfl⟩) ⟨PreM.blind, hM.recv hK cfX1 1 (ct_lt0 ct_1) (ly_ct ct_1), hM.pre hK⟩ rfl rfl hl.1 rfl (lv_room (Nat.le_of_ble_eq_true rfl)) dX11_side_75 ⟨Nat.zero_le _, Nat.zero_le _⟩) ?_
            cases hF
            exact z_p S hr hlk rfl dX11_side_78
          · have hF := (if_neg b9).symm.trans hF
            refine r_tabD (tgt := 79) S dX11_side_11 (by have n0 := ne_toInt b3 (k := 0) (by decide); have n1 := ne_toInt b5 (k := 1) (by decide); have n2 := ne_toInt b7 (k := 2) (by decide); have n3 := ne_toInt b9 (k := 3) (by decide); omega) (by decide) ?_
            refine lv_iconst (v := (-1)) S.1 S.2.1 dX11_side_79 (by decide) ?_
            cases hF
            exact z_p S hr hlk rfl dX11_side_80
  · have hF := (if_pos b2).symm.trans hF
    refine lv_iconst (v := (-1)) S.1 S.2.1 dX11_side_8 (by decide) ?_
    cases hF
    exact z_p S hr hlk rfl dX11_side_9
/-! X11_refusalOf -/
def X11_refusalOf (kf : KF) (σ : IM) (ρ : RM) (a1 : Int32) (a2 : Int32) : Option Int32 := bd1 (X11_isBelow a1 8) fun r1 => if r1 = 0 then (some (-1)) else (ix 8 a1 fun j3 => bd1 (X7_isBare kf σ ρ j3) fun r4 => if r4 = 0 then (ix 8 a1 fun j6 => bd1 (X7_isRow kf σ ρ j6) fun r7 => if r7 = a2 then (some 0) else (some (-12))) else (some (-11)))
set_option maxRecDepth 20000 in
theorem c_X11_refusalOf {l : Launch} {g : GE} {A : Nat → Prop} {LP : List Nat} {kf : KF} {σ : IM} {ρ : RM} {a1 : Int32} {a2 : Int32} {out : Int32} (hPL : PL LP kf) (hF : X11_refusalOf kf σ ρ a1 a2 = some out) : Met l yX11_refusalOf (.code yX11_refusalOf cX11_refusalOf 3 (some .int) :: UL) ({ frames := 2, cells := 0, slots := 0, locals := 40 }) (va_Pc [.ref (g.2.2 0), .int a1, .int a2] (PreM lyC 48 g A (va_pl LP (skE kf)) σ ρ)) (Qp (some (.int out))) 0 0 NoA := by
  refine e_of (by decide) (Nat.le_of_ble_eq_true rfl) ?_
  intro p e s m below meth c ls S hr hlk hv hl
  have hM := Mem.of hv
  have hK := hv.2.1
  have hl : lv_has ls 3 [(0, .ref (g.2.2 0)), (1, .int a1), (2, .int a2)] := hl
  unfold X11_refusalOf at hF
  refine lv_iload_n S.1 S.2.1 dX11_refusalOf_0 rfl (lv_at hl 1 rfl) ?_
  refine lv_bipush (v := 8) S.1 S.2.1 dX11_refusalOf_1 (by decide) ?_
  obtain ⟨r1, er1, hF⟩ := bd1_some hF
  refine k_p (va_runS (As := [.int a1, .int 8]) (rest := []) S (c_X11_isBelow hPL  er1) (va_cwS 2 S.2.2.2.2 (ul_S tw_1_229 tw_1_230 tw_1_1 cw_X11_isBelow) rfl rfl rfl hs_X11_isBelow ⟨Nat.le_of_ble_eq_true rfl, Nat.le_of_ble_eq_true rfl⟩) ⟨PreM.blind, hM.pre hK⟩ rfl rfl hl.1 rfl (lv_room (Nat.le_of_ble_eq_true rfl)) dX11_refusalOf_3 ⟨Nat.zero_le _, Nat.zero_le _⟩) ?_
  refine lv_if_ne (tgt := 11) S.1 S.2.1 dX11_refusalOf_6 (by decide) (fun b2 => ?_) (fun b2 => ?_)
  · have hF := (if_neg b2).symm.trans hF
    refine lv_aload_n S.1 S.2.1 dX11_refusalOf_11 rfl (lv_at hl 0 rfl) ?_
    refine r_getC S hK hM cfX11 0 4 28 (by decide) ly_0 rfl (by decide) tw_1_197 dX11_refusalOf_12 ?_
    refine lv_iload_n S.1 S.2.1 dX11_refusalOf_15 rfl (lv_at hl 1 rfl) ?_
    obtain ⟨hj3, j3, ej3, lj3, hF⟩ := ix_some hF
    refine r_aaldS S hK hM 28 (by decide) ly_28 hj3 ej3 dX11_refusalOf_16 ?_
    obtain ⟨r4, er4, hF⟩ := bd1_some hF
    refine k_p (va_runV (As := []) (rest := []) S (c_X7_isBare hPL lj3 er4) (cwV 0 S.2.2.2.2 (ul_V tw_1_232 tw_1_233 tw_1_234 tw_1_3 cw_X7_isBare) rfl rfl rfl hv_X7_isBare ⟨Nat.le_of_ble_eq_true rfl, Nat.le_of_ble_eq_true rfl⟩) ⟨PreM.blind, hM.recv hK cfX7 (29 + 2 * j3) (sh_lt lj3) (ly_sh lj3), hM.pre hK⟩ rfl rfl hl.1 rfl (lv_room (Nat.le_of_ble_eq_true rfl)) dX11_refusalOf_17 ⟨Nat.zero_le _, Nat.zero_le _⟩) ?_
    refine lv_if_eq (tgt := 26) S.1 S.2.1 dX11_refusalOf_20 (by decide) (fun b5 => ?_) (fun b5 => ?_)
    · have hF := (if_pos b5).symm.trans hF
      refine lv_aload_n S.1 S.2.1 dX11_refusalOf_26 rfl (lv_at hl 0 rfl) ?_
      refine r_getC S hK hM cfX11 0 4 28 (by decide) ly_0 rfl (by decide) tw_1_197 dX11_refusalOf_27 ?_
      refine lv_iload_n S.1 S.2.1 dX11_refusalOf_30 rfl (lv_at hl 1 rfl) ?_
      obtain ⟨hj6, j6, ej6, lj6, hF⟩ := ix_some hF
      refine r_aaldS S hK hM 28 (by decide) ly_28 hj6 ej6 dX11_refusalOf_31 ?_
      obtain ⟨r7, er7, hF⟩ := bd1_some hF
      refine k_p (va_runV (As := []) (rest := []) S (c_X7_isRow hPL lj6 er7) (cwV 0 S.2.2.2.2 (ul_V tw_2_0 tw_1_237 tw_1_238 tw_1_3 cw_X7_isRow) rfl rfl rfl hv_X7_isRow ⟨Nat.le_of_ble_eq_true rfl, Nat.le_of_ble_eq_true rfl⟩) ⟨PreM.blind, hM.recv hK cfX7 (29 + 2 * j6) (sh_lt lj6) (ly_sh lj6), hM.pre hK⟩ rfl rfl hl.1 rfl (lv_room (Nat.le_of_ble_eq_true rfl)) dX11_refusalOf_32 ⟨Nat.zero_le _, Nat.zero_le _⟩) ?_
      refine lv_iload_n S.1 S.2.1 dX11_refusalOf_35 rfl (lv_at hl 2 rfl) ?_
      refine lv_icmp_ne (tgt := 43) S.1 S.2.1 dX11_refusalOf_36 (by decide) (fun b8 => ?_) (fun b8 => ?_)
      · have hF := (if_neg b8).symm.trans hF
        refine lv_bipush (v := (-12)) S.1 S.2.1 dX11_refusalOf_43 (by decide) ?_
        cases hF
        exact z_p S hr hlk rfl dX11_refusalOf_45
      · have hF := (if_pos b8).symm.trans hF
        refine lv_iconst (v := 0) S.1 S.2.1 dX11_refusalOf_39 (by decide) ?_
        refine lv_goto (tgt := 45) S.1 S.2.1 dX11_refusalOf_40 (by decide) ?_
        cases hF
        exact z_p S hr hlk rfl dX11_refusalOf_45
    · have hF := (if_neg b5).symm.trans hF
      refine lv_bipush (v := (-11)) S.1 S.2.1 dX11_refusalOf_23 (by decide) ?_
      cases hF
      exact z_p S hr hlk rfl dX11_refusalOf_25
  · have hF := (if_pos b2).symm.trans hF
    refine lv_iconst (v := (-1)) S.1 S.2.1 dX11_refusalOf_9 (by decide) ?_
    cases hF
    exact z_p S hr hlk rfl dX11_refusalOf_10
/-! X11_learns -/
def X11_learns (kf : KF) (σ : IM) (ρ : RM) (a1 : Int32) : Option (Int32 × IM × RM) := bd1 (X11_refusalOf kf σ ρ a1 0) fun r1 => if r1 = 0 then (ix 8 a1 fun j3 => bd1 (ρ (29 + 2 * j3) 1) fun q4 => bd3 (X1_learn kf σ ρ 1 q4) fun r7 σ5 ρ6 => some (r7, σ5, ρ6)) else (some (r1, σ, ρ))
set_option maxRecDepth 20000 in
theorem c_X11_learns {l : Launch} {g : GE} {A : Nat → Prop} {LP : List Nat} {kf : KF} {σ : IM} {ρ : RM} {a1 : Int32} {out : Int32 × IM × RM} (hPL : PL LP kf) (hF : X11_learns kf σ ρ a1 = some out) : Met l yX11_learns (.code yX11_learns cX11_learns 3 (some .int) :: UL) ({ frames := 3, cells := 0, slots := 0, locals := 62 }) (va_Pc [.ref (g.2.2 0), .int a1] (PreM lyC 48 g A (va_pl LP (skE kf)) σ ρ)) (Qm lyC 48 g A (va_pl LP (skE kf)) out.2.1 out.2.2 (some (.int out.1))) 0 0 A := by
  refine e_of (by decide) (Nat.le_of_ble_eq_true rfl) ?_
  intro p e s m below meth c ls S hr hlk hv hl
  have hM := Mem.of hv
  have hK := hv.2.1
  have hl : lv_has ls 3 [(0, .ref (g.2.2 0)), (1, .int a1)] := hl
  unfold X11_learns at hF
  refine lv_aload_n S.1 S.2.1 dX11_learns_0 rfl (lv_at hl 0 rfl) ?_
  refine lv_iload_n S.1 S.2.1 dX11_learns_1 rfl (lv_at hl 1 rfl) ?_
  refine lv_iconst (v := 0) S.1 S.2.1 dX11_learns_2 (by decide) ?_
  obtain ⟨r1, er1, hF⟩ := bd1_some hF
  refine k_p (va_runV (As := [.int a1, .int 0]) (rest := []) S (c_X11_refusalOf hPL  er1) (cwV 2 S.2.2.2.2 (ul_V tw_1_225 tw_1_227 ts_X11_refusalOf tw_1_1 cw_X11_refusalOf) rfl rfl rfl hv_X11_refusalOf ⟨Nat.le_of_ble_eq_true rfl, Nat.le_of_ble_eq_true rfl⟩) ⟨PreM.blind, hM.recv hK cfX11 0 (by decide) ly_0, hM.pre hK⟩ rfl rfl hl.1 rfl (lv_room (Nat.le_of_ble_eq_true rfl)) dX11_learns_3 ⟨Nat.zero_le _, Nat.zero_le _⟩) ?_
  refine lv_istore_n (lv' := [(2, .int r1), (0, .ref (g.2.2 0)), (1, .int a1)]) S.1 S.2.1 dX11_learns_6 rfl hl (by decide) rfl (fun ls hl => ?_)
  refine lv_iload_n S.1 S.2.1 dX11_learns_7 rfl (lv_at hl 0 rfl) ?_
  refine lv_if_eq (tgt := 15) S.1 S.2.1 dX11_learns_8 (by decide) (fun b2 => ?_) (fun b2 => ?_)
  · have hF := (if_pos b2).symm.trans hF
    refine lv_aload_n S.1 S.2.1 dX11_learns_15 rfl (lv_at hl 1 rfl) ?_
    refine r_getC S hK hM cfX11 0 0 1 (by decide) ly_0 rfl (by decide) tw_1_193 dX11_learns_16 ?_
    refine lv_aload_n S.1 S.2.1 dX11_learns_19 rfl (lv_at hl 1 rfl) ?_
    refine r_getC S hK hM cfX11 0 4 28 (by decide) ly_0 rfl (by decide) tw_1_197 dX11_learns_20 ?_
    refine lv_iload_n S.1 S.2.1 dX11_learns_23 rfl (lv_at hl 2 rfl) ?_
    obtain ⟨hj3, j3, ej3, lj3, hF⟩ := ix_some hF
    refine r_aaldS S hK hM 28 (by decide) ly_28 hj3 ej3 dX11_learns_24 ?_
    obtain ⟨q4, eq4, hF⟩ := bd1_some hF
    refine r_getR S hK hM cfX7 (29 + 2 * j3) 1 eq4 (sh_lt lj3) (ly_sh lj3) rfl (by decide) tw_1_100 dX11_learns_25 ?_
    obtain ⟨r7, σ5, ρ6, er7, hF⟩ := bd3_some hF
    refine k_m (va_runV (As := [.ref q4]) (rest := []) S (c_X1_learn hPL ct_1 er7) (cwV 1 S.2.2.2.2 (ul_V tw_3_18 tw_2_33 tw_2_34 tw_1_2 cw_X1_learn) rfl rfl rfl hv_X1_learn ⟨Nat.le_of_ble_eq_true rfl, Nat.le_of_ble_eq_true rfl⟩) ⟨PreM.blind, hM.recv hK cfX1 1 (ct_lt0 ct_1) (ly_ct ct_1), hM.pre hK⟩ rfl rfl hl.1 rfl (lv_room (Nat.le_of_ble_eq_true rfl)) dX11_learns_28 ⟨Nat.zero_le _, Nat.zero_le _⟩) hM (fun H locs hM => ?_)
    show W _ _ _ _ _ _ _ _ _ _ _ _ _ _ _ (F0 m 31 ls [.int r7])
    cases hF
    exact z_m (v := r7) S hM hr hlk rfl dX11_learns_31
  · have hF := (if_neg b2).symm.trans hF
    refine lv_iload_n S.1 S.2.1 dX11_learns_11 rfl (lv_at hl 0 rfl) ?_
    refine lv_goto (tgt := 31) S.1 S.2.1 dX11_learns_12 (by decide) ?_
    cases hF
    exact z_m (v := r1) S hM hr hlk rfl dX11_learns_31
/-! X11_stands -/
def X11_stands (kf : KF) (σ : IM) (ρ : RM) (a1 : Int32) (a2 : Int32) (a3 : Int32) : Option (Int32 × IM × RM) := bd3 (X1_standAt kf σ ρ 1 a1 a2 a3) fun r3 σ1 ρ2 => some (r3, σ1, ρ2)
set_option maxRecDepth 20000 in
theorem c_X11_stands {l : Launch} {g : GE} {A : Nat → Prop} {LP : List Nat} {kf : KF} {σ : IM} {ρ : RM} {a1 : Int32} {a2 : Int32} {a3 : Int32} {out : Int32 × IM × RM} (hPL : PL LP kf) (hF : X11_stands kf σ ρ a1 a2 a3 = some out) : Met l yX11_stands (.code yX11_stands cX11_stands 4 (some .int) :: UL) ({ frames := 2, cells := 0, slots := 0, locals := 45 }) (va_Pc [.ref (g.2.2 0), .int a1, .int a2, .int a3] (PreM lyC 48 g A (va_pl LP (skE kf)) σ ρ)) (Qm lyC 48 g A (va_pl LP (skE kf)) out.2.1 out.2.2 (some (.int out.1))) 0 0 A := by
  refine e_of (by decide) (Nat.le_of_ble_eq_true rfl) ?_
  intro p e s m below meth c ls S hr hlk hv hl
  have hM := Mem.of hv
  have hK := hv.2.1
  have hl : lv_has ls 4 [(0, .ref (g.2.2 0)), (1, .int a1), (2, .int a2), (3, .int a3)] := hl
  unfold X11_stands at hF
  refine lv_aload_n S.1 S.2.1 dX11_stands_0 rfl (lv_at hl 0 rfl) ?_
  refine r_getC S hK hM cfX11 0 0 1 (by decide) ly_0 rfl (by decide) tw_1_193 dX11_stands_1 ?_
  refine lv_iload_n S.1 S.2.1 dX11_stands_4 rfl (lv_at hl 1 rfl) ?_
  refine lv_iload_n S.1 S.2.1 dX11_stands_5 rfl (lv_at hl 2 rfl) ?_
  refine lv_iload_n S.1 S.2.1 dX11_stands_6 rfl (lv_at hl 3 rfl) ?_
  obtain ⟨r3, σ1, ρ2, er3, hF⟩ := bd3_some hF
  refine k_m (va_runV (As := [.int a1, .int a2, .int a3]) (rest := []) S (c_X1_standAt hPL ct_1 er3) (cwV 3 S.2.2.2.2 (ul_V tw_3_23 tw_2_37 tw_2_38 tw_1_2 cw_X1_standAt) rfl rfl rfl hv_X1_standAt ⟨Nat.le_of_ble_eq_true rfl, Nat.le_of_ble_eq_true rfl⟩) ⟨PreM.blind, hM.recv hK cfX1 1 (ct_lt0 ct_1) (ly_ct ct_1), hM.pre hK⟩ rfl rfl hl.1 rfl (lv_room (Nat.le_of_ble_eq_true rfl)) dX11_stands_7 ⟨Nat.zero_le _, Nat.zero_le _⟩) hM (fun H locs hM => ?_)
  show W _ _ _ _ _ _ _ _ _ _ _ _ _ _ _ (F0 m 10 ls [.int r3])
  cases hF
  exact z_m (v := r3) S hM hr hlk rfl dX11_stands_10
/-! X11_tires -/
def X11_tires (kf : KF) (σ : IM) (ρ : RM) (a1 : Int32) (a2 : Int32) : Option (Int32 × IM × RM) := bd3 (X1_setTired kf σ ρ 1 a1 a2) fun r3 σ1 ρ2 => some (r3, σ1, ρ2)
set_option maxRecDepth 20000 in
theorem c_X11_tires {l : Launch} {g : GE} {A : Nat → Prop} {LP : List Nat} {kf : KF} {σ : IM} {ρ : RM} {a1 : Int32} {a2 : Int32} {out : Int32 × IM × RM} (hPL : PL LP kf) (hF : X11_tires kf σ ρ a1 a2 = some out) : Met l yX11_tires (.code yX11_tires cX11_tires 3 (some .int) :: UL) ({ frames := 2, cells := 0, slots := 0, locals := 44 }) (va_Pc [.ref (g.2.2 0), .int a1, .int a2] (PreM lyC 48 g A (va_pl LP (skE kf)) σ ρ)) (Qm lyC 48 g A (va_pl LP (skE kf)) out.2.1 out.2.2 (some (.int out.1))) 0 0 A := by
  refine e_of (by decide) (Nat.le_of_ble_eq_true rfl) ?_
  intro p e s m below meth c ls S hr hlk hv hl
  have hM := Mem.of hv
  have hK := hv.2.1
  have hl : lv_has ls 3 [(0, .ref (g.2.2 0)), (1, .int a1), (2, .int a2)] := hl
  unfold X11_tires at hF
  refine lv_aload_n S.1 S.2.1 dX11_tires_0 rfl (lv_at hl 0 rfl) ?_
  refine r_getC S hK hM cfX11 0 0 1 (by decide) ly_0 rfl (by decide) tw_1_193 dX11_tires_1 ?_
  refine lv_iload_n S.1 S.2.1 dX11_tires_4 rfl (lv_at hl 1 rfl) ?_
  refine lv_iload_n S.1 S.2.1 dX11_tires_5 rfl (lv_at hl 2 rfl) ?_
  obtain ⟨r3, σ1, ρ2, er3, hF⟩ := bd3_some hF
  refine k_m (va_runV (As := [.int a1, .int a2]) (rest := []) S (c_X1_setTired hPL ct_1 er3) (cwV 2 S.2.2.2.2 (ul_V tw_3_28 tw_2_42 tw_2_43 tw_1_2 cw_X1_setTired) rfl rfl rfl hv_X1_setTired ⟨Nat.le_of_ble_eq_true rfl, Nat.le_of_ble_eq_true rfl⟩) ⟨PreM.blind, hM.recv hK cfX1 1 (ct_lt0 ct_1) (ly_ct ct_1), hM.pre hK⟩ rfl rfl hl.1 rfl (lv_room (Nat.le_of_ble_eq_true rfl)) dX11_tires_6 ⟨Nat.zero_le _, Nat.zero_le _⟩) hM (fun H locs hM => ?_)
  show W _ _ _ _ _ _ _ _ _ _ _ _ _ _ _ (F0 m 9 ls [.int r3])
  cases hF
  exact z_m (v := r3) S hM hr hlk rfl dX11_tires_9
/-! X11_hands -/
def X11_hands (kf : KF) (σ : IM) (ρ : RM) (a1 : Int32) : Option (Int32 × IM × RM) := bd3 (X1_switchHand kf σ ρ 1 a1) fun r3 σ1 ρ2 => some (r3, σ1, ρ2)
set_option maxRecDepth 20000 in
theorem c_X11_hands {l : Launch} {g : GE} {A : Nat → Prop} {LP : List Nat} {kf : KF} {σ : IM} {ρ : RM} {a1 : Int32} {out : Int32 × IM × RM} (hPL : PL LP kf) (hF : X11_hands kf σ ρ a1 = some out) : Met l yX11_hands (.code yX11_hands cX11_hands 2 (some .int) :: UL) ({ frames := 2, cells := 0, slots := 0, locals := 42 }) (va_Pc [.ref (g.2.2 0), .int a1] (PreM lyC 48 g A (va_pl LP (skE kf)) σ ρ)) (Qm lyC 48 g A (va_pl LP (skE kf)) out.2.1 out.2.2 (some (.int out.1))) 0 0 A := by
  refine e_of (by decide) (Nat.le_of_ble_eq_true rfl) ?_
  intro p e s m below meth c ls S hr hlk hv hl
  have hM := Mem.of hv
  have hK := hv.2.1
  have hl : lv_has ls 2 [(0, .ref (g.2.2 0)), (1, .int a1)] := hl
  unfold X11_hands at hF
  refine lv_aload_n S.1 S.2.1 dX11_hands_0 rfl (lv_at hl 0 rfl) ?_
  refine r_getC S hK hM cfX11 0 0 1 (by decide) ly_0 rfl (by decide) tw_1_193 dX11_hands_1 ?_
  refine lv_iload_n S.1 S.2.1 dX11_hands_4 rfl (lv_at hl 1 rfl) ?_
  obtain ⟨r3, σ1, ρ2, er3, hF⟩ := bd3_some hF
  refine k_m (va_runV (As := [.int a1]) (rest := []) S (c_X1_switchHand hPL ct_1 er3) (cwV 1 S.2.2.2.2 (ul_V tw_3_33 tw_2_46 tw_2_47 tw_1_2 cw_X1_switchHand) rfl rfl rfl hv_X1_switchHand ⟨Nat.le_of_ble_eq_true rfl, Nat.le_of_ble_eq_true rfl⟩) ⟨PreM.blind, hM.recv hK cfX1 1 (ct_lt0 ct_1) (ly_ct ct_1), hM.pre hK⟩ rfl rfl hl.1 rfl (lv_room (Nat.le_of_ble_eq_true rfl)) dX11_hands_5 ⟨Nat.zero_le _, Nat.zero_le _⟩) hM (fun H locs hM => ?_)
  show W _ _ _ _ _ _ _ _ _ _ _ _ _ _ _ (F0 m 8 ls [.int r3])
  cases hF
  exact z_m (v := r3) S hM hr hlk rfl dX11_hands_8
/-! X11_forms -/
def X11_forms (kf : KF) (σ : IM) (ρ : RM) (a1 : Int32) (a2 : Int32) (a3 : Int32) : Option (Int32 × IM × RM) := bd3 (X1_adopt kf σ ρ 1 a1 a2 a3) fun r3 σ1 ρ2 => some (r3, σ1, ρ2)
set_option maxRecDepth 20000 in
theorem c_X11_forms {l : Launch} {g : GE} {A : Nat → Prop} {LP : List Nat} {kf : KF} {σ : IM} {ρ : RM} {a1 : Int32} {a2 : Int32} {a3 : Int32} {out : Int32 × IM × RM} (hPL : PL LP kf) (hF : X11_forms kf σ ρ a1 a2 a3 = some out) : Met l yX11_forms (.code yX11_forms cX11_forms 4 (some .int) :: UL) ({ frames := 2, cells := 0, slots := 0, locals := 46 }) (va_Pc [.ref (g.2.2 0), .int a1, .int a2, .int a3] (PreM lyC 48 g A (va_pl LP (skE kf)) σ ρ)) (Qm lyC 48 g A (va_pl LP (skE kf)) out.2.1 out.2.2 (some (.int out.1))) 0 0 A := by
  refine e_of (by decide) (Nat.le_of_ble_eq_true rfl) ?_
  intro p e s m below meth c ls S hr hlk hv hl
  have hM := Mem.of hv
  have hK := hv.2.1
  have hl : lv_has ls 4 [(0, .ref (g.2.2 0)), (1, .int a1), (2, .int a2), (3, .int a3)] := hl
  unfold X11_forms at hF
  refine lv_aload_n S.1 S.2.1 dX11_forms_0 rfl (lv_at hl 0 rfl) ?_
  refine r_getC S hK hM cfX11 0 0 1 (by decide) ly_0 rfl (by decide) tw_1_193 dX11_forms_1 ?_
  refine lv_iload_n S.1 S.2.1 dX11_forms_4 rfl (lv_at hl 1 rfl) ?_
  refine lv_iload_n S.1 S.2.1 dX11_forms_5 rfl (lv_at hl 2 rfl) ?_
  refine lv_iload_n S.1 S.2.1 dX11_forms_6 rfl (lv_at hl 3 rfl) ?_
  obtain ⟨r3, σ1, ρ2, er3, hF⟩ := bd3_some hF
  refine k_m (va_runV (As := [.int a1, .int a2, .int a3]) (rest := []) S (c_X1_adopt hPL ct_1 er3) (cwV 3 S.2.2.2.2 (ul_V tw_3_38 tw_2_50 tw_2_51 tw_1_2 cw_X1_adopt) rfl rfl rfl hv_X1_adopt ⟨Nat.le_of_ble_eq_true rfl, Nat.le_of_ble_eq_true rfl⟩) ⟨PreM.blind, hM.recv hK cfX1 1 (ct_lt0 ct_1) (ly_ct ct_1), hM.pre hK⟩ rfl rfl hl.1 rfl (lv_room (Nat.le_of_ble_eq_true rfl)) dX11_forms_7 ⟨Nat.zero_le _, Nat.zero_le _⟩) hM (fun H locs hM => ?_)
  show W _ _ _ _ _ _ _ _ _ _ _ _ _ _ _ (F0 m 10 ls [.int r3])
  cases hF
  exact z_m (v := r3) S hM hr hlk rfl dX11_forms_10
/-! X11_blows -/
def X11_blows (kf : KF) (σ : IM) (ρ : RM) (a1 : Int32) : Option (Int32 × IM × RM) := bd3 (X1_setDraught kf σ ρ 1 a1) fun r3 σ1 ρ2 => some (r3, σ1, ρ2)
set_option maxRecDepth 20000 in
theorem c_X11_blows {l : Launch} {g : GE} {A : Nat → Prop} {LP : List Nat} {kf : KF} {σ : IM} {ρ : RM} {a1 : Int32} {out : Int32 × IM × RM} (hPL : PL LP kf) (hF : X11_blows kf σ ρ a1 = some out) : Met l yX11_blows (.code yX11_blows cX11_blows 2 (some .int) :: UL) ({ frames := 2, cells := 0, slots := 0, locals := 43 }) (va_Pc [.ref (g.2.2 0), .int a1] (PreM lyC 48 g A (va_pl LP (skE kf)) σ ρ)) (Qm lyC 48 g A (va_pl LP (skE kf)) out.2.1 out.2.2 (some (.int out.1))) 0 0 A := by
  refine e_of (by decide) (Nat.le_of_ble_eq_true rfl) ?_
  intro p e s m below meth c ls S hr hlk hv hl
  have hM := Mem.of hv
  have hK := hv.2.1
  have hl : lv_has ls 2 [(0, .ref (g.2.2 0)), (1, .int a1)] := hl
  unfold X11_blows at hF
  refine lv_aload_n S.1 S.2.1 dX11_blows_0 rfl (lv_at hl 0 rfl) ?_
  refine r_getC S hK hM cfX11 0 0 1 (by decide) ly_0 rfl (by decide) tw_1_193 dX11_blows_1 ?_
  refine lv_iload_n S.1 S.2.1 dX11_blows_4 rfl (lv_at hl 1 rfl) ?_
  obtain ⟨r3, σ1, ρ2, er3, hF⟩ := bd3_some hF
  refine k_m (va_runV (As := [.int a1]) (rest := []) S (c_X1_setDraught hPL ct_1 er3) (cwV 1 S.2.2.2.2 (ul_V tw_3_43 tw_2_57 tw_2_58 tw_1_2 cw_X1_setDraught) rfl rfl rfl hv_X1_setDraught ⟨Nat.le_of_ble_eq_true rfl, Nat.le_of_ble_eq_true rfl⟩) ⟨PreM.blind, hM.recv hK cfX1 1 (ct_lt0 ct_1) (ly_ct ct_1), hM.pre hK⟩ rfl rfl hl.1 rfl (lv_room (Nat.le_of_ble_eq_true rfl)) dX11_blows_5 ⟨Nat.zero_le _, Nat.zero_le _⟩) hM (fun H locs hM => ?_)
  show W _ _ _ _ _ _ _ _ _ _ _ _ _ _ _ (F0 m 8 ls [.int r3])
  cases hF
  exact z_m (v := r3) S hM hr hlk rfl dX11_blows_8
/-! X11_hit -/
def X11_hit (kf : KF) (σ : IM) (ρ : RM) (a1 : Int32) (a2 : Int32) : Option (Int32 × IM × RM) := bd1 (X1_hitRefusal kf σ ρ 1 a1 a2) fun r1 => if r1 = 0 then (bd3 (X1_strike kf σ ρ 1 a1 a2) fun r5 σ3 ρ4 => some (σ3 1 9, σ3, ρ4)) else (some (r1, σ, ρ))
set_option maxRecDepth 20000 in
theorem c_X11_hit {l : Launch} {g : GE} {A : Nat → Prop} {LP : List Nat} {kf : KF} {σ : IM} {ρ : RM} {a1 : Int32} {a2 : Int32} {out : Int32 × IM × RM} (hPL : PL LP kf) (hF : X11_hit kf σ ρ a1 a2 = some out) : Met l yX11_hit (.code yX11_hit cX11_hit 4 (some .int) :: UL) ({ frames := 4, cells := 0, slots := 0, locals := 100 }) (va_Pc [.ref (g.2.2 0), .int a1, .int a2] (PreM lyC 48 g A (va_pl LP (skE kf)) σ ρ)) (Qm lyC 48 g A (va_pl LP (skE kf)) out.2.1 out.2.2 (some (.int out.1))) 0 0 A := by
  refine e_of (by decide) (Nat.le_of_ble_eq_true rfl) ?_
  intro p e s m below meth c ls S hr hlk hv hl
  have hM := Mem.of hv
  have hK := hv.2.1
  have hl : lv_has ls 4 [(0, .ref (g.2.2 0)), (1, .int a1), (2, .int a2)] := hl
  unfold X11_hit at hF
  refine lv_aload_n S.1 S.2.1 dX11_hit_0 rfl (lv_at hl 0 rfl) ?_
  refine r_getC S hK hM cfX11 0 0 1 (by decide) ly_0 rfl (by decide) tw_1_193 dX11_hit_1 ?_
  refine lv_iload_n S.1 S.2.1 dX11_hit_4 rfl (lv_at hl 1 rfl) ?_
  refine lv_iload_n S.1 S.2.1 dX11_hit_5 rfl (lv_at hl 2 rfl) ?_
  obtain ⟨r1, er1, hF⟩ := bd1_some hF
  refine k_p (va_runV (As := [.int a1, .int a2]) (rest := []) S (c_X1_hitRefusal hPL ct_1 er1) (cwV 2 S.2.2.2.2 (ul_V tw_3_48 tw_2_61 tw_2_62 tw_1_2 cw_X1_hitRefusal) rfl rfl rfl hv_X1_hitRefusal ⟨Nat.le_of_ble_eq_true rfl, Nat.le_of_ble_eq_true rfl⟩) ⟨PreM.blind, hM.recv hK cfX1 1 (ct_lt0 ct_1) (ly_ct ct_1), hM.pre hK⟩ rfl rfl hl.1 rfl (lv_room (Nat.le_of_ble_eq_true rfl)) dX11_hit_6 ⟨Nat.zero_le _, Nat.zero_le _⟩) ?_
  refine lv_istore_n (lv' := [(3, .int r1), (0, .ref (g.2.2 0)), (1, .int a1), (2, .int a2)]) S.1 S.2.1 dX11_hit_9 rfl hl (by decide) rfl (fun ls hl => ?_)
  refine lv_iload_n S.1 S.2.1 dX11_hit_10 rfl (lv_at hl 0 rfl) ?_
  refine lv_if_eq (tgt := 16) S.1 S.2.1 dX11_hit_11 (by decide) (fun b2 => ?_) (fun b2 => ?_)
  · have hF := (if_pos b2).symm.trans hF
    refine lv_aload_n S.1 S.2.1 dX11_hit_16 rfl (lv_at hl 1 rfl) ?_
    refine r_getC S hK hM cfX11 0 0 1 (by decide) ly_0 rfl (by decide) tw_1_193 dX11_hit_17 ?_
    refine lv_iload_n S.1 S.2.1 dX11_hit_20 rfl (lv_at hl 2 rfl) ?_
    refine lv_iload_n S.1 S.2.1 dX11_hit_21 rfl (lv_at hl 3 rfl) ?_
    obtain ⟨r5, σ3, ρ4, er5, hF⟩ := bd3_some hF
    refine k_m (va_runV (As := [.int a1, .int a2]) (rest := []) S (c_X1_strike hPL ct_1 er5) (cwV 2 S.2.2.2.2 (ul_V tw_3_49 tw_2_73 tw_2_74 tw_1_2 cw_X1_strike) rfl rfl rfl hv_X1_strike ⟨Nat.le_of_ble_eq_true rfl, Nat.le_of_ble_eq_true rfl⟩) ⟨PreM.blind, hM.recv hK cfX1 1 (ct_lt0 ct_1) (ly_ct ct_1), hM.pre hK⟩ rfl rfl hl.1 rfl (lv_room (Nat.le_of_ble_eq_true rfl)) dX11_hit_22 ⟨Nat.zero_le _, Nat.zero_le _⟩) hM (fun H locs hM => ?_)
    show W _ _ _ _ _ _ _ _ _ _ _ _ _ _ _ (F0 m 25 ls [.int r5])
    refine lv_pop S.1 S.2.1 dX11_hit_25 rfl ?_
    refine lv_aload_n S.1 S.2.1 dX11_hit_26 rfl (lv_at hl 1 rfl) ?_
    refine r_getC S hK hM cfX11 0 0 1 (by decide) ly_0 rfl (by decide) tw_1_193 dX11_hit_27 ?_
    refine r_getI S hK hM cfX1 1 9 (ct_lt0 ct_1) (ly_ct ct_1) rfl (by decide) tw_1_58 dX11_hit_30 ?_
    cases hF
    exact z_m (v := σ3 1 9) S hM hr hlk rfl dX11_hit_33
  · have hF := (if_neg b2).symm.trans hF
    refine lv_iload_n S.1 S.2.1 dX11_hit_14 rfl (lv_at hl 0 rfl) ?_
    cases hF
    exact z_m (v := r1) S hM hr hlk rfl dX11_hit_15
/-! X11_whose -/
def X11_whose (kf : KF) (σ : IM) (ρ : RM) (a1 : Int32) (a2 : Int32) : Option Int32 := bd1 (X1_isHit kf σ ρ 1 a1 a2) fun r1 => if r1 = 0 then (some (-1)) else (bd1 (X1_landing kf σ ρ 1 a1 a2) fun r3 => bd1 (X1_takerOf kf σ ρ 1 r3) fun r4 => some r4)
set_option maxRecDepth 20000 in
theorem c_X11_whose {l : Launch} {g : GE} {A : Nat → Prop} {LP : List Nat} {kf : KF} {σ : IM} {ρ : RM} {a1 : Int32} {a2 : Int32} {out : Int32} (hPL : PL LP kf) (hF : X11_whose kf σ ρ a1 a2 = some out) : Met l yX11_whose (.code yX11_whose cX11_whose 3 (some .int) :: UL) ({ frames := 4, cells := 0, slots := 0, locals := 87 }) (va_Pc [.ref (g.2.2 0), .int a1, .int a2] (PreM lyC 48 g A (va_pl LP (skE kf)) σ ρ)) (Qp (some (.int out))) 0 0 NoA := by
  refine e_of (by decide) (Nat.le_of_ble_eq_true rfl) ?_
  intro p e s m below meth c ls S hr hlk hv hl
  have hM := Mem.of hv
  have hK := hv.2.1
  have hl : lv_has ls 3 [(0, .ref (g.2.2 0)), (1, .int a1), (2, .int a2)] := hl
  unfold X11_whose at hF
  refine lv_aload_n S.1 S.2.1 dX11_whose_0 rfl (lv_at hl 0 rfl) ?_
  refine r_getC S hK hM cfX11 0 0 1 (by decide) ly_0 rfl (by decide) tw_1_193 dX11_whose_1 ?_
  refine lv_iload_n S.1 S.2.1 dX11_whose_4 rfl (lv_at hl 1 rfl) ?_
  refine lv_iload_n S.1 S.2.1 dX11_whose_5 rfl (lv_at hl 2 rfl) ?_
  obtain ⟨r1, er1, hF⟩ := bd1_some hF
  refine k_p (va_runV (As := [.int a1, .int a2]) (rest := []) S (c_X1_isHit hPL ct_1 er1) (cwV 2 S.2.2.2.2 (ul_V tw_3_54 tw_2_65 tw_2_66 tw_1_2 cw_X1_isHit) rfl rfl rfl hv_X1_isHit ⟨Nat.le_of_ble_eq_true rfl, Nat.le_of_ble_eq_true rfl⟩) ⟨PreM.blind, hM.recv hK cfX1 1 (ct_lt0 ct_1) (ly_ct ct_1), hM.pre hK⟩ rfl rfl hl.1 rfl (lv_room (Nat.le_of_ble_eq_true rfl)) dX11_whose_6 ⟨Nat.zero_le _, Nat.zero_le _⟩) ?_
  refine lv_if_eq (tgt := 31) S.1 S.2.1 dX11_whose_9 (by decide) (fun b2 => ?_) (fun b2 => ?_)
  · have hF := (if_pos b2).symm.trans hF
    refine lv_iconst (v := (-1)) S.1 S.2.1 dX11_whose_31 (by decide) ?_
    cases hF
    exact z_p S hr hlk rfl dX11_whose_32
  · have hF := (if_neg b2).symm.trans hF
    refine lv_aload_n S.1 S.2.1 dX11_whose_12 rfl (lv_at hl 0 rfl) ?_
    refine r_getC S hK hM cfX11 0 0 1 (by decide) ly_0 rfl (by decide) tw_1_193 dX11_whose_13 ?_
    refine lv_aload_n S.1 S.2.1 dX11_whose_16 rfl (lv_at hl 0 rfl) ?_
    refine r_getC S hK hM cfX11 0 0 1 (by decide) ly_0 rfl (by decide) tw_1_193 dX11_whose_17 ?_
    refine lv_iload_n S.1 S.2.1 dX11_whose_20 rfl (lv_at hl 1 rfl) ?_
    refine lv_iload_n S.1 S.2.1 dX11_whose_21 rfl (lv_at hl 2 rfl) ?_
    obtain ⟨r3, er3, hF⟩ := bd1_some hF
    refine k_p (va_runV (As := [.int a1, .int a2]) (rest := [.ref (g.2.2 1)]) S (c_X1_landing hPL ct_1 er3) (cwV 2 S.2.2.2.2 (ul_V tw_3_55 tw_3_56 tw_3_57 tw_1_2 cw_X1_landing) rfl rfl rfl hv_X1_landing ⟨Nat.le_of_ble_eq_true rfl, Nat.le_of_ble_eq_true rfl⟩) ⟨PreM.blind, hM.recv hK cfX1 1 (ct_lt0 ct_1) (ly_ct ct_1), hM.pre hK⟩ rfl rfl hl.1 rfl (lv_room (Nat.le_of_ble_eq_true rfl)) dX11_whose_22 ⟨Nat.zero_le _, Nat.zero_le _⟩) ?_
    obtain ⟨r4, er4, hF⟩ := bd1_some hF
    refine k_p (va_runV (As := [.int r3]) (rest := []) S (c_X1_takerOf hPL ct_1 er4) (cwV 1 S.2.2.2.2 (ul_V tw_3_59 tw_3_60 tw_3_61 tw_1_2 cw_X1_takerOf) rfl rfl rfl hv_X1_takerOf ⟨Nat.le_of_ble_eq_true rfl, Nat.le_of_ble_eq_true rfl⟩) ⟨PreM.blind, hM.recv hK cfX1 1 (ct_lt0 ct_1) (ly_ct ct_1), hM.pre hK⟩ rfl rfl hl.1 rfl (lv_room (Nat.le_of_ble_eq_true rfl)) dX11_whose_25 ⟨Nat.zero_le _, Nat.zero_le _⟩) ?_
    refine lv_goto (tgt := 32) S.1 S.2.1 dX11_whose_28 (by decide) ?_
    cases hF
    exact z_p S hr hlk rfl dX11_whose_32
/-! X11_wins -/
def X11_wins (kf : KF) (σ : IM) (ρ : RM) (a1 : Int32) (a2 : Int32) : Option Int32 := bd1 (X1_isHit kf σ ρ 1 a1 a2) fun r1 => if r1 = 0 then (some (-1)) else (bd1 (X1_scores kf σ ρ 1 a1 a2) fun r3 => if r3 = 0 then (some 0) else (some 1))
set_option maxRecDepth 20000 in
theorem c_X11_wins {l : Launch} {g : GE} {A : Nat → Prop} {LP : List Nat} {kf : KF} {σ : IM} {ρ : RM} {a1 : Int32} {a2 : Int32} {out : Int32} (hPL : PL LP kf) (hF : X11_wins kf σ ρ a1 a2 = some out) : Met l yX11_wins (.code yX11_wins cX11_wins 3 (some .int) :: UL) ({ frames := 4, cells := 0, slots := 0, locals := 92 }) (va_Pc [.ref (g.2.2 0), .int a1, .int a2] (PreM lyC 48 g A (va_pl LP (skE kf)) σ ρ)) (Qp (some (.int out))) 0 0 NoA := by
  refine e_of (by decide) (Nat.le_of_ble_eq_true rfl) ?_
  intro p e s m below meth c ls S hr hlk hv hl
  have hM := Mem.of hv
  have hK := hv.2.1
  have hl : lv_has ls 3 [(0, .ref (g.2.2 0)), (1, .int a1), (2, .int a2)] := hl
  unfold X11_wins at hF
  refine lv_aload_n S.1 S.2.1 dX11_wins_0 rfl (lv_at hl 0 rfl) ?_
  refine r_getC S hK hM cfX11 0 0 1 (by decide) ly_0 rfl (by decide) tw_1_193 dX11_wins_1 ?_
  refine lv_iload_n S.1 S.2.1 dX11_wins_4 rfl (lv_at hl 1 rfl) ?_
  refine lv_iload_n S.1 S.2.1 dX11_wins_5 rfl (lv_at hl 2 rfl) ?_
  obtain ⟨r1, er1, hF⟩ := bd1_some hF
  refine k_p (va_runV (As := [.int a1, .int a2]) (rest := []) S (c_X1_isHit hPL ct_1 er1) (cwV 2 S.2.2.2.2 (ul_V tw_3_54 tw_2_65 tw_2_66 tw_1_2 cw_X1_isHit) rfl rfl rfl hv_X1_isHit ⟨Nat.le_of_ble_eq_true rfl, Nat.le_of_ble_eq_true rfl⟩) ⟨PreM.blind, hM.recv hK cfX1 1 (ct_lt0 ct_1) (ly_ct ct_1), hM.pre hK⟩ rfl rfl hl.1 rfl (lv_room (Nat.le_of_ble_eq_true rfl)) dX11_wins_6 ⟨Nat.zero_le _, Nat.zero_le _⟩) ?_
  refine lv_if_ne (tgt := 14) S.1 S.2.1 dX11_wins_9 (by decide) (fun b2 => ?_) (fun b2 => ?_)
  · have hF := (if_neg b2).symm.trans hF
    refine lv_aload_n S.1 S.2.1 dX11_wins_14 rfl (lv_at hl 0 rfl) ?_
    refine r_getC S hK hM cfX11 0 0 1 (by decide) ly_0 rfl (by decide) tw_1_193 dX11_wins_15 ?_
    refine lv_iload_n S.1 S.2.1 dX11_wins_18 rfl (lv_at hl 1 rfl) ?_
    refine lv_iload_n S.1 S.2.1 dX11_wins_19 rfl (lv_at hl 2 rfl) ?_
    obtain ⟨r3, er3, hF⟩ := bd1_some hF
    refine k_p (va_runV (As := [.int a1, .int a2]) (rest := []) S (c_X1_scores hPL ct_1 er3) (cwV 2 S.2.2.2.2 (ul_V tw_3_67 tw_3_68 tw_3_69 tw_1_2 cw_X1_scores) rfl rfl rfl hv_X1_scores ⟨Nat.le_of_ble_eq_true rfl, Nat.le_of_ble_eq_true rfl⟩) ⟨PreM.blind, hM.recv hK cfX1 1 (ct_lt0 ct_1) (ly_ct ct_1), hM.pre hK⟩ rfl rfl hl.1 rfl (lv_room (Nat.le_of_ble_eq_true rfl)) dX11_wins_20 ⟨Nat.zero_le _, Nat.zero_le _⟩) ?_
    refine lv_if_eq (tgt := 30) S.1 S.2.1 dX11_wins_23 (by decide) (fun b4 => ?_) (fun b4 => ?_)
    · have hF := (if_pos b4).symm.trans hF
      refine lv_iconst (v := 0) S.1 S.2.1 dX11_wins_30 (by decide) ?_
      cases hF
      exact z_p S hr hlk rfl dX11_wins_31
    · have hF := (if_neg b4).symm.trans hF
      refine lv_iconst (v := 1) S.1 S.2.1 dX11_wins_26 (by decide) ?_
      refine lv_goto (tgt := 31) S.1 S.2.1 dX11_wins_27 (by decide) ?_
      cases hF
      exact z_p S hr hlk rfl dX11_wins_31
  · have hF := (if_pos b2).symm.trans hF
    refine lv_iconst (v := (-1)) S.1 S.2.1 dX11_wins_12 (by decide) ?_
    cases hF
    exact z_p S hr hlk rfl dX11_wins_13
/-! X11_falls -/
def X11_falls (kf : KF) (σ : IM) (ρ : RM) (a1 : Int32) (a2 : Int32) : Option Int32 := bd1 (X1_isHit kf σ ρ 1 a1 a2) fun r1 => if r1 = 0 then (some (-1)) else (bd1 (X1_landing kf σ ρ 1 a1 a2) fun r3 => some r3)
set_option maxRecDepth 20000 in
theorem c_X11_falls {l : Launch} {g : GE} {A : Nat → Prop} {LP : List Nat} {kf : KF} {σ : IM} {ρ : RM} {a1 : Int32} {a2 : Int32} {out : Int32} (hPL : PL LP kf) (hF : X11_falls kf σ ρ a1 a2 = some out) : Met l yX11_falls (.code yX11_falls cX11_falls 3 (some .int) :: UL) ({ frames := 3, cells := 0, slots := 0, locals := 66 }) (va_Pc [.ref (g.2.2 0), .int a1, .int a2] (PreM lyC 48 g A (va_pl LP (skE kf)) σ ρ)) (Qp (some (.int out))) 0 0 NoA := by
  refine e_of (by decide) (Nat.le_of_ble_eq_true rfl) ?_
  intro p e s m below meth c ls S hr hlk hv hl
  have hM := Mem.of hv
  have hK := hv.2.1
  have hl : lv_has ls 3 [(0, .ref (g.2.2 0)), (1, .int a1), (2, .int a2)] := hl
  unfold X11_falls at hF
  refine lv_aload_n S.1 S.2.1 dX11_falls_0 rfl (lv_at hl 0 rfl) ?_
  refine r_getC S hK hM cfX11 0 0 1 (by decide) ly_0 rfl (by decide) tw_1_193 dX11_falls_1 ?_
  refine lv_iload_n S.1 S.2.1 dX11_falls_4 rfl (lv_at hl 1 rfl) ?_
  refine lv_iload_n S.1 S.2.1 dX11_falls_5 rfl (lv_at hl 2 rfl) ?_
  obtain ⟨r1, er1, hF⟩ := bd1_some hF
  refine k_p (va_runV (As := [.int a1, .int a2]) (rest := []) S (c_X1_isHit hPL ct_1 er1) (cwV 2 S.2.2.2.2 (ul_V tw_3_54 tw_2_65 tw_2_66 tw_1_2 cw_X1_isHit) rfl rfl rfl hv_X1_isHit ⟨Nat.le_of_ble_eq_true rfl, Nat.le_of_ble_eq_true rfl⟩) ⟨PreM.blind, hM.recv hK cfX1 1 (ct_lt0 ct_1) (ly_ct ct_1), hM.pre hK⟩ rfl rfl hl.1 rfl (lv_room (Nat.le_of_ble_eq_true rfl)) dX11_falls_6 ⟨Nat.zero_le _, Nat.zero_le _⟩) ?_
  refine lv_if_eq (tgt := 24) S.1 S.2.1 dX11_falls_9 (by decide) (fun b2 => ?_) (fun b2 => ?_)
  · have hF := (if_pos b2).symm.trans hF
    refine lv_iconst (v := (-1)) S.1 S.2.1 dX11_falls_24 (by decide) ?_
    cases hF
    exact z_p S hr hlk rfl dX11_falls_25
  · have hF := (if_neg b2).symm.trans hF
    refine lv_aload_n S.1 S.2.1 dX11_falls_12 rfl (lv_at hl 0 rfl) ?_
    refine r_getC S hK hM cfX11 0 0 1 (by decide) ly_0 rfl (by decide) tw_1_193 dX11_falls_13 ?_
    refine lv_iload_n S.1 S.2.1 dX11_falls_16 rfl (lv_at hl 1 rfl) ?_
    refine lv_iload_n S.1 S.2.1 dX11_falls_17 rfl (lv_at hl 2 rfl) ?_
    obtain ⟨r3, er3, hF⟩ := bd1_some hF
    refine k_p (va_runV (As := [.int a1, .int a2]) (rest := []) S (c_X1_landing hPL ct_1 er3) (cwV 2 S.2.2.2.2 (ul_V tw_3_55 tw_3_56 tw_3_57 tw_1_2 cw_X1_landing) rfl rfl rfl hv_X1_landing ⟨Nat.le_of_ble_eq_true rfl, Nat.le_of_ble_eq_true rfl⟩) ⟨PreM.blind, hM.recv hK cfX1 1 (ct_lt0 ct_1) (ly_ct ct_1), hM.pre hK⟩ rfl rfl hl.1 rfl (lv_room (Nat.le_of_ble_eq_true rfl)) dX11_falls_18 ⟨Nat.zero_le _, Nat.zero_le _⟩) ?_
    refine lv_goto (tgt := 25) S.1 S.2.1 dX11_falls_21 (by decide) ?_
    cases hF
    exact z_p S hr hlk rfl dX11_falls_25
/-! X11_open -/
def X11_open_b41 (kf : KF) (σ : IM) (ρ : RM) (k17 : Int32 → Int32 → Int32 → Option Int32) (x1 : Int32) (x2 : Int32) (x3 : Int32) : Option Int32 := bd (x3 + 1) fun v7 => k17 x1 x2 v7
set_option maxRecDepth 20000 in
theorem w_X11_open_41 {l : Launch} {g : GE} {A : Nat → Prop} {LP : List Nat} {kf : KF} {σ : IM} {ρ : RM} (hPL : PL LP kf) {p : Program} {e : Env} {s : State} {m : MethodId} {args : Array Value} {below : List Frame} {meth : Method} {c : Code} (S : CallFix p m c cX11_open 4 s args UL RX11) (hK : KK g s) (hr : meth.sig.returnType = (some .int)) (hlk : meth.locks = false) (hM : Mem lyC 48 g A (va_pl LP (skE kf)) σ ρ s.heap s.heap []) {out : Int32} {k17 : Int32 → Int32 → Int32 → Option Int32} (hk17 : ∀ {x1 : Int32} {x2 : Int32} {x3 : Int32} {ls : Array Slot}, lv_has ls 4 [(0, .ref (g.2.2 0)), (1, .int x1), (2, .int x2), (3, .int x3)] → k17 x1 x2 x3 = some out → W p l e ({ frames := 4, cells := 0, slots := 0, locals := 92 }) s m args below meth c s.heap [] 0 0 (MQ below (Qp (some (.int out))) args s 0 0 NoA) (F0 m 17 ls [])) : ∀ {x1 : Int32} {x2 : Int32} {x3 : Int32} {ls : Array Slot}, lv_has ls 4 [(0, .ref (g.2.2 0)), (1, .int x1), (2, .int x2), (3, .int x3)] → X11_open_b41 kf σ ρ k17 x1 x2 x3 = some out → W p l e ({ frames := 4, cells := 0, slots := 0, locals := 92 }) s m args below meth c s.heap [] 0 0 (MQ below (Qp (some (.int out))) args s 0 0 NoA) (F0 m 41 ls []) := by
  intro x1 x2 x3 ls hl hF
  unfold X11_open_b41 at hF
  obtain ⟨v7, ev7, hF⟩ := bd_some hF
  refine lv_iinc (v := v7) (lv' := [(3, .int v7), (0, .ref (g.2.2 0)), (1, .int x1), (2, .int x2)]) S.1 S.2.1 dX11_open_41 hl (k := 3) rfl (by rw [ev7]; rfl) (by decide) rfl (fun ls hl => ?_)
  refine lv_goto (tgt := 17) S.1 S.2.1 dX11_open_44 (by decide) ?_
  exact hk17  (lv_sub hl [1, 2, 3, 0] rfl)  hF
def X11_open_s17 (kf : KF) (σ : IM) (ρ : RM) (k17 : Int32 → Int32 → Int32 → Option Int32) (x1 : Int32) (x2 : Int32) (x3 : Int32) : Option Int32 := if 9 ≤ x3 then (some x2) else (bd1 (X1_scores kf σ ρ 1 x1 x3) fun r4 => if r4 = 0 then (X11_open_b41 kf σ ρ k17 x1 x2 x3) else (bd (x2 ||| (1 <<< (x3 &&& 31))) fun v6 => X11_open_b41 kf σ ρ k17 x1 v6 x3))
def X11_open_b17 (kf : KF) (σ : IM) (ρ : RM) : Nat → Int32 → Int32 → Int32 → Option Int32
  | 0 => fun _ _ _ => none
  | n + 1 => X11_open_s17 kf σ ρ (X11_open_b17 kf σ ρ n)
set_option maxRecDepth 20000 in
theorem w_X11_open_17 {l : Launch} {g : GE} {A : Nat → Prop} {LP : List Nat} {kf : KF} {σ : IM} {ρ : RM} (hPL : PL LP kf) {p : Program} {e : Env} {s : State} {m : MethodId} {args : Array Value} {below : List Frame} {meth : Method} {c : Code} (S : CallFix p m c cX11_open 4 s args UL RX11) (hK : KK g s) (hr : meth.sig.returnType = (some .int)) (hlk : meth.locks = false) (hM : Mem lyC 48 g A (va_pl LP (skE kf)) σ ρ s.heap s.heap []) {out : Int32} {k17 : Int32 → Int32 → Int32 → Option Int32} (hk17 : ∀ {x1 : Int32} {x2 : Int32} {x3 : Int32} {ls : Array Slot}, lv_has ls 4 [(0, .ref (g.2.2 0)), (1, .int x1), (2, .int x2), (3, .int x3)] → k17 x1 x2 x3 = some out → W p l e ({ frames := 4, cells := 0, slots := 0, locals := 92 }) s m args below meth c s.heap [] 0 0 (MQ below (Qp (some (.int out))) args s 0 0 NoA) (F0 m 17 ls [])) : ∀ {x1 : Int32} {x2 : Int32} {x3 : Int32} {ls : Array Slot}, lv_has ls 4 [(0, .ref (g.2.2 0)), (1, .int x1), (2, .int x2), (3, .int x3)] → X11_open_s17 kf σ ρ k17 x1 x2 x3 = some out → W p l e ({ frames := 4, cells := 0, slots := 0, locals := 92 }) s m args below meth c s.heap [] 0 0 (MQ below (Qp (some (.int out))) args s 0 0 NoA) (F0 m 17 ls []) := by
  intro x1 x2 x3 ls hl hF
  unfold X11_open_s17 at hF
  refine lv_iload_n S.1 S.2.1 dX11_open_17 rfl (lv_at hl 3 rfl) ?_
  refine lv_bipush (v := 9) S.1 S.2.1 dX11_open_18 (by decide) ?_
  refine lv_icmp_ge (tgt := 47) S.1 S.2.1 dX11_open_20 (by decide) (fun b3 => ?_) (fun b3 => ?_)
  · have hF := (if_pos b3).symm.trans hF
    refine lv_iload_n S.1 S.2.1 dX11_open_47 rfl (lv_at hl 2 rfl) ?_
    cases hF
    exact z_p S hr hlk rfl dX11_open_48
  · have hF := (if_neg b3).symm.trans hF
    refine lv_aload_n S.1 S.2.1 dX11_open_23 rfl (lv_at hl 0 rfl) ?_
    refine r_getC S hK hM cfX11 0 0 1 (by decide) ly_0 rfl (by decide) tw_1_193 dX11_open_24 ?_
    refine lv_iload_n S.1 S.2.1 dX11_open_27 rfl (lv_at hl 1 rfl) ?_
    refine lv_iload_n S.1 S.2.1 dX11_open_28 rfl (lv_at hl 3 rfl) ?_
    obtain ⟨r4, er4, hF⟩ := bd1_some hF
    refine k_p (va_runV (As := [.int x1, .int x3]) (rest := []) S (c_X1_scores hPL ct_1 er4) (cwV 2 S.2.2.2.2 (ul_V tw_3_67 tw_3_68 tw_3_69 tw_1_2 cw_X1_scores) rfl rfl rfl hv_X1_scores ⟨Nat.le_of_ble_eq_true rfl, Nat.le_of_ble_eq_true rfl⟩) ⟨PreM.blind, hM.recv hK cfX1 1 (ct_lt0 ct_1) (ly_ct ct_1), hM.pre hK⟩ rfl rfl hl.1 rfl (lv_room (Nat.le_of_ble_eq_true rfl)) dX11_open_29 ⟨Nat.zero_le _, Nat.zero_le _⟩) ?_
    refine lv_if_eq (tgt := 41) S.1 S.2.1 dX11_open_32 (by decide) (fun b5 => ?_) (fun b5 => ?_)
    · have hF := (if_pos b5).symm.trans hF
      exact w_X11_open_41 hPL S hK hr hlk hM hk17 (lv_sub hl [0, 1, 2, 3] rfl) hF
    · have hF := (if_neg b5).symm.trans hF
      refine lv_iload_n S.1 S.2.1 dX11_open_35 rfl (lv_at hl 2 rfl) ?_
      refine lv_iconst (v := 1) S.1 S.2.1 dX11_open_36 (by decide) ?_
      refine lv_iload_n S.1 S.2.1 dX11_open_37 rfl (lv_at hl 3 rfl) ?_
      refine lv_ishl S.1 S.2.1 dX11_open_38 ?_
      refine lv_ior S.1 S.2.1 dX11_open_39 ?_
      refine lv_topi (fun v6 ev6 => ?_)
      have hF := bd_at ev6 hF
      refine lv_istore_n (lv' := [(2, .int v6), (0, .ref (g.2.2 0)), (1, .int x1), (3, .int x3)]) S.1 S.2.1 dX11_open_40 rfl hl (by decide) rfl (fun ls hl => ?_)
      exact w_X11_open_41 hPL S hK hr hlk hM hk17 (lv_sub hl [1, 2, 0, 3] rfl) hF
theorem wl_X11_open_17 {l : Launch} {g : GE} {A : Nat → Prop} {LP : List Nat} {kf : KF} {σ : IM} {ρ : RM} (hPL : PL LP kf) {p : Program} {e : Env} {s : State} {m : MethodId} {args : Array Value} {below : List Frame} {meth : Method} {c : Code} (S : CallFix p m c cX11_open 4 s args UL RX11) (hK : KK g s) (hr : meth.sig.returnType = (some .int)) (hlk : meth.locks = false) (hM : Mem lyC 48 g A (va_pl LP (skE kf)) σ ρ s.heap s.heap []) {out : Int32} : ∀ (n : Nat) {x1 : Int32} {x2 : Int32} {x3 : Int32} {ls : Array Slot}, lv_has ls 4 [(0, .ref (g.2.2 0)), (1, .int x1), (2, .int x2), (3, .int x3)] → X11_open_b17 kf σ ρ n x1 x2 x3 = some out → W p l e ({ frames := 4, cells := 0, slots := 0, locals := 92 }) s m args below meth c s.heap [] 0 0 (MQ below (Qp (some (.int out))) args s 0 0 NoA) (F0 m 17 ls []) := by
  intro n
  induction n with
  | zero =>
    intro x1 x2 x3 ls hl hF
    cases hF
  | succ n ih =>
    intro x1 x2 x3 ls hl hF
    exact w_X11_open_17 hPL S hK hr hlk hM ih hl hF
def X11_open (kf : KF) (σ : IM) (ρ : RM) (a1 : Int32) : Option Int32 := bd1 (X1_knows kf σ ρ 1 a1) fun r1 => if r1 = 0 then (some (-1)) else (X11_open_b17 kf σ ρ 1000 a1 0 0)
set_option maxRecDepth 20000 in
theorem c_X11_open {l : Launch} {g : GE} {A : Nat → Prop} {LP : List Nat} {kf : KF} {σ : IM} {ρ : RM} {a1 : Int32} {out : Int32} (hPL : PL LP kf) (hF : X11_open kf σ ρ a1 = some out) : Met l yX11_open (.code yX11_open cX11_open 4 (some .int) :: UL) ({ frames := 4, cells := 0, slots := 0, locals := 92 }) (va_Pc [.ref (g.2.2 0), .int a1] (PreM lyC 48 g A (va_pl LP (skE kf)) σ ρ)) (Qp (some (.int out))) 0 0 NoA := by
  refine e_of (by decide) (Nat.le_of_ble_eq_true rfl) ?_
  intro p e s m below meth c ls S hr hlk hv hl
  have hM := Mem.of hv
  have hK := hv.2.1
  have hl : lv_has ls 4 [(0, .ref (g.2.2 0)), (1, .int a1)] := hl
  unfold X11_open at hF
  refine lv_aload_n S.1 S.2.1 dX11_open_0 rfl (lv_at hl 0 rfl) ?_
  refine r_getC S hK hM cfX11 0 0 1 (by decide) ly_0 rfl (by decide) tw_1_193 dX11_open_1 ?_
  refine lv_iload_n S.1 S.2.1 dX11_open_4 rfl (lv_at hl 1 rfl) ?_
  obtain ⟨r1, er1, hF⟩ := bd1_some hF
  refine k_p (va_runV (As := [.int a1]) (rest := []) S (c_X1_knows hPL ct_1 er1) (cwV 1 S.2.2.2.2 (ul_V tw_2_212 tw_2_69 tw_2_70 tw_1_2 cw_X1_knows) rfl rfl rfl hv_X1_knows ⟨Nat.le_of_ble_eq_true rfl, Nat.le_of_ble_eq_true rfl⟩) ⟨PreM.blind, hM.recv hK cfX1 1 (ct_lt0 ct_1) (ly_ct ct_1), hM.pre hK⟩ rfl rfl hl.1 rfl (lv_room (Nat.le_of_ble_eq_true rfl)) dX11_open_5 ⟨Nat.zero_le _, Nat.zero_le _⟩) ?_
  refine lv_if_ne (tgt := 13) S.1 S.2.1 dX11_open_8 (by decide) (fun b2 => ?_) (fun b2 => ?_)
  · have hF := (if_neg b2).symm.trans hF
    refine lv_iconst (v := 0) S.1 S.2.1 dX11_open_13 (by decide) ?_
    refine lv_istore_n (lv' := [(2, .int 0), (0, .ref (g.2.2 0)), (1, .int a1)]) S.1 S.2.1 dX11_open_14 rfl hl (by decide) rfl (fun ls hl => ?_)
    refine lv_iconst (v := 0) S.1 S.2.1 dX11_open_15 (by decide) ?_
    refine lv_istore_n (lv' := [(3, .int 0), (2, .int 0), (0, .ref (g.2.2 0)), (1, .int a1)]) S.1 S.2.1 dX11_open_16 rfl hl (by decide) rfl (fun ls hl => ?_)
    exact wl_X11_open_17 hPL S hK hr hlk hM 1000 (lv_sub hl [2, 3, 1, 0] rfl) hF
  · have hF := (if_pos b2).symm.trans hF
    refine lv_iconst (v := (-1)) S.1 S.2.1 dX11_open_11 (by decide) ?_
    cases hF
    exact z_p S hr hlk rfl dX11_open_12
/-! X11_forced -/
def X11_forced (kf : KF) (σ : IM) (ρ : RM) : Option Int32 := bd1 (X1_firstScoring kf σ ρ 1) fun r1 => some r1
set_option maxRecDepth 20000 in
theorem c_X11_forced {l : Launch} {g : GE} {A : Nat → Prop} {LP : List Nat} {kf : KF} {σ : IM} {ρ : RM} {out : Int32} (hPL : PL LP kf) (hF : X11_forced kf σ ρ = some out) : Met l yX11_forced (.code yX11_forced cX11_forced 1 (some .int) :: UL) ({ frames := 5, cells := 0, slots := 0, locals := 114 }) (va_Pc [.ref (g.2.2 0)] (PreM lyC 48 g A (va_pl LP (skE kf)) σ ρ)) (Qp (some (.int out))) 0 0 NoA := by
  refine e_of (by decide) (Nat.le_of_ble_eq_true rfl) ?_
  intro p e s m below meth c ls S hr hlk hv hl
  have hM := Mem.of hv
  have hK := hv.2.1
  have hl : lv_has ls 1 [(0, .ref (g.2.2 0))] := hl
  unfold X11_forced at hF
  refine lv_aload_n S.1 S.2.1 dX11_forced_0 rfl (lv_at hl 0 rfl) ?_
  refine r_getC S hK hM cfX11 0 0 1 (by decide) ly_0 rfl (by decide) tw_1_193 dX11_forced_1 ?_
  obtain ⟨r1, er1, hF⟩ := bd1_some hF
  refine k_p (va_runV (As := []) (rest := []) S (c_X1_firstScoring hPL ct_1 er1) (cwV 0 S.2.2.2.2 (ul_V tw_3_84 tw_3_85 tw_3_86 tw_1_2 cw_X1_firstScoring) rfl rfl rfl hv_X1_firstScoring ⟨Nat.le_of_ble_eq_true rfl, Nat.le_of_ble_eq_true rfl⟩) ⟨PreM.blind, hM.recv hK cfX1 1 (ct_lt0 ct_1) (ly_ct ct_1), hM.pre hK⟩ rfl rfl hl.1 rfl (lv_room (Nat.le_of_ble_eq_true rfl)) dX11_forced_4 ⟨Nat.zero_le _, Nat.zero_le _⟩) ?_
  cases hF
  exact z_p S hr hlk rfl dX11_forced_7
/-! X11_farthest -/
def X11_farthest_b69 (kf : KF) (σ : IM) (ρ : RM) (k29 : Int32 → Int32 → Int32 → Int32 → Int32 → Option Int32) (x1 : Int32) (x2 : Int32) (x3 : Int32) (x4 : Int32) (x5 : Int32) : Option Int32 := bd (x5 + 1) fun v10 => k29 x1 x2 x3 x4 v10
set_option maxRecDepth 20000 in
theorem w_X11_farthest_69 {l : Launch} {g : GE} {A : Nat → Prop} {LP : List Nat} {kf : KF} {σ : IM} {ρ : RM} (hPL : PL LP kf) {p : Program} {e : Env} {s : State} {m : MethodId} {args : Array Value} {below : List Frame} {meth : Method} {c : Code} (S : CallFix p m c cX11_farthest 7 s args UL RX11) (hK : KK g s) (hr : meth.sig.returnType = (some .int)) (hlk : meth.locks = false) (hM : Mem lyC 48 g A (va_pl LP (skE kf)) σ ρ s.heap s.heap []) {out : Int32} {k29 : Int32 → Int32 → Int32 → Int32 → Int32 → Option Int32} (hk29 : ∀ {x1 : Int32} {x2 : Int32} {x3 : Int32} {x4 : Int32} {x5 : Int32} {ls : Array Slot}, lv_has ls 7 [(0, .ref (g.2.2 0)), (1, .int x1), (2, .int x2), (3, .int x3), (4, .int x4), (5, .int x5)] → k29 x1 x2 x3 x4 x5 = some out → W p l e ({ frames := 5, cells := 0, slots := 0, locals := 109 }) s m args below meth c s.heap [] 0 0 (MQ below (Qp (some (.int out))) args s 0 0 NoA) (F0 m 29 ls [])) : ∀ {x1 : Int32} {x2 : Int32} {x3 : Int32} {x4 : Int32} {x5 : Int32} {ls : Array Slot}, lv_has ls 7 [(0, .ref (g.2.2 0)), (1, .int x1), (2, .int x2), (3, .int x3), (4, .int x4), (5, .int x5)] → X11_farthest_b69 kf σ ρ k29 x1 x2 x3 x4 x5 = some out → W p l e ({ frames := 5, cells := 0, slots := 0, locals := 109 }) s m args below meth c s.heap [] 0 0 (MQ below (Qp (some (.int out))) args s 0 0 NoA) (F0 m 69 ls []) := by
  intro x1 x2 x3 x4 x5 ls hl hF
  unfold X11_farthest_b69 at hF
  obtain ⟨v10, ev10, hF⟩ := bd_some hF
  refine lv_iinc (v := v10) (lv' := [(5, .int v10), (0, .ref (g.2.2 0)), (1, .int x1), (2, .int x2), (3, .int x3), (4, .int x4)]) S.1 S.2.1 dX11_farthest_69 hl (k := 5) rfl (by rw [ev10]; rfl) (by decide) rfl (fun ls hl => ?_)
  refine lv_goto (tgt := 29) S.1 S.2.1 dX11_farthest_72 (by decide) ?_
  exact hk29  (lv_sub hl [1, 2, 3, 4, 5, 0] rfl)  hF
def X11_farthest_s29 (kf : KF) (σ : IM) (ρ : RM) (k29 : Int32 → Int32 → Int32 → Int32 → Int32 → Option Int32) (x1 : Int32) (x2 : Int32) (x3 : Int32) (x4 : Int32) (x5 : Int32) : Option Int32 := if 9 ≤ x5 then (if x2 = 0 then (some x3) else (some x4)) else (bd1 (X1_landing kf σ ρ 1 x1 x5) fun r7 => bd1 (X1_wayLed kf σ ρ 1 r7) fun r8 => if r8 ≤ x4 then (X11_farthest_b69 kf σ ρ k29 x1 x2 x3 x4 x5) else (X11_farthest_b69 kf σ ρ k29 x1 x2 x5 r8 x5))
def X11_farthest_b29 (kf : KF) (σ : IM) (ρ : RM) : Nat → Int32 → Int32 → Int32 → Int32 → Int32 → Option Int32
  | 0 => fun _ _ _ _ _ => none
  | n + 1 => X11_farthest_s29 kf σ ρ (X11_farthest_b29 kf σ ρ n)
set_option maxRecDepth 20000 in
theorem w_X11_farthest_29 {l : Launch} {g : GE} {A : Nat → Prop} {LP : List Nat} {kf : KF} {σ : IM} {ρ : RM} (hPL : PL LP kf) {p : Program} {e : Env} {s : State} {m : MethodId} {args : Array Value} {below : List Frame} {meth : Method} {c : Code} (S : CallFix p m c cX11_farthest 7 s args UL RX11) (hK : KK g s) (hr : meth.sig.returnType = (some .int)) (hlk : meth.locks = false) (hM : Mem lyC 48 g A (va_pl LP (skE kf)) σ ρ s.heap s.heap []) {out : Int32} {k29 : Int32 → Int32 → Int32 → Int32 → Int32 → Option Int32} (hk29 : ∀ {x1 : Int32} {x2 : Int32} {x3 : Int32} {x4 : Int32} {x5 : Int32} {ls : Array Slot}, lv_has ls 7 [(0, .ref (g.2.2 0)), (1, .int x1), (2, .int x2), (3, .int x3), (4, .int x4), (5, .int x5)] → k29 x1 x2 x3 x4 x5 = some out → W p l e ({ frames := 5, cells := 0, slots := 0, locals := 109 }) s m args below meth c s.heap [] 0 0 (MQ below (Qp (some (.int out))) args s 0 0 NoA) (F0 m 29 ls [])) : ∀ {x1 : Int32} {x2 : Int32} {x3 : Int32} {x4 : Int32} {x5 : Int32} {ls : Array Slot}, lv_has ls 7 [(0, .ref (g.2.2 0)), (1, .int x1), (2, .int x2), (3, .int x3), (4, .int x4), (5, .int x5)] → X11_farthest_s29 kf σ ρ k29 x1 x2 x3 x4 x5 = some out → W p l e ({ frames := 5, cells := 0, slots := 0, locals := 109 }) s m args below meth c s.heap [] 0 0 (MQ below (Qp (some (.int out))) args s 0 0 NoA) (F0 m 29 ls []) := by
  intro x1 x2 x3 x4 x5 ls hl hF
  unfold X11_farthest_s29 at hF
  refine lv_iload S.1 S.2.1 dX11_farthest_29 (lv_at hl 5 rfl) ?_
  refine lv_bipush (v := 9) S.1 S.2.1 dX11_farthest_31 (by decide) ?_
  refine lv_icmp_ge (tgt := 75) S.1 S.2.1 dX11_farthest_33 (by decide) (fun b5 => ?_) (fun b5 => ?_)
  · have hF := (if_pos b5).symm.trans hF
    refine lv_iload_n S.1 S.2.1 dX11_farthest_75 rfl (lv_at hl 2 rfl) ?_
    refine lv_if_ne (tgt := 83) S.1 S.2.1 dX11_farthest_76 (by decide) (fun b6 => ?_) (fun b6 => ?_)
    · have hF := (if_neg b6).symm.trans hF
      refine lv_iload S.1 S.2.1 dX11_farthest_83 (lv_at hl 4 rfl) ?_
      cases hF
      exact z_p S hr hlk rfl dX11_farthest_85
    · have hF := (if_pos b6).symm.trans hF
      refine lv_iload_n S.1 S.2.1 dX11_farthest_79 rfl (lv_at hl 3 rfl) ?_
      refine lv_goto (tgt := 85) S.1 S.2.1 dX11_farthest_80 (by decide) ?_
      cases hF
      exact z_p S hr hlk rfl dX11_farthest_85
  · have hF := (if_neg b5).symm.trans hF
    refine lv_aload_n S.1 S.2.1 dX11_farthest_36 rfl (lv_at hl 0 rfl) ?_
    refine r_getC S hK hM cfX11 0 0 1 (by decide) ly_0 rfl (by decide) tw_1_193 dX11_farthest_37 ?_
    refine lv_aload_n S.1 S.2.1 dX11_farthest_40 rfl (lv_at hl 0 rfl) ?_
    refine r_getC S hK hM cfX11 0 0 1 (by decide) ly_0 rfl (by decide) tw_1_193 dX11_farthest_41 ?_
    refine lv_iload_n S.1 S.2.1 dX11_farthest_44 rfl (lv_at hl 1 rfl) ?_
    refine lv_iload S.1 S.2.1 dX11_farthest_45 (lv_at hl 5 rfl) ?_
    obtain ⟨r7, er7, hF⟩ := bd1_some hF
    refine k_p (va_runV (As := [.int x1, .int x5]) (rest := [.ref (g.2.2 1)]) S (c_X1_landing hPL ct_1 er7) (cwV 2 S.2.2.2.2 (ul_V tw_3_55 tw_3_56 tw_3_57 tw_1_2 cw_X1_landing) rfl rfl rfl hv_X1_landing ⟨Nat.le_of_ble_eq_true rfl, Nat.le_of_ble_eq_true rfl⟩) ⟨PreM.blind, hM.recv hK cfX1 1 (ct_lt0 ct_1) (ly_ct ct_1), hM.pre hK⟩ rfl rfl hl.1 rfl (lv_room (Nat.le_of_ble_eq_true rfl)) dX11_farthest_47 ⟨Nat.zero_le _, Nat.zero_le _⟩) ?_
    obtain ⟨r8, er8, hF⟩ := bd1_some hF
    refine k_p (va_runV (As := [.int r7]) (rest := []) S (c_X1_wayLed hPL ct_1 er8) (cwV 1 S.2.2.2.2 (ul_V tw_3_93 tw_3_94 tw_3_95 tw_1_2 cw_X1_wayLed) rfl rfl rfl hv_X1_wayLed ⟨Nat.le_of_ble_eq_true rfl, Nat.le_of_ble_eq_true rfl⟩) ⟨PreM.blind, hM.recv hK cfX1 1 (ct_lt0 ct_1) (ly_ct ct_1), hM.pre hK⟩ rfl rfl hl.1 rfl (lv_room (Nat.le_of_ble_eq_true rfl)) dX11_farthest_50 ⟨Nat.zero_le _, Nat.zero_le _⟩) ?_
    refine lv_istore (lv' := [(6, .int r8), (0, .ref (g.2.2 0)), (1, .int x1), (2, .int x2), (3, .int x3), (4, .int x4), (5, .int x5)]) S.1 S.2.1 dX11_farthest_53 hl (by decide) rfl (fun ls hl => ?_)
    refine lv_iload S.1 S.2.1 dX11_farthest_55 (lv_at hl 0 rfl) ?_
    refine lv_iload S.1 S.2.1 dX11_farthest_57 (lv_at hl 5 rfl) ?_
    refine lv_icmp_le (tgt := 69) S.1 S.2.1 dX11_farthest_59 (by decide) (fun b9 => ?_) (fun b9 => ?_)
    · have hF := (if_pos b9).symm.trans hF
      exact w_X11_farthest_69 hPL S hK hr hlk hM hk29 (lv_sub hl [1, 2, 3, 4, 5, 6] rfl) hF
    · have hF := (if_neg b9).symm.trans hF
      refine lv_iload S.1 S.2.1 dX11_farthest_62 (lv_at hl 0 rfl) ?_
      refine lv_istore (lv' := [(4, .int r8), (6, .int r8), (0, .ref (g.2.2 0)), (1, .int x1), (2, .int x2), (3, .int x3), (5, .int x5)]) S.1 S.2.1 dX11_farthest_64 hl (by decide) rfl (fun ls hl => ?_)
      refine lv_iload S.1 S.2.1 dX11_farthest_66 (lv_at hl 6 rfl) ?_
      refine lv_istore_n (lv' := [(3, .int x5), (4, .int r8), (6, .int r8), (0, .ref (g.2.2 0)), (1, .int x1), (2, .int x2), (5, .int x5)]) S.1 S.2.1 dX11_farthest_68 rfl hl (by decide) rfl (fun ls hl => ?_)
      exact w_X11_farthest_69 hPL S hK hr hlk hM hk29 (lv_sub hl [3, 4, 5, 0, 1, 6] rfl) hF
theorem wl_X11_farthest_29 {l : Launch} {g : GE} {A : Nat → Prop} {LP : List Nat} {kf : KF} {σ : IM} {ρ : RM} (hPL : PL LP kf) {p : Program} {e : Env} {s : State} {m : MethodId} {args : Array Value} {below : List Frame} {meth : Method} {c : Code} (S : CallFix p m c cX11_farthest 7 s args UL RX11) (hK : KK g s) (hr : meth.sig.returnType = (some .int)) (hlk : meth.locks = false) (hM : Mem lyC 48 g A (va_pl LP (skE kf)) σ ρ s.heap s.heap []) {out : Int32} : ∀ (n : Nat) {x1 : Int32} {x2 : Int32} {x3 : Int32} {x4 : Int32} {x5 : Int32} {ls : Array Slot}, lv_has ls 7 [(0, .ref (g.2.2 0)), (1, .int x1), (2, .int x2), (3, .int x3), (4, .int x4), (5, .int x5)] → X11_farthest_b29 kf σ ρ n x1 x2 x3 x4 x5 = some out → W p l e ({ frames := 5, cells := 0, slots := 0, locals := 109 }) s m args below meth c s.heap [] 0 0 (MQ below (Qp (some (.int out))) args s 0 0 NoA) (F0 m 29 ls []) := by
  intro n
  induction n with
  | zero =>
    intro x1 x2 x3 x4 x5 ls hl hF
    cases hF
  | succ n ih =>
    intro x1 x2 x3 x4 x5 ls hl hF
    exact w_X11_farthest_29 hPL S hK hr hlk hM ih hl hF
def X11_farthest (kf : KF) (σ : IM) (ρ : RM) (a1 : Int32) (a2 : Int32) : Option Int32 := bd1 (X1_knows kf σ ρ 1 a1) fun r1 => if r1 = 0 then (some (-1)) else (bd1 (X11_isBelow a2 2) fun r3 => if r3 = 0 then (some (-1)) else (X11_farthest_b29 kf σ ρ 1000 a1 a2 0 (-1) 0))
set_option maxRecDepth 20000 in
theorem c_X11_farthest {l : Launch} {g : GE} {A : Nat → Prop} {LP : List Nat} {kf : KF} {σ : IM} {ρ : RM} {a1 : Int32} {a2 : Int32} {out : Int32} (hPL : PL LP kf) (hF : X11_farthest kf σ ρ a1 a2 = some out) : Met l yX11_farthest (.code yX11_farthest cX11_farthest 7 (some .int) :: UL) ({ frames := 5, cells := 0, slots := 0, locals := 109 }) (va_Pc [.ref (g.2.2 0), .int a1, .int a2] (PreM lyC 48 g A (va_pl LP (skE kf)) σ ρ)) (Qp (some (.int out))) 0 0 NoA := by
  refine e_of (by decide) (Nat.le_of_ble_eq_true rfl) ?_
  intro p e s m below meth c ls S hr hlk hv hl
  have hM := Mem.of hv
  have hK := hv.2.1
  have hl : lv_has ls 7 [(0, .ref (g.2.2 0)), (1, .int a1), (2, .int a2)] := hl
  unfold X11_farthest at hF
  refine lv_aload_n S.1 S.2.1 dX11_farthest_0 rfl (lv_at hl 0 rfl) ?_
  refine r_getC S hK hM cfX11 0 0 1 (by decide) ly_0 rfl (by decide) tw_1_193 dX11_farthest_1 ?_
  refine lv_iload_n S.1 S.2.1 dX11_farthest_4 rfl (lv_at hl 1 rfl) ?_
  obtain ⟨r1, er1, hF⟩ := bd1_some hF
  refine k_p (va_runV (As := [.int a1]) (rest := []) S (c_X1_knows hPL ct_1 er1) (cwV 1 S.2.2.2.2 (ul_V tw_2_212 tw_2_69 tw_2_70 tw_1_2 cw_X1_knows) rfl rfl rfl hv_X1_knows ⟨Nat.le_of_ble_eq_true rfl, Nat.le_of_ble_eq_true rfl⟩) ⟨PreM.blind, hM.recv hK cfX1 1 (ct_lt0 ct_1) (ly_ct ct_1), hM.pre hK⟩ rfl rfl hl.1 rfl (lv_room (Nat.le_of_ble_eq_true rfl)) dX11_farthest_5 ⟨Nat.zero_le _, Nat.zero_le _⟩) ?_
  refine lv_if_eq (tgt := 19) S.1 S.2.1 dX11_farthest_8 (by decide) (fun b2 => ?_) (fun b2 => ?_)
  · have hF := (if_pos b2).symm.trans hF
    refine lv_iconst (v := (-1)) S.1 S.2.1 dX11_farthest_19 (by decide) ?_
    cases hF
    exact z_p S hr hlk rfl dX11_farthest_20
  · have hF := (if_neg b2).symm.trans hF
    refine lv_iload_n S.1 S.2.1 dX11_farthest_11 rfl (lv_at hl 2 rfl) ?_
    refine lv_iconst (v := 2) S.1 S.2.1 dX11_farthest_12 (by decide) ?_
    obtain ⟨r3, er3, hF⟩ := bd1_some hF
    refine k_p (va_runS (As := [.int a2, .int 2]) (rest := []) S (c_X11_isBelow hPL  er3) (va_cwS 2 S.2.2.2.2 (ul_S tw_1_229 tw_1_230 tw_1_1 cw_X11_isBelow) rfl rfl rfl hs_X11_isBelow ⟨Nat.le_of_ble_eq_true rfl, Nat.le_of_ble_eq_true rfl⟩) ⟨PreM.blind, hM.pre hK⟩ rfl rfl hl.1 rfl (lv_room (Nat.le_of_ble_eq_true rfl)) dX11_farthest_13 ⟨Nat.zero_le _, Nat.zero_le _⟩) ?_
    refine lv_if_ne (tgt := 21) S.1 S.2.1 dX11_farthest_16 (by decide) (fun b4 => ?_) (fun b4 => ?_)
    · have hF := (if_neg b4).symm.trans hF
      refine lv_iconst (v := 0) S.1 S.2.1 dX11_farthest_21 (by decide) ?_
      refine lv_istore_n (lv' := [(3, .int 0), (0, .ref (g.2.2 0)), (1, .int a1), (2, .int a2)]) S.1 S.2.1 dX11_farthest_22 rfl hl (by decide) rfl (fun ls hl => ?_)
      refine lv_iconst (v := (-1)) S.1 S.2.1 dX11_farthest_23 (by decide) ?_
      refine lv_istore (lv' := [(4, .int (-1)), (3, .int 0), (0, .ref (g.2.2 0)), (1, .int a1), (2, .int a2)]) S.1 S.2.1 dX11_farthest_24 hl (by decide) rfl (fun ls hl => ?_)
      refine lv_iconst (v := 0) S.1 S.2.1 dX11_farthest_26 (by decide) ?_
      refine lv_istore (lv' := [(5, .int 0), (4, .int (-1)), (3, .int 0), (0, .ref (g.2.2 0)), (1, .int a1), (2, .int a2)]) S.1 S.2.1 dX11_farthest_27 hl (by decide) rfl (fun ls hl => ?_)
      exact wl_X11_farthest_29 hPL S hK hr hlk hM 1000 (lv_sub hl [3, 4, 5, 2, 1, 0] rfl) hF
    · have hF := (if_pos b4).symm.trans hF
      refine lv_iconst (v := (-1)) S.1 S.2.1 dX11_farthest_19 (by decide) ?_
      cases hF
      exact z_p S hr hlk rfl dX11_farthest_20
/-! X11_atWhom -/
def X11_atWhom_b85 (kf : KF) (k21 : Int32 → Int32 → Int32 → Int32 → IM → RM → Option (Int32 × IM × RM)) (x1 : Int32) (x2 : Int32) (x3 : Int32) (x4 : Int32) (σ : IM) (ρ : RM) : Option (Int32 × IM × RM) := bd (x4 + 1) fun v13 => k21 x1 x2 x3 v13 σ ρ
set_option maxRecDepth 20000 in
theorem w_X11_atWhom_85 {l : Launch} {g : GE} {A : Nat → Prop} {LP : List Nat} {kf : KF} (hPL : PL LP kf) {p : Program} {e : Env} {s : State} {m : MethodId} {args : Array Value} {below : List Frame} {meth : Method} {c : Code} (S : CallFix p m c cX11_atWhom 7 s args UL RX11) (hK : KK g s) (hr : meth.sig.returnType = (some .int)) (hlk : meth.locks = false) {out : Int32 × IM × RM} {k21 : Int32 → Int32 → Int32 → Int32 → IM → RM → Option (Int32 × IM × RM)} (hk21 : ∀ {x1 : Int32} {x2 : Int32} {x3 : Int32} {x4 : Int32} {σ : IM} {ρ : RM} {H : Heap} {locs : List Loc} {ls : Array Slot}, Mem lyC 48 g A (va_pl LP (skE kf)) σ ρ s.heap H locs → lv_has ls 7 [(0, .ref (g.2.2 0)), (1, .int x1), (2, .int x2), (3, .int x3), (4, .int x4)] → k21 x1 x2 x3 x4 σ ρ = some out → W p l e ({ frames := 4, cells := 0, slots := 0, locals := 100 }) s m args below meth c H locs 0 0 (MQ below (Qm lyC 48 g A (va_pl LP (skE kf)) out.2.1 out.2.2 (some (.int out.1))) args s 0 0 A) (F0 m 21 ls [])) : ∀ {x1 : Int32} {x2 : Int32} {x3 : Int32} {x4 : Int32} {σ : IM} {ρ : RM} {H : Heap} {locs : List Loc} {ls : Array Slot}, Mem lyC 48 g A (va_pl LP (skE kf)) σ ρ s.heap H locs → lv_has ls 7 [(0, .ref (g.2.2 0)), (1, .int x1), (2, .int x2), (3, .int x3), (4, .int x4)] → X11_atWhom_b85 kf k21 x1 x2 x3 x4 σ ρ = some out → W p l e ({ frames := 4, cells := 0, slots := 0, locals := 100 }) s m args below meth c H locs 0 0 (MQ below (Qm lyC 48 g A (va_pl LP (skE kf)) out.2.1 out.2.2 (some (.int out.1))) args s 0 0 A) (F0 m 85 ls []) := by
  intro x1 x2 x3 x4 σ ρ H locs ls hM hl hF
  unfold X11_atWhom_b85 at hF
  obtain ⟨v13, ev13, hF⟩ := bd_some hF
  refine lv_iinc (v := v13) (lv' := [(4, .int v13), (0, .ref (g.2.2 0)), (1, .int x1), (2, .int x2), (3, .int x3)]) S.1 S.2.1 dX11_atWhom_85 hl (k := 4) rfl (by rw [ev13]; rfl) (by decide) rfl (fun ls hl => ?_)
  refine lv_goto (tgt := 21) S.1 S.2.1 dX11_atWhom_88 (by decide) ?_
  exact hk21 hM (lv_sub hl [1, 2, 3, 4, 0] rfl)  hF
def X11_atWhom_s21 (kf : KF) (k21 : Int32 → Int32 → Int32 → Int32 → IM → RM → Option (Int32 × IM × RM)) (x1 : Int32) (x2 : Int32) (x3 : Int32) (x4 : Int32) (σ : IM) (ρ : RM) : Option (Int32 × IM × RM) := if 9 ≤ x4 then (some (x2, σ, ρ)) else (bd2 (X1_become kf σ ρ 10 1) fun σ4 ρ5 => bd3 (X1_strike kf σ4 ρ5 10 x1 x4) fun r9 σ7 ρ8 => rd (σ7 (10 + 3)) 4 (σ7 10 9) fun v10 => if r9 = 0 then (if v10 ≤ x3 then (X11_atWhom_b85 kf k21 x1 x2 x3 x4 σ7 ρ8) else (X11_atWhom_b85 kf k21 x1 x4 v10 x4 σ7 ρ8)) else (X11_atWhom_b85 kf k21 x1 x2 x3 x4 σ7 ρ8))
def X11_atWhom_b21 (kf : KF) : Nat → Int32 → Int32 → Int32 → Int32 → IM → RM → Option (Int32 × IM × RM)
  | 0 => fun _ _ _ _ _ _ => none
  | n + 1 => X11_atWhom_s21 kf (X11_atWhom_b21 kf n)
set_option maxRecDepth 20000 in
theorem w_X11_atWhom_21 {l : Launch} {g : GE} {A : Nat → Prop} {LP : List Nat} {kf : KF} (hPL : PL LP kf) {p : Program} {e : Env} {s : State} {m : MethodId} {args : Array Value} {below : List Frame} {meth : Method} {c : Code} (S : CallFix p m c cX11_atWhom 7 s args UL RX11) (hK : KK g s) (hr : meth.sig.returnType = (some .int)) (hlk : meth.locks = false) {out : Int32 × IM × RM} {k21 : Int32 → Int32 → Int32 → Int32 → IM → RM → Option (Int32 × IM × RM)} (hk21 : ∀ {x1 : Int32} {x2 : Int32} {x3 : Int32} {x4 : Int32} {σ : IM} {ρ : RM} {H : Heap} {locs : List Loc} {ls : Array Slot}, Mem lyC 48 g A (va_pl LP (skE kf)) σ ρ s.heap H locs → lv_has ls 7 [(0, .ref (g.2.2 0)), (1, .int x1), (2, .int x2), (3, .int x3), (4, .int x4)] → k21 x1 x2 x3 x4 σ ρ = some out → W p l e ({ frames := 4, cells := 0, slots := 0, locals := 100 }) s m args below meth c H locs 0 0 (MQ below (Qm lyC 48 g A (va_pl LP (skE kf)) out.2.1 out.2.2 (some (.int out.1))) args s 0 0 A) (F0 m 21 ls [])) : ∀ {x1 : Int32} {x2 : Int32} {x3 : Int32} {x4 : Int32} {σ : IM} {ρ : RM} {H : Heap} {locs : List Loc} {ls : Array Slot}, Mem lyC 48 g A (va_pl LP (skE kf)) σ ρ s.heap H locs → lv_has ls 7 [(0, .ref (g.2.2 0)), (1, .int x1), (2, .int x2), (3, .int x3), (4, .int x4)] → X11_atWhom_s21 kf k21 x1 x2 x3 x4 σ ρ = some out → W p l e ({ frames := 4, cells := 0, slots := 0, locals := 100 }) s m args below meth c H locs 0 0 (MQ below (Qm lyC 48 g A (va_pl LP (skE kf)) out.2.1 out.2.2 (some (.int out.1))) args s 0 0 A) (F0 m 21 ls []) := by
  intro x1 x2 x3 x4 σ ρ H locs ls hM hl hF
  unfold X11_atWhom_s21 at hF
  refine lv_iload S.1 S.2.1 dX11_atWhom_21 (lv_at hl 4 rfl) ?_
  refine lv_bipush (v := 9) S.1 S.2.1 dX11_atWhom_23 (by decide) ?_
  refine lv_icmp_ge (tgt := 91) S.1 S.2.1 dX11_atWhom_25 (by decide) (fun b3 => ?_) (fun b3 => ?_)
  · have hF := (if_pos b3).symm.trans hF
    refine lv_iload_n S.1 S.2.1 dX11_atWhom_91 rfl (lv_at hl 2 rfl) ?_
    cases hF
    exact z_m (v := x2) S hM hr hlk rfl dX11_atWhom_92
  · have hF := (if_neg b3).symm.trans hF
    refine lv_aload_n S.1 S.2.1 dX11_atWhom_28 rfl (lv_at hl 0 rfl) ?_
    refine r_getC S hK hM cfX11 0 1 10 (by decide) ly_0 rfl (by decide) tw_1_194 dX11_atWhom_29 ?_
    refine lv_aload_n S.1 S.2.1 dX11_atWhom_32 rfl (lv_at hl 0 rfl) ?_
    refine r_getC S hK hM cfX11 0 0 1 (by decide) ly_0 rfl (by decide) tw_1_193 dX11_atWhom_33 ?_
    obtain ⟨σ4, ρ5, er6, hF⟩ := bd2_some hF
    refine k_m (va_runV (As := [.ref (g.2.2 1)]) (rest := []) S (c_X1_become hPL ct_10 ct_1 er6) (cwV 1 S.2.2.2.2 (ul_V tw_2_18 tw_2_19 tw_2_20 tw_1_2 cw_X1_become) rfl rfl rfl hv_X1_become ⟨Nat.le_of_ble_eq_true rfl, Nat.le_of_ble_eq_true rfl⟩) ⟨PreM.blind, hM.recv hK cfX1 10 (ct_lt0 ct_10) (ly_ct ct_10), hM.pre hK⟩ rfl rfl hl.1 rfl (lv_room (Nat.le_of_ble_eq_true rfl)) dX11_atWhom_36 ⟨Nat.zero_le _, Nat.zero_le _⟩) hM (fun H locs hM => ?_)
    show W _ _ _ _ _ _ _ _ _ _ _ _ _ _ _ (F0 m 39 ls [])
    refine lv_aload_n S.1 S.2.1 dX11_atWhom_39 rfl (lv_at hl 0 rfl) ?_
    refine r_getC S hK hM cfX11 0 1 10 (by decide) ly_0 rfl (by decide) tw_1_194 dX11_atWhom_40 ?_
    refine lv_iload_n S.1 S.2.1 dX11_atWhom_43 rfl (lv_at hl 1 rfl) ?_
    refine lv_iload S.1 S.2.1 dX11_atWhom_44 (lv_at hl 4 rfl) ?_
    obtain ⟨r9, σ7, ρ8, er9, hF⟩ := bd3_some hF
    refine k_m (va_runV (As := [.int x1, .int x4]) (rest := []) S (c_X1_strike hPL ct_10 er9) (cwV 2 S.2.2.2.2 (ul_V tw_3_49 tw_2_73 tw_2_74 tw_1_2 cw_X1_strike) rfl rfl rfl hv_X1_strike ⟨Nat.le_of_ble_eq_true rfl, Nat.le_of_ble_eq_true rfl⟩) ⟨PreM.blind, hM.recv hK cfX1 10 (ct_lt0 ct_10) (ly_ct ct_10), hM.pre hK⟩ rfl rfl hl.1 rfl (lv_room (Nat.le_of_ble_eq_true rfl)) dX11_atWhom_46 ⟨Nat.zero_le _, Nat.zero_le _⟩) hM (fun H locs hM => ?_)
    show W _ _ _ _ _ _ _ _ _ _ _ _ _ _ _ (F0 m 49 ls [.int r9])
    refine lv_istore (lv' := [(5, .int r9), (0, .ref (g.2.2 0)), (1, .int x1), (2, .int x2), (3, .int x3), (4, .int x4)]) S.1 S.2.1 dX11_atWhom_49 hl (by decide) rfl (fun ls hl => ?_)
    refine lv_aload_n S.1 S.2.1 dX11_atWhom_51 rfl (lv_at hl 1 rfl) ?_
    refine r_getC S hK hM cfX11 0 1 10 (by decide) ly_0 rfl (by decide) tw_1_194 dX11_atWhom_52 ?_
    refine r_getC S hK hM cfX1 10 2 (10 + 3) (ct_lt0 ct_10) (ly_ct ct_10) rfl (by decide) tw_1_44 dX11_atWhom_55 ?_
    refine lv_aload_n S.1 S.2.1 dX11_atWhom_58 rfl (lv_at hl 1 rfl) ?_
    refine r_getC S hK hM cfX11 0 1 10 (by decide) ly_0 rfl (by decide) tw_1_194 dX11_atWhom_59 ?_
    refine r_getI S hK hM cfX1 10 9 (ct_lt0 ct_10) (ly_ct ct_10) rfl (by decide) tw_1_58 dX11_atWhom_62 ?_
    obtain ⟨hv10, v10, ev10, hF⟩ := rd_some hF
    refine r_iald S hK hM (10 + 3) (ct_lt ct_10 3 (by decide)) (ly_c3 ct_10) hv10 ev10 dX11_atWhom_65 ?_
    refine lv_istore (lv' := [(6, .int v10), (5, .int r9), (0, .ref (g.2.2 0)), (1, .int x1), (2, .int x2), (3, .int x3), (4, .int x4)]) S.1 S.2.1 dX11_atWhom_66 hl (by decide) rfl (fun ls hl => ?_)
    refine lv_iload S.1 S.2.1 dX11_atWhom_68 (lv_at hl 1 rfl) ?_
    refine lv_if_ne (tgt := 85) S.1 S.2.1 dX11_atWhom_70 (by decide) (fun b11 => ?_) (fun b11 => ?_)
    · have hF := (if_neg b11).symm.trans hF
      exact w_X11_atWhom_85 hPL S hK hr hlk hk21 hM (lv_sub hl [2, 3, 4, 5, 6] rfl) hF
    · have hF := (if_pos b11).symm.trans hF
      refine lv_iload S.1 S.2.1 dX11_atWhom_73 (lv_at hl 0 rfl) ?_
      refine lv_iload_n S.1 S.2.1 dX11_atWhom_75 rfl (lv_at hl 5 rfl) ?_
      refine lv_icmp_le (tgt := 85) S.1 S.2.1 dX11_atWhom_76 (by decide) (fun b12 => ?_) (fun b12 => ?_)
      · have hF := (if_pos b12).symm.trans hF
        exact w_X11_atWhom_85 hPL S hK hr hlk hk21 hM (lv_sub hl [2, 3, 4, 5, 6] rfl) hF
      · have hF := (if_neg b12).symm.trans hF
        refine lv_iload S.1 S.2.1 dX11_atWhom_79 (lv_at hl 0 rfl) ?_
        refine lv_istore_n (lv' := [(3, .int v10), (6, .int v10), (5, .int r9), (0, .ref (g.2.2 0)), (1, .int x1), (2, .int x2), (4, .int x4)]) S.1 S.2.1 dX11_atWhom_81 rfl hl (by decide) rfl (fun ls hl => ?_)
        refine lv_iload S.1 S.2.1 dX11_atWhom_82 (lv_at hl 6 rfl) ?_
        refine lv_istore_n (lv' := [(2, .int x4), (3, .int v10), (6, .int v10), (5, .int r9), (0, .ref (g.2.2 0)), (1, .int x1), (4, .int x4)]) S.1 S.2.1 dX11_atWhom_84 rfl hl (by decide) rfl (fun ls hl => ?_)
        exact w_X11_atWhom_85 hPL S hK hr hlk hk21 hM (lv_sub hl [4, 5, 0, 1, 6] rfl) hF
theorem wl_X11_atWhom_21 {l : Launch} {g : GE} {A : Nat → Prop} {LP : List Nat} {kf : KF} (hPL : PL LP kf) {p : Program} {e : Env} {s : State} {m : MethodId} {args : Array Value} {below : List Frame} {meth : Method} {c : Code} (S : CallFix p m c cX11_atWhom 7 s args UL RX11) (hK : KK g s) (hr : meth.sig.returnType = (some .int)) (hlk : meth.locks = false) {out : Int32 × IM × RM} : ∀ (n : Nat) {x1 : Int32} {x2 : Int32} {x3 : Int32} {x4 : Int32} {σ : IM} {ρ : RM} {H : Heap} {locs : List Loc} {ls : Array Slot}, Mem lyC 48 g A (va_pl LP (skE kf)) σ ρ s.heap H locs → lv_has ls 7 [(0, .ref (g.2.2 0)), (1, .int x1), (2, .int x2), (3, .int x3), (4, .int x4)] → X11_atWhom_b21 kf n x1 x2 x3 x4 σ ρ = some out → W p l e ({ frames := 4, cells := 0, slots := 0, locals := 100 }) s m args below meth c H locs 0 0 (MQ below (Qm lyC 48 g A (va_pl LP (skE kf)) out.2.1 out.2.2 (some (.int out.1))) args s 0 0 A) (F0 m 21 ls []) := by
  intro n
  induction n with
  | zero =>
    intro x1 x2 x3 x4 σ ρ H locs ls hM hl hF
    cases hF
  | succ n ih =>
    intro x1 x2 x3 x4 σ ρ H locs ls hM hl hF
    exact w_X11_atWhom_21 hPL S hK hr hlk ih hM hl hF
def X11_atWhom (kf : KF) (σ : IM) (ρ : RM) (a1 : Int32) : Option (Int32 × IM × RM) := bd1 (X1_knows kf σ ρ 1 a1) fun r1 => if r1 = 0 then (some ((-1), σ, ρ)) else (X11_atWhom_b21 kf 1000 a1 (-4) (-1) 0 σ ρ)
set_option maxRecDepth 20000 in
theorem c_X11_atWhom {l : Launch} {g : GE} {A : Nat → Prop} {LP : List Nat} {kf : KF} {σ : IM} {ρ : RM} {a1 : Int32} {out : Int32 × IM × RM} (hPL : PL LP kf) (hF : X11_atWhom kf σ ρ a1 = some out) : Met l yX11_atWhom (.code yX11_atWhom cX11_atWhom 7 (some .int) :: UL) ({ frames := 4, cells := 0, slots := 0, locals := 100 }) (va_Pc [.ref (g.2.2 0), .int a1] (PreM lyC 48 g A (va_pl LP (skE kf)) σ ρ)) (Qm lyC 48 g A (va_pl LP (skE kf)) out.2.1 out.2.2 (some (.int out.1))) 0 0 A := by
  refine e_of (by decide) (Nat.le_of_ble_eq_true rfl) ?_
  intro p e s m below meth c ls S hr hlk hv hl
  have hM := Mem.of hv
  have hK := hv.2.1
  have hl : lv_has ls 7 [(0, .ref (g.2.2 0)), (1, .int a1)] := hl
  unfold X11_atWhom at hF
  refine lv_aload_n S.1 S.2.1 dX11_atWhom_0 rfl (lv_at hl 0 rfl) ?_
  refine r_getC S hK hM cfX11 0 0 1 (by decide) ly_0 rfl (by decide) tw_1_193 dX11_atWhom_1 ?_
  refine lv_iload_n S.1 S.2.1 dX11_atWhom_4 rfl (lv_at hl 1 rfl) ?_
  obtain ⟨r1, er1, hF⟩ := bd1_some hF
  refine k_p (va_runV (As := [.int a1]) (rest := []) S (c_X1_knows hPL ct_1 er1) (cwV 1 S.2.2.2.2 (ul_V tw_2_212 tw_2_69 tw_2_70 tw_1_2 cw_X1_knows) rfl rfl rfl hv_X1_knows ⟨Nat.le_of_ble_eq_true rfl, Nat.le_of_ble_eq_true rfl⟩) ⟨PreM.blind, hM.recv hK cfX1 1 (ct_lt0 ct_1) (ly_ct ct_1), hM.pre hK⟩ rfl rfl hl.1 rfl (lv_room (Nat.le_of_ble_eq_true rfl)) dX11_atWhom_5 ⟨Nat.zero_le _, Nat.zero_le _⟩) ?_
  refine lv_if_ne (tgt := 13) S.1 S.2.1 dX11_atWhom_8 (by decide) (fun b2 => ?_) (fun b2 => ?_)
  · have hF := (if_neg b2).symm.trans hF
    refine lv_bipush (v := (-4)) S.1 S.2.1 dX11_atWhom_13 (by decide) ?_
    refine lv_istore_n (lv' := [(2, .int (-4)), (0, .ref (g.2.2 0)), (1, .int a1)]) S.1 S.2.1 dX11_atWhom_15 rfl hl (by decide) rfl (fun ls hl => ?_)
    refine lv_iconst (v := (-1)) S.1 S.2.1 dX11_atWhom_16 (by decide) ?_
    refine lv_istore_n (lv' := [(3, .int (-1)), (2, .int (-4)), (0, .ref (g.2.2 0)), (1, .int a1)]) S.1 S.2.1 dX11_atWhom_17 rfl hl (by decide) rfl (fun ls hl => ?_)
    refine lv_iconst (v := 0) S.1 S.2.1 dX11_atWhom_18 (by decide) ?_
    refine lv_istore (lv' := [(4, .int 0), (3, .int (-1)), (2, .int (-4)), (0, .ref (g.2.2 0)), (1, .int a1)]) S.1 S.2.1 dX11_atWhom_19 hl (by decide) rfl (fun ls hl => ?_)
    exact wl_X11_atWhom_21 hPL S hK hr hlk 1000 hM (lv_sub hl [3, 4, 2, 1, 0] rfl) hF
  · have hF := (if_pos b2).symm.trans hF
    refine lv_iconst (v := (-1)) S.1 S.2.1 dX11_atWhom_11 (by decide) ?_
    cases hF
    exact z_m (v := (-1)) S hM hr hlk rfl dX11_atWhom_12
/-! X11_firstOpening -/
def X11_firstOpening_b85 (kf : KF) (k2 : Int32 → IM → RM → Option (Int32 × IM × RM)) (k15 : Int32 → Int32 → IM → RM → Option (Int32 × IM × RM)) (x1 : Int32) (x2 : Int32) (σ : IM) (ρ : RM) : Option (Int32 × IM × RM) := bd (x2 + 1) fun v18 => k15 x1 v18 σ ρ
set_option maxRecDepth 20000 in
theorem w_X11_firstOpening_85 {l : Launch} {g : GE} {A : Nat → Prop} {LP : List Nat} {kf : KF} (hPL : PL LP kf) {p : Program} {e : Env} {s : State} {m : MethodId} {args : Array Value} {below : List Frame} {meth : Method} {c : Code} (S : CallFix p m c cX11_firstOpening 4 s args UL RX11) (hK : KK g s) (hr : meth.sig.returnType = (some .int)) (hlk : meth.locks = false) {out : Int32 × IM × RM} {k2 : Int32 → IM → RM → Option (Int32 × IM × RM)} (hk2 : ∀ {x1 : Int32} {σ : IM} {ρ : RM} {H : Heap} {locs : List Loc} {ls : Array Slot}, Mem lyC 48 g A (va_pl LP (skE kf)) σ ρ s.heap H locs → lv_has ls 4 [(0, .ref (g.2.2 0)), (1, .int x1)] → k2 x1 σ ρ = some out → W p l e ({ frames := 5, cells := 0, slots := 0, locals := 114 }) s m args below meth c H locs 0 0 (MQ below (Qm lyC 48 g A (va_pl LP (skE kf)) out.2.1 out.2.2 (some (.int out.1))) args s 0 0 A) (F0 m 2 ls [])) {k15 : Int32 → Int32 → IM → RM → Option (Int32 × IM × RM)} (hk15 : ∀ {x1 : Int32} {x2 : Int32} {σ : IM} {ρ : RM} {H : Heap} {locs : List Loc} {ls : Array Slot}, Mem lyC 48 g A (va_pl LP (skE kf)) σ ρ s.heap H locs → lv_has ls 4 [(0, .ref (g.2.2 0)), (1, .int x1), (2, .int x2)] → k15 x1 x2 σ ρ = some out → W p l e ({ frames := 5, cells := 0, slots := 0, locals := 114 }) s m args below meth c H locs 0 0 (MQ below (Qm lyC 48 g A (va_pl LP (skE kf)) out.2.1 out.2.2 (some (.int out.1))) args s 0 0 A) (F0 m 15 ls [])) : ∀ {x1 : Int32} {x2 : Int32} {σ : IM} {ρ : RM} {H : Heap} {locs : List Loc} {ls : Array Slot}, Mem lyC 48 g A (va_pl LP (skE kf)) σ ρ s.heap H locs → lv_has ls 4 [(0, .ref (g.2.2 0)), (1, .int x1), (2, .int x2)] → X11_firstOpening_b85 kf k2 k15 x1 x2 σ ρ = some out → W p l e ({ frames := 5, cells := 0, slots := 0, locals := 114 }) s m args below meth c H locs 0 0 (MQ below (Qm lyC 48 g A (va_pl LP (skE kf)) out.2.1 out.2.2 (some (.int out.1))) args s 0 0 A) (F0 m 85 ls []) := by
  intro x1 x2 σ ρ H locs ls hM hl hF
  unfold X11_firstOpening_b85 at hF
  obtain ⟨v18, ev18, hF⟩ := bd_some hF
  refine lv_iinc (v := v18) (lv' := [(2, .int v18), (0, .ref (g.2.2 0)), (1, .int x1)]) S.1 S.2.1 dX11_firstOpening_85 hl (k := 2) rfl (by rw [ev18]; rfl) (by decide) rfl (fun ls hl => ?_)
  refine lv_goto (tgt := 15) S.1 S.2.1 dX11_firstOpening_88 (by decide) ?_
  exact hk15 hM (lv_sub hl [1, 2, 0] rfl)  hF
def X11_firstOpening_b61 (kf : KF) (k2 : Int32 → IM → RM → Option (Int32 × IM × RM)) (k15 : Int32 → Int32 → IM → RM → Option (Int32 × IM × RM)) (x1 : Int32) (x2 : Int32) (t0 : Int32) (σ : IM) (ρ : RM) : Option (Int32 × IM × RM) := if t0 = 0 then (bd1 (X1_firstScoring kf σ ρ 10) fun r16 => if r16 = (-4) then (X11_firstOpening_b85 kf k2 k15 x1 x2 σ ρ) else (some ((10 * x1) + x2, σ, ρ))) else (X11_firstOpening_b85 kf k2 k15 x1 x2 σ ρ)
set_option maxRecDepth 20000 in
theorem w_X11_firstOpening_61 {l : Launch} {g : GE} {A : Nat → Prop} {LP : List Nat} {kf : KF} (hPL : PL LP kf) {p : Program} {e : Env} {s : State} {m : MethodId} {args : Array Value} {below : List Frame} {meth : Method} {c : Code} (S : CallFix p m c cX11_firstOpening 4 s args UL RX11) (hK : KK g s) (hr : meth.sig.returnType = (some .int)) (hlk : meth.locks = false) {out : Int32 × IM × RM} {k2 : Int32 → IM → RM → Option (Int32 × IM × RM)} (hk2 : ∀ {x1 : Int32} {σ : IM} {ρ : RM} {H : Heap} {locs : List Loc} {ls : Array Slot}, Mem lyC 48 g A (va_pl LP (skE kf)) σ ρ s.heap H locs → lv_has ls 4 [(0, .ref (g.2.2 0)), (1, .int x1)] → k2 x1 σ ρ = some out → W p l e ({ frames := 5, cells := 0, slots := 0, locals := 114 }) s m args below meth c H locs 0 0 (MQ below (Qm lyC 48 g A (va_pl LP (skE kf)) out.2.1 out.2.2 (some (.int out.1))) args s 0 0 A) (F0 m 2 ls [])) {k15 : Int32 → Int32 → IM → RM → Option (Int32 × IM × RM)} (hk15 : ∀ {x1 : Int32} {x2 : Int32} {σ : IM} {ρ : RM} {H : Heap} {locs : List Loc} {ls : Array Slot}, Mem lyC 48 g A (va_pl LP (skE kf)) σ ρ s.heap H locs → lv_has ls 4 [(0, .ref (g.2.2 0)), (1, .int x1), (2, .int x2)] → k15 x1 x2 σ ρ = some out → W p l e ({ frames := 5, cells := 0, slots := 0, locals := 114 }) s m args below meth c H locs 0 0 (MQ below (Qm lyC 48 g A (va_pl LP (skE kf)) out.2.1 out.2.2 (some (.int out.1))) args s 0 0 A) (F0 m 15 ls [])) : ∀ {x1 : Int32} {x2 : Int32} {t0 : Int32} {σ : IM} {ρ : RM} {H : Heap} {locs : List Loc} {ls : Array Slot}, Mem lyC 48 g A (va_pl LP (skE kf)) σ ρ s.heap H locs → lv_has ls 4 [(0, .ref (g.2.2 0)), (1, .int x1), (2, .int x2)] → X11_firstOpening_b61 kf k2 k15 x1 x2 t0 σ ρ = some out → W p l e ({ frames := 5, cells := 0, slots := 0, locals := 114 }) s m args below meth c H locs 0 0 (MQ below (Qm lyC 48 g A (va_pl LP (skE kf)) out.2.1 out.2.2 (some (.int out.1))) args s 0 0 A) (F0 m 61 ls [.int t0]) := by
  intro x1 x2 t0 σ ρ H locs ls hM hl hF
  unfold X11_firstOpening_b61 at hF
  refine lv_istore_n (lv' := [(3, .int t0), (0, .ref (g.2.2 0)), (1, .int x1), (2, .int x2)]) S.1 S.2.1 dX11_firstOpening_61 rfl hl (by decide) rfl (fun ls hl => ?_)
  refine lv_iload_n S.1 S.2.1 dX11_firstOpening_62 rfl (lv_at hl 0 rfl) ?_
  refine lv_if_ne (tgt := 85) S.1 S.2.1 dX11_firstOpening_63 (by decide) (fun b15 => ?_) (fun b15 => ?_)
  · have hF := (if_neg b15).symm.trans hF
    exact w_X11_firstOpening_85 hPL S hK hr hlk hk2 hk15 hM (lv_sub hl [1, 2, 3] rfl) hF
  · have hF := (if_pos b15).symm.trans hF
    refine lv_aload_n S.1 S.2.1 dX11_firstOpening_66 rfl (lv_at hl 1 rfl) ?_
    refine r_getC S hK hM cfX11 0 1 10 (by decide) ly_0 rfl (by decide) tw_1_194 dX11_firstOpening_67 ?_
    obtain ⟨r16, er16, hF⟩ := bd1_some hF
    refine k_p (va_runV (As := []) (rest := []) S (c_X1_firstScoring hPL ct_10 er16) (cwV 0 S.2.2.2.2 (ul_V tw_3_84 tw_3_85 tw_3_86 tw_1_2 cw_X1_firstScoring) rfl rfl rfl hv_X1_firstScoring ⟨Nat.le_of_ble_eq_true rfl, Nat.le_of_ble_eq_true rfl⟩) ⟨PreM.blind, hM.recv hK cfX1 10 (ct_lt0 ct_10) (ly_ct ct_10), hM.pre hK⟩ rfl rfl hl.1 rfl (lv_room (Nat.le_of_ble_eq_true rfl)) dX11_firstOpening_70 ⟨Nat.zero_le _, Nat.zero_le _⟩) ?_
    refine lv_bipush (v := (-4)) S.1 S.2.1 dX11_firstOpening_73 (by decide) ?_
    refine lv_icmp_eq (tgt := 85) S.1 S.2.1 dX11_firstOpening_75 (by decide) (fun b17 => ?_) (fun b17 => ?_)
    · have hF := (if_pos b17).symm.trans hF
      exact w_X11_firstOpening_85 hPL S hK hr hlk hk2 hk15 hM (lv_sub hl [1, 2, 3] rfl) hF
    · have hF := (if_neg b17).symm.trans hF
      refine lv_bipush (v := 10) S.1 S.2.1 dX11_firstOpening_78 (by decide) ?_
      refine lv_iload_n S.1 S.2.1 dX11_firstOpening_80 rfl (lv_at hl 2 rfl) ?_
      refine lv_imul S.1 S.2.1 dX11_firstOpening_81 ?_
      refine lv_iload_n S.1 S.2.1 dX11_firstOpening_82 rfl (lv_at hl 3 rfl) ?_
      refine lv_iadd S.1 S.2.1 dX11_firstOpening_83 ?_
      cases hF
      exact z_m (v := (10 * x1) + x2) S hM hr hlk rfl dX11_firstOpening_84
def X11_firstOpening_b56 (kf : KF) (k2 : Int32 → IM → RM → Option (Int32 × IM × RM)) (k15 : Int32 → Int32 → IM → RM → Option (Int32 × IM × RM)) (x1 : Int32) (x2 : Int32) (σ : IM) (ρ : RM) : Option (Int32 × IM × RM) := X11_firstOpening_b61 kf k2 k15 x1 x2 1 σ ρ
set_option maxRecDepth 20000 in
theorem w_X11_firstOpening_56 {l : Launch} {g : GE} {A : Nat → Prop} {LP : List Nat} {kf : KF} (hPL : PL LP kf) {p : Program} {e : Env} {s : State} {m : MethodId} {args : Array Value} {below : List Frame} {meth : Method} {c : Code} (S : CallFix p m c cX11_firstOpening 4 s args UL RX11) (hK : KK g s) (hr : meth.sig.returnType = (some .int)) (hlk : meth.locks = false) {out : Int32 × IM × RM} {k2 : Int32 → IM → RM → Option (Int32 × IM × RM)} (hk2 : ∀ {x1 : Int32} {σ : IM} {ρ : RM} {H : Heap} {locs : List Loc} {ls : Array Slot}, Mem lyC 48 g A (va_pl LP (skE kf)) σ ρ s.heap H locs → lv_has ls 4 [(0, .ref (g.2.2 0)), (1, .int x1)] → k2 x1 σ ρ = some out → W p l e ({ frames := 5, cells := 0, slots := 0, locals := 114 }) s m args below meth c H locs 0 0 (MQ below (Qm lyC 48 g A (va_pl LP (skE kf)) out.2.1 out.2.2 (some (.int out.1))) args s 0 0 A) (F0 m 2 ls [])) {k15 : Int32 → Int32 → IM → RM → Option (Int32 × IM × RM)} (hk15 : ∀ {x1 : Int32} {x2 : Int32} {σ : IM} {ρ : RM} {H : Heap} {locs : List Loc} {ls : Array Slot}, Mem lyC 48 g A (va_pl LP (skE kf)) σ ρ s.heap H locs → lv_has ls 4 [(0, .ref (g.2.2 0)), (1, .int x1), (2, .int x2)] → k15 x1 x2 σ ρ = some out → W p l e ({ frames := 5, cells := 0, slots := 0, locals := 114 }) s m args below meth c H locs 0 0 (MQ below (Qm lyC 48 g A (va_pl LP (skE kf)) out.2.1 out.2.2 (some (.int out.1))) args s 0 0 A) (F0 m 15 ls [])) : ∀ {x1 : Int32} {x2 : Int32} {σ : IM} {ρ : RM} {H : Heap} {locs : List Loc} {ls : Array Slot}, Mem lyC 48 g A (va_pl LP (skE kf)) σ ρ s.heap H locs → lv_has ls 4 [(0, .ref (g.2.2 0)), (1, .int x1), (2, .int x2)] → X11_firstOpening_b56 kf k2 k15 x1 x2 σ ρ = some out → W p l e ({ frames := 5, cells := 0, slots := 0, locals := 114 }) s m args below meth c H locs 0 0 (MQ below (Qm lyC 48 g A (va_pl LP (skE kf)) out.2.1 out.2.2 (some (.int out.1))) args s 0 0 A) (F0 m 56 ls []) := by
  intro x1 x2 σ ρ H locs ls hM hl hF
  unfold X11_firstOpening_b56 at hF
  refine lv_iconst (v := 1) S.1 S.2.1 dX11_firstOpening_56 (by decide) ?_
  refine lv_goto (tgt := 61) S.1 S.2.1 dX11_firstOpening_57 (by decide) ?_
  exact w_X11_firstOpening_61 hPL S hK hr hlk hk2 hk15 hM (lv_sub hl [0, 1, 2] rfl) hF
def X11_firstOpening_s15 (kf : KF) (k2 : Int32 → IM → RM → Option (Int32 × IM × RM)) (k15 : Int32 → Int32 → IM → RM → Option (Int32 × IM × RM)) (x1 : Int32) (x2 : Int32) (σ : IM) (ρ : RM) : Option (Int32 × IM × RM) := if 9 ≤ x2 then (bd (x1 + 1) fun v3 => k2 v3 σ ρ) else (bd2 (X1_become kf σ ρ 10 1) fun σ4 ρ5 => bd3 (X1_strike kf σ4 ρ5 10 x1 x2) fun r9 σ7 ρ8 => if r9 = 0 then (bd3 (X1_strike kf σ7 ρ8 10 0 4) fun r13 σ11 ρ12 => if r13 = 0 then (X11_firstOpening_b61 kf k2 k15 x1 x2 0 σ11 ρ12) else (X11_firstOpening_b56 kf k2 k15 x1 x2 σ11 ρ12)) else (X11_firstOpening_b56 kf k2 k15 x1 x2 σ7 ρ8))
def X11_firstOpening_b15 (kf : KF) (k2 : Int32 → IM → RM → Option (Int32 × IM × RM)) : Nat → Int32 → Int32 → IM → RM → Option (Int32 × IM × RM)
  | 0 => fun _ _ _ _ => none
  | n + 1 => X11_firstOpening_s15 kf k2 (X11_firstOpening_b15 kf k2 n)
set_option maxRecDepth 20000 in
theorem w_X11_firstOpening_15 {l : Launch} {g : GE} {A : Nat → Prop} {LP : List Nat} {kf : KF} (hPL : PL LP kf) {p : Program} {e : Env} {s : State} {m : MethodId} {args : Array Value} {below : List Frame} {meth : Method} {c : Code} (S : CallFix p m c cX11_firstOpening 4 s args UL RX11) (hK : KK g s) (hr : meth.sig.returnType = (some .int)) (hlk : meth.locks = false) {out : Int32 × IM × RM} {k2 : Int32 → IM → RM → Option (Int32 × IM × RM)} (hk2 : ∀ {x1 : Int32} {σ : IM} {ρ : RM} {H : Heap} {locs : List Loc} {ls : Array Slot}, Mem lyC 48 g A (va_pl LP (skE kf)) σ ρ s.heap H locs → lv_has ls 4 [(0, .ref (g.2.2 0)), (1, .int x1)] → k2 x1 σ ρ = some out → W p l e ({ frames := 5, cells := 0, slots := 0, locals := 114 }) s m args below meth c H locs 0 0 (MQ below (Qm lyC 48 g A (va_pl LP (skE kf)) out.2.1 out.2.2 (some (.int out.1))) args s 0 0 A) (F0 m 2 ls [])) {k15 : Int32 → Int32 → IM → RM → Option (Int32 × IM × RM)} (hk15 : ∀ {x1 : Int32} {x2 : Int32} {σ : IM} {ρ : RM} {H : Heap} {locs : List Loc} {ls : Array Slot}, Mem lyC 48 g A (va_pl LP (skE kf)) σ ρ s.heap H locs → lv_has ls 4 [(0, .ref (g.2.2 0)), (1, .int x1), (2, .int x2)] → k15 x1 x2 σ ρ = some out → W p l e ({ frames := 5, cells := 0, slots := 0, locals := 114 }) s m args below meth c H locs 0 0 (MQ below (Qm lyC 48 g A (va_pl LP (skE kf)) out.2.1 out.2.2 (some (.int out.1))) args s 0 0 A) (F0 m 15 ls [])) : ∀ {x1 : Int32} {x2 : Int32} {σ : IM} {ρ : RM} {H : Heap} {locs : List Loc} {ls : Array Slot}, Mem lyC 48 g A (va_pl LP (skE kf)) σ ρ s.heap H locs → lv_has ls 4 [(0, .ref (g.2.2 0)), (1, .int x1), (2, .int x2)] → X11_firstOpening_s15 kf k2 k15 x1 x2 σ ρ = some out → W p l e ({ frames := 5, cells := 0, slots := 0, locals := 114 }) s m args below meth c H locs 0 0 (MQ below (Qm lyC 48 g A (va_pl LP (skE kf)) out.2.1 out.2.2 (some (.int out.1))) args s 0 0 A) (F0 m 15 ls []) := by
  intro x1 x2 σ ρ H locs ls hM hl hF
  unfold X11_firstOpening_s15 at hF
  refine lv_iload_n S.1 S.2.1 dX11_firstOpening_15 rfl (lv_at hl 2 rfl) ?_
  refine lv_bipush (v := 9) S.1 S.2.1 dX11_firstOpening_16 (by decide) ?_
  refine lv_icmp_ge (tgt := 91) S.1 S.2.1 dX11_firstOpening_18 (by decide) (fun b2 => ?_) (fun b2 => ?_)
  · have hF := (if_pos b2).symm.trans hF
    obtain ⟨v3, ev3, hF⟩ := bd_some hF
    refine lv_iinc (v := v3) (lv' := [(1, .int v3), (0, .ref (g.2.2 0)), (2, .int x2)]) S.1 S.2.1 dX11_firstOpening_91 hl (k := 1) rfl (by rw [ev3]; rfl) (by decide) rfl (fun ls hl => ?_)
    refine lv_goto (tgt := 2) S.1 S.2.1 dX11_firstOpening_94 (by decide) ?_
    exact hk2 hM (lv_sub hl [1, 0] rfl)  hF
  · have hF := (if_neg b2).symm.trans hF
    refine lv_aload_n S.1 S.2.1 dX11_firstOpening_21 rfl (lv_at hl 0 rfl) ?_
    refine r_getC S hK hM cfX11 0 1 10 (by decide) ly_0 rfl (by decide) tw_1_194 dX11_firstOpening_22 ?_
    refine lv_aload_n S.1 S.2.1 dX11_firstOpening_25 rfl (lv_at hl 0 rfl) ?_
    refine r_getC S hK hM cfX11 0 0 1 (by decide) ly_0 rfl (by decide) tw_1_193 dX11_firstOpening_26 ?_
    obtain ⟨σ4, ρ5, er6, hF⟩ := bd2_some hF
    refine k_m (va_runV (As := [.ref (g.2.2 1)]) (rest := []) S (c_X1_become hPL ct_10 ct_1 er6) (cwV 1 S.2.2.2.2 (ul_V tw_2_18 tw_2_19 tw_2_20 tw_1_2 cw_X1_become) rfl rfl rfl hv_X1_become ⟨Nat.le_of_ble_eq_true rfl, Nat.le_of_ble_eq_true rfl⟩) ⟨PreM.blind, hM.recv hK cfX1 10 (ct_lt0 ct_10) (ly_ct ct_10), hM.pre hK⟩ rfl rfl hl.1 rfl (lv_room (Nat.le_of_ble_eq_true rfl)) dX11_firstOpening_29 ⟨Nat.zero_le _, Nat.zero_le _⟩) hM (fun H locs hM => ?_)
    show W _ _ _ _ _ _ _ _ _ _ _ _ _ _ _ (F0 m 32 ls [])
    refine lv_aload_n S.1 S.2.1 dX11_firstOpening_32 rfl (lv_at hl 0 rfl) ?_
    refine r_getC S hK hM cfX11 0 1 10 (by decide) ly_0 rfl (by decide) tw_1_194 dX11_firstOpening_33 ?_
    refine lv_iload_n S.1 S.2.1 dX11_firstOpening_36 rfl (lv_at hl 1 rfl) ?_
    refine lv_iload_n S.1 S.2.1 dX11_firstOpening_37 rfl (lv_at hl 2 rfl) ?_
    obtain ⟨r9, σ7, ρ8, er9, hF⟩ := bd3_some hF
    refine k_m (va_runV (As := [.int x1, .int x2]) (rest := []) S (c_X1_strike hPL ct_10 er9) (cwV 2 S.2.2.2.2 (ul_V tw_3_49 tw_2_73 tw_2_74 tw_1_2 cw_X1_strike) rfl rfl rfl hv_X1_strike ⟨Nat.le_of_ble_eq_true rfl, Nat.le_of_ble_eq_true rfl⟩) ⟨PreM.blind, hM.recv hK cfX1 10 (ct_lt0 ct_10) (ly_ct ct_10), hM.pre hK⟩ rfl rfl hl.1 rfl (lv_room (Nat.le_of_ble_eq_true rfl)) dX11_firstOpening_38 ⟨Nat.zero_le _, Nat.zero_le _⟩) hM (fun H locs hM => ?_)
    show W _ _ _ _ _ _ _ _ _ _ _ _ _ _ _ (F0 m 41 ls [.int r9])
    refine lv_if_ne (tgt := 56) S.1 S.2.1 dX11_firstOpening_41 (by decide) (fun b10 => ?_) (fun b10 => ?_)
    · have hF := (if_neg b10).symm.trans hF
      exact w_X11_firstOpening_56 hPL S hK hr hlk hk2 hk15 hM (lv_sub hl [0, 1, 2] rfl) hF
    · have hF := (if_pos b10).symm.trans hF
      refine lv_aload_n S.1 S.2.1 dX11_firstOpening_44 rfl (lv_at hl 0 rfl) ?_
      refine r_getC S hK hM cfX11 0 1 10 (by decide) ly_0 rfl (by decide) tw_1_194 dX11_firstOpening_45 ?_
      refine lv_iconst (v := 0) S.1 S.2.1 dX11_firstOpening_48 (by decide) ?_
      refine lv_iconst (v := 4) S.1 S.2.1 dX11_firstOpening_49 (by decide) ?_
      obtain ⟨r13, σ11, ρ12, er13, hF⟩ := bd3_some hF
      refine k_m (va_runV (As := [.int 0, .int 4]) (rest := []) S (c_X1_strike hPL ct_10 er13) (cwV 2 S.2.2.2.2 (ul_V tw_3_49 tw_2_73 tw_2_74 tw_1_2 cw_X1_strike) rfl rfl rfl hv_X1_strike ⟨Nat.le_of_ble_eq_true rfl, Nat.le_of_ble_eq_true rfl⟩) ⟨PreM.blind, hM.recv hK cfX1 10 (ct_lt0 ct_10) (ly_ct ct_10), hM.pre hK⟩ rfl rfl hl.1 rfl (lv_room (Nat.le_of_ble_eq_true rfl)) dX11_firstOpening_50 ⟨Nat.zero_le _, Nat.zero_le _⟩) hM (fun H locs hM => ?_)
      show W _ _ _ _ _ _ _ _ _ _ _ _ _ _ _ (F0 m 53 ls [.int r13])
      refine lv_if_eq (tgt := 60) S.1 S.2.1 dX11_firstOpening_53 (by decide) (fun b14 => ?_) (fun b14 => ?_)
      · have hF := (if_pos b14).symm.trans hF
        refine lv_iconst (v := 0) S.1 S.2.1 dX11_firstOpening_60 (by decide) ?_
        exact w_X11_firstOpening_61 hPL S hK hr hlk hk2 hk15 hM (lv_sub hl [0, 1, 2] rfl) hF
      · have hF := (if_neg b14).symm.trans hF
        exact w_X11_firstOpening_56 hPL S hK hr hlk hk2 hk15 hM (lv_sub hl [0, 1, 2] rfl) hF
theorem wl_X11_firstOpening_15 {l : Launch} {g : GE} {A : Nat → Prop} {LP : List Nat} {kf : KF} (hPL : PL LP kf) {p : Program} {e : Env} {s : State} {m : MethodId} {args : Array Value} {below : List Frame} {meth : Method} {c : Code} (S : CallFix p m c cX11_firstOpening 4 s args UL RX11) (hK : KK g s) (hr : meth.sig.returnType = (some .int)) (hlk : meth.locks = false) {out : Int32 × IM × RM} {k2 : Int32 → IM → RM → Option (Int32 × IM × RM)} (hk2 : ∀ {x1 : Int32} {σ : IM} {ρ : RM} {H : Heap} {locs : List Loc} {ls : Array Slot}, Mem lyC 48 g A (va_pl LP (skE kf)) σ ρ s.heap H locs → lv_has ls 4 [(0, .ref (g.2.2 0)), (1, .int x1)] → k2 x1 σ ρ = some out → W p l e ({ frames := 5, cells := 0, slots := 0, locals := 114 }) s m args below meth c H locs 0 0 (MQ below (Qm lyC 48 g A (va_pl LP (skE kf)) out.2.1 out.2.2 (some (.int out.1))) args s 0 0 A) (F0 m 2 ls [])) : ∀ (n : Nat) {x1 : Int32} {x2 : Int32} {σ : IM} {ρ : RM} {H : Heap} {locs : List Loc} {ls : Array Slot}, Mem lyC 48 g A (va_pl LP (skE kf)) σ ρ s.heap H locs → lv_has ls 4 [(0, .ref (g.2.2 0)), (1, .int x1), (2, .int x2)] → X11_firstOpening_b15 kf k2 n x1 x2 σ ρ = some out → W p l e ({ frames := 5, cells := 0, slots := 0, locals := 114 }) s m args below meth c H locs 0 0 (MQ below (Qm lyC 48 g A (va_pl LP (skE kf)) out.2.1 out.2.2 (some (.int out.1))) args s 0 0 A) (F0 m 15 ls []) := by
  intro n
  induction n with
  | zero =>
    intro x1 x2 σ ρ H locs ls hM hl hF
    cases hF
  | succ n ih =>
    intro x1 x2 σ ρ H locs ls hM hl hF
    exact w_X11_firstOpening_15 hPL S hK hr hlk hk2 ih hM hl hF
def X11_firstOpening_s2 (kf : KF) (k2 : Int32 → IM → RM → Option (Int32 × IM × RM)) (x1 : Int32) (σ : IM) (ρ : RM) : Option (Int32 × IM × RM) := if σ 1 8 ≤ x1 then (some ((-4), σ, ρ)) else (X11_firstOpening_b15 kf k2 1000 x1 0 σ ρ)
def X11_firstOpening_b2 (kf : KF) : Nat → Int32 → IM → RM → Option (Int32 × IM × RM)
  | 0 => fun _ _ _ => none
  | n + 1 => X11_firstOpening_s2 kf (X11_firstOpening_b2 kf n)
set_option maxRecDepth 20000 in
theorem w_X11_firstOpening_2 {l : Launch} {g : GE} {A : Nat → Prop} {LP : List Nat} {kf : KF} (hPL : PL LP kf) {p : Program} {e : Env} {s : State} {m : MethodId} {args : Array Value} {below : List Frame} {meth : Method} {c : Code} (S : CallFix p m c cX11_firstOpening 4 s args UL RX11) (hK : KK g s) (hr : meth.sig.returnType = (some .int)) (hlk : meth.locks = false) {out : Int32 × IM × RM} {k2 : Int32 → IM → RM → Option (Int32 × IM × RM)} (hk2 : ∀ {x1 : Int32} {σ : IM} {ρ : RM} {H : Heap} {locs : List Loc} {ls : Array Slot}, Mem lyC 48 g A (va_pl LP (skE kf)) σ ρ s.heap H locs → lv_has ls 4 [(0, .ref (g.2.2 0)), (1, .int x1)] → k2 x1 σ ρ = some out → W p l e ({ frames := 5, cells := 0, slots := 0, locals := 114 }) s m args below meth c H locs 0 0 (MQ below (Qm lyC 48 g A (va_pl LP (skE kf)) out.2.1 out.2.2 (some (.int out.1))) args s 0 0 A) (F0 m 2 ls [])) : ∀ {x1 : Int32} {σ : IM} {ρ : RM} {H : Heap} {locs : List Loc} {ls : Array Slot}, Mem lyC 48 g A (va_pl LP (skE kf)) σ ρ s.heap H locs → lv_has ls 4 [(0, .ref (g.2.2 0)), (1, .int x1)] → X11_firstOpening_s2 kf k2 x1 σ ρ = some out → W p l e ({ frames := 5, cells := 0, slots := 0, locals := 114 }) s m args below meth c H locs 0 0 (MQ below (Qm lyC 48 g A (va_pl LP (skE kf)) out.2.1 out.2.2 (some (.int out.1))) args s 0 0 A) (F0 m 2 ls []) := by
  intro x1 σ ρ H locs ls hM hl hF
  unfold X11_firstOpening_s2 at hF
  refine lv_iload_n S.1 S.2.1 dX11_firstOpening_2 rfl (lv_at hl 1 rfl) ?_
  refine lv_aload_n S.1 S.2.1 dX11_firstOpening_3 rfl (lv_at hl 0 rfl) ?_
  refine r_getC S hK hM cfX11 0 0 1 (by decide) ly_0 rfl (by decide) tw_1_193 dX11_firstOpening_4 ?_
  refine r_getI S hK hM cfX1 1 8 (ct_lt0 ct_1) (ly_ct ct_1) rfl (by decide) tw_1_56 dX11_firstOpening_7 ?_
  refine lv_icmp_ge (tgt := 97) S.1 S.2.1 dX11_firstOpening_10 (by decide) (fun b1 => ?_) (fun b1 => ?_)
  · have hF := (if_pos b1).symm.trans hF
    refine lv_bipush (v := (-4)) S.1 S.2.1 dX11_firstOpening_97 (by decide) ?_
    cases hF
    exact z_m (v := (-4)) S hM hr hlk rfl dX11_firstOpening_99
  · have hF := (if_neg b1).symm.trans hF
    refine lv_iconst (v := 0) S.1 S.2.1 dX11_firstOpening_13 (by decide) ?_
    refine lv_istore_n (lv' := [(2, .int 0), (0, .ref (g.2.2 0)), (1, .int x1)]) S.1 S.2.1 dX11_firstOpening_14 rfl hl (by decide) rfl (fun ls hl => ?_)
    exact wl_X11_firstOpening_15 hPL S hK hr hlk hk2 1000 hM (lv_sub hl [1, 2, 0] rfl) hF
theorem wl_X11_firstOpening_2 {l : Launch} {g : GE} {A : Nat → Prop} {LP : List Nat} {kf : KF} (hPL : PL LP kf) {p : Program} {e : Env} {s : State} {m : MethodId} {args : Array Value} {below : List Frame} {meth : Method} {c : Code} (S : CallFix p m c cX11_firstOpening 4 s args UL RX11) (hK : KK g s) (hr : meth.sig.returnType = (some .int)) (hlk : meth.locks = false) {out : Int32 × IM × RM} : ∀ (n : Nat) {x1 : Int32} {σ : IM} {ρ : RM} {H : Heap} {locs : List Loc} {ls : Array Slot}, Mem lyC 48 g A (va_pl LP (skE kf)) σ ρ s.heap H locs → lv_has ls 4 [(0, .ref (g.2.2 0)), (1, .int x1)] → X11_firstOpening_b2 kf n x1 σ ρ = some out → W p l e ({ frames := 5, cells := 0, slots := 0, locals := 114 }) s m args below meth c H locs 0 0 (MQ below (Qm lyC 48 g A (va_pl LP (skE kf)) out.2.1 out.2.2 (some (.int out.1))) args s 0 0 A) (F0 m 2 ls []) := by
  intro n
  induction n with
  | zero =>
    intro x1 σ ρ H locs ls hM hl hF
    cases hF
  | succ n ih =>
    intro x1 σ ρ H locs ls hM hl hF
    exact w_X11_firstOpening_2 hPL S hK hr hlk ih hM hl hF
def X11_firstOpening (kf : KF) (σ : IM) (ρ : RM) : Option (Int32 × IM × RM) := X11_firstOpening_b2 kf 1000 0 σ ρ
set_option maxRecDepth 20000 in
theorem c_X11_firstOpening {l : Launch} {g : GE} {A : Nat → Prop} {LP : List Nat} {kf : KF} {σ : IM} {ρ : RM} {out : Int32 × IM × RM} (hPL : PL LP kf) (hF : X11_firstOpening kf σ ρ = some out) : Met l yX11_firstOpening (.code yX11_firstOpening cX11_firstOpening 4 (some .int) :: UL) ({ frames := 5, cells := 0, slots := 0, locals := 114 }) (va_Pc [.ref (g.2.2 0)] (PreM lyC 48 g A (va_pl LP (skE kf)) σ ρ)) (Qm lyC 48 g A (va_pl LP (skE kf)) out.2.1 out.2.2 (some (.int out.1))) 0 0 A := by
  refine e_of (by decide) (Nat.le_of_ble_eq_true rfl) ?_
  intro p e s m below meth c ls S hr hlk hv hl
  have hM := Mem.of hv
  have hK := hv.2.1
  have hl : lv_has ls 4 [(0, .ref (g.2.2 0))] := hl
  unfold X11_firstOpening at hF
  refine lv_iconst (v := 0) S.1 S.2.1 dX11_firstOpening_0 (by decide) ?_
  refine lv_istore_n (lv' := [(1, .int 0), (0, .ref (g.2.2 0))]) S.1 S.2.1 dX11_firstOpening_1 rfl hl (by decide) rfl (fun ls hl => ?_)
  exact wl_X11_firstOpening_2 hPL S hK hr hlk 1000 hM (lv_sub hl [1, 0] rfl) hF
