/-! the law's case element -/
theorem ul_SH {own : String} {idx n : Nat} {y : MethodName} {b : ByteArray} {r : Option FieldType} {hh : List (Nat × Nat × Nat × Nat)} (h1 : Cond.methodLink own idx y ∈ UL) (h2 : Cond.static y ∈ UL) (h4 : Cond.initialized y.cls ∈ UL) (h5 : Cond.codeWith y b n r hh ∈ UL) : GoodIn UL (va_wsS own idx y (.codeWith y b n r hh :: UL)) :=
  ul_G (fun w hw => (List.mem_append.mp hw).elim (fun hw => by
    simp only [List.mem_cons, List.not_mem_nil, or_false] at hw
    rcases hw with rfl | rfl | rfl <;> assumption) (ul_c h5 w))
section RR
variable {p : Program} {l : Launch} {e : Env} {s : State} {m : MethodId} {below : List Frame} {meth : Method} {c : Code} {H : Heap} {locs : List Loc} {cells slots : Nat} {Q : State → Prop} {ls : Array Slot} {rest : List Value} {D : va_G} {C3 : Nat → ClassId} {adc adm : Nat → Nat} {b L i bo : Nat} {cO : ClassId} {fo : Nat → Int64} {xs : Nat → Int32}
set_option maxRecDepth 20000 in
theorem w_law_element (hst : l.stackTraces = false) (hX : XT (NewA s) s) (hN : va_Nc xIAE xUOE s ∧ va_Nc xISE xUOE s ∧ va_Nc xISE xIAE s) (hKl : va_K D vwCl [(cO, .long)] s) (S : CallFix p m c cL_law 8 s #[Value.ref b] UL "SideBySideLaw") (hK : ∀ ad : Nat → Nat, KK (D, C3, ad) s) (hx : va_X b L xs s s.heap) (hb : b < s.heap.size) (hi : i + 6 ≤ L) (hL : L ≤ 3072) (hl : lv_has ls 8 [(4, .int (nI i)), (3, .ref bo), (2, .ref (adm 0)), (1, .ref (adc 0)), (0, .ref b)]) (hS : LSt s D C3 adc adm [WO bo cO fo] H locs) (hc : cells + 128 ≤ 601024) (hs : slots + 128 ≤ 7293034)
    (kk : ∀ (f1 : Nat → Int64) (H1 : Heap) (locs1 : List Loc) (ls1 : Array Slot), lv_has ls1 8 [(4, .int (nI i)), (3, .ref bo), (2, .ref (adm 0)), (1, .ref (adc 0)), (0, .ref b)] → LSt s D C3 adc adm [WO bo cO f1] H1 locs1 → W p l e room_1 s m #[Value.ref b] below meth c H1 locs1 (cells + 128) (slots + 128) Q (F0 m 1743 ls1 [])) : W p l e room_1 s m #[Value.ref b] below meth c H locs cells slots Q (F0 m 1553 ls []) := by
  obtain ⟨LP, kf, σ, ρ, μ, h, hPL, hA⟩ := hS
  refine lv_aload_n S.1 S.2.1 dL_law_1553 rfl (lv_at hl 3 rfl) ?_
  refine r_scr (j := 1) S hx hb (by omega) hL (by omega) h hl dL_law_1554 dL_law_1555 dL_law_1557 dL_law_1558 dL_law_1559 ?_
  refine r_scr (j := 2) S hx hb (by omega) hL (by omega) h hl dL_law_1560 dL_law_1561 dL_law_1563 dL_law_1564 dL_law_1565 ?_
  refine lv_aload_n S.1 S.2.1 dL_law_1566 rfl (lv_at hl 1 rfl) ?_
  have hh := h
  obtain ⟨h1, h2, h3, d1, d2, d3, j1, j2, j3, hS⟩ := hh
  have hP0 : va_P D vwCl (WO bo cO fo :: WCl D C3 adc LP kf σ ρ) H := h3.app h1
  have hD0 : va_D (NewA s) (WO bo cO fo :: WCl D C3 adc LP kf σ ρ) := d3.app d1 j2.sw
  have hJ0 : Dj (WO bo cO fo :: WCl D C3 adc LP kf σ ρ) (WMo D C3 adm μ) := (Dj.app (a := WMo D C3 adm μ) (b := [WO bo cO fo]) j3 j1.sw).sw
  have sub : ∀ q, va_A (WO bo cO fo :: WCl D C3 adc LP kf σ ρ) H.size q → NewA s q := fun q hq => by
    rcases hq with ⟨k, z, hk⟩ | hq
    · exact hD0.2 k _ hk
    · exact Nat.le_trans hS.1 hq
  refine k_own (g := (D, C3, adc)) (wc := WO bo cO fo :: WCl D C3 adc LP kf σ ρ) (wr := WMo D C3 adm μ) (A0 := NewA s) (run_e (mc' := 128) (ms' := 128) (vx_runSW (As := [.ref (adc 0), .int (xs (i + 1)), .int (xs (i + 2)), .ref bo]) (rest := []) S (c_L_element (g := (D, C3, adc)) (A := va_A (WO bo cO fo :: WCl D C3 adc LP kf σ ρ) H.size) (a1 := xs (i + 1)) (a2 := xs (i + 2)) (bo := bo) (cO := cO) (f := fo) hst hPL hA) (vx_cwSW (hh := [(0, 9, 12, 13), (0, 9, 16, 15)]) 4 S.2.2.2.2 (ul_SH tw_5_6 tw_5_7 tw_1_0 tw_5_8) rfl rfl rfl (by decide +kernel) ⟨Nat.le_of_ble_eq_true rfl, Nat.le_of_ble_eq_true rfl⟩) ⟨PreL.blind, fun U hU hW => ⟨rfl, ⟨fun q hq => Or.inr (by rw [← hU]; exact hq), (hK adc).warm hW, by rw [hU]; exact hP0, hD0.self⟩, ?_, hN.2.2.moved hW.alike, va_K.moved hW.alike hKl⟩⟩ rfl rfl hl.1 rfl (lv_room (Nat.le_of_ble_eq_true rfl)) dL_law_1567 ⟨by show cells + 1 ≤ 601024; omega, by show slots + 6 ≤ 7293034; omega⟩) (by omega) (by omega) (fun _ _ h => h)) h2 hD0 hJ0 hS (fun q hq => hq) (fun v w H1 locs1 hR p1 p2 d j hS1 _ _ => ?_)
  · obtain ⟨x1, x2, x3, x4⟩ := hX.moved (U := U) (locs := locs) (by rw [hU]; exact hS) hW
    exact ⟨x1, x2, x3.narrow sub, x4.narrow sub⟩
  obtain ⟨r, vv, μ1, f1, e2, et, hA1, hf1, rfl, rfl⟩ := hR
  have h : LW s D (WCl D C3 adc LP kf σ ρ) (WMo D C3 adm μ) [WO bo cO f1] H1 locs1 :=
    ⟨P_snd (a := [WO bo cO f1]) p1, p2, P_fst (a := [WO bo cO f1]) p1, D_snd (a := [WO bo cO f1]) d, d2, D_fst (a := [WO bo cO f1]) d, (Dj.snd (b := [WO bo cO f1]) j.sw).sw, (D_dj (a := [WO bo cO f1]) d).sw, Dj.fst (b := [WO bo cO f1]) j.sw, hS1⟩
  show W _ _ _ _ _ _ _ _ _ _ _ _ _ _ _ (F0 m 1570 ls [.int r])
  refine lv_istore (lv' := [(5, .int r), (4, .int (nI i)), (3, .ref bo), (2, .ref (adm 0)), (1, .ref (adc 0)), (0, .ref b)]) S.1 S.2.1 dL_law_1570 hl (by decide) rfl (fun ls hl2 => ?_)
  have hl := lv_sub (l' := [(4, .int (nI i)), (3, .ref bo), (2, .ref (adm 0)), (1, .ref (adc 0)), (0, .ref b)]) hl2 [1, 2, 3, 4, 5] rfl
  refine lv_aload_n S.1 S.2.1 dL_law_1572 rfl (lv_at hl 2 rfl) ?_
  refine r_scr (j := 1) S hx hb (by omega) hL (by omega) h hl dL_law_1573 dL_law_1574 dL_law_1576 dL_law_1577 dL_law_1578 ?_
  refine r_scr (j := 2) S hx hb (by omega) hL (by omega) h hl dL_law_1579 dL_law_1580 dL_law_1582 dL_law_1583 dL_law_1584 ?_
  refine k_r (run_m (mc := 0) (ms := 0) (Rr := fun o w => o = some (.long vv) ∧ w = WMo D C3 adm μ1) (va_runV (As := [.int (xs (i + 1)), .int (xs (i + 2))]) (rest := []) S (c_X12_element (g := (D, C3, adm)) (A := va_A (WMo D C3 adm μ) H1.size) e2) (cwV 2 S.2.2.2.2 (ul_V tw_6_206 tw_6_207 tw_6_208 tw_1_12 cw_X12_element) rfl rfl rfl hv_X12_element ⟨Nat.le_of_ble_eq_true rfl, Nat.le_of_ble_eq_true rfl⟩) ⟨PreM.blind, h.mm.recv (hK adm) cfX12 0 (by decide) lm_0, h.mm.pre (hK adm)⟩ rfl rfl hl.1 rfl (lv_room (Nat.le_of_ble_eq_true rfl)) dL_law_1585 ⟨by show cells + 128 + 0 ≤ 601024; omega, by show slots + 128 + 0 ≤ 7293034; omega⟩) ⟨rfl, rfl⟩) h (fun o w H2 locs2 hw h => ?_)
  obtain ⟨rfl, rfl⟩ := hw
  show W _ _ _ _ _ _ _ _ _ _ _ _ _ _ _ (F0 m 1588 ls [.long vv])
  refine lv_lstore (lv' := [(6, .long vv), (5, .int r), (4, .int (nI i)), (3, .ref bo), (2, .ref (adm 0)), (1, .ref (adc 0)), (0, .ref b)]) S.1 S.2.1 dL_law_1588 hl2 (by decide) rfl (fun ls hl2 => ?_)
  have hl := lv_sub (l' := [(4, .int (nI i)), (3, .ref bo), (2, .ref (adm 0)), (1, .ref (adc 0)), (0, .ref b)]) hl2 [2, 3, 4, 5, 6] rfl
  refine lv_aload_n S.1 S.2.1 dL_law_1590 rfl (lv_at hl 2 rfl) ?_
  have et2 : X12_thrown μ1 = some r := congrArg some et
  refine k_r (run_p2 (g := (D, C3, adm)) (mc := 0) (ms := 0) (Rr := fun o w => o = some (.int r) ∧ w = WMo D C3 adm μ1) (va_runV (As := []) (rest := []) S (c_X12_thrown (g := (D, C3, adm)) (A := va_A (WMo D C3 adm μ1) H2.size) et2) (cwV 0 S.2.2.2.2 (ul_V tw_6_190 tw_6_191 tw_6_192 tw_1_12 cw_X12_thrown) rfl rfl rfl hv_X12_thrown ⟨Nat.le_of_ble_eq_true rfl, Nat.le_of_ble_eq_true rfl⟩) ⟨PreM.blind, h.mm.recv (hK adm) cfX12 0 (by decide) lm_0, h.mm.pre (hK adm)⟩ rfl rfl hl.1 rfl (lv_room (Nat.le_of_ble_eq_true rfl)) dL_law_1591 ⟨by show cells + 128 + 0 + 0 ≤ 601024; omega, by show slots + 128 + 0 + 0 ≤ 7293034; omega⟩) h.mm.1 h.mm.2.1 ⟨rfl, rfl⟩) h (fun o w H3 locs3 hw h => ?_)
  obtain ⟨rfl, rfl⟩ := hw
  show W _ _ _ _ _ _ _ _ _ _ _ _ _ _ _ (F0 m 1594 ls [.int r])
  refine lv_iload S.1 S.2.1 dL_law_1594 (lv_at hl2 1 rfl) ?_
  refine lv_icmp_eq (tgt := 1601) S.1 S.2.1 dL_law_1596 (by decide) (fun _ => ?_) (fun b => absurd rfl b)
  refine lv_iload S.1 S.2.1 dL_law_1601 (lv_at hl2 1 rfl) ?_
  have fin : W p l e room_1 s m #[Value.ref b] below meth c H3 locs3 (cells + 128) (slots + 128) Q (F0 m 1617 ls []) := by
    refine lv_goto (tgt := 1743) S.1 S.2.1 dL_law_1617 (by decide) ?_
    exact kk f1 H3 locs3 ls hl ⟨LP, kf, σ, ρ, μ1, h, hPL, hA1⟩
  refine lv_if_ne (tgt := 1617) S.1 S.2.1 dL_law_1603 (by decide) (fun _ => fin) (fun b => ?_)
  have b0 : r = 0 := b
  refine lv_aload_n S.1 S.2.1 dL_law_1606 rfl (lv_at hl 1 rfl) ?_
  refine lv_iconst (v := 0) S.1 S.2.1 dL_law_1607 (by decide) ?_
  refine va_lald S.1 S.2.1 hKl h.2.2.1 0 0 (n := 1) (f := f1) rfl rfl in01 dL_law_1608 ?_
  have ef : f1 (0 : Int32).toNatClampNeg = vv := hf1 b0
  rw [ef]
  refine lv_lload S.1 S.2.1 dL_law_1609 (lv_at hl2 0 rfl) ?_
  refine W.lcmp S.1 S.2.1 dL_law_1611 ?_
  rw [cmp_self]
  exact lv_if_eq (tgt := 1617) S.1 S.2.1 dL_law_1612 (by decide) (fun _ => fin) (fun b => absurd rfl b)
end RR
