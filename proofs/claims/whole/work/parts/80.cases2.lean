/-! the law's cases that make or throw -/
theorem ul_VH {own C : String} {idx n : Nat} {y : MethodName} {b : ByteArray} {r : Option FieldType} {hh : List (Nat × Nat × Nat × Nat)} (h1 : Cond.methodLink own idx y ∈ UL) (h2 : Cond.instanceMethod y ∈ UL) (h3 : Cond.selects C y y ∈ UL) (h4 : Cond.initialized C ∈ UL) (h5 : Cond.codeWith y b n r hh ∈ UL) : GoodIn UL (wsV own idx C y (.codeWith y b n r hh :: UL)) :=
  ul_G (fun w hw => (List.mem_append.mp hw).elim (fun hw => by
    simp only [List.mem_cons, List.not_mem_nil, or_false] at hw
    rcases hw with rfl | rfl | rfl | rfl <;> assumption) (ul_c h5 w))
section RR
variable {p : Program} {l : Launch} {e : Env} {s : State} {m : MethodId} {below : List Frame} {meth : Method} {c : Code} {H : Heap} {locs : List Loc} {cells slots : Nat} {Q : State → Prop} {ls : Array Slot} {rest : List Value} {D : va_G} {C3 : Nat → ClassId} {adc adm : Nat → Nat} {wo : va_W} {b L i bo : Nat} {xs : Nat → Int32}
set_option maxRecDepth 20000 in
theorem w_law_court (S : CallFix p m c cL_law 8 s #[Value.ref b] UL "SideBySideLaw") (hK : ∀ ad : Nat → Nat, KK (D, C3, ad) s) (hx : va_X b L xs s s.heap) (hb : b < s.heap.size) (hi : i + 6 ≤ L) (hL : L ≤ 3072) (hl : lv_has ls 8 [(4, .int (nI i)), (3, .ref bo), (2, .ref (adm 0)), (1, .ref (adc 0)), (0, .ref b)]) (hS : LSt s D C3 adc adm wo H locs) (hc : cells + 128 ≤ 601024) (hs : slots + 128 ≤ 7293034)
    (kk : ∀ (H1 : Heap) (locs1 : List Loc), LSt s D C3 adc adm wo H1 locs1 → W p l e room_1 s m #[Value.ref b] below meth c H1 locs1 (cells + 128) (slots + 128) Q (F0 m 1743 ls [])) : W p l e room_1 s m #[Value.ref b] below meth c H locs cells slots Q (F0 m 228 ls []) := by
  obtain ⟨LP, kf, σ, ρ, μ, h, hPL, hA⟩ := hS
  refine lv_aload_n S.1 S.2.1 dL_law_228 rfl (lv_at hl 3 rfl) ?_
  refine r_scr (j := 1) S hx hb (by omega) hL (by omega) h hl dL_law_229 dL_law_230 dL_law_232 dL_law_233 dL_law_234 ?_
  refine k_c (run_e (mc' := 128) (ms' := 128) (va_runV (As := [.int (xs (i + 1))]) (rest := []) S (c_courtE (G := (D, C3, adc)) (A := va_A (WCl D C3 adc LP kf σ ρ) H.size) hPL hA) (cwV 1 S.2.2.2.2 (ul_V tw_1_221 tw_1_222 tw_1_223 tw_1_1 cw_X11_court) rfl rfl rfl hv_X11_court ⟨Nat.le_of_ble_eq_true rfl, Nat.le_of_ble_eq_true rfl⟩) ⟨PreM.blind, h.mc.recv (hK adc) cfX11 0 (by decide) ly_0, h.mc.pre (hK adc)⟩ rfl rfl hl.1 rfl (lv_room (Nat.le_of_ble_eq_true rfl)) dL_law_235 ⟨by show cells + 128 ≤ 601024; omega, by show slots + 128 ≤ 7293034; omega⟩) (by omega) (by omega) (fun _ _ h => h)) h (fun o w H locs hw h => ?_)
  obtain ⟨r, μ1, LP1, kf1, σ1, ρ1, e2, rfl, rfl, hPL1, -, hA1⟩ := hw
  show W _ _ _ _ _ _ _ _ _ _ _ _ _ _ _ (F0 m 238 ls [.int r])
  refine lv_aload_n S.1 S.2.1 dL_law_238 rfl (lv_at hl 2 rfl) ?_
  refine r_scr (j := 1) S hx hb (by omega) hL (by omega) h hl dL_law_239 dL_law_240 dL_law_242 dL_law_243 dL_law_244 ?_
  refine k_r (run_m (mc := 0) (ms := 0) (Rr := fun o w => o = some (.int r) ∧ w = WMo D C3 adm μ1) (va_runV (As := [.int (xs (i + 1))]) (rest := [.int r]) S (c_X12_court (g := (D, C3, adm)) (A := va_A (WMo D C3 adm μ) H.size) e2) (cwV 1 S.2.2.2.2 (ul_V tw_5_92 tw_5_93 tw_5_94 tw_1_12 cw_X12_court) rfl rfl rfl hv_X12_court ⟨Nat.le_of_ble_eq_true rfl, Nat.le_of_ble_eq_true rfl⟩) ⟨PreM.blind, h.mm.recv (hK adm) cfX12 0 (by decide) lm_0, h.mm.pre (hK adm)⟩ rfl rfl hl.1 rfl (lv_room (Nat.le_of_ble_eq_true rfl)) dL_law_245 ⟨by show cells + 128 + 0 ≤ 601024; omega, by show slots + 128 + 0 ≤ 7293034; omega⟩) ⟨rfl, rfl⟩) h (fun o w H locs hw h => ?_)
  obtain ⟨rfl, rfl⟩ := hw
  show W _ _ _ _ _ _ _ _ _ _ _ _ _ _ _ (F0 m 248 ls [.int r, .int r])
  refine lv_icmp_eq (tgt := 1743) S.1 S.2.1 dL_law_248 (by decide) (fun _ => ?_) (fun b => absurd rfl b)
  exact kk H locs ⟨LP1, kf1, σ1, ρ1, μ1, h, hPL1, hA1⟩
set_option maxRecDepth 20000 in
theorem w_law_keep (S : CallFix p m c cL_law 8 s #[Value.ref b] UL "SideBySideLaw") (hK : ∀ ad : Nat → Nat, KK (D, C3, ad) s) (hx : va_X b L xs s s.heap) (hb : b < s.heap.size) (hi : i + 6 ≤ L) (hL : L ≤ 3072) (hl : lv_has ls 8 [(4, .int (nI i)), (3, .ref bo), (2, .ref (adm 0)), (1, .ref (adc 0)), (0, .ref b)]) (hS : LSt s D C3 adc adm wo H locs) (hc : cells + 128 ≤ 601024) (hs : slots + 128 ≤ 7293034)
    (kk : ∀ (H1 : Heap) (locs1 : List Loc), LSt s D C3 adc adm wo H1 locs1 → W p l e room_1 s m #[Value.ref b] below meth c H1 locs1 (cells + 128) (slots + 128) Q (F0 m 1743 ls [])) : W p l e room_1 s m #[Value.ref b] below meth c H locs cells slots Q (F0 m 1394 ls []) := by
  obtain ⟨LP, kf, σ, ρ, μ, h, hPL, hA⟩ := hS
  refine lv_aload_n S.1 S.2.1 dL_law_1394 rfl (lv_at hl 3 rfl) ?_
  refine r_scr (j := 1) S hx hb (by omega) hL (by omega) h hl dL_law_1395 dL_law_1396 dL_law_1398 dL_law_1399 dL_law_1400 ?_
  refine r_scr (j := 2) S hx hb (by omega) hL (by omega) h hl dL_law_1401 dL_law_1402 dL_law_1404 dL_law_1405 dL_law_1406 ?_
  refine r_scr (j := 3) S hx hb (by omega) hL (by omega) h hl dL_law_1407 dL_law_1408 dL_law_1410 dL_law_1411 dL_law_1412 ?_
  refine r_scr (j := 4) S hx hb (by omega) hL (by omega) h hl dL_law_1413 dL_law_1414 dL_law_1416 dL_law_1417 dL_law_1418 ?_
  refine k_c (run_e (mc' := 128) (ms' := 128) (va_runV (As := [.int (xs (i + 1)), .int (xs (i + 2)), .int (xs (i + 3)), .int (xs (i + 4))]) (rest := []) S (c_keepE (G := (D, C3, adc)) (A := va_A (WCl D C3 adc LP kf σ ρ) H.size) hPL hA) (cwV 4 S.2.2.2.2 (ul_V tw_4_51 tw_4_52 tw_4_53 tw_1_1 cw_X11_keep) rfl rfl rfl hv_X11_keep ⟨Nat.le_of_ble_eq_true rfl, Nat.le_of_ble_eq_true rfl⟩) ⟨PreM.blind, h.mc.recv (hK adc) cfX11 0 (by decide) ly_0, h.mc.pre (hK adc)⟩ rfl rfl hl.1 rfl (lv_room (Nat.le_of_ble_eq_true rfl)) dL_law_1419 ⟨by show cells + 1 ≤ 601024; omega, by show slots + 1 ≤ 7293034; omega⟩) (by omega) (by omega) (fun _ _ h => h)) h (fun o w H locs hw h => ?_)
  obtain ⟨r, μ1, LP1, kf1, σ1, ρ1, e2, rfl, rfl, hPL1, -, hA1⟩ := hw
  show W _ _ _ _ _ _ _ _ _ _ _ _ _ _ _ (F0 m 1422 ls [.int r])
  refine lv_aload_n S.1 S.2.1 dL_law_1422 rfl (lv_at hl 2 rfl) ?_
  refine r_scr (j := 1) S hx hb (by omega) hL (by omega) h hl dL_law_1423 dL_law_1424 dL_law_1426 dL_law_1427 dL_law_1428 ?_
  refine r_scr (j := 2) S hx hb (by omega) hL (by omega) h hl dL_law_1429 dL_law_1430 dL_law_1432 dL_law_1433 dL_law_1434 ?_
  refine r_scr (j := 3) S hx hb (by omega) hL (by omega) h hl dL_law_1435 dL_law_1436 dL_law_1438 dL_law_1439 dL_law_1440 ?_
  refine r_scr (j := 4) S hx hb (by omega) hL (by omega) h hl dL_law_1441 dL_law_1442 dL_law_1444 dL_law_1445 dL_law_1446 ?_
  refine k_r (run_m (mc := 0) (ms := 0) (Rr := fun o w => o = some (.int r) ∧ w = WMo D C3 adm μ1) (va_runV (As := [.int (xs (i + 1)), .int (xs (i + 2)), .int (xs (i + 3)), .int (xs (i + 4))]) (rest := [.int r]) S (c_X12_keep (g := (D, C3, adm)) (A := va_A (WMo D C3 adm μ) H.size) e2) (cwV 4 S.2.2.2.2 (ul_V tw_6_194 tw_6_195 tw_6_196 tw_1_12 cw_X12_keep) rfl rfl rfl hv_X12_keep ⟨Nat.le_of_ble_eq_true rfl, Nat.le_of_ble_eq_true rfl⟩) ⟨PreM.blind, h.mm.recv (hK adm) cfX12 0 (by decide) lm_0, h.mm.pre (hK adm)⟩ rfl rfl hl.1 rfl (lv_room (Nat.le_of_ble_eq_true rfl)) dL_law_1447 ⟨by show cells + 128 + 0 ≤ 601024; omega, by show slots + 128 + 0 ≤ 7293034; omega⟩) ⟨rfl, rfl⟩) h (fun o w H locs hw h => ?_)
  obtain ⟨rfl, rfl⟩ := hw
  show W _ _ _ _ _ _ _ _ _ _ _ _ _ _ _ (F0 m 1450 ls [.int r, .int r])
  refine lv_icmp_eq (tgt := 1743) S.1 S.2.1 dL_law_1450 (by decide) (fun _ => ?_) (fun b => absurd rfl b)
  exact kk H locs ⟨LP1, kf1, σ1, ρ1, μ1, h, hPL1, hA1⟩
set_option maxRecDepth 20000 in
theorem w_law_toss (hst : l.stackTraces = false) (hX : XT (NewA s) s) (hN : va_Nc xIAE xUOE s ∧ va_Nc xISE xUOE s ∧ va_Nc xISE xIAE s) (S : CallFix p m c cL_law 8 s #[Value.ref b] UL "SideBySideLaw") (hK : ∀ ad : Nat → Nat, KK (D, C3, ad) s) (hx : va_X b L xs s s.heap) (hb : b < s.heap.size) (hi : i + 6 ≤ L) (hL : L ≤ 3072) (hl : lv_has ls 8 [(4, .int (nI i)), (3, .ref bo), (2, .ref (adm 0)), (1, .ref (adc 0)), (0, .ref b)]) (hS : LSt s D C3 adc adm wo H locs) (hc : cells + 128 ≤ 601024) (hs : slots + 128 ≤ 7293034)
    (kk : ∀ (H1 : Heap) (locs1 : List Loc), LSt s D C3 adc adm wo H1 locs1 → W p l e room_1 s m #[Value.ref b] below meth c H1 locs1 (cells + 128) (slots + 128) Q (F0 m 1743 ls [])) : W p l e room_1 s m #[Value.ref b] below meth c H locs cells slots Q (F0 m 1718 ls []) := by
  obtain ⟨LP, kf, σ, ρ, μ, h, hPL, hA⟩ := hS
  refine lv_aload_n S.1 S.2.1 dL_law_1718 rfl (lv_at hl 3 rfl) ?_
  refine r_scr (j := 1) S hx hb (by omega) hL (by omega) h hl dL_law_1719 dL_law_1720 dL_law_1722 dL_law_1723 dL_law_1724 ?_
  refine k_c (run_e (mc' := 128) (ms' := 128) (vx_runVW (As := [.int (xs (i + 1))]) (rest := []) S (c_tossE (g := (D, C3, adc)) (A := va_A (WCl D C3 adc LP kf σ ρ) H.size) (a1 := xs (i + 1)) hst hPL hA) (vx_cwVW (hh := [(23, 27, 30, 318), (23, 27, 41, 284), (23, 27, 51, 295)]) 1 S.2.2.2.2 (ul_VH tw_4_121 tw_4_122 tw_4_123 tw_1_1 tw_4_124) rfl rfl rfl (by decide +kernel) ⟨Nat.le_of_ble_eq_true rfl, Nat.le_of_ble_eq_true rfl⟩) ⟨PreT.blind, h.mc.recv (hK adc) cfX11 0 (by decide) ly_0, fun U hU hW => ⟨rfl, ⟨(h.mc.pre (av := []) (hK adc) U hU hW).2, XT.own hX h U hU hW⟩, hN.1.moved hW.alike, hN.2.1.moved hW.alike, hN.2.2.moved hW.alike⟩⟩ rfl rfl hl.1 rfl (lv_room (Nat.le_of_ble_eq_true rfl)) dL_law_1725 ⟨by show cells + 1 ≤ 601024; omega, by show slots + 6 ≤ 7293034; omega⟩) (by omega) (by omega) (fun _ _ h => h)) h (fun o w H locs hw h => ?_)
  obtain ⟨r, e2, rfl, rfl⟩ := hw
  show W _ _ _ _ _ _ _ _ _ _ _ _ _ _ _ (F0 m 1728 ls [.int r])
  refine lv_aload_n S.1 S.2.1 dL_law_1728 rfl (lv_at hl 2 rfl) ?_
  refine r_scr (j := 1) S hx hb (by omega) hL (by omega) h hl dL_law_1729 dL_law_1730 dL_law_1732 dL_law_1733 dL_law_1734 ?_
  refine k_r (run_p2 (g := (D, C3, adm)) (mc := 0) (ms := 0) (Rr := fun o w => o = some (.int r) ∧ w = WMo D C3 adm μ) (va_runV (As := [.int (xs (i + 1))]) (rest := [.int r]) S (c_X12_toss (g := (D, C3, adm)) (A := va_A (WMo D C3 adm μ) H.size) e2) (cwV 1 S.2.2.2.2 (ul_V tw_6_221 tw_6_222 tw_6_223 tw_1_12 cw_X12_toss) rfl rfl rfl hv_X12_toss ⟨Nat.le_of_ble_eq_true rfl, Nat.le_of_ble_eq_true rfl⟩) ⟨PreM.blind, h.mm.recv (hK adm) cfX12 0 (by decide) lm_0, h.mm.pre (hK adm)⟩ rfl rfl hl.1 rfl (lv_room (Nat.le_of_ble_eq_true rfl)) dL_law_1735 ⟨by show cells + 128 + 0 ≤ 601024; omega, by show slots + 128 + 0 ≤ 7293034; omega⟩) h.mm.1 h.mm.2.1 ⟨rfl, rfl⟩) h (fun o w H locs hw h => ?_)
  obtain ⟨rfl, rfl⟩ := hw
  show W _ _ _ _ _ _ _ _ _ _ _ _ _ _ _ (F0 m 1738 ls [.int r, .int r])
  refine lv_icmp_eq (tgt := 1743) S.1 S.2.1 dL_law_1738 (by decide) (fun _ => ?_) (fun b => absurd rfl b)
  exact kk H locs ⟨LP, kf, σ, ρ, μ, h, hPL, hA⟩
end RR
