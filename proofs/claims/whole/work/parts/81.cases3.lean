/-! the law's cases that answer a long -/
theorem cmp_self (r : Int64) : lg_cmp r r = 0 := by
  unfold lg_cmp
  simp
section RR
variable {p : Program} {l : Launch} {e : Env} {s : State} {m : MethodId} {below : List Frame} {meth : Method} {c : Code} {H : Heap} {locs : List Loc} {cells slots : Nat} {Q : State → Prop} {ls : Array Slot} {rest : List Value} {D : va_G} {C3 : Nat → ClassId} {adc adm : Nat → Nat} {wo : va_W} {b L i bo : Nat} {xs : Nat → Int32}
set_option maxRecDepth 20000 in
theorem w_law_draughts (S : CallFix p m c cL_law 8 s #[Value.ref b] UL "SideBySideLaw") (hK : ∀ ad : Nat → Nat, KK (D, C3, ad) s) (hx : va_X b L xs s s.heap) (hb : b < s.heap.size) (hi : i + 6 ≤ L) (hL : L ≤ 3072) (hl : lv_has ls 8 [(4, .int (nI i)), (3, .ref bo), (2, .ref (adm 0)), (1, .ref (adc 0)), (0, .ref b)]) (hS : LSt s D C3 adc adm wo H locs) (hc : cells + 128 ≤ 601024) (hs : slots + 128 ≤ 7293034)
    (kk : ∀ (H1 : Heap) (locs1 : List Loc), LSt s D C3 adc adm wo H1 locs1 → W p l e room_1 s m #[Value.ref b] below meth c H1 locs1 (cells + 128) (slots + 128) Q (F0 m 1743 ls [])) : W p l e room_1 s m #[Value.ref b] below meth c H locs cells slots Q (F0 m 1168 ls []) := by
  obtain ⟨LP, kf, σ, ρ, μ, h, hPL, hA⟩ := hS
  obtain ⟨r, σ1, ρ1, μ1, e1, e2, hA1⟩ := E_draughts hA (xs (i + 1)) (xs (i + 2)) (xs (i + 3))
  refine lv_aload_n S.1 S.2.1 dL_law_1168 rfl (lv_at hl 3 rfl) ?_
  refine r_scr (j := 1) S hx hb (by omega) hL (by omega) h hl dL_law_1169 dL_law_1170 dL_law_1172 dL_law_1173 dL_law_1174 ?_
  refine r_scr (j := 2) S hx hb (by omega) hL (by omega) h hl dL_law_1175 dL_law_1176 dL_law_1178 dL_law_1179 dL_law_1180 ?_
  refine r_scr (j := 3) S hx hb (by omega) hL (by omega) h hl dL_law_1181 dL_law_1182 dL_law_1184 dL_law_1185 dL_law_1186 ?_
  refine k_c (run_m (mc := 128) (ms := 128) (Rr := fun o w => o = some (.long r) ∧ w = WCl D C3 adc LP kf σ1 ρ1) (va_runV (As := [.int (xs (i + 1)), .int (xs (i + 2)), .int (xs (i + 3))]) (rest := []) S (c_X11_draughts (g := (D, C3, adc)) (A := va_A (WCl D C3 adc LP kf σ ρ) H.size) hPL e1) (cwV 3 S.2.2.2.2 (ul_V tw_3_220 tw_3_221 tw_3_222 tw_1_1 cw_X11_draughts) rfl rfl rfl hv_X11_draughts ⟨Nat.le_of_ble_eq_true rfl, Nat.le_of_ble_eq_true rfl⟩) ⟨PreM.blind, h.mc.recv (hK adc) cfX11 0 (by decide) ly_0, h.mc.pre (hK adc)⟩ rfl rfl hl.1 rfl (lv_room (Nat.le_of_ble_eq_true rfl)) dL_law_1187 ⟨by show cells + 0 ≤ 601024; omega, by show slots + 0 ≤ 7293034; omega⟩) ⟨rfl, rfl⟩) h (fun o w H locs hw h => ?_)
  obtain ⟨rfl, rfl⟩ := hw
  show W _ _ _ _ _ _ _ _ _ _ _ _ _ _ _ (F0 m 1190 ls [.long r])
  refine lv_aload_n S.1 S.2.1 dL_law_1190 rfl (lv_at hl 2 rfl) ?_
  refine r_scr (j := 1) S hx hb (by omega) hL (by omega) h hl dL_law_1191 dL_law_1192 dL_law_1194 dL_law_1195 dL_law_1196 ?_
  refine r_scr (j := 2) S hx hb (by omega) hL (by omega) h hl dL_law_1197 dL_law_1198 dL_law_1200 dL_law_1201 dL_law_1202 ?_
  refine r_scr (j := 3) S hx hb (by omega) hL (by omega) h hl dL_law_1203 dL_law_1204 dL_law_1206 dL_law_1207 dL_law_1208 ?_
  refine k_r (run_m (mc := 0) (ms := 0) (Rr := fun o w => o = some (.long r) ∧ w = WMo D C3 adm μ1) (va_runV (As := [.int (xs (i + 1)), .int (xs (i + 2)), .int (xs (i + 3))]) (rest := [.long r]) S (c_X12_draughts (g := (D, C3, adm)) (A := va_A (WMo D C3 adm μ) H.size) e2) (cwV 3 S.2.2.2.2 (ul_V tw_6_132 tw_6_133 tw_6_134 tw_1_12 cw_X12_draughts) rfl rfl rfl hv_X12_draughts ⟨Nat.le_of_ble_eq_true rfl, Nat.le_of_ble_eq_true rfl⟩) ⟨PreM.blind, h.mm.recv (hK adm) cfX12 0 (by decide) lm_0, h.mm.pre (hK adm)⟩ rfl rfl hl.1 rfl (lv_room (Nat.le_of_ble_eq_true rfl)) dL_law_1209 ⟨by show cells + 128 + 0 ≤ 601024; omega, by show slots + 128 + 0 ≤ 7293034; omega⟩) ⟨rfl, rfl⟩) h (fun o w H locs hw h => ?_)
  obtain ⟨rfl, rfl⟩ := hw
  show W _ _ _ _ _ _ _ _ _ _ _ _ _ _ _ (F0 m 1212 ls [.long r, .long r])
  refine W.lcmp S.1 S.2.1 dL_law_1212 ?_
  rw [cmp_self]
  refine lv_if_eq (tgt := 1743) S.1 S.2.1 dL_law_1213 (by decide) (fun _ => ?_) (fun b => absurd rfl b)
  exact kk H locs ⟨LP, kf, σ1, ρ1, μ1, h, hPL, hA1⟩
set_option maxRecDepth 20000 in
theorem w_law_mean (S : CallFix p m c cL_law 8 s #[Value.ref b] UL "SideBySideLaw") (hK : ∀ ad : Nat → Nat, KK (D, C3, ad) s) (hx : va_X b L xs s s.heap) (hb : b < s.heap.size) (hi : i + 6 ≤ L) (hL : L ≤ 3072) (hl : lv_has ls 8 [(4, .int (nI i)), (3, .ref bo), (2, .ref (adm 0)), (1, .ref (adc 0)), (0, .ref b)]) (hS : LSt s D C3 adc adm wo H locs) (hc : cells + 128 ≤ 601024) (hs : slots + 128 ≤ 7293034)
    (kk : ∀ (H1 : Heap) (locs1 : List Loc), LSt s D C3 adc adm wo H1 locs1 → W p l e room_1 s m #[Value.ref b] below meth c H1 locs1 (cells + 128) (slots + 128) Q (F0 m 1743 ls [])) : W p l e room_1 s m #[Value.ref b] below meth c H locs cells slots Q (F0 m 1218 ls []) := by
  obtain ⟨LP, kf, σ, ρ, μ, h, hPL, hA⟩ := hS
  obtain ⟨f0, hf⟩ := hA.1
  obtain ⟨r, e1, e2⟩ := E_mean hf (xs (i + 1))
  refine lv_aload_n S.1 S.2.1 dL_law_1218 rfl (lv_at hl 3 rfl) ?_
  refine r_scr (j := 1) S hx hb (by omega) hL (by omega) h hl dL_law_1219 dL_law_1220 dL_law_1222 dL_law_1223 dL_law_1224 ?_
  refine k_c (run_p2 (g := (D, C3, adc)) (mc := 128) (ms := 128) (Rr := fun o w => o = some (.long r) ∧ w = WCl D C3 adc LP kf σ ρ) (va_runV (As := [.int (xs (i + 1))]) (rest := []) S (c_X11_mean (g := (D, C3, adc)) (A := va_A (WCl D C3 adc LP kf σ ρ) H.size) hPL e1) (cwV 1 S.2.2.2.2 (ul_V tw_4_7 tw_4_8 tw_4_9 tw_1_1 cw_X11_mean) rfl rfl rfl hv_X11_mean ⟨Nat.le_of_ble_eq_true rfl, Nat.le_of_ble_eq_true rfl⟩) ⟨PreM.blind, h.mc.recv (hK adc) cfX11 0 (by decide) ly_0, h.mc.pre (hK adc)⟩ rfl rfl hl.1 rfl (lv_room (Nat.le_of_ble_eq_true rfl)) dL_law_1225 ⟨by show cells + 0 ≤ 601024; omega, by show slots + 0 ≤ 7293034; omega⟩) h.mc.1 h.mc.2.1 ⟨rfl, rfl⟩) h (fun o w H locs hw h => ?_)
  obtain ⟨rfl, rfl⟩ := hw
  show W _ _ _ _ _ _ _ _ _ _ _ _ _ _ _ (F0 m 1228 ls [.long r])
  refine lv_aload_n S.1 S.2.1 dL_law_1228 rfl (lv_at hl 2 rfl) ?_
  refine r_scr (j := 1) S hx hb (by omega) hL (by omega) h hl dL_law_1229 dL_law_1230 dL_law_1232 dL_law_1233 dL_law_1234 ?_
  refine k_r (run_p2 (g := (D, C3, adm)) (mc := 0) (ms := 0) (Rr := fun o w => o = some (.long r) ∧ w = WMo D C3 adm μ) (va_runV (As := [.int (xs (i + 1))]) (rest := [.long r]) S (c_X12_mean (g := (D, C3, adm)) (A := va_A (WMo D C3 adm μ) H.size) e2) (cwV 1 S.2.2.2.2 (ul_V tw_6_150 tw_6_151 tw_6_152 tw_1_12 cw_X12_mean) rfl rfl rfl hv_X12_mean ⟨Nat.le_of_ble_eq_true rfl, Nat.le_of_ble_eq_true rfl⟩) ⟨PreM.blind, h.mm.recv (hK adm) cfX12 0 (by decide) lm_0, h.mm.pre (hK adm)⟩ rfl rfl hl.1 rfl (lv_room (Nat.le_of_ble_eq_true rfl)) dL_law_1235 ⟨by show cells + 128 + 0 ≤ 601024; omega, by show slots + 128 + 0 ≤ 7293034; omega⟩) h.mm.1 h.mm.2.1 ⟨rfl, rfl⟩) h (fun o w H locs hw h => ?_)
  obtain ⟨rfl, rfl⟩ := hw
  show W _ _ _ _ _ _ _ _ _ _ _ _ _ _ _ (F0 m 1238 ls [.long r, .long r])
  refine W.lcmp S.1 S.2.1 dL_law_1238 ?_
  rw [cmp_self]
  refine lv_if_eq (tgt := 1743) S.1 S.2.1 dL_law_1239 (by decide) (fun _ => ?_) (fun b => absurd rfl b)
  exact kk H locs ⟨LP, kf, σ, ρ, μ, h, hPL, hA⟩
end RR
