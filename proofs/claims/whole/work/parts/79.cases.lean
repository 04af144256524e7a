/-! the law's cases -/
abbrev LSt (s : State) (D : va_G) (C3 : Nat → ClassId) (adc adm : Nat → Nat) (wo : va_W) (H : Heap) (locs : List Loc) : Prop := ∃ (LP : List Nat) (kf : KF) (σ : IM) (ρ : RM) (μ : IM), LW s D (WCl D C3 adc LP kf σ ρ) (WMo D C3 adm μ) wo H locs ∧ PL LP kf ∧ All σ ρ kf μ
theorem run_p2 {p : Program} {l : Launch} {e : Env} {R : Room} {s : State} {m : MethodId} {args : Array Value} {below : List Frame} {meth : Method} {c : Code} {H : Heap} {locs : List Loc} {cells slots : Nat} {rest : List Value} {gf : JFrame} {a : Array Value} {g : GE} {A : Nat → Prop} {Rr : Option Value → va_W → Prop} {v : Option Value} {ws : va_W} {mc ms : Nat} (h : va_Run p l e R s m args below meth c H locs cells slots 0 0 gf rest (Qp v a) NoA) (hP : va_P g.1 vwCl ws H) (hD : va_D A ws) (hR : Rr v ws) : va_Run p l e R s m args below meth c H locs cells slots mc ms gf rest (QE g A Rr a) A := by
  intro T hT X1
  obtain ⟨w, st₀, t, T', L, h0, X2, hL, e1, e2, ⟨hv, hh⟩, st⟩ := h T hT X1
  exact ⟨w, st₀, t, T', L, h0, stand_widen X2 (by omega) (by omega), fun q hq => (hL q hq).elim, e1, e2, ⟨v, ws, hR, hv, by rw [hh, h0]; exact hP, hD, ⟨by rw [hh]; exact Nat.le_refl _, fun q _ _ => by rw [hh]⟩⟩, st⟩
section RR
variable {p : Program} {l : Launch} {e : Env} {s : State} {m : MethodId} {below : List Frame} {meth : Method} {c : Code} {H : Heap} {locs : List Loc} {cells slots : Nat} {Q : State → Prop} {ls : Array Slot} {rest : List Value} {D : va_G} {C3 : Nat → ClassId} {adc adm : Nat → Nat} {wo : va_W} {b L i bo : Nat} {xs : Nat → Int32}
theorem r_scr {pc j : Nat} (S : CallFix p m c cL_law 8 s #[Value.ref b] UL "SideBySideLaw") (hx : va_X b L xs s s.heap) (hb : b < s.heap.size) (hij : i + j < L) (hL : L ≤ 3072) (hj : j < 6) {wc wm : va_W} (h : LW s D wc wm wo H locs) (hl : lv_has ls 8 [(4, .int (nI i)), (3, .ref bo), (2, .ref (adm 0)), (1, .ref (adc 0)), (0, .ref b)])
    (d0 : decode cL_law pc = .ok (.aload_n 0, 1)) (d1 : decode cL_law (pc + 1) = .ok (.iload 4, 2)) (d2 : decode cL_law (pc + 1 + 2) = .ok (.iconst (nI j).toInt, 1)) (d3 : decode cL_law (pc + 1 + 2 + 1) = .ok (.iadd, 1)) (d4 : decode cL_law (pc + 1 + 2 + 1 + 1) = .ok (.iaload, 1))
    (kk : W p l e room_1 s m #[Value.ref b] below meth c H locs cells slots Q (F0 m (pc + 6) ls (.int (xs (i + j)) :: rest))) : W p l e room_1 s m #[Value.ref b] below meth c H locs cells slots Q (F0 m pc ls rest) := by
  refine lv_aload_n S.1 S.2.1 d0 rfl (lv_at hl 4 rfl) ?_
  refine lv_iload S.1 S.2.1 d1 (lv_at hl 0 rfl) ?_
  refine lv_iconst (v := nI j) S.1 S.2.1 d2 (Int32.ofInt_toInt _) ?_
  refine lv_iadd S.1 S.2.1 d3 ?_
  rw [nI_add]
  have e : i + j = (nI (i + j)).toNatClampNeg := by
    show i + j = (nI (i + j)).toInt.toNat
    rw [nI_toInt (by omega)]
    rfl
  refine va_sld S.1 S.2.1 hx hb (A := NewA s) (fun q => absurd hb (Nat.not_lt.mpr q)) h.2.2.2.2.2.2.2.2.2 (fun q => ?_) d4 ?_
  · rcases q with q | q
    · exact nI_pos (by omega) q
    · rw [← e] at q
      omega
  · rw [← e]
    exact kk
set_option maxRecDepth 20000 in
theorem w_law_stroke (S : CallFix p m c cL_law 8 s #[Value.ref b] UL "SideBySideLaw") (hK : ∀ ad : Nat → Nat, KK (D, C3, ad) s) (hx : va_X b L xs s s.heap) (hb : b < s.heap.size) (hi : i + 6 ≤ L) (hL : L ≤ 3072) (hl : lv_has ls 8 [(4, .int (nI i)), (3, .ref bo), (2, .ref (adm 0)), (1, .ref (adc 0)), (0, .ref b)]) (hS : LSt s D C3 adc adm wo H locs) (hc : cells + 128 ≤ 601024) (hs : slots + 128 ≤ 7293034)
    (kk : ∀ (H1 : Heap) (locs1 : List Loc), LSt s D C3 adc adm wo H1 locs1 → W p l e room_1 s m #[Value.ref b] below meth c H1 locs1 (cells + 128) (slots + 128) Q (F0 m 1743 ls [])) : W p l e room_1 s m #[Value.ref b] below meth c H locs cells slots Q (F0 m 253 ls []) := by
  obtain ⟨LP, kf, σ, ρ, μ, h, hPL, hA⟩ := hS
  obtain ⟨f0, hf⟩ := hA.1
  obtain ⟨r, e1, e2⟩ : ∃ r, X11_stroke kf σ ρ (xs (i + 1)) (xs (i + 2)) = some r ∧ X12_stroke μ (xs (i + 1)) (xs (i + 2)) = some r := E_stroke hf (xs (i + 1)) (xs (i + 2))
  refine lv_aload_n S.1 S.2.1 dL_law_253 rfl (lv_at hl 3 rfl) ?_
  refine r_scr (j := 1) S hx hb (by omega) hL (by omega) h hl dL_law_254 dL_law_255 dL_law_257 dL_law_258 dL_law_259 ?_
  refine r_scr (j := 2) S hx hb (by omega) hL (by omega) h hl dL_law_260 dL_law_261 dL_law_263 dL_law_264 dL_law_265 ?_
  refine k_c (run_p2 (g := (D, C3, adc)) (mc := 128) (ms := 128) (Rr := fun o w => o = some (.int r) ∧ w = WCl D C3 adc LP kf σ ρ) (va_runV (As := [.int (xs (i + 1)), .int (xs (i + 2))]) (rest := []) S (c_X11_stroke (g := (D, C3, adc)) (A := va_A (WCl D C3 adc LP kf σ ρ) H.size) hPL e1) (cwV 2 S.2.2.2.2 (ul_V tw_2_208 tw_2_209 tw_2_210 tw_1_1 cw_X11_stroke) rfl rfl rfl hv_X11_stroke ⟨Nat.le_of_ble_eq_true rfl, Nat.le_of_ble_eq_true rfl⟩) ⟨PreM.blind, h.mc.recv (hK adc) cfX11 0 (by decide) ly_0, h.mc.pre (hK adc)⟩ rfl rfl hl.1 rfl (lv_room (Nat.le_of_ble_eq_true rfl)) dL_law_266 ⟨by show cells + 0 ≤ 601024; omega, by show slots + 0 ≤ 7293034; omega⟩) h.mc.1 h.mc.2.1 ⟨rfl, rfl⟩) h (fun o w H locs hw h => ?_)
  obtain ⟨rfl, rfl⟩ := hw
  show W _ _ _ _ _ _ _ _ _ _ _ _ _ _ _ (F0 m 269 ls [.int r])
  refine lv_aload_n S.1 S.2.1 dL_law_269 rfl (lv_at hl 2 rfl) ?_
  refine r_scr (j := 1) S hx hb (by omega) hL (by omega) h hl dL_law_270 dL_law_271 dL_law_273 dL_law_274 dL_law_275 ?_
  refine r_scr (j := 2) S hx hb (by omega) hL (by omega) h hl dL_law_276 dL_law_277 dL_law_279 dL_law_280 dL_law_281 ?_
  refine k_r (run_p2 (g := (D, C3, adm)) (mc := 0) (ms := 0) (Rr := fun o w => o = some (.int r) ∧ w = WMo D C3 adm μ) (va_runV (As := [.int (xs (i + 1)), .int (xs (i + 2))]) (rest := [.int r]) S (c_X12_stroke (g := (D, C3, adm)) (A := va_A (WMo D C3 adm μ) H.size) e2) (cwV 2 S.2.2.2.2 (ul_V tw_5_199 tw_5_200 tw_5_201 tw_1_12 cw_X12_stroke) rfl rfl rfl hv_X12_stroke ⟨Nat.le_of_ble_eq_true rfl, Nat.le_of_ble_eq_true rfl⟩) ⟨PreM.blind, h.mm.recv (hK adm) cfX12 0 (by decide) lm_0, h.mm.pre (hK adm)⟩ rfl rfl hl.1 rfl (lv_room (Nat.le_of_ble_eq_true rfl)) dL_law_282 ⟨by show cells + 128 + 0 ≤ 601024; omega, by show slots + 128 + 0 ≤ 7293034; omega⟩) h.mm.1 h.mm.2.1 ⟨rfl, rfl⟩) h (fun o w H locs hw h => ?_)
  obtain ⟨rfl, rfl⟩ := hw
  show W _ _ _ _ _ _ _ _ _ _ _ _ _ _ _ (F0 m 285 ls [.int r, .int r])
  refine lv_icmp_eq (tgt := 1743) S.1 S.2.1 dL_law_285 (by decide) (fun _ => ?_) (fun b => absurd rfl b)
  exact kk H locs ⟨LP, kf, σ, ρ, μ, h, hPL, hA⟩
set_option maxRecDepth 20000 in
theorem w_law_player (S : CallFix p m c cL_law 8 s #[Value.ref b] UL "SideBySideLaw") (hK : ∀ ad : Nat → Nat, KK (D, C3, ad) s) (hx : va_X b L xs s s.heap) (hb : b < s.heap.size) (hi : i + 6 ≤ L) (hL : L ≤ 3072) (hl : lv_has ls 8 [(4, .int (nI i)), (3, .ref bo), (2, .ref (adm 0)), (1, .ref (adc 0)), (0, .ref b)]) (hS : LSt s D C3 adc adm wo H locs) (hc : cells + 128 ≤ 601024) (hs : slots + 128 ≤ 7293034)
    (kk : ∀ (H1 : Heap) (locs1 : List Loc), LSt s D C3 adc adm wo H1 locs1 → W p l e room_1 s m #[Value.ref b] below meth c H1 locs1 (cells + 128) (slots + 128) Q (F0 m 1743 ls [])) : W p l e room_1 s m #[Value.ref b] below meth c H locs cells slots Q (F0 m 290 ls []) := by
  obtain ⟨LP, kf, σ, ρ, μ, h, hPL, hA⟩ := hS
  obtain ⟨f0, hf⟩ := hA.1
  obtain ⟨r, e1, e2⟩ : ∃ r, X11_player kf σ ρ (xs (i + 1)) (xs (i + 2)) = some r ∧ X12_player μ (xs (i + 1)) (xs (i + 2)) = some r := E_player hf (xs (i + 1)) (xs (i + 2))
  refine lv_aload_n S.1 S.2.1 dL_law_290 rfl (lv_at hl 3 rfl) ?_
  refine r_scr (j := 1) S hx hb (by omega) hL (by omega) h hl dL_law_291 dL_law_292 dL_law_294 dL_law_295 dL_law_296 ?_
  refine r_scr (j := 2) S hx hb (by omega) hL (by omega) h hl dL_law_297 dL_law_298 dL_law_300 dL_law_301 dL_law_302 ?_
  refine k_c (run_p2 (g := (D, C3, adc)) (mc := 128) (ms := 128) (Rr := fun o w => o = some (.int r) ∧ w = WCl D C3 adc LP kf σ ρ) (va_runV (As := [.int (xs (i + 1)), .int (xs (i + 2))]) (rest := []) S (c_X11_player (g := (D, C3, adc)) (A := va_A (WCl D C3 adc LP kf σ ρ) H.size) hPL e1) (cwV 2 S.2.2.2.2 (ul_V tw_3_1 tw_3_2 tw_3_3 tw_1_1 cw_X11_player) rfl rfl rfl hv_X11_player ⟨Nat.le_of_ble_eq_true rfl, Nat.le_of_ble_eq_true rfl⟩) ⟨PreM.blind, h.mc.recv (hK adc) cfX11 0 (by decide) ly_0, h.mc.pre (hK adc)⟩ rfl rfl hl.1 rfl (lv_room (Nat.le_of_ble_eq_true rfl)) dL_law_303 ⟨by show cells + 0 ≤ 601024; omega, by show slots + 0 ≤ 7293034; omega⟩) h.mc.1 h.mc.2.1 ⟨rfl, rfl⟩) h (fun o w H locs hw h => ?_)
  obtain ⟨rfl, rfl⟩ := hw
  show W _ _ _ _ _ _ _ _ _ _ _ _ _ _ _ (F0 m 306 ls [.int r])
  refine lv_aload_n S.1 S.2.1 dL_law_306 rfl (lv_at hl 2 rfl) ?_
  refine r_scr (j := 1) S hx hb (by omega) hL (by omega) h hl dL_law_307 dL_law_308 dL_law_310 dL_law_311 dL_law_312 ?_
  refine r_scr (j := 2) S hx hb (by omega) hL (by omega) h hl dL_law_313 dL_law_314 dL_law_316 dL_law_317 dL_law_318 ?_
  refine k_r (run_p2 (g := (D, C3, adm)) (mc := 0) (ms := 0) (Rr := fun o w => o = some (.int r) ∧ w = WMo D C3 adm μ) (va_runV (As := [.int (xs (i + 1)), .int (xs (i + 2))]) (rest := [.int r]) S (c_X12_player (g := (D, C3, adm)) (A := va_A (WMo D C3 adm μ) H.size) e2) (cwV 2 S.2.2.2.2 (ul_V tw_5_203 tw_5_204 tw_5_205 tw_1_12 cw_X12_player) rfl rfl rfl hv_X12_player ⟨Nat.le_of_ble_eq_true rfl, Nat.le_of_ble_eq_true rfl⟩) ⟨PreM.blind, h.mm.recv (hK adm) cfX12 0 (by decide) lm_0, h.mm.pre (hK adm)⟩ rfl rfl hl.1 rfl (lv_room (Nat.le_of_ble_eq_true rfl)) dL_law_319 ⟨by show cells + 128 + 0 ≤ 601024; omega, by show slots + 128 + 0 ≤ 7293034; omega⟩) h.mm.1 h.mm.2.1 ⟨rfl, rfl⟩) h (fun o w H locs hw h => ?_)
  obtain ⟨rfl, rfl⟩ := hw
  show W _ _ _ _ _ _ _ _ _ _ _ _ _ _ _ (F0 m 322 ls [.int r, .int r])
  refine lv_icmp_eq (tgt := 1743) S.1 S.2.1 dL_law_322 (by decide) (fun _ => ?_) (fun b => absurd rfl b)
  exact kk H locs ⟨LP, kf, σ, ρ, μ, h, hPL, hA⟩
set_option maxRecDepth 20000 in
theorem w_law_side (S : CallFix p m c cL_law 8 s #[Value.ref b] UL "SideBySideLaw") (hK : ∀ ad : Nat → Nat, KK (D, C3, ad) s) (hx : va_X b L xs s s.heap) (hb : b < s.heap.size) (hi : i + 6 ≤ L) (hL : L ≤ 3072) (hl : lv_has ls 8 [(4, .int (nI i)), (3, .ref bo), (2, .ref (adm 0)), (1, .ref (adc 0)), (0, .ref b)]) (hS : LSt s D C3 adc adm wo H locs) (hc : cells + 128 ≤ 601024) (hs : slots + 128 ≤ 7293034)
    (kk : ∀ (H1 : Heap) (locs1 : List Loc), LSt s D C3 adc adm wo H1 locs1 → W p l e room_1 s m #[Value.ref b] below meth c H1 locs1 (cells + 128) (slots + 128) Q (F0 m 1743 ls [])) : W p l e room_1 s m #[Value.ref b] below meth c H locs cells slots Q (F0 m 327 ls []) := by
  obtain ⟨LP, kf, σ, ρ, μ, h, hPL, hA⟩ := hS
  obtain ⟨f0, hf⟩ := hA.1
  obtain ⟨r, e1, e2⟩ : ∃ r, X11_side kf σ ρ (xs (i + 1)) (xs (i + 2)) = some r ∧ X12_side μ (xs (i + 1)) (xs (i + 2)) = some r := E_side hf (xs (i + 1)) (xs (i + 2))
  refine lv_aload_n S.1 S.2.1 dL_law_327 rfl (lv_at hl 3 rfl) ?_
  refine r_scr (j := 1) S hx hb (by omega) hL (by omega) h hl dL_law_328 dL_law_329 dL_law_331 dL_law_332 dL_law_333 ?_
  refine r_scr (j := 2) S hx hb (by omega) hL (by omega) h hl dL_law_334 dL_law_335 dL_law_337 dL_law_338 dL_law_339 ?_
  refine k_c (run_p2 (g := (D, C3, adc)) (mc := 128) (ms := 128) (Rr := fun o w => o = some (.int r) ∧ w = WCl D C3 adc LP kf σ ρ) (va_runV (As := [.int (xs (i + 1)), .int (xs (i + 2))]) (rest := []) S (c_X11_side (g := (D, C3, adc)) (A := va_A (WCl D C3 adc LP kf σ ρ) H.size) hPL e1) (cwV 2 S.2.2.2.2 (ul_V tw_3_6 tw_3_7 tw_3_8 tw_1_1 cw_X11_side) rfl rfl rfl hv_X11_side ⟨Nat.le_of_ble_eq_true rfl, Nat.le_of_ble_eq_true rfl⟩) ⟨PreM.blind, h.mc.recv (hK adc) cfX11 0 (by decide) ly_0, h.mc.pre (hK adc)⟩ rfl rfl hl.1 rfl (lv_room (Nat.le_of_ble_eq_true rfl)) dL_law_340 ⟨by show cells + 0 ≤ 601024; omega, by show slots + 0 ≤ 7293034; omega⟩) h.mc.1 h.mc.2.1 ⟨rfl, rfl⟩) h (fun o w H locs hw h => ?_)
  obtain ⟨rfl, rfl⟩ := hw
  show W _ _ _ _ _ _ _ _ _ _ _ _ _ _ _ (F0 m 343 ls [.int r])
  refine lv_aload_n S.1 S.2.1 dL_law_343 rfl (lv_at hl 2 rfl) ?_
  refine r_scr (j := 1) S hx hb (by omega) hL (by omega) h hl dL_law_344 dL_law_345 dL_law_347 dL_law_348 dL_law_349 ?_
  refine r_scr (j := 2) S hx hb (by omega) hL (by omega) h hl dL_law_350 dL_law_351 dL_law_353 dL_law_354 dL_law_355 ?_
  refine k_r (run_p2 (g := (D, C3, adm)) (mc := 0) (ms := 0) (Rr := fun o w => o = some (.int r) ∧ w = WMo D C3 adm μ) (va_runV (As := [.int (xs (i + 1)), .int (xs (i + 2))]) (rest := [.int r]) S (c_X12_side (g := (D, C3, adm)) (A := va_A (WMo D C3 adm μ) H.size) e2) (cwV 2 S.2.2.2.2 (ul_V tw_5_207 tw_5_208 tw_5_209 tw_1_12 cw_X12_side) rfl rfl rfl hv_X12_side ⟨Nat.le_of_ble_eq_true rfl, Nat.le_of_ble_eq_true rfl⟩) ⟨PreM.blind, h.mm.recv (hK adm) cfX12 0 (by decide) lm_0, h.mm.pre (hK adm)⟩ rfl rfl hl.1 rfl (lv_room (Nat.le_of_ble_eq_true rfl)) dL_law_356 ⟨by show cells + 128 + 0 ≤ 601024; omega, by show slots + 128 + 0 ≤ 7293034; omega⟩) h.mm.1 h.mm.2.1 ⟨rfl, rfl⟩) h (fun o w H locs hw h => ?_)
  obtain ⟨rfl, rfl⟩ := hw
  show W _ _ _ _ _ _ _ _ _ _ _ _ _ _ _ (F0 m 359 ls [.int r, .int r])
  refine lv_icmp_eq (tgt := 1743) S.1 S.2.1 dL_law_359 (by decide) (fun _ => ?_) (fun b => absurd rfl b)
  exact kk H locs ⟨LP, kf, σ, ρ, μ, h, hPL, hA⟩
set_option maxRecDepth 20000 in
theorem w_law_learns (S : CallFix p m c cL_law 8 s #[Value.ref b] UL "SideBySideLaw") (hK : ∀ ad : Nat → Nat, KK (D, C3, ad) s) (hx : va_X b L xs s s.heap) (hb : b < s.heap.size) (hi : i + 6 ≤ L) (hL : L ≤ 3072) (hl : lv_has ls 8 [(4, .int (nI i)), (3, .ref bo), (2, .ref (adm 0)), (1, .ref (adc 0)), (0, .ref b)]) (hS : LSt s D C3 adc adm wo H locs) (hc : cells + 128 ≤ 601024) (hs : slots + 128 ≤ 7293034)
    (kk : ∀ (H1 : Heap) (locs1 : List Loc), LSt s D C3 adc adm wo H1 locs1 → W p l e room_1 s m #[Value.ref b] below meth c H1 locs1 (cells + 128) (slots + 128) Q (F0 m 1743 ls [])) : W p l e room_1 s m #[Value.ref b] below meth c H locs cells slots Q (F0 m 364 ls []) := by
  obtain ⟨LP, kf, σ, ρ, μ, h, hPL, hA⟩ := hS
  obtain ⟨r, σ1, ρ1, μ1, e1, e2, hA1⟩ : ∃ r σ1 ρ1 μ1, X11_learns kf σ ρ (xs (i + 1)) = some (r, σ1, ρ1) ∧ X12_learns μ (xs (i + 1)) = some (r, μ1) ∧ All σ1 ρ1 kf μ1 := E_learns hA (xs (i + 1))
  refine lv_aload_n S.1 S.2.1 dL_law_364 rfl (lv_at hl 3 rfl) ?_
  refine r_scr (j := 1) S hx hb (by omega) hL (by omega) h hl dL_law_365 dL_law_366 dL_law_368 dL_law_369 dL_law_370 ?_
  refine k_c (run_m (mc := 128) (ms := 128) (Rr := fun o w => o = some (.int r) ∧ w = WCl D C3 adc LP kf σ1 ρ1) (va_runV (As := [.int (xs (i + 1))]) (rest := []) S (c_X11_learns (g := (D, C3, adc)) (A := va_A (WCl D C3 adc LP kf σ ρ) H.size) hPL e1) (cwV 1 S.2.2.2.2 (ul_V tw_3_14 tw_3_15 tw_3_16 tw_1_1 cw_X11_learns) rfl rfl rfl hv_X11_learns ⟨Nat.le_of_ble_eq_true rfl, Nat.le_of_ble_eq_true rfl⟩) ⟨PreM.blind, h.mc.recv (hK adc) cfX11 0 (by decide) ly_0, h.mc.pre (hK adc)⟩ rfl rfl hl.1 rfl (lv_room (Nat.le_of_ble_eq_true rfl)) dL_law_371 ⟨by show cells + 0 ≤ 601024; omega, by show slots + 0 ≤ 7293034; omega⟩) ⟨rfl, rfl⟩) h (fun o w H locs hw h => ?_)
  obtain ⟨rfl, rfl⟩ := hw
  show W _ _ _ _ _ _ _ _ _ _ _ _ _ _ _ (F0 m 374 ls [.int r])
  refine lv_aload_n S.1 S.2.1 dL_law_374 rfl (lv_at hl 2 rfl) ?_
  refine r_scr (j := 1) S hx hb (by omega) hL (by omega) h hl dL_law_375 dL_law_376 dL_law_378 dL_law_379 dL_law_380 ?_
  refine k_r (run_m (mc := 0) (ms := 0) (Rr := fun o w => o = some (.int r) ∧ w = WMo D C3 adm μ1) (va_runV (As := [.int (xs (i + 1))]) (rest := [.int r]) S (c_X12_learns (g := (D, C3, adm)) (A := va_A (WMo D C3 adm μ) H.size) e2) (cwV 1 S.2.2.2.2 (ul_V tw_5_215 tw_5_216 tw_5_217 tw_1_12 cw_X12_learns) rfl rfl rfl hv_X12_learns ⟨Nat.le_of_ble_eq_true rfl, Nat.le_of_ble_eq_true rfl⟩) ⟨PreM.blind, h.mm.recv (hK adm) cfX12 0 (by decide) lm_0, h.mm.pre (hK adm)⟩ rfl rfl hl.1 rfl (lv_room (Nat.le_of_ble_eq_true rfl)) dL_law_381 ⟨by show cells + 128 + 0 ≤ 601024; omega, by show slots + 128 + 0 ≤ 7293034; omega⟩) ⟨rfl, rfl⟩) h (fun o w H locs hw h => ?_)
  obtain ⟨rfl, rfl⟩ := hw
  show W _ _ _ _ _ _ _ _ _ _ _ _ _ _ _ (F0 m 384 ls [.int r, .int r])
  refine lv_icmp_eq (tgt := 1743) S.1 S.2.1 dL_law_384 (by decide) (fun _ => ?_) (fun b => absurd rfl b)
  exact kk H locs ⟨LP, kf, σ1, ρ1, μ1, h, hPL, hA1⟩
set_option maxRecDepth 20000 in
theorem w_law_stands (S : CallFix p m c cL_law 8 s #[Value.ref b] UL "SideBySideLaw") (hK : ∀ ad : Nat → Nat, KK (D, C3, ad) s) (hx : va_X b L xs s s.heap) (hb : b < s.heap.size) (hi : i + 6 ≤ L) (hL : L ≤ 3072) (hl : lv_has ls 8 [(4, .int (nI i)), (3, .ref bo), (2, .ref (adm 0)), (1, .ref (adc 0)), (0, .ref b)]) (hS : LSt s D C3 adc adm wo H locs) (hc : cells + 128 ≤ 601024) (hs : slots + 128 ≤ 7293034)
    (kk : ∀ (H1 : Heap) (locs1 : List Loc), LSt s D C3 adc adm wo H1 locs1 → W p l e room_1 s m #[Value.ref b] below meth c H1 locs1 (cells + 128) (slots + 128) Q (F0 m 1743 ls [])) : W p l e room_1 s m #[Value.ref b] below meth c H locs cells slots Q (F0 m 389 ls []) := by
  obtain ⟨LP, kf, σ, ρ, μ, h, hPL, hA⟩ := hS
  obtain ⟨r, σ1, ρ1, μ1, e1, e2, hA1⟩ : ∃ r σ1 ρ1 μ1, X11_stands kf σ ρ (xs (i + 1)) (xs (i + 2)) (xs (i + 3)) = some (r, σ1, ρ1) ∧ X12_stands μ (xs (i + 1)) (xs (i + 2)) (xs (i + 3)) = some (r, μ1) ∧ All σ1 ρ1 kf μ1 := E_stands hA (xs (i + 1)) (xs (i + 2)) (xs (i + 3))
  refine lv_aload_n S.1 S.2.1 dL_law_389 rfl (lv_at hl 3 rfl) ?_
  refine r_scr (j := 1) S hx hb (by omega) hL (by omega) h hl dL_law_390 dL_law_391 dL_law_393 dL_law_394 dL_law_395 ?_
  refine r_scr (j := 2) S hx hb (by omega) hL (by omega) h hl dL_law_396 dL_law_397 dL_law_399 dL_law_400 dL_law_401 ?_
  refine r_scr (j := 3) S hx hb (by omega) hL (by omega) h hl dL_law_402 dL_law_403 dL_law_405 dL_law_406 dL_law_407 ?_
  refine k_c (run_m (mc := 128) (ms := 128) (Rr := fun o w => o = some (.int r) ∧ w = WCl D C3 adc LP kf σ1 ρ1) (va_runV (As := [.int (xs (i + 1)), .int (xs (i + 2)), .int (xs (i + 3))]) (rest := []) S (c_X11_stands (g := (D, C3, adc)) (A := va_A (WCl D C3 adc LP kf σ ρ) H.size) hPL e1) (cwV 3 S.2.2.2.2 (ul_V tw_3_19 tw_3_20 tw_3_21 tw_1_1 cw_X11_stands) rfl rfl rfl hv_X11_stands ⟨Nat.le_of_ble_eq_true rfl, Nat.le_of_ble_eq_true rfl⟩) ⟨PreM.blind, h.mc.recv (hK adc) cfX11 0 (by decide) ly_0, h.mc.pre (hK adc)⟩ rfl rfl hl.1 rfl (lv_room (Nat.le_of_ble_eq_true rfl)) dL_law_408 ⟨by show cells + 0 ≤ 601024; omega, by show slots + 0 ≤ 7293034; omega⟩) ⟨rfl, rfl⟩) h (fun o w H locs hw h => ?_)
  obtain ⟨rfl, rfl⟩ := hw
  show W _ _ _ _ _ _ _ _ _ _ _ _ _ _ _ (F0 m 411 ls [.int r])
  refine lv_aload_n S.1 S.2.1 dL_law_411 rfl (lv_at hl 2 rfl) ?_
  refine r_scr (j := 1) S hx hb (by omega) hL (by omega) h hl dL_law_412 dL_law_413 dL_law_415 dL_law_416 dL_law_417 ?_
  refine r_scr (j := 2) S hx hb (by omega) hL (by omega) h hl dL_law_418 dL_law_419 dL_law_421 dL_law_422 dL_law_423 ?_
  refine r_scr (j := 3) S hx hb (by omega) hL (by omega) h hl dL_law_424 dL_law_425 dL_law_427 dL_law_428 dL_law_429 ?_
  refine k_r (run_m (mc := 0) (ms := 0) (Rr := fun o w => o = some (.int r) ∧ w = WMo D C3 adm μ1) (va_runV (As := [.int (xs (i + 1)), .int (xs (i + 2)), .int (xs (i + 3))]) (rest := [.int r]) S (c_X12_stands (g := (D, C3, adm)) (A := va_A (WMo D C3 adm μ) H.size) e2) (cwV 3 S.2.2.2.2 (ul_V tw_5_223 tw_5_224 tw_5_225 tw_1_12 cw_X12_stands) rfl rfl rfl hv_X12_stands ⟨Nat.le_of_ble_eq_true rfl, Nat.le_of_ble_eq_true rfl⟩) ⟨PreM.blind, h.mm.recv (hK adm) cfX12 0 (by decide) lm_0, h.mm.pre (hK adm)⟩ rfl rfl hl.1 rfl (lv_room (Nat.le_of_ble_eq_true rfl)) dL_law_430 ⟨by show cells + 128 + 0 ≤ 601024; omega, by show slots + 128 + 0 ≤ 7293034; omega⟩) ⟨rfl, rfl⟩) h (fun o w H locs hw h => ?_)
  obtain ⟨rfl, rfl⟩ := hw
  show W _ _ _ _ _ _ _ _ _ _ _ _ _ _ _ (F0 m 433 ls [.int r, .int r])
  refine lv_icmp_eq (tgt := 1743) S.1 S.2.1 dL_law_433 (by decide) (fun _ => ?_) (fun b => absurd rfl b)
  exact kk H locs ⟨LP, kf, σ1, ρ1, μ1, h, hPL, hA1⟩
set_option maxRecDepth 20000 in
theorem w_law_tires (S : CallFix p m c cL_law 8 s #[Value.ref b] UL "SideBySideLaw") (hK : ∀ ad : Nat → Nat, KK (D, C3, ad) s) (hx : va_X b L xs s s.heap) (hb : b < s.heap.size) (hi : i + 6 ≤ L) (hL : L ≤ 3072) (hl : lv_has ls 8 [(4, .int (nI i)), (3, .ref bo), (2, .ref (adm 0)), (1, .ref (adc 0)), (0, .ref b)]) (hS : LSt s D C3 adc adm wo H locs) (hc : cells + 128 ≤ 601024) (hs : slots + 128 ≤ 7293034)
    (kk : ∀ (H1 : Heap) (locs1 : List Loc), LSt s D C3 adc adm wo H1 locs1 → W p l e room_1 s m #[Value.ref b] below meth c H1 locs1 (cells + 128) (slots + 128) Q (F0 m 1743 ls [])) : W p l e room_1 s m #[Value.ref b] below meth c H locs cells slots Q (F0 m 438 ls []) := by
  obtain ⟨LP, kf, σ, ρ, μ, h, hPL, hA⟩ := hS
  obtain ⟨r, σ1, ρ1, μ1, e1, e2, hA1⟩ : ∃ r σ1 ρ1 μ1, X11_tires kf σ ρ (xs (i + 1)) (xs (i + 2)) = some (r, σ1, ρ1) ∧ X12_tires μ (xs (i + 1)) (xs (i + 2)) = some (r, μ1) ∧ All σ1 ρ1 kf μ1 := E_tires hA (xs (i + 1)) (xs (i + 2))
  refine lv_aload_n S.1 S.2.1 dL_law_438 rfl (lv_at hl 3 rfl) ?_
  refine r_scr (j := 1) S hx hb (by omega) hL (by omega) h hl dL_law_439 dL_law_440 dL_law_442 dL_law_443 dL_law_444 ?_
  refine r_scr (j := 2) S hx hb (by omega) hL (by omega) h hl dL_law_445 dL_law_446 dL_law_448 dL_law_449 dL_law_450 ?_
  refine k_c (run_m (mc := 128) (ms := 128) (Rr := fun o w => o = some (.int r) ∧ w = WCl D C3 adc LP kf σ1 ρ1) (va_runV (As := [.int (xs (i + 1)), .int (xs (i + 2))]) (rest := []) S (c_X11_tires (g := (D, C3, adc)) (A := va_A (WCl D C3 adc LP kf σ ρ) H.size) hPL e1) (cwV 2 S.2.2.2.2 (ul_V tw_3_24 tw_3_25 tw_3_26 tw_1_1 cw_X11_tires) rfl rfl rfl hv_X11_tires ⟨Nat.le_of_ble_eq_true rfl, Nat.le_of_ble_eq_true rfl⟩) ⟨PreM.blind, h.mc.recv (hK adc) cfX11 0 (by decide) ly_0, h.mc.pre (hK adc)⟩ rfl rfl hl.1 rfl (lv_room (Nat.le_of_ble_eq_true rfl)) dL_law_451 ⟨by show cells + 0 ≤ 601024; omega, by show slots + 0 ≤ 7293034; omega⟩) ⟨rfl, rfl⟩) h (fun o w H locs hw h => ?_)
  obtain ⟨rfl, rfl⟩ := hw
  show W _ _ _ _ _ _ _ _ _ _ _ _ _ _ _ (F0 m 454 ls [.int r])
  refine lv_aload_n S.1 S.2.1 dL_law_454 rfl (lv_at hl 2 rfl) ?_
  refine r_scr (j := 1) S hx hb (by omega) hL (by omega) h hl dL_law_455 dL_law_456 dL_law_458 dL_law_459 dL_law_460 ?_
  refine r_scr (j := 2) S hx hb (by omega) hL (by omega) h hl dL_law_461 dL_law_462 dL_law_464 dL_law_465 dL_law_466 ?_
  refine k_r (run_m (mc := 0) (ms := 0) (Rr := fun o w => o = some (.int r) ∧ w = WMo D C3 adm μ1) (va_runV (As := [.int (xs (i + 1)), .int (xs (i + 2))]) (rest := [.int r]) S (c_X12_tires (g := (D, C3, adm)) (A := va_A (WMo D C3 adm μ) H.size) e2) (cwV 2 S.2.2.2.2 (ul_V tw_5_227 tw_5_228 tw_5_229 tw_1_12 cw_X12_tires) rfl rfl rfl hv_X12_tires ⟨Nat.le_of_ble_eq_true rfl, Nat.le_of_ble_eq_true rfl⟩) ⟨PreM.blind, h.mm.recv (hK adm) cfX12 0 (by decide) lm_0, h.mm.pre (hK adm)⟩ rfl rfl hl.1 rfl (lv_room (Nat.le_of_ble_eq_true rfl)) dL_law_467 ⟨by show cells + 128 + 0 ≤ 601024; omega, by show slots + 128 + 0 ≤ 7293034; omega⟩) ⟨rfl, rfl⟩) h (fun o w H locs hw h => ?_)
  obtain ⟨rfl, rfl⟩ := hw
  show W _ _ _ _ _ _ _ _ _ _ _ _ _ _ _ (F0 m 470 ls [.int r, .int r])
  refine lv_icmp_eq (tgt := 1743) S.1 S.2.1 dL_law_470 (by decide) (fun _ => ?_) (fun b => absurd rfl b)
  exact kk H locs ⟨LP, kf, σ1, ρ1, μ1, h, hPL, hA1⟩
set_option maxRecDepth 20000 in
theorem w_law_hands (S : CallFix p m c cL_law 8 s #[Value.ref b] UL "SideBySideLaw") (hK : ∀ ad : Nat → Nat, KK (D, C3, ad) s) (hx : va_X b L xs s s.heap) (hb : b < s.heap.size) (hi : i + 6 ≤ L) (hL : L ≤ 3072) (hl : lv_has ls 8 [(4, .int (nI i)), (3, .ref bo), (2, .ref (adm 0)), (1, .ref (adc 0)), (0, .ref b)]) (hS : LSt s D C3 adc adm wo H locs) (hc : cells + 128 ≤ 601024) (hs : slots + 128 ≤ 7293034)
    (kk : ∀ (H1 : Heap) (locs1 : List Loc), LSt s D C3 adc adm wo H1 locs1 → W p l e room_1 s m #[Value.ref b] below meth c H1 locs1 (cells + 128) (slots + 128) Q (F0 m 1743 ls [])) : W p l e room_1 s m #[Value.ref b] below meth c H locs cells slots Q (F0 m 475 ls []) := by
  obtain ⟨LP, kf, σ, ρ, μ, h, hPL, hA⟩ := hS
  obtain ⟨r, σ1, ρ1, μ1, e1, e2, hA1⟩ : ∃ r σ1 ρ1 μ1, X11_hands kf σ ρ (xs (i + 1)) = some (r, σ1, ρ1) ∧ X12_hands μ (xs (i + 1)) = some (r, μ1) ∧ All σ1 ρ1 kf μ1 := E_hands hA (xs (i + 1))
  refine lv_aload_n S.1 S.2.1 dL_law_475 rfl (lv_at hl 3 rfl) ?_
  refine r_scr (j := 1) S hx hb (by omega) hL (by omega) h hl dL_law_476 dL_law_477 dL_law_479 dL_law_480 dL_law_481 ?_
  refine k_c (run_m (mc := 128) (ms := 128) (Rr := fun o w => o = some (.int r) ∧ w = WCl D C3 adc LP kf σ1 ρ1) (va_runV (As := [.int (xs (i + 1))]) (rest := []) S (c_X11_hands (g := (D, C3, adc)) (A := va_A (WCl D C3 adc LP kf σ ρ) H.size) hPL e1) (cwV 1 S.2.2.2.2 (ul_V tw_3_29 tw_3_30 tw_3_31 tw_1_1 cw_X11_hands) rfl rfl rfl hv_X11_hands ⟨Nat.le_of_ble_eq_true rfl, Nat.le_of_ble_eq_true rfl⟩) ⟨PreM.blind, h.mc.recv (hK adc) cfX11 0 (by decide) ly_0, h.mc.pre (hK adc)⟩ rfl rfl hl.1 rfl (lv_room (Nat.le_of_ble_eq_true rfl)) dL_law_482 ⟨by show cells + 0 ≤ 601024; omega, by show slots + 0 ≤ 7293034; omega⟩) ⟨rfl, rfl⟩) h (fun o w H locs hw h => ?_)
  obtain ⟨rfl, rfl⟩ := hw
  show W _ _ _ _ _ _ _ _ _ _ _ _ _ _ _ (F0 m 485 ls [.int r])
  refine lv_aload_n S.1 S.2.1 dL_law_485 rfl (lv_at hl 2 rfl) ?_
  refine r_scr (j := 1) S hx hb (by omega) hL (by omega) h hl dL_law_486 dL_law_487 dL_law_489 dL_law_490 dL_law_491 ?_
  refine k_r (run_m (mc := 0) (ms := 0) (Rr := fun o w => o = some (.int r) ∧ w = WMo D C3 adm μ1) (va_runV (As := [.int (xs (i + 1))]) (rest := [.int r]) S (c_X12_hands (g := (D, C3, adm)) (A := va_A (WMo D C3 adm μ) H.size) e2) (cwV 1 S.2.2.2.2 (ul_V tw_5_231 tw_5_232 tw_5_233 tw_1_12 cw_X12_hands) rfl rfl rfl hv_X12_hands ⟨Nat.le_of_ble_eq_true rfl, Nat.le_of_ble_eq_true rfl⟩) ⟨PreM.blind, h.mm.recv (hK adm) cfX12 0 (by decide) lm_0, h.mm.pre (hK adm)⟩ rfl rfl hl.1 rfl (lv_room (Nat.le_of_ble_eq_true rfl)) dL_law_492 ⟨by show cells + 128 + 0 ≤ 601024; omega, by show slots + 128 + 0 ≤ 7293034; omega⟩) ⟨rfl, rfl⟩) h (fun o w H locs hw h => ?_)
  obtain ⟨rfl, rfl⟩ := hw
  show W _ _ _ _ _ _ _ _ _ _ _ _ _ _ _ (F0 m 495 ls [.int r, .int r])
  refine lv_icmp_eq (tgt := 1743) S.1 S.2.1 dL_law_495 (by decide) (fun _ => ?_) (fun b => absurd rfl b)
  exact kk H locs ⟨LP, kf, σ1, ρ1, μ1, h, hPL, hA1⟩
set_option maxRecDepth 20000 in
theorem w_law_forms (S : CallFix p m c cL_law 8 s #[Value.ref b] UL "SideBySideLaw") (hK : ∀ ad : Nat → Nat, KK (D, C3, ad) s) (hx : va_X b L xs s s.heap) (hb : b < s.heap.size) (hi : i + 6 ≤ L) (hL : L ≤ 3072) (hl : lv_has ls 8 [(4, .int (nI i)), (3, .ref bo), (2, .ref (adm 0)), (1, .ref (adc 0)), (0, .ref b)]) (hS : LSt s D C3 adc adm wo H locs) (hc : cells + 128 ≤ 601024) (hs : slots + 128 ≤ 7293034)
    (kk : ∀ (H1 : Heap) (locs1 : List Loc), LSt s D C3 adc adm wo H1 locs1 → W p l e room_1 s m #[Value.ref b] below meth c H1 locs1 (cells + 128) (slots + 128) Q (F0 m 1743 ls [])) : W p l e room_1 s m #[Value.ref b] below meth c H locs cells slots Q (F0 m 500 ls []) := by
  obtain ⟨LP, kf, σ, ρ, μ, h, hPL, hA⟩ := hS
  obtain ⟨r, σ1, ρ1, μ1, e1, e2, hA1⟩ : ∃ r σ1 ρ1 μ1, X11_forms kf σ ρ (xs (i + 1)) (xs (i + 2)) (xs (i + 3)) = some (r, σ1, ρ1) ∧ X12_forms μ (xs (i + 1)) (xs (i + 2)) (xs (i + 3)) = some (r, μ1) ∧ All σ1 ρ1 kf μ1 := E_forms hA (xs (i + 1)) (xs (i + 2)) (xs (i + 3))
  refine lv_aload_n S.1 S.2.1 dL_law_500 rfl (lv_at hl 3 rfl) ?_
  refine r_scr (j := 1) S hx hb (by omega) hL (by omega) h hl dL_law_501 dL_law_502 dL_law_504 dL_law_505 dL_law_506 ?_
  refine r_scr (j := 2) S hx hb (by omega) hL (by omega) h hl dL_law_507 dL_law_508 dL_law_510 dL_law_511 dL_law_512 ?_
  refine r_scr (j := 3) S hx hb (by omega) hL (by omega) h hl dL_law_513 dL_law_514 dL_law_516 dL_law_517 dL_law_518 ?_
  refine k_c (run_m (mc := 128) (ms := 128) (Rr := fun o w => o = some (.int r) ∧ w = WCl D C3 adc LP kf σ1 ρ1) (va_runV (As := [.int (xs (i + 1)), .int (xs (i + 2)), .int (xs (i + 3))]) (rest := []) S (c_X11_forms (g := (D, C3, adc)) (A := va_A (WCl D C3 adc LP kf σ ρ) H.size) hPL e1) (cwV 3 S.2.2.2.2 (ul_V tw_3_34 tw_3_35 tw_3_36 tw_1_1 cw_X11_forms) rfl rfl rfl hv_X11_forms ⟨Nat.le_of_ble_eq_true rfl, Nat.le_of_ble_eq_true rfl⟩) ⟨PreM.blind, h.mc.recv (hK adc) cfX11 0 (by decide) ly_0, h.mc.pre (hK adc)⟩ rfl rfl hl.1 rfl (lv_room (Nat.le_of_ble_eq_true rfl)) dL_law_519 ⟨by show cells + 0 ≤ 601024; omega, by show slots + 0 ≤ 7293034; omega⟩) ⟨rfl, rfl⟩) h (fun o w H locs hw h => ?_)
  obtain ⟨rfl, rfl⟩ := hw
  show W _ _ _ _ _ _ _ _ _ _ _ _ _ _ _ (F0 m 522 ls [.int r])
  refine lv_aload_n S.1 S.2.1 dL_law_522 rfl (lv_at hl 2 rfl) ?_
  refine r_scr (j := 1) S hx hb (by omega) hL (by omega) h hl dL_law_523 dL_law_524 dL_law_526 dL_law_527 dL_law_528 ?_
  refine r_scr (j := 2) S hx hb (by omega) hL (by omega) h hl dL_law_529 dL_law_530 dL_law_532 dL_law_533 dL_law_534 ?_
  refine r_scr (j := 3) S hx hb (by omega) hL (by omega) h hl dL_law_535 dL_law_536 dL_law_538 dL_law_539 dL_law_540 ?_
  refine k_r (run_m (mc := 0) (ms := 0) (Rr := fun o w => o = some (.int r) ∧ w = WMo D C3 adm μ1) (va_runV (As := [.int (xs (i + 1)), .int (xs (i + 2)), .int (xs (i + 3))]) (rest := [.int r]) S (c_X12_forms (g := (D, C3, adm)) (A := va_A (WMo D C3 adm μ) H.size) e2) (cwV 3 S.2.2.2.2 (ul_V tw_5_235 tw_5_236 tw_5_237 tw_1_12 cw_X12_forms) rfl rfl rfl hv_X12_forms ⟨Nat.le_of_ble_eq_true rfl, Nat.le_of_ble_eq_true rfl⟩) ⟨PreM.blind, h.mm.recv (hK adm) cfX12 0 (by decide) lm_0, h.mm.pre (hK adm)⟩ rfl rfl hl.1 rfl (lv_room (Nat.le_of_ble_eq_true rfl)) dL_law_541 ⟨by show cells + 128 + 0 ≤ 601024; omega, by show slots + 128 + 0 ≤ 7293034; omega⟩) ⟨rfl, rfl⟩) h (fun o w H locs hw h => ?_)
  obtain ⟨rfl, rfl⟩ := hw
  show W _ _ _ _ _ _ _ _ _ _ _ _ _ _ _ (F0 m 544 ls [.int r, .int r])
  refine lv_icmp_eq (tgt := 1743) S.1 S.2.1 dL_law_544 (by decide) (fun _ => ?_) (fun b => absurd rfl b)
  exact kk H locs ⟨LP, kf, σ1, ρ1, μ1, h, hPL, hA1⟩
set_option maxRecDepth 20000 in
theorem w_law_blows (S : CallFix p m c cL_law 8 s #[Value.ref b] UL "SideBySideLaw") (hK : ∀ ad : Nat → Nat, KK (D, C3, ad) s) (hx : va_X b L xs s s.heap) (hb : b < s.heap.size) (hi : i + 6 ≤ L) (hL : L ≤ 3072) (hl : lv_has ls 8 [(4, .int (nI i)), (3, .ref bo), (2, .ref (adm 0)), (1, .ref (adc 0)), (0, .ref b)]) (hS : LSt s D C3 adc adm wo H locs) (hc : cells + 128 ≤ 601024) (hs : slots + 128 ≤ 7293034)
    (kk : ∀ (H1 : Heap) (locs1 : List Loc), LSt s D C3 adc adm wo H1 locs1 → W p l e room_1 s m #[Value.ref b] below meth c H1 locs1 (cells + 128) (slots + 128) Q (F0 m 1743 ls [])) : W p l e room_1 s m #[Value.ref b] below meth c H locs cells slots Q (F0 m 549 ls []) := by
  obtain ⟨LP, kf, σ, ρ, μ, h, hPL, hA⟩ := hS
  obtain ⟨r, σ1, ρ1, μ1, e1, e2, hA1⟩ : ∃ r σ1 ρ1 μ1, X11_blows kf σ ρ (xs (i + 1)) = some (r, σ1, ρ1) ∧ X12_blows μ (xs (i + 1)) = some (r, μ1) ∧ All σ1 ρ1 kf μ1 := E_blows hA (xs (i + 1))
  refine lv_aload_n S.1 S.2.1 dL_law_549 rfl (lv_at hl 3 rfl) ?_
  refine r_scr (j := 1) S hx hb (by omega) hL (by omega) h hl dL_law_550 dL_law_551 dL_law_553 dL_law_554 dL_law_555 ?_
  refine k_c (run_m (mc := 128) (ms := 128) (Rr := fun o w => o = some (.int r) ∧ w = WCl D C3 adc LP kf σ1 ρ1) (va_runV (As := [.int (xs (i + 1))]) (rest := []) S (c_X11_blows (g := (D, C3, adc)) (A := va_A (WCl D C3 adc LP kf σ ρ) H.size) hPL e1) (cwV 1 S.2.2.2.2 (ul_V tw_3_39 tw_3_40 tw_3_41 tw_1_1 cw_X11_blows) rfl rfl rfl hv_X11_blows ⟨Nat.le_of_ble_eq_true rfl, Nat.le_of_ble_eq_true rfl⟩) ⟨PreM.blind, h.mc.recv (hK adc) cfX11 0 (by decide) ly_0, h.mc.pre (hK adc)⟩ rfl rfl hl.1 rfl (lv_room (Nat.le_of_ble_eq_true rfl)) dL_law_556 ⟨by show cells + 0 ≤ 601024; omega, by show slots + 0 ≤ 7293034; omega⟩) ⟨rfl, rfl⟩) h (fun o w H locs hw h => ?_)
  obtain ⟨rfl, rfl⟩ := hw
  show W _ _ _ _ _ _ _ _ _ _ _ _ _ _ _ (F0 m 559 ls [.int r])
  refine lv_aload_n S.1 S.2.1 dL_law_559 rfl (lv_at hl 2 rfl) ?_
  refine r_scr (j := 1) S hx hb (by omega) hL (by omega) h hl dL_law_560 dL_law_561 dL_law_563 dL_law_564 dL_law_565 ?_
  refine k_r (run_m (mc := 0) (ms := 0) (Rr := fun o w => o = some (.int r) ∧ w = WMo D C3 adm μ1) (va_runV (As := [.int (xs (i + 1))]) (rest := [.int r]) S (c_X12_blows (g := (D, C3, adm)) (A := va_A (WMo D C3 adm μ) H.size) e2) (cwV 1 S.2.2.2.2 (ul_V tw_5_239 tw_6_0 tw_6_1 tw_1_12 cw_X12_blows) rfl rfl rfl hv_X12_blows ⟨Nat.le_of_ble_eq_true rfl, Nat.le_of_ble_eq_true rfl⟩) ⟨PreM.blind, h.mm.recv (hK adm) cfX12 0 (by decide) lm_0, h.mm.pre (hK adm)⟩ rfl rfl hl.1 rfl (lv_room (Nat.le_of_ble_eq_true rfl)) dL_law_566 ⟨by show cells + 128 + 0 ≤ 601024; omega, by show slots + 128 + 0 ≤ 7293034; omega⟩) ⟨rfl, rfl⟩) h (fun o w H locs hw h => ?_)
  obtain ⟨rfl, rfl⟩ := hw
  show W _ _ _ _ _ _ _ _ _ _ _ _ _ _ _ (F0 m 569 ls [.int r, .int r])
  refine lv_icmp_eq (tgt := 1743) S.1 S.2.1 dL_law_569 (by decide) (fun _ => ?_) (fun b => absurd rfl b)
  exact kk H locs ⟨LP, kf, σ1, ρ1, μ1, h, hPL, hA1⟩
set_option maxRecDepth 20000 in
theorem w_law_hit (S : CallFix p m c cL_law 8 s #[Value.ref b] UL "SideBySideLaw") (hK : ∀ ad : Nat → Nat, KK (D, C3, ad) s) (hx : va_X b L xs s s.heap) (hb : b < s.heap.size) (hi : i + 6 ≤ L) (hL : L ≤ 3072) (hl : lv_has ls 8 [(4, .int (nI i)), (3, .ref bo), (2, .ref (adm 0)), (1, .ref (adc 0)), (0, .ref b)]) (hS : LSt s D C3 adc adm wo H locs) (hc : cells + 128 ≤ 601024) (hs : slots + 128 ≤ 7293034)
    (kk : ∀ (H1 : Heap) (locs1 : List Loc), LSt s D C3 adc adm wo H1 locs1 → W p l e room_1 s m #[Value.ref b] below meth c H1 locs1 (cells + 128) (slots + 128) Q (F0 m 1743 ls [])) : W p l e room_1 s m #[Value.ref b] below meth c H locs cells slots Q (F0 m 574 ls []) := by
  obtain ⟨LP, kf, σ, ρ, μ, h, hPL, hA⟩ := hS
  obtain ⟨r, σ1, ρ1, μ1, e1, e2, hA1⟩ : ∃ r σ1 ρ1 μ1, X11_hit kf σ ρ (xs (i + 1)) (xs (i + 2)) = some (r, σ1, ρ1) ∧ X12_hit μ (xs (i + 1)) (xs (i + 2)) = some (r, μ1) ∧ All σ1 ρ1 kf μ1 := E_hit hA (xs (i + 1)) (xs (i + 2))
  refine lv_aload_n S.1 S.2.1 dL_law_574 rfl (lv_at hl 3 rfl) ?_
  refine r_scr (j := 1) S hx hb (by omega) hL (by omega) h hl dL_law_575 dL_law_576 dL_law_578 dL_law_579 dL_law_580 ?_
  refine r_scr (j := 2) S hx hb (by omega) hL (by omega) h hl dL_law_581 dL_law_582 dL_law_584 dL_law_585 dL_law_586 ?_
  refine k_c (run_m (mc := 128) (ms := 128) (Rr := fun o w => o = some (.int r) ∧ w = WCl D C3 adc LP kf σ1 ρ1) (va_runV (As := [.int (xs (i + 1)), .int (xs (i + 2))]) (rest := []) S (c_X11_hit (g := (D, C3, adc)) (A := va_A (WCl D C3 adc LP kf σ ρ) H.size) hPL e1) (cwV 2 S.2.2.2.2 (ul_V tw_3_44 tw_3_45 tw_3_46 tw_1_1 cw_X11_hit) rfl rfl rfl hv_X11_hit ⟨Nat.le_of_ble_eq_true rfl, Nat.le_of_ble_eq_true rfl⟩) ⟨PreM.blind, h.mc.recv (hK adc) cfX11 0 (by decide) ly_0, h.mc.pre (hK adc)⟩ rfl rfl hl.1 rfl (lv_room (Nat.le_of_ble_eq_true rfl)) dL_law_587 ⟨by show cells + 0 ≤ 601024; omega, by show slots + 0 ≤ 7293034; omega⟩) ⟨rfl, rfl⟩) h (fun o w H locs hw h => ?_)
  obtain ⟨rfl, rfl⟩ := hw
  show W _ _ _ _ _ _ _ _ _ _ _ _ _ _ _ (F0 m 590 ls [.int r])
  refine lv_aload_n S.1 S.2.1 dL_law_590 rfl (lv_at hl 2 rfl) ?_
  refine r_scr (j := 1) S hx hb (by omega) hL (by omega) h hl dL_law_591 dL_law_592 dL_law_594 dL_law_595 dL_law_596 ?_
  refine r_scr (j := 2) S hx hb (by omega) hL (by omega) h hl dL_law_597 dL_law_598 dL_law_600 dL_law_601 dL_law_602 ?_
  refine k_r (run_m (mc := 0) (ms := 0) (Rr := fun o w => o = some (.int r) ∧ w = WMo D C3 adm μ1) (va_runV (As := [.int (xs (i + 1)), .int (xs (i + 2))]) (rest := [.int r]) S (c_X12_hit (g := (D, C3, adm)) (A := va_A (WMo D C3 adm μ) H.size) e2) (cwV 2 S.2.2.2.2 (ul_V tw_6_3 tw_6_4 tw_6_5 tw_1_12 cw_X12_hit) rfl rfl rfl hv_X12_hit ⟨Nat.le_of_ble_eq_true rfl, Nat.le_of_ble_eq_true rfl⟩) ⟨PreM.blind, h.mm.recv (hK adm) cfX12 0 (by decide) lm_0, h.mm.pre (hK adm)⟩ rfl rfl hl.1 rfl (lv_room (Nat.le_of_ble_eq_true rfl)) dL_law_603 ⟨by show cells + 128 + 0 ≤ 601024; omega, by show slots + 128 + 0 ≤ 7293034; omega⟩) ⟨rfl, rfl⟩) h (fun o w H locs hw h => ?_)
  obtain ⟨rfl, rfl⟩ := hw
  show W _ _ _ _ _ _ _ _ _ _ _ _ _ _ _ (F0 m 606 ls [.int r, .int r])
  refine lv_icmp_eq (tgt := 1743) S.1 S.2.1 dL_law_606 (by decide) (fun _ => ?_) (fun b => absurd rfl b)
  exact kk H locs ⟨LP, kf, σ1, ρ1, μ1, h, hPL, hA1⟩
set_option maxRecDepth 20000 in
theorem w_law_whose (S : CallFix p m c cL_law 8 s #[Value.ref b] UL "SideBySideLaw") (hK : ∀ ad : Nat → Nat, KK (D, C3, ad) s) (hx : va_X b L xs s s.heap) (hb : b < s.heap.size) (hi : i + 6 ≤ L) (hL : L ≤ 3072) (hl : lv_has ls 8 [(4, .int (nI i)), (3, .ref bo), (2, .ref (adm 0)), (1, .ref (adc 0)), (0, .ref b)]) (hS : LSt s D C3 adc adm wo H locs) (hc : cells + 128 ≤ 601024) (hs : slots + 128 ≤ 7293034)
    (kk : ∀ (H1 : Heap) (locs1 : List Loc), LSt s D C3 adc adm wo H1 locs1 → W p l e room_1 s m #[Value.ref b] below meth c H1 locs1 (cells + 128) (slots + 128) Q (F0 m 1743 ls [])) : W p l e room_1 s m #[Value.ref b] below meth c H locs cells slots Q (F0 m 611 ls []) := by
  obtain ⟨LP, kf, σ, ρ, μ, h, hPL, hA⟩ := hS
  obtain ⟨f0, hf⟩ := hA.1
  obtain ⟨r, e1, e2⟩ : ∃ r, X11_whose kf σ ρ (xs (i + 1)) (xs (i + 2)) = some r ∧ X12_whose μ (xs (i + 1)) (xs (i + 2)) = some r := E_whose hf (xs (i + 1)) (xs (i + 2))
  refine lv_aload_n S.1 S.2.1 dL_law_611 rfl (lv_at hl 3 rfl) ?_
  refine r_scr (j := 1) S hx hb (by omega) hL (by omega) h hl dL_law_612 dL_law_613 dL_law_615 dL_law_616 dL_law_617 ?_
  refine r_scr (j := 2) S hx hb (by omega) hL (by omega) h hl dL_law_618 dL_law_619 dL_law_621 dL_law_622 dL_law_623 ?_
  refine k_c (run_p2 (g := (D, C3, adc)) (mc := 128) (ms := 128) (Rr := fun o w => o = some (.int r) ∧ w = WCl D C3 adc LP kf σ ρ) (va_runV (As := [.int (xs (i + 1)), .int (xs (i + 2))]) (rest := []) S (c_X11_whose (g := (D, C3, adc)) (A := va_A (WCl D C3 adc LP kf σ ρ) H.size) hPL e1) (cwV 2 S.2.2.2.2 (ul_V tw_3_50 tw_3_51 tw_3_52 tw_1_1 cw_X11_whose) rfl rfl rfl hv_X11_whose ⟨Nat.le_of_ble_eq_true rfl, Nat.le_of_ble_eq_true rfl⟩) ⟨PreM.blind, h.mc.recv (hK adc) cfX11 0 (by decide) ly_0, h.mc.pre (hK adc)⟩ rfl rfl hl.1 rfl (lv_room (Nat.le_of_ble_eq_true rfl)) dL_law_624 ⟨by show cells + 0 ≤ 601024; omega, by show slots + 0 ≤ 7293034; omega⟩) h.mc.1 h.mc.2.1 ⟨rfl, rfl⟩) h (fun o w H locs hw h => ?_)
  obtain ⟨rfl, rfl⟩ := hw
  show W _ _ _ _ _ _ _ _ _ _ _ _ _ _ _ (F0 m 627 ls [.int r])
  refine lv_aload_n S.1 S.2.1 dL_law_627 rfl (lv_at hl 2 rfl) ?_
  refine r_scr (j := 1) S hx hb (by omega) hL (by omega) h hl dL_law_628 dL_law_629 dL_law_631 dL_law_632 dL_law_633 ?_
  refine r_scr (j := 2) S hx hb (by omega) hL (by omega) h hl dL_law_634 dL_law_635 dL_law_637 dL_law_638 dL_law_639 ?_
  refine k_r (run_p2 (g := (D, C3, adm)) (mc := 0) (ms := 0) (Rr := fun o w => o = some (.int r) ∧ w = WMo D C3 adm μ) (va_runV (As := [.int (xs (i + 1)), .int (xs (i + 2))]) (rest := [.int r]) S (c_X12_whose (g := (D, C3, adm)) (A := va_A (WMo D C3 adm μ) H.size) e2) (cwV 2 S.2.2.2.2 (ul_V tw_6_7 tw_6_8 tw_6_9 tw_1_12 cw_X12_whose) rfl rfl rfl hv_X12_whose ⟨Nat.le_of_ble_eq_true rfl, Nat.le_of_ble_eq_true rfl⟩) ⟨PreM.blind, h.mm.recv (hK adm) cfX12 0 (by decide) lm_0, h.mm.pre (hK adm)⟩ rfl rfl hl.1 rfl (lv_room (Nat.le_of_ble_eq_true rfl)) dL_law_640 ⟨by show cells + 128 + 0 ≤ 601024; omega, by show slots + 128 + 0 ≤ 7293034; omega⟩) h.mm.1 h.mm.2.1 ⟨rfl, rfl⟩) h (fun o w H locs hw h => ?_)
  obtain ⟨rfl, rfl⟩ := hw
  show W _ _ _ _ _ _ _ _ _ _ _ _ _ _ _ (F0 m 643 ls [.int r, .int r])
  refine lv_icmp_eq (tgt := 1743) S.1 S.2.1 dL_law_643 (by decide) (fun _ => ?_) (fun b => absurd rfl b)
  exact kk H locs ⟨LP, kf, σ, ρ, μ, h, hPL, hA⟩
set_option maxRecDepth 20000 in
theorem w_law_wins (S : CallFix p m c cL_law 8 s #[Value.ref b] UL "SideBySideLaw") (hK : ∀ ad : Nat → Nat, KK (D, C3, ad) s) (hx : va_X b L xs s s.heap) (hb : b < s.heap.size) (hi : i + 6 ≤ L) (hL : L ≤ 3072) (hl : lv_has ls 8 [(4, .int (nI i)), (3, .ref bo), (2, .ref (adm 0)), (1, .ref (adc 0)), (0, .ref b)]) (hS : LSt s D C3 adc adm wo H locs) (hc : cells + 128 ≤ 601024) (hs : slots + 128 ≤ 7293034)
    (kk : ∀ (H1 : Heap) (locs1 : List Loc), LSt s D C3 adc adm wo H1 locs1 → W p l e room_1 s m #[Value.ref b] below meth c H1 locs1 (cells + 128) (slots + 128) Q (F0 m 1743 ls [])) : W p l e room_1 s m #[Value.ref b] below meth c H locs cells slots Q (F0 m 648 ls []) := by
  obtain ⟨LP, kf, σ, ρ, μ, h, hPL, hA⟩ := hS
  obtain ⟨r, μ1, e1, e2, hA1⟩ : ∃ r μ1, X11_wins kf σ ρ (xs (i + 1)) (xs (i + 2)) = some r ∧ X12_wins μ (xs (i + 1)) (xs (i + 2)) = some (r, μ1) ∧ All σ ρ kf μ1 := E_wins hA (xs (i + 1)) (xs (i + 2))
  refine lv_aload_n S.1 S.2.1 dL_law_648 rfl (lv_at hl 3 rfl) ?_
  refine r_scr (j := 1) S hx hb (by omega) hL (by omega) h hl dL_law_649 dL_law_650 dL_law_652 dL_law_653 dL_law_654 ?_
  refine r_scr (j := 2) S hx hb (by omega) hL (by omega) h hl dL_law_655 dL_law_656 dL_law_658 dL_law_659 dL_law_660 ?_
  refine k_c (run_p2 (g := (D, C3, adc)) (mc := 128) (ms := 128) (Rr := fun o w => o = some (.int r) ∧ w = WCl D C3 adc LP kf σ ρ) (va_runV (As := [.int (xs (i + 1)), .int (xs (i + 2))]) (rest := []) S (c_X11_wins (g := (D, C3, adc)) (A := va_A (WCl D C3 adc LP kf σ ρ) H.size) hPL e1) (cwV 2 S.2.2.2.2 (ul_V tw_3_63 tw_3_64 tw_3_65 tw_1_1 cw_X11_wins) rfl rfl rfl hv_X11_wins ⟨Nat.le_of_ble_eq_true rfl, Nat.le_of_ble_eq_true rfl⟩) ⟨PreM.blind, h.mc.recv (hK adc) cfX11 0 (by decide) ly_0, h.mc.pre (hK adc)⟩ rfl rfl hl.1 rfl (lv_room (Nat.le_of_ble_eq_true rfl)) dL_law_661 ⟨by show cells + 0 ≤ 601024; omega, by show slots + 0 ≤ 7293034; omega⟩) h.mc.1 h.mc.2.1 ⟨rfl, rfl⟩) h (fun o w H locs hw h => ?_)
  obtain ⟨rfl, rfl⟩ := hw
  show W _ _ _ _ _ _ _ _ _ _ _ _ _ _ _ (F0 m 664 ls [.int r])
  refine lv_aload_n S.1 S.2.1 dL_law_664 rfl (lv_at hl 2 rfl) ?_
  refine r_scr (j := 1) S hx hb (by omega) hL (by omega) h hl dL_law_665 dL_law_666 dL_law_668 dL_law_669 dL_law_670 ?_
  refine r_scr (j := 2) S hx hb (by omega) hL (by omega) h hl dL_law_671 dL_law_672 dL_law_674 dL_law_675 dL_law_676 ?_
  refine k_r (run_m (mc := 0) (ms := 0) (Rr := fun o w => o = some (.int r) ∧ w = WMo D C3 adm μ1) (va_runV (As := [.int (xs (i + 1)), .int (xs (i + 2))]) (rest := [.int r]) S (c_X12_wins (g := (D, C3, adm)) (A := va_A (WMo D C3 adm μ) H.size) e2) (cwV 2 S.2.2.2.2 (ul_V tw_6_23 tw_6_24 tw_6_25 tw_1_12 cw_X12_wins) rfl rfl rfl hv_X12_wins ⟨Nat.le_of_ble_eq_true rfl, Nat.le_of_ble_eq_true rfl⟩) ⟨PreM.blind, h.mm.recv (hK adm) cfX12 0 (by decide) lm_0, h.mm.pre (hK adm)⟩ rfl rfl hl.1 rfl (lv_room (Nat.le_of_ble_eq_true rfl)) dL_law_677 ⟨by show cells + 128 + 0 ≤ 601024; omega, by show slots + 128 + 0 ≤ 7293034; omega⟩) ⟨rfl, rfl⟩) h (fun o w H locs hw h => ?_)
  obtain ⟨rfl, rfl⟩ := hw
  show W _ _ _ _ _ _ _ _ _ _ _ _ _ _ _ (F0 m 680 ls [.int r, .int r])
  refine lv_icmp_eq (tgt := 1743) S.1 S.2.1 dL_law_680 (by decide) (fun _ => ?_) (fun b => absurd rfl b)
  exact kk H locs ⟨LP, kf, σ, ρ, μ1, h, hPL, hA1⟩
set_option maxRecDepth 20000 in
theorem w_law_falls (S : CallFix p m c cL_law 8 s #[Value.ref b] UL "SideBySideLaw") (hK : ∀ ad : Nat → Nat, KK (D, C3, ad) s) (hx : va_X b L xs s s.heap) (hb : b < s.heap.size) (hi : i + 6 ≤ L) (hL : L ≤ 3072) (hl : lv_has ls 8 [(4, .int (nI i)), (3, .ref bo), (2, .ref (adm 0)), (1, .ref (adc 0)), (0, .ref b)]) (hS : LSt s D C3 adc adm wo H locs) (hc : cells + 128 ≤ 601024) (hs : slots + 128 ≤ 7293034)
    (kk : ∀ (H1 : Heap) (locs1 : List Loc), LSt s D C3 adc adm wo H1 locs1 → W p l e room_1 s m #[Value.ref b] below meth c H1 locs1 (cells + 128) (slots + 128) Q (F0 m 1743 ls [])) : W p l e room_1 s m #[Value.ref b] below meth c H locs cells slots Q (F0 m 685 ls []) := by
  obtain ⟨LP, kf, σ, ρ, μ, h, hPL, hA⟩ := hS
  obtain ⟨f0, hf⟩ := hA.1
  obtain ⟨r, e1, e2⟩ : ∃ r, X11_falls kf σ ρ (xs (i + 1)) (xs (i + 2)) = some r ∧ X12_falls μ (xs (i + 1)) (xs (i + 2)) = some r := E_falls hf (xs (i + 1)) (xs (i + 2))
  refine lv_aload_n S.1 S.2.1 dL_law_685 rfl (lv_at hl 3 rfl) ?_
  refine r_scr (j := 1) S hx hb (by omega) hL (by omega) h hl dL_law_686 dL_law_687 dL_law_689 dL_law_690 dL_law_691 ?_
  refine r_scr (j := 2) S hx hb (by omega) hL (by omega) h hl dL_law_692 dL_law_693 dL_law_695 dL_law_696 dL_law_697 ?_
  refine k_c (run_p2 (g := (D, C3, adc)) (mc := 128) (ms := 128) (Rr := fun o w => o = some (.int r) ∧ w = WCl D C3 adc LP kf σ ρ) (va_runV (As := [.int (xs (i + 1)), .int (xs (i + 2))]) (rest := []) S (c_X11_falls (g := (D, C3, adc)) (A := va_A (WCl D C3 adc LP kf σ ρ) H.size) hPL e1) (cwV 2 S.2.2.2.2 (ul_V tw_3_72 tw_3_73 tw_3_74 tw_1_1 cw_X11_falls) rfl rfl rfl hv_X11_falls ⟨Nat.le_of_ble_eq_true rfl, Nat.le_of_ble_eq_true rfl⟩) ⟨PreM.blind, h.mc.recv (hK adc) cfX11 0 (by decide) ly_0, h.mc.pre (hK adc)⟩ rfl rfl hl.1 rfl (lv_room (Nat.le_of_ble_eq_true rfl)) dL_law_698 ⟨by show cells + 0 ≤ 601024; omega, by show slots + 0 ≤ 7293034; omega⟩) h.mc.1 h.mc.2.1 ⟨rfl, rfl⟩) h (fun o w H locs hw h => ?_)
  obtain ⟨rfl, rfl⟩ := hw
  show W _ _ _ _ _ _ _ _ _ _ _ _ _ _ _ (F0 m 701 ls [.int r])
  refine lv_aload_n S.1 S.2.1 dL_law_701 rfl (lv_at hl 2 rfl) ?_
  refine r_scr (j := 1) S hx hb (by omega) hL (by omega) h hl dL_law_702 dL_law_703 dL_law_705 dL_law_706 dL_law_707 ?_
  refine r_scr (j := 2) S hx hb (by omega) hL (by omega) h hl dL_law_708 dL_law_709 dL_law_711 dL_law_712 dL_law_713 ?_
  refine k_r (run_p2 (g := (D, C3, adm)) (mc := 0) (ms := 0) (Rr := fun o w => o = some (.int r) ∧ w = WMo D C3 adm μ) (va_runV (As := [.int (xs (i + 1)), .int (xs (i + 2))]) (rest := [.int r]) S (c_X12_falls (g := (D, C3, adm)) (A := va_A (WMo D C3 adm μ) H.size) e2) (cwV 2 S.2.2.2.2 (ul_V tw_6_31 tw_6_32 tw_6_33 tw_1_12 cw_X12_falls) rfl rfl rfl hv_X12_falls ⟨Nat.le_of_ble_eq_true rfl, Nat.le_of_ble_eq_true rfl⟩) ⟨PreM.blind, h.mm.recv (hK adm) cfX12 0 (by decide) lm_0, h.mm.pre (hK adm)⟩ rfl rfl hl.1 rfl (lv_room (Nat.le_of_ble_eq_true rfl)) dL_law_714 ⟨by show cells + 128 + 0 ≤ 601024; omega, by show slots + 128 + 0 ≤ 7293034; omega⟩) h.mm.1 h.mm.2.1 ⟨rfl, rfl⟩) h (fun o w H locs hw h => ?_)
  obtain ⟨rfl, rfl⟩ := hw
  show W _ _ _ _ _ _ _ _ _ _ _ _ _ _ _ (F0 m 717 ls [.int r, .int r])
  refine lv_icmp_eq (tgt := 1743) S.1 S.2.1 dL_law_717 (by decide) (fun _ => ?_) (fun b => absurd rfl b)
  exact kk H locs ⟨LP, kf, σ, ρ, μ, h, hPL, hA⟩
set_option maxRecDepth 20000 in
theorem w_law_open (S : CallFix p m c cL_law 8 s #[Value.ref b] UL "SideBySideLaw") (hK : ∀ ad : Nat → Nat, KK (D, C3, ad) s) (hx : va_X b L xs s s.heap) (hb : b < s.heap.size) (hi : i + 6 ≤ L) (hL : L ≤ 3072) (hl : lv_has ls 8 [(4, .int (nI i)), (3, .ref bo), (2, .ref (adm 0)), (1, .ref (adc 0)), (0, .ref b)]) (hS : LSt s D C3 adc adm wo H locs) (hc : cells + 128 ≤ 601024) (hs : slots + 128 ≤ 7293034)
    (kk : ∀ (H1 : Heap) (locs1 : List Loc), LSt s D C3 adc adm wo H1 locs1 → W p l e room_1 s m #[Value.ref b] below meth c H1 locs1 (cells + 128) (slots + 128) Q (F0 m 1743 ls [])) : W p l e room_1 s m #[Value.ref b] below meth c H locs cells slots Q (F0 m 722 ls []) := by
  obtain ⟨LP, kf, σ, ρ, μ, h, hPL, hA⟩ := hS
  obtain ⟨r, μ1, e1, e2, hA1⟩ : ∃ r μ1, X11_open kf σ ρ (xs (i + 1)) = some r ∧ X12_open μ (xs (i + 1)) = some (r, μ1) ∧ All σ ρ kf μ1 := E_open hA (xs (i + 1))
  refine lv_aload_n S.1 S.2.1 dL_law_722 rfl (lv_at hl 3 rfl) ?_
  refine r_scr (j := 1) S hx hb (by omega) hL (by omega) h hl dL_law_723 dL_law_724 dL_law_726 dL_law_727 dL_law_728 ?_
  refine k_c (run_p2 (g := (D, C3, adc)) (mc := 128) (ms := 128) (Rr := fun o w => o = some (.int r) ∧ w = WCl D C3 adc LP kf σ ρ) (va_runV (As := [.int (xs (i + 1))]) (rest := []) S (c_X11_open (g := (D, C3, adc)) (A := va_A (WCl D C3 adc LP kf σ ρ) H.size) hPL e1) (cwV 1 S.2.2.2.2 (ul_V tw_3_76 tw_3_77 tw_3_78 tw_1_1 cw_X11_open) rfl rfl rfl hv_X11_open ⟨Nat.le_of_ble_eq_true rfl, Nat.le_of_ble_eq_true rfl⟩) ⟨PreM.blind, h.mc.recv (hK adc) cfX11 0 (by decide) ly_0, h.mc.pre (hK adc)⟩ rfl rfl hl.1 rfl (lv_room (Nat.le_of_ble_eq_true rfl)) dL_law_729 ⟨by show cells + 0 ≤ 601024; omega, by show slots + 0 ≤ 7293034; omega⟩) h.mc.1 h.mc.2.1 ⟨rfl, rfl⟩) h (fun o w H locs hw h => ?_)
  obtain ⟨rfl, rfl⟩ := hw
  show W _ _ _ _ _ _ _ _ _ _ _ _ _ _ _ (F0 m 732 ls [.int r])
  refine lv_aload_n S.1 S.2.1 dL_law_732 rfl (lv_at hl 2 rfl) ?_
  refine r_scr (j := 1) S hx hb (by omega) hL (by omega) h hl dL_law_733 dL_law_734 dL_law_736 dL_law_737 dL_law_738 ?_
  refine k_r (run_m (mc := 0) (ms := 0) (Rr := fun o w => o = some (.int r) ∧ w = WMo D C3 adm μ1) (va_runV (As := [.int (xs (i + 1))]) (rest := [.int r]) S (c_X12_open (g := (D, C3, adm)) (A := va_A (WMo D C3 adm μ) H.size) e2) (cwV 1 S.2.2.2.2 (ul_V tw_6_35 tw_6_36 tw_6_37 tw_1_12 cw_X12_open) rfl rfl rfl hv_X12_open ⟨Nat.le_of_ble_eq_true rfl, Nat.le_of_ble_eq_true rfl⟩) ⟨PreM.blind, h.mm.recv (hK adm) cfX12 0 (by decide) lm_0, h.mm.pre (hK adm)⟩ rfl rfl hl.1 rfl (lv_room (Nat.le_of_ble_eq_true rfl)) dL_law_739 ⟨by show cells + 128 + 0 ≤ 601024; omega, by show slots + 128 + 0 ≤ 7293034; omega⟩) ⟨rfl, rfl⟩) h (fun o w H locs hw h => ?_)
  obtain ⟨rfl, rfl⟩ := hw
  show W _ _ _ _ _ _ _ _ _ _ _ _ _ _ _ (F0 m 742 ls [.int r, .int r])
  refine lv_icmp_eq (tgt := 1743) S.1 S.2.1 dL_law_742 (by decide) (fun _ => ?_) (fun b => absurd rfl b)
  exact kk H locs ⟨LP, kf, σ, ρ, μ1, h, hPL, hA1⟩
set_option maxRecDepth 20000 in
theorem w_law_forced (S : CallFix p m c cL_law 8 s #[Value.ref b] UL "SideBySideLaw") (hK : ∀ ad : Nat → Nat, KK (D, C3, ad) s) (hx : va_X b L xs s s.heap) (hb : b < s.heap.size) (hi : i + 6 ≤ L) (hL : L ≤ 3072) (hl : lv_has ls 8 [(4, .int (nI i)), (3, .ref bo), (2, .ref (adm 0)), (1, .ref (adc 0)), (0, .ref b)]) (hS : LSt s D C3 adc adm wo H locs) (hc : cells + 128 ≤ 601024) (hs : slots + 128 ≤ 7293034)
    (kk : ∀ (H1 : Heap) (locs1 : List Loc), LSt s D C3 adc adm wo H1 locs1 → W p l e room_1 s m #[Value.ref b] below meth c H1 locs1 (cells + 128) (slots + 128) Q (F0 m 1743 ls [])) : W p l e room_1 s m #[Value.ref b] below meth c H locs cells slots Q (F0 m 747 ls []) := by
  obtain ⟨LP, kf, σ, ρ, μ, h, hPL, hA⟩ := hS
  obtain ⟨r, μ1, e1, e2, hA1⟩ : ∃ r μ1, X11_forced kf σ ρ  = some r ∧ X12_forced μ  = some (r, μ1) ∧ All σ ρ kf μ1 := E_forced hA 
  refine lv_aload_n S.1 S.2.1 dL_law_747 rfl (lv_at hl 3 rfl) ?_
  refine k_c (run_p2 (g := (D, C3, adc)) (mc := 128) (ms := 128) (Rr := fun o w => o = some (.int r) ∧ w = WCl D C3 adc LP kf σ ρ) (va_runV (As := []) (rest := []) S (c_X11_forced (g := (D, C3, adc)) (A := va_A (WCl D C3 adc LP kf σ ρ) H.size) hPL e1) (cwV 0 S.2.2.2.2 (ul_V tw_3_80 tw_3_81 tw_3_82 tw_1_1 cw_X11_forced) rfl rfl rfl hv_X11_forced ⟨Nat.le_of_ble_eq_true rfl, Nat.le_of_ble_eq_true rfl⟩) ⟨PreM.blind, h.mc.recv (hK adc) cfX11 0 (by decide) ly_0, h.mc.pre (hK adc)⟩ rfl rfl hl.1 rfl (lv_room (Nat.le_of_ble_eq_true rfl)) dL_law_748 ⟨by show cells + 0 ≤ 601024; omega, by show slots + 0 ≤ 7293034; omega⟩) h.mc.1 h.mc.2.1 ⟨rfl, rfl⟩) h (fun o w H locs hw h => ?_)
  obtain ⟨rfl, rfl⟩ := hw
  show W _ _ _ _ _ _ _ _ _ _ _ _ _ _ _ (F0 m 751 ls [.int r])
  refine lv_aload_n S.1 S.2.1 dL_law_751 rfl (lv_at hl 2 rfl) ?_
  refine k_r (run_m (mc := 0) (ms := 0) (Rr := fun o w => o = some (.int r) ∧ w = WMo D C3 adm μ1) (va_runV (As := []) (rest := [.int r]) S (c_X12_forced (g := (D, C3, adm)) (A := va_A (WMo D C3 adm μ) H.size) e2) (cwV 0 S.2.2.2.2 (ul_V tw_6_43 tw_6_44 tw_6_45 tw_1_12 cw_X12_forced) rfl rfl rfl hv_X12_forced ⟨Nat.le_of_ble_eq_true rfl, Nat.le_of_ble_eq_true rfl⟩) ⟨PreM.blind, h.mm.recv (hK adm) cfX12 0 (by decide) lm_0, h.mm.pre (hK adm)⟩ rfl rfl hl.1 rfl (lv_room (Nat.le_of_ble_eq_true rfl)) dL_law_752 ⟨by show cells + 128 + 0 ≤ 601024; omega, by show slots + 128 + 0 ≤ 7293034; omega⟩) ⟨rfl, rfl⟩) h (fun o w H locs hw h => ?_)
  obtain ⟨rfl, rfl⟩ := hw
  show W _ _ _ _ _ _ _ _ _ _ _ _ _ _ _ (F0 m 755 ls [.int r, .int r])
  refine lv_icmp_eq (tgt := 1743) S.1 S.2.1 dL_law_755 (by decide) (fun _ => ?_) (fun b => absurd rfl b)
  exact kk H locs ⟨LP, kf, σ, ρ, μ1, h, hPL, hA1⟩
set_option maxRecDepth 20000 in
theorem w_law_farthest (S : CallFix p m c cL_law 8 s #[Value.ref b] UL "SideBySideLaw") (hK : ∀ ad : Nat → Nat, KK (D, C3, ad) s) (hx : va_X b L xs s s.heap) (hb : b < s.heap.size) (hi : i + 6 ≤ L) (hL : L ≤ 3072) (hl : lv_has ls 8 [(4, .int (nI i)), (3, .ref bo), (2, .ref (adm 0)), (1, .ref (adc 0)), (0, .ref b)]) (hS : LSt s D C3 adc adm wo H locs) (hc : cells + 128 ≤ 601024) (hs : slots + 128 ≤ 7293034)
    (kk : ∀ (H1 : Heap) (locs1 : List Loc), LSt s D C3 adc adm wo H1 locs1 → W p l e room_1 s m #[Value.ref b] below meth c H1 locs1 (cells + 128) (slots + 128) Q (F0 m 1743 ls [])) : W p l e room_1 s m #[Value.ref b] below meth c H locs cells slots Q (F0 m 760 ls []) := by
  obtain ⟨LP, kf, σ, ρ, μ, h, hPL, hA⟩ := hS
  obtain ⟨f0, hf⟩ := hA.1
  obtain ⟨r, e1, e2⟩ : ∃ r, X11_farthest kf σ ρ (xs (i + 1)) (xs (i + 2)) = some r ∧ X12_farthest μ (xs (i + 1)) (xs (i + 2)) = some r := E_farthest hf (xs (i + 1)) (xs (i + 2))
  refine lv_aload_n S.1 S.2.1 dL_law_760 rfl (lv_at hl 3 rfl) ?_
  refine r_scr (j := 1) S hx hb (by omega) hL (by omega) h hl dL_law_761 dL_law_762 dL_law_764 dL_law_765 dL_law_766 ?_
  refine r_scr (j := 2) S hx hb (by omega) hL (by omega) h hl dL_law_767 dL_law_768 dL_law_770 dL_law_771 dL_law_772 ?_
  refine k_c (run_p2 (g := (D, C3, adc)) (mc := 128) (ms := 128) (Rr := fun o w => o = some (.int r) ∧ w = WCl D C3 adc LP kf σ ρ) (va_runV (As := [.int (xs (i + 1)), .int (xs (i + 2))]) (rest := []) S (c_X11_farthest (g := (D, C3, adc)) (A := va_A (WCl D C3 adc LP kf σ ρ) H.size) hPL e1) (cwV 2 S.2.2.2.2 (ul_V tw_3_89 tw_3_90 tw_3_91 tw_1_1 cw_X11_farthest) rfl rfl rfl hv_X11_farthest ⟨Nat.le_of_ble_eq_true rfl, Nat.le_of_ble_eq_true rfl⟩) ⟨PreM.blind, h.mc.recv (hK adc) cfX11 0 (by decide) ly_0, h.mc.pre (hK adc)⟩ rfl rfl hl.1 rfl (lv_room (Nat.le_of_ble_eq_true rfl)) dL_law_773 ⟨by show cells + 0 ≤ 601024; omega, by show slots + 0 ≤ 7293034; omega⟩) h.mc.1 h.mc.2.1 ⟨rfl, rfl⟩) h (fun o w H locs hw h => ?_)
  obtain ⟨rfl, rfl⟩ := hw
  show W _ _ _ _ _ _ _ _ _ _ _ _ _ _ _ (F0 m 776 ls [.int r])
  refine lv_aload_n S.1 S.2.1 dL_law_776 rfl (lv_at hl 2 rfl) ?_
  refine r_scr (j := 1) S hx hb (by omega) hL (by omega) h hl dL_law_777 dL_law_778 dL_law_780 dL_law_781 dL_law_782 ?_
  refine r_scr (j := 2) S hx hb (by omega) hL (by omega) h hl dL_law_783 dL_law_784 dL_law_786 dL_law_787 dL_law_788 ?_
  refine k_r (run_p2 (g := (D, C3, adm)) (mc := 0) (ms := 0) (Rr := fun o w => o = some (.int r) ∧ w = WMo D C3 adm μ) (va_runV (As := [.int (xs (i + 1)), .int (xs (i + 2))]) (rest := [.int r]) S (c_X12_farthest (g := (D, C3, adm)) (A := va_A (WMo D C3 adm μ) H.size) e2) (cwV 2 S.2.2.2.2 (ul_V tw_6_47 tw_6_48 tw_6_49 tw_1_12 cw_X12_farthest) rfl rfl rfl hv_X12_farthest ⟨Nat.le_of_ble_eq_true rfl, Nat.le_of_ble_eq_true rfl⟩) ⟨PreM.blind, h.mm.recv (hK adm) cfX12 0 (by decide) lm_0, h.mm.pre (hK adm)⟩ rfl rfl hl.1 rfl (lv_room (Nat.le_of_ble_eq_true rfl)) dL_law_789 ⟨by show cells + 128 + 0 ≤ 601024; omega, by show slots + 128 + 0 ≤ 7293034; omega⟩) h.mm.1 h.mm.2.1 ⟨rfl, rfl⟩) h (fun o w H locs hw h => ?_)
  obtain ⟨rfl, rfl⟩ := hw
  show W _ _ _ _ _ _ _ _ _ _ _ _ _ _ _ (F0 m 792 ls [.int r, .int r])
  refine lv_icmp_eq (tgt := 1743) S.1 S.2.1 dL_law_792 (by decide) (fun _ => ?_) (fun b => absurd rfl b)
  exact kk H locs ⟨LP, kf, σ, ρ, μ, h, hPL, hA⟩
set_option maxRecDepth 20000 in
theorem w_law_atWhom (S : CallFix p m c cL_law 8 s #[Value.ref b] UL "SideBySideLaw") (hK : ∀ ad : Nat → Nat, KK (D, C3, ad) s) (hx : va_X b L xs s s.heap) (hb : b < s.heap.size) (hi : i + 6 ≤ L) (hL : L ≤ 3072) (hl : lv_has ls 8 [(4, .int (nI i)), (3, .ref bo), (2, .ref (adm 0)), (1, .ref (adc 0)), (0, .ref b)]) (hS : LSt s D C3 adc adm wo H locs) (hc : cells + 128 ≤ 601024) (hs : slots + 128 ≤ 7293034)
    (kk : ∀ (H1 : Heap) (locs1 : List Loc), LSt s D C3 adc adm wo H1 locs1 → W p l e room_1 s m #[Value.ref b] below meth c H1 locs1 (cells + 128) (slots + 128) Q (F0 m 1743 ls [])) : W p l e room_1 s m #[Value.ref b] below meth c H locs cells slots Q (F0 m 797 ls []) := by
  obtain ⟨LP, kf, σ, ρ, μ, h, hPL, hA⟩ := hS
  obtain ⟨r, σ1, ρ1, μ1, e1, e2, hA1⟩ : ∃ r σ1 ρ1 μ1, X11_atWhom kf σ ρ (xs (i + 1)) = some (r, σ1, ρ1) ∧ X12_atWhom μ (xs (i + 1)) = some (r, μ1) ∧ All σ1 ρ1 kf μ1 := E_atWhom hA (xs (i + 1))
  refine lv_aload_n S.1 S.2.1 dL_law_797 rfl (lv_at hl 3 rfl) ?_
  refine r_scr (j := 1) S hx hb (by omega) hL (by omega) h hl dL_law_798 dL_law_799 dL_law_801 dL_law_802 dL_law_803 ?_
  refine k_c (run_m (mc := 128) (ms := 128) (Rr := fun o w => o = some (.int r) ∧ w = WCl D C3 adc LP kf σ1 ρ1) (va_runV (As := [.int (xs (i + 1))]) (rest := []) S (c_X11_atWhom (g := (D, C3, adc)) (A := va_A (WCl D C3 adc LP kf σ ρ) H.size) hPL e1) (cwV 1 S.2.2.2.2 (ul_V tw_3_98 tw_3_99 tw_3_100 tw_1_1 cw_X11_atWhom) rfl rfl rfl hv_X11_atWhom ⟨Nat.le_of_ble_eq_true rfl, Nat.le_of_ble_eq_true rfl⟩) ⟨PreM.blind, h.mc.recv (hK adc) cfX11 0 (by decide) ly_0, h.mc.pre (hK adc)⟩ rfl rfl hl.1 rfl (lv_room (Nat.le_of_ble_eq_true rfl)) dL_law_804 ⟨by show cells + 0 ≤ 601024; omega, by show slots + 0 ≤ 7293034; omega⟩) ⟨rfl, rfl⟩) h (fun o w H locs hw h => ?_)
  obtain ⟨rfl, rfl⟩ := hw
  show W _ _ _ _ _ _ _ _ _ _ _ _ _ _ _ (F0 m 807 ls [.int r])
  refine lv_aload_n S.1 S.2.1 dL_law_807 rfl (lv_at hl 2 rfl) ?_
  refine r_scr (j := 1) S hx hb (by omega) hL (by omega) h hl dL_law_808 dL_law_809 dL_law_811 dL_law_812 dL_law_813 ?_
  refine k_r (run_m (mc := 0) (ms := 0) (Rr := fun o w => o = some (.int r) ∧ w = WMo D C3 adm μ1) (va_runV (As := [.int (xs (i + 1))]) (rest := [.int r]) S (c_X12_atWhom (g := (D, C3, adm)) (A := va_A (WMo D C3 adm μ) H.size) e2) (cwV 1 S.2.2.2.2 (ul_V tw_6_55 tw_6_56 tw_6_57 tw_1_12 cw_X12_atWhom) rfl rfl rfl hv_X12_atWhom ⟨Nat.le_of_ble_eq_true rfl, Nat.le_of_ble_eq_true rfl⟩) ⟨PreM.blind, h.mm.recv (hK adm) cfX12 0 (by decide) lm_0, h.mm.pre (hK adm)⟩ rfl rfl hl.1 rfl (lv_room (Nat.le_of_ble_eq_true rfl)) dL_law_814 ⟨by show cells + 128 + 0 ≤ 601024; omega, by show slots + 128 + 0 ≤ 7293034; omega⟩) ⟨rfl, rfl⟩) h (fun o w H locs hw h => ?_)
  obtain ⟨rfl, rfl⟩ := hw
  show W _ _ _ _ _ _ _ _ _ _ _ _ _ _ _ (F0 m 817 ls [.int r, .int r])
  refine lv_icmp_eq (tgt := 1743) S.1 S.2.1 dL_law_817 (by decide) (fun _ => ?_) (fun b => absurd rfl b)
  exact kk H locs ⟨LP, kf, σ1, ρ1, μ1, h, hPL, hA1⟩
set_option maxRecDepth 20000 in
theorem w_law_fewest (S : CallFix p m c cL_law 8 s #[Value.ref b] UL "SideBySideLaw") (hK : ∀ ad : Nat → Nat, KK (D, C3, ad) s) (hx : va_X b L xs s s.heap) (hb : b < s.heap.size) (hi : i + 6 ≤ L) (hL : L ≤ 3072) (hl : lv_has ls 8 [(4, .int (nI i)), (3, .ref bo), (2, .ref (adm 0)), (1, .ref (adc 0)), (0, .ref b)]) (hS : LSt s D C3 adc adm wo H locs) (hc : cells + 128 ≤ 601024) (hs : slots + 128 ≤ 7293034)
    (kk : ∀ (H1 : Heap) (locs1 : List Loc), LSt s D C3 adc adm wo H1 locs1 → W p l e room_1 s m #[Value.ref b] below meth c H1 locs1 (cells + 128) (slots + 128) Q (F0 m 1743 ls [])) : W p l e room_1 s m #[Value.ref b] below meth c H locs cells slots Q (F0 m 822 ls []) := by
  obtain ⟨LP, kf, σ, ρ, μ, h, hPL, hA⟩ := hS
  obtain ⟨r, σ1, ρ1, μ1, e1, e2, hA1⟩ : ∃ r σ1 ρ1 μ1, X11_fewest kf σ ρ (xs (i + 1)) = some (r, σ1, ρ1) ∧ X12_fewest μ (xs (i + 1)) = some (r, μ1) ∧ All σ1 ρ1 kf μ1 := E_fewest hA (xs (i + 1))
  refine lv_aload_n S.1 S.2.1 dL_law_822 rfl (lv_at hl 3 rfl) ?_
  refine r_scr (j := 1) S hx hb (by omega) hL (by omega) h hl dL_law_823 dL_law_824 dL_law_826 dL_law_827 dL_law_828 ?_
  refine k_c (run_m (mc := 128) (ms := 128) (Rr := fun o w => o = some (.int r) ∧ w = WCl D C3 adc LP kf σ1 ρ1) (va_runV (As := [.int (xs (i + 1))]) (rest := []) S (c_X11_fewest (g := (D, C3, adc)) (A := va_A (WCl D C3 adc LP kf σ ρ) H.size) hPL e1) (cwV 1 S.2.2.2.2 (ul_V tw_3_102 tw_3_103 tw_3_104 tw_1_1 cw_X11_fewest) rfl rfl rfl hv_X11_fewest ⟨Nat.le_of_ble_eq_true rfl, Nat.le_of_ble_eq_true rfl⟩) ⟨PreM.blind, h.mc.recv (hK adc) cfX11 0 (by decide) ly_0, h.mc.pre (hK adc)⟩ rfl rfl hl.1 rfl (lv_room (Nat.le_of_ble_eq_true rfl)) dL_law_829 ⟨by show cells + 0 ≤ 601024; omega, by show slots + 0 ≤ 7293034; omega⟩) ⟨rfl, rfl⟩) h (fun o w H locs hw h => ?_)
  obtain ⟨rfl, rfl⟩ := hw
  show W _ _ _ _ _ _ _ _ _ _ _ _ _ _ _ (F0 m 832 ls [.int r])
  refine lv_aload_n S.1 S.2.1 dL_law_832 rfl (lv_at hl 2 rfl) ?_
  refine r_scr (j := 1) S hx hb (by omega) hL (by omega) h hl dL_law_833 dL_law_834 dL_law_836 dL_law_837 dL_law_838 ?_
  refine k_r (run_m (mc := 0) (ms := 0) (Rr := fun o w => o = some (.int r) ∧ w = WMo D C3 adm μ1) (va_runV (As := [.int (xs (i + 1))]) (rest := [.int r]) S (c_X12_fewest (g := (D, C3, adm)) (A := va_A (WMo D C3 adm μ) H.size) e2) (cwV 1 S.2.2.2.2 (ul_V tw_6_59 tw_6_60 tw_6_61 tw_1_12 cw_X12_fewest) rfl rfl rfl hv_X12_fewest ⟨Nat.le_of_ble_eq_true rfl, Nat.le_of_ble_eq_true rfl⟩) ⟨PreM.blind, h.mm.recv (hK adm) cfX12 0 (by decide) lm_0, h.mm.pre (hK adm)⟩ rfl rfl hl.1 rfl (lv_room (Nat.le_of_ble_eq_true rfl)) dL_law_839 ⟨by show cells + 128 + 0 ≤ 601024; omega, by show slots + 128 + 0 ≤ 7293034; omega⟩) ⟨rfl, rfl⟩) h (fun o w H locs hw h => ?_)
  obtain ⟨rfl, rfl⟩ := hw
  show W _ _ _ _ _ _ _ _ _ _ _ _ _ _ _ (F0 m 842 ls [.int r, .int r])
  refine lv_icmp_eq (tgt := 1743) S.1 S.2.1 dL_law_842 (by decide) (fun _ => ?_) (fun b => absurd rfl b)
  exact kk H locs ⟨LP, kf, σ1, ρ1, μ1, h, hPL, hA1⟩
set_option maxRecDepth 20000 in
theorem w_law_bestForm (S : CallFix p m c cL_law 8 s #[Value.ref b] UL "SideBySideLaw") (hK : ∀ ad : Nat → Nat, KK (D, C3, ad) s) (hx : va_X b L xs s s.heap) (hb : b < s.heap.size) (hi : i + 6 ≤ L) (hL : L ≤ 3072) (hl : lv_has ls 8 [(4, .int (nI i)), (3, .ref bo), (2, .ref (adm 0)), (1, .ref (adc 0)), (0, .ref b)]) (hS : LSt s D C3 adc adm wo H locs) (hc : cells + 128 ≤ 601024) (hs : slots + 128 ≤ 7293034)
    (kk : ∀ (H1 : Heap) (locs1 : List Loc), LSt s D C3 adc adm wo H1 locs1 → W p l e room_1 s m #[Value.ref b] below meth c H1 locs1 (cells + 128) (slots + 128) Q (F0 m 1743 ls [])) : W p l e room_1 s m #[Value.ref b] below meth c H locs cells slots Q (F0 m 847 ls []) := by
  obtain ⟨LP, kf, σ, ρ, μ, h, hPL, hA⟩ := hS
  obtain ⟨r, σ1, ρ1, μ1, e1, e2, hA1⟩ : ∃ r σ1 ρ1 μ1, X11_bestForm kf σ ρ (xs (i + 1)) (xs (i + 2)) = some (r, σ1, ρ1) ∧ X12_bestForm μ (xs (i + 1)) (xs (i + 2)) = some (r, μ1) ∧ All σ1 ρ1 kf μ1 := E_bestForm hA (xs (i + 1)) (xs (i + 2))
  refine lv_aload_n S.1 S.2.1 dL_law_847 rfl (lv_at hl 3 rfl) ?_
  refine r_scr (j := 1) S hx hb (by omega) hL (by omega) h hl dL_law_848 dL_law_849 dL_law_851 dL_law_852 dL_law_853 ?_
  refine r_scr (j := 2) S hx hb (by omega) hL (by omega) h hl dL_law_854 dL_law_855 dL_law_857 dL_law_858 dL_law_859 ?_
  refine k_c (run_m (mc := 128) (ms := 128) (Rr := fun o w => o = some (.int r) ∧ w = WCl D C3 adc LP kf σ1 ρ1) (va_runV (As := [.int (xs (i + 1)), .int (xs (i + 2))]) (rest := []) S (c_X11_bestForm (g := (D, C3, adc)) (A := va_A (WCl D C3 adc LP kf σ ρ) H.size) hPL e1) (cwV 2 S.2.2.2.2 (ul_V tw_3_110 tw_3_111 tw_3_112 tw_1_1 cw_X11_bestForm) rfl rfl rfl hv_X11_bestForm ⟨Nat.le_of_ble_eq_true rfl, Nat.le_of_ble_eq_true rfl⟩) ⟨PreM.blind, h.mc.recv (hK adc) cfX11 0 (by decide) ly_0, h.mc.pre (hK adc)⟩ rfl rfl hl.1 rfl (lv_room (Nat.le_of_ble_eq_true rfl)) dL_law_860 ⟨by show cells + 0 ≤ 601024; omega, by show slots + 0 ≤ 7293034; omega⟩) ⟨rfl, rfl⟩) h (fun o w H locs hw h => ?_)
  obtain ⟨rfl, rfl⟩ := hw
  show W _ _ _ _ _ _ _ _ _ _ _ _ _ _ _ (F0 m 863 ls [.int r])
  refine lv_aload_n S.1 S.2.1 dL_law_863 rfl (lv_at hl 2 rfl) ?_
  refine r_scr (j := 1) S hx hb (by omega) hL (by omega) h hl dL_law_864 dL_law_865 dL_law_867 dL_law_868 dL_law_869 ?_
  refine r_scr (j := 2) S hx hb (by omega) hL (by omega) h hl dL_law_870 dL_law_871 dL_law_873 dL_law_874 dL_law_875 ?_
  refine k_r (run_m (mc := 0) (ms := 0) (Rr := fun o w => o = some (.int r) ∧ w = WMo D C3 adm μ1) (va_runV (As := [.int (xs (i + 1)), .int (xs (i + 2))]) (rest := [.int r]) S (c_X12_bestForm (g := (D, C3, adm)) (A := va_A (WMo D C3 adm μ) H.size) e2) (cwV 2 S.2.2.2.2 (ul_V tw_6_68 tw_6_69 tw_6_70 tw_1_12 cw_X12_bestForm) rfl rfl rfl hv_X12_bestForm ⟨Nat.le_of_ble_eq_true rfl, Nat.le_of_ble_eq_true rfl⟩) ⟨PreM.blind, h.mm.recv (hK adm) cfX12 0 (by decide) lm_0, h.mm.pre (hK adm)⟩ rfl rfl hl.1 rfl (lv_room (Nat.le_of_ble_eq_true rfl)) dL_law_876 ⟨by show cells + 128 + 0 ≤ 601024; omega, by show slots + 128 + 0 ≤ 7293034; omega⟩) ⟨rfl, rfl⟩) h (fun o w H locs hw h => ?_)
  obtain ⟨rfl, rfl⟩ := hw
  show W _ _ _ _ _ _ _ _ _ _ _ _ _ _ _ (F0 m 879 ls [.int r, .int r])
  refine lv_icmp_eq (tgt := 1743) S.1 S.2.1 dL_law_879 (by decide) (fun _ => ?_) (fun b => absurd rfl b)
  exact kk H locs ⟨LP, kf, σ1, ρ1, μ1, h, hPL, hA1⟩
set_option maxRecDepth 20000 in
theorem w_law_bestHabit (S : CallFix p m c cL_law 8 s #[Value.ref b] UL "SideBySideLaw") (hK : ∀ ad : Nat → Nat, KK (D, C3, ad) s) (hx : va_X b L xs s s.heap) (hb : b < s.heap.size) (hi : i + 6 ≤ L) (hL : L ≤ 3072) (hl : lv_has ls 8 [(4, .int (nI i)), (3, .ref bo), (2, .ref (adm 0)), (1, .ref (adc 0)), (0, .ref b)]) (hS : LSt s D C3 adc adm wo H locs) (hc : cells + 128 ≤ 601024) (hs : slots + 128 ≤ 7293034)
    (kk : ∀ (H1 : Heap) (locs1 : List Loc), LSt s D C3 adc adm wo H1 locs1 → W p l e room_1 s m #[Value.ref b] below meth c H1 locs1 (cells + 128) (slots + 128) Q (F0 m 1743 ls [])) : W p l e room_1 s m #[Value.ref b] below meth c H locs cells slots Q (F0 m 884 ls []) := by
  obtain ⟨LP, kf, σ, ρ, μ, h, hPL, hA⟩ := hS
  obtain ⟨r, σ1, ρ1, μ1, e1, e2, hA1⟩ : ∃ r σ1 ρ1 μ1, X11_bestHabit kf σ ρ (xs (i + 1)) (xs (i + 2)) = some (r, σ1, ρ1) ∧ X12_bestHabit μ (xs (i + 1)) (xs (i + 2)) = some (r, μ1) ∧ All σ1 ρ1 kf μ1 := E_bestHabit hA (xs (i + 1)) (xs (i + 2))
  refine lv_aload_n S.1 S.2.1 dL_law_884 rfl (lv_at hl 3 rfl) ?_
  refine r_scr (j := 1) S hx hb (by omega) hL (by omega) h hl dL_law_885 dL_law_886 dL_law_888 dL_law_889 dL_law_890 ?_
  refine r_scr (j := 2) S hx hb (by omega) hL (by omega) h hl dL_law_891 dL_law_892 dL_law_894 dL_law_895 dL_law_896 ?_
  refine k_c (run_m (mc := 128) (ms := 128) (Rr := fun o w => o = some (.int r) ∧ w = WCl D C3 adc LP kf σ1 ρ1) (va_runV (As := [.int (xs (i + 1)), .int (xs (i + 2))]) (rest := []) S (c_X11_bestHabit (g := (D, C3, adc)) (A := va_A (WCl D C3 adc LP kf σ ρ) H.size) hPL e1) (cwV 2 S.2.2.2.2 (ul_V tw_3_131 tw_3_132 tw_3_133 tw_1_1 cw_X11_bestHabit) rfl rfl rfl hv_X11_bestHabit ⟨Nat.le_of_ble_eq_true rfl, Nat.le_of_ble_eq_true rfl⟩) ⟨PreM.blind, h.mc.recv (hK adc) cfX11 0 (by decide) ly_0, h.mc.pre (hK adc)⟩ rfl rfl hl.1 rfl (lv_room (Nat.le_of_ble_eq_true rfl)) dL_law_897 ⟨by show cells + 0 ≤ 601024; omega, by show slots + 0 ≤ 7293034; omega⟩) ⟨rfl, rfl⟩) h (fun o w H locs hw h => ?_)
  obtain ⟨rfl, rfl⟩ := hw
  show W _ _ _ _ _ _ _ _ _ _ _ _ _ _ _ (F0 m 900 ls [.int r])
  refine lv_aload_n S.1 S.2.1 dL_law_900 rfl (lv_at hl 2 rfl) ?_
  refine r_scr (j := 1) S hx hb (by omega) hL (by omega) h hl dL_law_901 dL_law_902 dL_law_904 dL_law_905 dL_law_906 ?_
  refine r_scr (j := 2) S hx hb (by omega) hL (by omega) h hl dL_law_907 dL_law_908 dL_law_910 dL_law_911 dL_law_912 ?_
  refine k_r (run_m (mc := 0) (ms := 0) (Rr := fun o w => o = some (.int r) ∧ w = WMo D C3 adm μ1) (va_runV (As := [.int (xs (i + 1)), .int (xs (i + 2))]) (rest := [.int r]) S (c_X12_bestHabit (g := (D, C3, adm)) (A := va_A (WMo D C3 adm μ) H.size) e2) (cwV 2 S.2.2.2.2 (ul_V tw_6_80 tw_6_81 tw_6_82 tw_1_12 cw_X12_bestHabit) rfl rfl rfl hv_X12_bestHabit ⟨Nat.le_of_ble_eq_true rfl, Nat.le_of_ble_eq_true rfl⟩) ⟨PreM.blind, h.mm.recv (hK adm) cfX12 0 (by decide) lm_0, h.mm.pre (hK adm)⟩ rfl rfl hl.1 rfl (lv_room (Nat.le_of_ble_eq_true rfl)) dL_law_913 ⟨by show cells + 128 + 0 ≤ 601024; omega, by show slots + 128 + 0 ≤ 7293034; omega⟩) ⟨rfl, rfl⟩) h (fun o w H locs hw h => ?_)
  obtain ⟨rfl, rfl⟩ := hw
  show W _ _ _ _ _ _ _ _ _ _ _ _ _ _ _ (F0 m 916 ls [.int r, .int r])
  refine lv_icmp_eq (tgt := 1743) S.1 S.2.1 dL_law_916 (by decide) (fun _ => ?_) (fun b => absurd rfl b)
  exact kk H locs ⟨LP, kf, σ1, ρ1, μ1, h, hPL, hA1⟩
set_option maxRecDepth 20000 in
theorem w_law_change (S : CallFix p m c cL_law 8 s #[Value.ref b] UL "SideBySideLaw") (hK : ∀ ad : Nat → Nat, KK (D, C3, ad) s) (hx : va_X b L xs s s.heap) (hb : b < s.heap.size) (hi : i + 6 ≤ L) (hL : L ≤ 3072) (hl : lv_has ls 8 [(4, .int (nI i)), (3, .ref bo), (2, .ref (adm 0)), (1, .ref (adc 0)), (0, .ref b)]) (hS : LSt s D C3 adc adm wo H locs) (hc : cells + 128 ≤ 601024) (hs : slots + 128 ≤ 7293034)
    (kk : ∀ (H1 : Heap) (locs1 : List Loc), LSt s D C3 adc adm wo H1 locs1 → W p l e room_1 s m #[Value.ref b] below meth c H1 locs1 (cells + 128) (slots + 128) Q (F0 m 1743 ls [])) : W p l e room_1 s m #[Value.ref b] below meth c H locs cells slots Q (F0 m 921 ls []) := by
  obtain ⟨LP, kf, σ, ρ, μ, h, hPL, hA⟩ := hS
  obtain ⟨r, σ1, ρ1, μ1, e1, e2, hA1⟩ : ∃ r σ1 ρ1 μ1, X11_change kf σ ρ (xs (i + 1)) (xs (i + 2)) (xs (i + 3)) (xs (i + 4)) = some (r, σ1, ρ1) ∧ X12_change μ (xs (i + 1)) (xs (i + 2)) (xs (i + 3)) (xs (i + 4)) = some (r, μ1) ∧ All σ1 ρ1 kf μ1 := E_change hA (xs (i + 1)) (xs (i + 2)) (xs (i + 3)) (xs (i + 4))
  refine lv_aload_n S.1 S.2.1 dL_law_921 rfl (lv_at hl 3 rfl) ?_
  refine r_scr (j := 1) S hx hb (by omega) hL (by omega) h hl dL_law_922 dL_law_923 dL_law_925 dL_law_926 dL_law_927 ?_
  refine r_scr (j := 2) S hx hb (by omega) hL (by omega) h hl dL_law_928 dL_law_929 dL_law_931 dL_law_932 dL_law_933 ?_
  refine r_scr (j := 3) S hx hb (by omega) hL (by omega) h hl dL_law_934 dL_law_935 dL_law_937 dL_law_938 dL_law_939 ?_
  refine r_scr (j := 4) S hx hb (by omega) hL (by omega) h hl dL_law_940 dL_law_941 dL_law_943 dL_law_944 dL_law_945 ?_
  refine k_c (run_m (mc := 128) (ms := 128) (Rr := fun o w => o = some (.int r) ∧ w = WCl D C3 adc LP kf σ1 ρ1) (va_runV (As := [.int (xs (i + 1)), .int (xs (i + 2)), .int (xs (i + 3)), .int (xs (i + 4))]) (rest := []) S (c_X11_change (g := (D, C3, adc)) (A := va_A (WCl D C3 adc LP kf σ ρ) H.size) hPL e1) (cwV 4 S.2.2.2.2 (ul_V tw_3_135 tw_3_136 tw_3_137 tw_1_1 cw_X11_change) rfl rfl rfl hv_X11_change ⟨Nat.le_of_ble_eq_true rfl, Nat.le_of_ble_eq_true rfl⟩) ⟨PreM.blind, h.mc.recv (hK adc) cfX11 0 (by decide) ly_0, h.mc.pre (hK adc)⟩ rfl rfl hl.1 rfl (lv_room (Nat.le_of_ble_eq_true rfl)) dL_law_946 ⟨by show cells + 0 ≤ 601024; omega, by show slots + 0 ≤ 7293034; omega⟩) ⟨rfl, rfl⟩) h (fun o w H locs hw h => ?_)
  obtain ⟨rfl, rfl⟩ := hw
  show W _ _ _ _ _ _ _ _ _ _ _ _ _ _ _ (F0 m 949 ls [.int r])
  refine lv_aload_n S.1 S.2.1 dL_law_949 rfl (lv_at hl 2 rfl) ?_
  refine r_scr (j := 1) S hx hb (by omega) hL (by omega) h hl dL_law_950 dL_law_951 dL_law_953 dL_law_954 dL_law_955 ?_
  refine r_scr (j := 2) S hx hb (by omega) hL (by omega) h hl dL_law_956 dL_law_957 dL_law_959 dL_law_960 dL_law_961 ?_
  refine r_scr (j := 3) S hx hb (by omega) hL (by omega) h hl dL_law_962 dL_law_963 dL_law_965 dL_law_966 dL_law_967 ?_
  refine r_scr (j := 4) S hx hb (by omega) hL (by omega) h hl dL_law_968 dL_law_969 dL_law_971 dL_law_972 dL_law_973 ?_
  refine k_r (run_m (mc := 0) (ms := 0) (Rr := fun o w => o = some (.int r) ∧ w = WMo D C3 adm μ1) (va_runV (As := [.int (xs (i + 1)), .int (xs (i + 2)), .int (xs (i + 3)), .int (xs (i + 4))]) (rest := [.int r]) S (c_X12_change (g := (D, C3, adm)) (A := va_A (WMo D C3 adm μ) H.size) e2) (cwV 4 S.2.2.2.2 (ul_V tw_6_84 tw_6_85 tw_6_86 tw_1_12 cw_X12_change) rfl rfl rfl hv_X12_change ⟨Nat.le_of_ble_eq_true rfl, Nat.le_of_ble_eq_true rfl⟩) ⟨PreM.blind, h.mm.recv (hK adm) cfX12 0 (by decide) lm_0, h.mm.pre (hK adm)⟩ rfl rfl hl.1 rfl (lv_room (Nat.le_of_ble_eq_true rfl)) dL_law_974 ⟨by show cells + 128 + 0 ≤ 601024; omega, by show slots + 128 + 0 ≤ 7293034; omega⟩) ⟨rfl, rfl⟩) h (fun o w H locs hw h => ?_)
  obtain ⟨rfl, rfl⟩ := hw
  show W _ _ _ _ _ _ _ _ _ _ _ _ _ _ _ (F0 m 977 ls [.int r, .int r])
  refine lv_icmp_eq (tgt := 1743) S.1 S.2.1 dL_law_977 (by decide) (fun _ => ?_) (fun b => absurd rfl b)
  exact kk H locs ⟨LP, kf, σ1, ρ1, μ1, h, hPL, hA1⟩
set_option maxRecDepth 20000 in
theorem w_law_rally (S : CallFix p m c cL_law 8 s #[Value.ref b] UL "SideBySideLaw") (hK : ∀ ad : Nat → Nat, KK (D, C3, ad) s) (hx : va_X b L xs s s.heap) (hb : b < s.heap.size) (hi : i + 6 ≤ L) (hL : L ≤ 3072) (hl : lv_has ls 8 [(4, .int (nI i)), (3, .ref bo), (2, .ref (adm 0)), (1, .ref (adc 0)), (0, .ref b)]) (hS : LSt s D C3 adc adm wo H locs) (hc : cells + 128 ≤ 601024) (hs : slots + 128 ≤ 7293034)
    (kk : ∀ (H1 : Heap) (locs1 : List Loc), LSt s D C3 adc adm wo H1 locs1 → W p l e room_1 s m #[Value.ref b] below meth c H1 locs1 (cells + 128) (slots + 128) Q (F0 m 1743 ls [])) : W p l e room_1 s m #[Value.ref b] below meth c H locs cells slots Q (F0 m 982 ls []) := by
  obtain ⟨LP, kf, σ, ρ, μ, h, hPL, hA⟩ := hS
  obtain ⟨r, σ1, ρ1, μ1, e1, e2, hA1⟩ : ∃ r σ1 ρ1 μ1, X11_rally kf σ ρ (xs (i + 1)) (xs (i + 2)) = some (r, σ1, ρ1) ∧ X12_rally μ (xs (i + 1)) (xs (i + 2)) = some (r, μ1) ∧ All σ1 ρ1 kf μ1 := E_rally hA (xs (i + 1)) (xs (i + 2))
  refine lv_aload_n S.1 S.2.1 dL_law_982 rfl (lv_at hl 3 rfl) ?_
  refine r_scr (j := 1) S hx hb (by omega) hL (by omega) h hl dL_law_983 dL_law_984 dL_law_986 dL_law_987 dL_law_988 ?_
  refine r_scr (j := 2) S hx hb (by omega) hL (by omega) h hl dL_law_989 dL_law_990 dL_law_992 dL_law_993 dL_law_994 ?_
  refine k_c (run_m (mc := 128) (ms := 128) (Rr := fun o w => o = some (.int r) ∧ w = WCl D C3 adc LP kf σ1 ρ1) (va_runV (As := [.int (xs (i + 1)), .int (xs (i + 2))]) (rest := []) S (c_X11_rally (g := (D, C3, adc)) (A := va_A (WCl D C3 adc LP kf σ ρ) H.size) hPL e1) (cwV 2 S.2.2.2.2 (ul_V tw_3_139 tw_3_140 tw_3_141 tw_1_1 cw_X11_rally) rfl rfl rfl hv_X11_rally ⟨Nat.le_of_ble_eq_true rfl, Nat.le_of_ble_eq_true rfl⟩) ⟨PreM.blind, h.mc.recv (hK adc) cfX11 0 (by decide) ly_0, h.mc.pre (hK adc)⟩ rfl rfl hl.1 rfl (lv_room (Nat.le_of_ble_eq_true rfl)) dL_law_995 ⟨by show cells + 0 ≤ 601024; omega, by show slots + 0 ≤ 7293034; omega⟩) ⟨rfl, rfl⟩) h (fun o w H locs hw h => ?_)
  obtain ⟨rfl, rfl⟩ := hw
  show W _ _ _ _ _ _ _ _ _ _ _ _ _ _ _ (F0 m 998 ls [.int r])
  refine lv_aload_n S.1 S.2.1 dL_law_998 rfl (lv_at hl 2 rfl) ?_
  refine r_scr (j := 1) S hx hb (by omega) hL (by omega) h hl dL_law_999 dL_law_1000 dL_law_1002 dL_law_1003 dL_law_1004 ?_
  refine r_scr (j := 2) S hx hb (by omega) hL (by omega) h hl dL_law_1005 dL_law_1006 dL_law_1008 dL_law_1009 dL_law_1010 ?_
  refine k_r (run_m (mc := 0) (ms := 0) (Rr := fun o w => o = some (.int r) ∧ w = WMo D C3 adm μ1) (va_runV (As := [.int (xs (i + 1)), .int (xs (i + 2))]) (rest := [.int r]) S (c_X12_rally (g := (D, C3, adm)) (A := va_A (WMo D C3 adm μ) H.size) e2) (cwV 2 S.2.2.2.2 (ul_V tw_6_88 tw_6_89 tw_6_90 tw_1_12 cw_X12_rally) rfl rfl rfl hv_X12_rally ⟨Nat.le_of_ble_eq_true rfl, Nat.le_of_ble_eq_true rfl⟩) ⟨PreM.blind, h.mm.recv (hK adm) cfX12 0 (by decide) lm_0, h.mm.pre (hK adm)⟩ rfl rfl hl.1 rfl (lv_room (Nat.le_of_ble_eq_true rfl)) dL_law_1011 ⟨by show cells + 128 + 0 ≤ 601024; omega, by show slots + 128 + 0 ≤ 7293034; omega⟩) ⟨rfl, rfl⟩) h (fun o w H locs hw h => ?_)
  obtain ⟨rfl, rfl⟩ := hw
  show W _ _ _ _ _ _ _ _ _ _ _ _ _ _ _ (F0 m 1014 ls [.int r, .int r])
  refine lv_icmp_eq (tgt := 1743) S.1 S.2.1 dL_law_1014 (by decide) (fun _ => ?_) (fun b => absurd rfl b)
  exact kk H locs ⟨LP, kf, σ1, ρ1, μ1, h, hPL, hA1⟩
set_option maxRecDepth 20000 in
theorem w_law_ways (S : CallFix p m c cL_law 8 s #[Value.ref b] UL "SideBySideLaw") (hK : ∀ ad : Nat → Nat, KK (D, C3, ad) s) (hx : va_X b L xs s s.heap) (hb : b < s.heap.size) (hi : i + 6 ≤ L) (hL : L ≤ 3072) (hl : lv_has ls 8 [(4, .int (nI i)), (3, .ref bo), (2, .ref (adm 0)), (1, .ref (adc 0)), (0, .ref b)]) (hS : LSt s D C3 adc adm wo H locs) (hc : cells + 128 ≤ 601024) (hs : slots + 128 ≤ 7293034)
    (kk : ∀ (H1 : Heap) (locs1 : List Loc), LSt s D C3 adc adm wo H1 locs1 → W p l e room_1 s m #[Value.ref b] below meth c H1 locs1 (cells + 128) (slots + 128) Q (F0 m 1743 ls [])) : W p l e room_1 s m #[Value.ref b] below meth c H locs cells slots Q (F0 m 1019 ls []) := by
  obtain ⟨LP, kf, σ, ρ, μ, h, hPL, hA⟩ := hS
  obtain ⟨r, σ1, ρ1, μ1, e1, e2, hA1⟩ : ∃ r σ1 ρ1 μ1, X11_ways kf σ ρ (xs (i + 1)) (xs (i + 2)) = some (r, σ1, ρ1) ∧ X12_ways μ (xs (i + 1)) (xs (i + 2)) = some (r, μ1) ∧ All σ1 ρ1 kf μ1 := E_ways hA (xs (i + 1)) (xs (i + 2))
  refine lv_aload_n S.1 S.2.1 dL_law_1019 rfl (lv_at hl 3 rfl) ?_
  refine r_scr (j := 1) S hx hb (by omega) hL (by omega) h hl dL_law_1020 dL_law_1021 dL_law_1023 dL_law_1024 dL_law_1025 ?_
  refine r_scr (j := 2) S hx hb (by omega) hL (by omega) h hl dL_law_1026 dL_law_1027 dL_law_1029 dL_law_1030 dL_law_1031 ?_
  refine k_c (run_m (mc := 128) (ms := 128) (Rr := fun o w => o = some (.int r) ∧ w = WCl D C3 adc LP kf σ1 ρ1) (va_runV (As := [.int (xs (i + 1)), .int (xs (i + 2))]) (rest := []) S (c_X11_ways (g := (D, C3, adc)) (A := va_A (WCl D C3 adc LP kf σ ρ) H.size) hPL e1) (cwV 2 S.2.2.2.2 (ul_V tw_3_165 tw_3_166 tw_3_167 tw_1_1 cw_X11_ways) rfl rfl rfl hv_X11_ways ⟨Nat.le_of_ble_eq_true rfl, Nat.le_of_ble_eq_true rfl⟩) ⟨PreM.blind, h.mc.recv (hK adc) cfX11 0 (by decide) ly_0, h.mc.pre (hK adc)⟩ rfl rfl hl.1 rfl (lv_room (Nat.le_of_ble_eq_true rfl)) dL_law_1032 ⟨by show cells + 0 ≤ 601024; omega, by show slots + 0 ≤ 7293034; omega⟩) ⟨rfl, rfl⟩) h (fun o w H locs hw h => ?_)
  obtain ⟨rfl, rfl⟩ := hw
  show W _ _ _ _ _ _ _ _ _ _ _ _ _ _ _ (F0 m 1035 ls [.int r])
  refine lv_aload_n S.1 S.2.1 dL_law_1035 rfl (lv_at hl 2 rfl) ?_
  refine r_scr (j := 1) S hx hb (by omega) hL (by omega) h hl dL_law_1036 dL_law_1037 dL_law_1039 dL_law_1040 dL_law_1041 ?_
  refine r_scr (j := 2) S hx hb (by omega) hL (by omega) h hl dL_law_1042 dL_law_1043 dL_law_1045 dL_law_1046 dL_law_1047 ?_
  refine k_r (run_m (mc := 0) (ms := 0) (Rr := fun o w => o = some (.int r) ∧ w = WMo D C3 adm μ1) (va_runV (As := [.int (xs (i + 1)), .int (xs (i + 2))]) (rest := [.int r]) S (c_X12_ways (g := (D, C3, adm)) (A := va_A (WMo D C3 adm μ) H.size) e2) (cwV 2 S.2.2.2.2 (ul_V tw_6_100 tw_6_101 tw_6_102 tw_1_12 cw_X12_ways) rfl rfl rfl hv_X12_ways ⟨Nat.le_of_ble_eq_true rfl, Nat.le_of_ble_eq_true rfl⟩) ⟨PreM.blind, h.mm.recv (hK adm) cfX12 0 (by decide) lm_0, h.mm.pre (hK adm)⟩ rfl rfl hl.1 rfl (lv_room (Nat.le_of_ble_eq_true rfl)) dL_law_1048 ⟨by show cells + 128 + 0 ≤ 601024; omega, by show slots + 128 + 0 ≤ 7293034; omega⟩) ⟨rfl, rfl⟩) h (fun o w H locs hw h => ?_)
  obtain ⟨rfl, rfl⟩ := hw
  show W _ _ _ _ _ _ _ _ _ _ _ _ _ _ _ (F0 m 1051 ls [.int r, .int r])
  refine lv_icmp_eq (tgt := 1743) S.1 S.2.1 dL_law_1051 (by decide) (fun _ => ?_) (fun b => absurd rfl b)
  exact kk H locs ⟨LP, kf, σ1, ρ1, μ1, h, hPL, hA1⟩
set_option maxRecDepth 20000 in
theorem w_law_spent (S : CallFix p m c cL_law 8 s #[Value.ref b] UL "SideBySideLaw") (hK : ∀ ad : Nat → Nat, KK (D, C3, ad) s) (hx : va_X b L xs s s.heap) (hb : b < s.heap.size) (hi : i + 6 ≤ L) (hL : L ≤ 3072) (hl : lv_has ls 8 [(4, .int (nI i)), (3, .ref bo), (2, .ref (adm 0)), (1, .ref (adc 0)), (0, .ref b)]) (hS : LSt s D C3 adc adm wo H locs) (hc : cells + 128 ≤ 601024) (hs : slots + 128 ≤ 7293034)
    (kk : ∀ (H1 : Heap) (locs1 : List Loc), LSt s D C3 adc adm wo H1 locs1 → W p l e room_1 s m #[Value.ref b] below meth c H1 locs1 (cells + 128) (slots + 128) Q (F0 m 1743 ls [])) : W p l e room_1 s m #[Value.ref b] below meth c H locs cells slots Q (F0 m 1056 ls []) := by
  obtain ⟨LP, kf, σ, ρ, μ, h, hPL, hA⟩ := hS
  obtain ⟨r, σ1, ρ1, μ1, e1, e2, hA1⟩ : ∃ r σ1 ρ1 μ1, X11_spent kf σ ρ (xs (i + 1)) = some (r, σ1, ρ1) ∧ X12_spent μ (xs (i + 1)) = some (r, μ1) ∧ All σ1 ρ1 kf μ1 := E_spent hA (xs (i + 1))
  refine lv_aload_n S.1 S.2.1 dL_law_1056 rfl (lv_at hl 3 rfl) ?_
  refine r_scr (j := 1) S hx hb (by omega) hL (by omega) h hl dL_law_1057 dL_law_1058 dL_law_1060 dL_law_1061 dL_law_1062 ?_
  refine k_c (run_m (mc := 128) (ms := 128) (Rr := fun o w => o = some (.int r) ∧ w = WCl D C3 adc LP kf σ1 ρ1) (va_runV (As := [.int (xs (i + 1))]) (rest := []) S (c_X11_spent (g := (D, C3, adc)) (A := va_A (WCl D C3 adc LP kf σ ρ) H.size) hPL e1) (cwV 1 S.2.2.2.2 (ul_V tw_3_169 tw_3_170 tw_3_171 tw_1_1 cw_X11_spent) rfl rfl rfl hv_X11_spent ⟨Nat.le_of_ble_eq_true rfl, Nat.le_of_ble_eq_true rfl⟩) ⟨PreM.blind, h.mc.recv (hK adc) cfX11 0 (by decide) ly_0, h.mc.pre (hK adc)⟩ rfl rfl hl.1 rfl (lv_room (Nat.le_of_ble_eq_true rfl)) dL_law_1063 ⟨by show cells + 0 ≤ 601024; omega, by show slots + 0 ≤ 7293034; omega⟩) ⟨rfl, rfl⟩) h (fun o w H locs hw h => ?_)
  obtain ⟨rfl, rfl⟩ := hw
  show W _ _ _ _ _ _ _ _ _ _ _ _ _ _ _ (F0 m 1066 ls [.int r])
  refine lv_aload_n S.1 S.2.1 dL_law_1066 rfl (lv_at hl 2 rfl) ?_
  refine r_scr (j := 1) S hx hb (by omega) hL (by omega) h hl dL_law_1067 dL_law_1068 dL_law_1070 dL_law_1071 dL_law_1072 ?_
  refine k_r (run_m (mc := 0) (ms := 0) (Rr := fun o w => o = some (.int r) ∧ w = WMo D C3 adm μ1) (va_runV (As := [.int (xs (i + 1))]) (rest := [.int r]) S (c_X12_spent (g := (D, C3, adm)) (A := va_A (WMo D C3 adm μ) H.size) e2) (cwV 1 S.2.2.2.2 (ul_V tw_6_104 tw_6_105 tw_6_106 tw_1_12 cw_X12_spent) rfl rfl rfl hv_X12_spent ⟨Nat.le_of_ble_eq_true rfl, Nat.le_of_ble_eq_true rfl⟩) ⟨PreM.blind, h.mm.recv (hK adm) cfX12 0 (by decide) lm_0, h.mm.pre (hK adm)⟩ rfl rfl hl.1 rfl (lv_room (Nat.le_of_ble_eq_true rfl)) dL_law_1073 ⟨by show cells + 128 + 0 ≤ 601024; omega, by show slots + 128 + 0 ≤ 7293034; omega⟩) ⟨rfl, rfl⟩) h (fun o w H locs hw h => ?_)
  obtain ⟨rfl, rfl⟩ := hw
  show W _ _ _ _ _ _ _ _ _ _ _ _ _ _ _ (F0 m 1076 ls [.int r, .int r])
  refine lv_icmp_eq (tgt := 1743) S.1 S.2.1 dL_law_1076 (by decide) (fun _ => ?_) (fun b => absurd rfl b)
  exact kk H locs ⟨LP, kf, σ1, ρ1, μ1, h, hPL, hA1⟩
set_option maxRecDepth 20000 in
theorem w_law_whatIs (S : CallFix p m c cL_law 8 s #[Value.ref b] UL "SideBySideLaw") (hK : ∀ ad : Nat → Nat, KK (D, C3, ad) s) (hx : va_X b L xs s s.heap) (hb : b < s.heap.size) (hi : i + 6 ≤ L) (hL : L ≤ 3072) (hl : lv_has ls 8 [(4, .int (nI i)), (3, .ref bo), (2, .ref (adm 0)), (1, .ref (adc 0)), (0, .ref b)]) (hS : LSt s D C3 adc adm wo H locs) (hc : cells + 128 ≤ 601024) (hs : slots + 128 ≤ 7293034)
    (kk : ∀ (H1 : Heap) (locs1 : List Loc), LSt s D C3 adc adm wo H1 locs1 → W p l e room_1 s m #[Value.ref b] below meth c H1 locs1 (cells + 128) (slots + 128) Q (F0 m 1743 ls [])) : W p l e room_1 s m #[Value.ref b] below meth c H locs cells slots Q (F0 m 1081 ls []) := by
  obtain ⟨LP, kf, σ, ρ, μ, h, hPL, hA⟩ := hS
  obtain ⟨r, μ1, e1, e2, hA1⟩ : ∃ r μ1, X11_whatIs kf σ ρ (xs (i + 1)) (xs (i + 2)) (xs (i + 3)) = some r ∧ X12_whatIs μ (xs (i + 1)) (xs (i + 2)) (xs (i + 3)) = some (r, μ1) ∧ All σ ρ kf μ1 := E_whatIs hA (xs (i + 1)) (xs (i + 2)) (xs (i + 3))
  refine lv_aload_n S.1 S.2.1 dL_law_1081 rfl (lv_at hl 3 rfl) ?_
  refine r_scr (j := 1) S hx hb (by omega) hL (by omega) h hl dL_law_1082 dL_law_1083 dL_law_1085 dL_law_1086 dL_law_1087 ?_
  refine r_scr (j := 2) S hx hb (by omega) hL (by omega) h hl dL_law_1088 dL_law_1089 dL_law_1091 dL_law_1092 dL_law_1093 ?_
  refine r_scr (j := 3) S hx hb (by omega) hL (by omega) h hl dL_law_1094 dL_law_1095 dL_law_1097 dL_law_1098 dL_law_1099 ?_
  refine k_c (run_p2 (g := (D, C3, adc)) (mc := 128) (ms := 128) (Rr := fun o w => o = some (.int r) ∧ w = WCl D C3 adc LP kf σ ρ) (va_runV (As := [.int (xs (i + 1)), .int (xs (i + 2)), .int (xs (i + 3))]) (rest := []) S (c_X11_whatIs (g := (D, C3, adc)) (A := va_A (WCl D C3 adc LP kf σ ρ) H.size) hPL e1) (cwV 3 S.2.2.2.2 (ul_V tw_3_173 tw_3_174 tw_3_175 tw_1_1 cw_X11_whatIs) rfl rfl rfl hv_X11_whatIs ⟨Nat.le_of_ble_eq_true rfl, Nat.le_of_ble_eq_true rfl⟩) ⟨PreM.blind, h.mc.recv (hK adc) cfX11 0 (by decide) ly_0, h.mc.pre (hK adc)⟩ rfl rfl hl.1 rfl (lv_room (Nat.le_of_ble_eq_true rfl)) dL_law_1100 ⟨by show cells + 0 ≤ 601024; omega, by show slots + 0 ≤ 7293034; omega⟩) h.mc.1 h.mc.2.1 ⟨rfl, rfl⟩) h (fun o w H locs hw h => ?_)
  obtain ⟨rfl, rfl⟩ := hw
  show W _ _ _ _ _ _ _ _ _ _ _ _ _ _ _ (F0 m 1103 ls [.int r])
  refine lv_aload_n S.1 S.2.1 dL_law_1103 rfl (lv_at hl 2 rfl) ?_
  refine r_scr (j := 1) S hx hb (by omega) hL (by omega) h hl dL_law_1104 dL_law_1105 dL_law_1107 dL_law_1108 dL_law_1109 ?_
  refine r_scr (j := 2) S hx hb (by omega) hL (by omega) h hl dL_law_1110 dL_law_1111 dL_law_1113 dL_law_1114 dL_law_1115 ?_
  refine r_scr (j := 3) S hx hb (by omega) hL (by omega) h hl dL_law_1116 dL_law_1117 dL_law_1119 dL_law_1120 dL_law_1121 ?_
  refine k_r (run_m (mc := 0) (ms := 0) (Rr := fun o w => o = some (.int r) ∧ w = WMo D C3 adm μ1) (va_runV (As := [.int (xs (i + 1)), .int (xs (i + 2)), .int (xs (i + 3))]) (rest := [.int r]) S (c_X12_whatIs (g := (D, C3, adm)) (A := va_A (WMo D C3 adm μ) H.size) e2) (cwV 3 S.2.2.2.2 (ul_V tw_6_108 tw_6_109 tw_6_110 tw_1_12 cw_X12_whatIs) rfl rfl rfl hv_X12_whatIs ⟨Nat.le_of_ble_eq_true rfl, Nat.le_of_ble_eq_true rfl⟩) ⟨PreM.blind, h.mm.recv (hK adm) cfX12 0 (by decide) lm_0, h.mm.pre (hK adm)⟩ rfl rfl hl.1 rfl (lv_room (Nat.le_of_ble_eq_true rfl)) dL_law_1122 ⟨by show cells + 128 + 0 ≤ 601024; omega, by show slots + 128 + 0 ≤ 7293034; omega⟩) ⟨rfl, rfl⟩) h (fun o w H locs hw h => ?_)
  obtain ⟨rfl, rfl⟩ := hw
  show W _ _ _ _ _ _ _ _ _ _ _ _ _ _ _ (F0 m 1125 ls [.int r, .int r])
  refine lv_icmp_eq (tgt := 1743) S.1 S.2.1 dL_law_1125 (by decide) (fun _ => ?_) (fun b => absurd rfl b)
  exact kk H locs ⟨LP, kf, σ, ρ, μ1, h, hPL, hA1⟩
set_option maxRecDepth 20000 in
theorem w_law_habits (S : CallFix p m c cL_law 8 s #[Value.ref b] UL "SideBySideLaw") (hK : ∀ ad : Nat → Nat, KK (D, C3, ad) s) (hx : va_X b L xs s s.heap) (hb : b < s.heap.size) (hi : i + 6 ≤ L) (hL : L ≤ 3072) (hl : lv_has ls 8 [(4, .int (nI i)), (3, .ref bo), (2, .ref (adm 0)), (1, .ref (adc 0)), (0, .ref b)]) (hS : LSt s D C3 adc adm wo H locs) (hc : cells + 128 ≤ 601024) (hs : slots + 128 ≤ 7293034)
    (kk : ∀ (H1 : Heap) (locs1 : List Loc), LSt s D C3 adc adm wo H1 locs1 → W p l e room_1 s m #[Value.ref b] below meth c H1 locs1 (cells + 128) (slots + 128) Q (F0 m 1743 ls [])) : W p l e room_1 s m #[Value.ref b] below meth c H locs cells slots Q (F0 m 1130 ls []) := by
  obtain ⟨LP, kf, σ, ρ, μ, h, hPL, hA⟩ := hS
  obtain ⟨r, σ1, ρ1, μ1, e1, e2, hA1⟩ : ∃ r σ1 ρ1 μ1, X11_habits kf σ ρ (xs (i + 1)) = some (r, σ1, ρ1) ∧ X12_habits μ (xs (i + 1)) = some (r, μ1) ∧ All σ1 ρ1 kf μ1 := E_habits hA (xs (i + 1))
  refine lv_aload_n S.1 S.2.1 dL_law_1130 rfl (lv_at hl 3 rfl) ?_
  refine r_scr (j := 1) S hx hb (by omega) hL (by omega) h hl dL_law_1131 dL_law_1132 dL_law_1134 dL_law_1135 dL_law_1136 ?_
  refine k_c (run_m (mc := 128) (ms := 128) (Rr := fun o w => o = some (.int r) ∧ w = WCl D C3 adc LP kf σ1 ρ1) (va_runV (As := [.int (xs (i + 1))]) (rest := []) S (c_X11_habits (g := (D, C3, adc)) (A := va_A (WCl D C3 adc LP kf σ ρ) H.size) hPL e1) (cwV 1 S.2.2.2.2 (ul_V tw_3_201 tw_3_202 tw_3_203 tw_1_1 cw_X11_habits) rfl rfl rfl hv_X11_habits ⟨Nat.le_of_ble_eq_true rfl, Nat.le_of_ble_eq_true rfl⟩) ⟨PreM.blind, h.mc.recv (hK adc) cfX11 0 (by decide) ly_0, h.mc.pre (hK adc)⟩ rfl rfl hl.1 rfl (lv_room (Nat.le_of_ble_eq_true rfl)) dL_law_1137 ⟨by show cells + 0 ≤ 601024; omega, by show slots + 0 ≤ 7293034; omega⟩) ⟨rfl, rfl⟩) h (fun o w H locs hw h => ?_)
  obtain ⟨rfl, rfl⟩ := hw
  show W _ _ _ _ _ _ _ _ _ _ _ _ _ _ _ (F0 m 1140 ls [.int r])
  refine lv_aload_n S.1 S.2.1 dL_law_1140 rfl (lv_at hl 2 rfl) ?_
  refine r_scr (j := 1) S hx hb (by omega) hL (by omega) h hl dL_law_1141 dL_law_1142 dL_law_1144 dL_law_1145 dL_law_1146 ?_
  refine k_r (run_m (mc := 0) (ms := 0) (Rr := fun o w => o = some (.int r) ∧ w = WMo D C3 adm μ1) (va_runV (As := [.int (xs (i + 1))]) (rest := [.int r]) S (c_X12_habits (g := (D, C3, adm)) (A := va_A (WMo D C3 adm μ) H.size) e2) (cwV 1 S.2.2.2.2 (ul_V tw_6_120 tw_6_121 tw_6_122 tw_1_12 cw_X12_habits) rfl rfl rfl hv_X12_habits ⟨Nat.le_of_ble_eq_true rfl, Nat.le_of_ble_eq_true rfl⟩) ⟨PreM.blind, h.mm.recv (hK adm) cfX12 0 (by decide) lm_0, h.mm.pre (hK adm)⟩ rfl rfl hl.1 rfl (lv_room (Nat.le_of_ble_eq_true rfl)) dL_law_1147 ⟨by show cells + 128 + 0 ≤ 601024; omega, by show slots + 128 + 0 ≤ 7293034; omega⟩) ⟨rfl, rfl⟩) h (fun o w H locs hw h => ?_)
  obtain ⟨rfl, rfl⟩ := hw
  show W _ _ _ _ _ _ _ _ _ _ _ _ _ _ _ (F0 m 1150 ls [.int r, .int r])
  refine lv_icmp_eq (tgt := 1743) S.1 S.2.1 dL_law_1150 (by decide) (fun _ => ?_) (fun b => absurd rfl b)
  exact kk H locs ⟨LP, kf, σ1, ρ1, μ1, h, hPL, hA1⟩
set_option maxRecDepth 20000 in
theorem w_law_two (S : CallFix p m c cL_law 8 s #[Value.ref b] UL "SideBySideLaw") (hK : ∀ ad : Nat → Nat, KK (D, C3, ad) s) (hx : va_X b L xs s s.heap) (hb : b < s.heap.size) (hi : i + 6 ≤ L) (hL : L ≤ 3072) (hl : lv_has ls 8 [(4, .int (nI i)), (3, .ref bo), (2, .ref (adm 0)), (1, .ref (adc 0)), (0, .ref b)]) (hS : LSt s D C3 adc adm wo H locs) (hc : cells + 128 ≤ 601024) (hs : slots + 128 ≤ 7293034)
    (kk : ∀ (H1 : Heap) (locs1 : List Loc), LSt s D C3 adc adm wo H1 locs1 → W p l e room_1 s m #[Value.ref b] below meth c H1 locs1 (cells + 128) (slots + 128) Q (F0 m 1743 ls [])) : W p l e room_1 s m #[Value.ref b] below meth c H locs cells slots Q (F0 m 1155 ls []) := by
  obtain ⟨LP, kf, σ, ρ, μ, h, hPL, hA⟩ := hS
  obtain ⟨r, σ1, ρ1, μ1, e1, e2, hA1⟩ : ∃ r σ1 ρ1 μ1, X11_two kf σ ρ  = some (r, σ1, ρ1) ∧ X12_two μ  = some (r, μ1) ∧ All σ1 ρ1 kf μ1 := E_two hA 
  refine lv_aload_n S.1 S.2.1 dL_law_1155 rfl (lv_at hl 3 rfl) ?_
  refine k_c (run_m (mc := 128) (ms := 128) (Rr := fun o w => o = some (.int r) ∧ w = WCl D C3 adc LP kf σ1 ρ1) (va_runV (As := []) (rest := []) S (c_X11_two (g := (D, C3, adc)) (A := va_A (WCl D C3 adc LP kf σ ρ) H.size) hPL e1) (cwV 0 S.2.2.2.2 (ul_V tw_3_209 tw_3_210 tw_3_211 tw_1_1 cw_X11_two) rfl rfl rfl hv_X11_two ⟨Nat.le_of_ble_eq_true rfl, Nat.le_of_ble_eq_true rfl⟩) ⟨PreM.blind, h.mc.recv (hK adc) cfX11 0 (by decide) ly_0, h.mc.pre (hK adc)⟩ rfl rfl hl.1 rfl (lv_room (Nat.le_of_ble_eq_true rfl)) dL_law_1156 ⟨by show cells + 0 ≤ 601024; omega, by show slots + 0 ≤ 7293034; omega⟩) ⟨rfl, rfl⟩) h (fun o w H locs hw h => ?_)
  obtain ⟨rfl, rfl⟩ := hw
  show W _ _ _ _ _ _ _ _ _ _ _ _ _ _ _ (F0 m 1159 ls [.int r])
  refine lv_aload_n S.1 S.2.1 dL_law_1159 rfl (lv_at hl 2 rfl) ?_
  refine k_r (run_m (mc := 0) (ms := 0) (Rr := fun o w => o = some (.int r) ∧ w = WMo D C3 adm μ1) (va_runV (As := []) (rest := [.int r]) S (c_X12_two (g := (D, C3, adm)) (A := va_A (WMo D C3 adm μ) H.size) e2) (cwV 0 S.2.2.2.2 (ul_V tw_6_124 tw_6_125 tw_6_126 tw_1_12 cw_X12_two) rfl rfl rfl hv_X12_two ⟨Nat.le_of_ble_eq_true rfl, Nat.le_of_ble_eq_true rfl⟩) ⟨PreM.blind, h.mm.recv (hK adm) cfX12 0 (by decide) lm_0, h.mm.pre (hK adm)⟩ rfl rfl hl.1 rfl (lv_room (Nat.le_of_ble_eq_true rfl)) dL_law_1160 ⟨by show cells + 128 + 0 ≤ 601024; omega, by show slots + 128 + 0 ≤ 7293034; omega⟩) ⟨rfl, rfl⟩) h (fun o w H locs hw h => ?_)
  obtain ⟨rfl, rfl⟩ := hw
  show W _ _ _ _ _ _ _ _ _ _ _ _ _ _ _ (F0 m 1163 ls [.int r, .int r])
  refine lv_icmp_eq (tgt := 1743) S.1 S.2.1 dL_law_1163 (by decide) (fun _ => ?_) (fun b => absurd rfl b)
  exact kk H locs ⟨LP, kf, σ1, ρ1, μ1, h, hPL, hA1⟩
set_option maxRecDepth 20000 in
theorem w_law_forged (S : CallFix p m c cL_law 8 s #[Value.ref b] UL "SideBySideLaw") (hK : ∀ ad : Nat → Nat, KK (D, C3, ad) s) (hx : va_X b L xs s s.heap) (hb : b < s.heap.size) (hi : i + 6 ≤ L) (hL : L ≤ 3072) (hl : lv_has ls 8 [(4, .int (nI i)), (3, .ref bo), (2, .ref (adm 0)), (1, .ref (adc 0)), (0, .ref b)]) (hS : LSt s D C3 adc adm wo H locs) (hc : cells + 128 ≤ 601024) (hs : slots + 128 ≤ 7293034)
    (kk : ∀ (H1 : Heap) (locs1 : List Loc), LSt s D C3 adc adm wo H1 locs1 → W p l e room_1 s m #[Value.ref b] below meth c H1 locs1 (cells + 128) (slots + 128) Q (F0 m 1743 ls [])) : W p l e room_1 s m #[Value.ref b] below meth c H locs cells slots Q (F0 m 1244 ls []) := by
  obtain ⟨LP, kf, σ, ρ, μ, h, hPL, hA⟩ := hS
  obtain ⟨r, σ1, ρ1, μ1, e1, e2, hA1⟩ : ∃ r σ1 ρ1 μ1, X11_forged kf σ ρ (xs (i + 1)) = some (r, σ1, ρ1) ∧ X12_forged μ (xs (i + 1)) = some (r, μ1) ∧ All σ1 ρ1 kf μ1 := E_forged hA (xs (i + 1))
  refine lv_aload_n S.1 S.2.1 dL_law_1244 rfl (lv_at hl 3 rfl) ?_
  refine r_scr (j := 1) S hx hb (by omega) hL (by omega) h hl dL_law_1245 dL_law_1246 dL_law_1248 dL_law_1249 dL_law_1250 ?_
  refine k_c (run_m (mc := 128) (ms := 128) (Rr := fun o w => o = some (.int r) ∧ w = WCl D C3 adc LP kf σ1 ρ1) (va_runV (As := [.int (xs (i + 1))]) (rest := []) S (c_X11_forged (g := (D, C3, adc)) (A := va_A (WCl D C3 adc LP kf σ ρ) H.size) hPL e1) (cwV 1 S.2.2.2.2 (ul_V tw_4_16 tw_4_17 tw_4_18 tw_1_1 cw_X11_forged) rfl rfl rfl hv_X11_forged ⟨Nat.le_of_ble_eq_true rfl, Nat.le_of_ble_eq_true rfl⟩) ⟨PreM.blind, h.mc.recv (hK adc) cfX11 0 (by decide) ly_0, h.mc.pre (hK adc)⟩ rfl rfl hl.1 rfl (lv_room (Nat.le_of_ble_eq_true rfl)) dL_law_1251 ⟨by show cells + 0 ≤ 601024; omega, by show slots + 0 ≤ 7293034; omega⟩) ⟨rfl, rfl⟩) h (fun o w H locs hw h => ?_)
  obtain ⟨rfl, rfl⟩ := hw
  show W _ _ _ _ _ _ _ _ _ _ _ _ _ _ _ (F0 m 1254 ls [.int r])
  refine lv_aload_n S.1 S.2.1 dL_law_1254 rfl (lv_at hl 2 rfl) ?_
  refine r_scr (j := 1) S hx hb (by omega) hL (by omega) h hl dL_law_1255 dL_law_1256 dL_law_1258 dL_law_1259 dL_law_1260 ?_
  refine k_r (run_m (mc := 0) (ms := 0) (Rr := fun o w => o = some (.int r) ∧ w = WMo D C3 adm μ1) (va_runV (As := [.int (xs (i + 1))]) (rest := [.int r]) S (c_X12_forged (g := (D, C3, adm)) (A := va_A (WMo D C3 adm μ) H.size) e2) (cwV 1 S.2.2.2.2 (ul_V tw_6_159 tw_6_160 tw_6_161 tw_1_12 cw_X12_forged) rfl rfl rfl hv_X12_forged ⟨Nat.le_of_ble_eq_true rfl, Nat.le_of_ble_eq_true rfl⟩) ⟨PreM.blind, h.mm.recv (hK adm) cfX12 0 (by decide) lm_0, h.mm.pre (hK adm)⟩ rfl rfl hl.1 rfl (lv_room (Nat.le_of_ble_eq_true rfl)) dL_law_1261 ⟨by show cells + 128 + 0 ≤ 601024; omega, by show slots + 128 + 0 ≤ 7293034; omega⟩) ⟨rfl, rfl⟩) h (fun o w H locs hw h => ?_)
  obtain ⟨rfl, rfl⟩ := hw
  show W _ _ _ _ _ _ _ _ _ _ _ _ _ _ _ (F0 m 1264 ls [.int r, .int r])
  refine lv_icmp_eq (tgt := 1743) S.1 S.2.1 dL_law_1264 (by decide) (fun _ => ?_) (fun b => absurd rfl b)
  exact kk H locs ⟨LP, kf, σ1, ρ1, μ1, h, hPL, hA1⟩
set_option maxRecDepth 20000 in
theorem w_law_judge (S : CallFix p m c cL_law 8 s #[Value.ref b] UL "SideBySideLaw") (hK : ∀ ad : Nat → Nat, KK (D, C3, ad) s) (hx : va_X b L xs s s.heap) (hb : b < s.heap.size) (hi : i + 6 ≤ L) (hL : L ≤ 3072) (hl : lv_has ls 8 [(4, .int (nI i)), (3, .ref bo), (2, .ref (adm 0)), (1, .ref (adc 0)), (0, .ref b)]) (hS : LSt s D C3 adc adm wo H locs) (hc : cells + 128 ≤ 601024) (hs : slots + 128 ≤ 7293034)
    (kk : ∀ (H1 : Heap) (locs1 : List Loc), LSt s D C3 adc adm wo H1 locs1 → W p l e room_1 s m #[Value.ref b] below meth c H1 locs1 (cells + 128) (slots + 128) Q (F0 m 1743 ls [])) : W p l e room_1 s m #[Value.ref b] below meth c H locs cells slots Q (F0 m 1269 ls []) := by
  obtain ⟨LP, kf, σ, ρ, μ, h, hPL, hA⟩ := hS
  obtain ⟨r, σ1, ρ1, μ1, e1, e2, hA1⟩ : ∃ r σ1 ρ1 μ1, X11_judge kf σ ρ (xs (i + 1)) = some (r, σ1, ρ1) ∧ X12_judge μ (xs (i + 1)) = some (r, μ1) ∧ All σ1 ρ1 kf μ1 := E_judge hA (xs (i + 1))
  refine lv_aload_n S.1 S.2.1 dL_law_1269 rfl (lv_at hl 3 rfl) ?_
  refine r_scr (j := 1) S hx hb (by omega) hL (by omega) h hl dL_law_1270 dL_law_1271 dL_law_1273 dL_law_1274 dL_law_1275 ?_
  refine k_c (run_m (mc := 128) (ms := 128) (Rr := fun o w => o = some (.int r) ∧ w = WCl D C3 adc LP kf σ1 ρ1) (va_runV (As := [.int (xs (i + 1))]) (rest := []) S (c_X11_judge (g := (D, C3, adc)) (A := va_A (WCl D C3 adc LP kf σ ρ) H.size) hPL e1) (cwV 1 S.2.2.2.2 (ul_V tw_4_20 tw_4_21 tw_4_22 tw_1_1 cw_X11_judge) rfl rfl rfl hv_X11_judge ⟨Nat.le_of_ble_eq_true rfl, Nat.le_of_ble_eq_true rfl⟩) ⟨PreM.blind, h.mc.recv (hK adc) cfX11 0 (by decide) ly_0, h.mc.pre (hK adc)⟩ rfl rfl hl.1 rfl (lv_room (Nat.le_of_ble_eq_true rfl)) dL_law_1276 ⟨by show cells + 0 ≤ 601024; omega, by show slots + 0 ≤ 7293034; omega⟩) ⟨rfl, rfl⟩) h (fun o w H locs hw h => ?_)
  obtain ⟨rfl, rfl⟩ := hw
  show W _ _ _ _ _ _ _ _ _ _ _ _ _ _ _ (F0 m 1279 ls [.int r])
  refine lv_aload_n S.1 S.2.1 dL_law_1279 rfl (lv_at hl 2 rfl) ?_
  refine r_scr (j := 1) S hx hb (by omega) hL (by omega) h hl dL_law_1280 dL_law_1281 dL_law_1283 dL_law_1284 dL_law_1285 ?_
  refine k_r (run_m (mc := 0) (ms := 0) (Rr := fun o w => o = some (.int r) ∧ w = WMo D C3 adm μ1) (va_runV (As := [.int (xs (i + 1))]) (rest := [.int r]) S (c_X12_judge (g := (D, C3, adm)) (A := va_A (WMo D C3 adm μ) H.size) e2) (cwV 1 S.2.2.2.2 (ul_V tw_6_163 tw_6_164 tw_6_165 tw_1_12 cw_X12_judge) rfl rfl rfl hv_X12_judge ⟨Nat.le_of_ble_eq_true rfl, Nat.le_of_ble_eq_true rfl⟩) ⟨PreM.blind, h.mm.recv (hK adm) cfX12 0 (by decide) lm_0, h.mm.pre (hK adm)⟩ rfl rfl hl.1 rfl (lv_room (Nat.le_of_ble_eq_true rfl)) dL_law_1286 ⟨by show cells + 128 + 0 ≤ 601024; omega, by show slots + 128 + 0 ≤ 7293034; omega⟩) ⟨rfl, rfl⟩) h (fun o w H locs hw h => ?_)
  obtain ⟨rfl, rfl⟩ := hw
  show W _ _ _ _ _ _ _ _ _ _ _ _ _ _ _ (F0 m 1289 ls [.int r, .int r])
  refine lv_icmp_eq (tgt := 1743) S.1 S.2.1 dL_law_1289 (by decide) (fun _ => ?_) (fun b => absurd rfl b)
  exact kk H locs ⟨LP, kf, σ1, ρ1, μ1, h, hPL, hA1⟩
set_option maxRecDepth 20000 in
theorem w_law_nights (S : CallFix p m c cL_law 8 s #[Value.ref b] UL "SideBySideLaw") (hK : ∀ ad : Nat → Nat, KK (D, C3, ad) s) (hx : va_X b L xs s s.heap) (hb : b < s.heap.size) (hi : i + 6 ≤ L) (hL : L ≤ 3072) (hl : lv_has ls 8 [(4, .int (nI i)), (3, .ref bo), (2, .ref (adm 0)), (1, .ref (adc 0)), (0, .ref b)]) (hS : LSt s D C3 adc adm wo H locs) (hc : cells + 128 ≤ 601024) (hs : slots + 128 ≤ 7293034)
    (kk : ∀ (H1 : Heap) (locs1 : List Loc), LSt s D C3 adc adm wo H1 locs1 → W p l e room_1 s m #[Value.ref b] below meth c H1 locs1 (cells + 128) (slots + 128) Q (F0 m 1743 ls [])) : W p l e room_1 s m #[Value.ref b] below meth c H locs cells slots Q (F0 m 1294 ls []) := by
  obtain ⟨LP, kf, σ, ρ, μ, h, hPL, hA⟩ := hS
  obtain ⟨r, σ1, ρ1, μ1, e1, e2, hA1⟩ : ∃ r σ1 ρ1 μ1, X11_nights kf σ ρ (xs (i + 1)) (xs (i + 2)) (xs (i + 3)) = some (r, σ1, ρ1) ∧ X12_nights μ (xs (i + 1)) (xs (i + 2)) (xs (i + 3)) = some (r, μ1) ∧ All σ1 ρ1 kf μ1 := E_nights hA (xs (i + 1)) (xs (i + 2)) (xs (i + 3))
  refine lv_aload_n S.1 S.2.1 dL_law_1294 rfl (lv_at hl 3 rfl) ?_
  refine r_scr (j := 1) S hx hb (by omega) hL (by omega) h hl dL_law_1295 dL_law_1296 dL_law_1298 dL_law_1299 dL_law_1300 ?_
  refine r_scr (j := 2) S hx hb (by omega) hL (by omega) h hl dL_law_1301 dL_law_1302 dL_law_1304 dL_law_1305 dL_law_1306 ?_
  refine r_scr (j := 3) S hx hb (by omega) hL (by omega) h hl dL_law_1307 dL_law_1308 dL_law_1310 dL_law_1311 dL_law_1312 ?_
  refine k_c (run_m (mc := 128) (ms := 128) (Rr := fun o w => o = some (.int r) ∧ w = WCl D C3 adc LP kf σ1 ρ1) (va_runV (As := [.int (xs (i + 1)), .int (xs (i + 2)), .int (xs (i + 3))]) (rest := []) S (c_X11_nights (g := (D, C3, adc)) (A := va_A (WCl D C3 adc LP kf σ ρ) H.size) hPL e1) (cwV 3 S.2.2.2.2 (ul_V tw_4_24 tw_4_25 tw_4_26 tw_1_1 cw_X11_nights) rfl rfl rfl hv_X11_nights ⟨Nat.le_of_ble_eq_true rfl, Nat.le_of_ble_eq_true rfl⟩) ⟨PreM.blind, h.mc.recv (hK adc) cfX11 0 (by decide) ly_0, h.mc.pre (hK adc)⟩ rfl rfl hl.1 rfl (lv_room (Nat.le_of_ble_eq_true rfl)) dL_law_1313 ⟨by show cells + 0 ≤ 601024; omega, by show slots + 0 ≤ 7293034; omega⟩) ⟨rfl, rfl⟩) h (fun o w H locs hw h => ?_)
  obtain ⟨rfl, rfl⟩ := hw
  show W _ _ _ _ _ _ _ _ _ _ _ _ _ _ _ (F0 m 1316 ls [.int r])
  refine lv_aload_n S.1 S.2.1 dL_law_1316 rfl (lv_at hl 2 rfl) ?_
  refine r_scr (j := 1) S hx hb (by omega) hL (by omega) h hl dL_law_1317 dL_law_1318 dL_law_1320 dL_law_1321 dL_law_1322 ?_
  refine r_scr (j := 2) S hx hb (by omega) hL (by omega) h hl dL_law_1323 dL_law_1324 dL_law_1326 dL_law_1327 dL_law_1328 ?_
  refine r_scr (j := 3) S hx hb (by omega) hL (by omega) h hl dL_law_1329 dL_law_1330 dL_law_1332 dL_law_1333 dL_law_1334 ?_
  refine k_r (run_m (mc := 0) (ms := 0) (Rr := fun o w => o = some (.int r) ∧ w = WMo D C3 adm μ1) (va_runV (As := [.int (xs (i + 1)), .int (xs (i + 2)), .int (xs (i + 3))]) (rest := [.int r]) S (c_X12_nights (g := (D, C3, adm)) (A := va_A (WMo D C3 adm μ) H.size) e2) (cwV 3 S.2.2.2.2 (ul_V tw_6_167 tw_6_168 tw_6_169 tw_1_12 cw_X12_nights) rfl rfl rfl hv_X12_nights ⟨Nat.le_of_ble_eq_true rfl, Nat.le_of_ble_eq_true rfl⟩) ⟨PreM.blind, h.mm.recv (hK adm) cfX12 0 (by decide) lm_0, h.mm.pre (hK adm)⟩ rfl rfl hl.1 rfl (lv_room (Nat.le_of_ble_eq_true rfl)) dL_law_1335 ⟨by show cells + 128 + 0 ≤ 601024; omega, by show slots + 128 + 0 ≤ 7293034; omega⟩) ⟨rfl, rfl⟩) h (fun o w H locs hw h => ?_)
  obtain ⟨rfl, rfl⟩ := hw
  show W _ _ _ _ _ _ _ _ _ _ _ _ _ _ _ (F0 m 1338 ls [.int r, .int r])
  refine lv_icmp_eq (tgt := 1743) S.1 S.2.1 dL_law_1338 (by decide) (fun _ => ?_) (fun b => absurd rfl b)
  exact kk H locs ⟨LP, kf, σ1, ρ1, μ1, h, hPL, hA1⟩
set_option maxRecDepth 20000 in
theorem w_law_image (S : CallFix p m c cL_law 8 s #[Value.ref b] UL "SideBySideLaw") (hK : ∀ ad : Nat → Nat, KK (D, C3, ad) s) (hx : va_X b L xs s s.heap) (hb : b < s.heap.size) (hi : i + 6 ≤ L) (hL : L ≤ 3072) (hl : lv_has ls 8 [(4, .int (nI i)), (3, .ref bo), (2, .ref (adm 0)), (1, .ref (adc 0)), (0, .ref b)]) (hS : LSt s D C3 adc adm wo H locs) (hc : cells + 128 ≤ 601024) (hs : slots + 128 ≤ 7293034)
    (kk : ∀ (H1 : Heap) (locs1 : List Loc), LSt s D C3 adc adm wo H1 locs1 → W p l e room_1 s m #[Value.ref b] below meth c H1 locs1 (cells + 128) (slots + 128) Q (F0 m 1743 ls [])) : W p l e room_1 s m #[Value.ref b] below meth c H locs cells slots Q (F0 m 1343 ls []) := by
  obtain ⟨LP, kf, σ, ρ, μ, h, hPL, hA⟩ := hS
  obtain ⟨r, σ1, ρ1, μ1, e1, e2, hA1⟩ : ∃ r σ1 ρ1 μ1, X11_image kf σ ρ  = some (r, σ1, ρ1) ∧ X12_image μ  = some (r, μ1) ∧ All σ1 ρ1 kf μ1 := E_image hA 
  refine lv_aload_n S.1 S.2.1 dL_law_1343 rfl (lv_at hl 3 rfl) ?_
  refine k_c (run_m (mc := 128) (ms := 128) (Rr := fun o w => o = some (.int r) ∧ w = WCl D C3 adc LP kf σ1 ρ1) (va_runV (As := []) (rest := []) S (c_X11_image (g := (D, C3, adc)) (A := va_A (WCl D C3 adc LP kf σ ρ) H.size) hPL e1) (cwV 0 S.2.2.2.2 (ul_V tw_4_35 tw_4_36 tw_4_37 tw_1_1 cw_X11_image) rfl rfl rfl hv_X11_image ⟨Nat.le_of_ble_eq_true rfl, Nat.le_of_ble_eq_true rfl⟩) ⟨PreM.blind, h.mc.recv (hK adc) cfX11 0 (by decide) ly_0, h.mc.pre (hK adc)⟩ rfl rfl hl.1 rfl (lv_room (Nat.le_of_ble_eq_true rfl)) dL_law_1344 ⟨by show cells + 0 ≤ 601024; omega, by show slots + 0 ≤ 7293034; omega⟩) ⟨rfl, rfl⟩) h (fun o w H locs hw h => ?_)
  obtain ⟨rfl, rfl⟩ := hw
  show W _ _ _ _ _ _ _ _ _ _ _ _ _ _ _ (F0 m 1347 ls [.int r])
  refine lv_aload_n S.1 S.2.1 dL_law_1347 rfl (lv_at hl 2 rfl) ?_
  refine k_r (run_m (mc := 0) (ms := 0) (Rr := fun o w => o = some (.int r) ∧ w = WMo D C3 adm μ1) (va_runV (As := []) (rest := [.int r]) S (c_X12_image (g := (D, C3, adm)) (A := va_A (WMo D C3 adm μ) H.size) e2) (cwV 0 S.2.2.2.2 (ul_V tw_6_178 tw_6_179 tw_6_180 tw_1_12 cw_X12_image) rfl rfl rfl hv_X12_image ⟨Nat.le_of_ble_eq_true rfl, Nat.le_of_ble_eq_true rfl⟩) ⟨PreM.blind, h.mm.recv (hK adm) cfX12 0 (by decide) lm_0, h.mm.pre (hK adm)⟩ rfl rfl hl.1 rfl (lv_room (Nat.le_of_ble_eq_true rfl)) dL_law_1348 ⟨by show cells + 128 + 0 ≤ 601024; omega, by show slots + 128 + 0 ≤ 7293034; omega⟩) ⟨rfl, rfl⟩) h (fun o w H locs hw h => ?_)
  obtain ⟨rfl, rfl⟩ := hw
  show W _ _ _ _ _ _ _ _ _ _ _ _ _ _ _ (F0 m 1351 ls [.int r, .int r])
  refine lv_icmp_eq (tgt := 1743) S.1 S.2.1 dL_law_1351 (by decide) (fun _ => ?_) (fun b => absurd rfl b)
  exact kk H locs ⟨LP, kf, σ1, ρ1, μ1, h, hPL, hA1⟩
set_option maxRecDepth 20000 in
theorem w_law_restore (S : CallFix p m c cL_law 8 s #[Value.ref b] UL "SideBySideLaw") (hK : ∀ ad : Nat → Nat, KK (D, C3, ad) s) (hx : va_X b L xs s s.heap) (hb : b < s.heap.size) (hi : i + 6 ≤ L) (hL : L ≤ 3072) (hl : lv_has ls 8 [(4, .int (nI i)), (3, .ref bo), (2, .ref (adm 0)), (1, .ref (adc 0)), (0, .ref b)]) (hS : LSt s D C3 adc adm wo H locs) (hc : cells + 128 ≤ 601024) (hs : slots + 128 ≤ 7293034)
    (kk : ∀ (H1 : Heap) (locs1 : List Loc), LSt s D C3 adc adm wo H1 locs1 → W p l e room_1 s m #[Value.ref b] below meth c H1 locs1 (cells + 128) (slots + 128) Q (F0 m 1743 ls [])) : W p l e room_1 s m #[Value.ref b] below meth c H locs cells slots Q (F0 m 1356 ls []) := by
  obtain ⟨LP, kf, σ, ρ, μ, h, hPL, hA⟩ := hS
  obtain ⟨r, σ1, ρ1, μ1, e1, e2, hA1⟩ : ∃ r σ1 ρ1 μ1, X11_restore kf σ ρ  = some (r, σ1, ρ1) ∧ X12_restore μ  = some (r, μ1) ∧ All σ1 ρ1 kf μ1 := E_restore hA 
  refine lv_aload_n S.1 S.2.1 dL_law_1356 rfl (lv_at hl 3 rfl) ?_
  refine k_c (run_m (mc := 128) (ms := 128) (Rr := fun o w => o = some (.int r) ∧ w = WCl D C3 adc LP kf σ1 ρ1) (va_runV (As := []) (rest := []) S (c_X11_restore (g := (D, C3, adc)) (A := va_A (WCl D C3 adc LP kf σ ρ) H.size) hPL e1) (cwV 0 S.2.2.2.2 (ul_V tw_4_39 tw_4_40 tw_4_41 tw_1_1 cw_X11_restore) rfl rfl rfl hv_X11_restore ⟨Nat.le_of_ble_eq_true rfl, Nat.le_of_ble_eq_true rfl⟩) ⟨PreM.blind, h.mc.recv (hK adc) cfX11 0 (by decide) ly_0, h.mc.pre (hK adc)⟩ rfl rfl hl.1 rfl (lv_room (Nat.le_of_ble_eq_true rfl)) dL_law_1357 ⟨by show cells + 0 ≤ 601024; omega, by show slots + 0 ≤ 7293034; omega⟩) ⟨rfl, rfl⟩) h (fun o w H locs hw h => ?_)
  obtain ⟨rfl, rfl⟩ := hw
  show W _ _ _ _ _ _ _ _ _ _ _ _ _ _ _ (F0 m 1360 ls [.int r])
  refine lv_aload_n S.1 S.2.1 dL_law_1360 rfl (lv_at hl 2 rfl) ?_
  refine k_r (run_m (mc := 0) (ms := 0) (Rr := fun o w => o = some (.int r) ∧ w = WMo D C3 adm μ1) (va_runV (As := []) (rest := [.int r]) S (c_X12_restore (g := (D, C3, adm)) (A := va_A (WMo D C3 adm μ) H.size) e2) (cwV 0 S.2.2.2.2 (ul_V tw_6_182 tw_6_183 tw_6_184 tw_1_12 cw_X12_restore) rfl rfl rfl hv_X12_restore ⟨Nat.le_of_ble_eq_true rfl, Nat.le_of_ble_eq_true rfl⟩) ⟨PreM.blind, h.mm.recv (hK adm) cfX12 0 (by decide) lm_0, h.mm.pre (hK adm)⟩ rfl rfl hl.1 rfl (lv_room (Nat.le_of_ble_eq_true rfl)) dL_law_1361 ⟨by show cells + 128 + 0 ≤ 601024; omega, by show slots + 128 + 0 ≤ 7293034; omega⟩) ⟨rfl, rfl⟩) h (fun o w H locs hw h => ?_)
  obtain ⟨rfl, rfl⟩ := hw
  show W _ _ _ _ _ _ _ _ _ _ _ _ _ _ _ (F0 m 1364 ls [.int r, .int r])
  refine lv_icmp_eq (tgt := 1743) S.1 S.2.1 dL_law_1364 (by decide) (fun _ => ?_) (fun b => absurd rfl b)
  exact kk H locs ⟨LP, kf, σ1, ρ1, μ1, h, hPL, hA1⟩
set_option maxRecDepth 20000 in
theorem w_law_count (S : CallFix p m c cL_law 8 s #[Value.ref b] UL "SideBySideLaw") (hK : ∀ ad : Nat → Nat, KK (D, C3, ad) s) (hx : va_X b L xs s s.heap) (hb : b < s.heap.size) (hi : i + 6 ≤ L) (hL : L ≤ 3072) (hl : lv_has ls 8 [(4, .int (nI i)), (3, .ref bo), (2, .ref (adm 0)), (1, .ref (adc 0)), (0, .ref b)]) (hS : LSt s D C3 adc adm wo H locs) (hc : cells + 128 ≤ 601024) (hs : slots + 128 ≤ 7293034)
    (kk : ∀ (H1 : Heap) (locs1 : List Loc), LSt s D C3 adc adm wo H1 locs1 → W p l e room_1 s m #[Value.ref b] below meth c H1 locs1 (cells + 128) (slots + 128) Q (F0 m 1743 ls [])) : W p l e room_1 s m #[Value.ref b] below meth c H locs cells slots Q (F0 m 1369 ls []) := by
  obtain ⟨LP, kf, σ, ρ, μ, h, hPL, hA⟩ := hS
  obtain ⟨f0, hf⟩ := hA.1
  obtain ⟨r, e1, e2⟩ : ∃ r, X11_count kf σ ρ (xs (i + 1)) = some r ∧ X12_count μ (xs (i + 1)) = some r := E_count hf (xs (i + 1))
  refine lv_aload_n S.1 S.2.1 dL_law_1369 rfl (lv_at hl 3 rfl) ?_
  refine r_scr (j := 1) S hx hb (by omega) hL (by omega) h hl dL_law_1370 dL_law_1371 dL_law_1373 dL_law_1374 dL_law_1375 ?_
  refine k_c (run_p2 (g := (D, C3, adc)) (mc := 128) (ms := 128) (Rr := fun o w => o = some (.int r) ∧ w = WCl D C3 adc LP kf σ ρ) (va_runV (As := [.int (xs (i + 1))]) (rest := []) S (c_X11_count (g := (D, C3, adc)) (A := va_A (WCl D C3 adc LP kf σ ρ) H.size) hPL e1) (cwV 1 S.2.2.2.2 (ul_V tw_4_43 tw_4_44 tw_4_45 tw_1_1 cw_X11_count) rfl rfl rfl hv_X11_count ⟨Nat.le_of_ble_eq_true rfl, Nat.le_of_ble_eq_true rfl⟩) ⟨PreM.blind, h.mc.recv (hK adc) cfX11 0 (by decide) ly_0, h.mc.pre (hK adc)⟩ rfl rfl hl.1 rfl (lv_room (Nat.le_of_ble_eq_true rfl)) dL_law_1376 ⟨by show cells + 0 ≤ 601024; omega, by show slots + 0 ≤ 7293034; omega⟩) h.mc.1 h.mc.2.1 ⟨rfl, rfl⟩) h (fun o w H locs hw h => ?_)
  obtain ⟨rfl, rfl⟩ := hw
  show W _ _ _ _ _ _ _ _ _ _ _ _ _ _ _ (F0 m 1379 ls [.int r])
  refine lv_aload_n S.1 S.2.1 dL_law_1379 rfl (lv_at hl 2 rfl) ?_
  refine r_scr (j := 1) S hx hb (by omega) hL (by omega) h hl dL_law_1380 dL_law_1381 dL_law_1383 dL_law_1384 dL_law_1385 ?_
  refine k_r (run_p2 (g := (D, C3, adm)) (mc := 0) (ms := 0) (Rr := fun o w => o = some (.int r) ∧ w = WMo D C3 adm μ) (va_runV (As := [.int (xs (i + 1))]) (rest := [.int r]) S (c_X12_count (g := (D, C3, adm)) (A := va_A (WMo D C3 adm μ) H.size) e2) (cwV 1 S.2.2.2.2 (ul_V tw_6_186 tw_6_187 tw_6_188 tw_1_12 cw_X12_count) rfl rfl rfl hv_X12_count ⟨Nat.le_of_ble_eq_true rfl, Nat.le_of_ble_eq_true rfl⟩) ⟨PreM.blind, h.mm.recv (hK adm) cfX12 0 (by decide) lm_0, h.mm.pre (hK adm)⟩ rfl rfl hl.1 rfl (lv_room (Nat.le_of_ble_eq_true rfl)) dL_law_1386 ⟨by show cells + 128 + 0 ≤ 601024; omega, by show slots + 128 + 0 ≤ 7293034; omega⟩) h.mm.1 h.mm.2.1 ⟨rfl, rfl⟩) h (fun o w H locs hw h => ?_)
  obtain ⟨rfl, rfl⟩ := hw
  show W _ _ _ _ _ _ _ _ _ _ _ _ _ _ _ (F0 m 1389 ls [.int r, .int r])
  refine lv_icmp_eq (tgt := 1743) S.1 S.2.1 dL_law_1389 (by decide) (fun _ => ?_) (fun b => absurd rfl b)
  exact kk H locs ⟨LP, kf, σ, ρ, μ, h, hPL, hA⟩
set_option maxRecDepth 20000 in
theorem w_law_row (S : CallFix p m c cL_law 8 s #[Value.ref b] UL "SideBySideLaw") (hK : ∀ ad : Nat → Nat, KK (D, C3, ad) s) (hx : va_X b L xs s s.heap) (hb : b < s.heap.size) (hi : i + 6 ≤ L) (hL : L ≤ 3072) (hl : lv_has ls 8 [(4, .int (nI i)), (3, .ref bo), (2, .ref (adm 0)), (1, .ref (adc 0)), (0, .ref b)]) (hS : LSt s D C3 adc adm wo H locs) (hc : cells + 128 ≤ 601024) (hs : slots + 128 ≤ 7293034)
    (kk : ∀ (H1 : Heap) (locs1 : List Loc), LSt s D C3 adc adm wo H1 locs1 → W p l e room_1 s m #[Value.ref b] below meth c H1 locs1 (cells + 128) (slots + 128) Q (F0 m 1743 ls [])) : W p l e room_1 s m #[Value.ref b] below meth c H locs cells slots Q (F0 m 1455 ls []) := by
  obtain ⟨LP, kf, σ, ρ, μ, h, hPL, hA⟩ := hS
  obtain ⟨r, σ1, ρ1, μ1, e1, e2, hA1⟩ : ∃ r σ1 ρ1 μ1, X11_row kf σ ρ (xs (i + 1)) (xs (i + 2)) (xs (i + 3)) = some (r, σ1, ρ1) ∧ X12_row μ (xs (i + 1)) (xs (i + 2)) (xs (i + 3)) = some (r, μ1) ∧ All σ1 ρ1 kf μ1 := E_row hA (xs (i + 1)) (xs (i + 2)) (xs (i + 3))
  refine lv_aload_n S.1 S.2.1 dL_law_1455 rfl (lv_at hl 3 rfl) ?_
  refine r_scr (j := 1) S hx hb (by omega) hL (by omega) h hl dL_law_1456 dL_law_1457 dL_law_1459 dL_law_1460 dL_law_1461 ?_
  refine r_scr (j := 2) S hx hb (by omega) hL (by omega) h hl dL_law_1462 dL_law_1463 dL_law_1465 dL_law_1466 dL_law_1467 ?_
  refine r_scr (j := 3) S hx hb (by omega) hL (by omega) h hl dL_law_1468 dL_law_1469 dL_law_1471 dL_law_1472 dL_law_1473 ?_
  refine k_c (run_m (mc := 128) (ms := 128) (Rr := fun o w => o = some (.int r) ∧ w = WCl D C3 adc LP kf σ1 ρ1) (va_runV (As := [.int (xs (i + 1)), .int (xs (i + 2)), .int (xs (i + 3))]) (rest := []) S (c_X11_row (g := (D, C3, adc)) (A := va_A (WCl D C3 adc LP kf σ ρ) H.size) hPL e1) (cwV 3 S.2.2.2.2 (ul_V tw_4_64 tw_4_65 tw_4_66 tw_1_1 cw_X11_row) rfl rfl rfl hv_X11_row ⟨Nat.le_of_ble_eq_true rfl, Nat.le_of_ble_eq_true rfl⟩) ⟨PreM.blind, h.mc.recv (hK adc) cfX11 0 (by decide) ly_0, h.mc.pre (hK adc)⟩ rfl rfl hl.1 rfl (lv_room (Nat.le_of_ble_eq_true rfl)) dL_law_1474 ⟨by show cells + 0 ≤ 601024; omega, by show slots + 0 ≤ 7293034; omega⟩) ⟨rfl, rfl⟩) h (fun o w H locs hw h => ?_)
  obtain ⟨rfl, rfl⟩ := hw
  show W _ _ _ _ _ _ _ _ _ _ _ _ _ _ _ (F0 m 1477 ls [.int r])
  refine lv_aload_n S.1 S.2.1 dL_law_1477 rfl (lv_at hl 2 rfl) ?_
  refine r_scr (j := 1) S hx hb (by omega) hL (by omega) h hl dL_law_1478 dL_law_1479 dL_law_1481 dL_law_1482 dL_law_1483 ?_
  refine r_scr (j := 2) S hx hb (by omega) hL (by omega) h hl dL_law_1484 dL_law_1485 dL_law_1487 dL_law_1488 dL_law_1489 ?_
  refine r_scr (j := 3) S hx hb (by omega) hL (by omega) h hl dL_law_1490 dL_law_1491 dL_law_1493 dL_law_1494 dL_law_1495 ?_
  refine k_r (run_m (mc := 0) (ms := 0) (Rr := fun o w => o = some (.int r) ∧ w = WMo D C3 adm μ1) (va_runV (As := [.int (xs (i + 1)), .int (xs (i + 2)), .int (xs (i + 3))]) (rest := [.int r]) S (c_X12_row (g := (D, C3, adm)) (A := va_A (WMo D C3 adm μ) H.size) e2) (cwV 3 S.2.2.2.2 (ul_V tw_6_198 tw_6_199 tw_6_200 tw_1_12 cw_X12_row) rfl rfl rfl hv_X12_row ⟨Nat.le_of_ble_eq_true rfl, Nat.le_of_ble_eq_true rfl⟩) ⟨PreM.blind, h.mm.recv (hK adm) cfX12 0 (by decide) lm_0, h.mm.pre (hK adm)⟩ rfl rfl hl.1 rfl (lv_room (Nat.le_of_ble_eq_true rfl)) dL_law_1496 ⟨by show cells + 128 + 0 ≤ 601024; omega, by show slots + 128 + 0 ≤ 7293034; omega⟩) ⟨rfl, rfl⟩) h (fun o w H locs hw h => ?_)
  obtain ⟨rfl, rfl⟩ := hw
  show W _ _ _ _ _ _ _ _ _ _ _ _ _ _ _ (F0 m 1499 ls [.int r, .int r])
  refine lv_icmp_eq (tgt := 1743) S.1 S.2.1 dL_law_1499 (by decide) (fun _ => ?_) (fun b => absurd rfl b)
  exact kk H locs ⟨LP, kf, σ1, ρ1, μ1, h, hPL, hA1⟩
set_option maxRecDepth 20000 in
theorem w_law_put (S : CallFix p m c cL_law 8 s #[Value.ref b] UL "SideBySideLaw") (hK : ∀ ad : Nat → Nat, KK (D, C3, ad) s) (hx : va_X b L xs s s.heap) (hb : b < s.heap.size) (hi : i + 6 ≤ L) (hL : L ≤ 3072) (hl : lv_has ls 8 [(4, .int (nI i)), (3, .ref bo), (2, .ref (adm 0)), (1, .ref (adc 0)), (0, .ref b)]) (hS : LSt s D C3 adc adm wo H locs) (hc : cells + 128 ≤ 601024) (hs : slots + 128 ≤ 7293034)
    (kk : ∀ (H1 : Heap) (locs1 : List Loc), LSt s D C3 adc adm wo H1 locs1 → W p l e room_1 s m #[Value.ref b] below meth c H1 locs1 (cells + 128) (slots + 128) Q (F0 m 1743 ls [])) : W p l e room_1 s m #[Value.ref b] below meth c H locs cells slots Q (F0 m 1504 ls []) := by
  obtain ⟨LP, kf, σ, ρ, μ, h, hPL, hA⟩ := hS
  obtain ⟨r, σ1, ρ1, μ1, e1, e2, hA1⟩ : ∃ r σ1 ρ1 μ1, X11_put kf σ ρ (xs (i + 1)) (xs (i + 2)) (xs (i + 3)) = some (r, σ1, ρ1) ∧ X12_put μ (xs (i + 1)) (xs (i + 2)) (xs (i + 3)) = some (r, μ1) ∧ All σ1 ρ1 kf μ1 := E_put hA (xs (i + 1)) (xs (i + 2)) (xs (i + 3))
  refine lv_aload_n S.1 S.2.1 dL_law_1504 rfl (lv_at hl 3 rfl) ?_
  refine r_scr (j := 1) S hx hb (by omega) hL (by omega) h hl dL_law_1505 dL_law_1506 dL_law_1508 dL_law_1509 dL_law_1510 ?_
  refine r_scr (j := 2) S hx hb (by omega) hL (by omega) h hl dL_law_1511 dL_law_1512 dL_law_1514 dL_law_1515 dL_law_1516 ?_
  refine r_scr (j := 3) S hx hb (by omega) hL (by omega) h hl dL_law_1517 dL_law_1518 dL_law_1520 dL_law_1521 dL_law_1522 ?_
  refine k_c (run_m (mc := 128) (ms := 128) (Rr := fun o w => o = some (.int r) ∧ w = WCl D C3 adc LP kf σ1 ρ1) (va_runV (As := [.int (xs (i + 1)), .int (xs (i + 2)), .int (xs (i + 3))]) (rest := []) S (c_X11_put (g := (D, C3, adc)) (A := va_A (WCl D C3 adc LP kf σ ρ) H.size) hPL e1) (cwV 3 S.2.2.2.2 (ul_V tw_4_72 tw_4_73 tw_4_74 tw_1_1 cw_X11_put) rfl rfl rfl hv_X11_put ⟨Nat.le_of_ble_eq_true rfl, Nat.le_of_ble_eq_true rfl⟩) ⟨PreM.blind, h.mc.recv (hK adc) cfX11 0 (by decide) ly_0, h.mc.pre (hK adc)⟩ rfl rfl hl.1 rfl (lv_room (Nat.le_of_ble_eq_true rfl)) dL_law_1523 ⟨by show cells + 0 ≤ 601024; omega, by show slots + 0 ≤ 7293034; omega⟩) ⟨rfl, rfl⟩) h (fun o w H locs hw h => ?_)
  obtain ⟨rfl, rfl⟩ := hw
  show W _ _ _ _ _ _ _ _ _ _ _ _ _ _ _ (F0 m 1526 ls [.int r])
  refine lv_aload_n S.1 S.2.1 dL_law_1526 rfl (lv_at hl 2 rfl) ?_
  refine r_scr (j := 1) S hx hb (by omega) hL (by omega) h hl dL_law_1527 dL_law_1528 dL_law_1530 dL_law_1531 dL_law_1532 ?_
  refine r_scr (j := 2) S hx hb (by omega) hL (by omega) h hl dL_law_1533 dL_law_1534 dL_law_1536 dL_law_1537 dL_law_1538 ?_
  refine r_scr (j := 3) S hx hb (by omega) hL (by omega) h hl dL_law_1539 dL_law_1540 dL_law_1542 dL_law_1543 dL_law_1544 ?_
  refine k_r (run_m (mc := 0) (ms := 0) (Rr := fun o w => o = some (.int r) ∧ w = WMo D C3 adm μ1) (va_runV (As := [.int (xs (i + 1)), .int (xs (i + 2)), .int (xs (i + 3))]) (rest := [.int r]) S (c_X12_put (g := (D, C3, adm)) (A := va_A (WMo D C3 adm μ) H.size) e2) (cwV 3 S.2.2.2.2 (ul_V tw_6_202 tw_6_203 tw_6_204 tw_1_12 cw_X12_put) rfl rfl rfl hv_X12_put ⟨Nat.le_of_ble_eq_true rfl, Nat.le_of_ble_eq_true rfl⟩) ⟨PreM.blind, h.mm.recv (hK adm) cfX12 0 (by decide) lm_0, h.mm.pre (hK adm)⟩ rfl rfl hl.1 rfl (lv_room (Nat.le_of_ble_eq_true rfl)) dL_law_1545 ⟨by show cells + 128 + 0 ≤ 601024; omega, by show slots + 128 + 0 ≤ 7293034; omega⟩) ⟨rfl, rfl⟩) h (fun o w H locs hw h => ?_)
  obtain ⟨rfl, rfl⟩ := hw
  show W _ _ _ _ _ _ _ _ _ _ _ _ _ _ _ (F0 m 1548 ls [.int r, .int r])
  refine lv_icmp_eq (tgt := 1743) S.1 S.2.1 dL_law_1548 (by decide) (fun _ => ?_) (fun b => absurd rfl b)
  exact kk H locs ⟨LP, kf, σ1, ρ1, μ1, h, hPL, hA1⟩
set_option maxRecDepth 20000 in
theorem w_law_copy (S : CallFix p m c cL_law 8 s #[Value.ref b] UL "SideBySideLaw") (hK : ∀ ad : Nat → Nat, KK (D, C3, ad) s) (hx : va_X b L xs s s.heap) (hb : b < s.heap.size) (hi : i + 6 ≤ L) (hL : L ≤ 3072) (hl : lv_has ls 8 [(4, .int (nI i)), (3, .ref bo), (2, .ref (adm 0)), (1, .ref (adc 0)), (0, .ref b)]) (hS : LSt s D C3 adc adm wo H locs) (hc : cells + 128 ≤ 601024) (hs : slots + 128 ≤ 7293034)
    (kk : ∀ (H1 : Heap) (locs1 : List Loc), LSt s D C3 adc adm wo H1 locs1 → W p l e room_1 s m #[Value.ref b] below meth c H1 locs1 (cells + 128) (slots + 128) Q (F0 m 1743 ls [])) : W p l e room_1 s m #[Value.ref b] below meth c H locs cells slots Q (F0 m 1620 ls []) := by
  obtain ⟨LP, kf, σ, ρ, μ, h, hPL, hA⟩ := hS
  obtain ⟨r, σ1, ρ1, μ1, e1, e2, hA1⟩ : ∃ r σ1 ρ1 μ1, X11_copy kf σ ρ (xs (i + 1)) (xs (i + 2)) (xs (i + 3)) (xs (i + 4)) (xs (i + 5)) = some (r, σ1, ρ1) ∧ X12_copy μ (xs (i + 1)) (xs (i + 2)) (xs (i + 3)) (xs (i + 4)) (xs (i + 5)) = some (r, μ1) ∧ All σ1 ρ1 kf μ1 := E_copy hA (xs (i + 1)) (xs (i + 2)) (xs (i + 3)) (xs (i + 4)) (xs (i + 5))
  refine lv_aload_n S.1 S.2.1 dL_law_1620 rfl (lv_at hl 3 rfl) ?_
  refine r_scr (j := 1) S hx hb (by omega) hL (by omega) h hl dL_law_1621 dL_law_1622 dL_law_1624 dL_law_1625 dL_law_1626 ?_
  refine r_scr (j := 2) S hx hb (by omega) hL (by omega) h hl dL_law_1627 dL_law_1628 dL_law_1630 dL_law_1631 dL_law_1632 ?_
  refine r_scr (j := 3) S hx hb (by omega) hL (by omega) h hl dL_law_1633 dL_law_1634 dL_law_1636 dL_law_1637 dL_law_1638 ?_
  refine r_scr (j := 4) S hx hb (by omega) hL (by omega) h hl dL_law_1639 dL_law_1640 dL_law_1642 dL_law_1643 dL_law_1644 ?_
  refine r_scr (j := 5) S hx hb (by omega) hL (by omega) h hl dL_law_1645 dL_law_1646 dL_law_1648 dL_law_1649 dL_law_1650 ?_
  refine k_c (run_m (mc := 128) (ms := 128) (Rr := fun o w => o = some (.int r) ∧ w = WCl D C3 adc LP kf σ1 ρ1) (va_runV (As := [.int (xs (i + 1)), .int (xs (i + 2)), .int (xs (i + 3)), .int (xs (i + 4)), .int (xs (i + 5))]) (rest := []) S (c_X11_copy (g := (D, C3, adc)) (A := va_A (WCl D C3 adc LP kf σ ρ) H.size) hPL e1) (cwV 5 S.2.2.2.2 (ul_V tw_4_80 tw_4_81 tw_4_82 tw_1_1 cw_X11_copy) rfl rfl rfl hv_X11_copy ⟨Nat.le_of_ble_eq_true rfl, Nat.le_of_ble_eq_true rfl⟩) ⟨PreM.blind, h.mc.recv (hK adc) cfX11 0 (by decide) ly_0, h.mc.pre (hK adc)⟩ rfl rfl hl.1 rfl (lv_room (Nat.le_of_ble_eq_true rfl)) dL_law_1651 ⟨by show cells + 0 ≤ 601024; omega, by show slots + 0 ≤ 7293034; omega⟩) ⟨rfl, rfl⟩) h (fun o w H locs hw h => ?_)
  obtain ⟨rfl, rfl⟩ := hw
  show W _ _ _ _ _ _ _ _ _ _ _ _ _ _ _ (F0 m 1654 ls [.int r])
  refine lv_aload_n S.1 S.2.1 dL_law_1654 rfl (lv_at hl 2 rfl) ?_
  refine r_scr (j := 1) S hx hb (by omega) hL (by omega) h hl dL_law_1655 dL_law_1656 dL_law_1658 dL_law_1659 dL_law_1660 ?_
  refine r_scr (j := 2) S hx hb (by omega) hL (by omega) h hl dL_law_1661 dL_law_1662 dL_law_1664 dL_law_1665 dL_law_1666 ?_
  refine r_scr (j := 3) S hx hb (by omega) hL (by omega) h hl dL_law_1667 dL_law_1668 dL_law_1670 dL_law_1671 dL_law_1672 ?_
  refine r_scr (j := 4) S hx hb (by omega) hL (by omega) h hl dL_law_1673 dL_law_1674 dL_law_1676 dL_law_1677 dL_law_1678 ?_
  refine r_scr (j := 5) S hx hb (by omega) hL (by omega) h hl dL_law_1679 dL_law_1680 dL_law_1682 dL_law_1683 dL_law_1684 ?_
  refine k_r (run_m (mc := 0) (ms := 0) (Rr := fun o w => o = some (.int r) ∧ w = WMo D C3 adm μ1) (va_runV (As := [.int (xs (i + 1)), .int (xs (i + 2)), .int (xs (i + 3)), .int (xs (i + 4)), .int (xs (i + 5))]) (rest := [.int r]) S (c_X12_copy (g := (D, C3, adm)) (A := va_A (WMo D C3 adm μ) H.size) e2) (cwV 5 S.2.2.2.2 (ul_V tw_6_210 tw_6_211 tw_6_212 tw_1_12 cw_X12_copy) rfl rfl rfl hv_X12_copy ⟨Nat.le_of_ble_eq_true rfl, Nat.le_of_ble_eq_true rfl⟩) ⟨PreM.blind, h.mm.recv (hK adm) cfX12 0 (by decide) lm_0, h.mm.pre (hK adm)⟩ rfl rfl hl.1 rfl (lv_room (Nat.le_of_ble_eq_true rfl)) dL_law_1685 ⟨by show cells + 128 + 0 ≤ 601024; omega, by show slots + 128 + 0 ≤ 7293034; omega⟩) ⟨rfl, rfl⟩) h (fun o w H locs hw h => ?_)
  obtain ⟨rfl, rfl⟩ := hw
  show W _ _ _ _ _ _ _ _ _ _ _ _ _ _ _ (F0 m 1688 ls [.int r, .int r])
  refine lv_icmp_eq (tgt := 1743) S.1 S.2.1 dL_law_1688 (by decide) (fun _ => ?_) (fun b => absurd rfl b)
  exact kk H locs ⟨LP, kf, σ1, ρ1, μ1, h, hPL, hA1⟩
set_option maxRecDepth 20000 in
theorem w_law_cost (S : CallFix p m c cL_law 8 s #[Value.ref b] UL "SideBySideLaw") (hK : ∀ ad : Nat → Nat, KK (D, C3, ad) s) (hx : va_X b L xs s s.heap) (hb : b < s.heap.size) (hi : i + 6 ≤ L) (hL : L ≤ 3072) (hl : lv_has ls 8 [(4, .int (nI i)), (3, .ref bo), (2, .ref (adm 0)), (1, .ref (adc 0)), (0, .ref b)]) (hS : LSt s D C3 adc adm wo H locs) (hc : cells + 128 ≤ 601024) (hs : slots + 128 ≤ 7293034)
    (kk : ∀ (H1 : Heap) (locs1 : List Loc), LSt s D C3 adc adm wo H1 locs1 → W p l e room_1 s m #[Value.ref b] below meth c H1 locs1 (cells + 128) (slots + 128) Q (F0 m 1743 ls [])) : W p l e room_1 s m #[Value.ref b] below meth c H locs cells slots Q (F0 m 1693 ls []) := by
  obtain ⟨LP, kf, σ, ρ, μ, h, hPL, hA⟩ := hS
  obtain ⟨r, e1, e2⟩ : ∃ r, X11_cost kf σ ρ (xs (i + 1)) = some r ∧ X12_cost μ (xs (i + 1)) = some r := E_cost hA (xs (i + 1))
  refine lv_aload_n S.1 S.2.1 dL_law_1693 rfl (lv_at hl 3 rfl) ?_
  refine r_scr (j := 1) S hx hb (by omega) hL (by omega) h hl dL_law_1694 dL_law_1695 dL_law_1697 dL_law_1698 dL_law_1699 ?_
  refine k_c (run_p2 (g := (D, C3, adc)) (mc := 128) (ms := 128) (Rr := fun o w => o = some (.int r) ∧ w = WCl D C3 adc LP kf σ ρ) (va_runV (As := [.int (xs (i + 1))]) (rest := []) S (c_X11_cost (g := (D, C3, adc)) (A := va_A (WCl D C3 adc LP kf σ ρ) H.size) hPL e1) (cwV 1 S.2.2.2.2 (ul_V tw_4_88 tw_4_89 tw_4_90 tw_1_1 cw_X11_cost) rfl rfl rfl hv_X11_cost ⟨Nat.le_of_ble_eq_true rfl, Nat.le_of_ble_eq_true rfl⟩) ⟨PreM.blind, h.mc.recv (hK adc) cfX11 0 (by decide) ly_0, h.mc.pre (hK adc)⟩ rfl rfl hl.1 rfl (lv_room (Nat.le_of_ble_eq_true rfl)) dL_law_1700 ⟨by show cells + 0 ≤ 601024; omega, by show slots + 0 ≤ 7293034; omega⟩) h.mc.1 h.mc.2.1 ⟨rfl, rfl⟩) h (fun o w H locs hw h => ?_)
  obtain ⟨rfl, rfl⟩ := hw
  show W _ _ _ _ _ _ _ _ _ _ _ _ _ _ _ (F0 m 1703 ls [.int r])
  refine lv_aload_n S.1 S.2.1 dL_law_1703 rfl (lv_at hl 2 rfl) ?_
  refine r_scr (j := 1) S hx hb (by omega) hL (by omega) h hl dL_law_1704 dL_law_1705 dL_law_1707 dL_law_1708 dL_law_1709 ?_
  refine k_r (run_p2 (g := (D, C3, adm)) (mc := 0) (ms := 0) (Rr := fun o w => o = some (.int r) ∧ w = WMo D C3 adm μ) (va_runV (As := [.int (xs (i + 1))]) (rest := [.int r]) S (c_X12_cost (g := (D, C3, adm)) (A := va_A (WMo D C3 adm μ) H.size) e2) (cwV 1 S.2.2.2.2 (ul_V tw_6_214 tw_6_215 tw_6_216 tw_1_12 cw_X12_cost) rfl rfl rfl hv_X12_cost ⟨Nat.le_of_ble_eq_true rfl, Nat.le_of_ble_eq_true rfl⟩) ⟨PreM.blind, h.mm.recv (hK adm) cfX12 0 (by decide) lm_0, h.mm.pre (hK adm)⟩ rfl rfl hl.1 rfl (lv_room (Nat.le_of_ble_eq_true rfl)) dL_law_1710 ⟨by show cells + 128 + 0 ≤ 601024; omega, by show slots + 128 + 0 ≤ 7293034; omega⟩) h.mm.1 h.mm.2.1 ⟨rfl, rfl⟩) h (fun o w H locs hw h => ?_)
  obtain ⟨rfl, rfl⟩ := hw
  show W _ _ _ _ _ _ _ _ _ _ _ _ _ _ _ (F0 m 1713 ls [.int r, .int r])
  refine lv_icmp_eq (tgt := 1743) S.1 S.2.1 dL_law_1713 (by decide) (fun _ => ?_) (fun b => absurd rfl b)
  exact kk H locs ⟨LP, kf, σ, ρ, μ, h, hPL, hA⟩
end RR
