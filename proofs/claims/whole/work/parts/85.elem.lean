/-! the law's own method element: a value given out, or a throw caught -/
abbrev WO (bo : Nat) (cO : ClassId) (f : Nat → Int64) : Nat × va_E := (bo, .inl (cO, 1, .inr (.inl f)))
theorem dLe_0 : decode cL_element 0 = .ok (.aload_n 3, 1) := by decide +kernel
theorem dLe_1 : decode cL_element 1 = .ok (.iconst 0, 1) := by decide +kernel
theorem dLe_2 : decode cL_element 2 = .ok (.aload_n 0, 1) := by decide +kernel
theorem dLe_3 : decode cL_element 3 = .ok (.iload_n 1, 1) := by decide +kernel
theorem dLe_4 : decode cL_element 4 = .ok (.iload_n 2, 1) := by decide +kernel
theorem dLe_5 : decode cL_element 5 = .ok (.invokevirtual 7, 3) := by decide +kernel
theorem dLe_8 : decode cL_element 8 = .ok (.lastore, 1) := by decide +kernel
theorem dLe_9 : decode cL_element 9 = .ok (.goto 11, 3) := by decide +kernel
theorem dLe_12 : decode cL_element 12 = .ok (.astore 4, 2) := by decide +kernel
theorem dLe_14 : decode cL_element 14 = .ok (.iconst 1, 1) := by decide +kernel
theorem dLe_15 : decode cL_element 15 = .ok (.ireturn, 1) := by decide +kernel
theorem dLe_16 : decode cL_element 16 = .ok (.astore 4, 2) := by decide +kernel
theorem dLe_18 : decode cL_element 18 = .ok (.iconst 2, 1) := by decide +kernel
theorem dLe_19 : decode cL_element 19 = .ok (.ireturn, 1) := by decide +kernel
theorem dLe_20 : decode cL_element 20 = .ok (.iconst 0, 1) := by decide +kernel
theorem dLe_21 : decode cL_element 21 = .ok (.ireturn, 1) := by decide +kernel
theorem in01 : vp_in 0 1 := by
  show ¬ ((0 : Int32) < 0 ∨ 1 ≤ (0 : Int32).toNatClampNeg)
  decide
theorem D_fst {A : Nat → Prop} {a b : va_W} (h : va_D A (a ++ b)) : va_D A a := by
  have e : ∀ (i : Nat) (x : Nat × va_E), a[i]? = some x → (a ++ b)[i]? = some x := fun i x hx => by
    rw [List.getElem?_append_left (List.getElem?_eq_some_iff.mp hx).1]
    exact hx
  exact ⟨fun i j x y hx hy q => h.1 i j x y (e i x hx) (e j y hy) q, fun k x hx => h.2 k x (e k x hx)⟩
theorem D_snd {A : Nat → Prop} {a b : va_W} (h : va_D A (a ++ b)) : va_D A b := by
  refine ⟨fun i j x y hx hy q => ?_, fun k x hx => h.2 (a.length + k) x (ap_at hx)⟩
  have := h.1 (a.length + i) (a.length + j) x y (ap_at hx) (ap_at hy) q
  omega
theorem D_dj {A : Nat → Prop} {a b : va_W} (h : va_D A (a ++ b)) : Dj a b := by
  intro i j x y hx hy q
  have hl := (List.getElem?_eq_some_iff.mp hx).1
  have := h.1 i (a.length + j) x y (by rw [List.getElem?_append_left hl]; exact hx) (ap_at hy) q
  omega
theorem MemW.grow {g : GE} {A : Nat → Prop} {ws : va_W} {H0 H H1 : Heap} {locs locs1 : List Loc} (h : MemW g A ws H0 H locs) (hk : ∀ x : Nat, x < H.size → H1[x]? = H[x]?) (hS : va_S A H0 H1 locs1) : MemW g A ws H0 H1 locs1 :=
  ⟨h.1.kept (fun k x hx => hk x.1 ((h.1 k x hx).lt)), h.2.1, hS, h.2.2.2⟩
def PreL (g : GE) (A : Nat → Prop) (wc : va_W) (bo : Nat) (cO : ClassId) (f : Nat → Int64) (U : State) : Prop := PreW g A (WO bo cO f :: wc) U ∧ XT A U ∧ va_Nc xISE xIAE U ∧ va_K g.1 vwCl [(cO, .long)] U
theorem PreL.blind {g : GE} {A : Nat → Prop} {wc : va_W} {bo : Nat} {cO : ClassId} {f : Nat → Int64} {av : List Value} : FrameBlind (va_Pc av (PreL g A wc bo cO f)) :=
  fun a U fr mk q => ⟨q.1, (PreW.blind (av := av) a U fr mk ⟨q.1, q.2.1⟩).2, q.2.2.1.calling fr mk a, q.2.2.2.1.moved (U := U.calling fr mk a) (Vm.Alike.refl U.vm), va_K.moved (u := U) (U := U.calling fr mk a) (Vm.Alike.refl U.vm) q.2.2.2.2⟩
section RR
variable {p : Program} {l : Launch} {e : Env} {R : Room} {s : State} {m : MethodId} {args : Array Value} {below : List Frame} {meth : Method} {c : Code} {H H0 : Heap} {locs : List Loc} {cells slots mc ms : Nat} {Q : State → Prop} {pc : Nat} {ls : Array Slot} {st0 rest : List Value} {A : Nat → Prop}
/-- a call that answers and changes nothing, or throws and leaves all that was -/
theorem k_y {Pn Xn : Prop} {C : String} {v : Option Value} {Qa : State → Outcome → State → Prop} {XC : String → State → State → Prop} (hr : vx_Run p l e R s m args below meth c H locs cells slots mc ms (F0 m pc ls st0) rest Qa XC A) (hS : va_S A H0 H locs)
    (hq : ∀ (st : State) (oc : Outcome) (t : State), Qa st oc t → Pn ∧ oc = .returned v ∧ t.heap = st.heap) (hx : ∀ (E : String) (st t : State), XC E st t → Xn ∧ E = C ∧ st.heap.size ≤ t.heap.size ∧ ∀ q : Nat, q < st.heap.size → t.heap[q]? = st.heap[q]?)
    (kn : Pn → ∀ (locs1 : List Loc), va_S A H0 H locs1 → W p l e R s m args below meth c H locs1 (cells + mc) (slots + ms) Q (F0 m (pc + 3) ls (v.toList ++ rest)))
    (kx : Xn → ∀ (q : Addr) (ce : Cell) (H1 : Heap) (locs1 : List Loc), (∀ x : Nat, x < H.size → H1[x]? = H[x]?) → va_S A H0 H1 locs1 → H1[q]? = some ce → ce.vm = .none → s.vm.findClass C = some ce.cls → vx_W p l e R s m args below meth c H1 locs1 (cells + mc) (slots + ms) Q (F0 m pc ls rest) q) : W p l e R s m args below meth c H locs cells slots Q (F0 m pc ls st0) := by
  intro T hT X1
  have lc : ∀ L : List Loc, (∀ q ∈ L, A q.base) → ∀ q ∈ locs ++ L, A q.base := fun L hL q hq => by
    rcases List.mem_append.mp hq with h | h
    · exact hS.2.2 q h
    · exact hL q h
  rcases hr T hT X1 with ⟨w, st₀, t, T', L, h0, X', hL, e1, e2, hqa, st⟩ | ⟨q, st₀, t, T', L, E, ce, h0, X', hL, e1, e2, hxa, hce, hcv, hcl, st⟩
  · obtain ⟨hp, hv, hh⟩ := hq _ _ _ hqa
    cases hv
    obtain ⟨t2, a1, b1⟩ := kn hp (locs ++ L) ⟨hS.1, hS.2.1, lc L hL⟩ T' (by rw [e1, hh, h0]) X'
    exact ⟨t2, st t2 a1, b1⟩
  · obtain ⟨hp, hE, z1, z2⟩ := hx _ _ _ hxa
    subst hE
    rw [h0] at z1 z2
    have k1 : ∀ x : Nat, x < H.size → T'.heap[x]? = H[x]? := fun x hx => by
      rw [e1]
      exact z2 x hx
    obtain ⟨t2, a1, b1⟩ := kx hp q ce T'.heap (locs ++ L) k1 ⟨Nat.le_trans hS.1 (by rw [e1]; exact z1), fun x h1 h2 => (k1 x (Nat.lt_of_lt_of_le h1 hS.1)).trans (hS.2.1 x h1 h2), lc L hL⟩ (by rw [e1]; exact hce) hcv hcl T' rfl X'
    exact ⟨t2, st.trans a1, b1⟩
end RR
/-- what L_element answers, beside the reference's element -/
def ElR (wc : va_W) (bo : Nat) (cO : ClassId) (σ : IM) (ρ : RM) (kf : KF) (μ : IM) (a1 a2 : Int32) (o : Option Value) (w : va_W) : Prop := ∃ (r : Int32) (v : Int64) (μ1 : IM) (f1 : Nat → Int64), X12_element μ a1 a2 = some (v, μ1) ∧ μ1 0 19 = r ∧ All σ ρ kf μ1 ∧ (r = 0 → f1 0 = v) ∧ o = some (.int r) ∧ w = WO bo cO f1 :: wc
set_option maxRecDepth 20000 in
theorem c_L_element {l : Launch} (hst : l.stackTraces = false) {g : GE} {A : Nat → Prop} {LP : List Nat} {kf : KF} {σ : IM} {ρ : RM} {μ : IM} {a1 a2 : Int32} {bo : Nat} {cO : ClassId} {f : Nat → Int64} (hPL : PL LP kf) (h : All σ ρ kf μ) : Met l yL_element (.codeWith yL_element cL_element 5 (some .int) [(0, 9, 12, 13), (0, 9, 16, 15)] :: UL) ({ frames := 7, cells := 1, slots := 6, locals := 115 }) (va_Pc [.ref (g.2.2 0), .int a1, .int a2, .ref bo] (PreL g A (wl lyC 48 g σ ρ (va_pl LP (skE kf))) bo cO f)) (QE g A (ElR (wl lyC 48 g σ ρ (va_pl LP (skE kf))) bo cO σ ρ kf μ a1 a2)) 1 6 A := by
  refine e_ofH (by decide) (Nat.le_of_ble_eq_true rfl) ?_
  intro p e s m below meth c ls S hr hlk htb hv hl
  have hM0 := MemW.of hv.1
  have hK := hv.1.2.1
  have hX := hv.2.1
  have hN := hv.2.2.1
  have hKl := hv.2.2.2
  have hM : Mem lyC 48 g A (va_pl LP (skE kf)) σ ρ s.heap s.heap [] := ⟨P_snd (a := [WO bo cO f]) hM0.1, D_snd (a := [WO bo cO f]) hM0.2.1, hM0.2.2.1, hM0.2.2.2⟩
  have hl : lv_has ls 5 [(0, .ref (g.2.2 0)), (1, .int a1), (2, .int a2), (3, .ref bo)] := hl
  refine lv_aload_n S.1 S.2.1 dLe_0 rfl (lv_at hl 3 rfl) ?_
  refine lv_iconst (v := 0) S.1 S.2.1 dLe_1 (by decide) ?_
  refine lv_aload_n S.1 S.2.1 dLe_2 rfl (lv_at hl 0 rfl) ?_
  refine lv_iload_n S.1 S.2.1 dLe_3 rfl (lv_at hl 1 rfl) ?_
  refine lv_iload_n S.1 S.2.1 dLe_4 rfl (lv_at hl 2 rfl) ?_
  rcases E_element h a1 a2 with ⟨q1, r, μ1, e2, et, hA1⟩ | ⟨d, hd, hd1, q1, q2, r, μ1, e2, et, hA1⟩ | ⟨d, i, hd, hd1, hd2, hi, q1, q2, q3, μ1, e2, et, hA1⟩
  · refine k_y (C := xIAE) (v := none) (vx_runV (As := [.int a1, .int a2]) (rest := [.int 0, .ref bo]) S (c_el1 hst q1 hPL) (cwV 2 S.2.2.2.2 (ul_V tw_5_11 tw_5_12 tw_5_13 tw_1_1 cw_X11_element) rfl rfl rfl hv_X11_element ⟨Nat.le_of_ble_eq_true rfl, Nat.le_of_ble_eq_true rfl⟩) ⟨PreX.blind, hM.recv hK cfX11 0 (by decide) ly_0, hM.preX hK hX⟩ rfl rfl hl.1 rfl (lv_room (Nat.le_of_ble_eq_true rfl)) dLe_5 ⟨Nat.le_of_ble_eq_true rfl, Nat.le_of_ble_eq_true rfl⟩) hM0.2.2.1 (fun _ _ _ h => h) (fun _ _ _ h => h) (fun h => h.elim) (fun _ q9 ce H1 locs1 hk hS x1 x2 x3 => ?_)
    refine vx_catch (name := xIAE) S.2.2.2.1 [] ⟨0, 9, 12, 13⟩ [⟨0, 9, 16, 15⟩] (by rw [htb]; rfl) (fun z hz => by cases hz) rfl (by decide) (S.2.2.2.2 _ tw_5_9) (va_Nw.use rfl (hX.1 _ (List.mem_of_getElem? (i := 4) rfl))) x1 x2 x3 ?_
    refine lv_astore (lv' := [(4, .ref q9), (0, .ref (g.2.2 0)), (1, .int a1), (2, .int a2), (3, .ref bo)]) S.1 S.2.1 dLe_12 hl (by decide) rfl (fun ls hl => ?_)
    refine lv_iconst (v := 1) S.1 S.2.1 dLe_14 (by decide) ?_
    exact z_ei S (hM0.grow hk hS) hr rfl hlk ⟨1, r, μ1, f, e2, et, hA1, fun q => absurd q (by decide), rfl, rfl⟩ (Nat.le_of_ble_eq_true rfl) (Nat.le_of_ble_eq_true rfl) dLe_15
  · refine k_y (C := xISE) (v := none) (vx_runV (As := [.int a1, .int a2]) (rest := [.int 0, .ref bo]) S (c_el2 hst hd hd1 q1 q2 hPL) (cwV 2 S.2.2.2.2 (ul_V tw_5_11 tw_5_12 tw_5_13 tw_1_1 cw_X11_element) rfl rfl rfl hv_X11_element ⟨Nat.le_of_ble_eq_true rfl, Nat.le_of_ble_eq_true rfl⟩) ⟨PreX.blind, hM.recv hK cfX11 0 (by decide) ly_0, hM.preX hK hX⟩ rfl rfl hl.1 rfl (lv_room (Nat.le_of_ble_eq_true rfl)) dLe_5 ⟨Nat.le_of_ble_eq_true rfl, Nat.le_of_ble_eq_true rfl⟩) hM0.2.2.1 (fun _ _ _ h => h) (fun _ _ _ h => h) (fun h => h.elim) (fun _ q9 ce H1 locs1 hk hS x1 x2 x3 => ?_)
    refine vx_catch (name := xISE) S.2.2.2.1 [⟨0, 9, 12, 13⟩] ⟨0, 9, 16, 15⟩ [] (by rw [htb]; rfl) (fun z hz => ?_) rfl (by decide) (S.2.2.2.2 _ tw_5_10) (va_Nw.use rfl (hX.1 _ (List.mem_of_getElem? (i := 3) rfl))) x1 x2 x3 ?_
    · simp only [List.mem_cons, List.not_mem_nil, or_false] at hz
      subst hz
      exact Or.inr ⟨by decide, xIAE, S.2.2.2.2 _ tw_5_9, hN⟩
    refine lv_astore (lv' := [(4, .ref q9), (0, .ref (g.2.2 0)), (1, .int a1), (2, .int a2), (3, .ref bo)]) S.1 S.2.1 dLe_16 hl (by decide) rfl (fun ls hl => ?_)
    refine lv_iconst (v := 2) S.1 S.2.1 dLe_18 (by decide) ?_
    exact z_ei S (hM0.grow hk hS) hr rfl hlk ⟨2, r, μ1, f, e2, et, hA1, fun q => absurd q (by decide), rfl, rfl⟩ (Nat.le_of_ble_eq_true rfl) (Nat.le_of_ble_eq_true rfl) dLe_19
  · refine k_y (Pn := True) (Xn := False) (C := xISE) (v := some (.long (σ (29 + 2 * d + 1) i).toInt64)) (vx_runV (As := [.int a1, .int a2]) (rest := [.int 0, .ref bo]) S (c_el3 hst hd hi hd1 hd2 q1 q2 q3 hPL) (cwV 2 S.2.2.2.2 (ul_V tw_5_11 tw_5_12 tw_5_13 tw_1_1 cw_X11_element) rfl rfl rfl hv_X11_element ⟨Nat.le_of_ble_eq_true rfl, Nat.le_of_ble_eq_true rfl⟩) ⟨PreX.blind, hM.recv hK cfX11 0 (by decide) ly_0, hM.preX hK hX⟩ rfl rfl hl.1 rfl (lv_room (Nat.le_of_ble_eq_true rfl)) dLe_5 ⟨Nat.le_of_ble_eq_true rfl, Nat.le_of_ble_eq_true rfl⟩) hM0.2.2.1 (fun _ _ _ h => ⟨trivial, h⟩) (fun _ _ _ h => h.elim) (fun _ locs1 hS => ?_) (fun h => h.elim)
    show W p l e _ s m _ below meth c s.heap locs1 _ _ _ (F0 m 8 ls [.long (σ (29 + 2 * d + 1) i).toInt64, .int 0, .ref bo])
    refine va_last S.1 S.2.1 hKl hM0.1 hM0.2.1 hS 0 0 (f := f) (n := 1) rfl rfl in01 dLe_8 (fun H1 locs2 p1 d1 s1 => ?_)
    refine lv_goto (tgt := 20) S.1 S.2.1 dLe_9 (by decide) ?_
    refine lv_iconst (v := 0) S.1 S.2.1 dLe_20 (by decide) ?_
    exact z_ei (ws := WO bo cO (vp_updL f (0 : Int32).toNatClampNeg (σ (29 + 2 * d + 1) i).toInt64) :: wl lyC 48 g σ ρ (va_pl LP (skE kf))) S ⟨p1, d1, s1, hM0.2.2.2⟩ hr rfl hlk ⟨0, _, μ1, vp_updL f (0 : Int32).toNatClampNeg (σ (29 + 2 * d + 1) i).toInt64, e2, et, hA1, fun _ => if_pos rfl, rfl, rfl⟩ (Nat.le_of_ble_eq_true rfl) (Nat.le_of_ble_eq_true rfl) dLe_21
