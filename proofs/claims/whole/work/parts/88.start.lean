/-! THE CLAIM OUT OF ONE WALK OF THE LAW'S BODY. Your part is whole_start (and what it stands on); all else here is the same for every law, but numbers. -/
def R_law : String := "SideBySideLaw"
def lw_P (b : Addr) (xs : List Int32) (args : Array Value) (s : State) : Prop := args = #[.ref b] ∧ s.IntsAt b xs ∧ xs.length ≤ 3072 ∧ (Jvm.Cond.and given_1 narrow_1).before args s = true
def lw_Q (_ : Array Value) (s : State) (o : Outcome) (t : State) : Prop := o = .returned (some (.int 1)) ∧ Framed s o t [] 601024 7293034
def lw_Z (below : List Frame) (a : Array Value) (s : State) : State → Prop := fun t => ∃ o, t.status = .running ∧ Ended t below o ∧ lw_Q a s o t
/-- the law's own end, with 1 on the stack, nothing written that was there before, its room as the claim has it -/
theorem lw_ret {p : Program} {l : Launch} {e : Env} {s : State} {m : MethodId} {below : List Frame} {meth : Method} {c : Code} {b : Nat} (hx : p.tables.exec = Jvm.exec) (hb : c.code = code) (hr : meth.sig.returnType = ret) (hlocks : meth.locks = false) {pc : Nat} {H : Heap} {ls : Array Slot} (hdg : decode code pc = .ok (.ireturn, 1)) : W p l e room_1 s m #[Value.ref b] below meth c H [] 601024 7293034 (lw_Z below #[Value.ref b] s) (F0 m pc ls [.int 1]) := by
  intro T hT X
  obtain ⟨fs, hret, hrun, hended, hW, hframe⟩ := X.leave (v := some (.int 1)) (hlocks := hlocks) (fun h => by rw [hr] at h; cases h)
  have hmeth' : T.vm.method? m = some meth := X.method'
  refine ⟨T.setFrames fs, ?_, .returned (some (.int 1)), hrun, hended, rfl, ⟨_, rfl⟩, hW, hframe⟩
  jvm_step X.here [X.here.top, hx, hb, hdg, hmeth', hr, ret, narrow_b1]
  (try refine ⟨rfl, ?_⟩); (try refine ⟨rfl, ?_⟩)
  first | (intro acts; rw [hret _ acts rfl rfl rfl]) | rw [hret _ _ rfl rfl rfl]
  exact Steps.refl _
/-- what holds at the law's entry: the machine, the code, the tables' words (any of lw_tbl by 'hts w (by decide +kernel)'), the script of L ints xs at the cell b, what the Statement gives of the start (any of its parts by flat_of_before) -/
def lw_At (p : Program) (s : State) (m : MethodId) (meth : Method) (c : Code) (b L : Nat) (xs : Nat → Int32) : Prop :=
  p.tables.exec = Jvm.exec ∧ c.code = code ∧ meth.sig.returnType = ret ∧ c.maxLocals = 8 ∧ s.vm.findClass R_law = some m.cls ∧ (∀ w ∈ lw_tbl, w.before #[Value.ref b] s = true) ∧ va_X b L xs s s.heap ∧ b < s.heap.size ∧ meth.locks = false ∧ (Jvm.Cond.and given_1 narrow_1).before #[Value.ref b] s = true
theorem P_nil {D : va_G} {cl : List vw_C} {H : Heap} : va_P D cl [] H := fun k q hk => by simp at hk
theorem D_nil {A : Nat → Prop} : va_D A [] := ⟨fun i j x y hx => by simp at hx, fun k q hk => by simp at hk⟩
section RR
variable {p : Program} {l : Launch} {e : Env} {s : State} {m : MethodId} {below : List Frame} {meth : Method} {c : Code} {D : va_G} {C3 : Nat → ClassId} {b L : Nat} {xs : Nat → Int32}
/-- the loop's end -/
theorem w_end (S : CallFix p m c cL_law 8 s #[Value.ref b] UL "SideBySideLaw") (hr : meth.sig.returnType = ret) (hlk : meth.locks = false) {adc adm : Nat → Nat} {wo : va_W} {ls : Array Slot} {H : Heap} {locs : List Loc} {cells slots : Nat} (hS : LSt s D C3 adc adm wo H locs) (hc : cells ≤ 601024) (hs : slots ≤ 7293034) : W p l e room_1 s m #[Value.ref b] below meth c H locs cells slots (lw_Z below #[Value.ref b] s) (F0 m 1749 ls []) := by
  obtain ⟨LP, kf, σ, ρ, μ, h, -, -⟩ := hS
  refine lv_iconst (v := 1) S.1 S.2.1 dL_law_1749 (by decide) ?_
  refine va_forget (fun q hq => h.2.2.2.2.2.2.2.2.2.2.2 q hq) ?_
  refine W.widen hc hs ?_
  exact lw_ret S.1 S.2.1 hr hlk dL_law_1750
set_option maxRecDepth 20000 in
/-- the entry: both objects made, the row for a value given out; then the loop -/
theorem w_start (hst : l.stackTraces = false) (hX : XT (NewA s) s) (hN : va_Nc xIAE xUOE s ∧ va_Nc xISE xUOE s ∧ va_Nc xISE xIAE s) (hO : AO s) (S : CallFix p m c cL_law 8 s #[Value.ref b] UL "SideBySideLaw") (hr : meth.sig.returnType = ret) (hlk : meth.locks = false) (hK : ∀ ad : Nat → Nat, KK (D, C3, ad) s) (hx : va_X b L xs s s.heap) (hb : b < s.heap.size) (hL : L ≤ 3072) {ls : Array Slot} (hl : lv_has ls 8 [(0, .ref b)]) : W p l e room_1 s m #[Value.ref b] below meth c s.heap [] 0 0 (lw_Z below #[Value.ref b] s) (F0 m 0 ls []) := by
  obtain ⟨z, hz⟩ : ∃ z : Nat → Nat, z = fun _ => 0 := ⟨_, rfl⟩
  have hM : MemW (D, C3, z) (NewA s) ([] ++ []) s.heap s.heap [] := ⟨P_nil, D_nil, va_S.rf, fun q h => h⟩
  refine n_new S (hK z) hM cfX11 tyX11_ok tw_1_23 tw_1_24 tw_1_1 (fs := [.null, .null, .null, .int 0, .null, .null, .null, .null, .int 0]) (fun j hj => by rcases (show j = 0 ∨ j = 1 ∨ j = 2 ∨ j = 3 ∨ j = 4 ∨ j = 5 ∨ j = 6 ∨ j = 7 ∨ j = 8 by omega) with rfl | rfl | rfl | rfl | rfl | rfl | rfl | rfl | rfl <;> rfl) (Nat.le_of_ble_eq_true rfl) (Nat.le_of_ble_eq_true rfl) dL_law_0 (fun q0 H0 zM => ?_)
  clear hM
  have hM : MemW (D, C3, z) (NewA s) [(q0, .inr (10, [.null, .null, .null, .int 0, .null, .null, .null, .null, .int 0]))] s.heap H0 [] := zM
  clear zM
  refine lv_dup S.1 S.2.1 dL_law_3 rfl ?_
  refine k_e (va_runI (As := []) (rest := [.ref q0]) S (c_X11_init (g := (D, C3, z)) (A := NewA s) (q0 := q0)) (cwI 0 S.2.2.2.2 (ul_G (ul_c cw_X11_init)) rfl rfl rfl (S.2.2.2.2 _ tw_1_1) (S.2.2.2.2 _ tw_1_25) (S.2.2.2.2 _ tw_1_26) rfl (by decide +kernel) ⟨Nat.le_of_ble_eq_true rfl, Nat.le_of_ble_eq_true rfl⟩) ⟨PreO.blind, hM.preO (hK z) hO⟩ rfl rfl hl.1 rfl (lv_room (Nat.le_of_ble_eq_true rfl)) dL_law_4 ⟨Nat.le_of_ble_eq_true rfl, Nat.le_of_ble_eq_true rfl⟩) hM (fun o w H1 locs1 hw zM => ?_)
  clear hM
  obtain ⟨rfl, adc, LP, kf, ρ, had, hPL, hρ1, hρ2, rfl⟩ := hw
  have hM : MemW (D, C3, z) (NewA s) (WCl D C3 adc LP kf cz ρ) s.heap H1 locs1 := zM
  clear zM
  show W _ _ _ _ _ _ _ _ _ _ _ _ _ _ _ (F0 m 7 ls [.ref q0])
  rw [← had]
  refine lv_astore_n (lv' := [(1, .ref (adc 0)), (0, .ref b)]) S.1 S.2.1 dL_law_7 rfl hl (by decide) rfl (fun ls hl => ?_)
  have hM0 : MemW (D, C3, z) (NewA s) (WCl D C3 adc LP kf cz ρ ++ []) s.heap H1 locs1 := by
    rw [List.append_nil]
    exact hM
  clear hM
  refine n_new S (hK z) hM0 cfX12 tyX12_ok tw_5_19 tw_5_20 tw_1_12 (fs := [.null, .null, .null, .null, .null, .int 0, .int 0, .int 0, .int 0, .null, .int 0, .int 0, .int 0, .null, .null, .null, .null, .null, .null, .int 0]) (fun j hj => by rcases (show j = 0 ∨ j = 1 ∨ j = 2 ∨ j = 3 ∨ j = 4 ∨ j = 5 ∨ j = 6 ∨ j = 7 ∨ j = 8 ∨ j = 9 ∨ j = 10 ∨ j = 11 ∨ j = 12 ∨ j = 13 ∨ j = 14 ∨ j = 15 ∨ j = 16 ∨ j = 17 ∨ j = 18 ∨ j = 19 by omega) with rfl | rfl | rfl | rfl | rfl | rfl | rfl | rfl | rfl | rfl | rfl | rfl | rfl | rfl | rfl | rfl | rfl | rfl | rfl | rfl <;> rfl) (Nat.le_of_ble_eq_true rfl) (Nat.le_of_ble_eq_true rfl) dL_law_8 (fun q1 H2 zM => ?_)
  clear hM0
  have hM : MemW (D, C3, z) (NewA s) (WCl D C3 adc LP kf cz ρ ++ [(q1, .inr (11, [.null, .null, .null, .null, .null, .int 0, .int 0, .int 0, .int 0, .null, .int 0, .int 0, .int 0, .null, .null, .null, .null, .null, .null, .int 0]))]) s.heap H2 locs1 := zM
  clear zM
  refine lv_dup S.1 S.2.1 dL_law_11 rfl ?_
  have hPc := P_snd hM.1
  have hPr := P_fst hM.1
  have hDc := D_snd hM.2.1
  refine k_own (g := (D, C3, z)) (wr := WCl D C3 adc LP kf cz ρ) (A0 := NewA s) (va_runI (As := []) (rest := [.ref q1]) S (c_X12_init (g := (D, C3, z)) (q0 := q1)) (cwI 0 S.2.2.2.2 (ul_G (ul_c cw_X12_init)) rfl rfl rfl (S.2.2.2.2 _ tw_1_12) (S.2.2.2.2 _ tw_5_21) (S.2.2.2.2 _ tw_5_22) rfl (by decide +kernel) ⟨Nat.le_of_ble_eq_true rfl, Nat.le_of_ble_eq_true rfl⟩) ⟨PreO.blind, fun U hU hW => ⟨rfl, ⟨fun q hq => Or.inr (by rw [← hU]; exact hq), (hK z).warm hW, by rw [hU]; exact hPc, hDc.self⟩, hO.warm hW⟩⟩ rfl rfl hl.1 rfl (lv_room (Nat.le_of_ble_eq_true rfl)) dL_law_12 ⟨Nat.le_of_ble_eq_true rfl, Nat.le_of_ble_eq_true rfl⟩) hPr hDc (D_dj hM.2.1).sw hM.2.2.1 (fun q hq => hq) (fun o w H3 locs3 hw p1 p2 d1 j1 hS3 _ _ => ?_)
  have d2 := D_fst hM.2.1
  clear hM hPc hPr hDc
  obtain ⟨rfl, adm, had2, rfl⟩ := hw
  have p1 : va_P D vwCl (WMo D C3 adm mz10) H3 := p1
  have d1 : va_D (NewA s) (WMo D C3 adm mz10) := d1
  have j1 : Dj (WMo D C3 adm mz10) (WCl D C3 adc LP kf cz ρ) := j1
  show W _ _ _ _ _ _ _ _ _ _ _ _ _ _ _ (F0 m 15 ls [.ref q1])
  rw [← had2]
  refine lv_astore_n (lv' := [(2, .ref (adm 0)), (1, .ref (adc 0)), (0, .ref b)]) S.1 S.2.1 dL_law_15 rfl hl (by decide) rfl (fun ls hl => ?_)
  refine lv_iconst (v := 1) S.1 S.2.1 dL_law_16 (by decide) ?_
  have hK0 : va_K D vwCl [] s := ⟨(hK z).1.1, fun k q h => by simp at h⟩
  refine va_newa (atype := .long) (ty := .long) (N' := 1) (a0 := (1, .inr (.inl (fun _ => 0)))) S.1 S.2.1 (S.2.2.2.2 _ tw_6_225) rfl hK0 (p1.app p2) (d1.app d2 j1) hS3 (fun q hq => hq) (fun _ => rfl) (by decide) rfl (by decide) (Nat.le_of_ble_eq_true rfl) (Nat.le_of_ble_eq_true rfl) dL_law_17 (fun bo cO H4 k1 p4 d4 s4 => ?_)
  have k1 : va_K D vwCl [(cO, .long)] s := k1
  have p4 : va_P D vwCl ((WMo D C3 adm mz10 ++ WCl D C3 adc LP kf cz ρ) ++ [WO bo cO (fun _ => 0)]) H4 := p4
  have d4 : va_D (NewA s) ((WMo D C3 adm mz10 ++ WCl D C3 adc LP kf cz ρ) ++ [WO bo cO (fun _ => 0)]) := d4
  have jo := (D_dj d4).sw
  have hS : LSt s D C3 adc adm [WO bo cO (fun _ => 0)] H4 locs3 := ⟨LP, kf, cz, ρ, mz10, ⟨P_snd (P_fst p4), P_fst (P_fst p4), P_snd p4, d2, d1, D_snd d4, j1.sw, jo.snd.sw, jo.fst.sw, s4⟩, hPL, All_start hρ1 hρ2⟩
  refine lv_astore_n (lv' := [(3, .ref bo), (2, .ref (adm 0)), (1, .ref (adc 0)), (0, .ref b)]) S.1 S.2.1 dL_law_19 rfl hl (by decide) rfl (fun ls hl => ?_)
  refine lv_iconst (v := nI 0) S.1 S.2.1 dL_law_20 (by decide) ?_
  refine lv_istore (lv' := [(4, .int (nI 0)), (3, .ref bo), (2, .ref (adm 0)), (1, .ref (adc 0)), (0, .ref b)]) S.1 S.2.1 dL_law_21 hl (by decide) rfl (fun ls hl => ?_)
  exact w_loop hst hX hN k1 S hK hx hb hL (fun fo ls H locs cells slots hS hc hs => w_end S hr hlk hS hc hs) 513 0 (fun _ => 0) ls H4 locs3 _ _ (by omega) (by omega) (Nat.le_of_ble_eq_true rfl) (Nat.le_of_ble_eq_true rfl) hl hS
end RR
theorem whole_start {p : Program} {e : Env} {s : State} {m : MethodId} {below : List Frame} {meth : Method} {c : Code} (l : Launch) (hflags : l.flags = flags0) {b L : Nat} {xs : Nat → Int32} (hL : L ≤ 3072) (C0 : lw_At p s m meth c b L xs) : W p l e room_1 s m #[Value.ref b] below meth c s.heap [] 0 0 (lw_Z below #[Value.ref b] s) (entryFrame m ([Value.ref b] : List Value).toArray 8) := by
  obtain ⟨hx, hb, hr, hml, hown, hts, hX, hbl, hlk, hgv⟩ := C0
  obtain ⟨D, C3, hK⟩ := kk_start hts
  have hst : l.stackTraces = false := by
    show (!l.flags.contains noTraceFlag) = false
    rw [hflags]
    decide +kernel
  rw [lg_entry_eq]
  exact w_start hst (st_XT hts hgv) (st_Nc hgv) (st_AO hts) ⟨hx, hb, hml, hown, fun w hw => hts w (ul_tbl hw)⟩ hr hlk hK hX hbl hL (lv_entry [Value.ref b] (n := 8) (Nat.le_of_ble_eq_true rfl))
