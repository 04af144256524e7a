/-! a pool that grows; the statements of a text told to the court in mind -/
def Ext (kf kf' : KF) : Prop := ∀ q z, kf q = some z → kf' q = some z
theorem Ext.rf {kf : KF} : Ext kf kf := fun _ _ h => h
theorem Ext.tr {k1 k2 k3 : KF} (h : Ext k1 k2) (g : Ext k2 k3) : Ext k1 k3 := fun q z e => g q z (h q z e)
theorem PL.fresh {LP : List Nat} {kf : KF} (h : PL LP kf) {q : Nat} (hq : q ∉ LP) : kf q = none := by
  cases e : kf q with
  | none => rfl
  | some z => exact absurd (h q z.1 z.2 e).1 hq
theorem PL.ext {LP : List Nat} {kf : KF} (h : PL LP kf) {q k : Nat} {v : Int32} (hq : q ∉ LP) : Ext kf (kfx kf q k v) := by
  intro a z e
  have : a ≠ q := fun x => by
    subst x
    rw [h.fresh hq] at e
    cases e
  rw [kfx_o this]
  exact e
theorem SR.ext {ρ : RM} {kf kf' : KF} {c : Nat} {f : Nat → Nat} (h : SR ρ kf c f) (x : Ext kf kf') : SR ρ kf' c f := fun k hk => by
  obtain ⟨q, a, b⟩ := h k hk
  exact ⟨q, a, x q _ b⟩
theorem MC.ext {σ : IM} {ρ : RM} {kf kf' : KF} {f : Nat → Nat} (h : MC σ ρ kf f) (x : Ext kf kf') : MC σ ρ kf' f := ⟨h.1, h.2.ext x⟩
theorem Now.ext {σ : IM} {ρ : RM} {kf kf' : KF} {μ : IM} {f : Nat → Nat} (h : Now σ ρ kf μ f) (x : Ext kf kf') : Now σ ρ kf' μ f := ⟨h.1, h.2.1, h.2.2.1, h.2.2.2.1.ext x, h.2.2.2.2⟩
theorem ShE.ext {σ : IM} {ρ : RM} {kf kf' : KF} {μ : IM} {d : Nat} (h : ShE σ ρ kf μ d) (x : Ext kf kf') : ShE σ ρ kf' μ d := by
  rcases h with h | ⟨a, b, q, k, fg, c1, c2, c3, c4, c5⟩ | h
  · exact Or.inl h
  · exact Or.inr (Or.inl ⟨a, b, q, k, fg, c1, c2, c3, x q _ c4, c5⟩)
  · exact Or.inr (Or.inr h)
theorem All.ext {σ : IM} {ρ : RM} {kf kf' : KF} {μ : IM} (h : All σ ρ kf μ) (x : Ext kf kf') : All σ ρ kf' μ := by
  obtain ⟨⟨f, hf⟩, h1, h2, h3⟩ := h
  refine ⟨⟨f, hf.ext x⟩, ?_, fun d hd => (h2 d hd).ext x, fun k hk => ?_⟩
  · rcases h1 with h1 | ⟨a, b, g, c1, c2, c3, c4, c5⟩
    · exact Or.inl h1
    · exact Or.inr ⟨a, b, g, c1, c2, c3, c4.ext x, c5⟩
  · obtain ⟨q, a, b⟩ := h3 k hk
    exact ⟨q, a, x q _ b⟩
theorem bd3_id {α β γ : Type} {x : Option (α × β × γ)} : (bd3 x fun a b c => some (a, b, c)) = x := by
  cases x with
  | none => rfl
  | some z => rfl
theorem kof_nI {a : Nat} (h : a < 8) : kof (nI a) = a := k8 (P := fun a => kof (nI a) = a) (by decide) (by decide) (by decide) (by decide) (by decide) (by decide) (by decide) (by decide) h
section TT
variable {σ : IM} {ρ : RM} {kf : KF} {μ : IM} {g : Nat → Nat} {d so sz p : Nat}
theorem ndF : ∀ a, a < 10 → ∀ b, b < 10 → (10 : Int32) * nI a + nI b = 10 * nI a + nI b := fun _ _ _ _ => rfl
theorem tell_tx (h : ShR σ ρ μ d so sz) (hp : p < 300) (he : errP (tx μ d sz) p = none) : X7_digitAt kf σ ρ d (nI p + 1) = some (nI (dvN (tx μ d sz (p + 1)))) ∧ X7_digitAt kf σ ρ d (nI p + 2) = some (tx μ d sz (p + 2) - 48) ∧ X7_digitAt kf σ ρ d (nI p + 3) = some (tx μ d sz (p + 3) - 48) ∧ X7_byteAt kf σ ρ d (nI p) = some (tx μ d sz p) := by
  obtain ⟨k0, k1, -⟩ := errP_ok he
  have a1 : nI p + 1 = nI (p + 1) := nI_add _ 1
  have a2 : nI p + 2 = nI (p + 2) := nI_add _ 2
  have a3 : nI p + 3 = nI (p + 3) := nI_add _ 3
  rw [a1, a2, a3, C_digitAt h (by omega), C_digitAt h (by omega), C_digitAt h (by omega), C_byteAt h (by omega), digN (k1 1 (by omega) k0)]
  exact ⟨rfl, rfl, rfl, rfl⟩
/-- every letter but a b that makes a stroke -/
theorem C_tell (h : ShR σ ρ μ d so sz) (hp : p < 300) (hM : MC σ ρ kf g) (hI : Inv g) (hB : Bnd g) (he : errP (tx μ d sz) p = none) (hn : tx μ d sz p = 98 → ¬ dvN (tx μ d sz (p + 1)) < 8) : TellC kf (tellF (tx μ d sz) p g) σ ρ (X2_tell kf σ ρ d (nI p) 10) := by
  obtain ⟨e1, e2, e3, e4⟩ := tell_tx (kf := kf) h hp he
  obtain ⟨k0, k1, -⟩ := errP_ok he
  have d1 := (dvN_lt (k1 1 (by omega) k0)).1
  unfold X2_tell
  rw [e1, bd1_s, e2, bd1_s, e3, bd1_s, e4, bd1_s]
  generalize tx μ d sz = t at *
  rcases letters k0 with ⟨l, n⟩ | ⟨l, n⟩ | ⟨l, n⟩ | ⟨l, n⟩ | ⟨l, n⟩ | ⟨l, n⟩ | ⟨l, n⟩ | ⟨l, n⟩
  · rw [if_pos l, show (8 : Int32) = nI 8 from rfl, isBN (by omega) (by omega), if_neg (hn l), bd1_s, if_pos rfl, tell98 l, if_neg (fun q => hn l q.1)]
    exact ⟨-1, σ, ρ, rfl, FC.rf, Or.inr ⟨rfl, by decide⟩⟩
  · rw [l, if_neg (by decide), if_pos rfl, bd3_id]
    exact T_100 l hM hI d1
  · rw [l, if_neg (by decide), if_neg (by decide), if_pos rfl, bd3_id, digN (k1 2 (by omega) (by omega))]
    exact T_adopt (w := 0) hM hI (by omega) d1 (dvN_lt (k1 2 (by omega) (by omega))).1 (tell102 l)
  · rw [l, if_neg (by decide), if_neg (by decide), if_neg (by decide), if_pos rfl, bd3_id, digN (k1 2 (by omega) (by omega))]
    refine T_adopt (w := 1) hM hI (by omega) d1 (dvN_lt (k1 2 (by omega) (by omega))).1 ((tell104 l).trans ?_)
    rw [if_neg (show ¬ (1 : Nat) = 0 by omega), show 36 + 3 * dvN (t (p + 1)) + 1 = 37 + 3 * dvN (t (p + 1)) by omega]
  · rw [l, if_neg (by decide), if_neg (by decide), if_neg (by decide), if_neg (by decide), if_pos rfl, bd3_id]
    exact T_108 l hM hI d1
  · rw [l, if_neg (by decide), if_neg (by decide), if_neg (by decide), if_neg (by decide), if_neg (by decide), if_pos rfl, bd3_id, digN (k1 2 (by omega) (by omega)), digN (k1 3 (by omega) (by omega))]
    exact T_112 l hM hI d1 (dvN_lt (k1 2 (by omega) (by omega))).1 (dvN_lt (k1 3 (by omega) (by omega))).1
  · rw [l, if_neg (by decide), if_neg (by decide), if_neg (by decide), if_neg (by decide), if_neg (by decide), if_neg (by decide), if_pos rfl, bd3_id, digN (k1 2 (by omega) (by omega)), digN (k1 3 (by omega) (by omega))]
    exact T_116 l hM hI d1 (dvN_lt (k1 2 (by omega) (by omega))).1 (dvN_lt (k1 3 (by omega) (by omega))).1
  · rw [l, if_neg (by decide), if_neg (by decide), if_neg (by decide), if_neg (by decide), if_neg (by decide), if_neg (by decide), if_neg (by decide), digN (k1 2 (by omega) (by omega))]
    unfold X2_tell_b198
    rcases T_120 l hM hI hB d1 (dvN_lt (k1 2 (by omega) (by omega))).1 with ⟨g', v, τ', a1, a2, a3, a4, a5⟩ | ⟨a1, r, a2, a3, a4⟩
    · rw [a2, bd1_s, if_pos rfl, a3, bd3_s]
      exact ⟨0, τ', ρ, rfl, a5, Or.inl ⟨g', a1, by decide, a4⟩⟩
    · rw [a4, bd1_s, if_neg a2]
      exact ⟨r, σ, ρ, rfl, FC.rf, Or.inr ⟨a1, a3⟩⟩
end TT
/-- what is said behind a text gone through -/
def RunR (g : GE) (kf : KF) (σ : IM) (ρ : RM) (x : Option Nat × (Nat → Nat)) (o : Option Value) (w : va_W) : Prop := ∃ (LP' : List Nat) (kf' : KF) (σ' : IM) (ρ' : RM), w = wl lyC 48 g σ' ρ' (va_pl LP' (skE kf')) ∧ PL LP' kf' ∧ Ext kf kf' ∧ FC σ ρ σ' ρ' ∧ ((x.1 = none ∧ o = some (.int (-1)) ∧ MC σ' ρ' kf' x.2 ∧ Inv x.2 ∧ Bnd x.2) ∨ ∃ q, x.1 = some q ∧ q < 200 ∧ o = some (.int (nI q)))
def runX (t : Nat → Int32) (sz n p : Nat) (g : Nat → Nat) : Option Nat × (Nat → Nat) := if p < sz then runF t sz n p g else (none, g)
set_option maxRecDepth 20000 in
theorem w_wrong {l : Launch} {G : GE} {A : Nat → Prop} {d so sz : Nat} {μ : IM} (hd : d < 8) {p : Program} {e : Env} {s : State} {m : MethodId} {args : Array Value} {below : List Frame} {meth : Method} {c : Code} (S : CallFix p m c cX2_wrongStatement 3 s args UL RX2) (hK : KK G s) (hr : meth.sig.returnType = some .int) (hlk : meth.locks = false) {kf0 : KF} {σ0 : IM} {ρ0 : RM} : ∀ (n i : Nat) (g : Nat → Nat) (LP : List Nat) (kf : KF) (σ : IM) (ρ : RM) (H : Heap) (locs : List Loc) (ls : Array Slot) (Rr : Option Value → va_W → Prop), 101 ≤ n + i → i < 110 → (i < sz → wfN (tx μ d sz) sz n i) → Inv g → Bnd g → ShR σ ρ μ d so sz → MC σ ρ kf g → PL LP kf → Ext kf0 kf → FC σ0 ρ0 σ ρ → Mem lyC 48 G A (va_pl LP (skE kf)) σ ρ s.heap H locs → lv_has ls 3 [(2, .int (nI i)), (0, .ref (G.2.2 (29 + 2 * d))), (1, .ref (G.2.2 10))] → (∀ o w, RunR G kf0 σ0 ρ0 (runX (tx μ d sz) sz n i g) o w → Rr o w) → W p l e ({ frames := 6, cells := 128, slots := 128, locals := 131 }) s m args below meth c H locs i i (MQ below (QE G A Rr) args s 128 128 A) (F0 m 2 ls []) := by
  intro n
  induction n with
  | zero =>
    intro i g LP kf σ ρ H locs ls Rr hn hi hwf hI hB hS hMC hPL hX hFC hM hl hR
    have hsz := hS.2.2.2.1
    refine lv_iload_n S.1 S.2.1 dX2_wrongStatement_2 rfl (lv_at hl 0 rfl) ?_
    refine lv_aload_n S.1 S.2.1 dX2_wrongStatement_3 rfl (lv_at hl 1 rfl) ?_
    refine r_getI S hK hM cfX7 (29 + 2 * d) 3 (sh_lt hd) (ly_sh hd) rfl (by decide) tw_1_103 dX2_wrongStatement_4 ?_
    rw [hS.2.2.2.2.2.2.1]
    refine lv_icmp_ge (tgt := 37) S.1 S.2.1 dX2_wrongStatement_7 (by decide) (fun _ => ?_) (fun b => absurd (nI_le (a := sz) (b := i) (by omega) (by omega)) b)
    refine lv_iconst (v := (-1)) S.1 S.2.1 dX2_wrongStatement_37 (by decide) ?_
    have e : runX (tx μ d sz) sz 0 i g = (none, g) := if_neg (by omega)
    exact z_ei S hM.w hr rfl hlk (hR _ _ (by rw [e]; exact ⟨LP, kf, σ, ρ, rfl, hPL, hX, hFC, Or.inl ⟨rfl, rfl, hMC, hI, hB⟩⟩)) (by omega) (by omega) dX2_wrongStatement_38
  | succ n ih =>
    intro i g LP kf σ ρ H locs ls Rr hn hi hwf hI hB hS hMC hPL hX hFC hM hl hR
    have hsz := hS.2.2.2.1
    refine lv_iload_n S.1 S.2.1 dX2_wrongStatement_2 rfl (lv_at hl 0 rfl) ?_
    refine lv_aload_n S.1 S.2.1 dX2_wrongStatement_3 rfl (lv_at hl 1 rfl) ?_
    refine r_getI S hK hM cfX7 (29 + 2 * d) 3 (sh_lt hd) (ly_sh hd) rfl (by decide) tw_1_103 dX2_wrongStatement_4 ?_
    rw [hS.2.2.2.2.2.2.1]
    by_cases hz : i < sz
    · refine lv_icmp_ge (tgt := 37) S.1 S.2.1 dX2_wrongStatement_7 (by decide) (fun b => absurd b (nI_ge hz (by omega))) (fun _ => ?_)
      have he := (hwf hz).1
      have hw2 := (hwf hz).2
      have h3 := dgN_le (tx μ d sz i)
      obtain ⟨e1, e2, e3, e4⟩ := tell_tx (kf := kf) hS (p := i) (by omega) he
      have eX : runX (tx μ d sz) sz (n + 1) i g = (match tellF (tx μ d sz) i g with | none => (some i, g) | some g' => if i + dgN (tx μ d sz i) + 2 < sz then runF (tx μ d sz) sz n (i + dgN (tx μ d sz i) + 2) g' else (none, g')) := if_pos hz
      refine lv_aload_n S.1 S.2.1 dX2_wrongStatement_10 rfl (lv_at hl 1 rfl) ?_
      refine lv_iload_n S.1 S.2.1 dX2_wrongStatement_11 rfl (lv_at hl 0 rfl) ?_
      refine lv_aload_n S.1 S.2.1 dX2_wrongStatement_12 rfl (lv_at hl 2 rfl) ?_
      -- behind the call
      have tail : ∀ (r : Int32) (LP' : List Nat) (kf' : KF) (σ' : IM) (ρ' : RM) (H1 : Heap) (locs1 : List Loc), PL LP' kf' → Ext kf kf' → FC σ ρ σ' ρ' → ((∃ g', tellF (tx μ d sz) i g = some g' ∧ ¬ r < 0 ∧ MC σ' ρ' kf' g') ∨ (tellF (tx μ d sz) i g = none ∧ r < 0)) → Mem lyC 48 G A (va_pl LP' (skE kf')) σ' ρ' s.heap H1 locs1 → W p l e ({ frames := 6, cells := 128, slots := 128, locals := 131 }) s m args below meth c H1 locs1 (i + 1) (i + 1) (MQ below (QE G A Rr) args s 128 128 A) (F0 m 16 ls [.int r]) := by
        intro r LP' kf' σ' ρ' H1 locs1 hPL' hX' hFC' hE hM
        have hS' := hS.fr hd hFC' FR.rf
        rcases hE with ⟨g', t1, t2, t3⟩ | ⟨t1, t2⟩
        · refine lv_if_ge (tgt := 21) S.1 S.2.1 dX2_wrongStatement_16 (by decide) (fun _ => ?_) (fun b => absurd (Int32.not_lt.mp t2) b)
          obtain ⟨hI', hB'⟩ := tellF_ok he hI hB t1
          refine lv_iload_n S.1 S.2.1 dX2_wrongStatement_21 rfl (lv_at hl 0 rfl) ?_
          refine lv_aload_n S.1 S.2.1 dX2_wrongStatement_22 rfl (lv_at hl 1 rfl) ?_
          refine lv_iload_n S.1 S.2.1 dX2_wrongStatement_23 rfl (lv_at hl 0 rfl) ?_
          refine k_p (va_runV (As := [.int (nI i)]) (rest := [.int (nI i)]) S (c_X7_byteAt hPL' hd (C_byteAt hS' (i := i) (by omega))) (cwV 1 S.2.2.2.2 (ul_V tw_2_4 tw_2_5 tw_2_6 tw_1_3 cw_X7_byteAt) rfl rfl rfl hv_X7_byteAt ⟨Nat.le_of_ble_eq_true rfl, Nat.le_of_ble_eq_true rfl⟩) ⟨PreM.blind, hM.recv hK cfX7 (29 + 2 * d) (sh_lt hd) (ly_sh hd), hM.pre hK⟩ rfl rfl hl.1 rfl (lv_room (Nat.le_of_ble_eq_true rfl)) dX2_wrongStatement_24 ⟨by show i + 1 + 0 ≤ 128; omega, by show i + 1 + 0 ≤ 128; omega⟩) ?_
          refine k_p (va_runS (As := [.int (tx μ d sz i)]) (rest := [.int (nI i)]) S (c_X2_digitsBehind hPL' (C_digits _)) (va_cwS 1 S.2.2.2.2 (ul_S tw_2_9 tw_2_10 tw_1_13 cw_X2_digitsBehind) rfl rfl rfl hs_X2_digitsBehind ⟨Nat.le_of_ble_eq_true rfl, Nat.le_of_ble_eq_true rfl⟩) ⟨PreM.blind, hM.pre hK⟩ rfl rfl hl.1 rfl (lv_room (Nat.le_of_ble_eq_true rfl)) dX2_wrongStatement_27 ⟨by show i + 1 + 0 ≤ 128; omega, by show i + 1 + 0 ≤ 128; omega⟩) ?_
          refine lv_iconst (v := 2) S.1 S.2.1 dX2_wrongStatement_30 (by decide) ?_
          refine lv_iadd S.1 S.2.1 dX2_wrongStatement_31 ?_
          refine lv_iadd S.1 S.2.1 dX2_wrongStatement_32 ?_
          have ea : nI i + (nI (dgN (tx μ d sz i)) + 2) = nI (i + dgN (tx μ d sz i) + 2) := by
            have a1 : nI (dgN (tx μ d sz i)) + 2 = nI (dgN (tx μ d sz i) + 2) := nI_add _ 2
            rw [a1, nI_add, Nat.add_assoc]
          rw [ea]
          refine lv_istore_n (lv' := [(2, .int (nI (i + dgN (tx μ d sz i) + 2))), (0, .ref (G.2.2 (29 + 2 * d))), (1, .ref (G.2.2 10))]) S.1 S.2.1 dX2_wrongStatement_33 rfl hl (by decide) rfl (fun ls hl => ?_)
          refine lv_goto (tgt := 2) S.1 S.2.1 dX2_wrongStatement_34 (by decide) ?_
          refine W.widen (k := i + dgN (tx μ d sz i) + 2) (n := i + dgN (tx μ d sz i) + 2) (by omega) (by omega) ?_
          refine ih _ g' LP' kf' σ' ρ' H1 locs1 ls Rr (by omega) (by omega) (fun q => hw2 q) hI' hB' hS' t3 hPL' (hX.tr hX') (hFC.tr hFC') hM hl (fun o w hw => hR o w ?_)
          rw [eX, t1]
          exact hw
        · refine lv_if_ge (tgt := 21) S.1 S.2.1 dX2_wrongStatement_16 (by decide) (fun b => absurd t2 (Int32.not_lt.mpr b)) (fun _ => ?_)
          refine lv_iload_n S.1 S.2.1 dX2_wrongStatement_19 rfl (lv_at hl 0 rfl) ?_
          refine z_ei S hM.w hr rfl hlk (hR _ _ ?_) (by omega) (by omega) dX2_wrongStatement_20
          rw [eX, t1]
          exact ⟨LP', kf', σ', ρ', rfl, hPL', hX.tr hX', hFC.tr hFC', Or.inr ⟨i, rfl, by omega, rfl⟩⟩
      by_cases hb : tx μ d sz i = 98 ∧ dvN (tx μ d sz (i + 1)) < 8
      · have dd := (errP_ok he).2.1
        have d2 : dgN (tx μ d sz i) = 2 := by rw [hb.1]; decide
        have eb : X11_isBelow (nI (dvN (tx μ d sz (i + 1)))) 8 = some 1 := by
          rw [show (8 : Int32) = nI 8 from rfl, isBN (by omega) (by omega), if_pos hb.2]
        have e2' := e2
        rw [digN (dd 2 (by omega) (by omega))] at e2'
        have hk : kof (nI (dvN (tx μ d sz (i + 1)))) = dvN (tx μ d sz (i + 1)) := kof_nI hb.2
        have hT : ∀ q, q ∉ LP → TellC (kfx kf q (kof (nI (dvN (tx μ d sz (i + 1))))) (nI (dvN (tx μ d sz (i + 2))))) (tellF (tx μ d sz) i g) σ ρ (X1_learn (kfx kf q (kof (nI (dvN (tx μ d sz (i + 1))))) (nI (dvN (tx μ d sz (i + 2))))) σ ρ 10 q) := fun q hq => T_98 hb.1 (hMC.ext (hPL.ext hq)) hI hb.2 (by rw [kfx_i, hk])
        refine k_e (va_runS (As := [.ref (G.2.2 (29 + 2 * d)), .int (nI i), .ref (G.2.2 10)]) (rest := []) S (c_X2_tellB (kf := kf) hPL hd ct_10 e1 e2' e3 e4 hb.1 eb (fun q hq => by obtain ⟨r, τ, ω, q1, -⟩ := hT q hq; exact ⟨_, q1⟩)) (va_cwS 3 S.2.2.2.2 (ul_S tw_2_28 tw_2_29 tw_1_13 cw_X2_tell) rfl rfl rfl hs_X2_tell ⟨Nat.le_of_ble_eq_true rfl, Nat.le_of_ble_eq_true rfl⟩) ⟨PreM.blind, hM.pre hK⟩ rfl rfl hl.1 rfl (lv_room (Nat.le_of_ble_eq_true rfl)) dX2_wrongStatement_13 ⟨by show i + 1 ≤ 128; omega, by show i + 1 ≤ 128; omega⟩) hM.w (fun o w H1 locs1 hw hM => ?_)
        obtain ⟨q, r, σ', ρ', rfl, hq, q1, rfl⟩ := hw
        obtain ⟨r2, τ, ω, q2, q3, q4⟩ := hT q hq
        have q5 := q1.symm.trans q2
        cases q5
        exact tail _ _ _ _ _ _ _ (hPL.push (kof_lt _)) (hPL.ext hq) q3 q4 hM.m
      · obtain ⟨r, σ', ρ', q1, q2, q3⟩ := C_tell hS (p := i) (by omega) hMC hI hB he (fun q1 q2 => hb ⟨q1, q2⟩)
        refine k_m (va_runS (As := [.ref (G.2.2 (29 + 2 * d)), .int (nI i), .ref (G.2.2 10)]) (rest := []) S (c_X2_tell hPL hd ct_10 q1) (va_cwS 3 S.2.2.2.2 (ul_S tw_2_28 tw_2_29 tw_1_13 cw_X2_tell) rfl rfl rfl hs_X2_tell ⟨Nat.le_of_ble_eq_true rfl, Nat.le_of_ble_eq_true rfl⟩) ⟨PreM.blind, hM.pre hK⟩ rfl rfl hl.1 rfl (lv_room (Nat.le_of_ble_eq_true rfl)) dX2_wrongStatement_13 ⟨by show i + 0 ≤ 128; omega, by show i + 0 ≤ 128; omega⟩) hM (fun H locs hM => ?_)
        refine W.widen (k := i + 1) (n := i + 1) (by omega) (by omega) ?_
        exact tail r LP kf σ' ρ' H locs hPL Ext.rf q2 q3 hM
    · refine lv_icmp_ge (tgt := 37) S.1 S.2.1 dX2_wrongStatement_7 (by decide) (fun _ => ?_) (fun b => absurd (nI_le (a := sz) (b := i) (by omega) (by omega)) b)
      refine lv_iconst (v := (-1)) S.1 S.2.1 dX2_wrongStatement_37 (by decide) ?_
      have e : runX (tx μ d sz) sz (n + 1) i g = (none, g) := if_neg hz
      exact z_ei S hM.w hr rfl hlk (hR _ _ (by rw [e]; exact ⟨LP, kf, σ, ρ, rfl, hPL, hX, hFC, Or.inl ⟨rfl, rfl, hMC, hI, hB⟩⟩)) (by omega) (by omega) dX2_wrongStatement_38
set_option maxRecDepth 20000 in
theorem c_X2_wrongStatement {l : Launch} {G : GE} {A : Nat → Prop} {d so sz : Nat} {μ : IM} {g : Nat → Nat} {LP : List Nat} {kf : KF} {σ : IM} {ρ : RM} (hd : d < 8) (hPL : PL LP kf) (hS : ShR σ ρ μ d so sz) (hwf : 0 < sz → wfN (tx μ d sz) sz 200 0) (hI : Inv g) (hB : Bnd g) (hMC : MC σ ρ kf g) : Met l yX2_wrongStatement (.code yX2_wrongStatement cX2_wrongStatement 3 (some .int) :: UL) ({ frames := 6, cells := 128, slots := 128, locals := 131 }) (va_Pc [.ref (G.2.2 (29 + 2 * d)), .ref (G.2.2 10)] (PreM lyC 48 G A (va_pl LP (skE kf)) σ ρ)) (QE G A (RunR G kf σ ρ (runX (tx μ d sz) sz 200 0 g))) 128 128 A := by
  refine e_of2 (by decide) (Nat.le_of_ble_eq_true rfl) ?_
  intro p e s m below meth c ls S hr hlk hnm hv hl
  have hM := Mem.of hv
  have hK := hv.2.1
  have hl : lv_has ls 3 [(0, .ref (G.2.2 (29 + 2 * d))), (1, .ref (G.2.2 10))] := hl
  refine lv_iconst (v := 0) S.1 S.2.1 dX2_wrongStatement_0 (by decide) ?_
  refine lv_istore_n (lv' := [(2, .int (nI 0)), (0, .ref (G.2.2 (29 + 2 * d))), (1, .ref (G.2.2 10))]) S.1 S.2.1 dX2_wrongStatement_1 rfl hl (by decide) rfl (fun ls hl => ?_)
  exact w_wrong hd S hK hr hlk 200 0 g LP kf σ ρ s.heap [] ls _ (by omega) (by omega) hwf hI hB hS hMC hPL Ext.rf FC.rf hM hl (fun o w h => h)
