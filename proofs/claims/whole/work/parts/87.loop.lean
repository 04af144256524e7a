/-! the law's loop: all rounds, and its end -/
section RR
variable {p : Program} {l : Launch} {e : Env} {s : State} {m : MethodId} {below : List Frame} {meth : Method} {c : Code} {Q : State → Prop} {D : va_G} {C3 : Nat → ClassId} {adc adm : Nat → Nat} {b L bo : Nat} {cO : ClassId} {xs : Nat → Int32}
theorem w_loop (hst : l.stackTraces = false) (hX : XT (NewA s) s) (hN : va_Nc xIAE xUOE s ∧ va_Nc xISE xUOE s ∧ va_Nc xISE xIAE s) (hKl : va_K D vwCl [(cO, .long)] s) (S : CallFix p m c cL_law 8 s #[Value.ref b] UL "SideBySideLaw") (hK : ∀ ad : Nat → Nat, KK (D, C3, ad) s) (hx : va_X b L xs s s.heap) (hb : b < s.heap.size) (hL : L ≤ 3072)
    (kend : ∀ (fo : Nat → Int64) (ls : Array Slot) (H : Heap) (locs : List Loc) (cells slots : Nat), LSt s D C3 adc adm [WO bo cO fo] H locs → cells ≤ 601024 → slots ≤ 7293034 → W p l e room_1 s m #[Value.ref b] below meth c H locs cells slots Q (F0 m 1749 ls [])) : ∀ (n i : Nat) (fo : Nat → Int64) (ls : Array Slot) (H : Heap) (locs : List Loc) (cells slots : Nat), L < i + 6 * n → i ≤ 3072 → cells + 128 * n ≤ 601024 → slots + 128 * n ≤ 7293034 → lv_has ls 8 [(4, .int (nI i)), (3, .ref bo), (2, .ref (adm 0)), (1, .ref (adc 0)), (0, .ref b)] → LSt s D C3 adc adm [WO bo cO fo] H locs → W p l e room_1 s m #[Value.ref b] below meth c H locs cells slots Q (F0 m 23 ls []) := by
  intro n
  induction n with
  | zero =>
    intro i fo ls H locs cells slots h1 h2 h3 h4 hl hS
    obtain ⟨LP, kf, σ, ρ, μ, h, hPL, hA⟩ := hS
    exact w_head S hx hb h2 hL h hl (fun q => absurd h1 (by omega)) (fun _ => kend fo ls H locs cells slots ⟨LP, kf, σ, ρ, μ, h, hPL, hA⟩ (by omega) (by omega))
  | succ n ih =>
    intro i fo ls H locs cells slots h1 h2 h3 h4 hl hS
    have hS0 := hS
    obtain ⟨LP, kf, σ, ρ, μ, h, hPL, hA⟩ := hS
    have go : ∀ (f1 : Nat → Int64) (H1 : Heap) (locs1 : List Loc) (ls1 : Array Slot), i + 6 ≤ L → lv_has ls1 8 [(4, .int (nI i)), (3, .ref bo), (2, .ref (adm 0)), (1, .ref (adc 0)), (0, .ref b)] → LSt s D C3 adc adm [WO bo cO f1] H1 locs1 → W p l e room_1 s m #[Value.ref b] below meth c H1 locs1 (cells + 128) (slots + 128) Q (F0 m 1743 ls1 []) := by
      intro f1 H1 locs1 ls1 hi hl1 hS1
      refine lv_iinc (v := nI (i + 6)) (lv' := [(4, .int (nI (i + 6))), (3, .ref bo), (2, .ref (adm 0)), (1, .ref (adc 0)), (0, .ref b)]) S.1 S.2.1 dL_law_1743 hl1 (k := 0) rfl (nI_add i 6) (by decide) rfl (fun ls hl => ?_)
      refine lv_goto (tgt := 23) S.1 S.2.1 dL_law_1746 (by decide) ?_
      exact ih (i + 6) f1 ls H1 locs1 _ _ (by omega) (by omega) (by omega) (by omega) hl hS1
    refine w_head S hx hb h2 hL h hl (fun hi => ?_) (fun _ => kend fo ls H locs cells slots hS0 (by omega) (by omega))
    exact w_body hst hX hN S hK hx hb hi hL hl hS0 (by omega) (by omega) (w_law_element hst hX hN hKl S hK hx hb hi hL hl hS0 (by omega) (by omega) (fun f1 H1 locs1 ls1 hl1 hS1 => go f1 H1 locs1 ls1 hi hl1 hS1)) (fun H1 locs1 hS1 => go fo H1 locs1 ls hi hl hS1)
end RR
