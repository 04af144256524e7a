/-! the law's loop: its head -/
theorem sub6 {L : Nat} (h : L ≤ 3072) : (nI L - 6).toInt = (L : Int) - 6 := by
  have h6 : (6 : Int32).toInt = 6 := rfl
  rw [Int32.toInt_sub, nI_toInt (by omega), h6]
  exact Int.bmod_eq_of_le (by omega) (by omega)
section RR
variable {p : Program} {l : Launch} {e : Env} {s : State} {m : MethodId} {below : List Frame} {meth : Method} {c : Code} {H : Heap} {locs : List Loc} {cells slots : Nat} {Q : State → Prop} {ls : Array Slot} {rest : List Value} {D : va_G} {C3 : Nat → ClassId} {adc adm : Nat → Nat} {wo : va_W} {b L i bo : Nat} {xs : Nat → Int32}
theorem w_head (S : CallFix p m c cL_law 8 s #[Value.ref b] UL "SideBySideLaw") (hx : va_X b L xs s s.heap) (hb : b < s.heap.size) (hi : i ≤ 3072) (hL : L ≤ 3072) {wc wm : va_W} (h : LW s D wc wm wo H locs) (hl : lv_has ls 8 [(4, .int (nI i)), (3, .ref bo), (2, .ref (adm 0)), (1, .ref (adc 0)), (0, .ref b)])
    (k1 : i + 6 ≤ L → W p l e room_1 s m #[Value.ref b] below meth c H locs cells slots Q (F0 m 40 ls [.int (xs i &&& 63)])) (k2 : ¬ i + 6 ≤ L → W p l e room_1 s m #[Value.ref b] below meth c H locs cells slots Q (F0 m 1749 ls [])) : W p l e room_1 s m #[Value.ref b] below meth c H locs cells slots Q (F0 m 23 ls []) := by
  have hA : ¬ NewA s b := fun q => absurd hb (Nat.not_lt.mpr q)
  have hS := h.2.2.2.2.2.2.2.2.2
  refine lv_iload S.1 S.2.1 dL_law_23 (lv_at hl 0 rfl) ?_
  refine lv_aload_n S.1 S.2.1 dL_law_25 rfl (lv_at hl 4 rfl) ?_
  refine va_slen S.1 S.2.1 hx hb (A := NewA s) hA hS dL_law_26 ?_
  refine lv_bipush (v := 6) S.1 S.2.1 dL_law_27 (by decide) ?_
  refine lv_isub S.1 S.2.1 dL_law_29 ?_
  have e1 := sub6 hL
  have e2 : (nI i).toInt = (i : Int) := nI_toInt (by omega)
  have cmp : (nI L - 6 < nI i) ↔ ¬ i + 6 ≤ L := by
    rw [Int32.lt_iff_toInt_lt, e1, e2]
    omega
  refine lv_icmp_gt (tgt := 1749) S.1 S.2.1 dL_law_30 (by decide) (fun q => k2 ?_) (fun q => ?_)
  · exact cmp.mp (by first | exact q | exact Int32.not_le.mp q)
  have hin : i + 6 ≤ L := by
    by_cases z : i + 6 ≤ L
    · exact z
    · exact absurd (cmp.mpr z) (by first | exact q | exact Int32.not_lt.mpr q)
  refine lv_aload_n S.1 S.2.1 dL_law_33 rfl (lv_at hl 4 rfl) ?_
  refine lv_iload S.1 S.2.1 dL_law_34 (lv_at hl 0 rfl) ?_
  have e : i = (nI i).toNatClampNeg := by
    show i = (nI i).toInt.toNat
    rw [e2]
    rfl
  refine va_sld S.1 S.2.1 hx hb (A := NewA s) hA hS (fun q => ?_) dL_law_36 ?_
  · rcases q with q | q
    · exact nI_pos (by omega) q
    · rw [← e] at q
      omega
  rw [← e]
  refine lv_bipush (v := 63) S.1 S.2.1 dL_law_37 (by decide) ?_
  refine lv_iand S.1 S.2.1 dL_law_39 ?_
  exact k1 hin
end RR
