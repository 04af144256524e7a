/-! the law's loop: one round -/
section RR
variable {p : Program} {l : Launch} {e : Env} {s : State} {m : MethodId} {below : List Frame} {meth : Method} {c : Code} {H : Heap} {locs : List Loc} {cells slots : Nat} {Q : State → Prop} {ls : Array Slot} {rest : List Value} {D : va_G} {C3 : Nat → ClassId} {adc adm : Nat → Nat} {wo : va_W} {b L i bo : Nat} {xs : Nat → Int32}
set_option maxRecDepth 20000 in
theorem w_body (hst : l.stackTraces = false) (hX : XT (NewA s) s) (hN : va_Nc xIAE xUOE s ∧ va_Nc xISE xUOE s ∧ va_Nc xISE xIAE s) (S : CallFix p m c cL_law 8 s #[Value.ref b] UL "SideBySideLaw") (hK : ∀ ad : Nat → Nat, KK (D, C3, ad) s) (hx : va_X b L xs s s.heap) (hb : b < s.heap.size) (hi : i + 6 ≤ L) (hL : L ≤ 3072) (hl : lv_has ls 8 [(4, .int (nI i)), (3, .ref bo), (2, .ref (adm 0)), (1, .ref (adc 0)), (0, .ref b)]) (hS : LSt s D C3 adc adm wo H locs) (hc : cells + 128 ≤ 601024) (hs : slots + 128 ≤ 7293034) {v : Int32}
    (hel : W p l e room_1 s m #[Value.ref b] below meth c H locs cells slots Q (F0 m 1553 ls []))
    (kk : ∀ (H1 : Heap) (locs1 : List Loc), LSt s D C3 adc adm wo H1 locs1 → W p l e room_1 s m #[Value.ref b] below meth c H1 locs1 (cells + 128) (slots + 128) Q (F0 m 1743 ls [])) : W p l e room_1 s m #[Value.ref b] below meth c H locs cells slots Q (F0 m 40 ls [.int v]) := by
  by_cases z0 : v = 0
  · refine r_tab (off := 188) (tgt := 228) S dL_law_40 z0 (by decide) (by decide) ?_
    exact w_law_court S hK hx hb hi hL hl hS hc hs kk
  by_cases z1 : v = 1
  · refine r_tab (off := 213) (tgt := 253) S dL_law_40 z1 (by decide) (by decide) ?_
    exact w_law_stroke S hK hx hb hi hL hl hS hc hs kk
  by_cases z2 : v = 2
  · refine r_tab (off := 250) (tgt := 290) S dL_law_40 z2 (by decide) (by decide) ?_
    exact w_law_player S hK hx hb hi hL hl hS hc hs kk
  by_cases z3 : v = 3
  · refine r_tab (off := 287) (tgt := 327) S dL_law_40 z3 (by decide) (by decide) ?_
    exact w_law_side S hK hx hb hi hL hl hS hc hs kk
  by_cases z4 : v = 4
  · refine r_tab (off := 324) (tgt := 364) S dL_law_40 z4 (by decide) (by decide) ?_
    exact w_law_learns S hK hx hb hi hL hl hS hc hs kk
  by_cases z5 : v = 5
  · refine r_tab (off := 349) (tgt := 389) S dL_law_40 z5 (by decide) (by decide) ?_
    exact w_law_stands S hK hx hb hi hL hl hS hc hs kk
  by_cases z6 : v = 6
  · refine r_tab (off := 398) (tgt := 438) S dL_law_40 z6 (by decide) (by decide) ?_
    exact w_law_tires S hK hx hb hi hL hl hS hc hs kk
  by_cases z7 : v = 7
  · refine r_tab (off := 435) (tgt := 475) S dL_law_40 z7 (by decide) (by decide) ?_
    exact w_law_hands S hK hx hb hi hL hl hS hc hs kk
  by_cases z8 : v = 8
  · refine r_tab (off := 460) (tgt := 500) S dL_law_40 z8 (by decide) (by decide) ?_
    exact w_law_forms S hK hx hb hi hL hl hS hc hs kk
  by_cases z9 : v = 9
  · refine r_tab (off := 509) (tgt := 549) S dL_law_40 z9 (by decide) (by decide) ?_
    exact w_law_blows S hK hx hb hi hL hl hS hc hs kk
  by_cases z10 : v = 10
  · refine r_tab (off := 534) (tgt := 574) S dL_law_40 z10 (by decide) (by decide) ?_
    exact w_law_hit S hK hx hb hi hL hl hS hc hs kk
  by_cases z11 : v = 11
  · refine r_tab (off := 571) (tgt := 611) S dL_law_40 z11 (by decide) (by decide) ?_
    exact w_law_whose S hK hx hb hi hL hl hS hc hs kk
  by_cases z12 : v = 12
  · refine r_tab (off := 608) (tgt := 648) S dL_law_40 z12 (by decide) (by decide) ?_
    exact w_law_wins S hK hx hb hi hL hl hS hc hs kk
  by_cases z13 : v = 13
  · refine r_tab (off := 645) (tgt := 685) S dL_law_40 z13 (by decide) (by decide) ?_
    exact w_law_falls S hK hx hb hi hL hl hS hc hs kk
  by_cases z14 : v = 14
  · refine r_tab (off := 682) (tgt := 722) S dL_law_40 z14 (by decide) (by decide) ?_
    exact w_law_open S hK hx hb hi hL hl hS hc hs kk
  by_cases z15 : v = 15
  · refine r_tab (off := 707) (tgt := 747) S dL_law_40 z15 (by decide) (by decide) ?_
    exact w_law_forced S hK hx hb hi hL hl hS hc hs kk
  by_cases z16 : v = 16
  · refine r_tab (off := 720) (tgt := 760) S dL_law_40 z16 (by decide) (by decide) ?_
    exact w_law_farthest S hK hx hb hi hL hl hS hc hs kk
  by_cases z17 : v = 17
  · refine r_tab (off := 757) (tgt := 797) S dL_law_40 z17 (by decide) (by decide) ?_
    exact w_law_atWhom S hK hx hb hi hL hl hS hc hs kk
  by_cases z18 : v = 18
  · refine r_tab (off := 782) (tgt := 822) S dL_law_40 z18 (by decide) (by decide) ?_
    exact w_law_fewest S hK hx hb hi hL hl hS hc hs kk
  by_cases z19 : v = 19
  · refine r_tab (off := 807) (tgt := 847) S dL_law_40 z19 (by decide) (by decide) ?_
    exact w_law_bestForm S hK hx hb hi hL hl hS hc hs kk
  by_cases z20 : v = 20
  · refine r_tab (off := 844) (tgt := 884) S dL_law_40 z20 (by decide) (by decide) ?_
    exact w_law_bestHabit S hK hx hb hi hL hl hS hc hs kk
  by_cases z21 : v = 21
  · refine r_tab (off := 881) (tgt := 921) S dL_law_40 z21 (by decide) (by decide) ?_
    exact w_law_change S hK hx hb hi hL hl hS hc hs kk
  by_cases z22 : v = 22
  · refine r_tab (off := 942) (tgt := 982) S dL_law_40 z22 (by decide) (by decide) ?_
    exact w_law_rally S hK hx hb hi hL hl hS hc hs kk
  by_cases z23 : v = 23
  · refine r_tab (off := 979) (tgt := 1019) S dL_law_40 z23 (by decide) (by decide) ?_
    exact w_law_ways S hK hx hb hi hL hl hS hc hs kk
  by_cases z24 : v = 24
  · refine r_tab (off := 1016) (tgt := 1056) S dL_law_40 z24 (by decide) (by decide) ?_
    exact w_law_spent S hK hx hb hi hL hl hS hc hs kk
  by_cases z25 : v = 25
  · refine r_tab (off := 1041) (tgt := 1081) S dL_law_40 z25 (by decide) (by decide) ?_
    exact w_law_whatIs S hK hx hb hi hL hl hS hc hs kk
  by_cases z26 : v = 26
  · refine r_tab (off := 1090) (tgt := 1130) S dL_law_40 z26 (by decide) (by decide) ?_
    exact w_law_habits S hK hx hb hi hL hl hS hc hs kk
  by_cases z27 : v = 27
  · refine r_tab (off := 1115) (tgt := 1155) S dL_law_40 z27 (by decide) (by decide) ?_
    exact w_law_two S hK hx hb hi hL hl hS hc hs kk
  by_cases z28 : v = 28
  · refine r_tab (off := 1128) (tgt := 1168) S dL_law_40 z28 (by decide) (by decide) ?_
    exact w_law_draughts S hK hx hb hi hL hl hS hc hs kk
  by_cases z29 : v = 29
  · refine r_tab (off := 1178) (tgt := 1218) S dL_law_40 z29 (by decide) (by decide) ?_
    exact w_law_mean S hK hx hb hi hL hl hS hc hs kk
  by_cases z30 : v = 30
  · refine r_tab (off := 1204) (tgt := 1244) S dL_law_40 z30 (by decide) (by decide) ?_
    exact w_law_forged S hK hx hb hi hL hl hS hc hs kk
  by_cases z31 : v = 31
  · refine r_tab (off := 1229) (tgt := 1269) S dL_law_40 z31 (by decide) (by decide) ?_
    exact w_law_judge S hK hx hb hi hL hl hS hc hs kk
  by_cases z32 : v = 32
  · refine r_tab (off := 1254) (tgt := 1294) S dL_law_40 z32 (by decide) (by decide) ?_
    exact w_law_nights S hK hx hb hi hL hl hS hc hs kk
  by_cases z33 : v = 33
  · refine r_tab (off := 1303) (tgt := 1343) S dL_law_40 z33 (by decide) (by decide) ?_
    exact w_law_image S hK hx hb hi hL hl hS hc hs kk
  by_cases z34 : v = 34
  · refine r_tab (off := 1316) (tgt := 1356) S dL_law_40 z34 (by decide) (by decide) ?_
    exact w_law_restore S hK hx hb hi hL hl hS hc hs kk
  by_cases z35 : v = 35
  · refine r_tab (off := 1329) (tgt := 1369) S dL_law_40 z35 (by decide) (by decide) ?_
    exact w_law_count S hK hx hb hi hL hl hS hc hs kk
  by_cases z36 : v = 36
  · refine r_tab (off := 1354) (tgt := 1394) S dL_law_40 z36 (by decide) (by decide) ?_
    exact w_law_keep S hK hx hb hi hL hl hS hc hs kk
  by_cases z37 : v = 37
  · refine r_tab (off := 1415) (tgt := 1455) S dL_law_40 z37 (by decide) (by decide) ?_
    exact w_law_row S hK hx hb hi hL hl hS hc hs kk
  by_cases z38 : v = 38
  · refine r_tab (off := 1464) (tgt := 1504) S dL_law_40 z38 (by decide) (by decide) ?_
    exact w_law_put S hK hx hb hi hL hl hS hc hs kk
  by_cases z39 : v = 39
  · refine r_tab (off := 1513) (tgt := 1553) S dL_law_40 z39 (by decide) (by decide) ?_
    exact hel
  by_cases z40 : v = 40
  · refine r_tab (off := 1580) (tgt := 1620) S dL_law_40 z40 (by decide) (by decide) ?_
    exact w_law_copy S hK hx hb hi hL hl hS hc hs kk
  by_cases z41 : v = 41
  · refine r_tab (off := 1653) (tgt := 1693) S dL_law_40 z41 (by decide) (by decide) ?_
    exact w_law_cost S hK hx hb hi hL hl hS hc hs kk
  by_cases z42 : v = 42
  · refine r_tab (off := 1678) (tgt := 1718) S dL_law_40 z42 (by decide) (by decide) ?_
    exact w_law_toss hst hX hN S hK hx hb hi hL hl hS hc hs kk
  refine r_tabD (tgt := 1743) S dL_law_40 ?_ (by decide) ?_
  · intro q
    have n0 := ne_toInt z0 (k := 0) (by decide)
    have n1 := ne_toInt z1 (k := 1) (by decide)
    have n2 := ne_toInt z2 (k := 2) (by decide)
    have n3 := ne_toInt z3 (k := 3) (by decide)
    have n4 := ne_toInt z4 (k := 4) (by decide)
    have n5 := ne_toInt z5 (k := 5) (by decide)
    have n6 := ne_toInt z6 (k := 6) (by decide)
    have n7 := ne_toInt z7 (k := 7) (by decide)
    have n8 := ne_toInt z8 (k := 8) (by decide)
    have n9 := ne_toInt z9 (k := 9) (by decide)
    have n10 := ne_toInt z10 (k := 10) (by decide)
    have n11 := ne_toInt z11 (k := 11) (by decide)
    have n12 := ne_toInt z12 (k := 12) (by decide)
    have n13 := ne_toInt z13 (k := 13) (by decide)
    have n14 := ne_toInt z14 (k := 14) (by decide)
    have n15 := ne_toInt z15 (k := 15) (by decide)
    have n16 := ne_toInt z16 (k := 16) (by decide)
    have n17 := ne_toInt z17 (k := 17) (by decide)
    have n18 := ne_toInt z18 (k := 18) (by decide)
    have n19 := ne_toInt z19 (k := 19) (by decide)
    have n20 := ne_toInt z20 (k := 20) (by decide)
    have n21 := ne_toInt z21 (k := 21) (by decide)
    have n22 := ne_toInt z22 (k := 22) (by decide)
    have n23 := ne_toInt z23 (k := 23) (by decide)
    have n24 := ne_toInt z24 (k := 24) (by decide)
    have n25 := ne_toInt z25 (k := 25) (by decide)
    have n26 := ne_toInt z26 (k := 26) (by decide)
    have n27 := ne_toInt z27 (k := 27) (by decide)
    have n28 := ne_toInt z28 (k := 28) (by decide)
    have n29 := ne_toInt z29 (k := 29) (by decide)
    have n30 := ne_toInt z30 (k := 30) (by decide)
    have n31 := ne_toInt z31 (k := 31) (by decide)
    have n32 := ne_toInt z32 (k := 32) (by decide)
    have n33 := ne_toInt z33 (k := 33) (by decide)
    have n34 := ne_toInt z34 (k := 34) (by decide)
    have n35 := ne_toInt z35 (k := 35) (by decide)
    have n36 := ne_toInt z36 (k := 36) (by decide)
    have n37 := ne_toInt z37 (k := 37) (by decide)
    have n38 := ne_toInt z38 (k := 38) (by decide)
    have n39 := ne_toInt z39 (k := 39) (by decide)
    have n40 := ne_toInt z40 (k := 40) (by decide)
    have n41 := ne_toInt z41 (k := 41) (by decide)
    have n42 := ne_toInt z42 (k := 42) (by decide)
    omega
  · exact W.widen (Nat.le_add_right _ _) (Nat.le_add_right _ _) (kk H locs hS)
end RR
