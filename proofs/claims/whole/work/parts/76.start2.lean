/-! what is known of the classes, where the law begins -/
theorem ul_tbl {w : Cond} (h : w ∈ UL) : w ∈ lw_tbl := (List.mem_filter.mp h).1
section ST
variable {s : State} {args : Array Value}
theorem st_cls (hts : ∀ w ∈ lw_tbl, w.before args s = true) {ci n : Nat} {C : String} {T : u_T} (cf : CF ci C T n) (hi : Cond.instantiable C n ∈ UL) : ∃ z : ClassId × (Nat → Nat), ∀ q : vw_C, vwCl[ci]? = some q → u_Kn s q.1 q.2.1 q.2.2 z.1 z.2 := by
  obtain ⟨cC, iS, h⟩ := u_known (ws := lw_tbl) (C := C) (T := T) (N := n) hts (fun w hw => ul_tbl (cf.2 w hw)) (hts _ (ul_tbl hi))
  refine ⟨(cC, iS), fun q hq => ?_⟩
  cases cf.1.symm.trans hq
  exact h
theorem st_all (hts : ∀ w ∈ lw_tbl, w.before args s = true) : ∀ ci : Nat, ∃ z : ClassId × (Nat → Nat), ∀ q : vw_C, vwCl[ci]? = some q → u_Kn s q.1 q.2.1 q.2.2 z.1 z.2
  | 0 => st_cls hts cfX0 tw_1_173
  | 1 => st_cls hts cfX1 tw_1_32
  | 2 => st_cls hts cfX3 tw_1_141
  | 3 => st_cls hts cfX4 tw_1_165
  | 4 => st_cls hts cfX5 tw_1_149
  | 5 => st_cls hts cfX6 tw_1_157
  | 6 => st_cls hts cfX7 tw_1_92
  | 7 => st_cls hts cfX8 tw_1_119
  | 8 => st_cls hts cfX9 tw_1_189
  | 9 => st_cls hts cfX10 tw_1_181
  | 10 => st_cls hts cfX11 tw_1_24
  | 11 => st_cls hts cfX12 tw_5_20
  | n + 12 => ⟨(0, fun _ => 0), fun q hq => by cases hq⟩
theorem st_int (hts : ∀ w ∈ lw_tbl, w.before args s = true) : ∃ cA : ClassId, ArrOfT s cA .int ∧ va_RA s cA .int := by
  obtain ⟨cA, kA, comp, h1, h2, h3⟩ := Cond.arrayClass_spec (hts _ (ul_tbl tw_1_88))
  exact ⟨cA, fun n z => ⟨fun k h => (by cases h), kA, h2, comp, h3⟩, h1⟩
theorem st_ref {C : String} (h : va_AO C s) : ∃ cA : ClassId, ArrOfT s cA (.object C) ∧ va_RA s cA (.object C) := by
  obtain ⟨comp, cA, kA, h1, h2, h3, h4, h5⟩ := Cond.arrayOver_spec h
  exact ⟨cA, fun n z => ⟨fun k h => (by cases h), kA, h3, comp, h4⟩, kA, comp, h3, h4, h1, h5⟩
theorem st_AO (hts : ∀ w ∈ lw_tbl, w.before args s = true) : AO s := ⟨va_AO.of (hts _ (List.mem_append_right _ (of_decide_eq_true (by decide +kernel : decide (Cond.arrayOver (.object "SideBySide$Stroke") ∈ tables_1) = true)))), va_AO.of (hts _ (List.mem_append_right _ (of_decide_eq_true (by decide +kernel : decide (Cond.arrayOver (.object "SideBySide$Shelf") ∈ tables_1) = true))))⟩
theorem nml_in : nml.all (fun q => decide (Cond.methodLinkNest q.1 q.2.1 q.2.2.1 q.2.2.2 ∈ lw_tbl)) = true := by decide +kernel
theorem ncl_in : ncl.all (fun C => decide (Cond.castable C "SideBySide$Stroke" ∈ lw_tbl)) = true := by decide +kernel
theorem kk_start (hts : ∀ w ∈ lw_tbl, w.before args s = true) : ∃ (D : va_G) (C3 : Nat → ClassId), ∀ ad : Nat → Nat, KK (D, C3, ad) s := by
  obtain ⟨F, hF⟩ := Classical.axiomOfChoice (st_all hts)
  have hO := st_AO hts
  obtain ⟨c0, a0, b0⟩ := st_int hts
  obtain ⟨c1, a1, b1⟩ := st_ref hO.2
  obtain ⟨c2, a2, b2⟩ := st_ref hO.1
  refine ⟨(fun c => (F c).1, fun c => (F c).2), fun i => if i = 0 then c0 else if i = 1 then c1 else c2, fun ad => ⟨⟨fun c q hq => hF c q hq, fun k q hk => ?_⟩, fun q hq => va_Nw.of rfl (hts _ (of_decide_eq_true (List.all_eq_true.mp nml_in q hq))), fun C hC => va_Nw.of rfl (hts _ (of_decide_eq_true (List.all_eq_true.mp ncl_in C hC)))⟩⟩
  have hk3 : k < 3 := (List.getElem?_eq_some_iff.mp hk).1
  rcases (show k = 0 ∨ k = 1 ∨ k = 2 by omega) with rfl | rfl | rfl
  · cases hk
    exact ⟨a0, b0⟩
  · cases hk
    exact ⟨a1, b1⟩
  · cases hk
    exact ⟨a2, b2⟩
end ST
