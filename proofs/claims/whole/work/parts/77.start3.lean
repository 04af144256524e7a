/-! the throws, where the law begins -/
section ST
variable {s : State} {args : Array Value}
theorem xW_in : xW.all (fun w => decide (w ∈ lw_tbl)) = true := by decide +kernel
theorem st_str {own tx : String} {k : Nat} (h1 : (Cond.stringRef own k tx).before args s = true) (h2 : (Cond.exactly (.string own k) "java/lang/String").before args s = true) : ∃ a, vk_R own k tx a s := by
  obtain ⟨a, _, _, _, h3, -⟩ := Cond.exactly_spec h2
  exact ⟨a, vk_R.of h1 h3⟩
theorem st_in (w : Cond) (h : decide (w ∈ tables_1) = true) : w ∈ lw_tbl := List.mem_append_right _ (of_decide_eq_true h)
theorem st_XT (hts : ∀ w ∈ lw_tbl, w.before args s = true) (hg : (Jvm.Cond.and given_1 narrow_1).before args s = true) : XT (NewA s) s := by
  have hs := flat_of_before _ hg
  refine ⟨fun w hw => va_Nw.of (xW_ot w hw) (hts _ (of_decide_eq_true (List.all_eq_true.mp xW_in w hw))), fun q hq => ?_, ?_, ?_⟩
  · simp only [xstr, List.mem_cons, List.not_mem_nil, or_false] at hq
    rcases hq with rfl | rfl | rfl | rfl | rfl
    · exact st_str (hts _ (st_in _ (by decide +kernel))) (hs _ (by decide +kernel))
    · exact st_str (hts _ (st_in _ (by decide +kernel))) (hs _ (by decide +kernel))
    · exact st_str (hts _ (st_in _ (by decide +kernel))) (hs _ (by decide +kernel))
    · exact st_str (hts _ (st_in _ (by decide +kernel))) (hs _ (by decide +kernel))
    · exact st_str (hts _ (st_in _ (by decide +kernel))) (hs _ (by decide +kernel))
  · exact vx_Zqof (hts _ (st_in _ (by decide +kernel))) (hts _ (st_in _ (by decide +kernel))) (hs _ (by decide +kernel)) (fun a h1 h2 => absurd h1 (Nat.not_lt.mpr h2))
  · exact vx_Zqof (hts _ (st_in _ (by decide +kernel))) (hts _ (st_in _ (by decide +kernel))) (hs _ (by decide +kernel)) (fun a h1 h2 => absurd h1 (Nat.not_lt.mpr h2))
theorem st_Nc (hg : (Jvm.Cond.and given_1 narrow_1).before args s = true) : va_Nc xIAE xUOE s ∧ va_Nc xISE xUOE s ∧ va_Nc xISE xIAE s := by
  have hs := flat_of_before _ hg
  exact ⟨va_Nc.of (hs _ (by decide +kernel)), va_Nc.of (hs _ (by decide +kernel)), va_Nc.of (hs _ (by decide +kernel))⟩
end ST
