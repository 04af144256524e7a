/-! what the law's loop holds: the class's object, the reference's, and the row for a value given out -/
abbrev WCl (D : va_G) (C3 : Nat → ClassId) (ad : Nat → Nat) (LP : List Nat) (kf : KF) (σ : IM) (ρ : RM) : va_W := wl lyC 48 (D, C3, ad) σ ρ (va_pl LP (skE kf))
abbrev WMo (D : va_G) (C3 : Nat → ClassId) (ad : Nat → Nat) (μ : IM) : va_W := wl lyM 13 (D, C3, ad) μ nor []
abbrev NewA (s : State) : Nat → Prop := fun q => s.heap.size ≤ q
def LW (s : State) (D : va_G) (wc wm wo : va_W) (H : Heap) (locs : List Loc) : Prop :=
  va_P D vwCl wc H ∧ va_P D vwCl wm H ∧ va_P D vwCl wo H ∧ va_D (NewA s) wc ∧ va_D (NewA s) wm ∧ va_D (NewA s) wo ∧ Dj wc wm ∧ Dj wc wo ∧ Dj wm wo ∧ va_S (NewA s) s.heap H locs
section RR
variable {p : Program} {l : Launch} {e : Env} {R : Room} {s : State} {m : MethodId} {args : Array Value} {below : List Frame} {meth : Method} {c : Code} {H : Heap} {locs : List Loc} {cells slots mc ms : Nat} {Q : State → Prop} {pc : Nat} {ls : Array Slot} {st0 rest : List Value} {D : va_G} {C3 : Nat → ClassId} {ad : Nat → Nat} {wc wm wo : va_W}
/-- a call of the class, whatever is said behind it -/
theorem k_c {a : Array Value} {Rr : Option Value → va_W → Prop} (hr : va_Run p l e R s m args below meth c H locs cells slots mc ms (F0 m pc ls st0) rest (QE (D, C3, ad) (va_A wc H.size) Rr a) (va_A wc H.size)) (h : LW s D wc wm wo H locs)
    (kk : ∀ (v : Option Value) (w : va_W) (H1 : Heap) (locs1 : List Loc), Rr v w → LW s D w wm wo H1 locs1 → W p l e R s m args below meth c H1 locs1 (cells + mc) (slots + ms) Q (F0 m (pc + 3) ls (v.toList ++ rest))) : W p l e R s m args below meth c H locs cells slots Q (F0 m pc ls st0) := by
  obtain ⟨h1, h2, h3, d1, d2, d3, j1, j2, j3, hS⟩ := h
  refine k_own (wr := wm ++ wo) (A0 := NewA s) hr (h2.app h3) d1 (j1.app j2) hS (fun q hq => hq) (fun v w H1 locs1 hR p1 p2 d j hS1 _ _ => ?_)
  exact kk v w H1 locs1 hR ⟨p1, P_fst p2, P_snd p2, d, d2, d3, j.fst, j.snd, j3, hS1⟩
/-- a call of the reference -/
theorem k_r {a : Array Value} {Rr : Option Value → va_W → Prop} (hr : va_Run p l e R s m args below meth c H locs cells slots mc ms (F0 m pc ls st0) rest (QE (D, C3, ad) (va_A wm H.size) Rr a) (va_A wm H.size)) (h : LW s D wc wm wo H locs)
    (kk : ∀ (v : Option Value) (w : va_W) (H1 : Heap) (locs1 : List Loc), Rr v w → LW s D wc w wo H1 locs1 → W p l e R s m args below meth c H1 locs1 (cells + mc) (slots + ms) Q (F0 m (pc + 3) ls (v.toList ++ rest))) : W p l e R s m args below meth c H locs cells slots Q (F0 m pc ls st0) := by
  obtain ⟨h1, h2, h3, d1, d2, d3, j1, j2, j3, hS⟩ := h
  refine k_own (wr := wc ++ wo) (A0 := NewA s) hr (h1.app h3) d2 (j1.sw.app j3) hS (fun q hq => hq) (fun v w H1 locs1 hR p1 p2 d j hS1 _ _ => ?_)
  exact kk v w H1 locs1 hR ⟨P_fst p2, p1, P_snd p2, d1, d, d3, j.fst.sw, j2, j.snd, hS1⟩
end RR
theorem LW.mc {s : State} {D : va_G} {C3 : Nat → ClassId} {ad : Nat → Nat} {LP : List Nat} {kf : KF} {σ : IM} {ρ : RM} {wm wo : va_W} {H : Heap} {locs : List Loc} (h : LW s D (WCl D C3 ad LP kf σ ρ) wm wo H locs) : Mem lyC 48 (D, C3, ad) (va_A (WCl D C3 ad LP kf σ ρ) H.size) (va_pl LP (skE kf)) σ ρ H H [] :=
  ⟨h.1, h.2.2.2.1.self, va_S.rf, fun _ hq => Or.inr hq⟩
theorem LW.mm {s : State} {D : va_G} {C3 : Nat → ClassId} {ad : Nat → Nat} {μ : IM} {wc wo : va_W} {H : Heap} {locs : List Loc} (h : LW s D wc (WMo D C3 ad μ) wo H locs) : Mem lyM 13 (D, C3, ad) (va_A (WMo D C3 ad μ) H.size) [] μ nor H H [] :=
  ⟨h.2.1, h.2.2.2.2.1.self, va_S.rf, fun _ hq => Or.inr hq⟩
theorem XT.own {s : State} {wc wm wo : va_W} {D : va_G} {H : Heap} {locs : List Loc} (hX : XT (NewA s) s) (h : LW s D wc wm wo H locs) : ∀ U : State, U.heap = H → s.WarmedH U.vm → XT (va_A wc H.size) U := fun U hU hW => by
  have sub : ∀ q, va_A wc H.size q → NewA s q := fun q hq => by
    rcases hq with ⟨k, z, hk⟩ | hq
    · exact h.2.2.2.1.2 k _ hk
    · exact Nat.le_trans h.2.2.2.2.2.2.2.2.2.1 hq
  obtain ⟨x1, x2, x3, x4⟩ := hX.moved (U := U) (locs := locs) (by rw [hU]; exact h.2.2.2.2.2.2.2.2.2) hW
  exact ⟨x1, x2, x3.narrow sub, x4.narrow sub⟩
