/-! the law's memory: parts that are apart; a call upon one of them -/
def Dj (a b : va_W) : Prop := ∀ (i j : Nat) (x y : Nat × va_E), a[i]? = some x → b[j]? = some y → x.1 ≠ y.1
theorem Dj.sw {a b : va_W} (h : Dj a b) : Dj b a := fun i j x y hx hy e => h j i y x hy hx e.symm
theorem Dj.app {a b c : va_W} (h1 : Dj a b) (h2 : Dj a c) : Dj a (b ++ c) := by
  intro i j x y hx hy
  rcases List.mem_append.mp (List.mem_of_getElem? hy) with h | h
  · obtain ⟨k, hk⟩ := List.getElem?_of_mem h
    exact h1 i k x y hx hk
  · obtain ⟨k, hk⟩ := List.getElem?_of_mem h
    exact h2 i k x y hx hk
theorem Dj.fst {a b c : va_W} (h : Dj a (b ++ c)) : Dj a b := by
  intro i j x y hx hy
  have hl := (List.getElem?_eq_some_iff.mp hy).1
  exact h i j x y hx (by rw [List.getElem?_append_left hl]; exact hy)
theorem Dj.snd {a b c : va_W} (h : Dj a (b ++ c)) : Dj a c := by
  intro i j x y hx hy
  exact h i (b.length + j) x y hx (ap_at hy)
theorem P_fst {D : va_G} {cl : List vw_C} {a b : va_W} {H : Heap} (h : va_P D cl (a ++ b) H) : va_P D cl a H := fun k q hk => h k q (by rw [List.getElem?_append_left (List.getElem?_eq_some_iff.mp hk).1]; exact hk)
theorem P_snd {D : va_G} {cl : List vw_C} {a b : va_W} {H : Heap} (h : va_P D cl (a ++ b) H) : va_P D cl b H := fun k q hk => h (a.length + k) q (ap_at hk)
section RR
variable {p : Program} {l : Launch} {e : Env} {R : Room} {s : State} {m : MethodId} {args : Array Value} {below : List Frame} {meth : Method} {c : Code} {H : Heap} {locs : List Loc} {cells slots mc ms : Nat} {Q : State → Prop} {pc : Nat} {ls : Array Slot} {st0 rest : List Value} {g : GE} {A0 : Nat → Prop} {wc wr : va_W}
/-- what a call upon wc asks of the memory -/
theorem own_pre {U : State} (hK : KK g U) (hP : va_P g.1 vwCl wc U.heap) (hD : va_D A0 wc) : PreW g (va_A wc U.heap.size) wc U := ⟨fun q hq => Or.inr hq, hK, hP, hD.self⟩
theorem k_own {a : Array Value} {Rr : Option Value → va_W → Prop} (hr : va_Run p l e R s m args below meth c H locs cells slots mc ms (F0 m pc ls st0) rest (QE g (va_A wc H.size) Rr a) (va_A wc H.size)) (hP : va_P g.1 vwCl wr H) (hD : va_D A0 wc) (hj : Dj wc wr) (hS : va_S A0 s.heap H locs) (hA : ∀ q, s.heap.size ≤ q → A0 q)
    (kk : ∀ (v : Option Value) (w : va_W) (H1 : Heap) (locs1 : List Loc), Rr v w → va_P g.1 vwCl w H1 → va_P g.1 vwCl wr H1 → va_D A0 w → Dj w wr → va_S A0 s.heap H1 locs1 → H.size ≤ H1.size → (∀ q, q < H.size → ¬ va_A wc H.size q → H1[q]? = H[q]?) → W p l e R s m args below meth c H1 locs1 (cells + mc) (slots + ms) Q (F0 m (pc + 3) ls (v.toList ++ rest))) : W p l e R s m args below meth c H locs cells slots Q (F0 m pc ls st0) := by
  intro T hT X1
  obtain ⟨w, st₀, t, T', L, h0, X2, hL, e1, e2, ⟨v, w', hR, hv, hp, hd, hz, hf⟩, st⟩ := hr T hT X1
  cases hv
  rw [h0] at hz hf
  have sub : ∀ q, va_A wc H.size q → A0 q := fun q hq => by
    rcases hq with ⟨k, z, hk⟩ | hq
    · exact hD.2 k _ hk
    · exact hA q (Nat.le_trans hS.1 hq)
  have apart : ∀ (k : Nat) (x : Nat × va_E), wr[k]? = some x → x.1 < H.size ∧ ¬ va_A wc H.size x.1 := fun k x hx => by
    have hl := (hP k x hx).lt
    refine ⟨hl, fun q => ?_⟩
    rcases q with ⟨i, z, hi⟩ | q
    · exact hj i k _ x hi hx rfl
    · omega
  obtain ⟨t2, a1, b1⟩ := kk _ w' T'.heap (locs ++ L) hR (by rw [e1]; exact hp) (by rw [e1]; exact hP.kept (fun k x hx => hf x.1 (apart k x hx).1 (apart k x hx).2)) (hd.weaken (fun k x _ h => sub x.1 h)) (fun i j x y hx hy ex => (apart j y hy).2 (by rw [← ex]; exact hd.2 i x hx)) ⟨Nat.le_trans hS.1 (by rw [e1]; exact hz), fun q h1 h2 => by
      rw [e1, hf q (Nat.lt_of_lt_of_le h1 hS.1) (fun z => h2 (sub q z))]
      exact hS.2.1 q h1 h2, fun q hq => by
      rcases List.mem_append.mp hq with h | h
      · exact hS.2.2 q h
      · exact sub _ (hL q h)⟩ (by rw [e1]; exact hz) (fun q h1 h2 => by rw [e1]; exact hf q h1 h2) T' rfl X2
  exact ⟨t2, st t2 a1, b1⟩
end RR
