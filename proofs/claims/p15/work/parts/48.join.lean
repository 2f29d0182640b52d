/-! two worlds side by side: a call on the left one leaves the right one -/
section JN
variable {p : Program} {l : Launch} {e : Env} {R : Room} {s : State} {m : MethodId} {args : Array Value} {below : List Frame} {meth : Method} {c : Code} {H : Heap} {locs : List Loc} {cells slots : Nat} {Q : State → Prop}
variable {pc : Nat} {ls : Array Slot} {rest st0 : List Value} {a : Array Value} {D : va_G} {cl : List vw_C} {A : Nat → Prop} {tys : List (ClassId × FieldType)} {mc ms : Nat} {w1 w2 : va_W}
theorem Wd.left (hW : Wd D cl tys s A (w1 ++ w2) H locs) : Wd D cl tys s A w1 H locs := by
  have hg : ∀ (k : Nat) (q : Nat × va_E), w1[k]? = some q → (w1 ++ w2)[k]? = some q := fun k q h => ap_left h
  exact ⟨hW.1, hW.2.1.by id hg, hW.2.2.1.by id hg (fun i j _ _ h => h), hW.2.2.2⟩
theorem Wd.swap (hW : Wd D cl tys s A (w1 ++ w2) H locs) : Wd D cl tys s A (w2 ++ w1) H locs := by
  have h1 : va_P D cl (([] ++ w1) ++ w2) H := hW.2.1
  have h2 : va_D A (([] ++ w1) ++ w2) := hW.2.2.1
  exact ⟨hW.1, h1.swap, h2.swap, hW.2.2.2⟩
theorem Wd.apart (hW : Wd D cl tys s A (w1 ++ w2) H locs) {k : Nat} {q : Nat × va_E} (hq : w2[k]? = some q) : q.1 < H.size ∧ ¬ va_A w1 H.size q.1 := by
  have h2 : (w1 ++ w2)[w1.length + k]? = some q := by rw [ap_get]; exact hq
  have hl := (hW.2.1 _ q h2).lt
  refine ⟨hl, fun h => ?_⟩
  rcases h with ⟨j, e, hj⟩ | h
  · have h3 : (w1 ++ w2)[j]? = some (q.1, e) := ap_left hj
    have := hW.2.2.1.1 _ _ _ _ h2 h3 rfl
    have := (List.getElem?_eq_some_iff.mp hj).1
    omega
  · omega
theorem Wd.join (hW : Wd D cl tys s A (w1 ++ w2) H locs) (hA : ∀ q, s.heap.size ≤ q → A q) {w3 : va_W} {H1 : Heap} {locs1 : List Loc} (hk : ∀ q : Nat, q < H.size → ¬ va_A w1 H.size q → H1[q]? = H[q]?) (hP : va_P D cl w3 H1) (hD : va_D (va_A w1 H.size) w3) (hS : va_S A s.heap H1 locs1) : Wd D cl tys s A (w3 ++ w2) H1 locs1 := by
  have hF := hW.left.free hA
  have h2 := hW.swap.left
  refine ⟨hW.1, hP.app (h2.2.1.kept (fun k q hq => hk q.1 (hW.apart hq).1 (hW.apart hq).2)), va_D.app (hD.weaken (fun _ q _ h => hF q.1 h)) h2.2.2.1 (fun i j x y hx hy hxy => ?_), hS⟩
  exact (hW.apart hy).2 (by rw [← hxy]; exact hD.2 i x hx)
theorem jci {S : Type} {post : Int32 → S → Prop} {w' : S → va_W} (hW : Wd D cl tys s A (w1 ++ w2) H locs) (hA : ∀ q, s.heap.size ≤ q → A q) (hr : va_Run p l e R s m args below meth c H locs cells slots mc ms (F0 m pc ls st0) rest (va_Qi post (BtW D cl tys (va_A w1 H.size) w') (va_A w1 H.size) a) (va_A w1 H.size))
    (kk : ∀ (r : Int32) (u : S) (H1 : Heap) (locs1 : List Loc), post r u → Wd D cl tys s A (w' u ++ w2) H1 locs1 → W p l e R s m args below meth c H1 locs1 (cells + mc) (slots + ms) Q (F0 m (pc + 3) ls (.int r :: rest))) : W p l e R s m args below meth c H locs cells slots Q (F0 m pc ls st0) := by
  have hF := hW.left.free hA
  refine va_calli hr hW.2.2.2 (fun q _ h => hF q h) hF (fun r u t H1 locs1 ht hvm hp hB hz hk hS => kk r u H1 locs1 hp ?_)
  exact hW.join hA hk (by rw [← ht]; exact hB.1) hB.2.2 hS
theorem jcl {S : Type} {post : Int64 → S → Prop} {w' : S → va_W} (hW : Wd D cl tys s A (w1 ++ w2) H locs) (hA : ∀ q, s.heap.size ≤ q → A q) (hr : va_Run p l e R s m args below meth c H locs cells slots mc ms (F0 m pc ls st0) rest (va_Ql post (BtW D cl tys (va_A w1 H.size) w') (va_A w1 H.size) a) (va_A w1 H.size))
    (kk : ∀ (r : Int64) (u : S) (H1 : Heap) (locs1 : List Loc), post r u → Wd D cl tys s A (w' u ++ w2) H1 locs1 → W p l e R s m args below meth c H1 locs1 (cells + mc) (slots + ms) Q (F0 m (pc + 3) ls (.long r :: rest))) : W p l e R s m args below meth c H locs cells slots Q (F0 m pc ls st0) := by
  have hF := hW.left.free hA
  refine va_calll hr hW.2.2.2 (fun q _ h => hF q h) hF (fun r u t H1 locs1 ht hvm hp hB hz hk hS => kk r u H1 locs1 hp ?_)
  exact hW.join hA hk (by rw [← ht]; exact hB.1) hB.2.2 hS
end JN
