/-! instr: the class and the reference answer alike, and their programs stay of one length -/
theorem cAdd_sz {v : Vs} {i : Nat} {op a b : Int32} : cAdd v i op a b (6 + 4 * i) 3 = v (6 + 4 * i) 3 + 1 := by
  unfold cAdd
  rw [u2_s, u2_a (by omega), u2_a (by omega), u2_a (by omega)]
theorem cAdd_ot {v : Vs} {i j : Nat} {op a b : Int32} (h : j ≠ i) : cAdd v i op a b (6 + 4 * j) 3 = v (6 + 4 * j) 3 := by
  unfold cAdd
  rw [u2_a (by omega), u2_a (by omega), u2_a (by omega), u2_a (by omega)]
theorem ins2_eq {v r : Vs} (hs : ∀ i, i < 4 → v (6 + 4 * i) 3 = r 4 i) {x op a b : Int32} (hx : nn x < 4) :
    (if v (6 + 4 * nn x) 3 = 12 then ((-2 : Int32), v) else (cAdd v (nn x) op a b (6 + 4 * nn x) 3, cAdd v (nn x) op a b)).1 = (mIns2 r x op a b).1 ∧ ∀ i, i < 4 → (if v (6 + 4 * nn x) 3 = 12 then ((-2 : Int32), v) else (cAdd v (nn x) op a b (6 + 4 * nn x) 3, cAdd v (nn x) op a b)).2 (6 + 4 * i) 3 = (mIns2 r x op a b).2 4 i := by
  unfold mIns2
  by_cases c : v (6 + 4 * nn x) 3 = 12
  · have c' : r 4 (nn x) = 12 := by rw [← hs _ hx]; exact c
    rw [if_pos c, if_pos c']
    exact ⟨rfl, hs⟩
  · have c' : ¬ r 4 (nn x) = 12 := fun e => c (by rw [hs _ hx]; exact e)
    rw [if_neg c, if_neg c']
    dsimp only
    have e4 : ∀ (t j : Nat), u2 (u2 (u2 r 1 t op) 2 t a) 3 t b 4 j = r 4 j := fun t j => by rw [u2_a (by omega), u2_a (by omega), u2_a (by omega)]
    refine ⟨by rw [cAdd_sz, u2_s, e4, hs _ hx], fun i hi => ?_⟩
    by_cases e : i = nn x
    · subst e; rw [cAdd_sz, u2_s, e4, hs _ hx]
    · rw [cAdd_ot e, u2_n e, e4, hs i hi]
theorem instr_eq {v r : Vs} (hs : ∀ i, i < 4 → v (6 + 4 * i) 3 = r 4 i) (x op a b : Int32) : (mInstr v x op a b).1 = (mIns r x op a b).1 ∧ ∀ i, i < 4 → (mInstr v x op a b).2 (6 + 4 * i) 3 = (mIns r x op a b).2 4 i := by
  have same : ((-1 : Int32), v).1 = ((-1 : Int32), r).1 ∧ ∀ i, i < 4 → ((-1 : Int32), v).2 (6 + 4 * i) 3 = ((-1 : Int32), r).2 4 i := ⟨rfl, hs⟩
  unfold mInstr mIns
  by_cases c1 : inI x 4
  · have hx := (inI_nn (N := 4) rfl (by omega) c1).2
    rw [if_pos c1, if_neg ((io (by decide)).mp c1)]
    by_cases c2 : inI op 13
    · rw [if_pos c2, if_neg ((io (by decide)).mp c2)]
      by_cases c3 : inI a 4
      · rw [if_pos c3, if_neg ((io (by decide)).mp c3)]
        by_cases e0 : op = 0
        · rw [if_pos e0]
          by_cases d1 : b < -1000
          · rw [if_pos d1, if_neg (fun h => h.elim (fun q => q.2.1 d1) (fun q => q.1 e0))]; exact same
          · rw [if_neg d1]
            by_cases d2 : b ≤ 1000
            · rw [if_pos d2, if_pos (Or.inl ⟨e0, d1, fun h => i_nlt d2 h⟩)]; exact ins2_eq hs hx
            · rw [if_neg d2, if_neg (fun h => h.elim (fun q => q.2.2 (i_lt d2)) (fun q => q.1 e0))]; exact same
        · rw [if_neg e0]
          by_cases e5 : op = 5
          · by_cases d : outP b 11
            · have hf : ¬ fitP op b := fun h => h.elim (fun q => e0 q.1) (fun q => by have := q.2; rw [if_pos e5] at this; exact (io (m := 11) (by decide)).mp this d)
              rw [if_neg hf, if_pos e5, if_pos d]; exact same
            · have hf : fitP op b := Or.inr ⟨e0, by rw [if_pos e5]; exact (io (m := 11) (by decide)).mpr d⟩
              rw [if_pos hf, if_pos e5, if_neg d]; exact ins2_eq hs hx
          · by_cases d : outP b 3
            · have hf : ¬ fitP op b := fun h => h.elim (fun q => e0 q.1) (fun q => by have := q.2; rw [if_neg e5] at this; exact (io (m := 3) (by decide)).mp this d)
              rw [if_neg hf, if_neg e5, if_pos d]; exact same
            · have hf : fitP op b := Or.inr ⟨e0, by rw [if_neg e5]; exact (io (m := 3) (by decide)).mpr d⟩
              rw [if_pos hf, if_neg e5, if_neg d]; exact ins2_eq hs hx
      · rw [if_neg c3, if_pos (Classical.byContradiction fun h => c3 ((io (by decide)).mpr h))]; exact same
    · rw [if_neg c2, if_pos (Classical.byContradiction fun h => c2 ((io (by decide)).mpr h))]; exact same
  · rw [if_neg c1, if_pos (Classical.byContradiction fun h => c1 ((io (by decide)).mpr h))]; exact same
