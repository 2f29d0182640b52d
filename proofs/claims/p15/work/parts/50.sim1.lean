/-! LINES AS LISTS -/
def ln (v : Vs) (k : Nat) : List Nat := (List.range (nv v k 1)).map (fun t => nv v (k + 1) t)
theorem nn_lt (x : Int32) : x.toNatClampNeg < 2 ^ 31 := by
  have := x.toInt_lt
  have e : x.toNatClampNeg = x.toInt.toNat := rfl
  omega
theorem nv_lt (v : Vs) (k j : Nat) : nv v k j < 2 ^ 31 := nn_lt _
theorem ln_len {v : Vs} {k : Nat} : (ln v k).length = nv v k 1 := by simp [ln]
theorem ln_congr {v v' : Vs} {k : Nat} (h1 : v' k 1 = v k 1) (h2 : v' (k + 1) = v (k + 1)) : ln v' k = ln v k := by
  unfold ln nv
  rw [h1, h2]
theorem ln_get {v : Vs} {k t : Nat} (h : t < nv v k 1) : (ln v k)[t]? = some (nv v (k + 1) t) := by
  simp [ln, h]
theorem nv_u2s {v : Vs} {k j : Nat} {x : Int32} : nv (u2 v k j x) k j = nn x := by rw [nv, u2_s, nn]
theorem nv_u2a {v : Vs} {k j k' j' : Nat} {x : Int32} (h : k' ≠ k ∨ j' ≠ j) : nv (u2 v k j x) k' j' = nv v k' j' := by rw [nv, u2_a h, nv]
theorem nn_nI {n : Nat} (h : n < 2 ^ 31) : nn (nI n) = n := nI_clamp h
theorem cApp_ln {np : Nat} {v : Vs} {k i : Nat} (h : Ok np v) (hk : isLn k) (hs : nv v k 1 < 8) (hi : i < 2 ^ 31) : ln (cApp v k (nI i)) k = ln v k ++ [i] := by
  obtain ⟨e1, -⟩ := h.size hk
  have c : ¬ (8 : Int32) ≤ v k 1 := fun q => by
    have := ni_le (a := 8) rfl e1 (by omega) (by omega) q
    omega
  unfold cApp
  rw [if_neg c]
  dsimp only
  have e2 : u2 v (k + 1) (nv v k 1) (nI i) k 1 + 1 = nI (nv v k 1 + 1) := by
    rw [u2_a (by omega)]
    exact ni_add e1 rfl
  rw [e2]
  unfold ln
  rw [nv_u2s, nn_nI (by omega), List.range_succ, List.map_append]
  congr 1
  · apply List.map_congr_left
    intro t ht
    have := List.mem_range.mp ht
    rw [nv_u2a (by omega), nv_u2a (by omega)]
  · simp only [List.map_cons, List.map_nil]
    rw [nv_u2a (by omega), nv_u2s, nn_nI hi]
theorem cApp_oth {v : Vs} {k k' : Nat} {x : Int32} (h : k' ≠ k ∧ k' ≠ k + 1) : cApp v k x k' = v k' := by
  unfold cApp
  by_cases c : (8 : Int32) ≤ v k 1
  · rw [if_pos c]
  · rw [if_neg c]; (try dsimp only); rw [u2_oth (by omega), u2_oth (by omega)]
theorem cRemL_ln {k i0 : Nat} (hi0 : i0 < 2 ^ 31) : ∀ (n i kept : Nat) (v : Vs), kept ≤ i → i + n < 2 ^ 31 → (∀ t, i ≤ t → t < i + n → v (k + 1) t = nI (nv v (k + 1) t)) →
    ln (cRemL k (nI i0) n i kept v) k = (List.range kept).map (fun t => nv v (k + 1) t) ++ ((List.range' i n).map (fun t => nv v (k + 1) t)).filter (fun q => q ≠ i0) := by
  intro n
  induction n with
  | zero =>
    intro i kept v h1 h2 h3
    simp only [cRemL, List.range', List.map_nil, List.filter_nil, List.append_nil]
    unfold ln
    rw [nv_u2s, nn_nI (by omega)]
    apply List.map_congr_left
    intro t ht
    rw [nv_u2a (by omega)]
  | succ n ih =>
    intro i kept v h1 h2 h3
    have e := h3 i (by omega) (by omega)
    simp only [cRemL, List.range'_succ, List.map_cons]
    by_cases c : v (k + 1) i = nI i0
    · rw [if_pos c, ih (i + 1) kept v (by omega) (by omega) (fun t a b => h3 t (by omega) (by omega))]
      have c' : nv v (k + 1) i = i0 := nv_of c hi0
      rw [List.filter_cons_of_neg (by simp [c'])]
    · rw [if_neg c]
      have c' : nv v (k + 1) i ≠ i0 := fun q => c (by rw [e, q])
      rw [List.filter_cons_of_pos (by simp [c'])]
      rw [ih (i + 1) (kept + 1) _ (by omega) (by omega) (fun t a b => by rw [nv_u2a (by omega), u2_a (by omega)]; exact h3 t (by omega) (by omega))]
      rw [List.range_succ, List.map_append, List.append_assoc]
      congr 1
      · apply List.map_congr_left
        intro t ht
        have := List.mem_range.mp ht
        rw [nv_u2a (by omega)]
      · simp only [List.map_cons, List.map_nil, List.cons_append, List.nil_append]
        rw [nv_u2s]
        congr 1
        congr 1
        apply List.map_congr_left
        intro t ht
        have := List.mem_range'_1.mp ht
        rw [nv_u2a (by omega)]
theorem cRem_ln {np : Nat} {v : Vs} {k i : Nat} (h : Ok np v) (hk : isLn k) (h0 : 0 < np) (hi : i < 2 ^ 31) : ln (cRem v k (nI i)) k = (ln v k).filter (fun q => q ≠ i) := by
  unfold cRem
  rw [cRemL_ln hi (nv v k 1) 0 0 v (by omega) (by have := nv_lt v k 1; omega) (fun t _ _ => (h.item hk t h0).1)]
  simp only [List.range_zero, List.map_nil, List.nil_append]
  rw [← List.range_eq_range']
  rfl
theorem cRemL_oth {k k' : Nat} {x : Int32} (h : k' ≠ k ∧ k' ≠ k + 1) : ∀ (n i kept : Nat) (v : Vs), cRemL k x n i kept v k' = v k' := by
  intro n
  induction n with
  | zero => intro i kept v; simp only [cRemL]; rw [u2_oth (by omega)]
  | succ n ih =>
    intro i kept v
    simp only [cRemL]
    by_cases c : v (k + 1) i = x
    · rw [if_pos c, ih]
    · rw [if_neg c, ih, u2_oth (by omega)]
theorem cRem_oth {v : Vs} {k k' : Nat} {x : Int32} (h : k' ≠ k ∧ k' ≠ k + 1) : cRem v k x k' = v k' := cRemL_oth h _ _ _ _
/-! A LINE: what it holds, in the order of a key -/
def LOK (np : Nat) (l : List Nat) (P : Nat → Prop) (key : Nat → Nat) : Prop := l.Pairwise (fun a b => key a < key b) ∧ ∀ i, i ∈ l ↔ (i < np ∧ P i)
theorem nodup_len : ∀ (n : Nat) (l : List Nat), l.Nodup → (∀ i ∈ l, i < n) → l.length ≤ n := by
  intro n
  induction n with
  | zero =>
    intro l _ h
    cases l with
    | nil => simp
    | cons a l => exact absurd (h a List.mem_cons_self) (by omega)
  | succ n ih =>
    intro l hl h
    have h1 := ih (l.erase n) (hl.erase n) (fun i hi => by
      have := (hl.mem_erase_iff).mp hi
      have := h i this.2
      omega)
    have h2 : l.length ≤ (l.erase n).length + 1 := by
      rw [List.length_erase]
      split <;> omega
    omega
theorem LOK.nodup {np : Nat} {l : List Nat} {P : Nat → Prop} {key : Nat → Nat} (h : LOK np l P key) : l.Nodup := by
  refine h.1.imp ?_
  intro a b hab e
  subst e
  omega
theorem LOK.room {np : Nat} {l : List Nat} {P : Nat → Prop} {key : Nat → Nat} (h : LOK np l P key) {i : Nat} (hi : i < np) (hn : ¬ P i) : l.length + 1 ≤ np := by
  have hm : i ∉ l := fun q => hn ((h.2 i).mp q).2
  have := nodup_len np (i :: l) (List.nodup_cons.mpr ⟨hm, h.nodup⟩) (fun j hj => by
    rcases List.mem_cons.mp hj with rfl | hj
    · exact hi
    · exact ((h.2 j).mp hj).1)
  simpa using this
theorem LOK.congr {np : Nat} {l : List Nat} {P P' : Nat → Prop} {key key' : Nat → Nat} (h : LOK np l P key) (hP : ∀ i, i < np → (P i ↔ P' i)) (hk : ∀ i, i < np → P i → key' i = key i) : LOK np l P' key' := by
  refine ⟨?_, fun i => ?_⟩
  · refine h.1.imp_of_mem ?_
    intro a b ha hb hab
    have ha := (h.2 a).mp ha
    have hb := (h.2 b).mp hb
    rw [hk a ha.1 ha.2, hk b hb.1 hb.2]
    exact hab
  · rw [h.2 i]
    constructor
    · intro q; exact ⟨q.1, (hP i q.1).mp q.2⟩
    · intro q; exact ⟨q.1, (hP i q.1).mpr q.2⟩
/-- one goes -/
theorem LOK.out {np : Nat} {l : List Nat} {P P' : Nat → Prop} {key key' : Nat → Nat} (h : LOK np l P key) {x : Nat} (hP : ∀ i, i < np → (P' i ↔ i ≠ x ∧ P i)) (hk : ∀ i, i < np → P' i → key' i = key i) : LOK np (l.filter (fun q => q ≠ x)) P' key' := by
  have h1 : LOK np (l.filter (fun q => q ≠ x)) P' key := by
    refine ⟨h.1.sublist List.filter_sublist, fun i => ?_⟩
    rw [List.mem_filter, h.2 i]
    constructor
    · rintro ⟨⟨a, b⟩, c⟩
      exact ⟨a, (hP i a).mpr ⟨by simpa using c, b⟩⟩
    · rintro ⟨a, b⟩
      have := (hP i a).mp b
      exact ⟨⟨a, this.2⟩, by simpa using this.1⟩
  exact h1.congr (fun _ _ => Iff.rfl) hk
/-- one comes, with the highest key -/
theorem LOK.in {np : Nat} {l : List Nat} {P P' : Nat → Prop} {key key' : Nat → Nat} (h : LOK np l P key) {x : Nat} (hx : x < np) (hn : ¬ P x) (hP : ∀ i, i < np → (P' i ↔ i = x ∨ P i)) (hk : ∀ i, i < np → P i → key' i = key i) (hm : ∀ i, i < np → P i → key i < key' x) : LOK np (l ++ [x]) P' key' := by
  refine ⟨?_, fun i => ?_⟩
  · rw [List.pairwise_append]
    refine ⟨?_, List.pairwise_singleton _ _, fun a ha b hb => ?_⟩
    · refine h.1.imp_of_mem ?_
      intro a b ha hb hab
      have ha := (h.2 a).mp ha
      have hb := (h.2 b).mp hb
      rw [hk a ha.1 ha.2, hk b hb.1 hb.2]
      exact hab
    · have hb := List.mem_singleton.mp hb
      subst hb
      have ha := (h.2 a).mp ha
      rw [hk a ha.1 ha.2]
      exact hm a ha.1 ha.2
  · rw [List.mem_append, List.mem_singleton, h.2 i]
    constructor
    · rintro (⟨a, b⟩ | rfl)
      · exact ⟨a, (hP i a).mpr (Or.inr b)⟩
      · exact ⟨hx, (hP _ hx).mpr (Or.inl rfl)⟩
    · rintro ⟨a, b⟩
      rcases (hP i a).mp b with c | c
      · exact Or.inr c
      · exact Or.inl ⟨a, c⟩
