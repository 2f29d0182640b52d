/-! THE FIRST, SECOND .. OF A LINE, by the reference's search -/
theorem nodup_sub {l2 : List Nat} : ∀ (l1 : List Nat), l1.Nodup → (∀ i ∈ l1, i ∈ l2) → l1.length ≤ l2.length := by
  induction l2 with
  | nil =>
    intro l1 _ h
    cases l1 with
    | nil => simp
    | cons a l => exact absurd (h a List.mem_cons_self) List.not_mem_nil
  | cons c l2 ih =>
    intro l1 hl h
    have h1 := ih (l1.erase c) (hl.erase c) (fun i hi => by
      have q := (hl.mem_erase_iff).mp hi
      rcases List.mem_cons.mp (h i q.2) with e | e
      · exact absurd e q.1
      · exact e)
    have h2 : l1.length ≤ (l1.erase c).length + 1 := by
      rw [List.length_erase]
      split <;> omega
    simp only [List.length_cons]
    omega
theorem nodup_eq {l1 l2 : List Nat} (h1 : l1.Nodup) (h2 : l2.Nodup) (h : ∀ i, i ∈ l1 ↔ i ∈ l2) : l1.length = l2.length :=
  Nat.le_antisymm (nodup_sub l1 h1 (fun i hi => (h i).mp hi)) (nodup_sub l2 h2 (fun i hi => (h i).mpr hi))
theorem cnt_spec {r : Vs} {x : Int32} {s : Nat} (hs : s < 2 ^ 31) (ht : ∀ q, q < 8 → r 10 q = nI (nv r 10 q)) : ∀ (k q n : Nat), q + k ≤ 8 → mCnt r x (nI s) k q n = n + ((List.range' q k).filter (fun i => decide ((r 9 i = 1 ∧ r 8 i = x) ∧ nv r 10 i < s))).length := by
  intro k
  induction k with
  | zero => intro q n _; simp [mCnt]
  | succ k ih =>
    intro q n hk
    simp only [mCnt, List.range'_succ]
    rw [ih (q + 1) _ (by omega)]
    by_cases c1 : r 9 q = 1
    · by_cases c2 : r 8 q = x
      · by_cases c3 : nI s ≤ r 10 q
        · have c3' := ni_le (a := s) (b := nv r 10 q) rfl (ht q (by omega)) hs (nv_lt _ _ _) c3
          rw [if_pos c1, if_pos c2, if_pos c3, List.filter_cons_of_neg (by simp; omega)]
        · have c3' := ni_nle (a := s) (b := nv r 10 q) rfl (ht q (by omega)) hs (nv_lt _ _ _) c3
          rw [if_pos c1, if_pos c2, if_neg c3, List.filter_cons_of_pos (by simp [c1, c2, c3'])]
          simp only [List.length_cons]
          omega
      · rw [if_pos c1, if_neg c2, List.filter_cons_of_neg (by simp [c2])]
    · rw [if_neg c1, List.filter_cons_of_neg (by simp [c1])]
/-- the count of those before one of a line is its index -/
theorem cnt_at {r : Vs} {n np : Nat} {l : List Nat} (hnp : np ≤ 8) (hL : LOK np l (fun i => i ≠ 8 ∧ r 9 i = 1 ∧ r 8 i = nI n) (fun i => nv r 10 i)) (ht : ∀ q, q < 8 → r 10 q = nI (nv r 10 q)) {t a : Nat} (ha : l[t]? = some a) : mCnt r (nI n) (r 10 a) np 0 0 = t := by
  obtain ⟨htl, hta⟩ := List.getElem?_eq_some_iff.mp ha
  have hm : a ∈ l := by rw [← hta]; exact List.getElem_mem htl
  have ha' := (hL.2 a).mp hm
  rw [ht a (by omega), cnt_spec (nv_lt _ _ _) ht np 0 0 (by omega)]
  rw [← List.range_eq_range']
  have hp := List.pairwise_iff_getElem.mp hL.1
  have e : ((List.range np).filter (fun i => decide ((r 9 i = 1 ∧ r 8 i = nI n) ∧ nv r 10 i < nv r 10 a))).length = (l.take t).length := by
    refine nodup_eq (List.nodup_range.filter _) (hL.nodup.sublist (List.take_sublist t l)) (fun i => ?_)
    rw [List.mem_filter, List.mem_range, decide_eq_true_iff]
    constructor
    · rintro ⟨q1, q2, q3⟩
      have hi := (hL.2 i).mpr ⟨q1, by omega, q2⟩
      obtain ⟨s, hs, e⟩ := List.mem_iff_getElem.mp hi
      rw [List.mem_take_iff_getElem]
      refine ⟨s, ?_, e⟩
      have : s < t := by
        rcases Nat.lt_trichotomy s t with c | c | c
        · exact c
        · subst c; rw [hta] at e; subst e; omega
        · have : nv r 10 (l[t]) < nv r 10 (l[s]) := hp t s htl hs c
          rw [hta, e] at this; omega
      omega
    · intro hi
      obtain ⟨s, hs, e⟩ := List.mem_take_iff_getElem.mp hi
      have hi' : i ∈ l := by rw [← e]; exact List.getElem_mem _
      have q := (hL.2 i).mp hi'
      refine ⟨q.1, q.2.2, ?_⟩
      have : nv r 10 (l[s]) < nv r 10 (l[t]) := hp s t (by omega) htl (by omega)
      rw [hta, e] at this
      exact this
  rw [e, List.length_take]
  omega
theorem stL_none {r : Vs} {x y : Int32} : ∀ (k q : Nat), (∀ i, q ≤ i → i < q + k → ¬ (r 9 i = 1 ∧ r 8 i = x ∧ nI (mCnt r x (r 10 i) (nv r 0 14) 0 0) = y)) → mStL r x y k q = 8 := by
  intro k
  induction k with
  | zero => intro q _; rfl
  | succ k ih =>
    intro q h
    simp only [mStL]
    rw [ih (q + 1) (fun i a b => h i (by omega) (by omega))]
    by_cases c1 : r 9 q = 1
    · rw [if_pos c1]
      by_cases c2 : r 8 q = x
      · rw [if_pos c2, if_neg (fun c3 => h q (by omega) (by omega) ⟨c1, c2, c3⟩)]
      · rw [if_neg c2]
    · rw [if_neg c1]
theorem stL_some {r : Vs} {x y : Int32} {a : Nat} (ha : r 9 a = 1 ∧ r 8 a = x ∧ nI (mCnt r x (r 10 a) (nv r 0 14) 0 0) = y) : ∀ (k q : Nat), q ≤ a → a < q + k → (∀ i, i < a → ¬ (r 9 i = 1 ∧ r 8 i = x ∧ nI (mCnt r x (r 10 i) (nv r 0 14) 0 0) = y)) → mStL r x y k q = nI a := by
  intro k
  induction k with
  | zero => intro q h1 h2; omega
  | succ k ih =>
    intro q h1 h2 h
    simp only [mStL]
    by_cases e : q = a
    · subst e
      rw [if_pos ha.1, if_pos ha.2.1, if_pos ha.2.2]
    · rw [ih (q + 1) (by omega) (by omega) h]
      by_cases c1 : r 9 q = 1
      · rw [if_pos c1]
        by_cases c2 : r 8 q = x
        · rw [if_pos c2, if_neg (fun c3 => h q (by omega) ⟨c1, c2, c3⟩)]
        · rw [if_neg c2]
      · rw [if_neg c1]
theorem Sim.stood {b np : Nat} {d : Int32} {v r : Vs} (h : Sim b 8 d np v r) {n t : Nat} (hn : n < 3) (ht : t < 2 ^ 31) : mSt r (nI n) (nI t) = (match (ln v (22 + 2 * n))[t]? with | some a => nI a | none => 8) := by
  have hle := h.le
  have hL := h.nd n hn
  have h10 := fun q hq => (h.t10 q hq).1
  have hmd := h.made
  have hidx : ∀ i, i < np → r 9 i = 1 → r 8 i = nI n → ∃ s, (ln v (22 + 2 * n))[s]? = some i ∧ mCnt r (nI n) (r 10 i) (nv r 0 14) 0 0 = s := fun i hi q1 q2 => by
    have hm := (hL.2 i).mpr ⟨hi, by omega, q1, q2⟩
    obtain ⟨s, hs, e⟩ := List.mem_iff_getElem.mp hm
    have e' : (ln v (22 + 2 * n))[s]? = some i := List.getElem?_eq_some_iff.mpr ⟨hs, e⟩
    exact ⟨s, e', by rw [hmd]; exact cnt_at hle hL h10 e'⟩
  have hlen : (ln v (22 + 2 * n)).length ≤ 8 := Nat.le_trans (nodup_len np _ hL.nodup (fun i hi => ((hL.2 i).mp hi).1)) hle
  unfold mSt
  cases hl : (ln v (22 + 2 * n))[t]? with
  | none =>
    dsimp only
    refine stL_none _ _ (fun i _ hi p => ?_)
    obtain ⟨s, e1, e2⟩ := hidx i (by omega) p.1 p.2.1
    have hs := (List.getElem?_eq_some_iff.mp e1).1
    have e3 := p.2.2
    rw [e2] at e3
    have := (nI_eq (by omega) ht).mp e3
    subst this
    rw [e1] at hl
    cases hl
  | some a =>
    dsimp only
    have hm : a ∈ ln v (22 + 2 * n) := List.mem_of_getElem? hl
    have ha := (hL.2 a).mp hm
    have hcnt : mCnt r (nI n) (r 10 a) (nv r 0 14) 0 0 = t := by rw [hmd]; exact cnt_at hle hL h10 hl
    refine stL_some ⟨ha.2.2.1, ha.2.2.2, by rw [hcnt]⟩ _ _ (by omega) (by rw [hmd]; omega) (fun i hi p => ?_)
    obtain ⟨s, e1, e2⟩ := hidx i (by omega) p.1 p.2.1
    have hs := (List.getElem?_eq_some_iff.mp e1).1
    have e3 := p.2.2
    rw [e2] at e3
    have := (nI_eq (by omega) ht).mp e3
    subst this
    rw [e1] at hl
    cases hl
    omega
