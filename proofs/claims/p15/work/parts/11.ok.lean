/-! WHAT KEEPS THE CLASS'S INDICES IN RANGE -/
abbrev tysA (g : Nat → ClassId) : List (ClassId × FieldType) := [(g 0, .int), (g 1, .object "ClusterImage$Program"), (g 2, .object "ClusterImage$Proc"), (g 3, .object "ClusterImage$Line"), (g 4, .object "ClusterImage$Page"), (g 5, .boolean)]
abbrev wC (g : Nat → ClassId) (ad : Nat → Nat) (np : Nat) (v : Vs) : va_W := mw (68 + 3 * np) ad (mkC g ad np) v
def okSz (np : Nat) (x : Int32) : Prop := ∃ n, n ≤ 8 ∧ x = nI n ∧ (0 < n → 0 < np)
def okIt (np : Nat) (x : Int32) : Prop := ∃ n, x = nI n ∧ (n < np ∨ n = 0)
def okLt (b : Nat) (x : Int32) : Prop := ∃ n, n < b ∧ x = nI n
/-- what a slot may hold: lines, processes, the number made -/
def okS (np k j : Nat) (x : Int32) : Prop :=
  (k = 0 → j = 5 → x = nI np) ∧ (isLn k → j = 1 → okSz np x) ∧ (isLn (k - 1) → 0 < k → okIt np x) ∧
  (68 ≤ k → (k - 68) % 3 = 0 → (j = 0 → x = nI ((k - 68) / 3)) ∧ (j = 1 → okLt 4 x) ∧ (j = 4 → okLt 3 x) ∧ (j = 6 → okLt 13 x)) ∧
  (68 ≤ k → (k - 68) % 3 = 2 → okLt 3 x)
/-- a program's instructions -/
def okP (v : Vs) (i : Nat) : Prop := okLt 13 (v (6 + 4 * i) 3) ∧ ∀ t, t < nv v (6 + 4 * i) 3 → okLt 13 (v (6 + 4 * i + 1) t) ∧ okLt 4 (v (6 + 4 * i + 2) t) ∧ (v (6 + 4 * i + 1) t ≠ 0 → v (6 + 4 * i + 1) t ≠ 5 → okLt 4 (v (6 + 4 * i + 3) t)) ∧ (v (6 + 4 * i + 1) t = 5 → okLt 12 (v (6 + 4 * i + 3) t))
def Ok (np : Nat) (v : Vs) : Prop := np ≤ 8 ∧ (∀ k j, k < 68 + 3 * np → okS np k j (v k j)) ∧ ∀ i, i < 4 → okP v i
theorem okLt_nv {v : Vs} {k j b : Nat} (h : okLt b (v k j)) (hb : b ≤ 100) : v k j = nI (nv v k j) ∧ nv v k j < b := by
  obtain ⟨n, hn, e⟩ := h
  have h1 := nv_of e (by omega)
  exact ⟨by rw [h1]; exact e, by omega⟩
section OKR
variable {np : Nat} {v : Vs}
theorem Ok.le (h : Ok np v) : np ≤ 8 := h.1
theorem Ok.made (h : Ok np v) : v 0 5 = nI np ∧ np ≤ 8 := ⟨(h.2.1 0 5 (by omega)).1 rfl rfl, h.1⟩
theorem Ok.size (h : Ok np v) {k : Nat} (hk : isLn k) : v k 1 = nI (nv v k 1) ∧ nv v k 1 ≤ 8 ∧ (0 < nv v k 1 → 0 < np) := by
  obtain ⟨n, hn, e, hp⟩ := (h.2.1 k 1 (by have := ln_lt hk; omega)).2.1 hk rfl
  have h1 := nv_of e (by omega)
  rw [h1]
  exact ⟨e, hn, hp⟩
theorem Ok.item (h : Ok np v) {k : Nat} (hk : isLn k) (j : Nat) (h0 : 0 < np) : v (k + 1) j = nI (nv v (k + 1) j) ∧ nv v (k + 1) j < np := by
  obtain ⟨n, e, hn⟩ := (h.2.1 (k + 1) j (by have := ln_lt hk; omega)).2.2.1 (by simpa using hk) (by omega)
  have := h.1
  have h1 := nv_of e (by omega)
  rw [h1]
  exact ⟨e, by omega⟩
theorem Ok.pr (h : Ok np v) {i : Nat} (hi : i < np) : v (68 + 3 * i) 0 = nI i ∧ okLt 4 (v (68 + 3 * i) 1) ∧ okLt 3 (v (68 + 3 * i) 4) ∧ okLt 13 (v (68 + 3 * i) 6) := by
  have q := fun j => (h.2.1 (68 + 3 * i) j (by omega)).2.2.2.1 (by omega) (by omega)
  refine ⟨?_, (q 1).2.1 rfl, (q 4).2.2.1 rfl, (q 6).2.2.2 rfl⟩
  have := (q 0).1 rfl
  rwa [show (68 + 3 * i - 68) / 3 = i by omega] at this
theorem Ok.number (h : Ok np v) {i : Nat} (hi : i < np) : v (68 + 3 * i) 0 = nI i ∧ i < np := ⟨(h.pr hi).1, hi⟩
theorem Ok.program (h : Ok np v) {i : Nat} (hi : i < np) : v (68 + 3 * i) 1 = nI (nv v (68 + 3 * i) 1) ∧ nv v (68 + 3 * i) 1 < 4 := okLt_nv (h.pr hi).2.1 (by omega)
theorem Ok.place (h : Ok np v) {i : Nat} (hi : i < np) : v (68 + 3 * i) 4 = nI (nv v (68 + 3 * i) 4) ∧ nv v (68 + 3 * i) 4 < 3 := okLt_nv (h.pr hi).2.2.1 (by omega)
theorem Ok.counter (h : Ok np v) {i : Nat} (hi : i < np) : v (68 + 3 * i) 6 = nI (nv v (68 + 3 * i) 6) ∧ nv v (68 + 3 * i) 6 < 13 := okLt_nv (h.pr hi).2.2.2 (by omega)
theorem Ok.hint (h : Ok np v) {i : Nat} (hi : i < np) (j : Nat) : v (68 + 3 * i + 2) j = nI (nv v (68 + 3 * i + 2) j) ∧ nv v (68 + 3 * i + 2) j < 3 := okLt_nv ((h.2.1 (68 + 3 * i + 2) j (by omega)).2.2.2.2 (by omega) (by omega)) (by omega)
theorem Ok.psize (h : Ok np v) {i : Nat} (hi : i < 4) : v (6 + 4 * i) 3 = nI (nv v (6 + 4 * i) 3) ∧ nv v (6 + 4 * i) 3 < 13 := okLt_nv (h.2.2 i hi).1 (by omega)
/-- a store outside the programs -/
theorem Ok.set (h : Ok np v) {k j : Nat} {x : Int32} (hk : k < 6 ∨ 22 ≤ k) (hx : okS np k j x) : Ok np (u2 v k j x) := by
  refine ⟨h.1, fun k' j' hk' => ?_, fun i hi => ?_⟩
  · by_cases he : k' = k ∧ j' = j
    · rw [he.1, he.2, u2_s]; exact hx
    · rw [u2_a (by omega)]; exact h.2.1 k' j' hk'
  · have e : ∀ o, o < 4 → u2 v k j x (6 + 4 * i + o) = v (6 + 4 * i + o) := fun o ho => u2_oth (by omega)
    have e0 : u2 v k j x (6 + 4 * i) = v (6 + 4 * i) := u2_oth (by omega)
    have := h.2.2 i hi
    unfold okP nv at this ⊢
    rw [e0, e 1 (by omega), e 2 (by omega), e 3 (by omega)]
    exact this
/-- a slot of which nothing is asked -/
theorem okS_free {k j : Nat} {x : Int32} (h : (k = 0 ∧ j ≠ 5) ∨ (1 ≤ k ∧ k < 22) ∨ (28 ≤ k ∧ k < 68 ∧ (k - 28) % 5 < 3) ∨ (68 ≤ k ∧ (k - 68) % 3 = 0 ∧ j ≠ 0 ∧ j ≠ 1 ∧ j ≠ 4 ∧ j ≠ 6) ∨ (68 ≤ k ∧ (k - 68) % 3 = 1)) : okS np k j x := by
  unfold okS isLn
  refine ⟨?_, ?_, ?_, ?_, ?_⟩ <;> intros <;> (try refine ⟨?_, ?_, ?_, ?_⟩) <;> (try intros) <;> exfalso <;> omega
theorem okS_sz {k : Nat} {x : Int32} (hk : isLn k) (hx : okSz np x) : okS np k 1 x := by
  have := hk
  unfold okS
  unfold isLn at this ⊢
  refine ⟨?_, fun _ _ => hx, ?_, ?_, ?_⟩ <;> intros <;> (try refine ⟨?_, ?_, ?_, ?_⟩) <;> (try intros) <;> exfalso <;> omega
theorem okS_it {k j : Nat} {x : Int32} (hk : isLn k) (hx : okIt np x) : okS np (k + 1) j x := by
  have := hk
  unfold okS
  unfold isLn at this ⊢
  refine ⟨?_, ?_, fun _ _ => hx, ?_, ?_⟩ <;> intros <;> (try refine ⟨?_, ?_, ?_, ?_⟩) <;> (try intros) <;> exfalso <;> omega
theorem okS_place {i : Nat} {x : Int32} (hx : okLt 3 x) : okS np (68 + 3 * i) 4 x := by
  unfold okS isLn
  refine ⟨?_, ?_, ?_, fun _ _ => ⟨?_, ?_, fun _ => hx, ?_⟩, ?_⟩ <;> intros <;> exfalso <;> omega
theorem okS_counter {i : Nat} {x : Int32} (hx : okLt 13 x) : okS np (68 + 3 * i) 6 x := by
  unfold okS isLn
  refine ⟨?_, ?_, ?_, fun _ _ => ⟨?_, ?_, ?_, fun _ => hx⟩, ?_⟩ <;> intros <;> exfalso <;> omega
theorem okS_hint {i j : Nat} {x : Int32} (hx : okLt 3 x) : okS np (68 + 3 * i + 2) j x := by
  unfold okS isLn
  refine ⟨?_, ?_, ?_, ?_, fun _ _ => hx⟩ <;> intros <;> (try refine ⟨?_, ?_, ?_, ?_⟩) <;> (try intros) <;> exfalso <;> omega
end OKR
