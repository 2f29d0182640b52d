/-! the class's public methods that make nothing -/
theorem pos_nn {x : Int32} (h : 0 ≤ x) : x = nI (nn x) ∧ nn x < 2147483648 := by
  obtain ⟨j, hj, e⟩ := nI_of (x := x) (fun c => absurd h (by intro h; exact i_nlt h c))
  have h1 : nn x = j := by rw [nn, e, nI_clamp hj]
  rw [h1]
  exact ⟨e, by omega⟩
theorem sw_7 (x : Int32) : (x.toInt < 0 ∨ 6 < x.toInt) ∨ x = 0 ∨ x = 1 ∨ x = 2 ∨ x = 3 ∨ x = 4 ∨ x = 5 ∨ x = 6 := by
  have key : ∀ (k : Int32), x.toInt = k.toInt → x = k := fun k h => Int32.toInt_inj.mp h
  rcases (show (x.toInt < 0 ∨ 6 < x.toInt) ∨ x.toInt = 0 ∨ x.toInt = 1 ∨ x.toInt = 2 ∨ x.toInt = 3 ∨ x.toInt = 4 ∨ x.toInt = 5 ∨ x.toInt = 6 by omega) with h | h | h | h | h | h | h | h
  · exact Or.inl h
  · exact Or.inr (Or.inl (key 0 h))
  · exact Or.inr (Or.inr (Or.inl (key 1 h)))
  · exact Or.inr (Or.inr (Or.inr (Or.inl (key 2 h))))
  · exact Or.inr (Or.inr (Or.inr (Or.inr (Or.inl (key 3 h)))))
  · exact Or.inr (Or.inr (Or.inr (Or.inr (Or.inr (Or.inl (key 4 h))))))
  · exact Or.inr (Or.inr (Or.inr (Or.inr (Or.inr (Or.inr (Or.inl (key 5 h)))))))
  · exact Or.inr (Or.inr (Or.inr (Or.inr (Or.inr (Or.inr (Or.inr (key 6 h)))))))
theorem out_ne {x : Int32} {n : Int} (h : x.toInt < 0 ∨ n < x.toInt) (k : Int32) (hk : 0 ≤ k.toInt ∧ k.toInt ≤ n) : ¬ x = k := by
  intro e
  rw [e] at h
  omega
def cAdd (v : Vs) (i : Nat) (op a b : Int32) : Vs :=
  let v1 := u2 v (6 + 4 * i + 1) (nv v (6 + 4 * i) 3) op
  let v2 := u2 v1 (6 + 4 * i + 2) (nv v1 (6 + 4 * i) 3) a
  let v3 := u2 v2 (6 + 4 * i + 3) (nv v2 (6 + 4 * i) 3) b
  u2 v3 (6 + 4 * i) 3 (v3 (6 + 4 * i) 3 + 1)
def mInstr (v : Vs) (x op a b : Int32) : Int32 × Vs :=
  if inI x 4 then (if inI op 13 then (if inI a 4 then (if fitP op b then
    (if v (6 + 4 * nn x) 3 = 12 then (-2, v) else (cAdd v (nn x) op a b (6 + 4 * nn x) 3, cAdd v (nn x) op a b))
  else (-1, v)) else (-1, v)) else (-1, v)) else (-1, v)
def cServeL (j : Nat) : Nat → Vs → Int32 × Vs
  | 0, v => (-3, v)
  | r + 1, v =>
    let q := nv v (28 + 5 * j + 3 + 1) 0
    let v1 := cRem v (28 + 5 * j + 3) (v (68 + 3 * q) 0)
    if v1 (68 + 3 * q) 5 = 4 then cServeL j r v1 else (cGrant v1 j q (68 + 3 * q) 0, cGrant v1 j q)
def mServe (v : Vs) (x : Int32) : Int32 × Vs := if inI x 8 then cServeL (nn x) (nv v (28 + 5 * nn x + 3) 1) v else (-1, v)
def cMove (v : Vs) (q : Nat) (x y : Int32) : Vs :=
  let v1 := cRem v (22 + 2 * nv v (68 + 3 * q) 4) x
  let v2 := u2 v1 (68 + 3 * q) 4 y
  let v3 := u2 v2 (68 + 3 * q + 2) (nv v (68 + 3 * q) 4) y
  let v4 := u2 v3 (68 + 3 * q + 2) (nn y) y
  if v4 (68 + 3 * q) 5 = 1 then cJoin v4 q else v4
def mMigrate (v : Vs) (x y : Int32) : Int32 × Vs :=
  if inI x (v 0 5) then (if inI y 3 then (if v (68 + 3 * nn x) 5 = 4 then (-1, v) else if v (68 + 3 * nn x) 4 = y then (-1, v) else (v (68 + 3 * nn x) 4, cMove v (nn x) x y)) else (-1, v)) else (-1, v)
def cFindL (q : Nat) : Nat → Nat → Nat → Vs → Int32 × Vs
  | 0, f, _, v => (nI f, v)
  | r + 1, f, t, v => if nI t = v (68 + 3 * q) 4 then (nI f, v) else cFindL q r (f + 1) (nv v (68 + 3 * q + 2) t) (u2 v (68 + 3 * q + 2) t (v (68 + 3 * q) 4))
def mFind (v : Vs) (x y : Int32) : Int32 × Vs := if inI x 3 then (if inI y (v 0 5) then cFindL (nn y) 3 0 (nn x) v else (-1, v)) else (-1, v)
abbrev NONEv : Int64 := 10000000000
def rReg (v : Vs) (x y : Int32) : Int64 := if inI x (v 0 5) then (if inI y 4 then (v (68 + 3 * nn x + 1) (nn y)).toInt64 else NONEv) else NONEv
def rInfo (v : Vs) (x y : Int32) : Int64 := if inI x (v 0 5) then
  (if y = 0 then (v (68 + 3 * nn x) 5).toInt64 else if y = 1 then (v (68 + 3 * nn x) 4).toInt64 else if y = 2 then (v (68 + 3 * nn x) 6).toInt64
  else if y = 3 then (v (68 + 3 * nn x) 7).toInt64 else if y = 4 then (v (68 + 3 * nn x) 8).toInt64
  else if y = 5 then (if v (68 + 3 * nn x) 5 = 2 then (v (68 + 3 * nn x) 9).toInt64 else 8) else NONEv) else NONEv
def rLine (v : Vs) (x k : Int32) : Int32 := if inI x 3 then (if 0 ≤ k then (if v (22 + 2 * nn x) 1 ≤ k then 8 else v (22 + 2 * nn x + 1) (nn k)) else -1) else -1
def rWord (v : Vs) (x : Int32) : Int64 := if inI x 32 then (v 5 (nn x)).toInt64 else NONEv
def rCopy (v : Vs) (x y : Int32) : Int64 := if inI x 3 then (if inI y 32 then (if v (28 + 5 * (nn y / 4) + 1) (nn x) = 0 then NONEv else (v 5 (nn y)).toInt64) else -1) else -1
def rRight (v : Vs) (x y : Int32) : Int32 := if inI x 3 then (if inI y 8 then v (28 + 5 * nn y + 1) (nn x) else -1) else -1
def rOwner (v : Vs) (x : Int32) : Int32 := if inI x 8 then v (28 + 5 * nn x) 3 else -1
def rCount (v : Vs) (y : Int32) : Int32 :=
  if y = 0 then v 0 5 else if y = 1 then v 0 7 else if y = 2 then v 0 8 else if y = 3 then v 0 9 else if y = 4 then cReqL v 8 0 0 else if y = 5 then cRdyL v 3 0 0 else if y = 6 then v 0 10 else -1
section OKH
variable {np : Nat} {v : Vs}
/-- a store behind a program's end -/
theorem Ok.pset (h : Ok np v) {i o t : Nat} {x : Int32} (hi : i < 4) (h1 : 1 ≤ o) (h2 : o < 4) (ht : nv v (6 + 4 * i) 3 ≤ t) : Ok np (u2 v (6 + 4 * i + o) t x) := by
  refine ⟨h.1, fun k' j' hk' => ?_, fun i' hi' => ?_⟩
  · by_cases he : k' = 6 + 4 * i + o ∧ j' = t
    · rw [he.1, he.2]; exact okS_free (by omega)
    · rw [u2_a (by omega)]; exact h.2.1 k' j' hk'
  · have e0 : ∀ j, u2 v (6 + 4 * i + o) t x (6 + 4 * i') j = v (6 + 4 * i') j := fun j => u2_a (by omega)
    have hq := h.2.2 i' hi'
    unfold okP at hq ⊢
    have en : nv (u2 v (6 + 4 * i + o) t x) (6 + 4 * i') 3 = nv v (6 + 4 * i') 3 := by unfold nv; rw [e0]
    rw [e0, en]
    refine ⟨hq.1, fun s hs => ?_⟩
    have e : ∀ p, p < 4 → u2 v (6 + 4 * i + o) t x (6 + 4 * i' + p) s = v (6 + 4 * i' + p) s := fun p hp => u2_a (by
      by_cases hii : i' = i
      · subst hii; omega
      · omega)
    rw [e 1 (by omega), e 2 (by omega), e 3 (by omega)]
    exact hq.2 s hs
theorem fit_lt {op b : Int32} (h : fitP op b) : (op ≠ 0 → op ≠ 5 → okLt 4 b) ∧ (op = 5 → okLt 12 b) := by
  refine ⟨fun h0 h5 => ?_, fun h5 => ?_⟩
  · rcases h with h | h
    · exact absurd h.1 h0
    · have h2 := h.2
      rw [if_neg h5] at h2
      obtain ⟨i, hi, e⟩ := inI_nat (N := 4) rfl (by omega) h2
      exact ⟨i, hi, e⟩
  · rcases h with h | h
    · have := h.1; rw [h5] at this; exact absurd this (by decide)
    · have h2 := h.2
      rw [if_pos h5] at h2
      obtain ⟨i, hi, e⟩ := inI_nat (N := 12) rfl (by omega) h2
      exact ⟨i, hi, e⟩
theorem Ok.add (h : Ok np v) {i : Nat} {op a b : Int32} (hi : i < 4) (hs : nv v (6 + 4 * i) 3 < 12) (h1 : inI op 13) (h2 : inI a 4) (h3 : fitP op b) : Ok np (cAdd v i op a b) := by
  have o1 : Ok np (u2 v (6 + 4 * i + 1) (nv v (6 + 4 * i) 3) op) := h.pset hi (by omega) (by omega) (Nat.le_refl _)
  obtain ⟨v1, e1⟩ : ∃ z : Vs, z = u2 v (6 + 4 * i + 1) (nv v (6 + 4 * i) 3) op := ⟨_, rfl⟩
  rw [← e1] at o1
  have n1 : nv v1 (6 + 4 * i) 3 = nv v (6 + 4 * i) 3 := by unfold nv; rw [e1, u2_a (by omega)]
  have o2 : Ok np (u2 v1 (6 + 4 * i + 2) (nv v1 (6 + 4 * i) 3) a) := o1.pset hi (by omega) (by omega) (Nat.le_refl _)
  obtain ⟨v2, e2⟩ : ∃ z : Vs, z = u2 v1 (6 + 4 * i + 2) (nv v1 (6 + 4 * i) 3) a := ⟨_, rfl⟩
  rw [← e2] at o2
  have n2 : nv v2 (6 + 4 * i) 3 = nv v (6 + 4 * i) 3 := by rw [← n1]; unfold nv; rw [e2, u2_a (by omega)]
  have o3 : Ok np (u2 v2 (6 + 4 * i + 3) (nv v2 (6 + 4 * i) 3) b) := o2.pset hi (by omega) (by omega) (Nat.le_refl _)
  obtain ⟨v3, e3⟩ : ∃ z : Vs, z = u2 v2 (6 + 4 * i + 3) (nv v2 (6 + 4 * i) 3) b := ⟨_, rfl⟩
  rw [← e3] at o3
  have n3 : nv v3 (6 + 4 * i) 3 = nv v (6 + 4 * i) 3 := by rw [← n2]; unfold nv; rw [e3, u2_a (by omega)]
  have hf : cAdd v i op a b = u2 v3 (6 + 4 * i) 3 (v3 (6 + 4 * i) 3 + 1) := by subst e3 e2 e1; rfl
  rw [hf]
  have hv3 : v3 (6 + 4 * i) 3 = nI (nv v (6 + 4 * i) 3) := by rw [← n3]; exact (o3.psize hi).1
  have a1 : v3 (6 + 4 * i + 1) (nv v (6 + 4 * i) 3) = op := by rw [e3, u2_a (by omega), e2, u2_a (by omega), e1, u2_s]
  have a2 : v3 (6 + 4 * i + 2) (nv v (6 + 4 * i) 3) = a := by rw [e3, u2_a (by omega), e2, n1, u2_s]
  have a3 : v3 (6 + 4 * i + 3) (nv v (6 + 4 * i) 3) = b := by rw [e3, n2, u2_s]
  refine ⟨h.1, fun k' j' hk' => ?_, fun i' hi' => ?_⟩
  · by_cases he : k' = 6 + 4 * i ∧ j' = 3
    · rw [he.1, he.2]; exact okS_free (by omega)
    · rw [u2_a (by omega)]; exact o3.2.1 k' j' hk'
  · have hq := o3.2.2 i' hi'
    by_cases hii : i' = i
    · subst hii
      have er : ∀ p, 1 ≤ p → p < 4 → u2 v3 (6 + 4 * i') 3 (v3 (6 + 4 * i') 3 + 1) (6 + 4 * i' + p) = v3 (6 + 4 * i' + p) := fun p _ _ => u2_oth (by omega)
      have hz : v3 (6 + 4 * i') 3 + 1 = nI (nv v (6 + 4 * i') 3 + 1) := by rw [hv3]; exact nI_1 _
      unfold okP
      rw [u2_s, er 1 (by omega) (by omega), er 2 (by omega) (by omega), er 3 (by omega) (by omega)]
      have hn : nv (u2 v3 (6 + 4 * i') 3 (v3 (6 + 4 * i') 3 + 1)) (6 + 4 * i') 3 = nv v (6 + 4 * i') 3 + 1 := nv_of (by rw [u2_s]; exact hz) (by omega)
      rw [hn]
      refine ⟨⟨_, by omega, hz⟩, fun s hs2 => ?_⟩
      by_cases hsn : s = nv v (6 + 4 * i') 3
      · subst hsn
        rw [a1, a2, a3]
        obtain ⟨x1, hx1, ex1⟩ := inI_nat (N := 13) rfl (by omega) h1
        obtain ⟨x2, hx2, ex2⟩ := inI_nat (N := 4) rfl (by omega) h2
        exact ⟨⟨x1, hx1, ex1⟩, ⟨x2, hx2, ex2⟩, (fit_lt h3).1, (fit_lt h3).2⟩
      · exact hq.2 s (by omega)
    · have er : ∀ p, p < 4 → u2 v3 (6 + 4 * i) 3 (v3 (6 + 4 * i) 3 + 1) (6 + 4 * i' + p) = v3 (6 + 4 * i' + p) := fun p _ => u2_oth (by omega)
      have er0 : u2 v3 (6 + 4 * i) 3 (v3 (6 + 4 * i) 3 + 1) (6 + 4 * i') = v3 (6 + 4 * i') := u2_oth (by omega)
      unfold okP nv at hq ⊢
      rw [er0, er 1 (by omega), er 2 (by omega), er 3 (by omega)]
      exact hq
theorem Ok.instr (h : Ok np v) {x op a b : Int32} : Ok np (mInstr v x op a b).2 := by
  unfold mInstr
  split
  · next c1 =>
    split
    · next c2 =>
      split
      · next c3 =>
        split
        · next c4 =>
          split
          · exact h
          · next c5 =>
            have hb := (inI_nn (N := 4) rfl (by omega) c1).2
            have hp := h.psize hb
            refine h.add hb ?_ c2 c3 c4
            have : ¬ nv v (6 + 4 * nn x) 3 = 12 := fun e => c5 (by rw [hp.1, e]; rfl)
            omega
        · exact h
      · exact h
    · exact h
  · exact h
theorem Ok.serveL {j : Nat} (hj : j < 8) (h0 : 0 < np) : ∀ (r : Nat) (v : Vs), Ok np v → Ok np (cServeL j r v).2 := by
  intro r
  induction r with
  | zero => exact fun v h => h
  | succ r ih =>
    intro v h
    unfold cServeL
    dsimp only
    have h1 : Ok np (cRem v (28 + 5 * j + 3) (v (68 + 3 * nv v (28 + 5 * j + 3 + 1) 0) 0)) := h.rem (ln_page hj) h0
    split
    · exact ih _ h1
    · exact h1.grant hj (h.item (ln_page hj) 0 h0).2
theorem Ok.serve (h : Ok np v) {x : Int32} : Ok np (mServe v x).2 := by
  unfold mServe
  split
  · next c =>
    have hj := (inI_nn (N := 8) rfl (by omega) c).2
    have hs := (h.size (ln_page hj)).2.2
    by_cases h0 : 0 < nv v (28 + 5 * nn x + 3) 1
    · exact Ok.serveL hj (hs h0) _ v h
    · rw [show nv v (28 + 5 * nn x + 3) 1 = 0 by omega]; exact h
  · exact h
theorem Ok.move (h : Ok np v) {q : Nat} {x y : Int32} (hq : q < np) (hy : inI y 3) : Ok np (cMove v q x y) := by
  have hl : okLt 3 y := by
    obtain ⟨i, hi, e⟩ := inI_nat (N := 3) rfl (by omega) hy
    exact ⟨i, hi, e⟩
  have h4 : Ok np (u2 (u2 (u2 (cRem v (22 + 2 * nv v (68 + 3 * q) 4) x) (68 + 3 * q) 4 y) (68 + 3 * q + 2) (nv v (68 + 3 * q) 4) y) (68 + 3 * q + 2) (nn y) y) :=
    (((h.rem (ln_node (h.place hq).2) (by omega)).set (by omega) (okS_place hl)).set (by omega) (okS_hint hl)).set (by omega) (okS_hint hl)
  unfold cMove
  dsimp only
  split
  · exact h4.join hq
  · exact h4
theorem Ok.migrate (h : Ok np v) {x y : Int32} : Ok np (mMigrate v x y).2 := by
  unfold mMigrate
  split
  · next c1 =>
    split
    · next c2 =>
      split
      · exact h
      · split
        · exact h
        · exact h.move (inI_nn h.made.1 (by have := h.1; omega) c1).2 c2
    · exact h
  · exact h
theorem Ok.findL {q : Nat} (hq : q < np) : ∀ (r f t : Nat) (v : Vs), Ok np v → Ok np (cFindL q r f t v).2 := by
  intro r
  induction r with
  | zero => exact fun f t v h => h
  | succ r ih =>
    intro f t v h
    unfold cFindL
    split
    · exact h
    · exact ih _ _ _ (h.set (by omega) (okS_hint ⟨_, (h.place hq).2, (h.place hq).1⟩))
theorem Ok.find (h : Ok np v) {x y : Int32} : Ok np (mFind v x y).2 := by
  unfold mFind
  split
  · split
    · next c => exact Ok.findL (inI_nn h.made.1 (by have := h.1; omega) c).2 _ _ _ _ h
    · exact h
  · exact h
end OKH
/-- a page or null -/
def lqP (ad : Nat → Nat) : Option Nat → Value
  | none => .null
  | some q => .ref (ad (28 + 5 * q))
