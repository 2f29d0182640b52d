section SY
variable {b x np : Nat} {d : Int32} {v r : Vs}
/-- WRITE: the others lose their rights -/
theorem Sim.gwl {j : Nat} {y w M : Int32} (hj : j < 8) (hw : ¬ w = 0) : ∀ (k i : Nat) (lost : Int32) (v r : Vs), i + k = 3 → Sim b x d np (u2 v 0 7 (M + lost)) r →
    Sim b x d np (u2 (cGWL j y k i lost v).2 0 7 (M + (cGWL j y k i lost v).1)) (mShL y w j k i r) := by
  intro k
  induction k with
  | zero => intro i lost v r _ h; exact h
  | succ k ih =>
    intro i lost v r hi h
    simp only [cGWL, mShL]
    by_cases c1 : nI i = y
    · rw [if_pos c1, if_pos c1]
      exact ih (i + 1) lost v r (by omega) h
    · rw [if_neg c1, if_neg c1]
      have hr := h.right (j := j) (n := i) hj (by omega)
      rw [u2_a (by omega)] at hr
      rw [hr]
      by_cases c2 : r 19 (8 * i + j) = 0
      · rw [if_pos c2, if_pos c2]
        exact ih (i + 1) lost v r (by omega) h
      · rw [if_neg c2, if_neg c2, if_neg hw]
        have hm := h.D _ _ _ _ .msg
        rw [u2_s] at hm
        have h1 := (h.setm (z := r 0 24 + 1)).setg (j := j) (n := i) (z := 0) hj (by omega) (Or.inl rfl)
        rw [u2_u2, u2_comm (k := 0) (k' := 28 + 5 * j + 1) (by omega)] at h1
        have e : r 0 24 + 1 = M + (lost + 1) := by rw [← hm, Int32.add_assoc]
        refine ih (i + 1) (lost + 1) _ _ (by omega) ?_
        rw [← e]
        exact h1
/-- READ: one that has WRITE has READ then -/
theorem Sim.grl {j : Nat} {y : Int32} (hj : j < 8) : ∀ (k i : Nat) (v r : Vs), i + k = 3 → Sim b x d np v r → Sim b x d np (cGRL j y k i v) (mShL y 0 j k i r) := by
  intro k
  induction k with
  | zero => intro i v r _ h; exact h
  | succ k ih =>
    intro i v r hi h
    simp only [cGRL, mShL]
    by_cases c1 : nI i = y
    · rw [if_pos c1, if_pos c1]
      exact ih (i + 1) v r (by omega) h
    · rw [if_neg c1, if_neg c1]
      have hr := h.right (j := j) (n := i) hj (by omega)
      have hv := h.rv j hj i (by omega)
      rw [hr] at hv ⊢
      rw [if_pos trivial]
      rcases hv with e | e | e
      · have n2 : ¬ r 19 (8 * i + j) = 2 := by rw [e]; decide
        rw [if_neg n2, if_pos e]
        exact ih (i + 1) v r (by omega) h
      · have n2 : ¬ r 19 (8 * i + j) = 2 := by rw [e]; decide
        have n3 : ¬ r 19 (8 * i + j) = 0 := by rw [e]; decide
        rw [if_neg n2, if_neg n3, u2_id e]
        exact ih (i + 1) v r (by omega) h
      · have n3 : ¬ r 19 (8 * i + j) = 0 := by rw [e]; decide
        rw [if_pos e, if_neg n3]
        exact ih (i + 1) _ _ (by omega) (h.setg hj (by omega) (Or.inr (Or.inl rfl)))
theorem Sim.gre {j n : Nat} {y : Int32} (h : Sim b x d np v r) (hj : j < 8) (hn : n < 3) : Sim b x d np (cGRE v j y n) (mSh1 r y n j 0) := by
  unfold cGRE mSh1
  have n0 : (0 : Int32) = 0 := rfl
  rw [if_pos n0, h.right hj hn]
  have ho := h.D _ _ _ _ (.own hj)
  by_cases c : r 19 (8 * n + j) = 0
  · rw [if_pos c, if_pos c]
    try dsimp only
    unfold mSh2
    rw [if_pos n0, u2_oth (k := 28 + 5 * j + 1) (k' := 28 + 5 * j) (by omega), u2_oth (k := 19) (k' := 21) (by omega), ho]
    have h1 := h.setg (z := 1) hj hn (Or.inr (Or.inl rfl))
    by_cases c3 : r 21 j = 3
    · rw [if_pos c3, if_pos c3]; exact h1.seto hj
    · rw [if_neg c3, if_neg c3]; exact h1
  · rw [if_neg c, if_neg c]
    unfold mSh2
    rw [if_pos n0, ho]
    by_cases c3 : r 21 j = 3
    · rw [if_pos c3, if_pos c3]; exact h.seto hj
    · rw [if_neg c3, if_neg c3]; exact h
/-- WRITE, as a whole -/
theorem Sim.gw {j n : Nat} {y w : Int32} (h : Sim b x d np v r) (hj : j < 8) (hn : n < 3) (hw : ¬ w = 0) : Sim b x d np (u2 (cGW v j y n).2 0 7 (v 0 7 + (cGW v j y n).1)) (mShare r y n j w) := by
  have h0 : Sim b x d np (u2 v 0 7 (v 0 7 + 0)) r := by
    rw [u2_id (by rw [Int32.add_zero])]; exact h
  have h1 := Sim.gwl (M := v 0 7) (y := y) hj hw 3 0 0 v r (by omega) h0
  have h2 := (h1.setg (j := j) (n := n) (z := 2) hj hn (Or.inr (Or.inr rfl))).seto (j := j) (z := y) hj
  rw [u2_comm (k := 0) (k' := 28 + 5 * j + 1) (by omega), u2_comm (k := 0) (k' := 28 + 5 * j) (by omega)] at h2
  unfold cGW mShare mSh1 mSh2
  rw [if_neg hw, if_neg hw]
  exact h2
theorem Sim.gr' {j n : Nat} {y : Int32} (h : Sim b x d np v r) (hj : j < 8) (hn : n < 3) : Sim b x d np (cGR v j y n) (mShare r y n j 0) := by
  unfold cGR mShare
  exact (Sim.grl hj 3 0 v r (by omega) h).gre hj hn
theorem Sim.grV (h : Sim b x d np v r) : Sim b x (d + 1) np (u2 v 0 10 (v 0 10 + 1)) r := by
  have o : ∀ k, k ≠ 0 → u2 v 0 10 (v 0 10 + 1) k = v k := fun k q => u2_oth q
  refine Sim.intro ⟨h.ok.c0 (by omega), h.okM, fun k j k' j' H => ?_, ?_, fun n hn => ?_, fun j hj => ?_, h.tm, h.t10, h.t15, h.t20, ?_, ?_, ?_, ?_, ?_, ?_, h.rs, h.zz, ?_, h.rx, h.hB⟩
  · have := H.f3 10 (by omega)
    rw [u2_a (by omega)]; exact h.D _ _ _ _ H
  · rw [u2_s, h.gr, Int32.add_assoc]
  · rw [ln_congr (v := v) (by rw [o _ (by omega)]) (o _ (by omega))]; exact h.nd n hn
  · rw [ln_congr (v := v) (by rw [o _ (by omega)]) (o _ (by omega))]; exact h.rq j hj
  · rw [nv_u2a (by omega), u2_a (by omega)]; exact h.us
  · intro n hn j hj; rw [nv_u2a (by omega), nv_u2a (by omega), u2_a (by omega)]; exact h.uv n hn j hj
  · intro n hn j hj j' hj'; rw [nv_u2a (by omega), nv_u2a (by omega)]; exact h.uo n hn j hj j' hj'
  · intro i hi hx; rw [o _ (by omega)]; exact h.pg i hi hx
  · intro i hi hx; rw [o _ (by omega)]; exact h.aw i hi hx
  · intro i hi hx; rw [o _ (by omega)]; exact h.wr i hi hx
  · intro j hj n hn; rw [o _ (by omega)]; exact h.rv j hj n hn
theorem Sim.grR (h : Sim b x 1 np v r) : Sim b x 0 np v (u2 r 0 27 (r 0 27 + 1)) := by
  have o : ∀ k, k ≠ 0 → u2 r 0 27 (r 0 27 + 1) k = r k := fun k q => u2_oth q
  have nR : ∀ k, k ≠ 0 → ∀ q, nv (u2 r 0 27 (r 0 27 + 1)) k q = nv r k q := fun k hk q => nv_u2a (by omega)
  have n23 : nv (u2 r 0 27 (r 0 27 + 1)) 0 23 = nv r 0 23 := nv_u2a (by omega)
  refine Sim.intro ⟨h.ok, h.okM.fr (by omega), fun k j k' j' H => ?_, ?_, fun n hn => ?_, fun j hj => ?_, ?_, ?_, ?_, ?_, h.us, h.uv, ?_, ?_, ?_, ?_, ?_, ?_, h.rv, ?_, h.hB⟩
  · have := H.g2 27 (by omega)
    rw [u2_a (by omega)]; exact h.D _ _ _ _ H
  · rw [u2_s, h.gr, Int32.add_zero]
  · rw [o 9 (by omega), o 8 (by omega)]
    exact (h.nd n hn).congr (fun _ _ => Iff.rfl) (fun i _ _ => nR 10 (by omega) i)
  · rw [o 15 (by omega), o 16 (by omega)]
    exact (h.rq j hj).congr (fun _ _ => Iff.rfl) (fun i _ _ => nR 15 (by omega) i)
  · rw [n23, u2_a (by omega)]; exact h.tm
  · intro q hq; rw [nR 10 (by omega), o 10 (by omega), n23]; exact h.t10 q hq
  · intro q hq; rw [nR 15 (by omega), o 15 (by omega), n23]; exact h.t15 q hq
  · intro q hq; rw [nR 20 (by omega), o 20 (by omega), n23]; exact h.t20 q hq
  · intro n hn j hj j' hj'; rw [nR 20 (by omega), nR 20 (by omega)]; exact h.uo n hn j hj j' hj'
  · intro i hi hx; rw [o 14 (by omega)]; exact h.pg i hi hx
  · intro i hi hx; rw [o 13 (by omega)]; exact h.aw i hi hx
  · intro i hi hx; rw [o 15 (by omega), o 17 (by omega)]; exact h.wr i hi hx
  · intro i hi hx; rw [o 15 (by omega), o 9 (by omega)]; exact h.rs i hi hx
  · intro i hi h8; rw [o 6 (by omega), o 7 (by omega), o 12 (by omega), o 15 (by omega), o 9 (by omega), o 11 (by omega)]; exact h.zz i hi h8
  · intro i hi; rw [o 15 (by omega), o 16 (by omega)]; exact h.rx i hi
/-- what sharing and giving up leave -/
theorem shL_oth {y w : Int32} {g k : Nat} (hk : k ≠ 0 ∧ k ≠ 19) : ∀ (n m : Nat) (r : Vs), mShL y w g n m r k = r k := by
  intro n
  induction n with
  | zero => intro m r; rfl
  | succ n ih =>
    intro m r
    simp only [mShL]
    by_cases c1 : nI m = y
    · rw [if_pos c1, ih]
    · rw [if_neg c1]
      by_cases c2 : r 19 (8 * m + g) = 0
      · rw [if_pos c2, ih]
      · rw [if_neg c2]
        by_cases c3 : w = 0
        · rw [if_pos c3, ih, u2_oth (by omega)]
        · rw [if_neg c3, ih, u2_oth (by omega), u2_oth (by omega)]
theorem share_oth {y w : Int32} {n g k : Nat} (hk : k ≠ 0 ∧ k ≠ 19 ∧ k ≠ 21) : mShare r y n g w k = r k := by
  have e := shL_oth (y := y) (w := w) (g := g) (k := k) (by omega) 3 0 r
  unfold mShare mSh1 mSh2
  by_cases c1 : w = 0
  · rw [if_pos c1]
    split
    · split
      · rw [u2_oth (by omega), u2_oth (by omega), e]
      · rw [u2_oth (by omega), e]
    · split
      · rw [u2_oth (by omega), e]
      · rw [e]
  · rw [if_neg c1, if_neg c1, u2_oth (by omega), u2_oth (by omega), e]
theorem low_oth {o k : Nat} (hk : k ≠ 21) : mLow r o k = r k := by
  unfold mLow
  try dsimp only
  repeat' split
  all_goals (repeat (first | rfl | rw [u2_oth (by omega)]))
theorem giv_oth {y : Int32} {n k : Nat} (hk : k ≠ 0 ∧ k ≠ 19 ∧ k ≠ 21) : mGiv r y n k = r k := by
  unfold mGiv
  try dsimp only
  split
  · rfl
  · split
    · unfold mGivE
      split
      · rw [u2_oth (by omega), low_oth (by omega), u2_oth (by omega), u2_oth (by omega), u2_oth (by omega)]
      · rw [low_oth (by omega), u2_oth (by omega), u2_oth (by omega), u2_oth (by omega)]
    · rw [u2_oth (by omega), u2_oth (by omega)]
theorem give_oth {j n k : Nat} {y : Int32} (hk : 68 ≤ k) (hj : j < 8) : cGive v j y n k = v k := by
  unfold cGive
  try dsimp only
  split
  · split
    · rw [u2_oth (by omega), u2_oth (by omega), u2_oth (by omega), u2_oth (by omega)]
    · rw [u2_oth (by omega), u2_oth (by omega), u2_oth (by omega), u2_oth (by omega)]
  · rw [u2_oth (by omega), u2_oth (by omega)]
theorem room_oth (h : Sim b x d np v r) {n k : Nat} {y : Int32} (hn : n < 3) (hk : 68 ≤ k) : cRoom v y n k = v k := by
  have hs := old_spec h hn 8 0 0 none 8 (by omega) rfl
  unfold cRoom
  generalize hc : cOld v n 8 0 0 none = c at hs
  obtain ⟨c1, c2⟩ := c
  cases c2 with
  | none => simp only [cRoomE]
  | some q =>
    obtain ⟨e2, hq⟩ := (show mOldL r n 8 0 8 = q ∧ q < 8 from hs.2)
    simp only [cRoomE]
    split
    · exact give_oth hk hq
    · rfl
end SY
