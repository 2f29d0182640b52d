section SA
variable {b x np : Nat} {d : Int32} {v r : Vs}
theorem mRdy_u22 {a q : Nat} {z : Int32} : mRdy (u2 r 22 a z) q = u2 (mRdy r q) 22 a z := by
  unfold mRdy
  (try dsimp only)
  rw [u2_comm (k := 22) (k' := 9) (by omega), tick_u2 (k := 22) (by omega), u2_a (k := 22) (k' := 0) (by omega), u2_comm (k := 22) (k' := 10) (by omega), u2_comm (k := 22) (k' := 11) (by omega), u2_comm (k := 22) (k' := 14) (by omega)]
theorem Sim.seth (h : Sim b x d np v r) {i n m : Nat} (hi : i < np) (hn : n < 3) (hm : m < 3) : Sim b x d np (u2 v (68 + 3 * i + 2) n (nI m)) (u2 r 22 (8 * n + i) (nI m)) := by
  have hle := h.le
  exact h.up (.hint hi (by omega) hn) (h.ok.set (by omega) (okS_hint ⟨m, hm, rfl⟩)) (h.okM.hi ⟨m, hm, rfl⟩) (fun q => by omega) (fun q => by omega)
/-- a process is moved -/
theorem Sim.migrate (h : Sim b 8 d np v r) (x y : Int32) (hb : b + 1 < 2 ^ 30) : Sim (b + 1) 8 d np (mMigrate v x y).2 (mMig r x y).2 ∧ (mMigrate v x y).1 = (mMig r x y).1 := by
  have hle := h.le
  have same : Sim (b + 1) 8 d np v r := h.wide (by omega) hb
  unfold mMigrate mMig
  by_cases c1 : npP r x
  · rw [if_neg (fun q => (h.np_iff x).mp q c1), if_pos c1]; exact ⟨same, rfl⟩
  · rw [if_pos ((h.np_iff x).mpr c1), if_neg c1]
    obtain ⟨ex, hq⟩ := h.named c1
    generalize nn x = q at ex hq ⊢
    rw [h.st hq, h.pl hq]
    by_cases c2 : inI y 3
    · have c2' : ¬ outP y 2 := (io (by decide)).mp c2
      rw [if_pos c2]
      by_cases c3 : r 9 q = 4
      · rw [if_pos c3, if_pos c3]; exact ⟨same, rfl⟩
      · rw [if_neg c3, if_neg c3, if_neg c2']
        by_cases c4 : r 8 q = y
        · rw [if_pos c4, if_pos c4]; exact ⟨same, rfl⟩
        · rw [if_neg c4, if_neg c4]
          obtain ⟨ey, hy⟩ := inI_nn (N := 3) rfl (by omega) c2
          generalize nn y = m at ey hy ⊢
          obtain ⟨p1, p2, p3⟩ := h.pln hq
          have h1 := h.rem hq
          rw [h.number hq, p1, ← ex] at h1
          have h2 := h1.up (z := nI m) (.place hq) (h1.ok.set (by omega) (okS_place ⟨m, hy, rfl⟩)) (h1.okM.pl ⟨m, hy, rfl⟩) (fun _ => rfl) (fun e => by omega)
          have h3 := (h2.seth hq p2 hy).seth (n := m) hq hy hy
          rw [← ey] at h3
          unfold cMove
          try dsimp only
          rw [p1]
          have hst : u2 (u2 (u2 (cRem v (22 + 2 * nv r 8 q) x) (68 + 3 * q) 4 y) (68 + 3 * q + 2) (nv r 8 q) y) (68 + 3 * q + 2) m y (68 + 3 * q) 5 = r 9 q := by
            rw [u2_oth (by omega), u2_oth (by omega), u2_a (by omega), cRem_oth (by omega)]; exact h.st hq
          have hr9 : u2 r 8 q y 9 q = r 9 q := by rw [u2_oth (by omega)]
          have nn' : nn y = m := by rw [ey]; exact nn_nI (by omega)
          rw [nn', hst, hr9]
          by_cases c5 : r 9 q = 1
          · rw [if_pos c5, if_pos c5]
            try dsimp only
            rw [← mRdy_u22, ← mRdy_u22]
            refine ⟨?_, rfl⟩
            exact h3.join hq (by rw [u2_oth (by omega), u2_oth (by omega), u2_oth (by omega)]; exact h.h15 hq (Or.inl c5)) hb
          · rw [if_neg c5, if_neg c5]
            try dsimp only
            have oR : ∀ k, k ≠ 8 → k ≠ 22 → u2 (u2 (u2 r 8 q y) 22 (8 * nv r 8 q + q) y) 22 (8 * m + q) y k = r k := fun k q1 q2 => by
              rw [u2_oth q2, u2_oth q2, u2_oth q1]
            have oV : ∀ o, o ≠ 4 → u2 (u2 (u2 (cRem v (22 + 2 * nv r 8 q) x) (68 + 3 * q) 4 y) (68 + 3 * q + 2) (nv r 8 q) y) (68 + 3 * q + 2) m y (68 + 3 * q) o = v (68 + 3 * q) o := fun o ho => by
              rw [u2_oth (by omega), u2_oth (by omega), u2_a (by omega), cRem_oth (by omega)]
            refine ⟨(h3.show ?_ (fun _ => ?_) (fun _ => ?_) (fun _ => ?_) (fun _ => ?_)).wide (by omega) hb, rfl⟩
            · rw [oR 9 (by omega) (by omega)]; exact c5
            · rw [oR 14 (by omega) (by omega), oV 5 (by omega), oV 9 (by omega)]
              exact h.pg q hq (by omega)
            · rw [oR 13 (by omega) (by omega), oV 5 (by omega), oV 11 (by omega)]
              exact h.aw q hq (by omega)
            · rw [oR 15 (by omega) (by omega), oR 17 (by omega) (by omega), oV 10 (by omega)]
              exact h.wr q hq (by omega)
            · rw [oR 15 (by omega) (by omega), oR 9 (by omega) (by omega)]
              exact h.rs q hq (by omega)
    · have c2' : outP y 2 := Classical.byContradiction fun q => c2 ((io (by decide)).mpr q)
      rw [if_neg c2]
      by_cases c3 : r 9 q = 4
      · rw [if_pos c3]; exact ⟨same, rfl⟩
      · rw [if_neg c3, if_pos c2']; exact ⟨same, rfl⟩
/-- the nodes, other than the place, whose hint isn't the place -/
def hc (r : Vs) (q : Nat) : Nat := (if nI 0 = r 8 q ∨ r 22 (8 * 0 + q) = r 8 q then 0 else 1) + (if nI 1 = r 8 q ∨ r 22 (8 * 1 + q) = r 8 q then 0 else 1) + (if nI 2 = r 8 q ∨ r 22 (8 * 2 + q) = r 8 q then 0 else 1)
theorem hc_step {q t : Nat} (ht : t < 3) (h1 : ¬ nI t = r 8 q) (h2 : ¬ r 22 (8 * t + q) = r 8 q) : hc (u2 r 22 (8 * t + q) (r 8 q)) q + 1 ≤ hc r q := by
  have e8 : u2 r 22 (8 * t + q) (r 8 q) 8 q = r 8 q := by rw [u2_oth (by omega)]
  have ht' : ¬ (nI t = r 8 q ∨ r 22 (8 * t + q) = r 8 q) := fun c => c.elim h1 h2
  unfold hc
  rw [e8]
  rcases (show t = 0 ∨ t = 1 ∨ t = 2 by omega) with rfl | rfl | rfl
  · rw [u2_s, u2_n (by omega), u2_n (by omega), if_pos (Or.inr rfl), if_neg ht']
    omega
  · rw [u2_s, u2_n (by omega), u2_n (by omega), if_neg ht', if_pos (c := nI 1 = r 8 q ∨ r 8 q = r 8 q) (Or.inr rfl)]
    omega
  · rw [u2_s, u2_n (by omega), u2_n (by omega), if_neg ht', if_pos (c := nI 2 = r 8 q ∨ r 8 q = r 8 q) (Or.inr rfl)]
    omega
theorem hc_le (h : Sim b 8 d np v r) {q : Nat} (hq : q < np) : hc r q ≤ 2 := by
  obtain ⟨p1, p2, p3⟩ := h.pln hq
  unfold hc
  generalize nv r 8 q = p at p2 p3
  rw [p3]
  rcases (show p = 0 ∨ p = 1 ∨ p = 2 by omega) with rfl | rfl | rfl
  · rw [if_pos (c := nI 0 = nI 0 ∨ r 22 (8 * 0 + q) = nI 0) (Or.inl rfl)]; split <;> split <;> omega
  · rw [if_pos (c := nI 1 = nI 1 ∨ r 22 (8 * 1 + q) = nI 1) (Or.inl rfl)]; split <;> split <;> omega
  · rw [if_pos (c := nI 2 = nI 2 ∨ r 22 (8 * 2 + q) = nI 2) (Or.inl rfl)]; split <;> split <;> omega
theorem Sim.findL {q : Nat} (hq : q < np) : ∀ (k f t : Nat) (v r : Vs), t < 3 → (nI t = r 8 q ∨ hc r q + 1 ≤ k) → Sim b 8 d np v r →
    Sim b 8 d np (cFindL q k f t v).2 (mFndL q (k + 6) f t r).2 ∧ (cFindL q k f t v).1 = (mFndL q (k + 6) f t r).1 := by
  intro k
  induction k with
  | zero =>
    intro f t v r ht hc' h
    have e : nI t = r 8 q := by
      rcases hc' with e | e
      · exact e
      · omega
    simp only [cFindL, mFndL]
    rw [if_pos e]
    exact ⟨h, rfl⟩
  | succ k ih =>
    intro f t v r ht hc' h
    have hle := h.le
    rw [show k + 1 + 6 = k + 6 + 1 by omega]
    simp only [cFindL, mFndL]
    have hp := h.pl hq
    rw [hp]
    by_cases c : nI t = r 8 q
    · rw [if_pos c, if_pos c]; exact ⟨h, rfl⟩
    · rw [if_neg c, if_neg c]
      have hh : v (68 + 3 * q + 2) t = r 22 (8 * t + q) := h.D _ _ _ _ (.hint hq (by omega) ht)
      have hn : nv v (68 + 3 * q + 2) t = nv r 22 (8 * t + q) := by unfold nv; rw [hh]
      rw [hn]
      obtain ⟨p1, p2, p3⟩ := h.pln hq
      have h1 := h.seth (n := t) hq ht p2
      rw [← p3] at h1
      have o22 := h.okM.c22 (8 * t + q)
      refine ih (f + 1) _ _ _ o22.2 ?_ h1
      rw [u2_oth (k := 22) (k' := 8) (by omega)]
      by_cases c2 : r 22 (8 * t + q) = r 8 q
      · left
        rw [← o22.1]; exact c2
      · right
        have := hc_step (r := r) (q := q) (t := t) ht c c2
        rcases hc' with e | e
        · exact absurd e c
        · omega
theorem Sim.find (h : Sim b 8 d np v r) (x y : Int32) : Sim b 8 d np (mFind v x y).2 (mFnd r x y).2 ∧ (mFind v x y).1 = (mFnd r x y).1 := by
  unfold mFind mFnd
  by_cases c1 : inI x 3
  · rw [if_pos c1, if_neg ((io (by decide)).mp c1)]
    by_cases c2 : npP r y
    · rw [if_neg (fun q => (h.np_iff y).mp q c2), if_pos c2]; exact ⟨h, rfl⟩
    · rw [if_pos ((h.np_iff y).mpr c2), if_neg c2]
      obtain ⟨ey, hq⟩ := h.named c2
      obtain ⟨ex, hx⟩ := inI_nn (N := 3) rfl (by omega) c1
      exact Sim.findL hq 3 0 _ v r hx (Or.inr (by have := hc_le h hq; omega)) h
  · rw [if_neg c1, if_pos (Classical.byContradiction fun q => c1 ((io (by decide)).mpr q))]; exact ⟨h, rfl⟩
theorem Sim.spawn (h : Sim b 8 d np v r) (x y : Int32) (hb : b + 1 < 2 ^ 30) : Sim (b + 1) 8 d (mSpawn np v x y).2.1 (mSpawn np v x y).2.2 (mSpw r x y).2 ∧ (mSpawn np v x y).1 = (mSpw r x y).1 := by
  have hle := h.le
  have same : Sim (b + 1) 8 d np v r := h.wide (by omega) hb
  unfold mSpawn mSpw
  by_cases c1 : inI x 4
  · rw [if_pos c1, if_neg ((io (by decide)).mp c1)]
    by_cases c2 : inI y 3
    · rw [if_pos c2, if_neg ((io (by decide)).mp c2)]
      have hm : v 0 5 = r 0 14 := h.D _ _ _ _ .made
      have hn : v 0 5 = nI np := h.ok.made.1
      by_cases c3 : v 0 5 = 8
      · have c3' : r 0 14 = 8 := by rw [← hm]; exact c3
        have e : mMake r x y = (-1, r) := by unfold mMake; rw [if_pos c3']
        have hneg : ¬ (0 : Int32) ≤ -1 := by decide
        rw [if_pos c3, e, if_neg hneg]; exact ⟨same, rfl⟩
      · have c3' : ¬ r 0 14 = 8 := by rw [← hm]; exact c3
        have e : mMake r x y = (r 0 14, mMk0 r x y) := by unfold mMake; rw [if_neg c3']
        have hpos : (0 : Int32) ≤ r 0 14 := by rw [← hm, hn]; exact nI_pos' (by omega)
        rw [if_neg c3, e, if_pos hpos]
        obtain ⟨ex, hx⟩ := inI_nn (N := 4) rfl (by omega) c1
        obtain ⟨ey, hy⟩ := inI_nn (N := 3) rfl (by omega) c2
        have := h.make (h.ok.lt8 c3) hx hy hb
        rw [← ex, ← ey] at this
        exact ⟨this, by rw [← hm]; exact hn.symm⟩
    · rw [if_neg c2, if_pos (Classical.byContradiction fun q => c2 ((io (by decide)).mpr q))]; exact ⟨same, rfl⟩
  · rw [if_neg c1, if_pos (Classical.byContradiction fun q => c1 ((io (by decide)).mpr q))]; exact ⟨same, rfl⟩
theorem Sim.step (h : Sim b 8 d np v r) (x : Int32) (hb : b + 10 < 2 ^ 30) : Sim (b + 10) 8 d (mStep np v x).2.1 (mStep np v x).2.2 (mStp r x).2 ∧ (mStep np v x).1 = (mStp r x).1 := by
  have hle := h.le
  have same : Sim (b + 10) 8 d np v r := h.wide (by omega) hb
  unfold mStep mStp
  by_cases c1 : inI x 3
  · rw [if_pos c1, if_neg ((io (by decide)).mp c1)]
    obtain ⟨ex, hx⟩ := inI_nn (N := 3) rfl (by omega) c1
    have hst := h.stood (n := nn x) (t := 0) hx (by omega)
    rw [← ex] at hst
    have hst : mSt r x 0 = _ := hst
    have hL := h.nd (nn x) hx
    obtain ⟨sz, -⟩ := h.ok.size (ln_node hx)
    by_cases c2 : v (22 + 2 * nn x) 1 = 0
    · have e0 : nv v (22 + 2 * nn x) 1 = 0 := nv_of (n := 0) c2 (by omega)
      have el : ln v (22 + 2 * nn x) = [] := List.length_eq_zero_iff.mp (by rw [ln_len]; exact e0)
      rw [el] at hst
      have hst : mSt r x 0 = 8 := hst
      rw [if_pos c2, if_pos hst]; exact ⟨same, rfl⟩
    · have e0 : 0 < nv v (22 + 2 * nn x) 1 := by
        rcases Nat.eq_zero_or_pos (nv v (22 + 2 * nn x) 1) with e | e
        · exact absurd (by rw [sz, e]; rfl) c2
        · exact e
      have hg := ln_get (v := v) (k := 22 + 2 * nn x) (t := 0) e0
      rw [hg] at hst
      have hst : mSt r x 0 = nI (nv v (22 + 2 * nn x + 1) 0) := hst
      have hm := (hL.2 _).mp (List.mem_of_getElem? hg)
      generalize nv v (22 + 2 * nn x + 1) 0 = i at hst hm ⊢
      have h8 : ¬ nI i = 8 := fun e => by have := (nI_eq (a := i) (b := 8) (by omega) (by omega)).mp e; omega
      rw [if_neg c2, hst, if_neg h8, nn_nI (n := i) (by omega)]
      obtain ⟨q1, q2, q3⟩ := h.run hm.1 hm.2.2.1 hb
      refine ⟨q1, ?_⟩
      try dsimp only
      rw [q1.st q3, q1.number q3]
      exact q2.symm
  · rw [if_neg c1, if_pos (Classical.byContradiction fun q => c1 ((io (by decide)).mpr q))]; exact ⟨same, rfl⟩
end SA
