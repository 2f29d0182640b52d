section SZ
variable {b x np : Nat} {d : Int32} {v r : Vs}
theorem Sim.grE (h : Sim b 8 1 np v r) {j q n : Nat} {y : Int32} (hj : j < 8) (hn : n < 3) (hq : q < np) (h15 : r 15 q = 0) (hs : r 9 q = 2) (hw : r 17 q = if v (68 + 3 * q) 10 = 2 then 1 else 0) (hb : b + 2 < 2 ^ 30) : Sim (b + 2) 8 0 np (cGrE v j y n q) (mSrv2 r (nI j) q n y) := by
  have fin : ∀ V, Sim b 8 1 np V (mShare r y n j (r 17 q)) → Sim (b + 2) 8 0 np (cJoin (cUse V j n) q) (mSrv2 r (nI j) q n y) := fun V hV => by
    have h1 := (hV.use hj hn (by omega)).grR
    have e9 : ∀ k, k ≠ 0 → k ≠ 19 → k ≠ 20 → k ≠ 21 → u2 (u2 (mTick (mShare r y n j (r 17 q))) 20 (8 * n + j) (mTick (mShare r y n j (r 17 q)) 0 23)) 0 27 (u2 (mTick (mShare r y n j (r 17 q))) 20 (8 * n + j) (mTick (mShare r y n j (r 17 q)) 0 23) 0 27 + 1) k = r k := fun k q0 q1 q2 q3 => by
      rw [u2_oth q0, u2_oth q2, tick_oth q0, share_oth ⟨q0, q1, q3⟩]
    have h2 := (h1.hide (i := q) (by rw [e9 9 (by omega) (by omega) (by omega) (by omega), hs]; decide)).join hq (by rw [e9 15 (by omega) (by omega) (by omega) (by omega)]; exact h15) (by omega)
    unfold mSrv2
    try dsimp only
    rw [nn_nI (n := j) (by omega)]
    exact h2
  unfold cGrE
  by_cases c : v (68 + 3 * q) 10 = 2
  · rw [if_pos c] at hw ⊢
    refine fin _ ?_
    exact h.gw hj hn (by rw [hw]; decide)
  · rw [if_neg c] at hw ⊢
    refine fin _ ?_
    rw [hw]
    exact h.gr' hj hn
/-- what the reference does with the request of q, that it has taken -/
def mGr (r : Vs) (j q : Nat) : Vs :=
  if r 19 (8 * nv r 8 q + j) = 0 then
    (if nI (mHeld (u2 r 0 24 (r 0 24 + 2)) (nv r 8 q)) = 3 then mSrv2 (mGiv (u2 r 0 24 (r 0 24 + 2)) (r 8 q) (nv r 8 q)) (nI j) q (nv r 8 q) (r 8 q) else mSrv2 (u2 r 0 24 (r 0 24 + 2)) (nI j) q (nv r 8 q) (r 8 q))
  else mSrv2 (u2 r 0 24 (r 0 24 + 1)) (nI j) q (nv r 8 q) (r 8 q)
theorem Sim.grant (h : Sim b 8 0 np v r) {j q : Nat} (hj : j < 8) (hq : q < np) (h15 : r 15 q = 0) (hs : r 9 q = 2) (hw : r 17 q = if v (68 + 3 * q) 10 = 2 then 1 else 0) (hb : b + 2 < 2 ^ 30) : Sim (b + 2) 8 0 np (cGrant v j q) (mGr r j q) := by
  obtain ⟨p1, p2, p3⟩ := h.pln hq
  have hp := h.pl hq
  have h1 : Sim b 8 1 np (u2 v 0 10 (v 0 10 + 1)) r := h.grV
  have hm := h1.D _ _ _ _ .msg
  unfold cGrant mGr
  try dsimp only
  rw [p1, hp, u2_oth (k := 0) (k' := 28 + 5 * j + 1) (by omega), u2_oth (k := 0) (k' := 28 + 5 * j + 1) (by omega), h.right hj p2, u2_s, hm]
  by_cases c : r 19 (8 * nv r 8 q + j) = 0
  · rw [if_pos c, if_pos c, u2_u2, Int32.add_assoc]
    have h2 := h1.setm (z := r 0 24 + (1 + 1))
    have h3 := h2.room (n := nv r 8 q) (y := r 8 q) p2
    have e2 : (1 : Int32) + 1 = 2 := by decide
    have ro := room_oth h2 (n := nv r 8 q) (y := r 8 q) (k := 68 + 3 * q) p2 (by omega)
    rw [e2] at h3 ro ⊢
    have hf : ∀ R, Sim b 8 1 np (cRoom (u2 (u2 v 0 10 (v 0 10 + 1)) 0 7 (r 0 24 + 2)) (r 8 q) (nv r 8 q)) R → (∀ k, k ≠ 0 → k ≠ 19 → k ≠ 21 → R k = r k) → Sim (b + 2) 8 0 np (cGrE (cRoom (u2 (u2 v 0 10 (v 0 10 + 1)) 0 7 (r 0 24 + 2)) (r 8 q) (nv r 8 q)) j (r 8 q) (nv r 8 q) q) (mSrv2 R (nI j) q (nv r 8 q) (r 8 q)) := fun R hR e => by
      refine hR.grE hj p2 hq (by rw [e 15 (by omega) (by omega) (by omega)]; exact h15) (by rw [e 9 (by omega) (by omega) (by omega)]; exact hs) ?_ hb
      rw [e 17 (by omega) (by omega) (by omega), ro, u2_oth (by omega), u2_oth (by omega)]
      exact hw
    by_cases c3 : nI (mHeld (u2 r 0 24 (r 0 24 + 2)) (nv r 8 q)) = 3
    · rw [if_pos c3] at h3 ⊢
      refine hf _ h3 (fun k q1 q2 q3 => ?_)
      rw [giv_oth ⟨q1, q2, q3⟩, u2_oth q1]
    · rw [if_neg c3] at h3 ⊢
      exact hf _ h3 (fun k q1 _ _ => u2_oth q1)
  · rw [if_neg c, if_neg c]
    refine (h1.setm (z := r 0 24 + 1)).grE hj p2 hq (by rw [u2_oth (by omega)]; exact h15) (by rw [u2_oth (by omega)]; exact hs) ?_ hb
    rw [u2_oth (by omega), u2_oth (by omega), u2_oth (by omega)]
    exact hw
theorem mRem_len : ∀ k, mRem r k = ((List.range k).filter (fun i => decide (r 15 i ≠ 0))).length := by
  intro k
  induction k with
  | zero => rfl
  | succ k ih =>
    simp only [mRem]
    rw [List.range_succ, List.filter_append, List.length_append, ih]
    by_cases c : r 15 k = 0
    · rw [if_pos c]; simp [c]
    · rw [if_neg c]; simp [c]
theorem mSrv1_eq {j q : Nat} (hj : j < 8) (hq : q < 8) (e : mAsk r (nI j) = q) : mSrv1 r (nI j) = (nI q, mGr (u2 r 15 q 0) j q) := by
  have h8 : ¬ nI q = 8 := fun e => by have := (nI_eq (a := q) (b := 8) (by omega) (by omega)).mp e; omega
  unfold mSrv1 mGr
  try dsimp only
  rw [e, if_neg h8, nn_nI (n := j) (by omega)]
  by_cases c : u2 r 15 q 0 19 (8 * nv (u2 r 15 q 0) 8 q + j) = 0
  · rw [if_pos c, if_pos c]
    split <;> rfl
  · rw [if_neg c, if_neg c]
/-- SERVING -/
theorem Sim.serveL {j : Nat} (hj : j < 8) (hb : b + 2 < 2 ^ 30) : ∀ (k m : Nat) (v r : Vs), (ln v (28 + 5 * j + 3)).length = k → k ≤ m → Sim b 8 0 np v r →
    Sim (b + 2) 8 0 np (cServeL j k v).2 (mSrv1 (mDrop (nI j) m r) (nI j)).2 ∧ (cServeL j k v).1 = (mSrv1 (mDrop (nI j) m r) (nI j)).1 := by
  intro k
  induction k with
  | zero =>
    intro m v r hk hm h
    rcases h.asked hj with ⟨e1, e2⟩ | ⟨l, e⟩
    · have h8 : nI 8 = 8 := rfl
      have ed : mDrop (nI j) m r = r := by
        cases m with
        | zero => rfl
        | succ m => simp only [mDrop]; rw [e2, if_pos h8]
      have es : mSrv1 r (nI j) = (-3, r) := by
        unfold mSrv1
        try dsimp only
        rw [e2, if_pos h8]
      rw [ed, es]
      exact ⟨h.wide (by omega) hb, rfl⟩
    · rw [e] at hk; simp at hk
  | succ k ih =>
    intro m v r hk hm h
    have hle := h.le
    rcases h.asked hj with ⟨e1, e2⟩ | ⟨l, e⟩
    · rw [e1] at hk; simp at hk
    · have hL := h.rq j hj
      have hin := (hL.2 (mAsk r (nI j))).mp (by rw [e]; exact List.mem_cons_self)
      generalize ha : mAsk r (nI j) = a at *
      have h8 : ¬ nI a = 8 := fun e => by have := (nI_eq (a := a) (b := 8) (by omega) (by omega)).mp e; omega
      obtain ⟨m, rfl⟩ : ∃ m', m = m' + 1 := ⟨m - 1, by omega⟩
      have hsz : 0 < nv v (28 + 5 * j + 3) 1 := by rw [← ln_len, hk]; omega
      have hhead : nv v (28 + 5 * j + 3 + 1) 0 = a := by
        have := ln_get (v := v) (k := 28 + 5 * j + 3) (t := 0) hsz
        rw [e] at this
        exact (Option.some.inj this).symm
      simp only [cServeL, mDrop]
      rw [hhead, h.number hin.1, ha, if_neg h8]
      have h1 := h.drop hj hin.1 (fun _ => hin.2.2)
      have hst : cRem v (28 + 5 * j + 3) (nI a) (68 + 3 * a) 5 = r 9 a := by rw [cRem_oth (by omega)]; exact h.st hin.1
      rw [hst]
      by_cases c4 : r 9 a = 4
      · rw [if_pos c4, if_pos c4]
        refine ih m _ _ ?_ (by omega) h1
        rw [cRem_ln h.ok (ln_page hj) (by omega) (by omega), e]
        have hnd := hL.nodup
        rw [e] at hnd hk
        have hn := (List.nodup_cons.mp hnd).1
        rw [List.filter_cons_of_neg (by simp)]
        rw [List.filter_eq_self.mpr (fun i hi => by simp; exact fun q => hn (by rw [← q]; exact hi))]
        simpa using hk
      · rw [if_neg c4, if_neg c4]
        rw [mSrv1_eq hj (by omega) ha]
        have hs : r 9 a = 2 := by
          rcases h.rs a hin.1 (by omega) hin.2.1 with q | q
          · exact q
          · exact absurd q c4
        have hw := h.wr a hin.1 (by omega) hin.2.1
        have hg := h1.grant (q := a) hj hin.1 (by rw [u2_s]) (by rw [u2_oth (by omega)]; exact hs) (by rw [u2_oth (by omega), cRem_oth (by omega)]; exact hw) hb
        exact ⟨hg, hg.number hin.1⟩
theorem Sim.serve (h : Sim b 8 0 np v r) (x : Int32) (hb : b + 2 < 2 ^ 30) : Sim (b + 2) 8 0 np (mServe v x).2 (mSrv r x).2 ∧ (mServe v x).1 = (mSrv r x).1 := by
  unfold mServe mSrv
  by_cases c : inI x 8
  · have c' : ¬ outP x 7 := (io (by decide)).mp c
    rw [if_pos c, if_neg c']
    obtain ⟨e, hx⟩ := inI_nn (N := 8) rfl (by omega) c
    have hL := h.rq (nn x) hx
    have := Sim.serveL (np := np) hx hb (nv v (28 + 5 * nn x + 3) 1) (mRem r 8) v r ln_len (by
      rw [← ln_len, mRem_len]
      refine nodup_sub _ hL.nodup (fun i hi => ?_)
      have q := (hL.2 i).mp hi
      have := h.le
      rw [List.mem_filter, List.mem_range]
      exact ⟨by omega, by simpa using q.2.1⟩) h
    rw [← e] at this
    exact this
  · have c' : outP x 7 := Classical.byContradiction fun q => c ((io (by decide)).mpr q)
    rw [if_neg c, if_pos c']
    exact ⟨h.wide (by omega) hb, rfl⟩
end SZ
