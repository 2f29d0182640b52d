section SP
variable {b x np : Nat} {d : Int32} {v r : Vs}
theorem Sim.number (h : Sim b x d np v r) {i : Nat} (hi : i < np) : v (68 + 3 * i) 0 = nI i := (h.ok.number hi).1
theorem Sim.st (h : Sim b x d np v r) {i : Nat} (hi : i < np) : v (68 + 3 * i) 5 = r 9 i := h.D _ _ _ _ (.state hi)
theorem Sim.pl (h : Sim b x d np v r) {i : Nat} (hi : i < np) : v (68 + 3 * i) 4 = r 8 i := h.D _ _ _ _ (.place hi)
theorem Sim.pln (h : Sim b x d np v r) {i : Nat} (hi : i < np) : nv v (68 + 3 * i) 4 = nv r 8 i ∧ nv r 8 i < 3 ∧ r 8 i = nI (nv r 8 i) := by
  have e := h.pl hi
  have o := h.okM.c8 i
  refine ⟨by unfold nv; rw [e], o.2, o.1⟩
/-- one that isn't ready goes out of view -/
theorem Sim.hide (h : Sim b 8 d np v r) {i : Nat} (hn : r 9 i ≠ 1) : Sim b i d np v r := by
  have hle := h.le
  refine Sim.intro ⟨h.ok, h.okM, h.D, h.gr, fun n hn' => ?_, h.rq, h.tm, h.t10, h.t15, h.t20, h.us, h.uv, h.uo, fun k hk _ => h.pg k hk (by omega), fun k hk _ => h.aw k hk (by omega), fun k hk _ => h.wr k hk (by omega), fun k hk _ => h.rs k hk (by omega), h.zz, h.rv, h.rx, h.hB⟩
  refine (h.nd n hn').congr (fun k hk => ?_) (fun _ _ _ => rfl)
  constructor
  · rintro ⟨-, p2, p3⟩; exact ⟨fun e => hn (by rw [← e]; exact p2), p2, p3⟩
  · rintro ⟨p1, p2, p3⟩; exact ⟨by omega, p2, p3⟩
/-- one leaves its line, and goes out of view -/
theorem Sim.rem (h : Sim b 8 d np v r) {i : Nat} (hi : i < np) : Sim b i d np (cRem v (22 + 2 * nv v (68 + 3 * i) 4) (v (68 + 3 * i) 0)) r := by
  have hle := h.le
  obtain ⟨e1, e2, e3⟩ := h.pln hi
  rw [h.number hi, e1]
  generalize hp : nv r 8 i = p at e2 e3
  have hL : isLn (22 + 2 * p) := ln_node e2
  have o : ∀ k, k ≠ 22 + 2 * p → k ≠ 22 + 2 * p + 1 → cRem v (22 + 2 * p) (nI i) k = v k := fun k q1 q2 => cRem_oth ⟨q1, q2⟩
  refine Sim.intro ⟨h.ok.rem hL (by omega), h.okM, fun k j k' j' H => ?_, ?_, fun n hn => ?_, fun j hj => ?_, h.tm, h.t10, h.t15, h.t20, ?_, ?_, ?_, ?_, ?_, ?_, ?_, h.zz, ?_, h.rx, h.hB⟩
  · rw [o k (fun q => H.f1 _ (by omega) (by omega) q.symm) (fun q => H.f1 _ (by omega) (by omega) q.symm)]; exact h.D _ _ _ _ H
  · rw [o 0 (by omega) (by omega)]; exact h.gr
  · by_cases e : n = p
    · subst e
      rw [cRem_ln h.ok hL (by omega) (by omega)]
      refine (h.nd n hn).out (fun k hk => ?_) (fun _ _ _ => rfl)
      constructor
      · rintro ⟨p1, p2⟩; exact ⟨p1, by omega, p2⟩
      · rintro ⟨p1, -, p2⟩; exact ⟨p1, p2⟩
    · rw [ln_congr (v := v) (by rw [o _ (by omega) (by omega)]) (o _ (by omega) (by omega))]
      refine (h.nd n hn).congr (fun k hk => ?_) (fun _ _ _ => rfl)
      constructor
      · rintro ⟨-, p2, p3⟩
        refine ⟨fun q => e ?_, p2, p3⟩
        subst q
        rw [e3] at p3
        exact ((nI_eq (by omega) (by omega)).mp p3).symm
      · rintro ⟨-, p2, p3⟩; exact ⟨by omega, p2, p3⟩
  · rw [ln_congr (v := v) (by rw [o _ (by omega) (by omega)]) (o _ (by omega) (by omega))]; exact h.rq j hj
  · have e : nv (cRem v (22 + 2 * p) (nI i)) 0 6 = nv v 0 6 := by unfold nv; rw [o 0 (by omega) (by omega)]
    rw [e, o 0 (by omega) (by omega)]; exact h.us
  · intro n hn j hj
    have e : nv (cRem v (22 + 2 * p) (nI i)) 0 6 = nv v 0 6 := by unfold nv; rw [o 0 (by omega) (by omega)]
    have e' : nv (cRem v (22 + 2 * p) (nI i)) (28 + 5 * j + 2) n = nv v (28 + 5 * j + 2) n := by unfold nv; rw [o _ (by omega) (by omega)]
    rw [e, e', o _ (by omega) (by omega)]; exact h.uv n hn j hj
  · intro n hn j hj j' hj'
    have e' : ∀ j, j < 8 → nv (cRem v (22 + 2 * p) (nI i)) (28 + 5 * j + 2) n = nv v (28 + 5 * j + 2) n := fun j hj => by unfold nv; rw [o _ (by omega) (by omega)]
    rw [e' j hj, e' j' hj']; exact h.uo n hn j hj j' hj'
  · intro k hk _; rw [o _ (by omega) (by omega)]; exact h.pg k hk (by omega)
  · intro k hk _; rw [o _ (by omega) (by omega)]; exact h.aw k hk (by omega)
  · intro k hk _; rw [o _ (by omega) (by omega)]; exact h.wr k hk (by omega)
  · intro k hk _; exact h.rs k hk (by omega)
  · intro j hj n hn; rw [o _ (by omega) (by omega)]; exact h.rv j hj n hn
/-- one that isn't ready comes into view -/
theorem Sim.show (h : Sim b x d np v r) (hn : r 9 x ≠ 1) (h1 : x < np → r 14 x = if v (68 + 3 * x) 5 = 2 then v (68 + 3 * x) 9 else 8) (h2 : x < np → v (68 + 3 * x) 5 = 3 → v (68 + 3 * x) 11 = r 13 x) (h3 : x < np → r 15 x ≠ 0 → r 17 x = if v (68 + 3 * x) 10 = 2 then 1 else 0) (h4 : x < np → r 15 x ≠ 0 → r 9 x = 2 ∨ r 9 x = 4) : Sim b 8 d np v r := by
  have hle := h.le
  refine Sim.intro ⟨h.ok, h.okM, h.D, h.gr, fun n hn' => ?_, h.rq, h.tm, h.t10, h.t15, h.t20, h.us, h.uv, h.uo, fun k hk _ => ?_, fun k hk _ => ?_, fun k hk _ => ?_, fun k hk _ => ?_, h.zz, h.rv, h.rx, h.hB⟩
  · refine (h.nd n hn').congr (fun k hk => ?_) (fun _ _ _ => rfl)
    constructor
    · rintro ⟨p1, p2, p3⟩; exact ⟨by omega, p2, p3⟩
    · rintro ⟨-, p2, p3⟩; exact ⟨fun e => hn (by rw [← e]; exact p2), p2, p3⟩
  · by_cases e : k = x
    · subst e; exact h1 hk
    · exact h.pg k hk e
  · by_cases e : k = x
    · subst e; exact h2 hk
    · exact h.aw k hk e
  · by_cases e : k = x
    · subst e; exact h3 hk
    · exact h.wr k hk e
  · by_cases e : k = x
    · subst e; exact h4 hk
    · exact h.rs k hk e
/-- one comes to the end of its line -/
theorem Sim.enter (h : Sim b x d np v r) (hi : x < np) (hs : r 9 x = 1) (h15 : r 15 x = 0) (h14 : r 14 x = 8) (hlt : ∀ q, q < 8 → nv r 10 q < nv r 0 23) : Sim b 8 d np (cApp v (22 + 2 * nv v (68 + 3 * x) 4) (v (68 + 3 * x) 0)) (u2 r 10 x (r 0 23)) := by
  have hle := h.le
  obtain ⟨e1, e2, e3⟩ := h.pln hi
  have hst := h.st hi
  rw [h.number hi, e1]
  generalize hp : nv r 8 x = p at e2 e3
  have hL : isLn (22 + 2 * p) := ln_node e2
  have o : ∀ k, k ≠ 22 + 2 * p → k ≠ 22 + 2 * p + 1 → cApp v (22 + 2 * p) (nI x) k = v k := fun k q1 q2 => cApp_oth ⟨q1, q2⟩
  have cR : ∀ K, K ≠ 10 → u2 r 10 x (r 0 23) K = r K := fun K q => u2_oth q
  have nR : ∀ K, K ≠ 10 → ∀ q, nv (u2 r 10 x (r 0 23)) K q = nv r K q := fun K hK q => by unfold nv; rw [cR K hK]
  have sR : nv (u2 r 10 x (r 0 23)) 10 x = nv r 0 23 := by rw [nv_u2s, nn, nv]
  have oR : ∀ q, q ≠ x → nv (u2 r 10 x (r 0 23)) 10 q = nv r 10 q := fun q hq => nv_u2a (by omega)
  refine Sim.intro ⟨h.ok.app hL (by omega) ⟨x, rfl, Or.inl hi⟩, h.okM.fr (by omega), fun k j k' j' H => ?_, ?_, fun n hn => ?_, fun j hj => ?_, ?_, ?_, ?_, ?_, ?_, ?_, ?_, ?_, ?_, ?_, ?_, ?_, ?_, ?_, h.hB⟩
  · rw [o k (fun q => H.f1 _ (by omega) (by omega) q.symm) (fun q => H.f1 _ (by omega) (by omega) q.symm), cR _ (fun q => H.g1 10 (by omega) q.symm)]; exact h.D _ _ _ _ H
  · rw [o 0 (by omega) (by omega), cR 0 (by omega)]; exact h.gr
  · rw [cR 9 (by omega), cR 8 (by omega)]
    by_cases e : n = p
    · subst e
      have hroom := (h.nd n hn).room hi (fun q => q.1 rfl)
      rw [ln_len] at hroom
      rw [cApp_ln h.ok hL (by omega) (by omega)]
      refine (h.nd n hn).in hi (fun q => q.1 rfl) (fun k hk => ?_) (fun k _ q => oR k q.1) (fun k hk q => by rw [sR]; exact hlt k (by omega))
      constructor
      · rintro ⟨-, p2, p3⟩
        by_cases ek : k = x
        · exact Or.inl ek
        · exact Or.inr ⟨ek, p2, p3⟩
      · rintro (rfl | ⟨p1, p2, p3⟩)
        · exact ⟨by omega, hs, e3⟩
        · exact ⟨by omega, p2, p3⟩
    · rw [ln_congr (v := v) (by rw [o _ (by omega) (by omega)]) (o _ (by omega) (by omega))]
      refine (h.nd n hn).congr (fun k hk => ?_) (fun k _ q => oR k q.1)
      constructor
      · rintro ⟨-, p2, p3⟩; exact ⟨by omega, p2, p3⟩
      · rintro ⟨-, p2, p3⟩
        refine ⟨fun q => e ?_, p2, p3⟩
        subst q
        rw [e3] at p3
        exact ((nI_eq (by omega) (by omega)).mp p3).symm
  · rw [ln_congr (v := v) (by rw [o _ (by omega) (by omega)]) (o _ (by omega) (by omega)), cR 15 (by omega), cR 16 (by omega)]
    exact (h.rq j hj).congr (fun _ _ => Iff.rfl) (fun i _ _ => nR 15 (by omega) i)
  · rw [nR 0 (by omega), cR 0 (by omega)]; exact h.tm
  · intro q hq
    rw [nR 0 (by omega)]
    by_cases e : q = x
    · subst e; rw [sR, u2_s]; exact ⟨h.tm.1, Nat.le_refl _⟩
    · rw [oR q e, u2_n e]; exact h.t10 q hq
  · intro q hq; rw [nR 15 (by omega), nR 0 (by omega), cR 15 (by omega)]; exact h.t15 q hq
  · intro q hq; rw [nR 20 (by omega), nR 0 (by omega), cR 20 (by omega)]; exact h.t20 q hq
  · have e : nv (cApp v (22 + 2 * p) (nI x)) 0 6 = nv v 0 6 := by unfold nv; rw [o 0 (by omega) (by omega)]
    rw [e, o 0 (by omega) (by omega)]; exact h.us
  · intro n hn j hj
    have e : nv (cApp v (22 + 2 * p) (nI x)) 0 6 = nv v 0 6 := by unfold nv; rw [o 0 (by omega) (by omega)]
    have e' : nv (cApp v (22 + 2 * p) (nI x)) (28 + 5 * j + 2) n = nv v (28 + 5 * j + 2) n := by unfold nv; rw [o _ (by omega) (by omega)]
    rw [e, e', o _ (by omega) (by omega)]; exact h.uv n hn j hj
  · intro n hn j hj j' hj'
    have e' : ∀ j, j < 8 → nv (cApp v (22 + 2 * p) (nI x)) (28 + 5 * j + 2) n = nv v (28 + 5 * j + 2) n := fun j hj => by unfold nv; rw [o _ (by omega) (by omega)]
    rw [e' j hj, e' j' hj', nR 20 (by omega), nR 20 (by omega)]; exact h.uo n hn j hj j' hj'
  · intro k hk _
    rw [o _ (by omega) (by omega), cR 14 (by omega)]
    by_cases e : k = x
    · subst e
      rw [hst, hs, if_neg (by decide)]; exact h14
    · exact h.pg k hk e
  · intro k hk _
    rw [o _ (by omega) (by omega), cR 13 (by omega)]
    by_cases e : k = x
    · subst e
      rw [hst, hs]; intro q; exact absurd q (by decide)
    · exact h.aw k hk e
  · intro k hk _
    rw [o _ (by omega) (by omega), cR 15 (by omega), cR 17 (by omega)]
    by_cases e : k = x
    · subst e; intro q; exact absurd h15 q
    · exact h.wr k hk e
  · intro k hk _
    rw [cR 15 (by omega), cR 9 (by omega)]
    by_cases e : k = x
    · subst e; intro q; exact absurd h15 q
    · exact h.rs k hk e
  · intro i hi' h8; rw [cR 6 (by omega), cR 7 (by omega), cR 12 (by omega), cR 15 (by omega), cR 9 (by omega), cR 11 (by omega)]; exact h.zz i hi' h8
  · intro j hj n hn; rw [o _ (by omega) (by omega)]; exact h.rv j hj n hn
  · intro i hi; rw [cR 15 (by omega), cR 16 (by omega)]; exact h.rx i hi
theorem mRdy_eq {i : Nat} : mRdy r i = u2 (u2 (u2 (mTick (u2 r 9 i 1)) 11 i 0) 14 i 8) 10 i (u2 (u2 (mTick (u2 r 9 i 1)) 11 i 0) 14 i 8 0 23) := by
  unfold mRdy
  dsimp only
  rw [u2_a (k' := 0) (j' := 23) (v := u2 (mTick (u2 r 9 i 1)) 11 i 0) (by omega), u2_a (k' := 0) (j' := 23) (k := 11) (by omega)]
  rw [u2_comm (k := 10) (k' := 11) (by omega), u2_comm (k := 10) (k' := 14) (by omega)]
/-- one becomes ready -/
theorem Sim.join (h : Sim b x d np v r) (hi : x < np) (h15 : r 15 x = 0) (hb : b + 1 < 2 ^ 30) : Sim (b + 1) 8 d np (cJoin v x) (mRdy r x) := by
  have h1 := h.up (z := 1) (.state hi) (h.ok.fr (by omega)) (h.okM.fr (by omega)) (fun _ => rfl) (fun q => by omega)
  have lt := tick_lt h1
  have h2 := h1.tick hb
  have h3 := h2.up (z := 0) (.slice hi) (h2.ok.fr (by omega)) (h2.okM.fr (by omega)) (fun q => by omega) (fun q => by omega)
  have h4 := h3.upr (o := 14) (z := 8) (by omega)
  rw [mRdy_eq]
  have e9 : ∀ K, K ≠ 0 → K ≠ 9 → K ≠ 11 → K ≠ 14 → u2 (u2 (mTick (u2 r 9 x 1)) 11 x 0) 14 x 8 K = r K := fun K q1 q2 q3 q4 => by
    rw [u2_oth q4, u2_oth q3]; unfold mTick; rw [u2_oth q1, u2_oth q2]
  refine h4.enter hi ?_ ?_ (by rw [u2_s]) (fun q hq => ?_)
  · rw [u2_oth (by omega), u2_oth (by omega)]; unfold mTick; rw [u2_oth (by omega), u2_s]
  · rw [e9 15 (by omega) (by omega) (by omega) (by omega)]; exact h15
  · have := lt.1 q hq
    rw [nv_u2a (by omega), nv_u2a (by omega), nv_u2a (by omega), nv_u2a (by omega)]
    exact this
end SP
