section SQ
variable {b x np : Nat} {d : Int32} {v r : Vs}
/-- a request comes to the end of a page's line -/
theorem Sim.ask (h : Sim b x d np v r) {j : Nat} (hi : x < np) (hj : j < 8) (h15 : r 15 x = 0) (h16 : r 16 x = nI j) (hlt : ∀ q, q < 8 → nv r 15 q < nv r 0 23) (h0 : 0 < nv r 0 23) : Sim b x d np (cApp v (28 + 5 * j + 3) (v (68 + 3 * x) 0)) (u2 r 15 x (r 0 23)) := by
  have hle := h.le
  rw [h.number hi]
  have hL : isLn (28 + 5 * j + 3) := ln_page hj
  have o : ∀ k, k ≠ 28 + 5 * j + 3 → k ≠ 28 + 5 * j + 3 + 1 → cApp v (28 + 5 * j + 3) (nI x) k = v k := fun k q1 q2 => cApp_oth ⟨q1, q2⟩
  have cR : ∀ K, K ≠ 15 → u2 r 15 x (r 0 23) K = r K := fun K q => u2_oth q
  have nR : ∀ K, K ≠ 15 → ∀ q, nv (u2 r 15 x (r 0 23)) K q = nv r K q := fun K hK q => by unfold nv; rw [cR K hK]
  have sR : nv (u2 r 15 x (r 0 23)) 15 x = nv r 0 23 := by rw [nv_u2s, nn, nv]
  have oR : ∀ q, q ≠ x → nv (u2 r 15 x (r 0 23)) 15 q = nv r 15 q := fun q hq => nv_u2a (by omega)
  have hne : r 0 23 ≠ 0 := fun q => by
    have := nv_of (v := r) (k := 0) (j := 23) (n := 0) q (by omega)
    omega
  refine Sim.intro ⟨h.ok.app hL (by omega) ⟨x, rfl, Or.inl hi⟩, h.okM.fr (by omega), fun k J k' J' H => ?_, ?_, fun n hn => ?_, fun J hJ => ?_, ?_, ?_, ?_, ?_, ?_, ?_, ?_, ?_, ?_, ?_, ?_, ?_, ?_, ?_, h.hB⟩
  · rw [o k (fun q => H.f2 j 3 hj (by omega) (by omega) q.symm) (fun q => H.f2 j 4 hj (by omega) (by omega) q.symm), cR _ (fun q => H.g1 15 (by omega) q.symm)]; exact h.D _ _ _ _ H
  · rw [o 0 (by omega) (by omega), cR 0 (by omega)]; exact h.gr
  · rw [ln_congr (v := v) (by rw [o _ (by omega) (by omega)]) (o _ (by omega) (by omega)), cR 9 (by omega), cR 8 (by omega)]
    exact (h.nd n hn).congr (fun _ _ => Iff.rfl) (fun i _ _ => nR 10 (by omega) i)
  · rw [cR 16 (by omega)]
    by_cases e : J = j
    · subst e
      have hroom := (h.rq J hJ).room hi (fun q => q.1 h15)
      rw [ln_len] at hroom
      rw [cApp_ln h.ok hL (by omega) (by omega)]
      have ne : ∀ k, r 15 k ≠ 0 → k ≠ x := fun k q e => q (by rw [e]; exact h15)
      refine (h.rq J hJ).in hi (fun q => q.1 h15) (fun k hk => ?_) (fun k _ q => oR k (ne k q.1)) (fun k hk q => by rw [sR]; exact hlt k (by omega))
      by_cases ek : k = x
      · subst ek; rw [u2_s]; exact ⟨fun _ => Or.inl rfl, fun _ => ⟨hne, h16⟩⟩
      · rw [u2_n ek]; exact ⟨fun q => Or.inr q, fun q => q.elim (fun a => absurd a ek) id⟩
    · rw [ln_congr (v := v) (by rw [o _ (by omega) (by omega)]) (o _ (by omega) (by omega))]
      have ne : ∀ k, r 15 k ≠ 0 → k ≠ x := fun k q e => q (by rw [e]; exact h15)
      refine (h.rq J hJ).congr (fun k hk => ?_) (fun k _ q => oR k (ne k q.1))
      by_cases ek : k = x
      · subst ek; rw [u2_s]
        refine ⟨fun q => absurd h15 q.1, fun q => ?_⟩
        have := q.2
        rw [h16] at this
        exact absurd ((nI_eq (by omega) (by omega)).mp this).symm e
      · rw [u2_n ek]
  · rw [nR 0 (by omega), cR 0 (by omega)]; exact h.tm
  · intro q hq; rw [nR 10 (by omega), nR 0 (by omega), cR 10 (by omega)]; exact h.t10 q hq
  · intro q hq
    rw [nR 0 (by omega)]
    by_cases e : q = x
    · subst e; rw [sR, u2_s]; exact ⟨h.tm.1, Nat.le_refl _⟩
    · rw [oR q e, u2_n e]; exact h.t15 q hq
  · intro q hq; rw [nR 20 (by omega), nR 0 (by omega), cR 20 (by omega)]; exact h.t20 q hq
  · have e : nv (cApp v (28 + 5 * j + 3) (nI x)) 0 6 = nv v 0 6 := by unfold nv; rw [o 0 (by omega) (by omega)]
    rw [e, o 0 (by omega) (by omega)]; exact h.us
  · intro n hn J hJ
    have e : nv (cApp v (28 + 5 * j + 3) (nI x)) 0 6 = nv v 0 6 := by unfold nv; rw [o 0 (by omega) (by omega)]
    have e' : nv (cApp v (28 + 5 * j + 3) (nI x)) (28 + 5 * J + 2) n = nv v (28 + 5 * J + 2) n := by unfold nv; rw [o _ (by omega) (by omega)]
    rw [e, e', o _ (by omega) (by omega)]; exact h.uv n hn J hJ
  · intro n hn J hJ J' hJ'
    have e' : ∀ J, nv (cApp v (28 + 5 * j + 3) (nI x)) (28 + 5 * J + 2) n = nv v (28 + 5 * J + 2) n := fun J => by unfold nv; rw [o _ (by omega) (by omega)]
    rw [e' J, e' J', nR 20 (by omega), nR 20 (by omega)]; exact h.uo n hn J hJ J' hJ'
  · intro k hk e; rw [o _ (by omega) (by omega), cR 14 (by omega)]; exact h.pg k hk e
  · intro k hk e; rw [o _ (by omega) (by omega), cR 13 (by omega)]; exact h.aw k hk e
  · intro k hk e; rw [o _ (by omega) (by omega), u2_n e, cR 17 (by omega)]; exact h.wr k hk e
  · intro k hk e; rw [u2_n e, cR 9 (by omega)]; exact h.rs k hk e
  · intro i hi' h8; rw [cR 6 (by omega), cR 7 (by omega), cR 12 (by omega), u2_n (by omega), cR 9 (by omega), cR 11 (by omega)]; exact h.zz i hi' h8
  · intro J hJ n hn; rw [o _ (by omega) (by omega)]; exact h.rv J hJ n hn
  · intro k hk q
    rw [cR 16 (by omega)]
    by_cases e : k = x
    · subst e; exact ⟨j, hj, h16⟩
    · rw [u2_n e] at q; exact h.rx k hk q
/-- a request leaves its page's line -/
theorem Sim.drop (h : Sim b x d np v r) {j q : Nat} (hj : j < 8) (hq : q < np) (h16 : r 15 q ≠ 0 → r 16 q = nI j) : Sim b x d np (cRem v (28 + 5 * j + 3) (nI q)) (u2 r 15 q 0) := by
  have hle := h.le
  have hL : isLn (28 + 5 * j + 3) := ln_page hj
  have o : ∀ k, k ≠ 28 + 5 * j + 3 → k ≠ 28 + 5 * j + 3 + 1 → cRem v (28 + 5 * j + 3) (nI q) k = v k := fun k q1 q2 => cRem_oth ⟨q1, q2⟩
  have cR : ∀ K, K ≠ 15 → u2 r 15 q 0 K = r K := fun K e => u2_oth e
  have nR : ∀ K, K ≠ 15 → ∀ t, nv (u2 r 15 q 0) K t = nv r K t := fun K hK t => by unfold nv; rw [cR K hK]
  have sR : nv (u2 r 15 q 0) 15 q = 0 := by rw [nv_u2s]; rfl
  have oR : ∀ t, t ≠ q → nv (u2 r 15 q 0) 15 t = nv r 15 t := fun t ht => nv_u2a (by omega)
  refine Sim.intro ⟨h.ok.rem hL (by omega), h.okM.fr (by omega), fun k J k' J' H => ?_, ?_, fun n hn => ?_, fun J hJ => ?_, ?_, ?_, ?_, ?_, ?_, ?_, ?_, ?_, ?_, ?_, ?_, ?_, ?_, ?_, h.hB⟩
  · rw [o k (fun e => H.f2 j 3 hj (by omega) (by omega) e.symm) (fun e => H.f2 j 4 hj (by omega) (by omega) e.symm), cR _ (fun e => H.g1 15 (by omega) e.symm)]; exact h.D _ _ _ _ H
  · rw [o 0 (by omega) (by omega), cR 0 (by omega)]; exact h.gr
  · rw [ln_congr (v := v) (by rw [o _ (by omega) (by omega)]) (o _ (by omega) (by omega)), cR 9 (by omega), cR 8 (by omega)]
    exact (h.nd n hn).congr (fun _ _ => Iff.rfl) (fun i _ _ => nR 10 (by omega) i)
  · rw [cR 16 (by omega)]
    by_cases e : J = j
    · subst e
      rw [cRem_ln h.ok hL (by omega) (by omega)]
      refine (h.rq J hJ).out (fun k hk => ?_) (fun k _ p => ?_)
      · by_cases ek : k = q
        · subst ek; rw [u2_s]; exact ⟨fun p => absurd rfl p.1, fun p => absurd rfl p.1⟩
        · rw [u2_n ek]; exact ⟨fun p => ⟨ek, p⟩, fun p => p.2⟩
      · refine oR k (fun ek => ?_)
        subst ek
        exact p.1 u2_s
    · rw [ln_congr (v := v) (by rw [o _ (by omega) (by omega)]) (o _ (by omega) (by omega))]
      have key : ∀ k, r 15 k ≠ 0 ∧ r 16 k = nI J → k ≠ q := fun k p ek => by
        subst ek
        have := h16 p.1
        rw [p.2] at this
        exact e ((nI_eq (by omega) (by omega)).mp this)
      refine (h.rq J hJ).congr (fun k hk => ?_) (fun k _ p => oR k (key k p))
      by_cases ek : k = q
      · subst ek; rw [u2_s]; exact ⟨fun p => absurd rfl (key _ p), fun p => absurd rfl p.1⟩
      · rw [u2_n ek]
  · rw [nR 0 (by omega), cR 0 (by omega)]; exact h.tm
  · intro t ht; rw [nR 10 (by omega), nR 0 (by omega), cR 10 (by omega)]; exact h.t10 t ht
  · intro t ht
    rw [nR 0 (by omega)]
    by_cases e : t = q
    · subst e; rw [sR, u2_s]; exact ⟨rfl, Nat.zero_le _⟩
    · rw [oR t e, u2_n e]; exact h.t15 t ht
  · intro t ht; rw [nR 20 (by omega), nR 0 (by omega), cR 20 (by omega)]; exact h.t20 t ht
  · have e : nv (cRem v (28 + 5 * j + 3) (nI q)) 0 6 = nv v 0 6 := by unfold nv; rw [o 0 (by omega) (by omega)]
    rw [e, o 0 (by omega) (by omega)]; exact h.us
  · intro n hn J hJ
    have e : nv (cRem v (28 + 5 * j + 3) (nI q)) 0 6 = nv v 0 6 := by unfold nv; rw [o 0 (by omega) (by omega)]
    have e' : nv (cRem v (28 + 5 * j + 3) (nI q)) (28 + 5 * J + 2) n = nv v (28 + 5 * J + 2) n := by unfold nv; rw [o _ (by omega) (by omega)]
    rw [e, e', o _ (by omega) (by omega)]; exact h.uv n hn J hJ
  · intro n hn J hJ J' hJ'
    have e' : ∀ J, nv (cRem v (28 + 5 * j + 3) (nI q)) (28 + 5 * J + 2) n = nv v (28 + 5 * J + 2) n := fun J => by unfold nv; rw [o _ (by omega) (by omega)]
    rw [e' J, e' J', nR 20 (by omega), nR 20 (by omega)]; exact h.uo n hn J hJ J' hJ'
  · intro k hk e; rw [o _ (by omega) (by omega), cR 14 (by omega)]; exact h.pg k hk e
  · intro k hk e; rw [o _ (by omega) (by omega), cR 13 (by omega)]; exact h.aw k hk e
  · intro k hk e
    rw [o _ (by omega) (by omega), cR 17 (by omega)]
    by_cases ek : k = q
    · subst ek; rw [u2_s]; intro p; exact absurd rfl p
    · rw [u2_n ek]; exact h.wr k hk e
  · intro k hk e
    rw [cR 9 (by omega)]
    by_cases ek : k = q
    · subst ek; rw [u2_s]; intro p; exact absurd rfl p
    · rw [u2_n ek]; exact h.rs k hk e
  · intro i hi' h8; rw [cR 6 (by omega), cR 7 (by omega), cR 12 (by omega), u2_n (by omega), cR 9 (by omega), cR 11 (by omega)]; exact h.zz i hi' h8
  · intro J hJ n hn; rw [o _ (by omega) (by omega)]; exact h.rv J hJ n hn
  · intro k hk p
    rw [cR 16 (by omega)]
    by_cases e : k = q
    · subst e; rw [u2_s] at p; exact absurd rfl p
    · rw [u2_n e] at p; exact h.rx k hk p
end SQ
/-! FIRST OF A LINE, by the reference's search -/
theorem askL_spec {r : Vs} {j np : Nat} (hnp : np ≤ 8) (ht : ∀ q, q < 8 → r 15 q = nI (nv r 15 q)) : ∀ (k q m : Nat), q + k = np → ((m = 8 ∧ ∀ i, i < q → ¬ (r 15 i ≠ 0 ∧ r 16 i = nI j)) ∨ (m < q ∧ (r 15 m ≠ 0 ∧ r 16 m = nI j) ∧ ∀ i, i < q → (r 15 i ≠ 0 ∧ r 16 i = nI j) → nv r 15 m ≤ nv r 15 i)) →
    (mAskL r (nI j) k q m = 8 ∧ ∀ i, i < np → ¬ (r 15 i ≠ 0 ∧ r 16 i = nI j)) ∨ (mAskL r (nI j) k q m < np ∧ (r 15 (mAskL r (nI j) k q m) ≠ 0 ∧ r 16 (mAskL r (nI j) k q m) = nI j) ∧ ∀ i, i < np → (r 15 i ≠ 0 ∧ r 16 i = nI j) → nv r 15 (mAskL r (nI j) k q m) ≤ nv r 15 i) := by
  intro k
  induction k with
  | zero =>
    intro q m e h
    have e : q = np := by omega
    subst e
    simp only [mAskL]
    exact h
  | succ k ih =>
    intro q m e h
    simp only [mAskL]
    have step : ∀ i, i < q + 1 → i < q ∨ i = q := fun i hi => by omega
    by_cases c1 : r 15 q = 0
    · rw [if_pos c1]
      refine ih (q + 1) m (by omega) ?_
      rcases h with ⟨h1, h2⟩ | ⟨h1, h2, h3⟩
      · refine Or.inl ⟨h1, fun i hi p => ?_⟩
        rcases step i hi with a | a
        · exact h2 i a p
        · subst a; exact p.1 c1
      · refine Or.inr ⟨by omega, h2, fun i hi p => ?_⟩
        rcases step i hi with a | a
        · exact h3 i a p
        · subst a; exact absurd c1 p.1
    · rw [if_neg c1]
      by_cases c2 : r 16 q = nI j
      · rw [if_pos c2]
        rcases h with ⟨h1, h2⟩ | ⟨h1, h2, h3⟩
        · rw [if_pos (by rw [h1]; rfl)]
          refine ih (q + 1) q (by omega) (Or.inr ⟨by omega, ⟨c1, c2⟩, fun i hi p => ?_⟩)
          rcases step i hi with a | a
          · exact absurd p (h2 i a)
          · subst a; exact Nat.le_refl _
        · rw [if_neg (fun a => by have := (nI_eq (a := m) (b := 8) (by omega) (by omega)).mp a; omega)]
          by_cases c3 : r 15 m ≤ r 15 q
          · rw [if_pos c3]
            have c3' := ni_le (ht m (by omega)) (ht q (by omega)) (nv_lt _ _ _) (nv_lt _ _ _) c3
            refine ih (q + 1) m (by omega) (Or.inr ⟨by omega, h2, fun i hi p => ?_⟩)
            rcases step i hi with a | a
            · exact h3 i a p
            · subst a; exact c3'
          · rw [if_neg c3]
            have c3' := ni_nle (ht m (by omega)) (ht q (by omega)) (nv_lt _ _ _) (nv_lt _ _ _) c3
            refine ih (q + 1) q (by omega) (Or.inr ⟨by omega, ⟨c1, c2⟩, fun i hi p => ?_⟩)
            rcases step i hi with a | a
            · have := h3 i a p; omega
            · subst a; exact Nat.le_refl _
      · rw [if_neg c2]
        refine ih (q + 1) m (by omega) ?_
        rcases h with ⟨h1, h2⟩ | ⟨h1, h2, h3⟩
        · refine Or.inl ⟨h1, fun i hi p => ?_⟩
          rcases step i hi with a | a
          · exact h2 i a p
          · subst a; exact c2 p.2
        · refine Or.inr ⟨by omega, h2, fun i hi p => ?_⟩
          rcases step i hi with a | a
          · exact h3 i a p
          · subst a; exact absurd p.2 c2
theorem Sim.asked {b x np : Nat} {d : Int32} {v r : Vs} (h : Sim b x d np v r) {j : Nat} (hj : j < 8) : (ln v (28 + 5 * j + 3) = [] ∧ mAsk r (nI j) = 8) ∨ ∃ l, ln v (28 + 5 * j + 3) = mAsk r (nI j) :: l := by
  have hL := h.rq j hj
  have hs := askL_spec (r := r) (j := j) (np := np) h.le (fun q hq => (h.t15 q hq).1) np 0 8 (by omega) (Or.inl ⟨rfl, fun i hi => by omega⟩)
  have e : mAsk r (nI j) = mAskL r (nI j) np 0 8 := by unfold mAsk; rw [h.made]
  rw [e]
  generalize mAskL r (nI j) np 0 8 = m at hs
  cases hl : ln v (28 + 5 * j + 3) with
  | nil =>
    rw [hl] at hL
    rcases hs with ⟨h1, h2⟩ | ⟨h1, h2, h3⟩
    · exact Or.inl ⟨rfl, h1⟩
    · exact absurd ((hL.2 m).mpr ⟨h1, h2⟩) List.not_mem_nil
  | cons a l =>
    rw [hl] at hL
    have ha := (hL.2 a).mp List.mem_cons_self
    rcases hs with ⟨h1, h2⟩ | ⟨h1, h2, h3⟩
    · exact absurd ha.2 (h2 a ha.1)
    · right
      have hm := (hL.2 m).mpr ⟨h1, h2⟩
      rcases List.mem_cons.mp hm with e1 | e1
      · subst e1; exact ⟨l, rfl⟩
      · have : nv r 15 a < nv r 15 m := List.rel_of_pairwise_cons hL.1 e1
        have := h3 a ha.1 ha.2
        omega
