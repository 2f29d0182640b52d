section SN
variable {b x np : Nat} {d : Int32} {v r : Vs}
theorem u2_comm {v : Vs} {k j k' j' : Nat} {x y : Int32} (h : k ≠ k' ∨ j ≠ j') : u2 (u2 v k j x) k' j' y = u2 (u2 v k' j' y) k j x := by
  funext K J
  by_cases e : K = k ∧ J = j
  · rw [e.1, e.2, u2_s, u2_a h, u2_s]
  · by_cases e' : K = k' ∧ J = j'
    · rw [e'.1, e'.2, u2_s, u2_a (by omega), u2_s]
    · rw [u2_a (by omega), u2_a (by omega), u2_a (by omega), u2_a (by omega)]
theorem u2_u2 {v : Vs} {k j : Nat} {x y : Int32} : u2 (u2 v k j x) k j y = u2 v k j y := by
  funext K J
  by_cases e : K = k ∧ J = j
  · rw [e.1, e.2, u2_s, u2_s]
  · rw [u2_a (by omega), u2_a (by omega), u2_a (by omega)]
theorem u2_id {v : Vs} {k j : Nat} {x : Int32} (h : v k j = x) : u2 v k j x = v := by
  funext K J
  by_cases e : K = k ∧ J = j
  · rw [e.1, e.2, u2_s, h]
  · rw [u2_a (by omega)]
theorem Sim.wide (h : Sim b x d np v r) {b' : Nat} (h1 : b ≤ b') (h2 : b' < 2 ^ 30) : Sim b' x d np v r :=
  Sim.intro ⟨h.ok, h.okM, h.D, h.gr, h.nd, h.rq, ⟨h.tm.1, by have := h.tm.2; omega⟩, h.t10, h.t15, h.t20, ⟨h.us.1, by have := h.us.2; omega⟩, h.uv, h.uo, h.pg, h.aw, h.wr, h.rs, h.zz, h.rv, h.rx, h2⟩
/-- a slot of the class alone, of the process that is out of view -/
theorem Sim.upv (h : Sim b x d np v r) {o : Nat} {z : Int32} (ho : o = 9 ∨ o = 10 ∨ o = 11) : Sim b x d np (u2 v (68 + 3 * x) o z) r := by
  refine h.keep (h.ok.fr (by omega)) h.okM (fun K J K' J' H => ?_) ?_ (fun K q1 q2 => u2_oth (by omega)) (fun J hJ => ⟨u2_oth (by omega), u2_oth (by omega)⟩) (u2_a (by omega)) (fun J hJ => u2_oth (by omega)) (fun i hi hix => ?_) (fun J hJ n hn => ?_) (fun i hi hix => ⟨rfl, rfl, rfl, rfl, rfl⟩) rfl rfl (fun _ _ => rfl) rfl rfl (fun i hi h8 => ⟨fun _ _ => rfl, rfl, rfl, rfl, rfl⟩)
  · have := H.f4 x o ho
    rw [u2_a (by omega)]; exact h.D _ _ _ _ H
  · rw [u2_a (by omega)]; exact h.gr
  · exact ⟨u2_a (by omega), u2_a (by omega), u2_a (by omega), u2_a (by omega)⟩
  · rw [u2_a (by omega)]; exact h.rv J hJ n hn
/-- a slot of the reference alone, of the process that is out of view -/
theorem Sim.upr (h : Sim b x d np v r) {o : Nat} {z : Int32} (ho : o = 13 ∨ o = 14 ∨ o = 17 ∨ (o = 16 ∧ r 15 x = 0)) : Sim b x d np v (u2 r o x z) := by
  refine h.keep h.ok (h.okM.fr (by omega)) (fun K J K' J' H => ?_) ?_ (fun K q1 q2 => rfl) (fun J hJ => ⟨rfl, rfl⟩) rfl (fun J hJ => rfl) (fun i hi hix => ⟨rfl, rfl, rfl, rfl⟩) h.rv (fun i hi hix => ⟨u2_a (by omega), u2_a (by omega), u2_a (by omega), u2_a (by omega), u2_a (by omega)⟩) (u2_oth (by omega)) (u2_oth (by omega)) (fun i hi => ?_) (u2_oth (by omega)) (u2_a (by omega)) (fun i hi h8 => ⟨fun _ _ => u2_a (by omega), u2_a (by omega), u2_a (by omega), u2_a (by omega), u2_a (by omega)⟩)
  · have := H.g1 o (by omega)
    rw [u2_a (by omega)]; exact h.D _ _ _ _ H
  · rw [u2_a (by omega)]; exact h.gr
  · by_cases e : i = x
    · subst e
      refine u2_a (Or.inl ?_)
      intro q
      rcases ho with a | a | a | a
      · omega
      · omega
      · omega
      · exact hi a.2
    · exact u2_a (Or.inr e)
theorem tick_e (h : Sim b x d np v r) : mTick r 0 23 = nI (nv r 0 23 + 1) ∧ nv (mTick r) 0 23 = nv r 0 23 + 1 := by
  have e : mTick r 0 23 = nI (nv r 0 23 + 1) := by
    unfold mTick
    rw [u2_s]; exact ni_add h.tm.1 rfl
  have := h.tm.2
  have := h.hB
  exact ⟨e, nv_of e (by omega)⟩
/-- the reference's clock -/
theorem Sim.tick (h : Sim b x d np v r) (hb : b + 1 < 2 ^ 30) : Sim (b + 1) x d np v (mTick r) := by
  obtain ⟨e1, e2⟩ := tick_e h
  have o : ∀ k, k ≠ 0 → mTick r k = r k := fun k hk => u2_oth hk
  have a : ∀ j, j ≠ 23 → mTick r 0 j = r 0 j := fun j hj => u2_n hj
  have nn' : ∀ k, k ≠ 0 → ∀ q, nv (mTick r) k q = nv r k q := fun k hk q => by unfold nv; rw [o k hk]
  have ht := h.tm.2
  refine Sim.intro ⟨h.ok, h.okM.tick, fun k j k' j' H => ?_, ?_, ?_, ?_, ⟨by rw [e2]; exact e1, by rw [e2]; omega⟩, ?_, ?_, ?_, ⟨h.us.1, by have := h.us.2; omega⟩, h.uv, ?_, ?_, ?_, ?_, ?_, ?_, h.rv, ?_, hb⟩
  · have := H.g2 23 (by omega)
    unfold mTick
    rw [u2_a (by omega)]; exact h.D _ _ _ _ H
  · rw [a 27 (by omega)]; exact h.gr
  · intro n hn
    rw [o 9 (by omega), o 8 (by omega)]
    exact (h.nd n hn).congr (fun _ _ => Iff.rfl) (fun i _ _ => nn' 10 (by omega) i)
  · intro j hj
    rw [o 15 (by omega), o 16 (by omega)]
    exact (h.rq j hj).congr (fun _ _ => Iff.rfl) (fun i _ _ => nn' 15 (by omega) i)
  · intro q hq; rw [nn' 10 (by omega), o 10 (by omega), e2]; have := h.t10 q hq; exact ⟨this.1, by omega⟩
  · intro q hq; rw [nn' 15 (by omega), o 15 (by omega), e2]; have := h.t15 q hq; exact ⟨this.1, by omega⟩
  · intro q hq; rw [nn' 20 (by omega), o 20 (by omega), e2]; have := h.t20 q hq; exact ⟨this.1, by omega⟩
  · intro n hn j hj j' hj'; rw [nn' 20 (by omega), nn' 20 (by omega)]; exact h.uo n hn j hj j' hj'
  · intro i hi hx; rw [o 14 (by omega)]; exact h.pg i hi hx
  · intro i hi hx; rw [o 13 (by omega)]; exact h.aw i hi hx
  · intro i hi hx; rw [o 15 (by omega), o 17 (by omega)]; exact h.wr i hi hx
  · intro i hi hx; rw [o 15 (by omega), o 9 (by omega)]; exact h.rs i hi hx
  · intro i hi h8; rw [o 6 (by omega), o 7 (by omega), o 12 (by omega), o 15 (by omega), o 9 (by omega), o 11 (by omega)]; exact h.zz i hi h8
  · intro i hi; rw [o 15 (by omega), o 16 (by omega)]; exact h.rx i hi
/-- the reference's clock: what was stamped before is lower -/
theorem tick_lt (h : Sim b x d np v r) : (∀ q, q < 8 → nv (mTick r) 10 q < nv (mTick r) 0 23) ∧ (∀ q, q < 8 → nv (mTick r) 15 q < nv (mTick r) 0 23) ∧ (∀ q, q < 24 → nv (mTick r) 20 q < nv (mTick r) 0 23) ∧ 0 < nv (mTick r) 0 23 := by
  obtain ⟨e1, e2⟩ := tick_e h
  have o : ∀ k, k ≠ 0 → ∀ q, nv (mTick r) k q = nv r k q := fun k hk q => by unfold nv mTick; rw [u2_oth hk]
  refine ⟨fun q hq => ?_, fun q hq => ?_, fun q hq => ?_, by omega⟩
  · rw [o 10 (by omega), e2]; have := (h.t10 q hq).2; omega
  · rw [o 15 (by omega), e2]; have := (h.t15 q hq).2; omega
  · rw [o 20 (by omega), e2]; have := (h.t20 q hq).2; omega
/-- a page is used -/
theorem Sim.use (h : Sim b x d np v r) {j n : Nat} (hj : j < 8) (hn : n < 3) (hb : b + 1 < 2 ^ 30) : Sim (b + 1) x d np (cUse v j n) (u2 (mTick r) 20 (8 * n + j) (mTick r 0 23)) := by
  have hs := (tick_lt h).2.2.1
  have hu := h.us
  have h := h.tick hb
  generalize mTick r = r at h hs ⊢
  have e6 : v 0 6 + 1 = nI (nv v 0 6 + 1) := ni_add hu.1 rfl
  have hbb := h.hB
  have eU : cUse v j n = u2 (u2 v 0 6 (nI (nv v 0 6 + 1))) (28 + 5 * j + 2) n (nI (nv v 0 6 + 1)) := by
    unfold cUse
    dsimp only
    rw [u2_s, e6]
  have hok := h.ok.use (n := n) hj
  rw [eU] at hok ⊢
  have cV : ∀ K, K ≠ 0 → K ≠ 28 + 5 * j + 2 → u2 (u2 v 0 6 (nI (nv v 0 6 + 1))) (28 + 5 * j + 2) n (nI (nv v 0 6 + 1)) K = v K := fun K q1 q2 => by rw [u2_oth q2, u2_oth q1]
  have cR : ∀ K, K ≠ 20 → u2 r 20 (8 * n + j) (r 0 23) K = r K := fun K q => u2_oth q
  have nR : ∀ K, K ≠ 20 → ∀ q, nv (u2 r 20 (8 * n + j) (r 0 23)) K q = nv r K q := fun K hK q => by unfold nv; rw [cR K hK]
  have s6 : nv (u2 (u2 v 0 6 (nI (nv v 0 6 + 1))) (28 + 5 * j + 2) n (nI (nv v 0 6 + 1))) 0 6 = nv v 0 6 + 1 := by
    rw [nv_u2a (by omega), nv_u2s, nn_nI (by omega)]
  have sV : nv (u2 (u2 v 0 6 (nI (nv v 0 6 + 1))) (28 + 5 * j + 2) n (nI (nv v 0 6 + 1))) (28 + 5 * j + 2) n = nv v 0 6 + 1 := by
    rw [nv_u2s, nn_nI (by omega)]
  have oV : ∀ j' n', ¬ (j' = j ∧ n' = n) → nv (u2 (u2 v 0 6 (nI (nv v 0 6 + 1))) (28 + 5 * j + 2) n (nI (nv v 0 6 + 1))) (28 + 5 * j' + 2) n' = nv v (28 + 5 * j' + 2) n' := fun j' n' q => by
    rw [nv_u2a (by omega), nv_u2a (by omega)]
  have sR : nv (u2 r 20 (8 * n + j) (r 0 23)) 20 (8 * n + j) = nv r 0 23 := by rw [nv_u2s, nn, nv]
  have oR : ∀ q, q ≠ 8 * n + j → nv (u2 r 20 (8 * n + j) (r 0 23)) 20 q = nv r 20 q := fun q hq => nv_u2a (by omega)
  refine Sim.intro ⟨hok, h.okM.fr (by omega), fun k J k' J' H => ?_, ?_, ?_, ?_, ?_, ?_, ?_, ?_, ?_, ?_, ?_, ?_, ?_, ?_, ?_, ?_, ?_, ?_, hbb⟩
  · have q1 := H.f2 j 2 hj (by omega) (by omega)
    have q2 := H.f3 6 (by omega)
    have q3 := H.g1 20 (by omega)
    rw [u2_a (by omega), u2_a (by omega), u2_a (by omega)]; exact h.D _ _ _ _ H
  · rw [u2_a (by omega), u2_a (by omega), u2_a (by omega)]; exact h.gr
  · intro n' hn'
    rw [ln_congr (v := v) (by rw [cV _ (by omega) (by omega)]) (cV _ (by omega) (by omega)), cR 9 (by omega), cR 8 (by omega)]
    exact (h.nd n' hn').congr (fun _ _ => Iff.rfl) (fun i _ _ => nR 10 (by omega) i)
  · intro j' hj'
    rw [ln_congr (v := v) (by rw [cV _ (by omega) (by omega)]) (cV _ (by omega) (by omega)), cR 15 (by omega), cR 16 (by omega)]
    exact (h.rq j' hj').congr (fun _ _ => Iff.rfl) (fun i _ _ => nR 15 (by omega) i)
  · rw [nR 0 (by omega), cR 0 (by omega)]; exact h.tm
  · intro q hq; rw [nR 10 (by omega), nR 0 (by omega), cR 10 (by omega)]; exact h.t10 q hq
  · intro q hq; rw [nR 15 (by omega), nR 0 (by omega), cR 15 (by omega)]; exact h.t15 q hq
  · intro q hq
    rw [nR 0 (by omega)]
    by_cases e : q = 8 * n + j
    · subst e; rw [sR, u2_s]; exact ⟨h.tm.1, Nat.le_refl _⟩
    · rw [oR q e, u2_n e]; exact h.t20 q hq
  · refine ⟨?_, by rw [s6]; omega⟩
    rw [s6, u2_a (by omega), u2_s]
  · intro n' hn' j' hj'
    rw [s6]
    by_cases e : j' = j ∧ n' = n
    · rw [e.1, e.2, sV, u2_s]; exact ⟨rfl, Nat.le_refl _⟩
    · rw [oV j' n' e, u2_a (by omega), u2_a (by omega)]
      have := h.uv n' hn' j' hj'
      exact ⟨this.1, by omega⟩
  · intro n' hn' j1 hj1 j2 hj2
    have u1 := h.uv n' hn' j1 hj1
    have u2' := h.uv n' hn' j2 hj2
    have w1 := hs (8 * n' + j1) (by omega)
    have w2 := hs (8 * n' + j2) (by omega)
    by_cases e1 : j1 = j ∧ n' = n
    · rw [e1.1, e1.2, sV, sR]
      by_cases e2 : j2 = j
      · rw [e2, sV, sR]; omega
      · rw [oV j2 n (by omega), oR (8 * n + j2) (by omega)]
        rw [e1.2] at u2' w2
        omega
    · rw [oV j1 n' e1, oR (8 * n' + j1) (by omega)]
      by_cases e2 : j2 = j ∧ n' = n
      · rw [e2.1, e2.2, sV, sR]
        rw [e2.2] at u1 w1
        omega
      · rw [oV j2 n' e2, oR (8 * n' + j2) (by omega)]
        exact h.uo n' hn' j1 hj1 j2 hj2
  · intro i hi hx; rw [cR 14 (by omega), cV _ (by omega) (by omega)]; exact h.pg i hi hx
  · intro i hi hx; rw [cR 13 (by omega), cV _ (by omega) (by omega)]; exact h.aw i hi hx
  · intro i hi hx; rw [cR 15 (by omega), cR 17 (by omega), cV _ (by omega) (by omega)]; exact h.wr i hi hx
  · intro i hi hx; rw [cR 15 (by omega), cR 9 (by omega)]; exact h.rs i hi hx
  · intro i hi h8; rw [cR 6 (by omega), cR 7 (by omega), cR 12 (by omega), cR 15 (by omega), cR 9 (by omega), cR 11 (by omega)]; exact h.zz i hi h8
  · intro J hJ n' hn'; rw [cV _ (by omega) (by omega)]; exact h.rv J hJ n' hn'
  · intro i hi; rw [cR 15 (by omega), cR 16 (by omega)]; exact h.rx i hi
end SN
