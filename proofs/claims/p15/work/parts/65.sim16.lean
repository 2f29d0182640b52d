section SB
variable {b x np : Nat} {d : Int32} {v r : Vs}
theorem cAdd_eq {i : Nat} {op a c : Int32} : cAdd v i op a c = u2 (u2 (u2 (u2 v (6 + 4 * i + 1) (nv v (6 + 4 * i) 3) op) (6 + 4 * i + 2) (nv v (6 + 4 * i) 3) a) (6 + 4 * i + 3) (nv v (6 + 4 * i) 3) c) (6 + 4 * i) 3 (v (6 + 4 * i) 3 + 1) := by
  have e1 : nv (u2 v (6 + 4 * i + 1) (nv v (6 + 4 * i) 3) op) (6 + 4 * i) 3 = nv v (6 + 4 * i) 3 := nv_u2a (by omega)
  have e2 : nv (u2 (u2 v (6 + 4 * i + 1) (nv v (6 + 4 * i) 3) op) (6 + 4 * i + 2) (nv v (6 + 4 * i) 3) a) (6 + 4 * i) 3 = nv v (6 + 4 * i) 3 := by rw [nv_u2a (by omega), nv_u2a (by omega)]
  unfold cAdd
  try dsimp only
  rw [e1, e2, u2_oth (k' := 6 + 4 * i) (k := 6 + 4 * i + 3) (by omega), u2_oth (k' := 6 + 4 * i) (k := 6 + 4 * i + 2) (by omega), u2_oth (k' := 6 + 4 * i) (k := 6 + 4 * i + 1) (by omega)]
/-- an instruction is added -/
theorem Sim.add (h : Sim b x d np v r) {i : Nat} {op a c : Int32} (hi : i < 4) (hs : nv v (6 + 4 * i) 3 < 12) (h1 : Ok np (cAdd v i op a c)) (h2 : OkM (u2 (u2 (u2 (u2 r 1 (12 * i + nv r 4 i) op) 2 (12 * i + nv r 4 i) a) 3 (12 * i + nv r 4 i) c) 4 i (r 4 i + 1))) : Sim b x d np (cAdd v i op a c) (u2 (u2 (u2 (u2 r 1 (12 * i + nv r 4 i) op) 2 (12 * i + nv r 4 i) a) 3 (12 * i + nv r 4 i) c) 4 i (r 4 i + 1)) := by
  have hz : v (6 + 4 * i) 3 = r 4 i := h.D _ _ _ _ (.psz hi)
  have hn : nv v (6 + 4 * i) 3 = nv r 4 i := by unfold nv; rw [hz]
  rw [cAdd_eq] at h1 ⊢
  rw [hn, hz] at h1 ⊢
  rw [hn] at hs
  generalize nv r 4 i = t at *
  have oV : ∀ k, k < 6 ∨ 22 ≤ k → u2 (u2 (u2 (u2 v (6 + 4 * i + 1) t op) (6 + 4 * i + 2) t a) (6 + 4 * i + 3) t c) (6 + 4 * i) 3 (r 4 i + 1) k = v k := fun k hk => by
    rw [u2_oth (by omega), u2_oth (by omega), u2_oth (by omega), u2_oth (by omega)]
  have oR : ∀ k, k = 0 ∨ 5 ≤ k → u2 (u2 (u2 (u2 r 1 (12 * i + t) op) 2 (12 * i + t) a) 3 (12 * i + t) c) 4 i (r 4 i + 1) k = r k := fun k hk => by
    rw [u2_oth (by omega), u2_oth (by omega), u2_oth (by omega), u2_oth (by omega)]
  refine h.keep h1 h2 (fun K J K' J' H => ?_) ?_ (fun K q1 q2 => oV K (by omega)) (fun J hJ => ⟨oV _ (by omega), oV _ (by omega)⟩) (by rw [oV 0 (by omega)]) (fun J hJ => oV _ (by omega)) (fun k hk hkx => ?_) (fun J hJ n hn => by rw [oV _ (by omega)]; exact h.rv J hJ n hn) (fun k hk hkx => ?_) (oR 10 (by omega)) (oR 15 (by omega)) (fun k _ => by rw [oR 16 (by omega)]) (oR 20 (by omega)) (by rw [oR 0 (by omega)]) (fun k hk h8 => ?_)
  · refine Mp.cs (M := fun K J K' J' => u2 (u2 (u2 (u2 v (6 + 4 * i + 1) t op) (6 + 4 * i + 2) t a) (6 + 4 * i + 3) t c) (6 + 4 * i) 3 (r 4 i + 1) K J = u2 (u2 (u2 (u2 r 1 (12 * i + t) op) 2 (12 * i + t) a) 3 (12 * i + t) c) 4 i (r 4 i + 1) K' J') ?_ ?_ ?_ ?_ ?_ ?_ ?_ ?_ ?_ ?_ ?_ ?_ ?_ ?_ ?_ ?_ ?_ H <;> (try dsimp only)
    · rw [oV _ (by omega), oR _ (by omega)]; exact h.D _ _ _ _ .made
    · rw [oV _ (by omega), oR _ (by omega)]; exact h.D _ _ _ _ .msg
    · rw [oV _ (by omega), oR _ (by omega)]; exact h.D _ _ _ _ .flt
    · rw [oV _ (by omega), oR _ (by omega)]; exact h.D _ _ _ _ .giv
    · intro w9 hw
      rw [oV _ (by omega), oR _ (by omega)]; exact h.D _ _ _ _ (.mem hw)
    · intro i9 hw
      by_cases e : i9 = i
      · subst e; rw [u2_s, u2_s]
      · rw [u2_oth (by omega), u2_oth (by omega), u2_oth (by omega), u2_oth (by omega), u2_n e, u2_oth (by omega), u2_oth (by omega), u2_oth (by omega)]; exact h.D _ _ _ _ (.psz hw)
    · intro i9 o9 t9 q1 q2 q3 q4
      have hD := h.D _ _ _ _ (.pin q1 q2 q3 q4)
      by_cases e : i9 = i ∧ t9 = t
      · obtain ⟨e1, e2⟩ := e
        subst e1; subst e2
        rcases (show o9 = 1 ∨ o9 = 2 ∨ o9 = 3 by omega) with rfl | rfl | rfl
        · rw [u2_a (by omega), u2_a (by omega), u2_a (by omega), u2_s, u2_a (by omega), u2_a (by omega), u2_a (by omega), u2_s]
        · rw [u2_a (by omega), u2_a (by omega), u2_s, u2_a (by omega), u2_a (by omega), u2_s]
        · rw [u2_a (by omega), u2_s, u2_a (by omega), u2_s]
      · rw [u2_a (by omega), u2_a (by omega), u2_a (by omega), u2_a (by omega), u2_a (by omega), u2_a (by omega), u2_a (by omega), u2_a (by omega)]
        exact hD
    · intro j9 hw
      rw [oV _ (by omega), oR _ (by omega)]; exact h.D _ _ _ _ (.own hw)
    · intro j9 n9 q1 q2
      rw [oV _ (by omega), oR _ (by omega)]; exact h.D _ _ _ _ (.rt q1 q2)
    · intro i9 hw
      rw [oV _ (by omega), oR _ (by omega)]; exact h.D _ _ _ _ (.prog hw)
    · intro i9 hw
      rw [oV _ (by omega), oR _ (by omega)]; exact h.D _ _ _ _ (.place hw)
    · intro i9 hw
      rw [oV _ (by omega), oR _ (by omega)]; exact h.D _ _ _ _ (.state hw)
    · intro i9 hw
      rw [oV _ (by omega), oR _ (by omega)]; exact h.D _ _ _ _ (.ctr hw)
    · intro i9 hw
      rw [oV _ (by omega), oR _ (by omega)]; exact h.D _ _ _ _ (.slice hw)
    · intro i9 hw
      rw [oV _ (by omega), oR _ (by omega)]; exact h.D _ _ _ _ (.code hw)
    · intro i9 a9 q1 q2
      rw [oV _ (by omega), oR _ (by omega)]; exact h.D _ _ _ _ (.reg q1 q2)
    · intro i9 n9 q1 q2 q3
      rw [oV _ (by omega), oR _ (by omega)]; exact h.D _ _ _ _ (.hint q1 q2 q3)
  · rw [oV 0 (by omega), oR 0 (by omega)]; exact h.gr
  · rw [oV _ (by omega)]; exact ⟨rfl, rfl, rfl, rfl⟩
  · rw [oR 8 (by omega), oR 9 (by omega), oR 13 (by omega), oR 14 (by omega), oR 17 (by omega)]; exact ⟨rfl, rfl, rfl, rfl, rfl⟩
  · rw [oR 6 (by omega), oR 7 (by omega), oR 12 (by omega), oR 9 (by omega), oR 11 (by omega)]; exact ⟨fun _ _ => rfl, rfl, rfl, rfl, rfl⟩
theorem Sim.ins2 (h : Sim b x d np v r) {z op a c : Int32} (hx : nn z < 4) (h1 : Ok np (if v (6 + 4 * nn z) 3 = 12 then ((-2 : Int32), v) else (cAdd v (nn z) op a c (6 + 4 * nn z) 3, cAdd v (nn z) op a c)).2) (h2 : OkM (mIns2 r z op a c).2) : Sim b x d np (if v (6 + 4 * nn z) 3 = 12 then ((-2 : Int32), v) else (cAdd v (nn z) op a c (6 + 4 * nn z) 3, cAdd v (nn z) op a c)).2 (mIns2 r z op a c).2 := by
  have hz : v (6 + 4 * nn z) 3 = r 4 (nn z) := h.D _ _ _ _ (.psz hx)
  have e4 : ∀ t, u2 (u2 (u2 r 1 t op) 2 t a) 3 t c 4 (nn z) = r 4 (nn z) := fun t => by rw [u2_oth (by omega), u2_oth (by omega), u2_oth (by omega)]
  unfold mIns2 at h2 ⊢
  by_cases q : r 4 (nn z) = 12
  · have q' : v (6 + 4 * nn z) 3 = 12 := by rw [hz]; exact q
    rw [if_pos q, if_pos q']
    exact h
  · have q' : ¬ v (6 + 4 * nn z) 3 = 12 := by rw [hz]; exact q
    rw [if_neg q] at h2 ⊢
    rw [if_neg q'] at h1 ⊢
    try dsimp only at h2
    try dsimp only at h1
    try dsimp only
    rw [e4] at h2 ⊢
    refine h.add hx ?_ h1 h2
    obtain ⟨p1, p2⟩ := h.ok.psize hx
    have : nv v (6 + 4 * nn z) 3 ≠ 12 := fun e => q' (by rw [p1, e]; rfl)
    omega
theorem Sim.instr (h : Sim b x d np v r) (z op a c : Int32) : Sim b x d np (mInstr v z op a c).2 (mIns r z op a c).2 := by
  have k1 : Ok np (mInstr v z op a c).2 := h.ok.instr
  have k2 : OkM (mIns r z op a c).2 := h.okM.ins
  have same : Sim b x d np ((-1 : Int32), v).2 ((-1 : Int32), r).2 := h
  unfold mInstr at k1 ⊢
  unfold mIns at k2 ⊢
  by_cases c1 : inI z 4
  · have hx := (inI_nn (N := 4) rfl (by omega) c1).2
    have c1' := (io (m := 3) (by decide)).mp c1
    rw [if_pos c1] at k1 ⊢
    rw [if_neg c1'] at k2 ⊢
    by_cases c2 : inI op 13
    · have c2' := (io (m := 12) (by decide)).mp c2
      rw [if_pos c2] at k1 ⊢
      rw [if_neg c2'] at k2 ⊢
      by_cases c3 : inI a 4
      · have c3' := (io (m := 3) (by decide)).mp c3
        rw [if_pos c3] at k1 ⊢
        rw [if_neg c3'] at k2 ⊢
        by_cases e0 : op = 0
        · rw [if_pos e0] at k2 ⊢
          by_cases d1 : c < -1000
          · have hf : ¬ fitP op c := fun h => h.elim (fun q => q.2.1 d1) (fun q => q.1 e0)
            rw [if_pos d1, if_neg hf]; exact same
          · rw [if_neg d1] at k2 ⊢
            by_cases d2 : c ≤ 1000
            · have hf : fitP op c := Or.inl ⟨e0, d1, fun h => i_nlt d2 h⟩
              rw [if_pos d2] at k2 ⊢
              rw [if_pos hf] at k1 ⊢
              exact h.ins2 hx k1 k2
            · have hf : ¬ fitP op c := fun h => h.elim (fun q => q.2.2 (i_lt d2)) (fun q => q.1 e0)
              rw [if_neg d2, if_neg hf]; exact same
        · rw [if_neg e0] at k2 ⊢
          by_cases e5 : op = 5
          · by_cases d : outP c 11
            · have hf : ¬ fitP op c := fun h => h.elim (fun q => e0 q.1) (fun q => by have := q.2; rw [if_pos e5] at this; exact (io (m := 11) (by decide)).mp this d)
              rw [if_neg hf, if_pos e5, if_pos d]; exact same
            · have hf : fitP op c := Or.inr ⟨e0, by rw [if_pos e5]; exact (io (m := 11) (by decide)).mpr d⟩
              rw [if_pos e5, if_neg d] at k2
              rw [if_pos hf] at k1
              rw [if_pos hf, if_pos e5, if_neg d]
              exact h.ins2 hx k1 k2
          · by_cases d : outP c 3
            · have hf : ¬ fitP op c := fun h => h.elim (fun q => e0 q.1) (fun q => by have := q.2; rw [if_neg e5] at this; exact (io (m := 3) (by decide)).mp this d)
              rw [if_neg hf, if_neg e5, if_pos d]; exact same
            · have hf : fitP op c := Or.inr ⟨e0, by rw [if_neg e5]; exact (io (m := 3) (by decide)).mpr d⟩
              rw [if_neg e5, if_neg d] at k2
              rw [if_pos hf] at k1
              rw [if_pos hf, if_neg e5, if_neg d]
              exact h.ins2 hx k1 k2
      · rw [if_neg c3, if_pos (Classical.byContradiction fun h => c3 ((io (m := 3) (by decide)).mpr h))]; exact same
    · rw [if_neg c2, if_pos (Classical.byContradiction fun h => c2 ((io (m := 12) (by decide)).mpr h))]; exact same
  · rw [if_neg c1, if_pos (Classical.byContradiction fun h => c1 ((io (m := 3) (by decide)).mpr h))]; exact same
/-! THE READERS -/
theorem Sim.reg (h : Sim b x d np v r) (z y : Int32) : rReg v z y = mReg r z y := by
  unfold rReg mReg
  by_cases c1 : npP r z
  · rw [if_neg (fun q => (h.np_iff z).mp q c1), if_pos c1]
  · rw [if_pos ((h.np_iff z).mpr c1), if_neg c1]
    by_cases c2 : inI y 4
    · rw [if_pos c2, if_neg ((io (m := 3) (by decide)).mp c2)]
      rw [h.rg (h.named c1).2 (inI_nn (N := 4) rfl (by omega) c2).2]
    · rw [if_neg c2, if_pos (Classical.byContradiction fun q => c2 ((io (m := 3) (by decide)).mpr q))]
theorem Sim.info (h : Sim b 8 d np v r) (z y : Int32) : rInfo v z y = mInfo r z y := by
  have hle := h.le
  unfold rInfo mInfo
  by_cases c1 : npP r z
  · rw [if_neg (fun q => (h.np_iff z).mp q c1), if_pos c1]
  · rw [if_pos ((h.np_iff z).mpr c1), if_neg c1]
    obtain ⟨e, hq⟩ := h.named c1
    generalize nn z = q at hq ⊢
    rw [h.D _ _ _ _ (.state hq), h.D _ _ _ _ (.place hq), h.D _ _ _ _ (.ctr hq), h.D _ _ _ _ (.slice hq), h.D _ _ _ _ (.code hq)]
    have hp := h.pg q hq (by omega)
    rw [h.st hq] at hp
    rw [hp]
    by_cases c : r 9 q = 2
    · rw [if_pos c, if_pos c]
    · rw [if_neg c, if_neg c]; rfl
theorem Sim.line (h : Sim b 8 d np v r) (z y : Int32) : rLine v z y = mLine r z y := by
  unfold rLine mLine
  by_cases c1 : inI z 3
  · rw [if_pos c1, if_neg ((io (m := 2) (by decide)).mp c1)]
    by_cases c2 : (0 : Int32) ≤ y
    · rw [if_pos c2, if_pos c2]
      obtain ⟨ez, hz⟩ := inI_nn (N := 3) rfl (by omega) c1
      obtain ⟨t, ht, et⟩ := nI_of (x := y) (Int32.not_lt.mpr c2)
      have hst := h.stood (n := nn z) (t := t) hz ht
      rw [← ez, ← et] at hst
      rw [hst]
      obtain ⟨sz, s8, -⟩ := h.ok.size (ln_node hz)
      have ny : nn y = t := by rw [et]; exact nn_nI ht
      rw [ny]
      by_cases c3 : v (22 + 2 * nn z) 1 ≤ y
      · have c3' := ni_le sz et (by omega) ht c3
        rw [if_pos c3, List.getElem?_eq_none (by rw [ln_len]; exact c3')]
      · have c3' := ni_nle sz et (by omega) ht c3
        rw [if_neg c3, ln_get c3']
        have := h.le
        have hm : nv v (22 + 2 * nn z + 1) t ∈ ln v (22 + 2 * nn z) := List.mem_of_getElem? (ln_get c3')
        have hq := ((h.nd (nn z) hz).2 _).mp hm
        exact (h.ok.item (ln_node hz) t (by omega)).1
    · rw [if_neg c2, if_neg c2]
  · rw [if_neg c1, if_pos (Classical.byContradiction fun q => c1 ((io (m := 2) (by decide)).mpr q))]
theorem Sim.word (h : Sim b x d np v r) (z : Int32) : rWord v z = mWord r z := by
  unfold rWord mWord
  by_cases c1 : inI z 32
  · rw [if_pos c1, if_neg ((io (m := 31) (by decide)).mp c1), h.D _ _ _ _ (.mem (inI_nn (N := 32) rfl (by omega) c1).2)]
  · rw [if_neg c1, if_pos (Classical.byContradiction fun q => c1 ((io (m := 31) (by decide)).mpr q))]
theorem Sim.rightE (h : Sim b x d np v r) (z y : Int32) : rRight v z y = mRight r z y := by
  unfold rRight mRight
  by_cases c1 : inI z 3
  · rw [if_pos c1, if_neg ((io (m := 2) (by decide)).mp c1)]
    by_cases c2 : inI y 8
    · rw [if_pos c2, if_neg ((io (m := 7) (by decide)).mp c2)]
      exact h.right (inI_nn (N := 8) rfl (by omega) c2).2 (inI_nn (N := 3) rfl (by omega) c1).2
    · rw [if_neg c2, if_pos (Classical.byContradiction fun q => c2 ((io (m := 7) (by decide)).mpr q))]
  · rw [if_neg c1, if_pos (Classical.byContradiction fun q => c1 ((io (m := 2) (by decide)).mpr q))]
theorem Sim.owner (h : Sim b x d np v r) (z : Int32) : rOwner v z = mOwner r z := by
  unfold rOwner mOwner
  by_cases c1 : inI z 8
  · rw [if_pos c1, if_neg ((io (m := 7) (by decide)).mp c1)]
    exact h.D _ _ _ _ (.own (inI_nn (N := 8) rfl (by omega) c1).2)
  · rw [if_neg c1, if_pos (Classical.byContradiction fun q => c1 ((io (m := 7) (by decide)).mpr q))]
/-- all lines of a kind, one behind the other -/
def cat (v : Vs) (f : Nat → Nat) : Nat → List Nat
  | 0 => []
  | k + 1 => cat v f k ++ ln v (f k)
theorem cat_spec {f : Nat → Nat} {P : Nat → Nat → Prop} {key : Nat → Nat → Nat} {N : Nat} (hL : ∀ j, j < N → LOK np (ln v (f j)) (P j) (key j)) (hd : ∀ i j j', j < N → j' < N → P j i → P j' i → j = j') : ∀ k, k ≤ N → (cat v f k).Nodup ∧ ∀ i, i ∈ cat v f k ↔ i < np ∧ ∃ j, j < k ∧ P j i := by
  intro k
  induction k with
  | zero => intro _; exact ⟨List.nodup_nil, fun i => ⟨fun q => absurd q List.not_mem_nil, fun ⟨_, j, hj, _⟩ => by omega⟩⟩
  | succ k ih =>
    intro hk
    obtain ⟨h1, h2⟩ := ih (by omega)
    have hl := hL k (by omega)
    refine ⟨?_, fun i => ?_⟩
    · show (cat v f k ++ ln v (f k)).Nodup
      rw [List.nodup_append]
      refine ⟨h1, hl.nodup, fun a ha c hc e => ?_⟩
      subst e
      obtain ⟨q1, j, q2, q3⟩ := (h2 a).mp ha
      have := hd a j k (by omega) (by omega) q3 ((hl.2 a).mp hc).2
      omega
    · show i ∈ cat v f k ++ ln v (f k) ↔ _
      rw [List.mem_append, h2 i, hl.2 i]
      constructor
      · rintro (⟨q1, j, q2, q3⟩ | ⟨q1, q2⟩)
        · exact ⟨q1, j, by omega, q3⟩
        · exact ⟨q1, k, by omega, q2⟩
      · rintro ⟨q1, j, q2, q3⟩
        by_cases e : j = k
        · subst e; exact Or.inr ⟨q1, q3⟩
        · exact Or.inl ⟨q1, j, by omega, q3⟩
theorem ctL_spec : ∀ (k q a c : Nat), mCtL r k q a c = (a + ((List.range' q k).filter (fun i => decide (r 15 i ≠ 0))).length, c + ((List.range' q k).filter (fun i => decide (r 9 i = 1))).length) := by
  intro k
  induction k with
  | zero => intro q a c; simp [mCtL]
  | succ k ih =>
    intro q a c
    simp only [mCtL, List.range'_succ]
    rw [ih]
    by_cases c1 : r 15 q = 0
    · rw [if_pos c1, List.filter_cons_of_neg (by simp [c1])]
      by_cases c2 : r 9 q = 1
      · rw [if_pos c2, List.filter_cons_of_pos (by simp [c2])]; simp only [List.length_cons]; congr 1; omega
      · rw [if_neg c2, List.filter_cons_of_neg (by simp [c2])]
    · rw [if_neg c1, List.filter_cons_of_pos (by simp [c1])]
      by_cases c2 : r 9 q = 1
      · rw [if_pos c2, List.filter_cons_of_pos (by simp [c2])]; simp only [List.length_cons]; congr 1 <;> omega
      · rw [if_neg c2, List.filter_cons_of_neg (by simp [c2])]; simp only [List.length_cons]; congr 1; omega
theorem reqL_spec (h : Sim b x d np v r) : ∀ (k j : Nat), j + k = 8 → cReqL v k j (nI (cat v (fun j => 28 + 5 * j + 3) j).length) = nI (cat v (fun j => 28 + 5 * j + 3) 8).length := by
  intro k
  induction k with
  | zero => intro j hj; simp only [cReqL]; rw [show j = 8 by omega]
  | succ k ih =>
    intro j hj
    simp only [cReqL]
    have e := (h.ok.size (ln_page (j := j) (by omega))).1
    rw [← ih (j + 1) (by omega), ni_add rfl e]
    congr 2
    show _ = (cat v (fun j => 28 + 5 * j + 3) j ++ ln v (28 + 5 * j + 3)).length
    rw [List.length_append, ln_len]
theorem rdyL_spec (h : Sim b x d np v r) : ∀ (k j : Nat), j + k = 3 → cRdyL v k j (nI (cat v (fun j => 22 + 2 * j) j).length) = nI (cat v (fun j => 22 + 2 * j) 3).length := by
  intro k
  induction k with
  | zero => intro j hj; simp only [cRdyL]; rw [show j = 3 by omega]
  | succ k ih =>
    intro j hj
    simp only [cRdyL]
    have e := (h.ok.size (ln_node (n := j) (by omega))).1
    rw [← ih (j + 1) (by omega), ni_add rfl e]
    congr 2
    show _ = (cat v (fun j => 22 + 2 * j) j ++ ln v (22 + 2 * j)).length
    rw [List.length_append, ln_len]
theorem Sim.count (h : Sim b 8 0 np v r) (y : Int32) : rCount v y = mCount r y := by
  have hle := h.le
  have hm := h.made
  unfold rCount mCount
  rw [h.D _ _ _ _ .made, h.D _ _ _ _ .msg, h.D _ _ _ _ .flt, h.D _ _ _ _ .giv, h.gr, Int32.add_zero, hm, ctL_spec, ← List.range_eq_range']
  have e4 : cReqL v 8 0 0 = nI (0 + ((List.range np).filter (fun i => decide (r 15 i ≠ 0))).length) := by
    have := reqL_spec h 8 0 (by omega)
    have this : cReqL v 8 0 0 = _ := this
    rw [this, Nat.zero_add]
    congr 1
    obtain ⟨n1, n2⟩ := cat_spec (v := v) (np := np) (f := fun j => 28 + 5 * j + 3) (P := fun j i => r 15 i ≠ 0 ∧ r 16 i = nI j) (key := fun _ i => nv r 15 i) (N := 8) (fun j hj => h.rq j hj) (fun i j j' hj hj' q1 q2 => by
      have := q1.2.symm.trans q2.2
      exact (nI_eq (by omega) (by omega)).mp this) 8 (by omega)
    refine nodup_eq n1 (List.nodup_range.filter _) (fun i => ?_)
    rw [n2, List.mem_filter, List.mem_range, decide_eq_true_iff]
    constructor
    · rintro ⟨q1, j, q2, q3⟩; exact ⟨q1, q3.1⟩
    · rintro ⟨q1, q2⟩
      obtain ⟨j, hj, e⟩ := h.rx i q1 q2
      exact ⟨q1, j, hj, q2, e⟩
  have e5 : cRdyL v 3 0 0 = nI (0 + ((List.range np).filter (fun i => decide (r 9 i = 1))).length) := by
    have := rdyL_spec h 3 0 (by omega)
    have this : cRdyL v 3 0 0 = _ := this
    rw [this, Nat.zero_add]
    congr 1
    obtain ⟨n1, n2⟩ := cat_spec (v := v) (np := np) (f := fun j => 22 + 2 * j) (P := fun j i => i ≠ 8 ∧ r 9 i = 1 ∧ r 8 i = nI j) (key := fun _ i => nv r 10 i) (N := 3) (fun j hj => h.nd j hj) (fun i j j' hj hj' q1 q2 => by
      have := q1.2.2.symm.trans q2.2.2
      exact (nI_eq (by omega) (by omega)).mp this) 3 (by omega)
    refine nodup_eq n1 (List.nodup_range.filter _) (fun i => ?_)
    rw [n2, List.mem_filter, List.mem_range, decide_eq_true_iff]
    constructor
    · rintro ⟨q1, j, q2, q3⟩; exact ⟨q1, q3.2.1⟩
    · rintro ⟨q1, q2⟩
      have o := h.okM.c8 i
      exact ⟨q1, nv r 8 i, o.2, by omega, q2, o.1⟩
  rw [e4, e5]
end SB
/-! AT FIRST -/
theorem sim_0 : Sim 0 8 0 0 vC0 rM0 := by
  have zn : ∀ k j, k ≠ 14 ∧ k ≠ 21 → nv rM0 k j = 0 := fun k j hk => by unfold nv; rw [rM0_z hk]; rfl
  have zv : ∀ k j, k < 28 ∨ 68 ≤ k ∨ (k - 28) % 5 ≠ 0 → nv vC0 k j = 0 := fun k j hk => by unfold nv; rw [vC0_z hk]; rfl
  have el : ∀ k, nv vC0 k 1 = 0 → ln vC0 k = [] := fun k hk => List.length_eq_zero_iff.mp (by rw [ln_len]; exact hk)
  refine Sim.intro ⟨ok_0, okM_0, fun k j k' j' H => ?_, ?_, fun n hn => ?_, fun j hj => ?_, ?_, ?_, ?_, ?_, ?_, ?_, ?_, ?_, ?_, ?_, ?_, ?_, ?_, ?_, by decide⟩
  · refine Mp.cs (M := fun k j k' j' => vC0 k j = rM0 k' j') ?_ ?_ ?_ ?_ ?_ ?_ ?_ ?_ ?_ ?_ ?_ ?_ ?_ ?_ ?_ ?_ ?_ H <;> (try dsimp only)
    · rw [vC0_z (by omega), rM0_z (by omega)]
    · rw [vC0_z (by omega), rM0_z (by omega)]
    · rw [vC0_z (by omega), rM0_z (by omega)]
    · rw [vC0_z (by omega), rM0_z (by omega)]
    · intro w9 hw
      rw [vC0_z (by omega), rM0_z (by omega)]
    · intro i9 hw
      rw [vC0_z (by omega), rM0_z (by omega)]
    · intro i9 o9 t9 q1 q2 q3 q4
      rw [vC0_z (by omega), rM0_z (by omega)]
    · intro j9 hw
      rw [vC0_h hw]
      unfold rM0
      rw [if_neg (by omega), if_pos rfl]
      rcases (show j9 = 0 ∨ j9 = 1 ∨ j9 = 2 ∨ j9 = 3 ∨ j9 = 4 ∨ j9 = 5 ∨ j9 = 6 ∨ j9 = 7 by omega) with rfl | rfl | rfl | rfl | rfl | rfl | rfl | rfl <;> rfl
    · intro j9 n9 q1 q2
      rw [vC0_z (by omega), rM0_z (by omega)]
    · intro i9 hw
      omega
    · intro i9 hw
      omega
    · intro i9 hw
      omega
    · intro i9 hw
      omega
    · intro i9 hw
      omega
    · intro i9 hw
      omega
    · intro i9 a9 q1 q2
      omega
    · intro i9 n9 q1 q2 q3
      omega
  · rw [vC0_z (by omega), rM0_z (by omega)]; rfl
  · rw [el _ (zv _ _ (by omega))]
    exact ⟨List.Pairwise.nil, fun i => ⟨fun q => absurd q List.not_mem_nil, fun q => by omega⟩⟩
  · rw [el _ (zv _ _ (by omega))]
    exact ⟨List.Pairwise.nil, fun i => ⟨fun q => absurd q List.not_mem_nil, fun q => by omega⟩⟩
  · rw [zn 0 23 (by omega), rM0_z (by omega)]; exact ⟨rfl, by omega⟩
  · intro q _; rw [zn 10 q (by omega), zn 0 23 (by omega), rM0_z (by omega)]; exact ⟨rfl, by omega⟩
  · intro q _; rw [zn 15 q (by omega), zn 0 23 (by omega), rM0_z (by omega)]; exact ⟨rfl, by omega⟩
  · intro q _; rw [zn 20 q (by omega), zn 0 23 (by omega), rM0_z (by omega)]; exact ⟨rfl, by omega⟩
  · rw [zv 0 6 (by omega), vC0_z (by omega)]; exact ⟨rfl, by omega⟩
  · intro n _ j _; rw [zv (28 + 5 * j + 2) n (by omega), zv 0 6 (by omega), vC0_z (by omega)]; exact ⟨rfl, by omega⟩
  · intro n _ j _ j' _; rw [zv (28 + 5 * j + 2) n (by omega), zv (28 + 5 * j' + 2) n (by omega), zn 20 _ (by omega), zn 20 _ (by omega)]
  · intro i hi; omega
  · intro i hi; omega
  · intro i hi; omega
  · intro i hi; omega
  · intro i _ _; exact ⟨fun a _ => rM0_z (by omega), rM0_z (by omega), rM0_z (by omega), rM0_z (by omega), rM0_z (by omega), rM0_z (by omega)⟩
  · intro j _ n _; exact Or.inl (vC0_z (by omega))
  · intro i hi; omega
