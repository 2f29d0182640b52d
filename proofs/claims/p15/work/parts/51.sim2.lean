/-! THE TIE: which slot of the class is which of the reference -/
def Mp (np k j k' j' : Nat) : Prop :=
  (k = 0 ∧ j = 5 ∧ k' = 0 ∧ j' = 14) ∨
  (k = 0 ∧ j = 7 ∧ k' = 0 ∧ j' = 24) ∨
  (k = 0 ∧ j = 8 ∧ k' = 0 ∧ j' = 25) ∨
  (k = 0 ∧ j = 9 ∧ k' = 0 ∧ j' = 26) ∨
  (k = 5 ∧ j = j' ∧ k' = 18 ∧ j' < 32) ∨
  (k = 6 + 4 * j' ∧ j = 3 ∧ k' = 4 ∧ j' < 4) ∨
  (k = 6 + 4 * (j' / 12) + k' ∧ j = j' % 12 ∧ 1 ≤ k' ∧ k' ≤ 3 ∧ j' < 48) ∨
  (k = 28 + 5 * j' ∧ j = 3 ∧ k' = 21 ∧ j' < 8) ∨
  (k = 28 + 5 * (j' % 8) + 1 ∧ j = j' / 8 ∧ k' = 19 ∧ j' < 24) ∨
  (k = 68 + 3 * j' ∧ j = 1 ∧ k' = 5 ∧ j' < np) ∨
  (k = 68 + 3 * j' ∧ j = 4 ∧ k' = 8 ∧ j' < np) ∨
  (k = 68 + 3 * j' ∧ j = 5 ∧ k' = 9 ∧ j' < np) ∨
  (k = 68 + 3 * j' ∧ j = 6 ∧ k' = 7 ∧ j' < np) ∨
  (k = 68 + 3 * j' ∧ j = 7 ∧ k' = 11 ∧ j' < np) ∨
  (k = 68 + 3 * j' ∧ j = 8 ∧ k' = 12 ∧ j' < np) ∨
  (k = 68 + 3 * (j' / 4) + 1 ∧ j = j' % 4 ∧ k' = 6 ∧ j' / 4 < np) ∨
  (k = 68 + 3 * (j' % 8) + 2 ∧ j = j' / 8 ∧ k' = 22 ∧ j' % 8 < np ∧ j' < 24)
theorem Mp.made {np : Nat}  : Mp np 0 5 0 14 := Or.inl (by omega)
theorem Mp.msg {np : Nat}  : Mp np 0 7 0 24 := Or.inr (Or.inl (by omega))
theorem Mp.flt {np : Nat}  : Mp np 0 8 0 25 := Or.inr (Or.inr (Or.inl (by omega)))
theorem Mp.giv {np : Nat}  : Mp np 0 9 0 26 := Or.inr (Or.inr (Or.inr (Or.inl (by omega))))
theorem Mp.mem {np : Nat} {w : Nat} (h0 : w < 32) : Mp np 5 w 18 w := Or.inr (Or.inr (Or.inr (Or.inr (Or.inl (by omega)))))
theorem Mp.psz {np : Nat} {i : Nat} (h0 : i < 4) : Mp np (6 + 4 * i) 3 4 i := Or.inr (Or.inr (Or.inr (Or.inr (Or.inr (Or.inl (by omega))))))
theorem Mp.pin {np : Nat} {i o t : Nat} (h0 : i < 4) (h1 : 1 ≤ o) (h2 : o ≤ 3) (h3 : t < 12) : Mp np (6 + 4 * i + o) t o (12 * i + t) := Or.inr (Or.inr (Or.inr (Or.inr (Or.inr (Or.inr (Or.inl (by omega)))))))
theorem Mp.own {np : Nat} {j : Nat} (h0 : j < 8) : Mp np (28 + 5 * j) 3 21 j := Or.inr (Or.inr (Or.inr (Or.inr (Or.inr (Or.inr (Or.inr (Or.inl (by omega))))))))
theorem Mp.rt {np : Nat} {j n : Nat} (h0 : j < 8) (h1 : n < 3) : Mp np (28 + 5 * j + 1) n 19 (8 * n + j) := Or.inr (Or.inr (Or.inr (Or.inr (Or.inr (Or.inr (Or.inr (Or.inr (Or.inl (by omega)))))))))
theorem Mp.prog {np : Nat} {i : Nat} (h0 : i < np) : Mp np (68 + 3 * i) 1 5 i := Or.inr (Or.inr (Or.inr (Or.inr (Or.inr (Or.inr (Or.inr (Or.inr (Or.inr (Or.inl (by omega))))))))))
theorem Mp.place {np : Nat} {i : Nat} (h0 : i < np) : Mp np (68 + 3 * i) 4 8 i := Or.inr (Or.inr (Or.inr (Or.inr (Or.inr (Or.inr (Or.inr (Or.inr (Or.inr (Or.inr (Or.inl (by omega)))))))))))
theorem Mp.state {np : Nat} {i : Nat} (h0 : i < np) : Mp np (68 + 3 * i) 5 9 i := Or.inr (Or.inr (Or.inr (Or.inr (Or.inr (Or.inr (Or.inr (Or.inr (Or.inr (Or.inr (Or.inr (Or.inl (by omega))))))))))))
theorem Mp.ctr {np : Nat} {i : Nat} (h0 : i < np) : Mp np (68 + 3 * i) 6 7 i := Or.inr (Or.inr (Or.inr (Or.inr (Or.inr (Or.inr (Or.inr (Or.inr (Or.inr (Or.inr (Or.inr (Or.inr (Or.inl (by omega)))))))))))))
theorem Mp.slice {np : Nat} {i : Nat} (h0 : i < np) : Mp np (68 + 3 * i) 7 11 i := Or.inr (Or.inr (Or.inr (Or.inr (Or.inr (Or.inr (Or.inr (Or.inr (Or.inr (Or.inr (Or.inr (Or.inr (Or.inr (Or.inl (by omega))))))))))))))
theorem Mp.code {np : Nat} {i : Nat} (h0 : i < np) : Mp np (68 + 3 * i) 8 12 i := Or.inr (Or.inr (Or.inr (Or.inr (Or.inr (Or.inr (Or.inr (Or.inr (Or.inr (Or.inr (Or.inr (Or.inr (Or.inr (Or.inr (Or.inl (by omega)))))))))))))))
theorem Mp.reg {np : Nat} {i a : Nat} (h0 : i < np) (h1 : a < 4) : Mp np (68 + 3 * i + 1) a 6 (4 * i + a) := Or.inr (Or.inr (Or.inr (Or.inr (Or.inr (Or.inr (Or.inr (Or.inr (Or.inr (Or.inr (Or.inr (Or.inr (Or.inr (Or.inr (Or.inr (Or.inl (by omega))))))))))))))))
theorem Mp.hint {np : Nat} {i n : Nat} (h0 : i < np) (h1 : i < 8) (h2 : n < 3) : Mp np (68 + 3 * i + 2) n 22 (8 * n + i) := Or.inr (Or.inr (Or.inr (Or.inr (Or.inr (Or.inr (Or.inr (Or.inr (Or.inr (Or.inr (Or.inr (Or.inr (Or.inr (Or.inr (Or.inr (Or.inr ((by omega)))))))))))))))))
theorem Mp.tr {M : Nat → Nat → Nat → Nat → Prop} {a b c d a' b' c' d' : Nat} (h1 : a = a') (h2 : b = b') (h3 : c = c') (h4 : d = d') (h : M a' b' c' d') : M a b c d := by
  rw [h1, h2, h3, h4]
  exact h
theorem Mp.cs {np : Nat} {M : Nat → Nat → Nat → Nat → Prop} (c_made : M 0 5 0 14) (c_msg : M 0 7 0 24) (c_flt : M 0 8 0 25) (c_giv : M 0 9 0 26) (c_mem : ∀ w : Nat, w < 32 → M 5 w 18 w) (c_psz : ∀ i : Nat, i < 4 → M (6 + 4 * i) 3 4 i) (c_pin : ∀ i o t : Nat, i < 4 → 1 ≤ o → o ≤ 3 → t < 12 → M (6 + 4 * i + o) t o (12 * i + t)) (c_own : ∀ j : Nat, j < 8 → M (28 + 5 * j) 3 21 j) (c_rt : ∀ j n : Nat, j < 8 → n < 3 → M (28 + 5 * j + 1) n 19 (8 * n + j)) (c_prog : ∀ i : Nat, i < np → M (68 + 3 * i) 1 5 i) (c_place : ∀ i : Nat, i < np → M (68 + 3 * i) 4 8 i) (c_state : ∀ i : Nat, i < np → M (68 + 3 * i) 5 9 i) (c_ctr : ∀ i : Nat, i < np → M (68 + 3 * i) 6 7 i) (c_slice : ∀ i : Nat, i < np → M (68 + 3 * i) 7 11 i) (c_code : ∀ i : Nat, i < np → M (68 + 3 * i) 8 12 i) (c_reg : ∀ i a : Nat, i < np → a < 4 → M (68 + 3 * i + 1) a 6 (4 * i + a)) (c_hint : ∀ i n : Nat, i < np → i < 8 → n < 3 → M (68 + 3 * i + 2) n 22 (8 * n + i)) {k j k' j' : Nat} (h : Mp np k j k' j') : M k j k' j' := by
  rcases h with h | h | h | h | h | h | h | h | h | h | h | h | h | h | h | h | h
  · obtain ⟨rfl, rfl, rfl, rfl⟩ := h; exact c_made
  · obtain ⟨rfl, rfl, rfl, rfl⟩ := h; exact c_msg
  · obtain ⟨rfl, rfl, rfl, rfl⟩ := h; exact c_flt
  · obtain ⟨rfl, rfl, rfl, rfl⟩ := h; exact c_giv
  · have q := c_mem j' (by omega)
    have e : k = 5 ∧ j = j' ∧ k' = 18 ∧ j' = j' := by omega
    exact Mp.tr e.1 e.2.1 e.2.2.1 e.2.2.2 q
  · have q := c_psz j' (by omega)
    have e : k = 6 + 4 * j' ∧ j = 3 ∧ k' = 4 ∧ j' = j' := by omega
    exact Mp.tr e.1 e.2.1 e.2.2.1 e.2.2.2 q
  · have q := c_pin (j' / 12) k' (j' % 12) (by omega) (by omega) (by omega) (by omega)
    have e : k = 6 + 4 * (j' / 12) + k' ∧ j = (j' % 12) ∧ k' = k' ∧ j' = 12 * (j' / 12) + (j' % 12) := by omega
    exact Mp.tr e.1 e.2.1 e.2.2.1 e.2.2.2 q
  · have q := c_own j' (by omega)
    have e : k = 28 + 5 * j' ∧ j = 3 ∧ k' = 21 ∧ j' = j' := by omega
    exact Mp.tr e.1 e.2.1 e.2.2.1 e.2.2.2 q
  · have q := c_rt (j' % 8) (j' / 8) (by omega) (by omega)
    have e : k = 28 + 5 * (j' % 8) + 1 ∧ j = (j' / 8) ∧ k' = 19 ∧ j' = 8 * (j' / 8) + (j' % 8) := by omega
    exact Mp.tr e.1 e.2.1 e.2.2.1 e.2.2.2 q
  · have q := c_prog j' (by omega)
    have e : k = 68 + 3 * j' ∧ j = 1 ∧ k' = 5 ∧ j' = j' := by omega
    exact Mp.tr e.1 e.2.1 e.2.2.1 e.2.2.2 q
  · have q := c_place j' (by omega)
    have e : k = 68 + 3 * j' ∧ j = 4 ∧ k' = 8 ∧ j' = j' := by omega
    exact Mp.tr e.1 e.2.1 e.2.2.1 e.2.2.2 q
  · have q := c_state j' (by omega)
    have e : k = 68 + 3 * j' ∧ j = 5 ∧ k' = 9 ∧ j' = j' := by omega
    exact Mp.tr e.1 e.2.1 e.2.2.1 e.2.2.2 q
  · have q := c_ctr j' (by omega)
    have e : k = 68 + 3 * j' ∧ j = 6 ∧ k' = 7 ∧ j' = j' := by omega
    exact Mp.tr e.1 e.2.1 e.2.2.1 e.2.2.2 q
  · have q := c_slice j' (by omega)
    have e : k = 68 + 3 * j' ∧ j = 7 ∧ k' = 11 ∧ j' = j' := by omega
    exact Mp.tr e.1 e.2.1 e.2.2.1 e.2.2.2 q
  · have q := c_code j' (by omega)
    have e : k = 68 + 3 * j' ∧ j = 8 ∧ k' = 12 ∧ j' = j' := by omega
    exact Mp.tr e.1 e.2.1 e.2.2.1 e.2.2.2 q
  · have q := c_reg (j' / 4) (j' % 4) (by omega) (by omega)
    have e : k = 68 + 3 * (j' / 4) + 1 ∧ j = (j' % 4) ∧ k' = 6 ∧ j' = 4 * (j' / 4) + (j' % 4) := by omega
    exact Mp.tr e.1 e.2.1 e.2.2.1 e.2.2.2 q
  · have q := c_hint (j' % 8) (j' / 8) (by omega) (by omega) (by omega)
    have e : k = 68 + 3 * (j' % 8) + 2 ∧ j = (j' / 8) ∧ k' = 22 ∧ j' = 8 * (j' / 8) + (j' % 8) := by omega
    exact Mp.tr e.1 e.2.1 e.2.2.1 e.2.2.2 q
set_option maxHeartbeats 4000000 in
theorem Mp.inj {np k j k' j' K J K' J' : Nat} (h : Mp np k j k' j') (H : Mp np K J K' J') : (K = k ∧ J = j) ↔ (K' = k' ∧ J' = j') := by
  rcases h with h | h | h | h | h | h | h | h | h | h | h | h | h | h | h | h | h <;> rcases H with H | H | H | H | H | H | H | H | H | H | H | H | H | H | H | H | H <;> omega
section MPF
variable {np k j k' j' : Nat}
theorem Mp.f1 (h : Mp np k j k' j') (K : Nat) (q1 : 22 ≤ K) (q2 : K < 28) : K ≠ k := by rcases h with h | h | h | h | h | h | h | h | h | h | h | h | h | h | h | h | h <;> omega
theorem Mp.f2 (h : Mp np k j k' j') (J o : Nat) (q : J < 8) (h2 : 2 ≤ o) (h4 : o ≤ 4) : 28 + 5 * J + o ≠ k := by rcases h with h | h | h | h | h | h | h | h | h | h | h | h | h | h | h | h | h <;> omega
theorem Mp.f3 (h : Mp np k j k' j') (o : Nat) (ho : o = 6 ∨ o = 10) : 0 ≠ k ∨ o ≠ j := by rcases h with h | h | h | h | h | h | h | h | h | h | h | h | h | h | h | h | h <;> omega
theorem Mp.f4 (h : Mp np k j k' j') (i o : Nat) (ho : o = 9 ∨ o = 10 ∨ o = 11) : 68 + 3 * i ≠ k ∨ o ≠ j := by rcases h with h | h | h | h | h | h | h | h | h | h | h | h | h | h | h | h | h <;> omega
theorem Mp.f5 (h : Mp np k j k' j') (i : Nat) (hi : k' = 9 → i ≠ j') : 68 + 3 * i ≠ k ∨ 5 ≠ j := by rcases h with h | h | h | h | h | h | h | h | h | h | h | h | h | h | h | h | h <;> omega
theorem Mp.f6 (h : Mp np k j k' j') (J : Nat) (hJ : J < 8) (e : 28 + 5 * J + 1 = k) : k' = 19 := by rcases h with h | h | h | h | h | h | h | h | h | h | h | h | h | h | h | h | h <;> omega
theorem Mp.g1 (h : Mp np k j k' j') (K : Nat) (hK : K = 10 ∨ K = 13 ∨ K = 14 ∨ K = 15 ∨ K = 16 ∨ K = 17 ∨ K = 20) : K ≠ k' := by rcases h with h | h | h | h | h | h | h | h | h | h | h | h | h | h | h | h | h <;> omega
theorem Mp.g2 (h : Mp np k j k' j') (o : Nat) (ho : o = 23 ∨ o = 27) : 0 ≠ k' ∨ o ≠ j' := by rcases h with h | h | h | h | h | h | h | h | h | h | h | h | h | h | h | h | h <;> omega
theorem Mp.g3 (h : Mp np k j k' j') (i a : Nat) (hi : np ≤ i) (ha : a < 4) : 6 ≠ k' ∨ 4 * i + a ≠ j' := by rcases h with h | h | h | h | h | h | h | h | h | h | h | h | h | h | h | h | h <;> omega
theorem Mp.g4 (h : Mp np k j k' j') (K i : Nat) (hi : np ≤ i) (hK : K = 7 ∨ K = 12 ∨ K = 9 ∨ K = 11) : K ≠ k' ∨ i ≠ j' := by rcases h with h | h | h | h | h | h | h | h | h | h | h | h | h | h | h | h | h <;> omega
end MPF
def Sim (b x : Nat) (d : Int32) (np : Nat) (v r : Vs) : Prop :=
  (Ok np v) ∧
  (OkM r) ∧
  (∀ k j k' j', Mp np k j k' j' → v k j = r k' j') ∧
  (v 0 10 = r 0 27 + d) ∧
  (∀ n, n < 3 → LOK np (ln v (22 + 2 * n)) (fun i => i ≠ x ∧ r 9 i = 1 ∧ r 8 i = nI n) (fun i => nv r 10 i)) ∧
  (∀ j, j < 8 → LOK np (ln v (28 + 5 * j + 3)) (fun i => r 15 i ≠ 0 ∧ r 16 i = nI j) (fun i => nv r 15 i)) ∧
  (r 0 23 = nI (nv r 0 23) ∧ nv r 0 23 ≤ b) ∧
  (∀ q, q < 8 → r 10 q = nI (nv r 10 q) ∧ nv r 10 q ≤ nv r 0 23) ∧
  (∀ q, q < 8 → r 15 q = nI (nv r 15 q) ∧ nv r 15 q ≤ nv r 0 23) ∧
  (∀ q, q < 24 → r 20 q = nI (nv r 20 q) ∧ nv r 20 q ≤ nv r 0 23) ∧
  (v 0 6 = nI (nv v 0 6) ∧ nv v 0 6 ≤ b) ∧
  (∀ n, n < 3 → ∀ j, j < 8 → v (28 + 5 * j + 2) n = nI (nv v (28 + 5 * j + 2) n) ∧ nv v (28 + 5 * j + 2) n ≤ nv v 0 6) ∧
  (∀ n, n < 3 → ∀ j, j < 8 → ∀ j', j' < 8 → (nv v (28 + 5 * j + 2) n ≤ nv v (28 + 5 * j' + 2) n ↔ nv r 20 (8 * n + j) ≤ nv r 20 (8 * n + j'))) ∧
  (∀ i, i < np → i ≠ x → r 14 i = if v (68 + 3 * i) 5 = 2 then v (68 + 3 * i) 9 else 8) ∧
  (∀ i, i < np → i ≠ x → v (68 + 3 * i) 5 = 3 → v (68 + 3 * i) 11 = r 13 i) ∧
  (∀ i, i < np → i ≠ x → r 15 i ≠ 0 → r 17 i = if v (68 + 3 * i) 10 = 2 then 1 else 0) ∧
  (∀ i, i < np → i ≠ x → r 15 i ≠ 0 → r 9 i = 2 ∨ r 9 i = 4) ∧
  (∀ i, np ≤ i → i < 8 → (∀ a, a < 4 → r 6 (4 * i + a) = 0) ∧ r 7 i = 0 ∧ r 12 i = 0 ∧ r 15 i = 0 ∧ r 9 i = 0 ∧ r 11 i = 0) ∧
  (∀ j, j < 8 → ∀ n, n < 3 → v (28 + 5 * j + 1) n = 0 ∨ v (28 + 5 * j + 1) n = 1 ∨ v (28 + 5 * j + 1) n = 2) ∧
  (∀ i, i < np → r 15 i ≠ 0 → ∃ j, j < 8 ∧ r 16 i = nI j) ∧
  (b < 2 ^ 30)
theorem Sim.intro {b x : Nat} {d : Int32} {np : Nat} {v r : Vs} (h : (Ok np v) ∧
  (OkM r) ∧
  (∀ k j k' j', Mp np k j k' j' → v k j = r k' j') ∧
  (v 0 10 = r 0 27 + d) ∧
  (∀ n, n < 3 → LOK np (ln v (22 + 2 * n)) (fun i => i ≠ x ∧ r 9 i = 1 ∧ r 8 i = nI n) (fun i => nv r 10 i)) ∧
  (∀ j, j < 8 → LOK np (ln v (28 + 5 * j + 3)) (fun i => r 15 i ≠ 0 ∧ r 16 i = nI j) (fun i => nv r 15 i)) ∧
  (r 0 23 = nI (nv r 0 23) ∧ nv r 0 23 ≤ b) ∧
  (∀ q, q < 8 → r 10 q = nI (nv r 10 q) ∧ nv r 10 q ≤ nv r 0 23) ∧
  (∀ q, q < 8 → r 15 q = nI (nv r 15 q) ∧ nv r 15 q ≤ nv r 0 23) ∧
  (∀ q, q < 24 → r 20 q = nI (nv r 20 q) ∧ nv r 20 q ≤ nv r 0 23) ∧
  (v 0 6 = nI (nv v 0 6) ∧ nv v 0 6 ≤ b) ∧
  (∀ n, n < 3 → ∀ j, j < 8 → v (28 + 5 * j + 2) n = nI (nv v (28 + 5 * j + 2) n) ∧ nv v (28 + 5 * j + 2) n ≤ nv v 0 6) ∧
  (∀ n, n < 3 → ∀ j, j < 8 → ∀ j', j' < 8 → (nv v (28 + 5 * j + 2) n ≤ nv v (28 + 5 * j' + 2) n ↔ nv r 20 (8 * n + j) ≤ nv r 20 (8 * n + j'))) ∧
  (∀ i, i < np → i ≠ x → r 14 i = if v (68 + 3 * i) 5 = 2 then v (68 + 3 * i) 9 else 8) ∧
  (∀ i, i < np → i ≠ x → v (68 + 3 * i) 5 = 3 → v (68 + 3 * i) 11 = r 13 i) ∧
  (∀ i, i < np → i ≠ x → r 15 i ≠ 0 → r 17 i = if v (68 + 3 * i) 10 = 2 then 1 else 0) ∧
  (∀ i, i < np → i ≠ x → r 15 i ≠ 0 → r 9 i = 2 ∨ r 9 i = 4) ∧
  (∀ i, np ≤ i → i < 8 → (∀ a, a < 4 → r 6 (4 * i + a) = 0) ∧ r 7 i = 0 ∧ r 12 i = 0 ∧ r 15 i = 0 ∧ r 9 i = 0 ∧ r 11 i = 0) ∧
  (∀ j, j < 8 → ∀ n, n < 3 → v (28 + 5 * j + 1) n = 0 ∨ v (28 + 5 * j + 1) n = 1 ∨ v (28 + 5 * j + 1) n = 2) ∧
  (∀ i, i < np → r 15 i ≠ 0 → ∃ j, j < 8 ∧ r 16 i = nI j) ∧
  (b < 2 ^ 30)) : Sim b x d np v r := h
theorem Sim.ok {b x : Nat} {d : Int32} {np : Nat} {v r : Vs} (h : Sim b x d np v r) : Ok np v := h.1
theorem Sim.okM {b x : Nat} {d : Int32} {np : Nat} {v r : Vs} (h : Sim b x d np v r) : OkM r := h.2.1
theorem Sim.D {b x : Nat} {d : Int32} {np : Nat} {v r : Vs} (h : Sim b x d np v r) : ∀ k j k' j', Mp np k j k' j' → v k j = r k' j' := h.2.2.1
theorem Sim.gr {b x : Nat} {d : Int32} {np : Nat} {v r : Vs} (h : Sim b x d np v r) : v 0 10 = r 0 27 + d := h.2.2.2.1
theorem Sim.nd {b x : Nat} {d : Int32} {np : Nat} {v r : Vs} (h : Sim b x d np v r) : ∀ n, n < 3 → LOK np (ln v (22 + 2 * n)) (fun i => i ≠ x ∧ r 9 i = 1 ∧ r 8 i = nI n) (fun i => nv r 10 i) := h.2.2.2.2.1
theorem Sim.rq {b x : Nat} {d : Int32} {np : Nat} {v r : Vs} (h : Sim b x d np v r) : ∀ j, j < 8 → LOK np (ln v (28 + 5 * j + 3)) (fun i => r 15 i ≠ 0 ∧ r 16 i = nI j) (fun i => nv r 15 i) := h.2.2.2.2.2.1
theorem Sim.tm {b x : Nat} {d : Int32} {np : Nat} {v r : Vs} (h : Sim b x d np v r) : r 0 23 = nI (nv r 0 23) ∧ nv r 0 23 ≤ b := h.2.2.2.2.2.2.1
theorem Sim.t10 {b x : Nat} {d : Int32} {np : Nat} {v r : Vs} (h : Sim b x d np v r) : ∀ q, q < 8 → r 10 q = nI (nv r 10 q) ∧ nv r 10 q ≤ nv r 0 23 := h.2.2.2.2.2.2.2.1
theorem Sim.t15 {b x : Nat} {d : Int32} {np : Nat} {v r : Vs} (h : Sim b x d np v r) : ∀ q, q < 8 → r 15 q = nI (nv r 15 q) ∧ nv r 15 q ≤ nv r 0 23 := h.2.2.2.2.2.2.2.2.1
theorem Sim.t20 {b x : Nat} {d : Int32} {np : Nat} {v r : Vs} (h : Sim b x d np v r) : ∀ q, q < 24 → r 20 q = nI (nv r 20 q) ∧ nv r 20 q ≤ nv r 0 23 := h.2.2.2.2.2.2.2.2.2.1
theorem Sim.us {b x : Nat} {d : Int32} {np : Nat} {v r : Vs} (h : Sim b x d np v r) : v 0 6 = nI (nv v 0 6) ∧ nv v 0 6 ≤ b := h.2.2.2.2.2.2.2.2.2.2.1
theorem Sim.uv {b x : Nat} {d : Int32} {np : Nat} {v r : Vs} (h : Sim b x d np v r) : ∀ n, n < 3 → ∀ j, j < 8 → v (28 + 5 * j + 2) n = nI (nv v (28 + 5 * j + 2) n) ∧ nv v (28 + 5 * j + 2) n ≤ nv v 0 6 := h.2.2.2.2.2.2.2.2.2.2.2.1
theorem Sim.uo {b x : Nat} {d : Int32} {np : Nat} {v r : Vs} (h : Sim b x d np v r) : ∀ n, n < 3 → ∀ j, j < 8 → ∀ j', j' < 8 → (nv v (28 + 5 * j + 2) n ≤ nv v (28 + 5 * j' + 2) n ↔ nv r 20 (8 * n + j) ≤ nv r 20 (8 * n + j')) := h.2.2.2.2.2.2.2.2.2.2.2.2.1
theorem Sim.pg {b x : Nat} {d : Int32} {np : Nat} {v r : Vs} (h : Sim b x d np v r) : ∀ i, i < np → i ≠ x → r 14 i = if v (68 + 3 * i) 5 = 2 then v (68 + 3 * i) 9 else 8 := h.2.2.2.2.2.2.2.2.2.2.2.2.2.1
theorem Sim.aw {b x : Nat} {d : Int32} {np : Nat} {v r : Vs} (h : Sim b x d np v r) : ∀ i, i < np → i ≠ x → v (68 + 3 * i) 5 = 3 → v (68 + 3 * i) 11 = r 13 i := h.2.2.2.2.2.2.2.2.2.2.2.2.2.2.1
theorem Sim.wr {b x : Nat} {d : Int32} {np : Nat} {v r : Vs} (h : Sim b x d np v r) : ∀ i, i < np → i ≠ x → r 15 i ≠ 0 → r 17 i = if v (68 + 3 * i) 10 = 2 then 1 else 0 := h.2.2.2.2.2.2.2.2.2.2.2.2.2.2.2.1
theorem Sim.rs {b x : Nat} {d : Int32} {np : Nat} {v r : Vs} (h : Sim b x d np v r) : ∀ i, i < np → i ≠ x → r 15 i ≠ 0 → r 9 i = 2 ∨ r 9 i = 4 := h.2.2.2.2.2.2.2.2.2.2.2.2.2.2.2.2.1
theorem Sim.zz {b x : Nat} {d : Int32} {np : Nat} {v r : Vs} (h : Sim b x d np v r) : ∀ i, np ≤ i → i < 8 → (∀ a, a < 4 → r 6 (4 * i + a) = 0) ∧ r 7 i = 0 ∧ r 12 i = 0 ∧ r 15 i = 0 ∧ r 9 i = 0 ∧ r 11 i = 0 := h.2.2.2.2.2.2.2.2.2.2.2.2.2.2.2.2.2.1
theorem Sim.rv {b x : Nat} {d : Int32} {np : Nat} {v r : Vs} (h : Sim b x d np v r) : ∀ j, j < 8 → ∀ n, n < 3 → v (28 + 5 * j + 1) n = 0 ∨ v (28 + 5 * j + 1) n = 1 ∨ v (28 + 5 * j + 1) n = 2 := h.2.2.2.2.2.2.2.2.2.2.2.2.2.2.2.2.2.2.1
theorem Sim.rx {b x : Nat} {d : Int32} {np : Nat} {v r : Vs} (h : Sim b x d np v r) : ∀ i, i < np → r 15 i ≠ 0 → ∃ j, j < 8 ∧ r 16 i = nI j := h.2.2.2.2.2.2.2.2.2.2.2.2.2.2.2.2.2.2.2.1
theorem Sim.hB {b x : Nat} {d : Int32} {np : Nat} {v r : Vs} (h : Sim b x d np v r) : b < 2 ^ 30 := h.2.2.2.2.2.2.2.2.2.2.2.2.2.2.2.2.2.2.2.2
section SM
variable {b x np : Nat} {d : Int32} {v r : Vs}
theorem Sim.le (h : Sim b x d np v r) : np ≤ 8 := h.ok.le
theorem Sim.made (h : Sim b x d np v r) : nv r 0 14 = np := by
  have e := h.D _ _ _ _ .made
  have := h.le
  rw [h.ok.made.1] at e
  exact nv_of e.symm (by omega)
/-- what stays if neither side changes any of these -/
theorem Sim.keep (h : Sim b x d np v r) {v' r' : Vs} (h1 : Ok np v') (h2 : OkM r') (hD : ∀ k j k' j', Mp np k j k' j' → v' k j = r' k' j') (hg : v' 0 10 = r' 0 27 + d)
    (a1 : ∀ k, 22 ≤ k → k < 28 → v' k = v k) (a2 : ∀ j, j < 8 → v' (28 + 5 * j + 3) = v (28 + 5 * j + 3) ∧ v' (28 + 5 * j + 4) = v (28 + 5 * j + 4)) (a3 : v' 0 6 = v 0 6) (a3' : ∀ j, j < 8 → v' (28 + 5 * j + 2) = v (28 + 5 * j + 2))
    (a4 : ∀ i, i < np → i ≠ x → v' (68 + 3 * i) 5 = v (68 + 3 * i) 5 ∧ v' (68 + 3 * i) 9 = v (68 + 3 * i) 9 ∧ v' (68 + 3 * i) 10 = v (68 + 3 * i) 10 ∧ v' (68 + 3 * i) 11 = v (68 + 3 * i) 11)
    (a5 : ∀ j, j < 8 → ∀ n, n < 3 → v' (28 + 5 * j + 1) n = 0 ∨ v' (28 + 5 * j + 1) n = 1 ∨ v' (28 + 5 * j + 1) n = 2)
    (b1 : ∀ i, i < np → i ≠ x → r' 8 i = r 8 i ∧ r' 9 i = r 9 i ∧ r' 13 i = r 13 i ∧ r' 14 i = r 14 i ∧ r' 17 i = r 17 i)
    (b2 : r' 10 = r 10) (b3 : r' 15 = r 15) (b4 : ∀ i, r 15 i ≠ 0 → r' 16 i = r 16 i) (b5 : r' 20 = r 20) (b6 : r' 0 23 = r 0 23)
    (b7 : ∀ i, np ≤ i → i < 8 → (∀ a, a < 4 → r' 6 (4 * i + a) = r 6 (4 * i + a)) ∧ r' 7 i = r 7 i ∧ r' 12 i = r 12 i ∧ r' 9 i = r 9 i ∧ r' 11 i = r 11 i) : Sim b x d np v' r' := by
  have n10 : ∀ q, nv r' 10 q = nv r 10 q := fun q => by unfold nv; rw [b2]
  have n15 : ∀ q, nv r' 15 q = nv r 15 q := fun q => by unfold nv; rw [b3]
  have n20 : ∀ q, nv r' 20 q = nv r 20 q := fun q => by unfold nv; rw [b5]
  have n23 : nv r' 0 23 = nv r 0 23 := by unfold nv; rw [b6]
  have n6 : nv v' 0 6 = nv v 0 6 := by unfold nv; rw [a3]
  have nu : ∀ j, j < 8 → ∀ n, nv v' (28 + 5 * j + 2) n = nv v (28 + 5 * j + 2) n := fun j hj n => by unfold nv; rw [a3' j hj]
  refine Sim.intro ⟨h1, h2, hD, hg, fun n hn => ?_, fun j hj => ?_, ?_, ?_, ?_, ?_, ?_, ?_, ?_, ?_, ?_, ?_, ?_, ?_, a5, fun i hi q => ?_, h.hB⟩
  · rw [ln_congr (v := v) (by rw [a1 _ (by omega) (by omega)]) (a1 _ (by omega) (by omega))]
    refine (h.nd n hn).congr (fun i hi => ?_) (fun i _ _ => n10 i)
    constructor
    · rintro ⟨p1, p2, p3⟩; obtain ⟨q1, q2, -⟩ := b1 i hi p1; exact ⟨p1, by rw [q2]; exact p2, by rw [q1]; exact p3⟩
    · rintro ⟨p1, p2, p3⟩; obtain ⟨q1, q2, -⟩ := b1 i hi p1; exact ⟨p1, by rw [← q2]; exact p2, by rw [← q1]; exact p3⟩
  · rw [ln_congr (v := v) (by rw [(a2 j hj).1]) (a2 j hj).2]
    refine (h.rq j hj).congr (fun i hi => ?_) (fun i _ _ => n15 i)
    rw [b3]
    constructor
    · rintro ⟨p1, p2⟩; exact ⟨p1, by rw [b4 i p1]; exact p2⟩
    · rintro ⟨p1, p2⟩; exact ⟨p1, by rw [← b4 i p1]; exact p2⟩
  · rw [n23, b6]; exact h.tm
  · intro q hq; rw [n10, n23, b2]; exact h.t10 q hq
  · intro q hq; rw [n15, n23, b3]; exact h.t15 q hq
  · intro q hq; rw [n20, n23, b5]; exact h.t20 q hq
  · rw [n6, a3]; exact h.us
  · intro n hn j hj; rw [nu j hj, n6, a3' j hj]; exact h.uv n hn j hj
  · intro n hn j hj j' hj'; rw [nu j hj, nu j' hj', n20, n20]; exact h.uo n hn j hj j' hj'
  · intro i hi hx; rw [(b1 i hi hx).2.2.2.1, (a4 i hi hx).1, (a4 i hi hx).2.1]; exact h.pg i hi hx
  · intro i hi hx; rw [(b1 i hi hx).2.2.1, (a4 i hi hx).1, (a4 i hi hx).2.2.2]; exact h.aw i hi hx
  · intro i hi hx; rw [(b1 i hi hx).2.2.2.2, (a4 i hi hx).2.2.1, b3]; exact h.wr i hi hx
  · intro i hi hx; rw [(b1 i hi hx).2.1, b3]; exact h.rs i hi hx
  · intro i hi h8
    obtain ⟨q1, q2, q3, q4, q5⟩ := b7 i hi h8
    rw [q2, q3, q4, q5, b3]
    refine ⟨fun a ha => ?_, (h.zz i hi h8).2⟩
    rw [q1 a ha]; exact (h.zz i hi h8).1 a ha
  · rw [b3] at q
    rw [b4 i q]
    exact h.rx i hi q
/-- a slot on both sides -/
theorem Sim.up (h : Sim b x d np v r) {k j k' j' : Nat} {z : Int32} (hm : Mp np k j k' j') (h1 : Ok np (u2 v k j z)) (h2 : OkM (u2 r k' j' z)) (hx : k' = 8 ∨ k' = 9 → j' = x) (hr : k' = 19 → z = 0 ∨ z = 1 ∨ z = 2) : Sim b x d np (u2 v k j z) (u2 r k' j' z) := by
  refine h.keep h1 h2 (fun K J K' J' H => ?_) ?_ (fun K q1 q2 => u2_oth (hm.f1 K q1 q2)) (fun J hJ => ⟨u2_oth (hm.f2 J 3 hJ (by omega) (by omega)), u2_oth (hm.f2 J 4 hJ (by omega) (by omega))⟩) (u2_a (hm.f3 6 (by omega))) (fun J hJ => u2_oth (hm.f2 J 2 hJ (by omega) (by omega))) (fun i hi hix => ?_) (fun J hJ n hn => ?_) (fun i hi hix => ?_) (u2_oth (hm.g1 10 (by omega))) (u2_oth (hm.g1 15 (by omega))) (fun i _ => by rw [u2_oth (hm.g1 16 (by omega))]) (u2_oth (hm.g1 20 (by omega))) (u2_a (hm.g2 23 (by omega))) (fun i hi h8 => ?_)
  · by_cases e : K = k ∧ J = j
    · have e' := (hm.inj H).mp e
      rw [e.1, e.2, e'.1, e'.2, u2_s, u2_s]
    · have e' : ¬ (K' = k' ∧ J' = j') := fun q => e ((hm.inj H).mpr q)
      rw [u2_a (by omega), u2_a (by omega)]
      exact h.D _ _ _ _ H
  · rw [u2_a (hm.f3 10 (by omega)), u2_a (hm.g2 27 (by omega))]; exact h.gr
  · exact ⟨u2_a (hm.f5 i (fun q => by have := hx (Or.inr q); omega)), u2_a (hm.f4 i 9 (by omega)), u2_a (hm.f4 i 10 (by omega)), u2_a (hm.f4 i 11 (by omega))⟩
  · by_cases e : 28 + 5 * J + 1 = k ∧ n = j
    · have hz := hr (hm.f6 J hJ e.1)
      rw [e.1, e.2, u2_s]; exact hz
    · rw [u2_a (by omega)]; exact h.rv J hJ n hn
  · exact ⟨u2_a (by omega), u2_a (by omega), by rw [u2_oth (hm.g1 13 (by omega))], by rw [u2_oth (hm.g1 14 (by omega))], by rw [u2_oth (hm.g1 17 (by omega))]⟩
  · exact ⟨fun a ha => u2_a (hm.g3 i a hi ha), u2_a (hm.g4 7 i hi (by omega)), u2_a (hm.g4 12 i hi (by omega)), u2_a (hm.g4 9 i hi (by omega)), u2_a (hm.g4 11 i hi (by omega))⟩
end SM
