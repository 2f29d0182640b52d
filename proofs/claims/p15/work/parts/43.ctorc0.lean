/-! ClusterImage(): the cells while they are made; a programs, b lines, c pages stand in their arrays -/
def vC0 : Vs := fun k => if 28 ≤ k ∧ k < 68 ∧ (k - 28) % 5 = 0 then (fun j => if j = 3 then 3 else 0) else fun _ => 0
def mkI (g : Nat → ClassId) (ad : Nat → Nat) (a b c k : Nat) : va_E :=
  if k = 1 then .inl (g 1, 4, .inr (.inr (.inr (.inr (fun i => if i < a then some (ad (6 + 4 * i)) else none)))))
  else if k = 3 then .inl (g 3, 3, .inr (.inr (.inr (.inr (fun i => if i < b then some (ad (22 + 2 * i)) else none)))))
  else if k = 4 then .inl (g 4, 8, .inr (.inr (.inr (.inr (fun i => if i < c then some (ad (28 + 5 * i)) else none)))))
  else mkC g ad 0 k (vC0 k)
theorem mkI_end {g : Nat → ClassId} {ad : Nat → Nat} : wl 68 ad (mkI g ad 4 3 8) = wC g ad 0 vC0 := by
  unfold wC mw
  apply wl_congr (fun _ _ => rfl)
  intro k _
  unfold mkI
  by_cases e1 : k = 1
  · subst e1; rfl
  · rw [if_neg e1]
    by_cases e3 : k = 3
    · subst e3; rfl
    · rw [if_neg e3]
      by_cases e4 : k = 4
      · subst e4; rfl
      · rw [if_neg e4]
/-- as mkC_ad, while they are made -/
theorem mkC_adn {g : Nat → ClassId} {ad ad' : Nat → Nat} {n k : Nat} {r : Nat → Int32} (hk : k < n) (hne : k ≠ 1 ∧ k ≠ 3 ∧ k ≠ 4) (hn : (6 ≤ n ∧ n ≤ 22 ∧ (n - 6) % 4 = 0) ∨ (22 ≤ n ∧ n ≤ 28 ∧ n % 2 = 0) ∨ (28 ≤ n ∧ n ≤ 68 ∧ (n - 28) % 5 = 0)) (h : ∀ j, j < n → ad j = ad' j) : mkC g ad 0 k r = mkC g ad' 0 k r := by
  by_cases h1 : k < 6
  · by_cases e0 : k = 0
    · subst e0; rw [mk_root, mk_root, h 1 (by omega), h 2 (by omega), h 3 (by omega), h 4 (by omega), h 5 (by omega)]
    · by_cases e2 : k = 2
      · subst e2; rw [mk_processes, mk_processes, fun_ad (n := 0) (fun j hj => by omega) (fun i hi => by omega)]
      · obtain rfl : k = 5 := by omega
        rw [mk_memory, mk_memory]
  · by_cases h2 : k < 22
    · by_cases e : (k - 6) % 4 = 0
      · obtain ⟨i, rfl⟩ : ∃ i, k = 6 + 4 * i := ⟨(k - 6) / 4, by omega⟩
        rw [mk_program (by omega), mk_program (by omega), h _ (by omega), h _ (by omega), h _ (by omega)]
      · obtain ⟨i, j, h3, h4, rfl⟩ : ∃ i j, 1 ≤ j ∧ j < 4 ∧ k = 6 + 4 * i + j := ⟨(k - 6) / 4, (k - 6) % 4, by omega, by omega, by omega⟩
        rw [mk_ops (by omega) h3 h4, mk_ops (by omega) h3 h4]
    · by_cases e : isLn k
      · have e' := e
        unfold isLn at e'
        rw [mk_line e, mk_line e, h _ (by omega)]
      · by_cases e2 : isLn (k - 1)
        · obtain ⟨k0, rfl⟩ : ∃ k0, k = k0 + 1 := ⟨k - 1, by omega⟩
          rw [Nat.add_sub_cancel] at e2
          rw [mk_items e2, mk_items e2]
        · unfold isLn at e e2
          by_cases e5 : (k - 28) % 5 = 0
          · obtain ⟨j, rfl⟩ : ∃ j, k = 28 + 5 * j := ⟨(k - 28) / 5, by omega⟩
            rw [mk_page (by omega), mk_page (by omega), h _ (by omega), h _ (by omega), h _ (by omega)]
          · by_cases e6 : (k - 28) % 5 = 1
            · obtain ⟨j, rfl⟩ : ∃ j, k = 28 + 5 * j + 1 := ⟨(k - 28) / 5, by omega⟩
              rw [mk_rights (by omega), mk_rights (by omega)]
            · obtain ⟨j, rfl⟩ : ∃ j, k = 28 + 5 * j + 2 := ⟨(k - 28) / 5, by omega⟩
              rw [mk_uses (by omega), mk_uses (by omega)]
/-- cells come behind, and one is set -/
theorem wl_pushset {n t : Nat} {ad ad' : Nat → Nat} {ct ct' : Nat → va_E} {L : va_W} {e : va_E} (ht : t < n) (h1 : ∀ k, k < n → ad' k = ad k) (h2 : ∀ i x, L[i]? = some x → x = (ad' (n + i), ct' (n + i))) (h3 : ct' t = e) (h4 : ∀ k, k < n → k ≠ t → ct' k = ct k) : (wl n ad ct ++ L).set t (ad t, e) = wl (n + L.length) ad' ct' := by
  apply List.ext_getElem?
  intro j
  by_cases hj : j = t
  · subst hj
    rw [List.getElem?_set_self (by rw [List.length_append, wl_len]; omega), wl_get (by omega), h1 j ht, h3]
  · rw [List.getElem?_set_ne (Ne.symm hj)]
    by_cases hn : j < n
    · rw [List.getElem?_append_left (by rw [wl_len]; exact hn), wl_get hn, wl_get (by omega), h1 j hn, h4 j hn hj]
    · obtain ⟨i, rfl⟩ : ∃ i, j = n + i := ⟨j - n, by omega⟩
      rw [List.getElem?_append_right (by rw [wl_len]; omega), wl_len, Nat.add_sub_cancel_left]
      by_cases hi : i < L.length
      · rw [wl_get (by omega)]
        cases hx : L[i]? with
        | none => rw [List.getElem?_eq_none_iff] at hx; omega
        | some x => rw [h2 i x hx]
      · rw [wl_out (by omega), List.getElem?_eq_none (by omega)]
/-- addresses, with those of a list behind n -/
def adL (ad : Nat → Nat) (n : Nat) (L : List Nat) : Nat → Nat := fun k => if k < n then ad k else L.getD (k - n) 0
theorem adL_lt {ad : Nat → Nat} {n k : Nat} {L : List Nat} (h : k < n) : adL ad n L k = ad k := by unfold adL; rw [if_pos h]
theorem adL_at {ad : Nat → Nat} {n i : Nat} {L : List Nat} : adL ad n L (n + i) = L.getD i 0 := by unfold adL; rw [if_neg (by omega), Nat.add_sub_cancel_left]
/-- an array takes the next one -/
theorem up_next {ad ad' : Nat → Nat} {a c d n q : Nat} (h : ∀ k, k < n → ad' k = ad k) (hn : n = c + d * a) (hd : 0 < d) (hq : ad' n = q) : va_up (fun i => if i < a then some (ad (c + d * i)) else none) a (some q) = fun i => if i < a + 1 then some (ad' (c + d * i)) else none := by
  funext i
  by_cases hi : i = a
  · subst hi; rw [va_up_self, if_pos (by omega), ← hn, hq]
  · rw [va_up_ne _ _ hi]
    by_cases hl : i < a
    · rw [if_pos hl, if_pos (by omega), h]
      rw [hn]
      have : d * i < d * a := Nat.mul_lt_mul_of_pos_left hl hd
      omega
    · rw [if_neg hl, if_neg (by omega)]
theorem mkI_low {g : Nat → ClassId} {ad ad' : Nat → Nat} {n a b c k : Nat} (hk : k < n) (hne : k ≠ 1 ∧ k ≠ 3 ∧ k ≠ 4) (hn : (6 ≤ n ∧ n ≤ 22 ∧ (n - 6) % 4 = 0) ∨ (22 ≤ n ∧ n ≤ 28 ∧ n % 2 = 0) ∨ (28 ≤ n ∧ n ≤ 68 ∧ (n - 28) % 5 = 0)) (h : ∀ j, j < n → ad' j = ad j) {a' b' c' : Nat} : mkI g ad' a' b' c' k = mkI g ad a b c k := by
  unfold mkI
  rw [if_neg hne.1, if_neg hne.2.1, if_neg hne.2.2, if_neg hne.1, if_neg hne.2.1, if_neg hne.2.2]
  exact mkC_adn hk hne hn h
theorem mkI_p {g : Nat → ClassId} {ad : Nat → Nat} {a q u1 u2 u3 : Nat} (ha : a < 4) : (wl (6 + 4 * a) ad (mkI g ad a 0 0) ++ ([(q, .inr (ciProgram, [.ref u1, .ref u2, .ref u3, .int 0])), (u1, .inl (g 0, 12, .inl (fun _ => 0))), (u2, .inl (g 0, 12, .inl (fun _ => 0))), (u3, .inl (g 0, 12, .inl (fun _ => 0)))] : va_W)).set 1 (ad 1, .inl (g 1, 4, .inr (.inr (.inr (.inr (va_up (fun i => if i < a then some (ad (6 + 4 * i)) else none) a (some q))))))) = wl (6 + 4 * (a + 1)) (adL ad (6 + 4 * a) [q, u1, u2, u3]) (mkI g (adL ad (6 + 4 * a) [q, u1, u2, u3]) (a + 1) 0 0) := by
  have hlo : ∀ k, k < 6 + 4 * a → adL ad (6 + 4 * a) [q, u1, u2, u3] k = ad k := fun k hk => adL_lt hk
  have a0 : adL ad (6 + 4 * a) [q, u1, u2, u3] (6 + 4 * a) = q := adL_at (i := 0)
  have a1 : adL ad (6 + 4 * a) [q, u1, u2, u3] (6 + 4 * a + 1) = u1 := adL_at
  have a2 : adL ad (6 + 4 * a) [q, u1, u2, u3] (6 + 4 * a + 2) = u2 := adL_at
  have a3 : adL ad (6 + 4 * a) [q, u1, u2, u3] (6 + 4 * a + 3) = u3 := adL_at
  generalize adL ad (6 + 4 * a) [q, u1, u2, u3] = ad' at hlo a0 a1 a2 a3 ⊢
  have z : ∀ k, 6 ≤ k → k < 22 → mkI g ad' (a + 1) 0 0 k = mkC g ad' 0 k (fun _ => 0) := fun k h1 h2 => by
    unfold mkI
    rw [if_neg (by omega), if_neg (by omega), if_neg (by omega)]
    unfold vC0
    rw [if_neg (by omega)]
  refine (wl_pushset (ad' := ad') (ct' := mkI g ad' (a + 1) 0 0) (by omega) hlo ?_ ?_ ?_).trans (by rfl)
  · intro i x hx
    match i, hx with
    | 0, hx => cases hx; rw [Nat.add_zero, a0, z _ (by omega) (by omega), mk_program ha, a1, a2, a3]
    | 1, hx => cases hx; rw [a1, z _ (by omega) (by omega), mk_ops ha (by omega) (by omega)]
    | 2, hx => cases hx; rw [a2, z _ (by omega) (by omega), mk_ops ha (by omega) (by omega)]
    | 3, hx => cases hx; rw [a3, z _ (by omega) (by omega), mk_ops ha (by omega) (by omega)]
    | i + 4, hx => cases hx
  · rw [up_next hlo rfl (by omega) a0]; rfl
  · intro k hk h1
    by_cases e3 : k = 3
    · subst e3; rfl
    · by_cases e4 : k = 4
      · subst e4; rfl
      · exact mkI_low hk ⟨h1, e3, e4⟩ (by omega) hlo
theorem mkI_l {g : Nat → ClassId} {ad : Nat → Nat} {b q u1 : Nat} (hb : b < 3) : (wl (22 + 2 * b) ad (mkI g ad 4 b 0) ++ ([(q, .inr (ciLine, [.ref u1, .int 0])), (u1, .inl (g 0, 8, .inl (fun _ => 0)))] : va_W)).set 3 (ad 3, .inl (g 3, 3, .inr (.inr (.inr (.inr (va_up (fun i => if i < b then some (ad (22 + 2 * i)) else none) b (some q))))))) = wl (22 + 2 * (b + 1)) (adL ad (22 + 2 * b) [q, u1]) (mkI g (adL ad (22 + 2 * b) [q, u1]) 4 (b + 1) 0) := by
  have hlo : ∀ k, k < 22 + 2 * b → adL ad (22 + 2 * b) [q, u1] k = ad k := fun k hk => adL_lt hk
  have a0 : adL ad (22 + 2 * b) [q, u1] (22 + 2 * b) = q := adL_at (i := 0)
  have a1 : adL ad (22 + 2 * b) [q, u1] (22 + 2 * b + 1) = u1 := adL_at
  generalize adL ad (22 + 2 * b) [q, u1] = ad' at hlo a0 a1 ⊢
  have z : ∀ k, 22 ≤ k → k < 28 → mkI g ad' 4 (b + 1) 0 k = mkC g ad' 0 k (fun _ => 0) := fun k h1 h2 => by
    unfold mkI
    rw [if_neg (by omega), if_neg (by omega), if_neg (by omega)]
    unfold vC0
    rw [if_neg (by omega)]
  refine (wl_pushset (ad' := ad') (ct' := mkI g ad' 4 (b + 1) 0) (by omega) hlo ?_ ?_ ?_).trans (by rfl)
  · intro i x hx
    match i, hx with
    | 0, hx => cases hx; rw [Nat.add_zero, a0, z _ (by omega) (by omega), mk_line (ln_node hb), a1]
    | 1, hx => cases hx; rw [a1, z _ (by omega) (by omega), mk_items (ln_node hb)]
    | i + 2, hx => cases hx
  · rw [up_next hlo rfl (by omega) a0]; rfl
  · intro k hk h3
    by_cases e1 : k = 1
    · subst e1
      show (.inl (g 1, 4, .inr (.inr (.inr (.inr (fun i => if i < 4 then some (ad' (6 + 4 * i)) else none))))) : va_E) = .inl (g 1, 4, .inr (.inr (.inr (.inr (fun i => if i < 4 then some (ad (6 + 4 * i)) else none)))))
      rw [fun_ad hlo (fun i hi => by omega)]
    · by_cases e4 : k = 4
      · subst e4; rfl
      · exact mkI_low hk ⟨e1, h3, e4⟩ (by omega) hlo
theorem mkI_g {g : Nat → ClassId} {ad : Nat → Nat} {c q u1 u2 u3 u4 : Nat} (hc : c < 8) : (wl (28 + 5 * c) ad (mkI g ad 4 3 c) ++ ([(q, .inr (ciPage, [.ref u1, .ref u2, .ref u3, .int 3])), (u1, .inl (g 0, 3, .inl (fun _ => 0))), (u2, .inl (g 0, 3, .inl (fun _ => 0))), (u3, .inr (ciLine, [.ref u4, .int 0])), (u4, .inl (g 0, 8, .inl (fun _ => 0)))] : va_W)).set 4 (ad 4, .inl (g 4, 8, .inr (.inr (.inr (.inr (va_up (fun i => if i < c then some (ad (28 + 5 * i)) else none) c (some q))))))) = wl (28 + 5 * (c + 1)) (adL ad (28 + 5 * c) [q, u1, u2, u3, u4]) (mkI g (adL ad (28 + 5 * c) [q, u1, u2, u3, u4]) 4 3 (c + 1)) := by
  have hlo : ∀ k, k < 28 + 5 * c → adL ad (28 + 5 * c) [q, u1, u2, u3, u4] k = ad k := fun k hk => adL_lt hk
  have a0 : adL ad (28 + 5 * c) [q, u1, u2, u3, u4] (28 + 5 * c) = q := adL_at (i := 0)
  have a1 : adL ad (28 + 5 * c) [q, u1, u2, u3, u4] (28 + 5 * c + 1) = u1 := adL_at
  have a2 : adL ad (28 + 5 * c) [q, u1, u2, u3, u4] (28 + 5 * c + 2) = u2 := adL_at
  have a3 : adL ad (28 + 5 * c) [q, u1, u2, u3, u4] (28 + 5 * c + 3) = u3 := adL_at
  have a4 : adL ad (28 + 5 * c) [q, u1, u2, u3, u4] (28 + 5 * c + 3 + 1) = u4 := adL_at (i := 4)
  generalize adL ad (28 + 5 * c) [q, u1, u2, u3, u4] = ad' at hlo a0 a1 a2 a3 a4 ⊢
  have z0 : ∀ k, 28 ≤ k → mkI g ad' 4 3 (c + 1) k = mkC g ad' 0 k (vC0 k) := fun k h1 => by
    unfold mkI
    rw [if_neg (by omega), if_neg (by omega), if_neg (by omega)]
  have vz : ∀ k, (k - 28) % 5 ≠ 0 → vC0 k = fun _ => 0 := fun k h => by unfold vC0; rw [if_neg (by omega)]
  have vp : vC0 (28 + 5 * c) = fun j => if j = 3 then 3 else 0 := by unfold vC0; rw [if_pos (by omega)]
  refine (wl_pushset (ad' := ad') (ct' := mkI g ad' 4 3 (c + 1)) (by omega) hlo ?_ ?_ ?_).trans (by rfl)
  · intro i x hx
    match i, hx with
    | 0, hx => cases hx; rw [Nat.add_zero, a0, z0 _ (by omega), mk_page hc, a1, a2, a3, vp]; rfl
    | 1, hx => cases hx; rw [a1, z0 _ (by omega), mk_rights hc, vz _ (by omega)]
    | 2, hx => cases hx; rw [a2, z0 _ (by omega), mk_uses hc, vz _ (by omega)]
    | 3, hx => cases hx; rw [a3, z0 _ (by omega), mk_line (ln_page hc), a4, vz _ (by omega)]
    | 4, hx => cases hx; rw [show 28 + 5 * c + 4 = 28 + 5 * c + 3 + 1 by omega, a4, z0 _ (by omega), mk_items (ln_page hc), vz _ (by omega)]
    | i + 5, hx => cases hx
  · rw [up_next hlo rfl (by omega) a0]; rfl
  · intro k hk h4
    by_cases e1 : k = 1
    · subst e1
      show (.inl (g 1, 4, .inr (.inr (.inr (.inr (fun i => if i < 4 then some (ad' (6 + 4 * i)) else none))))) : va_E) = .inl (g 1, 4, .inr (.inr (.inr (.inr (fun i => if i < 4 then some (ad (6 + 4 * i)) else none)))))
      rw [fun_ad hlo (fun i hi => by omega)]
    · by_cases e3 : k = 3
      · subst e3
        show (.inl (g 3, 3, .inr (.inr (.inr (.inr (fun i => if i < 3 then some (ad' (22 + 2 * i)) else none))))) : va_E) = .inl (g 3, 3, .inr (.inr (.inr (.inr (fun i => if i < 3 then some (ad (22 + 2 * i)) else none)))))
        rw [fun_ad hlo (fun i hi => by omega)]
      · exact mkI_low hk ⟨e1, e3, h4⟩ (by omega) hlo
