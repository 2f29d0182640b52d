/-! WORLDS BY NUMBER: a world of n cells; the k-th lies at the address ad k and holds ct k. -/
def wl (n : Nat) (ad : Nat → Nat) (ct : Nat → va_E) : va_W := (List.range n).map (fun k => (ad k, ct k))
theorem wl_len (n : Nat) (ad : Nat → Nat) (ct : Nat → va_E) : (wl n ad ct).length = n := by simp [wl]
theorem wl_get {n : Nat} {ad : Nat → Nat} {ct : Nat → va_E} {k : Nat} (h : k < n) : (wl n ad ct)[k]? = some (ad k, ct k) := by
  simp [wl, h]
theorem wl_out {n : Nat} {ad : Nat → Nat} {ct : Nat → va_E} {k : Nat} (h : n ≤ k) : (wl n ad ct)[k]? = none := by
  simp [wl, h]
theorem wl_some {n : Nat} {ad : Nat → Nat} {ct : Nat → va_E} {k : Nat} {q : Nat × va_E} (h : (wl n ad ct)[k]? = some q) : k < n ∧ q = (ad k, ct k) := by
  have hk : k < n := by
    rcases Nat.lt_or_ge k n with h1 | h1
    · exact h1
    · rw [wl_out h1] at h; cases h
  rw [wl_get hk] at h
  exact ⟨hk, (Option.some.inj h).symm⟩
theorem wl_congr {n : Nat} {ad ad' : Nat → Nat} {ct ct' : Nat → va_E} (ha : ∀ k, k < n → ad k = ad' k) (h : ∀ k, k < n → ct k = ct' k) : wl n ad ct = wl n ad' ct' := by
  apply List.ext_getElem?
  intro j
  by_cases hj : j < n
  · rw [wl_get hj, wl_get hj, ha j hj, h j hj]
  · rw [wl_out (by omega), wl_out (by omega)]
theorem wl_set {n : Nat} {ad : Nat → Nat} {ct : Nat → va_E} {k : Nat} {e : va_E} (h : k < n) : (wl n ad ct).set k (ad k, e) = wl n ad (va_up ct k e) := by
  apply List.ext_getElem?
  intro j
  by_cases hj : j = k
  · subst hj
    rw [List.getElem?_set_self (by rw [wl_len]; exact h), wl_get h, va_up_self]
  · rw [List.getElem?_set_ne (Ne.symm hj)]
    by_cases hn : j < n
    · rw [wl_get hn, wl_get hn, va_up_ne _ _ hj]
    · rw [wl_out (by omega), wl_out (by omega)]
theorem wl_push {n : Nat} {ad : Nat → Nat} {ct : Nat → va_E} {q : Nat} {e : va_E} : wl n ad ct ++ [(q, e)] = wl (n + 1) (va_up ad n q) (va_up ct n e) := by
  apply List.ext_getElem?
  intro j
  by_cases hn : j < n
  · rw [List.getElem?_append_left (by rw [wl_len]; exact hn), wl_get hn, wl_get (by omega), va_up_ne _ _ (by omega), va_up_ne _ _ (by omega)]
  · by_cases hj : j = n
    · subst hj
      rw [List.getElem?_append_right (by rw [wl_len]; exact Nat.le_refl _), wl_len, Nat.sub_self, wl_get (by omega), va_up_self, va_up_self]
      rfl
    · rw [wl_out (by omega), List.getElem?_eq_none (by rw [List.length_append, wl_len]; simp; omega)]
/-- the slots: cell, place -/
abbrev Vs : Type := Nat → Nat → Int32
def u2 (v : Vs) (k j : Nat) (x : Int32) : Vs := fun k' => if k' = k then upd (v k) j x else v k'
theorem u2_row {v : Vs} {k j : Nat} {x : Int32} : u2 v k j x k = upd (v k) j x := by simp [u2]
theorem u2_oth {v : Vs} {k j k' : Nat} {x : Int32} (h : k' ≠ k) : u2 v k j x k' = v k' := by simp [u2, h]
theorem u2_s {v : Vs} {k j : Nat} {x : Int32} : u2 v k j x k j = x := by simp [u2, upd]
theorem u2_n {v : Vs} {k j j' : Nat} {x : Int32} (h : j' ≠ j) : u2 v k j x k j' = v k j' := by simp [u2, upd, h]
theorem u2_a {v : Vs} {k j k' j' : Nat} {x : Int32} (h : k' ≠ k ∨ j' ≠ j) : u2 v k j x k' j' = v k' j' := by
  by_cases hk : k' = k
  · subst hk
    exact u2_n (by rcases h with h | h; exact absurd rfl h; exact h)
  · rw [u2_oth hk]
/-- a row of a cell set at once -/
def u1 (v : Vs) (k : Nat) (r : Nat → Int32) : Vs := fun k' => if k' = k then r else v k'
theorem u1_row {v : Vs} {k : Nat} {r : Nat → Int32} : u1 v k r k = r := by simp [u1]
theorem u1_oth {v : Vs} {k k' : Nat} {r : Nat → Int32} (h : k' ≠ k) : u1 v k r k' = v k' := by simp [u1, h]
/-- a world whose cell k is made of its number and its row -/
def mw (n : Nat) (ad : Nat → Nat) (mk : Nat → (Nat → Int32) → va_E) (v : Vs) : va_W := wl n ad (fun k => mk k (v k))
theorem mw_get {n : Nat} {ad : Nat → Nat} {mk : Nat → (Nat → Int32) → va_E} {v : Vs} {k : Nat} {e : va_E} (h : k < n) (he : mk k (v k) = e) : (mw n ad mk v)[k]? = some (ad k, e) := by
  rw [mw, wl_get h, he]
theorem mw_set {n : Nat} {ad : Nat → Nat} {mk : Nat → (Nat → Int32) → va_E} {v : Vs} {k j : Nat} {x : Int32} {e : va_E} (h : k < n) (he : mk k (upd (v k) j x) = e) : (mw n ad mk v).set k (ad k, e) = mw n ad mk (u2 v k j x) := by
  rw [mw, wl_set h, mw]
  apply wl_congr (fun _ _ => rfl)
  intro k' _
  by_cases hk : k' = k
  · subst hk
    rw [va_up_self, u2_row, he]
  · rw [va_up_ne _ _ hk, u2_oth hk]
