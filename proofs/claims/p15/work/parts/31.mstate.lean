/-! THE REFERENCE'S STATE. Cell 0: the object; cells 1 .. 14 the arrays of its fields 0 .. 13 (ops, as, bs, size, program, regs, counter, place, state, since, slice, code, awaited, page), 15 .. 22 those of its fields 15 .. 22 (asked, askedPage, askedWrite, memory, rights, used, owners, hints). -/
def mkM (g : Nat → ClassId) (am : Nat → Nat) (k : Nat) (r : Nat → Int32) : va_E :=
  if k = 0 then .inr (ciM, [.ref (am 1), .ref (am 2), .ref (am 3), .ref (am 4), .ref (am 5), .ref (am 6), .ref (am 7), .ref (am 8), .ref (am 9), .ref (am 10), .ref (am 11), .ref (am 12), .ref (am 13), .ref (am 14), .int (r 14), .ref (am 15), .ref (am 16), .ref (am 17), .ref (am 18), .ref (am 19), .ref (am 20), .ref (am 21), .ref (am 22), .int (r 23), .int (r 24), .int (r 25), .int (r 26), .int (r 27)])
  else if k = 17 then .inl (g 5, 8, .inl r)
  else if k ≤ 3 then .inl (g 0, 48, .inl r)
  else if k = 4 then .inl (g 0, 4, .inl r)
  else if k = 6 then .inl (g 0, 32, .inl r)
  else if k = 18 then .inl (g 0, 32, .inl r)
  else if k = 19 then .inl (g 0, 24, .inl r)
  else if k = 20 then .inl (g 0, 24, .inl r)
  else if k = 22 then .inl (g 0, 24, .inl r)
  else .inl (g 0, 8, .inl r)
abbrev wM (g : Nat → ClassId) (am : Nat → Nat) (r : Vs) : va_W := mw 23 am (mkM g am) r
section MM
variable {g : Nat → ClassId} {am : Nat → Nat} {r : Nat → Int32}
theorem mm_root : mkM g am 0 r = .inr (ciM, [.ref (am 1), .ref (am 2), .ref (am 3), .ref (am 4), .ref (am 5), .ref (am 6), .ref (am 7), .ref (am 8), .ref (am 9), .ref (am 10), .ref (am 11), .ref (am 12), .ref (am 13), .ref (am 14), .int (r 14), .ref (am 15), .ref (am 16), .ref (am 17), .ref (am 18), .ref (am 19), .ref (am 20), .ref (am 21), .ref (am 22), .int (r 23), .int (r 24), .int (r 25), .int (r 26), .int (r 27)]) := rfl
theorem mm_1 : mkM g am 1 r = .inl (g 0, 48, .inl r) := rfl
theorem mm_2 : mkM g am 2 r = .inl (g 0, 48, .inl r) := rfl
theorem mm_3 : mkM g am 3 r = .inl (g 0, 48, .inl r) := rfl
theorem mm_4 : mkM g am 4 r = .inl (g 0, 4, .inl r) := rfl
theorem mm_5 : mkM g am 5 r = .inl (g 0, 8, .inl r) := rfl
theorem mm_6 : mkM g am 6 r = .inl (g 0, 32, .inl r) := rfl
theorem mm_7 : mkM g am 7 r = .inl (g 0, 8, .inl r) := rfl
theorem mm_8 : mkM g am 8 r = .inl (g 0, 8, .inl r) := rfl
theorem mm_9 : mkM g am 9 r = .inl (g 0, 8, .inl r) := rfl
theorem mm_10 : mkM g am 10 r = .inl (g 0, 8, .inl r) := rfl
theorem mm_11 : mkM g am 11 r = .inl (g 0, 8, .inl r) := rfl
theorem mm_12 : mkM g am 12 r = .inl (g 0, 8, .inl r) := rfl
theorem mm_13 : mkM g am 13 r = .inl (g 0, 8, .inl r) := rfl
theorem mm_14 : mkM g am 14 r = .inl (g 0, 8, .inl r) := rfl
theorem mm_15 : mkM g am 15 r = .inl (g 0, 8, .inl r) := rfl
theorem mm_16 : mkM g am 16 r = .inl (g 0, 8, .inl r) := rfl
theorem mm_17 : mkM g am 17 r = .inl (g 5, 8, .inl r) := rfl
theorem mm_18 : mkM g am 18 r = .inl (g 0, 32, .inl r) := rfl
theorem mm_19 : mkM g am 19 r = .inl (g 0, 24, .inl r) := rfl
theorem mm_20 : mkM g am 20 r = .inl (g 0, 24, .inl r) := rfl
theorem mm_21 : mkM g am 21 r = .inl (g 0, 8, .inl r) := rfl
theorem mm_22 : mkM g am 22 r = .inl (g 0, 24, .inl r) := rfl
end MM
/-- what keeps the reference's indices in range -/
def okR (r : Vs) (i t : Nat) : Prop := (r 1 (12 * i + t) = 6 → okLt 4 (r 3 (12 * i + t))) ∧ (r 1 (12 * i + t) = 5 → okLt 12 (r 3 (12 * i + t)))
def OkM (r : Vs) : Prop := okLt 9 (r 0 14) ∧ (∀ j, okLt 4 (r 2 j)) ∧ (∀ j, okLt 13 (r 4 j)) ∧ (∀ j, okLt 4 (r 5 j)) ∧ (∀ j, okLt 13 (r 7 j)) ∧ (∀ j, okLt 3 (r 8 j)) ∧ (∀ j, okLt 3 (r 22 j)) ∧ ∀ i, i < 4 → ∀ t, t < nv r 4 i → okR r i t
section OKM
variable {r : Vs}
theorem OkM.made (h : OkM r) : r 0 14 = nI (nv r 0 14) ∧ nv r 0 14 < 9 := okLt_nv h.1 (by decide)
theorem OkM.le (h : OkM r) : nv r 0 14 ≤ 8 := by have := h.made.2; omega
theorem OkM.c2 (h : OkM r) (j : Nat) : r 2 j = nI (nv r 2 j) ∧ nv r 2 j < 4 := okLt_nv (h.2.1 j) (by decide)
theorem OkM.c4 (h : OkM r) (j : Nat) : r 4 j = nI (nv r 4 j) ∧ nv r 4 j < 13 := okLt_nv (h.2.2.1 j) (by decide)
theorem OkM.c5 (h : OkM r) (j : Nat) : r 5 j = nI (nv r 5 j) ∧ nv r 5 j < 4 := okLt_nv (h.2.2.2.1 j) (by decide)
theorem OkM.c7 (h : OkM r) (j : Nat) : r 7 j = nI (nv r 7 j) ∧ nv r 7 j < 13 := okLt_nv (h.2.2.2.2.1 j) (by decide)
theorem OkM.c8 (h : OkM r) (j : Nat) : r 8 j = nI (nv r 8 j) ∧ nv r 8 j < 3 := okLt_nv (h.2.2.2.2.2.1 j) (by decide)
theorem OkM.c22 (h : OkM r) (j : Nat) : r 22 j = nI (nv r 22 j) ∧ nv r 22 j < 3 := okLt_nv (h.2.2.2.2.2.2.1 j) (by decide)
/-- a store outside the programs -/
theorem OkM.set (h : OkM r) {k j : Nat} {x : Int32} (h0 : k = 0 → j = 14 → okLt 9 x) (h5 : k = 5 → okLt 4 x) (h7 : k = 7 → okLt 13 x) (h8 : k = 8 → okLt 3 x) (h22 : k = 22 → okLt 3 x) (hk : k ≠ 1 ∧ k ≠ 2 ∧ k ≠ 3 ∧ k ≠ 4) : OkM (u2 r k j x) := by
  have row : ∀ (c b : Nat), (∀ j, okLt b (r c j)) → (k = c → okLt b x) → ∀ j', okLt b (u2 r k j x c j') := by
    intro c b q1 q2 j'
    by_cases e : c = k ∧ j' = j
    · obtain ⟨rfl, rfl⟩ := e
      rw [u2_s]; exact q2 rfl
    · rw [u2_a (by omega)]; exact q1 j'
  obtain ⟨a0, a2, a4, a5, a7, a8, a22, aR⟩ := h
  refine ⟨?_, row 2 4 a2 (fun e => by omega), row 4 13 a4 (fun e => by omega), row 5 4 a5 h5, row 7 13 a7 h7, row 8 3 a8 h8, row 22 3 a22 h22, fun i hi t ht => ?_⟩
  · by_cases e : (0 : Nat) = k ∧ 14 = j
    · obtain ⟨rfl, rfl⟩ := e
      rw [u2_s]; exact h0 rfl rfl
    · rw [u2_a (by omega)]; exact a0
  · have e4 : u2 r k j x 4 = r 4 := u2_oth (by omega)
    have e1 : u2 r k j x 1 = r 1 := u2_oth (by omega)
    have e3 : u2 r k j x 3 = r 3 := u2_oth (by omega)
    unfold nv at ht
    rw [e4] at ht
    have := aR i hi t ht
    unfold okR at this ⊢
    rw [e1, e3]
    exact this
theorem OkM.fr (h : OkM r) {k j : Nat} {x : Int32} (hk : (k = 0 ∧ j ≠ 14) ∨ k = 6 ∨ (9 ≤ k ∧ k ≠ 22)) : OkM (u2 r k j x) := h.set (fun _ _ => by omega) (fun _ => by omega) (fun _ => by omega) (fun _ => by omega) (fun _ => by omega) (by omega)
end OKM
section MZ
variable {p : Program} {l : Launch} {e : Env} {R : Room} {s : State} {m : MethodId} {args : Array Value} {below : List Frame} {meth : Method} {c : Code} {H : Heap} {locs : List Loc} {cells slots : Nat} {Q : State → Prop}
variable {cc : ByteArray} {pc : Nat} {ls : Array Slot} {rest : List Value} {D : va_G} {cl : List vw_C} {A : Nat → Prop} {tys : List (ClassId × FieldType)} {n : Nat} {ad : Nat → Nat} {mk : Nat → (Nat → Int32) → va_E} {v : Vs}
theorem wz (hx : p.tables.exec = Jvm.exec) (hb : c.code = cc) (hW : Wd D cl tys s A (mw n ad mk v) H locs) (k : Nat) (hk : k < n) {cA : ClassId} {N : Nat} {f : Nat → Int32} (he : mk k (v k) = .inl (cA, N, .inl f)) (t0 : Nat) (ht : tys[t0]? = some (cA, .boolean)) (i : Nat) {x : Int32} (hxi : x = nI i) (hi : i < N) (hN : N < 2 ^ 31) (hdg : decode cc pc = .ok (.baload, 1))
    (kk : W p l e R s m args below meth c H locs cells slots Q (F0 m (pc + 1) ls (.int (f i) :: rest))) : W p l e R s m args below meth c H locs cells slots Q (F0 m pc ls (.int x :: .ref (ad k) :: rest)) := by
  subst hxi
  refine va_zald hx hb hW.1 hW.2.1 k t0 (mw_get hk he) ht (vp_in_nI hi hN) hdg ?_
  rw [nI_clamp (by omega)]
  exact kk
theorem wzs (hx : p.tables.exec = Jvm.exec) (hb : c.code = cc) (hW : Wd D cl tys s A (mw n ad mk v) H locs) (k : Nat) (hk : k < n) {cA : ClassId} {N : Nat} {f : Nat → Int32} (he : mk k (v k) = .inl (cA, N, .inl f)) (t0 : Nat) (ht : tys[t0]? = some (cA, .boolean)) (i : Nat) {y : Int32} (hyi : y = nI i) (hi : i < N) (hN : N < 2 ^ 31) {x : Int32} (hs : mk k (upd (v k) i x) = .inl (cA, N, .inl (upd f i x))) (hz : vp_nar .boolean x = x) (hdg : decode cc pc = .ok (.bastore, 1))
    (kk : ∀ (H1 : Heap) (locs1 : List Loc), Wd D cl tys s A (mw n ad mk (u2 v k i x)) H1 locs1 → W p l e R s m args below meth c H1 locs1 cells slots Q (F0 m (pc + 1) ls rest)) : W p l e R s m args below meth c H locs cells slots Q (F0 m pc ls (.int x :: .int y :: .ref (ad k) :: rest)) := by
  subst hyi
  refine va_zast hx hb hW.1 hW.2.1 hW.2.2.1 hW.2.2.2 k t0 (mw_get hk he) ht (vp_in_nI hi hN) hdg (fun H1 locs1 h1 h2 h3 => kk H1 locs1 ?_)
  rw [nI_clamp (by omega), hz, mw_set hk hs] at h1 h2
  exact ⟨hW.1, h1, h2, h3⟩
end MZ
abbrev outP (x n : Int32) : Prop := x < 0 ∨ n < x
theorem nout_nn {x n : Int32} {N : Nat} (hn : n = nI N) (hN : N < 2 ^ 31) (h : ¬ outP x n) : x = nI (nn x) ∧ nn x < N + 1 := by
  obtain ⟨j, hj, e⟩ := nI_of (fun c => h (Or.inl c))
  have h1 : nn x = j := by rw [nn, e, nI_clamp hj]
  have h2 : ¬ N < j := fun c => h (Or.inr (by rw [hn, e]; exact (nI_ltI hN hj).mpr c))
  rw [h1]
  exact ⟨e, by omega⟩
abbrev npP (r : Vs) (x : Int32) : Prop := x < 0 ∨ r 0 14 ≤ x
theorem nnp_nn {r : Vs} (hO : OkM r) {x : Int32} (h : ¬ npP r x) : x = nI (nn x) ∧ nn x < nv r 0 14 := by
  have hm := hO.made
  obtain ⟨j, hj, e⟩ := nI_of (fun c => h (Or.inl c))
  have h1 : nn x = j := by rw [nn, e, nI_clamp hj]
  have h2 : ¬ nv r 0 14 ≤ j := fun c => h (Or.inr (by rw [hm.1, e]; exact (nI_leI (by omega) hj).mpr c))
  rw [h1]
  exact ⟨e, by omega⟩
