/-! makers: worlds W0 ++ L, with W0 any -/
theorem ap_get (W0 L : va_W) (i : Nat) : (W0 ++ L)[W0.length + i]? = L[i]? := by
  rw [List.getElem?_append_right (by omega), Nat.add_sub_cancel_left]
theorem ap_set (W0 L : va_W) (i : Nat) (x : Nat × va_E) : (W0 ++ L).set (W0.length + i) x = W0 ++ L.set i x := by
  rw [List.set_append_right _ _ (by omega), Nat.add_sub_cancel_left]
theorem kI {D : va_G} {cl : List vw_C} {g : Nat → ClassId} {s : State} {cA : ClassId} (h : va_K D cl (tysA g ++ [(cA, .int)]) s) : cA = g 0 := by
  have h1 : s.vm.findClass ("[" ++ FieldType.int.toString) = some (g 0) := (h.2 0 (g 0, .int) rfl).2
  have h2 : s.vm.findClass ("[" ++ FieldType.int.toString) = some cA := (h.2 6 (cA, .int) rfl).2
  exact Option.some.inj (h2.symm.trans h1)
theorem kO {D : va_G} {cl : List vw_C} {g : Nat → ClassId} {s : State} {cA : ClassId} {C : String} (i : Nat) (hi : (tysA g)[i]? = some (g i, .object C)) (h : va_K D cl (tysA g ++ [(cA, .object C)]) s) : cA = g i := by
  have hl : i < (tysA g).length := (List.getElem?_eq_some_iff.mp hi).1
  obtain ⟨k1, c1, -, -, -, h1⟩ := (h.2 i (g i, .object C) (by rw [List.getElem?_append_left hl]; exact hi)).2
  obtain ⟨k2, c2, -, -, -, h2⟩ := (h.2 6 (cA, .object C) rfl).2
  exact Option.some.inj (h2.symm.trans h1)
theorem ci {R : Room} {s : State} {args : Array Value} {own : String} {y : MethodName} {bytes : ByteArray} {maxL index mc ms : Nat} {rm : Room} (n : Nat) (ht : ∀ w ∈ bigw, w.before args s = true) (kc : Cond.code y bytes maxL none ∈ bigw) (ki : Cond.instanceMethod y ∈ bigw) (kn : Cond.initialized y.cls ∈ bigw) (km : Cond.methodLink own index y ∈ bigw) (hd : y.cls ≠ "java/lang/invoke/MethodHandle" ∧ y.cls ≠ "java/lang/invoke/VarHandle" ∧ (parseMethodDescriptor y.desc).map (fun d => d.parameters.length) = some n) (hn : y.name = "<init>") (hrc : rm.cells = mc) (hrs : rm.slots = ms) (hR : rm.frames + 1 ≤ R.frames ∧ 8 + (maxL + 11) + rm.locals ≤ R.locals) : CallB R s args own index y bytes maxL none (Cond.code y bytes maxL none :: bigw) rm mc ms n ∧ y.name = "<init>" ∧ (Cond.instanceMethod y).before args s = true :=
  ⟨callB_of n ht (gb kc) rfl hrc hrs (ht _ kn) (ht _ km) hd hR, hn, ht _ ki⟩
/-- a new process's rows -/
def cNew (v : Vs) (np : Nat) (x pr nd : Int32) : Vs := u1 (u1 (u1 v (68 + 3 * np) (fun j => if j = 0 then x else if j = 1 then pr else if j = 4 then nd else 0)) (68 + 3 * np + 1) (fun _ => 0)) (68 + 3 * np + 2) (upd (upd (upd (fun _ => 0) 0 nd) 1 nd) 2 nd)
abbrev prF (x pr nd : Int32) (a b : Value) : List Value := [.int x, .int pr, a, b, .int nd, .int 0, .int 0, .int 0, .int 0, .int 0, .int 0, .int 0]
/-- the addresses with three more -/
def ad3 (ad : Nat → Nat) (n q q1 q2 : Nat) : Nat → Nat := va_up (va_up (va_up ad n q) (n + 1) q1) (n + 2) q2
theorem ad3_lt {ad : Nat → Nat} {n q q1 q2 k : Nat} (h : k < n) : ad3 ad n q q1 q2 k = ad k := by
  unfold ad3; rw [va_up_ne _ _ (by omega), va_up_ne _ _ (by omega), va_up_ne _ _ (by omega)]
theorem ad3_0 {ad : Nat → Nat} {n q q1 q2 : Nat} : ad3 ad n q q1 q2 n = q := by
  unfold ad3; rw [va_up_ne _ _ (by omega), va_up_ne _ _ (by omega), va_up_self]
theorem ad3_1 {ad : Nat → Nat} {n q q1 q2 : Nat} : ad3 ad n q q1 q2 (n + 1) = q1 := by
  unfold ad3; rw [va_up_ne _ _ (by omega), va_up_self]
theorem ad3_2 {ad : Nat → Nat} {n q q1 q2 : Nat} : ad3 ad n q q1 q2 (n + 2) = q2 := by
  unfold ad3; rw [va_up_self]
theorem fun_ad {ad ad' : Nat → Nat} {N a b n : Nat} (h : ∀ j, j < n → ad j = ad' j) (hb : ∀ i, i < N → a + b * i < n) : (fun i => if i < N then some (ad (a + b * i)) else none) = (fun i => if i < N then some (ad' (a + b * i)) else none) := by
  funext i
  by_cases hi : i < N
  · rw [if_pos hi, if_pos hi, h _ (hb i hi)]
  · rw [if_neg hi, if_neg hi]
/-- a cell speaks of the addresses below n alone -/
theorem mkC_ad {g : Nat → ClassId} {ad ad' : Nat → Nat} {np k : Nat} {r : Nat → Int32} (hk : k < 68 + 3 * np) (h : ∀ j, j < 68 + 3 * np → ad j = ad' j) : mkC g ad np k r = mkC g ad' np k r := by
  by_cases h1 : k < 6
  · by_cases e0 : k = 0
    · subst e0; rw [mk_root, mk_root, h 1 (by omega), h 2 (by omega), h 3 (by omega), h 4 (by omega), h 5 (by omega)]
    · by_cases e1 : k = 1
      · subst e1; rw [mk_programs, mk_programs, fun_ad h (fun i hi => by omega)]
      · by_cases e2 : k = 2
        · subst e2; rw [mk_processes, mk_processes, fun_ad h (fun i hi => by omega)]
        · by_cases e3 : k = 3
          · subst e3; rw [mk_lines, mk_lines, fun_ad h (fun i hi => by omega)]
          · by_cases e4 : k = 4
            · subst e4; rw [mk_pages, mk_pages, fun_ad h (fun i hi => by omega)]
            · obtain rfl : k = 5 := by omega
              rw [mk_memory, mk_memory]
  · by_cases h2 : k < 22
    · by_cases e : (k - 6) % 4 = 0
      · obtain ⟨i, rfl⟩ : ∃ i, k = 6 + 4 * i := ⟨(k - 6) / 4, by omega⟩
        rw [mk_program (by omega), mk_program (by omega), h _ (by omega), h _ (by omega), h _ (by omega)]
      · obtain ⟨i, j, h3, h4, rfl⟩ : ∃ i j, 1 ≤ j ∧ j < 4 ∧ k = 6 + 4 * i + j := ⟨(k - 6) / 4, (k - 6) % 4, by omega, by omega, by omega⟩
        rw [mk_ops (by omega) h3 h4, mk_ops (by omega) h3 h4]
    · by_cases h3 : k < 68
      · by_cases e : isLn k
        · rw [mk_line e, mk_line e, h _ (by have := ln_lt e; omega)]
        · by_cases e2 : isLn (k - 1)
          · obtain ⟨k0, rfl⟩ : ∃ k0, k = k0 + 1 := ⟨k - 1, by omega⟩
            rw [Nat.add_sub_cancel] at e2
            rw [mk_items e2, mk_items e2]
          · unfold isLn at e e2
            by_cases e5 : (k - 28) % 5 = 0
            · obtain ⟨j, rfl⟩ : ∃ j, k = 28 + 5 * j := ⟨(k - 28) / 5, by omega⟩
              rw [mk_page (by omega), mk_page (by omega), h _ (by omega), h _ (by omega), h _ (by omega)]
            · by_cases e6 : (k - 28) % 5 = 1
              · obtain ⟨j, rfl⟩ : ∃ j, k = 28 + 5 * j + 1 := ⟨(k - 28) / 5, by omega⟩
                rw [mk_rights (by omega), mk_rights (by omega)]
              · obtain ⟨j, rfl⟩ : ∃ j, k = 28 + 5 * j + 2 := ⟨(k - 28) / 5, by omega⟩
                rw [mk_uses (by omega), mk_uses (by omega)]
      · by_cases e : (k - 68) % 3 = 0
        · obtain ⟨i, rfl⟩ : ∃ i, k = 68 + 3 * i := ⟨(k - 68) / 3, by omega⟩
          rw [mk_proc, mk_proc, h _ (by omega), h _ (by omega)]
        · by_cases e2 : (k - 68) % 3 = 1
          · obtain ⟨i, rfl⟩ : ∃ i, k = 68 + 3 * i + 1 := ⟨(k - 68) / 3, by omega⟩
            rw [mk_regs, mk_regs]
          · obtain ⟨i, rfl⟩ : ∃ i, k = 68 + 3 * i + 2 := ⟨(k - 68) / 3, by omega⟩
            rw [mk_hints, mk_hints]
/-- the class's world with three cells more: a process's, not yet in the array -/
theorem wC_push {g : Nat → ClassId} {ad : Nat → Nat} {np : Nat} {v : Vs} {q q1 q2 : Nat} {x pr nd : Int32} : wC g ad np v ++ [(q, .inr (ciProc, prF x pr nd (.ref q1) (.ref q2))), (q1, .inl (g 0, 4, .inl (fun _ => 0))), (q2, .inl (g 0, 3, .inl (upd (upd (upd (fun _ => 0) 0 nd) 1 nd) 2 nd)))] = mw (68 + 3 * (np + 1)) (ad3 ad (68 + 3 * np) q q1 q2) (mkC g (ad3 ad (68 + 3 * np) q q1 q2) np) (cNew v np x pr nd) := by
  apply List.ext_getElem?
  intro j
  by_cases hj : j < 68 + 3 * np
  · rw [List.getElem?_append_left (by rw [wC, mw, wl_len]; exact hj), wC, mw_get hj rfl, mw_get (by omega) rfl, ad3_lt hj]
    have e : cNew v np x pr nd j = v j := by unfold cNew; rw [u1_oth (by omega), u1_oth (by omega), u1_oth (by omega)]
    rw [e, mkC_ad hj (fun k hk => (ad3_lt hk).symm)]
  · obtain ⟨t, rfl⟩ : ∃ t, j = 68 + 3 * np + t := ⟨j - (68 + 3 * np), by omega⟩
    have hlen : (wC g ad np v).length = 68 + 3 * np := by rw [wC, mw, wl_len]
    have := ap_get (wC g ad np v) [(q, .inr (ciProc, prF x pr nd (.ref q1) (.ref q2))), (q1, .inl (g 0, 4, .inl (fun _ => 0))), (q2, .inl (g 0, 3, .inl (upd (upd (upd (fun _ => 0) 0 nd) 1 nd) 2 nd)))] t
    rw [hlen] at this
    rw [this]
    match t with
    | 0 =>
      have e : cNew v np x pr nd (68 + 3 * np) = (fun j => if j = 0 then x else if j = 1 then pr else if j = 4 then nd else 0) := by unfold cNew; rw [u1_oth (by omega), u1_oth (by omega), u1_row]
      rw [mw_get (by omega) (by rw [Nat.add_zero, mk_proc, e])]
      rw [Nat.add_zero, ad3_0, ad3_1, ad3_2]
      rfl
    | 1 =>
      have e : cNew v np x pr nd (68 + 3 * np + 1) = fun _ => 0 := by unfold cNew; rw [u1_oth (by omega), u1_row]
      rw [mw_get (by omega) (by rw [mk_regs, e]), ad3_1]
      rfl
    | 2 =>
      have e : cNew v np x pr nd (68 + 3 * np + 2) = upd (upd (upd (fun _ => 0) 0 nd) 1 nd) 2 nd := by unfold cNew; rw [u1_row]
      rw [mw_get (by omega) (by rw [mk_hints, e]), ad3_2]
      rfl
    | t + 3 =>
      rw [mw, wl_out (by omega)]
      rfl
/-- the array of processes takes the next one -/
theorem wC_more {g : Nat → ClassId} {ad : Nat → Nat} {np : Nat} {v : Vs} (h8 : np < 8) : (mw (68 + 3 * (np + 1)) ad (mkC g ad np) v).set 2 (ad 2, .inl (g 2, 8, .inr (.inr (.inr (.inr (va_up (fun i => if i < np then some (ad (68 + 3 * i)) else none) np (some (ad (68 + 3 * np))))))))) = wC g ad (np + 1) v := by
  rw [mw, wl_set (by omega), wC, mw]
  apply wl_congr (fun _ _ => rfl)
  intro k hk
  by_cases h2 : k = 2
  · subst h2
    have e : va_up (fun i => if i < np then some (ad (68 + 3 * i)) else none) np (some (ad (68 + 3 * np))) = fun i => if i < np + 1 then some (ad (68 + 3 * i)) else none := by
      funext i
      by_cases hi : i = np
      · subst hi; rw [va_up_self, if_pos (by omega)]
      · rw [va_up_ne _ _ hi]
        by_cases hl : i < np
        · rw [if_pos hl, if_pos (by omega)]
        · rw [if_neg hl, if_neg (by omega)]
    rw [va_up_self, mk_processes, e]
  · rw [va_up_ne _ _ h2]
    unfold mkC
    by_cases h1 : k < 6
    · rw [if_pos h1, if_pos h1]
      by_cases e0 : k = 0
      · rw [if_pos e0, if_pos e0]
      · rw [if_neg e0, if_neg e0]
        by_cases e1 : k = 1
        · rw [if_pos e1, if_pos e1]
        · rw [if_neg e1, if_neg e1, if_neg h2, if_neg h2]
    · rw [if_neg h1, if_neg h1]
theorem ap_left {W0 L : va_W} {k : Nat} {x : Nat × va_E} (h : W0[k]? = some x) : (W0 ++ L)[k]? = some x := by
  rw [List.getElem?_append_left (List.getElem?_eq_some_iff.mp h).1]; exact h
def cMk1 (v : Vs) (np : Nat) (x y : Int32) : Vs := u2 (cNew v np (v 0 5) x y) 0 5 (cNew v np (v 0 5) x y 0 5 + 1)
def cMake (v : Vs) (np : Nat) (x y : Int32) : Vs := cJoin (cMk1 v np x y) np
theorem cNew_old {v : Vs} {np k : Nat} {x pr nd : Int32} (h : k < 68 + 3 * np) : cNew v np x pr nd k = v k := by
  unfold cNew; rw [u1_oth (by omega), u1_oth (by omega), u1_oth (by omega)]
theorem cNew_0 {v : Vs} {np : Nat} {x pr nd : Int32} : cNew v np x pr nd (68 + 3 * np) = (fun j => if j = 0 then x else if j = 1 then pr else if j = 4 then nd else 0) := by
  unfold cNew; rw [u1_oth (by omega), u1_oth (by omega), u1_row]
theorem cNew_1 {v : Vs} {np : Nat} {x pr nd : Int32} : cNew v np x pr nd (68 + 3 * np + 1) = fun _ => 0 := by
  unfold cNew; rw [u1_oth (by omega), u1_row]
theorem cNew_2 {v : Vs} {np : Nat} {x pr nd : Int32} : cNew v np x pr nd (68 + 3 * np + 2) = upd (upd (upd (fun _ => 0) 0 nd) 1 nd) 2 nd := by
  unfold cNew; rw [u1_row]
theorem okS_more {np k j : Nat} {x : Int32} (h : okS np k j x) (h0 : ¬ (k = 0 ∧ j = 5)) : okS (np + 1) k j x := by
  obtain ⟨-, h2, h3, h4, h5⟩ := h
  refine ⟨fun a b => absurd ⟨a, b⟩ h0, fun a b => ?_, fun a b => ?_, h4, h5⟩
  · obtain ⟨n, q1, q2, q3⟩ := h2 a b
    exact ⟨n, q1, q2, fun _ => Nat.succ_pos _⟩
  · obtain ⟨n, q1, q2⟩ := h3 a b
    exact ⟨n, q1, by omega⟩
theorem Ok.mk1 {np : Nat} {v : Vs} (h : Ok np v) {x y : Int32} (h8 : np < 8) (hx : okLt 4 x) (hy : okLt 3 y) : Ok (np + 1) (cMk1 v np x y) := by
  have hmade : cNew v np (v 0 5) x y 0 5 + 1 = nI (np + 1) := by
    rw [cNew_old (by omega), h.made.1]; exact nI_1 np
  have ho : ∀ k, k < 68 + 3 * np → k ≠ 0 → cMk1 v np x y k = v k := fun k hk h0 => by unfold cMk1; rw [u2_oth h0, cNew_old hk]
  refine ⟨by omega, fun k j hk => ?_, fun i hi => ?_⟩
  · by_cases hkn : k < 68 + 3 * np
    · by_cases h0 : k = 0
      · subst h0
        by_cases h5 : j = 5
        · subst h5
          unfold cMk1; rw [u2_s, hmade]
          exact ⟨fun _ _ => rfl, fun a => by unfold isLn at a; omega, fun _ a => absurd a (by omega), fun a => absurd a (by omega), fun a => absurd a (by omega)⟩
        · exact okS_free (by omega)
      · rw [ho k hkn h0]; exact okS_more (h.2.1 k j hkn) (by omega)
    · have e0 : cMk1 v np x y k = cNew v np (v 0 5) x y k := by unfold cMk1; rw [u2_oth (by omega)]
      rw [e0]
      rcases (show k = 68 + 3 * np ∨ k = 68 + 3 * np + 1 ∨ k = 68 + 3 * np + 2 by omega) with rfl | rfl | rfl
      · rw [cNew_0]
        refine ⟨fun a => absurd a (by omega), fun a => by unfold isLn at a; omega, fun a => by unfold isLn at a; omega, fun _ _ => ⟨fun a => ?_, fun a => ?_, fun a => ?_, fun a => ?_⟩, fun _ a => absurd a (by omega)⟩
        · subst a; show v 0 5 = _; rw [h.made.1, show (68 + 3 * np - 68) / 3 = np by omega]
        · subst a; exact hx
        · subst a; exact hy
        · subst a; exact ⟨0, by omega, rfl⟩
      · exact okS_free (by omega)
      · rw [cNew_2]
        refine okS_hint ?_
        unfold upd
        split
        · exact hy
        · split
          · exact hy
          · split
            · exact hy
            · exact ⟨0, by omega, rfl⟩
  · have := h.2.2 i hi
    unfold okP nv at this ⊢
    rw [ho (6 + 4 * i) (by omega) (by omega), ho (6 + 4 * i + 1) (by omega) (by omega), ho (6 + 4 * i + 2) (by omega) (by omega), ho (6 + 4 * i + 3) (by omega) (by omega)]
    exact this
theorem Ok.make {np : Nat} {v : Vs} (h : Ok np v) {x y : Int32} (h8 : np < 8) (hx : okLt 4 x) (hy : okLt 3 y) : Ok (np + 1) (cMake v np x y) := (h.mk1 h8 hx hy).join (by omega)
