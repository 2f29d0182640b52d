set_option maxHeartbeats 8000000 in
set_option maxRecDepth 100000 in
/-- THE LAW, from its entry -/
theorem whole_start {p : Program} {e : Env} {s : State} {m : MethodId} {below : List Frame} {meth : Method} {c : Code} (l : Launch) {b L : Nat} {xs : Nat → Int32} (hL : L ≤ 2560) (C0 : lw_At p s m meth c b L xs) : W p l e room_1 s m #[Value.ref b] below meth c s.heap [] 0 0 (lw_Z below #[Value.ref b] s) (entryFrame m ([Value.ref b] : List Value).toArray 4) := by
  obtain ⟨hx, hb, hr, hml, hown, hts0, hX, hbl, hlocks, hgv⟩ := id C0
  have hts : ∀ w ∈ bigw, w.before #[Value.ref b] s = true := fun w h => hts0 w (bg_in h)
  have hown : s.vm.findClass RL = some m.cls := hown
  have hA : ∀ q : Nat, s.heap.size ≤ q → (fun q : Nat => s.heap.size ≤ q) q := fun _ h => h
  have hbA : ¬ (fun q : Nat => s.heap.size ≤ q) b := Nat.not_le.mpr hbl
  obtain ⟨c0, i0, k0⟩ := u_known (C := R_C) (T := F_C) (N := 11) (n := 11) hts i_C (hts _ kx_C)
  obtain ⟨c1, i1, k1⟩ := u_known (C := R_Program) (T := F_Program) (N := 4) (n := 4) hts i_Program (hts _ kx_Program)
  obtain ⟨c2, i2, k2⟩ := u_known (C := R_Proc) (T := F_Proc) (N := 12) (n := 12) hts i_Proc (hts _ kx_Proc)
  obtain ⟨c3, i3, k3⟩ := u_known (C := R_Line) (T := F_Line) (N := 2) (n := 2) hts i_Line (hts _ kx_Line)
  obtain ⟨c4, i4, k4⟩ := u_known (C := R_Page) (T := F_Page) (N := 4) (n := 4) hts i_Page (hts _ kx_Page)
  obtain ⟨c5, i5, k5⟩ := u_known (C := R_M) (T := F_M) (N := 28) (n := 28) hts i_M (hts _ kx_M)
  obtain ⟨D, hKc⟩ : ∃ D : va_G, ∀ (k : Nat) (q : vw_C), classes[k]? = some q → u_Kn s q.1 q.2.1 q.2.2 (D.1 k) (D.2 k) := by
    refine ⟨(fun k => if k = 0 then c0 else if k = 1 then c1 else if k = 2 then c2 else if k = 3 then c3 else if k = 4 then c4 else c5, fun k => if k = 0 then i0 else if k = 1 then i1 else if k = 2 then i2 else if k = 3 then i3 else if k = 4 then i4 else i5), ?_⟩
    intro k q hq
    match k, hq with
    | 0, hq => cases hq; exact k0
    | 1, hq => cases hq; exact k1
    | 2, hq => cases hq; exact k2
    | 3, hq => cases hq; exact k3
    | 4, hq => cases hq; exact k4
    | 5, hq => cases hq; exact k5
    | k + 6, hq => simp [classes] at hq
  obtain ⟨g, hg⟩ : ∃ g : Nat → ClassId, ∀ (k : Nat) (q : ClassId × FieldType), (tysA g)[k]? = some q → ArrOfT s q.1 q.2 ∧ va_RA s q.1 q.2 := by
    obtain ⟨a0, x0, y0, p0, q0, r0⟩ := Cond.arrayClass_spec (hts _ ka_int)
    obtain ⟨a5, x5, y5, p5, q5, r5⟩ := Cond.arrayClass_spec (hts _ ka_boolean)
    obtain ⟨y1, a1, x1, p1, -, q1, r1, n1⟩ := Cond.arrayOver_spec (hts0 _ kb_Program)
    obtain ⟨y2, a2, x2, p2, -, q2, r2, n2⟩ := Cond.arrayOver_spec (hts0 _ kb_Proc)
    obtain ⟨y3, a3, x3, p3, -, q3, r3, n3⟩ := Cond.arrayOver_spec (hts0 _ kb_Line)
    obtain ⟨y4, a4, x4, p4, -, q4, r4, n4⟩ := Cond.arrayOver_spec (hts0 _ kb_Page)
    refine ⟨fun k => if k = 0 then a0 else if k = 1 then a1 else if k = 2 then a2 else if k = 3 then a3 else if k = 4 then a4 else a5, ?_⟩
    intro k q hq
    match k, hq with
    | 0, hq => cases hq; exact ⟨fun n z => ⟨fun k h => (by cases h), x0, q0, y0, r0⟩, p0⟩
    | 1, hq => cases hq; exact ⟨fun n z => ⟨fun k h => (by cases h), x1, q1, y1, r1⟩, x1, y1, q1, r1, p1, n1⟩
    | 2, hq => cases hq; exact ⟨fun n z => ⟨fun k h => (by cases h), x2, q2, y2, r2⟩, x2, y2, q2, r2, p2, n2⟩
    | 3, hq => cases hq; exact ⟨fun n z => ⟨fun k h => (by cases h), x3, q3, y3, r3⟩, x3, y3, q3, r3, p3, n3⟩
    | 4, hq => cases hq; exact ⟨fun n z => ⟨fun k h => (by cases h), x4, q4, y4, r4⟩, x4, y4, q4, r4, p4, n4⟩
    | 5, hq => cases hq; exact ⟨fun n z => ⟨fun k h => (by cases h), x5, q5, y5, r5⟩, p5⟩
    | k + 6, hq => simp [tysA] at hq
  have hK : va_K D classes (tysA g) s := ⟨hKc, hg⟩
  have hP : va_P D classes [] s.heap := fun k q h => by simp at h
  have hD : va_D (fun q : Nat => s.heap.size ≤ q) [] := ⟨fun i j p q h => by simp at h, fun k q h => by simp at h⟩
  have hS : va_S (fun q : Nat => s.heap.size ≤ q) s.heap s.heap [] := va_S.rf
  have hn : nestC s := ⟨va_Nw.of rfl (hts0 _ kk_C_37), va_Nw.of rfl (hts0 _ kk_C_38), va_Nw.of rfl (hts0 _ kk_C_39), va_Nw.of rfl (hts0 _ kk_Page_20), va_AO.of (hts0 _ kb_Program), va_AO.of (hts0 _ kb_Proc), va_AO.of (hts0 _ kb_Line), va_AO.of (hts0 _ kb_Page)⟩
  have hl := lv_entry ([.ref b]) (n := 4) (Nat.le_of_ble_eq_true rfl)
  rw [lg_entry_eq]
  generalize (lg_sl ([.ref b]) ++ List.replicate (4 - (lg_sl ([.ref b])).length) Slot.unset).toArray = ls at hl ⊢
  have hl : lv_has ls 4 [(0, .ref b)] := hl
  refine va_new (ci := ciC) (fs := [.null, .null, .null, .null, .null, .int 0, .int 0, .int 0, .int 0, .int 0, .int 0]) (C := R_C) (T := F_C) (N := 11) hx hb hts i_C t_C t_C_ok hown (hts _ kd_law_7) (hts _ kx_C) (hts _ kn_C) hK hP hD hS hA rfl (fun j hj => by rcases (show j = 0 ∨ j = 1 ∨ j = 2 ∨ j = 3 ∨ j = 4 ∨ j = 5 ∨ j = 6 ∨ j = 7 ∨ j = 8 ∨ j = 9 ∨ j = 10 by omega) with rfl | rfl | rfl | rfl | rfl | rfl | rfl | rfl | rfl | rfl | rfl <;> rfl) (by decide) (by decide) d_law_0 (fun q H hP hD hS => ?_)
  refine lv_dup hx hb d_law_3 rfl ?_
  have hW : Wd D classes (tysA g) s (fun q : Nat => s.heap.size ≤ q) ([(q, .inr (ciC, [.null, .null, .null, .null, .null, .int 0, .int 0, .int 0, .int 0, .int 0, .int 0]))] : va_W) H _ := ⟨hK, hP, hD, hS⟩
  refine wcv hW hA (va_runI (As := []) (rest := [.ref q]) ⟨hx, hb, hml, hown, hts⟩ (c_C_init l q _) (ci 0 hts kc_C_init ki_C_init kn_C km_law_9 kh_C_init rfl rfl rfl ⟨by decide, by decide⟩) (preWC hW hn) rfl rfl hl.1 rfl (lv_room (Nat.le_of_ble_eq_true rfl)) d_law_4 ⟨by decide, by decide⟩) (fun ad H locs h0 hW1 => ?_)
  have h0 : ad 0 = q := h0
  subst h0
  have hW : Wd D classes (tysA g) s (fun q : Nat => s.heap.size ≤ q) (wC g ad 0 vC0) H locs := hW1
  refine lv_astore_n (lv' := [(1, .ref (ad 0)), (0, .ref b)]) hx hb d_law_7 rfl hl (by decide) rfl (fun ls hl => ?_)
  obtain ⟨hK, hP, hD, hS⟩ := hW
  refine va_new (ci := ciM) (fs := [.null, .null, .null, .null, .null, .null, .null, .null, .null, .null, .null, .null, .null, .null, .int 0, .null, .null, .null, .null, .null, .null, .null, .null, .int 0, .int 0, .int 0, .int 0, .int 0]) (C := R_M) (T := F_M) (N := 28) hx hb hts i_M t_M t_M_ok hown (hts _ kd_law_10) (hts _ kx_M) (hts _ kn_M) hK hP hD hS hA rfl (fun j hj => by rcases (show j = 0 ∨ j = 1 ∨ j = 2 ∨ j = 3 ∨ j = 4 ∨ j = 5 ∨ j = 6 ∨ j = 7 ∨ j = 8 ∨ j = 9 ∨ j = 10 ∨ j = 11 ∨ j = 12 ∨ j = 13 ∨ j = 14 ∨ j = 15 ∨ j = 16 ∨ j = 17 ∨ j = 18 ∨ j = 19 ∨ j = 20 ∨ j = 21 ∨ j = 22 ∨ j = 23 ∨ j = 24 ∨ j = 25 ∨ j = 26 ∨ j = 27 by omega) with rfl | rfl | rfl | rfl | rfl | rfl | rfl | rfl | rfl | rfl | rfl | rfl | rfl | rfl | rfl | rfl | rfl | rfl | rfl | rfl | rfl | rfl | rfl | rfl | rfl | rfl | rfl | rfl <;> rfl) (by decide) (by decide) d_law_8 (fun q H hP hD hS => ?_)
  refine lv_dup hx hb d_law_11 rfl ?_
  have hW : Wd D classes (tysA g) s (fun q : Nat => s.heap.size ≤ q) (wC g ad 0 vC0 ++ ([(q, .inr (ciM, [.null, .null, .null, .null, .null, .null, .null, .null, .null, .null, .null, .null, .null, .null, .int 0, .null, .null, .null, .null, .null, .null, .null, .null, .int 0, .int 0, .int 0, .int 0, .int 0]))] : va_W)) H _ := ⟨hK, hP, hD, hS⟩
  refine wcv hW hA (va_runI (As := []) (rest := [.ref q]) ⟨hx, hb, hml, hown, hts⟩ (c_M_init l (wC g ad 0 vC0) q _) (ci 0 hts kc_M_init ki_M_init kn_M km_law_12 kh_M_init rfl rfl rfl ⟨by decide, by decide⟩) (preWS hW) rfl rfl hl.1 rfl (lv_room (Nat.le_of_ble_eq_true rfl)) d_law_12 ⟨by decide, by decide⟩) (fun am H locs h0 hW2 => ?_)
  have h0 : am 0 = q := h0
  subst h0
  have hW : Wd D classes (tysA g) s (fun q : Nat => s.heap.size ≤ q) (wC g ad 0 vC0 ++ wM g am rM0) H locs := hW2
  refine lv_astore_n (lv' := [(2, .ref (am 0)), (1, .ref (ad 0)), (0, .ref b)]) hx hb d_law_15 rfl hl (by decide) rfl (fun ls hl => ?_)
  refine lv_iconst (v := 0) hx hb d_law_16 (by decide) ?_
  refine lv_istore_n (lv' := [(3, .int 0), (2, .ref (am 0)), (1, .ref (ad 0)), (0, .ref b)]) hx hb d_law_17 rfl hl (by decide) rfl (fun ls hl => ?_)
  refine W.widen (k := 100 + 3 * 0) (n := 900 + 19 * 0) (by decide) (by decide) ?_
  exact law_loop hL C0 hA hbA (fun _ h => h) 513 0 (by omega) (by omega) 0 vC0 rM0 ad am _ _ _ rl_0 hW (lv_sub hl [3, 2, 1, 0] rfl)
