abbrev rm_Line_init : Room := { frames := 1, cells := 1, slots := 8, locals := 12 }
set_option maxHeartbeats 8000000 in
set_option maxRecDepth 100000 in
theorem c_Line_init (l : Launch) {D : va_G} {g : Nat → ClassId} (W0 : va_W) (q : Nat) : MtV l y_Line_init ws_Line_init rm_Line_init D classes (tysA g) [.ref q] (W0 ++ [(q, .inr (ciLine, [.null, .int 0]))]) (fun _ : Nat => True) (fun u => W0 ++ [(q, .inr (ciLine, [.ref u, .int 0])), (u, .inl (g 0, 8, .inl (fun _ => 0)))]) 1 8 := by
  refine mt_v (by decide +kernel) rfl (Nat.le_of_ble_eq_true rfl) (fun p e s m args below meth c Q A C hnm hA hW hret ls hl => ?_)
  obtain ⟨hx, hb, hr, hml, hown, hts0, hlocks⟩ := C
  have hts : ∀ w ∈ bigw, w.before args s = true := fun w h => hts0 w (List.mem_cons_of_mem _ h)
  have hown : s.vm.findClass R_Line = some m.cls := hown
  have hl : lv_has ls 1 [(0, .ref q)] := hl
  obtain ⟨hK, hP, hD, hS⟩ := hW
  refine lv_aload_n hx hb d_Line_init_0 rfl (lv_at hl 0 rfl) ?_
  refine W.objInit hx hb hown (hts _ km_Line_3) (hts _ ko_i) (hts _ ko_c) rfl (by rw [hml]; exact hl.1) rfl d_Line_init_1 (Nat.le_of_ble_eq_true rfl) (Nat.le_of_ble_eq_true rfl) ?_
  refine W.eq (g2 := F0 m 4 ls []) rfl ?_
  refine lv_aload_n hx hb d_Line_init_4 rfl (lv_at hl 0 rfl) ?_
  refine lv_bipush (v := 8) hx hb d_Line_init_5 (by decide) ?_
  refine va_newa (atype := .int) (ty := .int) (N' := 8) (a0 := (8, .inl (fun _ => 0))) hx hb (hts _ ka_int) rfl hK hP hD hS hA (fun _ => rfl) (by decide) rfl (by decide) (by decide) (by decide) d_Line_init_7 (fun q1 cA H hK hP hD hS => ?_)
  obtain rfl : cA = g 0 := kI hK
  have hK : va_K D classes (tysA g) s := hK.sub [0, 1, 2, 3, 4, 5] rfl
  rw [List.append_assoc] at hP hD
  have hP : va_P D classes (W0 ++ [(q, .inr (ciLine, [.null, .int 0])), (q1, .inl (g 0, 8, .inl (fun _ => 0)))]) H := hP
  have hD : va_D A (W0 ++ [(q, .inr (ciLine, [.null, .int 0])), (q1, .inl (g 0, 8, .inl (fun _ => 0)))]) := hD
  refine va_putF (D := D) (ci := ciLine) (v := .ref q1) (ty := .array .int) (C := R_Line) (T := F_Line) (N := 2) hx hb hts i_Line t_Line t_Line_ok n_Line hown hK hP hD hS (W0.length + 0) ((ap_get W0 _ 0).trans rfl) rfl 0 (by decide) (hts _ kf_Line_9) (fun _ h9 => h9) rfl hnm rfl (by decide +kernel) rfl rfl (Nat.le_of_ble_eq_true rfl) d_Line_init_9 (fun H locs hP hD hS => ?_)
  rw [ap_set] at hP hD
  have hP : va_P D classes (W0 ++ [(q, .inr (ciLine, [.ref q1, .int 0])), (q1, .inl (g 0, 8, .inl (fun _ => 0)))]) H := hP
  have hD : va_D A (W0 ++ [(q, .inr (ciLine, [.ref q1, .int 0])), (q1, .inl (g 0, 8, .inl (fun _ => 0)))]) := hD
  exact hret q1 _ _ _ _ _ _ trivial ⟨hK, hP, hD, hS⟩ (by decide) (by decide) d_Line_init_12
abbrev rm_Program_init : Room := { frames := 1, cells := 3, slots := 36, locals := 12 }
set_option maxHeartbeats 8000000 in
set_option maxRecDepth 100000 in
theorem c_Program_init (l : Launch) {D : va_G} {g : Nat → ClassId} (W0 : va_W) (q : Nat) : MtV l y_Program_init ws_Program_init rm_Program_init D classes (tysA g) [.ref q] (W0 ++ [(q, .inr (ciProgram, [.null, .null, .null, .int 0]))]) (fun _ : Nat × Nat × Nat => True) (fun u => W0 ++ [(q, .inr (ciProgram, [.ref u.1, .ref u.2.1, .ref u.2.2, .int 0])), (u.1, .inl (g 0, 12, .inl (fun _ => 0))), (u.2.1, .inl (g 0, 12, .inl (fun _ => 0))), (u.2.2, .inl (g 0, 12, .inl (fun _ => 0)))]) 3 36 := by
  refine mt_v (by decide +kernel) rfl (Nat.le_of_ble_eq_true rfl) (fun p e s m args below meth c Q A C hnm hA hW hret ls hl => ?_)
  obtain ⟨hx, hb, hr, hml, hown, hts0, hlocks⟩ := C
  have hts : ∀ w ∈ bigw, w.before args s = true := fun w h => hts0 w (List.mem_cons_of_mem _ h)
  have hown : s.vm.findClass R_Program = some m.cls := hown
  have hl : lv_has ls 1 [(0, .ref q)] := hl
  obtain ⟨hK, hP, hD, hS⟩ := hW
  refine lv_aload_n hx hb d_Program_init_0 rfl (lv_at hl 0 rfl) ?_
  refine W.objInit hx hb hown (hts _ km_Program_3) (hts _ ko_i) (hts _ ko_c) rfl (by rw [hml]; exact hl.1) rfl d_Program_init_1 (Nat.le_of_ble_eq_true rfl) (Nat.le_of_ble_eq_true rfl) ?_
  refine W.eq (g2 := F0 m 4 ls []) rfl ?_
  refine lv_aload_n hx hb d_Program_init_4 rfl (lv_at hl 0 rfl) ?_
  refine lv_bipush (v := 12) hx hb d_Program_init_5 (by decide) ?_
  refine va_newa (atype := .int) (ty := .int) (N' := 12) (a0 := (12, .inl (fun _ => 0))) hx hb (hts _ ka_int) rfl hK hP hD hS hA (fun _ => rfl) (by decide) rfl (by decide) (by decide) (by decide) d_Program_init_7 (fun q1 cA H hK hP hD hS => ?_)
  obtain rfl : cA = g 0 := kI hK
  have hK : va_K D classes (tysA g) s := hK.sub [0, 1, 2, 3, 4, 5] rfl
  rw [List.append_assoc] at hP hD
  have hP : va_P D classes (W0 ++ [(q, .inr (ciProgram, [.null, .null, .null, .int 0])), (q1, .inl (g 0, 12, .inl (fun _ => 0)))]) H := hP
  have hD : va_D A (W0 ++ [(q, .inr (ciProgram, [.null, .null, .null, .int 0])), (q1, .inl (g 0, 12, .inl (fun _ => 0)))]) := hD
  refine va_putF (D := D) (ci := ciProgram) (v := .ref q1) (ty := .array .int) (C := R_Program) (T := F_Program) (N := 4) hx hb hts i_Program t_Program t_Program_ok n_Program hown hK hP hD hS (W0.length + 0) ((ap_get W0 _ 0).trans rfl) rfl 0 (by decide) (hts _ kf_Program_9) (fun _ h9 => h9) rfl hnm rfl (by decide +kernel) rfl rfl (Nat.le_of_ble_eq_true rfl) d_Program_init_9 (fun H locs hP hD hS => ?_)
  rw [ap_set] at hP hD
  have hP : va_P D classes (W0 ++ [(q, .inr (ciProgram, [.ref q1, .null, .null, .int 0])), (q1, .inl (g 0, 12, .inl (fun _ => 0)))]) H := hP
  have hD : va_D A (W0 ++ [(q, .inr (ciProgram, [.ref q1, .null, .null, .int 0])), (q1, .inl (g 0, 12, .inl (fun _ => 0)))]) := hD
  refine lv_aload_n hx hb d_Program_init_12 rfl (lv_at hl 0 rfl) ?_
  refine lv_bipush (v := 12) hx hb d_Program_init_13 (by decide) ?_
  refine va_newa (atype := .int) (ty := .int) (N' := 12) (a0 := (12, .inl (fun _ => 0))) hx hb (hts _ ka_int) rfl hK hP hD hS hA (fun _ => rfl) (by decide) rfl (by decide) (by decide) (by decide) d_Program_init_15 (fun q2 cA H hK hP hD hS => ?_)
  obtain rfl : cA = g 0 := kI hK
  have hK : va_K D classes (tysA g) s := hK.sub [0, 1, 2, 3, 4, 5] rfl
  rw [List.append_assoc] at hP hD
  have hP : va_P D classes (W0 ++ [(q, .inr (ciProgram, [.ref q1, .null, .null, .int 0])), (q1, .inl (g 0, 12, .inl (fun _ => 0))), (q2, .inl (g 0, 12, .inl (fun _ => 0)))]) H := hP
  have hD : va_D A (W0 ++ [(q, .inr (ciProgram, [.ref q1, .null, .null, .int 0])), (q1, .inl (g 0, 12, .inl (fun _ => 0))), (q2, .inl (g 0, 12, .inl (fun _ => 0)))]) := hD
  refine va_putF (D := D) (ci := ciProgram) (v := .ref q2) (ty := .array .int) (C := R_Program) (T := F_Program) (N := 4) hx hb hts i_Program t_Program t_Program_ok n_Program hown hK hP hD hS (W0.length + 0) ((ap_get W0 _ 0).trans rfl) rfl 1 (by decide) (hts _ kf_Program_15) (fun _ h9 => h9) rfl hnm rfl (by decide +kernel) rfl rfl (Nat.le_of_ble_eq_true rfl) d_Program_init_17 (fun H locs hP hD hS => ?_)
  rw [ap_set] at hP hD
  have hP : va_P D classes (W0 ++ [(q, .inr (ciProgram, [.ref q1, .ref q2, .null, .int 0])), (q1, .inl (g 0, 12, .inl (fun _ => 0))), (q2, .inl (g 0, 12, .inl (fun _ => 0)))]) H := hP
  have hD : va_D A (W0 ++ [(q, .inr (ciProgram, [.ref q1, .ref q2, .null, .int 0])), (q1, .inl (g 0, 12, .inl (fun _ => 0))), (q2, .inl (g 0, 12, .inl (fun _ => 0)))]) := hD
  refine lv_aload_n hx hb d_Program_init_20 rfl (lv_at hl 0 rfl) ?_
  refine lv_bipush (v := 12) hx hb d_Program_init_21 (by decide) ?_
  refine va_newa (atype := .int) (ty := .int) (N' := 12) (a0 := (12, .inl (fun _ => 0))) hx hb (hts _ ka_int) rfl hK hP hD hS hA (fun _ => rfl) (by decide) rfl (by decide) (by decide) (by decide) d_Program_init_23 (fun q3 cA H hK hP hD hS => ?_)
  obtain rfl : cA = g 0 := kI hK
  have hK : va_K D classes (tysA g) s := hK.sub [0, 1, 2, 3, 4, 5] rfl
  rw [List.append_assoc] at hP hD
  have hP : va_P D classes (W0 ++ [(q, .inr (ciProgram, [.ref q1, .ref q2, .null, .int 0])), (q1, .inl (g 0, 12, .inl (fun _ => 0))), (q2, .inl (g 0, 12, .inl (fun _ => 0))), (q3, .inl (g 0, 12, .inl (fun _ => 0)))]) H := hP
  have hD : va_D A (W0 ++ [(q, .inr (ciProgram, [.ref q1, .ref q2, .null, .int 0])), (q1, .inl (g 0, 12, .inl (fun _ => 0))), (q2, .inl (g 0, 12, .inl (fun _ => 0))), (q3, .inl (g 0, 12, .inl (fun _ => 0)))]) := hD
  refine va_putF (D := D) (ci := ciProgram) (v := .ref q3) (ty := .array .int) (C := R_Program) (T := F_Program) (N := 4) hx hb hts i_Program t_Program t_Program_ok n_Program hown hK hP hD hS (W0.length + 0) ((ap_get W0 _ 0).trans rfl) rfl 2 (by decide) (hts _ kf_Program_18) (fun _ h9 => h9) rfl hnm rfl (by decide +kernel) rfl rfl (Nat.le_of_ble_eq_true rfl) d_Program_init_25 (fun H locs hP hD hS => ?_)
  rw [ap_set] at hP hD
  have hP : va_P D classes (W0 ++ [(q, .inr (ciProgram, [.ref q1, .ref q2, .ref q3, .int 0])), (q1, .inl (g 0, 12, .inl (fun _ => 0))), (q2, .inl (g 0, 12, .inl (fun _ => 0))), (q3, .inl (g 0, 12, .inl (fun _ => 0)))]) H := hP
  have hD : va_D A (W0 ++ [(q, .inr (ciProgram, [.ref q1, .ref q2, .ref q3, .int 0])), (q1, .inl (g 0, 12, .inl (fun _ => 0))), (q2, .inl (g 0, 12, .inl (fun _ => 0))), (q3, .inl (g 0, 12, .inl (fun _ => 0)))]) := hD
  exact hret (q1, q2, q3) _ _ _ _ _ _ trivial ⟨hK, hP, hD, hS⟩ (by decide) (by decide) d_Program_init_28
abbrev rm_Page_init : Room := { frames := 2, cells := 4, slots := 16, locals := 32 }
set_option maxHeartbeats 8000000 in
set_option maxRecDepth 100000 in
theorem c_Page_init (l : Launch) {D : va_G} {g : Nat → ClassId} (W0 : va_W) (q : Nat) : MtN l y_Page_init ws_Page_init rm_Page_init D classes (tysA g) [.ref q] (W0 ++ [(q, .inr (ciPage, [.null, .null, .null, .int 0]))]) (fun _ : Nat × Nat × Nat × Nat => True) (fun u => W0 ++ [(q, .inr (ciPage, [.ref u.1, .ref u.2.1, .ref u.2.2.1, .int 3])), (u.1, .inl (g 0, 3, .inl (fun _ => 0))), (u.2.1, .inl (g 0, 3, .inl (fun _ => 0))), (u.2.2.1, .inr (ciLine, [.ref u.2.2.2, .int 0])), (u.2.2.2, .inl (g 0, 8, .inl (fun _ => 0)))]) 4 16 := by
  refine mt_n (by decide +kernel) rfl (Nat.le_of_ble_eq_true rfl) (fun p e s m args below meth c Q A C hnm hA hX hW hret ls hl => ?_)
  obtain ⟨hx, hb, hr, hml, hown, hts0, hlocks⟩ := C
  have hts : ∀ w ∈ bigw, w.before args s = true := fun w h => hts0 w (List.mem_cons_of_mem _ h)
  have hown : s.vm.findClass R_Page = some m.cls := hown
  have hl : lv_has ls 1 [(0, .ref q)] := hl
  obtain ⟨hK, hP, hD, hS⟩ := hW
  refine lv_aload_n hx hb d_Page_init_0 rfl (lv_at hl 0 rfl) ?_
  refine W.objInit hx hb hown (hts _ km_Page_3) (hts _ ko_i) (hts _ ko_c) rfl (by rw [hml]; exact hl.1) rfl d_Page_init_1 (Nat.le_of_ble_eq_true rfl) (Nat.le_of_ble_eq_true rfl) ?_
  refine W.eq (g2 := F0 m 4 ls []) rfl ?_
  refine lv_aload_n hx hb d_Page_init_4 rfl (lv_at hl 0 rfl) ?_
  refine lv_iconst (v := 3) hx hb d_Page_init_5 (by decide) ?_
  refine va_newa (atype := .int) (ty := .int) (N' := 3) (a0 := (3, .inl (fun _ => 0))) hx hb (hts _ ka_int) rfl hK hP hD hS hA (fun _ => rfl) (by decide) rfl (by decide) (by decide) (by decide) d_Page_init_6 (fun q1 cA H hK hP hD hS => ?_)
  obtain rfl : cA = g 0 := kI hK
  have hK : va_K D classes (tysA g) s := hK.sub [0, 1, 2, 3, 4, 5] rfl
  rw [List.append_assoc] at hP hD
  have hP : va_P D classes (W0 ++ [(q, .inr (ciPage, [.null, .null, .null, .int 0])), (q1, .inl (g 0, 3, .inl (fun _ => 0)))]) H := hP
  have hD : va_D A (W0 ++ [(q, .inr (ciPage, [.null, .null, .null, .int 0])), (q1, .inl (g 0, 3, .inl (fun _ => 0)))]) := hD
  refine va_putF (D := D) (ci := ciPage) (v := .ref q1) (ty := .array .int) (C := R_Page) (T := F_Page) (N := 4) hx hb hts i_Page t_Page t_Page_ok n_Page hown hK hP hD hS (W0.length + 0) ((ap_get W0 _ 0).trans rfl) rfl 0 (by decide) (hts _ kf_Page_9) (fun _ h9 => h9) rfl hnm rfl (by decide +kernel) rfl rfl (Nat.le_of_ble_eq_true rfl) d_Page_init_8 (fun H locs hP hD hS => ?_)
  rw [ap_set] at hP hD
  have hP : va_P D classes (W0 ++ [(q, .inr (ciPage, [.ref q1, .null, .null, .int 0])), (q1, .inl (g 0, 3, .inl (fun _ => 0)))]) H := hP
  have hD : va_D A (W0 ++ [(q, .inr (ciPage, [.ref q1, .null, .null, .int 0])), (q1, .inl (g 0, 3, .inl (fun _ => 0)))]) := hD
  refine lv_aload_n hx hb d_Page_init_11 rfl (lv_at hl 0 rfl) ?_
  refine lv_iconst (v := 3) hx hb d_Page_init_12 (by decide) ?_
  refine va_newa (atype := .int) (ty := .int) (N' := 3) (a0 := (3, .inl (fun _ => 0))) hx hb (hts _ ka_int) rfl hK hP hD hS hA (fun _ => rfl) (by decide) rfl (by decide) (by decide) (by decide) d_Page_init_13 (fun q2 cA H hK hP hD hS => ?_)
  obtain rfl : cA = g 0 := kI hK
  have hK : va_K D classes (tysA g) s := hK.sub [0, 1, 2, 3, 4, 5] rfl
  rw [List.append_assoc] at hP hD
  have hP : va_P D classes (W0 ++ [(q, .inr (ciPage, [.ref q1, .null, .null, .int 0])), (q1, .inl (g 0, 3, .inl (fun _ => 0))), (q2, .inl (g 0, 3, .inl (fun _ => 0)))]) H := hP
  have hD : va_D A (W0 ++ [(q, .inr (ciPage, [.ref q1, .null, .null, .int 0])), (q1, .inl (g 0, 3, .inl (fun _ => 0))), (q2, .inl (g 0, 3, .inl (fun _ => 0)))]) := hD
  refine va_putF (D := D) (ci := ciPage) (v := .ref q2) (ty := .array .int) (C := R_Page) (T := F_Page) (N := 4) hx hb hts i_Page t_Page t_Page_ok n_Page hown hK hP hD hS (W0.length + 0) ((ap_get W0 _ 0).trans rfl) rfl 1 (by decide) (hts _ kf_Page_15) (fun _ h9 => h9) rfl hnm rfl (by decide +kernel) rfl rfl (Nat.le_of_ble_eq_true rfl) d_Page_init_15 (fun H locs hP hD hS => ?_)
  rw [ap_set] at hP hD
  have hP : va_P D classes (W0 ++ [(q, .inr (ciPage, [.ref q1, .ref q2, .null, .int 0])), (q1, .inl (g 0, 3, .inl (fun _ => 0))), (q2, .inl (g 0, 3, .inl (fun _ => 0)))]) H := hP
  have hD : va_D A (W0 ++ [(q, .inr (ciPage, [.ref q1, .ref q2, .null, .int 0])), (q1, .inl (g 0, 3, .inl (fun _ => 0))), (q2, .inl (g 0, 3, .inl (fun _ => 0)))]) := hD
  refine lv_aload_n hx hb d_Page_init_18 rfl (lv_at hl 0 rfl) ?_
  refine va_new (ci := ciLine) (fs := [.null, .int 0]) (C := R_Line) (T := F_Line) (N := 2) hx hb hts i_Line t_Line t_Line_ok hown (hts _ kd_Page_18) (hts _ kx_Line) (hts _ kn_Line) hK hP hD hS hA rfl (fun j hj => by rcases (show j = 0 ∨ j = 1 by omega) with rfl | rfl <;> rfl) (by decide) (by decide) d_Page_init_19 (fun q3 H hP hD hS => ?_)
  refine lv_dup hx hb d_Page_init_22 rfl ?_
  have hW : Wd D classes (tysA g) s A ((W0 ++ [(q, .inr (ciPage, [.ref q1, .ref q2, .null, .int 0])), (q1, .inl (g 0, 3, .inl (fun _ => 0))), (q2, .inl (g 0, 3, .inl (fun _ => 0)))]) ++ [(q3, .inr (ciLine, [.null, .int 0]))]) H _ := ⟨hK, hP, hD, hS⟩
  refine wcv hW hA (va_runIN (As := []) (rest := [.ref q3, .ref q]) ⟨hx, hb, hml, hown, hts⟩ (c_Line_init l (W0 ++ [(q, .inr (ciPage, [.ref q1, .ref q2, .null, .int 0])), (q1, .inl (g 0, 3, .inl (fun _ => 0))), (q2, .inl (g 0, 3, .inl (fun _ => 0)))]) q3 _) ⟨va_cnB 0 hts (gb kc_Line_init) rfl rfl rfl hX (hts _ kn_Line) kh_Line_init ⟨by decide, by decide⟩, rfl, hts _ ki_Line_init⟩ (preWS hW) rfl rfl hl.1 rfl (lv_room (Nat.le_of_ble_eq_true rfl)) d_Page_init_23 ⟨by decide, by decide⟩) (fun q4 H locs hp hW => ?_)
  obtain ⟨hK, hP, hD, hS⟩ := hW
  rw [List.append_assoc] at hP hD
  have hP : va_P D classes (W0 ++ [(q, .inr (ciPage, [.ref q1, .ref q2, .null, .int 0])), (q1, .inl (g 0, 3, .inl (fun _ => 0))), (q2, .inl (g 0, 3, .inl (fun _ => 0))), (q3, .inr (ciLine, [.ref q4, .int 0])), (q4, .inl (g 0, 8, .inl (fun _ => 0)))]) H := hP
  have hD : va_D A (W0 ++ [(q, .inr (ciPage, [.ref q1, .ref q2, .null, .int 0])), (q1, .inl (g 0, 3, .inl (fun _ => 0))), (q2, .inl (g 0, 3, .inl (fun _ => 0))), (q3, .inr (ciLine, [.ref q4, .int 0])), (q4, .inl (g 0, 8, .inl (fun _ => 0)))]) := hD
  refine va_putF (D := D) (ci := ciPage) (v := .ref q3) (ty := .object "ClusterImage$Line") (C := R_Page) (T := F_Page) (N := 4) hx hb hts i_Page t_Page t_Page_ok n_Page hown hK hP hD hS (W0.length + 0) ((ap_get W0 _ 0).trans rfl) rfl 2 (by decide) (hts _ kf_Page_21) (fun _ h9 => h9) rfl hnm rfl (by decide +kernel) rfl rfl (Nat.le_of_ble_eq_true rfl) d_Page_init_26 (fun H locs hP hD hS => ?_)
  rw [ap_set] at hP hD
  have hP : va_P D classes (W0 ++ [(q, .inr (ciPage, [.ref q1, .ref q2, .ref q3, .int 0])), (q1, .inl (g 0, 3, .inl (fun _ => 0))), (q2, .inl (g 0, 3, .inl (fun _ => 0))), (q3, .inr (ciLine, [.ref q4, .int 0])), (q4, .inl (g 0, 8, .inl (fun _ => 0)))]) H := hP
  have hD : va_D A (W0 ++ [(q, .inr (ciPage, [.ref q1, .ref q2, .ref q3, .int 0])), (q1, .inl (g 0, 3, .inl (fun _ => 0))), (q2, .inl (g 0, 3, .inl (fun _ => 0))), (q3, .inr (ciLine, [.ref q4, .int 0])), (q4, .inl (g 0, 8, .inl (fun _ => 0)))]) := hD
  refine lv_aload_n hx hb d_Page_init_29 rfl (lv_at hl 0 rfl) ?_
  refine lv_iconst (v := 3) hx hb d_Page_init_30 (by decide) ?_
  refine va_put (D := D) (ci := ciPage) (v := .int 3) (ty := .int) (C := R_Page) (T := F_Page) (N := 4) hx hb hts i_Page t_Page t_Page_ok n_Page hown hK hP hD hS (W0.length + 0) ((ap_get W0 _ 0).trans rfl) rfl 3 (by decide) (hts _ kf_Page_25) (fun _ h9 => h9) rfl (by decide +kernel) rfl rfl (Nat.le_of_ble_eq_true rfl) d_Page_init_31 (fun H locs hP hD hS => ?_)
  rw [ap_set] at hP hD
  have hP : va_P D classes (W0 ++ [(q, .inr (ciPage, [.ref q1, .ref q2, .ref q3, .int 3])), (q1, .inl (g 0, 3, .inl (fun _ => 0))), (q2, .inl (g 0, 3, .inl (fun _ => 0))), (q3, .inr (ciLine, [.ref q4, .int 0])), (q4, .inl (g 0, 8, .inl (fun _ => 0)))]) H := hP
  have hD : va_D A (W0 ++ [(q, .inr (ciPage, [.ref q1, .ref q2, .ref q3, .int 3])), (q1, .inl (g 0, 3, .inl (fun _ => 0))), (q2, .inl (g 0, 3, .inl (fun _ => 0))), (q3, .inr (ciLine, [.ref q4, .int 0])), (q4, .inl (g 0, 8, .inl (fun _ => 0)))]) := hD
  exact hret (q1, q2, q3, q4) _ _ _ _ _ _ trivial ⟨hK, hP, hD, hS⟩ (by decide) (by decide) d_Page_init_34
