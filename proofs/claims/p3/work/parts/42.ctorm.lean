/-- the reference at first -/
def rM0 : Vs := fun k => if k = 14 then upd (upd (upd (upd (upd (upd (upd (upd (fun _ => 0) 0 8) 1 8) 2 8) 3 8) 4 8) 5 8) 6 8) 7 8 else if k = 21 then upd (upd (upd (upd (upd (upd (upd (upd (fun _ => 0) 0 3) 1 3) 2 3) 3 3) 4 3) 5 3) 6 3) 7 3 else fun _ => 0
abbrev rm_M_init : Room := { frames := 1, cells := 22, slots := 388, locals := 12 }
set_option maxHeartbeats 8000000 in
set_option maxRecDepth 100000 in
theorem c_M_init (l : Launch) {D : va_G} {g : Nat → ClassId} (W0 : va_W) (q : Nat) : MtV l y_M_init ws_M_init rm_M_init D classes (tysA g) [.ref q] (W0 ++ [(q, .inr (ciM, [.null, .null, .null, .null, .null, .null, .null, .null, .null, .null, .null, .null, .null, .null, .int 0, .null, .null, .null, .null, .null, .null, .null, .null, .int 0, .int 0, .int 0, .int 0, .int 0]))]) (fun u : Nat → Nat => u 0 = q) (fun u => W0 ++ wM g u rM0) 22 388 := by
  refine mt_v (by decide +kernel) rfl (Nat.le_of_ble_eq_true rfl) (fun p e s m args below meth c Q A C hnm hA hW hret ls hl => ?_)
  obtain ⟨hx, hb, hr, hml, hown, hts0, hlocks⟩ := C
  have hts : ∀ w ∈ bigw, w.before args s = true := fun w h => hts0 w (List.mem_cons_of_mem _ h)
  have hown : s.vm.findClass R_M = some m.cls := hown
  have hl : lv_has ls 1 [(0, .ref q)] := hl
  obtain ⟨hK, hP, hD, hS⟩ := hW
  obtain ⟨T0, e0⟩ : ∃ z : va_W, z = [] := ⟨_, rfl⟩
  have hP : va_P D classes (W0 ++ ((q, .inr (ciM, [.null, .null, .null, .null, .null, .null, .null, .null, .null, .null, .null, .null, .null, .null, .int 0, .null, .null, .null, .null, .null, .null, .null, .null, .int 0, .int 0, .int 0, .int 0, .int 0])) :: T0)) s.heap := by rw [e0]; exact hP
  have hD : va_D A (W0 ++ ((q, .inr (ciM, [.null, .null, .null, .null, .null, .null, .null, .null, .null, .null, .null, .null, .null, .null, .int 0, .null, .null, .null, .null, .null, .null, .null, .null, .int 0, .int 0, .int 0, .int 0, .int 0])) :: T0)) := by rw [e0]; exact hD
  refine lv_aload_n hx hb d_M_init_0 rfl (lv_at hl 0 rfl) ?_
  refine W.objInit hx hb hown (hts _ km_M_1) (hts _ ko_i) (hts _ ko_c) rfl (by rw [hml]; exact hl.1) rfl d_M_init_1 (Nat.le_of_ble_eq_true rfl) (Nat.le_of_ble_eq_true rfl) ?_
  refine W.eq (g2 := F0 m 4 ls []) rfl ?_
  refine lv_aload_n hx hb d_M_init_4 rfl (lv_at hl 0 rfl) ?_
  refine lv_bipush (v := 48) hx hb d_M_init_5 (by decide) ?_
  refine va_newa (atype := .int) (ty := .int) (N' := 48) (a0 := (48, .inl (fun _ => 0))) hx hb (hts _ ka_int) rfl hK hP hD hS hA (fun _ => rfl) (by decide) rfl (by decide) (by decide) (by decide) d_M_init_7 (fun q1 cA H hK hP hD hS => ?_)
  obtain rfl : cA = g 0 := kI hK
  have hK : va_K D classes (tysA g) s := hK.sub [0, 1, 2, 3, 4, 5] rfl
  rw [List.append_assoc] at hP hD
  obtain ⟨T1, e1⟩ : ∃ z : va_W, z = T0 ++ [(q1, .inl (g 0, 48, .inl (fun _ => 0)))] := ⟨_, rfl⟩
  have hP : va_P D classes (W0 ++ ((q, .inr (ciM, [.null, .null, .null, .null, .null, .null, .null, .null, .null, .null, .null, .null, .null, .null, .int 0, .null, .null, .null, .null, .null, .null, .null, .null, .int 0, .int 0, .int 0, .int 0, .int 0])) :: T1)) H := by rw [e1]; exact hP
  have hD : va_D A (W0 ++ ((q, .inr (ciM, [.null, .null, .null, .null, .null, .null, .null, .null, .null, .null, .null, .null, .null, .null, .int 0, .null, .null, .null, .null, .null, .null, .null, .null, .int 0, .int 0, .int 0, .int 0, .int 0])) :: T1)) := by rw [e1]; exact hD
  refine va_putF (D := D) (ci := ciM) (v := .ref q1) (ty := .array .int) (C := R_M) (T := F_M) (N := 28) hx hb hts i_M t_M t_M_ok n_M hown hK hP hD hS (W0.length + 0) ((ap_get W0 _ 0).trans rfl) rfl 0 (by decide) (hts _ kf_M_7) (fun _ h9 => h9) rfl hnm rfl (by decide +kernel) rfl rfl (Nat.le_of_ble_eq_true rfl) d_M_init_9 (fun H locs hP hD hS => ?_)
  rw [ap_set] at hP hD
  have hP : va_P D classes (W0 ++ ((q, .inr (ciM, [.ref q1, .null, .null, .null, .null, .null, .null, .null, .null, .null, .null, .null, .null, .null, .int 0, .null, .null, .null, .null, .null, .null, .null, .null, .int 0, .int 0, .int 0, .int 0, .int 0])) :: T1)) H := hP
  have hD : va_D A (W0 ++ ((q, .inr (ciM, [.ref q1, .null, .null, .null, .null, .null, .null, .null, .null, .null, .null, .null, .null, .null, .int 0, .null, .null, .null, .null, .null, .null, .null, .null, .int 0, .int 0, .int 0, .int 0, .int 0])) :: T1)) := hD
  refine lv_aload_n hx hb d_M_init_12 rfl (lv_at hl 0 rfl) ?_
  refine lv_bipush (v := 48) hx hb d_M_init_13 (by decide) ?_
  refine va_newa (atype := .int) (ty := .int) (N' := 48) (a0 := (48, .inl (fun _ => 0))) hx hb (hts _ ka_int) rfl hK hP hD hS hA (fun _ => rfl) (by decide) rfl (by decide) (by decide) (by decide) d_M_init_15 (fun q2 cA H hK hP hD hS => ?_)
  obtain rfl : cA = g 0 := kI hK
  have hK : va_K D classes (tysA g) s := hK.sub [0, 1, 2, 3, 4, 5] rfl
  rw [List.append_assoc] at hP hD
  obtain ⟨T2, e2⟩ : ∃ z : va_W, z = T1 ++ [(q2, .inl (g 0, 48, .inl (fun _ => 0)))] := ⟨_, rfl⟩
  have hP : va_P D classes (W0 ++ ((q, .inr (ciM, [.ref q1, .null, .null, .null, .null, .null, .null, .null, .null, .null, .null, .null, .null, .null, .int 0, .null, .null, .null, .null, .null, .null, .null, .null, .int 0, .int 0, .int 0, .int 0, .int 0])) :: T2)) H := by rw [e2]; exact hP
  have hD : va_D A (W0 ++ ((q, .inr (ciM, [.ref q1, .null, .null, .null, .null, .null, .null, .null, .null, .null, .null, .null, .null, .null, .int 0, .null, .null, .null, .null, .null, .null, .null, .null, .int 0, .int 0, .int 0, .int 0, .int 0])) :: T2)) := by rw [e2]; exact hD
  refine va_putF (D := D) (ci := ciM) (v := .ref q2) (ty := .array .int) (C := R_M) (T := F_M) (N := 28) hx hb hts i_M t_M t_M_ok n_M hown hK hP hD hS (W0.length + 0) ((ap_get W0 _ 0).trans rfl) rfl 1 (by decide) (hts _ kf_M_13) (fun _ h9 => h9) rfl hnm rfl (by decide +kernel) rfl rfl (Nat.le_of_ble_eq_true rfl) d_M_init_17 (fun H locs hP hD hS => ?_)
  rw [ap_set] at hP hD
  have hP : va_P D classes (W0 ++ ((q, .inr (ciM, [.ref q1, .ref q2, .null, .null, .null, .null, .null, .null, .null, .null, .null, .null, .null, .null, .int 0, .null, .null, .null, .null, .null, .null, .null, .null, .int 0, .int 0, .int 0, .int 0, .int 0])) :: T2)) H := hP
  have hD : va_D A (W0 ++ ((q, .inr (ciM, [.ref q1, .ref q2, .null, .null, .null, .null, .null, .null, .null, .null, .null, .null, .null, .null, .int 0, .null, .null, .null, .null, .null, .null, .null, .null, .int 0, .int 0, .int 0, .int 0, .int 0])) :: T2)) := hD
  refine lv_aload_n hx hb d_M_init_20 rfl (lv_at hl 0 rfl) ?_
  refine lv_bipush (v := 48) hx hb d_M_init_21 (by decide) ?_
  refine va_newa (atype := .int) (ty := .int) (N' := 48) (a0 := (48, .inl (fun _ => 0))) hx hb (hts _ ka_int) rfl hK hP hD hS hA (fun _ => rfl) (by decide) rfl (by decide) (by decide) (by decide) d_M_init_23 (fun q3 cA H hK hP hD hS => ?_)
  obtain rfl : cA = g 0 := kI hK
  have hK : va_K D classes (tysA g) s := hK.sub [0, 1, 2, 3, 4, 5] rfl
  rw [List.append_assoc] at hP hD
  obtain ⟨T3, e3⟩ : ∃ z : va_W, z = T2 ++ [(q3, .inl (g 0, 48, .inl (fun _ => 0)))] := ⟨_, rfl⟩
  have hP : va_P D classes (W0 ++ ((q, .inr (ciM, [.ref q1, .ref q2, .null, .null, .null, .null, .null, .null, .null, .null, .null, .null, .null, .null, .int 0, .null, .null, .null, .null, .null, .null, .null, .null, .int 0, .int 0, .int 0, .int 0, .int 0])) :: T3)) H := by rw [e3]; exact hP
  have hD : va_D A (W0 ++ ((q, .inr (ciM, [.ref q1, .ref q2, .null, .null, .null, .null, .null, .null, .null, .null, .null, .null, .null, .null, .int 0, .null, .null, .null, .null, .null, .null, .null, .null, .int 0, .int 0, .int 0, .int 0, .int 0])) :: T3)) := by rw [e3]; exact hD
  refine va_putF (D := D) (ci := ciM) (v := .ref q3) (ty := .array .int) (C := R_M) (T := F_M) (N := 28) hx hb hts i_M t_M t_M_ok n_M hown hK hP hD hS (W0.length + 0) ((ap_get W0 _ 0).trans rfl) rfl 2 (by decide) (hts _ kf_M_16) (fun _ h9 => h9) rfl hnm rfl (by decide +kernel) rfl rfl (Nat.le_of_ble_eq_true rfl) d_M_init_25 (fun H locs hP hD hS => ?_)
  rw [ap_set] at hP hD
  have hP : va_P D classes (W0 ++ ((q, .inr (ciM, [.ref q1, .ref q2, .ref q3, .null, .null, .null, .null, .null, .null, .null, .null, .null, .null, .null, .int 0, .null, .null, .null, .null, .null, .null, .null, .null, .int 0, .int 0, .int 0, .int 0, .int 0])) :: T3)) H := hP
  have hD : va_D A (W0 ++ ((q, .inr (ciM, [.ref q1, .ref q2, .ref q3, .null, .null, .null, .null, .null, .null, .null, .null, .null, .null, .null, .int 0, .null, .null, .null, .null, .null, .null, .null, .null, .int 0, .int 0, .int 0, .int 0, .int 0])) :: T3)) := hD
  refine lv_aload_n hx hb d_M_init_28 rfl (lv_at hl 0 rfl) ?_
  refine lv_iconst (v := 4) hx hb d_M_init_29 (by decide) ?_
  refine va_newa (atype := .int) (ty := .int) (N' := 4) (a0 := (4, .inl (fun _ => 0))) hx hb (hts _ ka_int) rfl hK hP hD hS hA (fun _ => rfl) (by decide) rfl (by decide) (by decide) (by decide) d_M_init_30 (fun q4 cA H hK hP hD hS => ?_)
  obtain rfl : cA = g 0 := kI hK
  have hK : va_K D classes (tysA g) s := hK.sub [0, 1, 2, 3, 4, 5] rfl
  rw [List.append_assoc] at hP hD
  obtain ⟨T4, e4⟩ : ∃ z : va_W, z = T3 ++ [(q4, .inl (g 0, 4, .inl (fun _ => 0)))] := ⟨_, rfl⟩
  have hP : va_P D classes (W0 ++ ((q, .inr (ciM, [.ref q1, .ref q2, .ref q3, .null, .null, .null, .null, .null, .null, .null, .null, .null, .null, .null, .int 0, .null, .null, .null, .null, .null, .null, .null, .null, .int 0, .int 0, .int 0, .int 0, .int 0])) :: T4)) H := by rw [e4]; exact hP
  have hD : va_D A (W0 ++ ((q, .inr (ciM, [.ref q1, .ref q2, .ref q3, .null, .null, .null, .null, .null, .null, .null, .null, .null, .null, .null, .int 0, .null, .null, .null, .null, .null, .null, .null, .null, .int 0, .int 0, .int 0, .int 0, .int 0])) :: T4)) := by rw [e4]; exact hD
  refine va_putF (D := D) (ci := ciM) (v := .ref q4) (ty := .array .int) (C := R_M) (T := F_M) (N := 28) hx hb hts i_M t_M t_M_ok n_M hown hK hP hD hS (W0.length + 0) ((ap_get W0 _ 0).trans rfl) rfl 3 (by decide) (hts _ kf_M_19) (fun _ h9 => h9) rfl hnm rfl (by decide +kernel) rfl rfl (Nat.le_of_ble_eq_true rfl) d_M_init_32 (fun H locs hP hD hS => ?_)
  rw [ap_set] at hP hD
  have hP : va_P D classes (W0 ++ ((q, .inr (ciM, [.ref q1, .ref q2, .ref q3, .ref q4, .null, .null, .null, .null, .null, .null, .null, .null, .null, .null, .int 0, .null, .null, .null, .null, .null, .null, .null, .null, .int 0, .int 0, .int 0, .int 0, .int 0])) :: T4)) H := hP
  have hD : va_D A (W0 ++ ((q, .inr (ciM, [.ref q1, .ref q2, .ref q3, .ref q4, .null, .null, .null, .null, .null, .null, .null, .null, .null, .null, .int 0, .null, .null, .null, .null, .null, .null, .null, .null, .int 0, .int 0, .int 0, .int 0, .int 0])) :: T4)) := hD
  refine lv_aload_n hx hb d_M_init_35 rfl (lv_at hl 0 rfl) ?_
  refine lv_bipush (v := 8) hx hb d_M_init_36 (by decide) ?_
  refine va_newa (atype := .int) (ty := .int) (N' := 8) (a0 := (8, .inl (fun _ => 0))) hx hb (hts _ ka_int) rfl hK hP hD hS hA (fun _ => rfl) (by decide) rfl (by decide) (by decide) (by decide) d_M_init_38 (fun q5 cA H hK hP hD hS => ?_)
  obtain rfl : cA = g 0 := kI hK
  have hK : va_K D classes (tysA g) s := hK.sub [0, 1, 2, 3, 4, 5] rfl
  rw [List.append_assoc] at hP hD
  obtain ⟨T5, e5⟩ : ∃ z : va_W, z = T4 ++ [(q5, .inl (g 0, 8, .inl (fun _ => 0)))] := ⟨_, rfl⟩
  have hP : va_P D classes (W0 ++ ((q, .inr (ciM, [.ref q1, .ref q2, .ref q3, .ref q4, .null, .null, .null, .null, .null, .null, .null, .null, .null, .null, .int 0, .null, .null, .null, .null, .null, .null, .null, .null, .int 0, .int 0, .int 0, .int 0, .int 0])) :: T5)) H := by rw [e5]; exact hP
  have hD : va_D A (W0 ++ ((q, .inr (ciM, [.ref q1, .ref q2, .ref q3, .ref q4, .null, .null, .null, .null, .null, .null, .null, .null, .null, .null, .int 0, .null, .null, .null, .null, .null, .null, .null, .null, .int 0, .int 0, .int 0, .int 0, .int 0])) :: T5)) := by rw [e5]; exact hD
  refine va_putF (D := D) (ci := ciM) (v := .ref q5) (ty := .array .int) (C := R_M) (T := F_M) (N := 28) hx hb hts i_M t_M t_M_ok n_M hown hK hP hD hS (W0.length + 0) ((ap_get W0 _ 0).trans rfl) rfl 4 (by decide) (hts _ kf_M_22) (fun _ h9 => h9) rfl hnm rfl (by decide +kernel) rfl rfl (Nat.le_of_ble_eq_true rfl) d_M_init_40 (fun H locs hP hD hS => ?_)
  rw [ap_set] at hP hD
  have hP : va_P D classes (W0 ++ ((q, .inr (ciM, [.ref q1, .ref q2, .ref q3, .ref q4, .ref q5, .null, .null, .null, .null, .null, .null, .null, .null, .null, .int 0, .null, .null, .null, .null, .null, .null, .null, .null, .int 0, .int 0, .int 0, .int 0, .int 0])) :: T5)) H := hP
  have hD : va_D A (W0 ++ ((q, .inr (ciM, [.ref q1, .ref q2, .ref q3, .ref q4, .ref q5, .null, .null, .null, .null, .null, .null, .null, .null, .null, .int 0, .null, .null, .null, .null, .null, .null, .null, .null, .int 0, .int 0, .int 0, .int 0, .int 0])) :: T5)) := hD
  refine lv_aload_n hx hb d_M_init_43 rfl (lv_at hl 0 rfl) ?_
  refine lv_bipush (v := 32) hx hb d_M_init_44 (by decide) ?_
  refine va_newa (atype := .int) (ty := .int) (N' := 32) (a0 := (32, .inl (fun _ => 0))) hx hb (hts _ ka_int) rfl hK hP hD hS hA (fun _ => rfl) (by decide) rfl (by decide) (by decide) (by decide) d_M_init_46 (fun q6 cA H hK hP hD hS => ?_)
  obtain rfl : cA = g 0 := kI hK
  have hK : va_K D classes (tysA g) s := hK.sub [0, 1, 2, 3, 4, 5] rfl
  rw [List.append_assoc] at hP hD
  obtain ⟨T6, e6⟩ : ∃ z : va_W, z = T5 ++ [(q6, .inl (g 0, 32, .inl (fun _ => 0)))] := ⟨_, rfl⟩
  have hP : va_P D classes (W0 ++ ((q, .inr (ciM, [.ref q1, .ref q2, .ref q3, .ref q4, .ref q5, .null, .null, .null, .null, .null, .null, .null, .null, .null, .int 0, .null, .null, .null, .null, .null, .null, .null, .null, .int 0, .int 0, .int 0, .int 0, .int 0])) :: T6)) H := by rw [e6]; exact hP
  have hD : va_D A (W0 ++ ((q, .inr (ciM, [.ref q1, .ref q2, .ref q3, .ref q4, .ref q5, .null, .null, .null, .null, .null, .null, .null, .null, .null, .int 0, .null, .null, .null, .null, .null, .null, .null, .null, .int 0, .int 0, .int 0, .int 0, .int 0])) :: T6)) := by rw [e6]; exact hD
  refine va_putF (D := D) (ci := ciM) (v := .ref q6) (ty := .array .int) (C := R_M) (T := F_M) (N := 28) hx hb hts i_M t_M t_M_ok n_M hown hK hP hD hS (W0.length + 0) ((ap_get W0 _ 0).trans rfl) rfl 5 (by decide) (hts _ kf_M_25) (fun _ h9 => h9) rfl hnm rfl (by decide +kernel) rfl rfl (Nat.le_of_ble_eq_true rfl) d_M_init_48 (fun H locs hP hD hS => ?_)
  rw [ap_set] at hP hD
  have hP : va_P D classes (W0 ++ ((q, .inr (ciM, [.ref q1, .ref q2, .ref q3, .ref q4, .ref q5, .ref q6, .null, .null, .null, .null, .null, .null, .null, .null, .int 0, .null, .null, .null, .null, .null, .null, .null, .null, .int 0, .int 0, .int 0, .int 0, .int 0])) :: T6)) H := hP
  have hD : va_D A (W0 ++ ((q, .inr (ciM, [.ref q1, .ref q2, .ref q3, .ref q4, .ref q5, .ref q6, .null, .null, .null, .null, .null, .null, .null, .null, .int 0, .null, .null, .null, .null, .null, .null, .null, .null, .int 0, .int 0, .int 0, .int 0, .int 0])) :: T6)) := hD
  refine lv_aload_n hx hb d_M_init_51 rfl (lv_at hl 0 rfl) ?_
  refine lv_bipush (v := 8) hx hb d_M_init_52 (by decide) ?_
  refine va_newa (atype := .int) (ty := .int) (N' := 8) (a0 := (8, .inl (fun _ => 0))) hx hb (hts _ ka_int) rfl hK hP hD hS hA (fun _ => rfl) (by decide) rfl (by decide) (by decide) (by decide) d_M_init_54 (fun q7 cA H hK hP hD hS => ?_)
  obtain rfl : cA = g 0 := kI hK
  have hK : va_K D classes (tysA g) s := hK.sub [0, 1, 2, 3, 4, 5] rfl
  rw [List.append_assoc] at hP hD
  obtain ⟨T7, e7⟩ : ∃ z : va_W, z = T6 ++ [(q7, .inl (g 0, 8, .inl (fun _ => 0)))] := ⟨_, rfl⟩
  have hP : va_P D classes (W0 ++ ((q, .inr (ciM, [.ref q1, .ref q2, .ref q3, .ref q4, .ref q5, .ref q6, .null, .null, .null, .null, .null, .null, .null, .null, .int 0, .null, .null, .null, .null, .null, .null, .null, .null, .int 0, .int 0, .int 0, .int 0, .int 0])) :: T7)) H := by rw [e7]; exact hP
  have hD : va_D A (W0 ++ ((q, .inr (ciM, [.ref q1, .ref q2, .ref q3, .ref q4, .ref q5, .ref q6, .null, .null, .null, .null, .null, .null, .null, .null, .int 0, .null, .null, .null, .null, .null, .null, .null, .null, .int 0, .int 0, .int 0, .int 0, .int 0])) :: T7)) := by rw [e7]; exact hD
  refine va_putF (D := D) (ci := ciM) (v := .ref q7) (ty := .array .int) (C := R_M) (T := F_M) (N := 28) hx hb hts i_M t_M t_M_ok n_M hown hK hP hD hS (W0.length + 0) ((ap_get W0 _ 0).trans rfl) rfl 6 (by decide) (hts _ kf_M_28) (fun _ h9 => h9) rfl hnm rfl (by decide +kernel) rfl rfl (Nat.le_of_ble_eq_true rfl) d_M_init_56 (fun H locs hP hD hS => ?_)
  rw [ap_set] at hP hD
  have hP : va_P D classes (W0 ++ ((q, .inr (ciM, [.ref q1, .ref q2, .ref q3, .ref q4, .ref q5, .ref q6, .ref q7, .null, .null, .null, .null, .null, .null, .null, .int 0, .null, .null, .null, .null, .null, .null, .null, .null, .int 0, .int 0, .int 0, .int 0, .int 0])) :: T7)) H := hP
  have hD : va_D A (W0 ++ ((q, .inr (ciM, [.ref q1, .ref q2, .ref q3, .ref q4, .ref q5, .ref q6, .ref q7, .null, .null, .null, .null, .null, .null, .null, .int 0, .null, .null, .null, .null, .null, .null, .null, .null, .int 0, .int 0, .int 0, .int 0, .int 0])) :: T7)) := hD
  refine lv_aload_n hx hb d_M_init_59 rfl (lv_at hl 0 rfl) ?_
  refine lv_bipush (v := 8) hx hb d_M_init_60 (by decide) ?_
  refine va_newa (atype := .int) (ty := .int) (N' := 8) (a0 := (8, .inl (fun _ => 0))) hx hb (hts _ ka_int) rfl hK hP hD hS hA (fun _ => rfl) (by decide) rfl (by decide) (by decide) (by decide) d_M_init_62 (fun q8 cA H hK hP hD hS => ?_)
  obtain rfl : cA = g 0 := kI hK
  have hK : va_K D classes (tysA g) s := hK.sub [0, 1, 2, 3, 4, 5] rfl
  rw [List.append_assoc] at hP hD
  obtain ⟨T8, e8⟩ : ∃ z : va_W, z = T7 ++ [(q8, .inl (g 0, 8, .inl (fun _ => 0)))] := ⟨_, rfl⟩
  have hP : va_P D classes (W0 ++ ((q, .inr (ciM, [.ref q1, .ref q2, .ref q3, .ref q4, .ref q5, .ref q6, .ref q7, .null, .null, .null, .null, .null, .null, .null, .int 0, .null, .null, .null, .null, .null, .null, .null, .null, .int 0, .int 0, .int 0, .int 0, .int 0])) :: T8)) H := by rw [e8]; exact hP
  have hD : va_D A (W0 ++ ((q, .inr (ciM, [.ref q1, .ref q2, .ref q3, .ref q4, .ref q5, .ref q6, .ref q7, .null, .null, .null, .null, .null, .null, .null, .int 0, .null, .null, .null, .null, .null, .null, .null, .null, .int 0, .int 0, .int 0, .int 0, .int 0])) :: T8)) := by rw [e8]; exact hD
  refine va_putF (D := D) (ci := ciM) (v := .ref q8) (ty := .array .int) (C := R_M) (T := F_M) (N := 28) hx hb hts i_M t_M t_M_ok n_M hown hK hP hD hS (W0.length + 0) ((ap_get W0 _ 0).trans rfl) rfl 7 (by decide) (hts _ kf_M_31) (fun _ h9 => h9) rfl hnm rfl (by decide +kernel) rfl rfl (Nat.le_of_ble_eq_true rfl) d_M_init_64 (fun H locs hP hD hS => ?_)
  rw [ap_set] at hP hD
  have hP : va_P D classes (W0 ++ ((q, .inr (ciM, [.ref q1, .ref q2, .ref q3, .ref q4, .ref q5, .ref q6, .ref q7, .ref q8, .null, .null, .null, .null, .null, .null, .int 0, .null, .null, .null, .null, .null, .null, .null, .null, .int 0, .int 0, .int 0, .int 0, .int 0])) :: T8)) H := hP
  have hD : va_D A (W0 ++ ((q, .inr (ciM, [.ref q1, .ref q2, .ref q3, .ref q4, .ref q5, .ref q6, .ref q7, .ref q8, .null, .null, .null, .null, .null, .null, .int 0, .null, .null, .null, .null, .null, .null, .null, .null, .int 0, .int 0, .int 0, .int 0, .int 0])) :: T8)) := hD
  refine lv_aload_n hx hb d_M_init_67 rfl (lv_at hl 0 rfl) ?_
  refine lv_bipush (v := 8) hx hb d_M_init_68 (by decide) ?_
  refine va_newa (atype := .int) (ty := .int) (N' := 8) (a0 := (8, .inl (fun _ => 0))) hx hb (hts _ ka_int) rfl hK hP hD hS hA (fun _ => rfl) (by decide) rfl (by decide) (by decide) (by decide) d_M_init_70 (fun q9 cA H hK hP hD hS => ?_)
  obtain rfl : cA = g 0 := kI hK
  have hK : va_K D classes (tysA g) s := hK.sub [0, 1, 2, 3, 4, 5] rfl
  rw [List.append_assoc] at hP hD
  obtain ⟨T9, e9⟩ : ∃ z : va_W, z = T8 ++ [(q9, .inl (g 0, 8, .inl (fun _ => 0)))] := ⟨_, rfl⟩
  have hP : va_P D classes (W0 ++ ((q, .inr (ciM, [.ref q1, .ref q2, .ref q3, .ref q4, .ref q5, .ref q6, .ref q7, .ref q8, .null, .null, .null, .null, .null, .null, .int 0, .null, .null, .null, .null, .null, .null, .null, .null, .int 0, .int 0, .int 0, .int 0, .int 0])) :: T9)) H := by rw [e9]; exact hP
  have hD : va_D A (W0 ++ ((q, .inr (ciM, [.ref q1, .ref q2, .ref q3, .ref q4, .ref q5, .ref q6, .ref q7, .ref q8, .null, .null, .null, .null, .null, .null, .int 0, .null, .null, .null, .null, .null, .null, .null, .null, .int 0, .int 0, .int 0, .int 0, .int 0])) :: T9)) := by rw [e9]; exact hD
  refine va_putF (D := D) (ci := ciM) (v := .ref q9) (ty := .array .int) (C := R_M) (T := F_M) (N := 28) hx hb hts i_M t_M t_M_ok n_M hown hK hP hD hS (W0.length + 0) ((ap_get W0 _ 0).trans rfl) rfl 8 (by decide) (hts _ kf_M_34) (fun _ h9 => h9) rfl hnm rfl (by decide +kernel) rfl rfl (Nat.le_of_ble_eq_true rfl) d_M_init_72 (fun H locs hP hD hS => ?_)
  rw [ap_set] at hP hD
  have hP : va_P D classes (W0 ++ ((q, .inr (ciM, [.ref q1, .ref q2, .ref q3, .ref q4, .ref q5, .ref q6, .ref q7, .ref q8, .ref q9, .null, .null, .null, .null, .null, .int 0, .null, .null, .null, .null, .null, .null, .null, .null, .int 0, .int 0, .int 0, .int 0, .int 0])) :: T9)) H := hP
  have hD : va_D A (W0 ++ ((q, .inr (ciM, [.ref q1, .ref q2, .ref q3, .ref q4, .ref q5, .ref q6, .ref q7, .ref q8, .ref q9, .null, .null, .null, .null, .null, .int 0, .null, .null, .null, .null, .null, .null, .null, .null, .int 0, .int 0, .int 0, .int 0, .int 0])) :: T9)) := hD
  refine lv_aload_n hx hb d_M_init_75 rfl (lv_at hl 0 rfl) ?_
  refine lv_bipush (v := 8) hx hb d_M_init_76 (by decide) ?_
  refine va_newa (atype := .int) (ty := .int) (N' := 8) (a0 := (8, .inl (fun _ => 0))) hx hb (hts _ ka_int) rfl hK hP hD hS hA (fun _ => rfl) (by decide) rfl (by decide) (by decide) (by decide) d_M_init_78 (fun q10 cA H hK hP hD hS => ?_)
  obtain rfl : cA = g 0 := kI hK
  have hK : va_K D classes (tysA g) s := hK.sub [0, 1, 2, 3, 4, 5] rfl
  rw [List.append_assoc] at hP hD
  obtain ⟨T10, e10⟩ : ∃ z : va_W, z = T9 ++ [(q10, .inl (g 0, 8, .inl (fun _ => 0)))] := ⟨_, rfl⟩
  have hP : va_P D classes (W0 ++ ((q, .inr (ciM, [.ref q1, .ref q2, .ref q3, .ref q4, .ref q5, .ref q6, .ref q7, .ref q8, .ref q9, .null, .null, .null, .null, .null, .int 0, .null, .null, .null, .null, .null, .null, .null, .null, .int 0, .int 0, .int 0, .int 0, .int 0])) :: T10)) H := by rw [e10]; exact hP
  have hD : va_D A (W0 ++ ((q, .inr (ciM, [.ref q1, .ref q2, .ref q3, .ref q4, .ref q5, .ref q6, .ref q7, .ref q8, .ref q9, .null, .null, .null, .null, .null, .int 0, .null, .null, .null, .null, .null, .null, .null, .null, .int 0, .int 0, .int 0, .int 0, .int 0])) :: T10)) := by rw [e10]; exact hD
  refine va_putF (D := D) (ci := ciM) (v := .ref q10) (ty := .array .int) (C := R_M) (T := F_M) (N := 28) hx hb hts i_M t_M t_M_ok n_M hown hK hP hD hS (W0.length + 0) ((ap_get W0 _ 0).trans rfl) rfl 9 (by decide) (hts _ kf_M_37) (fun _ h9 => h9) rfl hnm rfl (by decide +kernel) rfl rfl (Nat.le_of_ble_eq_true rfl) d_M_init_80 (fun H locs hP hD hS => ?_)
  rw [ap_set] at hP hD
  have hP : va_P D classes (W0 ++ ((q, .inr (ciM, [.ref q1, .ref q2, .ref q3, .ref q4, .ref q5, .ref q6, .ref q7, .ref q8, .ref q9, .ref q10, .null, .null, .null, .null, .int 0, .null, .null, .null, .null, .null, .null, .null, .null, .int 0, .int 0, .int 0, .int 0, .int 0])) :: T10)) H := hP
  have hD : va_D A (W0 ++ ((q, .inr (ciM, [.ref q1, .ref q2, .ref q3, .ref q4, .ref q5, .ref q6, .ref q7, .ref q8, .ref q9, .ref q10, .null, .null, .null, .null, .int 0, .null, .null, .null, .null, .null, .null, .null, .null, .int 0, .int 0, .int 0, .int 0, .int 0])) :: T10)) := hD
  refine lv_aload_n hx hb d_M_init_83 rfl (lv_at hl 0 rfl) ?_
  refine lv_bipush (v := 8) hx hb d_M_init_84 (by decide) ?_
  refine va_newa (atype := .int) (ty := .int) (N' := 8) (a0 := (8, .inl (fun _ => 0))) hx hb (hts _ ka_int) rfl hK hP hD hS hA (fun _ => rfl) (by decide) rfl (by decide) (by decide) (by decide) d_M_init_86 (fun q11 cA H hK hP hD hS => ?_)
  obtain rfl : cA = g 0 := kI hK
  have hK : va_K D classes (tysA g) s := hK.sub [0, 1, 2, 3, 4, 5] rfl
  rw [List.append_assoc] at hP hD
  obtain ⟨T11, e11⟩ : ∃ z : va_W, z = T10 ++ [(q11, .inl (g 0, 8, .inl (fun _ => 0)))] := ⟨_, rfl⟩
  have hP : va_P D classes (W0 ++ ((q, .inr (ciM, [.ref q1, .ref q2, .ref q3, .ref q4, .ref q5, .ref q6, .ref q7, .ref q8, .ref q9, .ref q10, .null, .null, .null, .null, .int 0, .null, .null, .null, .null, .null, .null, .null, .null, .int 0, .int 0, .int 0, .int 0, .int 0])) :: T11)) H := by rw [e11]; exact hP
  have hD : va_D A (W0 ++ ((q, .inr (ciM, [.ref q1, .ref q2, .ref q3, .ref q4, .ref q5, .ref q6, .ref q7, .ref q8, .ref q9, .ref q10, .null, .null, .null, .null, .int 0, .null, .null, .null, .null, .null, .null, .null, .null, .int 0, .int 0, .int 0, .int 0, .int 0])) :: T11)) := by rw [e11]; exact hD
  refine va_putF (D := D) (ci := ciM) (v := .ref q11) (ty := .array .int) (C := R_M) (T := F_M) (N := 28) hx hb hts i_M t_M t_M_ok n_M hown hK hP hD hS (W0.length + 0) ((ap_get W0 _ 0).trans rfl) rfl 10 (by decide) (hts _ kf_M_40) (fun _ h9 => h9) rfl hnm rfl (by decide +kernel) rfl rfl (Nat.le_of_ble_eq_true rfl) d_M_init_88 (fun H locs hP hD hS => ?_)
  rw [ap_set] at hP hD
  have hP : va_P D classes (W0 ++ ((q, .inr (ciM, [.ref q1, .ref q2, .ref q3, .ref q4, .ref q5, .ref q6, .ref q7, .ref q8, .ref q9, .ref q10, .ref q11, .null, .null, .null, .int 0, .null, .null, .null, .null, .null, .null, .null, .null, .int 0, .int 0, .int 0, .int 0, .int 0])) :: T11)) H := hP
  have hD : va_D A (W0 ++ ((q, .inr (ciM, [.ref q1, .ref q2, .ref q3, .ref q4, .ref q5, .ref q6, .ref q7, .ref q8, .ref q9, .ref q10, .ref q11, .null, .null, .null, .int 0, .null, .null, .null, .null, .null, .null, .null, .null, .int 0, .int 0, .int 0, .int 0, .int 0])) :: T11)) := hD
  refine lv_aload_n hx hb d_M_init_91 rfl (lv_at hl 0 rfl) ?_
  refine lv_bipush (v := 8) hx hb d_M_init_92 (by decide) ?_
  refine va_newa (atype := .int) (ty := .int) (N' := 8) (a0 := (8, .inl (fun _ => 0))) hx hb (hts _ ka_int) rfl hK hP hD hS hA (fun _ => rfl) (by decide) rfl (by decide) (by decide) (by decide) d_M_init_94 (fun q12 cA H hK hP hD hS => ?_)
  obtain rfl : cA = g 0 := kI hK
  have hK : va_K D classes (tysA g) s := hK.sub [0, 1, 2, 3, 4, 5] rfl
  rw [List.append_assoc] at hP hD
  obtain ⟨T12, e12⟩ : ∃ z : va_W, z = T11 ++ [(q12, .inl (g 0, 8, .inl (fun _ => 0)))] := ⟨_, rfl⟩
  have hP : va_P D classes (W0 ++ ((q, .inr (ciM, [.ref q1, .ref q2, .ref q3, .ref q4, .ref q5, .ref q6, .ref q7, .ref q8, .ref q9, .ref q10, .ref q11, .null, .null, .null, .int 0, .null, .null, .null, .null, .null, .null, .null, .null, .int 0, .int 0, .int 0, .int 0, .int 0])) :: T12)) H := by rw [e12]; exact hP
  have hD : va_D A (W0 ++ ((q, .inr (ciM, [.ref q1, .ref q2, .ref q3, .ref q4, .ref q5, .ref q6, .ref q7, .ref q8, .ref q9, .ref q10, .ref q11, .null, .null, .null, .int 0, .null, .null, .null, .null, .null, .null, .null, .null, .int 0, .int 0, .int 0, .int 0, .int 0])) :: T12)) := by rw [e12]; exact hD
  refine va_putF (D := D) (ci := ciM) (v := .ref q12) (ty := .array .int) (C := R_M) (T := F_M) (N := 28) hx hb hts i_M t_M t_M_ok n_M hown hK hP hD hS (W0.length + 0) ((ap_get W0 _ 0).trans rfl) rfl 11 (by decide) (hts _ kf_M_43) (fun _ h9 => h9) rfl hnm rfl (by decide +kernel) rfl rfl (Nat.le_of_ble_eq_true rfl) d_M_init_96 (fun H locs hP hD hS => ?_)
  rw [ap_set] at hP hD
  have hP : va_P D classes (W0 ++ ((q, .inr (ciM, [.ref q1, .ref q2, .ref q3, .ref q4, .ref q5, .ref q6, .ref q7, .ref q8, .ref q9, .ref q10, .ref q11, .ref q12, .null, .null, .int 0, .null, .null, .null, .null, .null, .null, .null, .null, .int 0, .int 0, .int 0, .int 0, .int 0])) :: T12)) H := hP
  have hD : va_D A (W0 ++ ((q, .inr (ciM, [.ref q1, .ref q2, .ref q3, .ref q4, .ref q5, .ref q6, .ref q7, .ref q8, .ref q9, .ref q10, .ref q11, .ref q12, .null, .null, .int 0, .null, .null, .null, .null, .null, .null, .null, .null, .int 0, .int 0, .int 0, .int 0, .int 0])) :: T12)) := hD
  refine lv_aload_n hx hb d_M_init_99 rfl (lv_at hl 0 rfl) ?_
  refine lv_bipush (v := 8) hx hb d_M_init_100 (by decide) ?_
  refine va_newa (atype := .int) (ty := .int) (N' := 8) (a0 := (8, .inl (fun _ => 0))) hx hb (hts _ ka_int) rfl hK hP hD hS hA (fun _ => rfl) (by decide) rfl (by decide) (by decide) (by decide) d_M_init_102 (fun q13 cA H hK hP hD hS => ?_)
  obtain rfl : cA = g 0 := kI hK
  have hK : va_K D classes (tysA g) s := hK.sub [0, 1, 2, 3, 4, 5] rfl
  rw [List.append_assoc] at hP hD
  obtain ⟨T13, e13⟩ : ∃ z : va_W, z = T12 ++ [(q13, .inl (g 0, 8, .inl (fun _ => 0)))] := ⟨_, rfl⟩
  have hP : va_P D classes (W0 ++ ((q, .inr (ciM, [.ref q1, .ref q2, .ref q3, .ref q4, .ref q5, .ref q6, .ref q7, .ref q8, .ref q9, .ref q10, .ref q11, .ref q12, .null, .null, .int 0, .null, .null, .null, .null, .null, .null, .null, .null, .int 0, .int 0, .int 0, .int 0, .int 0])) :: T13)) H := by rw [e13]; exact hP
  have hD : va_D A (W0 ++ ((q, .inr (ciM, [.ref q1, .ref q2, .ref q3, .ref q4, .ref q5, .ref q6, .ref q7, .ref q8, .ref q9, .ref q10, .ref q11, .ref q12, .null, .null, .int 0, .null, .null, .null, .null, .null, .null, .null, .null, .int 0, .int 0, .int 0, .int 0, .int 0])) :: T13)) := by rw [e13]; exact hD
  refine va_putF (D := D) (ci := ciM) (v := .ref q13) (ty := .array .int) (C := R_M) (T := F_M) (N := 28) hx hb hts i_M t_M t_M_ok n_M hown hK hP hD hS (W0.length + 0) ((ap_get W0 _ 0).trans rfl) rfl 12 (by decide) (hts _ kf_M_46) (fun _ h9 => h9) rfl hnm rfl (by decide +kernel) rfl rfl (Nat.le_of_ble_eq_true rfl) d_M_init_104 (fun H locs hP hD hS => ?_)
  rw [ap_set] at hP hD
  have hP : va_P D classes (W0 ++ ((q, .inr (ciM, [.ref q1, .ref q2, .ref q3, .ref q4, .ref q5, .ref q6, .ref q7, .ref q8, .ref q9, .ref q10, .ref q11, .ref q12, .ref q13, .null, .int 0, .null, .null, .null, .null, .null, .null, .null, .null, .int 0, .int 0, .int 0, .int 0, .int 0])) :: T13)) H := hP
  have hD : va_D A (W0 ++ ((q, .inr (ciM, [.ref q1, .ref q2, .ref q3, .ref q4, .ref q5, .ref q6, .ref q7, .ref q8, .ref q9, .ref q10, .ref q11, .ref q12, .ref q13, .null, .int 0, .null, .null, .null, .null, .null, .null, .null, .null, .int 0, .int 0, .int 0, .int 0, .int 0])) :: T13)) := hD
  refine lv_aload_n hx hb d_M_init_107 rfl (lv_at hl 0 rfl) ?_
  refine lv_bipush (v := 8) hx hb d_M_init_108 (by decide) ?_
  refine va_newa (atype := .int) (ty := .int) (N' := 8) (a0 := (8, .inl (fun _ => 0))) hx hb (hts _ ka_int) rfl hK hP hD hS hA (fun _ => rfl) (by decide) rfl (by decide) (by decide) (by decide) d_M_init_110 (fun q14 cA H hK hP hD hS => ?_)
  obtain rfl : cA = g 0 := kI hK
  have hK : va_K D classes (tysA g) s := hK.sub [0, 1, 2, 3, 4, 5] rfl
  refine lv_dup hx hb d_M_init_112 rfl ?_
  refine lv_iconst (v := 0) hx hb d_M_init_113 (by decide) ?_
  refine lv_bipush (v := 8) hx hb d_M_init_114 (by decide) ?_
  refine va_iast hx hb hK hP hD hS ((W0 ++ ((q, .inr (ciM, [.ref q1, .ref q2, .ref q3, .ref q4, .ref q5, .ref q6, .ref q7, .ref q8, .ref q9, .ref q10, .ref q11, .ref q12, .ref q13, .null, .int 0, .null, .null, .null, .null, .null, .null, .null, .null, .int 0, .int 0, .int 0, .int 0, .int 0])) :: T13)).length + 0) 0 ((ap_get (W0 ++ ((q, .inr (ciM, [.ref q1, .ref q2, .ref q3, .ref q4, .ref q5, .ref q6, .ref q7, .ref q8, .ref q9, .ref q10, .ref q11, .ref q12, .ref q13, .null, .int 0, .null, .null, .null, .null, .null, .null, .null, .null, .int 0, .int 0, .int 0, .int 0, .int 0])) :: T13)) _ 0).trans rfl) rfl (vp_in_nI (n := 0) (by decide) (by decide)) d_M_init_116 (fun H locs hP hD hS => ?_)
  rw [ap_set] at hP hD
  have hP : va_P D classes ((W0 ++ ((q, .inr (ciM, [.ref q1, .ref q2, .ref q3, .ref q4, .ref q5, .ref q6, .ref q7, .ref q8, .ref q9, .ref q10, .ref q11, .ref q12, .ref q13, .null, .int 0, .null, .null, .null, .null, .null, .null, .null, .null, .int 0, .int 0, .int 0, .int 0, .int 0])) :: T13)) ++ ([(q14, .inl (g 0, 8, .inl (upd (fun _ => 0) 0 8)))] : va_W)) H := hP
  have hD : va_D A ((W0 ++ ((q, .inr (ciM, [.ref q1, .ref q2, .ref q3, .ref q4, .ref q5, .ref q6, .ref q7, .ref q8, .ref q9, .ref q10, .ref q11, .ref q12, .ref q13, .null, .int 0, .null, .null, .null, .null, .null, .null, .null, .null, .int 0, .int 0, .int 0, .int 0, .int 0])) :: T13)) ++ ([(q14, .inl (g 0, 8, .inl (upd (fun _ => 0) 0 8)))] : va_W)) := hD
  refine lv_dup hx hb d_M_init_117 rfl ?_
  refine lv_iconst (v := 1) hx hb d_M_init_118 (by decide) ?_
  refine lv_bipush (v := 8) hx hb d_M_init_119 (by decide) ?_
  refine va_iast hx hb hK hP hD hS ((W0 ++ ((q, .inr (ciM, [.ref q1, .ref q2, .ref q3, .ref q4, .ref q5, .ref q6, .ref q7, .ref q8, .ref q9, .ref q10, .ref q11, .ref q12, .ref q13, .null, .int 0, .null, .null, .null, .null, .null, .null, .null, .null, .int 0, .int 0, .int 0, .int 0, .int 0])) :: T13)).length + 0) 0 ((ap_get (W0 ++ ((q, .inr (ciM, [.ref q1, .ref q2, .ref q3, .ref q4, .ref q5, .ref q6, .ref q7, .ref q8, .ref q9, .ref q10, .ref q11, .ref q12, .ref q13, .null, .int 0, .null, .null, .null, .null, .null, .null, .null, .null, .int 0, .int 0, .int 0, .int 0, .int 0])) :: T13)) _ 0).trans rfl) rfl (vp_in_nI (n := 1) (by decide) (by decide)) d_M_init_121 (fun H locs hP hD hS => ?_)
  rw [ap_set] at hP hD
  have hP : va_P D classes ((W0 ++ ((q, .inr (ciM, [.ref q1, .ref q2, .ref q3, .ref q4, .ref q5, .ref q6, .ref q7, .ref q8, .ref q9, .ref q10, .ref q11, .ref q12, .ref q13, .null, .int 0, .null, .null, .null, .null, .null, .null, .null, .null, .int 0, .int 0, .int 0, .int 0, .int 0])) :: T13)) ++ ([(q14, .inl (g 0, 8, .inl (upd (upd (fun _ => 0) 0 8) 1 8)))] : va_W)) H := hP
  have hD : va_D A ((W0 ++ ((q, .inr (ciM, [.ref q1, .ref q2, .ref q3, .ref q4, .ref q5, .ref q6, .ref q7, .ref q8, .ref q9, .ref q10, .ref q11, .ref q12, .ref q13, .null, .int 0, .null, .null, .null, .null, .null, .null, .null, .null, .int 0, .int 0, .int 0, .int 0, .int 0])) :: T13)) ++ ([(q14, .inl (g 0, 8, .inl (upd (upd (fun _ => 0) 0 8) 1 8)))] : va_W)) := hD
  refine lv_dup hx hb d_M_init_122 rfl ?_
  refine lv_iconst (v := 2) hx hb d_M_init_123 (by decide) ?_
  refine lv_bipush (v := 8) hx hb d_M_init_124 (by decide) ?_
  refine va_iast hx hb hK hP hD hS ((W0 ++ ((q, .inr (ciM, [.ref q1, .ref q2, .ref q3, .ref q4, .ref q5, .ref q6, .ref q7, .ref q8, .ref q9, .ref q10, .ref q11, .ref q12, .ref q13, .null, .int 0, .null, .null, .null, .null, .null, .null, .null, .null, .int 0, .int 0, .int 0, .int 0, .int 0])) :: T13)).length + 0) 0 ((ap_get (W0 ++ ((q, .inr (ciM, [.ref q1, .ref q2, .ref q3, .ref q4, .ref q5, .ref q6, .ref q7, .ref q8, .ref q9, .ref q10, .ref q11, .ref q12, .ref q13, .null, .int 0, .null, .null, .null, .null, .null, .null, .null, .null, .int 0, .int 0, .int 0, .int 0, .int 0])) :: T13)) _ 0).trans rfl) rfl (vp_in_nI (n := 2) (by decide) (by decide)) d_M_init_126 (fun H locs hP hD hS => ?_)
  rw [ap_set] at hP hD
  have hP : va_P D classes ((W0 ++ ((q, .inr (ciM, [.ref q1, .ref q2, .ref q3, .ref q4, .ref q5, .ref q6, .ref q7, .ref q8, .ref q9, .ref q10, .ref q11, .ref q12, .ref q13, .null, .int 0, .null, .null, .null, .null, .null, .null, .null, .null, .int 0, .int 0, .int 0, .int 0, .int 0])) :: T13)) ++ ([(q14, .inl (g 0, 8, .inl (upd (upd (upd (fun _ => 0) 0 8) 1 8) 2 8)))] : va_W)) H := hP
  have hD : va_D A ((W0 ++ ((q, .inr (ciM, [.ref q1, .ref q2, .ref q3, .ref q4, .ref q5, .ref q6, .ref q7, .ref q8, .ref q9, .ref q10, .ref q11, .ref q12, .ref q13, .null, .int 0, .null, .null, .null, .null, .null, .null, .null, .null, .int 0, .int 0, .int 0, .int 0, .int 0])) :: T13)) ++ ([(q14, .inl (g 0, 8, .inl (upd (upd (upd (fun _ => 0) 0 8) 1 8) 2 8)))] : va_W)) := hD
  refine lv_dup hx hb d_M_init_127 rfl ?_
  refine lv_iconst (v := 3) hx hb d_M_init_128 (by decide) ?_
  refine lv_bipush (v := 8) hx hb d_M_init_129 (by decide) ?_
  refine va_iast hx hb hK hP hD hS ((W0 ++ ((q, .inr (ciM, [.ref q1, .ref q2, .ref q3, .ref q4, .ref q5, .ref q6, .ref q7, .ref q8, .ref q9, .ref q10, .ref q11, .ref q12, .ref q13, .null, .int 0, .null, .null, .null, .null, .null, .null, .null, .null, .int 0, .int 0, .int 0, .int 0, .int 0])) :: T13)).length + 0) 0 ((ap_get (W0 ++ ((q, .inr (ciM, [.ref q1, .ref q2, .ref q3, .ref q4, .ref q5, .ref q6, .ref q7, .ref q8, .ref q9, .ref q10, .ref q11, .ref q12, .ref q13, .null, .int 0, .null, .null, .null, .null, .null, .null, .null, .null, .int 0, .int 0, .int 0, .int 0, .int 0])) :: T13)) _ 0).trans rfl) rfl (vp_in_nI (n := 3) (by decide) (by decide)) d_M_init_131 (fun H locs hP hD hS => ?_)
  rw [ap_set] at hP hD
  have hP : va_P D classes ((W0 ++ ((q, .inr (ciM, [.ref q1, .ref q2, .ref q3, .ref q4, .ref q5, .ref q6, .ref q7, .ref q8, .ref q9, .ref q10, .ref q11, .ref q12, .ref q13, .null, .int 0, .null, .null, .null, .null, .null, .null, .null, .null, .int 0, .int 0, .int 0, .int 0, .int 0])) :: T13)) ++ ([(q14, .inl (g 0, 8, .inl (upd (upd (upd (upd (fun _ => 0) 0 8) 1 8) 2 8) 3 8)))] : va_W)) H := hP
  have hD : va_D A ((W0 ++ ((q, .inr (ciM, [.ref q1, .ref q2, .ref q3, .ref q4, .ref q5, .ref q6, .ref q7, .ref q8, .ref q9, .ref q10, .ref q11, .ref q12, .ref q13, .null, .int 0, .null, .null, .null, .null, .null, .null, .null, .null, .int 0, .int 0, .int 0, .int 0, .int 0])) :: T13)) ++ ([(q14, .inl (g 0, 8, .inl (upd (upd (upd (upd (fun _ => 0) 0 8) 1 8) 2 8) 3 8)))] : va_W)) := hD
  refine lv_dup hx hb d_M_init_132 rfl ?_
  refine lv_iconst (v := 4) hx hb d_M_init_133 (by decide) ?_
  refine lv_bipush (v := 8) hx hb d_M_init_134 (by decide) ?_
  refine va_iast hx hb hK hP hD hS ((W0 ++ ((q, .inr (ciM, [.ref q1, .ref q2, .ref q3, .ref q4, .ref q5, .ref q6, .ref q7, .ref q8, .ref q9, .ref q10, .ref q11, .ref q12, .ref q13, .null, .int 0, .null, .null, .null, .null, .null, .null, .null, .null, .int 0, .int 0, .int 0, .int 0, .int 0])) :: T13)).length + 0) 0 ((ap_get (W0 ++ ((q, .inr (ciM, [.ref q1, .ref q2, .ref q3, .ref q4, .ref q5, .ref q6, .ref q7, .ref q8, .ref q9, .ref q10, .ref q11, .ref q12, .ref q13, .null, .int 0, .null, .null, .null, .null, .null, .null, .null, .null, .int 0, .int 0, .int 0, .int 0, .int 0])) :: T13)) _ 0).trans rfl) rfl (vp_in_nI (n := 4) (by decide) (by decide)) d_M_init_136 (fun H locs hP hD hS => ?_)
  rw [ap_set] at hP hD
  have hP : va_P D classes ((W0 ++ ((q, .inr (ciM, [.ref q1, .ref q2, .ref q3, .ref q4, .ref q5, .ref q6, .ref q7, .ref q8, .ref q9, .ref q10, .ref q11, .ref q12, .ref q13, .null, .int 0, .null, .null, .null, .null, .null, .null, .null, .null, .int 0, .int 0, .int 0, .int 0, .int 0])) :: T13)) ++ ([(q14, .inl (g 0, 8, .inl (upd (upd (upd (upd (upd (fun _ => 0) 0 8) 1 8) 2 8) 3 8) 4 8)))] : va_W)) H := hP
  have hD : va_D A ((W0 ++ ((q, .inr (ciM, [.ref q1, .ref q2, .ref q3, .ref q4, .ref q5, .ref q6, .ref q7, .ref q8, .ref q9, .ref q10, .ref q11, .ref q12, .ref q13, .null, .int 0, .null, .null, .null, .null, .null, .null, .null, .null, .int 0, .int 0, .int 0, .int 0, .int 0])) :: T13)) ++ ([(q14, .inl (g 0, 8, .inl (upd (upd (upd (upd (upd (fun _ => 0) 0 8) 1 8) 2 8) 3 8) 4 8)))] : va_W)) := hD
  refine lv_dup hx hb d_M_init_137 rfl ?_
  refine lv_iconst (v := 5) hx hb d_M_init_138 (by decide) ?_
  refine lv_bipush (v := 8) hx hb d_M_init_139 (by decide) ?_
  refine va_iast hx hb hK hP hD hS ((W0 ++ ((q, .inr (ciM, [.ref q1, .ref q2, .ref q3, .ref q4, .ref q5, .ref q6, .ref q7, .ref q8, .ref q9, .ref q10, .ref q11, .ref q12, .ref q13, .null, .int 0, .null, .null, .null, .null, .null, .null, .null, .null, .int 0, .int 0, .int 0, .int 0, .int 0])) :: T13)).length + 0) 0 ((ap_get (W0 ++ ((q, .inr (ciM, [.ref q1, .ref q2, .ref q3, .ref q4, .ref q5, .ref q6, .ref q7, .ref q8, .ref q9, .ref q10, .ref q11, .ref q12, .ref q13, .null, .int 0, .null, .null, .null, .null, .null, .null, .null, .null, .int 0, .int 0, .int 0, .int 0, .int 0])) :: T13)) _ 0).trans rfl) rfl (vp_in_nI (n := 5) (by decide) (by decide)) d_M_init_141 (fun H locs hP hD hS => ?_)
  rw [ap_set] at hP hD
  have hP : va_P D classes ((W0 ++ ((q, .inr (ciM, [.ref q1, .ref q2, .ref q3, .ref q4, .ref q5, .ref q6, .ref q7, .ref q8, .ref q9, .ref q10, .ref q11, .ref q12, .ref q13, .null, .int 0, .null, .null, .null, .null, .null, .null, .null, .null, .int 0, .int 0, .int 0, .int 0, .int 0])) :: T13)) ++ ([(q14, .inl (g 0, 8, .inl (upd (upd (upd (upd (upd (upd (fun _ => 0) 0 8) 1 8) 2 8) 3 8) 4 8) 5 8)))] : va_W)) H := hP
  have hD : va_D A ((W0 ++ ((q, .inr (ciM, [.ref q1, .ref q2, .ref q3, .ref q4, .ref q5, .ref q6, .ref q7, .ref q8, .ref q9, .ref q10, .ref q11, .ref q12, .ref q13, .null, .int 0, .null, .null, .null, .null, .null, .null, .null, .null, .int 0, .int 0, .int 0, .int 0, .int 0])) :: T13)) ++ ([(q14, .inl (g 0, 8, .inl (upd (upd (upd (upd (upd (upd (fun _ => 0) 0 8) 1 8) 2 8) 3 8) 4 8) 5 8)))] : va_W)) := hD
  refine lv_dup hx hb d_M_init_142 rfl ?_
  refine lv_bipush (v := 6) hx hb d_M_init_143 (by decide) ?_
  refine lv_bipush (v := 8) hx hb d_M_init_145 (by decide) ?_
  refine va_iast hx hb hK hP hD hS ((W0 ++ ((q, .inr (ciM, [.ref q1, .ref q2, .ref q3, .ref q4, .ref q5, .ref q6, .ref q7, .ref q8, .ref q9, .ref q10, .ref q11, .ref q12, .ref q13, .null, .int 0, .null, .null, .null, .null, .null, .null, .null, .null, .int 0, .int 0, .int 0, .int 0, .int 0])) :: T13)).length + 0) 0 ((ap_get (W0 ++ ((q, .inr (ciM, [.ref q1, .ref q2, .ref q3, .ref q4, .ref q5, .ref q6, .ref q7, .ref q8, .ref q9, .ref q10, .ref q11, .ref q12, .ref q13, .null, .int 0, .null, .null, .null, .null, .null, .null, .null, .null, .int 0, .int 0, .int 0, .int 0, .int 0])) :: T13)) _ 0).trans rfl) rfl (vp_in_nI (n := 6) (by decide) (by decide)) d_M_init_147 (fun H locs hP hD hS => ?_)
  rw [ap_set] at hP hD
  have hP : va_P D classes ((W0 ++ ((q, .inr (ciM, [.ref q1, .ref q2, .ref q3, .ref q4, .ref q5, .ref q6, .ref q7, .ref q8, .ref q9, .ref q10, .ref q11, .ref q12, .ref q13, .null, .int 0, .null, .null, .null, .null, .null, .null, .null, .null, .int 0, .int 0, .int 0, .int 0, .int 0])) :: T13)) ++ ([(q14, .inl (g 0, 8, .inl (upd (upd (upd (upd (upd (upd (upd (fun _ => 0) 0 8) 1 8) 2 8) 3 8) 4 8) 5 8) 6 8)))] : va_W)) H := hP
  have hD : va_D A ((W0 ++ ((q, .inr (ciM, [.ref q1, .ref q2, .ref q3, .ref q4, .ref q5, .ref q6, .ref q7, .ref q8, .ref q9, .ref q10, .ref q11, .ref q12, .ref q13, .null, .int 0, .null, .null, .null, .null, .null, .null, .null, .null, .int 0, .int 0, .int 0, .int 0, .int 0])) :: T13)) ++ ([(q14, .inl (g 0, 8, .inl (upd (upd (upd (upd (upd (upd (upd (fun _ => 0) 0 8) 1 8) 2 8) 3 8) 4 8) 5 8) 6 8)))] : va_W)) := hD
  refine lv_dup hx hb d_M_init_148 rfl ?_
  refine lv_bipush (v := 7) hx hb d_M_init_149 (by decide) ?_
  refine lv_bipush (v := 8) hx hb d_M_init_151 (by decide) ?_
  refine va_iast hx hb hK hP hD hS ((W0 ++ ((q, .inr (ciM, [.ref q1, .ref q2, .ref q3, .ref q4, .ref q5, .ref q6, .ref q7, .ref q8, .ref q9, .ref q10, .ref q11, .ref q12, .ref q13, .null, .int 0, .null, .null, .null, .null, .null, .null, .null, .null, .int 0, .int 0, .int 0, .int 0, .int 0])) :: T13)).length + 0) 0 ((ap_get (W0 ++ ((q, .inr (ciM, [.ref q1, .ref q2, .ref q3, .ref q4, .ref q5, .ref q6, .ref q7, .ref q8, .ref q9, .ref q10, .ref q11, .ref q12, .ref q13, .null, .int 0, .null, .null, .null, .null, .null, .null, .null, .null, .int 0, .int 0, .int 0, .int 0, .int 0])) :: T13)) _ 0).trans rfl) rfl (vp_in_nI (n := 7) (by decide) (by decide)) d_M_init_153 (fun H locs hP hD hS => ?_)
  rw [ap_set] at hP hD
  have hP : va_P D classes ((W0 ++ ((q, .inr (ciM, [.ref q1, .ref q2, .ref q3, .ref q4, .ref q5, .ref q6, .ref q7, .ref q8, .ref q9, .ref q10, .ref q11, .ref q12, .ref q13, .null, .int 0, .null, .null, .null, .null, .null, .null, .null, .null, .int 0, .int 0, .int 0, .int 0, .int 0])) :: T13)) ++ ([(q14, .inl (g 0, 8, .inl (upd (upd (upd (upd (upd (upd (upd (upd (fun _ => 0) 0 8) 1 8) 2 8) 3 8) 4 8) 5 8) 6 8) 7 8)))] : va_W)) H := hP
  have hD : va_D A ((W0 ++ ((q, .inr (ciM, [.ref q1, .ref q2, .ref q3, .ref q4, .ref q5, .ref q6, .ref q7, .ref q8, .ref q9, .ref q10, .ref q11, .ref q12, .ref q13, .null, .int 0, .null, .null, .null, .null, .null, .null, .null, .null, .int 0, .int 0, .int 0, .int 0, .int 0])) :: T13)) ++ ([(q14, .inl (g 0, 8, .inl (upd (upd (upd (upd (upd (upd (upd (upd (fun _ => 0) 0 8) 1 8) 2 8) 3 8) 4 8) 5 8) 6 8) 7 8)))] : va_W)) := hD
  rw [List.append_assoc] at hP hD
  obtain ⟨T14, e14⟩ : ∃ z : va_W, z = T13 ++ [(q14, .inl (g 0, 8, .inl (upd (upd (upd (upd (upd (upd (upd (upd (fun _ => 0) 0 8) 1 8) 2 8) 3 8) 4 8) 5 8) 6 8) 7 8)))] := ⟨_, rfl⟩
  have hP : va_P D classes (W0 ++ ((q, .inr (ciM, [.ref q1, .ref q2, .ref q3, .ref q4, .ref q5, .ref q6, .ref q7, .ref q8, .ref q9, .ref q10, .ref q11, .ref q12, .ref q13, .null, .int 0, .null, .null, .null, .null, .null, .null, .null, .null, .int 0, .int 0, .int 0, .int 0, .int 0])) :: T14)) H := by rw [e14]; exact hP
  have hD : va_D A (W0 ++ ((q, .inr (ciM, [.ref q1, .ref q2, .ref q3, .ref q4, .ref q5, .ref q6, .ref q7, .ref q8, .ref q9, .ref q10, .ref q11, .ref q12, .ref q13, .null, .int 0, .null, .null, .null, .null, .null, .null, .null, .null, .int 0, .int 0, .int 0, .int 0, .int 0])) :: T14)) := by rw [e14]; exact hD
  refine va_putF (D := D) (ci := ciM) (v := .ref q14) (ty := .array .int) (C := R_M) (T := F_M) (N := 28) hx hb hts i_M t_M t_M_ok n_M hown hK hP hD hS (W0.length + 0) ((ap_get W0 _ 0).trans rfl) rfl 13 (by decide) (hts _ kf_M_49) (fun _ h9 => h9) rfl hnm rfl (by decide +kernel) rfl rfl (Nat.le_of_ble_eq_true rfl) d_M_init_154 (fun H locs hP hD hS => ?_)
  rw [ap_set] at hP hD
  have hP : va_P D classes (W0 ++ ((q, .inr (ciM, [.ref q1, .ref q2, .ref q3, .ref q4, .ref q5, .ref q6, .ref q7, .ref q8, .ref q9, .ref q10, .ref q11, .ref q12, .ref q13, .ref q14, .int 0, .null, .null, .null, .null, .null, .null, .null, .null, .int 0, .int 0, .int 0, .int 0, .int 0])) :: T14)) H := hP
  have hD : va_D A (W0 ++ ((q, .inr (ciM, [.ref q1, .ref q2, .ref q3, .ref q4, .ref q5, .ref q6, .ref q7, .ref q8, .ref q9, .ref q10, .ref q11, .ref q12, .ref q13, .ref q14, .int 0, .null, .null, .null, .null, .null, .null, .null, .null, .int 0, .int 0, .int 0, .int 0, .int 0])) :: T14)) := hD
  refine lv_aload_n hx hb d_M_init_157 rfl (lv_at hl 0 rfl) ?_
  refine lv_bipush (v := 8) hx hb d_M_init_158 (by decide) ?_
  refine va_newa (atype := .int) (ty := .int) (N' := 8) (a0 := (8, .inl (fun _ => 0))) hx hb (hts _ ka_int) rfl hK hP hD hS hA (fun _ => rfl) (by decide) rfl (by decide) (by decide) (by decide) d_M_init_160 (fun q15 cA H hK hP hD hS => ?_)
  obtain rfl : cA = g 0 := kI hK
  have hK : va_K D classes (tysA g) s := hK.sub [0, 1, 2, 3, 4, 5] rfl
  rw [List.append_assoc] at hP hD
  obtain ⟨T15, e15⟩ : ∃ z : va_W, z = T14 ++ [(q15, .inl (g 0, 8, .inl (fun _ => 0)))] := ⟨_, rfl⟩
  have hP : va_P D classes (W0 ++ ((q, .inr (ciM, [.ref q1, .ref q2, .ref q3, .ref q4, .ref q5, .ref q6, .ref q7, .ref q8, .ref q9, .ref q10, .ref q11, .ref q12, .ref q13, .ref q14, .int 0, .null, .null, .null, .null, .null, .null, .null, .null, .int 0, .int 0, .int 0, .int 0, .int 0])) :: T15)) H := by rw [e15]; exact hP
  have hD : va_D A (W0 ++ ((q, .inr (ciM, [.ref q1, .ref q2, .ref q3, .ref q4, .ref q5, .ref q6, .ref q7, .ref q8, .ref q9, .ref q10, .ref q11, .ref q12, .ref q13, .ref q14, .int 0, .null, .null, .null, .null, .null, .null, .null, .null, .int 0, .int 0, .int 0, .int 0, .int 0])) :: T15)) := by rw [e15]; exact hD
  refine va_putF (D := D) (ci := ciM) (v := .ref q15) (ty := .array .int) (C := R_M) (T := F_M) (N := 28) hx hb hts i_M t_M t_M_ok n_M hown hK hP hD hS (W0.length + 0) ((ap_get W0 _ 0).trans rfl) rfl 15 (by decide) (hts _ kf_M_52) (fun _ h9 => h9) rfl hnm rfl (by decide +kernel) rfl rfl (Nat.le_of_ble_eq_true rfl) d_M_init_162 (fun H locs hP hD hS => ?_)
  rw [ap_set] at hP hD
  have hP : va_P D classes (W0 ++ ((q, .inr (ciM, [.ref q1, .ref q2, .ref q3, .ref q4, .ref q5, .ref q6, .ref q7, .ref q8, .ref q9, .ref q10, .ref q11, .ref q12, .ref q13, .ref q14, .int 0, .ref q15, .null, .null, .null, .null, .null, .null, .null, .int 0, .int 0, .int 0, .int 0, .int 0])) :: T15)) H := hP
  have hD : va_D A (W0 ++ ((q, .inr (ciM, [.ref q1, .ref q2, .ref q3, .ref q4, .ref q5, .ref q6, .ref q7, .ref q8, .ref q9, .ref q10, .ref q11, .ref q12, .ref q13, .ref q14, .int 0, .ref q15, .null, .null, .null, .null, .null, .null, .null, .int 0, .int 0, .int 0, .int 0, .int 0])) :: T15)) := hD
  refine lv_aload_n hx hb d_M_init_165 rfl (lv_at hl 0 rfl) ?_
  refine lv_bipush (v := 8) hx hb d_M_init_166 (by decide) ?_
  refine va_newa (atype := .int) (ty := .int) (N' := 8) (a0 := (8, .inl (fun _ => 0))) hx hb (hts _ ka_int) rfl hK hP hD hS hA (fun _ => rfl) (by decide) rfl (by decide) (by decide) (by decide) d_M_init_168 (fun q16 cA H hK hP hD hS => ?_)
  obtain rfl : cA = g 0 := kI hK
  have hK : va_K D classes (tysA g) s := hK.sub [0, 1, 2, 3, 4, 5] rfl
  rw [List.append_assoc] at hP hD
  obtain ⟨T16, e16⟩ : ∃ z : va_W, z = T15 ++ [(q16, .inl (g 0, 8, .inl (fun _ => 0)))] := ⟨_, rfl⟩
  have hP : va_P D classes (W0 ++ ((q, .inr (ciM, [.ref q1, .ref q2, .ref q3, .ref q4, .ref q5, .ref q6, .ref q7, .ref q8, .ref q9, .ref q10, .ref q11, .ref q12, .ref q13, .ref q14, .int 0, .ref q15, .null, .null, .null, .null, .null, .null, .null, .int 0, .int 0, .int 0, .int 0, .int 0])) :: T16)) H := by rw [e16]; exact hP
  have hD : va_D A (W0 ++ ((q, .inr (ciM, [.ref q1, .ref q2, .ref q3, .ref q4, .ref q5, .ref q6, .ref q7, .ref q8, .ref q9, .ref q10, .ref q11, .ref q12, .ref q13, .ref q14, .int 0, .ref q15, .null, .null, .null, .null, .null, .null, .null, .int 0, .int 0, .int 0, .int 0, .int 0])) :: T16)) := by rw [e16]; exact hD
  refine va_putF (D := D) (ci := ciM) (v := .ref q16) (ty := .array .int) (C := R_M) (T := F_M) (N := 28) hx hb hts i_M t_M t_M_ok n_M hown hK hP hD hS (W0.length + 0) ((ap_get W0 _ 0).trans rfl) rfl 16 (by decide) (hts _ kf_M_55) (fun _ h9 => h9) rfl hnm rfl (by decide +kernel) rfl rfl (Nat.le_of_ble_eq_true rfl) d_M_init_170 (fun H locs hP hD hS => ?_)
  rw [ap_set] at hP hD
  have hP : va_P D classes (W0 ++ ((q, .inr (ciM, [.ref q1, .ref q2, .ref q3, .ref q4, .ref q5, .ref q6, .ref q7, .ref q8, .ref q9, .ref q10, .ref q11, .ref q12, .ref q13, .ref q14, .int 0, .ref q15, .ref q16, .null, .null, .null, .null, .null, .null, .int 0, .int 0, .int 0, .int 0, .int 0])) :: T16)) H := hP
  have hD : va_D A (W0 ++ ((q, .inr (ciM, [.ref q1, .ref q2, .ref q3, .ref q4, .ref q5, .ref q6, .ref q7, .ref q8, .ref q9, .ref q10, .ref q11, .ref q12, .ref q13, .ref q14, .int 0, .ref q15, .ref q16, .null, .null, .null, .null, .null, .null, .int 0, .int 0, .int 0, .int 0, .int 0])) :: T16)) := hD
  refine lv_aload_n hx hb d_M_init_173 rfl (lv_at hl 0 rfl) ?_
  refine lv_bipush (v := 8) hx hb d_M_init_174 (by decide) ?_
  refine va_newa (atype := .boolean) (ty := .boolean) (N' := 8) (a0 := (8, .inl (fun _ => 0))) hx hb (hts _ ka_boolean) rfl hK hP hD hS hA (fun _ => rfl) (by decide) rfl (by decide) (by decide) (by decide) d_M_init_176 (fun q17 cA H hK hP hD hS => ?_)
  obtain rfl : cA = g 5 := kZ hK
  have hK : va_K D classes (tysA g) s := hK.sub [0, 1, 2, 3, 4, 5] rfl
  rw [List.append_assoc] at hP hD
  obtain ⟨T17, e17⟩ : ∃ z : va_W, z = T16 ++ [(q17, .inl (g 5, 8, .inl (fun _ => 0)))] := ⟨_, rfl⟩
  have hP : va_P D classes (W0 ++ ((q, .inr (ciM, [.ref q1, .ref q2, .ref q3, .ref q4, .ref q5, .ref q6, .ref q7, .ref q8, .ref q9, .ref q10, .ref q11, .ref q12, .ref q13, .ref q14, .int 0, .ref q15, .ref q16, .null, .null, .null, .null, .null, .null, .int 0, .int 0, .int 0, .int 0, .int 0])) :: T17)) H := by rw [e17]; exact hP
  have hD : va_D A (W0 ++ ((q, .inr (ciM, [.ref q1, .ref q2, .ref q3, .ref q4, .ref q5, .ref q6, .ref q7, .ref q8, .ref q9, .ref q10, .ref q11, .ref q12, .ref q13, .ref q14, .int 0, .ref q15, .ref q16, .null, .null, .null, .null, .null, .null, .int 0, .int 0, .int 0, .int 0, .int 0])) :: T17)) := by rw [e17]; exact hD
  refine va_putF (D := D) (ci := ciM) (v := .ref q17) (ty := .array .boolean) (C := R_M) (T := F_M) (N := 28) hx hb hts i_M t_M t_M_ok n_M hown hK hP hD hS (W0.length + 0) ((ap_get W0 _ 0).trans rfl) rfl 17 (by decide) (hts _ kf_M_58) (fun _ h9 => h9) rfl hnm rfl (by decide +kernel) rfl rfl (Nat.le_of_ble_eq_true rfl) d_M_init_178 (fun H locs hP hD hS => ?_)
  rw [ap_set] at hP hD
  have hP : va_P D classes (W0 ++ ((q, .inr (ciM, [.ref q1, .ref q2, .ref q3, .ref q4, .ref q5, .ref q6, .ref q7, .ref q8, .ref q9, .ref q10, .ref q11, .ref q12, .ref q13, .ref q14, .int 0, .ref q15, .ref q16, .ref q17, .null, .null, .null, .null, .null, .int 0, .int 0, .int 0, .int 0, .int 0])) :: T17)) H := hP
  have hD : va_D A (W0 ++ ((q, .inr (ciM, [.ref q1, .ref q2, .ref q3, .ref q4, .ref q5, .ref q6, .ref q7, .ref q8, .ref q9, .ref q10, .ref q11, .ref q12, .ref q13, .ref q14, .int 0, .ref q15, .ref q16, .ref q17, .null, .null, .null, .null, .null, .int 0, .int 0, .int 0, .int 0, .int 0])) :: T17)) := hD
  refine lv_aload_n hx hb d_M_init_181 rfl (lv_at hl 0 rfl) ?_
  refine lv_bipush (v := 32) hx hb d_M_init_182 (by decide) ?_
  refine va_newa (atype := .int) (ty := .int) (N' := 32) (a0 := (32, .inl (fun _ => 0))) hx hb (hts _ ka_int) rfl hK hP hD hS hA (fun _ => rfl) (by decide) rfl (by decide) (by decide) (by decide) d_M_init_184 (fun q18 cA H hK hP hD hS => ?_)
  obtain rfl : cA = g 0 := kI hK
  have hK : va_K D classes (tysA g) s := hK.sub [0, 1, 2, 3, 4, 5] rfl
  rw [List.append_assoc] at hP hD
  obtain ⟨T18, e18⟩ : ∃ z : va_W, z = T17 ++ [(q18, .inl (g 0, 32, .inl (fun _ => 0)))] := ⟨_, rfl⟩
  have hP : va_P D classes (W0 ++ ((q, .inr (ciM, [.ref q1, .ref q2, .ref q3, .ref q4, .ref q5, .ref q6, .ref q7, .ref q8, .ref q9, .ref q10, .ref q11, .ref q12, .ref q13, .ref q14, .int 0, .ref q15, .ref q16, .ref q17, .null, .null, .null, .null, .null, .int 0, .int 0, .int 0, .int 0, .int 0])) :: T18)) H := by rw [e18]; exact hP
  have hD : va_D A (W0 ++ ((q, .inr (ciM, [.ref q1, .ref q2, .ref q3, .ref q4, .ref q5, .ref q6, .ref q7, .ref q8, .ref q9, .ref q10, .ref q11, .ref q12, .ref q13, .ref q14, .int 0, .ref q15, .ref q16, .ref q17, .null, .null, .null, .null, .null, .int 0, .int 0, .int 0, .int 0, .int 0])) :: T18)) := by rw [e18]; exact hD
  refine va_putF (D := D) (ci := ciM) (v := .ref q18) (ty := .array .int) (C := R_M) (T := F_M) (N := 28) hx hb hts i_M t_M t_M_ok n_M hown hK hP hD hS (W0.length + 0) ((ap_get W0 _ 0).trans rfl) rfl 18 (by decide) (hts _ kf_M_62) (fun _ h9 => h9) rfl hnm rfl (by decide +kernel) rfl rfl (Nat.le_of_ble_eq_true rfl) d_M_init_186 (fun H locs hP hD hS => ?_)
  rw [ap_set] at hP hD
  have hP : va_P D classes (W0 ++ ((q, .inr (ciM, [.ref q1, .ref q2, .ref q3, .ref q4, .ref q5, .ref q6, .ref q7, .ref q8, .ref q9, .ref q10, .ref q11, .ref q12, .ref q13, .ref q14, .int 0, .ref q15, .ref q16, .ref q17, .ref q18, .null, .null, .null, .null, .int 0, .int 0, .int 0, .int 0, .int 0])) :: T18)) H := hP
  have hD : va_D A (W0 ++ ((q, .inr (ciM, [.ref q1, .ref q2, .ref q3, .ref q4, .ref q5, .ref q6, .ref q7, .ref q8, .ref q9, .ref q10, .ref q11, .ref q12, .ref q13, .ref q14, .int 0, .ref q15, .ref q16, .ref q17, .ref q18, .null, .null, .null, .null, .int 0, .int 0, .int 0, .int 0, .int 0])) :: T18)) := hD
  refine lv_aload_n hx hb d_M_init_189 rfl (lv_at hl 0 rfl) ?_
  refine lv_bipush (v := 24) hx hb d_M_init_190 (by decide) ?_
  refine va_newa (atype := .int) (ty := .int) (N' := 24) (a0 := (24, .inl (fun _ => 0))) hx hb (hts _ ka_int) rfl hK hP hD hS hA (fun _ => rfl) (by decide) rfl (by decide) (by decide) (by decide) d_M_init_192 (fun q19 cA H hK hP hD hS => ?_)
  obtain rfl : cA = g 0 := kI hK
  have hK : va_K D classes (tysA g) s := hK.sub [0, 1, 2, 3, 4, 5] rfl
  rw [List.append_assoc] at hP hD
  obtain ⟨T19, e19⟩ : ∃ z : va_W, z = T18 ++ [(q19, .inl (g 0, 24, .inl (fun _ => 0)))] := ⟨_, rfl⟩
  have hP : va_P D classes (W0 ++ ((q, .inr (ciM, [.ref q1, .ref q2, .ref q3, .ref q4, .ref q5, .ref q6, .ref q7, .ref q8, .ref q9, .ref q10, .ref q11, .ref q12, .ref q13, .ref q14, .int 0, .ref q15, .ref q16, .ref q17, .ref q18, .null, .null, .null, .null, .int 0, .int 0, .int 0, .int 0, .int 0])) :: T19)) H := by rw [e19]; exact hP
  have hD : va_D A (W0 ++ ((q, .inr (ciM, [.ref q1, .ref q2, .ref q3, .ref q4, .ref q5, .ref q6, .ref q7, .ref q8, .ref q9, .ref q10, .ref q11, .ref q12, .ref q13, .ref q14, .int 0, .ref q15, .ref q16, .ref q17, .ref q18, .null, .null, .null, .null, .int 0, .int 0, .int 0, .int 0, .int 0])) :: T19)) := by rw [e19]; exact hD
  refine va_putF (D := D) (ci := ciM) (v := .ref q19) (ty := .array .int) (C := R_M) (T := F_M) (N := 28) hx hb hts i_M t_M t_M_ok n_M hown hK hP hD hS (W0.length + 0) ((ap_get W0 _ 0).trans rfl) rfl 19 (by decide) (hts _ kf_M_65) (fun _ h9 => h9) rfl hnm rfl (by decide +kernel) rfl rfl (Nat.le_of_ble_eq_true rfl) d_M_init_194 (fun H locs hP hD hS => ?_)
  rw [ap_set] at hP hD
  have hP : va_P D classes (W0 ++ ((q, .inr (ciM, [.ref q1, .ref q2, .ref q3, .ref q4, .ref q5, .ref q6, .ref q7, .ref q8, .ref q9, .ref q10, .ref q11, .ref q12, .ref q13, .ref q14, .int 0, .ref q15, .ref q16, .ref q17, .ref q18, .ref q19, .null, .null, .null, .int 0, .int 0, .int 0, .int 0, .int 0])) :: T19)) H := hP
  have hD : va_D A (W0 ++ ((q, .inr (ciM, [.ref q1, .ref q2, .ref q3, .ref q4, .ref q5, .ref q6, .ref q7, .ref q8, .ref q9, .ref q10, .ref q11, .ref q12, .ref q13, .ref q14, .int 0, .ref q15, .ref q16, .ref q17, .ref q18, .ref q19, .null, .null, .null, .int 0, .int 0, .int 0, .int 0, .int 0])) :: T19)) := hD
  refine lv_aload_n hx hb d_M_init_197 rfl (lv_at hl 0 rfl) ?_
  refine lv_bipush (v := 24) hx hb d_M_init_198 (by decide) ?_
  refine va_newa (atype := .int) (ty := .int) (N' := 24) (a0 := (24, .inl (fun _ => 0))) hx hb (hts _ ka_int) rfl hK hP hD hS hA (fun _ => rfl) (by decide) rfl (by decide) (by decide) (by decide) d_M_init_200 (fun q20 cA H hK hP hD hS => ?_)
  obtain rfl : cA = g 0 := kI hK
  have hK : va_K D classes (tysA g) s := hK.sub [0, 1, 2, 3, 4, 5] rfl
  rw [List.append_assoc] at hP hD
  obtain ⟨T20, e20⟩ : ∃ z : va_W, z = T19 ++ [(q20, .inl (g 0, 24, .inl (fun _ => 0)))] := ⟨_, rfl⟩
  have hP : va_P D classes (W0 ++ ((q, .inr (ciM, [.ref q1, .ref q2, .ref q3, .ref q4, .ref q5, .ref q6, .ref q7, .ref q8, .ref q9, .ref q10, .ref q11, .ref q12, .ref q13, .ref q14, .int 0, .ref q15, .ref q16, .ref q17, .ref q18, .ref q19, .null, .null, .null, .int 0, .int 0, .int 0, .int 0, .int 0])) :: T20)) H := by rw [e20]; exact hP
  have hD : va_D A (W0 ++ ((q, .inr (ciM, [.ref q1, .ref q2, .ref q3, .ref q4, .ref q5, .ref q6, .ref q7, .ref q8, .ref q9, .ref q10, .ref q11, .ref q12, .ref q13, .ref q14, .int 0, .ref q15, .ref q16, .ref q17, .ref q18, .ref q19, .null, .null, .null, .int 0, .int 0, .int 0, .int 0, .int 0])) :: T20)) := by rw [e20]; exact hD
  refine va_putF (D := D) (ci := ciM) (v := .ref q20) (ty := .array .int) (C := R_M) (T := F_M) (N := 28) hx hb hts i_M t_M t_M_ok n_M hown hK hP hD hS (W0.length + 0) ((ap_get W0 _ 0).trans rfl) rfl 20 (by decide) (hts _ kf_M_68) (fun _ h9 => h9) rfl hnm rfl (by decide +kernel) rfl rfl (Nat.le_of_ble_eq_true rfl) d_M_init_202 (fun H locs hP hD hS => ?_)
  rw [ap_set] at hP hD
  have hP : va_P D classes (W0 ++ ((q, .inr (ciM, [.ref q1, .ref q2, .ref q3, .ref q4, .ref q5, .ref q6, .ref q7, .ref q8, .ref q9, .ref q10, .ref q11, .ref q12, .ref q13, .ref q14, .int 0, .ref q15, .ref q16, .ref q17, .ref q18, .ref q19, .ref q20, .null, .null, .int 0, .int 0, .int 0, .int 0, .int 0])) :: T20)) H := hP
  have hD : va_D A (W0 ++ ((q, .inr (ciM, [.ref q1, .ref q2, .ref q3, .ref q4, .ref q5, .ref q6, .ref q7, .ref q8, .ref q9, .ref q10, .ref q11, .ref q12, .ref q13, .ref q14, .int 0, .ref q15, .ref q16, .ref q17, .ref q18, .ref q19, .ref q20, .null, .null, .int 0, .int 0, .int 0, .int 0, .int 0])) :: T20)) := hD
  refine lv_aload_n hx hb d_M_init_205 rfl (lv_at hl 0 rfl) ?_
  refine lv_bipush (v := 8) hx hb d_M_init_206 (by decide) ?_
  refine va_newa (atype := .int) (ty := .int) (N' := 8) (a0 := (8, .inl (fun _ => 0))) hx hb (hts _ ka_int) rfl hK hP hD hS hA (fun _ => rfl) (by decide) rfl (by decide) (by decide) (by decide) d_M_init_208 (fun q21 cA H hK hP hD hS => ?_)
  obtain rfl : cA = g 0 := kI hK
  have hK : va_K D classes (tysA g) s := hK.sub [0, 1, 2, 3, 4, 5] rfl
  refine lv_dup hx hb d_M_init_210 rfl ?_
  refine lv_iconst (v := 0) hx hb d_M_init_211 (by decide) ?_
  refine lv_iconst (v := 3) hx hb d_M_init_212 (by decide) ?_
  refine va_iast hx hb hK hP hD hS ((W0 ++ ((q, .inr (ciM, [.ref q1, .ref q2, .ref q3, .ref q4, .ref q5, .ref q6, .ref q7, .ref q8, .ref q9, .ref q10, .ref q11, .ref q12, .ref q13, .ref q14, .int 0, .ref q15, .ref q16, .ref q17, .ref q18, .ref q19, .ref q20, .null, .null, .int 0, .int 0, .int 0, .int 0, .int 0])) :: T20)).length + 0) 0 ((ap_get (W0 ++ ((q, .inr (ciM, [.ref q1, .ref q2, .ref q3, .ref q4, .ref q5, .ref q6, .ref q7, .ref q8, .ref q9, .ref q10, .ref q11, .ref q12, .ref q13, .ref q14, .int 0, .ref q15, .ref q16, .ref q17, .ref q18, .ref q19, .ref q20, .null, .null, .int 0, .int 0, .int 0, .int 0, .int 0])) :: T20)) _ 0).trans rfl) rfl (vp_in_nI (n := 0) (by decide) (by decide)) d_M_init_213 (fun H locs hP hD hS => ?_)
  rw [ap_set] at hP hD
  have hP : va_P D classes ((W0 ++ ((q, .inr (ciM, [.ref q1, .ref q2, .ref q3, .ref q4, .ref q5, .ref q6, .ref q7, .ref q8, .ref q9, .ref q10, .ref q11, .ref q12, .ref q13, .ref q14, .int 0, .ref q15, .ref q16, .ref q17, .ref q18, .ref q19, .ref q20, .null, .null, .int 0, .int 0, .int 0, .int 0, .int 0])) :: T20)) ++ ([(q21, .inl (g 0, 8, .inl (upd (fun _ => 0) 0 3)))] : va_W)) H := hP
  have hD : va_D A ((W0 ++ ((q, .inr (ciM, [.ref q1, .ref q2, .ref q3, .ref q4, .ref q5, .ref q6, .ref q7, .ref q8, .ref q9, .ref q10, .ref q11, .ref q12, .ref q13, .ref q14, .int 0, .ref q15, .ref q16, .ref q17, .ref q18, .ref q19, .ref q20, .null, .null, .int 0, .int 0, .int 0, .int 0, .int 0])) :: T20)) ++ ([(q21, .inl (g 0, 8, .inl (upd (fun _ => 0) 0 3)))] : va_W)) := hD
  refine lv_dup hx hb d_M_init_214 rfl ?_
  refine lv_iconst (v := 1) hx hb d_M_init_215 (by decide) ?_
  refine lv_iconst (v := 3) hx hb d_M_init_216 (by decide) ?_
  refine va_iast hx hb hK hP hD hS ((W0 ++ ((q, .inr (ciM, [.ref q1, .ref q2, .ref q3, .ref q4, .ref q5, .ref q6, .ref q7, .ref q8, .ref q9, .ref q10, .ref q11, .ref q12, .ref q13, .ref q14, .int 0, .ref q15, .ref q16, .ref q17, .ref q18, .ref q19, .ref q20, .null, .null, .int 0, .int 0, .int 0, .int 0, .int 0])) :: T20)).length + 0) 0 ((ap_get (W0 ++ ((q, .inr (ciM, [.ref q1, .ref q2, .ref q3, .ref q4, .ref q5, .ref q6, .ref q7, .ref q8, .ref q9, .ref q10, .ref q11, .ref q12, .ref q13, .ref q14, .int 0, .ref q15, .ref q16, .ref q17, .ref q18, .ref q19, .ref q20, .null, .null, .int 0, .int 0, .int 0, .int 0, .int 0])) :: T20)) _ 0).trans rfl) rfl (vp_in_nI (n := 1) (by decide) (by decide)) d_M_init_217 (fun H locs hP hD hS => ?_)
  rw [ap_set] at hP hD
  have hP : va_P D classes ((W0 ++ ((q, .inr (ciM, [.ref q1, .ref q2, .ref q3, .ref q4, .ref q5, .ref q6, .ref q7, .ref q8, .ref q9, .ref q10, .ref q11, .ref q12, .ref q13, .ref q14, .int 0, .ref q15, .ref q16, .ref q17, .ref q18, .ref q19, .ref q20, .null, .null, .int 0, .int 0, .int 0, .int 0, .int 0])) :: T20)) ++ ([(q21, .inl (g 0, 8, .inl (upd (upd (fun _ => 0) 0 3) 1 3)))] : va_W)) H := hP
  have hD : va_D A ((W0 ++ ((q, .inr (ciM, [.ref q1, .ref q2, .ref q3, .ref q4, .ref q5, .ref q6, .ref q7, .ref q8, .ref q9, .ref q10, .ref q11, .ref q12, .ref q13, .ref q14, .int 0, .ref q15, .ref q16, .ref q17, .ref q18, .ref q19, .ref q20, .null, .null, .int 0, .int 0, .int 0, .int 0, .int 0])) :: T20)) ++ ([(q21, .inl (g 0, 8, .inl (upd (upd (fun _ => 0) 0 3) 1 3)))] : va_W)) := hD
  refine lv_dup hx hb d_M_init_218 rfl ?_
  refine lv_iconst (v := 2) hx hb d_M_init_219 (by decide) ?_
  refine lv_iconst (v := 3) hx hb d_M_init_220 (by decide) ?_
  refine va_iast hx hb hK hP hD hS ((W0 ++ ((q, .inr (ciM, [.ref q1, .ref q2, .ref q3, .ref q4, .ref q5, .ref q6, .ref q7, .ref q8, .ref q9, .ref q10, .ref q11, .ref q12, .ref q13, .ref q14, .int 0, .ref q15, .ref q16, .ref q17, .ref q18, .ref q19, .ref q20, .null, .null, .int 0, .int 0, .int 0, .int 0, .int 0])) :: T20)).length + 0) 0 ((ap_get (W0 ++ ((q, .inr (ciM, [.ref q1, .ref q2, .ref q3, .ref q4, .ref q5, .ref q6, .ref q7, .ref q8, .ref q9, .ref q10, .ref q11, .ref q12, .ref q13, .ref q14, .int 0, .ref q15, .ref q16, .ref q17, .ref q18, .ref q19, .ref q20, .null, .null, .int 0, .int 0, .int 0, .int 0, .int 0])) :: T20)) _ 0).trans rfl) rfl (vp_in_nI (n := 2) (by decide) (by decide)) d_M_init_221 (fun H locs hP hD hS => ?_)
  rw [ap_set] at hP hD
  have hP : va_P D classes ((W0 ++ ((q, .inr (ciM, [.ref q1, .ref q2, .ref q3, .ref q4, .ref q5, .ref q6, .ref q7, .ref q8, .ref q9, .ref q10, .ref q11, .ref q12, .ref q13, .ref q14, .int 0, .ref q15, .ref q16, .ref q17, .ref q18, .ref q19, .ref q20, .null, .null, .int 0, .int 0, .int 0, .int 0, .int 0])) :: T20)) ++ ([(q21, .inl (g 0, 8, .inl (upd (upd (upd (fun _ => 0) 0 3) 1 3) 2 3)))] : va_W)) H := hP
  have hD : va_D A ((W0 ++ ((q, .inr (ciM, [.ref q1, .ref q2, .ref q3, .ref q4, .ref q5, .ref q6, .ref q7, .ref q8, .ref q9, .ref q10, .ref q11, .ref q12, .ref q13, .ref q14, .int 0, .ref q15, .ref q16, .ref q17, .ref q18, .ref q19, .ref q20, .null, .null, .int 0, .int 0, .int 0, .int 0, .int 0])) :: T20)) ++ ([(q21, .inl (g 0, 8, .inl (upd (upd (upd (fun _ => 0) 0 3) 1 3) 2 3)))] : va_W)) := hD
  refine lv_dup hx hb d_M_init_222 rfl ?_
  refine lv_iconst (v := 3) hx hb d_M_init_223 (by decide) ?_
  refine lv_iconst (v := 3) hx hb d_M_init_224 (by decide) ?_
  refine va_iast hx hb hK hP hD hS ((W0 ++ ((q, .inr (ciM, [.ref q1, .ref q2, .ref q3, .ref q4, .ref q5, .ref q6, .ref q7, .ref q8, .ref q9, .ref q10, .ref q11, .ref q12, .ref q13, .ref q14, .int 0, .ref q15, .ref q16, .ref q17, .ref q18, .ref q19, .ref q20, .null, .null, .int 0, .int 0, .int 0, .int 0, .int 0])) :: T20)).length + 0) 0 ((ap_get (W0 ++ ((q, .inr (ciM, [.ref q1, .ref q2, .ref q3, .ref q4, .ref q5, .ref q6, .ref q7, .ref q8, .ref q9, .ref q10, .ref q11, .ref q12, .ref q13, .ref q14, .int 0, .ref q15, .ref q16, .ref q17, .ref q18, .ref q19, .ref q20, .null, .null, .int 0, .int 0, .int 0, .int 0, .int 0])) :: T20)) _ 0).trans rfl) rfl (vp_in_nI (n := 3) (by decide) (by decide)) d_M_init_225 (fun H locs hP hD hS => ?_)
  rw [ap_set] at hP hD
  have hP : va_P D classes ((W0 ++ ((q, .inr (ciM, [.ref q1, .ref q2, .ref q3, .ref q4, .ref q5, .ref q6, .ref q7, .ref q8, .ref q9, .ref q10, .ref q11, .ref q12, .ref q13, .ref q14, .int 0, .ref q15, .ref q16, .ref q17, .ref q18, .ref q19, .ref q20, .null, .null, .int 0, .int 0, .int 0, .int 0, .int 0])) :: T20)) ++ ([(q21, .inl (g 0, 8, .inl (upd (upd (upd (upd (fun _ => 0) 0 3) 1 3) 2 3) 3 3)))] : va_W)) H := hP
  have hD : va_D A ((W0 ++ ((q, .inr (ciM, [.ref q1, .ref q2, .ref q3, .ref q4, .ref q5, .ref q6, .ref q7, .ref q8, .ref q9, .ref q10, .ref q11, .ref q12, .ref q13, .ref q14, .int 0, .ref q15, .ref q16, .ref q17, .ref q18, .ref q19, .ref q20, .null, .null, .int 0, .int 0, .int 0, .int 0, .int 0])) :: T20)) ++ ([(q21, .inl (g 0, 8, .inl (upd (upd (upd (upd (fun _ => 0) 0 3) 1 3) 2 3) 3 3)))] : va_W)) := hD
  refine lv_dup hx hb d_M_init_226 rfl ?_
  refine lv_iconst (v := 4) hx hb d_M_init_227 (by decide) ?_
  refine lv_iconst (v := 3) hx hb d_M_init_228 (by decide) ?_
  refine va_iast hx hb hK hP hD hS ((W0 ++ ((q, .inr (ciM, [.ref q1, .ref q2, .ref q3, .ref q4, .ref q5, .ref q6, .ref q7, .ref q8, .ref q9, .ref q10, .ref q11, .ref q12, .ref q13, .ref q14, .int 0, .ref q15, .ref q16, .ref q17, .ref q18, .ref q19, .ref q20, .null, .null, .int 0, .int 0, .int 0, .int 0, .int 0])) :: T20)).length + 0) 0 ((ap_get (W0 ++ ((q, .inr (ciM, [.ref q1, .ref q2, .ref q3, .ref q4, .ref q5, .ref q6, .ref q7, .ref q8, .ref q9, .ref q10, .ref q11, .ref q12, .ref q13, .ref q14, .int 0, .ref q15, .ref q16, .ref q17, .ref q18, .ref q19, .ref q20, .null, .null, .int 0, .int 0, .int 0, .int 0, .int 0])) :: T20)) _ 0).trans rfl) rfl (vp_in_nI (n := 4) (by decide) (by decide)) d_M_init_229 (fun H locs hP hD hS => ?_)
  rw [ap_set] at hP hD
  have hP : va_P D classes ((W0 ++ ((q, .inr (ciM, [.ref q1, .ref q2, .ref q3, .ref q4, .ref q5, .ref q6, .ref q7, .ref q8, .ref q9, .ref q10, .ref q11, .ref q12, .ref q13, .ref q14, .int 0, .ref q15, .ref q16, .ref q17, .ref q18, .ref q19, .ref q20, .null, .null, .int 0, .int 0, .int 0, .int 0, .int 0])) :: T20)) ++ ([(q21, .inl (g 0, 8, .inl (upd (upd (upd (upd (upd (fun _ => 0) 0 3) 1 3) 2 3) 3 3) 4 3)))] : va_W)) H := hP
  have hD : va_D A ((W0 ++ ((q, .inr (ciM, [.ref q1, .ref q2, .ref q3, .ref q4, .ref q5, .ref q6, .ref q7, .ref q8, .ref q9, .ref q10, .ref q11, .ref q12, .ref q13, .ref q14, .int 0, .ref q15, .ref q16, .ref q17, .ref q18, .ref q19, .ref q20, .null, .null, .int 0, .int 0, .int 0, .int 0, .int 0])) :: T20)) ++ ([(q21, .inl (g 0, 8, .inl (upd (upd (upd (upd (upd (fun _ => 0) 0 3) 1 3) 2 3) 3 3) 4 3)))] : va_W)) := hD
  refine lv_dup hx hb d_M_init_230 rfl ?_
  refine lv_iconst (v := 5) hx hb d_M_init_231 (by decide) ?_
  refine lv_iconst (v := 3) hx hb d_M_init_232 (by decide) ?_
  refine va_iast hx hb hK hP hD hS ((W0 ++ ((q, .inr (ciM, [.ref q1, .ref q2, .ref q3, .ref q4, .ref q5, .ref q6, .ref q7, .ref q8, .ref q9, .ref q10, .ref q11, .ref q12, .ref q13, .ref q14, .int 0, .ref q15, .ref q16, .ref q17, .ref q18, .ref q19, .ref q20, .null, .null, .int 0, .int 0, .int 0, .int 0, .int 0])) :: T20)).length + 0) 0 ((ap_get (W0 ++ ((q, .inr (ciM, [.ref q1, .ref q2, .ref q3, .ref q4, .ref q5, .ref q6, .ref q7, .ref q8, .ref q9, .ref q10, .ref q11, .ref q12, .ref q13, .ref q14, .int 0, .ref q15, .ref q16, .ref q17, .ref q18, .ref q19, .ref q20, .null, .null, .int 0, .int 0, .int 0, .int 0, .int 0])) :: T20)) _ 0).trans rfl) rfl (vp_in_nI (n := 5) (by decide) (by decide)) d_M_init_233 (fun H locs hP hD hS => ?_)
  rw [ap_set] at hP hD
  have hP : va_P D classes ((W0 ++ ((q, .inr (ciM, [.ref q1, .ref q2, .ref q3, .ref q4, .ref q5, .ref q6, .ref q7, .ref q8, .ref q9, .ref q10, .ref q11, .ref q12, .ref q13, .ref q14, .int 0, .ref q15, .ref q16, .ref q17, .ref q18, .ref q19, .ref q20, .null, .null, .int 0, .int 0, .int 0, .int 0, .int 0])) :: T20)) ++ ([(q21, .inl (g 0, 8, .inl (upd (upd (upd (upd (upd (upd (fun _ => 0) 0 3) 1 3) 2 3) 3 3) 4 3) 5 3)))] : va_W)) H := hP
  have hD : va_D A ((W0 ++ ((q, .inr (ciM, [.ref q1, .ref q2, .ref q3, .ref q4, .ref q5, .ref q6, .ref q7, .ref q8, .ref q9, .ref q10, .ref q11, .ref q12, .ref q13, .ref q14, .int 0, .ref q15, .ref q16, .ref q17, .ref q18, .ref q19, .ref q20, .null, .null, .int 0, .int 0, .int 0, .int 0, .int 0])) :: T20)) ++ ([(q21, .inl (g 0, 8, .inl (upd (upd (upd (upd (upd (upd (fun _ => 0) 0 3) 1 3) 2 3) 3 3) 4 3) 5 3)))] : va_W)) := hD
  refine lv_dup hx hb d_M_init_234 rfl ?_
  refine lv_bipush (v := 6) hx hb d_M_init_235 (by decide) ?_
  refine lv_iconst (v := 3) hx hb d_M_init_237 (by decide) ?_
  refine va_iast hx hb hK hP hD hS ((W0 ++ ((q, .inr (ciM, [.ref q1, .ref q2, .ref q3, .ref q4, .ref q5, .ref q6, .ref q7, .ref q8, .ref q9, .ref q10, .ref q11, .ref q12, .ref q13, .ref q14, .int 0, .ref q15, .ref q16, .ref q17, .ref q18, .ref q19, .ref q20, .null, .null, .int 0, .int 0, .int 0, .int 0, .int 0])) :: T20)).length + 0) 0 ((ap_get (W0 ++ ((q, .inr (ciM, [.ref q1, .ref q2, .ref q3, .ref q4, .ref q5, .ref q6, .ref q7, .ref q8, .ref q9, .ref q10, .ref q11, .ref q12, .ref q13, .ref q14, .int 0, .ref q15, .ref q16, .ref q17, .ref q18, .ref q19, .ref q20, .null, .null, .int 0, .int 0, .int 0, .int 0, .int 0])) :: T20)) _ 0).trans rfl) rfl (vp_in_nI (n := 6) (by decide) (by decide)) d_M_init_238 (fun H locs hP hD hS => ?_)
  rw [ap_set] at hP hD
  have hP : va_P D classes ((W0 ++ ((q, .inr (ciM, [.ref q1, .ref q2, .ref q3, .ref q4, .ref q5, .ref q6, .ref q7, .ref q8, .ref q9, .ref q10, .ref q11, .ref q12, .ref q13, .ref q14, .int 0, .ref q15, .ref q16, .ref q17, .ref q18, .ref q19, .ref q20, .null, .null, .int 0, .int 0, .int 0, .int 0, .int 0])) :: T20)) ++ ([(q21, .inl (g 0, 8, .inl (upd (upd (upd (upd (upd (upd (upd (fun _ => 0) 0 3) 1 3) 2 3) 3 3) 4 3) 5 3) 6 3)))] : va_W)) H := hP
  have hD : va_D A ((W0 ++ ((q, .inr (ciM, [.ref q1, .ref q2, .ref q3, .ref q4, .ref q5, .ref q6, .ref q7, .ref q8, .ref q9, .ref q10, .ref q11, .ref q12, .ref q13, .ref q14, .int 0, .ref q15, .ref q16, .ref q17, .ref q18, .ref q19, .ref q20, .null, .null, .int 0, .int 0, .int 0, .int 0, .int 0])) :: T20)) ++ ([(q21, .inl (g 0, 8, .inl (upd (upd (upd (upd (upd (upd (upd (fun _ => 0) 0 3) 1 3) 2 3) 3 3) 4 3) 5 3) 6 3)))] : va_W)) := hD
  refine lv_dup hx hb d_M_init_239 rfl ?_
  refine lv_bipush (v := 7) hx hb d_M_init_240 (by decide) ?_
  refine lv_iconst (v := 3) hx hb d_M_init_242 (by decide) ?_
  refine va_iast hx hb hK hP hD hS ((W0 ++ ((q, .inr (ciM, [.ref q1, .ref q2, .ref q3, .ref q4, .ref q5, .ref q6, .ref q7, .ref q8, .ref q9, .ref q10, .ref q11, .ref q12, .ref q13, .ref q14, .int 0, .ref q15, .ref q16, .ref q17, .ref q18, .ref q19, .ref q20, .null, .null, .int 0, .int 0, .int 0, .int 0, .int 0])) :: T20)).length + 0) 0 ((ap_get (W0 ++ ((q, .inr (ciM, [.ref q1, .ref q2, .ref q3, .ref q4, .ref q5, .ref q6, .ref q7, .ref q8, .ref q9, .ref q10, .ref q11, .ref q12, .ref q13, .ref q14, .int 0, .ref q15, .ref q16, .ref q17, .ref q18, .ref q19, .ref q20, .null, .null, .int 0, .int 0, .int 0, .int 0, .int 0])) :: T20)) _ 0).trans rfl) rfl (vp_in_nI (n := 7) (by decide) (by decide)) d_M_init_243 (fun H locs hP hD hS => ?_)
  rw [ap_set] at hP hD
  have hP : va_P D classes ((W0 ++ ((q, .inr (ciM, [.ref q1, .ref q2, .ref q3, .ref q4, .ref q5, .ref q6, .ref q7, .ref q8, .ref q9, .ref q10, .ref q11, .ref q12, .ref q13, .ref q14, .int 0, .ref q15, .ref q16, .ref q17, .ref q18, .ref q19, .ref q20, .null, .null, .int 0, .int 0, .int 0, .int 0, .int 0])) :: T20)) ++ ([(q21, .inl (g 0, 8, .inl (upd (upd (upd (upd (upd (upd (upd (upd (fun _ => 0) 0 3) 1 3) 2 3) 3 3) 4 3) 5 3) 6 3) 7 3)))] : va_W)) H := hP
  have hD : va_D A ((W0 ++ ((q, .inr (ciM, [.ref q1, .ref q2, .ref q3, .ref q4, .ref q5, .ref q6, .ref q7, .ref q8, .ref q9, .ref q10, .ref q11, .ref q12, .ref q13, .ref q14, .int 0, .ref q15, .ref q16, .ref q17, .ref q18, .ref q19, .ref q20, .null, .null, .int 0, .int 0, .int 0, .int 0, .int 0])) :: T20)) ++ ([(q21, .inl (g 0, 8, .inl (upd (upd (upd (upd (upd (upd (upd (upd (fun _ => 0) 0 3) 1 3) 2 3) 3 3) 4 3) 5 3) 6 3) 7 3)))] : va_W)) := hD
  rw [List.append_assoc] at hP hD
  obtain ⟨T21, e21⟩ : ∃ z : va_W, z = T20 ++ [(q21, .inl (g 0, 8, .inl (upd (upd (upd (upd (upd (upd (upd (upd (fun _ => 0) 0 3) 1 3) 2 3) 3 3) 4 3) 5 3) 6 3) 7 3)))] := ⟨_, rfl⟩
  have hP : va_P D classes (W0 ++ ((q, .inr (ciM, [.ref q1, .ref q2, .ref q3, .ref q4, .ref q5, .ref q6, .ref q7, .ref q8, .ref q9, .ref q10, .ref q11, .ref q12, .ref q13, .ref q14, .int 0, .ref q15, .ref q16, .ref q17, .ref q18, .ref q19, .ref q20, .null, .null, .int 0, .int 0, .int 0, .int 0, .int 0])) :: T21)) H := by rw [e21]; exact hP
  have hD : va_D A (W0 ++ ((q, .inr (ciM, [.ref q1, .ref q2, .ref q3, .ref q4, .ref q5, .ref q6, .ref q7, .ref q8, .ref q9, .ref q10, .ref q11, .ref q12, .ref q13, .ref q14, .int 0, .ref q15, .ref q16, .ref q17, .ref q18, .ref q19, .ref q20, .null, .null, .int 0, .int 0, .int 0, .int 0, .int 0])) :: T21)) := by rw [e21]; exact hD
  refine va_putF (D := D) (ci := ciM) (v := .ref q21) (ty := .array .int) (C := R_M) (T := F_M) (N := 28) hx hb hts i_M t_M t_M_ok n_M hown hK hP hD hS (W0.length + 0) ((ap_get W0 _ 0).trans rfl) rfl 21 (by decide) (hts _ kf_M_71) (fun _ h9 => h9) rfl hnm rfl (by decide +kernel) rfl rfl (Nat.le_of_ble_eq_true rfl) d_M_init_244 (fun H locs hP hD hS => ?_)
  rw [ap_set] at hP hD
  have hP : va_P D classes (W0 ++ ((q, .inr (ciM, [.ref q1, .ref q2, .ref q3, .ref q4, .ref q5, .ref q6, .ref q7, .ref q8, .ref q9, .ref q10, .ref q11, .ref q12, .ref q13, .ref q14, .int 0, .ref q15, .ref q16, .ref q17, .ref q18, .ref q19, .ref q20, .ref q21, .null, .int 0, .int 0, .int 0, .int 0, .int 0])) :: T21)) H := hP
  have hD : va_D A (W0 ++ ((q, .inr (ciM, [.ref q1, .ref q2, .ref q3, .ref q4, .ref q5, .ref q6, .ref q7, .ref q8, .ref q9, .ref q10, .ref q11, .ref q12, .ref q13, .ref q14, .int 0, .ref q15, .ref q16, .ref q17, .ref q18, .ref q19, .ref q20, .ref q21, .null, .int 0, .int 0, .int 0, .int 0, .int 0])) :: T21)) := hD
  refine lv_aload_n hx hb d_M_init_247 rfl (lv_at hl 0 rfl) ?_
  refine lv_bipush (v := 24) hx hb d_M_init_248 (by decide) ?_
  refine va_newa (atype := .int) (ty := .int) (N' := 24) (a0 := (24, .inl (fun _ => 0))) hx hb (hts _ ka_int) rfl hK hP hD hS hA (fun _ => rfl) (by decide) rfl (by decide) (by decide) (by decide) d_M_init_250 (fun q22 cA H hK hP hD hS => ?_)
  obtain rfl : cA = g 0 := kI hK
  have hK : va_K D classes (tysA g) s := hK.sub [0, 1, 2, 3, 4, 5] rfl
  rw [List.append_assoc] at hP hD
  obtain ⟨T22, e22⟩ : ∃ z : va_W, z = T21 ++ [(q22, .inl (g 0, 24, .inl (fun _ => 0)))] := ⟨_, rfl⟩
  have hP : va_P D classes (W0 ++ ((q, .inr (ciM, [.ref q1, .ref q2, .ref q3, .ref q4, .ref q5, .ref q6, .ref q7, .ref q8, .ref q9, .ref q10, .ref q11, .ref q12, .ref q13, .ref q14, .int 0, .ref q15, .ref q16, .ref q17, .ref q18, .ref q19, .ref q20, .ref q21, .null, .int 0, .int 0, .int 0, .int 0, .int 0])) :: T22)) H := by rw [e22]; exact hP
  have hD : va_D A (W0 ++ ((q, .inr (ciM, [.ref q1, .ref q2, .ref q3, .ref q4, .ref q5, .ref q6, .ref q7, .ref q8, .ref q9, .ref q10, .ref q11, .ref q12, .ref q13, .ref q14, .int 0, .ref q15, .ref q16, .ref q17, .ref q18, .ref q19, .ref q20, .ref q21, .null, .int 0, .int 0, .int 0, .int 0, .int 0])) :: T22)) := by rw [e22]; exact hD
  refine va_putF (D := D) (ci := ciM) (v := .ref q22) (ty := .array .int) (C := R_M) (T := F_M) (N := 28) hx hb hts i_M t_M t_M_ok n_M hown hK hP hD hS (W0.length + 0) ((ap_get W0 _ 0).trans rfl) rfl 22 (by decide) (hts _ kf_M_74) (fun _ h9 => h9) rfl hnm rfl (by decide +kernel) rfl rfl (Nat.le_of_ble_eq_true rfl) d_M_init_252 (fun H locs hP hD hS => ?_)
  rw [ap_set] at hP hD
  have hP : va_P D classes (W0 ++ ((q, .inr (ciM, [.ref q1, .ref q2, .ref q3, .ref q4, .ref q5, .ref q6, .ref q7, .ref q8, .ref q9, .ref q10, .ref q11, .ref q12, .ref q13, .ref q14, .int 0, .ref q15, .ref q16, .ref q17, .ref q18, .ref q19, .ref q20, .ref q21, .ref q22, .int 0, .int 0, .int 0, .int 0, .int 0])) :: T22)) H := hP
  have hD : va_D A (W0 ++ ((q, .inr (ciM, [.ref q1, .ref q2, .ref q3, .ref q4, .ref q5, .ref q6, .ref q7, .ref q8, .ref q9, .ref q10, .ref q11, .ref q12, .ref q13, .ref q14, .int 0, .ref q15, .ref q16, .ref q17, .ref q18, .ref q19, .ref q20, .ref q21, .ref q22, .int 0, .int 0, .int 0, .int 0, .int 0])) :: T22)) := hD
  have e9 : ((q, .inr (ciM, [.ref q1, .ref q2, .ref q3, .ref q4, .ref q5, .ref q6, .ref q7, .ref q8, .ref q9, .ref q10, .ref q11, .ref q12, .ref q13, .ref q14, .int 0, .ref q15, .ref q16, .ref q17, .ref q18, .ref q19, .ref q20, .ref q21, .ref q22, .int 0, .int 0, .int 0, .int 0, .int 0])) :: T22 : va_W) = wM g (fun k => [q, q1, q2, q3, q4, q5, q6, q7, q8, q9, q10, q11, q12, q13, q14, q15, q16, q17, q18, q19, q20, q21, q22].getD k 0) rM0 := by
    rw [e22, e21, e20, e19, e18, e17, e16, e15, e14, e13, e12, e11, e10, e9, e8, e7, e6, e5, e4, e3, e2, e1, e0]
    rfl
  rw [e9] at hP hD
  exact hret (fun k => [q, q1, q2, q3, q4, q5, q6, q7, q8, q9, q10, q11, q12, q13, q14, q15, q16, q17, q18, q19, q20, q21, q22].getD k 0) _ _ _ _ _ _ rfl ⟨hK, hP, hD, hS⟩ (by decide) (by decide) d_M_init_255
