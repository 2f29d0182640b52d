abbrev rm_Proc_init : Room := { frames := 1, cells := 2, slots := 7, locals := 12 }
set_option maxHeartbeats 4000000 in
set_option maxRecDepth 100000 in
theorem c_Proc_init (l : Launch) {D : va_G} {g : Nat → ClassId} (W0 : va_W) (q : Nat) (x pr nd : Int32) : MtV l y_Proc_init ws_Proc_init rm_Proc_init D classes (tysA g) [.ref q, .int x, .int pr, .int nd] (W0 ++ [(q, .inr (ciProc, prF 0 0 0 .null .null))]) (fun _ : Nat × Nat => True) (fun u => W0 ++ [(q, .inr (ciProc, prF x pr nd (.ref u.1) (.ref u.2))), (u.1, .inl (g 0, 4, .inl (fun _ => 0))), (u.2, .inl (g 0, 3, .inl (upd (upd (upd (fun _ => 0) 0 nd) 1 nd) 2 nd)))]) 2 7 := by
  refine mt_v (by decide +kernel) rfl (Nat.le_of_ble_eq_true rfl) (fun p e s m args below meth c Q A C hnm hA hW hret ls hl => ?_)
  obtain ⟨hx, hb, hr, hml, hown, hts0, hlocks⟩ := C
  have hts : ∀ w ∈ bigw, w.before args s = true := fun w h => hts0 w (List.mem_cons_of_mem _ h)
  have hown : s.vm.findClass R_Proc = some m.cls := hown
  have hl : lv_has ls 5 [(0, .ref q), (1, .int x), (2, .int pr), (3, .int nd)] := hl
  obtain ⟨hK, hP, hD, hS⟩ := hW
  refine lv_aload_n hx hb d_Proc_init_0 rfl (lv_at hl 0 rfl) ?_
  refine W.objInit hx hb hown (hts _ km_Proc_3) (hts _ ko_i) (hts _ ko_c) rfl (by rw [hml]; exact hl.1) rfl d_Proc_init_1 (Nat.le_of_ble_eq_true rfl) (Nat.le_of_ble_eq_true rfl) ?_
  refine W.eq (g2 := F0 m 4 ls []) rfl ?_
  refine lv_aload_n hx hb d_Proc_init_4 rfl (lv_at hl 0 rfl) ?_
  refine lv_iconst (v := 4) hx hb d_Proc_init_5 (by decide) ?_
  refine va_newa (atype := .int) (ty := .int) (N' := 4) (a0 := (4, .inl (fun _ => 0))) hx hb (hts _ ka_int) rfl hK hP hD hS hA (fun _ => rfl) (by decide) rfl (by decide) (by decide) (by decide) d_Proc_init_6 (fun q1 cA H hK hP hD hS => ?_)
  obtain rfl : cA = g 0 := kI hK
  have hK : va_K D classes (tysA g) s := hK.sub [0, 1, 2, 3, 4, 5] rfl
  rw [List.append_assoc] at hP hD
  have hP : va_P D classes (W0 ++ [(q, .inr (ciProc, prF 0 0 0 .null .null)), (q1, .inl (g 0, 4, .inl (fun _ => 0)))]) H := hP
  have hD : va_D A (W0 ++ [(q, .inr (ciProc, prF 0 0 0 .null .null)), (q1, .inl (g 0, 4, .inl (fun _ => 0)))]) := hD
  refine va_putF (D := D) (ci := ciProc) (v := .ref q1) (ty := .array .int) (C := R_Proc) (T := F_Proc) (N := 12) hx hb hts i_Proc t_Proc t_Proc_ok n_Proc hown hK hP hD hS (W0.length + 0) ((ap_get W0 _ 0).trans rfl) rfl 2 (by decide) (hts _ kf_Proc_9) (fun _ h9 => h9) rfl hnm rfl (by decide +kernel) rfl rfl (Nat.le_of_ble_eq_true rfl) d_Proc_init_8 (fun H locs hP hD hS => ?_)
  rw [ap_set] at hP hD
  have hP : va_P D classes (W0 ++ [(q, .inr (ciProc, prF 0 0 0 (.ref q1) .null)), (q1, .inl (g 0, 4, .inl (fun _ => 0)))]) H := hP
  have hD : va_D A (W0 ++ [(q, .inr (ciProc, prF 0 0 0 (.ref q1) .null)), (q1, .inl (g 0, 4, .inl (fun _ => 0)))]) := hD
  refine lv_aload_n hx hb d_Proc_init_11 rfl (lv_at hl 0 rfl) ?_
  refine lv_iconst (v := 3) hx hb d_Proc_init_12 (by decide) ?_
  refine va_newa (atype := .int) (ty := .int) (N' := 3) (a0 := (3, .inl (fun _ => 0))) hx hb (hts _ ka_int) rfl hK hP hD hS hA (fun _ => rfl) (by decide) rfl (by decide) (by decide) (by decide) d_Proc_init_13 (fun q2 cA H hK hP hD hS => ?_)
  obtain rfl : cA = g 0 := kI hK
  have hK : va_K D classes (tysA g) s := hK.sub [0, 1, 2, 3, 4, 5] rfl
  rw [List.append_assoc] at hP hD
  have hP : va_P D classes (W0 ++ [(q, .inr (ciProc, prF 0 0 0 (.ref q1) .null)), (q1, .inl (g 0, 4, .inl (fun _ => 0))), (q2, .inl (g 0, 3, .inl (fun _ => 0)))]) H := hP
  have hD : va_D A (W0 ++ [(q, .inr (ciProc, prF 0 0 0 (.ref q1) .null)), (q1, .inl (g 0, 4, .inl (fun _ => 0))), (q2, .inl (g 0, 3, .inl (fun _ => 0)))]) := hD
  refine va_putF (D := D) (ci := ciProc) (v := .ref q2) (ty := .array .int) (C := R_Proc) (T := F_Proc) (N := 12) hx hb hts i_Proc t_Proc t_Proc_ok n_Proc hown hK hP hD hS (W0.length + 0) ((ap_get W0 _ 0).trans rfl) rfl 3 (by decide) (hts _ kf_Proc_15) (fun _ h9 => h9) rfl hnm rfl (by decide +kernel) rfl rfl (Nat.le_of_ble_eq_true rfl) d_Proc_init_15 (fun H locs hP hD hS => ?_)
  rw [ap_set] at hP hD
  have hP : va_P D classes (W0 ++ [(q, .inr (ciProc, prF 0 0 0 (.ref q1) (.ref q2))), (q1, .inl (g 0, 4, .inl (fun _ => 0))), (q2, .inl (g 0, 3, .inl (fun _ => 0)))]) H := hP
  have hD : va_D A (W0 ++ [(q, .inr (ciProc, prF 0 0 0 (.ref q1) (.ref q2))), (q1, .inl (g 0, 4, .inl (fun _ => 0))), (q2, .inl (g 0, 3, .inl (fun _ => 0)))]) := hD
  refine lv_aload_n hx hb d_Proc_init_18 rfl (lv_at hl 0 rfl) ?_
  refine lv_iload_n hx hb d_Proc_init_19 rfl (lv_at hl 1 rfl) ?_
  refine va_putF (D := D) (ci := ciProc) (v := .int x) (ty := .int) (C := R_Proc) (T := F_Proc) (N := 12) hx hb hts i_Proc t_Proc t_Proc_ok n_Proc hown hK hP hD hS (W0.length + 0) ((ap_get W0 _ 0).trans rfl) rfl 0 (by decide) (hts _ kf_Proc_18) (fun _ h9 => h9) rfl hnm rfl (by decide +kernel) rfl rfl (Nat.le_of_ble_eq_true rfl) d_Proc_init_20 (fun H locs hP hD hS => ?_)
  rw [ap_set] at hP hD
  have hP : va_P D classes (W0 ++ [(q, .inr (ciProc, prF x 0 0 (.ref q1) (.ref q2))), (q1, .inl (g 0, 4, .inl (fun _ => 0))), (q2, .inl (g 0, 3, .inl (fun _ => 0)))]) H := hP
  have hD : va_D A (W0 ++ [(q, .inr (ciProc, prF x 0 0 (.ref q1) (.ref q2))), (q1, .inl (g 0, 4, .inl (fun _ => 0))), (q2, .inl (g 0, 3, .inl (fun _ => 0)))]) := hD
  refine lv_aload_n hx hb d_Proc_init_23 rfl (lv_at hl 0 rfl) ?_
  refine lv_iload_n hx hb d_Proc_init_24 rfl (lv_at hl 2 rfl) ?_
  refine va_putF (D := D) (ci := ciProc) (v := .int pr) (ty := .int) (C := R_Proc) (T := F_Proc) (N := 12) hx hb hts i_Proc t_Proc t_Proc_ok n_Proc hown hK hP hD hS (W0.length + 0) ((ap_get W0 _ 0).trans rfl) rfl 1 (by decide) (hts _ kf_Proc_22) (fun _ h9 => h9) rfl hnm rfl (by decide +kernel) rfl rfl (Nat.le_of_ble_eq_true rfl) d_Proc_init_25 (fun H locs hP hD hS => ?_)
  rw [ap_set] at hP hD
  have hP : va_P D classes (W0 ++ [(q, .inr (ciProc, prF x pr 0 (.ref q1) (.ref q2))), (q1, .inl (g 0, 4, .inl (fun _ => 0))), (q2, .inl (g 0, 3, .inl (fun _ => 0)))]) H := hP
  have hD : va_D A (W0 ++ [(q, .inr (ciProc, prF x pr 0 (.ref q1) (.ref q2))), (q1, .inl (g 0, 4, .inl (fun _ => 0))), (q2, .inl (g 0, 3, .inl (fun _ => 0)))]) := hD
  refine lv_aload_n hx hb d_Proc_init_28 rfl (lv_at hl 0 rfl) ?_
  refine lv_iload_n hx hb d_Proc_init_29 rfl (lv_at hl 3 rfl) ?_
  refine va_put (D := D) (ci := ciProc) (v := .int nd) (ty := .int) (C := R_Proc) (T := F_Proc) (N := 12) hx hb hts i_Proc t_Proc t_Proc_ok n_Proc hown hK hP hD hS (W0.length + 0) ((ap_get W0 _ 0).trans rfl) rfl 4 (by decide) (hts _ kf_Proc_25) (fun _ h9 => h9) rfl (by decide +kernel) rfl rfl (Nat.le_of_ble_eq_true rfl) d_Proc_init_30 (fun H locs hP hD hS => ?_)
  rw [ap_set] at hP hD
  have hP : va_P D classes (W0 ++ [(q, .inr (ciProc, prF x pr nd (.ref q1) (.ref q2))), (q1, .inl (g 0, 4, .inl (fun _ => 0))), (q2, .inl (g 0, 3, .inl (fun _ => 0)))]) H := hP
  have hD : va_D A (W0 ++ [(q, .inr (ciProc, prF x pr nd (.ref q1) (.ref q2))), (q1, .inl (g 0, 4, .inl (fun _ => 0))), (q2, .inl (g 0, 3, .inl (fun _ => 0)))]) := hD
  refine lv_iconst (v := 0) hx hb d_Proc_init_33 (by decide) ?_
  refine lv_istore (lv' := [(4, .int 0), (0, .ref q), (1, .int x), (2, .int pr), (3, .int nd)]) hx hb d_Proc_init_34 hl (by decide) rfl (fun ls hl => ?_)
  refine lv_iload hx hb d_Proc_init_36 (lv_at hl 0 rfl) ?_
  refine lv_iconst (v := 3) hx hb d_Proc_init_38 (by decide) ?_
  refine lv_icmp_ge (tgt := 56) hx hb d_Proc_init_39 (by decide) (fun c => absurd c (by decide)) (fun c0 => ?_)
  refine lv_aload_n hx hb d_Proc_init_42 rfl (lv_at hl 1 rfl) ?_
  refine va_get (D := D) (ci := ciProc) (v := .ref q2) (C := R_Proc) (T := F_Proc) (N := 12) hx hb hts i_Proc hown hK hP (W0.length + 0) ((ap_get W0 _ 0).trans rfl) rfl 3 (by decide) (hts _ kf_Proc_15) (fun _ h9 => h9) rfl d_Proc_init_43 ?_
  refine lv_iload hx hb d_Proc_init_46 (lv_at hl 0 rfl) ?_
  refine lv_iload_n hx hb d_Proc_init_48 rfl (lv_at hl 4 rfl) ?_
  refine va_iast hx hb hK hP hD hS (W0.length + 2) 0 ((ap_get W0 _ 2).trans rfl) rfl (vp_in_nI (n := 0) (by decide) (by decide)) d_Proc_init_49 (fun H locs hP hD hS => ?_)
  rw [ap_set] at hP hD
  have hP : va_P D classes (W0 ++ [(q, .inr (ciProc, prF x pr nd (.ref q1) (.ref q2))), (q1, .inl (g 0, 4, .inl (fun _ => 0))), (q2, .inl (g 0, 3, .inl (upd (fun _ => 0) 0 nd)))]) H := hP
  have hD : va_D A (W0 ++ [(q, .inr (ciProc, prF x pr nd (.ref q1) (.ref q2))), (q1, .inl (g 0, 4, .inl (fun _ => 0))), (q2, .inl (g 0, 3, .inl (upd (fun _ => 0) 0 nd)))]) := hD
  refine lv_iinc (v := 1) (lv' := [(4, .int 1), (0, .ref q), (1, .int x), (2, .int pr), (3, .int nd)]) hx hb d_Proc_init_50 hl (k := 0) rfl (by decide) (by decide) rfl (fun ls hl => ?_)
  refine lv_goto (tgt := 36) hx hb d_Proc_init_53 (by decide) ?_
  refine lv_iload hx hb d_Proc_init_36 (lv_at hl 0 rfl) ?_
  refine lv_iconst (v := 3) hx hb d_Proc_init_38 (by decide) ?_
  refine lv_icmp_ge (tgt := 56) hx hb d_Proc_init_39 (by decide) (fun c => absurd c (by decide)) (fun c1 => ?_)
  refine lv_aload_n hx hb d_Proc_init_42 rfl (lv_at hl 1 rfl) ?_
  refine va_get (D := D) (ci := ciProc) (v := .ref q2) (C := R_Proc) (T := F_Proc) (N := 12) hx hb hts i_Proc hown hK hP (W0.length + 0) ((ap_get W0 _ 0).trans rfl) rfl 3 (by decide) (hts _ kf_Proc_15) (fun _ h9 => h9) rfl d_Proc_init_43 ?_
  refine lv_iload hx hb d_Proc_init_46 (lv_at hl 0 rfl) ?_
  refine lv_iload_n hx hb d_Proc_init_48 rfl (lv_at hl 4 rfl) ?_
  refine va_iast hx hb hK hP hD hS (W0.length + 2) 0 ((ap_get W0 _ 2).trans rfl) rfl (vp_in_nI (n := 1) (by decide) (by decide)) d_Proc_init_49 (fun H locs hP hD hS => ?_)
  rw [ap_set] at hP hD
  have hP : va_P D classes (W0 ++ [(q, .inr (ciProc, prF x pr nd (.ref q1) (.ref q2))), (q1, .inl (g 0, 4, .inl (fun _ => 0))), (q2, .inl (g 0, 3, .inl (upd (upd (fun _ => 0) 0 nd) 1 nd)))]) H := hP
  have hD : va_D A (W0 ++ [(q, .inr (ciProc, prF x pr nd (.ref q1) (.ref q2))), (q1, .inl (g 0, 4, .inl (fun _ => 0))), (q2, .inl (g 0, 3, .inl (upd (upd (fun _ => 0) 0 nd) 1 nd)))]) := hD
  refine lv_iinc (v := 2) (lv' := [(4, .int 2), (0, .ref q), (1, .int x), (2, .int pr), (3, .int nd)]) hx hb d_Proc_init_50 hl (k := 0) rfl (by decide) (by decide) rfl (fun ls hl => ?_)
  refine lv_goto (tgt := 36) hx hb d_Proc_init_53 (by decide) ?_
  refine lv_iload hx hb d_Proc_init_36 (lv_at hl 0 rfl) ?_
  refine lv_iconst (v := 3) hx hb d_Proc_init_38 (by decide) ?_
  refine lv_icmp_ge (tgt := 56) hx hb d_Proc_init_39 (by decide) (fun c => absurd c (by decide)) (fun c2 => ?_)
  refine lv_aload_n hx hb d_Proc_init_42 rfl (lv_at hl 1 rfl) ?_
  refine va_get (D := D) (ci := ciProc) (v := .ref q2) (C := R_Proc) (T := F_Proc) (N := 12) hx hb hts i_Proc hown hK hP (W0.length + 0) ((ap_get W0 _ 0).trans rfl) rfl 3 (by decide) (hts _ kf_Proc_15) (fun _ h9 => h9) rfl d_Proc_init_43 ?_
  refine lv_iload hx hb d_Proc_init_46 (lv_at hl 0 rfl) ?_
  refine lv_iload_n hx hb d_Proc_init_48 rfl (lv_at hl 4 rfl) ?_
  refine va_iast hx hb hK hP hD hS (W0.length + 2) 0 ((ap_get W0 _ 2).trans rfl) rfl (vp_in_nI (n := 2) (by decide) (by decide)) d_Proc_init_49 (fun H locs hP hD hS => ?_)
  rw [ap_set] at hP hD
  have hP : va_P D classes (W0 ++ [(q, .inr (ciProc, prF x pr nd (.ref q1) (.ref q2))), (q1, .inl (g 0, 4, .inl (fun _ => 0))), (q2, .inl (g 0, 3, .inl (upd (upd (upd (fun _ => 0) 0 nd) 1 nd) 2 nd)))]) H := hP
  have hD : va_D A (W0 ++ [(q, .inr (ciProc, prF x pr nd (.ref q1) (.ref q2))), (q1, .inl (g 0, 4, .inl (fun _ => 0))), (q2, .inl (g 0, 3, .inl (upd (upd (upd (fun _ => 0) 0 nd) 1 nd) 2 nd)))]) := hD
  refine lv_iinc (v := 3) (lv' := [(4, .int 3), (0, .ref q), (1, .int x), (2, .int pr), (3, .int nd)]) hx hb d_Proc_init_50 hl (k := 0) rfl (by decide) (by decide) rfl (fun ls hl => ?_)
  refine lv_goto (tgt := 36) hx hb d_Proc_init_53 (by decide) ?_
  refine lv_iload hx hb d_Proc_init_36 (lv_at hl 0 rfl) ?_
  refine lv_iconst (v := 3) hx hb d_Proc_init_38 (by decide) ?_
  refine lv_icmp_ge (tgt := 56) hx hb d_Proc_init_39 (by decide) (fun c3 => ?_) (fun c => absurd (show (3 : Int32) ≤ 3 by decide) c)
  exact hret (q1, q2) _ _ _ _ _ _ trivial ⟨hK, hP, hD, hS⟩ (by decide) (by decide) d_Proc_init_56
abbrev rm_C_makeProcess : Room := { frames := 2, cells := 3, slots := 19, locals := 42 }
set_option maxHeartbeats 4000000 in
set_option maxRecDepth 100000 in
theorem c_C_makeProcess (l : Launch) {D : va_G} {g : Nat → ClassId} {ad : Nat → Nat} {np : Nat} {v : Vs} (x y : Int32) (hO : Ok np v) (h8 : np < 8) (hpr : okLt 4 x) (hnd : okLt 3 y) : MtI l y_C_makeProcess ws_C_makeProcess rm_C_makeProcess D classes (tysA g) [.ref (ad 0), .int x, .int y] (wC g ad np v) (fun (r : Int32) (u : Nat → Nat) => r = nI np ∧ ∀ k, k < 68 + 3 * np → u k = ad k) (fun u => wC g u (np + 1) (cMake v np x y)) 3 19 := by
  refine mt_i (ty := .int) (fun _ _ _ => rfl) (by decide +kernel) rfl (Nat.le_of_ble_eq_true rfl) (fun p e s m args below meth c Q A C hA hW hret ls hl => ?_)
  obtain ⟨hx, hb, hr, hml, hown, hts0, hlocks⟩ := C
  have hts : ∀ w ∈ bigw, w.before args s = true := fun w h => hts0 w (List.mem_cons_of_mem _ h)
  have hown : s.vm.findClass R_C = some m.cls := hown
  have hl : lv_has ls 4 [(0, .ref (ad 0)), (1, .int x), (2, .int y)] := hl
  obtain ⟨hK, hP, hD, hS⟩ := hW
  refine va_new (ci := ciProc) (fs := prF 0 0 0 .null .null) (C := R_Proc) (T := F_Proc) (N := 12) hx hb hts i_Proc t_Proc t_Proc_ok hown (hts _ kd_C_15) (hts _ kx_Proc) (hts _ kn_Proc) hK hP hD hS hA rfl (fun j hj => by rcases (show j = 0 ∨ j = 1 ∨ j = 2 ∨ j = 3 ∨ j = 4 ∨ j = 5 ∨ j = 6 ∨ j = 7 ∨ j = 8 ∨ j = 9 ∨ j = 10 ∨ j = 11 by omega) with rfl | rfl | rfl | rfl | rfl | rfl | rfl | rfl | rfl | rfl | rfl | rfl <;> rfl) (by decide) (by decide) d_C_makeProcess_0 (fun q H hP hD hS => ?_)
  refine lv_dup hx hb d_C_makeProcess_3 rfl ?_
  refine lv_aload_n hx hb d_C_makeProcess_4 rfl (lv_at hl 0 rfl) ?_
  refine va_get (D := D) (ci := ciC) (v := .int (v 0 5)) (C := R_C) (T := F_C) (N := 11) hx hb hts i_C hown hK hP 0 (ap_left (mw_get (by omega) mk_root)) rfl 5 (by decide) (hts _ kf_C_55) (fun _ h9 => h9) rfl d_C_makeProcess_5 ?_
  refine lv_iload_n hx hb d_C_makeProcess_8 rfl (lv_at hl 1 rfl) ?_
  refine lv_iload_n hx hb d_C_makeProcess_9 rfl (lv_at hl 2 rfl) ?_
  have hW : Wd D classes (tysA g) s A (wC g ad np v ++ [(q, .inr (ciProc, prF 0 0 0 .null .null))]) H [] := ⟨hK, hP, hD, hS⟩
  refine wcv hW hA (va_runI (As := [.int (v 0 5), .int x, .int y]) (rest := [.ref q]) ⟨hx, hb, hml, hown, hts⟩ (c_Proc_init l (wC g ad np v) q (v 0 5) x y _) (ci 3 hts kc_Proc_init ki_Proc_init kn_Proc km_C_148 kh_Proc_init rfl rfl rfl ⟨by decide, by decide⟩) (preWS hW) rfl rfl hl.1 rfl (lv_room (Nat.le_of_ble_eq_true rfl)) d_C_makeProcess_10 ⟨by decide, by decide⟩) (fun u H locs hp hW => ?_)
  have hW : Wd D classes (tysA g) s A (wC g ad np v ++ [(q, .inr (ciProc, prF (v 0 5) x y (.ref u.1) (.ref u.2))), (u.1, .inl (g 0, 4, .inl (fun _ => 0))), (u.2, .inl (g 0, 3, .inl (upd (upd (upd (fun _ => 0) 0 y) 1 y) 2 y)))]) H locs := hW
  rw [wC_push] at hW
  obtain ⟨ad', ead⟩ : ∃ z, z = ad3 ad (68 + 3 * np) q u.1 u.2 := ⟨_, rfl⟩
  rw [← ead] at hW
  have hq : ad' (68 + 3 * np) = q := by rw [ead, ad3_0]
  have hlo : ∀ k, k < 68 + 3 * np → ad' k = ad k := fun k hk => by rw [ead, ad3_lt hk]
  obtain ⟨v1, ev1⟩ : ∃ z, z = cNew v np (v 0 5) x y := ⟨_, rfl⟩
  rw [← ev1] at hW
  have e5 : v1 0 5 = nI np := by rw [ev1, cNew_old (by omega)]; exact hO.made.1
  refine lv_astore_n (lv' := [(3, .ref q), (0, .ref (ad 0)), (1, .int x), (2, .int y)]) hx hb d_C_makeProcess_13 rfl hl (by decide) rfl (fun ls hl => ?_)
  have hl : lv_has ls 4 [(3, .ref (ad' (68 + 3 * np))), (0, .ref (ad' 0)), (1, .int x), (2, .int y)] := by rw [hq, hlo 0 (by omega)]; exact hl
  refine lv_aload_n hx hb d_C_makeProcess_14 rfl (lv_at hl 1 rfl) ?_
  refine wg hx hb hts i_C hown hW 0 (by omega) mk_root rfl 1 (by decide) (hts _ kf_C_17) rfl d_C_makeProcess_15 ?_
  refine lv_aload_n hx hb d_C_makeProcess_18 rfl (lv_at hl 1 rfl) ?_
  refine wg hx hb hts i_C hown hW 0 (by omega) mk_root rfl 5 (by decide) (hts _ kf_C_55) rfl d_C_makeProcess_19 ?_
  refine lv_aload_n hx hb d_C_makeProcess_22 rfl (lv_at hl 0 rfl) ?_
  obtain ⟨hK, hP, hD, hS⟩ := hW
  refine va_astq hx hb hK hP hD hS 2 2 (68 + 3 * np) ciProc (mw_get (by omega) mk_processes) rfl (mw_get (by omega) mk_proc) rfl (by rw [e5]; exact vp_in_nI h8 (by decide)) d_C_makeProcess_23 (fun H locs hP hD hS => ?_)
  rw [e5, nI_clamp (by omega), wC_more h8] at hP hD
  have hW : Wd D classes (tysA g) s A (wC g ad' (np + 1) v1) H locs := ⟨hK, hP, hD, hS⟩
  obtain ⟨n1, en1⟩ : ∃ z, z = np + 1 := ⟨_, rfl⟩
  rw [← en1] at hW
  obtain ⟨i0, ei0⟩ : ∃ z, z = np := ⟨_, rfl⟩
  have hi0 : i0 < n1 := by omega
  rw [← ei0] at hl
  refine lv_aload_n hx hb d_C_makeProcess_24 rfl (lv_at hl 1 rfl) ?_
  refine lv_dup hx hb d_C_makeProcess_25 rfl ?_
  refine wg hx hb hts i_C hown hW (0) (by omega) mk_root rfl 5 (by decide) (hts _ kf_C_55) rfl d_C_makeProcess_26 ?_
  refine lv_iconst (v := 1) hx hb d_C_makeProcess_29 (by decide) ?_
  refine lv_iadd hx hb d_C_makeProcess_30 ?_
  refine wp hx hb hts i_C t_C t_C_ok n_C hown hW (0) (by omega) mk_root rfl 5 (by decide) (hts _ kf_C_55) rfl (by decide +kernel) (x := (v1 0 5) + (1)) (Nat.le_of_ble_eq_true rfl) (mk_root.trans rfl) d_C_makeProcess_31 (fun H locs hW => ?_)
  obtain ⟨v1, ev1⟩ : ∃ z : Vs, z = u2 v1 (0) 5 ((v1 0 5) + (1)) := ⟨_, rfl⟩
  rw [← ev1] at hW
  have hO2 : Ok n1 v1 := by subst ev1 ev1 en1; exact hO.mk1 h8 hpr hnd
  refine lv_aload_n hx hb d_C_makeProcess_34 rfl (lv_at hl 1 rfl) ?_
  refine lv_aload_n hx hb d_C_makeProcess_35 rfl (lv_at hl 0 rfl) ?_
  refine wcv hW hA (va_runV (As := [.ref (ad' (68 + 3 * i0))]) (rest := []) ⟨hx, hb, hml, hown, hts⟩ (c_C_joinLine l i0 hi0 hO2 _) (cv 1 hts kc_C_joinLine ki_C_joinLine ke_C_joinLine kn_C km_C_94 kh_C_joinLine rfl rfl ⟨by decide, by decide⟩) (preW hW rfl rfl (mw_get (by omega) mk_root)) rfl rfl hl.1 rfl (lv_room (Nat.le_of_ble_eq_true rfl)) d_C_makeProcess_36 ⟨by decide, by decide⟩) (fun uu2 H locs hp2 hW => ?_)
  have hW : Wd D classes (tysA g) s A (wC g ad' n1 (cJoin v1 i0)) H locs := hW
  obtain ⟨v3, ev3⟩ : ∃ z : Vs, z = cJoin v1 i0 := ⟨_, rfl⟩
  rw [← ev3] at hW
  have hO3 : Ok n1 v3 := by rw [ev3]; exact hO2.join hi0
  refine lv_aload_n hx hb d_C_makeProcess_39 rfl (lv_at hl 0 rfl) ?_
  refine wg hx hb hts i_Proc hown hW (68 + 3 * i0) (by omega) mk_proc rfl 0 (by decide) (hts _ kf_C_73) rfl d_C_makeProcess_40 ?_
  have hO3 : Ok n1 v3 := by rw [ev3]; exact hO2.join hi0
  refine hret _ ad' _ _ _ _ _ _ ⟨?_, hlo⟩ ?_ (by decide) (by decide) d_C_makeProcess_43
  · rw [← ei0]; exact (hO3.number hi0).1
  · show Wd D classes (tysA g) s A (wC g ad' (np + 1) (cMake v np x y)) _ _
    have hfin : cMake v np x y = v3 := by subst ev1 ev3 ev1 ei0; rfl
    rw [hfin, ← en1]; exact hW
