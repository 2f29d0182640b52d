abbrev rm_C_spawn : Room := { frames := 3, cells := 3, slots := 19, locals := 65 }
set_option maxHeartbeats 4000000 in
set_option maxRecDepth 100000 in
theorem c_C_spawn (l : Launch) {D : va_G} {g : Nat → ClassId} {ad : Nat → Nat} {np : Nat} {v : Vs} (x y : Int32) (hO : Ok np v) : MtI l y_C_spawn ws_C_spawn rm_C_spawn D classes (tysA g) [.ref (ad 0), .int x, .int y] (wC g ad np v) (fun (r : Int32) (u : Nat → Nat) => r = (mSpawn np v x y).1 ∧ ∀ k, k < 68 + 3 * np → u k = ad k) (fun u => wC g u (mSpawn np v x y).2.1 (mSpawn np v x y).2.2) 3 19 := by
  refine mt_i (ty := .int) (fun _ _ _ => rfl) (by decide +kernel) rfl (Nat.le_of_ble_eq_true rfl) (fun p e s m args below meth c Q A C hA hW hret ls hl => ?_)
  obtain ⟨hx, hb, hr, hml, hown, hts0, hlocks⟩ := C
  have hts : ∀ w ∈ bigw, w.before args s = true := fun w h => hts0 w (List.mem_cons_of_mem _ h)
  have hown : s.vm.findClass R_C = some m.cls := hown
  have hnp := hO.le
  have hl : lv_has ls 3 [(0, .ref (ad (0))), (1, .int (x)), (2, .int (y))] := hl
  refine lv_iload_n hx hb d_C_spawn_0 rfl (lv_at hl 1 rfl) ?_
  refine lv_iconst (v := 4) hx hb d_C_spawn_1 (by decide) ?_
  refine wci hW hA (va_runS (As := [.int (x), .int (4)]) (rest := []) ⟨hx, hb, hml, hown, hts⟩ (c_C_isIn l _ (x) (4) _) (cs 2 hts kc_C_isIn ks_C_isIn kn_C km_C_40 kh_C_isIn rfl rfl ⟨by decide, by decide⟩) (preWS hW) rfl rfl hl.1 rfl (lv_room (Nat.le_of_ble_eq_true rfl)) d_C_spawn_2 ⟨by decide, by decide⟩) (fun rr1 uu1 H locs hp1 hW => ?_)
  have hW : Wd D classes (tysA g) s A (wC g ad np (v)) H locs := hW
  have hp1 : rr1 = if inI (x) (4) then 1 else 0 := hp1
  refine lv_if_eq (tgt := 16) hx hb d_C_spawn_5 (by decide) (fun c_5 => ?_) (fun c_5 => ?_)
  · have c_5 : ¬ (inI (x) (4)) := bo_eq hp1 c_5
    refine lv_iconst (v := (-1)) hx hb d_C_spawn_16 (by decide) ?_
    have hfin : mSpawn np v x y = ((-1), np, v) := by simp only [mSpawn, if_neg c_5]
    exact hret _ ad _ _ _ _ _ _ ⟨show (-1) = (mSpawn np v x y).1 by rw [hfin], fun _ _ => rfl⟩ (by show Wd D classes (tysA g) s A (wC g ad (mSpawn np v x y).2.1 (mSpawn np v x y).2.2) _ _; rw [hfin]; exact hW) (by decide) (by decide) d_C_spawn_17
  · have c_5 : inI (x) (4) := bo_ne hp1 c_5
    obtain ⟨e2, b2⟩ := inI_nn (N := 4) rfl (by omega) c_5
    refine lv_iload_n hx hb d_C_spawn_8 rfl (lv_at hl 2 rfl) ?_
    refine lv_iconst (v := 3) hx hb d_C_spawn_9 (by decide) ?_
    refine wci hW hA (va_runS (As := [.int (y), .int (3)]) (rest := []) ⟨hx, hb, hml, hown, hts⟩ (c_C_isIn l _ (y) (3) _) (cs 2 hts kc_C_isIn ks_C_isIn kn_C km_C_40 kh_C_isIn rfl rfl ⟨by decide, by decide⟩) (preWS hW) rfl rfl hl.1 rfl (lv_room (Nat.le_of_ble_eq_true rfl)) d_C_spawn_10 ⟨by decide, by decide⟩) (fun rr3 uu3 H locs hp3 hW => ?_)
    have hW : Wd D classes (tysA g) s A (wC g ad np (v)) H locs := hW
    have hp3 : rr3 = if inI (y) (3) then 1 else 0 := hp3
    refine lv_if_ne (tgt := 18) hx hb d_C_spawn_13 (by decide) (fun c_13 => ?_) (fun c_13 => ?_)
    · have c_13 : inI (y) (3) := bo_ne hp3 c_13
      obtain ⟨e4, b4⟩ := inI_nn (N := 3) rfl (by omega) c_13
      refine lv_aload_n hx hb d_C_spawn_18 rfl (lv_at hl 0 rfl) ?_
      refine wg hx hb hts i_C hown hW (0) (by omega) mk_root rfl 5 (by decide) (hts _ kf_C_55) rfl d_C_spawn_19 ?_
      obtain ⟨e5, b5⟩ := hO.made
      refine lv_bipush (v := 8) hx hb d_C_spawn_22 (by decide) ?_
      refine lv_icmp_ne (tgt := 32) hx hb d_C_spawn_24 (by decide) (fun c_24 => ?_) (fun c_24 => ?_)
      · have nc_24 : ¬ np = 8 := ni_ne e5 rfl (by omega) (by omega) c_24
        have h8 : np < 8 := hO.lt8 c_24
        refine lv_aload_n hx hb d_C_spawn_32 rfl (lv_at hl 0 rfl) ?_
        refine lv_iload_n hx hb d_C_spawn_33 rfl (lv_at hl 1 rfl) ?_
        refine lv_iload_n hx hb d_C_spawn_34 rfl (lv_at hl 2 rfl) ?_
        refine wci hW hA (va_runV (As := [.int (x), .int (y)]) (rest := []) ⟨hx, hb, hml, hown, hts⟩ (c_C_makeProcess l (x) (y) hO h8 ⟨nn x, by omega, e2⟩ ⟨nn y, by omega, e4⟩ _) (cv 2 hts kc_C_makeProcess ki_C_makeProcess ke_C_makeProcess kn_C km_C_58 kh_C_makeProcess rfl rfl ⟨by decide, by decide⟩) (preW hW rfl rfl (mw_get (by omega) mk_root)) rfl rfl hl.1 rfl (lv_room (Nat.le_of_ble_eq_true rfl)) d_C_spawn_35 ⟨by decide, by decide⟩) (fun r0 ad1 H locs hp hW => ?_)
        obtain ⟨hr0, hlo⟩ := hp
        subst hr0
        have hfin : mSpawn np v x y = (nI np, np + 1, cMake v np x y) := by simp only [mSpawn, if_pos c_5, if_pos c_13, if_neg c_24]
        exact hret _ ad1 _ _ _ _ _ _ ⟨show nI np = (mSpawn np v x y).1 by rw [hfin], hlo⟩ (by show Wd D classes (tysA g) s A (wC g ad1 (mSpawn np v x y).2.1 (mSpawn np v x y).2.2) _ _; rw [hfin]; exact hW) (by decide) (by decide) d_C_spawn_38
      · have nc_24 : np = 8 := ni_eq e5 rfl (by omega) (by omega) c_24
        refine lv_bipush (v := (-2)) hx hb d_C_spawn_27 (by decide) ?_
        refine lv_goto (tgt := 38) hx hb d_C_spawn_29 (by decide) ?_
        have hfin : mSpawn np v x y = ((-2), np, v) := by simp only [mSpawn, if_pos c_5, if_pos c_13, if_pos c_24]
        exact hret _ ad _ _ _ _ _ _ ⟨show (-2) = (mSpawn np v x y).1 by rw [hfin], fun _ _ => rfl⟩ (by show Wd D classes (tysA g) s A (wC g ad (mSpawn np v x y).2.1 (mSpawn np v x y).2.2) _ _; rw [hfin]; exact hW) (by decide) (by decide) d_C_spawn_38
    · have c_13 : ¬ (inI (y) (3)) := bo_eq hp3 c_13
      refine lv_iconst (v := (-1)) hx hb d_C_spawn_16 (by decide) ?_
      have hfin : mSpawn np v x y = ((-1), np, v) := by simp only [mSpawn, if_pos c_5, if_neg c_13]
      exact hret _ ad _ _ _ _ _ _ ⟨show (-1) = (mSpawn np v x y).1 by rw [hfin], fun _ _ => rfl⟩ (by show Wd D classes (tysA g) s A (wC g ad (mSpawn np v x y).2.1 (mSpawn np v x y).2.2) _ _; rw [hfin]; exact hW) (by decide) (by decide) d_C_spawn_17
abbrev rm_C_perform : Room := { frames := 4, cells := 3, slots := 19, locals := 92 }
set_option maxHeartbeats 8000000 in
set_option maxRecDepth 100000 in
theorem c_C_perform (l : Launch) {D : va_G} {g : Nat → ClassId} {ad : Nat → Nat} {np : Nat} {v : Vs} (i : Nat) (hi : i < np) (op : Int32) (x : Int32) (a : Nat) (zx : x = nI a) (la : a < 4) (y : Int32) (hO : Ok np v) (hct : nv v (68 + 3 * i) 6 < 12) (h4 : op ≠ 0 → op ≠ 5 → okLt 4 y) (h5 : op = 5 → okLt 12 y) : MtV l y_C_perform ws_C_perform rm_C_perform D classes (tysA g) [.ref (ad 0), .ref (ad (68 + 3 * i)), .int op, .int x, .int y] (wC g ad np v) (fun (u : Nat → Nat) => ∀ k, k < 68 + 3 * np → u k = ad k) (fun u => wC g u (cPerf np v i op a y).1 (cPerf np v i op a y).2) 3 19 := by
  refine mt_v (by decide +kernel) rfl (Nat.le_of_ble_eq_true rfl) (fun p e s m args below meth c Q A C hnm hA hW hret ls hl => ?_)
  obtain ⟨hx, hb, hr, hml, hown, hts0, hlocks⟩ := C
  have hts : ∀ w ∈ bigw, w.before args s = true := fun w h => hts0 w (List.mem_cons_of_mem _ h)
  have hown : s.vm.findClass R_C = some m.cls := hown
  have hnp := hO.le
  have hl : lv_has ls 7 [(0, .ref (ad (0))), (1, .ref (ad (68 + 3 * i))), (2, .int (op)), (3, .int (x)), (4, .int (y))] := hl
  refine lv_aload_n hx hb d_C_perform_0 rfl (lv_at hl 1 rfl) ?_
  refine wg hx hb hts i_Proc hown hW (68 + 3 * i) (by omega) mk_proc rfl 2 (by decide) (hts _ kf_C_99) rfl d_C_perform_1 ?_
  refine lv_astore (lv' := [(5, .ref (ad (68 + 3 * i + 1))), (0, .ref (ad (0))), (1, .ref (ad (68 + 3 * i))), (2, .int (op)), (3, .int (x)), (4, .int (y))]) hx hb d_C_perform_4 hl (by decide) rfl (fun ls hl => ?_)
  refine lv_aload_n hx hb d_C_perform_6 rfl (lv_at hl 2 rfl) ?_
  refine wg hx hb hts i_Proc hown hW (68 + 3 * i) (by omega) mk_proc rfl 6 (by decide) (hts _ kf_C_102) rfl d_C_perform_7 ?_
  obtain ⟨e1, b1⟩ := hO.counter hi
  refine lv_iconst (v := 1) hx hb d_C_perform_10 (by decide) ?_
  refine lv_iadd hx hb d_C_perform_11 ?_
  refine lv_istore (lv' := [(6, .int ((v (68 + 3 * i) 6) + (1))), (5, .ref (ad (68 + 3 * i + 1))), (0, .ref (ad (0))), (1, .ref (ad (68 + 3 * i))), (2, .int (op)), (3, .int (x)), (4, .int (y))]) hx hb d_C_perform_12 hl (by decide) rfl (fun ls hl => ?_)
  refine lv_iload_n hx hb d_C_perform_14 rfl (lv_at hl 4 rfl) ?_
  rcases sw_12 (op) with c_15 | h_15_0 | h_15_1 | h_15_2 | h_15_3 | h_15_4 | h_15_5 | h_15_6 | h_15_7 | h_15_8 | h_15_9 | h_15_10 | h_15_11
  · refine lv_tableOut (tgt := 232) hx hb d_C_perform_15 c_15 (by decide) ?_
    refine lv_aload_n hx hb d_C_perform_232 rfl (lv_at hl 3 rfl) ?_
    refine lv_iload hx hb d_C_perform_233 (lv_at hl 0 rfl) ?_
    refine wp hx hb hts i_Proc t_Proc t_Proc_ok n_Proc hown hW (68 + 3 * i) (by omega) mk_proc rfl 6 (by decide) (hts _ kf_C_102) rfl (by decide +kernel) (x := (v (68 + 3 * i) 6) + (1)) (Nat.le_of_ble_eq_true rfl) (mk_proc.trans rfl) d_C_perform_235 (fun H locs hW => ?_)
    obtain ⟨v2, ev2⟩ : ∃ z : Vs, z = u2 v (68 + 3 * i) 6 ((v (68 + 3 * i) 6) + (1)) := ⟨_, rfl⟩
    rw [← ev2] at hW
    have hO2 : Ok np v2 := by rw [ev2]; exact hO.set (by omega) (okS_counter ⟨nv v (68 + 3 * i) 6 + 1, by omega, (ni_add e1 rfl)⟩)
    have hfin : cPerf np v i op a y = (np, v2) := by
      subst ev2; simp only [cPerf, if_neg (out_ne c_15 0 (by decide)), if_neg (out_ne c_15 1 (by decide)), if_neg (out_ne c_15 2 (by decide)), if_neg (out_ne c_15 3 (by decide)), if_neg (out_ne c_15 4 (by decide)), if_neg (out_ne c_15 5 (by decide)), if_neg (out_ne c_15 6 (by decide)), if_neg (out_ne c_15 7 (by decide)), if_neg (out_ne c_15 8 (by decide)), if_neg (out_ne c_15 9 (by decide)), if_neg (out_ne c_15 10 (by decide)), if_neg (out_ne c_15 11 (by decide))]
    exact hret ad _ _ _ _ _ _ (fun _ _ => rfl) (by show Wd D classes (tysA g) s A (wC g ad (cPerf np v i op a y).1 (cPerf np v i op a y).2) _ _; rw [hfin]; exact hW) (by decide) (by decide) d_C_perform_238
  · refine lv_tableIn (tgt := 76) hx hb d_C_perform_15 (by rw [h_15_0]; decide) (by rw [h_15_0]; decide) (off := 61) (by rw [h_15_0]; rfl) (by decide) ?_
    refine lv_aload hx hb d_C_perform_76 (lv_at hl 1 rfl) ?_
    refine lv_iload_n hx hb d_C_perform_78 rfl (lv_at hl 5 rfl) ?_
    refine lv_iload hx hb d_C_perform_79 (lv_at hl 6 rfl) ?_
    refine wis hx hb hW (68 + 3 * i + 1) (by omega) mk_regs 0 rfl (a) zx (by omega) (by decide) (x := y) mk_regs d_C_perform_81 (fun H locs hW => ?_)
    obtain ⟨v3, ev3⟩ : ∃ z : Vs, z = u2 v (68 + 3 * i + 1) (a) (y) := ⟨_, rfl⟩
    rw [← ev3] at hW
    have hO3 : Ok np v3 := by rw [ev3]; exact hO.set (by omega) (okS_free (by omega))
    refine lv_goto (tgt := 232) hx hb d_C_perform_82 (by decide) ?_
    refine lv_aload_n hx hb d_C_perform_232 rfl (lv_at hl 3 rfl) ?_
    refine lv_iload hx hb d_C_perform_233 (lv_at hl 0 rfl) ?_
    refine wp hx hb hts i_Proc t_Proc t_Proc_ok n_Proc hown hW (68 + 3 * i) (by omega) mk_proc rfl 6 (by decide) (hts _ kf_C_102) rfl (by decide +kernel) (x := (v (68 + 3 * i) 6) + (1)) (Nat.le_of_ble_eq_true rfl) (mk_proc.trans rfl) d_C_perform_235 (fun H locs hW => ?_)
    obtain ⟨v4, ev4⟩ : ∃ z : Vs, z = u2 v3 (68 + 3 * i) 6 ((v (68 + 3 * i) 6) + (1)) := ⟨_, rfl⟩
    rw [← ev4] at hW
    have hO4 : Ok np v4 := by rw [ev4]; exact hO3.set (by omega) (okS_counter ⟨nv v (68 + 3 * i) 6 + 1, by omega, (ni_add e1 rfl)⟩)
    have hfin : cPerf np v i op a y = (np, v4) := by
      subst ev4 ev3; subst h_15_0; rfl
    exact hret ad _ _ _ _ _ _ (fun _ _ => rfl) (by show Wd D classes (tysA g) s A (wC g ad (cPerf np v i op a y).1 (cPerf np v i op a y).2) _ _; rw [hfin]; exact hW) (by decide) (by decide) d_C_perform_238
  · refine lv_tableIn (tgt := 85) hx hb d_C_perform_15 (by rw [h_15_1]; decide) (by rw [h_15_1]; decide) (off := 70) (by rw [h_15_1]; rfl) (by decide) ?_
    obtain ⟨e5, b5⟩ := okLt_nn (h4 (by rw [h_15_1]; decide) (by rw [h_15_1]; decide)) (by decide)
    refine lv_aload hx hb d_C_perform_85 (lv_at hl 1 rfl) ?_
    refine lv_iload_n hx hb d_C_perform_87 rfl (lv_at hl 5 rfl) ?_
    refine lv_dup2_11 hx hb d_C_perform_88 rfl rfl ?_
    refine wi hx hb hW (68 + 3 * i + 1) (by omega) mk_regs 0 rfl (a) zx (by omega) (by decide) d_C_perform_89 ?_
    refine lv_aload hx hb d_C_perform_90 (lv_at hl 1 rfl) ?_
    refine lv_iload hx hb d_C_perform_92 (lv_at hl 6 rfl) ?_
    refine wi hx hb hW (68 + 3 * i + 1) (by omega) mk_regs 0 rfl (nn y) e5 (by omega) (by decide) d_C_perform_94 ?_
    refine lv_iadd hx hb d_C_perform_95 ?_
    refine wis hx hb hW (68 + 3 * i + 1) (by omega) mk_regs 0 rfl (a) zx (by omega) (by decide) (x := (v (68 + 3 * i + 1) (a)) + (v (68 + 3 * i + 1) (nn y))) mk_regs d_C_perform_96 (fun H locs hW => ?_)
    obtain ⟨v6, ev6⟩ : ∃ z : Vs, z = u2 v (68 + 3 * i + 1) (a) ((v (68 + 3 * i + 1) (a)) + (v (68 + 3 * i + 1) (nn y))) := ⟨_, rfl⟩
    rw [← ev6] at hW
    have hO6 : Ok np v6 := by rw [ev6]; exact hO.set (by omega) (okS_free (by omega))
    refine lv_goto (tgt := 232) hx hb d_C_perform_97 (by decide) ?_
    refine lv_aload_n hx hb d_C_perform_232 rfl (lv_at hl 3 rfl) ?_
    refine lv_iload hx hb d_C_perform_233 (lv_at hl 0 rfl) ?_
    refine wp hx hb hts i_Proc t_Proc t_Proc_ok n_Proc hown hW (68 + 3 * i) (by omega) mk_proc rfl 6 (by decide) (hts _ kf_C_102) rfl (by decide +kernel) (x := (v (68 + 3 * i) 6) + (1)) (Nat.le_of_ble_eq_true rfl) (mk_proc.trans rfl) d_C_perform_235 (fun H locs hW => ?_)
    obtain ⟨v7, ev7⟩ : ∃ z : Vs, z = u2 v6 (68 + 3 * i) 6 ((v (68 + 3 * i) 6) + (1)) := ⟨_, rfl⟩
    rw [← ev7] at hW
    have hO7 : Ok np v7 := by rw [ev7]; exact hO6.set (by omega) (okS_counter ⟨nv v (68 + 3 * i) 6 + 1, by omega, (ni_add e1 rfl)⟩)
    have hfin : cPerf np v i op a y = (np, v7) := by
      subst ev7 ev6; subst h_15_1; rfl
    exact hret ad _ _ _ _ _ _ (fun _ _ => rfl) (by show Wd D classes (tysA g) s A (wC g ad (cPerf np v i op a y).1 (cPerf np v i op a y).2) _ _; rw [hfin]; exact hW) (by decide) (by decide) d_C_perform_238
  · refine lv_tableIn (tgt := 100) hx hb d_C_perform_15 (by rw [h_15_2]; decide) (by rw [h_15_2]; decide) (off := 85) (by rw [h_15_2]; rfl) (by decide) ?_
    obtain ⟨e8, b8⟩ := okLt_nn (h4 (by rw [h_15_2]; decide) (by rw [h_15_2]; decide)) (by decide)
    refine lv_aload_n hx hb d_C_perform_100 rfl (lv_at hl 2 rfl) ?_
    refine lv_aload_n hx hb d_C_perform_101 rfl (lv_at hl 3 rfl) ?_
    refine lv_iload_n hx hb d_C_perform_102 rfl (lv_at hl 4 rfl) ?_
    refine lv_iload_n hx hb d_C_perform_103 rfl (lv_at hl 5 rfl) ?_
    refine lv_iload hx hb d_C_perform_104 (lv_at hl 6 rfl) ?_
    refine wcv hW hA (va_runV (As := [.ref (ad (68 + 3 * i)), .int (op), .int (x), .int (y)]) (rest := []) ⟨hx, hb, hml, hown, hts⟩ (c_C_accessMemory l i hi (op) (x) a zx (by omega) (y) (nn y) e8 (by omega) hO _) (cv 4 hts kc_C_accessMemory ki_C_accessMemory ke_C_accessMemory kn_C km_C_198 kh_C_accessMemory rfl rfl ⟨by decide, by decide⟩) (preW hW rfl rfl (mw_get (by omega) mk_root)) rfl rfl hl.1 rfl (lv_room (Nat.le_of_ble_eq_true rfl)) d_C_perform_106 ⟨by decide, by decide⟩) (fun uu9 H locs hp9 hW => ?_)
    have hW : Wd D classes (tysA g) s A (wC g ad np (cAcc v i (op) a (nn y))) H locs := hW
    obtain ⟨v10, ev10⟩ : ∃ z : Vs, z = cAcc v i (op) a (nn y) := ⟨_, rfl⟩
    rw [← ev10] at hW
    have hO10 : Ok np v10 := by rw [ev10]; exact hO.acc
    refine lv_goto (tgt := 232) hx hb d_C_perform_109 (by decide) ?_
    refine lv_aload_n hx hb d_C_perform_232 rfl (lv_at hl 3 rfl) ?_
    refine lv_iload hx hb d_C_perform_233 (lv_at hl 0 rfl) ?_
    refine wp hx hb hts i_Proc t_Proc t_Proc_ok n_Proc hown hW (68 + 3 * i) (by omega) mk_proc rfl 6 (by decide) (hts _ kf_C_102) rfl (by decide +kernel) (x := (v (68 + 3 * i) 6) + (1)) (Nat.le_of_ble_eq_true rfl) (mk_proc.trans rfl) d_C_perform_235 (fun H locs hW => ?_)
    obtain ⟨v11, ev11⟩ : ∃ z : Vs, z = u2 v10 (68 + 3 * i) 6 ((v (68 + 3 * i) 6) + (1)) := ⟨_, rfl⟩
    rw [← ev11] at hW
    have hO11 : Ok np v11 := by rw [ev11]; exact hO10.set (by omega) (okS_counter ⟨nv v (68 + 3 * i) 6 + 1, by omega, (ni_add e1 rfl)⟩)
    have hfin : cPerf np v i op a y = (np, v11) := by
      subst ev11 ev10; subst h_15_2; rfl
    exact hret ad _ _ _ _ _ _ (fun _ _ => rfl) (by show Wd D classes (tysA g) s A (wC g ad (cPerf np v i op a y).1 (cPerf np v i op a y).2) _ _; rw [hfin]; exact hW) (by decide) (by decide) d_C_perform_238
  · refine lv_tableIn (tgt := 100) hx hb d_C_perform_15 (by rw [h_15_3]; decide) (by rw [h_15_3]; decide) (off := 85) (by rw [h_15_3]; rfl) (by decide) ?_
    obtain ⟨e12, b12⟩ := okLt_nn (h4 (by rw [h_15_3]; decide) (by rw [h_15_3]; decide)) (by decide)
    refine lv_aload_n hx hb d_C_perform_100 rfl (lv_at hl 2 rfl) ?_
    refine lv_aload_n hx hb d_C_perform_101 rfl (lv_at hl 3 rfl) ?_
    refine lv_iload_n hx hb d_C_perform_102 rfl (lv_at hl 4 rfl) ?_
    refine lv_iload_n hx hb d_C_perform_103 rfl (lv_at hl 5 rfl) ?_
    refine lv_iload hx hb d_C_perform_104 (lv_at hl 6 rfl) ?_
    refine wcv hW hA (va_runV (As := [.ref (ad (68 + 3 * i)), .int (op), .int (x), .int (y)]) (rest := []) ⟨hx, hb, hml, hown, hts⟩ (c_C_accessMemory l i hi (op) (x) a zx (by omega) (y) (nn y) e12 (by omega) hO _) (cv 4 hts kc_C_accessMemory ki_C_accessMemory ke_C_accessMemory kn_C km_C_198 kh_C_accessMemory rfl rfl ⟨by decide, by decide⟩) (preW hW rfl rfl (mw_get (by omega) mk_root)) rfl rfl hl.1 rfl (lv_room (Nat.le_of_ble_eq_true rfl)) d_C_perform_106 ⟨by decide, by decide⟩) (fun uu13 H locs hp13 hW => ?_)
    have hW : Wd D classes (tysA g) s A (wC g ad np (cAcc v i (op) a (nn y))) H locs := hW
    obtain ⟨v14, ev14⟩ : ∃ z : Vs, z = cAcc v i (op) a (nn y) := ⟨_, rfl⟩
    rw [← ev14] at hW
    have hO14 : Ok np v14 := by rw [ev14]; exact hO.acc
    refine lv_goto (tgt := 232) hx hb d_C_perform_109 (by decide) ?_
    refine lv_aload_n hx hb d_C_perform_232 rfl (lv_at hl 3 rfl) ?_
    refine lv_iload hx hb d_C_perform_233 (lv_at hl 0 rfl) ?_
    refine wp hx hb hts i_Proc t_Proc t_Proc_ok n_Proc hown hW (68 + 3 * i) (by omega) mk_proc rfl 6 (by decide) (hts _ kf_C_102) rfl (by decide +kernel) (x := (v (68 + 3 * i) 6) + (1)) (Nat.le_of_ble_eq_true rfl) (mk_proc.trans rfl) d_C_perform_235 (fun H locs hW => ?_)
    obtain ⟨v15, ev15⟩ : ∃ z : Vs, z = u2 v14 (68 + 3 * i) 6 ((v (68 + 3 * i) 6) + (1)) := ⟨_, rfl⟩
    rw [← ev15] at hW
    have hO15 : Ok np v15 := by rw [ev15]; exact hO14.set (by omega) (okS_counter ⟨nv v (68 + 3 * i) 6 + 1, by omega, (ni_add e1 rfl)⟩)
    have hfin : cPerf np v i op a y = (np, v15) := by
      subst ev15 ev14; subst h_15_3; rfl
    exact hret ad _ _ _ _ _ _ (fun _ _ => rfl) (by show Wd D classes (tysA g) s A (wC g ad (cPerf np v i op a y).1 (cPerf np v i op a y).2) _ _; rw [hfin]; exact hW) (by decide) (by decide) d_C_perform_238
  · refine lv_tableIn (tgt := 100) hx hb d_C_perform_15 (by rw [h_15_4]; decide) (by rw [h_15_4]; decide) (off := 85) (by rw [h_15_4]; rfl) (by decide) ?_
    obtain ⟨e16, b16⟩ := okLt_nn (h4 (by rw [h_15_4]; decide) (by rw [h_15_4]; decide)) (by decide)
    refine lv_aload_n hx hb d_C_perform_100 rfl (lv_at hl 2 rfl) ?_
    refine lv_aload_n hx hb d_C_perform_101 rfl (lv_at hl 3 rfl) ?_
    refine lv_iload_n hx hb d_C_perform_102 rfl (lv_at hl 4 rfl) ?_
    refine lv_iload_n hx hb d_C_perform_103 rfl (lv_at hl 5 rfl) ?_
    refine lv_iload hx hb d_C_perform_104 (lv_at hl 6 rfl) ?_
    refine wcv hW hA (va_runV (As := [.ref (ad (68 + 3 * i)), .int (op), .int (x), .int (y)]) (rest := []) ⟨hx, hb, hml, hown, hts⟩ (c_C_accessMemory l i hi (op) (x) a zx (by omega) (y) (nn y) e16 (by omega) hO _) (cv 4 hts kc_C_accessMemory ki_C_accessMemory ke_C_accessMemory kn_C km_C_198 kh_C_accessMemory rfl rfl ⟨by decide, by decide⟩) (preW hW rfl rfl (mw_get (by omega) mk_root)) rfl rfl hl.1 rfl (lv_room (Nat.le_of_ble_eq_true rfl)) d_C_perform_106 ⟨by decide, by decide⟩) (fun uu17 H locs hp17 hW => ?_)
    have hW : Wd D classes (tysA g) s A (wC g ad np (cAcc v i (op) a (nn y))) H locs := hW
    obtain ⟨v18, ev18⟩ : ∃ z : Vs, z = cAcc v i (op) a (nn y) := ⟨_, rfl⟩
    rw [← ev18] at hW
    have hO18 : Ok np v18 := by rw [ev18]; exact hO.acc
    refine lv_goto (tgt := 232) hx hb d_C_perform_109 (by decide) ?_
    refine lv_aload_n hx hb d_C_perform_232 rfl (lv_at hl 3 rfl) ?_
    refine lv_iload hx hb d_C_perform_233 (lv_at hl 0 rfl) ?_
    refine wp hx hb hts i_Proc t_Proc t_Proc_ok n_Proc hown hW (68 + 3 * i) (by omega) mk_proc rfl 6 (by decide) (hts _ kf_C_102) rfl (by decide +kernel) (x := (v (68 + 3 * i) 6) + (1)) (Nat.le_of_ble_eq_true rfl) (mk_proc.trans rfl) d_C_perform_235 (fun H locs hW => ?_)
    obtain ⟨v19, ev19⟩ : ∃ z : Vs, z = u2 v18 (68 + 3 * i) 6 ((v (68 + 3 * i) 6) + (1)) := ⟨_, rfl⟩
    rw [← ev19] at hW
    have hO19 : Ok np v19 := by rw [ev19]; exact hO18.set (by omega) (okS_counter ⟨nv v (68 + 3 * i) 6 + 1, by omega, (ni_add e1 rfl)⟩)
    have hfin : cPerf np v i op a y = (np, v19) := by
      subst ev19 ev18; subst h_15_4; rfl
    exact hret ad _ _ _ _ _ _ (fun _ _ => rfl) (by show Wd D classes (tysA g) s A (wC g ad (cPerf np v i op a y).1 (cPerf np v i op a y).2) _ _; rw [hfin]; exact hW) (by decide) (by decide) d_C_perform_238
  · refine lv_tableIn (tgt := 112) hx hb d_C_perform_15 (by rw [h_15_5]; decide) (by rw [h_15_5]; decide) (off := 97) (by rw [h_15_5]; rfl) (by decide) ?_
    obtain ⟨e20, b20⟩ := okLt_nn (h5 h_15_5) (by decide)
    refine lv_aload hx hb d_C_perform_112 (lv_at hl 1 rfl) ?_
    refine lv_iload_n hx hb d_C_perform_114 rfl (lv_at hl 5 rfl) ?_
    refine wi hx hb hW (68 + 3 * i + 1) (by omega) mk_regs 0 rfl (a) zx (by omega) (by decide) d_C_perform_115 ?_
    refine lv_if_eq (tgt := 124) hx hb d_C_perform_116 (by decide) (fun c_116 => ?_) (fun c_116 => ?_)
    · refine lv_iload hx hb d_C_perform_124 (lv_at hl 0 rfl) ?_
      refine lv_istore (lv' := [(6, .int ((v (68 + 3 * i) 6) + (1))), (5, .ref (ad (68 + 3 * i + 1))), (0, .ref (ad (0))), (1, .ref (ad (68 + 3 * i))), (2, .int (op)), (3, .int (x)), (4, .int (y))]) hx hb d_C_perform_126 hl (by decide) rfl (fun ls hl => ?_)
      refine lv_goto (tgt := 232) hx hb d_C_perform_128 (by decide) ?_
      refine lv_aload_n hx hb d_C_perform_232 rfl (lv_at hl 3 rfl) ?_
      refine lv_iload hx hb d_C_perform_233 (lv_at hl 0 rfl) ?_
      refine wp hx hb hts i_Proc t_Proc t_Proc_ok n_Proc hown hW (68 + 3 * i) (by omega) mk_proc rfl 6 (by decide) (hts _ kf_C_102) rfl (by decide +kernel) (x := (v (68 + 3 * i) 6) + (1)) (Nat.le_of_ble_eq_true rfl) (mk_proc.trans rfl) d_C_perform_235 (fun H locs hW => ?_)
      obtain ⟨v21, ev21⟩ : ∃ z : Vs, z = u2 v (68 + 3 * i) 6 ((v (68 + 3 * i) 6) + (1)) := ⟨_, rfl⟩
      rw [← ev21] at hW
      have hO21 : Ok np v21 := by rw [ev21]; exact hO.set (by omega) (okS_counter ⟨nv v (68 + 3 * i) 6 + 1, by omega, (ni_add e1 rfl)⟩)
      have hfin : cPerf np v i op a y = (np, v21) := by
        subst ev21; subst h_15_5; unfold cPerf; simp only [if_pos c_116]; rfl
      exact hret ad _ _ _ _ _ _ (fun _ _ => rfl) (by show Wd D classes (tysA g) s A (wC g ad (cPerf np v i op a y).1 (cPerf np v i op a y).2) _ _; rw [hfin]; exact hW) (by decide) (by decide) d_C_perform_238
    · refine lv_iload hx hb d_C_perform_119 (lv_at hl 6 rfl) ?_
      refine lv_goto (tgt := 126) hx hb d_C_perform_121 (by decide) ?_
      refine lv_istore (lv' := [(6, .int (y)), (5, .ref (ad (68 + 3 * i + 1))), (0, .ref (ad (0))), (1, .ref (ad (68 + 3 * i))), (2, .int (op)), (3, .int (x)), (4, .int (y))]) hx hb d_C_perform_126 hl (by decide) rfl (fun ls hl => ?_)
      refine lv_goto (tgt := 232) hx hb d_C_perform_128 (by decide) ?_
      refine lv_aload_n hx hb d_C_perform_232 rfl (lv_at hl 3 rfl) ?_
      refine lv_iload hx hb d_C_perform_233 (lv_at hl 0 rfl) ?_
      refine wp hx hb hts i_Proc t_Proc t_Proc_ok n_Proc hown hW (68 + 3 * i) (by omega) mk_proc rfl 6 (by decide) (hts _ kf_C_102) rfl (by decide +kernel) (x := y) (Nat.le_of_ble_eq_true rfl) (mk_proc.trans rfl) d_C_perform_235 (fun H locs hW => ?_)
      obtain ⟨v22, ev22⟩ : ∃ z : Vs, z = u2 v (68 + 3 * i) 6 (y) := ⟨_, rfl⟩
      rw [← ev22] at hW
      have hO22 : Ok np v22 := by rw [ev22]; exact hO.set (by omega) (okS_counter ⟨nn y, by omega, e20⟩)
      have hfin : cPerf np v i op a y = (np, v22) := by
        subst ev22; subst h_15_5; unfold cPerf; simp only [if_neg c_116]; rfl
      exact hret ad _ _ _ _ _ _ (fun _ _ => rfl) (by show Wd D classes (tysA g) s A (wC g ad (cPerf np v i op a y).1 (cPerf np v i op a y).2) _ _; rw [hfin]; exact hW) (by decide) (by decide) d_C_perform_238
  · refine lv_tableIn (tgt := 131) hx hb d_C_perform_15 (by rw [h_15_6]; decide) (by rw [h_15_6]; decide) (off := 116) (by rw [h_15_6]; rfl) (by decide) ?_
    refine lv_aload hx hb d_C_perform_131 (lv_at hl 1 rfl) ?_
    refine lv_iload_n hx hb d_C_perform_133 rfl (lv_at hl 5 rfl) ?_
    refine lv_aload_n hx hb d_C_perform_134 rfl (lv_at hl 2 rfl) ?_
    refine wg hx hb hts i_C hown hW (0) (by omega) mk_root rfl 5 (by decide) (hts _ kf_C_55) rfl d_C_perform_135 ?_
    obtain ⟨e23, b23⟩ := hO.made
    refine lv_bipush (v := 8) hx hb d_C_perform_138 (by decide) ?_
    refine lv_icmp_ne (tgt := 147) hx hb d_C_perform_140 (by decide) (fun c_140 => ?_) (fun c_140 => ?_)
    · have nc_140 : ¬ np = 8 := ni_ne e23 rfl (by omega) (by omega) c_140
      have h8 : np < 8 := hO.lt8 c_140
      have hy4 := h4 (by rw [h_15_6]; decide) (by rw [h_15_6]; decide)
      refine lv_aload_n hx hb d_C_perform_147 rfl (lv_at hl 2 rfl) ?_
      refine lv_iload hx hb d_C_perform_148 (lv_at hl 6 rfl) ?_
      refine lv_aload_n hx hb d_C_perform_150 rfl (lv_at hl 3 rfl) ?_
      refine wg hx hb hts i_Proc hown hW (68 + 3 * i) (by omega) mk_proc rfl 4 (by decide) (hts _ kf_C_88) rfl d_C_perform_151 ?_
      obtain ⟨e25, b25⟩ := hO.place hi
      refine wci hW hA (va_runV (As := [.int (y), .int (v (68 + 3 * i) 4)]) (rest := [.int (x), .ref (ad (68 + 3 * i + 1))]) ⟨hx, hb, hml, hown, hts⟩ (c_C_makeProcess l (y) (v (68 + 3 * i) 4) hO h8 hy4 ⟨_, b25, e25⟩ _) (cv 2 hts kc_C_makeProcess ki_C_makeProcess ke_C_makeProcess kn_C km_C_58 kh_C_makeProcess rfl rfl ⟨by decide, by decide⟩) (preW hW rfl rfl (mw_get (by omega) mk_root)) rfl rfl hl.1 rfl (lv_room (Nat.le_of_ble_eq_true rfl)) d_C_perform_154 ⟨by decide, by decide⟩) (fun r0 ad1 H locs hp hW => ?_)
      obtain ⟨hr0, hlo⟩ := hp
      subst hr0
      have hfi : cMake v np y (v (68 + 3 * i) 4) = cMake v np y (v (68 + 3 * i) 4) := rfl
      have hW : Wd D classes (tysA g) s A (wC g ad1 (np + 1) (cMake v np y (v (68 + 3 * i) 4))) H locs := hW
      have hO1 := hO.make h8 hy4 ⟨_, b25, e25⟩
      obtain ⟨v1, ev1⟩ : ∃ z : Vs, z = cMake v np y (v (68 + 3 * i) 4) := ⟨_, rfl⟩
      rw [← ev1] at hW hO1
      obtain ⟨n1, en1⟩ : ∃ z, z = np + 1 := ⟨_, rfl⟩
      rw [← en1] at hW hO1
      have hi1 : i < n1 := by omega
      have hnp1 := hO1.le
      have hl : lv_has ls 7 [(6, .int ((v (68 + 3 * i) 6) + (1))), (5, .ref (ad1 (68 + 3 * i + 1))), (0, .ref (ad1 (0))), (1, .ref (ad1 (68 + 3 * i))), (2, .int (op)), (3, .int (x)), (4, .int (y))] := by rw [hlo 0 (by omega), hlo (68 + 3 * i) (by omega), hlo (68 + 3 * i + 1) (by omega)]; exact hl
      rw [← hlo (68 + 3 * i + 1) (by omega)]
      refine wis hx hb hW (68 + 3 * i + 1) (by omega) mk_regs 0 rfl (a) zx (by omega) (by decide) (x := nI np) mk_regs d_C_perform_157 (fun H locs hW => ?_)
      obtain ⟨v26, ev26⟩ : ∃ z : Vs, z = u2 v1 (68 + 3 * i + 1) (a) (nI np) := ⟨_, rfl⟩
      rw [← ev26] at hW
      have hO26 : Ok n1 v26 := by rw [ev26]; exact hO1.set (by omega) (okS_free (by omega))
      refine lv_goto (tgt := 232) hx hb d_C_perform_158 (by decide) ?_
      refine lv_aload_n hx hb d_C_perform_232 rfl (lv_at hl 3 rfl) ?_
      refine lv_iload hx hb d_C_perform_233 (lv_at hl 0 rfl) ?_
      refine wp hx hb hts i_Proc t_Proc t_Proc_ok n_Proc hown hW (68 + 3 * i) (by omega) mk_proc rfl 6 (by decide) (hts _ kf_C_102) rfl (by decide +kernel) (x := (v (68 + 3 * i) 6) + (1)) (Nat.le_of_ble_eq_true rfl) (mk_proc.trans rfl) d_C_perform_235 (fun H locs hW => ?_)
      obtain ⟨v27, ev27⟩ : ∃ z : Vs, z = u2 v26 (68 + 3 * i) 6 ((v (68 + 3 * i) 6) + (1)) := ⟨_, rfl⟩
      rw [← ev27] at hW
      have hO27 : Ok n1 v27 := by rw [ev27]; exact hO26.set (by omega) (okS_counter ⟨nv v (68 + 3 * i) 6 + 1, by omega, (ni_add e1 rfl)⟩)
      have hfin : cPerf np v i op a y = (n1, v27) := by
        subst ev27 ev26 ev1 en1 h_15_6; unfold cPerf; simp only [if_neg c_140]; rfl
      exact hret ad1 _ _ _ _ _ _ hlo (by show Wd D classes (tysA g) s A (wC g ad1 (cPerf np v i op a y).1 (cPerf np v i op a y).2) _ _; rw [hfin]; exact hW) (by decide) (by decide) d_C_perform_238
    · have nc_140 : np = 8 := ni_eq e23 rfl (by omega) (by omega) c_140
      refine lv_iconst (v := (-1)) hx hb d_C_perform_143 (by decide) ?_
      refine lv_goto (tgt := 157) hx hb d_C_perform_144 (by decide) ?_
      refine wis hx hb hW (68 + 3 * i + 1) (by omega) mk_regs 0 rfl (a) zx (by omega) (by decide) (x := (-1)) mk_regs d_C_perform_157 (fun H locs hW => ?_)
      obtain ⟨v28, ev28⟩ : ∃ z : Vs, z = u2 v (68 + 3 * i + 1) (a) ((-1)) := ⟨_, rfl⟩
      rw [← ev28] at hW
      have hO28 : Ok np v28 := by rw [ev28]; exact hO.set (by omega) (okS_free (by omega))
      refine lv_goto (tgt := 232) hx hb d_C_perform_158 (by decide) ?_
      refine lv_aload_n hx hb d_C_perform_232 rfl (lv_at hl 3 rfl) ?_
      refine lv_iload hx hb d_C_perform_233 (lv_at hl 0 rfl) ?_
      refine wp hx hb hts i_Proc t_Proc t_Proc_ok n_Proc hown hW (68 + 3 * i) (by omega) mk_proc rfl 6 (by decide) (hts _ kf_C_102) rfl (by decide +kernel) (x := (v (68 + 3 * i) 6) + (1)) (Nat.le_of_ble_eq_true rfl) (mk_proc.trans rfl) d_C_perform_235 (fun H locs hW => ?_)
      obtain ⟨v29, ev29⟩ : ∃ z : Vs, z = u2 v28 (68 + 3 * i) 6 ((v (68 + 3 * i) 6) + (1)) := ⟨_, rfl⟩
      rw [← ev29] at hW
      have hO29 : Ok np v29 := by rw [ev29]; exact hO28.set (by omega) (okS_counter ⟨nv v (68 + 3 * i) 6 + 1, by omega, (ni_add e1 rfl)⟩)
      have hfin : cPerf np v i op a y = (np, v29) := by
        subst ev29 ev28; subst h_15_6; unfold cPerf; simp only [if_pos c_140]; rfl
      exact hret ad _ _ _ _ _ _ (fun _ _ => rfl) (by show Wd D classes (tysA g) s A (wC g ad (cPerf np v i op a y).1 (cPerf np v i op a y).2) _ _; rw [hfin]; exact hW) (by decide) (by decide) d_C_perform_238
  · refine lv_tableIn (tgt := 161) hx hb d_C_perform_15 (by rw [h_15_7]; decide) (by rw [h_15_7]; decide) (off := 146) (by rw [h_15_7]; rfl) (by decide) ?_
    refine lv_aload_n hx hb d_C_perform_161 rfl (lv_at hl 2 rfl) ?_
    refine lv_aload_n hx hb d_C_perform_162 rfl (lv_at hl 3 rfl) ?_
    refine lv_iload_n hx hb d_C_perform_163 rfl (lv_at hl 5 rfl) ?_
    refine wcv hW hA (va_runV (As := [.ref (ad (68 + 3 * i)), .int (x)]) (rest := []) ⟨hx, hb, hml, hown, hts⟩ (c_C_waitFor l i hi (x) a zx (by omega) hO _) (cv 2 hts kc_C_waitFor ki_C_waitFor ke_C_waitFor kn_C km_C_201 kh_C_waitFor rfl rfl ⟨by decide, by decide⟩) (preW hW rfl rfl (mw_get (by omega) mk_root)) rfl rfl hl.1 rfl (lv_room (Nat.le_of_ble_eq_true rfl)) d_C_perform_164 ⟨by decide, by decide⟩) (fun uu30 H locs hp30 hW => ?_)
    have hW : Wd D classes (tysA g) s A (wC g ad np (cWait v i a)) H locs := hW
    obtain ⟨v31, ev31⟩ : ∃ z : Vs, z = cWait v i a := ⟨_, rfl⟩
    rw [← ev31] at hW
    have hO31 : Ok np v31 := by rw [ev31]; exact hO.wait hi
    refine lv_aload_n hx hb d_C_perform_167 rfl (lv_at hl 3 rfl) ?_
    refine wg hx hb hts i_Proc hown hW (68 + 3 * i) (by omega) mk_proc rfl 5 (by decide) (hts _ kf_C_70) rfl d_C_perform_168 ?_
    refine lv_iconst (v := 3) hx hb d_C_perform_171 (by decide) ?_
    refine lv_icmp_ne (tgt := 182) hx hb d_C_perform_172 (by decide) (fun c_172 => ?_) (fun c_172 => ?_)
    · refine lv_iload hx hb d_C_perform_182 (lv_at hl 0 rfl) ?_
      refine lv_istore (lv' := [(6, .int ((v (68 + 3 * i) 6) + (1))), (5, .ref (ad (68 + 3 * i + 1))), (0, .ref (ad (0))), (1, .ref (ad (68 + 3 * i))), (2, .int (op)), (3, .int (x)), (4, .int (y))]) hx hb d_C_perform_184 hl (by decide) rfl (fun ls hl => ?_)
      refine lv_goto (tgt := 232) hx hb d_C_perform_186 (by decide) ?_
      refine lv_aload_n hx hb d_C_perform_232 rfl (lv_at hl 3 rfl) ?_
      refine lv_iload hx hb d_C_perform_233 (lv_at hl 0 rfl) ?_
      refine wp hx hb hts i_Proc t_Proc t_Proc_ok n_Proc hown hW (68 + 3 * i) (by omega) mk_proc rfl 6 (by decide) (hts _ kf_C_102) rfl (by decide +kernel) (x := (v (68 + 3 * i) 6) + (1)) (Nat.le_of_ble_eq_true rfl) (mk_proc.trans rfl) d_C_perform_235 (fun H locs hW => ?_)
      obtain ⟨v32, ev32⟩ : ∃ z : Vs, z = u2 v31 (68 + 3 * i) 6 ((v (68 + 3 * i) 6) + (1)) := ⟨_, rfl⟩
      rw [← ev32] at hW
      have hO32 : Ok np v32 := by rw [ev32]; exact hO31.set (by omega) (okS_counter ⟨nv v (68 + 3 * i) 6 + 1, by omega, (ni_add e1 rfl)⟩)
      have hfin : cPerf np v i op a y = (np, v32) := by
        subst ev32 ev31; subst h_15_7; unfold cPerf; simp only [if_neg c_172]; rfl
      exact hret ad _ _ _ _ _ _ (fun _ _ => rfl) (by show Wd D classes (tysA g) s A (wC g ad (cPerf np v i op a y).1 (cPerf np v i op a y).2) _ _; rw [hfin]; exact hW) (by decide) (by decide) d_C_perform_238
    · refine lv_aload_n hx hb d_C_perform_175 rfl (lv_at hl 3 rfl) ?_
      refine wg hx hb hts i_Proc hown hW (68 + 3 * i) (by omega) mk_proc rfl 6 (by decide) (hts _ kf_C_102) rfl d_C_perform_176 ?_
      obtain ⟨e33, b33⟩ := hO31.counter hi
      refine lv_goto (tgt := 184) hx hb d_C_perform_179 (by decide) ?_
      refine lv_istore (lv' := [(6, .int (v31 (68 + 3 * i) 6)), (5, .ref (ad (68 + 3 * i + 1))), (0, .ref (ad (0))), (1, .ref (ad (68 + 3 * i))), (2, .int (op)), (3, .int (x)), (4, .int (y))]) hx hb d_C_perform_184 hl (by decide) rfl (fun ls hl => ?_)
      refine lv_goto (tgt := 232) hx hb d_C_perform_186 (by decide) ?_
      refine lv_aload_n hx hb d_C_perform_232 rfl (lv_at hl 3 rfl) ?_
      refine lv_iload hx hb d_C_perform_233 (lv_at hl 0 rfl) ?_
      refine wp hx hb hts i_Proc t_Proc t_Proc_ok n_Proc hown hW (68 + 3 * i) (by omega) mk_proc rfl 6 (by decide) (hts _ kf_C_102) rfl (by decide +kernel) (x := v31 (68 + 3 * i) 6) (Nat.le_of_ble_eq_true rfl) (mk_proc.trans rfl) d_C_perform_235 (fun H locs hW => ?_)
      obtain ⟨v34, ev34⟩ : ∃ z : Vs, z = u2 v31 (68 + 3 * i) 6 (v31 (68 + 3 * i) 6) := ⟨_, rfl⟩
      rw [← ev34] at hW
      have hO34 : Ok np v34 := by rw [ev34]; exact hO31.set (by omega) (okS_counter ⟨nv v31 (68 + 3 * i) 6, by omega, e33⟩)
      have hfin : cPerf np v i op a y = (np, v34) := by
        subst ev34 ev31; subst h_15_7; unfold cPerf; simp only [if_pos c_172]; rfl
      exact hret ad _ _ _ _ _ _ (fun _ _ => rfl) (by show Wd D classes (tysA g) s A (wC g ad (cPerf np v i op a y).1 (cPerf np v i op a y).2) _ _; rw [hfin]; exact hW) (by decide) (by decide) d_C_perform_238
  · refine lv_tableIn (tgt := 189) hx hb d_C_perform_15 (by rw [h_15_8]; decide) (by rw [h_15_8]; decide) (off := 174) (by rw [h_15_8]; rfl) (by decide) ?_
    refine lv_aload_n hx hb d_C_perform_189 rfl (lv_at hl 2 rfl) ?_
    refine lv_aload_n hx hb d_C_perform_190 rfl (lv_at hl 3 rfl) ?_
    refine lv_iload_n hx hb d_C_perform_191 rfl (lv_at hl 5 rfl) ?_
    refine wcv hW hA (va_runV (As := [.ref (ad (68 + 3 * i)), .int (x)]) (rest := []) ⟨hx, hb, hml, hown, hts⟩ (c_C_killOther l i hi (x) a zx (by omega) hO _) (cv 2 hts kc_C_killOther ki_C_killOther ke_C_killOther kn_C km_C_204 kh_C_killOther rfl rfl ⟨by decide, by decide⟩) (preW hW rfl rfl (mw_get (by omega) mk_root)) rfl rfl hl.1 rfl (lv_room (Nat.le_of_ble_eq_true rfl)) d_C_perform_192 ⟨by decide, by decide⟩) (fun uu35 H locs hp35 hW => ?_)
    have hW : Wd D classes (tysA g) s A (wC g ad np (cKill np v i a)) H locs := hW
    obtain ⟨v36, ev36⟩ : ∃ z : Vs, z = cKill np v i a := ⟨_, rfl⟩
    rw [← ev36] at hW
    have hO36 : Ok np v36 := by rw [ev36]; exact hO.kill
    refine lv_goto (tgt := 232) hx hb d_C_perform_195 (by decide) ?_
    refine lv_aload_n hx hb d_C_perform_232 rfl (lv_at hl 3 rfl) ?_
    refine lv_iload hx hb d_C_perform_233 (lv_at hl 0 rfl) ?_
    refine wp hx hb hts i_Proc t_Proc t_Proc_ok n_Proc hown hW (68 + 3 * i) (by omega) mk_proc rfl 6 (by decide) (hts _ kf_C_102) rfl (by decide +kernel) (x := (v (68 + 3 * i) 6) + (1)) (Nat.le_of_ble_eq_true rfl) (mk_proc.trans rfl) d_C_perform_235 (fun H locs hW => ?_)
    obtain ⟨v37, ev37⟩ : ∃ z : Vs, z = u2 v36 (68 + 3 * i) 6 ((v (68 + 3 * i) 6) + (1)) := ⟨_, rfl⟩
    rw [← ev37] at hW
    have hO37 : Ok np v37 := by rw [ev37]; exact hO36.set (by omega) (okS_counter ⟨nv v (68 + 3 * i) 6 + 1, by omega, (ni_add e1 rfl)⟩)
    have hfin : cPerf np v i op a y = (np, v37) := by
      subst ev37 ev36; subst h_15_8; rfl
    exact hret ad _ _ _ _ _ _ (fun _ _ => rfl) (by show Wd D classes (tysA g) s A (wC g ad (cPerf np v i op a y).1 (cPerf np v i op a y).2) _ _; rw [hfin]; exact hW) (by decide) (by decide) d_C_perform_238
  · refine lv_tableIn (tgt := 198) hx hb d_C_perform_15 (by rw [h_15_9]; decide) (by rw [h_15_9]; decide) (off := 183) (by rw [h_15_9]; rfl) (by decide) ?_
    refine lv_aload_n hx hb d_C_perform_198 rfl (lv_at hl 2 rfl) ?_
    refine lv_aload_n hx hb d_C_perform_199 rfl (lv_at hl 3 rfl) ?_
    refine lv_aload hx hb d_C_perform_200 (lv_at hl 1 rfl) ?_
    refine lv_iload_n hx hb d_C_perform_202 rfl (lv_at hl 5 rfl) ?_
    refine wi hx hb hW (68 + 3 * i + 1) (by omega) mk_regs 0 rfl (a) zx (by omega) (by decide) d_C_perform_203 ?_
    refine wcv hW hA (va_runV (As := [.ref (ad (68 + 3 * i)), .int (v (68 + 3 * i + 1) (a))]) (rest := []) ⟨hx, hb, hml, hown, hts⟩ (c_C_endProcess l i hi (v (68 + 3 * i + 1) (a)) hO _) (cv 2 hts kc_C_endProcess ki_C_endProcess ke_C_endProcess kn_C km_C_163 kh_C_endProcess rfl rfl ⟨by decide, by decide⟩) (preW hW rfl rfl (mw_get (by omega) mk_root)) rfl rfl hl.1 rfl (lv_room (Nat.le_of_ble_eq_true rfl)) d_C_perform_204 ⟨by decide, by decide⟩) (fun uu38 H locs hp38 hW => ?_)
    have hW : Wd D classes (tysA g) s A (wC g ad np (cEnd np v i (v (68 + 3 * i + 1) (a)))) H locs := hW
    obtain ⟨v39, ev39⟩ : ∃ z : Vs, z = cEnd np v i (v (68 + 3 * i + 1) (a)) := ⟨_, rfl⟩
    rw [← ev39] at hW
    have hO39 : Ok np v39 := by rw [ev39]; exact hO.end hi
    refine lv_goto (tgt := 232) hx hb d_C_perform_207 (by decide) ?_
    refine lv_aload_n hx hb d_C_perform_232 rfl (lv_at hl 3 rfl) ?_
    refine lv_iload hx hb d_C_perform_233 (lv_at hl 0 rfl) ?_
    refine wp hx hb hts i_Proc t_Proc t_Proc_ok n_Proc hown hW (68 + 3 * i) (by omega) mk_proc rfl 6 (by decide) (hts _ kf_C_102) rfl (by decide +kernel) (x := (v (68 + 3 * i) 6) + (1)) (Nat.le_of_ble_eq_true rfl) (mk_proc.trans rfl) d_C_perform_235 (fun H locs hW => ?_)
    obtain ⟨v40, ev40⟩ : ∃ z : Vs, z = u2 v39 (68 + 3 * i) 6 ((v (68 + 3 * i) 6) + (1)) := ⟨_, rfl⟩
    rw [← ev40] at hW
    have hO40 : Ok np v40 := by rw [ev40]; exact hO39.set (by omega) (okS_counter ⟨nv v (68 + 3 * i) 6 + 1, by omega, (ni_add e1 rfl)⟩)
    have hfin : cPerf np v i op a y = (np, v40) := by
      subst ev40 ev39; subst h_15_9; rfl
    exact hret ad _ _ _ _ _ _ (fun _ _ => rfl) (by show Wd D classes (tysA g) s A (wC g ad (cPerf np v i op a y).1 (cPerf np v i op a y).2) _ _; rw [hfin]; exact hW) (by decide) (by decide) d_C_perform_238
  · refine lv_tableIn (tgt := 210) hx hb d_C_perform_15 (by rw [h_15_10]; decide) (by rw [h_15_10]; decide) (off := 195) (by rw [h_15_10]; rfl) (by decide) ?_
    refine lv_aload hx hb d_C_perform_210 (lv_at hl 1 rfl) ?_
    refine lv_iload_n hx hb d_C_perform_212 rfl (lv_at hl 5 rfl) ?_
    refine lv_aload_n hx hb d_C_perform_213 rfl (lv_at hl 3 rfl) ?_
    refine wg hx hb hts i_Proc hown hW (68 + 3 * i) (by omega) mk_proc rfl 0 (by decide) (hts _ kf_C_73) rfl d_C_perform_214 ?_
    obtain ⟨e41, b41⟩ := hO.number hi
    refine wis hx hb hW (68 + 3 * i + 1) (by omega) mk_regs 0 rfl (a) zx (by omega) (by decide) (x := v (68 + 3 * i) 0) mk_regs d_C_perform_217 (fun H locs hW => ?_)
    obtain ⟨v42, ev42⟩ : ∃ z : Vs, z = u2 v (68 + 3 * i + 1) (a) (v (68 + 3 * i) 0) := ⟨_, rfl⟩
    rw [← ev42] at hW
    have hO42 : Ok np v42 := by rw [ev42]; exact hO.set (by omega) (okS_free (by omega))
    refine lv_goto (tgt := 232) hx hb d_C_perform_218 (by decide) ?_
    refine lv_aload_n hx hb d_C_perform_232 rfl (lv_at hl 3 rfl) ?_
    refine lv_iload hx hb d_C_perform_233 (lv_at hl 0 rfl) ?_
    refine wp hx hb hts i_Proc t_Proc t_Proc_ok n_Proc hown hW (68 + 3 * i) (by omega) mk_proc rfl 6 (by decide) (hts _ kf_C_102) rfl (by decide +kernel) (x := (v (68 + 3 * i) 6) + (1)) (Nat.le_of_ble_eq_true rfl) (mk_proc.trans rfl) d_C_perform_235 (fun H locs hW => ?_)
    obtain ⟨v43, ev43⟩ : ∃ z : Vs, z = u2 v42 (68 + 3 * i) 6 ((v (68 + 3 * i) 6) + (1)) := ⟨_, rfl⟩
    rw [← ev43] at hW
    have hO43 : Ok np v43 := by rw [ev43]; exact hO42.set (by omega) (okS_counter ⟨nv v (68 + 3 * i) 6 + 1, by omega, (ni_add e1 rfl)⟩)
    have hfin : cPerf np v i op a y = (np, v43) := by
      subst ev43 ev42; subst h_15_10; rfl
    exact hret ad _ _ _ _ _ _ (fun _ _ => rfl) (by show Wd D classes (tysA g) s A (wC g ad (cPerf np v i op a y).1 (cPerf np v i op a y).2) _ _; rw [hfin]; exact hW) (by decide) (by decide) d_C_perform_238
  · refine lv_tableIn (tgt := 221) hx hb d_C_perform_15 (by rw [h_15_11]; decide) (by rw [h_15_11]; decide) (off := 206) (by rw [h_15_11]; rfl) (by decide) ?_
    refine lv_aload hx hb d_C_perform_221 (lv_at hl 1 rfl) ?_
    refine lv_iload_n hx hb d_C_perform_223 rfl (lv_at hl 5 rfl) ?_
    refine lv_aload_n hx hb d_C_perform_224 rfl (lv_at hl 3 rfl) ?_
    refine wg hx hb hts i_Proc hown hW (68 + 3 * i) (by omega) mk_proc rfl 4 (by decide) (hts _ kf_C_88) rfl d_C_perform_225 ?_
    obtain ⟨e44, b44⟩ := hO.place hi
    refine wis hx hb hW (68 + 3 * i + 1) (by omega) mk_regs 0 rfl (a) zx (by omega) (by decide) (x := v (68 + 3 * i) 4) mk_regs d_C_perform_228 (fun H locs hW => ?_)
    obtain ⟨v45, ev45⟩ : ∃ z : Vs, z = u2 v (68 + 3 * i + 1) (a) (v (68 + 3 * i) 4) := ⟨_, rfl⟩
    rw [← ev45] at hW
    have hO45 : Ok np v45 := by rw [ev45]; exact hO.set (by omega) (okS_free (by omega))
    refine lv_goto (tgt := 232) hx hb d_C_perform_229 (by decide) ?_
    refine lv_aload_n hx hb d_C_perform_232 rfl (lv_at hl 3 rfl) ?_
    refine lv_iload hx hb d_C_perform_233 (lv_at hl 0 rfl) ?_
    refine wp hx hb hts i_Proc t_Proc t_Proc_ok n_Proc hown hW (68 + 3 * i) (by omega) mk_proc rfl 6 (by decide) (hts _ kf_C_102) rfl (by decide +kernel) (x := (v (68 + 3 * i) 6) + (1)) (Nat.le_of_ble_eq_true rfl) (mk_proc.trans rfl) d_C_perform_235 (fun H locs hW => ?_)
    obtain ⟨v46, ev46⟩ : ∃ z : Vs, z = u2 v45 (68 + 3 * i) 6 ((v (68 + 3 * i) 6) + (1)) := ⟨_, rfl⟩
    rw [← ev46] at hW
    have hO46 : Ok np v46 := by rw [ev46]; exact hO45.set (by omega) (okS_counter ⟨nv v (68 + 3 * i) 6 + 1, by omega, (ni_add e1 rfl)⟩)
    have hfin : cPerf np v i op a y = (np, v46) := by
      subst ev46 ev45; subst h_15_11; rfl
    exact hret ad _ _ _ _ _ _ (fun _ _ => rfl) (by show Wd D classes (tysA g) s A (wC g ad (cPerf np v i op a y).1 (cPerf np v i op a y).2) _ _; rw [hfin]; exact hW) (by decide) (by decide) d_C_perform_238
