abbrev rm_C_usePage : Room := { frames := 0, cells := 0, slots := 0, locals := 0 }
set_option maxHeartbeats 4000000 in
set_option maxRecDepth 100000 in
theorem c_C_usePage (l : Launch) {D : va_G} {g : Nat → ClassId} {ad : Nat → Nat} {np : Nat} {v : Vs} (j : Nat) (hj : j < 8) (x : Int32) (n : Nat) (zx : x = nI n) (ln : n < 3) (hO : Ok np v) : MtV l y_C_usePage ws_C_usePage rm_C_usePage D classes (tysA g) [.ref (ad (0)), .ref (ad (28 + 5 * j)), .int (x)] (wC g ad np (v)) (fun _ : Unit => True) (fun _ => wC g ad np (cUse v j n)) 0 0 := by
  refine mt_v (by decide +kernel) rfl (Nat.le_of_ble_eq_true rfl) (fun p e s m args below meth c Q A C hnm hA hW hret ls hl => ?_)
  obtain ⟨hx, hb, hr, hml, hown, hts0, hlocks⟩ := C
  have hts : ∀ w ∈ bigw, w.before args s = true := fun w h => hts0 w (List.mem_cons_of_mem _ h)
  have hown : s.vm.findClass R_C = some m.cls := hown
  have hnp := hO.le
  have hl : lv_has ls 3 [(0, .ref (ad (0))), (1, .ref (ad (28 + 5 * j))), (2, .int (x))] := hl
  refine lv_aload_n hx hb d_C_usePage_0 rfl (lv_at hl 0 rfl) ?_
  refine lv_dup hx hb d_C_usePage_1 rfl ?_
  refine wg hx hb hts i_C hown hW (0) (by omega) mk_root rfl 6 (by decide) (hts _ kf_C_215) rfl d_C_usePage_2 ?_
  refine lv_iconst (v := 1) hx hb d_C_usePage_5 (by decide) ?_
  refine lv_iadd hx hb d_C_usePage_6 ?_
  refine wp hx hb hts i_C t_C t_C_ok n_C hown hW (0) (by omega) mk_root rfl 6 (by decide) (hts _ kf_C_215) rfl (by decide +kernel) (x := (v 0 6) + (1)) (Nat.le_of_ble_eq_true rfl) (mk_root.trans rfl) d_C_usePage_7 (fun H locs hW => ?_)
  obtain ⟨v1, ev1⟩ : ∃ z : Vs, z = u2 v (0) 6 ((v 0 6) + (1)) := ⟨_, rfl⟩
  rw [← ev1] at hW
  have hO1 : Ok np v1 := by rw [ev1]; exact hO.set (by omega) (okS_free (by omega))
  refine lv_aload_n hx hb d_C_usePage_10 rfl (lv_at hl 1 rfl) ?_
  refine wg hx hb hts i_Page hown hW (28 + 5 * j) (by omega) (mk_page hj) rfl 1 (by decide) (hts _ kf_C_218) rfl d_C_usePage_11 ?_
  refine lv_iload_n hx hb d_C_usePage_14 rfl (lv_at hl 2 rfl) ?_
  refine lv_aload_n hx hb d_C_usePage_15 rfl (lv_at hl 0 rfl) ?_
  refine wg hx hb hts i_C hown hW (0) (by omega) mk_root rfl 6 (by decide) (hts _ kf_C_215) rfl d_C_usePage_16 ?_
  refine wis hx hb hW (28 + 5 * j + 2) (by omega) (mk_uses hj) 0 rfl (n) zx (by omega) (by decide) (x := v1 0 6) (mk_uses hj) d_C_usePage_19 (fun H locs hW => ?_)
  obtain ⟨v2, ev2⟩ : ∃ z : Vs, z = u2 v1 (28 + 5 * j + 2) (n) (v1 0 6) := ⟨_, rfl⟩
  rw [← ev2] at hW
  have hO2 : Ok np v2 := by rw [ev2]; exact hO1.set (by omega) (okS_free (by omega))
  have hfin : cUse v j n = v2 := by
    subst ev2 ev1
    rfl
  exact hret () _ _ _ _ _ _ trivial (by show Wd D classes (tysA g) s A (wC g ad np (cUse v j n)) _ _; rw [hfin]; exact hW) (by decide) (by decide) d_C_usePage_20
abbrev rm_C_blockOn : Room := { frames := 2, cells := 0, slots := 0, locals := 45 }
set_option maxHeartbeats 4000000 in
set_option maxRecDepth 100000 in
theorem c_C_blockOn (l : Launch) {D : va_G} {g : Nat → ClassId} {ad : Nat → Nat} {np : Nat} {v : Vs} (i : Nat) (hi : i < np) (x : Int32) (j : Nat) (zx : x = nI j) (lj : j < 8) (y : Int32) (hO : Ok np v) : MtV l y_C_blockOn ws_C_blockOn rm_C_blockOn D classes (tysA g) [.ref (ad (0)), .ref (ad (68 + 3 * i)), .int (x), .int (y)] (wC g ad np (v)) (fun _ : Unit => True) (fun _ => wC g ad np (cBlock v i x j y)) 0 0 := by
  refine mt_v (by decide +kernel) rfl (Nat.le_of_ble_eq_true rfl) (fun p e s m args below meth c Q A C hnm hA hW hret ls hl => ?_)
  obtain ⟨hx, hb, hr, hml, hown, hts0, hlocks⟩ := C
  have hts : ∀ w ∈ bigw, w.before args s = true := fun w h => hts0 w (List.mem_cons_of_mem _ h)
  have hown : s.vm.findClass R_C = some m.cls := hown
  have hnp := hO.le
  have hl : lv_has ls 4 [(0, .ref (ad (0))), (1, .ref (ad (68 + 3 * i))), (2, .int (x)), (3, .int (y))] := hl
  refine lv_aload_n hx hb d_C_blockOn_0 rfl (lv_at hl 0 rfl) ?_
  refine lv_aload_n hx hb d_C_blockOn_1 rfl (lv_at hl 1 rfl) ?_
  refine lv_iconst (v := 2) hx hb d_C_blockOn_2 (by decide) ?_
  refine wcv hW hA (va_runV (As := [.ref (ad (68 + 3 * i)), .int (2)]) (rest := []) ⟨hx, hb, hml, hown, hts⟩ (c_C_leaveLine l i hi (2) hO _) (cv 2 hts kc_C_leaveLine ki_C_leaveLine ke_C_leaveLine kn_C km_C_153 kh_C_leaveLine rfl rfl ⟨by decide, by decide⟩) (preW hW rfl rfl (mw_get (by omega) mk_root)) rfl rfl hl.1 rfl (lv_room (Nat.le_of_ble_eq_true rfl)) d_C_blockOn_3 ⟨by decide, by decide⟩) (fun uu1 H locs hp1 hW => ?_)
  have hW : Wd D classes (tysA g) s A (wC g ad np (cLeave v i (2))) H locs := hW
  obtain ⟨v2, ev2⟩ : ∃ z : Vs, z = cLeave v i (2) := ⟨_, rfl⟩
  rw [← ev2] at hW
  have hO2 : Ok np v2 := by rw [ev2]; exact hO.leave hi
  refine lv_aload_n hx hb d_C_blockOn_6 rfl (lv_at hl 1 rfl) ?_
  refine lv_iload_n hx hb d_C_blockOn_7 rfl (lv_at hl 2 rfl) ?_
  refine wp hx hb hts i_Proc t_Proc t_Proc_ok n_Proc hown hW (68 + 3 * i) (by omega) mk_proc rfl 9 (by decide) (hts _ kf_C_111) rfl (by decide +kernel) (x := x) (Nat.le_of_ble_eq_true rfl) (mk_proc.trans rfl) d_C_blockOn_8 (fun H locs hW => ?_)
  obtain ⟨v3, ev3⟩ : ∃ z : Vs, z = u2 v2 (68 + 3 * i) 9 (x) := ⟨_, rfl⟩
  rw [← ev3] at hW
  have hO3 : Ok np v3 := by rw [ev3]; exact hO2.set (by omega) (okS_free (by omega))
  refine lv_aload_n hx hb d_C_blockOn_11 rfl (lv_at hl 1 rfl) ?_
  refine lv_iload_n hx hb d_C_blockOn_12 rfl (lv_at hl 3 rfl) ?_
  refine wp hx hb hts i_Proc t_Proc t_Proc_ok n_Proc hown hW (68 + 3 * i) (by omega) mk_proc rfl 10 (by decide) (hts _ kf_C_195) rfl (by decide +kernel) (x := y) (Nat.le_of_ble_eq_true rfl) (mk_proc.trans rfl) d_C_blockOn_13 (fun H locs hW => ?_)
  obtain ⟨v4, ev4⟩ : ∃ z : Vs, z = u2 v3 (68 + 3 * i) 10 (y) := ⟨_, rfl⟩
  rw [← ev4] at hW
  have hO4 : Ok np v4 := by rw [ev4]; exact hO3.set (by omega) (okS_free (by omega))
  refine lv_aload_n hx hb d_C_blockOn_16 rfl (lv_at hl 0 rfl) ?_
  refine wg hx hb hts i_C hown hW (0) (by omega) mk_root rfl 3 (by decide) (hts _ kf_C_29) rfl d_C_blockOn_17 ?_
  refine lv_iload_n hx hb d_C_blockOn_20 rfl (lv_at hl 2 rfl) ?_
  have hi5 : j < 8 := by omega
  refine wa hx hb hW 4 (by omega) mk_pages 4 rfl (j) zx (by omega) (by decide) (if_pos hi5) d_C_blockOn_21 ?_
  refine wg hx hb hts i_Page hown hW (28 + 5 * j) (by omega) (mk_page hi5) rfl 2 (by decide) (hts _ kf_C_76) rfl d_C_blockOn_22 ?_
  refine lv_aload_n hx hb d_C_blockOn_25 rfl (lv_at hl 1 rfl) ?_
  refine wg hx hb hts i_Proc hown hW (68 + 3 * i) (by omega) mk_proc rfl 0 (by decide) (hts _ kf_C_73) rfl d_C_blockOn_26 ?_
  obtain ⟨e6, b6⟩ := hO4.number hi
  refine wcv hW hA (va_runV (As := [.int (v4 (68 + 3 * i) 0)]) (rest := []) ⟨hx, hb, hml, hown, hts⟩ (c_Line_append l (28 + 5 * j + 3) (ln_page hi5) (v4 (68 + 3 * i) 0) hO4 (by omega) ⟨i, e6, by omega⟩ _) (cv 1 hts kc_Line_append ki_Line_append ke_Line_append kn_Line km_C_150 kh_Line_append rfl rfl ⟨by decide, by decide⟩) (preW hW rfl rfl (mw_get (by have := ln_lt (ln_page hi5); omega) (mk_line (ln_page hi5)))) rfl rfl hl.1 rfl (lv_room (Nat.le_of_ble_eq_true rfl)) d_C_blockOn_29 ⟨by decide, by decide⟩) (fun uu7 H locs hp7 hW => ?_)
  have hW : Wd D classes (tysA g) s A (wC g ad np (cApp v4 (28 + 5 * j + 3) (v4 (68 + 3 * i) 0))) H locs := hW
  obtain ⟨v8, ev8⟩ : ∃ z : Vs, z = cApp v4 (28 + 5 * j + 3) (v4 (68 + 3 * i) 0) := ⟨_, rfl⟩
  rw [← ev8] at hW
  have hO8 : Ok np v8 := by rw [ev8]; exact hO4.app (ln_page hi5) (by omega) ⟨i, e6, by omega⟩
  refine lv_aload_n hx hb d_C_blockOn_32 rfl (lv_at hl 0 rfl) ?_
  refine lv_dup hx hb d_C_blockOn_33 rfl ?_
  refine wg hx hb hts i_C hown hW (0) (by omega) mk_root rfl 8 (by decide) (hts _ kf_C_127) rfl d_C_blockOn_34 ?_
  refine lv_iconst (v := 1) hx hb d_C_blockOn_37 (by decide) ?_
  refine lv_iadd hx hb d_C_blockOn_38 ?_
  refine wp hx hb hts i_C t_C t_C_ok n_C hown hW (0) (by omega) mk_root rfl 8 (by decide) (hts _ kf_C_127) rfl (by decide +kernel) (x := (v8 0 8) + (1)) (Nat.le_of_ble_eq_true rfl) (mk_root.trans rfl) d_C_blockOn_39 (fun H locs hW => ?_)
  obtain ⟨v9, ev9⟩ : ∃ z : Vs, z = u2 v8 (0) 8 ((v8 0 8) + (1)) := ⟨_, rfl⟩
  rw [← ev9] at hW
  have hO9 : Ok np v9 := by rw [ev9]; exact hO8.set (by omega) (okS_free (by omega))
  have hfin : cBlock v i x j y = v9 := by
    subst ev9 ev8 ev4 ev3 ev2
    rfl
  exact hret () _ _ _ _ _ _ trivial (by show Wd D classes (tysA g) s A (wC g ad np (cBlock v i x j y)) _ _; rw [hfin]; exact hW) (by decide) (by decide) d_C_blockOn_42
abbrev rm_C_spendSlice : Room := { frames := 2, cells := 0, slots := 0, locals := 42 }
set_option maxHeartbeats 4000000 in
set_option maxRecDepth 100000 in
theorem c_C_spendSlice (l : Launch) {D : va_G} {g : Nat → ClassId} {ad : Nat → Nat} {np : Nat} {v : Vs} (i : Nat) (hi : i < np) (y : Int32) (hO : Ok np v) : MtV l y_C_spendSlice ws_C_spendSlice rm_C_spendSlice D classes (tysA g) [.ref (ad (0)), .ref (ad (68 + 3 * i)), .int (y)] (wC g ad np (v)) (fun _ : Unit => True) (fun _ => wC g ad np (cSpend v i y)) 0 0 := by
  refine mt_v (by decide +kernel) rfl (Nat.le_of_ble_eq_true rfl) (fun p e s m args below meth c Q A C hnm hA hW hret ls hl => ?_)
  obtain ⟨hx, hb, hr, hml, hown, hts0, hlocks⟩ := C
  have hts : ∀ w ∈ bigw, w.before args s = true := fun w h => hts0 w (List.mem_cons_of_mem _ h)
  have hown : s.vm.findClass R_C = some m.cls := hown
  have hnp := hO.le
  have hl : lv_has ls 3 [(0, .ref (ad (0))), (1, .ref (ad (68 + 3 * i))), (2, .int (y))] := hl
  refine lv_aload_n hx hb d_C_spendSlice_0 rfl (lv_at hl 1 rfl) ?_
  refine lv_dup hx hb d_C_spendSlice_1 rfl ?_
  refine wg hx hb hts i_Proc hown hW (68 + 3 * i) (by omega) mk_proc rfl 7 (by decide) (hts _ kf_C_105) rfl d_C_spendSlice_2 ?_
  refine lv_iconst (v := 1) hx hb d_C_spendSlice_5 (by decide) ?_
  refine lv_iadd hx hb d_C_spendSlice_6 ?_
  refine wp hx hb hts i_Proc t_Proc t_Proc_ok n_Proc hown hW (68 + 3 * i) (by omega) mk_proc rfl 7 (by decide) (hts _ kf_C_105) rfl (by decide +kernel) (x := (v (68 + 3 * i) 7) + (1)) (Nat.le_of_ble_eq_true rfl) (mk_proc.trans rfl) d_C_spendSlice_7 (fun H locs hW => ?_)
  obtain ⟨v1, ev1⟩ : ∃ z : Vs, z = u2 v (68 + 3 * i) 7 ((v (68 + 3 * i) 7) + (1)) := ⟨_, rfl⟩
  rw [← ev1] at hW
  have hO1 : Ok np v1 := by rw [ev1]; exact hO.set (by omega) (okS_free (by omega))
  refine lv_iload_n hx hb d_C_spendSlice_10 rfl (lv_at hl 2 rfl) ?_
  refine lv_if_ne (tgt := 22) hx hb d_C_spendSlice_11 (by decide) (fun c_11 => ?_) (fun c_11 => ?_)
  · refine lv_aload_n hx hb d_C_spendSlice_22 rfl (lv_at hl 0 rfl) ?_
    refine wg hx hb hts i_C hown hW (0) (by omega) mk_root rfl 2 (by decide) (hts _ kf_C_23) rfl d_C_spendSlice_23 ?_
    refine lv_aload_n hx hb d_C_spendSlice_26 rfl (lv_at hl 1 rfl) ?_
    refine wg hx hb hts i_Proc hown hW (68 + 3 * i) (by omega) mk_proc rfl 4 (by decide) (hts _ kf_C_88) rfl d_C_spendSlice_27 ?_
    obtain ⟨e2, b2⟩ := hO1.place hi
    have hk3 : isLn (22 + 2 * (nv v1 (68 + 3 * i) 4)) := ln_node (by omega)
    refine wa hx hb hW 3 (by omega) mk_lines 3 rfl (nv v1 (68 + 3 * i) 4) e2 (by omega) (by decide) (if_pos (by omega)) d_C_spendSlice_30 ?_
    refine lv_aload_n hx hb d_C_spendSlice_31 rfl (lv_at hl 1 rfl) ?_
    refine wg hx hb hts i_Proc hown hW (68 + 3 * i) (by omega) mk_proc rfl 0 (by decide) (hts _ kf_C_73) rfl d_C_spendSlice_32 ?_
    obtain ⟨e4, b4⟩ := hO1.number hi
    refine wcv hW hA (va_runV (As := [.int (v1 (68 + 3 * i) 0)]) (rest := []) ⟨hx, hb, hml, hown, hts⟩ (c_Line_remove l (22 + 2 * (nv v1 (68 + 3 * i) 4)) hk3 (v1 (68 + 3 * i) 0) hO1 (by omega) _) (cv 1 hts kc_Line_remove ki_Line_remove ke_Line_remove kn_Line km_C_80 kh_Line_remove rfl rfl ⟨by decide, by decide⟩) (preW hW rfl rfl (mw_get (by have := ln_lt hk3; omega) (mk_line hk3))) rfl rfl hl.1 rfl (lv_room (Nat.le_of_ble_eq_true rfl)) d_C_spendSlice_35 ⟨by decide, by decide⟩) (fun uu5 H locs hp5 hW => ?_)
    have hW : Wd D classes (tysA g) s A (wC g ad np (cRem v1 (22 + 2 * (nv v1 (68 + 3 * i) 4)) (v1 (68 + 3 * i) 0))) H locs := hW
    obtain ⟨v6, ev6⟩ : ∃ z : Vs, z = cRem v1 (22 + 2 * (nv v1 (68 + 3 * i) 4)) (v1 (68 + 3 * i) 0) := ⟨_, rfl⟩
    rw [← ev6] at hW
    have hO6 : Ok np v6 := by rw [ev6]; exact hO1.rem hk3 (by omega)
    refine lv_aload_n hx hb d_C_spendSlice_38 rfl (lv_at hl 0 rfl) ?_
    refine lv_aload_n hx hb d_C_spendSlice_39 rfl (lv_at hl 1 rfl) ?_
    refine wcv hW hA (va_runV (As := [.ref (ad (68 + 3 * i))]) (rest := []) ⟨hx, hb, hml, hown, hts⟩ (c_C_joinLine l i hi hO6 _) (cv 1 hts kc_C_joinLine ki_C_joinLine ke_C_joinLine kn_C km_C_94 kh_C_joinLine rfl rfl ⟨by decide, by decide⟩) (preW hW rfl rfl (mw_get (by omega) mk_root)) rfl rfl hl.1 rfl (lv_room (Nat.le_of_ble_eq_true rfl)) d_C_spendSlice_40 ⟨by decide, by decide⟩) (fun uu7 H locs hp7 hW => ?_)
    have hW : Wd D classes (tysA g) s A (wC g ad np (cJoin v6 i)) H locs := hW
    obtain ⟨v8, ev8⟩ : ∃ z : Vs, z = cJoin v6 i := ⟨_, rfl⟩
    rw [← ev8] at hW
    have hO8 : Ok np v8 := by rw [ev8]; exact hO6.join hi
    have hfin : cSpend v i y = v8 := by
      subst ev8 ev6 ev1
      simp only [cSpend, cAgain, if_neg c_11]
    exact hret () _ _ _ _ _ _ trivial (by show Wd D classes (tysA g) s A (wC g ad np (cSpend v i y)) _ _; rw [hfin]; exact hW) (by decide) (by decide) d_C_spendSlice_43
  · refine lv_aload_n hx hb d_C_spendSlice_14 rfl (lv_at hl 1 rfl) ?_
    refine wg hx hb hts i_Proc hown hW (68 + 3 * i) (by omega) mk_proc rfl 7 (by decide) (hts _ kf_C_105) rfl d_C_spendSlice_15 ?_
    refine lv_iconst (v := 3) hx hb d_C_spendSlice_18 (by decide) ?_
    refine lv_icmp_ne (tgt := 43) hx hb d_C_spendSlice_19 (by decide) (fun c_19 => ?_) (fun c_19 => ?_)
    · have hfin : cSpend v i y = v1 := by
        subst ev1
        simp only [cSpend, cAgain, if_pos c_11, if_neg c_19]
      exact hret () _ _ _ _ _ _ trivial (by show Wd D classes (tysA g) s A (wC g ad np (cSpend v i y)) _ _; rw [hfin]; exact hW) (by decide) (by decide) d_C_spendSlice_43
    · refine lv_aload_n hx hb d_C_spendSlice_22 rfl (lv_at hl 0 rfl) ?_
      refine wg hx hb hts i_C hown hW (0) (by omega) mk_root rfl 2 (by decide) (hts _ kf_C_23) rfl d_C_spendSlice_23 ?_
      refine lv_aload_n hx hb d_C_spendSlice_26 rfl (lv_at hl 1 rfl) ?_
      refine wg hx hb hts i_Proc hown hW (68 + 3 * i) (by omega) mk_proc rfl 4 (by decide) (hts _ kf_C_88) rfl d_C_spendSlice_27 ?_
      obtain ⟨e9, b9⟩ := hO1.place hi
      have hk10 : isLn (22 + 2 * (nv v1 (68 + 3 * i) 4)) := ln_node (by omega)
      refine wa hx hb hW 3 (by omega) mk_lines 3 rfl (nv v1 (68 + 3 * i) 4) e9 (by omega) (by decide) (if_pos (by omega)) d_C_spendSlice_30 ?_
      refine lv_aload_n hx hb d_C_spendSlice_31 rfl (lv_at hl 1 rfl) ?_
      refine wg hx hb hts i_Proc hown hW (68 + 3 * i) (by omega) mk_proc rfl 0 (by decide) (hts _ kf_C_73) rfl d_C_spendSlice_32 ?_
      obtain ⟨e11, b11⟩ := hO1.number hi
      refine wcv hW hA (va_runV (As := [.int (v1 (68 + 3 * i) 0)]) (rest := []) ⟨hx, hb, hml, hown, hts⟩ (c_Line_remove l (22 + 2 * (nv v1 (68 + 3 * i) 4)) hk10 (v1 (68 + 3 * i) 0) hO1 (by omega) _) (cv 1 hts kc_Line_remove ki_Line_remove ke_Line_remove kn_Line km_C_80 kh_Line_remove rfl rfl ⟨by decide, by decide⟩) (preW hW rfl rfl (mw_get (by have := ln_lt hk10; omega) (mk_line hk10))) rfl rfl hl.1 rfl (lv_room (Nat.le_of_ble_eq_true rfl)) d_C_spendSlice_35 ⟨by decide, by decide⟩) (fun uu12 H locs hp12 hW => ?_)
      have hW : Wd D classes (tysA g) s A (wC g ad np (cRem v1 (22 + 2 * (nv v1 (68 + 3 * i) 4)) (v1 (68 + 3 * i) 0))) H locs := hW
      obtain ⟨v13, ev13⟩ : ∃ z : Vs, z = cRem v1 (22 + 2 * (nv v1 (68 + 3 * i) 4)) (v1 (68 + 3 * i) 0) := ⟨_, rfl⟩
      rw [← ev13] at hW
      have hO13 : Ok np v13 := by rw [ev13]; exact hO1.rem hk10 (by omega)
      refine lv_aload_n hx hb d_C_spendSlice_38 rfl (lv_at hl 0 rfl) ?_
      refine lv_aload_n hx hb d_C_spendSlice_39 rfl (lv_at hl 1 rfl) ?_
      refine wcv hW hA (va_runV (As := [.ref (ad (68 + 3 * i))]) (rest := []) ⟨hx, hb, hml, hown, hts⟩ (c_C_joinLine l i hi hO13 _) (cv 1 hts kc_C_joinLine ki_C_joinLine ke_C_joinLine kn_C km_C_94 kh_C_joinLine rfl rfl ⟨by decide, by decide⟩) (preW hW rfl rfl (mw_get (by omega) mk_root)) rfl rfl hl.1 rfl (lv_room (Nat.le_of_ble_eq_true rfl)) d_C_spendSlice_40 ⟨by decide, by decide⟩) (fun uu14 H locs hp14 hW => ?_)
      have hW : Wd D classes (tysA g) s A (wC g ad np (cJoin v13 i)) H locs := hW
      obtain ⟨v15, ev15⟩ : ∃ z : Vs, z = cJoin v13 i := ⟨_, rfl⟩
      rw [← ev15] at hW
      have hO15 : Ok np v15 := by rw [ev15]; exact hO13.join hi
      have hfin : cSpend v i y = v15 := by
        subst ev15 ev13 ev1
        simp only [cSpend, cAgain, if_pos c_11, if_pos c_19]
      exact hret () _ _ _ _ _ _ trivial (by show Wd D classes (tysA g) s A (wC g ad np (cSpend v i y)) _ _; rw [hfin]; exact hW) (by decide) (by decide) d_C_spendSlice_43
abbrev rm_C_isOther : Room := { frames := 1, cells := 0, slots := 0, locals := 21 }
set_option maxHeartbeats 4000000 in
set_option maxRecDepth 100000 in
theorem c_C_isOther (l : Launch) {D : va_G} {g : Nat → ClassId} {ad : Nat → Nat} {np : Nat} {v : Vs} (i : Nat) (hi : i < np) (x : Int32) (hO : Ok np v) : MtI l y_C_isOther ws_C_isOther rm_C_isOther D classes (tysA g) [.ref (ad (0)), .ref (ad (68 + 3 * i)), .int (x)] (wC g ad np (v)) (fun (rr : Int32) (_ : Unit) => rr = if othP v i x then 1 else 0) (fun _ => wC g ad np (v)) 0 0 := by
  refine mt_i (ty := .boolean) (fun r _ h => by rw [h]; split <;> rfl) (by decide +kernel) rfl (Nat.le_of_ble_eq_true rfl) (fun p e s m args below meth c Q A C hA hW hret ls hl => ?_)
  obtain ⟨hx, hb, hr, hml, hown, hts0, hlocks⟩ := C
  have hts : ∀ w ∈ bigw, w.before args s = true := fun w h => hts0 w (List.mem_cons_of_mem _ h)
  have hown : s.vm.findClass R_C = some m.cls := hown
  have hnp := hO.le
  have hl : lv_has ls 3 [(0, .ref (ad (0))), (1, .ref (ad (68 + 3 * i))), (2, .int (x))] := hl
  refine lv_iload_n hx hb d_C_isOther_0 rfl (lv_at hl 2 rfl) ?_
  refine lv_aload_n hx hb d_C_isOther_1 rfl (lv_at hl 0 rfl) ?_
  refine wg hx hb hts i_C hown hW (0) (by omega) mk_root rfl 5 (by decide) (hts _ kf_C_55) rfl d_C_isOther_2 ?_
  obtain ⟨e1, b1⟩ := hO.made
  refine wci hW hA (va_runS (As := [.int (x), .int (v 0 5)]) (rest := []) ⟨hx, hb, hml, hown, hts⟩ (c_C_isIn l _ (x) (v 0 5) _) (cs 2 hts kc_C_isIn ks_C_isIn kn_C km_C_40 kh_C_isIn rfl rfl ⟨by decide, by decide⟩) (preWS hW) rfl rfl hl.1 rfl (lv_room (Nat.le_of_ble_eq_true rfl)) d_C_isOther_5 ⟨by decide, by decide⟩) (fun rr2 uu2 H locs hp2 hW => ?_)
  have hW : Wd D classes (tysA g) s A (wC g ad np (v)) H locs := hW
  have hp2 : rr2 = if inI (x) (v 0 5) then 1 else 0 := hp2
  refine lv_if_eq (tgt := 23) hx hb d_C_isOther_8 (by decide) (fun c_8 => ?_) (fun c_8 => ?_)
  · have c_8 : ¬ (inI (x) (v 0 5)) := bo_eq hp2 c_8
    refine lv_iconst (v := 0) hx hb d_C_isOther_23 (by decide) ?_
    refine hret _ () _ _ _ _ _ _ ?_ hW (by decide) (by decide) d_C_isOther_24
    show 0 = if othP v i x then (1 : Int32) else 0
    exact ite_f (fun h => c_8 h.1)
  · have c_8 : inI (x) (v 0 5) := bo_ne hp2 c_8
    obtain ⟨e3, b3⟩ := inI_nn (N := np) e1 (by omega) c_8
    refine lv_iload_n hx hb d_C_isOther_11 rfl (lv_at hl 2 rfl) ?_
    refine lv_aload_n hx hb d_C_isOther_12 rfl (lv_at hl 1 rfl) ?_
    refine wg hx hb hts i_Proc hown hW (68 + 3 * i) (by omega) mk_proc rfl 0 (by decide) (hts _ kf_C_73) rfl d_C_isOther_13 ?_
    obtain ⟨e4, b4⟩ := hO.number hi
    refine lv_icmp_eq (tgt := 23) hx hb d_C_isOther_16 (by decide) (fun c_16 => ?_) (fun c_16 => ?_)
    · have nc_16 : nn x = i := ni_eq e3 e4 (by omega) (by omega) c_16
      refine lv_iconst (v := 0) hx hb d_C_isOther_23 (by decide) ?_
      refine hret _ () _ _ _ _ _ _ ?_ hW (by decide) (by decide) d_C_isOther_24
      show 0 = if othP v i x then (1 : Int32) else 0
      exact ite_f (fun h => h.2 c_16)
    · have nc_16 : ¬ nn x = i := ni_ne e3 e4 (by omega) (by omega) c_16
      refine lv_iconst (v := 1) hx hb d_C_isOther_19 (by decide) ?_
      refine lv_goto (tgt := 24) hx hb d_C_isOther_20 (by decide) ?_
      refine hret _ () _ _ _ _ _ _ ?_ hW (by decide) (by decide) d_C_isOther_24
      show 1 = if othP v i x then (1 : Int32) else 0
      exact ite_t ⟨c_8, c_16⟩
abbrev rm_C_waitFor : Room := { frames := 2, cells := 0, slots := 0, locals := 45 }
set_option maxHeartbeats 4000000 in
set_option maxRecDepth 100000 in
theorem c_C_waitFor (l : Launch) {D : va_G} {g : Nat → ClassId} {ad : Nat → Nat} {np : Nat} {v : Vs} (i : Nat) (hi : i < np) (y : Int32) (a : Nat) (zy : y = nI a) (la : a < 4) (hO : Ok np v) : MtV l y_C_waitFor ws_C_waitFor rm_C_waitFor D classes (tysA g) [.ref (ad (0)), .ref (ad (68 + 3 * i)), .int (y)] (wC g ad np (v)) (fun _ : Unit => True) (fun _ => wC g ad np (cWait v i a)) 0 0 := by
  refine mt_v (by decide +kernel) rfl (Nat.le_of_ble_eq_true rfl) (fun p e s m args below meth c Q A C hnm hA hW hret ls hl => ?_)
  obtain ⟨hx, hb, hr, hml, hown, hts0, hlocks⟩ := C
  have hts : ∀ w ∈ bigw, w.before args s = true := fun w h => hts0 w (List.mem_cons_of_mem _ h)
  have hown : s.vm.findClass R_C = some m.cls := hown
  have hnp := hO.le
  have hl : lv_has ls 4 [(0, .ref (ad (0))), (1, .ref (ad (68 + 3 * i))), (2, .int (y))] := hl
  refine lv_aload_n hx hb d_C_waitFor_0 rfl (lv_at hl 1 rfl) ?_
  refine wg hx hb hts i_Proc hown hW (68 + 3 * i) (by omega) mk_proc rfl 2 (by decide) (hts _ kf_C_99) rfl d_C_waitFor_1 ?_
  refine lv_iload_n hx hb d_C_waitFor_4 rfl (lv_at hl 2 rfl) ?_
  refine wi hx hb hW (68 + 3 * i + 1) (by omega) mk_regs 0 rfl (a) zy (by omega) (by decide) d_C_waitFor_5 ?_
  refine lv_istore_n (lv' := [(3, .int (v (68 + 3 * i + 1) (a))), (0, .ref (ad (0))), (1, .ref (ad (68 + 3 * i))), (2, .int (y))]) hx hb d_C_waitFor_6 rfl hl (by decide) rfl (fun ls hl => ?_)
  refine lv_aload_n hx hb d_C_waitFor_7 rfl (lv_at hl 1 rfl) ?_
  refine lv_aload_n hx hb d_C_waitFor_8 rfl (lv_at hl 2 rfl) ?_
  refine lv_iload_n hx hb d_C_waitFor_9 rfl (lv_at hl 0 rfl) ?_
  refine wci hW hA (va_runV (As := [.ref (ad (68 + 3 * i)), .int (v (68 + 3 * i + 1) (a))]) (rest := []) ⟨hx, hb, hml, hown, hts⟩ (c_C_isOther l i hi (v (68 + 3 * i + 1) (a)) hO _) (cv 2 hts kc_C_isOther ki_C_isOther ke_C_isOther kn_C km_C_211 kh_C_isOther rfl rfl ⟨by decide, by decide⟩) (preW hW rfl rfl (mw_get (by omega) mk_root)) rfl rfl hl.1 rfl (lv_room (Nat.le_of_ble_eq_true rfl)) d_C_waitFor_10 ⟨by decide, by decide⟩) (fun rr1 uu1 H locs hp1 hW => ?_)
  have hW : Wd D classes (tysA g) s A (wC g ad np (v)) H locs := hW
  have hp1 : rr1 = if othP v i (v (68 + 3 * i + 1) (a)) then 1 else 0 := hp1
  refine lv_if_ne (tgt := 26) hx hb d_C_waitFor_13 (by decide) (fun c_13 => ?_) (fun c_13 => ?_)
  · have c_13 : othP v i (v (68 + 3 * i + 1) (a)) := bo_ne hp1 c_13
    obtain ⟨e2, b2⟩ := hO.oth c_13
    refine lv_aload_n hx hb d_C_waitFor_26 rfl (lv_at hl 1 rfl) ?_
    refine wg hx hb hts i_C hown hW (0) (by omega) mk_root rfl 1 (by decide) (hts _ kf_C_17) rfl d_C_waitFor_27 ?_
    refine lv_iload_n hx hb d_C_waitFor_30 rfl (lv_at hl 0 rfl) ?_
    have hi3 : nv v (68 + 3 * i + 1) (a) < np := by omega
    refine wa hx hb hW 2 (by omega) mk_processes 2 rfl (nv v (68 + 3 * i + 1) (a)) e2 (by omega) (by decide) (if_pos hi3) d_C_waitFor_31 ?_
    refine wg hx hb hts i_Proc hown hW (68 + 3 * (nv v (68 + 3 * i + 1) (a))) (by omega) mk_proc rfl 5 (by decide) (hts _ kf_C_70) rfl d_C_waitFor_32 ?_
    refine lv_iconst (v := 4) hx hb d_C_waitFor_35 (by decide) ?_
    refine lv_icmp_ne (tgt := 57) hx hb d_C_waitFor_36 (by decide) (fun c_36 => ?_) (fun c_36 => ?_)
    · refine lv_aload_n hx hb d_C_waitFor_57 rfl (lv_at hl 1 rfl) ?_
      refine lv_aload_n hx hb d_C_waitFor_58 rfl (lv_at hl 2 rfl) ?_
      refine lv_iconst (v := 3) hx hb d_C_waitFor_59 (by decide) ?_
      refine wcv hW hA (va_runV (As := [.ref (ad (68 + 3 * i)), .int (3)]) (rest := []) ⟨hx, hb, hml, hown, hts⟩ (c_C_leaveLine l i hi (3) hO _) (cv 2 hts kc_C_leaveLine ki_C_leaveLine ke_C_leaveLine kn_C km_C_153 kh_C_leaveLine rfl rfl ⟨by decide, by decide⟩) (preW hW rfl rfl (mw_get (by omega) mk_root)) rfl rfl hl.1 rfl (lv_room (Nat.le_of_ble_eq_true rfl)) d_C_waitFor_60 ⟨by decide, by decide⟩) (fun uu4 H locs hp4 hW => ?_)
      have hW : Wd D classes (tysA g) s A (wC g ad np (cLeave v i (3))) H locs := hW
      obtain ⟨v5, ev5⟩ : ∃ z : Vs, z = cLeave v i (3) := ⟨_, rfl⟩
      rw [← ev5] at hW
      have hO5 : Ok np v5 := by rw [ev5]; exact hO.leave hi
      refine lv_aload_n hx hb d_C_waitFor_63 rfl (lv_at hl 2 rfl) ?_
      refine lv_iload_n hx hb d_C_waitFor_64 rfl (lv_at hl 0 rfl) ?_
      refine wp hx hb hts i_Proc t_Proc t_Proc_ok n_Proc hown hW (68 + 3 * i) (by omega) mk_proc rfl 11 (by decide) (hts _ kf_C_157) rfl (by decide +kernel) (x := v (68 + 3 * i + 1) (a)) (Nat.le_of_ble_eq_true rfl) (mk_proc.trans rfl) d_C_waitFor_65 (fun H locs hW => ?_)
      obtain ⟨v6, ev6⟩ : ∃ z : Vs, z = u2 v5 (68 + 3 * i) 11 (v (68 + 3 * i + 1) (a)) := ⟨_, rfl⟩
      rw [← ev6] at hW
      have hO6 : Ok np v6 := by rw [ev6]; exact hO5.set (by omega) (okS_free (by omega))
      have hfin : cWait v i a = v6 := by
        subst ev6 ev5
        simp only [cWait, if_pos c_13, if_neg c_36]
      exact hret () _ _ _ _ _ _ trivial (by show Wd D classes (tysA g) s A (wC g ad np (cWait v i a)) _ _; rw [hfin]; exact hW) (by decide) (by decide) d_C_waitFor_68
    · refine lv_aload_n hx hb d_C_waitFor_39 rfl (lv_at hl 2 rfl) ?_
      refine wg hx hb hts i_Proc hown hW (68 + 3 * i) (by omega) mk_proc rfl 2 (by decide) (hts _ kf_C_99) rfl d_C_waitFor_40 ?_
      refine lv_iload_n hx hb d_C_waitFor_43 rfl (lv_at hl 3 rfl) ?_
      refine lv_aload_n hx hb d_C_waitFor_44 rfl (lv_at hl 1 rfl) ?_
      refine wg hx hb hts i_C hown hW (0) (by omega) mk_root rfl 1 (by decide) (hts _ kf_C_17) rfl d_C_waitFor_45 ?_
      refine lv_iload_n hx hb d_C_waitFor_48 rfl (lv_at hl 0 rfl) ?_
      have hi7 : nv v (68 + 3 * i + 1) (a) < np := by omega
      refine wa hx hb hW 2 (by omega) mk_processes 2 rfl (nv v (68 + 3 * i + 1) (a)) e2 (by omega) (by decide) (if_pos hi7) d_C_waitFor_49 ?_
      refine wg hx hb hts i_Proc hown hW (68 + 3 * (nv v (68 + 3 * i + 1) (a))) (by omega) mk_proc rfl 8 (by decide) (hts _ kf_C_108) rfl d_C_waitFor_50 ?_
      refine wis hx hb hW (68 + 3 * i + 1) (by omega) mk_regs 0 rfl (a) zy (by omega) (by decide) (x := v (68 + 3 * (nv v (68 + 3 * i + 1) (a))) 8) mk_regs d_C_waitFor_53 (fun H locs hW => ?_)
      obtain ⟨v8, ev8⟩ : ∃ z : Vs, z = u2 v (68 + 3 * i + 1) (a) (v (68 + 3 * (nv v (68 + 3 * i + 1) (a))) 8) := ⟨_, rfl⟩
      rw [← ev8] at hW
      have hO8 : Ok np v8 := by rw [ev8]; exact hO.set (by omega) (okS_free (by omega))
      refine lv_goto (tgt := 68) hx hb d_C_waitFor_54 (by decide) ?_
      have hfin : cWait v i a = v8 := by
        subst ev8
        simp only [cWait, if_pos c_13, if_pos c_36]
      exact hret () _ _ _ _ _ _ trivial (by show Wd D classes (tysA g) s A (wC g ad np (cWait v i a)) _ _; rw [hfin]; exact hW) (by decide) (by decide) d_C_waitFor_68
  · have c_13 : ¬ (othP v i (v (68 + 3 * i + 1) (a))) := bo_eq hp1 c_13
    refine lv_aload_n hx hb d_C_waitFor_16 rfl (lv_at hl 2 rfl) ?_
    refine wg hx hb hts i_Proc hown hW (68 + 3 * i) (by omega) mk_proc rfl 2 (by decide) (hts _ kf_C_99) rfl d_C_waitFor_17 ?_
    refine lv_iload_n hx hb d_C_waitFor_20 rfl (lv_at hl 3 rfl) ?_
    refine lv_iconst (v := (-1)) hx hb d_C_waitFor_21 (by decide) ?_
    refine wis hx hb hW (68 + 3 * i + 1) (by omega) mk_regs 0 rfl (a) zy (by omega) (by decide) (x := (-1)) mk_regs d_C_waitFor_22 (fun H locs hW => ?_)
    obtain ⟨v9, ev9⟩ : ∃ z : Vs, z = u2 v (68 + 3 * i + 1) (a) ((-1)) := ⟨_, rfl⟩
    rw [← ev9] at hW
    have hO9 : Ok np v9 := by rw [ev9]; exact hO.set (by omega) (okS_free (by omega))
    refine lv_goto (tgt := 68) hx hb d_C_waitFor_23 (by decide) ?_
    have hfin : cWait v i a = v9 := by
      subst ev9
      simp only [cWait, if_neg c_13]
    exact hret () _ _ _ _ _ _ trivial (by show Wd D classes (tysA g) s A (wC g ad np (cWait v i a)) _ _; rw [hfin]; exact hW) (by decide) (by decide) d_C_waitFor_68
abbrev rm_C_killOther : Room := { frames := 3, cells := 0, slots := 0, locals := 69 }
set_option maxHeartbeats 4000000 in
set_option maxRecDepth 100000 in
theorem c_C_killOther (l : Launch) {D : va_G} {g : Nat → ClassId} {ad : Nat → Nat} {np : Nat} {v : Vs} (i : Nat) (hi : i < np) (y : Int32) (a : Nat) (zy : y = nI a) (la : a < 4) (hO : Ok np v) : MtV l y_C_killOther ws_C_killOther rm_C_killOther D classes (tysA g) [.ref (ad (0)), .ref (ad (68 + 3 * i)), .int (y)] (wC g ad np (v)) (fun _ : Unit => True) (fun _ => wC g ad np (cKill np v i a)) 0 0 := by
  refine mt_v (by decide +kernel) rfl (Nat.le_of_ble_eq_true rfl) (fun p e s m args below meth c Q A C hnm hA hW hret ls hl => ?_)
  obtain ⟨hx, hb, hr, hml, hown, hts0, hlocks⟩ := C
  have hts : ∀ w ∈ bigw, w.before args s = true := fun w h => hts0 w (List.mem_cons_of_mem _ h)
  have hown : s.vm.findClass R_C = some m.cls := hown
  have hnp := hO.le
  have hl : lv_has ls 4 [(0, .ref (ad (0))), (1, .ref (ad (68 + 3 * i))), (2, .int (y))] := hl
  refine lv_aload_n hx hb d_C_killOther_0 rfl (lv_at hl 1 rfl) ?_
  refine wg hx hb hts i_Proc hown hW (68 + 3 * i) (by omega) mk_proc rfl 2 (by decide) (hts _ kf_C_99) rfl d_C_killOther_1 ?_
  refine lv_iload_n hx hb d_C_killOther_4 rfl (lv_at hl 2 rfl) ?_
  refine wi hx hb hW (68 + 3 * i + 1) (by omega) mk_regs 0 rfl (a) zy (by omega) (by decide) d_C_killOther_5 ?_
  refine lv_istore_n (lv' := [(3, .int (v (68 + 3 * i + 1) (a))), (0, .ref (ad (0))), (1, .ref (ad (68 + 3 * i))), (2, .int (y))]) hx hb d_C_killOther_6 rfl hl (by decide) rfl (fun ls hl => ?_)
  refine lv_aload_n hx hb d_C_killOther_7 rfl (lv_at hl 1 rfl) ?_
  refine lv_aload_n hx hb d_C_killOther_8 rfl (lv_at hl 2 rfl) ?_
  refine lv_iload_n hx hb d_C_killOther_9 rfl (lv_at hl 0 rfl) ?_
  refine wci hW hA (va_runV (As := [.ref (ad (68 + 3 * i)), .int (v (68 + 3 * i + 1) (a))]) (rest := []) ⟨hx, hb, hml, hown, hts⟩ (c_C_isOther l i hi (v (68 + 3 * i + 1) (a)) hO _) (cv 2 hts kc_C_isOther ki_C_isOther ke_C_isOther kn_C km_C_211 kh_C_isOther rfl rfl ⟨by decide, by decide⟩) (preW hW rfl rfl (mw_get (by omega) mk_root)) rfl rfl hl.1 rfl (lv_room (Nat.le_of_ble_eq_true rfl)) d_C_killOther_10 ⟨by decide, by decide⟩) (fun rr1 uu1 H locs hp1 hW => ?_)
  have hW : Wd D classes (tysA g) s A (wC g ad np (v)) H locs := hW
  have hp1 : rr1 = if othP v i (v (68 + 3 * i + 1) (a)) then 1 else 0 := hp1
  refine lv_if_eq (tgt := 29) hx hb d_C_killOther_13 (by decide) (fun c_13 => ?_) (fun c_13 => ?_)
  · have c_13 : ¬ (othP v i (v (68 + 3 * i + 1) (a))) := bo_eq hp1 c_13
    refine lv_aload_n hx hb d_C_killOther_29 rfl (lv_at hl 2 rfl) ?_
    refine wg hx hb hts i_Proc hown hW (68 + 3 * i) (by omega) mk_proc rfl 2 (by decide) (hts _ kf_C_99) rfl d_C_killOther_30 ?_
    refine lv_iload_n hx hb d_C_killOther_33 rfl (lv_at hl 3 rfl) ?_
    refine lv_iconst (v := (-1)) hx hb d_C_killOther_34 (by decide) ?_
    refine wis hx hb hW (68 + 3 * i + 1) (by omega) mk_regs 0 rfl (a) zy (by omega) (by decide) (x := (-1)) mk_regs d_C_killOther_35 (fun H locs hW => ?_)
    obtain ⟨v2, ev2⟩ : ∃ z : Vs, z = u2 v (68 + 3 * i + 1) (a) ((-1)) := ⟨_, rfl⟩
    rw [← ev2] at hW
    have hO2 : Ok np v2 := by rw [ev2]; exact hO.set (by omega) (okS_free (by omega))
    refine lv_goto (tgt := 58) hx hb d_C_killOther_36 (by decide) ?_
    have hfin : cKill np v i a = v2 := by
      subst ev2
      simp only [cKill, if_neg c_13]
    exact hret () _ _ _ _ _ _ trivial (by show Wd D classes (tysA g) s A (wC g ad np (cKill np v i a)) _ _; rw [hfin]; exact hW) (by decide) (by decide) d_C_killOther_58
  · have c_13 : othP v i (v (68 + 3 * i + 1) (a)) := bo_ne hp1 c_13
    obtain ⟨e3, b3⟩ := hO.oth c_13
    refine lv_aload_n hx hb d_C_killOther_16 rfl (lv_at hl 1 rfl) ?_
    refine wg hx hb hts i_C hown hW (0) (by omega) mk_root rfl 1 (by decide) (hts _ kf_C_17) rfl d_C_killOther_17 ?_
    refine lv_iload_n hx hb d_C_killOther_20 rfl (lv_at hl 0 rfl) ?_
    have hi4 : nv v (68 + 3 * i + 1) (a) < np := by omega
    refine wa hx hb hW 2 (by omega) mk_processes 2 rfl (nv v (68 + 3 * i + 1) (a)) e3 (by omega) (by decide) (if_pos hi4) d_C_killOther_21 ?_
    refine wg hx hb hts i_Proc hown hW (68 + 3 * (nv v (68 + 3 * i + 1) (a))) (by omega) mk_proc rfl 5 (by decide) (hts _ kf_C_70) rfl d_C_killOther_22 ?_
    refine lv_iconst (v := 4) hx hb d_C_killOther_25 (by decide) ?_
    refine lv_icmp_ne (tgt := 39) hx hb d_C_killOther_26 (by decide) (fun c_26 => ?_) (fun c_26 => ?_)
    · refine lv_aload_n hx hb d_C_killOther_39 rfl (lv_at hl 1 rfl) ?_
      refine lv_aload_n hx hb d_C_killOther_40 rfl (lv_at hl 1 rfl) ?_
      refine wg hx hb hts i_C hown hW (0) (by omega) mk_root rfl 1 (by decide) (hts _ kf_C_17) rfl d_C_killOther_41 ?_
      refine lv_iload_n hx hb d_C_killOther_44 rfl (lv_at hl 0 rfl) ?_
      have hi5 : nv v (68 + 3 * i + 1) (a) < np := by omega
      refine wa hx hb hW 2 (by omega) mk_processes 2 rfl (nv v (68 + 3 * i + 1) (a)) e3 (by omega) (by decide) (if_pos hi5) d_C_killOther_45 ?_
      refine lv_bipush (v := (-9)) hx hb d_C_killOther_46 (by decide) ?_
      refine wcv hW hA (va_runV (As := [.ref (ad (68 + 3 * (nv v (68 + 3 * i + 1) (a)))), .int ((-9))]) (rest := []) ⟨hx, hb, hml, hown, hts⟩ (c_C_endProcess l (nv v (68 + 3 * i + 1) (a)) hi5 ((-9)) hO _) (cv 2 hts kc_C_endProcess ki_C_endProcess ke_C_endProcess kn_C km_C_163 kh_C_endProcess rfl rfl ⟨by decide, by decide⟩) (preW hW rfl rfl (mw_get (by omega) mk_root)) rfl rfl hl.1 rfl (lv_room (Nat.le_of_ble_eq_true rfl)) d_C_killOther_48 ⟨by decide, by decide⟩) (fun uu6 H locs hp6 hW => ?_)
      have hW : Wd D classes (tysA g) s A (wC g ad np (cEnd np v (nv v (68 + 3 * i + 1) (a)) ((-9)))) H locs := hW
      obtain ⟨v7, ev7⟩ : ∃ z : Vs, z = cEnd np v (nv v (68 + 3 * i + 1) (a)) ((-9)) := ⟨_, rfl⟩
      rw [← ev7] at hW
      have hO7 : Ok np v7 := by rw [ev7]; exact hO.end hi5
      refine lv_aload_n hx hb d_C_killOther_51 rfl (lv_at hl 2 rfl) ?_
      refine wg hx hb hts i_Proc hown hW (68 + 3 * i) (by omega) mk_proc rfl 2 (by decide) (hts _ kf_C_99) rfl d_C_killOther_52 ?_
      refine lv_iload_n hx hb d_C_killOther_55 rfl (lv_at hl 3 rfl) ?_
      refine lv_iconst (v := 0) hx hb d_C_killOther_56 (by decide) ?_
      refine wis hx hb hW (68 + 3 * i + 1) (by omega) mk_regs 0 rfl (a) zy (by omega) (by decide) (x := 0) mk_regs d_C_killOther_57 (fun H locs hW => ?_)
      obtain ⟨v8, ev8⟩ : ∃ z : Vs, z = u2 v7 (68 + 3 * i + 1) (a) (0) := ⟨_, rfl⟩
      rw [← ev8] at hW
      have hO8 : Ok np v8 := by rw [ev8]; exact hO7.set (by omega) (okS_free (by omega))
      have hfin : cKill np v i a = v8 := by
        subst ev8 ev7
        simp only [cKill, if_pos c_13, if_neg c_26]
      exact hret () _ _ _ _ _ _ trivial (by show Wd D classes (tysA g) s A (wC g ad np (cKill np v i a)) _ _; rw [hfin]; exact hW) (by decide) (by decide) d_C_killOther_58
    · refine lv_aload_n hx hb d_C_killOther_29 rfl (lv_at hl 2 rfl) ?_
      refine wg hx hb hts i_Proc hown hW (68 + 3 * i) (by omega) mk_proc rfl 2 (by decide) (hts _ kf_C_99) rfl d_C_killOther_30 ?_
      refine lv_iload_n hx hb d_C_killOther_33 rfl (lv_at hl 3 rfl) ?_
      refine lv_iconst (v := (-1)) hx hb d_C_killOther_34 (by decide) ?_
      refine wis hx hb hW (68 + 3 * i + 1) (by omega) mk_regs 0 rfl (a) zy (by omega) (by decide) (x := (-1)) mk_regs d_C_killOther_35 (fun H locs hW => ?_)
      obtain ⟨v9, ev9⟩ : ∃ z : Vs, z = u2 v (68 + 3 * i + 1) (a) ((-1)) := ⟨_, rfl⟩
      rw [← ev9] at hW
      have hO9 : Ok np v9 := by rw [ev9]; exact hO.set (by omega) (okS_free (by omega))
      refine lv_goto (tgt := 58) hx hb d_C_killOther_36 (by decide) ?_
      have hfin : cKill np v i a = v9 := by
        subst ev9
        simp only [cKill, if_pos c_13, if_pos c_26]
      exact hret () _ _ _ _ _ _ trivial (by show Wd D classes (tysA g) s A (wC g ad np (cKill np v i a)) _ _; rw [hfin]; exact hW) (by decide) (by decide) d_C_killOther_58
abbrev rm_C_accessMemory : Room := { frames := 2, cells := 0, slots := 0, locals := 42 }
set_option maxHeartbeats 4000000 in
set_option maxRecDepth 100000 in
theorem c_C_accessMemory (l : Launch) {D : va_G} {g : Nat → ClassId} {ad : Nat → Nat} {np : Nat} {v : Vs} (i : Nat) (hi : i < np) (op : Int32) (y : Int32) (a : Nat) (zy : y = nI a) (la : a < 4) (z : Int32) (b : Nat) (zz : z = nI b) (lb : b < 4) (hO : Ok np v) : MtV l y_C_accessMemory ws_C_accessMemory rm_C_accessMemory D classes (tysA g) [.ref (ad (0)), .ref (ad (68 + 3 * i)), .int (op), .int (y), .int (z)] (wC g ad np (v)) (fun _ : Unit => True) (fun _ => wC g ad np (cAcc v i op a b)) 0 0 := by
  refine mt_v (by decide +kernel) rfl (Nat.le_of_ble_eq_true rfl) (fun p e s m args below meth c Q A C hnm hA hW hret ls hl => ?_)
  obtain ⟨hx, hb, hr, hml, hown, hts0, hlocks⟩ := C
  have hts : ∀ w ∈ bigw, w.before args s = true := fun w h => hts0 w (List.mem_cons_of_mem _ h)
  have hown : s.vm.findClass R_C = some m.cls := hown
  have hnp := hO.le
  have hl : lv_has ls 7 [(0, .ref (ad (0))), (1, .ref (ad (68 + 3 * i))), (2, .int (op)), (3, .int (y)), (4, .int (z))] := hl
  refine lv_aload_n hx hb d_C_accessMemory_0 rfl (lv_at hl 1 rfl) ?_
  refine wg hx hb hts i_Proc hown hW (68 + 3 * i) (by omega) mk_proc rfl 2 (by decide) (hts _ kf_C_99) rfl d_C_accessMemory_1 ?_
  refine lv_astore (lv' := [(5, .ref (ad (68 + 3 * i + 1))), (0, .ref (ad (0))), (1, .ref (ad (68 + 3 * i))), (2, .int (op)), (3, .int (y)), (4, .int (z))]) hx hb d_C_accessMemory_4 hl (by decide) rfl (fun ls hl => ?_)
  refine lv_aload hx hb d_C_accessMemory_6 (lv_at hl 0 rfl) ?_
  refine lv_iload hx hb d_C_accessMemory_8 (lv_at hl 5 rfl) ?_
  refine wi hx hb hW (68 + 3 * i + 1) (by omega) mk_regs 0 rfl (b) zz (by omega) (by decide) d_C_accessMemory_10 ?_
  refine wci hW hA (va_runS (As := [.int (v (68 + 3 * i + 1) (b))]) (rest := []) ⟨hx, hb, hml, hown, hts⟩ (c_C_addressOf l _ (v (68 + 3 * i + 1) (b)) _) (cs 1 hts kc_C_addressOf ks_C_addressOf kn_C km_C_179 kh_C_addressOf rfl rfl ⟨by decide, by decide⟩) (preWS hW) rfl rfl hl.1 rfl (lv_room (Nat.le_of_ble_eq_true rfl)) d_C_accessMemory_11 ⟨by decide, by decide⟩) (fun rr1 uu1 H locs hp1 hW => ?_)
  have hW : Wd D classes (tysA g) s A (wC g ad np (v)) H locs := hW
  have hp1 : rr1 = fmod (v (68 + 3 * i + 1) (b)) 32 := hp1
  subst hp1
  have hbl := bl_lt (v (68 + 3 * i + 1) (b)) 31
  refine lv_istore (lv' := [(6, .int (fmod (v (68 + 3 * i + 1) (b)) 32)), (5, .ref (ad (68 + 3 * i + 1))), (0, .ref (ad (0))), (1, .ref (ad (68 + 3 * i))), (2, .int (op)), (3, .int (y)), (4, .int (z))]) hx hb d_C_accessMemory_14 hl (by decide) rfl (fun ls hl => ?_)
  refine lv_aload_n hx hb d_C_accessMemory_16 rfl (lv_at hl 2 rfl) ?_
  refine lv_aload_n hx hb d_C_accessMemory_17 rfl (lv_at hl 2 rfl) ?_
  refine wg hx hb hts i_C hown hW (0) (by omega) mk_root rfl 3 (by decide) (hts _ kf_C_29) rfl d_C_accessMemory_18 ?_
  refine lv_iload hx hb d_C_accessMemory_21 (lv_at hl 0 rfl) ?_
  refine lv_iconst (v := 4) hx hb d_C_accessMemory_23 (by decide) ?_
  refine lv_idiv hx hb d_C_accessMemory_24 (by decide) ?_
  have hi2 : (bl (v (68 + 3 * i + 1) (b)) 31) / 4 < 8 := by omega
  refine wa hx hb hW 4 (by omega) mk_pages 4 rfl ((bl (v (68 + 3 * i + 1) (b)) 31) / 4) (ni_div (fmod32 _) rfl (by omega) (by decide) (by decide)) (by omega) (by decide) (if_pos hi2) d_C_accessMemory_25 ?_
  refine lv_aload_n hx hb d_C_accessMemory_26 rfl (lv_at hl 3 rfl) ?_
  refine wg hx hb hts i_Proc hown hW (68 + 3 * i) (by omega) mk_proc rfl 4 (by decide) (hts _ kf_C_88) rfl d_C_accessMemory_27 ?_
  obtain ⟨e3, b3⟩ := hO.place hi
  refine wcv hW hA (va_runV (As := [.ref (ad (28 + 5 * ((bl (v (68 + 3 * i + 1) (b)) 31) / 4))), .int (v (68 + 3 * i) 4)]) (rest := []) ⟨hx, hb, hml, hown, hts⟩ (c_C_usePage l ((bl (v (68 + 3 * i + 1) (b)) 31) / 4) hi2 (v (68 + 3 * i) 4) (nv v (68 + 3 * i) 4) e3 (by omega) hO _) (cv 2 hts kc_C_usePage ki_C_usePage ke_C_usePage kn_C km_C_207 kh_C_usePage rfl rfl ⟨by decide, by decide⟩) (preW hW rfl rfl (mw_get (by omega) mk_root)) rfl rfl hl.1 rfl (lv_room (Nat.le_of_ble_eq_true rfl)) d_C_accessMemory_30 ⟨by decide, by decide⟩) (fun uu4 H locs hp4 hW => ?_)
  have hW : Wd D classes (tysA g) s A (wC g ad np (cUse v ((bl (v (68 + 3 * i + 1) (b)) 31) / 4) (nv v (68 + 3 * i) 4))) H locs := hW
  obtain ⟨v5, ev5⟩ : ∃ z : Vs, z = cUse v ((bl (v (68 + 3 * i + 1) (b)) 31) / 4) (nv v (68 + 3 * i) 4) := ⟨_, rfl⟩
  rw [← ev5] at hW
  have hO5 : Ok np v5 := by rw [ev5]; exact hO.use hi2
  refine lv_iload_n hx hb d_C_accessMemory_33 rfl (lv_at hl 4 rfl) ?_
  refine lv_iconst (v := 2) hx hb d_C_accessMemory_34 (by decide) ?_
  refine lv_icmp_ne (tgt := 52) hx hb d_C_accessMemory_35 (by decide) (fun c_35 => ?_) (fun c_35 => ?_)
  · refine lv_iload_n hx hb d_C_accessMemory_52 rfl (lv_at hl 4 rfl) ?_
    refine lv_iconst (v := 3) hx hb d_C_accessMemory_53 (by decide) ?_
    refine lv_icmp_ne (tgt := 71) hx hb d_C_accessMemory_54 (by decide) (fun c_54 => ?_) (fun c_54 => ?_)
    · refine lv_aload_n hx hb d_C_accessMemory_71 rfl (lv_at hl 2 rfl) ?_
      refine wg hx hb hts i_C hown hW (0) (by omega) mk_root rfl 4 (by decide) (hts _ kf_C_33) rfl d_C_accessMemory_72 ?_
      refine lv_iload hx hb d_C_accessMemory_75 (lv_at hl 0 rfl) ?_
      refine wi hx hb hW (5) (by omega) mk_memory 0 rfl (bl (v (68 + 3 * i + 1) (b)) 31) (fmod32 _) (by omega) (by decide) d_C_accessMemory_77 ?_
      refine lv_aload hx hb d_C_accessMemory_78 (lv_at hl 1 rfl) ?_
      refine lv_iconst (v := 3) hx hb d_C_accessMemory_80 (by decide) ?_
      refine wi hx hb hW (68 + 3 * i + 1) (by omega) mk_regs 0 rfl (3) rfl (by omega) (by decide) d_C_accessMemory_81 ?_
      refine lv_icmp_ne (tgt := 104) hx hb d_C_accessMemory_82 (by decide) (fun c_82 => ?_) (fun c_82 => ?_)
      · refine lv_aload hx hb d_C_accessMemory_104 (lv_at hl 1 rfl) ?_
        refine lv_iconst (v := 3) hx hb d_C_accessMemory_106 (by decide) ?_
        refine lv_iconst (v := 0) hx hb d_C_accessMemory_107 (by decide) ?_
        refine wis hx hb hW (68 + 3 * i + 1) (by omega) mk_regs 0 rfl (3) rfl (by omega) (by decide) (x := 0) mk_regs d_C_accessMemory_108 (fun H locs hW => ?_)
        obtain ⟨v6, ev6⟩ : ∃ z : Vs, z = u2 v5 (68 + 3 * i + 1) (3) (0) := ⟨_, rfl⟩
        rw [← ev6] at hW
        have hO6 : Ok np v6 := by rw [ev6]; exact hO5.set (by omega) (okS_free (by omega))
        have hfin : cAcc v i op a b = v6 := by
          subst ev6 ev5
          simp only [cAcc, if_neg c_35, if_neg c_54, if_neg c_82]
        exact hret () _ _ _ _ _ _ trivial (by show Wd D classes (tysA g) s A (wC g ad np (cAcc v i op a b)) _ _; rw [hfin]; exact hW) (by decide) (by decide) d_C_accessMemory_109
      · refine lv_aload_n hx hb d_C_accessMemory_85 rfl (lv_at hl 2 rfl) ?_
        refine wg hx hb hts i_C hown hW (0) (by omega) mk_root rfl 4 (by decide) (hts _ kf_C_33) rfl d_C_accessMemory_86 ?_
        refine lv_iload hx hb d_C_accessMemory_89 (lv_at hl 0 rfl) ?_
        refine lv_aload hx hb d_C_accessMemory_91 (lv_at hl 1 rfl) ?_
        refine lv_iload_n hx hb d_C_accessMemory_93 rfl (lv_at hl 5 rfl) ?_
        refine wi hx hb hW (68 + 3 * i + 1) (by omega) mk_regs 0 rfl (a) zy (by omega) (by decide) d_C_accessMemory_94 ?_
        refine wis hx hb hW (5) (by omega) mk_memory 0 rfl (bl (v (68 + 3 * i + 1) (b)) 31) (fmod32 _) (by omega) (by decide) (x := v5 (68 + 3 * i + 1) (a)) mk_memory d_C_accessMemory_95 (fun H locs hW => ?_)
        obtain ⟨v7, ev7⟩ : ∃ z : Vs, z = u2 v5 (5) (bl (v (68 + 3 * i + 1) (b)) 31) (v5 (68 + 3 * i + 1) (a)) := ⟨_, rfl⟩
        rw [← ev7] at hW
        have hO7 : Ok np v7 := by rw [ev7]; exact hO5.set (by omega) (okS_free (by omega))
        refine lv_aload hx hb d_C_accessMemory_96 (lv_at hl 1 rfl) ?_
        refine lv_iconst (v := 3) hx hb d_C_accessMemory_98 (by decide) ?_
        refine lv_iconst (v := 1) hx hb d_C_accessMemory_99 (by decide) ?_
        refine wis hx hb hW (68 + 3 * i + 1) (by omega) mk_regs 0 rfl (3) rfl (by omega) (by decide) (x := 1) mk_regs d_C_accessMemory_100 (fun H locs hW => ?_)
        obtain ⟨v8, ev8⟩ : ∃ z : Vs, z = u2 v7 (68 + 3 * i + 1) (3) (1) := ⟨_, rfl⟩
        rw [← ev8] at hW
        have hO8 : Ok np v8 := by rw [ev8]; exact hO7.set (by omega) (okS_free (by omega))
        refine lv_goto (tgt := 109) hx hb d_C_accessMemory_101 (by decide) ?_
        have hfin : cAcc v i op a b = v8 := by
          subst ev8 ev7 ev5
          simp only [cAcc, if_neg c_35, if_neg c_54, if_pos c_82]
        exact hret () _ _ _ _ _ _ trivial (by show Wd D classes (tysA g) s A (wC g ad np (cAcc v i op a b)) _ _; rw [hfin]; exact hW) (by decide) (by decide) d_C_accessMemory_109
    · refine lv_aload_n hx hb d_C_accessMemory_57 rfl (lv_at hl 2 rfl) ?_
      refine wg hx hb hts i_C hown hW (0) (by omega) mk_root rfl 4 (by decide) (hts _ kf_C_33) rfl d_C_accessMemory_58 ?_
      refine lv_iload hx hb d_C_accessMemory_61 (lv_at hl 0 rfl) ?_
      refine lv_aload hx hb d_C_accessMemory_63 (lv_at hl 1 rfl) ?_
      refine lv_iload_n hx hb d_C_accessMemory_65 rfl (lv_at hl 5 rfl) ?_
      refine wi hx hb hW (68 + 3 * i + 1) (by omega) mk_regs 0 rfl (a) zy (by omega) (by decide) d_C_accessMemory_66 ?_
      refine wis hx hb hW (5) (by omega) mk_memory 0 rfl (bl (v (68 + 3 * i + 1) (b)) 31) (fmod32 _) (by omega) (by decide) (x := v5 (68 + 3 * i + 1) (a)) mk_memory d_C_accessMemory_67 (fun H locs hW => ?_)
      obtain ⟨v9, ev9⟩ : ∃ z : Vs, z = u2 v5 (5) (bl (v (68 + 3 * i + 1) (b)) 31) (v5 (68 + 3 * i + 1) (a)) := ⟨_, rfl⟩
      rw [← ev9] at hW
      have hO9 : Ok np v9 := by rw [ev9]; exact hO5.set (by omega) (okS_free (by omega))
      refine lv_goto (tgt := 109) hx hb d_C_accessMemory_68 (by decide) ?_
      have hfin : cAcc v i op a b = v9 := by
        subst ev9 ev5
        simp only [cAcc, if_neg c_35, if_pos c_54]
      exact hret () _ _ _ _ _ _ trivial (by show Wd D classes (tysA g) s A (wC g ad np (cAcc v i op a b)) _ _; rw [hfin]; exact hW) (by decide) (by decide) d_C_accessMemory_109
  · refine lv_aload hx hb d_C_accessMemory_38 (lv_at hl 1 rfl) ?_
    refine lv_iload_n hx hb d_C_accessMemory_40 rfl (lv_at hl 5 rfl) ?_
    refine lv_aload_n hx hb d_C_accessMemory_41 rfl (lv_at hl 2 rfl) ?_
    refine wg hx hb hts i_C hown hW (0) (by omega) mk_root rfl 4 (by decide) (hts _ kf_C_33) rfl d_C_accessMemory_42 ?_
    refine lv_iload hx hb d_C_accessMemory_45 (lv_at hl 0 rfl) ?_
    refine wi hx hb hW (5) (by omega) mk_memory 0 rfl (bl (v (68 + 3 * i + 1) (b)) 31) (fmod32 _) (by omega) (by decide) d_C_accessMemory_47 ?_
    refine wis hx hb hW (68 + 3 * i + 1) (by omega) mk_regs 0 rfl (a) zy (by omega) (by decide) (x := v5 (5) (bl (v (68 + 3 * i + 1) (b)) 31)) mk_regs d_C_accessMemory_48 (fun H locs hW => ?_)
    obtain ⟨v10, ev10⟩ : ∃ z : Vs, z = u2 v5 (68 + 3 * i + 1) (a) (v5 (5) (bl (v (68 + 3 * i + 1) (b)) 31)) := ⟨_, rfl⟩
    rw [← ev10] at hW
    have hO10 : Ok np v10 := by rw [ev10]; exact hO5.set (by omega) (okS_free (by omega))
    refine lv_goto (tgt := 109) hx hb d_C_accessMemory_49 (by decide) ?_
    have hfin : cAcc v i op a b = v10 := by
      subst ev10 ev5
      simp only [cAcc, if_pos c_35]
    exact hret () _ _ _ _ _ _ trivial (by show Wd D classes (tysA g) s A (wC g ad np (cAcc v i op a b)) _ _; rw [hfin]; exact hW) (by decide) (by decide) d_C_accessMemory_109
abbrev rm_Page_lowestWithRight : Room := { frames := 0, cells := 0, slots := 0, locals := 0 }
set_option maxHeartbeats 4000000 in
set_option maxRecDepth 100000 in
theorem c_Page_lowestWithRight (l : Launch) {D : va_G} {g : Nat → ClassId} {ad : Nat → Nat} {np : Nat} {v : Vs} (j : Nat) (hj : j < 8) (hO : Ok np v) : MtI l y_Page_lowestWithRight ws_Page_lowestWithRight rm_Page_lowestWithRight D classes (tysA g) [.ref (ad (28 + 5 * j))] (wC g ad np (v)) (fun (rr : Int32) (_ : Unit) => rr = cLow v j) (fun _ => wC g ad np (v)) 0 0 := by
  refine mt_i (ty := .int) (fun _ _ _ => rfl) (by decide +kernel) rfl (Nat.le_of_ble_eq_true rfl) (fun p e s m args below meth c Q A C hA hW hret ls hl => ?_)
  obtain ⟨hx, hb, hr, hml, hown, hts0, hlocks⟩ := C
  have hts : ∀ w ∈ bigw, w.before args s = true := fun w h => hts0 w (List.mem_cons_of_mem _ h)
  have hown : s.vm.findClass R_Page = some m.cls := hown
  have hnp := hO.le
  have hl : lv_has ls 2 [(0, .ref (ad (28 + 5 * j)))] := hl
  refine lv_iconst (v := 0) hx hb d_Page_lowestWithRight_0 (by decide) ?_
  refine lv_istore_n (lv' := [(1, .int (0)), (0, .ref (ad (28 + 5 * j)))]) hx hb d_Page_lowestWithRight_1 rfl hl (by decide) rfl (fun ls hl => ?_)
  have loop : ∀ (r : Nat) (t : Nat) (H : Heap) (locs : List Loc) (ls : Array Slot), 3 = t + r → cLowL v j r t = cLow v j → Wd D classes (tysA g) s A (wC g ad np (v)) H locs → lv_has ls 2 [(0, .ref (ad (28 + 5 * j))), (1, .int (nI (t)))] → W p l e rm_Page_lowestWithRight s m args below meth c H locs 0 0 Q (F0 m 2 ls []) := by
    intro r
    induction r with
    | zero =>
      intro t H locs ls h3 hT hW hl
      refine lv_iload_n hx hb d_Page_lowestWithRight_2 rfl (lv_at hl 1 rfl) ?_
      refine lv_iconst (v := 3) hx hb d_Page_lowestWithRight_3 (by decide) ?_
      refine lv_icmp_ge (tgt := 24) hx hb d_Page_lowestWithRight_4 (by decide) (fun c_4 => ?_) (fun c_4 => ?_)
      · have nc_4 : 3 ≤ t := ni_le rfl rfl (by omega) (by omega) c_4
        refine lv_iconst (v := 3) hx hb d_Page_lowestWithRight_24 (by decide) ?_
        exact hret _ () _ _ _ _ _ _ (show (3 : Int32) = cLow v j by rw [← hT]; rfl) hW (by decide) (by decide) d_Page_lowestWithRight_25
      · have nc_4 : t < 3 := ni_nle rfl rfl (by omega) (by omega) c_4
        exfalso; omega
    | succ r ih =>
      intro t H locs ls h3 hT hW hl
      refine lv_iload_n hx hb d_Page_lowestWithRight_2 rfl (lv_at hl 1 rfl) ?_
      refine lv_iconst (v := 3) hx hb d_Page_lowestWithRight_3 (by decide) ?_
      refine lv_icmp_ge (tgt := 24) hx hb d_Page_lowestWithRight_4 (by decide) (fun c_4 => ?_) (fun c_4 => ?_)
      · have nc_4 : 3 ≤ t := ni_le rfl rfl (by omega) (by omega) c_4
        exfalso; omega
      · have nc_4 : t < 3 := ni_nle rfl rfl (by omega) (by omega) c_4
        refine lv_aload_n hx hb d_Page_lowestWithRight_7 rfl (lv_at hl 0 rfl) ?_
        refine wg hx hb hts i_Page hown hW (28 + 5 * j) (by omega) (mk_page hj) rfl 0 (by decide) (hts _ kf_Page_9) rfl d_Page_lowestWithRight_8 ?_
        refine lv_iload_n hx hb d_Page_lowestWithRight_11 rfl (lv_at hl 1 rfl) ?_
        refine wi hx hb hW (28 + 5 * j + 1) (by omega) (mk_rights hj) 0 rfl (t) rfl (by omega) (by decide) d_Page_lowestWithRight_12 ?_
        refine lv_if_eq (tgt := 18) hx hb d_Page_lowestWithRight_13 (by decide) (fun c_13 => ?_) (fun c_13 => ?_)
        · refine lv_iinc (v := nI (t + 1)) (lv' := [(1, .int (nI (t + 1))), (0, .ref (ad (28 + 5 * j)))]) hx hb d_Page_lowestWithRight_18 hl (k := 1) rfl (nI_1 _) (by decide) rfl (fun ls hl => ?_)
          refine lv_goto (tgt := 2) hx hb d_Page_lowestWithRight_21 (by decide) ?_
          refine ih (t + 1) _ _ _ (by omega) ?_ hW (lv_sub hl [1, 0] rfl)
          rw [← hT, cLowL, if_pos c_13]
        · refine lv_iload_n hx hb d_Page_lowestWithRight_16 rfl (lv_at hl 1 rfl) ?_
          exact hret _ () _ _ _ _ _ _ (show nI t = cLow v j by rw [← hT, cLowL, if_neg c_13]) hW (by decide) (by decide) d_Page_lowestWithRight_17
  exact loop 3 0 _ _ _ rfl rfl hW (lv_sub hl [1, 0] rfl)
abbrev rm_C_giveUp : Room := { frames := 1, cells := 0, slots := 0, locals := 21 }
set_option maxHeartbeats 4000000 in
set_option maxRecDepth 100000 in
theorem c_C_giveUp (l : Launch) {D : va_G} {g : Nat → ClassId} {ad : Nat → Nat} {np : Nat} {v : Vs} (j : Nat) (hj : j < 8) (x : Int32) (n : Nat) (zx : x = nI n) (ln : n < 3) (hO : Ok np v) : MtV l y_C_giveUp ws_C_giveUp rm_C_giveUp D classes (tysA g) [.ref (ad (0)), .ref (ad (28 + 5 * j)), .int (x)] (wC g ad np (v)) (fun _ : Unit => True) (fun _ => wC g ad np (cGive v j x n)) 0 0 := by
  refine mt_v (by decide +kernel) rfl (Nat.le_of_ble_eq_true rfl) (fun p e s m args below meth c Q A C hnm hA hW hret ls hl => ?_)
  obtain ⟨hx, hb, hr, hml, hown, hts0, hlocks⟩ := C
  have hts : ∀ w ∈ bigw, w.before args s = true := fun w h => hts0 w (List.mem_cons_of_mem _ h)
  have hown : s.vm.findClass R_C = some m.cls := hown
  have hnp := hO.le
  have hl : lv_has ls 3 [(0, .ref (ad (0))), (1, .ref (ad (28 + 5 * j))), (2, .int (x))] := hl
  refine lv_aload_n hx hb d_C_giveUp_0 rfl (lv_at hl 0 rfl) ?_
  refine lv_dup hx hb d_C_giveUp_1 rfl ?_
  refine wg hx hb hts i_C hown hW (0) (by omega) mk_root rfl 9 (by decide) (hts _ kf_C_130) rfl d_C_giveUp_2 ?_
  refine lv_iconst (v := 1) hx hb d_C_giveUp_5 (by decide) ?_
  refine lv_iadd hx hb d_C_giveUp_6 ?_
  refine wp hx hb hts i_C t_C t_C_ok n_C hown hW (0) (by omega) mk_root rfl 9 (by decide) (hts _ kf_C_130) rfl (by decide +kernel) (x := (v 0 9) + (1)) (Nat.le_of_ble_eq_true rfl) (mk_root.trans rfl) d_C_giveUp_7 (fun H locs hW => ?_)
  obtain ⟨v1, ev1⟩ : ∃ z : Vs, z = u2 v (0) 9 ((v 0 9) + (1)) := ⟨_, rfl⟩
  rw [← ev1] at hW
  have hO1 : Ok np v1 := by rw [ev1]; exact hO.set (by omega) (okS_free (by omega))
  refine lv_aload_n hx hb d_C_giveUp_10 rfl (lv_at hl 1 rfl) ?_
  refine wg hx hb hts i_Page hown hW (28 + 5 * j) (by omega) (mk_page hj) rfl 0 (by decide) (hts _ kf_C_118) rfl d_C_giveUp_11 ?_
  refine lv_iload_n hx hb d_C_giveUp_14 rfl (lv_at hl 2 rfl) ?_
  refine lv_iconst (v := 0) hx hb d_C_giveUp_15 (by decide) ?_
  refine wis hx hb hW (28 + 5 * j + 1) (by omega) (mk_rights hj) 0 rfl (n) zx (by omega) (by decide) (x := 0) (mk_rights hj) d_C_giveUp_16 (fun H locs hW => ?_)
  obtain ⟨v2, ev2⟩ : ∃ z : Vs, z = u2 v1 (28 + 5 * j + 1) (n) (0) := ⟨_, rfl⟩
  rw [← ev2] at hW
  have hO2 : Ok np v2 := by rw [ev2]; exact hO1.set (by omega) (okS_free (by omega))
  refine lv_aload_n hx hb d_C_giveUp_17 rfl (lv_at hl 1 rfl) ?_
  refine wg hx hb hts i_Page hown hW (28 + 5 * j) (by omega) (mk_page hj) rfl 3 (by decide) (hts _ kf_C_121) rfl d_C_giveUp_18 ?_
  refine lv_iload_n hx hb d_C_giveUp_21 rfl (lv_at hl 2 rfl) ?_
  refine lv_icmp_ne (tgt := 55) hx hb d_C_giveUp_22 (by decide) (fun c_22 => ?_) (fun c_22 => ?_)
  · have hfin : cGive v j x n = v2 := by
      subst ev2 ev1
      simp only [cGive, if_neg c_22]
    exact hret () _ _ _ _ _ _ trivial (by show Wd D classes (tysA g) s A (wC g ad np (cGive v j x n)) _ _; rw [hfin]; exact hW) (by decide) (by decide) d_C_giveUp_55
  · refine lv_aload_n hx hb d_C_giveUp_25 rfl (lv_at hl 1 rfl) ?_
    refine lv_aload_n hx hb d_C_giveUp_26 rfl (lv_at hl 1 rfl) ?_
    refine wci hW hA (va_runV (As := []) (rest := [.ref (ad (28 + 5 * j))]) ⟨hx, hb, hml, hown, hts⟩ (c_Page_lowestWithRight l j hj hO2 _) (cv 0 hts kc_Page_lowestWithRight ki_Page_lowestWithRight ke_Page_lowestWithRight kn_Page km_C_233 kh_Page_lowestWithRight rfl rfl ⟨by decide, by decide⟩) (preW hW rfl rfl (mw_get (by omega) (mk_page hj))) rfl rfl hl.1 rfl (lv_room (Nat.le_of_ble_eq_true rfl)) d_C_giveUp_27 ⟨by decide, by decide⟩) (fun rr3 uu3 H locs hp3 hW => ?_)
    have hW : Wd D classes (tysA g) s A (wC g ad np (v2)) H locs := hW
    have hp3 : rr3 = cLow v2 j := hp3
    subst hp3
    refine wp hx hb hts i_Page t_Page t_Page_ok n_Page hown hW (28 + 5 * j) (by omega) (mk_page hj) rfl 3 (by decide) (hts _ kf_C_121) rfl (by decide +kernel) (x := cLow v2 j) (Nat.le_of_ble_eq_true rfl) ((mk_page hj).trans rfl) d_C_giveUp_30 (fun H locs hW => ?_)
    obtain ⟨v4, ev4⟩ : ∃ z : Vs, z = u2 v2 (28 + 5 * j) 3 (cLow v2 j) := ⟨_, rfl⟩
    rw [← ev4] at hW
    have hO4 : Ok np v4 := by rw [ev4]; exact hO2.set (by omega) (okS_free (by omega))
    refine lv_aload_n hx hb d_C_giveUp_33 rfl (lv_at hl 0 rfl) ?_
    refine lv_dup hx hb d_C_giveUp_34 rfl ?_
    refine wg hx hb hts i_C hown hW (0) (by omega) mk_root rfl 7 (by decide) (hts _ kf_C_124) rfl d_C_giveUp_35 ?_
    refine lv_aload_n hx hb d_C_giveUp_38 rfl (lv_at hl 1 rfl) ?_
    refine wg hx hb hts i_Page hown hW (28 + 5 * j) (by omega) (mk_page hj) rfl 3 (by decide) (hts _ kf_C_121) rfl d_C_giveUp_39 ?_
    refine lv_iconst (v := 3) hx hb d_C_giveUp_42 (by decide) ?_
    refine lv_icmp_ne (tgt := 50) hx hb d_C_giveUp_43 (by decide) (fun c_43 => ?_) (fun c_43 => ?_)
    · refine lv_iconst (v := 0) hx hb d_C_giveUp_50 (by decide) ?_
      refine lv_iadd hx hb d_C_giveUp_51 ?_
      refine wp hx hb hts i_C t_C t_C_ok n_C hown hW (0) (by omega) mk_root rfl 7 (by decide) (hts _ kf_C_124) rfl (by decide +kernel) (x := (v4 0 7) + (0)) (Nat.le_of_ble_eq_true rfl) (mk_root.trans rfl) d_C_giveUp_52 (fun H locs hW => ?_)
      obtain ⟨v5, ev5⟩ : ∃ z : Vs, z = u2 v4 (0) 7 ((v4 0 7) + (0)) := ⟨_, rfl⟩
      rw [← ev5] at hW
      have hO5 : Ok np v5 := by rw [ev5]; exact hO4.set (by omega) (okS_free (by omega))
      have hfin : cGive v j x n = v5 := by
        subst ev5 ev4 ev2 ev1
        simp only [cGive, if_pos c_22, if_neg c_43]
      exact hret () _ _ _ _ _ _ trivial (by show Wd D classes (tysA g) s A (wC g ad np (cGive v j x n)) _ _; rw [hfin]; exact hW) (by decide) (by decide) d_C_giveUp_55
    · refine lv_iconst (v := 1) hx hb d_C_giveUp_46 (by decide) ?_
      refine lv_goto (tgt := 51) hx hb d_C_giveUp_47 (by decide) ?_
      refine lv_iadd hx hb d_C_giveUp_51 ?_
      refine wp hx hb hts i_C t_C t_C_ok n_C hown hW (0) (by omega) mk_root rfl 7 (by decide) (hts _ kf_C_124) rfl (by decide +kernel) (x := (v4 0 7) + (1)) (Nat.le_of_ble_eq_true rfl) (mk_root.trans rfl) d_C_giveUp_52 (fun H locs hW => ?_)
      obtain ⟨v6, ev6⟩ : ∃ z : Vs, z = u2 v4 (0) 7 ((v4 0 7) + (1)) := ⟨_, rfl⟩
      rw [← ev6] at hW
      have hO6 : Ok np v6 := by rw [ev6]; exact hO4.set (by omega) (okS_free (by omega))
      have hfin : cGive v j x n = v6 := by
        subst ev6 ev4 ev2 ev1
        simp only [cGive, if_pos c_22, if_pos c_43]
      exact hret () _ _ _ _ _ _ trivial (by show Wd D classes (tysA g) s A (wC g ad np (cGive v j x n)) _ _; rw [hfin]; exact hW) (by decide) (by decide) d_C_giveUp_55
abbrev rm_Page_giveWrite : Room := { frames := 0, cells := 0, slots := 0, locals := 0 }
set_option maxHeartbeats 4000000 in
set_option maxRecDepth 100000 in
theorem c_Page_giveWrite (l : Launch) {D : va_G} {g : Nat → ClassId} {ad : Nat → Nat} {np : Nat} {v : Vs} (j : Nat) (hj : j < 8) (x : Int32) (n : Nat) (zx : x = nI n) (ln : n < 3) (hO : Ok np v) : MtI l y_Page_giveWrite ws_Page_giveWrite rm_Page_giveWrite D classes (tysA g) [.ref (ad (28 + 5 * j)), .int (x)] (wC g ad np (v)) (fun (rr : Int32) (_ : Unit) => rr = (cGW v j x n).1) (fun _ => wC g ad np ((cGW v j x n).2)) 0 0 := by
  refine mt_i (ty := .int) (fun _ _ _ => rfl) (by decide +kernel) rfl (Nat.le_of_ble_eq_true rfl) (fun p e s m args below meth c Q A C hA hW hret ls hl => ?_)
  obtain ⟨hx, hb, hr, hml, hown, hts0, hlocks⟩ := C
  have hts : ∀ w ∈ bigw, w.before args s = true := fun w h => hts0 w (List.mem_cons_of_mem _ h)
  have hown : s.vm.findClass R_Page = some m.cls := hown
  have hnp := hO.le
  have hl : lv_has ls 4 [(0, .ref (ad (28 + 5 * j))), (1, .int (x))] := hl
  refine lv_iconst (v := 0) hx hb d_Page_giveWrite_0 (by decide) ?_
  refine lv_istore_n (lv' := [(2, .int (0)), (0, .ref (ad (28 + 5 * j))), (1, .int (x))]) hx hb d_Page_giveWrite_1 rfl hl (by decide) rfl (fun ls hl => ?_)
  refine lv_iconst (v := 0) hx hb d_Page_giveWrite_2 (by decide) ?_
  refine lv_istore_n (lv' := [(3, .int (0)), (2, .int (0)), (0, .ref (ad (28 + 5 * j))), (1, .int (x))]) hx hb d_Page_giveWrite_3 rfl hl (by decide) rfl (fun ls hl => ?_)
  have loop : ∀ (r : Nat) (t : Nat) (lost : Int32) (vc : Vs) (H : Heap) (locs : List Loc) (ls : Array Slot), Ok np vc → 3 = t + r → cGWL j x r t lost vc = cGWL j x 3 0 0 v → Wd D classes (tysA g) s A (wC g ad np (vc)) H locs → lv_has ls 4 [(0, .ref (ad (28 + 5 * j))), (1, .int (x)), (2, .int (lost)), (3, .int (nI (t)))] → W p l e rm_Page_giveWrite s m args below meth c H locs 0 0 Q (F0 m 4 ls []) := by
    intro r
    induction r with
    | zero =>
      intro t lost vc H locs ls hOc h3 hT hW hl
      refine lv_iload_n hx hb d_Page_giveWrite_4 rfl (lv_at hl 3 rfl) ?_
      refine lv_iconst (v := 3) hx hb d_Page_giveWrite_5 (by decide) ?_
      refine lv_icmp_ge (tgt := 39) hx hb d_Page_giveWrite_6 (by decide) (fun c_6 => ?_) (fun c_6 => ?_)
      · have nc_6 : 3 ≤ t := ni_le rfl rfl (by omega) (by omega) c_6
        refine lv_aload_n hx hb d_Page_giveWrite_39 rfl (lv_at hl 0 rfl) ?_
        refine wg hx hb hts i_Page hown hW (28 + 5 * j) (by omega) (mk_page hj) rfl 0 (by decide) (hts _ kf_Page_9) rfl d_Page_giveWrite_40 ?_
        refine lv_iload_n hx hb d_Page_giveWrite_43 rfl (lv_at hl 1 rfl) ?_
        refine lv_iconst (v := 2) hx hb d_Page_giveWrite_44 (by decide) ?_
        refine wis hx hb hW (28 + 5 * j + 1) (by omega) (mk_rights hj) 0 rfl (n) zx (by omega) (by decide) (x := 2) (mk_rights hj) d_Page_giveWrite_45 (fun H locs hW => ?_)
        obtain ⟨v1, ev1⟩ : ∃ z : Vs, z = u2 vc (28 + 5 * j + 1) (n) (2) := ⟨_, rfl⟩
        rw [← ev1] at hW
        have hO1 : Ok np v1 := by rw [ev1]; exact hOc.set (by omega) (okS_free (by omega))
        refine lv_aload_n hx hb d_Page_giveWrite_46 rfl (lv_at hl 0 rfl) ?_
        refine lv_iload_n hx hb d_Page_giveWrite_47 rfl (lv_at hl 1 rfl) ?_
        refine wp hx hb hts i_Page t_Page t_Page_ok n_Page hown hW (28 + 5 * j) (by omega) (mk_page hj) rfl 3 (by decide) (hts _ kf_Page_25) rfl (by decide +kernel) (x := x) (Nat.le_of_ble_eq_true rfl) ((mk_page hj).trans rfl) d_Page_giveWrite_48 (fun H locs hW => ?_)
        obtain ⟨v2, ev2⟩ : ∃ z : Vs, z = u2 v1 (28 + 5 * j) 3 (x) := ⟨_, rfl⟩
        rw [← ev2] at hW
        have hO2 : Ok np v2 := by rw [ev2]; exact hO1.set (by omega) (okS_free (by omega))
        refine lv_iload_n hx hb d_Page_giveWrite_51 rfl (lv_at hl 2 rfl) ?_
        have hfin : (cGW v j x n).2 = v2 := by
          unfold cGW; rw [← hT]; subst ev2 ev1; rfl
        exact hret _ () _ _ _ _ _ _ (show lost = (cGW v j x n).1 by unfold cGW; rw [← hT]; rfl) (by show Wd D classes (tysA g) s A (wC g ad np ((cGW v j x n).2)) _ _; rw [hfin]; exact hW) (by decide) (by decide) d_Page_giveWrite_52
      · have nc_6 : t < 3 := ni_nle rfl rfl (by omega) (by omega) c_6
        exfalso; omega
    | succ r ih =>
      intro t lost vc H locs ls hOc h3 hT hW hl
      refine lv_iload_n hx hb d_Page_giveWrite_4 rfl (lv_at hl 3 rfl) ?_
      refine lv_iconst (v := 3) hx hb d_Page_giveWrite_5 (by decide) ?_
      refine lv_icmp_ge (tgt := 39) hx hb d_Page_giveWrite_6 (by decide) (fun c_6 => ?_) (fun c_6 => ?_)
      · have nc_6 : 3 ≤ t := ni_le rfl rfl (by omega) (by omega) c_6
        exfalso; omega
      · have nc_6 : t < 3 := ni_nle rfl rfl (by omega) (by omega) c_6
        refine lv_iload_n hx hb d_Page_giveWrite_9 rfl (lv_at hl 3 rfl) ?_
        refine lv_iload_n hx hb d_Page_giveWrite_10 rfl (lv_at hl 1 rfl) ?_
        refine lv_icmp_eq (tgt := 33) hx hb d_Page_giveWrite_11 (by decide) (fun c_11 => ?_) (fun c_11 => ?_)
        · have nc_11 : t = n := ni_eq rfl zx (by omega) (by omega) c_11
          refine lv_iinc (v := nI (t + 1)) (lv' := [(3, .int (nI (t + 1))), (0, .ref (ad (28 + 5 * j))), (1, .int (x)), (2, .int (lost))]) hx hb d_Page_giveWrite_33 hl (k := 3) rfl (nI_1 _) (by decide) rfl (fun ls hl => ?_)
          refine lv_goto (tgt := 4) hx hb d_Page_giveWrite_36 (by decide) ?_
          refine ih (t + 1) (lost) vc _ _ _ hOc (by omega) ?_ hW (lv_sub hl [1, 2, 3, 0] rfl)
          rw [← hT, cGWL]; skip; simp only [if_pos c_11]
        · have nc_11 : ¬ t = n := ni_ne rfl zx (by omega) (by omega) c_11
          refine lv_aload_n hx hb d_Page_giveWrite_14 rfl (lv_at hl 0 rfl) ?_
          refine wg hx hb hts i_Page hown hW (28 + 5 * j) (by omega) (mk_page hj) rfl 0 (by decide) (hts _ kf_Page_9) rfl d_Page_giveWrite_15 ?_
          refine lv_iload_n hx hb d_Page_giveWrite_18 rfl (lv_at hl 3 rfl) ?_
          refine wi hx hb hW (28 + 5 * j + 1) (by omega) (mk_rights hj) 0 rfl (t) rfl (by omega) (by decide) d_Page_giveWrite_19 ?_
          refine lv_if_eq (tgt := 33) hx hb d_Page_giveWrite_20 (by decide) (fun c_20 => ?_) (fun c_20 => ?_)
          · refine lv_iinc (v := nI (t + 1)) (lv' := [(3, .int (nI (t + 1))), (0, .ref (ad (28 + 5 * j))), (1, .int (x)), (2, .int (lost))]) hx hb d_Page_giveWrite_33 hl (k := 3) rfl (nI_1 _) (by decide) rfl (fun ls hl => ?_)
            refine lv_goto (tgt := 4) hx hb d_Page_giveWrite_36 (by decide) ?_
            refine ih (t + 1) (lost) vc _ _ _ hOc (by omega) ?_ hW (lv_sub hl [1, 2, 3, 0] rfl)
            rw [← hT, cGWL]; skip; simp only [if_neg c_11, if_pos c_20]
          · refine lv_aload_n hx hb d_Page_giveWrite_23 rfl (lv_at hl 0 rfl) ?_
            refine wg hx hb hts i_Page hown hW (28 + 5 * j) (by omega) (mk_page hj) rfl 0 (by decide) (hts _ kf_Page_9) rfl d_Page_giveWrite_24 ?_
            refine lv_iload_n hx hb d_Page_giveWrite_27 rfl (lv_at hl 3 rfl) ?_
            refine lv_iconst (v := 0) hx hb d_Page_giveWrite_28 (by decide) ?_
            refine wis hx hb hW (28 + 5 * j + 1) (by omega) (mk_rights hj) 0 rfl (t) rfl (by omega) (by decide) (x := 0) (mk_rights hj) d_Page_giveWrite_29 (fun H locs hW => ?_)
            obtain ⟨v3, ev3⟩ : ∃ z : Vs, z = u2 vc (28 + 5 * j + 1) (t) (0) := ⟨_, rfl⟩
            rw [← ev3] at hW
            have hO3 : Ok np v3 := by rw [ev3]; exact hOc.set (by omega) (okS_free (by omega))
            refine lv_iinc (v := lost + 1) (lv' := [(2, .int (lost + 1)), (0, .ref (ad (28 + 5 * j))), (1, .int (x)), (3, .int (nI (t)))]) hx hb d_Page_giveWrite_30 hl (k := 2) rfl rfl (by decide) rfl (fun ls hl => ?_)
            refine lv_iinc (v := nI (t + 1)) (lv' := [(3, .int (nI (t + 1))), (2, .int (lost + 1)), (0, .ref (ad (28 + 5 * j))), (1, .int (x))]) hx hb d_Page_giveWrite_33 hl (k := 3) rfl (nI_1 _) (by decide) rfl (fun ls hl => ?_)
            refine lv_goto (tgt := 4) hx hb d_Page_giveWrite_36 (by decide) ?_
            refine ih (t + 1) (lost + 1) v3 _ _ _ hO3 (by omega) ?_ hW (lv_sub hl [2, 3, 1, 0] rfl)
            rw [← hT, cGWL]; subst ev3; simp only [if_neg c_11, if_neg c_20]
  exact loop 3 0 0 v _ _ _ hO rfl rfl hW (lv_sub hl [2, 3, 1, 0] rfl)
abbrev rm_Page_giveRead : Room := { frames := 0, cells := 0, slots := 0, locals := 0 }
set_option maxHeartbeats 4000000 in
set_option maxRecDepth 100000 in
theorem c_Page_giveRead (l : Launch) {D : va_G} {g : Nat → ClassId} {ad : Nat → Nat} {np : Nat} {v : Vs} (j : Nat) (hj : j < 8) (x : Int32) (n : Nat) (zx : x = nI n) (ln : n < 3) (hO : Ok np v) : MtV l y_Page_giveRead ws_Page_giveRead rm_Page_giveRead D classes (tysA g) [.ref (ad (28 + 5 * j)), .int (x)] (wC g ad np (v)) (fun _ : Unit => True) (fun _ => wC g ad np (cGR v j x n)) 0 0 := by
  refine mt_v (by decide +kernel) rfl (Nat.le_of_ble_eq_true rfl) (fun p e s m args below meth c Q A C hnm hA hW hret ls hl => ?_)
  obtain ⟨hx, hb, hr, hml, hown, hts0, hlocks⟩ := C
  have hts : ∀ w ∈ bigw, w.before args s = true := fun w h => hts0 w (List.mem_cons_of_mem _ h)
  have hown : s.vm.findClass R_Page = some m.cls := hown
  have hnp := hO.le
  have hl : lv_has ls 3 [(0, .ref (ad (28 + 5 * j))), (1, .int (x))] := hl
  refine lv_iconst (v := 0) hx hb d_Page_giveRead_0 (by decide) ?_
  refine lv_istore_n (lv' := [(2, .int (0)), (0, .ref (ad (28 + 5 * j))), (1, .int (x))]) hx hb d_Page_giveRead_1 rfl hl (by decide) rfl (fun ls hl => ?_)
  have loop : ∀ (r : Nat) (t : Nat) (vc : Vs) (H : Heap) (locs : List Loc) (ls : Array Slot), Ok np vc → 3 = t + r → cGRL j x r t vc = cGRL j x 3 0 v → Wd D classes (tysA g) s A (wC g ad np (vc)) H locs → lv_has ls 3 [(0, .ref (ad (28 + 5 * j))), (1, .int (x)), (2, .int (nI (t)))] → W p l e rm_Page_giveRead s m args below meth c H locs 0 0 Q (F0 m 2 ls []) := by
    intro r
    induction r with
    | zero =>
      intro t vc H locs ls hOc h3 hT hW hl
      refine lv_iload_n hx hb d_Page_giveRead_2 rfl (lv_at hl 2 rfl) ?_
      refine lv_iconst (v := 3) hx hb d_Page_giveRead_3 (by decide) ?_
      refine lv_icmp_ge (tgt := 35) hx hb d_Page_giveRead_4 (by decide) (fun c_4 => ?_) (fun c_4 => ?_)
      · have nc_4 : 3 ≤ t := ni_le rfl rfl (by omega) (by omega) c_4
        refine lv_aload_n hx hb d_Page_giveRead_35 rfl (lv_at hl 0 rfl) ?_
        refine wg hx hb hts i_Page hown hW (28 + 5 * j) (by omega) (mk_page hj) rfl 0 (by decide) (hts _ kf_Page_9) rfl d_Page_giveRead_36 ?_
        refine lv_iload_n hx hb d_Page_giveRead_39 rfl (lv_at hl 1 rfl) ?_
        refine wi hx hb hW (28 + 5 * j + 1) (by omega) (mk_rights hj) 0 rfl (n) zx (by omega) (by decide) d_Page_giveRead_40 ?_
        refine lv_if_ne (tgt := 51) hx hb d_Page_giveRead_41 (by decide) (fun c_41 => ?_) (fun c_41 => ?_)
        · refine lv_aload_n hx hb d_Page_giveRead_51 rfl (lv_at hl 0 rfl) ?_
          refine wg hx hb hts i_Page hown hW (28 + 5 * j) (by omega) (mk_page hj) rfl 3 (by decide) (hts _ kf_Page_25) rfl d_Page_giveRead_52 ?_
          refine lv_iconst (v := 3) hx hb d_Page_giveRead_55 (by decide) ?_
          refine lv_icmp_ne (tgt := 64) hx hb d_Page_giveRead_56 (by decide) (fun c_56 => ?_) (fun c_56 => ?_)
          · have hfin : cGR v j x n = vc := by
              unfold cGR; rw [← hT]; show cGRE vc j x n = _; skip; simp only [cGRE, if_neg c_41, if_neg c_56]
            exact hret () _ _ _ _ _ _ trivial (by show Wd D classes (tysA g) s A (wC g ad np (cGR v j x n)) _ _; rw [hfin]; exact hW) (by decide) (by decide) d_Page_giveRead_64
          · refine lv_aload_n hx hb d_Page_giveRead_59 rfl (lv_at hl 0 rfl) ?_
            refine lv_iload_n hx hb d_Page_giveRead_60 rfl (lv_at hl 1 rfl) ?_
            refine wp hx hb hts i_Page t_Page t_Page_ok n_Page hown hW (28 + 5 * j) (by omega) (mk_page hj) rfl 3 (by decide) (hts _ kf_Page_25) rfl (by decide +kernel) (x := x) (Nat.le_of_ble_eq_true rfl) ((mk_page hj).trans rfl) d_Page_giveRead_61 (fun H locs hW => ?_)
            obtain ⟨v1, ev1⟩ : ∃ z : Vs, z = u2 vc (28 + 5 * j) 3 (x) := ⟨_, rfl⟩
            rw [← ev1] at hW
            have hO1 : Ok np v1 := by rw [ev1]; exact hOc.set (by omega) (okS_free (by omega))
            have hfin : cGR v j x n = v1 := by
              unfold cGR; rw [← hT]; show cGRE vc j x n = _; subst ev1; simp only [cGRE, if_neg c_41, if_pos c_56]
            exact hret () _ _ _ _ _ _ trivial (by show Wd D classes (tysA g) s A (wC g ad np (cGR v j x n)) _ _; rw [hfin]; exact hW) (by decide) (by decide) d_Page_giveRead_64
        · refine lv_aload_n hx hb d_Page_giveRead_44 rfl (lv_at hl 0 rfl) ?_
          refine wg hx hb hts i_Page hown hW (28 + 5 * j) (by omega) (mk_page hj) rfl 0 (by decide) (hts _ kf_Page_9) rfl d_Page_giveRead_45 ?_
          refine lv_iload_n hx hb d_Page_giveRead_48 rfl (lv_at hl 1 rfl) ?_
          refine lv_iconst (v := 1) hx hb d_Page_giveRead_49 (by decide) ?_
          refine wis hx hb hW (28 + 5 * j + 1) (by omega) (mk_rights hj) 0 rfl (n) zx (by omega) (by decide) (x := 1) (mk_rights hj) d_Page_giveRead_50 (fun H locs hW => ?_)
          obtain ⟨v2, ev2⟩ : ∃ z : Vs, z = u2 vc (28 + 5 * j + 1) (n) (1) := ⟨_, rfl⟩
          rw [← ev2] at hW
          have hO2 : Ok np v2 := by rw [ev2]; exact hOc.set (by omega) (okS_free (by omega))
          refine lv_aload_n hx hb d_Page_giveRead_51 rfl (lv_at hl 0 rfl) ?_
          refine wg hx hb hts i_Page hown hW (28 + 5 * j) (by omega) (mk_page hj) rfl 3 (by decide) (hts _ kf_Page_25) rfl d_Page_giveRead_52 ?_
          refine lv_iconst (v := 3) hx hb d_Page_giveRead_55 (by decide) ?_
          refine lv_icmp_ne (tgt := 64) hx hb d_Page_giveRead_56 (by decide) (fun c_56 => ?_) (fun c_56 => ?_)
          · have hfin : cGR v j x n = v2 := by
              unfold cGR; rw [← hT]; show cGRE vc j x n = _; subst ev2; simp only [cGRE, if_pos c_41, if_neg c_56]
            exact hret () _ _ _ _ _ _ trivial (by show Wd D classes (tysA g) s A (wC g ad np (cGR v j x n)) _ _; rw [hfin]; exact hW) (by decide) (by decide) d_Page_giveRead_64
          · refine lv_aload_n hx hb d_Page_giveRead_59 rfl (lv_at hl 0 rfl) ?_
            refine lv_iload_n hx hb d_Page_giveRead_60 rfl (lv_at hl 1 rfl) ?_
            refine wp hx hb hts i_Page t_Page t_Page_ok n_Page hown hW (28 + 5 * j) (by omega) (mk_page hj) rfl 3 (by decide) (hts _ kf_Page_25) rfl (by decide +kernel) (x := x) (Nat.le_of_ble_eq_true rfl) ((mk_page hj).trans rfl) d_Page_giveRead_61 (fun H locs hW => ?_)
            obtain ⟨v3, ev3⟩ : ∃ z : Vs, z = u2 v2 (28 + 5 * j) 3 (x) := ⟨_, rfl⟩
            rw [← ev3] at hW
            have hO3 : Ok np v3 := by rw [ev3]; exact hO2.set (by omega) (okS_free (by omega))
            have hfin : cGR v j x n = v3 := by
              unfold cGR; rw [← hT]; show cGRE vc j x n = _; subst ev3 ev2; simp only [cGRE, if_pos c_41, if_pos c_56]
            exact hret () _ _ _ _ _ _ trivial (by show Wd D classes (tysA g) s A (wC g ad np (cGR v j x n)) _ _; rw [hfin]; exact hW) (by decide) (by decide) d_Page_giveRead_64
      · have nc_4 : t < 3 := ni_nle rfl rfl (by omega) (by omega) c_4
        exfalso; omega
    | succ r ih =>
      intro t vc H locs ls hOc h3 hT hW hl
      refine lv_iload_n hx hb d_Page_giveRead_2 rfl (lv_at hl 2 rfl) ?_
      refine lv_iconst (v := 3) hx hb d_Page_giveRead_3 (by decide) ?_
      refine lv_icmp_ge (tgt := 35) hx hb d_Page_giveRead_4 (by decide) (fun c_4 => ?_) (fun c_4 => ?_)
      · have nc_4 : 3 ≤ t := ni_le rfl rfl (by omega) (by omega) c_4
        exfalso; omega
      · have nc_4 : t < 3 := ni_nle rfl rfl (by omega) (by omega) c_4
        refine lv_iload_n hx hb d_Page_giveRead_7 rfl (lv_at hl 2 rfl) ?_
        refine lv_iload_n hx hb d_Page_giveRead_8 rfl (lv_at hl 1 rfl) ?_
        refine lv_icmp_eq (tgt := 29) hx hb d_Page_giveRead_9 (by decide) (fun c_9 => ?_) (fun c_9 => ?_)
        · have nc_9 : t = n := ni_eq rfl zx (by omega) (by omega) c_9
          refine lv_iinc (v := nI (t + 1)) (lv' := [(2, .int (nI (t + 1))), (0, .ref (ad (28 + 5 * j))), (1, .int (x))]) hx hb d_Page_giveRead_29 hl (k := 2) rfl (nI_1 _) (by decide) rfl (fun ls hl => ?_)
          refine lv_goto (tgt := 2) hx hb d_Page_giveRead_32 (by decide) ?_
          refine ih (t + 1) vc _ _ _ hOc (by omega) ?_ hW (lv_sub hl [1, 2, 0] rfl)
          rw [← hT, cGRL]; skip; simp only [if_pos c_9]
        · have nc_9 : ¬ t = n := ni_ne rfl zx (by omega) (by omega) c_9
          refine lv_aload_n hx hb d_Page_giveRead_12 rfl (lv_at hl 0 rfl) ?_
          refine wg hx hb hts i_Page hown hW (28 + 5 * j) (by omega) (mk_page hj) rfl 0 (by decide) (hts _ kf_Page_9) rfl d_Page_giveRead_13 ?_
          refine lv_iload_n hx hb d_Page_giveRead_16 rfl (lv_at hl 2 rfl) ?_
          refine wi hx hb hW (28 + 5 * j + 1) (by omega) (mk_rights hj) 0 rfl (t) rfl (by omega) (by decide) d_Page_giveRead_17 ?_
          refine lv_iconst (v := 2) hx hb d_Page_giveRead_18 (by decide) ?_
          refine lv_icmp_ne (tgt := 29) hx hb d_Page_giveRead_19 (by decide) (fun c_19 => ?_) (fun c_19 => ?_)
          · refine lv_iinc (v := nI (t + 1)) (lv' := [(2, .int (nI (t + 1))), (0, .ref (ad (28 + 5 * j))), (1, .int (x))]) hx hb d_Page_giveRead_29 hl (k := 2) rfl (nI_1 _) (by decide) rfl (fun ls hl => ?_)
            refine lv_goto (tgt := 2) hx hb d_Page_giveRead_32 (by decide) ?_
            refine ih (t + 1) vc _ _ _ hOc (by omega) ?_ hW (lv_sub hl [1, 2, 0] rfl)
            rw [← hT, cGRL]; skip; simp only [if_neg c_9, if_neg c_19]
          · refine lv_aload_n hx hb d_Page_giveRead_22 rfl (lv_at hl 0 rfl) ?_
            refine wg hx hb hts i_Page hown hW (28 + 5 * j) (by omega) (mk_page hj) rfl 0 (by decide) (hts _ kf_Page_9) rfl d_Page_giveRead_23 ?_
            refine lv_iload_n hx hb d_Page_giveRead_26 rfl (lv_at hl 2 rfl) ?_
            refine lv_iconst (v := 1) hx hb d_Page_giveRead_27 (by decide) ?_
            refine wis hx hb hW (28 + 5 * j + 1) (by omega) (mk_rights hj) 0 rfl (t) rfl (by omega) (by decide) (x := 1) (mk_rights hj) d_Page_giveRead_28 (fun H locs hW => ?_)
            obtain ⟨v4, ev4⟩ : ∃ z : Vs, z = u2 vc (28 + 5 * j + 1) (t) (1) := ⟨_, rfl⟩
            rw [← ev4] at hW
            have hO4 : Ok np v4 := by rw [ev4]; exact hOc.set (by omega) (okS_free (by omega))
            refine lv_iinc (v := nI (t + 1)) (lv' := [(2, .int (nI (t + 1))), (0, .ref (ad (28 + 5 * j))), (1, .int (x))]) hx hb d_Page_giveRead_29 hl (k := 2) rfl (nI_1 _) (by decide) rfl (fun ls hl => ?_)
            refine lv_goto (tgt := 2) hx hb d_Page_giveRead_32 (by decide) ?_
            refine ih (t + 1) v4 _ _ _ hO4 (by omega) ?_ hW (lv_sub hl [1, 2, 0] rfl)
            rw [← hT, cGRL]; subst ev4; simp only [if_neg c_9, if_pos c_19]
  exact loop 3 0 v _ _ _ hO rfl rfl hW (lv_sub hl [1, 2, 0] rfl)
