abbrev rm_C_runFirst : Room := { frames := 5, cells := 3, slots := 19, locals := 118 }
set_option maxHeartbeats 8000000 in
set_option maxRecDepth 100000 in
theorem c_C_runFirst (l : Launch) {D : va_G} {g : Nat → ClassId} {ad : Nat → Nat} {np : Nat} {v : Vs} (i : Nat) (hi : i < np) (hO : Ok np v) : MtV l y_C_runFirst ws_C_runFirst rm_C_runFirst D classes (tysA g) [.ref (ad 0), .ref (ad (68 + 3 * i))] (wC g ad np v) (fun (u : Nat → Nat) => ∀ k, k < 68 + 3 * np → u k = ad k) (fun u => wC g u (cRun np v i).1 (cRun np v i).2) 3 19 := by
  refine mt_v (by decide +kernel) rfl (Nat.le_of_ble_eq_true rfl) (fun p e s m args below meth c Q A C hnm hA hW hret ls hl => ?_)
  obtain ⟨hx, hb, hr, hml, hown, hts0, hlocks⟩ := C
  have hts : ∀ w ∈ bigw, w.before args s = true := fun w h => hts0 w (List.mem_cons_of_mem _ h)
  have hown : s.vm.findClass R_C = some m.cls := hown
  have hnp := hO.le
  have hl : lv_has ls 8 [(0, .ref (ad (0))), (1, .ref (ad (68 + 3 * i)))] := hl
  refine lv_aload_n hx hb d_C_runFirst_0 rfl (lv_at hl 0 rfl) ?_
  refine wg hx hb hts i_C hown hW (0) (by omega) mk_root rfl 0 (by decide) (hts _ kf_C_11) rfl d_C_runFirst_1 ?_
  refine lv_aload_n hx hb d_C_runFirst_4 rfl (lv_at hl 1 rfl) ?_
  refine wg hx hb hts i_Proc hown hW (68 + 3 * i) (by omega) mk_proc rfl 1 (by decide) (hts _ kf_C_160) rfl d_C_runFirst_5 ?_
  obtain ⟨e1, b1⟩ := hO.program hi
  have hi2 : nv v (68 + 3 * i) 1 < 4 := by omega
  refine wa hx hb hW 1 (by omega) mk_programs 1 rfl (nv v (68 + 3 * i) 1) e1 (by omega) (by decide) (if_pos hi2) d_C_runFirst_8 ?_
  refine lv_astore_n (lv' := [(2, .ref (ad (6 + 4 * (nv v (68 + 3 * i) 1)))), (0, .ref (ad (0))), (1, .ref (ad (68 + 3 * i)))]) hx hb d_C_runFirst_9 rfl hl (by decide) rfl (fun ls hl => ?_)
  refine lv_aload_n hx hb d_C_runFirst_10 rfl (lv_at hl 2 rfl) ?_
  refine wg hx hb hts i_Proc hown hW (68 + 3 * i) (by omega) mk_proc rfl 6 (by decide) (hts _ kf_C_102) rfl d_C_runFirst_11 ?_
  obtain ⟨e3, b3⟩ := hO.counter hi
  refine lv_aload_n hx hb d_C_runFirst_14 rfl (lv_at hl 0 rfl) ?_
  refine wg hx hb hts i_Program hown hW (6 + 4 * (nv v (68 + 3 * i) 1)) (by omega) (mk_program hi2) rfl 3 (by decide) (hts _ kf_C_47) rfl d_C_runFirst_15 ?_
  obtain ⟨e4, b4⟩ := hO.psize hi2
  refine lv_icmp_lt (tgt := 28) hx hb d_C_runFirst_18 (by decide) (fun c_18 => ?_) (fun c_18 => ?_)
  · have nc_18 : nv v (68 + 3 * i) 6 < nv v (6 + 4 * (nv v (68 + 3 * i) 1)) 3 := ni_lt e3 e4 (by omega) (by omega) c_18
    refine lv_aload_n hx hb d_C_runFirst_28 rfl (lv_at hl 0 rfl) ?_
    refine wg hx hb hts i_Program hown hW (6 + 4 * (nv v (68 + 3 * i) 1)) (by omega) (mk_program hi2) rfl 0 (by decide) (hts _ kf_C_166) rfl d_C_runFirst_29 ?_
    refine lv_aload_n hx hb d_C_runFirst_32 rfl (lv_at hl 2 rfl) ?_
    refine wg hx hb hts i_Proc hown hW (68 + 3 * i) (by omega) mk_proc rfl 6 (by decide) (hts _ kf_C_102) rfl d_C_runFirst_33 ?_
    obtain ⟨e5, b5⟩ := hO.counter hi
    refine wi hx hb hW (6 + 4 * (nv v (68 + 3 * i) 1) + 1) (by omega) (mk_ops hi2 (by decide) (by decide)) 0 rfl (nv v (68 + 3 * i) 6) e5 (by omega) (by decide) d_C_runFirst_36 ?_
    refine lv_istore_n (lv' := [(3, .int (v (6 + 4 * (nv v (68 + 3 * i) 1) + 1) (nv v (68 + 3 * i) 6))), (2, .ref (ad (6 + 4 * (nv v (68 + 3 * i) 1)))), (0, .ref (ad (0))), (1, .ref (ad (68 + 3 * i)))]) hx hb d_C_runFirst_37 rfl hl (by decide) rfl (fun ls hl => ?_)
    refine lv_aload_n hx hb d_C_runFirst_38 rfl (lv_at hl 1 rfl) ?_
    refine wg hx hb hts i_Program hown hW (6 + 4 * (nv v (68 + 3 * i) 1)) (by omega) (mk_program hi2) rfl 1 (by decide) (hts _ kf_C_169) rfl d_C_runFirst_39 ?_
    refine lv_aload_n hx hb d_C_runFirst_42 rfl (lv_at hl 3 rfl) ?_
    refine wg hx hb hts i_Proc hown hW (68 + 3 * i) (by omega) mk_proc rfl 6 (by decide) (hts _ kf_C_102) rfl d_C_runFirst_43 ?_
    obtain ⟨e6, b6⟩ := hO.counter hi
    refine wi hx hb hW (6 + 4 * (nv v (68 + 3 * i) 1) + 2) (by omega) (mk_ops hi2 (by decide) (by decide)) 0 rfl (nv v (68 + 3 * i) 6) e6 (by omega) (by decide) d_C_runFirst_46 ?_
    refine lv_istore (lv' := [(4, .int (v (6 + 4 * (nv v (68 + 3 * i) 1) + 2) (nv v (68 + 3 * i) 6))), (3, .int (v (6 + 4 * (nv v (68 + 3 * i) 1) + 1) (nv v (68 + 3 * i) 6))), (2, .ref (ad (6 + 4 * (nv v (68 + 3 * i) 1)))), (0, .ref (ad (0))), (1, .ref (ad (68 + 3 * i)))]) hx hb d_C_runFirst_47 hl (by decide) rfl (fun ls hl => ?_)
    refine lv_aload_n hx hb d_C_runFirst_49 rfl (lv_at hl 2 rfl) ?_
    refine wg hx hb hts i_Program hown hW (6 + 4 * (nv v (68 + 3 * i) 1)) (by omega) (mk_program hi2) rfl 2 (by decide) (hts _ kf_C_172) rfl d_C_runFirst_50 ?_
    refine lv_aload_n hx hb d_C_runFirst_53 rfl (lv_at hl 4 rfl) ?_
    refine wg hx hb hts i_Proc hown hW (68 + 3 * i) (by omega) mk_proc rfl 6 (by decide) (hts _ kf_C_102) rfl d_C_runFirst_54 ?_
    obtain ⟨e7, b7⟩ := hO.counter hi
    refine wi hx hb hW (6 + 4 * (nv v (68 + 3 * i) 1) + 3) (by omega) (mk_ops hi2 (by decide) (by decide)) 0 rfl (nv v (68 + 3 * i) 6) e7 (by omega) (by decide) d_C_runFirst_57 ?_
    refine lv_istore (lv' := [(5, .int (v (6 + 4 * (nv v (68 + 3 * i) 1) + 3) (nv v (68 + 3 * i) 6))), (4, .int (v (6 + 4 * (nv v (68 + 3 * i) 1) + 2) (nv v (68 + 3 * i) 6))), (3, .int (v (6 + 4 * (nv v (68 + 3 * i) 1) + 1) (nv v (68 + 3 * i) 6))), (2, .ref (ad (6 + 4 * (nv v (68 + 3 * i) 1)))), (0, .ref (ad (0))), (1, .ref (ad (68 + 3 * i)))]) hx hb d_C_runFirst_58 hl (by decide) rfl (fun ls hl => ?_)
    obtain ⟨hc12, hop, ha4, hb4, hb5⟩ := hO.ins hi c_18
    obtain ⟨op, eop⟩ : ∃ z, z = v (6 + 4 * (nv v (68 + 3 * i) 1) + 1) (nv v (68 + 3 * i) 6) := ⟨_, rfl⟩
    obtain ⟨a0, ea0⟩ : ∃ z, z = v (6 + 4 * (nv v (68 + 3 * i) 1) + 2) (nv v (68 + 3 * i) 6) := ⟨_, rfl⟩
    obtain ⟨b0, eb0⟩ : ∃ z, z = v (6 + 4 * (nv v (68 + 3 * i) 1) + 3) (nv v (68 + 3 * i) 6) := ⟨_, rfl⟩
    rw [← eop] at hl hop hb4 hb5
    rw [← ea0] at hl ha4
    rw [← eb0] at hl hb4 hb5
    obtain ⟨ena, lna⟩ := okLt_nn ha4 (by decide)
    have rest : cRun np v i = cRest np v i op a0 b0 → ∀ (H : Heap) (locs : List Loc) (ls : Array Slot), Wd D classes (tysA g) s A (wC g ad np v) H locs → lv_has ls 8 [(0, .ref (ad 0)), (1, .ref (ad (68 + 3 * i))), (3, .int op), (4, .int a0), (5, .int b0)] → W p l e rm_C_runFirst s m args below meth c H locs 0 0 Q (F0 m 123 ls []) := by
      intro hT H locs ls hW hl
      refine lv_aload_n hx hb d_C_runFirst_123 rfl (lv_at hl 0 rfl) ?_
      refine lv_aload_n hx hb d_C_runFirst_124 rfl (lv_at hl 1 rfl) ?_
      refine lv_iload_n hx hb d_C_runFirst_125 rfl (lv_at hl 2 rfl) ?_
      refine lv_iload hx hb d_C_runFirst_126 (lv_at hl 3 rfl) ?_
      refine lv_iload hx hb d_C_runFirst_128 (lv_at hl 4 rfl) ?_
      refine wcv hW hA (va_runV (As := [.ref (ad (68 + 3 * i)), .int op, .int a0, .int b0]) (rest := []) ⟨hx, hb, hml, hown, hts⟩ (c_C_perform l i hi op a0 (nn a0) ena lna b0 hO hc12 hb4 hb5 _) (cv 4 hts kc_C_perform ki_C_perform ke_C_perform kn_C km_C_187 kh_C_perform rfl rfl ⟨by decide, by decide⟩) (preW hW rfl rfl (mw_get (by omega) mk_root)) rfl rfl hl.1 rfl (lv_room (Nat.le_of_ble_eq_true rfl)) d_C_runFirst_130 ⟨by decide, by decide⟩) (fun ad1 H locs hlo hW => ?_)
      have hO1 := hO.perf (a := nn a0) hi hc12 hb4 hb5
      obtain ⟨z, ez⟩ : ∃ z, z = cPerf np v i op (nn a0) b0 := ⟨_, rfl⟩
      have hW : Wd D classes (tysA g) s A (wC g ad1 z.1 z.2) H locs := by rw [ez]; exact hW
      rw [← ez] at hO1
      obtain ⟨n1, v1⟩ := z
      have hW : Wd D classes (tysA g) s A (wC g ad1 n1 v1) H locs := hW
      obtain ⟨hO1, hn1, -⟩ := hO1
      have hO1 : Ok n1 v1 := hO1
      have hn1 : np ≤ n1 := hn1
      have hi1 : i < n1 := by omega
      have hnp1 := hO1.le
      have hl : lv_has ls 8 [(0, .ref (ad1 0)), (1, .ref (ad1 (68 + 3 * i))), (3, .int op)] := by rw [hlo 0 (by omega), hlo (68 + 3 * i) (by omega)]; exact lv_sub hl [0, 1, 2] rfl
      refine lv_aload_n hx hb d_C_runFirst_133 rfl (lv_at hl 1 rfl) ?_
      refine wg hx hb hts i_Proc hown hW (68 + 3 * i) (by omega) mk_proc rfl 5 (by decide) (hts _ kf_C_70) rfl d_C_runFirst_134 ?_
      refine lv_iconst (v := 1) hx hb d_C_runFirst_137 (by decide) ?_
      refine lv_icmp_ne (tgt := 157) hx hb d_C_runFirst_138 (by decide) (fun c_138 => ?_) (fun c_138 => ?_)
      · have hfin : cRun np v i = (n1, v1) := by
          rw [hT, cRest, ← ez]; skip; simp only [if_neg c_138]
        exact hret ad1 _ _ _ _ _ _ hlo (by show Wd D classes (tysA g) s A (wC g ad1 (cRun np v i).1 (cRun np v i).2) _ _; rw [hfin]; exact hW) (by decide) (by decide) d_C_runFirst_157
      · refine lv_aload_n hx hb d_C_runFirst_141 rfl (lv_at hl 0 rfl) ?_
        refine lv_aload_n hx hb d_C_runFirst_142 rfl (lv_at hl 1 rfl) ?_
        refine lv_iload_n hx hb d_C_runFirst_143 rfl (lv_at hl 2 rfl) ?_
        refine lv_bipush (v := 12) hx hb d_C_runFirst_144 (by decide) ?_
        refine lv_icmp_ne (tgt := 153) hx hb d_C_runFirst_146 (by decide) (fun c_146 => ?_) (fun c_146 => ?_)
        · refine lv_iconst (v := 0) hx hb d_C_runFirst_153 (by decide) ?_
          refine wcv hW hA (va_runV (As := [.ref (ad1 (68 + 3 * i)), .int (0)]) (rest := []) ⟨hx, hb, hml, hown, hts⟩ (c_C_spendSlice l i hi1 (0) hO1 _) (cv 2 hts kc_C_spendSlice ki_C_spendSlice ke_C_spendSlice kn_C km_C_191 kh_C_spendSlice rfl rfl ⟨by decide, by decide⟩) (preW hW rfl rfl (mw_get (by omega) mk_root)) rfl rfl hl.1 rfl (lv_room (Nat.le_of_ble_eq_true rfl)) d_C_runFirst_154 ⟨by decide, by decide⟩) (fun uu8 H locs hp8 hW => ?_)
          have hW : Wd D classes (tysA g) s A (wC g ad1 n1 (cSpend v1 i (0))) H locs := hW
          obtain ⟨v9, ev9⟩ : ∃ z : Vs, z = cSpend v1 i (0) := ⟨_, rfl⟩
          rw [← ev9] at hW
          have hO9 : Ok n1 v9 := by rw [ev9]; exact hO1.spend hi1
          have hfin : cRun np v i = (n1, v9) := by
            rw [hT, cRest, ← ez]; subst ev9; simp only [if_pos c_138, if_neg c_146]
          exact hret ad1 _ _ _ _ _ _ hlo (by show Wd D classes (tysA g) s A (wC g ad1 (cRun np v i).1 (cRun np v i).2) _ _; rw [hfin]; exact hW) (by decide) (by decide) d_C_runFirst_157
        · refine lv_iconst (v := 1) hx hb d_C_runFirst_149 (by decide) ?_
          refine lv_goto (tgt := 154) hx hb d_C_runFirst_150 (by decide) ?_
          refine wcv hW hA (va_runV (As := [.ref (ad1 (68 + 3 * i)), .int (1)]) (rest := []) ⟨hx, hb, hml, hown, hts⟩ (c_C_spendSlice l i hi1 (1) hO1 _) (cv 2 hts kc_C_spendSlice ki_C_spendSlice ke_C_spendSlice kn_C km_C_191 kh_C_spendSlice rfl rfl ⟨by decide, by decide⟩) (preW hW rfl rfl (mw_get (by omega) mk_root)) rfl rfl hl.1 rfl (lv_room (Nat.le_of_ble_eq_true rfl)) d_C_runFirst_154 ⟨by decide, by decide⟩) (fun uu10 H locs hp10 hW => ?_)
          have hW : Wd D classes (tysA g) s A (wC g ad1 n1 (cSpend v1 i (1))) H locs := hW
          obtain ⟨v11, ev11⟩ : ∃ z : Vs, z = cSpend v1 i (1) := ⟨_, rfl⟩
          rw [← ev11] at hW
          have hO11 : Ok n1 v11 := by rw [ev11]; exact hO1.spend hi1
          have hfin : cRun np v i = (n1, v11) := by
            rw [hT, cRest, ← ez]; subst ev11; simp only [if_pos c_138, if_pos c_146]
          exact hret ad1 _ _ _ _ _ _ hlo (by show Wd D classes (tysA g) s A (wC g ad1 (cRun np v i).1 (cRun np v i).2) _ _; rw [hfin]; exact hW) (by decide) (by decide) d_C_runFirst_157
    refine lv_iload_n hx hb d_C_runFirst_60 rfl (lv_at hl 2 rfl) ?_
    refine wci hW hA (va_runS (As := [.int (op)]) (rest := []) ⟨hx, hb, hml, hown, hts⟩ (c_C_touchesMemory l _ (op) _) (cs 1 hts kc_C_touchesMemory ks_C_touchesMemory kn_C km_C_175 kh_C_touchesMemory rfl rfl ⟨by decide, by decide⟩) (preWS hW) rfl rfl hl.1 rfl (lv_room (Nat.le_of_ble_eq_true rfl)) d_C_runFirst_61 ⟨by decide, by decide⟩) (fun rr12 uu12 H locs hp12 hW => ?_)
    have hW : Wd D classes (tysA g) s A (wC g ad np (v)) H locs := hW
    have hp12 : rr12 = if (op) = 2 ∨ (op) = 3 ∨ (op) = 4 then 1 else 0 := hp12
    refine lv_if_eq (tgt := 123) hx hb d_C_runFirst_64 (by decide) (fun c_64 => ?_) (fun c_64 => ?_)
    · have c_64 : ¬ ((op) = 2 ∨ (op) = 3 ∨ (op) = 4) := bo_eq hp12 c_64
      refine rest ?_ _ _ _ hW (lv_sub hl [4, 5, 2, 1, 0] rfl)
      subst eop ea0 eb0; simp only [cRun, if_pos c_18, if_neg c_64]
    · have c_64 : (op) = 2 ∨ (op) = 3 ∨ (op) = 4 := bo_ne hp12 c_64
      obtain ⟨e13, b13⟩ := okLt_nn (hb4 (by rcases c_64 with h | h | h <;> (rw [h]; decide)) (by rcases c_64 with h | h | h <;> (rw [h]; decide))) (by decide)
      refine lv_aload_n hx hb d_C_runFirst_67 rfl (lv_at hl 5 rfl) ?_
      refine wg hx hb hts i_Proc hown hW (68 + 3 * i) (by omega) mk_proc rfl 2 (by decide) (hts _ kf_C_99) rfl d_C_runFirst_68 ?_
      refine lv_iload hx hb d_C_runFirst_71 (lv_at hl 0 rfl) ?_
      refine wi hx hb hW (68 + 3 * i + 1) (by omega) mk_regs 0 rfl (nn b0) e13 (by omega) (by decide) d_C_runFirst_73 ?_
      refine wci hW hA (va_runS (As := [.int (v (68 + 3 * i + 1) (nn b0))]) (rest := []) ⟨hx, hb, hml, hown, hts⟩ (c_C_addressOf l _ (v (68 + 3 * i + 1) (nn b0)) _) (cs 1 hts kc_C_addressOf ks_C_addressOf kn_C km_C_179 kh_C_addressOf rfl rfl ⟨by decide, by decide⟩) (preWS hW) rfl rfl hl.1 rfl (lv_room (Nat.le_of_ble_eq_true rfl)) d_C_runFirst_74 ⟨by decide, by decide⟩) (fun rr14 uu14 H locs hp14 hW => ?_)
      have hW : Wd D classes (tysA g) s A (wC g ad np (v)) H locs := hW
      have hp14 : rr14 = fmod (v (68 + 3 * i + 1) (nn b0)) 32 := hp14
      subst hp14
      have hbl := bl_lt (v (68 + 3 * i + 1) (nn b0)) 31
      refine lv_iconst (v := 4) hx hb d_C_runFirst_77 (by decide) ?_
      refine lv_idiv hx hb d_C_runFirst_78 (by decide) ?_
      refine lv_istore (lv' := [(6, .int ((fmod (v (68 + 3 * i + 1) (nn b0)) 32) / (4))), (5, .int (b0)), (4, .int (a0)), (3, .int (op)), (2, .ref (ad (6 + 4 * (nv v (68 + 3 * i) 1)))), (0, .ref (ad (0))), (1, .ref (ad (68 + 3 * i)))]) hx hb d_C_runFirst_79 hl (by decide) rfl (fun ls hl => ?_)
      refine lv_iload_n hx hb d_C_runFirst_81 rfl (lv_at hl 3 rfl) ?_
      refine lv_iconst (v := 2) hx hb d_C_runFirst_82 (by decide) ?_
      refine lv_icmp_ne (tgt := 90) hx hb d_C_runFirst_83 (by decide) (fun c_83 => ?_) (fun c_83 => ?_)
      · refine lv_iconst (v := 2) hx hb d_C_runFirst_90 (by decide) ?_
        refine lv_istore (lv' := [(7, .int (2)), (6, .int ((fmod (v (68 + 3 * i + 1) (nn b0)) 32) / (4))), (5, .int (b0)), (4, .int (a0)), (3, .int (op)), (2, .ref (ad (6 + 4 * (nv v (68 + 3 * i) 1)))), (0, .ref (ad (0))), (1, .ref (ad (68 + 3 * i)))]) hx hb d_C_runFirst_91 hl (by decide) rfl (fun ls hl => ?_)
        refine lv_aload_n hx hb d_C_runFirst_93 rfl (lv_at hl 6 rfl) ?_
        refine wg hx hb hts i_C hown hW (0) (by omega) mk_root rfl 3 (by decide) (hts _ kf_C_29) rfl d_C_runFirst_94 ?_
        refine lv_iload hx hb d_C_runFirst_97 (lv_at hl 1 rfl) ?_
        have hi15 : (bl (v (68 + 3 * i + 1) (nn b0)) 31) / 4 < 8 := by omega
        refine wa hx hb hW 4 (by omega) mk_pages 4 rfl ((bl (v (68 + 3 * i + 1) (nn b0)) 31) / 4) (ni_div (fmod32 _) rfl (by omega) (by decide) (by decide)) (by omega) (by decide) (if_pos hi15) d_C_runFirst_99 ?_
        refine wg hx hb hts i_Page hown hW (28 + 5 * ((bl (v (68 + 3 * i + 1) (nn b0)) 31) / 4)) (by omega) (mk_page hi15) rfl 0 (by decide) (hts _ kf_C_118) rfl d_C_runFirst_100 ?_
        refine lv_aload_n hx hb d_C_runFirst_103 rfl (lv_at hl 7 rfl) ?_
        refine wg hx hb hts i_Proc hown hW (68 + 3 * i) (by omega) mk_proc rfl 4 (by decide) (hts _ kf_C_88) rfl d_C_runFirst_104 ?_
        obtain ⟨e16, b16⟩ := hO.place hi
        refine wi hx hb hW (28 + 5 * ((bl (v (68 + 3 * i + 1) (nn b0)) 31) / 4) + 1) (by omega) (mk_rights hi15) 0 rfl (nv v (68 + 3 * i) 4) e16 (by omega) (by decide) d_C_runFirst_107 ?_
        refine lv_iload hx hb d_C_runFirst_108 (lv_at hl 0 rfl) ?_
        refine lv_icmp_ge (tgt := 123) hx hb d_C_runFirst_110 (by decide) (fun c_110 => ?_) (fun c_110 => ?_)
        · refine rest ?_ _ _ _ hW (lv_sub hl [6, 7, 4, 3, 2] rfl)
          subst eop ea0 eb0; simp only [cRun, if_pos c_18, if_pos c_64, if_neg c_83, if_pos c_110]
        · refine lv_aload_n hx hb d_C_runFirst_113 rfl (lv_at hl 6 rfl) ?_
          refine lv_aload_n hx hb d_C_runFirst_114 rfl (lv_at hl 7 rfl) ?_
          refine lv_iload hx hb d_C_runFirst_115 (lv_at hl 1 rfl) ?_
          refine lv_iload hx hb d_C_runFirst_117 (lv_at hl 0 rfl) ?_
          refine wcv hW hA (va_runV (As := [.ref (ad (68 + 3 * i)), .int ((fmod (v (68 + 3 * i + 1) (nn b0)) 32) / (4)), .int (2)]) (rest := []) ⟨hx, hb, hml, hown, hts⟩ (c_C_blockOn l i hi ((fmod (v (68 + 3 * i + 1) (nn b0)) 32) / (4)) ((bl (v (68 + 3 * i + 1) (nn b0)) 31) / 4) (ni_div (fmod32 _) rfl (by omega) (by decide) (by decide)) (by omega) (2) hO _) (cv 3 hts kc_C_blockOn ki_C_blockOn ke_C_blockOn kn_C km_C_183 kh_C_blockOn rfl rfl ⟨by decide, by decide⟩) (preW hW rfl rfl (mw_get (by omega) mk_root)) rfl rfl hl.1 rfl (lv_room (Nat.le_of_ble_eq_true rfl)) d_C_runFirst_119 ⟨by decide, by decide⟩) (fun uu17 H locs hp17 hW => ?_)
          have hW : Wd D classes (tysA g) s A (wC g ad np (cBlock v i ((fmod (v (68 + 3 * i + 1) (nn b0)) 32) / (4)) ((bl (v (68 + 3 * i + 1) (nn b0)) 31) / 4) (2))) H locs := hW
          obtain ⟨v18, ev18⟩ : ∃ z : Vs, z = cBlock v i ((fmod (v (68 + 3 * i + 1) (nn b0)) 32) / (4)) ((bl (v (68 + 3 * i + 1) (nn b0)) 31) / 4) (2) := ⟨_, rfl⟩
          rw [← ev18] at hW
          have hO18 : Ok np v18 := by rw [ev18]; exact hO.block hi (by omega)
          have hfin : cRun np v i = (np, v18) := by
            subst ev18; subst eop ea0 eb0; simp only [cRun, if_pos c_18, if_pos c_64, if_neg c_83, if_neg c_110]
          exact hret ad _ _ _ _ _ _ (fun _ _ => rfl) (by show Wd D classes (tysA g) s A (wC g ad (cRun np v i).1 (cRun np v i).2) _ _; rw [hfin]; exact hW) (by decide) (by decide) d_C_runFirst_122
      · refine lv_iconst (v := 1) hx hb d_C_runFirst_86 (by decide) ?_
        refine lv_goto (tgt := 91) hx hb d_C_runFirst_87 (by decide) ?_
        refine lv_istore (lv' := [(7, .int (1)), (6, .int ((fmod (v (68 + 3 * i + 1) (nn b0)) 32) / (4))), (5, .int (b0)), (4, .int (a0)), (3, .int (op)), (2, .ref (ad (6 + 4 * (nv v (68 + 3 * i) 1)))), (0, .ref (ad (0))), (1, .ref (ad (68 + 3 * i)))]) hx hb d_C_runFirst_91 hl (by decide) rfl (fun ls hl => ?_)
        refine lv_aload_n hx hb d_C_runFirst_93 rfl (lv_at hl 6 rfl) ?_
        refine wg hx hb hts i_C hown hW (0) (by omega) mk_root rfl 3 (by decide) (hts _ kf_C_29) rfl d_C_runFirst_94 ?_
        refine lv_iload hx hb d_C_runFirst_97 (lv_at hl 1 rfl) ?_
        have hi19 : (bl (v (68 + 3 * i + 1) (nn b0)) 31) / 4 < 8 := by omega
        refine wa hx hb hW 4 (by omega) mk_pages 4 rfl ((bl (v (68 + 3 * i + 1) (nn b0)) 31) / 4) (ni_div (fmod32 _) rfl (by omega) (by decide) (by decide)) (by omega) (by decide) (if_pos hi19) d_C_runFirst_99 ?_
        refine wg hx hb hts i_Page hown hW (28 + 5 * ((bl (v (68 + 3 * i + 1) (nn b0)) 31) / 4)) (by omega) (mk_page hi19) rfl 0 (by decide) (hts _ kf_C_118) rfl d_C_runFirst_100 ?_
        refine lv_aload_n hx hb d_C_runFirst_103 rfl (lv_at hl 7 rfl) ?_
        refine wg hx hb hts i_Proc hown hW (68 + 3 * i) (by omega) mk_proc rfl 4 (by decide) (hts _ kf_C_88) rfl d_C_runFirst_104 ?_
        obtain ⟨e20, b20⟩ := hO.place hi
        refine wi hx hb hW (28 + 5 * ((bl (v (68 + 3 * i + 1) (nn b0)) 31) / 4) + 1) (by omega) (mk_rights hi19) 0 rfl (nv v (68 + 3 * i) 4) e20 (by omega) (by decide) d_C_runFirst_107 ?_
        refine lv_iload hx hb d_C_runFirst_108 (lv_at hl 0 rfl) ?_
        refine lv_icmp_ge (tgt := 123) hx hb d_C_runFirst_110 (by decide) (fun c_110 => ?_) (fun c_110 => ?_)
        · refine rest ?_ _ _ _ hW (lv_sub hl [6, 7, 4, 3, 2] rfl)
          subst eop ea0 eb0; simp only [cRun, if_pos c_18, if_pos c_64, if_pos c_83, if_pos c_110]
        · refine lv_aload_n hx hb d_C_runFirst_113 rfl (lv_at hl 6 rfl) ?_
          refine lv_aload_n hx hb d_C_runFirst_114 rfl (lv_at hl 7 rfl) ?_
          refine lv_iload hx hb d_C_runFirst_115 (lv_at hl 1 rfl) ?_
          refine lv_iload hx hb d_C_runFirst_117 (lv_at hl 0 rfl) ?_
          refine wcv hW hA (va_runV (As := [.ref (ad (68 + 3 * i)), .int ((fmod (v (68 + 3 * i + 1) (nn b0)) 32) / (4)), .int (1)]) (rest := []) ⟨hx, hb, hml, hown, hts⟩ (c_C_blockOn l i hi ((fmod (v (68 + 3 * i + 1) (nn b0)) 32) / (4)) ((bl (v (68 + 3 * i + 1) (nn b0)) 31) / 4) (ni_div (fmod32 _) rfl (by omega) (by decide) (by decide)) (by omega) (1) hO _) (cv 3 hts kc_C_blockOn ki_C_blockOn ke_C_blockOn kn_C km_C_183 kh_C_blockOn rfl rfl ⟨by decide, by decide⟩) (preW hW rfl rfl (mw_get (by omega) mk_root)) rfl rfl hl.1 rfl (lv_room (Nat.le_of_ble_eq_true rfl)) d_C_runFirst_119 ⟨by decide, by decide⟩) (fun uu21 H locs hp21 hW => ?_)
          have hW : Wd D classes (tysA g) s A (wC g ad np (cBlock v i ((fmod (v (68 + 3 * i + 1) (nn b0)) 32) / (4)) ((bl (v (68 + 3 * i + 1) (nn b0)) 31) / 4) (1))) H locs := hW
          obtain ⟨v22, ev22⟩ : ∃ z : Vs, z = cBlock v i ((fmod (v (68 + 3 * i + 1) (nn b0)) 32) / (4)) ((bl (v (68 + 3 * i + 1) (nn b0)) 31) / 4) (1) := ⟨_, rfl⟩
          rw [← ev22] at hW
          have hO22 : Ok np v22 := by rw [ev22]; exact hO.block hi (by omega)
          have hfin : cRun np v i = (np, v22) := by
            subst ev22; subst eop ea0 eb0; simp only [cRun, if_pos c_18, if_pos c_64, if_pos c_83, if_neg c_110]
          exact hret ad _ _ _ _ _ _ (fun _ _ => rfl) (by show Wd D classes (tysA g) s A (wC g ad (cRun np v i).1 (cRun np v i).2) _ _; rw [hfin]; exact hW) (by decide) (by decide) d_C_runFirst_122
  · have nc_18 : nv v (6 + 4 * (nv v (68 + 3 * i) 1)) 3 ≤ nv v (68 + 3 * i) 6 := ni_nlt e3 e4 (by omega) (by omega) c_18
    refine lv_aload_n hx hb d_C_runFirst_21 rfl (lv_at hl 1 rfl) ?_
    refine lv_aload_n hx hb d_C_runFirst_22 rfl (lv_at hl 2 rfl) ?_
    refine lv_iconst (v := 0) hx hb d_C_runFirst_23 (by decide) ?_
    refine wcv hW hA (va_runV (As := [.ref (ad (68 + 3 * i)), .int (0)]) (rest := []) ⟨hx, hb, hml, hown, hts⟩ (c_C_endProcess l i hi (0) hO _) (cv 2 hts kc_C_endProcess ki_C_endProcess ke_C_endProcess kn_C km_C_163 kh_C_endProcess rfl rfl ⟨by decide, by decide⟩) (preW hW rfl rfl (mw_get (by omega) mk_root)) rfl rfl hl.1 rfl (lv_room (Nat.le_of_ble_eq_true rfl)) d_C_runFirst_24 ⟨by decide, by decide⟩) (fun uu23 H locs hp23 hW => ?_)
    have hW : Wd D classes (tysA g) s A (wC g ad np (cEnd np v i (0))) H locs := hW
    obtain ⟨v24, ev24⟩ : ∃ z : Vs, z = cEnd np v i (0) := ⟨_, rfl⟩
    rw [← ev24] at hW
    have hO24 : Ok np v24 := by rw [ev24]; exact hO.end hi
    have hfin : cRun np v i = (np, v24) := by
      subst ev24; simp only [cRun, if_neg c_18]
    exact hret ad _ _ _ _ _ _ (fun _ _ => rfl) (by show Wd D classes (tysA g) s A (wC g ad (cRun np v i).1 (cRun np v i).2) _ _; rw [hfin]; exact hW) (by decide) (by decide) d_C_runFirst_27
abbrev rm_C_step : Room := { frames := 6, cells := 3, slots := 19, locals := 145 }
set_option maxHeartbeats 8000000 in
set_option maxRecDepth 100000 in
theorem c_C_step (l : Launch) {D : va_G} {g : Nat → ClassId} {ad : Nat → Nat} {np : Nat} {v : Vs} (x : Int32) (hO : Ok np v) : MtI l y_C_step ws_C_step rm_C_step D classes (tysA g) [.ref (ad 0), .int x] (wC g ad np v) (fun (r : Int32) (u : Nat → Nat) => r = (mStep np v x).1 ∧ ∀ k, k < 68 + 3 * np → u k = ad k) (fun u => wC g u (mStep np v x).2.1 (mStep np v x).2.2) 3 19 := by
  refine mt_i (ty := .int) (fun _ _ _ => rfl) (by decide +kernel) rfl (Nat.le_of_ble_eq_true rfl) (fun p e s m args below meth c Q A C hA hW hret ls hl => ?_)
  obtain ⟨hx, hb, hr, hml, hown, hts0, hlocks⟩ := C
  have hts : ∀ w ∈ bigw, w.before args s = true := fun w h => hts0 w (List.mem_cons_of_mem _ h)
  have hown : s.vm.findClass R_C = some m.cls := hown
  have hnp := hO.le
  have hl : lv_has ls 3 [(0, .ref (ad (0))), (1, .int (x))] := hl
  refine lv_iload_n hx hb d_C_step_0 rfl (lv_at hl 1 rfl) ?_
  refine lv_iconst (v := 3) hx hb d_C_step_1 (by decide) ?_
  refine wci hW hA (va_runS (As := [.int (x), .int (3)]) (rest := []) ⟨hx, hb, hml, hown, hts⟩ (c_C_isIn l _ (x) (3) _) (cs 2 hts kc_C_isIn ks_C_isIn kn_C km_C_40 kh_C_isIn rfl rfl ⟨by decide, by decide⟩) (preWS hW) rfl rfl hl.1 rfl (lv_room (Nat.le_of_ble_eq_true rfl)) d_C_step_2 ⟨by decide, by decide⟩) (fun rr1 uu1 H locs hp1 hW => ?_)
  have hW : Wd D classes (tysA g) s A (wC g ad np (v)) H locs := hW
  have hp1 : rr1 = if inI (x) (3) then 1 else 0 := hp1
  refine lv_if_ne (tgt := 10) hx hb d_C_step_5 (by decide) (fun c_5 => ?_) (fun c_5 => ?_)
  · have c_5 : inI (x) (3) := bo_ne hp1 c_5
    obtain ⟨e2, b2⟩ := inI_nn (N := 3) rfl (by omega) c_5
    refine lv_aload_n hx hb d_C_step_10 rfl (lv_at hl 0 rfl) ?_
    refine wg hx hb hts i_C hown hW (0) (by omega) mk_root rfl 2 (by decide) (hts _ kf_C_23) rfl d_C_step_11 ?_
    refine lv_iload_n hx hb d_C_step_14 rfl (lv_at hl 1 rfl) ?_
    have hk3 : isLn (22 + 2 * (nn x)) := ln_node (by omega)
    refine wa hx hb hW 3 (by omega) mk_lines 3 rfl (nn x) e2 (by omega) (by decide) (if_pos (by omega)) d_C_step_15 ?_
    refine wg hx hb hts i_Line hown hW (22 + 2 * (nn x)) (by have := ln_lt hk3; omega) (mk_line hk3) rfl 1 (by decide) (hts _ kf_C_62) rfl d_C_step_16 ?_
    obtain ⟨e4, b4⟩ := hO.size hk3
    refine lv_if_ne (tgt := 25) hx hb d_C_step_19 (by decide) (fun c_19 => ?_) (fun c_19 => ?_)
    · have nc_19 : ¬ nv v (22 + 2 * (nn x)) 1 = 0 := ni_ne e4 rfl (by omega) (by omega) c_19
      have h0n := (hO.first (ln_node (by omega)) c_19).1
      refine lv_aload_n hx hb d_C_step_25 rfl (lv_at hl 0 rfl) ?_
      refine wg hx hb hts i_C hown hW (0) (by omega) mk_root rfl 1 (by decide) (hts _ kf_C_17) rfl d_C_step_26 ?_
      refine lv_aload_n hx hb d_C_step_29 rfl (lv_at hl 0 rfl) ?_
      refine wg hx hb hts i_C hown hW (0) (by omega) mk_root rfl 2 (by decide) (hts _ kf_C_23) rfl d_C_step_30 ?_
      refine lv_iload_n hx hb d_C_step_33 rfl (lv_at hl 1 rfl) ?_
      have hk5 : isLn (22 + 2 * (nn x)) := ln_node (by omega)
      refine wa hx hb hW 3 (by omega) mk_lines 3 rfl (nn x) e2 (by omega) (by decide) (if_pos (by omega)) d_C_step_34 ?_
      refine wg hx hb hts i_Line hown hW (22 + 2 * (nn x)) (by have := ln_lt hk5; omega) (mk_line hk5) rfl 0 (by decide) (hts _ kf_C_63) rfl d_C_step_35 ?_
      refine lv_iconst (v := 0) hx hb d_C_step_38 (by decide) ?_
      refine wi hx hb hW (22 + 2 * (nn x) + 1) (by have := ln_lt hk5; omega) (mk_items hk5) 0 rfl (0) rfl (by omega) (by decide) d_C_step_39 ?_
      obtain ⟨e6, b6⟩ := hO.item hk5 (0) (by omega)
      have hi7 : nv v (22 + 2 * (nn x) + 1) 0 < np := by omega
      refine wa hx hb hW 2 (by omega) mk_processes 2 rfl (nv v (22 + 2 * (nn x) + 1) 0) e6 (by omega) (by decide) (if_pos hi7) d_C_step_40 ?_
      refine lv_astore_n (lv' := [(2, .ref (ad (68 + 3 * (nv v (22 + 2 * (nn x) + 1) 0)))), (0, .ref (ad (0))), (1, .int (x))]) hx hb d_C_step_41 rfl hl (by decide) rfl (fun ls hl => ?_)
      refine lv_aload_n hx hb d_C_step_42 rfl (lv_at hl 1 rfl) ?_
      refine lv_aload_n hx hb d_C_step_43 rfl (lv_at hl 0 rfl) ?_
      obtain ⟨i0, ei0⟩ : ∃ z, z = nv v (22 + 2 * (nn x) + 1) 0 := ⟨_, rfl⟩
      rw [← ei0] at hi7 hl ⊢
      refine wcv hW hA (va_runV (As := [.ref (ad (68 + 3 * i0))]) (rest := []) ⟨hx, hb, hml, hown, hts⟩ (c_C_runFirst l i0 hi7 hO _) (cv 1 hts kc_C_runFirst ki_C_runFirst ke_C_runFirst kn_C km_C_66 kh_C_runFirst rfl rfl ⟨by decide, by decide⟩) (preW hW rfl rfl (mw_get (by omega) mk_root)) rfl rfl hl.1 rfl (lv_room (Nat.le_of_ble_eq_true rfl)) d_C_step_44 ⟨by decide, by decide⟩) (fun ad1 H locs hlo hW => ?_)
      have hO1 := hO.run hi7
      obtain ⟨z, ez⟩ : ∃ z, z = cRun np v i0 := ⟨_, rfl⟩
      have hW : Wd D classes (tysA g) s A (wC g ad1 z.1 z.2) H locs := by rw [ez]; exact hW
      rw [← ez] at hO1
      obtain ⟨n1, v1⟩ := z
      have hW : Wd D classes (tysA g) s A (wC g ad1 n1 v1) H locs := hW
      obtain ⟨hO1, hn1, -⟩ := hO1
      have hO1 : Ok n1 v1 := hO1
      have hn1 : np ≤ n1 := hn1
      have hi1 : i0 < n1 := by omega
      have hl : lv_has ls 3 [(2, .ref (ad1 (68 + 3 * i0)))] := by rw [hlo (68 + 3 * i0) (by omega)]; exact lv_sub hl [0] rfl
      refine lv_bipush (v := 10) hx hb d_C_step_47 (by decide) ?_
      refine lv_aload_n hx hb d_C_step_49 rfl (lv_at hl 0 rfl) ?_
      refine wg hx hb hts i_Proc hown hW (68 + 3 * i0) (by omega) mk_proc rfl 5 (by decide) (hts _ kf_C_70) rfl d_C_step_50 ?_
      refine lv_iconst (v := 1) hx hb d_C_step_53 (by decide) ?_
      refine lv_isub hx hb d_C_step_54 ?_
      refine lv_imul hx hb d_C_step_55 ?_
      refine lv_aload_n hx hb d_C_step_56 rfl (lv_at hl 0 rfl) ?_
      refine wg hx hb hts i_Proc hown hW (68 + 3 * i0) (by omega) mk_proc rfl 0 (by decide) (hts _ kf_C_73) rfl d_C_step_57 ?_
      refine lv_iadd hx hb d_C_step_60 ?_
      have hfin : mStep np v x = (((10) * ((v1 (68 + 3 * i0) 5) - (1))) + (v1 (68 + 3 * i0) 0), n1, v1) := by
        simp only [mStep, if_pos c_5, if_neg c_19, ← ei0, ← ez]
      exact hret _ ad1 _ _ _ _ _ _ ⟨show ((10) * ((v1 (68 + 3 * i0) 5) - (1))) + (v1 (68 + 3 * i0) 0) = (mStep np v x).1 by rw [hfin], hlo⟩ (by show Wd D classes (tysA g) s A (wC g ad1 (mStep np v x).2.1 (mStep np v x).2.2) _ _; rw [hfin]; exact hW) (by decide) (by decide) d_C_step_61
    · have nc_19 : nv v (22 + 2 * (nn x)) 1 = 0 := ni_eq e4 rfl (by omega) (by omega) c_19
      refine lv_bipush (v := (-3)) hx hb d_C_step_22 (by decide) ?_
      have hfin : mStep np v x = ((-3), np, v) := by simp only [mStep, if_pos c_5, if_pos c_19]
      exact hret _ ad _ _ _ _ _ _ ⟨show (-3) = (mStep np v x).1 by rw [hfin], fun _ _ => rfl⟩ (by show Wd D classes (tysA g) s A (wC g ad (mStep np v x).2.1 (mStep np v x).2.2) _ _; rw [hfin]; exact hW) (by decide) (by decide) d_C_step_24
  · have c_5 : ¬ (inI (x) (3)) := bo_eq hp1 c_5
    refine lv_iconst (v := (-1)) hx hb d_C_step_8 (by decide) ?_
    have hfin : mStep np v x = ((-1), np, v) := by simp only [mStep, if_neg c_5]
    exact hret _ ad _ _ _ _ _ _ ⟨show (-1) = (mStep np v x).1 by rw [hfin], fun _ _ => rfl⟩ (by show Wd D classes (tysA g) s A (wC g ad (mStep np v x).2.1 (mStep np v x).2.2) _ _; rw [hfin]; exact hW) (by decide) (by decide) d_C_step_9
