abbrev rm_M_tick : Room := { frames := 0, cells := 0, slots := 0, locals := 0 }
set_option maxHeartbeats 4000000 in
set_option maxRecDepth 100000 in
theorem c_M_tick (l : Launch) {D : va_G} {g : Nat → ClassId} {am : Nat → Nat} {r : Vs} (hO : OkM r) : MtI l y_M_tick ws_M_tick rm_M_tick D classes (tysA g) [.ref (am (0))] (wM g am (r)) (fun (rr : Int32) (_ : Unit) => rr = mTick r 0 23) (fun _ => wM g am (mTick r)) 0 0 := by
  refine mt_i (ty := .int) (fun _ _ _ => rfl) (by decide +kernel) rfl (Nat.le_of_ble_eq_true rfl) (fun p e s m args below meth c Q A C hA hW hret ls hl => ?_)
  obtain ⟨hx, hb, hr, hml, hown, hts0, hlocks⟩ := C
  have hts : ∀ w ∈ bigw, w.before args s = true := fun w h => hts0 w (List.mem_cons_of_mem _ h)
  have hown : s.vm.findClass R_M = some m.cls := hown
  have hnp := hO.le
  have hl : lv_has ls 1 [(0, .ref (am (0)))] := hl
  refine lv_aload_n hx hb d_M_tick_0 rfl (lv_at hl 0 rfl) ?_
  refine lv_dup hx hb d_M_tick_1 rfl ?_
  refine wg hx hb hts i_M hown hW (0) (by omega) mm_root rfl 23 (by decide) (hts _ kf_M_77) rfl d_M_tick_2 ?_
  refine lv_iconst (v := 1) hx hb d_M_tick_5 (by decide) ?_
  refine lv_iadd hx hb d_M_tick_6 ?_
  refine wp hx hb hts i_M t_M t_M_ok n_M hown hW (0) (by omega) mm_root rfl 23 (by decide) (hts _ kf_M_77) rfl (by decide +kernel) (x := (r 0 23) + (1)) (Nat.le_of_ble_eq_true rfl) (mm_root.trans rfl) d_M_tick_7 (fun H locs hW => ?_)
  obtain ⟨mr1, ev1⟩ : ∃ z : Vs, z = u2 r (0) 23 ((r 0 23) + (1)) := ⟨_, rfl⟩
  rw [← ev1] at hW
  have hO1 : OkM mr1 := by rw [ev1]; exact hO.fr (by omega)
  refine lv_aload_n hx hb d_M_tick_10 rfl (lv_at hl 0 rfl) ?_
  refine wg hx hb hts i_M hown hW (0) (by omega) mm_root rfl 23 (by decide) (hts _ kf_M_77) rfl d_M_tick_11 ?_
  have hfin : mTick r = mr1 := by
    subst ev1
    rfl
  refine hret _ () _ _ _ _ _ _ ?_ (by show Wd D classes (tysA g) s A (wM g am (mTick r)) _ _; rw [hfin]; exact hW) (by decide) (by decide) d_M_tick_14
  show mr1 0 23 = mTick r 0 23
  rw [hfin]
abbrev rm_M_out : Room := { frames := 0, cells := 0, slots := 0, locals := 0 }
set_option maxHeartbeats 4000000 in
set_option maxRecDepth 100000 in
theorem c_M_out (l : Launch) {D : va_G} {cl : List vw_C} {tys : List (ClassId × FieldType)} (w : va_W) (x : Int32) (n : Int32) : MtI l y_M_out ws_M_out rm_M_out D cl tys [.int (x), .int (n)] (w) (fun (rr : Int32) (_ : Unit) => rr = if outP x n then 1 else 0) (fun _ => w) 0 0 := by
  refine mt_i (ty := .boolean) (fun r _ h => by rw [h]; split <;> rfl) (by decide +kernel) rfl (Nat.le_of_ble_eq_true rfl) (fun p e s m args below meth c Q A C hA hW hret ls hl => ?_)
  obtain ⟨hx, hb, hr, hml, hown, hts0, hlocks⟩ := C
  have hts : ∀ w ∈ bigw, w.before args s = true := fun w h => hts0 w (List.mem_cons_of_mem _ h)
  have hown : s.vm.findClass R_M = some m.cls := hown
  have hl : lv_has ls 2 [(0, .int (x)), (1, .int (n))] := hl
  refine lv_iload_n hx hb d_M_out_0 rfl (lv_at hl 0 rfl) ?_
  refine lv_if_lt (tgt := 9) hx hb d_M_out_1 (by decide) (fun c_1 => ?_) (fun c_1 => ?_)
  · refine lv_iconst (v := 1) hx hb d_M_out_9 (by decide) ?_
    refine lv_goto (tgt := 14) hx hb d_M_out_10 (by decide) ?_
    refine hret _ () _ _ _ _ _ _ ?_ hW (by decide) (by decide) d_M_out_14
    show 1 = if outP x n then (1 : Int32) else 0
    exact ite_t (Or.inl c_1)
  · refine lv_iload_n hx hb d_M_out_4 rfl (lv_at hl 0 rfl) ?_
    refine lv_iload_n hx hb d_M_out_5 rfl (lv_at hl 1 rfl) ?_
    refine lv_icmp_le (tgt := 13) hx hb d_M_out_6 (by decide) (fun c_6 => ?_) (fun c_6 => ?_)
    · refine lv_iconst (v := 0) hx hb d_M_out_13 (by decide) ?_
      refine hret _ () _ _ _ _ _ _ ?_ hW (by decide) (by decide) d_M_out_14
      show 0 = if outP x n then (1 : Int32) else 0
      exact ite_f (fun h => h.elim c_1 (fun q => i_nlt c_6 q))
    · refine lv_iconst (v := 1) hx hb d_M_out_9 (by decide) ?_
      refine lv_goto (tgt := 14) hx hb d_M_out_10 (by decide) ?_
      refine hret _ () _ _ _ _ _ _ ?_ hW (by decide) (by decide) d_M_out_14
      show 1 = if outP x n then (1 : Int32) else 0
      exact ite_t (Or.inr (i_lt c_6))
abbrev rm_M_noProcess : Room := { frames := 0, cells := 0, slots := 0, locals := 0 }
set_option maxHeartbeats 4000000 in
set_option maxRecDepth 100000 in
theorem c_M_noProcess (l : Launch) {D : va_G} {g : Nat → ClassId} {am : Nat → Nat} {r : Vs} (x : Int32) (hO : OkM r) : MtI l y_M_noProcess ws_M_noProcess rm_M_noProcess D classes (tysA g) [.ref (am (0)), .int (x)] (wM g am (r)) (fun (rr : Int32) (_ : Unit) => rr = if npP r x then 1 else 0) (fun _ => wM g am (r)) 0 0 := by
  refine mt_i (ty := .boolean) (fun r _ h => by rw [h]; split <;> rfl) (by decide +kernel) rfl (Nat.le_of_ble_eq_true rfl) (fun p e s m args below meth c Q A C hA hW hret ls hl => ?_)
  obtain ⟨hx, hb, hr, hml, hown, hts0, hlocks⟩ := C
  have hts : ∀ w ∈ bigw, w.before args s = true := fun w h => hts0 w (List.mem_cons_of_mem _ h)
  have hown : s.vm.findClass R_M = some m.cls := hown
  have hnp := hO.le
  have hl : lv_has ls 2 [(0, .ref (am (0))), (1, .int (x))] := hl
  refine lv_iload_n hx hb d_M_noProcess_0 rfl (lv_at hl 1 rfl) ?_
  refine lv_if_lt (tgt := 12) hx hb d_M_noProcess_1 (by decide) (fun c_1 => ?_) (fun c_1 => ?_)
  · refine lv_iconst (v := 1) hx hb d_M_noProcess_12 (by decide) ?_
    refine lv_goto (tgt := 17) hx hb d_M_noProcess_13 (by decide) ?_
    refine hret _ () _ _ _ _ _ _ ?_ hW (by decide) (by decide) d_M_noProcess_17
    show 1 = if npP r x then (1 : Int32) else 0
    exact ite_t (Or.inl c_1)
  · refine lv_iload_n hx hb d_M_noProcess_4 rfl (lv_at hl 1 rfl) ?_
    refine lv_aload_n hx hb d_M_noProcess_5 rfl (lv_at hl 0 rfl) ?_
    refine wg hx hb hts i_M hown hW (0) (by omega) mm_root rfl 14 (by decide) (hts _ kf_M_81) rfl d_M_noProcess_6 ?_
    refine lv_icmp_lt (tgt := 16) hx hb d_M_noProcess_9 (by decide) (fun c_9 => ?_) (fun c_9 => ?_)
    · refine lv_iconst (v := 0) hx hb d_M_noProcess_16 (by decide) ?_
      refine hret _ () _ _ _ _ _ _ ?_ hW (by decide) (by decide) d_M_noProcess_17
      show 0 = if npP r x then (1 : Int32) else 0
      exact ite_f (fun h => h.elim c_1 (fun q => i_nlt q c_9))
    · refine lv_iconst (v := 1) hx hb d_M_noProcess_12 (by decide) ?_
      refine lv_goto (tgt := 17) hx hb d_M_noProcess_13 (by decide) ?_
      refine hret _ () _ _ _ _ _ _ ?_ hW (by decide) (by decide) d_M_noProcess_17
      show 1 = if npP r x then (1 : Int32) else 0
      exact ite_t (Or.inr (i_le c_9))
abbrev rm_M_instr : Room := { frames := 1, cells := 0, slots := 0, locals := 21 }
set_option maxHeartbeats 4000000 in
set_option maxRecDepth 100000 in
theorem c_M_instr (l : Launch) {D : va_G} {g : Nat → ClassId} {am : Nat → Nat} {r : Vs} (x : Int32) (op : Int32) (a : Int32) (b : Int32) (hO : OkM r) : MtI l y_M_instr ws_M_instr rm_M_instr D classes (tysA g) [.ref (am (0)), .int (x), .int (op), .int (a), .int (b)] (wM g am (r)) (fun (rr : Int32) (_ : Unit) => rr = (mIns r x op a b).1) (fun _ => wM g am ((mIns r x op a b).2)) 0 0 := by
  refine mt_i (ty := .int) (fun _ _ _ => rfl) (by decide +kernel) rfl (Nat.le_of_ble_eq_true rfl) (fun p e s m args below meth c Q A C hA hW hret ls hl => ?_)
  obtain ⟨hx, hb, hr, hml, hown, hts0, hlocks⟩ := C
  have hts : ∀ w ∈ bigw, w.before args s = true := fun w h => hts0 w (List.mem_cons_of_mem _ h)
  have hown : s.vm.findClass R_M = some m.cls := hown
  have hnp := hO.le
  have hl : lv_has ls 7 [(0, .ref (am (0))), (1, .int (x)), (2, .int (op)), (3, .int (a)), (4, .int (b))] := hl
  refine lv_iload_n hx hb d_M_instr_0 rfl (lv_at hl 1 rfl) ?_
  refine lv_iconst (v := 3) hx hb d_M_instr_1 (by decide) ?_
  refine wci hW hA (va_runS (As := [.int (x), .int (3)]) (rest := []) ⟨hx, hb, hml, hown, hts⟩ (c_M_out l _ (x) (3) _) (cs 2 hts kc_M_out ks_M_out kn_M km_M_84 kh_M_out rfl rfl ⟨by decide, by decide⟩) (preWS hW) rfl rfl hl.1 rfl (lv_room (Nat.le_of_ble_eq_true rfl)) d_M_instr_2 ⟨by decide, by decide⟩) (fun rr1 uu1 H locs hp1 hW => ?_)
  have hW : Wd D classes (tysA g) s A (wM g am (r)) H locs := hW
  have hp1 : rr1 = if outP (x) (3) then 1 else 0 := hp1
  refine lv_if_ne (tgt := 25) hx hb d_M_instr_5 (by decide) (fun c_5 => ?_) (fun c_5 => ?_)
  · have c_5 : outP (x) (3) := bo_ne hp1 c_5
    refine lv_iconst (v := (-1)) hx hb d_M_instr_25 (by decide) ?_
    have hfin : mIns r x op a b = ((-1), r) := by
      skip; simp only [mIns, mIns2, if_pos c_5]
    refine hret _ () _ _ _ _ _ _ ?_ (by show Wd D classes (tysA g) s A (wM g am ((mIns r x op a b).2)) _ _; rw [hfin]; exact hW) (by decide) (by decide) d_M_instr_26
    show (-1) = (mIns r x op a b).1
    rw [hfin]
  · have c_5 : ¬ (outP (x) (3)) := bo_eq hp1 c_5
    obtain ⟨e2, b2⟩ := nout_nn (N := 3) rfl (by omega) c_5
    refine lv_iload_n hx hb d_M_instr_8 rfl (lv_at hl 2 rfl) ?_
    refine lv_bipush (v := 12) hx hb d_M_instr_9 (by decide) ?_
    refine wci hW hA (va_runS (As := [.int (op), .int (12)]) (rest := []) ⟨hx, hb, hml, hown, hts⟩ (c_M_out l _ (op) (12) _) (cs 2 hts kc_M_out ks_M_out kn_M km_M_84 kh_M_out rfl rfl ⟨by decide, by decide⟩) (preWS hW) rfl rfl hl.1 rfl (lv_room (Nat.le_of_ble_eq_true rfl)) d_M_instr_11 ⟨by decide, by decide⟩) (fun rr3 uu3 H locs hp3 hW => ?_)
    have hW : Wd D classes (tysA g) s A (wM g am (r)) H locs := hW
    have hp3 : rr3 = if outP (op) (12) then 1 else 0 := hp3
    refine lv_if_ne (tgt := 25) hx hb d_M_instr_14 (by decide) (fun c_14 => ?_) (fun c_14 => ?_)
    · have c_14 : outP (op) (12) := bo_ne hp3 c_14
      refine lv_iconst (v := (-1)) hx hb d_M_instr_25 (by decide) ?_
      have hfin : mIns r x op a b = ((-1), r) := by
        skip; simp only [mIns, mIns2, if_neg c_5, if_pos c_14]
      refine hret _ () _ _ _ _ _ _ ?_ (by show Wd D classes (tysA g) s A (wM g am ((mIns r x op a b).2)) _ _; rw [hfin]; exact hW) (by decide) (by decide) d_M_instr_26
      show (-1) = (mIns r x op a b).1
      rw [hfin]
    · have c_14 : ¬ (outP (op) (12)) := bo_eq hp3 c_14
      obtain ⟨e4, b4⟩ := nout_nn (N := 12) rfl (by omega) c_14
      refine lv_iload_n hx hb d_M_instr_17 rfl (lv_at hl 3 rfl) ?_
      refine lv_iconst (v := 3) hx hb d_M_instr_18 (by decide) ?_
      refine wci hW hA (va_runS (As := [.int (a), .int (3)]) (rest := []) ⟨hx, hb, hml, hown, hts⟩ (c_M_out l _ (a) (3) _) (cs 2 hts kc_M_out ks_M_out kn_M km_M_84 kh_M_out rfl rfl ⟨by decide, by decide⟩) (preWS hW) rfl rfl hl.1 rfl (lv_room (Nat.le_of_ble_eq_true rfl)) d_M_instr_19 ⟨by decide, by decide⟩) (fun rr5 uu5 H locs hp5 hW => ?_)
      have hW : Wd D classes (tysA g) s A (wM g am (r)) H locs := hW
      have hp5 : rr5 = if outP (a) (3) then 1 else 0 := hp5
      refine lv_if_eq (tgt := 27) hx hb d_M_instr_22 (by decide) (fun c_22 => ?_) (fun c_22 => ?_)
      · have c_22 : ¬ (outP (a) (3)) := bo_eq hp5 c_22
        obtain ⟨e6, b6⟩ := nout_nn (N := 3) rfl (by omega) c_22
        refine lv_iload_n hx hb d_M_instr_27 rfl (lv_at hl 2 rfl) ?_
        refine lv_if_ne (tgt := 55) hx hb d_M_instr_28 (by decide) (fun c_28 => ?_) (fun c_28 => ?_)
        · have nc_28 : ¬ nn op = 0 := ni_ne e4 rfl (by omega) (by omega) c_28
          refine lv_iload_n hx hb d_M_instr_55 rfl (lv_at hl 2 rfl) ?_
          refine lv_iconst (v := 5) hx hb d_M_instr_56 (by decide) ?_
          refine lv_icmp_ne (tgt := 70) hx hb d_M_instr_57 (by decide) (fun c_57 => ?_) (fun c_57 => ?_)
          · have nc_57 : ¬ nn op = 5 := ni_ne e4 rfl (by omega) (by omega) c_57
            refine lv_iload hx hb d_M_instr_70 (lv_at hl 4 rfl) ?_
            refine lv_iconst (v := 3) hx hb d_M_instr_72 (by decide) ?_
            refine wci hW hA (va_runS (As := [.int (b), .int (3)]) (rest := []) ⟨hx, hb, hml, hown, hts⟩ (c_M_out l _ (b) (3) _) (cs 2 hts kc_M_out ks_M_out kn_M km_M_84 kh_M_out rfl rfl ⟨by decide, by decide⟩) (preWS hW) rfl rfl hl.1 rfl (lv_room (Nat.le_of_ble_eq_true rfl)) d_M_instr_73 ⟨by decide, by decide⟩) (fun rr7 uu7 H locs hp7 hW => ?_)
            have hW : Wd D classes (tysA g) s A (wM g am (r)) H locs := hW
            have hp7 : rr7 = if outP (b) (3) then 1 else 0 := hp7
            refine lv_istore (lv' := [(5, .int (rr7)), (0, .ref (am (0))), (1, .int (x)), (2, .int (op)), (3, .int (a)), (4, .int (b))]) hx hb d_M_instr_76 hl (by decide) rfl (fun ls hl => ?_)
            refine lv_iload hx hb d_M_instr_78 (lv_at hl 0 rfl) ?_
            refine lv_if_eq (tgt := 85) hx hb d_M_instr_80 (by decide) (fun c_80 => ?_) (fun c_80 => ?_)
            · have c_80 : ¬ (outP (b) (3)) := bo_eq hp7 c_80
              obtain ⟨e8, b8⟩ := nout_nn (N := 3) rfl (by omega) c_80
              refine lv_aload_n hx hb d_M_instr_85 rfl (lv_at hl 1 rfl) ?_
              refine wg hx hb hts i_M hown hW (0) (by omega) mm_root rfl 3 (by decide) (hts _ kf_M_19) rfl d_M_instr_86 ?_
              refine lv_iload_n hx hb d_M_instr_89 rfl (lv_at hl 2 rfl) ?_
              refine wi hx hb hW (4) (by omega) mm_4 0 rfl (nn x) e2 (by omega) (by decide) d_M_instr_90 ?_
              obtain ⟨e9, b9⟩ := hO.c4 (nn x)
              refine lv_bipush (v := 12) hx hb d_M_instr_91 (by decide) ?_
              refine lv_icmp_ne (tgt := 99) hx hb d_M_instr_93 (by decide) (fun c_93 => ?_) (fun c_93 => ?_)
              · have nc_93 : ¬ nv r (4) (nn x) = 12 := ni_ne e9 rfl (by omega) (by omega) c_93
                refine lv_bipush (v := 12) hx hb d_M_instr_99 (by decide) ?_
                refine lv_iload_n hx hb d_M_instr_101 rfl (lv_at hl 2 rfl) ?_
                refine lv_imul hx hb d_M_instr_102 ?_
                refine lv_aload_n hx hb d_M_instr_103 rfl (lv_at hl 1 rfl) ?_
                refine wg hx hb hts i_M hown hW (0) (by omega) mm_root rfl 3 (by decide) (hts _ kf_M_19) rfl d_M_instr_104 ?_
                refine lv_iload_n hx hb d_M_instr_107 rfl (lv_at hl 2 rfl) ?_
                refine wi hx hb hW (4) (by omega) mm_4 0 rfl (nn x) e2 (by omega) (by decide) d_M_instr_108 ?_
                obtain ⟨e10, b10⟩ := hO.c4 (nn x)
                refine lv_iadd hx hb d_M_instr_109 ?_
                refine lv_istore (lv' := [(6, .int (((12) * (x)) + (r (4) (nn x)))), (5, .int (rr7)), (0, .ref (am (0))), (1, .int (x)), (2, .int (op)), (3, .int (a)), (4, .int (b))]) hx hb d_M_instr_110 hl (by decide) rfl (fun ls hl => ?_)
                refine lv_aload_n hx hb d_M_instr_112 rfl (lv_at hl 2 rfl) ?_
                refine wg hx hb hts i_M hown hW (0) (by omega) mm_root rfl 0 (by decide) (hts _ kf_M_7) rfl d_M_instr_113 ?_
                refine lv_iload hx hb d_M_instr_116 (lv_at hl 0 rfl) ?_
                refine lv_iload_n hx hb d_M_instr_118 rfl (lv_at hl 4 rfl) ?_
                refine wis hx hb hW (1) (by omega) mm_1 0 rfl (12 * (nn x) + nv r (4) (nn x)) (ni_add (ni_mul rfl e2) e10) (by omega) (by decide) (x := op) mm_1 d_M_instr_119 (fun H locs hW => ?_)
                obtain ⟨mr11, ev11⟩ : ∃ z : Vs, z = u2 r (1) (12 * (nn x) + nv r (4) (nn x)) (op) := ⟨_, rfl⟩
                rw [← ev11] at hW
                refine lv_aload_n hx hb d_M_instr_120 rfl (lv_at hl 2 rfl) ?_
                refine wg hx hb hts i_M hown hW (0) (by omega) mm_root rfl 1 (by decide) (hts _ kf_M_13) rfl d_M_instr_121 ?_
                refine lv_iload hx hb d_M_instr_124 (lv_at hl 0 rfl) ?_
                refine lv_iload_n hx hb d_M_instr_126 rfl (lv_at hl 5 rfl) ?_
                refine wis hx hb hW (2) (by omega) mm_2 0 rfl (12 * (nn x) + nv r (4) (nn x)) (ni_add (ni_mul rfl e2) e10) (by omega) (by decide) (x := a) mm_2 d_M_instr_127 (fun H locs hW => ?_)
                obtain ⟨mr12, ev12⟩ : ∃ z : Vs, z = u2 mr11 (2) (12 * (nn x) + nv r (4) (nn x)) (a) := ⟨_, rfl⟩
                rw [← ev12] at hW
                refine lv_aload_n hx hb d_M_instr_128 rfl (lv_at hl 2 rfl) ?_
                refine wg hx hb hts i_M hown hW (0) (by omega) mm_root rfl 2 (by decide) (hts _ kf_M_16) rfl d_M_instr_129 ?_
                refine lv_iload hx hb d_M_instr_132 (lv_at hl 0 rfl) ?_
                refine lv_iload hx hb d_M_instr_134 (lv_at hl 6 rfl) ?_
                refine wis hx hb hW (3) (by omega) mm_3 0 rfl (12 * (nn x) + nv r (4) (nn x)) (ni_add (ni_mul rfl e2) e10) (by omega) (by decide) (x := b) mm_3 d_M_instr_136 (fun H locs hW => ?_)
                obtain ⟨mr13, ev13⟩ : ∃ z : Vs, z = u2 mr12 (3) (12 * (nn x) + nv r (4) (nn x)) (b) := ⟨_, rfl⟩
                rw [← ev13] at hW
                refine lv_aload_n hx hb d_M_instr_137 rfl (lv_at hl 2 rfl) ?_
                refine wg hx hb hts i_M hown hW (0) (by omega) mm_root rfl 3 (by decide) (hts _ kf_M_19) rfl d_M_instr_138 ?_
                refine lv_iload_n hx hb d_M_instr_141 rfl (lv_at hl 3 rfl) ?_
                refine lv_dup2_11 hx hb d_M_instr_142 rfl rfl ?_
                refine wi hx hb hW (4) (by omega) mm_4 0 rfl (nn x) e2 (by omega) (by decide) d_M_instr_143 ?_
                refine lv_iconst (v := 1) hx hb d_M_instr_144 (by decide) ?_
                refine lv_iadd hx hb d_M_instr_145 ?_
                refine wis hx hb hW (4) (by omega) mm_4 0 rfl (nn x) e2 (by omega) (by decide) (x := (mr13 (4) (nn x)) + (1)) mm_4 d_M_instr_146 (fun H locs hW => ?_)
                obtain ⟨mr14, ev14⟩ : ∃ z : Vs, z = u2 mr13 (4) (nn x) ((mr13 (4) (nn x)) + (1)) := ⟨_, rfl⟩
                rw [← ev14] at hW
                refine lv_aload_n hx hb d_M_instr_147 rfl (lv_at hl 2 rfl) ?_
                refine wg hx hb hts i_M hown hW (0) (by omega) mm_root rfl 3 (by decide) (hts _ kf_M_19) rfl d_M_instr_148 ?_
                refine lv_iload_n hx hb d_M_instr_151 rfl (lv_at hl 3 rfl) ?_
                refine wi hx hb hW (4) (by omega) mm_4 0 rfl (nn x) e2 (by omega) (by decide) d_M_instr_152 ?_
                have hfin : mIns r x op a b = (mr14 (4) (nn x), mr14) := by
                  subst ev14 ev13 ev12 ev11; simp only [mIns, mIns2, if_neg c_5, if_neg c_14, if_neg c_22, if_neg c_28, if_neg c_57, if_neg c_80, if_neg c_93]
                refine hret _ () _ _ _ _ _ _ ?_ (by show Wd D classes (tysA g) s A (wM g am ((mIns r x op a b).2)) _ _; rw [hfin]; exact hW) (by decide) (by decide) d_M_instr_153
                show mr14 (4) (nn x) = (mIns r x op a b).1
                rw [hfin]
              · have nc_93 : nv r (4) (nn x) = 12 := ni_eq e9 rfl (by omega) (by omega) c_93
                refine lv_bipush (v := (-2)) hx hb d_M_instr_96 (by decide) ?_
                have hfin : mIns r x op a b = ((-2), r) := by
                  skip; simp only [mIns, mIns2, if_neg c_5, if_neg c_14, if_neg c_22, if_neg c_28, if_neg c_57, if_neg c_80, if_pos c_93]
                refine hret _ () _ _ _ _ _ _ ?_ (by show Wd D classes (tysA g) s A (wM g am ((mIns r x op a b).2)) _ _; rw [hfin]; exact hW) (by decide) (by decide) d_M_instr_98
                show (-2) = (mIns r x op a b).1
                rw [hfin]
            · have c_80 : outP (b) (3) := bo_ne hp7 c_80
              refine lv_iconst (v := (-1)) hx hb d_M_instr_83 (by decide) ?_
              have hfin : mIns r x op a b = ((-1), r) := by
                skip; simp only [mIns, mIns2, if_neg c_5, if_neg c_14, if_neg c_22, if_neg c_28, if_neg c_57, if_pos c_80]
              refine hret _ () _ _ _ _ _ _ ?_ (by show Wd D classes (tysA g) s A (wM g am ((mIns r x op a b).2)) _ _; rw [hfin]; exact hW) (by decide) (by decide) d_M_instr_84
              show (-1) = (mIns r x op a b).1
              rw [hfin]
          · have nc_57 : nn op = 5 := ni_eq e4 rfl (by omega) (by omega) c_57
            refine lv_iload hx hb d_M_instr_60 (lv_at hl 4 rfl) ?_
            refine lv_bipush (v := 11) hx hb d_M_instr_62 (by decide) ?_
            refine wci hW hA (va_runS (As := [.int (b), .int (11)]) (rest := []) ⟨hx, hb, hml, hown, hts⟩ (c_M_out l _ (b) (11) _) (cs 2 hts kc_M_out ks_M_out kn_M km_M_84 kh_M_out rfl rfl ⟨by decide, by decide⟩) (preWS hW) rfl rfl hl.1 rfl (lv_room (Nat.le_of_ble_eq_true rfl)) d_M_instr_64 ⟨by decide, by decide⟩) (fun rr15 uu15 H locs hp15 hW => ?_)
            have hW : Wd D classes (tysA g) s A (wM g am (r)) H locs := hW
            have hp15 : rr15 = if outP (b) (11) then 1 else 0 := hp15
            refine lv_goto (tgt := 76) hx hb d_M_instr_67 (by decide) ?_
            refine lv_istore (lv' := [(5, .int (rr15)), (0, .ref (am (0))), (1, .int (x)), (2, .int (op)), (3, .int (a)), (4, .int (b))]) hx hb d_M_instr_76 hl (by decide) rfl (fun ls hl => ?_)
            refine lv_iload hx hb d_M_instr_78 (lv_at hl 0 rfl) ?_
            refine lv_if_eq (tgt := 85) hx hb d_M_instr_80 (by decide) (fun c_80 => ?_) (fun c_80 => ?_)
            · have c_80 : ¬ (outP (b) (11)) := bo_eq hp15 c_80
              obtain ⟨e16, b16⟩ := nout_nn (N := 11) rfl (by omega) c_80
              refine lv_aload_n hx hb d_M_instr_85 rfl (lv_at hl 1 rfl) ?_
              refine wg hx hb hts i_M hown hW (0) (by omega) mm_root rfl 3 (by decide) (hts _ kf_M_19) rfl d_M_instr_86 ?_
              refine lv_iload_n hx hb d_M_instr_89 rfl (lv_at hl 2 rfl) ?_
              refine wi hx hb hW (4) (by omega) mm_4 0 rfl (nn x) e2 (by omega) (by decide) d_M_instr_90 ?_
              obtain ⟨e17, b17⟩ := hO.c4 (nn x)
              refine lv_bipush (v := 12) hx hb d_M_instr_91 (by decide) ?_
              refine lv_icmp_ne (tgt := 99) hx hb d_M_instr_93 (by decide) (fun c_93 => ?_) (fun c_93 => ?_)
              · have nc_93 : ¬ nv r (4) (nn x) = 12 := ni_ne e17 rfl (by omega) (by omega) c_93
                refine lv_bipush (v := 12) hx hb d_M_instr_99 (by decide) ?_
                refine lv_iload_n hx hb d_M_instr_101 rfl (lv_at hl 2 rfl) ?_
                refine lv_imul hx hb d_M_instr_102 ?_
                refine lv_aload_n hx hb d_M_instr_103 rfl (lv_at hl 1 rfl) ?_
                refine wg hx hb hts i_M hown hW (0) (by omega) mm_root rfl 3 (by decide) (hts _ kf_M_19) rfl d_M_instr_104 ?_
                refine lv_iload_n hx hb d_M_instr_107 rfl (lv_at hl 2 rfl) ?_
                refine wi hx hb hW (4) (by omega) mm_4 0 rfl (nn x) e2 (by omega) (by decide) d_M_instr_108 ?_
                obtain ⟨e18, b18⟩ := hO.c4 (nn x)
                refine lv_iadd hx hb d_M_instr_109 ?_
                refine lv_istore (lv' := [(6, .int (((12) * (x)) + (r (4) (nn x)))), (5, .int (rr15)), (0, .ref (am (0))), (1, .int (x)), (2, .int (op)), (3, .int (a)), (4, .int (b))]) hx hb d_M_instr_110 hl (by decide) rfl (fun ls hl => ?_)
                refine lv_aload_n hx hb d_M_instr_112 rfl (lv_at hl 2 rfl) ?_
                refine wg hx hb hts i_M hown hW (0) (by omega) mm_root rfl 0 (by decide) (hts _ kf_M_7) rfl d_M_instr_113 ?_
                refine lv_iload hx hb d_M_instr_116 (lv_at hl 0 rfl) ?_
                refine lv_iload_n hx hb d_M_instr_118 rfl (lv_at hl 4 rfl) ?_
                refine wis hx hb hW (1) (by omega) mm_1 0 rfl (12 * (nn x) + nv r (4) (nn x)) (ni_add (ni_mul rfl e2) e18) (by omega) (by decide) (x := op) mm_1 d_M_instr_119 (fun H locs hW => ?_)
                obtain ⟨mr19, ev19⟩ : ∃ z : Vs, z = u2 r (1) (12 * (nn x) + nv r (4) (nn x)) (op) := ⟨_, rfl⟩
                rw [← ev19] at hW
                refine lv_aload_n hx hb d_M_instr_120 rfl (lv_at hl 2 rfl) ?_
                refine wg hx hb hts i_M hown hW (0) (by omega) mm_root rfl 1 (by decide) (hts _ kf_M_13) rfl d_M_instr_121 ?_
                refine lv_iload hx hb d_M_instr_124 (lv_at hl 0 rfl) ?_
                refine lv_iload_n hx hb d_M_instr_126 rfl (lv_at hl 5 rfl) ?_
                refine wis hx hb hW (2) (by omega) mm_2 0 rfl (12 * (nn x) + nv r (4) (nn x)) (ni_add (ni_mul rfl e2) e18) (by omega) (by decide) (x := a) mm_2 d_M_instr_127 (fun H locs hW => ?_)
                obtain ⟨mr20, ev20⟩ : ∃ z : Vs, z = u2 mr19 (2) (12 * (nn x) + nv r (4) (nn x)) (a) := ⟨_, rfl⟩
                rw [← ev20] at hW
                refine lv_aload_n hx hb d_M_instr_128 rfl (lv_at hl 2 rfl) ?_
                refine wg hx hb hts i_M hown hW (0) (by omega) mm_root rfl 2 (by decide) (hts _ kf_M_16) rfl d_M_instr_129 ?_
                refine lv_iload hx hb d_M_instr_132 (lv_at hl 0 rfl) ?_
                refine lv_iload hx hb d_M_instr_134 (lv_at hl 6 rfl) ?_
                refine wis hx hb hW (3) (by omega) mm_3 0 rfl (12 * (nn x) + nv r (4) (nn x)) (ni_add (ni_mul rfl e2) e18) (by omega) (by decide) (x := b) mm_3 d_M_instr_136 (fun H locs hW => ?_)
                obtain ⟨mr21, ev21⟩ : ∃ z : Vs, z = u2 mr20 (3) (12 * (nn x) + nv r (4) (nn x)) (b) := ⟨_, rfl⟩
                rw [← ev21] at hW
                refine lv_aload_n hx hb d_M_instr_137 rfl (lv_at hl 2 rfl) ?_
                refine wg hx hb hts i_M hown hW (0) (by omega) mm_root rfl 3 (by decide) (hts _ kf_M_19) rfl d_M_instr_138 ?_
                refine lv_iload_n hx hb d_M_instr_141 rfl (lv_at hl 3 rfl) ?_
                refine lv_dup2_11 hx hb d_M_instr_142 rfl rfl ?_
                refine wi hx hb hW (4) (by omega) mm_4 0 rfl (nn x) e2 (by omega) (by decide) d_M_instr_143 ?_
                refine lv_iconst (v := 1) hx hb d_M_instr_144 (by decide) ?_
                refine lv_iadd hx hb d_M_instr_145 ?_
                refine wis hx hb hW (4) (by omega) mm_4 0 rfl (nn x) e2 (by omega) (by decide) (x := (mr21 (4) (nn x)) + (1)) mm_4 d_M_instr_146 (fun H locs hW => ?_)
                obtain ⟨mr22, ev22⟩ : ∃ z : Vs, z = u2 mr21 (4) (nn x) ((mr21 (4) (nn x)) + (1)) := ⟨_, rfl⟩
                rw [← ev22] at hW
                refine lv_aload_n hx hb d_M_instr_147 rfl (lv_at hl 2 rfl) ?_
                refine wg hx hb hts i_M hown hW (0) (by omega) mm_root rfl 3 (by decide) (hts _ kf_M_19) rfl d_M_instr_148 ?_
                refine lv_iload_n hx hb d_M_instr_151 rfl (lv_at hl 3 rfl) ?_
                refine wi hx hb hW (4) (by omega) mm_4 0 rfl (nn x) e2 (by omega) (by decide) d_M_instr_152 ?_
                have hfin : mIns r x op a b = (mr22 (4) (nn x), mr22) := by
                  subst ev22 ev21 ev20 ev19; simp only [mIns, mIns2, if_neg c_5, if_neg c_14, if_neg c_22, if_neg c_28, if_pos c_57, if_neg c_80, if_neg c_93]
                refine hret _ () _ _ _ _ _ _ ?_ (by show Wd D classes (tysA g) s A (wM g am ((mIns r x op a b).2)) _ _; rw [hfin]; exact hW) (by decide) (by decide) d_M_instr_153
                show mr22 (4) (nn x) = (mIns r x op a b).1
                rw [hfin]
              · have nc_93 : nv r (4) (nn x) = 12 := ni_eq e17 rfl (by omega) (by omega) c_93
                refine lv_bipush (v := (-2)) hx hb d_M_instr_96 (by decide) ?_
                have hfin : mIns r x op a b = ((-2), r) := by
                  skip; simp only [mIns, mIns2, if_neg c_5, if_neg c_14, if_neg c_22, if_neg c_28, if_pos c_57, if_neg c_80, if_pos c_93]
                refine hret _ () _ _ _ _ _ _ ?_ (by show Wd D classes (tysA g) s A (wM g am ((mIns r x op a b).2)) _ _; rw [hfin]; exact hW) (by decide) (by decide) d_M_instr_98
                show (-2) = (mIns r x op a b).1
                rw [hfin]
            · have c_80 : outP (b) (11) := bo_ne hp15 c_80
              refine lv_iconst (v := (-1)) hx hb d_M_instr_83 (by decide) ?_
              have hfin : mIns r x op a b = ((-1), r) := by
                skip; simp only [mIns, mIns2, if_neg c_5, if_neg c_14, if_neg c_22, if_neg c_28, if_pos c_57, if_pos c_80]
              refine hret _ () _ _ _ _ _ _ ?_ (by show Wd D classes (tysA g) s A (wM g am ((mIns r x op a b).2)) _ _; rw [hfin]; exact hW) (by decide) (by decide) d_M_instr_84
              show (-1) = (mIns r x op a b).1
              rw [hfin]
        · have nc_28 : nn op = 0 := ni_eq e4 rfl (by omega) (by omega) c_28
          refine lv_iload hx hb d_M_instr_31 (lv_at hl 4 rfl) ?_
          refine lv_sipush (v := (-1000)) hx hb d_M_instr_33 (by decide) ?_
          refine lv_icmp_lt (tgt := 47) hx hb d_M_instr_36 (by decide) (fun c_36 => ?_) (fun c_36 => ?_)
          · refine lv_iconst (v := 1) hx hb d_M_instr_47 (by decide) ?_
            refine lv_goto (tgt := 76) hx hb d_M_instr_48 (by decide) ?_
            refine lv_istore (lv' := [(5, .int (1)), (0, .ref (am (0))), (1, .int (x)), (2, .int (op)), (3, .int (a)), (4, .int (b))]) hx hb d_M_instr_76 hl (by decide) rfl (fun ls hl => ?_)
            refine lv_iload hx hb d_M_instr_78 (lv_at hl 0 rfl) ?_
            refine lv_if_eq (tgt := 85) hx hb d_M_instr_80 (by decide) (fun c_80 => absurd c_80 (by decide)) (fun c_80 => ?_)
            refine lv_iconst (v := (-1)) hx hb d_M_instr_83 (by decide) ?_
            have hfin : mIns r x op a b = ((-1), r) := by
              skip; simp only [mIns, mIns2, if_neg c_5, if_neg c_14, if_neg c_22, if_pos c_28, if_pos c_36]
            refine hret _ () _ _ _ _ _ _ ?_ (by show Wd D classes (tysA g) s A (wM g am ((mIns r x op a b).2)) _ _; rw [hfin]; exact hW) (by decide) (by decide) d_M_instr_84
            show (-1) = (mIns r x op a b).1
            rw [hfin]
          · refine lv_iload hx hb d_M_instr_39 (lv_at hl 4 rfl) ?_
            refine lv_sipush (v := 1000) hx hb d_M_instr_41 (by decide) ?_
            refine lv_icmp_le (tgt := 51) hx hb d_M_instr_44 (by decide) (fun c_44 => ?_) (fun c_44 => ?_)
            · refine lv_iconst (v := 0) hx hb d_M_instr_51 (by decide) ?_
              refine lv_goto (tgt := 76) hx hb d_M_instr_52 (by decide) ?_
              refine lv_istore (lv' := [(5, .int (0)), (0, .ref (am (0))), (1, .int (x)), (2, .int (op)), (3, .int (a)), (4, .int (b))]) hx hb d_M_instr_76 hl (by decide) rfl (fun ls hl => ?_)
              refine lv_iload hx hb d_M_instr_78 (lv_at hl 0 rfl) ?_
              refine lv_if_eq (tgt := 85) hx hb d_M_instr_80 (by decide) (fun c_80 => ?_) (fun c_80 => absurd (by decide) c_80)
              refine lv_aload_n hx hb d_M_instr_85 rfl (lv_at hl 1 rfl) ?_
              refine wg hx hb hts i_M hown hW (0) (by omega) mm_root rfl 3 (by decide) (hts _ kf_M_19) rfl d_M_instr_86 ?_
              refine lv_iload_n hx hb d_M_instr_89 rfl (lv_at hl 2 rfl) ?_
              refine wi hx hb hW (4) (by omega) mm_4 0 rfl (nn x) e2 (by omega) (by decide) d_M_instr_90 ?_
              obtain ⟨e23, b23⟩ := hO.c4 (nn x)
              refine lv_bipush (v := 12) hx hb d_M_instr_91 (by decide) ?_
              refine lv_icmp_ne (tgt := 99) hx hb d_M_instr_93 (by decide) (fun c_93 => ?_) (fun c_93 => ?_)
              · have nc_93 : ¬ nv r (4) (nn x) = 12 := ni_ne e23 rfl (by omega) (by omega) c_93
                refine lv_bipush (v := 12) hx hb d_M_instr_99 (by decide) ?_
                refine lv_iload_n hx hb d_M_instr_101 rfl (lv_at hl 2 rfl) ?_
                refine lv_imul hx hb d_M_instr_102 ?_
                refine lv_aload_n hx hb d_M_instr_103 rfl (lv_at hl 1 rfl) ?_
                refine wg hx hb hts i_M hown hW (0) (by omega) mm_root rfl 3 (by decide) (hts _ kf_M_19) rfl d_M_instr_104 ?_
                refine lv_iload_n hx hb d_M_instr_107 rfl (lv_at hl 2 rfl) ?_
                refine wi hx hb hW (4) (by omega) mm_4 0 rfl (nn x) e2 (by omega) (by decide) d_M_instr_108 ?_
                obtain ⟨e24, b24⟩ := hO.c4 (nn x)
                refine lv_iadd hx hb d_M_instr_109 ?_
                refine lv_istore (lv' := [(6, .int (((12) * (x)) + (r (4) (nn x)))), (5, .int (0)), (0, .ref (am (0))), (1, .int (x)), (2, .int (op)), (3, .int (a)), (4, .int (b))]) hx hb d_M_instr_110 hl (by decide) rfl (fun ls hl => ?_)
                refine lv_aload_n hx hb d_M_instr_112 rfl (lv_at hl 2 rfl) ?_
                refine wg hx hb hts i_M hown hW (0) (by omega) mm_root rfl 0 (by decide) (hts _ kf_M_7) rfl d_M_instr_113 ?_
                refine lv_iload hx hb d_M_instr_116 (lv_at hl 0 rfl) ?_
                refine lv_iload_n hx hb d_M_instr_118 rfl (lv_at hl 4 rfl) ?_
                refine wis hx hb hW (1) (by omega) mm_1 0 rfl (12 * (nn x) + nv r (4) (nn x)) (ni_add (ni_mul rfl e2) e24) (by omega) (by decide) (x := op) mm_1 d_M_instr_119 (fun H locs hW => ?_)
                obtain ⟨mr25, ev25⟩ : ∃ z : Vs, z = u2 r (1) (12 * (nn x) + nv r (4) (nn x)) (op) := ⟨_, rfl⟩
                rw [← ev25] at hW
                refine lv_aload_n hx hb d_M_instr_120 rfl (lv_at hl 2 rfl) ?_
                refine wg hx hb hts i_M hown hW (0) (by omega) mm_root rfl 1 (by decide) (hts _ kf_M_13) rfl d_M_instr_121 ?_
                refine lv_iload hx hb d_M_instr_124 (lv_at hl 0 rfl) ?_
                refine lv_iload_n hx hb d_M_instr_126 rfl (lv_at hl 5 rfl) ?_
                refine wis hx hb hW (2) (by omega) mm_2 0 rfl (12 * (nn x) + nv r (4) (nn x)) (ni_add (ni_mul rfl e2) e24) (by omega) (by decide) (x := a) mm_2 d_M_instr_127 (fun H locs hW => ?_)
                obtain ⟨mr26, ev26⟩ : ∃ z : Vs, z = u2 mr25 (2) (12 * (nn x) + nv r (4) (nn x)) (a) := ⟨_, rfl⟩
                rw [← ev26] at hW
                refine lv_aload_n hx hb d_M_instr_128 rfl (lv_at hl 2 rfl) ?_
                refine wg hx hb hts i_M hown hW (0) (by omega) mm_root rfl 2 (by decide) (hts _ kf_M_16) rfl d_M_instr_129 ?_
                refine lv_iload hx hb d_M_instr_132 (lv_at hl 0 rfl) ?_
                refine lv_iload hx hb d_M_instr_134 (lv_at hl 6 rfl) ?_
                refine wis hx hb hW (3) (by omega) mm_3 0 rfl (12 * (nn x) + nv r (4) (nn x)) (ni_add (ni_mul rfl e2) e24) (by omega) (by decide) (x := b) mm_3 d_M_instr_136 (fun H locs hW => ?_)
                obtain ⟨mr27, ev27⟩ : ∃ z : Vs, z = u2 mr26 (3) (12 * (nn x) + nv r (4) (nn x)) (b) := ⟨_, rfl⟩
                rw [← ev27] at hW
                refine lv_aload_n hx hb d_M_instr_137 rfl (lv_at hl 2 rfl) ?_
                refine wg hx hb hts i_M hown hW (0) (by omega) mm_root rfl 3 (by decide) (hts _ kf_M_19) rfl d_M_instr_138 ?_
                refine lv_iload_n hx hb d_M_instr_141 rfl (lv_at hl 3 rfl) ?_
                refine lv_dup2_11 hx hb d_M_instr_142 rfl rfl ?_
                refine wi hx hb hW (4) (by omega) mm_4 0 rfl (nn x) e2 (by omega) (by decide) d_M_instr_143 ?_
                refine lv_iconst (v := 1) hx hb d_M_instr_144 (by decide) ?_
                refine lv_iadd hx hb d_M_instr_145 ?_
                refine wis hx hb hW (4) (by omega) mm_4 0 rfl (nn x) e2 (by omega) (by decide) (x := (mr27 (4) (nn x)) + (1)) mm_4 d_M_instr_146 (fun H locs hW => ?_)
                obtain ⟨mr28, ev28⟩ : ∃ z : Vs, z = u2 mr27 (4) (nn x) ((mr27 (4) (nn x)) + (1)) := ⟨_, rfl⟩
                rw [← ev28] at hW
                refine lv_aload_n hx hb d_M_instr_147 rfl (lv_at hl 2 rfl) ?_
                refine wg hx hb hts i_M hown hW (0) (by omega) mm_root rfl 3 (by decide) (hts _ kf_M_19) rfl d_M_instr_148 ?_
                refine lv_iload_n hx hb d_M_instr_151 rfl (lv_at hl 3 rfl) ?_
                refine wi hx hb hW (4) (by omega) mm_4 0 rfl (nn x) e2 (by omega) (by decide) d_M_instr_152 ?_
                have hfin : mIns r x op a b = (mr28 (4) (nn x), mr28) := by
                  subst ev28 ev27 ev26 ev25; simp only [mIns, mIns2, if_neg c_5, if_neg c_14, if_neg c_22, if_pos c_28, if_neg c_36, if_pos c_44, if_neg c_93]
                refine hret _ () _ _ _ _ _ _ ?_ (by show Wd D classes (tysA g) s A (wM g am ((mIns r x op a b).2)) _ _; rw [hfin]; exact hW) (by decide) (by decide) d_M_instr_153
                show mr28 (4) (nn x) = (mIns r x op a b).1
                rw [hfin]
              · have nc_93 : nv r (4) (nn x) = 12 := ni_eq e23 rfl (by omega) (by omega) c_93
                refine lv_bipush (v := (-2)) hx hb d_M_instr_96 (by decide) ?_
                have hfin : mIns r x op a b = ((-2), r) := by
                  skip; simp only [mIns, mIns2, if_neg c_5, if_neg c_14, if_neg c_22, if_pos c_28, if_neg c_36, if_pos c_44, if_pos c_93]
                refine hret _ () _ _ _ _ _ _ ?_ (by show Wd D classes (tysA g) s A (wM g am ((mIns r x op a b).2)) _ _; rw [hfin]; exact hW) (by decide) (by decide) d_M_instr_98
                show (-2) = (mIns r x op a b).1
                rw [hfin]
            · refine lv_iconst (v := 1) hx hb d_M_instr_47 (by decide) ?_
              refine lv_goto (tgt := 76) hx hb d_M_instr_48 (by decide) ?_
              refine lv_istore (lv' := [(5, .int (1)), (0, .ref (am (0))), (1, .int (x)), (2, .int (op)), (3, .int (a)), (4, .int (b))]) hx hb d_M_instr_76 hl (by decide) rfl (fun ls hl => ?_)
              refine lv_iload hx hb d_M_instr_78 (lv_at hl 0 rfl) ?_
              refine lv_if_eq (tgt := 85) hx hb d_M_instr_80 (by decide) (fun c_80 => absurd c_80 (by decide)) (fun c_80 => ?_)
              refine lv_iconst (v := (-1)) hx hb d_M_instr_83 (by decide) ?_
              have hfin : mIns r x op a b = ((-1), r) := by
                skip; simp only [mIns, mIns2, if_neg c_5, if_neg c_14, if_neg c_22, if_pos c_28, if_neg c_36, if_neg c_44]
              refine hret _ () _ _ _ _ _ _ ?_ (by show Wd D classes (tysA g) s A (wM g am ((mIns r x op a b).2)) _ _; rw [hfin]; exact hW) (by decide) (by decide) d_M_instr_84
              show (-1) = (mIns r x op a b).1
              rw [hfin]
      · have c_22 : outP (a) (3) := bo_ne hp5 c_22
        refine lv_iconst (v := (-1)) hx hb d_M_instr_25 (by decide) ?_
        have hfin : mIns r x op a b = ((-1), r) := by
          skip; simp only [mIns, mIns2, if_neg c_5, if_neg c_14, if_pos c_22]
        refine hret _ () _ _ _ _ _ _ ?_ (by show Wd D classes (tysA g) s A (wM g am ((mIns r x op a b).2)) _ _; rw [hfin]; exact hW) (by decide) (by decide) d_M_instr_26
        show (-1) = (mIns r x op a b).1
        rw [hfin]
abbrev rm_M_ready : Room := { frames := 1, cells := 0, slots := 0, locals := 20 }
set_option maxHeartbeats 4000000 in
set_option maxRecDepth 100000 in
theorem c_M_ready (l : Launch) {D : va_G} {g : Nat → ClassId} {am : Nat → Nat} {r : Vs} (x : Int32) (pn : Nat) (zx : x = nI pn) (lpn : pn < 8) (hO : OkM r) : MtV l y_M_ready ws_M_ready rm_M_ready D classes (tysA g) [.ref (am (0)), .int (x)] (wM g am (r)) (fun _ : Unit => True) (fun _ => wM g am (mRdy r pn)) 0 0 := by
  refine mt_v (by decide +kernel) rfl (Nat.le_of_ble_eq_true rfl) (fun p e s m args below meth c Q A C hnm hA hW hret ls hl => ?_)
  obtain ⟨hx, hb, hr, hml, hown, hts0, hlocks⟩ := C
  have hts : ∀ w ∈ bigw, w.before args s = true := fun w h => hts0 w (List.mem_cons_of_mem _ h)
  have hown : s.vm.findClass R_M = some m.cls := hown
  have hnp := hO.le
  have hl : lv_has ls 2 [(0, .ref (am (0))), (1, .int (x))] := hl
  refine lv_aload_n hx hb d_M_ready_0 rfl (lv_at hl 0 rfl) ?_
  refine wg hx hb hts i_M hown hW (0) (by omega) mm_root rfl 8 (by decide) (hts _ kf_M_34) rfl d_M_ready_1 ?_
  refine lv_iload_n hx hb d_M_ready_4 rfl (lv_at hl 1 rfl) ?_
  refine lv_iconst (v := 1) hx hb d_M_ready_5 (by decide) ?_
  refine wis hx hb hW (9) (by omega) mm_9 0 rfl (pn) zx (by omega) (by decide) (x := 1) mm_9 d_M_ready_6 (fun H locs hW => ?_)
  obtain ⟨mr1, ev1⟩ : ∃ z : Vs, z = u2 r (9) (pn) (1) := ⟨_, rfl⟩
  rw [← ev1] at hW
  have hO1 : OkM mr1 := by rw [ev1]; exact hO.fr (by omega)
  refine lv_aload_n hx hb d_M_ready_7 rfl (lv_at hl 0 rfl) ?_
  refine wg hx hb hts i_M hown hW (0) (by omega) mm_root rfl 9 (by decide) (hts _ kf_M_37) rfl d_M_ready_8 ?_
  refine lv_iload_n hx hb d_M_ready_11 rfl (lv_at hl 1 rfl) ?_
  refine lv_aload_n hx hb d_M_ready_12 rfl (lv_at hl 0 rfl) ?_
  refine wci hW hA (va_runV (As := []) (rest := [.int (x), .ref (am (10))]) ⟨hx, hb, hml, hown, hts⟩ (c_M_tick l hO1 _) (cv 0 hts kc_M_tick ki_M_tick ke_M_tick kn_M km_M_88 kh_M_tick rfl rfl ⟨by decide, by decide⟩) (preW hW rfl rfl (mw_get (by omega) mm_root)) rfl rfl hl.1 rfl (lv_room (Nat.le_of_ble_eq_true rfl)) d_M_ready_13 ⟨by decide, by decide⟩) (fun rr2 uu2 H locs hp2 hW => ?_)
  have hW : Wd D classes (tysA g) s A (wM g am (mTick mr1)) H locs := hW
  obtain ⟨mr3, ev3⟩ : ∃ z : Vs, z = mTick mr1 := ⟨_, rfl⟩
  rw [← ev3] at hW
  have hO3 : OkM mr3 := by rw [ev3]; exact hO1.tick
  have hp2 : rr2 = mTick mr1 0 23 := hp2
  subst hp2
  refine wis hx hb hW (10) (by omega) mm_10 0 rfl (pn) zx (by omega) (by decide) (x := mTick mr1 0 23) mm_10 d_M_ready_16 (fun H locs hW => ?_)
  obtain ⟨mr4, ev4⟩ : ∃ z : Vs, z = u2 mr3 (10) (pn) (mTick mr1 0 23) := ⟨_, rfl⟩
  rw [← ev4] at hW
  have hO4 : OkM mr4 := by rw [ev4]; exact hO3.fr (by omega)
  refine lv_aload_n hx hb d_M_ready_17 rfl (lv_at hl 0 rfl) ?_
  refine wg hx hb hts i_M hown hW (0) (by omega) mm_root rfl 10 (by decide) (hts _ kf_M_40) rfl d_M_ready_18 ?_
  refine lv_iload_n hx hb d_M_ready_21 rfl (lv_at hl 1 rfl) ?_
  refine lv_iconst (v := 0) hx hb d_M_ready_22 (by decide) ?_
  refine wis hx hb hW (11) (by omega) mm_11 0 rfl (pn) zx (by omega) (by decide) (x := 0) mm_11 d_M_ready_23 (fun H locs hW => ?_)
  obtain ⟨mr5, ev5⟩ : ∃ z : Vs, z = u2 mr4 (11) (pn) (0) := ⟨_, rfl⟩
  rw [← ev5] at hW
  have hO5 : OkM mr5 := by rw [ev5]; exact hO4.fr (by omega)
  refine lv_aload_n hx hb d_M_ready_24 rfl (lv_at hl 0 rfl) ?_
  refine wg hx hb hts i_M hown hW (0) (by omega) mm_root rfl 13 (by decide) (hts _ kf_M_49) rfl d_M_ready_25 ?_
  refine lv_iload_n hx hb d_M_ready_28 rfl (lv_at hl 1 rfl) ?_
  refine lv_bipush (v := 8) hx hb d_M_ready_29 (by decide) ?_
  refine wis hx hb hW (14) (by omega) mm_14 0 rfl (pn) zx (by omega) (by decide) (x := 8) mm_14 d_M_ready_31 (fun H locs hW => ?_)
  obtain ⟨mr6, ev6⟩ : ∃ z : Vs, z = u2 mr5 (14) (pn) (8) := ⟨_, rfl⟩
  rw [← ev6] at hW
  have hO6 : OkM mr6 := by rw [ev6]; exact hO5.fr (by omega)
  have hfin : mRdy r pn = mr6 := by
    subst ev6 ev5 ev4 ev3 ev1
    rfl
  exact hret () _ _ _ _ _ _ trivial (by show Wd D classes (tysA g) s A (wM g am (mRdy r pn)) _ _; rw [hfin]; exact hW) (by decide) (by decide) d_M_ready_32
abbrev rm_M_make : Room := { frames := 2, cells := 0, slots := 0, locals := 41 }
set_option maxHeartbeats 4000000 in
set_option maxRecDepth 100000 in
theorem c_M_make (l : Launch) {D : va_G} {g : Nat → ClassId} {am : Nat → Nat} {r : Vs} (x : Int32) (y : Int32) (n : Nat) (zy : y = nI n) (ln : n < 3) (hO : OkM r) (hx4 : okLt 4 x) : MtI l y_M_make ws_M_make rm_M_make D classes (tysA g) [.ref (am (0)), .int (x), .int (y)] (wM g am (r)) (fun (rr : Int32) (_ : Unit) => rr = (mMake r x y).1) (fun _ => wM g am ((mMake r x y).2)) 0 0 := by
  refine mt_i (ty := .int) (fun _ _ _ => rfl) (by decide +kernel) rfl (Nat.le_of_ble_eq_true rfl) (fun p e s m args below meth c Q A C hA hW hret ls hl => ?_)
  obtain ⟨hx, hb, hr, hml, hown, hts0, hlocks⟩ := C
  have hts : ∀ w ∈ bigw, w.before args s = true := fun w h => hts0 w (List.mem_cons_of_mem _ h)
  have hown : s.vm.findClass R_M = some m.cls := hown
  have hnp := hO.le
  have hl : lv_has ls 5 [(0, .ref (am (0))), (1, .int (x)), (2, .int (y))] := hl
  refine lv_aload_n hx hb d_M_make_0 rfl (lv_at hl 0 rfl) ?_
  refine wg hx hb hts i_M hown hW (0) (by omega) mm_root rfl 14 (by decide) (hts _ kf_M_81) rfl d_M_make_1 ?_
  obtain ⟨e1, b1⟩ := hO.made
  refine lv_bipush (v := 8) hx hb d_M_make_4 (by decide) ?_
  refine lv_icmp_ne (tgt := 11) hx hb d_M_make_6 (by decide) (fun c_6 => ?_) (fun c_6 => ?_)
  · have nc_6 : ¬ nv r (0) 14 = 8 := ni_ne e1 rfl (by omega) (by omega) c_6
    refine lv_aload_n hx hb d_M_make_11 rfl (lv_at hl 0 rfl) ?_
    refine wg hx hb hts i_M hown hW (0) (by omega) mm_root rfl 14 (by decide) (hts _ kf_M_81) rfl d_M_make_12 ?_
    obtain ⟨e2, b2⟩ := hO.made
    refine lv_istore_n (lv' := [(3, .int (r 0 14)), (0, .ref (am (0))), (1, .int (x)), (2, .int (y))]) hx hb d_M_make_15 rfl hl (by decide) rfl (fun ls hl => ?_)
    refine lv_aload_n hx hb d_M_make_16 rfl (lv_at hl 1 rfl) ?_
    refine lv_dup hx hb d_M_make_17 rfl ?_
    refine wg hx hb hts i_M hown hW (0) (by omega) mm_root rfl 14 (by decide) (hts _ kf_M_81) rfl d_M_make_18 ?_
    obtain ⟨e3, b3⟩ := hO.made
    refine lv_iconst (v := 1) hx hb d_M_make_21 (by decide) ?_
    refine lv_iadd hx hb d_M_make_22 ?_
    refine wp hx hb hts i_M t_M t_M_ok n_M hown hW (0) (by omega) mm_root rfl 14 (by decide) (hts _ kf_M_81) rfl (by decide +kernel) (x := (r 0 14) + (1)) (Nat.le_of_ble_eq_true rfl) (mm_root.trans rfl) d_M_make_23 (fun H locs hW => ?_)
    obtain ⟨mr4, ev4⟩ : ∃ z : Vs, z = u2 r (0) 14 ((r 0 14) + (1)) := ⟨_, rfl⟩
    rw [← ev4] at hW
    have hO4 : OkM mr4 := by rw [ev4]; exact hO.set (fun _ _ => ⟨nv r (0) 14 + 1, by omega, (ni_add e3 rfl)⟩) (fun a => absurd a (by decide)) (fun a => absurd a (by decide)) (fun a => absurd a (by decide)) (fun a => absurd a (by decide)) (by decide)
    refine lv_aload_n hx hb d_M_make_26 rfl (lv_at hl 1 rfl) ?_
    refine wg hx hb hts i_M hown hW (0) (by omega) mm_root rfl 4 (by decide) (hts _ kf_M_22) rfl d_M_make_27 ?_
    refine lv_iload_n hx hb d_M_make_30 rfl (lv_at hl 0 rfl) ?_
    refine lv_iload_n hx hb d_M_make_31 rfl (lv_at hl 2 rfl) ?_
    refine wis hx hb hW (5) (by omega) mm_5 0 rfl (nv r (0) 14) e2 (by omega) (by decide) (x := x) mm_5 d_M_make_32 (fun H locs hW => ?_)
    obtain ⟨mr5, ev5⟩ : ∃ z : Vs, z = u2 mr4 (5) (nv r (0) 14) (x) := ⟨_, rfl⟩
    rw [← ev5] at hW
    have hO5 : OkM mr5 := by rw [ev5]; exact hO4.set (fun a => absurd a (by decide)) (fun _ => hx4) (fun a => absurd a (by decide)) (fun a => absurd a (by decide)) (fun a => absurd a (by decide)) (by decide)
    refine lv_aload_n hx hb d_M_make_33 rfl (lv_at hl 1 rfl) ?_
    refine wg hx hb hts i_M hown hW (0) (by omega) mm_root rfl 7 (by decide) (hts _ kf_M_31) rfl d_M_make_34 ?_
    refine lv_iload_n hx hb d_M_make_37 rfl (lv_at hl 0 rfl) ?_
    refine lv_iload_n hx hb d_M_make_38 rfl (lv_at hl 3 rfl) ?_
    refine wis hx hb hW (8) (by omega) mm_8 0 rfl (nv r (0) 14) e2 (by omega) (by decide) (x := y) mm_8 d_M_make_39 (fun H locs hW => ?_)
    obtain ⟨mr6, ev6⟩ : ∃ z : Vs, z = u2 mr5 (8) (nv r (0) 14) (y) := ⟨_, rfl⟩
    rw [← ev6] at hW
    have hO6 : OkM mr6 := by rw [ev6]; exact hO5.set (fun a => absurd a (by decide)) (fun a => absurd a (by decide)) (fun a => absurd a (by decide)) (fun _ => ⟨n, by omega, zy⟩) (fun a => absurd a (by decide)) (by decide)
    refine lv_iconst (v := 0) hx hb d_M_make_40 (by decide) ?_
    refine lv_istore (lv' := [(4, .int (0)), (3, .int (r 0 14)), (0, .ref (am (0))), (1, .int (x)), (2, .int (y))]) hx hb d_M_make_41 hl (by decide) rfl (fun ls hl => ?_)
    refine lv_iload hx hb d_M_make_43 (lv_at hl 0 rfl) ?_
    refine lv_iconst (v := 3) hx hb d_M_make_45 (by decide) ?_
    refine lv_icmp_ge (tgt := 68) hx hb d_M_make_46 (by decide) (fun c_46 => absurd c_46 (by decide)) (fun c_46 => ?_)
    refine lv_aload_n hx hb d_M_make_49 rfl (lv_at hl 2 rfl) ?_
    refine wg hx hb hts i_M hown hW (0) (by omega) mm_root rfl 22 (by decide) (hts _ kf_M_74) rfl d_M_make_50 ?_
    refine lv_bipush (v := 8) hx hb d_M_make_53 (by decide) ?_
    refine lv_iload hx hb d_M_make_55 (lv_at hl 0 rfl) ?_
    refine lv_imul hx hb d_M_make_57 ?_
    refine lv_iload_n hx hb d_M_make_58 rfl (lv_at hl 1 rfl) ?_
    refine lv_iadd hx hb d_M_make_59 ?_
    refine lv_iload_n hx hb d_M_make_60 rfl (lv_at hl 4 rfl) ?_
    refine wis hx hb hW (22) (by omega) mm_22 0 rfl (8 * 0 + nv r (0) 14) (ni_add (ni_mul rfl rfl) e2) (by omega) (by decide) (x := y) mm_22 d_M_make_61 (fun H locs hW => ?_)
    obtain ⟨mr7, ev7⟩ : ∃ z : Vs, z = u2 mr6 (22) (8 * 0 + nv r (0) 14) (y) := ⟨_, rfl⟩
    rw [← ev7] at hW
    have hO7 : OkM mr7 := by rw [ev7]; exact hO6.set (fun a => absurd a (by decide)) (fun a => absurd a (by decide)) (fun a => absurd a (by decide)) (fun a => absurd a (by decide)) (fun _ => ⟨n, by omega, zy⟩) (by decide)
    refine lv_iinc (v := 1) (lv' := [(4, .int (1)), (3, .int (r 0 14)), (0, .ref (am (0))), (1, .int (x)), (2, .int (y))]) hx hb d_M_make_62 hl (k := 0) rfl (by decide) (by decide) rfl (fun ls hl => ?_)
    refine lv_goto (tgt := 43) hx hb d_M_make_65 (by decide) ?_
    refine lv_iload hx hb d_M_make_43 (lv_at hl 0 rfl) ?_
    refine lv_iconst (v := 3) hx hb d_M_make_45 (by decide) ?_
    refine lv_icmp_ge (tgt := 68) hx hb d_M_make_46 (by decide) (fun c_46 => absurd c_46 (by decide)) (fun c_46 => ?_)
    refine lv_aload_n hx hb d_M_make_49 rfl (lv_at hl 2 rfl) ?_
    refine wg hx hb hts i_M hown hW (0) (by omega) mm_root rfl 22 (by decide) (hts _ kf_M_74) rfl d_M_make_50 ?_
    refine lv_bipush (v := 8) hx hb d_M_make_53 (by decide) ?_
    refine lv_iload hx hb d_M_make_55 (lv_at hl 0 rfl) ?_
    refine lv_imul hx hb d_M_make_57 ?_
    refine lv_iload_n hx hb d_M_make_58 rfl (lv_at hl 1 rfl) ?_
    refine lv_iadd hx hb d_M_make_59 ?_
    refine lv_iload_n hx hb d_M_make_60 rfl (lv_at hl 4 rfl) ?_
    refine wis hx hb hW (22) (by omega) mm_22 0 rfl (8 * 1 + nv r (0) 14) (ni_add (ni_mul rfl rfl) e2) (by omega) (by decide) (x := y) mm_22 d_M_make_61 (fun H locs hW => ?_)
    obtain ⟨mr8, ev8⟩ : ∃ z : Vs, z = u2 mr7 (22) (8 * 1 + nv r (0) 14) (y) := ⟨_, rfl⟩
    rw [← ev8] at hW
    have hO8 : OkM mr8 := by rw [ev8]; exact hO7.set (fun a => absurd a (by decide)) (fun a => absurd a (by decide)) (fun a => absurd a (by decide)) (fun a => absurd a (by decide)) (fun _ => ⟨n, by omega, zy⟩) (by decide)
    refine lv_iinc (v := 2) (lv' := [(4, .int (2)), (3, .int (r 0 14)), (0, .ref (am (0))), (1, .int (x)), (2, .int (y))]) hx hb d_M_make_62 hl (k := 0) rfl (by decide) (by decide) rfl (fun ls hl => ?_)
    refine lv_goto (tgt := 43) hx hb d_M_make_65 (by decide) ?_
    refine lv_iload hx hb d_M_make_43 (lv_at hl 0 rfl) ?_
    refine lv_iconst (v := 3) hx hb d_M_make_45 (by decide) ?_
    refine lv_icmp_ge (tgt := 68) hx hb d_M_make_46 (by decide) (fun c_46 => absurd c_46 (by decide)) (fun c_46 => ?_)
    refine lv_aload_n hx hb d_M_make_49 rfl (lv_at hl 2 rfl) ?_
    refine wg hx hb hts i_M hown hW (0) (by omega) mm_root rfl 22 (by decide) (hts _ kf_M_74) rfl d_M_make_50 ?_
    refine lv_bipush (v := 8) hx hb d_M_make_53 (by decide) ?_
    refine lv_iload hx hb d_M_make_55 (lv_at hl 0 rfl) ?_
    refine lv_imul hx hb d_M_make_57 ?_
    refine lv_iload_n hx hb d_M_make_58 rfl (lv_at hl 1 rfl) ?_
    refine lv_iadd hx hb d_M_make_59 ?_
    refine lv_iload_n hx hb d_M_make_60 rfl (lv_at hl 4 rfl) ?_
    refine wis hx hb hW (22) (by omega) mm_22 0 rfl (8 * 2 + nv r (0) 14) (ni_add (ni_mul rfl rfl) e2) (by omega) (by decide) (x := y) mm_22 d_M_make_61 (fun H locs hW => ?_)
    obtain ⟨mr9, ev9⟩ : ∃ z : Vs, z = u2 mr8 (22) (8 * 2 + nv r (0) 14) (y) := ⟨_, rfl⟩
    rw [← ev9] at hW
    have hO9 : OkM mr9 := by rw [ev9]; exact hO8.set (fun a => absurd a (by decide)) (fun a => absurd a (by decide)) (fun a => absurd a (by decide)) (fun a => absurd a (by decide)) (fun _ => ⟨n, by omega, zy⟩) (by decide)
    refine lv_iinc (v := 3) (lv' := [(4, .int (3)), (3, .int (r 0 14)), (0, .ref (am (0))), (1, .int (x)), (2, .int (y))]) hx hb d_M_make_62 hl (k := 0) rfl (by decide) (by decide) rfl (fun ls hl => ?_)
    refine lv_goto (tgt := 43) hx hb d_M_make_65 (by decide) ?_
    refine lv_iload hx hb d_M_make_43 (lv_at hl 0 rfl) ?_
    refine lv_iconst (v := 3) hx hb d_M_make_45 (by decide) ?_
    refine lv_icmp_ge (tgt := 68) hx hb d_M_make_46 (by decide) (fun c_46 => ?_) (fun c_46 => absurd (by decide) c_46)
    refine lv_aload_n hx hb d_M_make_68 rfl (lv_at hl 2 rfl) ?_
    refine lv_iload_n hx hb d_M_make_69 rfl (lv_at hl 1 rfl) ?_
    refine wcv hW hA (va_runV (As := [.int (r 0 14)]) (rest := []) ⟨hx, hb, hml, hown, hts⟩ (c_M_ready l (r 0 14) (nv r (0) 14) e2 (by omega) hO9 _) (cv 1 hts kc_M_ready ki_M_ready ke_M_ready kn_M km_M_92 kh_M_ready rfl rfl ⟨by decide, by decide⟩) (preW hW rfl rfl (mw_get (by omega) mm_root)) rfl rfl hl.1 rfl (lv_room (Nat.le_of_ble_eq_true rfl)) d_M_make_70 ⟨by decide, by decide⟩) (fun uu10 H locs hp10 hW => ?_)
    have hW : Wd D classes (tysA g) s A (wM g am (mRdy mr9 (nv r (0) 14))) H locs := hW
    obtain ⟨mr11, ev11⟩ : ∃ z : Vs, z = mRdy mr9 (nv r (0) 14) := ⟨_, rfl⟩
    rw [← ev11] at hW
    have hO11 : OkM mr11 := by rw [ev11]; exact hO9.rdy
    refine lv_iload_n hx hb d_M_make_73 rfl (lv_at hl 1 rfl) ?_
    have hfin : mMake r x y = (r 0 14, mr11) := by
      subst ev11 ev9 ev8 ev7 ev6 ev5 ev4; simp only [mMake, mMk0, if_neg c_6]
    refine hret _ () _ _ _ _ _ _ ?_ (by show Wd D classes (tysA g) s A (wM g am ((mMake r x y).2)) _ _; rw [hfin]; exact hW) (by decide) (by decide) d_M_make_74
    show r 0 14 = (mMake r x y).1
    rw [hfin]
  · have nc_6 : nv r (0) 14 = 8 := ni_eq e1 rfl (by omega) (by omega) c_6
    refine lv_iconst (v := (-1)) hx hb d_M_make_9 (by decide) ?_
    have hfin : mMake r x y = ((-1), r) := by
      skip; simp only [mMake, mMk0, if_pos c_6]
    refine hret _ () _ _ _ _ _ _ ?_ (by show Wd D classes (tysA g) s A (wM g am ((mMake r x y).2)) _ _; rw [hfin]; exact hW) (by decide) (by decide) d_M_make_10
    show (-1) = (mMake r x y).1
    rw [hfin]
abbrev rm_M_spawn : Room := { frames := 3, cells := 0, slots := 0, locals := 65 }
set_option maxHeartbeats 4000000 in
set_option maxRecDepth 100000 in
theorem c_M_spawn (l : Launch) {D : va_G} {g : Nat → ClassId} {am : Nat → Nat} {r : Vs} (x : Int32) (y : Int32) (hO : OkM r) : MtI l y_M_spawn ws_M_spawn rm_M_spawn D classes (tysA g) [.ref (am (0)), .int (x), .int (y)] (wM g am (r)) (fun (rr : Int32) (_ : Unit) => rr = (mSpw r x y).1) (fun _ => wM g am ((mSpw r x y).2)) 0 0 := by
  refine mt_i (ty := .int) (fun _ _ _ => rfl) (by decide +kernel) rfl (Nat.le_of_ble_eq_true rfl) (fun p e s m args below meth c Q A C hA hW hret ls hl => ?_)
  obtain ⟨hx, hb, hr, hml, hown, hts0, hlocks⟩ := C
  have hts : ∀ w ∈ bigw, w.before args s = true := fun w h => hts0 w (List.mem_cons_of_mem _ h)
  have hown : s.vm.findClass R_M = some m.cls := hown
  have hnp := hO.le
  have hl : lv_has ls 4 [(0, .ref (am (0))), (1, .int (x)), (2, .int (y))] := hl
  refine lv_iload_n hx hb d_M_spawn_0 rfl (lv_at hl 1 rfl) ?_
  refine lv_iconst (v := 3) hx hb d_M_spawn_1 (by decide) ?_
  refine wci hW hA (va_runS (As := [.int (x), .int (3)]) (rest := []) ⟨hx, hb, hml, hown, hts⟩ (c_M_out l _ (x) (3) _) (cs 2 hts kc_M_out ks_M_out kn_M km_M_84 kh_M_out rfl rfl ⟨by decide, by decide⟩) (preWS hW) rfl rfl hl.1 rfl (lv_room (Nat.le_of_ble_eq_true rfl)) d_M_spawn_2 ⟨by decide, by decide⟩) (fun rr1 uu1 H locs hp1 hW => ?_)
  have hW : Wd D classes (tysA g) s A (wM g am (r)) H locs := hW
  have hp1 : rr1 = if outP (x) (3) then 1 else 0 := hp1
  refine lv_if_ne (tgt := 16) hx hb d_M_spawn_5 (by decide) (fun c_5 => ?_) (fun c_5 => ?_)
  · have c_5 : outP (x) (3) := bo_ne hp1 c_5
    refine lv_iconst (v := (-1)) hx hb d_M_spawn_16 (by decide) ?_
    have hf2 : (mSpw r x y).2 = r := by skip; simp only [mSpw, if_pos c_5]
    have hf1 : (mSpw r x y).1 = (-1) := by simp only [mSpw, if_pos c_5]
    refine hret _ () _ _ _ _ _ _ ?_ (by show Wd D classes (tysA g) s A (wM g am ((mSpw r x y).2)) _ _; rw [hf2]; exact hW) (by decide) (by decide) d_M_spawn_17
    exact hf1.symm
  · have c_5 : ¬ (outP (x) (3)) := bo_eq hp1 c_5
    obtain ⟨e2, b2⟩ := nout_nn (N := 3) rfl (by omega) c_5
    refine lv_iload_n hx hb d_M_spawn_8 rfl (lv_at hl 2 rfl) ?_
    refine lv_iconst (v := 2) hx hb d_M_spawn_9 (by decide) ?_
    refine wci hW hA (va_runS (As := [.int (y), .int (2)]) (rest := []) ⟨hx, hb, hml, hown, hts⟩ (c_M_out l _ (y) (2) _) (cs 2 hts kc_M_out ks_M_out kn_M km_M_84 kh_M_out rfl rfl ⟨by decide, by decide⟩) (preWS hW) rfl rfl hl.1 rfl (lv_room (Nat.le_of_ble_eq_true rfl)) d_M_spawn_10 ⟨by decide, by decide⟩) (fun rr3 uu3 H locs hp3 hW => ?_)
    have hW : Wd D classes (tysA g) s A (wM g am (r)) H locs := hW
    have hp3 : rr3 = if outP (y) (2) then 1 else 0 := hp3
    refine lv_if_eq (tgt := 18) hx hb d_M_spawn_13 (by decide) (fun c_13 => ?_) (fun c_13 => ?_)
    · have c_13 : ¬ (outP (y) (2)) := bo_eq hp3 c_13
      obtain ⟨e4, b4⟩ := nout_nn (N := 2) rfl (by omega) c_13
      refine lv_aload_n hx hb d_M_spawn_18 rfl (lv_at hl 0 rfl) ?_
      refine lv_iload_n hx hb d_M_spawn_19 rfl (lv_at hl 1 rfl) ?_
      refine lv_iload_n hx hb d_M_spawn_20 rfl (lv_at hl 2 rfl) ?_
      refine wci hW hA (va_runV (As := [.int (x), .int (y)]) (rest := []) ⟨hx, hb, hml, hown, hts⟩ (c_M_make l (x) (y) (nn y) e4 (by omega) hO ⟨nn x, by omega, e2⟩ _) (cv 2 hts kc_M_make ki_M_make ke_M_make kn_M km_M_96 kh_M_make rfl rfl ⟨by decide, by decide⟩) (preW hW rfl rfl (mw_get (by omega) mm_root)) rfl rfl hl.1 rfl (lv_room (Nat.le_of_ble_eq_true rfl)) d_M_spawn_21 ⟨by decide, by decide⟩) (fun rr5 uu5 H locs hp5 hW => ?_)
      have hW : Wd D classes (tysA g) s A (wM g am ((mMake r (x) (y)).2)) H locs := hW
      obtain ⟨mr6, ev6⟩ : ∃ z : Vs, z = (mMake r (x) (y)).2 := ⟨_, rfl⟩
      rw [← ev6] at hW
      have hO6 : OkM mr6 := by rw [ev6]; exact hO.make ⟨nn x, by omega, e2⟩ ⟨nn y, by omega, e4⟩
      have hp5 : rr5 = (mMake r (x) (y)).1 := hp5
      subst hp5
      refine lv_istore_n (lv' := [(3, .int ((mMake r (x) (y)).1)), (0, .ref (am (0))), (1, .int (x)), (2, .int (y))]) hx hb d_M_spawn_24 rfl hl (by decide) rfl (fun ls hl => ?_)
      refine lv_iload_n hx hb d_M_spawn_25 rfl (lv_at hl 0 rfl) ?_
      refine lv_if_ge (tgt := 34) hx hb d_M_spawn_26 (by decide) (fun c_26 => ?_) (fun c_26 => ?_)
      · refine lv_iload_n hx hb d_M_spawn_34 rfl (lv_at hl 0 rfl) ?_
        have hf2 : (mSpw r x y).2 = mr6 := by subst ev6; simp only [mSpw, if_neg c_5, if_neg c_13, if_pos c_26]
        have hf1 : (mSpw r x y).1 = (mMake r (x) (y)).1 := by simp only [mSpw, if_neg c_5, if_neg c_13, if_pos c_26]
        refine hret _ () _ _ _ _ _ _ ?_ (by show Wd D classes (tysA g) s A (wM g am ((mSpw r x y).2)) _ _; rw [hf2]; exact hW) (by decide) (by decide) d_M_spawn_35
        exact hf1.symm
      · refine lv_bipush (v := (-2)) hx hb d_M_spawn_29 (by decide) ?_
        refine lv_goto (tgt := 35) hx hb d_M_spawn_31 (by decide) ?_
        have hf2 : (mSpw r x y).2 = mr6 := by subst ev6; simp only [mSpw, if_neg c_5, if_neg c_13, if_neg c_26]
        have hf1 : (mSpw r x y).1 = (-2) := by simp only [mSpw, if_neg c_5, if_neg c_13, if_neg c_26]
        refine hret _ () _ _ _ _ _ _ ?_ (by show Wd D classes (tysA g) s A (wM g am ((mSpw r x y).2)) _ _; rw [hf2]; exact hW) (by decide) (by decide) d_M_spawn_35
        exact hf1.symm
    · have c_13 : outP (y) (2) := bo_ne hp3 c_13
      refine lv_iconst (v := (-1)) hx hb d_M_spawn_16 (by decide) ?_
      have hf2 : (mSpw r x y).2 = r := by skip; simp only [mSpw, if_neg c_5, if_pos c_13]
      have hf1 : (mSpw r x y).1 = (-1) := by simp only [mSpw, if_neg c_5, if_pos c_13]
      refine hret _ () _ _ _ _ _ _ ?_ (by show Wd D classes (tysA g) s A (wM g am ((mSpw r x y).2)) _ _; rw [hf2]; exact hW) (by decide) (by decide) d_M_spawn_17
      exact hf1.symm
abbrev rm_M_ended : Room := { frames := 1, cells := 0, slots := 0, locals := 21 }
set_option maxHeartbeats 4000000 in
set_option maxRecDepth 100000 in
theorem c_M_ended (l : Launch) {D : va_G} {g : Nat → ClassId} {am : Nat → Nat} {r : Vs} (x : Int32) (hO : OkM r) : MtI l y_M_ended ws_M_ended rm_M_ended D classes (tysA g) [.ref (am (0)), .int (x)] (wM g am (r)) (fun (rr : Int32) (_ : Unit) => rr = if edP r x then 1 else 0) (fun _ => wM g am (r)) 0 0 := by
  refine mt_i (ty := .boolean) (fun r _ h => by rw [h]; split <;> rfl) (by decide +kernel) rfl (Nat.le_of_ble_eq_true rfl) (fun p e s m args below meth c Q A C hA hW hret ls hl => ?_)
  obtain ⟨hx, hb, hr, hml, hown, hts0, hlocks⟩ := C
  have hts : ∀ w ∈ bigw, w.before args s = true := fun w h => hts0 w (List.mem_cons_of_mem _ h)
  have hown : s.vm.findClass R_M = some m.cls := hown
  have hnp := hO.le
  have hl : lv_has ls 2 [(0, .ref (am (0))), (1, .int (x))] := hl
  refine lv_aload_n hx hb d_M_ended_0 rfl (lv_at hl 0 rfl) ?_
  refine lv_iload_n hx hb d_M_ended_1 rfl (lv_at hl 1 rfl) ?_
  refine wci hW hA (va_runV (As := [.int (x)]) (rest := []) ⟨hx, hb, hml, hown, hts⟩ (c_M_noProcess l (x) hO _) (cv 1 hts kc_M_noProcess ki_M_noProcess ke_M_noProcess kn_M km_M_100 kh_M_noProcess rfl rfl ⟨by decide, by decide⟩) (preW hW rfl rfl (mw_get (by omega) mm_root)) rfl rfl hl.1 rfl (lv_room (Nat.le_of_ble_eq_true rfl)) d_M_ended_2 ⟨by decide, by decide⟩) (fun rr1 uu1 H locs hp1 hW => ?_)
  have hW : Wd D classes (tysA g) s A (wM g am (r)) H locs := hW
  have hp1 : rr1 = if npP r (x) then 1 else 0 := hp1
  refine lv_if_ne (tgt := 22) hx hb d_M_ended_5 (by decide) (fun c_5 => ?_) (fun c_5 => ?_)
  · have c_5 : npP r (x) := bo_ne hp1 c_5
    refine lv_iconst (v := 0) hx hb d_M_ended_22 (by decide) ?_
    refine hret _ () _ _ _ _ _ _ ?_ hW (by decide) (by decide) d_M_ended_23
    show 0 = if edP r x then (1 : Int32) else 0
    exact ite_f (fun h => h.1 c_5)
  · have c_5 : ¬ (npP r (x)) := bo_eq hp1 c_5
    obtain ⟨e2, b2⟩ := nnp_nn hO c_5
    refine lv_aload_n hx hb d_M_ended_8 rfl (lv_at hl 0 rfl) ?_
    refine wg hx hb hts i_M hown hW (0) (by omega) mm_root rfl 8 (by decide) (hts _ kf_M_34) rfl d_M_ended_9 ?_
    refine lv_iload_n hx hb d_M_ended_12 rfl (lv_at hl 1 rfl) ?_
    refine wi hx hb hW (9) (by omega) mm_9 0 rfl (nn x) e2 (by omega) (by decide) d_M_ended_13 ?_
    refine lv_iconst (v := 4) hx hb d_M_ended_14 (by decide) ?_
    refine lv_icmp_ne (tgt := 22) hx hb d_M_ended_15 (by decide) (fun c_15 => ?_) (fun c_15 => ?_)
    · refine lv_iconst (v := 0) hx hb d_M_ended_22 (by decide) ?_
      refine hret _ () _ _ _ _ _ _ ?_ hW (by decide) (by decide) d_M_ended_23
      show 0 = if edP r x then (1 : Int32) else 0
      exact ite_f (fun h => c_15 h.2)
    · refine lv_iconst (v := 1) hx hb d_M_ended_18 (by decide) ?_
      refine lv_goto (tgt := 23) hx hb d_M_ended_19 (by decide) ?_
      refine hret _ () _ _ _ _ _ _ ?_ hW (by decide) (by decide) d_M_ended_23
      show 1 = if edP r x then (1 : Int32) else 0
      exact ite_t ⟨c_5, c_15⟩
abbrev rm_M_end : Room := { frames := 2, cells := 0, slots := 0, locals := 41 }
set_option maxHeartbeats 4000000 in
set_option maxRecDepth 100000 in
theorem c_M_end (l : Launch) {D : va_G} {g : Nat → ClassId} {am : Nat → Nat} {r : Vs} (x : Int32) (pn : Nat) (zx : x = nI pn) (lpn : pn < 8) (y : Int32) (hO : OkM r) : MtV l y_M_end ws_M_end rm_M_end D classes (tysA g) [.ref (am (0)), .int (x), .int (y)] (wM g am (r)) (fun _ : Unit => True) (fun _ => wM g am (mEnd r x pn y)) 0 0 := by
  refine mt_v (by decide +kernel) rfl (Nat.le_of_ble_eq_true rfl) (fun p e s m args below meth c Q A C hnm hA hW hret ls hl => ?_)
  obtain ⟨hx, hb, hr, hml, hown, hts0, hlocks⟩ := C
  have hts : ∀ w ∈ bigw, w.before args s = true := fun w h => hts0 w (List.mem_cons_of_mem _ h)
  have hown : s.vm.findClass R_M = some m.cls := hown
  have hnp := hO.le
  have hl : lv_has ls 4 [(0, .ref (am (0))), (1, .int (x)), (2, .int (y))] := hl
  refine lv_aload_n hx hb d_M_end_0 rfl (lv_at hl 0 rfl) ?_
  refine wg hx hb hts i_M hown hW (0) (by omega) mm_root rfl 8 (by decide) (hts _ kf_M_34) rfl d_M_end_1 ?_
  refine lv_iload_n hx hb d_M_end_4 rfl (lv_at hl 1 rfl) ?_
  refine lv_iconst (v := 4) hx hb d_M_end_5 (by decide) ?_
  refine wis hx hb hW (9) (by omega) mm_9 0 rfl (pn) zx (by omega) (by decide) (x := 4) mm_9 d_M_end_6 (fun H locs hW => ?_)
  obtain ⟨mr1, ev1⟩ : ∃ z : Vs, z = u2 r (9) (pn) (4) := ⟨_, rfl⟩
  rw [← ev1] at hW
  have hO1 : OkM mr1 := by rw [ev1]; exact hO.fr (by omega)
  refine lv_aload_n hx hb d_M_end_7 rfl (lv_at hl 0 rfl) ?_
  refine wg hx hb hts i_M hown hW (0) (by omega) mm_root rfl 11 (by decide) (hts _ kf_M_43) rfl d_M_end_8 ?_
  refine lv_iload_n hx hb d_M_end_11 rfl (lv_at hl 1 rfl) ?_
  refine lv_iload_n hx hb d_M_end_12 rfl (lv_at hl 2 rfl) ?_
  refine wis hx hb hW (12) (by omega) mm_12 0 rfl (pn) zx (by omega) (by decide) (x := y) mm_12 d_M_end_13 (fun H locs hW => ?_)
  obtain ⟨mr2, ev2⟩ : ∃ z : Vs, z = u2 mr1 (12) (pn) (y) := ⟨_, rfl⟩
  rw [← ev2] at hW
  have hO2 : OkM mr2 := by rw [ev2]; exact hO1.fr (by omega)
  refine lv_aload_n hx hb d_M_end_14 rfl (lv_at hl 0 rfl) ?_
  refine wg hx hb hts i_M hown hW (0) (by omega) mm_root rfl 13 (by decide) (hts _ kf_M_49) rfl d_M_end_15 ?_
  refine lv_iload_n hx hb d_M_end_18 rfl (lv_at hl 1 rfl) ?_
  refine lv_bipush (v := 8) hx hb d_M_end_19 (by decide) ?_
  refine wis hx hb hW (14) (by omega) mm_14 0 rfl (pn) zx (by omega) (by decide) (x := 8) mm_14 d_M_end_21 (fun H locs hW => ?_)
  obtain ⟨mr3, ev3⟩ : ∃ z : Vs, z = u2 mr2 (14) (pn) (8) := ⟨_, rfl⟩
  rw [← ev3] at hW
  have hO3 : OkM mr3 := by rw [ev3]; exact hO2.fr (by omega)
  refine lv_iconst (v := 0) hx hb d_M_end_22 (by decide) ?_
  refine lv_istore_n (lv' := [(3, .int (0)), (0, .ref (am (0))), (1, .int (x)), (2, .int (y))]) hx hb d_M_end_23 rfl hl (by decide) rfl (fun ls hl => ?_)
  have hK0 : nv mr3 0 14 = nv r 0 14 := by unfold nv; subst ev3 ev2 ev1; rw [u2_a (by omega), u2_a (by omega), u2_a (by omega)]
  have loop : ∀ (k : Nat) (q : Nat) (rc : Vs) (H : Heap) (locs : List Loc) (ls : Array Slot), OkM rc → nv rc 0 14 = nv r 0 14 → nv r 0 14 = q + k → mEndL x k q rc = mEnd r x pn y → Wd D classes (tysA g) s A (wM g am (rc)) H locs → lv_has ls 4 [(0, .ref (am (0))), (1, .int (x)), (3, .int (nI (q)))] → W p l e rm_M_end s m args below meth c H locs 0 0 Q (F0 m 24 ls []) := by
    intro k
    induction k with
    | zero =>
      intro q rc H locs ls hOc hKc hq hT hW hl
      refine lv_iload_n hx hb d_M_end_24 rfl (lv_at hl 2 rfl) ?_
      refine lv_aload_n hx hb d_M_end_25 rfl (lv_at hl 0 rfl) ?_
      refine wg hx hb hts i_M hown hW (0) (by omega) mm_root rfl 14 (by decide) (hts _ kf_M_81) rfl d_M_end_26 ?_
      obtain ⟨e4, b4⟩ := hOc.made
      refine lv_icmp_ge (tgt := 63) hx hb d_M_end_29 (by decide) (fun c_29 => ?_) (fun c_29 => ?_)
      · have nc_29 : nv rc (0) 14 ≤ q := ni_le e4 rfl (by omega) (by omega) c_29
        exact hret () _ _ _ _ _ _ trivial (by show Wd D classes (tysA g) s A (wM g am (mEnd r x pn y)) _ _; rw [← hT]; exact hW) (by decide) (by decide) d_M_end_63
      · have nc_29 : q < nv rc (0) 14 := ni_nle e4 rfl (by omega) (by omega) c_29
        exfalso; omega
    | succ k ih =>
      intro q rc H locs ls hOc hKc hq hT hW hl
      refine lv_iload_n hx hb d_M_end_24 rfl (lv_at hl 2 rfl) ?_
      refine lv_aload_n hx hb d_M_end_25 rfl (lv_at hl 0 rfl) ?_
      refine wg hx hb hts i_M hown hW (0) (by omega) mm_root rfl 14 (by decide) (hts _ kf_M_81) rfl d_M_end_26 ?_
      obtain ⟨e5, b5⟩ := hOc.made
      refine lv_icmp_ge (tgt := 63) hx hb d_M_end_29 (by decide) (fun c_29 => ?_) (fun c_29 => ?_)
      · have nc_29 : nv rc (0) 14 ≤ q := ni_le e5 rfl (by omega) (by omega) c_29
        exfalso; omega
      · have nc_29 : q < nv rc (0) 14 := ni_nle e5 rfl (by omega) (by omega) c_29
        refine lv_aload_n hx hb d_M_end_32 rfl (lv_at hl 0 rfl) ?_
        refine wg hx hb hts i_M hown hW (0) (by omega) mm_root rfl 8 (by decide) (hts _ kf_M_34) rfl d_M_end_33 ?_
        refine lv_iload_n hx hb d_M_end_36 rfl (lv_at hl 2 rfl) ?_
        refine wi hx hb hW (9) (by omega) mm_9 0 rfl (q) rfl (by omega) (by decide) d_M_end_37 ?_
        refine lv_iconst (v := 3) hx hb d_M_end_38 (by decide) ?_
        refine lv_icmp_ne (tgt := 57) hx hb d_M_end_39 (by decide) (fun c_39 => ?_) (fun c_39 => ?_)
        · refine lv_iinc (v := nI (q + 1)) (lv' := [(3, .int (nI (q + 1))), (0, .ref (am (0))), (1, .int (x))]) hx hb d_M_end_57 hl (k := 2) rfl (nI_1 _) (by decide) rfl (fun ls hl => ?_)
          refine lv_goto (tgt := 24) hx hb d_M_end_60 (by decide) ?_
          refine ih (q + 1) rc _ _ _ hOc hKc (by omega) ?_ hW (lv_sub hl [1, 2, 0] rfl)
          rw [← hT, mEndL]; skip; simp only [if_neg c_39]
        · refine lv_aload_n hx hb d_M_end_42 rfl (lv_at hl 0 rfl) ?_
          refine wg hx hb hts i_M hown hW (0) (by omega) mm_root rfl 12 (by decide) (hts _ kf_M_46) rfl d_M_end_43 ?_
          refine lv_iload_n hx hb d_M_end_46 rfl (lv_at hl 2 rfl) ?_
          refine wi hx hb hW (13) (by omega) mm_13 0 rfl (q) rfl (by omega) (by decide) d_M_end_47 ?_
          refine lv_iload_n hx hb d_M_end_48 rfl (lv_at hl 1 rfl) ?_
          refine lv_icmp_ne (tgt := 57) hx hb d_M_end_49 (by decide) (fun c_49 => ?_) (fun c_49 => ?_)
          · refine lv_iinc (v := nI (q + 1)) (lv' := [(3, .int (nI (q + 1))), (0, .ref (am (0))), (1, .int (x))]) hx hb d_M_end_57 hl (k := 2) rfl (nI_1 _) (by decide) rfl (fun ls hl => ?_)
            refine lv_goto (tgt := 24) hx hb d_M_end_60 (by decide) ?_
            refine ih (q + 1) rc _ _ _ hOc hKc (by omega) ?_ hW (lv_sub hl [1, 2, 0] rfl)
            rw [← hT, mEndL]; skip; simp only [if_pos c_39, if_neg c_49]
          · refine lv_aload_n hx hb d_M_end_52 rfl (lv_at hl 0 rfl) ?_
            refine lv_iload_n hx hb d_M_end_53 rfl (lv_at hl 2 rfl) ?_
            refine wcv hW hA (va_runV (As := [.int (nI (q))]) (rest := []) ⟨hx, hb, hml, hown, hts⟩ (c_M_ready l (nI (q)) q rfl (by omega) hOc _) (cv 1 hts kc_M_ready ki_M_ready ke_M_ready kn_M km_M_92 kh_M_ready rfl rfl ⟨by decide, by decide⟩) (preW hW rfl rfl (mw_get (by omega) mm_root)) rfl rfl hl.1 rfl (lv_room (Nat.le_of_ble_eq_true rfl)) d_M_end_54 ⟨by decide, by decide⟩) (fun uu6 H locs hp6 hW => ?_)
            have hW : Wd D classes (tysA g) s A (wM g am (mRdy rc q)) H locs := hW
            obtain ⟨mr7, ev7⟩ : ∃ z : Vs, z = mRdy rc q := ⟨_, rfl⟩
            rw [← ev7] at hW
            have hO7 : OkM mr7 := by rw [ev7]; exact hOc.rdy
            refine lv_iinc (v := nI (q + 1)) (lv' := [(3, .int (nI (q + 1))), (0, .ref (am (0))), (1, .int (x))]) hx hb d_M_end_57 hl (k := 2) rfl (nI_1 _) (by decide) rfl (fun ls hl => ?_)
            refine lv_goto (tgt := 24) hx hb d_M_end_60 (by decide) ?_
            refine ih (q + 1) mr7 _ _ _ hO7 (by rw [← hKc]; unfold nv; subst ev7; rw [mRdy_m]) (by omega) ?_ hW (lv_sub hl [1, 2, 0] rfl)
            rw [← hT, mEndL]; subst ev7; simp only [if_pos c_39, if_pos c_49]
  refine loop (nv r 0 14) 0 mr3 _ _ _ hO3 hK0 (by omega) ?_ hW (lv_sub hl [1, 2, 0] rfl)
  subst ev3 ev2 ev1; rfl
abbrev rm_M_fault : Room := { frames := 1, cells := 0, slots := 0, locals := 20 }
set_option maxHeartbeats 4000000 in
set_option maxRecDepth 100000 in
theorem c_M_fault (l : Launch) {D : va_G} {g : Nat → ClassId} {am : Nat → Nat} {r : Vs} (x : Int32) (pn : Nat) (zx : x = nI pn) (lpn : pn < 8) (op : Int32) (y : Int32) (t : Nat) (zy : y = nI t) (lt : t < 32) (hO : OkM r) : MtI l y_M_fault ws_M_fault rm_M_fault D classes (tysA g) [.ref (am (0)), .int (x), .int (op), .int (y)] (wM g am (r)) (fun (rr : Int32) (_ : Unit) => rr = if fltP r pn op t then 1 else 0) (fun _ => wM g am (mFault r pn op y t)) 0 0 := by
  refine mt_i (ty := .boolean) (fun r _ h => by rw [h]; split <;> rfl) (by decide +kernel) rfl (Nat.le_of_ble_eq_true rfl) (fun p e s m args below meth c Q A C hA hW hret ls hl => ?_)
  obtain ⟨hx, hb, hr, hml, hown, hts0, hlocks⟩ := C
  have hts : ∀ w ∈ bigw, w.before args s = true := fun w h => hts0 w (List.mem_cons_of_mem _ h)
  have hown : s.vm.findClass R_M = some m.cls := hown
  have hnp := hO.le
  have hl : lv_has ls 5 [(0, .ref (am (0))), (1, .int (x)), (2, .int (op)), (3, .int (y))] := hl
  refine lv_iload_n hx hb d_M_fault_0 rfl (lv_at hl 2 rfl) ?_
  refine lv_iconst (v := 2) hx hb d_M_fault_1 (by decide) ?_
  refine lv_icmp_lt (tgt := 10) hx hb d_M_fault_2 (by decide) (fun c_2 => ?_) (fun c_2 => ?_)
  · refine lv_iconst (v := 0) hx hb d_M_fault_10 (by decide) ?_
    have hF : ¬ fltP r pn op t := (fun h => h.1.1 c_2)
    have hfin : mFault r pn op y t = r := by
      skip; simp only [mFault, mFl0, if_neg hF]
    exact hret _ () _ _ _ _ _ _ (ite_f hF) (by show Wd D classes (tysA g) s A (wM g am (mFault r pn op y t)) _ _; rw [hfin]; exact hW) (by decide) (by decide) d_M_fault_11
  · refine lv_iload_n hx hb d_M_fault_5 rfl (lv_at hl 2 rfl) ?_
    refine lv_iconst (v := 4) hx hb d_M_fault_6 (by decide) ?_
    refine lv_icmp_le (tgt := 12) hx hb d_M_fault_7 (by decide) (fun c_7 => ?_) (fun c_7 => ?_)
    · refine lv_aload_n hx hb d_M_fault_12 rfl (lv_at hl 0 rfl) ?_
      refine wg hx hb hts i_M hown hW (0) (by omega) mm_root rfl 19 (by decide) (hts _ kf_M_65) rfl d_M_fault_13 ?_
      refine lv_bipush (v := 8) hx hb d_M_fault_16 (by decide) ?_
      refine lv_aload_n hx hb d_M_fault_18 rfl (lv_at hl 0 rfl) ?_
      refine wg hx hb hts i_M hown hW (0) (by omega) mm_root rfl 7 (by decide) (hts _ kf_M_31) rfl d_M_fault_19 ?_
      refine lv_iload_n hx hb d_M_fault_22 rfl (lv_at hl 1 rfl) ?_
      refine wi hx hb hW (8) (by omega) mm_8 0 rfl (pn) zx (by omega) (by decide) d_M_fault_23 ?_
      obtain ⟨e1, b1⟩ := hO.c8 (pn)
      refine lv_imul hx hb d_M_fault_24 ?_
      refine lv_iload_n hx hb d_M_fault_25 rfl (lv_at hl 3 rfl) ?_
      refine lv_iconst (v := 4) hx hb d_M_fault_26 (by decide) ?_
      refine lv_idiv hx hb d_M_fault_27 (by decide) ?_
      refine lv_iadd hx hb d_M_fault_28 ?_
      refine wi hx hb hW (19) (by omega) mm_19 0 rfl (8 * (nv r (8) (pn)) + t / 4) (ni_add (ni_mul rfl e1) (ni_div zy rfl (by omega) (by decide) (by decide))) (by omega) (by decide) d_M_fault_29 ?_
      refine lv_istore (lv' := [(4, .int (r (19) (8 * (nv r (8) (pn)) + t / 4))), (0, .ref (am (0))), (1, .int (x)), (2, .int (op)), (3, .int (y))]) hx hb d_M_fault_30 hl (by decide) rfl (fun ls hl => ?_)
      refine lv_iload hx hb d_M_fault_32 (lv_at hl 0 rfl) ?_
      refine lv_iconst (v := 2) hx hb d_M_fault_34 (by decide) ?_
      refine lv_icmp_eq (tgt := 49) hx hb d_M_fault_35 (by decide) (fun c_35 => ?_) (fun c_35 => ?_)
      · refine lv_iconst (v := 0) hx hb d_M_fault_49 (by decide) ?_
        have hF : ¬ fltP r pn op t := (fun h => h.2.1 c_35)
        have hfin : mFault r pn op y t = r := by
          skip; simp only [mFault, mFl0, if_neg hF]
        exact hret _ () _ _ _ _ _ _ (ite_f hF) (by show Wd D classes (tysA g) s A (wM g am (mFault r pn op y t)) _ _; rw [hfin]; exact hW) (by decide) (by decide) d_M_fault_50
      · refine lv_iload hx hb d_M_fault_38 (lv_at hl 0 rfl) ?_
        refine lv_iconst (v := 1) hx hb d_M_fault_40 (by decide) ?_
        refine lv_icmp_ne (tgt := 51) hx hb d_M_fault_41 (by decide) (fun c_41 => ?_) (fun c_41 => ?_)
        · refine lv_aload_n hx hb d_M_fault_51 rfl (lv_at hl 1 rfl) ?_
          refine lv_dup hx hb d_M_fault_52 rfl ?_
          refine wg hx hb hts i_M hown hW (0) (by omega) mm_root rfl 25 (by decide) (hts _ kf_M_104) rfl d_M_fault_53 ?_
          refine lv_iconst (v := 1) hx hb d_M_fault_56 (by decide) ?_
          refine lv_iadd hx hb d_M_fault_57 ?_
          refine wp hx hb hts i_M t_M t_M_ok n_M hown hW (0) (by omega) mm_root rfl 25 (by decide) (hts _ kf_M_104) rfl (by decide +kernel) (x := (r 0 25) + (1)) (Nat.le_of_ble_eq_true rfl) (mm_root.trans rfl) d_M_fault_58 (fun H locs hW => ?_)
          obtain ⟨mr2, ev2⟩ : ∃ z : Vs, z = u2 r (0) 25 ((r 0 25) + (1)) := ⟨_, rfl⟩
          rw [← ev2] at hW
          have hO2 : OkM mr2 := by rw [ev2]; exact hO.fr (by omega)
          refine lv_aload_n hx hb d_M_fault_61 rfl (lv_at hl 1 rfl) ?_
          refine wg hx hb hts i_M hown hW (0) (by omega) mm_root rfl 8 (by decide) (hts _ kf_M_34) rfl d_M_fault_62 ?_
          refine lv_iload_n hx hb d_M_fault_65 rfl (lv_at hl 2 rfl) ?_
          refine lv_iconst (v := 2) hx hb d_M_fault_66 (by decide) ?_
          refine wis hx hb hW (9) (by omega) mm_9 0 rfl (pn) zx (by omega) (by decide) (x := 2) mm_9 d_M_fault_67 (fun H locs hW => ?_)
          obtain ⟨mr3, ev3⟩ : ∃ z : Vs, z = u2 mr2 (9) (pn) (2) := ⟨_, rfl⟩
          rw [← ev3] at hW
          have hO3 : OkM mr3 := by rw [ev3]; exact hO2.fr (by omega)
          refine lv_aload_n hx hb d_M_fault_68 rfl (lv_at hl 1 rfl) ?_
          refine wg hx hb hts i_M hown hW (0) (by omega) mm_root rfl 13 (by decide) (hts _ kf_M_49) rfl d_M_fault_69 ?_
          refine lv_iload_n hx hb d_M_fault_72 rfl (lv_at hl 2 rfl) ?_
          refine lv_iload_n hx hb d_M_fault_73 rfl (lv_at hl 4 rfl) ?_
          refine lv_iconst (v := 4) hx hb d_M_fault_74 (by decide) ?_
          refine lv_idiv hx hb d_M_fault_75 (by decide) ?_
          refine wis hx hb hW (14) (by omega) mm_14 0 rfl (pn) zx (by omega) (by decide) (x := (y) / (4)) mm_14 d_M_fault_76 (fun H locs hW => ?_)
          obtain ⟨mr4, ev4⟩ : ∃ z : Vs, z = u2 mr3 (14) (pn) ((y) / (4)) := ⟨_, rfl⟩
          rw [← ev4] at hW
          have hO4 : OkM mr4 := by rw [ev4]; exact hO3.fr (by omega)
          refine lv_aload_n hx hb d_M_fault_77 rfl (lv_at hl 1 rfl) ?_
          refine wg hx hb hts i_M hown hW (0) (by omega) mm_root rfl 15 (by decide) (hts _ kf_M_52) rfl d_M_fault_78 ?_
          refine lv_iload_n hx hb d_M_fault_81 rfl (lv_at hl 2 rfl) ?_
          refine lv_aload_n hx hb d_M_fault_82 rfl (lv_at hl 1 rfl) ?_
          refine wci hW hA (va_runV (As := []) (rest := [.int (x), .ref (am (15))]) ⟨hx, hb, hml, hown, hts⟩ (c_M_tick l hO4 _) (cv 0 hts kc_M_tick ki_M_tick ke_M_tick kn_M km_M_88 kh_M_tick rfl rfl ⟨by decide, by decide⟩) (preW hW rfl rfl (mw_get (by omega) mm_root)) rfl rfl hl.1 rfl (lv_room (Nat.le_of_ble_eq_true rfl)) d_M_fault_83 ⟨by decide, by decide⟩) (fun rr5 uu5 H locs hp5 hW => ?_)
          have hW : Wd D classes (tysA g) s A (wM g am (mTick mr4)) H locs := hW
          obtain ⟨mr6, ev6⟩ : ∃ z : Vs, z = mTick mr4 := ⟨_, rfl⟩
          rw [← ev6] at hW
          have hO6 : OkM mr6 := by rw [ev6]; exact hO4.tick
          have hp5 : rr5 = mTick mr4 0 23 := hp5
          subst hp5
          refine wis hx hb hW (15) (by omega) mm_15 0 rfl (pn) zx (by omega) (by decide) (x := mTick mr4 0 23) mm_15 d_M_fault_86 (fun H locs hW => ?_)
          obtain ⟨mr7, ev7⟩ : ∃ z : Vs, z = u2 mr6 (15) (pn) (mTick mr4 0 23) := ⟨_, rfl⟩
          rw [← ev7] at hW
          have hO7 : OkM mr7 := by rw [ev7]; exact hO6.fr (by omega)
          refine lv_aload_n hx hb d_M_fault_87 rfl (lv_at hl 1 rfl) ?_
          refine wg hx hb hts i_M hown hW (0) (by omega) mm_root rfl 16 (by decide) (hts _ kf_M_55) rfl d_M_fault_88 ?_
          refine lv_iload_n hx hb d_M_fault_91 rfl (lv_at hl 2 rfl) ?_
          refine lv_iload_n hx hb d_M_fault_92 rfl (lv_at hl 4 rfl) ?_
          refine lv_iconst (v := 4) hx hb d_M_fault_93 (by decide) ?_
          refine lv_idiv hx hb d_M_fault_94 (by decide) ?_
          refine wis hx hb hW (16) (by omega) mm_16 0 rfl (pn) zx (by omega) (by decide) (x := (y) / (4)) mm_16 d_M_fault_95 (fun H locs hW => ?_)
          obtain ⟨mr8, ev8⟩ : ∃ z : Vs, z = u2 mr7 (16) (pn) ((y) / (4)) := ⟨_, rfl⟩
          rw [← ev8] at hW
          have hO8 : OkM mr8 := by rw [ev8]; exact hO7.fr (by omega)
          refine lv_aload_n hx hb d_M_fault_96 rfl (lv_at hl 1 rfl) ?_
          refine wg hx hb hts i_M hown hW (0) (by omega) mm_root rfl 17 (by decide) (hts _ kf_M_58) rfl d_M_fault_97 ?_
          refine lv_iload_n hx hb d_M_fault_100 rfl (lv_at hl 2 rfl) ?_
          refine lv_iload_n hx hb d_M_fault_101 rfl (lv_at hl 3 rfl) ?_
          refine lv_iconst (v := 2) hx hb d_M_fault_102 (by decide) ?_
          refine lv_icmp_eq (tgt := 110) hx hb d_M_fault_103 (by decide) (fun c_103 => ?_) (fun c_103 => ?_)
          · refine lv_iconst (v := 0) hx hb d_M_fault_110 (by decide) ?_
            refine wzs hx hb hW (17) (by omega) mm_17 5 rfl (pn) zx (by omega) (by decide) (x := 0) mm_17 (by decide) d_M_fault_111 (fun H locs hW => ?_)
            obtain ⟨mr9, ev9⟩ : ∃ z : Vs, z = u2 mr8 (17) (pn) (0) := ⟨_, rfl⟩
            rw [← ev9] at hW
            have hO9 : OkM mr9 := by rw [ev9]; exact hO8.fr (by omega)
            refine lv_iconst (v := 1) hx hb d_M_fault_112 (by decide) ?_
            have hF : fltP r pn op t := ⟨⟨c_2, c_7⟩, c_35, fun h => c_41 h.1⟩
            have hfin : mFault r pn op y t = mr9 := by
              subst ev9 ev8 ev7 ev6 ev4 ev3 ev2; simp only [mFault, mFl0, if_pos hF, if_pos c_103]
            exact hret _ () _ _ _ _ _ _ (ite_t hF) (by show Wd D classes (tysA g) s A (wM g am (mFault r pn op y t)) _ _; rw [hfin]; exact hW) (by decide) (by decide) d_M_fault_113
          · refine lv_iconst (v := 1) hx hb d_M_fault_106 (by decide) ?_
            refine lv_goto (tgt := 111) hx hb d_M_fault_107 (by decide) ?_
            refine wzs hx hb hW (17) (by omega) mm_17 5 rfl (pn) zx (by omega) (by decide) (x := 1) mm_17 (by decide) d_M_fault_111 (fun H locs hW => ?_)
            obtain ⟨mr10, ev10⟩ : ∃ z : Vs, z = u2 mr8 (17) (pn) (1) := ⟨_, rfl⟩
            rw [← ev10] at hW
            have hO10 : OkM mr10 := by rw [ev10]; exact hO8.fr (by omega)
            refine lv_iconst (v := 1) hx hb d_M_fault_112 (by decide) ?_
            have hF : fltP r pn op t := ⟨⟨c_2, c_7⟩, c_35, fun h => c_41 h.1⟩
            have hfin : mFault r pn op y t = mr10 := by
              subst ev10 ev8 ev7 ev6 ev4 ev3 ev2; simp only [mFault, mFl0, if_pos hF, if_neg c_103]
            exact hret _ () _ _ _ _ _ _ (ite_t hF) (by show Wd D classes (tysA g) s A (wM g am (mFault r pn op y t)) _ _; rw [hfin]; exact hW) (by decide) (by decide) d_M_fault_113
        · refine lv_iload_n hx hb d_M_fault_44 rfl (lv_at hl 3 rfl) ?_
          refine lv_iconst (v := 2) hx hb d_M_fault_45 (by decide) ?_
          refine lv_icmp_ne (tgt := 51) hx hb d_M_fault_46 (by decide) (fun c_46 => ?_) (fun c_46 => ?_)
          · refine lv_aload_n hx hb d_M_fault_51 rfl (lv_at hl 1 rfl) ?_
            refine lv_dup hx hb d_M_fault_52 rfl ?_
            refine wg hx hb hts i_M hown hW (0) (by omega) mm_root rfl 25 (by decide) (hts _ kf_M_104) rfl d_M_fault_53 ?_
            refine lv_iconst (v := 1) hx hb d_M_fault_56 (by decide) ?_
            refine lv_iadd hx hb d_M_fault_57 ?_
            refine wp hx hb hts i_M t_M t_M_ok n_M hown hW (0) (by omega) mm_root rfl 25 (by decide) (hts _ kf_M_104) rfl (by decide +kernel) (x := (r 0 25) + (1)) (Nat.le_of_ble_eq_true rfl) (mm_root.trans rfl) d_M_fault_58 (fun H locs hW => ?_)
            obtain ⟨mr11, ev11⟩ : ∃ z : Vs, z = u2 r (0) 25 ((r 0 25) + (1)) := ⟨_, rfl⟩
            rw [← ev11] at hW
            have hO11 : OkM mr11 := by rw [ev11]; exact hO.fr (by omega)
            refine lv_aload_n hx hb d_M_fault_61 rfl (lv_at hl 1 rfl) ?_
            refine wg hx hb hts i_M hown hW (0) (by omega) mm_root rfl 8 (by decide) (hts _ kf_M_34) rfl d_M_fault_62 ?_
            refine lv_iload_n hx hb d_M_fault_65 rfl (lv_at hl 2 rfl) ?_
            refine lv_iconst (v := 2) hx hb d_M_fault_66 (by decide) ?_
            refine wis hx hb hW (9) (by omega) mm_9 0 rfl (pn) zx (by omega) (by decide) (x := 2) mm_9 d_M_fault_67 (fun H locs hW => ?_)
            obtain ⟨mr12, ev12⟩ : ∃ z : Vs, z = u2 mr11 (9) (pn) (2) := ⟨_, rfl⟩
            rw [← ev12] at hW
            have hO12 : OkM mr12 := by rw [ev12]; exact hO11.fr (by omega)
            refine lv_aload_n hx hb d_M_fault_68 rfl (lv_at hl 1 rfl) ?_
            refine wg hx hb hts i_M hown hW (0) (by omega) mm_root rfl 13 (by decide) (hts _ kf_M_49) rfl d_M_fault_69 ?_
            refine lv_iload_n hx hb d_M_fault_72 rfl (lv_at hl 2 rfl) ?_
            refine lv_iload_n hx hb d_M_fault_73 rfl (lv_at hl 4 rfl) ?_
            refine lv_iconst (v := 4) hx hb d_M_fault_74 (by decide) ?_
            refine lv_idiv hx hb d_M_fault_75 (by decide) ?_
            refine wis hx hb hW (14) (by omega) mm_14 0 rfl (pn) zx (by omega) (by decide) (x := (y) / (4)) mm_14 d_M_fault_76 (fun H locs hW => ?_)
            obtain ⟨mr13, ev13⟩ : ∃ z : Vs, z = u2 mr12 (14) (pn) ((y) / (4)) := ⟨_, rfl⟩
            rw [← ev13] at hW
            have hO13 : OkM mr13 := by rw [ev13]; exact hO12.fr (by omega)
            refine lv_aload_n hx hb d_M_fault_77 rfl (lv_at hl 1 rfl) ?_
            refine wg hx hb hts i_M hown hW (0) (by omega) mm_root rfl 15 (by decide) (hts _ kf_M_52) rfl d_M_fault_78 ?_
            refine lv_iload_n hx hb d_M_fault_81 rfl (lv_at hl 2 rfl) ?_
            refine lv_aload_n hx hb d_M_fault_82 rfl (lv_at hl 1 rfl) ?_
            refine wci hW hA (va_runV (As := []) (rest := [.int (x), .ref (am (15))]) ⟨hx, hb, hml, hown, hts⟩ (c_M_tick l hO13 _) (cv 0 hts kc_M_tick ki_M_tick ke_M_tick kn_M km_M_88 kh_M_tick rfl rfl ⟨by decide, by decide⟩) (preW hW rfl rfl (mw_get (by omega) mm_root)) rfl rfl hl.1 rfl (lv_room (Nat.le_of_ble_eq_true rfl)) d_M_fault_83 ⟨by decide, by decide⟩) (fun rr14 uu14 H locs hp14 hW => ?_)
            have hW : Wd D classes (tysA g) s A (wM g am (mTick mr13)) H locs := hW
            obtain ⟨mr15, ev15⟩ : ∃ z : Vs, z = mTick mr13 := ⟨_, rfl⟩
            rw [← ev15] at hW
            have hO15 : OkM mr15 := by rw [ev15]; exact hO13.tick
            have hp14 : rr14 = mTick mr13 0 23 := hp14
            subst hp14
            refine wis hx hb hW (15) (by omega) mm_15 0 rfl (pn) zx (by omega) (by decide) (x := mTick mr13 0 23) mm_15 d_M_fault_86 (fun H locs hW => ?_)
            obtain ⟨mr16, ev16⟩ : ∃ z : Vs, z = u2 mr15 (15) (pn) (mTick mr13 0 23) := ⟨_, rfl⟩
            rw [← ev16] at hW
            have hO16 : OkM mr16 := by rw [ev16]; exact hO15.fr (by omega)
            refine lv_aload_n hx hb d_M_fault_87 rfl (lv_at hl 1 rfl) ?_
            refine wg hx hb hts i_M hown hW (0) (by omega) mm_root rfl 16 (by decide) (hts _ kf_M_55) rfl d_M_fault_88 ?_
            refine lv_iload_n hx hb d_M_fault_91 rfl (lv_at hl 2 rfl) ?_
            refine lv_iload_n hx hb d_M_fault_92 rfl (lv_at hl 4 rfl) ?_
            refine lv_iconst (v := 4) hx hb d_M_fault_93 (by decide) ?_
            refine lv_idiv hx hb d_M_fault_94 (by decide) ?_
            refine wis hx hb hW (16) (by omega) mm_16 0 rfl (pn) zx (by omega) (by decide) (x := (y) / (4)) mm_16 d_M_fault_95 (fun H locs hW => ?_)
            obtain ⟨mr17, ev17⟩ : ∃ z : Vs, z = u2 mr16 (16) (pn) ((y) / (4)) := ⟨_, rfl⟩
            rw [← ev17] at hW
            have hO17 : OkM mr17 := by rw [ev17]; exact hO16.fr (by omega)
            refine lv_aload_n hx hb d_M_fault_96 rfl (lv_at hl 1 rfl) ?_
            refine wg hx hb hts i_M hown hW (0) (by omega) mm_root rfl 17 (by decide) (hts _ kf_M_58) rfl d_M_fault_97 ?_
            refine lv_iload_n hx hb d_M_fault_100 rfl (lv_at hl 2 rfl) ?_
            refine lv_iload_n hx hb d_M_fault_101 rfl (lv_at hl 3 rfl) ?_
            refine lv_iconst (v := 2) hx hb d_M_fault_102 (by decide) ?_
            refine lv_icmp_eq (tgt := 110) hx hb d_M_fault_103 (by decide) (fun c_103 => ?_) (fun c_103 => ?_)
            · refine lv_iconst (v := 0) hx hb d_M_fault_110 (by decide) ?_
              refine wzs hx hb hW (17) (by omega) mm_17 5 rfl (pn) zx (by omega) (by decide) (x := 0) mm_17 (by decide) d_M_fault_111 (fun H locs hW => ?_)
              obtain ⟨mr18, ev18⟩ : ∃ z : Vs, z = u2 mr17 (17) (pn) (0) := ⟨_, rfl⟩
              rw [← ev18] at hW
              have hO18 : OkM mr18 := by rw [ev18]; exact hO17.fr (by omega)
              refine lv_iconst (v := 1) hx hb d_M_fault_112 (by decide) ?_
              have hF : fltP r pn op t := ⟨⟨c_2, c_7⟩, c_35, fun h => c_46 h.2⟩
              have hfin : mFault r pn op y t = mr18 := by
                subst ev18 ev17 ev16 ev15 ev13 ev12 ev11; simp only [mFault, mFl0, if_pos hF, if_pos c_103]
              exact hret _ () _ _ _ _ _ _ (ite_t hF) (by show Wd D classes (tysA g) s A (wM g am (mFault r pn op y t)) _ _; rw [hfin]; exact hW) (by decide) (by decide) d_M_fault_113
            · refine lv_iconst (v := 1) hx hb d_M_fault_106 (by decide) ?_
              refine lv_goto (tgt := 111) hx hb d_M_fault_107 (by decide) ?_
              refine wzs hx hb hW (17) (by omega) mm_17 5 rfl (pn) zx (by omega) (by decide) (x := 1) mm_17 (by decide) d_M_fault_111 (fun H locs hW => ?_)
              obtain ⟨mr19, ev19⟩ : ∃ z : Vs, z = u2 mr17 (17) (pn) (1) := ⟨_, rfl⟩
              rw [← ev19] at hW
              have hO19 : OkM mr19 := by rw [ev19]; exact hO17.fr (by omega)
              refine lv_iconst (v := 1) hx hb d_M_fault_112 (by decide) ?_
              have hF : fltP r pn op t := ⟨⟨c_2, c_7⟩, c_35, fun h => c_46 h.2⟩
              have hfin : mFault r pn op y t = mr19 := by
                subst ev19 ev17 ev16 ev15 ev13 ev12 ev11; simp only [mFault, mFl0, if_pos hF, if_neg c_103]
              exact hret _ () _ _ _ _ _ _ (ite_t hF) (by show Wd D classes (tysA g) s A (wM g am (mFault r pn op y t)) _ _; rw [hfin]; exact hW) (by decide) (by decide) d_M_fault_113
          · refine lv_iconst (v := 0) hx hb d_M_fault_49 (by decide) ?_
            have hF : ¬ fltP r pn op t := (fun h => h.2.2 ⟨c_41, c_46⟩)
            have hfin : mFault r pn op y t = r := by
              skip; simp only [mFault, mFl0, if_neg hF]
            exact hret _ () _ _ _ _ _ _ (ite_f hF) (by show Wd D classes (tysA g) s A (wM g am (mFault r pn op y t)) _ _; rw [hfin]; exact hW) (by decide) (by decide) d_M_fault_50
    · refine lv_iconst (v := 0) hx hb d_M_fault_10 (by decide) ?_
      have hF : ¬ fltP r pn op t := (fun h => c_7 h.1.2)
      have hfin : mFault r pn op y t = r := by
        skip; simp only [mFault, mFl0, if_neg hF]
      exact hret _ () _ _ _ _ _ _ (ite_f hF) (by show Wd D classes (tysA g) s A (wM g am (mFault r pn op y t)) _ _; rw [hfin]; exact hW) (by decide) (by decide) d_M_fault_11
abbrev rm_M_touch : Room := { frames := 1, cells := 0, slots := 0, locals := 20 }
set_option maxHeartbeats 4000000 in
set_option maxRecDepth 100000 in
theorem c_M_touch (l : Launch) {D : va_G} {g : Nat → ClassId} {am : Nat → Nat} {r : Vs} (x : Int32) (pn : Nat) (zx : x = nI pn) (lpn : pn < 8) (op : Int32) (y : Int32) (a : Nat) (zy : y = nI a) (la : a < 32) (z : Int32) (t : Nat) (zz : z = nI t) (lt : t < 32) (hO : OkM r) : MtV l y_M_touch ws_M_touch rm_M_touch D classes (tysA g) [.ref (am (0)), .int (x), .int (op), .int (y), .int (z)] (wM g am (r)) (fun _ : Unit => True) (fun _ => wM g am (mTch r pn op a t)) 0 0 := by
  refine mt_v (by decide +kernel) rfl (Nat.le_of_ble_eq_true rfl) (fun p e s m args below meth c Q A C hnm hA hW hret ls hl => ?_)
  obtain ⟨hx, hb, hr, hml, hown, hts0, hlocks⟩ := C
  have hts : ∀ w ∈ bigw, w.before args s = true := fun w h => hts0 w (List.mem_cons_of_mem _ h)
  have hown : s.vm.findClass R_M = some m.cls := hown
  have hnp := hO.le
  have hl : lv_has ls 7 [(0, .ref (am (0))), (1, .int (x)), (2, .int (op)), (3, .int (y)), (4, .int (z))] := hl
  refine lv_iload_n hx hb d_M_touch_0 rfl (lv_at hl 2 rfl) ?_
  refine lv_iconst (v := 2) hx hb d_M_touch_1 (by decide) ?_
  refine lv_icmp_ne (tgt := 21) hx hb d_M_touch_2 (by decide) (fun c_2 => ?_) (fun c_2 => ?_)
  · refine lv_iload_n hx hb d_M_touch_21 rfl (lv_at hl 2 rfl) ?_
    refine lv_iconst (v := 3) hx hb d_M_touch_22 (by decide) ?_
    refine lv_icmp_ne (tgt := 42) hx hb d_M_touch_23 (by decide) (fun c_23 => ?_) (fun c_23 => ?_)
    · refine lv_iconst (v := 4) hx hb d_M_touch_42 (by decide) ?_
      refine lv_iload_n hx hb d_M_touch_43 rfl (lv_at hl 1 rfl) ?_
      refine lv_imul hx hb d_M_touch_44 ?_
      refine lv_iconst (v := 3) hx hb d_M_touch_45 (by decide) ?_
      refine lv_iadd hx hb d_M_touch_46 ?_
      refine lv_istore (lv' := [(5, .int (((4) * (x)) + (3))), (0, .ref (am (0))), (1, .int (x)), (2, .int (op)), (3, .int (y)), (4, .int (z))]) hx hb d_M_touch_47 hl (by decide) rfl (fun ls hl => ?_)
      refine lv_aload_n hx hb d_M_touch_49 rfl (lv_at hl 1 rfl) ?_
      refine wg hx hb hts i_M hown hW (0) (by omega) mm_root rfl 18 (by decide) (hts _ kf_M_62) rfl d_M_touch_50 ?_
      refine lv_iload hx hb d_M_touch_53 (lv_at hl 5 rfl) ?_
      refine wi hx hb hW (18) (by omega) mm_18 0 rfl (t) zz (by omega) (by decide) d_M_touch_55 ?_
      refine lv_aload_n hx hb d_M_touch_56 rfl (lv_at hl 1 rfl) ?_
      refine wg hx hb hts i_M hown hW (0) (by omega) mm_root rfl 5 (by decide) (hts _ kf_M_25) rfl d_M_touch_57 ?_
      refine lv_iload hx hb d_M_touch_60 (lv_at hl 0 rfl) ?_
      refine wi hx hb hW (6) (by omega) mm_6 0 rfl (4 * pn + 3) (ni_add (ni_mul rfl zx) rfl) (by omega) (by decide) d_M_touch_62 ?_
      refine lv_icmp_ne (tgt := 70) hx hb d_M_touch_63 (by decide) (fun c_63 => ?_) (fun c_63 => ?_)
      · refine lv_iconst (v := 0) hx hb d_M_touch_70 (by decide) ?_
        refine lv_istore (lv' := [(6, .int (0)), (5, .int (((4) * (x)) + (3))), (0, .ref (am (0))), (1, .int (x)), (2, .int (op)), (3, .int (y)), (4, .int (z))]) hx hb d_M_touch_71 hl (by decide) rfl (fun ls hl => ?_)
        refine lv_iload hx hb d_M_touch_73 (lv_at hl 0 rfl) ?_
        refine lv_if_eq (tgt := 91) hx hb d_M_touch_75 (by decide) (fun c_75 => ?_) (fun c_75 => absurd (by decide) c_75)
        refine lv_aload_n hx hb d_M_touch_91 rfl (lv_at hl 2 rfl) ?_
        refine wg hx hb hts i_M hown hW (0) (by omega) mm_root rfl 5 (by decide) (hts _ kf_M_25) rfl d_M_touch_92 ?_
        refine lv_iload hx hb d_M_touch_95 (lv_at hl 1 rfl) ?_
        refine lv_iload hx hb d_M_touch_97 (lv_at hl 0 rfl) ?_
        refine lv_if_eq (tgt := 106) hx hb d_M_touch_99 (by decide) (fun c_99 => ?_) (fun c_99 => absurd (by decide) c_99)
        refine lv_iconst (v := 0) hx hb d_M_touch_106 (by decide) ?_
        refine wis hx hb hW (6) (by omega) mm_6 0 rfl (4 * pn + 3) (ni_add (ni_mul rfl zx) rfl) (by omega) (by decide) (x := 0) mm_6 d_M_touch_107 (fun H locs hW => ?_)
        obtain ⟨mr1, ev1⟩ : ∃ z : Vs, z = u2 r (6) (4 * pn + 3) (0) := ⟨_, rfl⟩
        rw [← ev1] at hW
        have hO1 : OkM mr1 := by rw [ev1]; exact hO.fr (by omega)
        refine lv_aload_n hx hb d_M_touch_108 rfl (lv_at hl 2 rfl) ?_
        refine wg hx hb hts i_M hown hW (0) (by omega) mm_root rfl 20 (by decide) (hts _ kf_M_68) rfl d_M_touch_109 ?_
        refine lv_bipush (v := 8) hx hb d_M_touch_112 (by decide) ?_
        refine lv_aload_n hx hb d_M_touch_114 rfl (lv_at hl 2 rfl) ?_
        refine wg hx hb hts i_M hown hW (0) (by omega) mm_root rfl 7 (by decide) (hts _ kf_M_31) rfl d_M_touch_115 ?_
        refine lv_iload_n hx hb d_M_touch_118 rfl (lv_at hl 3 rfl) ?_
        refine wi hx hb hW (8) (by omega) mm_8 0 rfl (pn) zx (by omega) (by decide) d_M_touch_119 ?_
        obtain ⟨e2, b2⟩ := hO1.c8 (pn)
        refine lv_imul hx hb d_M_touch_120 ?_
        refine lv_iload hx hb d_M_touch_121 (lv_at hl 6 rfl) ?_
        refine lv_iconst (v := 4) hx hb d_M_touch_123 (by decide) ?_
        refine lv_idiv hx hb d_M_touch_124 (by decide) ?_
        refine lv_iadd hx hb d_M_touch_125 ?_
        refine lv_aload_n hx hb d_M_touch_126 rfl (lv_at hl 2 rfl) ?_
        refine wci hW hA (va_runV (As := []) (rest := [.int (((8) * (mr1 (8) (pn))) + ((z) / (4))), .ref (am (20))]) ⟨hx, hb, hml, hown, hts⟩ (c_M_tick l hO1 _) (cv 0 hts kc_M_tick ki_M_tick ke_M_tick kn_M km_M_88 kh_M_tick rfl rfl ⟨by decide, by decide⟩) (preW hW rfl rfl (mw_get (by omega) mm_root)) rfl rfl hl.1 rfl (lv_room (Nat.le_of_ble_eq_true rfl)) d_M_touch_127 ⟨by decide, by decide⟩) (fun rr3 uu3 H locs hp3 hW => ?_)
        have hW : Wd D classes (tysA g) s A (wM g am (mTick mr1)) H locs := hW
        obtain ⟨mr4, ev4⟩ : ∃ z : Vs, z = mTick mr1 := ⟨_, rfl⟩
        rw [← ev4] at hW
        have hO4 : OkM mr4 := by rw [ev4]; exact hO1.tick
        have hp3 : rr3 = mTick mr1 0 23 := hp3
        subst hp3
        refine wis hx hb hW (20) (by omega) mm_20 0 rfl (8 * (nv mr1 (8) (pn)) + t / 4) (ni_add (ni_mul rfl e2) (ni_div zz rfl (by omega) (by decide) (by decide))) (by omega) (by decide) (x := mTick mr1 0 23) mm_20 d_M_touch_130 (fun H locs hW => ?_)
        obtain ⟨mr5, ev5⟩ : ∃ z : Vs, z = u2 mr4 (20) (8 * (nv mr1 (8) (pn)) + t / 4) (mTick mr1 0 23) := ⟨_, rfl⟩
        rw [← ev5] at hW
        have hO5 : OkM mr5 := by rw [ev5]; exact hO4.fr (by omega)
        have hfin : mTch r pn op a t = mr5 := by
          subst ev5 ev4 ev1
          simp only [mTch, mTch0, if_neg c_2, if_neg c_23, if_neg c_63]
        exact hret () _ _ _ _ _ _ trivial (by show Wd D classes (tysA g) s A (wM g am (mTch r pn op a t)) _ _; rw [hfin]; exact hW) (by decide) (by decide) d_M_touch_131
      · refine lv_iconst (v := 1) hx hb d_M_touch_66 (by decide) ?_
        refine lv_goto (tgt := 71) hx hb d_M_touch_67 (by decide) ?_
        refine lv_istore (lv' := [(6, .int (1)), (5, .int (((4) * (x)) + (3))), (0, .ref (am (0))), (1, .int (x)), (2, .int (op)), (3, .int (y)), (4, .int (z))]) hx hb d_M_touch_71 hl (by decide) rfl (fun ls hl => ?_)
        refine lv_iload hx hb d_M_touch_73 (lv_at hl 0 rfl) ?_
        refine lv_if_eq (tgt := 91) hx hb d_M_touch_75 (by decide) (fun c_75 => absurd c_75 (by decide)) (fun c_75 => ?_)
        refine lv_aload_n hx hb d_M_touch_78 rfl (lv_at hl 2 rfl) ?_
        refine wg hx hb hts i_M hown hW (0) (by omega) mm_root rfl 18 (by decide) (hts _ kf_M_62) rfl d_M_touch_79 ?_
        refine lv_iload hx hb d_M_touch_82 (lv_at hl 6 rfl) ?_
        refine lv_aload_n hx hb d_M_touch_84 rfl (lv_at hl 2 rfl) ?_
        refine wg hx hb hts i_M hown hW (0) (by omega) mm_root rfl 5 (by decide) (hts _ kf_M_25) rfl d_M_touch_85 ?_
        refine lv_iload_n hx hb d_M_touch_88 rfl (lv_at hl 5 rfl) ?_
        refine wi hx hb hW (6) (by omega) mm_6 0 rfl (a) zy (by omega) (by decide) d_M_touch_89 ?_
        refine wis hx hb hW (18) (by omega) mm_18 0 rfl (t) zz (by omega) (by decide) (x := r (6) (a)) mm_18 d_M_touch_90 (fun H locs hW => ?_)
        obtain ⟨mr6, ev6⟩ : ∃ z : Vs, z = u2 r (18) (t) (r (6) (a)) := ⟨_, rfl⟩
        rw [← ev6] at hW
        have hO6 : OkM mr6 := by rw [ev6]; exact hO.fr (by omega)
        refine lv_aload_n hx hb d_M_touch_91 rfl (lv_at hl 2 rfl) ?_
        refine wg hx hb hts i_M hown hW (0) (by omega) mm_root rfl 5 (by decide) (hts _ kf_M_25) rfl d_M_touch_92 ?_
        refine lv_iload hx hb d_M_touch_95 (lv_at hl 1 rfl) ?_
        refine lv_iload hx hb d_M_touch_97 (lv_at hl 0 rfl) ?_
        refine lv_if_eq (tgt := 106) hx hb d_M_touch_99 (by decide) (fun c_99 => absurd c_99 (by decide)) (fun c_99 => ?_)
        refine lv_iconst (v := 1) hx hb d_M_touch_102 (by decide) ?_
        refine lv_goto (tgt := 107) hx hb d_M_touch_103 (by decide) ?_
        refine wis hx hb hW (6) (by omega) mm_6 0 rfl (4 * pn + 3) (ni_add (ni_mul rfl zx) rfl) (by omega) (by decide) (x := 1) mm_6 d_M_touch_107 (fun H locs hW => ?_)
        obtain ⟨mr7, ev7⟩ : ∃ z : Vs, z = u2 mr6 (6) (4 * pn + 3) (1) := ⟨_, rfl⟩
        rw [← ev7] at hW
        have hO7 : OkM mr7 := by rw [ev7]; exact hO6.fr (by omega)
        refine lv_aload_n hx hb d_M_touch_108 rfl (lv_at hl 2 rfl) ?_
        refine wg hx hb hts i_M hown hW (0) (by omega) mm_root rfl 20 (by decide) (hts _ kf_M_68) rfl d_M_touch_109 ?_
        refine lv_bipush (v := 8) hx hb d_M_touch_112 (by decide) ?_
        refine lv_aload_n hx hb d_M_touch_114 rfl (lv_at hl 2 rfl) ?_
        refine wg hx hb hts i_M hown hW (0) (by omega) mm_root rfl 7 (by decide) (hts _ kf_M_31) rfl d_M_touch_115 ?_
        refine lv_iload_n hx hb d_M_touch_118 rfl (lv_at hl 3 rfl) ?_
        refine wi hx hb hW (8) (by omega) mm_8 0 rfl (pn) zx (by omega) (by decide) d_M_touch_119 ?_
        obtain ⟨e8, b8⟩ := hO7.c8 (pn)
        refine lv_imul hx hb d_M_touch_120 ?_
        refine lv_iload hx hb d_M_touch_121 (lv_at hl 6 rfl) ?_
        refine lv_iconst (v := 4) hx hb d_M_touch_123 (by decide) ?_
        refine lv_idiv hx hb d_M_touch_124 (by decide) ?_
        refine lv_iadd hx hb d_M_touch_125 ?_
        refine lv_aload_n hx hb d_M_touch_126 rfl (lv_at hl 2 rfl) ?_
        refine wci hW hA (va_runV (As := []) (rest := [.int (((8) * (mr7 (8) (pn))) + ((z) / (4))), .ref (am (20))]) ⟨hx, hb, hml, hown, hts⟩ (c_M_tick l hO7 _) (cv 0 hts kc_M_tick ki_M_tick ke_M_tick kn_M km_M_88 kh_M_tick rfl rfl ⟨by decide, by decide⟩) (preW hW rfl rfl (mw_get (by omega) mm_root)) rfl rfl hl.1 rfl (lv_room (Nat.le_of_ble_eq_true rfl)) d_M_touch_127 ⟨by decide, by decide⟩) (fun rr9 uu9 H locs hp9 hW => ?_)
        have hW : Wd D classes (tysA g) s A (wM g am (mTick mr7)) H locs := hW
        obtain ⟨mr10, ev10⟩ : ∃ z : Vs, z = mTick mr7 := ⟨_, rfl⟩
        rw [← ev10] at hW
        have hO10 : OkM mr10 := by rw [ev10]; exact hO7.tick
        have hp9 : rr9 = mTick mr7 0 23 := hp9
        subst hp9
        refine wis hx hb hW (20) (by omega) mm_20 0 rfl (8 * (nv mr7 (8) (pn)) + t / 4) (ni_add (ni_mul rfl e8) (ni_div zz rfl (by omega) (by decide) (by decide))) (by omega) (by decide) (x := mTick mr7 0 23) mm_20 d_M_touch_130 (fun H locs hW => ?_)
        obtain ⟨mr11, ev11⟩ : ∃ z : Vs, z = u2 mr10 (20) (8 * (nv mr7 (8) (pn)) + t / 4) (mTick mr7 0 23) := ⟨_, rfl⟩
        rw [← ev11] at hW
        have hO11 : OkM mr11 := by rw [ev11]; exact hO10.fr (by omega)
        have hfin : mTch r pn op a t = mr11 := by
          subst ev11 ev10 ev7 ev6
          simp only [mTch, mTch0, if_neg c_2, if_neg c_23, if_pos c_63]
        exact hret () _ _ _ _ _ _ trivial (by show Wd D classes (tysA g) s A (wM g am (mTch r pn op a t)) _ _; rw [hfin]; exact hW) (by decide) (by decide) d_M_touch_131
    · refine lv_aload_n hx hb d_M_touch_26 rfl (lv_at hl 0 rfl) ?_
      refine wg hx hb hts i_M hown hW (0) (by omega) mm_root rfl 18 (by decide) (hts _ kf_M_62) rfl d_M_touch_27 ?_
      refine lv_iload hx hb d_M_touch_30 (lv_at hl 4 rfl) ?_
      refine lv_aload_n hx hb d_M_touch_32 rfl (lv_at hl 0 rfl) ?_
      refine wg hx hb hts i_M hown hW (0) (by omega) mm_root rfl 5 (by decide) (hts _ kf_M_25) rfl d_M_touch_33 ?_
      refine lv_iload_n hx hb d_M_touch_36 rfl (lv_at hl 3 rfl) ?_
      refine wi hx hb hW (6) (by omega) mm_6 0 rfl (a) zy (by omega) (by decide) d_M_touch_37 ?_
      refine wis hx hb hW (18) (by omega) mm_18 0 rfl (t) zz (by omega) (by decide) (x := r (6) (a)) mm_18 d_M_touch_38 (fun H locs hW => ?_)
      obtain ⟨mr12, ev12⟩ : ∃ z : Vs, z = u2 r (18) (t) (r (6) (a)) := ⟨_, rfl⟩
      rw [← ev12] at hW
      have hO12 : OkM mr12 := by rw [ev12]; exact hO.fr (by omega)
      refine lv_goto (tgt := 108) hx hb d_M_touch_39 (by decide) ?_
      refine lv_aload_n hx hb d_M_touch_108 rfl (lv_at hl 0 rfl) ?_
      refine wg hx hb hts i_M hown hW (0) (by omega) mm_root rfl 20 (by decide) (hts _ kf_M_68) rfl d_M_touch_109 ?_
      refine lv_bipush (v := 8) hx hb d_M_touch_112 (by decide) ?_
      refine lv_aload_n hx hb d_M_touch_114 rfl (lv_at hl 0 rfl) ?_
      refine wg hx hb hts i_M hown hW (0) (by omega) mm_root rfl 7 (by decide) (hts _ kf_M_31) rfl d_M_touch_115 ?_
      refine lv_iload_n hx hb d_M_touch_118 rfl (lv_at hl 1 rfl) ?_
      refine wi hx hb hW (8) (by omega) mm_8 0 rfl (pn) zx (by omega) (by decide) d_M_touch_119 ?_
      obtain ⟨e13, b13⟩ := hO12.c8 (pn)
      refine lv_imul hx hb d_M_touch_120 ?_
      refine lv_iload hx hb d_M_touch_121 (lv_at hl 4 rfl) ?_
      refine lv_iconst (v := 4) hx hb d_M_touch_123 (by decide) ?_
      refine lv_idiv hx hb d_M_touch_124 (by decide) ?_
      refine lv_iadd hx hb d_M_touch_125 ?_
      refine lv_aload_n hx hb d_M_touch_126 rfl (lv_at hl 0 rfl) ?_
      refine wci hW hA (va_runV (As := []) (rest := [.int (((8) * (mr12 (8) (pn))) + ((z) / (4))), .ref (am (20))]) ⟨hx, hb, hml, hown, hts⟩ (c_M_tick l hO12 _) (cv 0 hts kc_M_tick ki_M_tick ke_M_tick kn_M km_M_88 kh_M_tick rfl rfl ⟨by decide, by decide⟩) (preW hW rfl rfl (mw_get (by omega) mm_root)) rfl rfl hl.1 rfl (lv_room (Nat.le_of_ble_eq_true rfl)) d_M_touch_127 ⟨by decide, by decide⟩) (fun rr14 uu14 H locs hp14 hW => ?_)
      have hW : Wd D classes (tysA g) s A (wM g am (mTick mr12)) H locs := hW
      obtain ⟨mr15, ev15⟩ : ∃ z : Vs, z = mTick mr12 := ⟨_, rfl⟩
      rw [← ev15] at hW
      have hO15 : OkM mr15 := by rw [ev15]; exact hO12.tick
      have hp14 : rr14 = mTick mr12 0 23 := hp14
      subst hp14
      refine wis hx hb hW (20) (by omega) mm_20 0 rfl (8 * (nv mr12 (8) (pn)) + t / 4) (ni_add (ni_mul rfl e13) (ni_div zz rfl (by omega) (by decide) (by decide))) (by omega) (by decide) (x := mTick mr12 0 23) mm_20 d_M_touch_130 (fun H locs hW => ?_)
      obtain ⟨mr16, ev16⟩ : ∃ z : Vs, z = u2 mr15 (20) (8 * (nv mr12 (8) (pn)) + t / 4) (mTick mr12 0 23) := ⟨_, rfl⟩
      rw [← ev16] at hW
      have hO16 : OkM mr16 := by rw [ev16]; exact hO15.fr (by omega)
      have hfin : mTch r pn op a t = mr16 := by
        subst ev16 ev15 ev12
        simp only [mTch, mTch0, if_neg c_2, if_pos c_23]
      exact hret () _ _ _ _ _ _ trivial (by show Wd D classes (tysA g) s A (wM g am (mTch r pn op a t)) _ _; rw [hfin]; exact hW) (by decide) (by decide) d_M_touch_131
  · refine lv_aload_n hx hb d_M_touch_5 rfl (lv_at hl 0 rfl) ?_
    refine wg hx hb hts i_M hown hW (0) (by omega) mm_root rfl 5 (by decide) (hts _ kf_M_25) rfl d_M_touch_6 ?_
    refine lv_iload_n hx hb d_M_touch_9 rfl (lv_at hl 3 rfl) ?_
    refine lv_aload_n hx hb d_M_touch_10 rfl (lv_at hl 0 rfl) ?_
    refine wg hx hb hts i_M hown hW (0) (by omega) mm_root rfl 18 (by decide) (hts _ kf_M_62) rfl d_M_touch_11 ?_
    refine lv_iload hx hb d_M_touch_14 (lv_at hl 4 rfl) ?_
    refine wi hx hb hW (18) (by omega) mm_18 0 rfl (t) zz (by omega) (by decide) d_M_touch_16 ?_
    refine wis hx hb hW (6) (by omega) mm_6 0 rfl (a) zy (by omega) (by decide) (x := r (18) (t)) mm_6 d_M_touch_17 (fun H locs hW => ?_)
    obtain ⟨mr17, ev17⟩ : ∃ z : Vs, z = u2 r (6) (a) (r (18) (t)) := ⟨_, rfl⟩
    rw [← ev17] at hW
    have hO17 : OkM mr17 := by rw [ev17]; exact hO.fr (by omega)
    refine lv_goto (tgt := 108) hx hb d_M_touch_18 (by decide) ?_
    refine lv_aload_n hx hb d_M_touch_108 rfl (lv_at hl 0 rfl) ?_
    refine wg hx hb hts i_M hown hW (0) (by omega) mm_root rfl 20 (by decide) (hts _ kf_M_68) rfl d_M_touch_109 ?_
    refine lv_bipush (v := 8) hx hb d_M_touch_112 (by decide) ?_
    refine lv_aload_n hx hb d_M_touch_114 rfl (lv_at hl 0 rfl) ?_
    refine wg hx hb hts i_M hown hW (0) (by omega) mm_root rfl 7 (by decide) (hts _ kf_M_31) rfl d_M_touch_115 ?_
    refine lv_iload_n hx hb d_M_touch_118 rfl (lv_at hl 1 rfl) ?_
    refine wi hx hb hW (8) (by omega) mm_8 0 rfl (pn) zx (by omega) (by decide) d_M_touch_119 ?_
    obtain ⟨e18, b18⟩ := hO17.c8 (pn)
    refine lv_imul hx hb d_M_touch_120 ?_
    refine lv_iload hx hb d_M_touch_121 (lv_at hl 4 rfl) ?_
    refine lv_iconst (v := 4) hx hb d_M_touch_123 (by decide) ?_
    refine lv_idiv hx hb d_M_touch_124 (by decide) ?_
    refine lv_iadd hx hb d_M_touch_125 ?_
    refine lv_aload_n hx hb d_M_touch_126 rfl (lv_at hl 0 rfl) ?_
    refine wci hW hA (va_runV (As := []) (rest := [.int (((8) * (mr17 (8) (pn))) + ((z) / (4))), .ref (am (20))]) ⟨hx, hb, hml, hown, hts⟩ (c_M_tick l hO17 _) (cv 0 hts kc_M_tick ki_M_tick ke_M_tick kn_M km_M_88 kh_M_tick rfl rfl ⟨by decide, by decide⟩) (preW hW rfl rfl (mw_get (by omega) mm_root)) rfl rfl hl.1 rfl (lv_room (Nat.le_of_ble_eq_true rfl)) d_M_touch_127 ⟨by decide, by decide⟩) (fun rr19 uu19 H locs hp19 hW => ?_)
    have hW : Wd D classes (tysA g) s A (wM g am (mTick mr17)) H locs := hW
    obtain ⟨mr20, ev20⟩ : ∃ z : Vs, z = mTick mr17 := ⟨_, rfl⟩
    rw [← ev20] at hW
    have hO20 : OkM mr20 := by rw [ev20]; exact hO17.tick
    have hp19 : rr19 = mTick mr17 0 23 := hp19
    subst hp19
    refine wis hx hb hW (20) (by omega) mm_20 0 rfl (8 * (nv mr17 (8) (pn)) + t / 4) (ni_add (ni_mul rfl e18) (ni_div zz rfl (by omega) (by decide) (by decide))) (by omega) (by decide) (x := mTick mr17 0 23) mm_20 d_M_touch_130 (fun H locs hW => ?_)
    obtain ⟨mr21, ev21⟩ : ∃ z : Vs, z = u2 mr20 (20) (8 * (nv mr17 (8) (pn)) + t / 4) (mTick mr17 0 23) := ⟨_, rfl⟩
    rw [← ev21] at hW
    have hO21 : OkM mr21 := by rw [ev21]; exact hO20.fr (by omega)
    have hfin : mTch r pn op a t = mr21 := by
      subst ev21 ev20 ev17
      simp only [mTch, mTch0, if_pos c_2]
    exact hret () _ _ _ _ _ _ trivial (by show Wd D classes (tysA g) s A (wM g am (mTch r pn op a t)) _ _; rw [hfin]; exact hW) (by decide) (by decide) d_M_touch_131
