abbrev rm_M_count : Room := { frames := 0, cells := 0, slots := 0, locals := 0 }
set_option maxHeartbeats 4000000 in
set_option maxRecDepth 100000 in
theorem c_M_count (l : Launch) {D : va_G} {g : Nat → ClassId} {am : Nat → Nat} {r : Vs} (y : Int32) (hO : OkM r) : MtI l y_M_count ws_M_count rm_M_count D classes (tysA g) [.ref (am (0)), .int (y)] (wM g am (r)) (fun (rr : Int32) (_ : Unit) => rr = mCount r y) (fun _ => wM g am (r)) 0 0 := by
  refine mt_i (ty := .int) (fun _ _ _ => rfl) (by decide +kernel) rfl (Nat.le_of_ble_eq_true rfl) (fun p e s m args below meth c Q A C hA hW hret ls hl => ?_)
  obtain ⟨hx, hb, hr, hml, hown, hts0, hlocks⟩ := C
  have hts : ∀ w ∈ bigw, w.before args s = true := fun w h => hts0 w (List.mem_cons_of_mem _ h)
  have hown : s.vm.findClass R_M = some m.cls := hown
  have hnp := hO.le
  have hl : lv_has ls 5 [(0, .ref (am (0))), (1, .int (y))] := hl
  refine lv_iconst (v := 0) hx hb d_M_count_0 (by decide) ?_
  refine lv_istore_n (lv' := [(2, .int (0)), (0, .ref (am (0))), (1, .int (y))]) hx hb d_M_count_1 rfl hl (by decide) rfl (fun ls hl => ?_)
  refine lv_iconst (v := 0) hx hb d_M_count_2 (by decide) ?_
  refine lv_istore_n (lv' := [(3, .int (0)), (2, .int (0)), (0, .ref (am (0))), (1, .int (y))]) hx hb d_M_count_3 rfl hl (by decide) rfl (fun ls hl => ?_)
  refine lv_iconst (v := 0) hx hb d_M_count_4 (by decide) ?_
  refine lv_istore (lv' := [(4, .int (0)), (3, .int (0)), (2, .int (0)), (0, .ref (am (0))), (1, .int (y))]) hx hb d_M_count_5 hl (by decide) rfl (fun ls hl => ?_)
  have loop : ∀ (k : Nat) (q : Nat) (a : Nat) (b : Nat) (H : Heap) (locs : List Loc) (ls : Array Slot), nv r 0 14 = q + k → mCtL r k q a b = mCtL r (nv r 0 14) 0 0 0 → Wd D classes (tysA g) s A (wM g am (r)) H locs → lv_has ls 5 [(0, .ref (am (0))), (1, .int (y)), (2, .int (nI (a))), (3, .int (nI (b))), (4, .int (nI (q)))] → W p l e rm_M_count s m args below meth c H locs 0 0 Q (F0 m 7 ls []) := by
    intro k
    induction k with
    | zero =>
      intro q a b H locs ls hq hT hW hl
      refine lv_iload hx hb d_M_count_7 (lv_at hl 4 rfl) ?_
      refine lv_aload_n hx hb d_M_count_9 rfl (lv_at hl 0 rfl) ?_
      refine wg hx hb hts i_M hown hW (0) (by omega) mm_root rfl 14 (by decide) (hts _ kf_M_81) rfl d_M_count_10 ?_
      obtain ⟨e1, b1⟩ := hO.made
      refine lv_icmp_ge (tgt := 49) hx hb d_M_count_13 (by decide) (fun c_13 => ?_) (fun c_13 => ?_)
      · have nc_13 : nv r (0) 14 ≤ q := ni_le e1 rfl (by omega) (by omega) c_13
        refine lv_iload_n hx hb d_M_count_49 rfl (lv_at hl 1 rfl) ?_
        rcases sw_7 (y) with c_50 | h_50_0 | h_50_1 | h_50_2 | h_50_3 | h_50_4 | h_50_5 | h_50_6
        · refine lv_tableOut (tgt := 121) hx hb d_M_count_50 c_50 (by decide) ?_
          refine lv_iconst (v := (-1)) hx hb d_M_count_121 (by decide) ?_
          have hc : mCtL r (nv r 0 14) 0 0 0 = (a, b) := by rw [← hT]; rfl
          refine hret _ () _ _ _ _ _ _ ?_ hW (by decide) (by decide) d_M_count_122
          show (-1) = mCount r y
          simp only [mCount, if_neg (out_ne c_50 0 (by decide)), if_neg (out_ne c_50 1 (by decide)), if_neg (out_ne c_50 2 (by decide)), if_neg (out_ne c_50 3 (by decide)), if_neg (out_ne c_50 4 (by decide)), if_neg (out_ne c_50 5 (by decide)), if_neg (out_ne c_50 6 (by decide))]
        · refine lv_tableIn (tgt := 92) hx hb d_M_count_50 (by rw [h_50_0]; decide) (by rw [h_50_0]; decide) (off := 42) (by rw [h_50_0]; rfl) (by decide) ?_
          refine lv_aload_n hx hb d_M_count_92 rfl (lv_at hl 0 rfl) ?_
          refine wg hx hb hts i_M hown hW (0) (by omega) mm_root rfl 14 (by decide) (hts _ kf_M_81) rfl d_M_count_93 ?_
          obtain ⟨e2, b2⟩ := hO.made
          have hc : mCtL r (nv r 0 14) 0 0 0 = (a, b) := by rw [← hT]; rfl
          refine hret _ () _ _ _ _ _ _ ?_ hW (by decide) (by decide) d_M_count_96
          show r 0 14 = mCount r y
          subst h_50_0
          unfold mCount; rw [hc]; rfl
        · refine lv_tableIn (tgt := 97) hx hb d_M_count_50 (by rw [h_50_1]; decide) (by rw [h_50_1]; decide) (off := 47) (by rw [h_50_1]; rfl) (by decide) ?_
          refine lv_aload_n hx hb d_M_count_97 rfl (lv_at hl 0 rfl) ?_
          refine wg hx hb hts i_M hown hW (0) (by omega) mm_root rfl 24 (by decide) (hts _ kf_M_132) rfl d_M_count_98 ?_
          have hc : mCtL r (nv r 0 14) 0 0 0 = (a, b) := by rw [← hT]; rfl
          refine hret _ () _ _ _ _ _ _ ?_ hW (by decide) (by decide) d_M_count_101
          show r 0 24 = mCount r y
          subst h_50_1
          unfold mCount; rw [hc]; rfl
        · refine lv_tableIn (tgt := 102) hx hb d_M_count_50 (by rw [h_50_2]; decide) (by rw [h_50_2]; decide) (off := 52) (by rw [h_50_2]; rfl) (by decide) ?_
          refine lv_aload_n hx hb d_M_count_102 rfl (lv_at hl 0 rfl) ?_
          refine wg hx hb hts i_M hown hW (0) (by omega) mm_root rfl 25 (by decide) (hts _ kf_M_104) rfl d_M_count_103 ?_
          have hc : mCtL r (nv r 0 14) 0 0 0 = (a, b) := by rw [← hT]; rfl
          refine hret _ () _ _ _ _ _ _ ?_ hW (by decide) (by decide) d_M_count_106
          show r 0 25 = mCount r y
          subst h_50_2
          unfold mCount; rw [hc]; rfl
        · refine lv_tableIn (tgt := 107) hx hb d_M_count_50 (by rw [h_50_3]; decide) (by rw [h_50_3]; decide) (off := 57) (by rw [h_50_3]; rfl) (by decide) ?_
          refine lv_aload_n hx hb d_M_count_107 rfl (lv_at hl 0 rfl) ?_
          refine wg hx hb hts i_M hown hW (0) (by omega) mm_root rfl 26 (by decide) (hts _ kf_M_129) rfl d_M_count_108 ?_
          have hc : mCtL r (nv r 0 14) 0 0 0 = (a, b) := by rw [← hT]; rfl
          refine hret _ () _ _ _ _ _ _ ?_ hW (by decide) (by decide) d_M_count_111
          show r 0 26 = mCount r y
          subst h_50_3
          unfold mCount; rw [hc]; rfl
        · refine lv_tableIn (tgt := 112) hx hb d_M_count_50 (by rw [h_50_4]; decide) (by rw [h_50_4]; decide) (off := 62) (by rw [h_50_4]; rfl) (by decide) ?_
          refine lv_iload_n hx hb d_M_count_112 rfl (lv_at hl 2 rfl) ?_
          have hc : mCtL r (nv r 0 14) 0 0 0 = (a, b) := by rw [← hT]; rfl
          refine hret _ () _ _ _ _ _ _ ?_ hW (by decide) (by decide) d_M_count_113
          show nI (a) = mCount r y
          subst h_50_4
          unfold mCount; rw [hc]; rfl
        · refine lv_tableIn (tgt := 114) hx hb d_M_count_50 (by rw [h_50_5]; decide) (by rw [h_50_5]; decide) (off := 64) (by rw [h_50_5]; rfl) (by decide) ?_
          refine lv_iload_n hx hb d_M_count_114 rfl (lv_at hl 3 rfl) ?_
          have hc : mCtL r (nv r 0 14) 0 0 0 = (a, b) := by rw [← hT]; rfl
          refine hret _ () _ _ _ _ _ _ ?_ hW (by decide) (by decide) d_M_count_115
          show nI (b) = mCount r y
          subst h_50_5
          unfold mCount; rw [hc]; rfl
        · refine lv_tableIn (tgt := 116) hx hb d_M_count_50 (by rw [h_50_6]; decide) (by rw [h_50_6]; decide) (off := 66) (by rw [h_50_6]; rfl) (by decide) ?_
          refine lv_aload_n hx hb d_M_count_116 rfl (lv_at hl 0 rfl) ?_
          refine wg hx hb hts i_M hown hW (0) (by omega) mm_root rfl 27 (by decide) (hts _ kf_M_149) rfl d_M_count_117 ?_
          have hc : mCtL r (nv r 0 14) 0 0 0 = (a, b) := by rw [← hT]; rfl
          refine hret _ () _ _ _ _ _ _ ?_ hW (by decide) (by decide) d_M_count_120
          show r 0 27 = mCount r y
          subst h_50_6
          unfold mCount; rw [hc]; rfl
      · have nc_13 : q < nv r (0) 14 := ni_nle e1 rfl (by omega) (by omega) c_13
        exfalso; omega
    | succ k ih =>
      intro q a b H locs ls hq hT hW hl
      refine lv_iload hx hb d_M_count_7 (lv_at hl 4 rfl) ?_
      refine lv_aload_n hx hb d_M_count_9 rfl (lv_at hl 0 rfl) ?_
      refine wg hx hb hts i_M hown hW (0) (by omega) mm_root rfl 14 (by decide) (hts _ kf_M_81) rfl d_M_count_10 ?_
      obtain ⟨e3, b3⟩ := hO.made
      refine lv_icmp_ge (tgt := 49) hx hb d_M_count_13 (by decide) (fun c_13 => ?_) (fun c_13 => ?_)
      · have nc_13 : nv r (0) 14 ≤ q := ni_le e3 rfl (by omega) (by omega) c_13
        exfalso; omega
      · have nc_13 : q < nv r (0) 14 := ni_nle e3 rfl (by omega) (by omega) c_13
        refine lv_aload_n hx hb d_M_count_16 rfl (lv_at hl 0 rfl) ?_
        refine wg hx hb hts i_M hown hW (0) (by omega) mm_root rfl 15 (by decide) (hts _ kf_M_52) rfl d_M_count_17 ?_
        refine lv_iload hx hb d_M_count_20 (lv_at hl 4 rfl) ?_
        refine wi hx hb hW (15) (by omega) mm_15 0 rfl (q) rfl (by omega) (by decide) d_M_count_22 ?_
        refine lv_if_eq (tgt := 29) hx hb d_M_count_23 (by decide) (fun c_23 => ?_) (fun c_23 => ?_)
        · refine lv_aload_n hx hb d_M_count_29 rfl (lv_at hl 0 rfl) ?_
          refine wg hx hb hts i_M hown hW (0) (by omega) mm_root rfl 8 (by decide) (hts _ kf_M_34) rfl d_M_count_30 ?_
          refine lv_iload hx hb d_M_count_33 (lv_at hl 4 rfl) ?_
          refine wi hx hb hW (9) (by omega) mm_9 0 rfl (q) rfl (by omega) (by decide) d_M_count_35 ?_
          refine lv_iconst (v := 1) hx hb d_M_count_36 (by decide) ?_
          refine lv_icmp_ne (tgt := 43) hx hb d_M_count_37 (by decide) (fun c_37 => ?_) (fun c_37 => ?_)
          · refine lv_iinc (v := nI (q + 1)) (lv' := [(4, .int (nI (q + 1))), (0, .ref (am (0))), (1, .int (y)), (2, .int (nI (a))), (3, .int (nI (b)))]) hx hb d_M_count_43 hl (k := 4) rfl (nI_1 _) (by decide) rfl (fun ls hl => ?_)
            refine lv_goto (tgt := 7) hx hb d_M_count_46 (by decide) ?_
            refine ih (q + 1) (a) (b) _ _ _ (by omega) ?_ hW (lv_sub hl [1, 2, 3, 4, 0] rfl)
            rw [← hT, mCtL, if_pos c_23, if_neg c_37]
          · refine lv_iinc (v := nI (b + 1)) (lv' := [(3, .int (nI (b + 1))), (0, .ref (am (0))), (1, .int (y)), (2, .int (nI (a))), (4, .int (nI (q)))]) hx hb d_M_count_40 hl (k := 3) rfl (nI_1 _) (by decide) rfl (fun ls hl => ?_)
            refine lv_iinc (v := nI (q + 1)) (lv' := [(4, .int (nI (q + 1))), (3, .int (nI (b + 1))), (0, .ref (am (0))), (1, .int (y)), (2, .int (nI (a)))]) hx hb d_M_count_43 hl (k := 4) rfl (nI_1 _) (by decide) rfl (fun ls hl => ?_)
            refine lv_goto (tgt := 7) hx hb d_M_count_46 (by decide) ?_
            refine ih (q + 1) (a) (b + 1) _ _ _ (by omega) ?_ hW (lv_sub hl [2, 3, 4, 1, 0] rfl)
            rw [← hT, mCtL, if_pos c_23, if_pos c_37]
        · refine lv_iinc (v := nI (a + 1)) (lv' := [(2, .int (nI (a + 1))), (0, .ref (am (0))), (1, .int (y)), (3, .int (nI (b))), (4, .int (nI (q)))]) hx hb d_M_count_26 hl (k := 2) rfl (nI_1 _) (by decide) rfl (fun ls hl => ?_)
          refine lv_aload_n hx hb d_M_count_29 rfl (lv_at hl 1 rfl) ?_
          refine wg hx hb hts i_M hown hW (0) (by omega) mm_root rfl 8 (by decide) (hts _ kf_M_34) rfl d_M_count_30 ?_
          refine lv_iload hx hb d_M_count_33 (lv_at hl 4 rfl) ?_
          refine wi hx hb hW (9) (by omega) mm_9 0 rfl (q) rfl (by omega) (by decide) d_M_count_35 ?_
          refine lv_iconst (v := 1) hx hb d_M_count_36 (by decide) ?_
          refine lv_icmp_ne (tgt := 43) hx hb d_M_count_37 (by decide) (fun c_37 => ?_) (fun c_37 => ?_)
          · refine lv_iinc (v := nI (q + 1)) (lv' := [(4, .int (nI (q + 1))), (2, .int (nI (a + 1))), (0, .ref (am (0))), (1, .int (y)), (3, .int (nI (b)))]) hx hb d_M_count_43 hl (k := 4) rfl (nI_1 _) (by decide) rfl (fun ls hl => ?_)
            refine lv_goto (tgt := 7) hx hb d_M_count_46 (by decide) ?_
            refine ih (q + 1) (a + 1) (b) _ _ _ (by omega) ?_ hW (lv_sub hl [2, 3, 1, 4, 0] rfl)
            rw [← hT, mCtL, if_neg c_23, if_neg c_37]
          · refine lv_iinc (v := nI (b + 1)) (lv' := [(3, .int (nI (b + 1))), (2, .int (nI (a + 1))), (0, .ref (am (0))), (1, .int (y)), (4, .int (nI (q)))]) hx hb d_M_count_40 hl (k := 3) rfl (nI_1 _) (by decide) rfl (fun ls hl => ?_)
            refine lv_iinc (v := nI (q + 1)) (lv' := [(4, .int (nI (q + 1))), (3, .int (nI (b + 1))), (2, .int (nI (a + 1))), (0, .ref (am (0))), (1, .int (y))]) hx hb d_M_count_43 hl (k := 4) rfl (nI_1 _) (by decide) rfl (fun ls hl => ?_)
            refine lv_goto (tgt := 7) hx hb d_M_count_46 (by decide) ?_
            refine ih (q + 1) (a + 1) (b + 1) _ _ _ (by omega) ?_ hW (lv_sub hl [3, 4, 2, 1, 0] rfl)
            rw [← hT, mCtL, if_neg c_23, if_pos c_37]
  exact loop (nv r 0 14) 0 0 0 _ _ _ (by omega) rfl hW (lv_sub hl [3, 4, 2, 1, 0] rfl)
abbrev rm_M_giveUp : Room := { frames := 0, cells := 0, slots := 0, locals := 0 }
set_option maxHeartbeats 4000000 in
set_option maxRecDepth 100000 in
theorem c_M_giveUp (l : Launch) {D : va_G} {g : Nat → ClassId} {am : Nat → Nat} {r : Vs} (x : Int32) (n : Nat) (zx : x = nI n) (ln : n < 3) (hO : OkM r) : MtV l y_M_giveUp ws_M_giveUp rm_M_giveUp D classes (tysA g) [.ref (am (0)), .int (x)] (wM g am (r)) (fun _ : Unit => True) (fun _ => wM g am (mGiv r x n)) 0 0 := by
  refine mt_v (by decide +kernel) rfl (Nat.le_of_ble_eq_true rfl) (fun p e s m args below meth c Q A C hnm hA hW hret ls hl => ?_)
  obtain ⟨hx, hb, hr, hml, hown, hts0, hlocks⟩ := C
  have hts : ∀ w ∈ bigw, w.before args s = true := fun w h => hts0 w (List.mem_cons_of_mem _ h)
  have hown : s.vm.findClass R_M = some m.cls := hown
  have hnp := hO.le
  have hl : lv_has ls 4 [(0, .ref (am (0))), (1, .int (x))] := hl
  refine lv_bipush (v := 8) hx hb d_M_giveUp_0 (by decide) ?_
  refine lv_istore_n (lv' := [(2, .int (8)), (0, .ref (am (0))), (1, .int (x))]) hx hb d_M_giveUp_2 rfl hl (by decide) rfl (fun ls hl => ?_)
  refine lv_iconst (v := 0) hx hb d_M_giveUp_3 (by decide) ?_
  refine lv_istore_n (lv' := [(3, .int (0)), (2, .int (8)), (0, .ref (am (0))), (1, .int (x))]) hx hb d_M_giveUp_4 rfl hl (by decide) rfl (fun ls hl => ?_)
  have loop : ∀ (k : Nat) (t : Nat) (o : Nat) (H : Heap) (locs : List Loc) (ls : Array Slot), 8 = t + k → o ≤ 8 → mOldL r n k t o = mOldL r n 8 0 8 → Wd D classes (tysA g) s A (wM g am (r)) H locs → lv_has ls 4 [(0, .ref (am (0))), (1, .int (x)), (2, .int (nI (o))), (3, .int (nI (t)))] → W p l e rm_M_giveUp s m args below meth c H locs 0 0 Q (F0 m 5 ls []) := by
    intro k
    induction k with
    | zero =>
      intro t o H locs ls h8 ho8 hT hW hl
      refine lv_iload_n hx hb d_M_giveUp_5 rfl (lv_at hl 3 rfl) ?_
      refine lv_bipush (v := 8) hx hb d_M_giveUp_6 (by decide) ?_
      refine lv_icmp_ge (tgt := 64) hx hb d_M_giveUp_8 (by decide) (fun c_8 => ?_) (fun c_8 => ?_)
      · have nc_8 : 8 ≤ t := ni_le rfl rfl (by omega) (by omega) c_8
        refine lv_iload_n hx hb d_M_giveUp_64 rfl (lv_at hl 2 rfl) ?_
        refine lv_bipush (v := 8) hx hb d_M_giveUp_65 (by decide) ?_
        refine lv_icmp_ne (tgt := 71) hx hb d_M_giveUp_67 (by decide) (fun c_67 => ?_) (fun c_67 => ?_)
        · have nc_67 : ¬ o = 8 := ni_ne rfl rfl (by omega) (by omega) c_67
          refine lv_aload_n hx hb d_M_giveUp_71 rfl (lv_at hl 0 rfl) ?_
          refine wg hx hb hts i_M hown hW (0) (by omega) mm_root rfl 19 (by decide) (hts _ kf_M_65) rfl d_M_giveUp_72 ?_
          refine lv_bipush (v := 8) hx hb d_M_giveUp_75 (by decide) ?_
          refine lv_iload_n hx hb d_M_giveUp_77 rfl (lv_at hl 1 rfl) ?_
          refine lv_imul hx hb d_M_giveUp_78 ?_
          refine lv_iload_n hx hb d_M_giveUp_79 rfl (lv_at hl 2 rfl) ?_
          refine lv_iadd hx hb d_M_giveUp_80 ?_
          refine lv_iconst (v := 0) hx hb d_M_giveUp_81 (by decide) ?_
          refine wis hx hb hW (19) (by omega) mm_19 0 rfl (8 * n + o) (ni_add (ni_mul rfl zx) rfl) (by omega) (by decide) (x := 0) mm_19 d_M_giveUp_82 (fun H locs hW => ?_)
          obtain ⟨mr1, ev1⟩ : ∃ z : Vs, z = u2 r (19) (8 * n + o) (0) := ⟨_, rfl⟩
          rw [← ev1] at hW
          have hO1 : OkM mr1 := by rw [ev1]; exact hO.fr (by omega)
          refine lv_aload_n hx hb d_M_giveUp_83 rfl (lv_at hl 0 rfl) ?_
          refine lv_dup hx hb d_M_giveUp_84 rfl ?_
          refine wg hx hb hts i_M hown hW (0) (by omega) mm_root rfl 26 (by decide) (hts _ kf_M_129) rfl d_M_giveUp_85 ?_
          refine lv_iconst (v := 1) hx hb d_M_giveUp_88 (by decide) ?_
          refine lv_iadd hx hb d_M_giveUp_89 ?_
          refine wp hx hb hts i_M t_M t_M_ok n_M hown hW (0) (by omega) mm_root rfl 26 (by decide) (hts _ kf_M_129) rfl (by decide +kernel) (x := (mr1 0 26) + (1)) (Nat.le_of_ble_eq_true rfl) (mm_root.trans rfl) d_M_giveUp_90 (fun H locs hW => ?_)
          obtain ⟨mr2, ev2⟩ : ∃ z : Vs, z = u2 mr1 (0) 26 ((mr1 0 26) + (1)) := ⟨_, rfl⟩
          rw [← ev2] at hW
          have hO2 : OkM mr2 := by rw [ev2]; exact hO1.fr (by omega)
          refine lv_aload_n hx hb d_M_giveUp_93 rfl (lv_at hl 0 rfl) ?_
          refine wg hx hb hts i_M hown hW (0) (by omega) mm_root rfl 21 (by decide) (hts _ kf_M_71) rfl d_M_giveUp_94 ?_
          refine lv_iload_n hx hb d_M_giveUp_97 rfl (lv_at hl 2 rfl) ?_
          refine wi hx hb hW (21) (by omega) mm_21 0 rfl (o) rfl (by omega) (by decide) d_M_giveUp_98 ?_
          refine lv_iload_n hx hb d_M_giveUp_99 rfl (lv_at hl 1 rfl) ?_
          refine lv_icmp_eq (tgt := 104) hx hb d_M_giveUp_100 (by decide) (fun c_100 => ?_) (fun c_100 => ?_)
          · refine lv_aload_n hx hb d_M_giveUp_104 rfl (lv_at hl 0 rfl) ?_
            refine wg hx hb hts i_M hown hW (0) (by omega) mm_root rfl 21 (by decide) (hts _ kf_M_71) rfl d_M_giveUp_105 ?_
            refine lv_iload_n hx hb d_M_giveUp_108 rfl (lv_at hl 2 rfl) ?_
            refine lv_iconst (v := 3) hx hb d_M_giveUp_109 (by decide) ?_
            refine wis hx hb hW (21) (by omega) mm_21 0 rfl (o) rfl (by omega) (by decide) (x := 3) mm_21 d_M_giveUp_110 (fun H locs hW => ?_)
            obtain ⟨mr3, ev3⟩ : ∃ z : Vs, z = u2 mr2 (21) (o) (3) := ⟨_, rfl⟩
            rw [← ev3] at hW
            have hO3 : OkM mr3 := by rw [ev3]; exact hO2.fr (by omega)
            refine lv_iconst (v := 2) hx hb d_M_giveUp_111 (by decide) ?_
            refine lv_istore_n (lv' := [(3, .int (2)), (0, .ref (am (0))), (1, .int (x)), (2, .int (nI (o)))]) hx hb d_M_giveUp_112 rfl hl (by decide) rfl (fun ls hl => ?_)
            refine lv_iload_n hx hb d_M_giveUp_113 rfl (lv_at hl 0 rfl) ?_
            refine lv_if_lt (tgt := 144) hx hb d_M_giveUp_114 (by decide) (fun c_114 => absurd c_114 (by decide)) (fun c_114 => ?_)
            refine lv_aload_n hx hb d_M_giveUp_117 rfl (lv_at hl 1 rfl) ?_
            refine wg hx hb hts i_M hown hW (0) (by omega) mm_root rfl 19 (by decide) (hts _ kf_M_65) rfl d_M_giveUp_118 ?_
            refine lv_bipush (v := 8) hx hb d_M_giveUp_121 (by decide) ?_
            refine lv_iload_n hx hb d_M_giveUp_123 rfl (lv_at hl 0 rfl) ?_
            refine lv_imul hx hb d_M_giveUp_124 ?_
            refine lv_iload_n hx hb d_M_giveUp_125 rfl (lv_at hl 3 rfl) ?_
            refine lv_iadd hx hb d_M_giveUp_126 ?_
            refine wi hx hb hW (19) (by omega) mm_19 0 rfl (8 * 2 + o) (ni_add (ni_mul rfl rfl) rfl) (by omega) (by decide) d_M_giveUp_127 ?_
            refine lv_if_eq (tgt := 138) hx hb d_M_giveUp_128 (by decide) (fun c_128 => ?_) (fun c_128 => ?_)
            · refine lv_iinc (v := 1) (lv' := [(3, .int (1)), (0, .ref (am (0))), (1, .int (x)), (2, .int (nI (o)))]) hx hb d_M_giveUp_138 hl (k := 0) rfl (by decide) (by decide) rfl (fun ls hl => ?_)
              refine lv_goto (tgt := 113) hx hb d_M_giveUp_141 (by decide) ?_
              refine lv_iload_n hx hb d_M_giveUp_113 rfl (lv_at hl 0 rfl) ?_
              refine lv_if_lt (tgt := 144) hx hb d_M_giveUp_114 (by decide) (fun c_114 => absurd c_114 (by decide)) (fun c_114 => ?_)
              refine lv_aload_n hx hb d_M_giveUp_117 rfl (lv_at hl 1 rfl) ?_
              refine wg hx hb hts i_M hown hW (0) (by omega) mm_root rfl 19 (by decide) (hts _ kf_M_65) rfl d_M_giveUp_118 ?_
              refine lv_bipush (v := 8) hx hb d_M_giveUp_121 (by decide) ?_
              refine lv_iload_n hx hb d_M_giveUp_123 rfl (lv_at hl 0 rfl) ?_
              refine lv_imul hx hb d_M_giveUp_124 ?_
              refine lv_iload_n hx hb d_M_giveUp_125 rfl (lv_at hl 3 rfl) ?_
              refine lv_iadd hx hb d_M_giveUp_126 ?_
              refine wi hx hb hW (19) (by omega) mm_19 0 rfl (8 * 1 + o) (ni_add (ni_mul rfl rfl) rfl) (by omega) (by decide) d_M_giveUp_127 ?_
              refine lv_if_eq (tgt := 138) hx hb d_M_giveUp_128 (by decide) (fun c_128_1 => ?_) (fun c_128_1 => ?_)
              · refine lv_iinc (v := 0) (lv' := [(3, .int (0)), (0, .ref (am (0))), (1, .int (x)), (2, .int (nI (o)))]) hx hb d_M_giveUp_138 hl (k := 0) rfl (by decide) (by decide) rfl (fun ls hl => ?_)
                refine lv_goto (tgt := 113) hx hb d_M_giveUp_141 (by decide) ?_
                refine lv_iload_n hx hb d_M_giveUp_113 rfl (lv_at hl 0 rfl) ?_
                refine lv_if_lt (tgt := 144) hx hb d_M_giveUp_114 (by decide) (fun c_114 => absurd c_114 (by decide)) (fun c_114 => ?_)
                refine lv_aload_n hx hb d_M_giveUp_117 rfl (lv_at hl 1 rfl) ?_
                refine wg hx hb hts i_M hown hW (0) (by omega) mm_root rfl 19 (by decide) (hts _ kf_M_65) rfl d_M_giveUp_118 ?_
                refine lv_bipush (v := 8) hx hb d_M_giveUp_121 (by decide) ?_
                refine lv_iload_n hx hb d_M_giveUp_123 rfl (lv_at hl 0 rfl) ?_
                refine lv_imul hx hb d_M_giveUp_124 ?_
                refine lv_iload_n hx hb d_M_giveUp_125 rfl (lv_at hl 3 rfl) ?_
                refine lv_iadd hx hb d_M_giveUp_126 ?_
                refine wi hx hb hW (19) (by omega) mm_19 0 rfl (8 * 0 + o) (ni_add (ni_mul rfl rfl) rfl) (by omega) (by decide) d_M_giveUp_127 ?_
                refine lv_if_eq (tgt := 138) hx hb d_M_giveUp_128 (by decide) (fun c_128_2 => ?_) (fun c_128_2 => ?_)
                · refine lv_iinc (v := (-1)) (lv' := [(3, .int ((-1))), (0, .ref (am (0))), (1, .int (x)), (2, .int (nI (o)))]) hx hb d_M_giveUp_138 hl (k := 0) rfl (by decide) (by decide) rfl (fun ls hl => ?_)
                  refine lv_goto (tgt := 113) hx hb d_M_giveUp_141 (by decide) ?_
                  refine lv_iload_n hx hb d_M_giveUp_113 rfl (lv_at hl 0 rfl) ?_
                  refine lv_if_lt (tgt := 144) hx hb d_M_giveUp_114 (by decide) (fun c_114 => ?_) (fun c_114 => absurd (by decide) c_114)
                  refine lv_aload_n hx hb d_M_giveUp_144 rfl (lv_at hl 1 rfl) ?_
                  refine wg hx hb hts i_M hown hW (0) (by omega) mm_root rfl 21 (by decide) (hts _ kf_M_71) rfl d_M_giveUp_145 ?_
                  refine lv_iload_n hx hb d_M_giveUp_148 rfl (lv_at hl 3 rfl) ?_
                  refine wi hx hb hW (21) (by omega) mm_21 0 rfl (o) rfl (by omega) (by decide) d_M_giveUp_149 ?_
                  refine lv_iconst (v := 3) hx hb d_M_giveUp_150 (by decide) ?_
                  refine lv_icmp_ne (tgt := 164) hx hb d_M_giveUp_151 (by decide) (fun c_151 => ?_) (fun c_151 => ?_)
                  · have ho : mOldL r n 8 0 8 = o := by rw [← hT]; rfl
                    have hfin : mGiv r x n = mr3 := by
                      unfold mGiv; rw [ho]; subst ev3 ev2 ev1; simp only [mGivE, mLow, if_neg c_67, if_pos c_100, if_pos c_128, if_pos c_128_1, if_pos c_128_2, if_neg c_151]
                    exact hret () _ _ _ _ _ _ trivial (by show Wd D classes (tysA g) s A (wM g am (mGiv r x n)) _ _; rw [hfin]; exact hW) (by decide) (by decide) d_M_giveUp_164
                  · refine lv_aload_n hx hb d_M_giveUp_154 rfl (lv_at hl 1 rfl) ?_
                    refine lv_dup hx hb d_M_giveUp_155 rfl ?_
                    refine wg hx hb hts i_M hown hW (0) (by omega) mm_root rfl 24 (by decide) (hts _ kf_M_132) rfl d_M_giveUp_156 ?_
                    refine lv_iconst (v := 1) hx hb d_M_giveUp_159 (by decide) ?_
                    refine lv_iadd hx hb d_M_giveUp_160 ?_
                    refine wp hx hb hts i_M t_M t_M_ok n_M hown hW (0) (by omega) mm_root rfl 24 (by decide) (hts _ kf_M_132) rfl (by decide +kernel) (x := (mr3 0 24) + (1)) (Nat.le_of_ble_eq_true rfl) (mm_root.trans rfl) d_M_giveUp_161 (fun H locs hW => ?_)
                    obtain ⟨mr4, ev4⟩ : ∃ z : Vs, z = u2 mr3 (0) 24 ((mr3 0 24) + (1)) := ⟨_, rfl⟩
                    rw [← ev4] at hW
                    have hO4 : OkM mr4 := by rw [ev4]; exact hO3.fr (by omega)
                    have ho : mOldL r n 8 0 8 = o := by rw [← hT]; rfl
                    have hfin : mGiv r x n = mr4 := by
                      unfold mGiv; rw [ho]; subst ev4 ev3 ev2 ev1; simp only [mGivE, mLow, if_neg c_67, if_pos c_100, if_pos c_128, if_pos c_128_1, if_pos c_128_2, if_pos c_151]
                    exact hret () _ _ _ _ _ _ trivial (by show Wd D classes (tysA g) s A (wM g am (mGiv r x n)) _ _; rw [hfin]; exact hW) (by decide) (by decide) d_M_giveUp_164
                · refine lv_aload_n hx hb d_M_giveUp_131 rfl (lv_at hl 1 rfl) ?_
                  refine wg hx hb hts i_M hown hW (0) (by omega) mm_root rfl 21 (by decide) (hts _ kf_M_71) rfl d_M_giveUp_132 ?_
                  refine lv_iload_n hx hb d_M_giveUp_135 rfl (lv_at hl 3 rfl) ?_
                  refine lv_iload_n hx hb d_M_giveUp_136 rfl (lv_at hl 0 rfl) ?_
                  refine wis hx hb hW (21) (by omega) mm_21 0 rfl (o) rfl (by omega) (by decide) (x := 0) mm_21 d_M_giveUp_137 (fun H locs hW => ?_)
                  obtain ⟨mr5, ev5⟩ : ∃ z : Vs, z = u2 mr3 (21) (o) (0) := ⟨_, rfl⟩
                  rw [← ev5] at hW
                  have hO5 : OkM mr5 := by rw [ev5]; exact hO3.fr (by omega)
                  refine lv_iinc (v := (-1)) (lv' := [(3, .int ((-1))), (0, .ref (am (0))), (1, .int (x)), (2, .int (nI (o)))]) hx hb d_M_giveUp_138 hl (k := 0) rfl (by decide) (by decide) rfl (fun ls hl => ?_)
                  refine lv_goto (tgt := 113) hx hb d_M_giveUp_141 (by decide) ?_
                  refine lv_iload_n hx hb d_M_giveUp_113 rfl (lv_at hl 0 rfl) ?_
                  refine lv_if_lt (tgt := 144) hx hb d_M_giveUp_114 (by decide) (fun c_114 => ?_) (fun c_114 => absurd (by decide) c_114)
                  refine lv_aload_n hx hb d_M_giveUp_144 rfl (lv_at hl 1 rfl) ?_
                  refine wg hx hb hts i_M hown hW (0) (by omega) mm_root rfl 21 (by decide) (hts _ kf_M_71) rfl d_M_giveUp_145 ?_
                  refine lv_iload_n hx hb d_M_giveUp_148 rfl (lv_at hl 3 rfl) ?_
                  refine wi hx hb hW (21) (by omega) mm_21 0 rfl (o) rfl (by omega) (by decide) d_M_giveUp_149 ?_
                  refine lv_iconst (v := 3) hx hb d_M_giveUp_150 (by decide) ?_
                  refine lv_icmp_ne (tgt := 164) hx hb d_M_giveUp_151 (by decide) (fun c_151 => ?_) (fun c_151 => ?_)
                  · have ho : mOldL r n 8 0 8 = o := by rw [← hT]; rfl
                    have hfin : mGiv r x n = mr5 := by
                      unfold mGiv; rw [ho]; subst ev5 ev3 ev2 ev1; simp only [mGivE, mLow, if_neg c_67, if_pos c_100, if_pos c_128, if_pos c_128_1, if_neg c_128_2, if_neg c_151]
                    exact hret () _ _ _ _ _ _ trivial (by show Wd D classes (tysA g) s A (wM g am (mGiv r x n)) _ _; rw [hfin]; exact hW) (by decide) (by decide) d_M_giveUp_164
                  · refine lv_aload_n hx hb d_M_giveUp_154 rfl (lv_at hl 1 rfl) ?_
                    refine lv_dup hx hb d_M_giveUp_155 rfl ?_
                    refine wg hx hb hts i_M hown hW (0) (by omega) mm_root rfl 24 (by decide) (hts _ kf_M_132) rfl d_M_giveUp_156 ?_
                    refine lv_iconst (v := 1) hx hb d_M_giveUp_159 (by decide) ?_
                    refine lv_iadd hx hb d_M_giveUp_160 ?_
                    refine wp hx hb hts i_M t_M t_M_ok n_M hown hW (0) (by omega) mm_root rfl 24 (by decide) (hts _ kf_M_132) rfl (by decide +kernel) (x := (mr5 0 24) + (1)) (Nat.le_of_ble_eq_true rfl) (mm_root.trans rfl) d_M_giveUp_161 (fun H locs hW => ?_)
                    obtain ⟨mr6, ev6⟩ : ∃ z : Vs, z = u2 mr5 (0) 24 ((mr5 0 24) + (1)) := ⟨_, rfl⟩
                    rw [← ev6] at hW
                    have hO6 : OkM mr6 := by rw [ev6]; exact hO5.fr (by omega)
                    have ho : mOldL r n 8 0 8 = o := by rw [← hT]; rfl
                    have hfin : mGiv r x n = mr6 := by
                      unfold mGiv; rw [ho]; subst ev6 ev5 ev3 ev2 ev1; simp only [mGivE, mLow, if_neg c_67, if_pos c_100, if_pos c_128, if_pos c_128_1, if_neg c_128_2, if_pos c_151]
                    exact hret () _ _ _ _ _ _ trivial (by show Wd D classes (tysA g) s A (wM g am (mGiv r x n)) _ _; rw [hfin]; exact hW) (by decide) (by decide) d_M_giveUp_164
              · refine lv_aload_n hx hb d_M_giveUp_131 rfl (lv_at hl 1 rfl) ?_
                refine wg hx hb hts i_M hown hW (0) (by omega) mm_root rfl 21 (by decide) (hts _ kf_M_71) rfl d_M_giveUp_132 ?_
                refine lv_iload_n hx hb d_M_giveUp_135 rfl (lv_at hl 3 rfl) ?_
                refine lv_iload_n hx hb d_M_giveUp_136 rfl (lv_at hl 0 rfl) ?_
                refine wis hx hb hW (21) (by omega) mm_21 0 rfl (o) rfl (by omega) (by decide) (x := 1) mm_21 d_M_giveUp_137 (fun H locs hW => ?_)
                obtain ⟨mr7, ev7⟩ : ∃ z : Vs, z = u2 mr3 (21) (o) (1) := ⟨_, rfl⟩
                rw [← ev7] at hW
                have hO7 : OkM mr7 := by rw [ev7]; exact hO3.fr (by omega)
                refine lv_iinc (v := 0) (lv' := [(3, .int (0)), (0, .ref (am (0))), (1, .int (x)), (2, .int (nI (o)))]) hx hb d_M_giveUp_138 hl (k := 0) rfl (by decide) (by decide) rfl (fun ls hl => ?_)
                refine lv_goto (tgt := 113) hx hb d_M_giveUp_141 (by decide) ?_
                refine lv_iload_n hx hb d_M_giveUp_113 rfl (lv_at hl 0 rfl) ?_
                refine lv_if_lt (tgt := 144) hx hb d_M_giveUp_114 (by decide) (fun c_114 => absurd c_114 (by decide)) (fun c_114 => ?_)
                refine lv_aload_n hx hb d_M_giveUp_117 rfl (lv_at hl 1 rfl) ?_
                refine wg hx hb hts i_M hown hW (0) (by omega) mm_root rfl 19 (by decide) (hts _ kf_M_65) rfl d_M_giveUp_118 ?_
                refine lv_bipush (v := 8) hx hb d_M_giveUp_121 (by decide) ?_
                refine lv_iload_n hx hb d_M_giveUp_123 rfl (lv_at hl 0 rfl) ?_
                refine lv_imul hx hb d_M_giveUp_124 ?_
                refine lv_iload_n hx hb d_M_giveUp_125 rfl (lv_at hl 3 rfl) ?_
                refine lv_iadd hx hb d_M_giveUp_126 ?_
                refine wi hx hb hW (19) (by omega) mm_19 0 rfl (8 * 0 + o) (ni_add (ni_mul rfl rfl) rfl) (by omega) (by decide) d_M_giveUp_127 ?_
                refine lv_if_eq (tgt := 138) hx hb d_M_giveUp_128 (by decide) (fun c_128_2 => ?_) (fun c_128_2 => ?_)
                · refine lv_iinc (v := (-1)) (lv' := [(3, .int ((-1))), (0, .ref (am (0))), (1, .int (x)), (2, .int (nI (o)))]) hx hb d_M_giveUp_138 hl (k := 0) rfl (by decide) (by decide) rfl (fun ls hl => ?_)
                  refine lv_goto (tgt := 113) hx hb d_M_giveUp_141 (by decide) ?_
                  refine lv_iload_n hx hb d_M_giveUp_113 rfl (lv_at hl 0 rfl) ?_
                  refine lv_if_lt (tgt := 144) hx hb d_M_giveUp_114 (by decide) (fun c_114 => ?_) (fun c_114 => absurd (by decide) c_114)
                  refine lv_aload_n hx hb d_M_giveUp_144 rfl (lv_at hl 1 rfl) ?_
                  refine wg hx hb hts i_M hown hW (0) (by omega) mm_root rfl 21 (by decide) (hts _ kf_M_71) rfl d_M_giveUp_145 ?_
                  refine lv_iload_n hx hb d_M_giveUp_148 rfl (lv_at hl 3 rfl) ?_
                  refine wi hx hb hW (21) (by omega) mm_21 0 rfl (o) rfl (by omega) (by decide) d_M_giveUp_149 ?_
                  refine lv_iconst (v := 3) hx hb d_M_giveUp_150 (by decide) ?_
                  refine lv_icmp_ne (tgt := 164) hx hb d_M_giveUp_151 (by decide) (fun c_151 => ?_) (fun c_151 => ?_)
                  · have ho : mOldL r n 8 0 8 = o := by rw [← hT]; rfl
                    have hfin : mGiv r x n = mr7 := by
                      unfold mGiv; rw [ho]; subst ev7 ev3 ev2 ev1; simp only [mGivE, mLow, if_neg c_67, if_pos c_100, if_pos c_128, if_neg c_128_1, if_pos c_128_2, if_neg c_151]
                    exact hret () _ _ _ _ _ _ trivial (by show Wd D classes (tysA g) s A (wM g am (mGiv r x n)) _ _; rw [hfin]; exact hW) (by decide) (by decide) d_M_giveUp_164
                  · refine lv_aload_n hx hb d_M_giveUp_154 rfl (lv_at hl 1 rfl) ?_
                    refine lv_dup hx hb d_M_giveUp_155 rfl ?_
                    refine wg hx hb hts i_M hown hW (0) (by omega) mm_root rfl 24 (by decide) (hts _ kf_M_132) rfl d_M_giveUp_156 ?_
                    refine lv_iconst (v := 1) hx hb d_M_giveUp_159 (by decide) ?_
                    refine lv_iadd hx hb d_M_giveUp_160 ?_
                    refine wp hx hb hts i_M t_M t_M_ok n_M hown hW (0) (by omega) mm_root rfl 24 (by decide) (hts _ kf_M_132) rfl (by decide +kernel) (x := (mr7 0 24) + (1)) (Nat.le_of_ble_eq_true rfl) (mm_root.trans rfl) d_M_giveUp_161 (fun H locs hW => ?_)
                    obtain ⟨mr8, ev8⟩ : ∃ z : Vs, z = u2 mr7 (0) 24 ((mr7 0 24) + (1)) := ⟨_, rfl⟩
                    rw [← ev8] at hW
                    have hO8 : OkM mr8 := by rw [ev8]; exact hO7.fr (by omega)
                    have ho : mOldL r n 8 0 8 = o := by rw [← hT]; rfl
                    have hfin : mGiv r x n = mr8 := by
                      unfold mGiv; rw [ho]; subst ev8 ev7 ev3 ev2 ev1; simp only [mGivE, mLow, if_neg c_67, if_pos c_100, if_pos c_128, if_neg c_128_1, if_pos c_128_2, if_pos c_151]
                    exact hret () _ _ _ _ _ _ trivial (by show Wd D classes (tysA g) s A (wM g am (mGiv r x n)) _ _; rw [hfin]; exact hW) (by decide) (by decide) d_M_giveUp_164
                · refine lv_aload_n hx hb d_M_giveUp_131 rfl (lv_at hl 1 rfl) ?_
                  refine wg hx hb hts i_M hown hW (0) (by omega) mm_root rfl 21 (by decide) (hts _ kf_M_71) rfl d_M_giveUp_132 ?_
                  refine lv_iload_n hx hb d_M_giveUp_135 rfl (lv_at hl 3 rfl) ?_
                  refine lv_iload_n hx hb d_M_giveUp_136 rfl (lv_at hl 0 rfl) ?_
                  refine wis hx hb hW (21) (by omega) mm_21 0 rfl (o) rfl (by omega) (by decide) (x := 0) mm_21 d_M_giveUp_137 (fun H locs hW => ?_)
                  obtain ⟨mr9, ev9⟩ : ∃ z : Vs, z = u2 mr7 (21) (o) (0) := ⟨_, rfl⟩
                  rw [← ev9] at hW
                  have hO9 : OkM mr9 := by rw [ev9]; exact hO7.fr (by omega)
                  refine lv_iinc (v := (-1)) (lv' := [(3, .int ((-1))), (0, .ref (am (0))), (1, .int (x)), (2, .int (nI (o)))]) hx hb d_M_giveUp_138 hl (k := 0) rfl (by decide) (by decide) rfl (fun ls hl => ?_)
                  refine lv_goto (tgt := 113) hx hb d_M_giveUp_141 (by decide) ?_
                  refine lv_iload_n hx hb d_M_giveUp_113 rfl (lv_at hl 0 rfl) ?_
                  refine lv_if_lt (tgt := 144) hx hb d_M_giveUp_114 (by decide) (fun c_114 => ?_) (fun c_114 => absurd (by decide) c_114)
                  refine lv_aload_n hx hb d_M_giveUp_144 rfl (lv_at hl 1 rfl) ?_
                  refine wg hx hb hts i_M hown hW (0) (by omega) mm_root rfl 21 (by decide) (hts _ kf_M_71) rfl d_M_giveUp_145 ?_
                  refine lv_iload_n hx hb d_M_giveUp_148 rfl (lv_at hl 3 rfl) ?_
                  refine wi hx hb hW (21) (by omega) mm_21 0 rfl (o) rfl (by omega) (by decide) d_M_giveUp_149 ?_
                  refine lv_iconst (v := 3) hx hb d_M_giveUp_150 (by decide) ?_
                  refine lv_icmp_ne (tgt := 164) hx hb d_M_giveUp_151 (by decide) (fun c_151 => ?_) (fun c_151 => ?_)
                  · have ho : mOldL r n 8 0 8 = o := by rw [← hT]; rfl
                    have hfin : mGiv r x n = mr9 := by
                      unfold mGiv; rw [ho]; subst ev9 ev7 ev3 ev2 ev1; simp only [mGivE, mLow, if_neg c_67, if_pos c_100, if_pos c_128, if_neg c_128_1, if_neg c_128_2, if_neg c_151]
                    exact hret () _ _ _ _ _ _ trivial (by show Wd D classes (tysA g) s A (wM g am (mGiv r x n)) _ _; rw [hfin]; exact hW) (by decide) (by decide) d_M_giveUp_164
                  · refine lv_aload_n hx hb d_M_giveUp_154 rfl (lv_at hl 1 rfl) ?_
                    refine lv_dup hx hb d_M_giveUp_155 rfl ?_
                    refine wg hx hb hts i_M hown hW (0) (by omega) mm_root rfl 24 (by decide) (hts _ kf_M_132) rfl d_M_giveUp_156 ?_
                    refine lv_iconst (v := 1) hx hb d_M_giveUp_159 (by decide) ?_
                    refine lv_iadd hx hb d_M_giveUp_160 ?_
                    refine wp hx hb hts i_M t_M t_M_ok n_M hown hW (0) (by omega) mm_root rfl 24 (by decide) (hts _ kf_M_132) rfl (by decide +kernel) (x := (mr9 0 24) + (1)) (Nat.le_of_ble_eq_true rfl) (mm_root.trans rfl) d_M_giveUp_161 (fun H locs hW => ?_)
                    obtain ⟨mr10, ev10⟩ : ∃ z : Vs, z = u2 mr9 (0) 24 ((mr9 0 24) + (1)) := ⟨_, rfl⟩
                    rw [← ev10] at hW
                    have hO10 : OkM mr10 := by rw [ev10]; exact hO9.fr (by omega)
                    have ho : mOldL r n 8 0 8 = o := by rw [← hT]; rfl
                    have hfin : mGiv r x n = mr10 := by
                      unfold mGiv; rw [ho]; subst ev10 ev9 ev7 ev3 ev2 ev1; simp only [mGivE, mLow, if_neg c_67, if_pos c_100, if_pos c_128, if_neg c_128_1, if_neg c_128_2, if_pos c_151]
                    exact hret () _ _ _ _ _ _ trivial (by show Wd D classes (tysA g) s A (wM g am (mGiv r x n)) _ _; rw [hfin]; exact hW) (by decide) (by decide) d_M_giveUp_164
            · refine lv_aload_n hx hb d_M_giveUp_131 rfl (lv_at hl 1 rfl) ?_
              refine wg hx hb hts i_M hown hW (0) (by omega) mm_root rfl 21 (by decide) (hts _ kf_M_71) rfl d_M_giveUp_132 ?_
              refine lv_iload_n hx hb d_M_giveUp_135 rfl (lv_at hl 3 rfl) ?_
              refine lv_iload_n hx hb d_M_giveUp_136 rfl (lv_at hl 0 rfl) ?_
              refine wis hx hb hW (21) (by omega) mm_21 0 rfl (o) rfl (by omega) (by decide) (x := 2) mm_21 d_M_giveUp_137 (fun H locs hW => ?_)
              obtain ⟨mr11, ev11⟩ : ∃ z : Vs, z = u2 mr3 (21) (o) (2) := ⟨_, rfl⟩
              rw [← ev11] at hW
              have hO11 : OkM mr11 := by rw [ev11]; exact hO3.fr (by omega)
              refine lv_iinc (v := 1) (lv' := [(3, .int (1)), (0, .ref (am (0))), (1, .int (x)), (2, .int (nI (o)))]) hx hb d_M_giveUp_138 hl (k := 0) rfl (by decide) (by decide) rfl (fun ls hl => ?_)
              refine lv_goto (tgt := 113) hx hb d_M_giveUp_141 (by decide) ?_
              refine lv_iload_n hx hb d_M_giveUp_113 rfl (lv_at hl 0 rfl) ?_
              refine lv_if_lt (tgt := 144) hx hb d_M_giveUp_114 (by decide) (fun c_114 => absurd c_114 (by decide)) (fun c_114 => ?_)
              refine lv_aload_n hx hb d_M_giveUp_117 rfl (lv_at hl 1 rfl) ?_
              refine wg hx hb hts i_M hown hW (0) (by omega) mm_root rfl 19 (by decide) (hts _ kf_M_65) rfl d_M_giveUp_118 ?_
              refine lv_bipush (v := 8) hx hb d_M_giveUp_121 (by decide) ?_
              refine lv_iload_n hx hb d_M_giveUp_123 rfl (lv_at hl 0 rfl) ?_
              refine lv_imul hx hb d_M_giveUp_124 ?_
              refine lv_iload_n hx hb d_M_giveUp_125 rfl (lv_at hl 3 rfl) ?_
              refine lv_iadd hx hb d_M_giveUp_126 ?_
              refine wi hx hb hW (19) (by omega) mm_19 0 rfl (8 * 1 + o) (ni_add (ni_mul rfl rfl) rfl) (by omega) (by decide) d_M_giveUp_127 ?_
              refine lv_if_eq (tgt := 138) hx hb d_M_giveUp_128 (by decide) (fun c_128_1 => ?_) (fun c_128_1 => ?_)
              · refine lv_iinc (v := 0) (lv' := [(3, .int (0)), (0, .ref (am (0))), (1, .int (x)), (2, .int (nI (o)))]) hx hb d_M_giveUp_138 hl (k := 0) rfl (by decide) (by decide) rfl (fun ls hl => ?_)
                refine lv_goto (tgt := 113) hx hb d_M_giveUp_141 (by decide) ?_
                refine lv_iload_n hx hb d_M_giveUp_113 rfl (lv_at hl 0 rfl) ?_
                refine lv_if_lt (tgt := 144) hx hb d_M_giveUp_114 (by decide) (fun c_114 => absurd c_114 (by decide)) (fun c_114 => ?_)
                refine lv_aload_n hx hb d_M_giveUp_117 rfl (lv_at hl 1 rfl) ?_
                refine wg hx hb hts i_M hown hW (0) (by omega) mm_root rfl 19 (by decide) (hts _ kf_M_65) rfl d_M_giveUp_118 ?_
                refine lv_bipush (v := 8) hx hb d_M_giveUp_121 (by decide) ?_
                refine lv_iload_n hx hb d_M_giveUp_123 rfl (lv_at hl 0 rfl) ?_
                refine lv_imul hx hb d_M_giveUp_124 ?_
                refine lv_iload_n hx hb d_M_giveUp_125 rfl (lv_at hl 3 rfl) ?_
                refine lv_iadd hx hb d_M_giveUp_126 ?_
                refine wi hx hb hW (19) (by omega) mm_19 0 rfl (8 * 0 + o) (ni_add (ni_mul rfl rfl) rfl) (by omega) (by decide) d_M_giveUp_127 ?_
                refine lv_if_eq (tgt := 138) hx hb d_M_giveUp_128 (by decide) (fun c_128_2 => ?_) (fun c_128_2 => ?_)
                · refine lv_iinc (v := (-1)) (lv' := [(3, .int ((-1))), (0, .ref (am (0))), (1, .int (x)), (2, .int (nI (o)))]) hx hb d_M_giveUp_138 hl (k := 0) rfl (by decide) (by decide) rfl (fun ls hl => ?_)
                  refine lv_goto (tgt := 113) hx hb d_M_giveUp_141 (by decide) ?_
                  refine lv_iload_n hx hb d_M_giveUp_113 rfl (lv_at hl 0 rfl) ?_
                  refine lv_if_lt (tgt := 144) hx hb d_M_giveUp_114 (by decide) (fun c_114 => ?_) (fun c_114 => absurd (by decide) c_114)
                  refine lv_aload_n hx hb d_M_giveUp_144 rfl (lv_at hl 1 rfl) ?_
                  refine wg hx hb hts i_M hown hW (0) (by omega) mm_root rfl 21 (by decide) (hts _ kf_M_71) rfl d_M_giveUp_145 ?_
                  refine lv_iload_n hx hb d_M_giveUp_148 rfl (lv_at hl 3 rfl) ?_
                  refine wi hx hb hW (21) (by omega) mm_21 0 rfl (o) rfl (by omega) (by decide) d_M_giveUp_149 ?_
                  refine lv_iconst (v := 3) hx hb d_M_giveUp_150 (by decide) ?_
                  refine lv_icmp_ne (tgt := 164) hx hb d_M_giveUp_151 (by decide) (fun c_151 => ?_) (fun c_151 => ?_)
                  · have ho : mOldL r n 8 0 8 = o := by rw [← hT]; rfl
                    have hfin : mGiv r x n = mr11 := by
                      unfold mGiv; rw [ho]; subst ev11 ev3 ev2 ev1; simp only [mGivE, mLow, if_neg c_67, if_pos c_100, if_neg c_128, if_pos c_128_1, if_pos c_128_2, if_neg c_151]
                    exact hret () _ _ _ _ _ _ trivial (by show Wd D classes (tysA g) s A (wM g am (mGiv r x n)) _ _; rw [hfin]; exact hW) (by decide) (by decide) d_M_giveUp_164
                  · refine lv_aload_n hx hb d_M_giveUp_154 rfl (lv_at hl 1 rfl) ?_
                    refine lv_dup hx hb d_M_giveUp_155 rfl ?_
                    refine wg hx hb hts i_M hown hW (0) (by omega) mm_root rfl 24 (by decide) (hts _ kf_M_132) rfl d_M_giveUp_156 ?_
                    refine lv_iconst (v := 1) hx hb d_M_giveUp_159 (by decide) ?_
                    refine lv_iadd hx hb d_M_giveUp_160 ?_
                    refine wp hx hb hts i_M t_M t_M_ok n_M hown hW (0) (by omega) mm_root rfl 24 (by decide) (hts _ kf_M_132) rfl (by decide +kernel) (x := (mr11 0 24) + (1)) (Nat.le_of_ble_eq_true rfl) (mm_root.trans rfl) d_M_giveUp_161 (fun H locs hW => ?_)
                    obtain ⟨mr12, ev12⟩ : ∃ z : Vs, z = u2 mr11 (0) 24 ((mr11 0 24) + (1)) := ⟨_, rfl⟩
                    rw [← ev12] at hW
                    have hO12 : OkM mr12 := by rw [ev12]; exact hO11.fr (by omega)
                    have ho : mOldL r n 8 0 8 = o := by rw [← hT]; rfl
                    have hfin : mGiv r x n = mr12 := by
                      unfold mGiv; rw [ho]; subst ev12 ev11 ev3 ev2 ev1; simp only [mGivE, mLow, if_neg c_67, if_pos c_100, if_neg c_128, if_pos c_128_1, if_pos c_128_2, if_pos c_151]
                    exact hret () _ _ _ _ _ _ trivial (by show Wd D classes (tysA g) s A (wM g am (mGiv r x n)) _ _; rw [hfin]; exact hW) (by decide) (by decide) d_M_giveUp_164
                · refine lv_aload_n hx hb d_M_giveUp_131 rfl (lv_at hl 1 rfl) ?_
                  refine wg hx hb hts i_M hown hW (0) (by omega) mm_root rfl 21 (by decide) (hts _ kf_M_71) rfl d_M_giveUp_132 ?_
                  refine lv_iload_n hx hb d_M_giveUp_135 rfl (lv_at hl 3 rfl) ?_
                  refine lv_iload_n hx hb d_M_giveUp_136 rfl (lv_at hl 0 rfl) ?_
                  refine wis hx hb hW (21) (by omega) mm_21 0 rfl (o) rfl (by omega) (by decide) (x := 0) mm_21 d_M_giveUp_137 (fun H locs hW => ?_)
                  obtain ⟨mr13, ev13⟩ : ∃ z : Vs, z = u2 mr11 (21) (o) (0) := ⟨_, rfl⟩
                  rw [← ev13] at hW
                  have hO13 : OkM mr13 := by rw [ev13]; exact hO11.fr (by omega)
                  refine lv_iinc (v := (-1)) (lv' := [(3, .int ((-1))), (0, .ref (am (0))), (1, .int (x)), (2, .int (nI (o)))]) hx hb d_M_giveUp_138 hl (k := 0) rfl (by decide) (by decide) rfl (fun ls hl => ?_)
                  refine lv_goto (tgt := 113) hx hb d_M_giveUp_141 (by decide) ?_
                  refine lv_iload_n hx hb d_M_giveUp_113 rfl (lv_at hl 0 rfl) ?_
                  refine lv_if_lt (tgt := 144) hx hb d_M_giveUp_114 (by decide) (fun c_114 => ?_) (fun c_114 => absurd (by decide) c_114)
                  refine lv_aload_n hx hb d_M_giveUp_144 rfl (lv_at hl 1 rfl) ?_
                  refine wg hx hb hts i_M hown hW (0) (by omega) mm_root rfl 21 (by decide) (hts _ kf_M_71) rfl d_M_giveUp_145 ?_
                  refine lv_iload_n hx hb d_M_giveUp_148 rfl (lv_at hl 3 rfl) ?_
                  refine wi hx hb hW (21) (by omega) mm_21 0 rfl (o) rfl (by omega) (by decide) d_M_giveUp_149 ?_
                  refine lv_iconst (v := 3) hx hb d_M_giveUp_150 (by decide) ?_
                  refine lv_icmp_ne (tgt := 164) hx hb d_M_giveUp_151 (by decide) (fun c_151 => ?_) (fun c_151 => ?_)
                  · have ho : mOldL r n 8 0 8 = o := by rw [← hT]; rfl
                    have hfin : mGiv r x n = mr13 := by
                      unfold mGiv; rw [ho]; subst ev13 ev11 ev3 ev2 ev1; simp only [mGivE, mLow, if_neg c_67, if_pos c_100, if_neg c_128, if_pos c_128_1, if_neg c_128_2, if_neg c_151]
                    exact hret () _ _ _ _ _ _ trivial (by show Wd D classes (tysA g) s A (wM g am (mGiv r x n)) _ _; rw [hfin]; exact hW) (by decide) (by decide) d_M_giveUp_164
                  · refine lv_aload_n hx hb d_M_giveUp_154 rfl (lv_at hl 1 rfl) ?_
                    refine lv_dup hx hb d_M_giveUp_155 rfl ?_
                    refine wg hx hb hts i_M hown hW (0) (by omega) mm_root rfl 24 (by decide) (hts _ kf_M_132) rfl d_M_giveUp_156 ?_
                    refine lv_iconst (v := 1) hx hb d_M_giveUp_159 (by decide) ?_
                    refine lv_iadd hx hb d_M_giveUp_160 ?_
                    refine wp hx hb hts i_M t_M t_M_ok n_M hown hW (0) (by omega) mm_root rfl 24 (by decide) (hts _ kf_M_132) rfl (by decide +kernel) (x := (mr13 0 24) + (1)) (Nat.le_of_ble_eq_true rfl) (mm_root.trans rfl) d_M_giveUp_161 (fun H locs hW => ?_)
                    obtain ⟨mr14, ev14⟩ : ∃ z : Vs, z = u2 mr13 (0) 24 ((mr13 0 24) + (1)) := ⟨_, rfl⟩
                    rw [← ev14] at hW
                    have hO14 : OkM mr14 := by rw [ev14]; exact hO13.fr (by omega)
                    have ho : mOldL r n 8 0 8 = o := by rw [← hT]; rfl
                    have hfin : mGiv r x n = mr14 := by
                      unfold mGiv; rw [ho]; subst ev14 ev13 ev11 ev3 ev2 ev1; simp only [mGivE, mLow, if_neg c_67, if_pos c_100, if_neg c_128, if_pos c_128_1, if_neg c_128_2, if_pos c_151]
                    exact hret () _ _ _ _ _ _ trivial (by show Wd D classes (tysA g) s A (wM g am (mGiv r x n)) _ _; rw [hfin]; exact hW) (by decide) (by decide) d_M_giveUp_164
              · refine lv_aload_n hx hb d_M_giveUp_131 rfl (lv_at hl 1 rfl) ?_
                refine wg hx hb hts i_M hown hW (0) (by omega) mm_root rfl 21 (by decide) (hts _ kf_M_71) rfl d_M_giveUp_132 ?_
                refine lv_iload_n hx hb d_M_giveUp_135 rfl (lv_at hl 3 rfl) ?_
                refine lv_iload_n hx hb d_M_giveUp_136 rfl (lv_at hl 0 rfl) ?_
                refine wis hx hb hW (21) (by omega) mm_21 0 rfl (o) rfl (by omega) (by decide) (x := 1) mm_21 d_M_giveUp_137 (fun H locs hW => ?_)
                obtain ⟨mr15, ev15⟩ : ∃ z : Vs, z = u2 mr11 (21) (o) (1) := ⟨_, rfl⟩
                rw [← ev15] at hW
                have hO15 : OkM mr15 := by rw [ev15]; exact hO11.fr (by omega)
                refine lv_iinc (v := 0) (lv' := [(3, .int (0)), (0, .ref (am (0))), (1, .int (x)), (2, .int (nI (o)))]) hx hb d_M_giveUp_138 hl (k := 0) rfl (by decide) (by decide) rfl (fun ls hl => ?_)
                refine lv_goto (tgt := 113) hx hb d_M_giveUp_141 (by decide) ?_
                refine lv_iload_n hx hb d_M_giveUp_113 rfl (lv_at hl 0 rfl) ?_
                refine lv_if_lt (tgt := 144) hx hb d_M_giveUp_114 (by decide) (fun c_114 => absurd c_114 (by decide)) (fun c_114 => ?_)
                refine lv_aload_n hx hb d_M_giveUp_117 rfl (lv_at hl 1 rfl) ?_
                refine wg hx hb hts i_M hown hW (0) (by omega) mm_root rfl 19 (by decide) (hts _ kf_M_65) rfl d_M_giveUp_118 ?_
                refine lv_bipush (v := 8) hx hb d_M_giveUp_121 (by decide) ?_
                refine lv_iload_n hx hb d_M_giveUp_123 rfl (lv_at hl 0 rfl) ?_
                refine lv_imul hx hb d_M_giveUp_124 ?_
                refine lv_iload_n hx hb d_M_giveUp_125 rfl (lv_at hl 3 rfl) ?_
                refine lv_iadd hx hb d_M_giveUp_126 ?_
                refine wi hx hb hW (19) (by omega) mm_19 0 rfl (8 * 0 + o) (ni_add (ni_mul rfl rfl) rfl) (by omega) (by decide) d_M_giveUp_127 ?_
                refine lv_if_eq (tgt := 138) hx hb d_M_giveUp_128 (by decide) (fun c_128_2 => ?_) (fun c_128_2 => ?_)
                · refine lv_iinc (v := (-1)) (lv' := [(3, .int ((-1))), (0, .ref (am (0))), (1, .int (x)), (2, .int (nI (o)))]) hx hb d_M_giveUp_138 hl (k := 0) rfl (by decide) (by decide) rfl (fun ls hl => ?_)
                  refine lv_goto (tgt := 113) hx hb d_M_giveUp_141 (by decide) ?_
                  refine lv_iload_n hx hb d_M_giveUp_113 rfl (lv_at hl 0 rfl) ?_
                  refine lv_if_lt (tgt := 144) hx hb d_M_giveUp_114 (by decide) (fun c_114 => ?_) (fun c_114 => absurd (by decide) c_114)
                  refine lv_aload_n hx hb d_M_giveUp_144 rfl (lv_at hl 1 rfl) ?_
                  refine wg hx hb hts i_M hown hW (0) (by omega) mm_root rfl 21 (by decide) (hts _ kf_M_71) rfl d_M_giveUp_145 ?_
                  refine lv_iload_n hx hb d_M_giveUp_148 rfl (lv_at hl 3 rfl) ?_
                  refine wi hx hb hW (21) (by omega) mm_21 0 rfl (o) rfl (by omega) (by decide) d_M_giveUp_149 ?_
                  refine lv_iconst (v := 3) hx hb d_M_giveUp_150 (by decide) ?_
                  refine lv_icmp_ne (tgt := 164) hx hb d_M_giveUp_151 (by decide) (fun c_151 => ?_) (fun c_151 => ?_)
                  · have ho : mOldL r n 8 0 8 = o := by rw [← hT]; rfl
                    have hfin : mGiv r x n = mr15 := by
                      unfold mGiv; rw [ho]; subst ev15 ev11 ev3 ev2 ev1; simp only [mGivE, mLow, if_neg c_67, if_pos c_100, if_neg c_128, if_neg c_128_1, if_pos c_128_2, if_neg c_151]
                    exact hret () _ _ _ _ _ _ trivial (by show Wd D classes (tysA g) s A (wM g am (mGiv r x n)) _ _; rw [hfin]; exact hW) (by decide) (by decide) d_M_giveUp_164
                  · refine lv_aload_n hx hb d_M_giveUp_154 rfl (lv_at hl 1 rfl) ?_
                    refine lv_dup hx hb d_M_giveUp_155 rfl ?_
                    refine wg hx hb hts i_M hown hW (0) (by omega) mm_root rfl 24 (by decide) (hts _ kf_M_132) rfl d_M_giveUp_156 ?_
                    refine lv_iconst (v := 1) hx hb d_M_giveUp_159 (by decide) ?_
                    refine lv_iadd hx hb d_M_giveUp_160 ?_
                    refine wp hx hb hts i_M t_M t_M_ok n_M hown hW (0) (by omega) mm_root rfl 24 (by decide) (hts _ kf_M_132) rfl (by decide +kernel) (x := (mr15 0 24) + (1)) (Nat.le_of_ble_eq_true rfl) (mm_root.trans rfl) d_M_giveUp_161 (fun H locs hW => ?_)
                    obtain ⟨mr16, ev16⟩ : ∃ z : Vs, z = u2 mr15 (0) 24 ((mr15 0 24) + (1)) := ⟨_, rfl⟩
                    rw [← ev16] at hW
                    have hO16 : OkM mr16 := by rw [ev16]; exact hO15.fr (by omega)
                    have ho : mOldL r n 8 0 8 = o := by rw [← hT]; rfl
                    have hfin : mGiv r x n = mr16 := by
                      unfold mGiv; rw [ho]; subst ev16 ev15 ev11 ev3 ev2 ev1; simp only [mGivE, mLow, if_neg c_67, if_pos c_100, if_neg c_128, if_neg c_128_1, if_pos c_128_2, if_pos c_151]
                    exact hret () _ _ _ _ _ _ trivial (by show Wd D classes (tysA g) s A (wM g am (mGiv r x n)) _ _; rw [hfin]; exact hW) (by decide) (by decide) d_M_giveUp_164
                · refine lv_aload_n hx hb d_M_giveUp_131 rfl (lv_at hl 1 rfl) ?_
                  refine wg hx hb hts i_M hown hW (0) (by omega) mm_root rfl 21 (by decide) (hts _ kf_M_71) rfl d_M_giveUp_132 ?_
                  refine lv_iload_n hx hb d_M_giveUp_135 rfl (lv_at hl 3 rfl) ?_
                  refine lv_iload_n hx hb d_M_giveUp_136 rfl (lv_at hl 0 rfl) ?_
                  refine wis hx hb hW (21) (by omega) mm_21 0 rfl (o) rfl (by omega) (by decide) (x := 0) mm_21 d_M_giveUp_137 (fun H locs hW => ?_)
                  obtain ⟨mr17, ev17⟩ : ∃ z : Vs, z = u2 mr15 (21) (o) (0) := ⟨_, rfl⟩
                  rw [← ev17] at hW
                  have hO17 : OkM mr17 := by rw [ev17]; exact hO15.fr (by omega)
                  refine lv_iinc (v := (-1)) (lv' := [(3, .int ((-1))), (0, .ref (am (0))), (1, .int (x)), (2, .int (nI (o)))]) hx hb d_M_giveUp_138 hl (k := 0) rfl (by decide) (by decide) rfl (fun ls hl => ?_)
                  refine lv_goto (tgt := 113) hx hb d_M_giveUp_141 (by decide) ?_
                  refine lv_iload_n hx hb d_M_giveUp_113 rfl (lv_at hl 0 rfl) ?_
                  refine lv_if_lt (tgt := 144) hx hb d_M_giveUp_114 (by decide) (fun c_114 => ?_) (fun c_114 => absurd (by decide) c_114)
                  refine lv_aload_n hx hb d_M_giveUp_144 rfl (lv_at hl 1 rfl) ?_
                  refine wg hx hb hts i_M hown hW (0) (by omega) mm_root rfl 21 (by decide) (hts _ kf_M_71) rfl d_M_giveUp_145 ?_
                  refine lv_iload_n hx hb d_M_giveUp_148 rfl (lv_at hl 3 rfl) ?_
                  refine wi hx hb hW (21) (by omega) mm_21 0 rfl (o) rfl (by omega) (by decide) d_M_giveUp_149 ?_
                  refine lv_iconst (v := 3) hx hb d_M_giveUp_150 (by decide) ?_
                  refine lv_icmp_ne (tgt := 164) hx hb d_M_giveUp_151 (by decide) (fun c_151 => ?_) (fun c_151 => ?_)
                  · have ho : mOldL r n 8 0 8 = o := by rw [← hT]; rfl
                    have hfin : mGiv r x n = mr17 := by
                      unfold mGiv; rw [ho]; subst ev17 ev15 ev11 ev3 ev2 ev1; simp only [mGivE, mLow, if_neg c_67, if_pos c_100, if_neg c_128, if_neg c_128_1, if_neg c_128_2, if_neg c_151]
                    exact hret () _ _ _ _ _ _ trivial (by show Wd D classes (tysA g) s A (wM g am (mGiv r x n)) _ _; rw [hfin]; exact hW) (by decide) (by decide) d_M_giveUp_164
                  · refine lv_aload_n hx hb d_M_giveUp_154 rfl (lv_at hl 1 rfl) ?_
                    refine lv_dup hx hb d_M_giveUp_155 rfl ?_
                    refine wg hx hb hts i_M hown hW (0) (by omega) mm_root rfl 24 (by decide) (hts _ kf_M_132) rfl d_M_giveUp_156 ?_
                    refine lv_iconst (v := 1) hx hb d_M_giveUp_159 (by decide) ?_
                    refine lv_iadd hx hb d_M_giveUp_160 ?_
                    refine wp hx hb hts i_M t_M t_M_ok n_M hown hW (0) (by omega) mm_root rfl 24 (by decide) (hts _ kf_M_132) rfl (by decide +kernel) (x := (mr17 0 24) + (1)) (Nat.le_of_ble_eq_true rfl) (mm_root.trans rfl) d_M_giveUp_161 (fun H locs hW => ?_)
                    obtain ⟨mr18, ev18⟩ : ∃ z : Vs, z = u2 mr17 (0) 24 ((mr17 0 24) + (1)) := ⟨_, rfl⟩
                    rw [← ev18] at hW
                    have hO18 : OkM mr18 := by rw [ev18]; exact hO17.fr (by omega)
                    have ho : mOldL r n 8 0 8 = o := by rw [← hT]; rfl
                    have hfin : mGiv r x n = mr18 := by
                      unfold mGiv; rw [ho]; subst ev18 ev17 ev15 ev11 ev3 ev2 ev1; simp only [mGivE, mLow, if_neg c_67, if_pos c_100, if_neg c_128, if_neg c_128_1, if_neg c_128_2, if_pos c_151]
                    exact hret () _ _ _ _ _ _ trivial (by show Wd D classes (tysA g) s A (wM g am (mGiv r x n)) _ _; rw [hfin]; exact hW) (by decide) (by decide) d_M_giveUp_164
          · have ho : mOldL r n 8 0 8 = o := by rw [← hT]; rfl
            have hfin : mGiv r x n = mr2 := by
              unfold mGiv; rw [ho]; subst ev2 ev1; simp only [mGivE, mLow, if_neg c_67, if_neg c_100]
            exact hret () _ _ _ _ _ _ trivial (by show Wd D classes (tysA g) s A (wM g am (mGiv r x n)) _ _; rw [hfin]; exact hW) (by decide) (by decide) d_M_giveUp_103
        · have nc_67 : o = 8 := ni_eq rfl rfl (by omega) (by omega) c_67
          have ho : mOldL r n 8 0 8 = o := by rw [← hT]; rfl
          have hfin : mGiv r x n = r := by
            unfold mGiv; rw [ho]; skip; simp only [mGivE, mLow, if_pos c_67]
          exact hret () _ _ _ _ _ _ trivial (by show Wd D classes (tysA g) s A (wM g am (mGiv r x n)) _ _; rw [hfin]; exact hW) (by decide) (by decide) d_M_giveUp_70
      · have nc_8 : t < 8 := ni_nle rfl rfl (by omega) (by omega) c_8
        exfalso; omega
    | succ k ih =>
      intro t o H locs ls h8 ho8 hT hW hl
      refine lv_iload_n hx hb d_M_giveUp_5 rfl (lv_at hl 3 rfl) ?_
      refine lv_bipush (v := 8) hx hb d_M_giveUp_6 (by decide) ?_
      refine lv_icmp_ge (tgt := 64) hx hb d_M_giveUp_8 (by decide) (fun c_8 => ?_) (fun c_8 => ?_)
      · have nc_8 : 8 ≤ t := ni_le rfl rfl (by omega) (by omega) c_8
        exfalso; omega
      · have nc_8 : t < 8 := ni_nle rfl rfl (by omega) (by omega) c_8
        refine lv_aload_n hx hb d_M_giveUp_11 rfl (lv_at hl 0 rfl) ?_
        refine wg hx hb hts i_M hown hW (0) (by omega) mm_root rfl 19 (by decide) (hts _ kf_M_65) rfl d_M_giveUp_12 ?_
        refine lv_bipush (v := 8) hx hb d_M_giveUp_15 (by decide) ?_
        refine lv_iload_n hx hb d_M_giveUp_17 rfl (lv_at hl 1 rfl) ?_
        refine lv_imul hx hb d_M_giveUp_18 ?_
        refine lv_iload_n hx hb d_M_giveUp_19 rfl (lv_at hl 3 rfl) ?_
        refine lv_iadd hx hb d_M_giveUp_20 ?_
        refine wi hx hb hW (19) (by omega) mm_19 0 rfl (8 * n + t) (ni_add (ni_mul rfl zx) rfl) (by omega) (by decide) d_M_giveUp_21 ?_
        refine lv_if_eq (tgt := 58) hx hb d_M_giveUp_22 (by decide) (fun c_22 => ?_) (fun c_22 => ?_)
        · refine lv_iinc (v := nI (t + 1)) (lv' := [(3, .int (nI (t + 1))), (0, .ref (am (0))), (1, .int (x)), (2, .int (nI (o)))]) hx hb d_M_giveUp_58 hl (k := 3) rfl (nI_1 _) (by decide) rfl (fun ls hl => ?_)
          refine lv_goto (tgt := 5) hx hb d_M_giveUp_61 (by decide) ?_
          refine ih (t + 1) (o) _ _ _ (by omega) (by omega) ?_ hW (lv_sub hl [1, 2, 3, 0] rfl)
          rw [← hT, mOldL, if_pos c_22]
        · refine lv_iload_n hx hb d_M_giveUp_25 rfl (lv_at hl 2 rfl) ?_
          refine lv_bipush (v := 8) hx hb d_M_giveUp_26 (by decide) ?_
          refine lv_icmp_eq (tgt := 56) hx hb d_M_giveUp_28 (by decide) (fun c_28 => ?_) (fun c_28 => ?_)
          · have nc_28 : o = 8 := ni_eq rfl rfl (by omega) (by omega) c_28
            refine lv_iload_n hx hb d_M_giveUp_56 rfl (lv_at hl 3 rfl) ?_
            refine lv_istore_n (lv' := [(2, .int (nI (t))), (0, .ref (am (0))), (1, .int (x)), (3, .int (nI (t)))]) hx hb d_M_giveUp_57 rfl hl (by decide) rfl (fun ls hl => ?_)
            refine lv_iinc (v := nI (t + 1)) (lv' := [(3, .int (nI (t + 1))), (2, .int (nI (t))), (0, .ref (am (0))), (1, .int (x))]) hx hb d_M_giveUp_58 hl (k := 3) rfl (nI_1 _) (by decide) rfl (fun ls hl => ?_)
            refine lv_goto (tgt := 5) hx hb d_M_giveUp_61 (by decide) ?_
            refine ih (t + 1) (t) _ _ _ (by omega) (by omega) ?_ hW (lv_sub hl [2, 3, 1, 0] rfl)
            rw [← hT, mOldL, if_neg c_22, if_pos c_28]
          · have nc_28 : ¬ o = 8 := ni_ne rfl rfl (by omega) (by omega) c_28
            refine lv_aload_n hx hb d_M_giveUp_31 rfl (lv_at hl 0 rfl) ?_
            refine wg hx hb hts i_M hown hW (0) (by omega) mm_root rfl 20 (by decide) (hts _ kf_M_68) rfl d_M_giveUp_32 ?_
            refine lv_bipush (v := 8) hx hb d_M_giveUp_35 (by decide) ?_
            refine lv_iload_n hx hb d_M_giveUp_37 rfl (lv_at hl 1 rfl) ?_
            refine lv_imul hx hb d_M_giveUp_38 ?_
            refine lv_iload_n hx hb d_M_giveUp_39 rfl (lv_at hl 3 rfl) ?_
            refine lv_iadd hx hb d_M_giveUp_40 ?_
            refine wi hx hb hW (20) (by omega) mm_20 0 rfl (8 * n + t) (ni_add (ni_mul rfl zx) rfl) (by omega) (by decide) d_M_giveUp_41 ?_
            refine lv_aload_n hx hb d_M_giveUp_42 rfl (lv_at hl 0 rfl) ?_
            refine wg hx hb hts i_M hown hW (0) (by omega) mm_root rfl 20 (by decide) (hts _ kf_M_68) rfl d_M_giveUp_43 ?_
            refine lv_bipush (v := 8) hx hb d_M_giveUp_46 (by decide) ?_
            refine lv_iload_n hx hb d_M_giveUp_48 rfl (lv_at hl 1 rfl) ?_
            refine lv_imul hx hb d_M_giveUp_49 ?_
            refine lv_iload_n hx hb d_M_giveUp_50 rfl (lv_at hl 2 rfl) ?_
            refine lv_iadd hx hb d_M_giveUp_51 ?_
            refine wi hx hb hW (20) (by omega) mm_20 0 rfl (8 * n + o) (ni_add (ni_mul rfl zx) rfl) (by omega) (by decide) d_M_giveUp_52 ?_
            refine lv_icmp_ge (tgt := 58) hx hb d_M_giveUp_53 (by decide) (fun c_53 => ?_) (fun c_53 => ?_)
            · refine lv_iinc (v := nI (t + 1)) (lv' := [(3, .int (nI (t + 1))), (0, .ref (am (0))), (1, .int (x)), (2, .int (nI (o)))]) hx hb d_M_giveUp_58 hl (k := 3) rfl (nI_1 _) (by decide) rfl (fun ls hl => ?_)
              refine lv_goto (tgt := 5) hx hb d_M_giveUp_61 (by decide) ?_
              refine ih (t + 1) (o) _ _ _ (by omega) (by omega) ?_ hW (lv_sub hl [1, 2, 3, 0] rfl)
              rw [← hT, mOldL, if_neg c_22, if_neg c_28, if_pos c_53]
            · refine lv_iload_n hx hb d_M_giveUp_56 rfl (lv_at hl 3 rfl) ?_
              refine lv_istore_n (lv' := [(2, .int (nI (t))), (0, .ref (am (0))), (1, .int (x)), (3, .int (nI (t)))]) hx hb d_M_giveUp_57 rfl hl (by decide) rfl (fun ls hl => ?_)
              refine lv_iinc (v := nI (t + 1)) (lv' := [(3, .int (nI (t + 1))), (2, .int (nI (t))), (0, .ref (am (0))), (1, .int (x))]) hx hb d_M_giveUp_58 hl (k := 3) rfl (nI_1 _) (by decide) rfl (fun ls hl => ?_)
              refine lv_goto (tgt := 5) hx hb d_M_giveUp_61 (by decide) ?_
              refine ih (t + 1) (t) _ _ _ (by omega) (by omega) ?_ hW (lv_sub hl [2, 3, 1, 0] rfl)
              rw [← hT, mOldL, if_neg c_22, if_neg c_28, if_neg c_53]
  exact loop 8 0 8 _ _ _ rfl (Nat.le_refl _) rfl hW (lv_sub hl [2, 3, 1, 0] rfl)
abbrev rm_M_share : Room := { frames := 0, cells := 0, slots := 0, locals := 0 }
set_option maxHeartbeats 4000000 in
set_option maxRecDepth 100000 in
theorem c_M_share (l : Launch) {D : va_G} {g : Nat → ClassId} {am : Nat → Nat} {r : Vs} (x : Int32) (n : Nat) (zx : x = nI n) (ln : n < 3) (z : Int32) (gp : Nat) (zz : z = nI gp) (lgp : gp < 8) (y : Int32) (hO : OkM r) : MtV l y_M_share ws_M_share rm_M_share D classes (tysA g) [.ref (am (0)), .int (x), .int (z), .int (y)] (wM g am (r)) (fun _ : Unit => True) (fun _ => wM g am (mShare r x n gp y)) 0 0 := by
  refine mt_v (by decide +kernel) rfl (Nat.le_of_ble_eq_true rfl) (fun p e s m args below meth c Q A C hnm hA hW hret ls hl => ?_)
  obtain ⟨hx, hb, hr, hml, hown, hts0, hlocks⟩ := C
  have hts : ∀ w ∈ bigw, w.before args s = true := fun w h => hts0 w (List.mem_cons_of_mem _ h)
  have hown : s.vm.findClass R_M = some m.cls := hown
  have hnp := hO.le
  have hl : lv_has ls 6 [(0, .ref (am (0))), (1, .int (x)), (2, .int (z)), (3, .int (y))] := hl
  refine lv_iconst (v := 0) hx hb d_M_share_0 (by decide) ?_
  refine lv_istore (lv' := [(4, .int (0)), (0, .ref (am (0))), (1, .int (x)), (2, .int (z)), (3, .int (y))]) hx hb d_M_share_1 hl (by decide) rfl (fun ls hl => ?_)
  have loop : ∀ (k : Nat) (t : Nat) (rc : Vs) (H : Heap) (locs : List Loc) (ls : Array Slot), OkM rc → 3 = t + k → mShL x y gp k t rc = mShL x y gp 3 0 r → Wd D classes (tysA g) s A (wM g am (rc)) H locs → lv_has ls 6 [(0, .ref (am (0))), (1, .int (x)), (2, .int (z)), (3, .int (y)), (4, .int (nI (t)))] → W p l e rm_M_share s m args below meth c H locs 0 0 Q (F0 m 3 ls []) := by
    intro k
    induction k with
    | zero =>
      intro t rc H locs ls hOc h3 hT hW hl
      refine lv_iload hx hb d_M_share_3 (lv_at hl 4 rfl) ?_
      refine lv_iconst (v := 3) hx hb d_M_share_5 (by decide) ?_
      refine lv_icmp_ge (tgt := 73) hx hb d_M_share_6 (by decide) (fun c_6 => ?_) (fun c_6 => ?_)
      · have nc_6 : 3 ≤ t := ni_le rfl rfl (by omega) (by omega) c_6
        refine lv_iload_n hx hb d_M_share_73 rfl (lv_at hl 3 rfl) ?_
        refine lv_if_ne (tgt := 91) hx hb d_M_share_74 (by decide) (fun c_74 => ?_) (fun c_74 => ?_)
        · refine lv_aload_n hx hb d_M_share_91 rfl (lv_at hl 0 rfl) ?_
          refine wg hx hb hts i_M hown hW (0) (by omega) mm_root rfl 19 (by decide) (hts _ kf_M_65) rfl d_M_share_92 ?_
          refine lv_bipush (v := 8) hx hb d_M_share_95 (by decide) ?_
          refine lv_iload_n hx hb d_M_share_97 rfl (lv_at hl 1 rfl) ?_
          refine lv_imul hx hb d_M_share_98 ?_
          refine lv_iload_n hx hb d_M_share_99 rfl (lv_at hl 2 rfl) ?_
          refine lv_iadd hx hb d_M_share_100 ?_
          refine lv_iload_n hx hb d_M_share_101 rfl (lv_at hl 3 rfl) ?_
          refine lv_if_eq (tgt := 109) hx hb d_M_share_102 (by decide) (fun c_102 => absurd c_102 c_74) (fun c_102 => ?_)
          refine lv_iconst (v := 2) hx hb d_M_share_105 (by decide) ?_
          refine lv_goto (tgt := 110) hx hb d_M_share_106 (by decide) ?_
          refine wis hx hb hW (19) (by omega) mm_19 0 rfl (8 * n + gp) (ni_add (ni_mul rfl zx) zz) (by omega) (by decide) (x := 2) mm_19 d_M_share_110 (fun H locs hW => ?_)
          obtain ⟨mr1, ev1⟩ : ∃ z : Vs, z = u2 rc (19) (8 * n + gp) (2) := ⟨_, rfl⟩
          rw [← ev1] at hW
          have hO1 : OkM mr1 := by rw [ev1]; exact hOc.fr (by omega)
          refine lv_iload_n hx hb d_M_share_111 rfl (lv_at hl 3 rfl) ?_
          refine lv_if_ne (tgt := 125) hx hb d_M_share_112 (by decide) (fun c_112 => ?_) (fun c_112 => absurd c_112 c_74)
          refine lv_aload_n hx hb d_M_share_125 rfl (lv_at hl 0 rfl) ?_
          refine wg hx hb hts i_M hown hW (0) (by omega) mm_root rfl 21 (by decide) (hts _ kf_M_71) rfl d_M_share_126 ?_
          refine lv_iload_n hx hb d_M_share_129 rfl (lv_at hl 2 rfl) ?_
          refine lv_iload_n hx hb d_M_share_130 rfl (lv_at hl 1 rfl) ?_
          refine wis hx hb hW (21) (by omega) mm_21 0 rfl (gp) zz (by omega) (by decide) (x := x) mm_21 d_M_share_131 (fun H locs hW => ?_)
          obtain ⟨mr2, ev2⟩ : ∃ z : Vs, z = u2 mr1 (21) (gp) (x) := ⟨_, rfl⟩
          rw [← ev2] at hW
          have hO2 : OkM mr2 := by rw [ev2]; exact hO1.fr (by omega)
          have hs : mShL x y gp 3 0 r = rc := by rw [← hT]; rfl
          have hfin : mShare r x n gp y = mr2 := by
            unfold mShare; rw [hs]; subst ev2 ev1; simp only [mSh1, mSh2, if_neg c_74]
          exact hret () _ _ _ _ _ _ trivial (by show Wd D classes (tysA g) s A (wM g am (mShare r x n gp y)) _ _; rw [hfin]; exact hW) (by decide) (by decide) d_M_share_132
        · refine lv_aload_n hx hb d_M_share_77 rfl (lv_at hl 0 rfl) ?_
          refine wg hx hb hts i_M hown hW (0) (by omega) mm_root rfl 19 (by decide) (hts _ kf_M_65) rfl d_M_share_78 ?_
          refine lv_bipush (v := 8) hx hb d_M_share_81 (by decide) ?_
          refine lv_iload_n hx hb d_M_share_83 rfl (lv_at hl 1 rfl) ?_
          refine lv_imul hx hb d_M_share_84 ?_
          refine lv_iload_n hx hb d_M_share_85 rfl (lv_at hl 2 rfl) ?_
          refine lv_iadd hx hb d_M_share_86 ?_
          refine wi hx hb hW (19) (by omega) mm_19 0 rfl (8 * n + gp) (ni_add (ni_mul rfl zx) zz) (by omega) (by decide) d_M_share_87 ?_
          refine lv_if_ne (tgt := 111) hx hb d_M_share_88 (by decide) (fun c_88 => ?_) (fun c_88 => ?_)
          · refine lv_iload_n hx hb d_M_share_111 rfl (lv_at hl 3 rfl) ?_
            refine lv_if_ne (tgt := 125) hx hb d_M_share_112 (by decide) (fun c_112 => absurd c_74 c_112) (fun c_112 => ?_)
            refine lv_aload_n hx hb d_M_share_115 rfl (lv_at hl 0 rfl) ?_
            refine wg hx hb hts i_M hown hW (0) (by omega) mm_root rfl 21 (by decide) (hts _ kf_M_71) rfl d_M_share_116 ?_
            refine lv_iload_n hx hb d_M_share_119 rfl (lv_at hl 2 rfl) ?_
            refine wi hx hb hW (21) (by omega) mm_21 0 rfl (gp) zz (by omega) (by decide) d_M_share_120 ?_
            refine lv_iconst (v := 3) hx hb d_M_share_121 (by decide) ?_
            refine lv_icmp_ne (tgt := 132) hx hb d_M_share_122 (by decide) (fun c_122 => ?_) (fun c_122 => ?_)
            · have hs : mShL x y gp 3 0 r = rc := by rw [← hT]; rfl
              have hfin : mShare r x n gp y = rc := by
                unfold mShare; rw [hs]; skip; simp only [mSh1, mSh2, if_pos c_74, if_neg c_88, if_neg c_122]
              exact hret () _ _ _ _ _ _ trivial (by show Wd D classes (tysA g) s A (wM g am (mShare r x n gp y)) _ _; rw [hfin]; exact hW) (by decide) (by decide) d_M_share_132
            · refine lv_aload_n hx hb d_M_share_125 rfl (lv_at hl 0 rfl) ?_
              refine wg hx hb hts i_M hown hW (0) (by omega) mm_root rfl 21 (by decide) (hts _ kf_M_71) rfl d_M_share_126 ?_
              refine lv_iload_n hx hb d_M_share_129 rfl (lv_at hl 2 rfl) ?_
              refine lv_iload_n hx hb d_M_share_130 rfl (lv_at hl 1 rfl) ?_
              refine wis hx hb hW (21) (by omega) mm_21 0 rfl (gp) zz (by omega) (by decide) (x := x) mm_21 d_M_share_131 (fun H locs hW => ?_)
              obtain ⟨mr3, ev3⟩ : ∃ z : Vs, z = u2 rc (21) (gp) (x) := ⟨_, rfl⟩
              rw [← ev3] at hW
              have hO3 : OkM mr3 := by rw [ev3]; exact hOc.fr (by omega)
              have hs : mShL x y gp 3 0 r = rc := by rw [← hT]; rfl
              have hfin : mShare r x n gp y = mr3 := by
                unfold mShare; rw [hs]; subst ev3; simp only [mSh1, mSh2, if_pos c_74, if_neg c_88, if_pos c_122]
              exact hret () _ _ _ _ _ _ trivial (by show Wd D classes (tysA g) s A (wM g am (mShare r x n gp y)) _ _; rw [hfin]; exact hW) (by decide) (by decide) d_M_share_132
          · refine lv_aload_n hx hb d_M_share_91 rfl (lv_at hl 0 rfl) ?_
            refine wg hx hb hts i_M hown hW (0) (by omega) mm_root rfl 19 (by decide) (hts _ kf_M_65) rfl d_M_share_92 ?_
            refine lv_bipush (v := 8) hx hb d_M_share_95 (by decide) ?_
            refine lv_iload_n hx hb d_M_share_97 rfl (lv_at hl 1 rfl) ?_
            refine lv_imul hx hb d_M_share_98 ?_
            refine lv_iload_n hx hb d_M_share_99 rfl (lv_at hl 2 rfl) ?_
            refine lv_iadd hx hb d_M_share_100 ?_
            refine lv_iload_n hx hb d_M_share_101 rfl (lv_at hl 3 rfl) ?_
            refine lv_if_eq (tgt := 109) hx hb d_M_share_102 (by decide) (fun c_102 => ?_) (fun c_102 => absurd c_74 c_102)
            refine lv_iconst (v := 1) hx hb d_M_share_109 (by decide) ?_
            refine wis hx hb hW (19) (by omega) mm_19 0 rfl (8 * n + gp) (ni_add (ni_mul rfl zx) zz) (by omega) (by decide) (x := 1) mm_19 d_M_share_110 (fun H locs hW => ?_)
            obtain ⟨mr4, ev4⟩ : ∃ z : Vs, z = u2 rc (19) (8 * n + gp) (1) := ⟨_, rfl⟩
            rw [← ev4] at hW
            have hO4 : OkM mr4 := by rw [ev4]; exact hOc.fr (by omega)
            refine lv_iload_n hx hb d_M_share_111 rfl (lv_at hl 3 rfl) ?_
            refine lv_if_ne (tgt := 125) hx hb d_M_share_112 (by decide) (fun c_112 => absurd c_74 c_112) (fun c_112 => ?_)
            refine lv_aload_n hx hb d_M_share_115 rfl (lv_at hl 0 rfl) ?_
            refine wg hx hb hts i_M hown hW (0) (by omega) mm_root rfl 21 (by decide) (hts _ kf_M_71) rfl d_M_share_116 ?_
            refine lv_iload_n hx hb d_M_share_119 rfl (lv_at hl 2 rfl) ?_
            refine wi hx hb hW (21) (by omega) mm_21 0 rfl (gp) zz (by omega) (by decide) d_M_share_120 ?_
            refine lv_iconst (v := 3) hx hb d_M_share_121 (by decide) ?_
            refine lv_icmp_ne (tgt := 132) hx hb d_M_share_122 (by decide) (fun c_122 => ?_) (fun c_122 => ?_)
            · have hs : mShL x y gp 3 0 r = rc := by rw [← hT]; rfl
              have hfin : mShare r x n gp y = mr4 := by
                unfold mShare; rw [hs]; subst ev4; simp only [mSh1, mSh2, if_pos c_74, if_pos c_88, if_neg c_122]
              exact hret () _ _ _ _ _ _ trivial (by show Wd D classes (tysA g) s A (wM g am (mShare r x n gp y)) _ _; rw [hfin]; exact hW) (by decide) (by decide) d_M_share_132
            · refine lv_aload_n hx hb d_M_share_125 rfl (lv_at hl 0 rfl) ?_
              refine wg hx hb hts i_M hown hW (0) (by omega) mm_root rfl 21 (by decide) (hts _ kf_M_71) rfl d_M_share_126 ?_
              refine lv_iload_n hx hb d_M_share_129 rfl (lv_at hl 2 rfl) ?_
              refine lv_iload_n hx hb d_M_share_130 rfl (lv_at hl 1 rfl) ?_
              refine wis hx hb hW (21) (by omega) mm_21 0 rfl (gp) zz (by omega) (by decide) (x := x) mm_21 d_M_share_131 (fun H locs hW => ?_)
              obtain ⟨mr5, ev5⟩ : ∃ z : Vs, z = u2 mr4 (21) (gp) (x) := ⟨_, rfl⟩
              rw [← ev5] at hW
              have hO5 : OkM mr5 := by rw [ev5]; exact hO4.fr (by omega)
              have hs : mShL x y gp 3 0 r = rc := by rw [← hT]; rfl
              have hfin : mShare r x n gp y = mr5 := by
                unfold mShare; rw [hs]; subst ev5 ev4; simp only [mSh1, mSh2, if_pos c_74, if_pos c_88, if_pos c_122]
              exact hret () _ _ _ _ _ _ trivial (by show Wd D classes (tysA g) s A (wM g am (mShare r x n gp y)) _ _; rw [hfin]; exact hW) (by decide) (by decide) d_M_share_132
      · have nc_6 : t < 3 := ni_nle rfl rfl (by omega) (by omega) c_6
        exfalso; omega
    | succ k ih =>
      intro t rc H locs ls hOc h3 hT hW hl
      refine lv_iload hx hb d_M_share_3 (lv_at hl 4 rfl) ?_
      refine lv_iconst (v := 3) hx hb d_M_share_5 (by decide) ?_
      refine lv_icmp_ge (tgt := 73) hx hb d_M_share_6 (by decide) (fun c_6 => ?_) (fun c_6 => ?_)
      · have nc_6 : 3 ≤ t := ni_le rfl rfl (by omega) (by omega) c_6
        exfalso; omega
      · have nc_6 : t < 3 := ni_nle rfl rfl (by omega) (by omega) c_6
        refine lv_bipush (v := 8) hx hb d_M_share_9 (by decide) ?_
        refine lv_iload hx hb d_M_share_11 (lv_at hl 4 rfl) ?_
        refine lv_imul hx hb d_M_share_13 ?_
        refine lv_iload_n hx hb d_M_share_14 rfl (lv_at hl 2 rfl) ?_
        refine lv_iadd hx hb d_M_share_15 ?_
        refine lv_istore (lv' := [(5, .int (((8) * (nI (t))) + (z))), (0, .ref (am (0))), (1, .int (x)), (2, .int (z)), (3, .int (y)), (4, .int (nI (t)))]) hx hb d_M_share_16 hl (by decide) rfl (fun ls hl => ?_)
        refine lv_iload hx hb d_M_share_18 (lv_at hl 5 rfl) ?_
        refine lv_iload_n hx hb d_M_share_20 rfl (lv_at hl 2 rfl) ?_
        refine lv_icmp_eq (tgt := 67) hx hb d_M_share_21 (by decide) (fun c_21 => ?_) (fun c_21 => ?_)
        · have nc_21 : t = n := ni_eq rfl zx (by omega) (by omega) c_21
          refine lv_iinc (v := nI (t + 1)) (lv' := [(4, .int (nI (t + 1))), (5, .int (((8) * (nI (t))) + (z))), (0, .ref (am (0))), (1, .int (x)), (2, .int (z)), (3, .int (y))]) hx hb d_M_share_67 hl (k := 5) rfl (nI_1 _) (by decide) rfl (fun ls hl => ?_)
          refine lv_goto (tgt := 3) hx hb d_M_share_70 (by decide) ?_
          refine ih (t + 1) rc _ _ _ hOc (by omega) ?_ hW (lv_sub hl [2, 3, 4, 5, 0] rfl)
          rw [← hT, mShL]; skip; simp only [if_pos c_21]
        · have nc_21 : ¬ t = n := ni_ne rfl zx (by omega) (by omega) c_21
          refine lv_aload_n hx hb d_M_share_24 rfl (lv_at hl 1 rfl) ?_
          refine wg hx hb hts i_M hown hW (0) (by omega) mm_root rfl 19 (by decide) (hts _ kf_M_65) rfl d_M_share_25 ?_
          refine lv_iload hx hb d_M_share_28 (lv_at hl 0 rfl) ?_
          refine wi hx hb hW (19) (by omega) mm_19 0 rfl (8 * t + gp) (ni_add (ni_mul rfl rfl) zz) (by omega) (by decide) d_M_share_30 ?_
          refine lv_if_ne (tgt := 37) hx hb d_M_share_31 (by decide) (fun c_31 => ?_) (fun c_31 => ?_)
          · refine lv_iload_n hx hb d_M_share_37 rfl (lv_at hl 4 rfl) ?_
            refine lv_if_eq (tgt := 51) hx hb d_M_share_38 (by decide) (fun c_38 => ?_) (fun c_38 => ?_)
            · refine lv_aload_n hx hb d_M_share_51 rfl (lv_at hl 1 rfl) ?_
              refine wg hx hb hts i_M hown hW (0) (by omega) mm_root rfl 19 (by decide) (hts _ kf_M_65) rfl d_M_share_52 ?_
              refine lv_iload hx hb d_M_share_55 (lv_at hl 0 rfl) ?_
              refine lv_iload_n hx hb d_M_share_57 rfl (lv_at hl 4 rfl) ?_
              refine lv_if_eq (tgt := 65) hx hb d_M_share_58 (by decide) (fun c_58 => ?_) (fun c_58 => absurd c_38 c_58)
              refine lv_iconst (v := 1) hx hb d_M_share_65 (by decide) ?_
              refine wis hx hb hW (19) (by omega) mm_19 0 rfl (8 * t + gp) (ni_add (ni_mul rfl rfl) zz) (by omega) (by decide) (x := 1) mm_19 d_M_share_66 (fun H locs hW => ?_)
              obtain ⟨mr6, ev6⟩ : ∃ z : Vs, z = u2 rc (19) (8 * t + gp) (1) := ⟨_, rfl⟩
              rw [← ev6] at hW
              have hO6 : OkM mr6 := by rw [ev6]; exact hOc.fr (by omega)
              refine lv_iinc (v := nI (t + 1)) (lv' := [(4, .int (nI (t + 1))), (5, .int (((8) * (nI (t))) + (z))), (0, .ref (am (0))), (1, .int (x)), (2, .int (z)), (3, .int (y))]) hx hb d_M_share_67 hl (k := 5) rfl (nI_1 _) (by decide) rfl (fun ls hl => ?_)
              refine lv_goto (tgt := 3) hx hb d_M_share_70 (by decide) ?_
              refine ih (t + 1) mr6 _ _ _ hO6 (by omega) ?_ hW (lv_sub hl [2, 3, 4, 5, 0] rfl)
              rw [← hT, mShL]; subst ev6; simp only [if_neg c_21, if_neg c_31, if_pos c_38]
            · refine lv_aload_n hx hb d_M_share_41 rfl (lv_at hl 1 rfl) ?_
              refine lv_dup hx hb d_M_share_42 rfl ?_
              refine wg hx hb hts i_M hown hW (0) (by omega) mm_root rfl 24 (by decide) (hts _ kf_M_132) rfl d_M_share_43 ?_
              refine lv_iconst (v := 1) hx hb d_M_share_46 (by decide) ?_
              refine lv_iadd hx hb d_M_share_47 ?_
              refine wp hx hb hts i_M t_M t_M_ok n_M hown hW (0) (by omega) mm_root rfl 24 (by decide) (hts _ kf_M_132) rfl (by decide +kernel) (x := (rc 0 24) + (1)) (Nat.le_of_ble_eq_true rfl) (mm_root.trans rfl) d_M_share_48 (fun H locs hW => ?_)
              obtain ⟨mr7, ev7⟩ : ∃ z : Vs, z = u2 rc (0) 24 ((rc 0 24) + (1)) := ⟨_, rfl⟩
              rw [← ev7] at hW
              have hO7 : OkM mr7 := by rw [ev7]; exact hOc.fr (by omega)
              refine lv_aload_n hx hb d_M_share_51 rfl (lv_at hl 1 rfl) ?_
              refine wg hx hb hts i_M hown hW (0) (by omega) mm_root rfl 19 (by decide) (hts _ kf_M_65) rfl d_M_share_52 ?_
              refine lv_iload hx hb d_M_share_55 (lv_at hl 0 rfl) ?_
              refine lv_iload_n hx hb d_M_share_57 rfl (lv_at hl 4 rfl) ?_
              refine lv_if_eq (tgt := 65) hx hb d_M_share_58 (by decide) (fun c_58 => absurd c_58 c_38) (fun c_58 => ?_)
              refine lv_iconst (v := 0) hx hb d_M_share_61 (by decide) ?_
              refine lv_goto (tgt := 66) hx hb d_M_share_62 (by decide) ?_
              refine wis hx hb hW (19) (by omega) mm_19 0 rfl (8 * t + gp) (ni_add (ni_mul rfl rfl) zz) (by omega) (by decide) (x := 0) mm_19 d_M_share_66 (fun H locs hW => ?_)
              obtain ⟨mr8, ev8⟩ : ∃ z : Vs, z = u2 mr7 (19) (8 * t + gp) (0) := ⟨_, rfl⟩
              rw [← ev8] at hW
              have hO8 : OkM mr8 := by rw [ev8]; exact hO7.fr (by omega)
              refine lv_iinc (v := nI (t + 1)) (lv' := [(4, .int (nI (t + 1))), (5, .int (((8) * (nI (t))) + (z))), (0, .ref (am (0))), (1, .int (x)), (2, .int (z)), (3, .int (y))]) hx hb d_M_share_67 hl (k := 5) rfl (nI_1 _) (by decide) rfl (fun ls hl => ?_)
              refine lv_goto (tgt := 3) hx hb d_M_share_70 (by decide) ?_
              refine ih (t + 1) mr8 _ _ _ hO8 (by omega) ?_ hW (lv_sub hl [2, 3, 4, 5, 0] rfl)
              rw [← hT, mShL]; subst ev8 ev7; simp only [if_neg c_21, if_neg c_31, if_neg c_38]
          · refine lv_goto (tgt := 67) hx hb d_M_share_34 (by decide) ?_
            refine lv_iinc (v := nI (t + 1)) (lv' := [(4, .int (nI (t + 1))), (5, .int (((8) * (nI (t))) + (z))), (0, .ref (am (0))), (1, .int (x)), (2, .int (z)), (3, .int (y))]) hx hb d_M_share_67 hl (k := 5) rfl (nI_1 _) (by decide) rfl (fun ls hl => ?_)
            refine lv_goto (tgt := 3) hx hb d_M_share_70 (by decide) ?_
            refine ih (t + 1) rc _ _ _ hOc (by omega) ?_ hW (lv_sub hl [2, 3, 4, 5, 0] rfl)
            rw [← hT, mShL]; skip; simp only [if_neg c_21, if_pos c_31]
  exact loop 3 0 r _ _ _ hO rfl rfl hW (lv_sub hl [1, 2, 3, 4, 0] rfl)
