abbrev rm_M_serve : Room := { frames := 2, cells := 0, slots := 0, locals := 41 }
set_option maxHeartbeats 4000000 in
set_option maxRecDepth 100000 in
theorem c_M_serve (l : Launch) {D : va_G} {g : Nat → ClassId} {am : Nat → Nat} {r : Vs} (x : Int32) (hO : OkM r) : MtI l y_M_serve ws_M_serve rm_M_serve D classes (tysA g) [.ref (am (0)), .int (x)] (wM g am (r)) (fun (rr : Int32) (_ : Unit) => rr = (mSrv r x).1) (fun _ => wM g am ((mSrv r x).2)) 0 0 := by
  refine mt_i (ty := .int) (fun _ _ _ => rfl) (by decide +kernel) rfl (Nat.le_of_ble_eq_true rfl) (fun p e s m args below meth c Q A C hA hW hret ls hl => ?_)
  obtain ⟨hx, hb, hr, hml, hown, hts0, hlocks⟩ := C
  have hts : ∀ w ∈ bigw, w.before args s = true := fun w h => hts0 w (List.mem_cons_of_mem _ h)
  have hown : s.vm.findClass R_M = some m.cls := hown
  have hnp := hO.le
  have hl : lv_has ls 5 [(0, .ref (am (0))), (1, .int (x))] := hl
  refine lv_iload_n hx hb d_M_serve_0 rfl (lv_at hl 1 rfl) ?_
  refine lv_bipush (v := 7) hx hb d_M_serve_1 (by decide) ?_
  refine wci hW hA (va_runS (As := [.int (x), .int (7)]) (rest := []) ⟨hx, hb, hml, hown, hts⟩ (c_M_out l _ (x) (7) _) (cs 2 hts kc_M_out ks_M_out kn_M km_M_84 kh_M_out rfl rfl ⟨by decide, by decide⟩) (preWS hW) rfl rfl hl.1 rfl (lv_room (Nat.le_of_ble_eq_true rfl)) d_M_serve_3 ⟨by decide, by decide⟩) (fun rr1 uu1 H locs hp1 hW => ?_)
  have hW : Wd D classes (tysA g) s A (wM g am (r)) H locs := hW
  have hp1 : rr1 = if outP (x) (7) then 1 else 0 := hp1
  refine lv_if_eq (tgt := 11) hx hb d_M_serve_6 (by decide) (fun c_6 => ?_) (fun c_6 => ?_)
  · have c_6 : ¬ (outP (x) (7)) := bo_eq hp1 c_6
    obtain ⟨e2, b2⟩ := nout_nn (N := 7) rfl (by omega) c_6
    refine lv_aload_n hx hb d_M_serve_11 rfl (lv_at hl 0 rfl) ?_
    refine lv_iload_n hx hb d_M_serve_12 rfl (lv_at hl 1 rfl) ?_
    refine wci hW hA (va_runV (As := [.int (x)]) (rest := []) ⟨hx, hb, hml, hown, hts⟩ (c_M_firstAsking l (x) hO _) (cv 1 hts kc_M_firstAsking ki_M_firstAsking ke_M_firstAsking kn_M km_M_135 kh_M_firstAsking rfl rfl ⟨by decide, by decide⟩) (preW hW rfl rfl (mw_get (by omega) mm_root)) rfl rfl hl.1 rfl (lv_room (Nat.le_of_ble_eq_true rfl)) d_M_serve_13 ⟨by decide, by decide⟩) (fun rr3 uu3 H locs hp3 hW => ?_)
    have hW : Wd D classes (tysA g) s A (wM g am (r)) H locs := hW
    have hp3 : rr3 = nI (mAsk r (x)) := hp3
    subst hp3
    have hak4 := mAsk_ok hO (x)
    refine lv_istore_n (lv' := [(2, .int (nI (mAsk r (x)))), (0, .ref (am (0))), (1, .int (x))]) hx hb d_M_serve_16 rfl hl (by decide) rfl (fun ls hl => ?_)
    have hxn := e2
    have hx8 : nn x < 8 := by omega
    have hM : mSrv r x = mSrv1 (mDrop x (mRem r 8) r) x := by simp only [mSrv, if_neg c_6]
    have last : ∀ (rc : Vs) (H : Heap) (locs : List Loc) (ls : Array Slot), OkM rc → mSrv r x = mSrv1 rc x → Wd D classes (tysA g) s A (wM g am (rc)) H locs → lv_has ls 5 [(0, .ref (am (0))), (1, .int (x)), (2, .int (nI (mAsk rc x)))] → W p l e rm_M_serve s m args below meth c H locs 0 0 Q (F0 m 49 ls []) := by
      intro rc H locs ls hOc hT hW hl
      have hak := mAsk_ok hOc x
      have hnc := hOc.le
      refine lv_iload_n hx hb d_M_serve_49 rfl (lv_at hl 2 rfl) ?_
      refine lv_bipush (v := 8) hx hb d_M_serve_50 (by decide) ?_
      refine lv_icmp_ne (tgt := 58) hx hb d_M_serve_52 (by decide) (fun c_52 => ?_) (fun c_52 => ?_)
      · have nc_52 : ¬ mAsk rc x = 8 := ni_ne rfl rfl (by omega) (by omega) c_52
        refine lv_aload_n hx hb d_M_serve_58 rfl (lv_at hl 0 rfl) ?_
        refine wg hx hb hts i_M hown hW (0) (by omega) mm_root rfl 15 (by decide) (hts _ kf_M_52) rfl d_M_serve_59 ?_
        refine lv_iload_n hx hb d_M_serve_62 rfl (lv_at hl 2 rfl) ?_
        refine lv_iconst (v := 0) hx hb d_M_serve_63 (by decide) ?_
        refine wis hx hb hW (15) (by omega) mm_15 0 rfl (mAsk rc x) rfl (by omega) (by decide) (x := 0) mm_15 d_M_serve_64 (fun H locs hW => ?_)
        obtain ⟨mr5, ev5⟩ : ∃ zz : Vs, zz = u2 rc (15) (mAsk rc x) (0) := ⟨_, rfl⟩
        rw [← ev5] at hW
        have hO5 : OkM mr5 := by rw [ev5]; exact hOc.fr (by omega)
        refine lv_aload_n hx hb d_M_serve_65 rfl (lv_at hl 0 rfl) ?_
        refine wg hx hb hts i_M hown hW (0) (by omega) mm_root rfl 7 (by decide) (hts _ kf_M_31) rfl d_M_serve_66 ?_
        refine lv_iload_n hx hb d_M_serve_69 rfl (lv_at hl 2 rfl) ?_
        refine wi hx hb hW (8) (by omega) mm_8 0 rfl (mAsk rc x) rfl (by omega) (by decide) d_M_serve_70 ?_
        obtain ⟨e6, b6⟩ := hO5.c8 (mAsk rc x)
        refine lv_istore_n (lv' := [(3, .int (mr5 (8) (mAsk rc x))), (0, .ref (am (0))), (1, .int (x)), (2, .int (nI (mAsk rc x)))]) hx hb d_M_serve_71 rfl hl (by decide) rfl (fun ls hl => ?_)
        refine lv_aload_n hx hb d_M_serve_72 rfl (lv_at hl 1 rfl) ?_
        refine wg hx hb hts i_M hown hW (0) (by omega) mm_root rfl 19 (by decide) (hts _ kf_M_65) rfl d_M_serve_73 ?_
        refine lv_bipush (v := 8) hx hb d_M_serve_76 (by decide) ?_
        refine lv_iload_n hx hb d_M_serve_78 rfl (lv_at hl 0 rfl) ?_
        refine lv_imul hx hb d_M_serve_79 ?_
        refine lv_iload_n hx hb d_M_serve_80 rfl (lv_at hl 2 rfl) ?_
        refine lv_iadd hx hb d_M_serve_81 ?_
        refine wi hx hb hW (19) (by omega) mm_19 0 rfl (8 * (nv mr5 (8) (mAsk rc x)) + nn x) (ni_add (ni_mul rfl e6) hxn) (by omega) (by decide) d_M_serve_82 ?_
        refine lv_if_ne (tgt := 90) hx hb d_M_serve_83 (by decide) (fun c_83 => ?_) (fun c_83 => ?_)
        · refine lv_iconst (v := 0) hx hb d_M_serve_90 (by decide) ?_
          refine lv_istore (lv' := [(4, .int (0)), (3, .int (mr5 (8) (mAsk rc x))), (0, .ref (am (0))), (1, .int (x)), (2, .int (nI (mAsk rc x)))]) hx hb d_M_serve_91 hl (by decide) rfl (fun ls hl => ?_)
          refine lv_aload_n hx hb d_M_serve_93 rfl (lv_at hl 2 rfl) ?_
          refine lv_dup hx hb d_M_serve_94 rfl ?_
          refine wg hx hb hts i_M hown hW (0) (by omega) mm_root rfl 24 (by decide) (hts _ kf_M_132) rfl d_M_serve_95 ?_
          refine lv_iload hx hb d_M_serve_98 (lv_at hl 0 rfl) ?_
          refine lv_if_eq (tgt := 107) hx hb d_M_serve_100 (by decide) (fun c_100 => ?_) (fun c_100 => absurd (by decide) c_100)
          refine lv_iconst (v := 1) hx hb d_M_serve_107 (by decide) ?_
          refine lv_iadd hx hb d_M_serve_108 ?_
          refine wp hx hb hts i_M t_M t_M_ok n_M hown hW (0) (by omega) mm_root rfl 24 (by decide) (hts _ kf_M_132) rfl (by decide +kernel) (x := (mr5 0 24) + (1)) (Nat.le_of_ble_eq_true rfl) (mm_root.trans rfl) d_M_serve_109 (fun H locs hW => ?_)
          obtain ⟨mr7, ev7⟩ : ∃ zz : Vs, zz = u2 mr5 (0) 24 ((mr5 0 24) + (1)) := ⟨_, rfl⟩
          rw [← ev7] at hW
          have hO7 : OkM mr7 := by rw [ev7]; exact hO5.fr (by omega)
          refine lv_iload hx hb d_M_serve_112 (lv_at hl 0 rfl) ?_
          refine lv_if_eq (tgt := 131) hx hb d_M_serve_114 (by decide) (fun c_114 => ?_) (fun c_114 => absurd (by decide) c_114)
          refine lv_aload_n hx hb d_M_serve_131 rfl (lv_at hl 2 rfl) ?_
          refine lv_iload_n hx hb d_M_serve_132 rfl (lv_at hl 1 rfl) ?_
          refine lv_iload_n hx hb d_M_serve_133 rfl (lv_at hl 3 rfl) ?_
          refine lv_aload_n hx hb d_M_serve_134 rfl (lv_at hl 2 rfl) ?_
          refine wg hx hb hts i_M hown hW (0) (by omega) mm_root rfl 17 (by decide) (hts _ kf_M_58) rfl d_M_serve_135 ?_
          refine lv_iload_n hx hb d_M_serve_138 rfl (lv_at hl 4 rfl) ?_
          refine wz hx hb hW (17) (by omega) mm_17 5 rfl (mAsk rc x) rfl (by omega) (by decide) d_M_serve_139 ?_
          refine wcv hW hA (va_runV (As := [.int (mr5 (8) (mAsk rc x)), .int (x), .int (mr7 (17) (mAsk rc x))]) (rest := []) ⟨hx, hb, hml, hown, hts⟩ (c_M_share l (mr5 (8) (mAsk rc x)) (nv mr5 (8) (mAsk rc x)) e6 (by omega) (x) (nn x) hxn (by omega) (mr7 (17) (mAsk rc x)) hO7 _) (cv 3 hts kc_M_share ki_M_share ke_M_share kn_M km_M_145 kh_M_share rfl rfl ⟨by decide, by decide⟩) (preW hW rfl rfl (mw_get (by omega) mm_root)) rfl rfl hl.1 rfl (lv_room (Nat.le_of_ble_eq_true rfl)) d_M_serve_140 ⟨by decide, by decide⟩) (fun uu8 H locs hp8 hW => ?_)
          have hW : Wd D classes (tysA g) s A (wM g am (mShare mr7 (mr5 (8) (mAsk rc x)) (nv mr5 (8) (mAsk rc x)) (nn x) (mr7 (17) (mAsk rc x)))) H locs := hW
          obtain ⟨mr9, ev9⟩ : ∃ zz : Vs, zz = mShare mr7 (mr5 (8) (mAsk rc x)) (nv mr5 (8) (mAsk rc x)) (nn x) (mr7 (17) (mAsk rc x)) := ⟨_, rfl⟩
          rw [← ev9] at hW
          have hO9 : OkM mr9 := by rw [ev9]; exact hO7.share
          refine lv_aload_n hx hb d_M_serve_143 rfl (lv_at hl 2 rfl) ?_
          refine wg hx hb hts i_M hown hW (0) (by omega) mm_root rfl 20 (by decide) (hts _ kf_M_68) rfl d_M_serve_144 ?_
          refine lv_bipush (v := 8) hx hb d_M_serve_147 (by decide) ?_
          refine lv_iload_n hx hb d_M_serve_149 rfl (lv_at hl 1 rfl) ?_
          refine lv_imul hx hb d_M_serve_150 ?_
          refine lv_iload_n hx hb d_M_serve_151 rfl (lv_at hl 3 rfl) ?_
          refine lv_iadd hx hb d_M_serve_152 ?_
          refine lv_aload_n hx hb d_M_serve_153 rfl (lv_at hl 2 rfl) ?_
          refine wci hW hA (va_runV (As := []) (rest := [.int (((8) * (mr5 (8) (mAsk rc x))) + (x)), .ref (am (20))]) ⟨hx, hb, hml, hown, hts⟩ (c_M_tick l hO9 _) (cv 0 hts kc_M_tick ki_M_tick ke_M_tick kn_M km_M_88 kh_M_tick rfl rfl ⟨by decide, by decide⟩) (preW hW rfl rfl (mw_get (by omega) mm_root)) rfl rfl hl.1 rfl (lv_room (Nat.le_of_ble_eq_true rfl)) d_M_serve_154 ⟨by decide, by decide⟩) (fun rr10 uu10 H locs hp10 hW => ?_)
          have hW : Wd D classes (tysA g) s A (wM g am (mTick mr9)) H locs := hW
          obtain ⟨mr11, ev11⟩ : ∃ zz : Vs, zz = mTick mr9 := ⟨_, rfl⟩
          rw [← ev11] at hW
          have hO11 : OkM mr11 := by rw [ev11]; exact hO9.tick
          have hp10 : rr10 = mTick mr9 0 23 := hp10
          subst hp10
          refine wis hx hb hW (20) (by omega) mm_20 0 rfl (8 * (nv mr5 (8) (mAsk rc x)) + nn x) (ni_add (ni_mul rfl e6) hxn) (by omega) (by decide) (x := mTick mr9 0 23) mm_20 d_M_serve_157 (fun H locs hW => ?_)
          obtain ⟨mr12, ev12⟩ : ∃ zz : Vs, zz = u2 mr11 (20) (8 * (nv mr5 (8) (mAsk rc x)) + nn x) (mTick mr9 0 23) := ⟨_, rfl⟩
          rw [← ev12] at hW
          have hO12 : OkM mr12 := by rw [ev12]; exact hO11.fr (by omega)
          refine lv_aload_n hx hb d_M_serve_158 rfl (lv_at hl 2 rfl) ?_
          refine lv_dup hx hb d_M_serve_159 rfl ?_
          refine wg hx hb hts i_M hown hW (0) (by omega) mm_root rfl 27 (by decide) (hts _ kf_M_149) rfl d_M_serve_160 ?_
          refine lv_iconst (v := 1) hx hb d_M_serve_163 (by decide) ?_
          refine lv_iadd hx hb d_M_serve_164 ?_
          refine wp hx hb hts i_M t_M t_M_ok n_M hown hW (0) (by omega) mm_root rfl 27 (by decide) (hts _ kf_M_149) rfl (by decide +kernel) (x := (mr12 0 27) + (1)) (Nat.le_of_ble_eq_true rfl) (mm_root.trans rfl) d_M_serve_165 (fun H locs hW => ?_)
          obtain ⟨mr13, ev13⟩ : ∃ zz : Vs, zz = u2 mr12 (0) 27 ((mr12 0 27) + (1)) := ⟨_, rfl⟩
          rw [← ev13] at hW
          have hO13 : OkM mr13 := by rw [ev13]; exact hO12.fr (by omega)
          refine lv_aload_n hx hb d_M_serve_168 rfl (lv_at hl 2 rfl) ?_
          refine lv_iload_n hx hb d_M_serve_169 rfl (lv_at hl 4 rfl) ?_
          refine wcv hW hA (va_runV (As := [.int (nI (mAsk rc x))]) (rest := []) ⟨hx, hb, hml, hown, hts⟩ (c_M_ready l (nI (mAsk rc x)) (mAsk rc x) rfl (by omega) hO13 _) (cv 1 hts kc_M_ready ki_M_ready ke_M_ready kn_M km_M_92 kh_M_ready rfl rfl ⟨by decide, by decide⟩) (preW hW rfl rfl (mw_get (by omega) mm_root)) rfl rfl hl.1 rfl (lv_room (Nat.le_of_ble_eq_true rfl)) d_M_serve_170 ⟨by decide, by decide⟩) (fun uu14 H locs hp14 hW => ?_)
          have hW : Wd D classes (tysA g) s A (wM g am (mRdy mr13 (mAsk rc x))) H locs := hW
          obtain ⟨mr15, ev15⟩ : ∃ zz : Vs, zz = mRdy mr13 (mAsk rc x) := ⟨_, rfl⟩
          rw [← ev15] at hW
          have hO15 : OkM mr15 := by rw [ev15]; exact hO13.rdy
          refine lv_iload_n hx hb d_M_serve_173 rfl (lv_at hl 4 rfl) ?_
          have hfin : mSrv r x = (nI (mAsk rc x), mr15) := by
            rw [hT]; subst ev15 ev13 ev12 ev11 ev9 ev7 ev5; simp only [mSrv1, mSrv2, if_neg c_52, if_neg c_83]
          exact hret _ () _ _ _ _ _ _ (show nI (mAsk rc x) = (mSrv r x).1 by rw [hfin]) (by show Wd D classes (tysA g) s A (wM g am ((mSrv r x).2)) _ _; rw [hfin]; exact hW) (by decide) (by decide) d_M_serve_174
        · refine lv_iconst (v := 1) hx hb d_M_serve_86 (by decide) ?_
          refine lv_goto (tgt := 91) hx hb d_M_serve_87 (by decide) ?_
          refine lv_istore (lv' := [(4, .int (1)), (3, .int (mr5 (8) (mAsk rc x))), (0, .ref (am (0))), (1, .int (x)), (2, .int (nI (mAsk rc x)))]) hx hb d_M_serve_91 hl (by decide) rfl (fun ls hl => ?_)
          refine lv_aload_n hx hb d_M_serve_93 rfl (lv_at hl 2 rfl) ?_
          refine lv_dup hx hb d_M_serve_94 rfl ?_
          refine wg hx hb hts i_M hown hW (0) (by omega) mm_root rfl 24 (by decide) (hts _ kf_M_132) rfl d_M_serve_95 ?_
          refine lv_iload hx hb d_M_serve_98 (lv_at hl 0 rfl) ?_
          refine lv_if_eq (tgt := 107) hx hb d_M_serve_100 (by decide) (fun c_100 => absurd c_100 (by decide)) (fun c_100 => ?_)
          refine lv_iconst (v := 2) hx hb d_M_serve_103 (by decide) ?_
          refine lv_goto (tgt := 108) hx hb d_M_serve_104 (by decide) ?_
          refine lv_iadd hx hb d_M_serve_108 ?_
          refine wp hx hb hts i_M t_M t_M_ok n_M hown hW (0) (by omega) mm_root rfl 24 (by decide) (hts _ kf_M_132) rfl (by decide +kernel) (x := (mr5 0 24) + (2)) (Nat.le_of_ble_eq_true rfl) (mm_root.trans rfl) d_M_serve_109 (fun H locs hW => ?_)
          obtain ⟨mr16, ev16⟩ : ∃ zz : Vs, zz = u2 mr5 (0) 24 ((mr5 0 24) + (2)) := ⟨_, rfl⟩
          rw [← ev16] at hW
          have hO16 : OkM mr16 := by rw [ev16]; exact hO5.fr (by omega)
          refine lv_iload hx hb d_M_serve_112 (lv_at hl 0 rfl) ?_
          refine lv_if_eq (tgt := 131) hx hb d_M_serve_114 (by decide) (fun c_114 => absurd c_114 (by decide)) (fun c_114 => ?_)
          refine lv_aload_n hx hb d_M_serve_117 rfl (lv_at hl 2 rfl) ?_
          refine lv_iload_n hx hb d_M_serve_118 rfl (lv_at hl 1 rfl) ?_
          refine wci hW hA (va_runV (As := [.int (mr5 (8) (mAsk rc x))]) (rest := []) ⟨hx, hb, hml, hown, hts⟩ (c_M_held l (mr5 (8) (mAsk rc x)) (nv mr5 (8) (mAsk rc x)) e6 (by omega) hO16 _) (cv 1 hts kc_M_held ki_M_held ke_M_held kn_M km_M_139 kh_M_held rfl rfl ⟨by decide, by decide⟩) (preW hW rfl rfl (mw_get (by omega) mm_root)) rfl rfl hl.1 rfl (lv_room (Nat.le_of_ble_eq_true rfl)) d_M_serve_119 ⟨by decide, by decide⟩) (fun rr17 uu17 H locs hp17 hW => ?_)
          have hW : Wd D classes (tysA g) s A (wM g am (mr16)) H locs := hW
          have hp17 : rr17 = nI (mHeld mr16 (nv mr5 (8) (mAsk rc x))) := hp17
          subst hp17
          refine lv_iconst (v := 3) hx hb d_M_serve_122 (by decide) ?_
          refine lv_icmp_ne (tgt := 131) hx hb d_M_serve_123 (by decide) (fun c_123 => ?_) (fun c_123 => ?_)
          · refine lv_aload_n hx hb d_M_serve_131 rfl (lv_at hl 2 rfl) ?_
            refine lv_iload_n hx hb d_M_serve_132 rfl (lv_at hl 1 rfl) ?_
            refine lv_iload_n hx hb d_M_serve_133 rfl (lv_at hl 3 rfl) ?_
            refine lv_aload_n hx hb d_M_serve_134 rfl (lv_at hl 2 rfl) ?_
            refine wg hx hb hts i_M hown hW (0) (by omega) mm_root rfl 17 (by decide) (hts _ kf_M_58) rfl d_M_serve_135 ?_
            refine lv_iload_n hx hb d_M_serve_138 rfl (lv_at hl 4 rfl) ?_
            refine wz hx hb hW (17) (by omega) mm_17 5 rfl (mAsk rc x) rfl (by omega) (by decide) d_M_serve_139 ?_
            refine wcv hW hA (va_runV (As := [.int (mr5 (8) (mAsk rc x)), .int (x), .int (mr16 (17) (mAsk rc x))]) (rest := []) ⟨hx, hb, hml, hown, hts⟩ (c_M_share l (mr5 (8) (mAsk rc x)) (nv mr5 (8) (mAsk rc x)) e6 (by omega) (x) (nn x) hxn (by omega) (mr16 (17) (mAsk rc x)) hO16 _) (cv 3 hts kc_M_share ki_M_share ke_M_share kn_M km_M_145 kh_M_share rfl rfl ⟨by decide, by decide⟩) (preW hW rfl rfl (mw_get (by omega) mm_root)) rfl rfl hl.1 rfl (lv_room (Nat.le_of_ble_eq_true rfl)) d_M_serve_140 ⟨by decide, by decide⟩) (fun uu18 H locs hp18 hW => ?_)
            have hW : Wd D classes (tysA g) s A (wM g am (mShare mr16 (mr5 (8) (mAsk rc x)) (nv mr5 (8) (mAsk rc x)) (nn x) (mr16 (17) (mAsk rc x)))) H locs := hW
            obtain ⟨mr19, ev19⟩ : ∃ zz : Vs, zz = mShare mr16 (mr5 (8) (mAsk rc x)) (nv mr5 (8) (mAsk rc x)) (nn x) (mr16 (17) (mAsk rc x)) := ⟨_, rfl⟩
            rw [← ev19] at hW
            have hO19 : OkM mr19 := by rw [ev19]; exact hO16.share
            refine lv_aload_n hx hb d_M_serve_143 rfl (lv_at hl 2 rfl) ?_
            refine wg hx hb hts i_M hown hW (0) (by omega) mm_root rfl 20 (by decide) (hts _ kf_M_68) rfl d_M_serve_144 ?_
            refine lv_bipush (v := 8) hx hb d_M_serve_147 (by decide) ?_
            refine lv_iload_n hx hb d_M_serve_149 rfl (lv_at hl 1 rfl) ?_
            refine lv_imul hx hb d_M_serve_150 ?_
            refine lv_iload_n hx hb d_M_serve_151 rfl (lv_at hl 3 rfl) ?_
            refine lv_iadd hx hb d_M_serve_152 ?_
            refine lv_aload_n hx hb d_M_serve_153 rfl (lv_at hl 2 rfl) ?_
            refine wci hW hA (va_runV (As := []) (rest := [.int (((8) * (mr5 (8) (mAsk rc x))) + (x)), .ref (am (20))]) ⟨hx, hb, hml, hown, hts⟩ (c_M_tick l hO19 _) (cv 0 hts kc_M_tick ki_M_tick ke_M_tick kn_M km_M_88 kh_M_tick rfl rfl ⟨by decide, by decide⟩) (preW hW rfl rfl (mw_get (by omega) mm_root)) rfl rfl hl.1 rfl (lv_room (Nat.le_of_ble_eq_true rfl)) d_M_serve_154 ⟨by decide, by decide⟩) (fun rr20 uu20 H locs hp20 hW => ?_)
            have hW : Wd D classes (tysA g) s A (wM g am (mTick mr19)) H locs := hW
            obtain ⟨mr21, ev21⟩ : ∃ zz : Vs, zz = mTick mr19 := ⟨_, rfl⟩
            rw [← ev21] at hW
            have hO21 : OkM mr21 := by rw [ev21]; exact hO19.tick
            have hp20 : rr20 = mTick mr19 0 23 := hp20
            subst hp20
            refine wis hx hb hW (20) (by omega) mm_20 0 rfl (8 * (nv mr5 (8) (mAsk rc x)) + nn x) (ni_add (ni_mul rfl e6) hxn) (by omega) (by decide) (x := mTick mr19 0 23) mm_20 d_M_serve_157 (fun H locs hW => ?_)
            obtain ⟨mr22, ev22⟩ : ∃ zz : Vs, zz = u2 mr21 (20) (8 * (nv mr5 (8) (mAsk rc x)) + nn x) (mTick mr19 0 23) := ⟨_, rfl⟩
            rw [← ev22] at hW
            have hO22 : OkM mr22 := by rw [ev22]; exact hO21.fr (by omega)
            refine lv_aload_n hx hb d_M_serve_158 rfl (lv_at hl 2 rfl) ?_
            refine lv_dup hx hb d_M_serve_159 rfl ?_
            refine wg hx hb hts i_M hown hW (0) (by omega) mm_root rfl 27 (by decide) (hts _ kf_M_149) rfl d_M_serve_160 ?_
            refine lv_iconst (v := 1) hx hb d_M_serve_163 (by decide) ?_
            refine lv_iadd hx hb d_M_serve_164 ?_
            refine wp hx hb hts i_M t_M t_M_ok n_M hown hW (0) (by omega) mm_root rfl 27 (by decide) (hts _ kf_M_149) rfl (by decide +kernel) (x := (mr22 0 27) + (1)) (Nat.le_of_ble_eq_true rfl) (mm_root.trans rfl) d_M_serve_165 (fun H locs hW => ?_)
            obtain ⟨mr23, ev23⟩ : ∃ zz : Vs, zz = u2 mr22 (0) 27 ((mr22 0 27) + (1)) := ⟨_, rfl⟩
            rw [← ev23] at hW
            have hO23 : OkM mr23 := by rw [ev23]; exact hO22.fr (by omega)
            refine lv_aload_n hx hb d_M_serve_168 rfl (lv_at hl 2 rfl) ?_
            refine lv_iload_n hx hb d_M_serve_169 rfl (lv_at hl 4 rfl) ?_
            refine wcv hW hA (va_runV (As := [.int (nI (mAsk rc x))]) (rest := []) ⟨hx, hb, hml, hown, hts⟩ (c_M_ready l (nI (mAsk rc x)) (mAsk rc x) rfl (by omega) hO23 _) (cv 1 hts kc_M_ready ki_M_ready ke_M_ready kn_M km_M_92 kh_M_ready rfl rfl ⟨by decide, by decide⟩) (preW hW rfl rfl (mw_get (by omega) mm_root)) rfl rfl hl.1 rfl (lv_room (Nat.le_of_ble_eq_true rfl)) d_M_serve_170 ⟨by decide, by decide⟩) (fun uu24 H locs hp24 hW => ?_)
            have hW : Wd D classes (tysA g) s A (wM g am (mRdy mr23 (mAsk rc x))) H locs := hW
            obtain ⟨mr25, ev25⟩ : ∃ zz : Vs, zz = mRdy mr23 (mAsk rc x) := ⟨_, rfl⟩
            rw [← ev25] at hW
            have hO25 : OkM mr25 := by rw [ev25]; exact hO23.rdy
            refine lv_iload_n hx hb d_M_serve_173 rfl (lv_at hl 4 rfl) ?_
            have hfin : mSrv r x = (nI (mAsk rc x), mr25) := by
              rw [hT]; subst ev25 ev23 ev22 ev21 ev19 ev16 ev5; simp only [mSrv1, mSrv2, if_neg c_52, if_pos c_83, if_neg c_123]
            exact hret _ () _ _ _ _ _ _ (show nI (mAsk rc x) = (mSrv r x).1 by rw [hfin]) (by show Wd D classes (tysA g) s A (wM g am ((mSrv r x).2)) _ _; rw [hfin]; exact hW) (by decide) (by decide) d_M_serve_174
          · refine lv_aload_n hx hb d_M_serve_126 rfl (lv_at hl 2 rfl) ?_
            refine lv_iload_n hx hb d_M_serve_127 rfl (lv_at hl 1 rfl) ?_
            refine wcv hW hA (va_runV (As := [.int (mr5 (8) (mAsk rc x))]) (rest := []) ⟨hx, hb, hml, hown, hts⟩ (c_M_giveUp l (mr5 (8) (mAsk rc x)) (nv mr5 (8) (mAsk rc x)) e6 (by omega) hO16 _) (cv 1 hts kc_M_giveUp ki_M_giveUp ke_M_giveUp kn_M km_M_142 kh_M_giveUp rfl rfl ⟨by decide, by decide⟩) (preW hW rfl rfl (mw_get (by omega) mm_root)) rfl rfl hl.1 rfl (lv_room (Nat.le_of_ble_eq_true rfl)) d_M_serve_128 ⟨by decide, by decide⟩) (fun uu26 H locs hp26 hW => ?_)
            have hW : Wd D classes (tysA g) s A (wM g am (mGiv mr16 (mr5 (8) (mAsk rc x)) (nv mr5 (8) (mAsk rc x)))) H locs := hW
            obtain ⟨mr27, ev27⟩ : ∃ zz : Vs, zz = mGiv mr16 (mr5 (8) (mAsk rc x)) (nv mr5 (8) (mAsk rc x)) := ⟨_, rfl⟩
            rw [← ev27] at hW
            have hO27 : OkM mr27 := by rw [ev27]; exact hO16.giv
            refine lv_aload_n hx hb d_M_serve_131 rfl (lv_at hl 2 rfl) ?_
            refine lv_iload_n hx hb d_M_serve_132 rfl (lv_at hl 1 rfl) ?_
            refine lv_iload_n hx hb d_M_serve_133 rfl (lv_at hl 3 rfl) ?_
            refine lv_aload_n hx hb d_M_serve_134 rfl (lv_at hl 2 rfl) ?_
            refine wg hx hb hts i_M hown hW (0) (by omega) mm_root rfl 17 (by decide) (hts _ kf_M_58) rfl d_M_serve_135 ?_
            refine lv_iload_n hx hb d_M_serve_138 rfl (lv_at hl 4 rfl) ?_
            refine wz hx hb hW (17) (by omega) mm_17 5 rfl (mAsk rc x) rfl (by omega) (by decide) d_M_serve_139 ?_
            refine wcv hW hA (va_runV (As := [.int (mr5 (8) (mAsk rc x)), .int (x), .int (mr27 (17) (mAsk rc x))]) (rest := []) ⟨hx, hb, hml, hown, hts⟩ (c_M_share l (mr5 (8) (mAsk rc x)) (nv mr5 (8) (mAsk rc x)) e6 (by omega) (x) (nn x) hxn (by omega) (mr27 (17) (mAsk rc x)) hO27 _) (cv 3 hts kc_M_share ki_M_share ke_M_share kn_M km_M_145 kh_M_share rfl rfl ⟨by decide, by decide⟩) (preW hW rfl rfl (mw_get (by omega) mm_root)) rfl rfl hl.1 rfl (lv_room (Nat.le_of_ble_eq_true rfl)) d_M_serve_140 ⟨by decide, by decide⟩) (fun uu28 H locs hp28 hW => ?_)
            have hW : Wd D classes (tysA g) s A (wM g am (mShare mr27 (mr5 (8) (mAsk rc x)) (nv mr5 (8) (mAsk rc x)) (nn x) (mr27 (17) (mAsk rc x)))) H locs := hW
            obtain ⟨mr29, ev29⟩ : ∃ zz : Vs, zz = mShare mr27 (mr5 (8) (mAsk rc x)) (nv mr5 (8) (mAsk rc x)) (nn x) (mr27 (17) (mAsk rc x)) := ⟨_, rfl⟩
            rw [← ev29] at hW
            have hO29 : OkM mr29 := by rw [ev29]; exact hO27.share
            refine lv_aload_n hx hb d_M_serve_143 rfl (lv_at hl 2 rfl) ?_
            refine wg hx hb hts i_M hown hW (0) (by omega) mm_root rfl 20 (by decide) (hts _ kf_M_68) rfl d_M_serve_144 ?_
            refine lv_bipush (v := 8) hx hb d_M_serve_147 (by decide) ?_
            refine lv_iload_n hx hb d_M_serve_149 rfl (lv_at hl 1 rfl) ?_
            refine lv_imul hx hb d_M_serve_150 ?_
            refine lv_iload_n hx hb d_M_serve_151 rfl (lv_at hl 3 rfl) ?_
            refine lv_iadd hx hb d_M_serve_152 ?_
            refine lv_aload_n hx hb d_M_serve_153 rfl (lv_at hl 2 rfl) ?_
            refine wci hW hA (va_runV (As := []) (rest := [.int (((8) * (mr5 (8) (mAsk rc x))) + (x)), .ref (am (20))]) ⟨hx, hb, hml, hown, hts⟩ (c_M_tick l hO29 _) (cv 0 hts kc_M_tick ki_M_tick ke_M_tick kn_M km_M_88 kh_M_tick rfl rfl ⟨by decide, by decide⟩) (preW hW rfl rfl (mw_get (by omega) mm_root)) rfl rfl hl.1 rfl (lv_room (Nat.le_of_ble_eq_true rfl)) d_M_serve_154 ⟨by decide, by decide⟩) (fun rr30 uu30 H locs hp30 hW => ?_)
            have hW : Wd D classes (tysA g) s A (wM g am (mTick mr29)) H locs := hW
            obtain ⟨mr31, ev31⟩ : ∃ zz : Vs, zz = mTick mr29 := ⟨_, rfl⟩
            rw [← ev31] at hW
            have hO31 : OkM mr31 := by rw [ev31]; exact hO29.tick
            have hp30 : rr30 = mTick mr29 0 23 := hp30
            subst hp30
            refine wis hx hb hW (20) (by omega) mm_20 0 rfl (8 * (nv mr5 (8) (mAsk rc x)) + nn x) (ni_add (ni_mul rfl e6) hxn) (by omega) (by decide) (x := mTick mr29 0 23) mm_20 d_M_serve_157 (fun H locs hW => ?_)
            obtain ⟨mr32, ev32⟩ : ∃ zz : Vs, zz = u2 mr31 (20) (8 * (nv mr5 (8) (mAsk rc x)) + nn x) (mTick mr29 0 23) := ⟨_, rfl⟩
            rw [← ev32] at hW
            have hO32 : OkM mr32 := by rw [ev32]; exact hO31.fr (by omega)
            refine lv_aload_n hx hb d_M_serve_158 rfl (lv_at hl 2 rfl) ?_
            refine lv_dup hx hb d_M_serve_159 rfl ?_
            refine wg hx hb hts i_M hown hW (0) (by omega) mm_root rfl 27 (by decide) (hts _ kf_M_149) rfl d_M_serve_160 ?_
            refine lv_iconst (v := 1) hx hb d_M_serve_163 (by decide) ?_
            refine lv_iadd hx hb d_M_serve_164 ?_
            refine wp hx hb hts i_M t_M t_M_ok n_M hown hW (0) (by omega) mm_root rfl 27 (by decide) (hts _ kf_M_149) rfl (by decide +kernel) (x := (mr32 0 27) + (1)) (Nat.le_of_ble_eq_true rfl) (mm_root.trans rfl) d_M_serve_165 (fun H locs hW => ?_)
            obtain ⟨mr33, ev33⟩ : ∃ zz : Vs, zz = u2 mr32 (0) 27 ((mr32 0 27) + (1)) := ⟨_, rfl⟩
            rw [← ev33] at hW
            have hO33 : OkM mr33 := by rw [ev33]; exact hO32.fr (by omega)
            refine lv_aload_n hx hb d_M_serve_168 rfl (lv_at hl 2 rfl) ?_
            refine lv_iload_n hx hb d_M_serve_169 rfl (lv_at hl 4 rfl) ?_
            refine wcv hW hA (va_runV (As := [.int (nI (mAsk rc x))]) (rest := []) ⟨hx, hb, hml, hown, hts⟩ (c_M_ready l (nI (mAsk rc x)) (mAsk rc x) rfl (by omega) hO33 _) (cv 1 hts kc_M_ready ki_M_ready ke_M_ready kn_M km_M_92 kh_M_ready rfl rfl ⟨by decide, by decide⟩) (preW hW rfl rfl (mw_get (by omega) mm_root)) rfl rfl hl.1 rfl (lv_room (Nat.le_of_ble_eq_true rfl)) d_M_serve_170 ⟨by decide, by decide⟩) (fun uu34 H locs hp34 hW => ?_)
            have hW : Wd D classes (tysA g) s A (wM g am (mRdy mr33 (mAsk rc x))) H locs := hW
            obtain ⟨mr35, ev35⟩ : ∃ zz : Vs, zz = mRdy mr33 (mAsk rc x) := ⟨_, rfl⟩
            rw [← ev35] at hW
            have hO35 : OkM mr35 := by rw [ev35]; exact hO33.rdy
            refine lv_iload_n hx hb d_M_serve_173 rfl (lv_at hl 4 rfl) ?_
            have hfin : mSrv r x = (nI (mAsk rc x), mr35) := by
              rw [hT]; subst ev35 ev33 ev32 ev31 ev29 ev27 ev16 ev5; simp only [mSrv1, mSrv2, if_neg c_52, if_pos c_83, if_pos c_123]
            exact hret _ () _ _ _ _ _ _ (show nI (mAsk rc x) = (mSrv r x).1 by rw [hfin]) (by show Wd D classes (tysA g) s A (wM g am ((mSrv r x).2)) _ _; rw [hfin]; exact hW) (by decide) (by decide) d_M_serve_174
      · have nc_52 : mAsk rc x = 8 := ni_eq rfl rfl (by omega) (by omega) c_52
        refine lv_bipush (v := (-3)) hx hb d_M_serve_55 (by decide) ?_
        have hfin : mSrv r x = ((-3), rc) := by
          rw [hT]; skip; simp only [mSrv1, mSrv2, if_pos c_52]
        exact hret _ () _ _ _ _ _ _ (show (-3) = (mSrv r x).1 by rw [hfin]) (by show Wd D classes (tysA g) s A (wM g am ((mSrv r x).2)) _ _; rw [hfin]; exact hW) (by decide) (by decide) d_M_serve_57
    have loop : ∀ (k : Nat) (rc : Vs) (H : Heap) (locs : List Loc) (ls : Array Slot), OkM rc → mRem rc 8 = k → mSrv r x = mSrv1 (mDrop x k rc) x → Wd D classes (tysA g) s A (wM g am (rc)) H locs → lv_has ls 5 [(0, .ref (am (0))), (1, .int (x)), (2, .int (nI (mAsk rc x)))] → W p l e rm_M_serve s m args below meth c H locs 0 0 Q (F0 m 17 ls []) := by
      intro k
      induction k with
      | zero =>
        intro rc H locs ls hOc hk hT hW hl
        have hak := mAsk_ok hOc x
        have hnc := hOc.le
        refine lv_iload_n hx hb d_M_serve_17 rfl (lv_at hl 2 rfl) ?_
        refine lv_bipush (v := 8) hx hb d_M_serve_18 (by decide) ?_
        refine lv_icmp_eq (tgt := 49) hx hb d_M_serve_20 (by decide) (fun c_20 => ?_) (fun c_20 => ?_)
        · have nc_20 : mAsk rc x = 8 := ni_eq rfl rfl (by omega) (by omega) c_20
          refine last rc _ _ _ hOc ?_ hW (lv_sub hl [0, 1, 2] rfl)
          rw [hT]; rfl
        · have nc_20 : ¬ mAsk rc x = 8 := ni_ne rfl rfl (by omega) (by omega) c_20
          exfalso
          have hd := mRem_drop (r := rc) (q := mAsk rc x) (by rcases hak with h | h; exact absurd h (by omega); exact h.2) 8 (by omega)
          omega
      | succ k ih =>
        intro rc H locs ls hOc hk hT hW hl
        have hak := mAsk_ok hOc x
        have hnc := hOc.le
        refine lv_iload_n hx hb d_M_serve_17 rfl (lv_at hl 2 rfl) ?_
        refine lv_bipush (v := 8) hx hb d_M_serve_18 (by decide) ?_
        refine lv_icmp_eq (tgt := 49) hx hb d_M_serve_20 (by decide) (fun c_20 => ?_) (fun c_20 => ?_)
        · have nc_20 : mAsk rc x = 8 := ni_eq rfl rfl (by omega) (by omega) c_20
          refine last rc _ _ _ hOc ?_ hW (lv_sub hl [0, 1, 2] rfl)
          rw [hT, mDrop, if_pos c_20]
        · have nc_20 : ¬ mAsk rc x = 8 := ni_ne rfl rfl (by omega) (by omega) c_20
          refine lv_aload_n hx hb d_M_serve_23 rfl (lv_at hl 0 rfl) ?_
          refine wg hx hb hts i_M hown hW (0) (by omega) mm_root rfl 8 (by decide) (hts _ kf_M_34) rfl d_M_serve_24 ?_
          refine lv_iload_n hx hb d_M_serve_27 rfl (lv_at hl 2 rfl) ?_
          refine wi hx hb hW (9) (by omega) mm_9 0 rfl (mAsk rc x) rfl (by omega) (by decide) d_M_serve_28 ?_
          refine lv_iconst (v := 4) hx hb d_M_serve_29 (by decide) ?_
          refine lv_icmp_ne (tgt := 49) hx hb d_M_serve_30 (by decide) (fun c_30 => ?_) (fun c_30 => ?_)
          · refine last rc _ _ _ hOc ?_ hW (lv_sub hl [0, 1, 2] rfl)
            rw [hT, mDrop, if_neg c_20, if_neg c_30]
          · refine lv_aload_n hx hb d_M_serve_33 rfl (lv_at hl 0 rfl) ?_
            refine wg hx hb hts i_M hown hW (0) (by omega) mm_root rfl 15 (by decide) (hts _ kf_M_52) rfl d_M_serve_34 ?_
            refine lv_iload_n hx hb d_M_serve_37 rfl (lv_at hl 2 rfl) ?_
            refine lv_iconst (v := 0) hx hb d_M_serve_38 (by decide) ?_
            refine wis hx hb hW (15) (by omega) mm_15 0 rfl (mAsk rc x) rfl (by omega) (by decide) (x := 0) mm_15 d_M_serve_39 (fun H locs hW => ?_)
            obtain ⟨mr36, ev36⟩ : ∃ zz : Vs, zz = u2 rc (15) (mAsk rc x) (0) := ⟨_, rfl⟩
            rw [← ev36] at hW
            have hO36 : OkM mr36 := by rw [ev36]; exact hOc.fr (by omega)
            refine lv_aload_n hx hb d_M_serve_40 rfl (lv_at hl 0 rfl) ?_
            refine lv_iload_n hx hb d_M_serve_41 rfl (lv_at hl 1 rfl) ?_
            refine wci hW hA (va_runV (As := [.int (x)]) (rest := []) ⟨hx, hb, hml, hown, hts⟩ (c_M_firstAsking l (x) hO36 _) (cv 1 hts kc_M_firstAsking ki_M_firstAsking ke_M_firstAsking kn_M km_M_135 kh_M_firstAsking rfl rfl ⟨by decide, by decide⟩) (preW hW rfl rfl (mw_get (by omega) mm_root)) rfl rfl hl.1 rfl (lv_room (Nat.le_of_ble_eq_true rfl)) d_M_serve_42 ⟨by decide, by decide⟩) (fun rr37 uu37 H locs hp37 hW => ?_)
            have hW : Wd D classes (tysA g) s A (wM g am (mr36)) H locs := hW
            have hp37 : rr37 = nI (mAsk mr36 (x)) := hp37
            subst hp37
            have hak38 := mAsk_ok hO36 (x)
            refine lv_istore_n (lv' := [(2, .int (nI (mAsk mr36 (x)))), (0, .ref (am (0))), (1, .int (x))]) hx hb d_M_serve_45 rfl hl (by decide) rfl (fun ls hl => ?_)
            refine lv_goto (tgt := 17) hx hb d_M_serve_46 (by decide) ?_
            refine ih mr36 _ _ _ hO36 ?_ ?_ hW (lv_sub hl [1, 2, 0] rfl)
            · have hd := mRem_drop (r := rc) (q := mAsk rc x) (by rcases hak with h | h; exact absurd h (by omega); exact h.2) 8 (by omega)
              subst ev36; omega
            · rw [hT, mDrop, if_neg c_20, if_pos c_30]; subst ev36; rfl
    exact loop (mRem r 8) r _ _ _ hO rfl hM hW (lv_sub hl [1, 2, 0] rfl)
  · have c_6 : outP (x) (7) := bo_ne hp1 c_6
    refine lv_iconst (v := (-1)) hx hb d_M_serve_9 (by decide) ?_
    have hfin : mSrv r x = ((-1), r) := by
      skip; simp only [mSrv, if_pos c_6]
    refine hret _ () _ _ _ _ _ _ ?_ (by show Wd D classes (tysA g) s A (wM g am ((mSrv r x).2)) _ _; rw [hfin]; exact hW) (by decide) (by decide) d_M_serve_10
    show (-1) = (mSrv r x).1
    rw [hfin]
abbrev rm_M_perform : Room := { frames := 3, cells := 0, slots := 0, locals := 65 }
set_option maxHeartbeats 4000000 in
set_option maxRecDepth 100000 in
theorem c_M_perform (l : Launch) {D : va_G} {g : Nat → ClassId} {am : Nat → Nat} {r : Vs} (x : Int32) (pn : Nat) (zx : x = nI pn) (lpn : pn < 8) (op : Int32) (y1 : Int32) (a : Nat) (zy1 : y1 = nI a) (la : a < 32) (y2 : Int32) (b : Nat) (zy2 : y2 = nI b) (lb : b < 32) (z : Int32) (hO : OkM r) (h6 : op = 6 → okLt 4 z) : MtI l y_M_perform ws_M_perform rm_M_perform D classes (tysA g) [.ref (am (0)), .int (x), .int (op), .int (y1), .int (y2), .int (z)] (wM g am (r)) (fun (rr : Int32) (_ : Unit) => rr = if ¬ wtP r x op a then 1 else 0) (fun _ => wM g am (mPrf r x pn op a b z)) 0 0 := by
  refine mt_i (ty := .boolean) (fun r _ h => by rw [h]; split <;> rfl) (by decide +kernel) rfl (Nat.le_of_ble_eq_true rfl) (fun p e s m args below meth c Q A C hA hW hret ls hl => ?_)
  obtain ⟨hx, hb, hr, hml, hown, hts0, hlocks⟩ := C
  have hts : ∀ w ∈ bigw, w.before args s = true := fun w h => hts0 w (List.mem_cons_of_mem _ h)
  have hown : s.vm.findClass R_M = some m.cls := hown
  have hnp := hO.le
  have hl : lv_has ls 7 [(0, .ref (am (0))), (1, .int (x)), (2, .int (op)), (3, .int (y1)), (4, .int (y2)), (5, .int (z))] := hl
  refine lv_aload_n hx hb d_M_perform_0 rfl (lv_at hl 0 rfl) ?_
  refine wg hx hb hts i_M hown hW (0) (by omega) mm_root rfl 5 (by decide) (hts _ kf_M_25) rfl d_M_perform_1 ?_
  refine lv_iload_n hx hb d_M_perform_4 rfl (lv_at hl 3 rfl) ?_
  refine wi hx hb hW (6) (by omega) mm_6 0 rfl (a) zy1 (by omega) (by decide) d_M_perform_5 ?_
  refine lv_istore (lv' := [(6, .int (r (6) (a))), (0, .ref (am (0))), (1, .int (x)), (2, .int (op)), (3, .int (y1)), (4, .int (y2)), (5, .int (z))]) hx hb d_M_perform_6 hl (by decide) rfl (fun ls hl => ?_)
  refine lv_iload_n hx hb d_M_perform_8 rfl (lv_at hl 3 rfl) ?_
  rcases sw_12 (op) with c_9 | h_9_0 | h_9_1 | h_9_2 | h_9_3 | h_9_4 | h_9_5 | h_9_6 | h_9_7 | h_9_8 | h_9_9 | h_9_10 | h_9_11
  · refine lv_tableOut (tgt := 309) hx hb d_M_perform_9 c_9 (by decide) ?_
    refine lv_iconst (v := 1) hx hb d_M_perform_309 (by decide) ?_
    have hfin : mPrf r x pn op a b z = r := by
      skip; simp only [mPrf, if_neg (out_ne c_9 0 (by decide)), if_neg (out_ne c_9 1 (by decide)), if_neg (out_ne c_9 2 (by decide)), if_neg (out_ne c_9 3 (by decide)), if_neg (out_ne c_9 4 (by decide)), if_neg (out_ne c_9 6 (by decide)), if_neg (out_ne c_9 7 (by decide)), if_neg (out_ne c_9 8 (by decide)), if_neg (out_ne c_9 9 (by decide)), if_neg (out_ne c_9 10 (by decide)), if_neg (out_ne c_9 11 (by decide))]
    exact hret _ () _ _ _ _ _ _ (ite_t (fun h => out_ne c_9 7 (by decide) h.1)) (by show Wd D classes (tysA g) s A (wM g am (mPrf r x pn op a b z)) _ _; rw [hfin]; exact hW) (by decide) (by decide) d_M_perform_310
  · refine lv_tableIn (tgt := 72) hx hb d_M_perform_9 (by rw [h_9_0]; decide) (by rw [h_9_0]; decide) (off := 63) (by rw [h_9_0]; rfl) (by decide) ?_
    refine lv_aload_n hx hb d_M_perform_72 rfl (lv_at hl 1 rfl) ?_
    refine wg hx hb hts i_M hown hW (0) (by omega) mm_root rfl 5 (by decide) (hts _ kf_M_25) rfl d_M_perform_73 ?_
    refine lv_iload_n hx hb d_M_perform_76 rfl (lv_at hl 4 rfl) ?_
    refine lv_iload hx hb d_M_perform_77 (lv_at hl 6 rfl) ?_
    refine wis hx hb hW (6) (by omega) mm_6 0 rfl (a) zy1 (by omega) (by decide) (x := z) mm_6 d_M_perform_79 (fun H locs hW => ?_)
    obtain ⟨mr1, ev1⟩ : ∃ zz : Vs, zz = u2 r (6) (a) (z) := ⟨_, rfl⟩
    rw [← ev1] at hW
    have hO1 : OkM mr1 := by rw [ev1]; exact hO.fr (by omega)
    refine lv_goto (tgt := 309) hx hb d_M_perform_80 (by decide) ?_
    refine lv_iconst (v := 1) hx hb d_M_perform_309 (by decide) ?_
    have hfin : mPrf r x pn op a b z = mr1 := by
      subst ev1; subst h_9_0; rfl
    exact hret _ () _ _ _ _ _ _ (ite_t (fun h => by have h1 := h.1; rw [h_9_0] at h1; exact absurd h1 (by decide))) (by show Wd D classes (tysA g) s A (wM g am (mPrf r x pn op a b z)) _ _; rw [hfin]; exact hW) (by decide) (by decide) d_M_perform_310
  · refine lv_tableIn (tgt := 83) hx hb d_M_perform_9 (by rw [h_9_1]; decide) (by rw [h_9_1]; decide) (off := 74) (by rw [h_9_1]; rfl) (by decide) ?_
    refine lv_aload_n hx hb d_M_perform_83 rfl (lv_at hl 1 rfl) ?_
    refine wg hx hb hts i_M hown hW (0) (by omega) mm_root rfl 5 (by decide) (hts _ kf_M_25) rfl d_M_perform_84 ?_
    refine lv_iload_n hx hb d_M_perform_87 rfl (lv_at hl 4 rfl) ?_
    refine lv_dup2_11 hx hb d_M_perform_88 rfl rfl ?_
    refine wi hx hb hW (6) (by omega) mm_6 0 rfl (a) zy1 (by omega) (by decide) d_M_perform_89 ?_
    refine lv_aload_n hx hb d_M_perform_90 rfl (lv_at hl 1 rfl) ?_
    refine wg hx hb hts i_M hown hW (0) (by omega) mm_root rfl 5 (by decide) (hts _ kf_M_25) rfl d_M_perform_91 ?_
    refine lv_iload hx hb d_M_perform_94 (lv_at hl 5 rfl) ?_
    refine wi hx hb hW (6) (by omega) mm_6 0 rfl (b) zy2 (by omega) (by decide) d_M_perform_96 ?_
    refine lv_iadd hx hb d_M_perform_97 ?_
    refine wis hx hb hW (6) (by omega) mm_6 0 rfl (a) zy1 (by omega) (by decide) (x := (r (6) (a)) + (r (6) (b))) mm_6 d_M_perform_98 (fun H locs hW => ?_)
    obtain ⟨mr2, ev2⟩ : ∃ zz : Vs, zz = u2 r (6) (a) ((r (6) (a)) + (r (6) (b))) := ⟨_, rfl⟩
    rw [← ev2] at hW
    have hO2 : OkM mr2 := by rw [ev2]; exact hO.fr (by omega)
    refine lv_goto (tgt := 309) hx hb d_M_perform_99 (by decide) ?_
    refine lv_iconst (v := 1) hx hb d_M_perform_309 (by decide) ?_
    have hfin : mPrf r x pn op a b z = mr2 := by
      subst ev2; subst h_9_1; rfl
    exact hret _ () _ _ _ _ _ _ (ite_t (fun h => by have h1 := h.1; rw [h_9_1] at h1; exact absurd h1 (by decide))) (by show Wd D classes (tysA g) s A (wM g am (mPrf r x pn op a b z)) _ _; rw [hfin]; exact hW) (by decide) (by decide) d_M_perform_310
  · refine lv_tableIn (tgt := 102) hx hb d_M_perform_9 (by rw [h_9_2]; decide) (by rw [h_9_2]; decide) (off := 93) (by rw [h_9_2]; rfl) (by decide) ?_
    refine lv_aload_n hx hb d_M_perform_102 rfl (lv_at hl 1 rfl) ?_
    refine lv_iload_n hx hb d_M_perform_103 rfl (lv_at hl 2 rfl) ?_
    refine lv_iload_n hx hb d_M_perform_104 rfl (lv_at hl 3 rfl) ?_
    refine lv_iload_n hx hb d_M_perform_105 rfl (lv_at hl 4 rfl) ?_
    refine lv_aload_n hx hb d_M_perform_106 rfl (lv_at hl 1 rfl) ?_
    refine wg hx hb hts i_M hown hW (0) (by omega) mm_root rfl 5 (by decide) (hts _ kf_M_25) rfl d_M_perform_107 ?_
    refine lv_iload hx hb d_M_perform_110 (lv_at hl 5 rfl) ?_
    refine wi hx hb hW (6) (by omega) mm_6 0 rfl (b) zy2 (by omega) (by decide) d_M_perform_112 ?_
    refine lv_bipush (v := 31) hx hb d_M_perform_113 (by decide) ?_
    have hbl3 := bl_lt (r (6) (b)) 31
    refine lv_iand hx hb d_M_perform_115 ?_
    refine wcv hW hA (va_runV (As := [.int (x), .int (op), .int (y1), .int ((r (6) (b)) &&& (31))]) (rest := []) ⟨hx, hb, hml, hown, hts⟩ (c_M_touch l (x) pn zx (by omega) (op) (y1) a zy1 (by omega) ((r (6) (b)) &&& (31)) (bl (r (6) (b)) 31) (ni_and31 _) (by omega) hO _) (cv 4 hts kc_M_touch ki_M_touch ke_M_touch kn_M km_M_107 kh_M_touch rfl rfl ⟨by decide, by decide⟩) (preW hW rfl rfl (mw_get (by omega) mm_root)) rfl rfl hl.1 rfl (lv_room (Nat.le_of_ble_eq_true rfl)) d_M_perform_116 ⟨by decide, by decide⟩) (fun uu4 H locs hp4 hW => ?_)
    have hW : Wd D classes (tysA g) s A (wM g am (mTch r pn (op) a (bl (r (6) (b)) 31))) H locs := hW
    obtain ⟨mr5, ev5⟩ : ∃ zz : Vs, zz = mTch r pn (op) a (bl (r (6) (b)) 31) := ⟨_, rfl⟩
    rw [← ev5] at hW
    have hO5 : OkM mr5 := by rw [ev5]; exact hO.tch
    refine lv_goto (tgt := 309) hx hb d_M_perform_119 (by decide) ?_
    refine lv_iconst (v := 1) hx hb d_M_perform_309 (by decide) ?_
    have hfin : mPrf r x pn op a b z = mr5 := by
      subst ev5; subst h_9_2; rfl
    exact hret _ () _ _ _ _ _ _ (ite_t (fun h => by have h1 := h.1; rw [h_9_2] at h1; exact absurd h1 (by decide))) (by show Wd D classes (tysA g) s A (wM g am (mPrf r x pn op a b z)) _ _; rw [hfin]; exact hW) (by decide) (by decide) d_M_perform_310
  · refine lv_tableIn (tgt := 102) hx hb d_M_perform_9 (by rw [h_9_3]; decide) (by rw [h_9_3]; decide) (off := 93) (by rw [h_9_3]; rfl) (by decide) ?_
    refine lv_aload_n hx hb d_M_perform_102 rfl (lv_at hl 1 rfl) ?_
    refine lv_iload_n hx hb d_M_perform_103 rfl (lv_at hl 2 rfl) ?_
    refine lv_iload_n hx hb d_M_perform_104 rfl (lv_at hl 3 rfl) ?_
    refine lv_iload_n hx hb d_M_perform_105 rfl (lv_at hl 4 rfl) ?_
    refine lv_aload_n hx hb d_M_perform_106 rfl (lv_at hl 1 rfl) ?_
    refine wg hx hb hts i_M hown hW (0) (by omega) mm_root rfl 5 (by decide) (hts _ kf_M_25) rfl d_M_perform_107 ?_
    refine lv_iload hx hb d_M_perform_110 (lv_at hl 5 rfl) ?_
    refine wi hx hb hW (6) (by omega) mm_6 0 rfl (b) zy2 (by omega) (by decide) d_M_perform_112 ?_
    refine lv_bipush (v := 31) hx hb d_M_perform_113 (by decide) ?_
    have hbl6 := bl_lt (r (6) (b)) 31
    refine lv_iand hx hb d_M_perform_115 ?_
    refine wcv hW hA (va_runV (As := [.int (x), .int (op), .int (y1), .int ((r (6) (b)) &&& (31))]) (rest := []) ⟨hx, hb, hml, hown, hts⟩ (c_M_touch l (x) pn zx (by omega) (op) (y1) a zy1 (by omega) ((r (6) (b)) &&& (31)) (bl (r (6) (b)) 31) (ni_and31 _) (by omega) hO _) (cv 4 hts kc_M_touch ki_M_touch ke_M_touch kn_M km_M_107 kh_M_touch rfl rfl ⟨by decide, by decide⟩) (preW hW rfl rfl (mw_get (by omega) mm_root)) rfl rfl hl.1 rfl (lv_room (Nat.le_of_ble_eq_true rfl)) d_M_perform_116 ⟨by decide, by decide⟩) (fun uu7 H locs hp7 hW => ?_)
    have hW : Wd D classes (tysA g) s A (wM g am (mTch r pn (op) a (bl (r (6) (b)) 31))) H locs := hW
    obtain ⟨mr8, ev8⟩ : ∃ zz : Vs, zz = mTch r pn (op) a (bl (r (6) (b)) 31) := ⟨_, rfl⟩
    rw [← ev8] at hW
    have hO8 : OkM mr8 := by rw [ev8]; exact hO.tch
    refine lv_goto (tgt := 309) hx hb d_M_perform_119 (by decide) ?_
    refine lv_iconst (v := 1) hx hb d_M_perform_309 (by decide) ?_
    have hfin : mPrf r x pn op a b z = mr8 := by
      subst ev8; subst h_9_3; rfl
    exact hret _ () _ _ _ _ _ _ (ite_t (fun h => by have h1 := h.1; rw [h_9_3] at h1; exact absurd h1 (by decide))) (by show Wd D classes (tysA g) s A (wM g am (mPrf r x pn op a b z)) _ _; rw [hfin]; exact hW) (by decide) (by decide) d_M_perform_310
  · refine lv_tableIn (tgt := 102) hx hb d_M_perform_9 (by rw [h_9_4]; decide) (by rw [h_9_4]; decide) (off := 93) (by rw [h_9_4]; rfl) (by decide) ?_
    refine lv_aload_n hx hb d_M_perform_102 rfl (lv_at hl 1 rfl) ?_
    refine lv_iload_n hx hb d_M_perform_103 rfl (lv_at hl 2 rfl) ?_
    refine lv_iload_n hx hb d_M_perform_104 rfl (lv_at hl 3 rfl) ?_
    refine lv_iload_n hx hb d_M_perform_105 rfl (lv_at hl 4 rfl) ?_
    refine lv_aload_n hx hb d_M_perform_106 rfl (lv_at hl 1 rfl) ?_
    refine wg hx hb hts i_M hown hW (0) (by omega) mm_root rfl 5 (by decide) (hts _ kf_M_25) rfl d_M_perform_107 ?_
    refine lv_iload hx hb d_M_perform_110 (lv_at hl 5 rfl) ?_
    refine wi hx hb hW (6) (by omega) mm_6 0 rfl (b) zy2 (by omega) (by decide) d_M_perform_112 ?_
    refine lv_bipush (v := 31) hx hb d_M_perform_113 (by decide) ?_
    have hbl9 := bl_lt (r (6) (b)) 31
    refine lv_iand hx hb d_M_perform_115 ?_
    refine wcv hW hA (va_runV (As := [.int (x), .int (op), .int (y1), .int ((r (6) (b)) &&& (31))]) (rest := []) ⟨hx, hb, hml, hown, hts⟩ (c_M_touch l (x) pn zx (by omega) (op) (y1) a zy1 (by omega) ((r (6) (b)) &&& (31)) (bl (r (6) (b)) 31) (ni_and31 _) (by omega) hO _) (cv 4 hts kc_M_touch ki_M_touch ke_M_touch kn_M km_M_107 kh_M_touch rfl rfl ⟨by decide, by decide⟩) (preW hW rfl rfl (mw_get (by omega) mm_root)) rfl rfl hl.1 rfl (lv_room (Nat.le_of_ble_eq_true rfl)) d_M_perform_116 ⟨by decide, by decide⟩) (fun uu10 H locs hp10 hW => ?_)
    have hW : Wd D classes (tysA g) s A (wM g am (mTch r pn (op) a (bl (r (6) (b)) 31))) H locs := hW
    obtain ⟨mr11, ev11⟩ : ∃ zz : Vs, zz = mTch r pn (op) a (bl (r (6) (b)) 31) := ⟨_, rfl⟩
    rw [← ev11] at hW
    have hO11 : OkM mr11 := by rw [ev11]; exact hO.tch
    refine lv_goto (tgt := 309) hx hb d_M_perform_119 (by decide) ?_
    refine lv_iconst (v := 1) hx hb d_M_perform_309 (by decide) ?_
    have hfin : mPrf r x pn op a b z = mr11 := by
      subst ev11; subst h_9_4; rfl
    exact hret _ () _ _ _ _ _ _ (ite_t (fun h => by have h1 := h.1; rw [h_9_4] at h1; exact absurd h1 (by decide))) (by show Wd D classes (tysA g) s A (wM g am (mPrf r x pn op a b z)) _ _; rw [hfin]; exact hW) (by decide) (by decide) d_M_perform_310
  · refine lv_tableIn (tgt := 309) hx hb d_M_perform_9 (by rw [h_9_5]; decide) (by rw [h_9_5]; decide) (off := 300) (by rw [h_9_5]; rfl) (by decide) ?_
    refine lv_iconst (v := 1) hx hb d_M_perform_309 (by decide) ?_
    have hfin : mPrf r x pn op a b z = r := by
      skip; subst h_9_5; rfl
    exact hret _ () _ _ _ _ _ _ (ite_t (fun h => by have h1 := h.1; rw [h_9_5] at h1; exact absurd h1 (by decide))) (by show Wd D classes (tysA g) s A (wM g am (mPrf r x pn op a b z)) _ _; rw [hfin]; exact hW) (by decide) (by decide) d_M_perform_310
  · refine lv_tableIn (tgt := 122) hx hb d_M_perform_9 (by rw [h_9_6]; decide) (by rw [h_9_6]; decide) (off := 113) (by rw [h_9_6]; rfl) (by decide) ?_
    have hz4 := h6 h_9_6
    refine lv_aload_n hx hb d_M_perform_122 rfl (lv_at hl 1 rfl) ?_
    refine wg hx hb hts i_M hown hW (0) (by omega) mm_root rfl 5 (by decide) (hts _ kf_M_25) rfl d_M_perform_123 ?_
    refine lv_iload_n hx hb d_M_perform_126 rfl (lv_at hl 4 rfl) ?_
    refine lv_aload_n hx hb d_M_perform_127 rfl (lv_at hl 1 rfl) ?_
    refine lv_iload hx hb d_M_perform_128 (lv_at hl 6 rfl) ?_
    refine lv_aload_n hx hb d_M_perform_130 rfl (lv_at hl 1 rfl) ?_
    refine wg hx hb hts i_M hown hW (0) (by omega) mm_root rfl 7 (by decide) (hts _ kf_M_31) rfl d_M_perform_131 ?_
    refine lv_iload_n hx hb d_M_perform_134 rfl (lv_at hl 2 rfl) ?_
    refine wi hx hb hW (8) (by omega) mm_8 0 rfl (pn) zx (by omega) (by decide) d_M_perform_135 ?_
    obtain ⟨e12, b12⟩ := hO.c8 (pn)
    refine wci hW hA (va_runV (As := [.int (z), .int (r (8) (pn))]) (rest := [.int (y1), .ref (am (6))]) ⟨hx, hb, hml, hown, hts⟩ (c_M_make l (z) (r (8) (pn)) (nv r (8) (pn)) e12 (by omega) hO hz4 _) (cv 2 hts kc_M_make ki_M_make ke_M_make kn_M km_M_96 kh_M_make rfl rfl ⟨by decide, by decide⟩) (preW hW rfl rfl (mw_get (by omega) mm_root)) rfl rfl hl.1 rfl (lv_room (Nat.le_of_ble_eq_true rfl)) d_M_perform_136 ⟨by decide, by decide⟩) (fun rr13 uu13 H locs hp13 hW => ?_)
    have hW : Wd D classes (tysA g) s A (wM g am ((mMake r (z) (r (8) (pn))).2)) H locs := hW
    obtain ⟨mr14, ev14⟩ : ∃ zz : Vs, zz = (mMake r (z) (r (8) (pn))).2 := ⟨_, rfl⟩
    rw [← ev14] at hW
    have hO14 : OkM mr14 := by rw [ev14]; exact hO.make hz4 ⟨nv r (8) (pn), by omega, e12⟩
    have hp13 : rr13 = (mMake r (z) (r (8) (pn))).1 := hp13
    subst hp13
    refine wis hx hb hW (6) (by omega) mm_6 0 rfl (a) zy1 (by omega) (by decide) (x := (mMake r (z) (r (8) (pn))).1) mm_6 d_M_perform_139 (fun H locs hW => ?_)
    obtain ⟨mr15, ev15⟩ : ∃ zz : Vs, zz = u2 mr14 (6) (a) ((mMake r (z) (r (8) (pn))).1) := ⟨_, rfl⟩
    rw [← ev15] at hW
    have hO15 : OkM mr15 := by rw [ev15]; exact hO14.fr (by omega)
    refine lv_goto (tgt := 309) hx hb d_M_perform_140 (by decide) ?_
    refine lv_iconst (v := 1) hx hb d_M_perform_309 (by decide) ?_
    have hfin : mPrf r x pn op a b z = mr15 := by
      subst ev15 ev14; subst h_9_6; rfl
    exact hret _ () _ _ _ _ _ _ (ite_t (fun h => by have h1 := h.1; rw [h_9_6] at h1; exact absurd h1 (by decide))) (by show Wd D classes (tysA g) s A (wM g am (mPrf r x pn op a b z)) _ _; rw [hfin]; exact hW) (by decide) (by decide) d_M_perform_310
  · refine lv_tableIn (tgt := 143) hx hb d_M_perform_9 (by rw [h_9_7]; decide) (by rw [h_9_7]; decide) (off := 134) (by rw [h_9_7]; rfl) (by decide) ?_
    refine lv_aload_n hx hb d_M_perform_143 rfl (lv_at hl 1 rfl) ?_
    refine lv_iload hx hb d_M_perform_144 (lv_at hl 0 rfl) ?_
    refine wci hW hA (va_runV (As := [.int (r (6) (a))]) (rest := []) ⟨hx, hb, hml, hown, hts⟩ (c_M_noProcess l (r (6) (a)) hO _) (cv 1 hts kc_M_noProcess ki_M_noProcess ke_M_noProcess kn_M km_M_100 kh_M_noProcess rfl rfl ⟨by decide, by decide⟩) (preW hW rfl rfl (mw_get (by omega) mm_root)) rfl rfl hl.1 rfl (lv_room (Nat.le_of_ble_eq_true rfl)) d_M_perform_146 ⟨by decide, by decide⟩) (fun rr16 uu16 H locs hp16 hW => ?_)
    have hW : Wd D classes (tysA g) s A (wM g am (r)) H locs := hW
    have hp16 : rr16 = if npP r (r (6) (a)) then 1 else 0 := hp16
    refine lv_if_ne (tgt := 184) hx hb d_M_perform_149 (by decide) (fun c_149 => ?_) (fun c_149 => ?_)
    · have c_149 : npP r (r (6) (a)) := bo_ne hp16 c_149
      refine lv_aload_n hx hb d_M_perform_184 rfl (lv_at hl 1 rfl) ?_
      refine wg hx hb hts i_M hown hW (0) (by omega) mm_root rfl 5 (by decide) (hts _ kf_M_25) rfl d_M_perform_185 ?_
      refine lv_iload_n hx hb d_M_perform_188 rfl (lv_at hl 4 rfl) ?_
      refine lv_aload_n hx hb d_M_perform_189 rfl (lv_at hl 1 rfl) ?_
      refine lv_iload hx hb d_M_perform_190 (lv_at hl 0 rfl) ?_
      refine wci hW hA (va_runV (As := [.int (r (6) (a))]) (rest := [.int (y1), .ref (am (6))]) ⟨hx, hb, hml, hown, hts⟩ (c_M_noProcess l (r (6) (a)) hO _) (cv 1 hts kc_M_noProcess ki_M_noProcess ke_M_noProcess kn_M km_M_100 kh_M_noProcess rfl rfl ⟨by decide, by decide⟩) (preW hW rfl rfl (mw_get (by omega) mm_root)) rfl rfl hl.1 rfl (lv_room (Nat.le_of_ble_eq_true rfl)) d_M_perform_192 ⟨by decide, by decide⟩) (fun rr18 uu18 H locs hp18 hW => ?_)
      have hW : Wd D classes (tysA g) s A (wM g am (r)) H locs := hW
      have hp18 : rr18 = if npP r (r (6) (a)) then 1 else 0 := hp18
      refine lv_if_ne (tgt := 204) hx hb d_M_perform_195 (by decide) (fun c_195 => ?_) (fun c_195 => absurd c_149 (bo_eq hp18 c_195))
      refine lv_iconst (v := (-1)) hx hb d_M_perform_204 (by decide) ?_
      refine lv_goto (tgt := 215) hx hb d_M_perform_205 (by decide) ?_
      refine wis hx hb hW (6) (by omega) mm_6 0 rfl (a) zy1 (by omega) (by decide) (x := (-1)) mm_6 d_M_perform_215 (fun H locs hW => ?_)
      obtain ⟨mr19, ev19⟩ : ∃ zz : Vs, zz = u2 r (6) (a) ((-1)) := ⟨_, rfl⟩
      rw [← ev19] at hW
      have hO19 : OkM mr19 := by rw [ev19]; exact hO.fr (by omega)
      refine lv_goto (tgt := 309) hx hb d_M_perform_216 (by decide) ?_
      refine lv_iconst (v := 1) hx hb d_M_perform_309 (by decide) ?_
      have hfin : mPrf r x pn op a b z = mr19 := by
        subst ev19; subst h_9_7; unfold mPrf; simp only [if_pos c_149]; rfl
      exact hret _ () _ _ _ _ _ _ (ite_t (fun h => h.2.1 c_149)) (by show Wd D classes (tysA g) s A (wM g am (mPrf r x pn op a b z)) _ _; rw [hfin]; exact hW) (by decide) (by decide) d_M_perform_310
    · have c_149 : ¬ (npP r (r (6) (a))) := bo_eq hp16 c_149
      obtain ⟨e17, b17⟩ := nnp_nn hO c_149
      refine lv_iload hx hb d_M_perform_152 (lv_at hl 0 rfl) ?_
      refine lv_iload_n hx hb d_M_perform_154 rfl (lv_at hl 2 rfl) ?_
      refine lv_icmp_eq (tgt := 184) hx hb d_M_perform_155 (by decide) (fun c_155 => ?_) (fun c_155 => ?_)
      · have nc_155 : nn (r (6) (a)) = pn := ni_eq e17 zx (by omega) (by omega) c_155
        refine lv_aload_n hx hb d_M_perform_184 rfl (lv_at hl 1 rfl) ?_
        refine wg hx hb hts i_M hown hW (0) (by omega) mm_root rfl 5 (by decide) (hts _ kf_M_25) rfl d_M_perform_185 ?_
        refine lv_iload_n hx hb d_M_perform_188 rfl (lv_at hl 4 rfl) ?_
        refine lv_aload_n hx hb d_M_perform_189 rfl (lv_at hl 1 rfl) ?_
        refine lv_iload hx hb d_M_perform_190 (lv_at hl 0 rfl) ?_
        refine wci hW hA (va_runV (As := [.int (r (6) (a))]) (rest := [.int (y1), .ref (am (6))]) ⟨hx, hb, hml, hown, hts⟩ (c_M_noProcess l (r (6) (a)) hO _) (cv 1 hts kc_M_noProcess ki_M_noProcess ke_M_noProcess kn_M km_M_100 kh_M_noProcess rfl rfl ⟨by decide, by decide⟩) (preW hW rfl rfl (mw_get (by omega) mm_root)) rfl rfl hl.1 rfl (lv_room (Nat.le_of_ble_eq_true rfl)) d_M_perform_192 ⟨by decide, by decide⟩) (fun rr20 uu20 H locs hp20 hW => ?_)
        have hW : Wd D classes (tysA g) s A (wM g am (r)) H locs := hW
        have hp20 : rr20 = if npP r (r (6) (a)) then 1 else 0 := hp20
        refine lv_if_ne (tgt := 204) hx hb d_M_perform_195 (by decide) (fun c_195 => absurd (bo_ne hp20 c_195) c_149) (fun c_195 => ?_)
        refine lv_iload hx hb d_M_perform_198 (lv_at hl 0 rfl) ?_
        refine lv_iload_n hx hb d_M_perform_200 rfl (lv_at hl 2 rfl) ?_
        refine lv_icmp_ne (tgt := 208) hx hb d_M_perform_201 (by decide) (fun c_201 => absurd c_155 c_201) (fun c_201 => ?_)
        refine lv_iconst (v := (-1)) hx hb d_M_perform_204 (by decide) ?_
        refine lv_goto (tgt := 215) hx hb d_M_perform_205 (by decide) ?_
        refine wis hx hb hW (6) (by omega) mm_6 0 rfl (a) zy1 (by omega) (by decide) (x := (-1)) mm_6 d_M_perform_215 (fun H locs hW => ?_)
        obtain ⟨mr21, ev21⟩ : ∃ zz : Vs, zz = u2 r (6) (a) ((-1)) := ⟨_, rfl⟩
        rw [← ev21] at hW
        have hO21 : OkM mr21 := by rw [ev21]; exact hO.fr (by omega)
        refine lv_goto (tgt := 309) hx hb d_M_perform_216 (by decide) ?_
        refine lv_iconst (v := 1) hx hb d_M_perform_309 (by decide) ?_
        have hfin : mPrf r x pn op a b z = mr21 := by
          subst ev21; subst h_9_7; unfold mPrf; simp only [if_neg c_149, if_pos c_155]; rfl
        exact hret _ () _ _ _ _ _ _ (ite_t (fun h => h.2.2.1 c_155)) (by show Wd D classes (tysA g) s A (wM g am (mPrf r x pn op a b z)) _ _; rw [hfin]; exact hW) (by decide) (by decide) d_M_perform_310
      · have nc_155 : ¬ nn (r (6) (a)) = pn := ni_ne e17 zx (by omega) (by omega) c_155
        refine lv_aload_n hx hb d_M_perform_158 rfl (lv_at hl 1 rfl) ?_
        refine lv_iload hx hb d_M_perform_159 (lv_at hl 0 rfl) ?_
        refine wci hW hA (va_runV (As := [.int (r (6) (a))]) (rest := []) ⟨hx, hb, hml, hown, hts⟩ (c_M_ended l (r (6) (a)) hO _) (cv 1 hts kc_M_ended ki_M_ended ke_M_ended kn_M km_M_111 kh_M_ended rfl rfl ⟨by decide, by decide⟩) (preW hW rfl rfl (mw_get (by omega) mm_root)) rfl rfl hl.1 rfl (lv_room (Nat.le_of_ble_eq_true rfl)) d_M_perform_161 ⟨by decide, by decide⟩) (fun rr22 uu22 H locs hp22 hW => ?_)
        have hW : Wd D classes (tysA g) s A (wM g am (r)) H locs := hW
        have hp22 : rr22 = if edP r (r (6) (a)) then 1 else 0 := hp22
        refine lv_if_ne (tgt := 184) hx hb d_M_perform_164 (by decide) (fun c_164 => ?_) (fun c_164 => ?_)
        · have c_164 : edP r (r (6) (a)) := bo_ne hp22 c_164
          refine lv_aload_n hx hb d_M_perform_184 rfl (lv_at hl 1 rfl) ?_
          refine wg hx hb hts i_M hown hW (0) (by omega) mm_root rfl 5 (by decide) (hts _ kf_M_25) rfl d_M_perform_185 ?_
          refine lv_iload_n hx hb d_M_perform_188 rfl (lv_at hl 4 rfl) ?_
          refine lv_aload_n hx hb d_M_perform_189 rfl (lv_at hl 1 rfl) ?_
          refine lv_iload hx hb d_M_perform_190 (lv_at hl 0 rfl) ?_
          refine wci hW hA (va_runV (As := [.int (r (6) (a))]) (rest := [.int (y1), .ref (am (6))]) ⟨hx, hb, hml, hown, hts⟩ (c_M_noProcess l (r (6) (a)) hO _) (cv 1 hts kc_M_noProcess ki_M_noProcess ke_M_noProcess kn_M km_M_100 kh_M_noProcess rfl rfl ⟨by decide, by decide⟩) (preW hW rfl rfl (mw_get (by omega) mm_root)) rfl rfl hl.1 rfl (lv_room (Nat.le_of_ble_eq_true rfl)) d_M_perform_192 ⟨by decide, by decide⟩) (fun rr23 uu23 H locs hp23 hW => ?_)
          have hW : Wd D classes (tysA g) s A (wM g am (r)) H locs := hW
          have hp23 : rr23 = if npP r (r (6) (a)) then 1 else 0 := hp23
          refine lv_if_ne (tgt := 204) hx hb d_M_perform_195 (by decide) (fun c_195 => absurd (bo_ne hp23 c_195) c_149) (fun c_195 => ?_)
          refine lv_iload hx hb d_M_perform_198 (lv_at hl 0 rfl) ?_
          refine lv_iload_n hx hb d_M_perform_200 rfl (lv_at hl 2 rfl) ?_
          refine lv_icmp_ne (tgt := 208) hx hb d_M_perform_201 (by decide) (fun c_201 => ?_) (fun c_201 => absurd c_201 c_155)
          refine lv_aload_n hx hb d_M_perform_208 rfl (lv_at hl 1 rfl) ?_
          refine wg hx hb hts i_M hown hW (0) (by omega) mm_root rfl 11 (by decide) (hts _ kf_M_43) rfl d_M_perform_209 ?_
          refine lv_iload hx hb d_M_perform_212 (lv_at hl 0 rfl) ?_
          refine wi hx hb hW (12) (by omega) mm_12 0 rfl (nn (r (6) (a))) e17 (by omega) (by decide) d_M_perform_214 ?_
          refine wis hx hb hW (6) (by omega) mm_6 0 rfl (a) zy1 (by omega) (by decide) (x := r (12) (nn (r (6) (a)))) mm_6 d_M_perform_215 (fun H locs hW => ?_)
          obtain ⟨mr24, ev24⟩ : ∃ zz : Vs, zz = u2 r (6) (a) (r (12) (nn (r (6) (a)))) := ⟨_, rfl⟩
          rw [← ev24] at hW
          have hO24 : OkM mr24 := by rw [ev24]; exact hO.fr (by omega)
          refine lv_goto (tgt := 309) hx hb d_M_perform_216 (by decide) ?_
          refine lv_iconst (v := 1) hx hb d_M_perform_309 (by decide) ?_
          have hfin : mPrf r x pn op a b z = mr24 := by
            subst ev24; subst h_9_7; unfold mPrf; simp only [if_neg c_149, if_neg c_155, if_pos c_164]; rfl
          exact hret _ () _ _ _ _ _ _ (ite_t (fun h => h.2.2.2 c_164)) (by show Wd D classes (tysA g) s A (wM g am (mPrf r x pn op a b z)) _ _; rw [hfin]; exact hW) (by decide) (by decide) d_M_perform_310
        · have c_164 : ¬ (edP r (r (6) (a))) := bo_eq hp22 c_164
          refine lv_aload_n hx hb d_M_perform_167 rfl (lv_at hl 1 rfl) ?_
          refine wg hx hb hts i_M hown hW (0) (by omega) mm_root rfl 8 (by decide) (hts _ kf_M_34) rfl d_M_perform_168 ?_
          refine lv_iload_n hx hb d_M_perform_171 rfl (lv_at hl 2 rfl) ?_
          refine lv_iconst (v := 3) hx hb d_M_perform_172 (by decide) ?_
          refine wis hx hb hW (9) (by omega) mm_9 0 rfl (pn) zx (by omega) (by decide) (x := 3) mm_9 d_M_perform_173 (fun H locs hW => ?_)
          obtain ⟨mr25, ev25⟩ : ∃ zz : Vs, zz = u2 r (9) (pn) (3) := ⟨_, rfl⟩
          rw [← ev25] at hW
          have hO25 : OkM mr25 := by rw [ev25]; exact hO.fr (by omega)
          refine lv_aload_n hx hb d_M_perform_174 rfl (lv_at hl 1 rfl) ?_
          refine wg hx hb hts i_M hown hW (0) (by omega) mm_root rfl 12 (by decide) (hts _ kf_M_46) rfl d_M_perform_175 ?_
          refine lv_iload_n hx hb d_M_perform_178 rfl (lv_at hl 2 rfl) ?_
          refine lv_iload hx hb d_M_perform_179 (lv_at hl 0 rfl) ?_
          refine wis hx hb hW (13) (by omega) mm_13 0 rfl (pn) zx (by omega) (by decide) (x := r (6) (a)) mm_13 d_M_perform_181 (fun H locs hW => ?_)
          obtain ⟨mr26, ev26⟩ : ∃ zz : Vs, zz = u2 mr25 (13) (pn) (r (6) (a)) := ⟨_, rfl⟩
          rw [← ev26] at hW
          have hO26 : OkM mr26 := by rw [ev26]; exact hO25.fr (by omega)
          refine lv_iconst (v := 0) hx hb d_M_perform_182 (by decide) ?_
          have hfin : mPrf r x pn op a b z = mr26 := by
            subst ev26 ev25; subst h_9_7; unfold mPrf; simp only [if_neg c_149, if_neg c_155, if_neg c_164]; rfl
          exact hret _ () _ _ _ _ _ _ (ite_f (fun h => h ⟨h_9_7, c_149, c_155, c_164⟩)) (by show Wd D classes (tysA g) s A (wM g am (mPrf r x pn op a b z)) _ _; rw [hfin]; exact hW) (by decide) (by decide) d_M_perform_183
  · refine lv_tableIn (tgt := 219) hx hb d_M_perform_9 (by rw [h_9_8]; decide) (by rw [h_9_8]; decide) (off := 210) (by rw [h_9_8]; rfl) (by decide) ?_
    refine lv_aload_n hx hb d_M_perform_219 rfl (lv_at hl 1 rfl) ?_
    refine wg hx hb hts i_M hown hW (0) (by omega) mm_root rfl 5 (by decide) (hts _ kf_M_25) rfl d_M_perform_220 ?_
    refine lv_iload_n hx hb d_M_perform_223 rfl (lv_at hl 4 rfl) ?_
    refine lv_aload_n hx hb d_M_perform_224 rfl (lv_at hl 1 rfl) ?_
    refine lv_iload hx hb d_M_perform_225 (lv_at hl 0 rfl) ?_
    refine wci hW hA (va_runV (As := [.int (r (6) (a))]) (rest := [.int (y1), .ref (am (6))]) ⟨hx, hb, hml, hown, hts⟩ (c_M_noProcess l (r (6) (a)) hO _) (cv 1 hts kc_M_noProcess ki_M_noProcess ke_M_noProcess kn_M km_M_100 kh_M_noProcess rfl rfl ⟨by decide, by decide⟩) (preW hW rfl rfl (mw_get (by omega) mm_root)) rfl rfl hl.1 rfl (lv_room (Nat.le_of_ble_eq_true rfl)) d_M_perform_227 ⟨by decide, by decide⟩) (fun rr27 uu27 H locs hp27 hW => ?_)
    have hW : Wd D classes (tysA g) s A (wM g am (r)) H locs := hW
    have hp27 : rr27 = if npP r (r (6) (a)) then 1 else 0 := hp27
    refine lv_if_ne (tgt := 248) hx hb d_M_perform_230 (by decide) (fun c_230 => ?_) (fun c_230 => ?_)
    · have c_230 : npP r (r (6) (a)) := bo_ne hp27 c_230
      refine lv_iconst (v := (-1)) hx hb d_M_perform_248 (by decide) ?_
      refine lv_goto (tgt := 253) hx hb d_M_perform_249 (by decide) ?_
      refine wis hx hb hW (6) (by omega) mm_6 0 rfl (a) zy1 (by omega) (by decide) (x := (-1)) mm_6 d_M_perform_253 (fun H locs hW => ?_)
      obtain ⟨mr29, ev29⟩ : ∃ zz : Vs, zz = u2 r (6) (a) ((-1)) := ⟨_, rfl⟩
      rw [← ev29] at hW
      have hO29 : OkM mr29 := by rw [ev29]; exact hO.fr (by omega)
      have hz0 : ¬ mr29 (6) (a) = 0 := by rw [ev29, u2_s]; decide
      refine lv_aload_n hx hb d_M_perform_254 rfl (lv_at hl 1 rfl) ?_
      refine wg hx hb hts i_M hown hW (0) (by omega) mm_root rfl 5 (by decide) (hts _ kf_M_25) rfl d_M_perform_255 ?_
      refine lv_iload_n hx hb d_M_perform_258 rfl (lv_at hl 4 rfl) ?_
      refine wi hx hb hW (6) (by omega) mm_6 0 rfl (a) zy1 (by omega) (by decide) d_M_perform_259 ?_
      refine lv_if_ne (tgt := 309) hx hb d_M_perform_260 (by decide) (fun c_260 => ?_) (fun c_260 => absurd c_260 hz0)
      refine lv_iconst (v := 1) hx hb d_M_perform_309 (by decide) ?_
      have hfin : mPrf r x pn op a b z = mr29 := by
        subst ev29; subst h_9_8; unfold mPrf; simp only [if_pos c_230]; rfl
      exact hret _ () _ _ _ _ _ _ (ite_t (fun h => by have h1 := h.1; rw [h_9_8] at h1; exact absurd h1 (by decide))) (by show Wd D classes (tysA g) s A (wM g am (mPrf r x pn op a b z)) _ _; rw [hfin]; exact hW) (by decide) (by decide) d_M_perform_310
    · have c_230 : ¬ (npP r (r (6) (a))) := bo_eq hp27 c_230
      obtain ⟨e28, b28⟩ := nnp_nn hO c_230
      refine lv_iload hx hb d_M_perform_233 (lv_at hl 0 rfl) ?_
      refine lv_iload_n hx hb d_M_perform_235 rfl (lv_at hl 2 rfl) ?_
      refine lv_icmp_eq (tgt := 248) hx hb d_M_perform_236 (by decide) (fun c_236 => ?_) (fun c_236 => ?_)
      · have nc_236 : nn (r (6) (a)) = pn := ni_eq e28 zx (by omega) (by omega) c_236
        refine lv_iconst (v := (-1)) hx hb d_M_perform_248 (by decide) ?_
        refine lv_goto (tgt := 253) hx hb d_M_perform_249 (by decide) ?_
        refine wis hx hb hW (6) (by omega) mm_6 0 rfl (a) zy1 (by omega) (by decide) (x := (-1)) mm_6 d_M_perform_253 (fun H locs hW => ?_)
        obtain ⟨mr30, ev30⟩ : ∃ zz : Vs, zz = u2 r (6) (a) ((-1)) := ⟨_, rfl⟩
        rw [← ev30] at hW
        have hO30 : OkM mr30 := by rw [ev30]; exact hO.fr (by omega)
        have hz0 : ¬ mr30 (6) (a) = 0 := by rw [ev30, u2_s]; decide
        refine lv_aload_n hx hb d_M_perform_254 rfl (lv_at hl 1 rfl) ?_
        refine wg hx hb hts i_M hown hW (0) (by omega) mm_root rfl 5 (by decide) (hts _ kf_M_25) rfl d_M_perform_255 ?_
        refine lv_iload_n hx hb d_M_perform_258 rfl (lv_at hl 4 rfl) ?_
        refine wi hx hb hW (6) (by omega) mm_6 0 rfl (a) zy1 (by omega) (by decide) d_M_perform_259 ?_
        refine lv_if_ne (tgt := 309) hx hb d_M_perform_260 (by decide) (fun c_260 => ?_) (fun c_260 => absurd c_260 hz0)
        refine lv_iconst (v := 1) hx hb d_M_perform_309 (by decide) ?_
        have hfin : mPrf r x pn op a b z = mr30 := by
          subst ev30; subst h_9_8; unfold mPrf; simp only [if_neg c_230, if_pos c_236]; rfl
        exact hret _ () _ _ _ _ _ _ (ite_t (fun h => by have h1 := h.1; rw [h_9_8] at h1; exact absurd h1 (by decide))) (by show Wd D classes (tysA g) s A (wM g am (mPrf r x pn op a b z)) _ _; rw [hfin]; exact hW) (by decide) (by decide) d_M_perform_310
      · have nc_236 : ¬ nn (r (6) (a)) = pn := ni_ne e28 zx (by omega) (by omega) c_236
        refine lv_aload_n hx hb d_M_perform_239 rfl (lv_at hl 1 rfl) ?_
        refine lv_iload hx hb d_M_perform_240 (lv_at hl 0 rfl) ?_
        refine wci hW hA (va_runV (As := [.int (r (6) (a))]) (rest := [.int (y1), .ref (am (6))]) ⟨hx, hb, hml, hown, hts⟩ (c_M_ended l (r (6) (a)) hO _) (cv 1 hts kc_M_ended ki_M_ended ke_M_ended kn_M km_M_111 kh_M_ended rfl rfl ⟨by decide, by decide⟩) (preW hW rfl rfl (mw_get (by omega) mm_root)) rfl rfl hl.1 rfl (lv_room (Nat.le_of_ble_eq_true rfl)) d_M_perform_242 ⟨by decide, by decide⟩) (fun rr31 uu31 H locs hp31 hW => ?_)
        have hW : Wd D classes (tysA g) s A (wM g am (r)) H locs := hW
        have hp31 : rr31 = if edP r (r (6) (a)) then 1 else 0 := hp31
        refine lv_if_eq (tgt := 252) hx hb d_M_perform_245 (by decide) (fun c_245 => ?_) (fun c_245 => ?_)
        · have c_245 : ¬ (edP r (r (6) (a))) := bo_eq hp31 c_245
          refine lv_iconst (v := 0) hx hb d_M_perform_252 (by decide) ?_
          refine wis hx hb hW (6) (by omega) mm_6 0 rfl (a) zy1 (by omega) (by decide) (x := 0) mm_6 d_M_perform_253 (fun H locs hW => ?_)
          obtain ⟨mr32, ev32⟩ : ∃ zz : Vs, zz = u2 r (6) (a) (0) := ⟨_, rfl⟩
          rw [← ev32] at hW
          have hO32 : OkM mr32 := by rw [ev32]; exact hO.fr (by omega)
          have hz0 : mr32 (6) (a) = 0 := by rw [ev32, u2_s]
          refine lv_aload_n hx hb d_M_perform_254 rfl (lv_at hl 1 rfl) ?_
          refine wg hx hb hts i_M hown hW (0) (by omega) mm_root rfl 5 (by decide) (hts _ kf_M_25) rfl d_M_perform_255 ?_
          refine lv_iload_n hx hb d_M_perform_258 rfl (lv_at hl 4 rfl) ?_
          refine wi hx hb hW (6) (by omega) mm_6 0 rfl (a) zy1 (by omega) (by decide) d_M_perform_259 ?_
          refine lv_if_ne (tgt := 309) hx hb d_M_perform_260 (by decide) (fun c_260 => absurd hz0 c_260) (fun c_260 => ?_)
          refine lv_aload_n hx hb d_M_perform_263 rfl (lv_at hl 1 rfl) ?_
          refine lv_iload hx hb d_M_perform_264 (lv_at hl 0 rfl) ?_
          refine lv_bipush (v := (-9)) hx hb d_M_perform_266 (by decide) ?_
          refine wcv hW hA (va_runV (As := [.int (r (6) (a)), .int ((-9))]) (rest := []) ⟨hx, hb, hml, hown, hts⟩ (c_M_end l (r (6) (a)) (nn (r (6) (a))) e28 (by omega) ((-9)) hO32 _) (cv 2 hts kc_M_end ki_M_end ke_M_end kn_M km_M_114 kh_M_end rfl rfl ⟨by decide, by decide⟩) (preW hW rfl rfl (mw_get (by omega) mm_root)) rfl rfl hl.1 rfl (lv_room (Nat.le_of_ble_eq_true rfl)) d_M_perform_268 ⟨by decide, by decide⟩) (fun uu33 H locs hp33 hW => ?_)
          have hW : Wd D classes (tysA g) s A (wM g am (mEnd mr32 (r (6) (a)) (nn (r (6) (a))) ((-9)))) H locs := hW
          obtain ⟨mr34, ev34⟩ : ∃ zz : Vs, zz = mEnd mr32 (r (6) (a)) (nn (r (6) (a))) ((-9)) := ⟨_, rfl⟩
          rw [← ev34] at hW
          have hO34 : OkM mr34 := by rw [ev34]; exact hO32.end
          refine lv_goto (tgt := 309) hx hb d_M_perform_271 (by decide) ?_
          refine lv_iconst (v := 1) hx hb d_M_perform_309 (by decide) ?_
          have hfin : mPrf r x pn op a b z = mr34 := by
            subst ev34 ev32; subst h_9_8; unfold mPrf; simp only [if_neg c_230, if_neg c_236, if_neg c_245]; rfl
          exact hret _ () _ _ _ _ _ _ (ite_t (fun h => by have h1 := h.1; rw [h_9_8] at h1; exact absurd h1 (by decide))) (by show Wd D classes (tysA g) s A (wM g am (mPrf r x pn op a b z)) _ _; rw [hfin]; exact hW) (by decide) (by decide) d_M_perform_310
        · have c_245 : edP r (r (6) (a)) := bo_ne hp31 c_245
          refine lv_iconst (v := (-1)) hx hb d_M_perform_248 (by decide) ?_
          refine lv_goto (tgt := 253) hx hb d_M_perform_249 (by decide) ?_
          refine wis hx hb hW (6) (by omega) mm_6 0 rfl (a) zy1 (by omega) (by decide) (x := (-1)) mm_6 d_M_perform_253 (fun H locs hW => ?_)
          obtain ⟨mr35, ev35⟩ : ∃ zz : Vs, zz = u2 r (6) (a) ((-1)) := ⟨_, rfl⟩
          rw [← ev35] at hW
          have hO35 : OkM mr35 := by rw [ev35]; exact hO.fr (by omega)
          have hz0 : ¬ mr35 (6) (a) = 0 := by rw [ev35, u2_s]; decide
          refine lv_aload_n hx hb d_M_perform_254 rfl (lv_at hl 1 rfl) ?_
          refine wg hx hb hts i_M hown hW (0) (by omega) mm_root rfl 5 (by decide) (hts _ kf_M_25) rfl d_M_perform_255 ?_
          refine lv_iload_n hx hb d_M_perform_258 rfl (lv_at hl 4 rfl) ?_
          refine wi hx hb hW (6) (by omega) mm_6 0 rfl (a) zy1 (by omega) (by decide) d_M_perform_259 ?_
          refine lv_if_ne (tgt := 309) hx hb d_M_perform_260 (by decide) (fun c_260 => ?_) (fun c_260 => absurd c_260 hz0)
          refine lv_iconst (v := 1) hx hb d_M_perform_309 (by decide) ?_
          have hfin : mPrf r x pn op a b z = mr35 := by
            subst ev35; subst h_9_8; unfold mPrf; simp only [if_neg c_230, if_neg c_236, if_pos c_245]; rfl
          exact hret _ () _ _ _ _ _ _ (ite_t (fun h => by have h1 := h.1; rw [h_9_8] at h1; exact absurd h1 (by decide))) (by show Wd D classes (tysA g) s A (wM g am (mPrf r x pn op a b z)) _ _; rw [hfin]; exact hW) (by decide) (by decide) d_M_perform_310
  · refine lv_tableIn (tgt := 274) hx hb d_M_perform_9 (by rw [h_9_9]; decide) (by rw [h_9_9]; decide) (off := 265) (by rw [h_9_9]; rfl) (by decide) ?_
    refine lv_aload_n hx hb d_M_perform_274 rfl (lv_at hl 1 rfl) ?_
    refine lv_iload_n hx hb d_M_perform_275 rfl (lv_at hl 2 rfl) ?_
    refine lv_iload hx hb d_M_perform_276 (lv_at hl 0 rfl) ?_
    refine wcv hW hA (va_runV (As := [.int (x), .int (r (6) (a))]) (rest := []) ⟨hx, hb, hml, hown, hts⟩ (c_M_end l (x) pn zx (by omega) (r (6) (a)) hO _) (cv 2 hts kc_M_end ki_M_end ke_M_end kn_M km_M_114 kh_M_end rfl rfl ⟨by decide, by decide⟩) (preW hW rfl rfl (mw_get (by omega) mm_root)) rfl rfl hl.1 rfl (lv_room (Nat.le_of_ble_eq_true rfl)) d_M_perform_278 ⟨by decide, by decide⟩) (fun uu36 H locs hp36 hW => ?_)
    have hW : Wd D classes (tysA g) s A (wM g am (mEnd r (x) pn (r (6) (a)))) H locs := hW
    obtain ⟨mr37, ev37⟩ : ∃ zz : Vs, zz = mEnd r (x) pn (r (6) (a)) := ⟨_, rfl⟩
    rw [← ev37] at hW
    have hO37 : OkM mr37 := by rw [ev37]; exact hO.end
    refine lv_goto (tgt := 309) hx hb d_M_perform_281 (by decide) ?_
    refine lv_iconst (v := 1) hx hb d_M_perform_309 (by decide) ?_
    have hfin : mPrf r x pn op a b z = mr37 := by
      subst ev37; subst h_9_9; rfl
    exact hret _ () _ _ _ _ _ _ (ite_t (fun h => by have h1 := h.1; rw [h_9_9] at h1; exact absurd h1 (by decide))) (by show Wd D classes (tysA g) s A (wM g am (mPrf r x pn op a b z)) _ _; rw [hfin]; exact hW) (by decide) (by decide) d_M_perform_310
  · refine lv_tableIn (tgt := 284) hx hb d_M_perform_9 (by rw [h_9_10]; decide) (by rw [h_9_10]; decide) (off := 275) (by rw [h_9_10]; rfl) (by decide) ?_
    refine lv_aload_n hx hb d_M_perform_284 rfl (lv_at hl 1 rfl) ?_
    refine wg hx hb hts i_M hown hW (0) (by omega) mm_root rfl 5 (by decide) (hts _ kf_M_25) rfl d_M_perform_285 ?_
    refine lv_iload_n hx hb d_M_perform_288 rfl (lv_at hl 4 rfl) ?_
    refine lv_iload_n hx hb d_M_perform_289 rfl (lv_at hl 2 rfl) ?_
    refine wis hx hb hW (6) (by omega) mm_6 0 rfl (a) zy1 (by omega) (by decide) (x := x) mm_6 d_M_perform_290 (fun H locs hW => ?_)
    obtain ⟨mr38, ev38⟩ : ∃ zz : Vs, zz = u2 r (6) (a) (x) := ⟨_, rfl⟩
    rw [← ev38] at hW
    have hO38 : OkM mr38 := by rw [ev38]; exact hO.fr (by omega)
    refine lv_goto (tgt := 309) hx hb d_M_perform_291 (by decide) ?_
    refine lv_iconst (v := 1) hx hb d_M_perform_309 (by decide) ?_
    have hfin : mPrf r x pn op a b z = mr38 := by
      subst ev38; subst h_9_10; rfl
    exact hret _ () _ _ _ _ _ _ (ite_t (fun h => by have h1 := h.1; rw [h_9_10] at h1; exact absurd h1 (by decide))) (by show Wd D classes (tysA g) s A (wM g am (mPrf r x pn op a b z)) _ _; rw [hfin]; exact hW) (by decide) (by decide) d_M_perform_310
  · refine lv_tableIn (tgt := 294) hx hb d_M_perform_9 (by rw [h_9_11]; decide) (by rw [h_9_11]; decide) (off := 285) (by rw [h_9_11]; rfl) (by decide) ?_
    refine lv_aload_n hx hb d_M_perform_294 rfl (lv_at hl 1 rfl) ?_
    refine wg hx hb hts i_M hown hW (0) (by omega) mm_root rfl 5 (by decide) (hts _ kf_M_25) rfl d_M_perform_295 ?_
    refine lv_iload_n hx hb d_M_perform_298 rfl (lv_at hl 4 rfl) ?_
    refine lv_aload_n hx hb d_M_perform_299 rfl (lv_at hl 1 rfl) ?_
    refine wg hx hb hts i_M hown hW (0) (by omega) mm_root rfl 7 (by decide) (hts _ kf_M_31) rfl d_M_perform_300 ?_
    refine lv_iload_n hx hb d_M_perform_303 rfl (lv_at hl 2 rfl) ?_
    refine wi hx hb hW (8) (by omega) mm_8 0 rfl (pn) zx (by omega) (by decide) d_M_perform_304 ?_
    obtain ⟨e39, b39⟩ := hO.c8 (pn)
    refine wis hx hb hW (6) (by omega) mm_6 0 rfl (a) zy1 (by omega) (by decide) (x := r (8) (pn)) mm_6 d_M_perform_305 (fun H locs hW => ?_)
    obtain ⟨mr40, ev40⟩ : ∃ zz : Vs, zz = u2 r (6) (a) (r (8) (pn)) := ⟨_, rfl⟩
    rw [← ev40] at hW
    have hO40 : OkM mr40 := by rw [ev40]; exact hO.fr (by omega)
    refine lv_goto (tgt := 309) hx hb d_M_perform_306 (by decide) ?_
    refine lv_iconst (v := 1) hx hb d_M_perform_309 (by decide) ?_
    have hfin : mPrf r x pn op a b z = mr40 := by
      subst ev40; subst h_9_11; rfl
    exact hret _ () _ _ _ _ _ _ (ite_t (fun h => by have h1 := h.1; rw [h_9_11] at h1; exact absurd h1 (by decide))) (by show Wd D classes (tysA g) s A (wM g am (mPrf r x pn op a b z)) _ _; rw [hfin]; exact hW) (by decide) (by decide) d_M_perform_310
abbrev rm_M_step : Room := { frames := 4, cells := 0, slots := 0, locals := 91 }
set_option maxHeartbeats 4000000 in
set_option maxRecDepth 100000 in
theorem c_M_step (l : Launch) {D : va_G} {g : Nat → ClassId} {am : Nat → Nat} {r : Vs} (x : Int32) (hO : OkM r) : MtI l y_M_step ws_M_step rm_M_step D classes (tysA g) [.ref (am (0)), .int (x)] (wM g am (r)) (fun (rr : Int32) (_ : Unit) => rr = (mStp r x).1) (fun _ => wM g am ((mStp r x).2)) 0 0 := by
  refine mt_i (ty := .int) (fun _ _ _ => rfl) (by decide +kernel) rfl (Nat.le_of_ble_eq_true rfl) (fun p e s m args below meth c Q A C hA hW hret ls hl => ?_)
  obtain ⟨hx, hb, hr, hml, hown, hts0, hlocks⟩ := C
  have hts : ∀ w ∈ bigw, w.before args s = true := fun w h => hts0 w (List.mem_cons_of_mem _ h)
  have hown : s.vm.findClass R_M = some m.cls := hown
  have hnp := hO.le
  have hl : lv_has ls 8 [(0, .ref (am (0))), (1, .int (x))] := hl
  refine lv_iload_n hx hb d_M_step_0 rfl (lv_at hl 1 rfl) ?_
  refine lv_iconst (v := 2) hx hb d_M_step_1 (by decide) ?_
  refine wci hW hA (va_runS (As := [.int (x), .int (2)]) (rest := []) ⟨hx, hb, hml, hown, hts⟩ (c_M_out l _ (x) (2) _) (cs 2 hts kc_M_out ks_M_out kn_M km_M_84 kh_M_out rfl rfl ⟨by decide, by decide⟩) (preWS hW) rfl rfl hl.1 rfl (lv_room (Nat.le_of_ble_eq_true rfl)) d_M_step_2 ⟨by decide, by decide⟩) (fun rr1 uu1 H locs hp1 hW => ?_)
  have hW : Wd D classes (tysA g) s A (wM g am (r)) H locs := hW
  have hp1 : rr1 = if outP (x) (2) then 1 else 0 := hp1
  refine lv_if_eq (tgt := 10) hx hb d_M_step_5 (by decide) (fun c_5 => ?_) (fun c_5 => ?_)
  · have c_5 : ¬ (outP (x) (2)) := bo_eq hp1 c_5
    obtain ⟨e2, b2⟩ := nout_nn (N := 2) rfl (by omega) c_5
    refine lv_aload_n hx hb d_M_step_10 rfl (lv_at hl 0 rfl) ?_
    refine lv_iload_n hx hb d_M_step_11 rfl (lv_at hl 1 rfl) ?_
    refine lv_iconst (v := 0) hx hb d_M_step_12 (by decide) ?_
    refine wci hW hA (va_runV (As := [.int (x), .int (0)]) (rest := []) ⟨hx, hb, hml, hown, hts⟩ (c_M_standing l (x) (0) hO _) (cv 2 hts kc_M_standing ki_M_standing ke_M_standing kn_M km_M_118 kh_M_standing rfl rfl ⟨by decide, by decide⟩) (preW hW rfl rfl (mw_get (by omega) mm_root)) rfl rfl hl.1 rfl (lv_room (Nat.le_of_ble_eq_true rfl)) d_M_step_13 ⟨by decide, by decide⟩) (fun rr3 uu3 H locs hp3 hW => ?_)
    have hW : Wd D classes (tysA g) s A (wM g am (r)) H locs := hW
    have hp3 : rr3 = mSt r (x) (0) := hp3
    subst hp3
    obtain ⟨e4, b4⟩ := mSt_nn hO (x := (x)) (y := (0))
    refine lv_istore_n (lv' := [(2, .int (mSt r (x) (0))), (0, .ref (am (0))), (1, .int (x))]) hx hb d_M_step_16 rfl hl (by decide) rfl (fun ls hl => ?_)
    refine lv_iload_n hx hb d_M_step_17 rfl (lv_at hl 0 rfl) ?_
    refine lv_bipush (v := 8) hx hb d_M_step_18 (by decide) ?_
    refine lv_icmp_ne (tgt := 26) hx hb d_M_step_20 (by decide) (fun c_20 => ?_) (fun c_20 => ?_)
    · have nc_20 : ¬ nn (mSt r (x) (0)) = 8 := ni_ne e4 rfl (by omega) (by omega) c_20
      refine lv_aload_n hx hb d_M_step_26 rfl (lv_at hl 1 rfl) ?_
      refine wg hx hb hts i_M hown hW (0) (by omega) mm_root rfl 6 (by decide) (hts _ kf_M_28) rfl d_M_step_27 ?_
      refine lv_iload_n hx hb d_M_step_30 rfl (lv_at hl 0 rfl) ?_
      refine wi hx hb hW (7) (by omega) mm_7 0 rfl (nn (mSt r (x) (0))) e4 (by omega) (by decide) d_M_step_31 ?_
      obtain ⟨e5, b5⟩ := hO.c7 (nn (mSt r (x) (0)))
      refine lv_aload_n hx hb d_M_step_32 rfl (lv_at hl 1 rfl) ?_
      refine wg hx hb hts i_M hown hW (0) (by omega) mm_root rfl 3 (by decide) (hts _ kf_M_19) rfl d_M_step_33 ?_
      refine lv_aload_n hx hb d_M_step_36 rfl (lv_at hl 1 rfl) ?_
      refine wg hx hb hts i_M hown hW (0) (by omega) mm_root rfl 4 (by decide) (hts _ kf_M_22) rfl d_M_step_37 ?_
      refine lv_iload_n hx hb d_M_step_40 rfl (lv_at hl 0 rfl) ?_
      refine wi hx hb hW (5) (by omega) mm_5 0 rfl (nn (mSt r (x) (0))) e4 (by omega) (by decide) d_M_step_41 ?_
      obtain ⟨e6, b6⟩ := hO.c5 (nn (mSt r (x) (0)))
      refine wi hx hb hW (4) (by omega) mm_4 0 rfl (nv r (5) (nn (mSt r (x) (0)))) e6 (by omega) (by decide) d_M_step_42 ?_
      obtain ⟨e7, b7⟩ := hO.c4 (nv r (5) (nn (mSt r (x) (0))))
      refine lv_icmp_lt (tgt := 57) hx hb d_M_step_43 (by decide) (fun c_43 => ?_) (fun c_43 => ?_)
      · have nc_43 : nv r (7) (nn (mSt r (x) (0))) < nv r (4) (nv r (5) (nn (mSt r (x) (0)))) := ni_lt e5 e7 (by omega) (by omega) c_43
        obtain ⟨h12, hrel⟩ := hO.rel c_43
        refine lv_bipush (v := 12) hx hb d_M_step_57 (by decide) ?_
        refine lv_aload_n hx hb d_M_step_59 rfl (lv_at hl 1 rfl) ?_
        refine wg hx hb hts i_M hown hW (0) (by omega) mm_root rfl 4 (by decide) (hts _ kf_M_22) rfl d_M_step_60 ?_
        refine lv_iload_n hx hb d_M_step_63 rfl (lv_at hl 0 rfl) ?_
        refine wi hx hb hW (5) (by omega) mm_5 0 rfl (nn (mSt r (x) (0))) e4 (by omega) (by decide) d_M_step_64 ?_
        obtain ⟨e8, b8⟩ := hO.c5 (nn (mSt r (x) (0)))
        refine lv_imul hx hb d_M_step_65 ?_
        refine lv_aload_n hx hb d_M_step_66 rfl (lv_at hl 1 rfl) ?_
        refine wg hx hb hts i_M hown hW (0) (by omega) mm_root rfl 6 (by decide) (hts _ kf_M_28) rfl d_M_step_67 ?_
        refine lv_iload_n hx hb d_M_step_70 rfl (lv_at hl 0 rfl) ?_
        refine wi hx hb hW (7) (by omega) mm_7 0 rfl (nn (mSt r (x) (0))) e4 (by omega) (by decide) d_M_step_71 ?_
        obtain ⟨e9, b9⟩ := hO.c7 (nn (mSt r (x) (0)))
        refine lv_iadd hx hb d_M_step_72 ?_
        refine lv_istore_n (lv' := [(3, .int (((12) * (r (5) (nn (mSt r (x) (0))))) + (r (7) (nn (mSt r (x) (0)))))), (2, .int (mSt r (x) (0))), (0, .ref (am (0))), (1, .int (x))]) hx hb d_M_step_73 rfl hl (by decide) rfl (fun ls hl => ?_)
        refine lv_aload_n hx hb d_M_step_74 rfl (lv_at hl 2 rfl) ?_
        refine wg hx hb hts i_M hown hW (0) (by omega) mm_root rfl 0 (by decide) (hts _ kf_M_7) rfl d_M_step_75 ?_
        refine lv_iload_n hx hb d_M_step_78 rfl (lv_at hl 0 rfl) ?_
        refine wi hx hb hW (1) (by omega) mm_1 0 rfl (12 * (nv r (5) (nn (mSt r (x) (0)))) + nv r (7) (nn (mSt r (x) (0)))) (ni_add (ni_mul rfl e8) e9) (by omega) (by decide) d_M_step_79 ?_
        refine lv_istore (lv' := [(4, .int (r (1) (12 * (nv r (5) (nn (mSt r (x) (0)))) + nv r (7) (nn (mSt r (x) (0)))))), (3, .int (((12) * (r (5) (nn (mSt r (x) (0))))) + (r (7) (nn (mSt r (x) (0)))))), (2, .int (mSt r (x) (0))), (0, .ref (am (0))), (1, .int (x))]) hx hb d_M_step_80 hl (by decide) rfl (fun ls hl => ?_)
        refine lv_iconst (v := 4) hx hb d_M_step_82 (by decide) ?_
        refine lv_iload_n hx hb d_M_step_83 rfl (lv_at hl 2 rfl) ?_
        refine lv_imul hx hb d_M_step_84 ?_
        refine lv_aload_n hx hb d_M_step_85 rfl (lv_at hl 3 rfl) ?_
        refine wg hx hb hts i_M hown hW (0) (by omega) mm_root rfl 1 (by decide) (hts _ kf_M_13) rfl d_M_step_86 ?_
        refine lv_iload_n hx hb d_M_step_89 rfl (lv_at hl 1 rfl) ?_
        refine wi hx hb hW (2) (by omega) mm_2 0 rfl (12 * (nv r (5) (nn (mSt r (x) (0)))) + nv r (7) (nn (mSt r (x) (0)))) (ni_add (ni_mul rfl e8) e9) (by omega) (by decide) d_M_step_90 ?_
        obtain ⟨e10, b10⟩ := hO.c2 (12 * (nv r (5) (nn (mSt r (x) (0)))) + nv r (7) (nn (mSt r (x) (0))))
        refine lv_iadd hx hb d_M_step_91 ?_
        refine lv_istore (lv' := [(5, .int (((4) * (mSt r (x) (0))) + (r (2) (12 * (nv r (5) (nn (mSt r (x) (0)))) + nv r (7) (nn (mSt r (x) (0))))))), (4, .int (r (1) (12 * (nv r (5) (nn (mSt r (x) (0)))) + nv r (7) (nn (mSt r (x) (0)))))), (3, .int (((12) * (r (5) (nn (mSt r (x) (0))))) + (r (7) (nn (mSt r (x) (0)))))), (2, .int (mSt r (x) (0))), (0, .ref (am (0))), (1, .int (x))]) hx hb d_M_step_92 hl (by decide) rfl (fun ls hl => ?_)
        refine lv_iconst (v := 4) hx hb d_M_step_94 (by decide) ?_
        refine lv_iload_n hx hb d_M_step_95 rfl (lv_at hl 3 rfl) ?_
        refine lv_imul hx hb d_M_step_96 ?_
        refine lv_aload_n hx hb d_M_step_97 rfl (lv_at hl 4 rfl) ?_
        refine wg hx hb hts i_M hown hW (0) (by omega) mm_root rfl 2 (by decide) (hts _ kf_M_16) rfl d_M_step_98 ?_
        refine lv_iload_n hx hb d_M_step_101 rfl (lv_at hl 2 rfl) ?_
        refine wi hx hb hW (3) (by omega) mm_3 0 rfl (12 * (nv r (5) (nn (mSt r (x) (0)))) + nv r (7) (nn (mSt r (x) (0)))) (ni_add (ni_mul rfl e8) e9) (by omega) (by decide) d_M_step_102 ?_
        refine lv_iconst (v := 3) hx hb d_M_step_103 (by decide) ?_
        have hbl11 := bl_lt (r (3) (12 * (nv r (5) (nn (mSt r (x) (0)))) + nv r (7) (nn (mSt r (x) (0))))) 3
        refine lv_iand hx hb d_M_step_104 ?_
        refine lv_iadd hx hb d_M_step_105 ?_
        refine lv_istore (lv' := [(6, .int (((4) * (mSt r (x) (0))) + ((r (3) (12 * (nv r (5) (nn (mSt r (x) (0)))) + nv r (7) (nn (mSt r (x) (0))))) &&& (3)))), (5, .int (((4) * (mSt r (x) (0))) + (r (2) (12 * (nv r (5) (nn (mSt r (x) (0)))) + nv r (7) (nn (mSt r (x) (0))))))), (4, .int (r (1) (12 * (nv r (5) (nn (mSt r (x) (0)))) + nv r (7) (nn (mSt r (x) (0)))))), (3, .int (((12) * (r (5) (nn (mSt r (x) (0))))) + (r (7) (nn (mSt r (x) (0)))))), (2, .int (mSt r (x) (0))), (0, .ref (am (0))), (1, .int (x))]) hx hb d_M_step_106 hl (by decide) rfl (fun ls hl => ?_)
        refine lv_aload_n hx hb d_M_step_108 rfl (lv_at hl 5 rfl) ?_
        refine lv_iload_n hx hb d_M_step_109 rfl (lv_at hl 4 rfl) ?_
        refine lv_iload hx hb d_M_step_110 (lv_at hl 2 rfl) ?_
        refine lv_aload_n hx hb d_M_step_112 rfl (lv_at hl 5 rfl) ?_
        refine wg hx hb hts i_M hown hW (0) (by omega) mm_root rfl 5 (by decide) (hts _ kf_M_25) rfl d_M_step_113 ?_
        refine lv_iload hx hb d_M_step_116 (lv_at hl 0 rfl) ?_
        refine wi hx hb hW (6) (by omega) mm_6 0 rfl (4 * (nn (mSt r (x) (0))) + bl (r (3) (12 * (nv r (5) (nn (mSt r (x) (0)))) + nv r (7) (nn (mSt r (x) (0))))) 3) (ni_add (ni_mul rfl e4) (ni_and3 _)) (by omega) (by decide) d_M_step_118 ?_
        refine lv_bipush (v := 31) hx hb d_M_step_119 (by decide) ?_
        have hbl12 := bl_lt (r (6) (4 * (nn (mSt r (x) (0))) + bl (r (3) (12 * (nv r (5) (nn (mSt r (x) (0)))) + nv r (7) (nn (mSt r (x) (0))))) 3)) 31
        refine lv_iand hx hb d_M_step_121 ?_
        refine wci hW hA (va_runV (As := [.int (mSt r (x) (0)), .int (r (1) (12 * (nv r (5) (nn (mSt r (x) (0)))) + nv r (7) (nn (mSt r (x) (0))))), .int ((r (6) (4 * (nn (mSt r (x) (0))) + bl (r (3) (12 * (nv r (5) (nn (mSt r (x) (0)))) + nv r (7) (nn (mSt r (x) (0))))) 3)) &&& (31))]) (rest := []) ⟨hx, hb, hml, hown, hts⟩ (c_M_fault l (mSt r (x) (0)) (nn (mSt r (x) (0))) e4 (by omega) (r (1) (12 * (nv r (5) (nn (mSt r (x) (0)))) + nv r (7) (nn (mSt r (x) (0))))) ((r (6) (4 * (nn (mSt r (x) (0))) + bl (r (3) (12 * (nv r (5) (nn (mSt r (x) (0)))) + nv r (7) (nn (mSt r (x) (0))))) 3)) &&& (31)) (bl (r (6) (4 * (nn (mSt r (x) (0))) + bl (r (3) (12 * (nv r (5) (nn (mSt r (x) (0)))) + nv r (7) (nn (mSt r (x) (0))))) 3)) 31) (ni_and31 _) (by omega) hO _) (cv 3 hts kc_M_fault ki_M_fault ke_M_fault kn_M km_M_121 kh_M_fault rfl rfl ⟨by decide, by decide⟩) (preW hW rfl rfl (mw_get (by omega) mm_root)) rfl rfl hl.1 rfl (lv_room (Nat.le_of_ble_eq_true rfl)) d_M_step_122 ⟨by decide, by decide⟩) (fun rr13 uu13 H locs hp13 hW => ?_)
        have hW : Wd D classes (tysA g) s A (wM g am (mFault r (nn (mSt r (x) (0))) (r (1) (12 * (nv r (5) (nn (mSt r (x) (0)))) + nv r (7) (nn (mSt r (x) (0))))) ((r (6) (4 * (nn (mSt r (x) (0))) + bl (r (3) (12 * (nv r (5) (nn (mSt r (x) (0)))) + nv r (7) (nn (mSt r (x) (0))))) 3)) &&& (31)) (bl (r (6) (4 * (nn (mSt r (x) (0))) + bl (r (3) (12 * (nv r (5) (nn (mSt r (x) (0)))) + nv r (7) (nn (mSt r (x) (0))))) 3)) 31))) H locs := hW
        obtain ⟨mr14, ev14⟩ : ∃ zz : Vs, zz = mFault r (nn (mSt r (x) (0))) (r (1) (12 * (nv r (5) (nn (mSt r (x) (0)))) + nv r (7) (nn (mSt r (x) (0))))) ((r (6) (4 * (nn (mSt r (x) (0))) + bl (r (3) (12 * (nv r (5) (nn (mSt r (x) (0)))) + nv r (7) (nn (mSt r (x) (0))))) 3)) &&& (31)) (bl (r (6) (4 * (nn (mSt r (x) (0))) + bl (r (3) (12 * (nv r (5) (nn (mSt r (x) (0)))) + nv r (7) (nn (mSt r (x) (0))))) 3)) 31) := ⟨_, rfl⟩
        rw [← ev14] at hW
        have hO14 : OkM mr14 := by rw [ev14]; exact hO.fault
        have hp13 : rr13 = if fltP r (nn (mSt r (x) (0))) (r (1) (12 * (nv r (5) (nn (mSt r (x) (0)))) + nv r (7) (nn (mSt r (x) (0))))) (bl (r (6) (4 * (nn (mSt r (x) (0))) + bl (r (3) (12 * (nv r (5) (nn (mSt r (x) (0)))) + nv r (7) (nn (mSt r (x) (0))))) 3)) 31) then 1 else 0 := hp13
        refine lv_if_eq (tgt := 133) hx hb d_M_step_125 (by decide) (fun c_125 => ?_) (fun c_125 => ?_)
        · have c_125 : ¬ (fltP r (nn (mSt r (x) (0))) (r (1) (12 * (nv r (5) (nn (mSt r (x) (0)))) + nv r (7) (nn (mSt r (x) (0))))) (bl (r (6) (4 * (nn (mSt r (x) (0))) + bl (r (3) (12 * (nv r (5) (nn (mSt r (x) (0)))) + nv r (7) (nn (mSt r (x) (0))))) 3)) 31)) := bo_eq hp13 c_125
          have hsame : mr14 = r := by rw [ev14]; unfold mFault; rw [if_neg c_125]
          rw [hsame] at hW
          refine lv_iload hx hb d_M_step_133 (lv_at hl 2 rfl) ?_
          refine lv_iconst (v := 5) hx hb d_M_step_135 (by decide) ?_
          refine lv_icmp_ne (tgt := 153) hx hb d_M_step_136 (by decide) (fun c_136 => ?_) (fun c_136 => ?_)
          · refine lv_iconst (v := 0) hx hb d_M_step_153 (by decide) ?_
            refine lv_istore (lv' := [(7, .int (0)), (6, .int (((4) * (mSt r (x) (0))) + ((r (3) (12 * (nv r (5) (nn (mSt r (x) (0)))) + nv r (7) (nn (mSt r (x) (0))))) &&& (3)))), (5, .int (((4) * (mSt r (x) (0))) + (r (2) (12 * (nv r (5) (nn (mSt r (x) (0)))) + nv r (7) (nn (mSt r (x) (0))))))), (4, .int (r (1) (12 * (nv r (5) (nn (mSt r (x) (0)))) + nv r (7) (nn (mSt r (x) (0)))))), (3, .int (((12) * (r (5) (nn (mSt r (x) (0))))) + (r (7) (nn (mSt r (x) (0)))))), (2, .int (mSt r (x) (0))), (0, .ref (am (0))), (1, .int (x))]) hx hb d_M_step_154 hl (by decide) rfl (fun ls hl => ?_)
            have h6 := hrel.1
            refine lv_aload_n hx hb d_M_step_156 rfl (lv_at hl 6 rfl) ?_
            refine lv_iload_n hx hb d_M_step_157 rfl (lv_at hl 5 rfl) ?_
            refine lv_iload hx hb d_M_step_158 (lv_at hl 3 rfl) ?_
            refine lv_iload hx hb d_M_step_160 (lv_at hl 2 rfl) ?_
            refine lv_iload hx hb d_M_step_162 (lv_at hl 1 rfl) ?_
            refine lv_aload_n hx hb d_M_step_164 rfl (lv_at hl 6 rfl) ?_
            refine wg hx hb hts i_M hown hW (0) (by omega) mm_root rfl 2 (by decide) (hts _ kf_M_16) rfl d_M_step_165 ?_
            refine lv_iload_n hx hb d_M_step_168 rfl (lv_at hl 4 rfl) ?_
            refine wi hx hb hW (3) (by omega) mm_3 0 rfl (12 * (nv r (5) (nn (mSt r (x) (0)))) + nv r (7) (nn (mSt r (x) (0)))) (ni_add (ni_mul rfl e8) e9) (by omega) (by decide) d_M_step_169 ?_
            refine wci hW hA (va_runV (As := [.int (mSt r (x) (0)), .int (r (1) (12 * (nv r (5) (nn (mSt r (x) (0)))) + nv r (7) (nn (mSt r (x) (0))))), .int (((4) * (mSt r (x) (0))) + (r (2) (12 * (nv r (5) (nn (mSt r (x) (0)))) + nv r (7) (nn (mSt r (x) (0)))))), .int (((4) * (mSt r (x) (0))) + ((r (3) (12 * (nv r (5) (nn (mSt r (x) (0)))) + nv r (7) (nn (mSt r (x) (0))))) &&& (3))), .int (r (3) (12 * (nv r (5) (nn (mSt r (x) (0)))) + nv r (7) (nn (mSt r (x) (0)))))]) (rest := []) ⟨hx, hb, hml, hown, hts⟩ (c_M_perform l (mSt r (x) (0)) (nn (mSt r (x) (0))) e4 (by omega) (r (1) (12 * (nv r (5) (nn (mSt r (x) (0)))) + nv r (7) (nn (mSt r (x) (0))))) (((4) * (mSt r (x) (0))) + (r (2) (12 * (nv r (5) (nn (mSt r (x) (0)))) + nv r (7) (nn (mSt r (x) (0)))))) (4 * (nn (mSt r (x) (0))) + nv r (2) (12 * (nv r (5) (nn (mSt r (x) (0)))) + nv r (7) (nn (mSt r (x) (0))))) (ni_add (ni_mul rfl e4) e10) (by omega) (((4) * (mSt r (x) (0))) + ((r (3) (12 * (nv r (5) (nn (mSt r (x) (0)))) + nv r (7) (nn (mSt r (x) (0))))) &&& (3))) (4 * (nn (mSt r (x) (0))) + bl (r (3) (12 * (nv r (5) (nn (mSt r (x) (0)))) + nv r (7) (nn (mSt r (x) (0))))) 3) (ni_add (ni_mul rfl e4) (ni_and3 _)) (by omega) (r (3) (12 * (nv r (5) (nn (mSt r (x) (0)))) + nv r (7) (nn (mSt r (x) (0))))) hO h6 _) (cv 5 hts kc_M_perform ki_M_perform ke_M_perform kn_M km_M_125 kh_M_perform rfl rfl ⟨by decide, by decide⟩) (preW hW rfl rfl (mw_get (by omega) mm_root)) rfl rfl hl.1 rfl (lv_room (Nat.le_of_ble_eq_true rfl)) d_M_step_170 ⟨by decide, by decide⟩) (fun rr15 uu15 H locs hp15 hW => ?_)
            have hW : Wd D classes (tysA g) s A (wM g am (mPrf r (mSt r (x) (0)) (nn (mSt r (x) (0))) (r (1) (12 * (nv r (5) (nn (mSt r (x) (0)))) + nv r (7) (nn (mSt r (x) (0))))) (4 * (nn (mSt r (x) (0))) + nv r (2) (12 * (nv r (5) (nn (mSt r (x) (0)))) + nv r (7) (nn (mSt r (x) (0))))) (4 * (nn (mSt r (x) (0))) + bl (r (3) (12 * (nv r (5) (nn (mSt r (x) (0)))) + nv r (7) (nn (mSt r (x) (0))))) 3) (r (3) (12 * (nv r (5) (nn (mSt r (x) (0)))) + nv r (7) (nn (mSt r (x) (0))))))) H locs := hW
            obtain ⟨mr16, ev16⟩ : ∃ zz : Vs, zz = mPrf r (mSt r (x) (0)) (nn (mSt r (x) (0))) (r (1) (12 * (nv r (5) (nn (mSt r (x) (0)))) + nv r (7) (nn (mSt r (x) (0))))) (4 * (nn (mSt r (x) (0))) + nv r (2) (12 * (nv r (5) (nn (mSt r (x) (0)))) + nv r (7) (nn (mSt r (x) (0))))) (4 * (nn (mSt r (x) (0))) + bl (r (3) (12 * (nv r (5) (nn (mSt r (x) (0)))) + nv r (7) (nn (mSt r (x) (0))))) 3) (r (3) (12 * (nv r (5) (nn (mSt r (x) (0)))) + nv r (7) (nn (mSt r (x) (0))))) := ⟨_, rfl⟩
            rw [← ev16] at hW
            have hO16 : OkM mr16 := by rw [ev16]; exact hO.prf h6
            have hp15 : rr15 = if ¬ wtP r (mSt r (x) (0)) (r (1) (12 * (nv r (5) (nn (mSt r (x) (0)))) + nv r (7) (nn (mSt r (x) (0))))) (4 * (nn (mSt r (x) (0))) + nv r (2) (12 * (nv r (5) (nn (mSt r (x) (0)))) + nv r (7) (nn (mSt r (x) (0))))) then 1 else 0 := hp15
            refine lv_if_ne (tgt := 181) hx hb d_M_step_173 (by decide) (fun c_173 => ?_) (fun c_173 => ?_)
            · have c_173 : ¬ wtP r (mSt r (x) (0)) (r (1) (12 * (nv r (5) (nn (mSt r (x) (0)))) + nv r (7) (nn (mSt r (x) (0))))) (4 * (nn (mSt r (x) (0))) + nv r (2) (12 * (nv r (5) (nn (mSt r (x) (0)))) + nv r (7) (nn (mSt r (x) (0))))) := bo_ne hp15 c_173
              have hs7 : mr16 7 = r 7 := by rw [ev16]; exact mPrf_st (Or.inr rfl)
              have hs3 : mr16 3 = r 3 := by rw [ev16]; exact mPrf_st (Or.inl (by omega))
              have hn7 : nv mr16 7 (nn (mSt r x 0)) = nv r 7 (nn (mSt r x 0)) := by unfold nv; rw [hs7]
              refine lv_aload_n hx hb d_M_step_181 rfl (lv_at hl 6 rfl) ?_
              refine wg hx hb hts i_M hown hW (0) (by omega) mm_root rfl 6 (by decide) (hts _ kf_M_28) rfl d_M_step_182 ?_
              refine lv_iload_n hx hb d_M_step_185 rfl (lv_at hl 5 rfl) ?_
              refine lv_iload hx hb d_M_step_186 (lv_at hl 0 rfl) ?_
              refine lv_if_eq (tgt := 200) hx hb d_M_step_188 (by decide) (fun c_188 => ?_) (fun c_188 => absurd (by decide) c_188)
              refine lv_aload_n hx hb d_M_step_200 rfl (lv_at hl 6 rfl) ?_
              refine wg hx hb hts i_M hown hW (0) (by omega) mm_root rfl 6 (by decide) (hts _ kf_M_28) rfl d_M_step_201 ?_
              refine lv_iload_n hx hb d_M_step_204 rfl (lv_at hl 5 rfl) ?_
              refine wi hx hb hW (7) (by omega) mm_7 0 rfl (nn (mSt r (x) (0))) e4 (by omega) (by decide) d_M_step_205 ?_
              obtain ⟨e17, b17⟩ := hO16.c7 (nn (mSt r (x) (0)))
              refine lv_iconst (v := 1) hx hb d_M_step_206 (by decide) ?_
              refine lv_iadd hx hb d_M_step_207 ?_
              refine wis hx hb hW (7) (by omega) mm_7 0 rfl (nn (mSt r (x) (0))) e4 (by omega) (by decide) (x := (mr16 (7) (nn (mSt r (x) (0)))) + (1)) mm_7 d_M_step_208 (fun H locs hW => ?_)
              obtain ⟨mr18, ev18⟩ : ∃ zz : Vs, zz = u2 mr16 (7) (nn (mSt r (x) (0))) ((mr16 (7) (nn (mSt r (x) (0)))) + (1)) := ⟨_, rfl⟩
              rw [← ev18] at hW
              have hO18 : OkM mr18 := by rw [ev18]; exact hO16.set (fun a => absurd a (by decide)) (fun a => absurd a (by decide)) (fun _ => ⟨nv mr16 (7) (nn (mSt r (x) (0))) + 1, by omega, (ni_add e17 rfl)⟩) (fun a => absurd a (by decide)) (fun a => absurd a (by decide)) (by decide)
              refine lv_aload_n hx hb d_M_step_209 rfl (lv_at hl 6 rfl) ?_
              refine wg hx hb hts i_M hown hW (0) (by omega) mm_root rfl 8 (by decide) (hts _ kf_M_34) rfl d_M_step_210 ?_
              refine lv_iload_n hx hb d_M_step_213 rfl (lv_at hl 5 rfl) ?_
              refine wi hx hb hW (9) (by omega) mm_9 0 rfl (nn (mSt r (x) (0))) e4 (by omega) (by decide) d_M_step_214 ?_
              refine lv_iconst (v := 4) hx hb d_M_step_215 (by decide) ?_
              refine lv_icmp_ne (tgt := 224) hx hb d_M_step_216 (by decide) (fun c_216 => ?_) (fun c_216 => ?_)
              · refine lv_aload_n hx hb d_M_step_224 rfl (lv_at hl 6 rfl) ?_
                refine wg hx hb hts i_M hown hW (0) (by omega) mm_root rfl 10 (by decide) (hts _ kf_M_40) rfl d_M_step_225 ?_
                refine lv_iload_n hx hb d_M_step_228 rfl (lv_at hl 5 rfl) ?_
                refine lv_dup2_11 hx hb d_M_step_229 rfl rfl ?_
                refine wi hx hb hW (11) (by omega) mm_11 0 rfl (nn (mSt r (x) (0))) e4 (by omega) (by decide) d_M_step_230 ?_
                refine lv_iconst (v := 1) hx hb d_M_step_231 (by decide) ?_
                refine lv_iadd hx hb d_M_step_232 ?_
                refine wis hx hb hW (11) (by omega) mm_11 0 rfl (nn (mSt r (x) (0))) e4 (by omega) (by decide) (x := (mr18 (11) (nn (mSt r (x) (0)))) + (1)) mm_11 d_M_step_233 (fun H locs hW => ?_)
                obtain ⟨mr19, ev19⟩ : ∃ zz : Vs, zz = u2 mr18 (11) (nn (mSt r (x) (0))) ((mr18 (11) (nn (mSt r (x) (0)))) + (1)) := ⟨_, rfl⟩
                rw [← ev19] at hW
                have hO19 : OkM mr19 := by rw [ev19]; exact hO18.fr (by omega)
                refine lv_iload hx hb d_M_step_234 (lv_at hl 3 rfl) ?_
                refine lv_bipush (v := 12) hx hb d_M_step_236 (by decide) ?_
                refine lv_icmp_eq (tgt := 251) hx hb d_M_step_238 (by decide) (fun c_238 => ?_) (fun c_238 => ?_)
                · refine lv_aload_n hx hb d_M_step_251 rfl (lv_at hl 6 rfl) ?_
                  refine lv_iload_n hx hb d_M_step_252 rfl (lv_at hl 5 rfl) ?_
                  refine wcv hW hA (va_runV (As := [.int (mSt r (x) (0))]) (rest := []) ⟨hx, hb, hml, hown, hts⟩ (c_M_ready l (mSt r (x) (0)) (nn (mSt r (x) (0))) e4 (by omega) hO19 _) (cv 1 hts kc_M_ready ki_M_ready ke_M_ready kn_M km_M_92 kh_M_ready rfl rfl ⟨by decide, by decide⟩) (preW hW rfl rfl (mw_get (by omega) mm_root)) rfl rfl hl.1 rfl (lv_room (Nat.le_of_ble_eq_true rfl)) d_M_step_253 ⟨by decide, by decide⟩) (fun uu20 H locs hp20 hW => ?_)
                  have hW : Wd D classes (tysA g) s A (wM g am (mRdy mr19 (nn (mSt r (x) (0))))) H locs := hW
                  obtain ⟨mr21, ev21⟩ : ∃ zz : Vs, zz = mRdy mr19 (nn (mSt r (x) (0))) := ⟨_, rfl⟩
                  rw [← ev21] at hW
                  have hO21 : OkM mr21 := by rw [ev21]; exact hO19.rdy
                  refine lv_iload_n hx hb d_M_step_256 rfl (lv_at hl 5 rfl) ?_
                  have hfin : mStp r x = (mSt r (x) (0), mr21) := by
                    subst ev21 ev19 ev18 ev16; simp only [mStp, mRun, mAft, mSl, if_neg c_5, if_neg c_20, if_pos c_43, if_neg c_125, if_neg c_136, if_pos c_173, if_neg c_216, if_pos c_238, if_true, if_pos (rfl : (0 : Int32) = 0)]
                  refine hret _ () _ _ _ _ _ _ ?_ (by show Wd D classes (tysA g) s A (wM g am ((mStp r x).2)) _ _; rw [hfin]; exact hW) (by decide) (by decide) d_M_step_257
                  show mSt r (x) (0) = (mStp r x).1
                  rw [hfin]
                · refine lv_aload_n hx hb d_M_step_241 rfl (lv_at hl 6 rfl) ?_
                  refine wg hx hb hts i_M hown hW (0) (by omega) mm_root rfl 10 (by decide) (hts _ kf_M_40) rfl d_M_step_242 ?_
                  refine lv_iload_n hx hb d_M_step_245 rfl (lv_at hl 5 rfl) ?_
                  refine wi hx hb hW (11) (by omega) mm_11 0 rfl (nn (mSt r (x) (0))) e4 (by omega) (by decide) d_M_step_246 ?_
                  refine lv_iconst (v := 3) hx hb d_M_step_247 (by decide) ?_
                  refine lv_icmp_ne (tgt := 256) hx hb d_M_step_248 (by decide) (fun c_248 => ?_) (fun c_248 => ?_)
                  · refine lv_iload_n hx hb d_M_step_256 rfl (lv_at hl 5 rfl) ?_
                    have hfin : mStp r x = (mSt r (x) (0), mr19) := by
                      subst ev19 ev18 ev16; simp only [mStp, mRun, mAft, mSl, if_neg c_5, if_neg c_20, if_pos c_43, if_neg c_125, if_neg c_136, if_pos c_173, if_neg c_216, if_neg c_238, if_neg c_248, if_true, if_pos (rfl : (0 : Int32) = 0)]
                    refine hret _ () _ _ _ _ _ _ ?_ (by show Wd D classes (tysA g) s A (wM g am ((mStp r x).2)) _ _; rw [hfin]; exact hW) (by decide) (by decide) d_M_step_257
                    show mSt r (x) (0) = (mStp r x).1
                    rw [hfin]
                  · refine lv_aload_n hx hb d_M_step_251 rfl (lv_at hl 6 rfl) ?_
                    refine lv_iload_n hx hb d_M_step_252 rfl (lv_at hl 5 rfl) ?_
                    refine wcv hW hA (va_runV (As := [.int (mSt r (x) (0))]) (rest := []) ⟨hx, hb, hml, hown, hts⟩ (c_M_ready l (mSt r (x) (0)) (nn (mSt r (x) (0))) e4 (by omega) hO19 _) (cv 1 hts kc_M_ready ki_M_ready ke_M_ready kn_M km_M_92 kh_M_ready rfl rfl ⟨by decide, by decide⟩) (preW hW rfl rfl (mw_get (by omega) mm_root)) rfl rfl hl.1 rfl (lv_room (Nat.le_of_ble_eq_true rfl)) d_M_step_253 ⟨by decide, by decide⟩) (fun uu22 H locs hp22 hW => ?_)
                    have hW : Wd D classes (tysA g) s A (wM g am (mRdy mr19 (nn (mSt r (x) (0))))) H locs := hW
                    obtain ⟨mr23, ev23⟩ : ∃ zz : Vs, zz = mRdy mr19 (nn (mSt r (x) (0))) := ⟨_, rfl⟩
                    rw [← ev23] at hW
                    have hO23 : OkM mr23 := by rw [ev23]; exact hO19.rdy
                    refine lv_iload_n hx hb d_M_step_256 rfl (lv_at hl 5 rfl) ?_
                    have hfin : mStp r x = (mSt r (x) (0), mr23) := by
                      subst ev23 ev19 ev18 ev16; simp only [mStp, mRun, mAft, mSl, if_neg c_5, if_neg c_20, if_pos c_43, if_neg c_125, if_neg c_136, if_pos c_173, if_neg c_216, if_neg c_238, if_pos c_248, if_true, if_pos (rfl : (0 : Int32) = 0)]
                    refine hret _ () _ _ _ _ _ _ ?_ (by show Wd D classes (tysA g) s A (wM g am ((mStp r x).2)) _ _; rw [hfin]; exact hW) (by decide) (by decide) d_M_step_257
                    show mSt r (x) (0) = (mStp r x).1
                    rw [hfin]
              · refine lv_bipush (v := 30) hx hb d_M_step_219 (by decide) ?_
                refine lv_iload_n hx hb d_M_step_221 rfl (lv_at hl 5 rfl) ?_
                refine lv_iadd hx hb d_M_step_222 ?_
                have hfin : mStp r x = ((30) + (mSt r (x) (0)), mr18) := by
                  subst ev18 ev16; simp only [mStp, mRun, mAft, mSl, if_neg c_5, if_neg c_20, if_pos c_43, if_neg c_125, if_neg c_136, if_pos c_173, if_pos c_216, if_true, if_pos (rfl : (0 : Int32) = 0)]
                refine hret _ () _ _ _ _ _ _ ?_ (by show Wd D classes (tysA g) s A (wM g am ((mStp r x).2)) _ _; rw [hfin]; exact hW) (by decide) (by decide) d_M_step_223
                show (30) + (mSt r (x) (0)) = (mStp r x).1
                rw [hfin]
            · have c_173 : ¬ (¬ wtP r (mSt r (x) (0)) (r (1) (12 * (nv r (5) (nn (mSt r (x) (0)))) + nv r (7) (nn (mSt r (x) (0))))) (4 * (nn (mSt r (x) (0))) + nv r (2) (12 * (nv r (5) (nn (mSt r (x) (0)))) + nv r (7) (nn (mSt r (x) (0)))))) := bo_eq hp15 c_173
              refine lv_bipush (v := 20) hx hb d_M_step_176 (by decide) ?_
              refine lv_iload_n hx hb d_M_step_178 rfl (lv_at hl 5 rfl) ?_
              refine lv_iadd hx hb d_M_step_179 ?_
              have hfin : mStp r x = ((20) + (mSt r (x) (0)), mr16) := by
                subst ev16; simp only [mStp, mRun, mAft, mSl, if_neg c_5, if_neg c_20, if_pos c_43, if_neg c_125, if_neg c_136, if_neg c_173, if_true, if_pos (rfl : (0 : Int32) = 0)]
              refine hret _ () _ _ _ _ _ _ ?_ (by show Wd D classes (tysA g) s A (wM g am ((mStp r x).2)) _ _; rw [hfin]; exact hW) (by decide) (by decide) d_M_step_180
              show (20) + (mSt r (x) (0)) = (mStp r x).1
              rw [hfin]
          · refine lv_aload_n hx hb d_M_step_139 rfl (lv_at hl 5 rfl) ?_
            refine wg hx hb hts i_M hown hW (0) (by omega) mm_root rfl 5 (by decide) (hts _ kf_M_25) rfl d_M_step_140 ?_
            refine lv_iload hx hb d_M_step_143 (lv_at hl 1 rfl) ?_
            refine wi hx hb hW (6) (by omega) mm_6 0 rfl (4 * (nn (mSt r (x) (0))) + nv r (2) (12 * (nv r (5) (nn (mSt r (x) (0)))) + nv r (7) (nn (mSt r (x) (0))))) (ni_add (ni_mul rfl e4) e10) (by omega) (by decide) d_M_step_145 ?_
            refine lv_if_eq (tgt := 153) hx hb d_M_step_146 (by decide) (fun c_146 => ?_) (fun c_146 => ?_)
            · refine lv_iconst (v := 0) hx hb d_M_step_153 (by decide) ?_
              refine lv_istore (lv' := [(7, .int (0)), (6, .int (((4) * (mSt r (x) (0))) + ((r (3) (12 * (nv r (5) (nn (mSt r (x) (0)))) + nv r (7) (nn (mSt r (x) (0))))) &&& (3)))), (5, .int (((4) * (mSt r (x) (0))) + (r (2) (12 * (nv r (5) (nn (mSt r (x) (0)))) + nv r (7) (nn (mSt r (x) (0))))))), (4, .int (r (1) (12 * (nv r (5) (nn (mSt r (x) (0)))) + nv r (7) (nn (mSt r (x) (0)))))), (3, .int (((12) * (r (5) (nn (mSt r (x) (0))))) + (r (7) (nn (mSt r (x) (0)))))), (2, .int (mSt r (x) (0))), (0, .ref (am (0))), (1, .int (x))]) hx hb d_M_step_154 hl (by decide) rfl (fun ls hl => ?_)
              have h6 := hrel.1
              refine lv_aload_n hx hb d_M_step_156 rfl (lv_at hl 6 rfl) ?_
              refine lv_iload_n hx hb d_M_step_157 rfl (lv_at hl 5 rfl) ?_
              refine lv_iload hx hb d_M_step_158 (lv_at hl 3 rfl) ?_
              refine lv_iload hx hb d_M_step_160 (lv_at hl 2 rfl) ?_
              refine lv_iload hx hb d_M_step_162 (lv_at hl 1 rfl) ?_
              refine lv_aload_n hx hb d_M_step_164 rfl (lv_at hl 6 rfl) ?_
              refine wg hx hb hts i_M hown hW (0) (by omega) mm_root rfl 2 (by decide) (hts _ kf_M_16) rfl d_M_step_165 ?_
              refine lv_iload_n hx hb d_M_step_168 rfl (lv_at hl 4 rfl) ?_
              refine wi hx hb hW (3) (by omega) mm_3 0 rfl (12 * (nv r (5) (nn (mSt r (x) (0)))) + nv r (7) (nn (mSt r (x) (0)))) (ni_add (ni_mul rfl e8) e9) (by omega) (by decide) d_M_step_169 ?_
              refine wci hW hA (va_runV (As := [.int (mSt r (x) (0)), .int (r (1) (12 * (nv r (5) (nn (mSt r (x) (0)))) + nv r (7) (nn (mSt r (x) (0))))), .int (((4) * (mSt r (x) (0))) + (r (2) (12 * (nv r (5) (nn (mSt r (x) (0)))) + nv r (7) (nn (mSt r (x) (0)))))), .int (((4) * (mSt r (x) (0))) + ((r (3) (12 * (nv r (5) (nn (mSt r (x) (0)))) + nv r (7) (nn (mSt r (x) (0))))) &&& (3))), .int (r (3) (12 * (nv r (5) (nn (mSt r (x) (0)))) + nv r (7) (nn (mSt r (x) (0)))))]) (rest := []) ⟨hx, hb, hml, hown, hts⟩ (c_M_perform l (mSt r (x) (0)) (nn (mSt r (x) (0))) e4 (by omega) (r (1) (12 * (nv r (5) (nn (mSt r (x) (0)))) + nv r (7) (nn (mSt r (x) (0))))) (((4) * (mSt r (x) (0))) + (r (2) (12 * (nv r (5) (nn (mSt r (x) (0)))) + nv r (7) (nn (mSt r (x) (0)))))) (4 * (nn (mSt r (x) (0))) + nv r (2) (12 * (nv r (5) (nn (mSt r (x) (0)))) + nv r (7) (nn (mSt r (x) (0))))) (ni_add (ni_mul rfl e4) e10) (by omega) (((4) * (mSt r (x) (0))) + ((r (3) (12 * (nv r (5) (nn (mSt r (x) (0)))) + nv r (7) (nn (mSt r (x) (0))))) &&& (3))) (4 * (nn (mSt r (x) (0))) + bl (r (3) (12 * (nv r (5) (nn (mSt r (x) (0)))) + nv r (7) (nn (mSt r (x) (0))))) 3) (ni_add (ni_mul rfl e4) (ni_and3 _)) (by omega) (r (3) (12 * (nv r (5) (nn (mSt r (x) (0)))) + nv r (7) (nn (mSt r (x) (0))))) hO h6 _) (cv 5 hts kc_M_perform ki_M_perform ke_M_perform kn_M km_M_125 kh_M_perform rfl rfl ⟨by decide, by decide⟩) (preW hW rfl rfl (mw_get (by omega) mm_root)) rfl rfl hl.1 rfl (lv_room (Nat.le_of_ble_eq_true rfl)) d_M_step_170 ⟨by decide, by decide⟩) (fun rr24 uu24 H locs hp24 hW => ?_)
              have hW : Wd D classes (tysA g) s A (wM g am (mPrf r (mSt r (x) (0)) (nn (mSt r (x) (0))) (r (1) (12 * (nv r (5) (nn (mSt r (x) (0)))) + nv r (7) (nn (mSt r (x) (0))))) (4 * (nn (mSt r (x) (0))) + nv r (2) (12 * (nv r (5) (nn (mSt r (x) (0)))) + nv r (7) (nn (mSt r (x) (0))))) (4 * (nn (mSt r (x) (0))) + bl (r (3) (12 * (nv r (5) (nn (mSt r (x) (0)))) + nv r (7) (nn (mSt r (x) (0))))) 3) (r (3) (12 * (nv r (5) (nn (mSt r (x) (0)))) + nv r (7) (nn (mSt r (x) (0))))))) H locs := hW
              obtain ⟨mr25, ev25⟩ : ∃ zz : Vs, zz = mPrf r (mSt r (x) (0)) (nn (mSt r (x) (0))) (r (1) (12 * (nv r (5) (nn (mSt r (x) (0)))) + nv r (7) (nn (mSt r (x) (0))))) (4 * (nn (mSt r (x) (0))) + nv r (2) (12 * (nv r (5) (nn (mSt r (x) (0)))) + nv r (7) (nn (mSt r (x) (0))))) (4 * (nn (mSt r (x) (0))) + bl (r (3) (12 * (nv r (5) (nn (mSt r (x) (0)))) + nv r (7) (nn (mSt r (x) (0))))) 3) (r (3) (12 * (nv r (5) (nn (mSt r (x) (0)))) + nv r (7) (nn (mSt r (x) (0))))) := ⟨_, rfl⟩
              rw [← ev25] at hW
              have hO25 : OkM mr25 := by rw [ev25]; exact hO.prf h6
              have hp24 : rr24 = if ¬ wtP r (mSt r (x) (0)) (r (1) (12 * (nv r (5) (nn (mSt r (x) (0)))) + nv r (7) (nn (mSt r (x) (0))))) (4 * (nn (mSt r (x) (0))) + nv r (2) (12 * (nv r (5) (nn (mSt r (x) (0)))) + nv r (7) (nn (mSt r (x) (0))))) then 1 else 0 := hp24
              refine lv_if_ne (tgt := 181) hx hb d_M_step_173 (by decide) (fun c_173 => ?_) (fun c_173 => ?_)
              · have c_173 : ¬ wtP r (mSt r (x) (0)) (r (1) (12 * (nv r (5) (nn (mSt r (x) (0)))) + nv r (7) (nn (mSt r (x) (0))))) (4 * (nn (mSt r (x) (0))) + nv r (2) (12 * (nv r (5) (nn (mSt r (x) (0)))) + nv r (7) (nn (mSt r (x) (0))))) := bo_ne hp24 c_173
                have hs7 : mr25 7 = r 7 := by rw [ev25]; exact mPrf_st (Or.inr rfl)
                have hs3 : mr25 3 = r 3 := by rw [ev25]; exact mPrf_st (Or.inl (by omega))
                have hn7 : nv mr25 7 (nn (mSt r x 0)) = nv r 7 (nn (mSt r x 0)) := by unfold nv; rw [hs7]
                refine lv_aload_n hx hb d_M_step_181 rfl (lv_at hl 6 rfl) ?_
                refine wg hx hb hts i_M hown hW (0) (by omega) mm_root rfl 6 (by decide) (hts _ kf_M_28) rfl d_M_step_182 ?_
                refine lv_iload_n hx hb d_M_step_185 rfl (lv_at hl 5 rfl) ?_
                refine lv_iload hx hb d_M_step_186 (lv_at hl 0 rfl) ?_
                refine lv_if_eq (tgt := 200) hx hb d_M_step_188 (by decide) (fun c_188 => ?_) (fun c_188 => absurd (by decide) c_188)
                refine lv_aload_n hx hb d_M_step_200 rfl (lv_at hl 6 rfl) ?_
                refine wg hx hb hts i_M hown hW (0) (by omega) mm_root rfl 6 (by decide) (hts _ kf_M_28) rfl d_M_step_201 ?_
                refine lv_iload_n hx hb d_M_step_204 rfl (lv_at hl 5 rfl) ?_
                refine wi hx hb hW (7) (by omega) mm_7 0 rfl (nn (mSt r (x) (0))) e4 (by omega) (by decide) d_M_step_205 ?_
                obtain ⟨e26, b26⟩ := hO25.c7 (nn (mSt r (x) (0)))
                refine lv_iconst (v := 1) hx hb d_M_step_206 (by decide) ?_
                refine lv_iadd hx hb d_M_step_207 ?_
                refine wis hx hb hW (7) (by omega) mm_7 0 rfl (nn (mSt r (x) (0))) e4 (by omega) (by decide) (x := (mr25 (7) (nn (mSt r (x) (0)))) + (1)) mm_7 d_M_step_208 (fun H locs hW => ?_)
                obtain ⟨mr27, ev27⟩ : ∃ zz : Vs, zz = u2 mr25 (7) (nn (mSt r (x) (0))) ((mr25 (7) (nn (mSt r (x) (0)))) + (1)) := ⟨_, rfl⟩
                rw [← ev27] at hW
                have hO27 : OkM mr27 := by rw [ev27]; exact hO25.set (fun a => absurd a (by decide)) (fun a => absurd a (by decide)) (fun _ => ⟨nv mr25 (7) (nn (mSt r (x) (0))) + 1, by omega, (ni_add e26 rfl)⟩) (fun a => absurd a (by decide)) (fun a => absurd a (by decide)) (by decide)
                refine lv_aload_n hx hb d_M_step_209 rfl (lv_at hl 6 rfl) ?_
                refine wg hx hb hts i_M hown hW (0) (by omega) mm_root rfl 8 (by decide) (hts _ kf_M_34) rfl d_M_step_210 ?_
                refine lv_iload_n hx hb d_M_step_213 rfl (lv_at hl 5 rfl) ?_
                refine wi hx hb hW (9) (by omega) mm_9 0 rfl (nn (mSt r (x) (0))) e4 (by omega) (by decide) d_M_step_214 ?_
                refine lv_iconst (v := 4) hx hb d_M_step_215 (by decide) ?_
                refine lv_icmp_ne (tgt := 224) hx hb d_M_step_216 (by decide) (fun c_216 => ?_) (fun c_216 => ?_)
                · refine lv_aload_n hx hb d_M_step_224 rfl (lv_at hl 6 rfl) ?_
                  refine wg hx hb hts i_M hown hW (0) (by omega) mm_root rfl 10 (by decide) (hts _ kf_M_40) rfl d_M_step_225 ?_
                  refine lv_iload_n hx hb d_M_step_228 rfl (lv_at hl 5 rfl) ?_
                  refine lv_dup2_11 hx hb d_M_step_229 rfl rfl ?_
                  refine wi hx hb hW (11) (by omega) mm_11 0 rfl (nn (mSt r (x) (0))) e4 (by omega) (by decide) d_M_step_230 ?_
                  refine lv_iconst (v := 1) hx hb d_M_step_231 (by decide) ?_
                  refine lv_iadd hx hb d_M_step_232 ?_
                  refine wis hx hb hW (11) (by omega) mm_11 0 rfl (nn (mSt r (x) (0))) e4 (by omega) (by decide) (x := (mr27 (11) (nn (mSt r (x) (0)))) + (1)) mm_11 d_M_step_233 (fun H locs hW => ?_)
                  obtain ⟨mr28, ev28⟩ : ∃ zz : Vs, zz = u2 mr27 (11) (nn (mSt r (x) (0))) ((mr27 (11) (nn (mSt r (x) (0)))) + (1)) := ⟨_, rfl⟩
                  rw [← ev28] at hW
                  have hO28 : OkM mr28 := by rw [ev28]; exact hO27.fr (by omega)
                  refine lv_iload hx hb d_M_step_234 (lv_at hl 3 rfl) ?_
                  refine lv_bipush (v := 12) hx hb d_M_step_236 (by decide) ?_
                  refine lv_icmp_eq (tgt := 251) hx hb d_M_step_238 (by decide) (fun c_238 => ?_) (fun c_238 => ?_)
                  · refine lv_aload_n hx hb d_M_step_251 rfl (lv_at hl 6 rfl) ?_
                    refine lv_iload_n hx hb d_M_step_252 rfl (lv_at hl 5 rfl) ?_
                    refine wcv hW hA (va_runV (As := [.int (mSt r (x) (0))]) (rest := []) ⟨hx, hb, hml, hown, hts⟩ (c_M_ready l (mSt r (x) (0)) (nn (mSt r (x) (0))) e4 (by omega) hO28 _) (cv 1 hts kc_M_ready ki_M_ready ke_M_ready kn_M km_M_92 kh_M_ready rfl rfl ⟨by decide, by decide⟩) (preW hW rfl rfl (mw_get (by omega) mm_root)) rfl rfl hl.1 rfl (lv_room (Nat.le_of_ble_eq_true rfl)) d_M_step_253 ⟨by decide, by decide⟩) (fun uu29 H locs hp29 hW => ?_)
                    have hW : Wd D classes (tysA g) s A (wM g am (mRdy mr28 (nn (mSt r (x) (0))))) H locs := hW
                    obtain ⟨mr30, ev30⟩ : ∃ zz : Vs, zz = mRdy mr28 (nn (mSt r (x) (0))) := ⟨_, rfl⟩
                    rw [← ev30] at hW
                    have hO30 : OkM mr30 := by rw [ev30]; exact hO28.rdy
                    refine lv_iload_n hx hb d_M_step_256 rfl (lv_at hl 5 rfl) ?_
                    have hfin : mStp r x = (mSt r (x) (0), mr30) := by
                      subst ev30 ev28 ev27 ev25; simp only [mStp, mRun, mAft, mSl, if_neg c_5, if_neg c_20, if_pos c_43, if_neg c_125, if_pos c_136, if_pos c_146, if_pos c_173, if_neg c_216, if_pos c_238, if_true, if_pos (rfl : (0 : Int32) = 0)]
                    refine hret _ () _ _ _ _ _ _ ?_ (by show Wd D classes (tysA g) s A (wM g am ((mStp r x).2)) _ _; rw [hfin]; exact hW) (by decide) (by decide) d_M_step_257
                    show mSt r (x) (0) = (mStp r x).1
                    rw [hfin]
                  · refine lv_aload_n hx hb d_M_step_241 rfl (lv_at hl 6 rfl) ?_
                    refine wg hx hb hts i_M hown hW (0) (by omega) mm_root rfl 10 (by decide) (hts _ kf_M_40) rfl d_M_step_242 ?_
                    refine lv_iload_n hx hb d_M_step_245 rfl (lv_at hl 5 rfl) ?_
                    refine wi hx hb hW (11) (by omega) mm_11 0 rfl (nn (mSt r (x) (0))) e4 (by omega) (by decide) d_M_step_246 ?_
                    refine lv_iconst (v := 3) hx hb d_M_step_247 (by decide) ?_
                    refine lv_icmp_ne (tgt := 256) hx hb d_M_step_248 (by decide) (fun c_248 => ?_) (fun c_248 => ?_)
                    · refine lv_iload_n hx hb d_M_step_256 rfl (lv_at hl 5 rfl) ?_
                      have hfin : mStp r x = (mSt r (x) (0), mr28) := by
                        subst ev28 ev27 ev25; simp only [mStp, mRun, mAft, mSl, if_neg c_5, if_neg c_20, if_pos c_43, if_neg c_125, if_pos c_136, if_pos c_146, if_pos c_173, if_neg c_216, if_neg c_238, if_neg c_248, if_true, if_pos (rfl : (0 : Int32) = 0)]
                      refine hret _ () _ _ _ _ _ _ ?_ (by show Wd D classes (tysA g) s A (wM g am ((mStp r x).2)) _ _; rw [hfin]; exact hW) (by decide) (by decide) d_M_step_257
                      show mSt r (x) (0) = (mStp r x).1
                      rw [hfin]
                    · refine lv_aload_n hx hb d_M_step_251 rfl (lv_at hl 6 rfl) ?_
                      refine lv_iload_n hx hb d_M_step_252 rfl (lv_at hl 5 rfl) ?_
                      refine wcv hW hA (va_runV (As := [.int (mSt r (x) (0))]) (rest := []) ⟨hx, hb, hml, hown, hts⟩ (c_M_ready l (mSt r (x) (0)) (nn (mSt r (x) (0))) e4 (by omega) hO28 _) (cv 1 hts kc_M_ready ki_M_ready ke_M_ready kn_M km_M_92 kh_M_ready rfl rfl ⟨by decide, by decide⟩) (preW hW rfl rfl (mw_get (by omega) mm_root)) rfl rfl hl.1 rfl (lv_room (Nat.le_of_ble_eq_true rfl)) d_M_step_253 ⟨by decide, by decide⟩) (fun uu31 H locs hp31 hW => ?_)
                      have hW : Wd D classes (tysA g) s A (wM g am (mRdy mr28 (nn (mSt r (x) (0))))) H locs := hW
                      obtain ⟨mr32, ev32⟩ : ∃ zz : Vs, zz = mRdy mr28 (nn (mSt r (x) (0))) := ⟨_, rfl⟩
                      rw [← ev32] at hW
                      have hO32 : OkM mr32 := by rw [ev32]; exact hO28.rdy
                      refine lv_iload_n hx hb d_M_step_256 rfl (lv_at hl 5 rfl) ?_
                      have hfin : mStp r x = (mSt r (x) (0), mr32) := by
                        subst ev32 ev28 ev27 ev25; simp only [mStp, mRun, mAft, mSl, if_neg c_5, if_neg c_20, if_pos c_43, if_neg c_125, if_pos c_136, if_pos c_146, if_pos c_173, if_neg c_216, if_neg c_238, if_pos c_248, if_true, if_pos (rfl : (0 : Int32) = 0)]
                      refine hret _ () _ _ _ _ _ _ ?_ (by show Wd D classes (tysA g) s A (wM g am ((mStp r x).2)) _ _; rw [hfin]; exact hW) (by decide) (by decide) d_M_step_257
                      show mSt r (x) (0) = (mStp r x).1
                      rw [hfin]
                · refine lv_bipush (v := 30) hx hb d_M_step_219 (by decide) ?_
                  refine lv_iload_n hx hb d_M_step_221 rfl (lv_at hl 5 rfl) ?_
                  refine lv_iadd hx hb d_M_step_222 ?_
                  have hfin : mStp r x = ((30) + (mSt r (x) (0)), mr27) := by
                    subst ev27 ev25; simp only [mStp, mRun, mAft, mSl, if_neg c_5, if_neg c_20, if_pos c_43, if_neg c_125, if_pos c_136, if_pos c_146, if_pos c_173, if_pos c_216, if_true, if_pos (rfl : (0 : Int32) = 0)]
                  refine hret _ () _ _ _ _ _ _ ?_ (by show Wd D classes (tysA g) s A (wM g am ((mStp r x).2)) _ _; rw [hfin]; exact hW) (by decide) (by decide) d_M_step_223
                  show (30) + (mSt r (x) (0)) = (mStp r x).1
                  rw [hfin]
              · have c_173 : ¬ (¬ wtP r (mSt r (x) (0)) (r (1) (12 * (nv r (5) (nn (mSt r (x) (0)))) + nv r (7) (nn (mSt r (x) (0))))) (4 * (nn (mSt r (x) (0))) + nv r (2) (12 * (nv r (5) (nn (mSt r (x) (0)))) + nv r (7) (nn (mSt r (x) (0)))))) := bo_eq hp24 c_173
                refine lv_bipush (v := 20) hx hb d_M_step_176 (by decide) ?_
                refine lv_iload_n hx hb d_M_step_178 rfl (lv_at hl 5 rfl) ?_
                refine lv_iadd hx hb d_M_step_179 ?_
                have hfin : mStp r x = ((20) + (mSt r (x) (0)), mr25) := by
                  subst ev25; simp only [mStp, mRun, mAft, mSl, if_neg c_5, if_neg c_20, if_pos c_43, if_neg c_125, if_pos c_136, if_pos c_146, if_neg c_173, if_true, if_pos (rfl : (0 : Int32) = 0)]
                refine hret _ () _ _ _ _ _ _ ?_ (by show Wd D classes (tysA g) s A (wM g am ((mStp r x).2)) _ _; rw [hfin]; exact hW) (by decide) (by decide) d_M_step_180
                show (20) + (mSt r (x) (0)) = (mStp r x).1
                rw [hfin]
            · refine lv_iconst (v := 1) hx hb d_M_step_149 (by decide) ?_
              refine lv_goto (tgt := 154) hx hb d_M_step_150 (by decide) ?_
              refine lv_istore (lv' := [(7, .int (1)), (6, .int (((4) * (mSt r (x) (0))) + ((r (3) (12 * (nv r (5) (nn (mSt r (x) (0)))) + nv r (7) (nn (mSt r (x) (0))))) &&& (3)))), (5, .int (((4) * (mSt r (x) (0))) + (r (2) (12 * (nv r (5) (nn (mSt r (x) (0)))) + nv r (7) (nn (mSt r (x) (0))))))), (4, .int (r (1) (12 * (nv r (5) (nn (mSt r (x) (0)))) + nv r (7) (nn (mSt r (x) (0)))))), (3, .int (((12) * (r (5) (nn (mSt r (x) (0))))) + (r (7) (nn (mSt r (x) (0)))))), (2, .int (mSt r (x) (0))), (0, .ref (am (0))), (1, .int (x))]) hx hb d_M_step_154 hl (by decide) rfl (fun ls hl => ?_)
              have h6 := hrel.1
              refine lv_aload_n hx hb d_M_step_156 rfl (lv_at hl 6 rfl) ?_
              refine lv_iload_n hx hb d_M_step_157 rfl (lv_at hl 5 rfl) ?_
              refine lv_iload hx hb d_M_step_158 (lv_at hl 3 rfl) ?_
              refine lv_iload hx hb d_M_step_160 (lv_at hl 2 rfl) ?_
              refine lv_iload hx hb d_M_step_162 (lv_at hl 1 rfl) ?_
              refine lv_aload_n hx hb d_M_step_164 rfl (lv_at hl 6 rfl) ?_
              refine wg hx hb hts i_M hown hW (0) (by omega) mm_root rfl 2 (by decide) (hts _ kf_M_16) rfl d_M_step_165 ?_
              refine lv_iload_n hx hb d_M_step_168 rfl (lv_at hl 4 rfl) ?_
              refine wi hx hb hW (3) (by omega) mm_3 0 rfl (12 * (nv r (5) (nn (mSt r (x) (0)))) + nv r (7) (nn (mSt r (x) (0)))) (ni_add (ni_mul rfl e8) e9) (by omega) (by decide) d_M_step_169 ?_
              refine wci hW hA (va_runV (As := [.int (mSt r (x) (0)), .int (r (1) (12 * (nv r (5) (nn (mSt r (x) (0)))) + nv r (7) (nn (mSt r (x) (0))))), .int (((4) * (mSt r (x) (0))) + (r (2) (12 * (nv r (5) (nn (mSt r (x) (0)))) + nv r (7) (nn (mSt r (x) (0)))))), .int (((4) * (mSt r (x) (0))) + ((r (3) (12 * (nv r (5) (nn (mSt r (x) (0)))) + nv r (7) (nn (mSt r (x) (0))))) &&& (3))), .int (r (3) (12 * (nv r (5) (nn (mSt r (x) (0)))) + nv r (7) (nn (mSt r (x) (0)))))]) (rest := []) ⟨hx, hb, hml, hown, hts⟩ (c_M_perform l (mSt r (x) (0)) (nn (mSt r (x) (0))) e4 (by omega) (r (1) (12 * (nv r (5) (nn (mSt r (x) (0)))) + nv r (7) (nn (mSt r (x) (0))))) (((4) * (mSt r (x) (0))) + (r (2) (12 * (nv r (5) (nn (mSt r (x) (0)))) + nv r (7) (nn (mSt r (x) (0)))))) (4 * (nn (mSt r (x) (0))) + nv r (2) (12 * (nv r (5) (nn (mSt r (x) (0)))) + nv r (7) (nn (mSt r (x) (0))))) (ni_add (ni_mul rfl e4) e10) (by omega) (((4) * (mSt r (x) (0))) + ((r (3) (12 * (nv r (5) (nn (mSt r (x) (0)))) + nv r (7) (nn (mSt r (x) (0))))) &&& (3))) (4 * (nn (mSt r (x) (0))) + bl (r (3) (12 * (nv r (5) (nn (mSt r (x) (0)))) + nv r (7) (nn (mSt r (x) (0))))) 3) (ni_add (ni_mul rfl e4) (ni_and3 _)) (by omega) (r (3) (12 * (nv r (5) (nn (mSt r (x) (0)))) + nv r (7) (nn (mSt r (x) (0))))) hO h6 _) (cv 5 hts kc_M_perform ki_M_perform ke_M_perform kn_M km_M_125 kh_M_perform rfl rfl ⟨by decide, by decide⟩) (preW hW rfl rfl (mw_get (by omega) mm_root)) rfl rfl hl.1 rfl (lv_room (Nat.le_of_ble_eq_true rfl)) d_M_step_170 ⟨by decide, by decide⟩) (fun rr33 uu33 H locs hp33 hW => ?_)
              have hW : Wd D classes (tysA g) s A (wM g am (mPrf r (mSt r (x) (0)) (nn (mSt r (x) (0))) (r (1) (12 * (nv r (5) (nn (mSt r (x) (0)))) + nv r (7) (nn (mSt r (x) (0))))) (4 * (nn (mSt r (x) (0))) + nv r (2) (12 * (nv r (5) (nn (mSt r (x) (0)))) + nv r (7) (nn (mSt r (x) (0))))) (4 * (nn (mSt r (x) (0))) + bl (r (3) (12 * (nv r (5) (nn (mSt r (x) (0)))) + nv r (7) (nn (mSt r (x) (0))))) 3) (r (3) (12 * (nv r (5) (nn (mSt r (x) (0)))) + nv r (7) (nn (mSt r (x) (0))))))) H locs := hW
              obtain ⟨mr34, ev34⟩ : ∃ zz : Vs, zz = mPrf r (mSt r (x) (0)) (nn (mSt r (x) (0))) (r (1) (12 * (nv r (5) (nn (mSt r (x) (0)))) + nv r (7) (nn (mSt r (x) (0))))) (4 * (nn (mSt r (x) (0))) + nv r (2) (12 * (nv r (5) (nn (mSt r (x) (0)))) + nv r (7) (nn (mSt r (x) (0))))) (4 * (nn (mSt r (x) (0))) + bl (r (3) (12 * (nv r (5) (nn (mSt r (x) (0)))) + nv r (7) (nn (mSt r (x) (0))))) 3) (r (3) (12 * (nv r (5) (nn (mSt r (x) (0)))) + nv r (7) (nn (mSt r (x) (0))))) := ⟨_, rfl⟩
              rw [← ev34] at hW
              have hO34 : OkM mr34 := by rw [ev34]; exact hO.prf h6
              have hp33 : rr33 = if ¬ wtP r (mSt r (x) (0)) (r (1) (12 * (nv r (5) (nn (mSt r (x) (0)))) + nv r (7) (nn (mSt r (x) (0))))) (4 * (nn (mSt r (x) (0))) + nv r (2) (12 * (nv r (5) (nn (mSt r (x) (0)))) + nv r (7) (nn (mSt r (x) (0))))) then 1 else 0 := hp33
              refine lv_if_ne (tgt := 181) hx hb d_M_step_173 (by decide) (fun c_173 => ?_) (fun c_173 => ?_)
              · have c_173 : ¬ wtP r (mSt r (x) (0)) (r (1) (12 * (nv r (5) (nn (mSt r (x) (0)))) + nv r (7) (nn (mSt r (x) (0))))) (4 * (nn (mSt r (x) (0))) + nv r (2) (12 * (nv r (5) (nn (mSt r (x) (0)))) + nv r (7) (nn (mSt r (x) (0))))) := bo_ne hp33 c_173
                have hs7 : mr34 7 = r 7 := by rw [ev34]; exact mPrf_st (Or.inr rfl)
                have hs3 : mr34 3 = r 3 := by rw [ev34]; exact mPrf_st (Or.inl (by omega))
                have hn7 : nv mr34 7 (nn (mSt r x 0)) = nv r 7 (nn (mSt r x 0)) := by unfold nv; rw [hs7]
                refine lv_aload_n hx hb d_M_step_181 rfl (lv_at hl 6 rfl) ?_
                refine wg hx hb hts i_M hown hW (0) (by omega) mm_root rfl 6 (by decide) (hts _ kf_M_28) rfl d_M_step_182 ?_
                refine lv_iload_n hx hb d_M_step_185 rfl (lv_at hl 5 rfl) ?_
                refine lv_iload hx hb d_M_step_186 (lv_at hl 0 rfl) ?_
                refine lv_if_eq (tgt := 200) hx hb d_M_step_188 (by decide) (fun c_188 => absurd c_188 (by decide)) (fun c_188 => ?_)
                refine lv_aload_n hx hb d_M_step_191 rfl (lv_at hl 6 rfl) ?_
                refine wg hx hb hts i_M hown hW (0) (by omega) mm_root rfl 2 (by decide) (hts _ kf_M_16) rfl d_M_step_192 ?_
                refine lv_iload_n hx hb d_M_step_195 rfl (lv_at hl 4 rfl) ?_
                refine wi hx hb hW (3) (by omega) mm_3 0 rfl (12 * (nv r (5) (nn (mSt r (x) (0)))) + nv r (7) (nn (mSt r (x) (0)))) (ni_add (ni_mul rfl e8) e9) (by omega) (by decide) d_M_step_196 ?_
                refine lv_goto (tgt := 208) hx hb d_M_step_197 (by decide) ?_
                have hjmp : okLt 13 (mr34 (3) (12 * (nv r (5) (nn (mSt r (x) (0)))) + nv r (7) (nn (mSt r (x) (0))))) := by rw [hs3]; obtain ⟨n, q1, q2⟩ := hrel.2 c_136; exact ⟨n, by omega, q2⟩
                refine wis hx hb hW (7) (by omega) mm_7 0 rfl (nn (mSt r (x) (0))) e4 (by omega) (by decide) (x := mr34 (3) (12 * (nv r (5) (nn (mSt r (x) (0)))) + nv r (7) (nn (mSt r (x) (0))))) mm_7 d_M_step_208 (fun H locs hW => ?_)
                obtain ⟨mr35, ev35⟩ : ∃ zz : Vs, zz = u2 mr34 (7) (nn (mSt r (x) (0))) (mr34 (3) (12 * (nv r (5) (nn (mSt r (x) (0)))) + nv r (7) (nn (mSt r (x) (0))))) := ⟨_, rfl⟩
                rw [← ev35] at hW
                have hO35 : OkM mr35 := by rw [ev35]; exact hO34.set (fun a => absurd a (by decide)) (fun a => absurd a (by decide)) (fun _ => hjmp) (fun a => absurd a (by decide)) (fun a => absurd a (by decide)) (by decide)
                refine lv_aload_n hx hb d_M_step_209 rfl (lv_at hl 6 rfl) ?_
                refine wg hx hb hts i_M hown hW (0) (by omega) mm_root rfl 8 (by decide) (hts _ kf_M_34) rfl d_M_step_210 ?_
                refine lv_iload_n hx hb d_M_step_213 rfl (lv_at hl 5 rfl) ?_
                refine wi hx hb hW (9) (by omega) mm_9 0 rfl (nn (mSt r (x) (0))) e4 (by omega) (by decide) d_M_step_214 ?_
                refine lv_iconst (v := 4) hx hb d_M_step_215 (by decide) ?_
                refine lv_icmp_ne (tgt := 224) hx hb d_M_step_216 (by decide) (fun c_216 => ?_) (fun c_216 => ?_)
                · refine lv_aload_n hx hb d_M_step_224 rfl (lv_at hl 6 rfl) ?_
                  refine wg hx hb hts i_M hown hW (0) (by omega) mm_root rfl 10 (by decide) (hts _ kf_M_40) rfl d_M_step_225 ?_
                  refine lv_iload_n hx hb d_M_step_228 rfl (lv_at hl 5 rfl) ?_
                  refine lv_dup2_11 hx hb d_M_step_229 rfl rfl ?_
                  refine wi hx hb hW (11) (by omega) mm_11 0 rfl (nn (mSt r (x) (0))) e4 (by omega) (by decide) d_M_step_230 ?_
                  refine lv_iconst (v := 1) hx hb d_M_step_231 (by decide) ?_
                  refine lv_iadd hx hb d_M_step_232 ?_
                  refine wis hx hb hW (11) (by omega) mm_11 0 rfl (nn (mSt r (x) (0))) e4 (by omega) (by decide) (x := (mr35 (11) (nn (mSt r (x) (0)))) + (1)) mm_11 d_M_step_233 (fun H locs hW => ?_)
                  obtain ⟨mr36, ev36⟩ : ∃ zz : Vs, zz = u2 mr35 (11) (nn (mSt r (x) (0))) ((mr35 (11) (nn (mSt r (x) (0)))) + (1)) := ⟨_, rfl⟩
                  rw [← ev36] at hW
                  have hO36 : OkM mr36 := by rw [ev36]; exact hO35.fr (by omega)
                  refine lv_iload hx hb d_M_step_234 (lv_at hl 3 rfl) ?_
                  refine lv_bipush (v := 12) hx hb d_M_step_236 (by decide) ?_
                  refine lv_icmp_eq (tgt := 251) hx hb d_M_step_238 (by decide) (fun c_238 => ?_) (fun c_238 => ?_)
                  · refine lv_aload_n hx hb d_M_step_251 rfl (lv_at hl 6 rfl) ?_
                    refine lv_iload_n hx hb d_M_step_252 rfl (lv_at hl 5 rfl) ?_
                    refine wcv hW hA (va_runV (As := [.int (mSt r (x) (0))]) (rest := []) ⟨hx, hb, hml, hown, hts⟩ (c_M_ready l (mSt r (x) (0)) (nn (mSt r (x) (0))) e4 (by omega) hO36 _) (cv 1 hts kc_M_ready ki_M_ready ke_M_ready kn_M km_M_92 kh_M_ready rfl rfl ⟨by decide, by decide⟩) (preW hW rfl rfl (mw_get (by omega) mm_root)) rfl rfl hl.1 rfl (lv_room (Nat.le_of_ble_eq_true rfl)) d_M_step_253 ⟨by decide, by decide⟩) (fun uu37 H locs hp37 hW => ?_)
                    have hW : Wd D classes (tysA g) s A (wM g am (mRdy mr36 (nn (mSt r (x) (0))))) H locs := hW
                    obtain ⟨mr38, ev38⟩ : ∃ zz : Vs, zz = mRdy mr36 (nn (mSt r (x) (0))) := ⟨_, rfl⟩
                    rw [← ev38] at hW
                    have hO38 : OkM mr38 := by rw [ev38]; exact hO36.rdy
                    refine lv_iload_n hx hb d_M_step_256 rfl (lv_at hl 5 rfl) ?_
                    have hfin : mStp r x = (mSt r (x) (0), mr38) := by
                      subst ev38 ev36 ev35 ev34; simp only [mStp, mRun, mAft, mSl, if_neg c_5, if_neg c_20, if_pos c_43, if_neg c_125, if_pos c_136, if_neg c_146, if_pos c_173, if_neg c_216, if_pos c_238, if_true, if_neg (show ¬ (1 : Int32) = 0 by decide)]
                    refine hret _ () _ _ _ _ _ _ ?_ (by show Wd D classes (tysA g) s A (wM g am ((mStp r x).2)) _ _; rw [hfin]; exact hW) (by decide) (by decide) d_M_step_257
                    show mSt r (x) (0) = (mStp r x).1
                    rw [hfin]
                  · refine lv_aload_n hx hb d_M_step_241 rfl (lv_at hl 6 rfl) ?_
                    refine wg hx hb hts i_M hown hW (0) (by omega) mm_root rfl 10 (by decide) (hts _ kf_M_40) rfl d_M_step_242 ?_
                    refine lv_iload_n hx hb d_M_step_245 rfl (lv_at hl 5 rfl) ?_
                    refine wi hx hb hW (11) (by omega) mm_11 0 rfl (nn (mSt r (x) (0))) e4 (by omega) (by decide) d_M_step_246 ?_
                    refine lv_iconst (v := 3) hx hb d_M_step_247 (by decide) ?_
                    refine lv_icmp_ne (tgt := 256) hx hb d_M_step_248 (by decide) (fun c_248 => ?_) (fun c_248 => ?_)
                    · refine lv_iload_n hx hb d_M_step_256 rfl (lv_at hl 5 rfl) ?_
                      have hfin : mStp r x = (mSt r (x) (0), mr36) := by
                        subst ev36 ev35 ev34; simp only [mStp, mRun, mAft, mSl, if_neg c_5, if_neg c_20, if_pos c_43, if_neg c_125, if_pos c_136, if_neg c_146, if_pos c_173, if_neg c_216, if_neg c_238, if_neg c_248, if_true, if_neg (show ¬ (1 : Int32) = 0 by decide)]
                      refine hret _ () _ _ _ _ _ _ ?_ (by show Wd D classes (tysA g) s A (wM g am ((mStp r x).2)) _ _; rw [hfin]; exact hW) (by decide) (by decide) d_M_step_257
                      show mSt r (x) (0) = (mStp r x).1
                      rw [hfin]
                    · refine lv_aload_n hx hb d_M_step_251 rfl (lv_at hl 6 rfl) ?_
                      refine lv_iload_n hx hb d_M_step_252 rfl (lv_at hl 5 rfl) ?_
                      refine wcv hW hA (va_runV (As := [.int (mSt r (x) (0))]) (rest := []) ⟨hx, hb, hml, hown, hts⟩ (c_M_ready l (mSt r (x) (0)) (nn (mSt r (x) (0))) e4 (by omega) hO36 _) (cv 1 hts kc_M_ready ki_M_ready ke_M_ready kn_M km_M_92 kh_M_ready rfl rfl ⟨by decide, by decide⟩) (preW hW rfl rfl (mw_get (by omega) mm_root)) rfl rfl hl.1 rfl (lv_room (Nat.le_of_ble_eq_true rfl)) d_M_step_253 ⟨by decide, by decide⟩) (fun uu39 H locs hp39 hW => ?_)
                      have hW : Wd D classes (tysA g) s A (wM g am (mRdy mr36 (nn (mSt r (x) (0))))) H locs := hW
                      obtain ⟨mr40, ev40⟩ : ∃ zz : Vs, zz = mRdy mr36 (nn (mSt r (x) (0))) := ⟨_, rfl⟩
                      rw [← ev40] at hW
                      have hO40 : OkM mr40 := by rw [ev40]; exact hO36.rdy
                      refine lv_iload_n hx hb d_M_step_256 rfl (lv_at hl 5 rfl) ?_
                      have hfin : mStp r x = (mSt r (x) (0), mr40) := by
                        subst ev40 ev36 ev35 ev34; simp only [mStp, mRun, mAft, mSl, if_neg c_5, if_neg c_20, if_pos c_43, if_neg c_125, if_pos c_136, if_neg c_146, if_pos c_173, if_neg c_216, if_neg c_238, if_pos c_248, if_true, if_neg (show ¬ (1 : Int32) = 0 by decide)]
                      refine hret _ () _ _ _ _ _ _ ?_ (by show Wd D classes (tysA g) s A (wM g am ((mStp r x).2)) _ _; rw [hfin]; exact hW) (by decide) (by decide) d_M_step_257
                      show mSt r (x) (0) = (mStp r x).1
                      rw [hfin]
                · refine lv_bipush (v := 30) hx hb d_M_step_219 (by decide) ?_
                  refine lv_iload_n hx hb d_M_step_221 rfl (lv_at hl 5 rfl) ?_
                  refine lv_iadd hx hb d_M_step_222 ?_
                  have hfin : mStp r x = ((30) + (mSt r (x) (0)), mr35) := by
                    subst ev35 ev34; simp only [mStp, mRun, mAft, mSl, if_neg c_5, if_neg c_20, if_pos c_43, if_neg c_125, if_pos c_136, if_neg c_146, if_pos c_173, if_pos c_216, if_true, if_neg (show ¬ (1 : Int32) = 0 by decide)]
                  refine hret _ () _ _ _ _ _ _ ?_ (by show Wd D classes (tysA g) s A (wM g am ((mStp r x).2)) _ _; rw [hfin]; exact hW) (by decide) (by decide) d_M_step_223
                  show (30) + (mSt r (x) (0)) = (mStp r x).1
                  rw [hfin]
              · have c_173 : ¬ (¬ wtP r (mSt r (x) (0)) (r (1) (12 * (nv r (5) (nn (mSt r (x) (0)))) + nv r (7) (nn (mSt r (x) (0))))) (4 * (nn (mSt r (x) (0))) + nv r (2) (12 * (nv r (5) (nn (mSt r (x) (0)))) + nv r (7) (nn (mSt r (x) (0)))))) := bo_eq hp33 c_173
                refine lv_bipush (v := 20) hx hb d_M_step_176 (by decide) ?_
                refine lv_iload_n hx hb d_M_step_178 rfl (lv_at hl 5 rfl) ?_
                refine lv_iadd hx hb d_M_step_179 ?_
                have hfin : mStp r x = ((20) + (mSt r (x) (0)), mr34) := by
                  subst ev34; simp only [mStp, mRun, mAft, mSl, if_neg c_5, if_neg c_20, if_pos c_43, if_neg c_125, if_pos c_136, if_neg c_146, if_neg c_173, if_true, if_neg (show ¬ (1 : Int32) = 0 by decide)]
                refine hret _ () _ _ _ _ _ _ ?_ (by show Wd D classes (tysA g) s A (wM g am ((mStp r x).2)) _ _; rw [hfin]; exact hW) (by decide) (by decide) d_M_step_180
                show (20) + (mSt r (x) (0)) = (mStp r x).1
                rw [hfin]
        · have c_125 : fltP r (nn (mSt r (x) (0))) (r (1) (12 * (nv r (5) (nn (mSt r (x) (0)))) + nv r (7) (nn (mSt r (x) (0))))) (bl (r (6) (4 * (nn (mSt r (x) (0))) + bl (r (3) (12 * (nv r (5) (nn (mSt r (x) (0)))) + nv r (7) (nn (mSt r (x) (0))))) 3)) 31) := bo_ne hp13 c_125
          refine lv_bipush (v := 10) hx hb d_M_step_128 (by decide) ?_
          refine lv_iload_n hx hb d_M_step_130 rfl (lv_at hl 4 rfl) ?_
          refine lv_iadd hx hb d_M_step_131 ?_
          have hfin : mStp r x = ((10) + (mSt r (x) (0)), mr14) := by
            subst ev14; simp only [mStp, mRun, mAft, mSl, if_neg c_5, if_neg c_20, if_pos c_43, if_pos c_125]
          refine hret _ () _ _ _ _ _ _ ?_ (by show Wd D classes (tysA g) s A (wM g am ((mStp r x).2)) _ _; rw [hfin]; exact hW) (by decide) (by decide) d_M_step_132
          show (10) + (mSt r (x) (0)) = (mStp r x).1
          rw [hfin]
      · have nc_43 : nv r (4) (nv r (5) (nn (mSt r (x) (0)))) ≤ nv r (7) (nn (mSt r (x) (0))) := ni_nlt e5 e7 (by omega) (by omega) c_43
        refine lv_aload_n hx hb d_M_step_46 rfl (lv_at hl 1 rfl) ?_
        refine lv_iload_n hx hb d_M_step_47 rfl (lv_at hl 0 rfl) ?_
        refine lv_iconst (v := 0) hx hb d_M_step_48 (by decide) ?_
        refine wcv hW hA (va_runV (As := [.int (mSt r (x) (0)), .int (0)]) (rest := []) ⟨hx, hb, hml, hown, hts⟩ (c_M_end l (mSt r (x) (0)) (nn (mSt r (x) (0))) e4 (by omega) (0) hO _) (cv 2 hts kc_M_end ki_M_end ke_M_end kn_M km_M_114 kh_M_end rfl rfl ⟨by decide, by decide⟩) (preW hW rfl rfl (mw_get (by omega) mm_root)) rfl rfl hl.1 rfl (lv_room (Nat.le_of_ble_eq_true rfl)) d_M_step_49 ⟨by decide, by decide⟩) (fun uu41 H locs hp41 hW => ?_)
        have hW : Wd D classes (tysA g) s A (wM g am (mEnd r (mSt r (x) (0)) (nn (mSt r (x) (0))) (0))) H locs := hW
        obtain ⟨mr42, ev42⟩ : ∃ zz : Vs, zz = mEnd r (mSt r (x) (0)) (nn (mSt r (x) (0))) (0) := ⟨_, rfl⟩
        rw [← ev42] at hW
        have hO42 : OkM mr42 := by rw [ev42]; exact hO.end
        refine lv_bipush (v := 30) hx hb d_M_step_52 (by decide) ?_
        refine lv_iload_n hx hb d_M_step_54 rfl (lv_at hl 0 rfl) ?_
        refine lv_iadd hx hb d_M_step_55 ?_
        have hfin : mStp r x = ((30) + (mSt r (x) (0)), mr42) := by
          subst ev42; simp only [mStp, mRun, mAft, mSl, if_neg c_5, if_neg c_20, if_neg c_43]
        refine hret _ () _ _ _ _ _ _ ?_ (by show Wd D classes (tysA g) s A (wM g am ((mStp r x).2)) _ _; rw [hfin]; exact hW) (by decide) (by decide) d_M_step_56
        show (30) + (mSt r (x) (0)) = (mStp r x).1
        rw [hfin]
    · have nc_20 : nn (mSt r (x) (0)) = 8 := ni_eq e4 rfl (by omega) (by omega) c_20
      refine lv_bipush (v := (-3)) hx hb d_M_step_23 (by decide) ?_
      have hfin : mStp r x = ((-3), r) := by
        skip; simp only [mStp, mRun, mAft, mSl, if_neg c_5, if_pos c_20]
      refine hret _ () _ _ _ _ _ _ ?_ (by show Wd D classes (tysA g) s A (wM g am ((mStp r x).2)) _ _; rw [hfin]; exact hW) (by decide) (by decide) d_M_step_25
      show (-3) = (mStp r x).1
      rw [hfin]
  · have c_5 : outP (x) (2) := bo_ne hp1 c_5
    refine lv_iconst (v := (-1)) hx hb d_M_step_8 (by decide) ?_
    have hfin : mStp r x = ((-1), r) := by
      skip; simp only [mStp, mRun, mAft, mSl, if_pos c_5]
    refine hret _ () _ _ _ _ _ _ ?_ (by show Wd D classes (tysA g) s A (wM g am ((mStp r x).2)) _ _; rw [hfin]; exact hW) (by decide) (by decide) d_M_step_9
    show (-1) = (mStp r x).1
    rw [hfin]
