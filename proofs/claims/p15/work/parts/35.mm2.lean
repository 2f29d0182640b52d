abbrev rm_M_standing : Room := { frames := 0, cells := 0, slots := 0, locals := 0 }
set_option maxHeartbeats 4000000 in
set_option maxRecDepth 100000 in
theorem c_M_standing (l : Launch) {D : va_G} {g : Nat → ClassId} {am : Nat → Nat} {r : Vs} (x : Int32) (y : Int32) (hO : OkM r) : MtI l y_M_standing ws_M_standing rm_M_standing D classes (tysA g) [.ref (am (0)), .int (x), .int (y)] (wM g am (r)) (fun (rr : Int32) (_ : Unit) => rr = mSt r x y) (fun _ => wM g am (r)) 0 0 := by
  refine mt_i (ty := .int) (fun _ _ _ => rfl) (by decide +kernel) rfl (Nat.le_of_ble_eq_true rfl) (fun p e s m args below meth c Q A C hA hW hret ls hl => ?_)
  obtain ⟨hx, hb, hr, hml, hown, hts0, hlocks⟩ := C
  have hts : ∀ w ∈ bigw, w.before args s = true := fun w h => hts0 w (List.mem_cons_of_mem _ h)
  have hown : s.vm.findClass R_M = some m.cls := hown
  have hnp := hO.le
  have hl : lv_has ls 6 [(0, .ref (am (0))), (1, .int (x)), (2, .int (y))] := hl
  refine lv_iconst (v := 0) hx hb d_M_standing_0 (by decide) ?_
  refine lv_istore_n (lv' := [(3, .int (0)), (0, .ref (am (0))), (1, .int (x)), (2, .int (y))]) hx hb d_M_standing_1 rfl hl (by decide) rfl (fun ls hl => ?_)
  have loop : ∀ (k : Nat) (q : Nat) (H : Heap) (locs : List Loc) (ls : Array Slot), nv r 0 14 = q + k → mStL r x y k q = mSt r x y → Wd D classes (tysA g) s A (wM g am (r)) H locs → lv_has ls 6 [(0, .ref (am (0))), (1, .int (x)), (2, .int (y)), (3, .int (nI (q)))] → W p l e rm_M_standing s m args below meth c H locs 0 0 Q (F0 m 2 ls []) := by
    intro k
    induction k with
    | zero =>
      intro q H locs ls hq hT hW hl
      refine lv_iload_n hx hb d_M_standing_2 rfl (lv_at hl 3 rfl) ?_
      refine lv_aload_n hx hb d_M_standing_3 rfl (lv_at hl 0 rfl) ?_
      refine wg hx hb hts i_M hown hW (0) (by omega) mm_root rfl 14 (by decide) (hts _ kf_M_81) rfl d_M_standing_4 ?_
      obtain ⟨e1, b1⟩ := hO.made
      refine lv_icmp_ge (tgt := 109) hx hb d_M_standing_7 (by decide) (fun c_7 => ?_) (fun c_7 => ?_)
      · have nc_7 : nv r (0) 14 ≤ q := ni_le e1 rfl (by omega) (by omega) c_7
        refine lv_bipush (v := 8) hx hb d_M_standing_109 (by decide) ?_
        exact hret _ () _ _ _ _ _ _ (show (8 : Int32) = mSt r x y by rw [← hT]; rfl) hW (by decide) (by decide) d_M_standing_111
      · have nc_7 : q < nv r (0) 14 := ni_nle e1 rfl (by omega) (by omega) c_7
        exfalso; omega
    | succ k ih =>
      intro q H locs ls hq hT hW hl
      refine lv_iload_n hx hb d_M_standing_2 rfl (lv_at hl 3 rfl) ?_
      refine lv_aload_n hx hb d_M_standing_3 rfl (lv_at hl 0 rfl) ?_
      refine wg hx hb hts i_M hown hW (0) (by omega) mm_root rfl 14 (by decide) (hts _ kf_M_81) rfl d_M_standing_4 ?_
      obtain ⟨e2, b2⟩ := hO.made
      refine lv_icmp_ge (tgt := 109) hx hb d_M_standing_7 (by decide) (fun c_7 => ?_) (fun c_7 => ?_)
      · have nc_7 : nv r (0) 14 ≤ q := ni_le e2 rfl (by omega) (by omega) c_7
        exfalso; omega
      · have nc_7 : q < nv r (0) 14 := ni_nle e2 rfl (by omega) (by omega) c_7
        refine lv_aload_n hx hb d_M_standing_10 rfl (lv_at hl 0 rfl) ?_
        refine wg hx hb hts i_M hown hW (0) (by omega) mm_root rfl 8 (by decide) (hts _ kf_M_34) rfl d_M_standing_11 ?_
        refine lv_iload_n hx hb d_M_standing_14 rfl (lv_at hl 3 rfl) ?_
        refine wi hx hb hW (9) (by omega) mm_9 0 rfl (q) rfl (by omega) (by decide) d_M_standing_15 ?_
        refine lv_iconst (v := 1) hx hb d_M_standing_16 (by decide) ?_
        refine lv_icmp_ne (tgt := 103) hx hb d_M_standing_17 (by decide) (fun c_17 => ?_) (fun c_17 => ?_)
        · refine lv_iinc (v := nI (q + 1)) (lv' := [(3, .int (nI (q + 1))), (0, .ref (am (0))), (1, .int (x)), (2, .int (y))]) hx hb d_M_standing_103 hl (k := 3) rfl (nI_1 _) (by decide) rfl (fun ls hl => ?_)
          refine lv_goto (tgt := 2) hx hb d_M_standing_106 (by decide) ?_
          refine ih (q + 1) _ _ _ (by omega) ?_ hW (lv_sub hl [1, 2, 3, 0] rfl)
          rw [← hT, mStL, if_neg c_17]
        · refine lv_aload_n hx hb d_M_standing_20 rfl (lv_at hl 0 rfl) ?_
          refine wg hx hb hts i_M hown hW (0) (by omega) mm_root rfl 7 (by decide) (hts _ kf_M_31) rfl d_M_standing_21 ?_
          refine lv_iload_n hx hb d_M_standing_24 rfl (lv_at hl 3 rfl) ?_
          refine wi hx hb hW (8) (by omega) mm_8 0 rfl (q) rfl (by omega) (by decide) d_M_standing_25 ?_
          refine lv_iload_n hx hb d_M_standing_26 rfl (lv_at hl 1 rfl) ?_
          refine lv_icmp_eq (tgt := 33) hx hb d_M_standing_27 (by decide) (fun c_27 => ?_) (fun c_27 => ?_)
          · refine lv_iconst (v := 0) hx hb d_M_standing_33 (by decide) ?_
            refine lv_istore (lv' := [(4, .int (0)), (0, .ref (am (0))), (1, .int (x)), (2, .int (y)), (3, .int (nI (q)))]) hx hb d_M_standing_34 hl (by decide) rfl (fun ls hl => ?_)
            refine lv_iconst (v := 0) hx hb d_M_standing_36 (by decide) ?_
            refine lv_istore (lv' := [(5, .int (0)), (4, .int (0)), (0, .ref (am (0))), (1, .int (x)), (2, .int (y)), (3, .int (nI (q)))]) hx hb d_M_standing_37 hl (by decide) rfl (fun ls hl => ?_)
            have hT0 := hT
            have inner : ∀ (k : Nat) (t : Nat) (n : Nat) (H : Heap) (locs : List Loc) (ls : Array Slot), nv r 0 14 = t + k → n ≤ t → mCnt r x (r 10 q) k t n = mCnt r x (r 10 q) (nv r 0 14) 0 0 → Wd D classes (tysA g) s A (wM g am (r)) H locs → lv_has ls 6 [(0, .ref (am (0))), (1, .int (x)), (2, .int (y)), (3, .int (nI (q))), (4, .int (nI (n))), (5, .int (nI (t)))] → W p l e rm_M_standing s m args below meth c H locs 0 0 Q (F0 m 39 ls []) := by
              intro k
              induction k with
              | zero =>
                intro t n H locs ls ht hnt hT hW hl
                refine lv_iload hx hb d_M_standing_39 (lv_at hl 5 rfl) ?_
                refine lv_aload_n hx hb d_M_standing_41 rfl (lv_at hl 0 rfl) ?_
                refine wg hx hb hts i_M hown hW (0) (by omega) mm_root rfl 14 (by decide) (hts _ kf_M_81) rfl d_M_standing_42 ?_
                obtain ⟨e3, b3⟩ := hO.made
                refine lv_icmp_ge (tgt := 95) hx hb d_M_standing_45 (by decide) (fun c_45 => ?_) (fun c_45 => ?_)
                · have nc_45 : nv r (0) 14 ≤ t := ni_le e3 rfl (by omega) (by omega) c_45
                  refine lv_iload hx hb d_M_standing_95 (lv_at hl 4 rfl) ?_
                  refine lv_iload_n hx hb d_M_standing_97 rfl (lv_at hl 2 rfl) ?_
                  refine lv_icmp_ne (tgt := 103) hx hb d_M_standing_98 (by decide) (fun c_98 => ?_) (fun c_98 => ?_)
                  · refine lv_iinc (v := nI (q + 1)) (lv' := [(3, .int (nI (q + 1))), (0, .ref (am (0))), (1, .int (x)), (2, .int (y)), (4, .int (nI (n))), (5, .int (nI (t)))]) hx hb d_M_standing_103 hl (k := 3) rfl (nI_1 _) (by decide) rfl (fun ls hl => ?_)
                    refine lv_goto (tgt := 2) hx hb d_M_standing_106 (by decide) ?_
                    have hc : mCnt r x (r 10 q) (nv r 0 14) 0 0 = n := by rw [← hT]; rfl
                    refine ih (q + 1) _ _ _ (by omega) ?_ hW (lv_sub hl [1, 2, 3, 0] rfl)
                    rw [← hT0, mStL, if_pos c_17, if_pos c_27, hc, if_neg c_98]
                  · refine lv_iload_n hx hb d_M_standing_101 rfl (lv_at hl 3 rfl) ?_
                    have hc : mCnt r x (r 10 q) (nv r 0 14) 0 0 = n := by rw [← hT]; rfl
                    exact hret _ () _ _ _ _ _ _ (show nI q = mSt r x y by rw [← hT0, mStL, if_pos c_17, if_pos c_27, hc, if_pos c_98]) hW (by decide) (by decide) d_M_standing_102
                · have nc_45 : t < nv r (0) 14 := ni_nle e3 rfl (by omega) (by omega) c_45
                  exfalso; omega
              | succ k ih =>
                intro t n H locs ls ht hnt hT hW hl
                refine lv_iload hx hb d_M_standing_39 (lv_at hl 5 rfl) ?_
                refine lv_aload_n hx hb d_M_standing_41 rfl (lv_at hl 0 rfl) ?_
                refine wg hx hb hts i_M hown hW (0) (by omega) mm_root rfl 14 (by decide) (hts _ kf_M_81) rfl d_M_standing_42 ?_
                obtain ⟨e4, b4⟩ := hO.made
                refine lv_icmp_ge (tgt := 95) hx hb d_M_standing_45 (by decide) (fun c_45 => ?_) (fun c_45 => ?_)
                · have nc_45 : nv r (0) 14 ≤ t := ni_le e4 rfl (by omega) (by omega) c_45
                  exfalso; omega
                · have nc_45 : t < nv r (0) 14 := ni_nle e4 rfl (by omega) (by omega) c_45
                  refine lv_aload_n hx hb d_M_standing_48 rfl (lv_at hl 0 rfl) ?_
                  refine wg hx hb hts i_M hown hW (0) (by omega) mm_root rfl 8 (by decide) (hts _ kf_M_34) rfl d_M_standing_49 ?_
                  refine lv_iload hx hb d_M_standing_52 (lv_at hl 5 rfl) ?_
                  refine wi hx hb hW (9) (by omega) mm_9 0 rfl (t) rfl (by omega) (by decide) d_M_standing_54 ?_
                  refine lv_iconst (v := 1) hx hb d_M_standing_55 (by decide) ?_
                  refine lv_icmp_ne (tgt := 89) hx hb d_M_standing_56 (by decide) (fun c_56 => ?_) (fun c_56 => ?_)
                  · refine lv_iinc (v := nI (t + 1)) (lv' := [(5, .int (nI (t + 1))), (0, .ref (am (0))), (1, .int (x)), (2, .int (y)), (3, .int (nI (q))), (4, .int (nI (n)))]) hx hb d_M_standing_89 hl (k := 5) rfl (nI_1 _) (by decide) rfl (fun ls hl => ?_)
                    refine lv_goto (tgt := 39) hx hb d_M_standing_92 (by decide) ?_
                    refine ih (t + 1) (n) _ _ _ (by omega) (by omega) ?_ hW (lv_sub hl [1, 2, 3, 4, 5, 0] rfl)
                    rw [← hT, mCnt]; simp only [if_neg c_56]
                  · refine lv_aload_n hx hb d_M_standing_59 rfl (lv_at hl 0 rfl) ?_
                    refine wg hx hb hts i_M hown hW (0) (by omega) mm_root rfl 7 (by decide) (hts _ kf_M_31) rfl d_M_standing_60 ?_
                    refine lv_iload hx hb d_M_standing_63 (lv_at hl 5 rfl) ?_
                    refine wi hx hb hW (8) (by omega) mm_8 0 rfl (t) rfl (by omega) (by decide) d_M_standing_65 ?_
                    refine lv_iload_n hx hb d_M_standing_66 rfl (lv_at hl 1 rfl) ?_
                    refine lv_icmp_ne (tgt := 89) hx hb d_M_standing_67 (by decide) (fun c_67 => ?_) (fun c_67 => ?_)
                    · refine lv_iinc (v := nI (t + 1)) (lv' := [(5, .int (nI (t + 1))), (0, .ref (am (0))), (1, .int (x)), (2, .int (y)), (3, .int (nI (q))), (4, .int (nI (n)))]) hx hb d_M_standing_89 hl (k := 5) rfl (nI_1 _) (by decide) rfl (fun ls hl => ?_)
                      refine lv_goto (tgt := 39) hx hb d_M_standing_92 (by decide) ?_
                      refine ih (t + 1) (n) _ _ _ (by omega) (by omega) ?_ hW (lv_sub hl [1, 2, 3, 4, 5, 0] rfl)
                      rw [← hT, mCnt]; simp only [if_pos c_56, if_neg c_67]
                    · refine lv_aload_n hx hb d_M_standing_70 rfl (lv_at hl 0 rfl) ?_
                      refine wg hx hb hts i_M hown hW (0) (by omega) mm_root rfl 9 (by decide) (hts _ kf_M_37) rfl d_M_standing_71 ?_
                      refine lv_iload hx hb d_M_standing_74 (lv_at hl 5 rfl) ?_
                      refine wi hx hb hW (10) (by omega) mm_10 0 rfl (t) rfl (by omega) (by decide) d_M_standing_76 ?_
                      refine lv_aload_n hx hb d_M_standing_77 rfl (lv_at hl 0 rfl) ?_
                      refine wg hx hb hts i_M hown hW (0) (by omega) mm_root rfl 9 (by decide) (hts _ kf_M_37) rfl d_M_standing_78 ?_
                      refine lv_iload_n hx hb d_M_standing_81 rfl (lv_at hl 3 rfl) ?_
                      refine wi hx hb hW (10) (by omega) mm_10 0 rfl (q) rfl (by omega) (by decide) d_M_standing_82 ?_
                      refine lv_icmp_ge (tgt := 89) hx hb d_M_standing_83 (by decide) (fun c_83 => ?_) (fun c_83 => ?_)
                      · refine lv_iinc (v := nI (t + 1)) (lv' := [(5, .int (nI (t + 1))), (0, .ref (am (0))), (1, .int (x)), (2, .int (y)), (3, .int (nI (q))), (4, .int (nI (n)))]) hx hb d_M_standing_89 hl (k := 5) rfl (nI_1 _) (by decide) rfl (fun ls hl => ?_)
                        refine lv_goto (tgt := 39) hx hb d_M_standing_92 (by decide) ?_
                        refine ih (t + 1) (n) _ _ _ (by omega) (by omega) ?_ hW (lv_sub hl [1, 2, 3, 4, 5, 0] rfl)
                        rw [← hT, mCnt]; simp only [if_pos c_56, if_pos c_67, if_pos c_83]
                      · refine lv_iinc (v := nI (n + 1)) (lv' := [(4, .int (nI (n + 1))), (0, .ref (am (0))), (1, .int (x)), (2, .int (y)), (3, .int (nI (q))), (5, .int (nI (t)))]) hx hb d_M_standing_86 hl (k := 4) rfl (nI_1 _) (by decide) rfl (fun ls hl => ?_)
                        refine lv_iinc (v := nI (t + 1)) (lv' := [(5, .int (nI (t + 1))), (4, .int (nI (n + 1))), (0, .ref (am (0))), (1, .int (x)), (2, .int (y)), (3, .int (nI (q)))]) hx hb d_M_standing_89 hl (k := 5) rfl (nI_1 _) (by decide) rfl (fun ls hl => ?_)
                        refine lv_goto (tgt := 39) hx hb d_M_standing_92 (by decide) ?_
                        refine ih (t + 1) (n + 1) _ _ _ (by omega) (by omega) ?_ hW (lv_sub hl [2, 3, 4, 5, 1, 0] rfl)
                        rw [← hT, mCnt]; simp only [if_pos c_56, if_pos c_67, if_neg c_83]
            exact inner (nv r 0 14) 0 0 _ _ _ (by omega) (Nat.le_refl _) rfl hW (lv_sub hl [2, 3, 4, 5, 1, 0] rfl)
          · refine lv_goto (tgt := 103) hx hb d_M_standing_30 (by decide) ?_
            refine lv_iinc (v := nI (q + 1)) (lv' := [(3, .int (nI (q + 1))), (0, .ref (am (0))), (1, .int (x)), (2, .int (y))]) hx hb d_M_standing_103 hl (k := 3) rfl (nI_1 _) (by decide) rfl (fun ls hl => ?_)
            refine lv_goto (tgt := 2) hx hb d_M_standing_106 (by decide) ?_
            refine ih (q + 1) _ _ _ (by omega) ?_ hW (lv_sub hl [1, 2, 3, 0] rfl)
            rw [← hT, mStL, if_pos c_17, if_neg c_27]
  exact loop (nv r 0 14) 0 _ _ _ (by omega) rfl hW (lv_sub hl [1, 2, 3, 0] rfl)
abbrev rm_M_reg : Room := { frames := 1, cells := 0, slots := 0, locals := 21 }
set_option maxHeartbeats 4000000 in
set_option maxRecDepth 100000 in
theorem c_M_reg (l : Launch) {D : va_G} {g : Nat → ClassId} {am : Nat → Nat} {r : Vs} (x : Int32) (y : Int32) (hO : OkM r) : MtL l y_M_reg ws_M_reg rm_M_reg D classes (tysA g) [.ref (am (0)), .int (x), .int (y)] (wM g am (r)) (fun (rr : Int64) (_ : Unit) => rr = mReg r x y) (fun _ => wM g am (r)) 0 0 := by
  refine mt_l (by decide +kernel) rfl (Nat.le_of_ble_eq_true rfl) (fun p e s m args below meth c Q A C hA hW hret ls hl => ?_)
  obtain ⟨hx, hb, hr, hml, hown, hts0, hlocks⟩ := C
  have hts : ∀ w ∈ bigw, w.before args s = true := fun w h => hts0 w (List.mem_cons_of_mem _ h)
  have hown : s.vm.findClass R_M = some m.cls := hown
  have hnp := hO.le
  have hl : lv_has ls 3 [(0, .ref (am (0))), (1, .int (x)), (2, .int (y))] := hl
  refine lv_aload_n hx hb d_M_reg_0 rfl (lv_at hl 0 rfl) ?_
  refine lv_iload_n hx hb d_M_reg_1 rfl (lv_at hl 1 rfl) ?_
  refine wci hW hA (va_runV (As := [.int (x)]) (rest := []) ⟨hx, hb, hml, hown, hts⟩ (c_M_noProcess l (x) hO _) (cv 1 hts kc_M_noProcess ki_M_noProcess ke_M_noProcess kn_M km_M_100 kh_M_noProcess rfl rfl ⟨by decide, by decide⟩) (preW hW rfl rfl (mw_get (by omega) mm_root)) rfl rfl hl.1 rfl (lv_room (Nat.le_of_ble_eq_true rfl)) d_M_reg_2 ⟨by decide, by decide⟩) (fun rr1 uu1 H locs hp1 hW => ?_)
  have hW : Wd D classes (tysA g) s A (wM g am (r)) H locs := hW
  have hp1 : rr1 = if npP r (x) then 1 else 0 := hp1
  refine lv_if_ne (tgt := 16) hx hb d_M_reg_5 (by decide) (fun c_5 => ?_) (fun c_5 => ?_)
  · have c_5 : npP r (x) := bo_ne hp1 c_5
    refine lv_ldc2 (v := (10000000000 : Int64)) hx hb hown (hts _ kg_M_152) d_M_reg_16 ?_
    refine lv_goto (tgt := 33) hx hb d_M_reg_19 (by decide) ?_
    refine hret _ () _ _ _ _ _ _ ?_ hW (by decide) (by decide) d_M_reg_33
    show (10000000000 : Int64) = mReg r x y
    simp only [mReg, if_pos c_5]
  · have c_5 : ¬ (npP r (x)) := bo_eq hp1 c_5
    obtain ⟨e2, b2⟩ := nnp_nn hO c_5
    refine lv_iload_n hx hb d_M_reg_8 rfl (lv_at hl 2 rfl) ?_
    refine lv_iconst (v := 3) hx hb d_M_reg_9 (by decide) ?_
    refine wci hW hA (va_runS (As := [.int (y), .int (3)]) (rest := []) ⟨hx, hb, hml, hown, hts⟩ (c_M_out l _ (y) (3) _) (cs 2 hts kc_M_out ks_M_out kn_M km_M_84 kh_M_out rfl rfl ⟨by decide, by decide⟩) (preWS hW) rfl rfl hl.1 rfl (lv_room (Nat.le_of_ble_eq_true rfl)) d_M_reg_10 ⟨by decide, by decide⟩) (fun rr3 uu3 H locs hp3 hW => ?_)
    have hW : Wd D classes (tysA g) s A (wM g am (r)) H locs := hW
    have hp3 : rr3 = if outP (y) (3) then 1 else 0 := hp3
    refine lv_if_eq (tgt := 22) hx hb d_M_reg_13 (by decide) (fun c_13 => ?_) (fun c_13 => ?_)
    · have c_13 : ¬ (outP (y) (3)) := bo_eq hp3 c_13
      obtain ⟨e4, b4⟩ := nout_nn (N := 3) rfl (by omega) c_13
      refine lv_aload_n hx hb d_M_reg_22 rfl (lv_at hl 0 rfl) ?_
      refine wg hx hb hts i_M hown hW (0) (by omega) mm_root rfl 5 (by decide) (hts _ kf_M_25) rfl d_M_reg_23 ?_
      refine lv_iconst (v := 4) hx hb d_M_reg_26 (by decide) ?_
      refine lv_iload_n hx hb d_M_reg_27 rfl (lv_at hl 1 rfl) ?_
      refine lv_imul hx hb d_M_reg_28 ?_
      refine lv_iload_n hx hb d_M_reg_29 rfl (lv_at hl 2 rfl) ?_
      refine lv_iadd hx hb d_M_reg_30 ?_
      refine wi hx hb hW (6) (by omega) mm_6 0 rfl (4 * (nn x) + nn y) (ni_add (ni_mul rfl e2) e4) (by omega) (by decide) d_M_reg_31 ?_
      refine lv_i2l (v := (r (6) (4 * (nn x) + nn y)).toInt64) hx hb d_M_reg_32 rfl ?_
      refine hret _ () _ _ _ _ _ _ ?_ hW (by decide) (by decide) d_M_reg_33
      show (r (6) (4 * (nn x) + nn y)).toInt64 = mReg r x y
      simp only [mReg, if_neg c_5, if_neg c_13]
    · have c_13 : outP (y) (3) := bo_ne hp3 c_13
      refine lv_ldc2 (v := (10000000000 : Int64)) hx hb hown (hts _ kg_M_152) d_M_reg_16 ?_
      refine lv_goto (tgt := 33) hx hb d_M_reg_19 (by decide) ?_
      refine hret _ () _ _ _ _ _ _ ?_ hW (by decide) (by decide) d_M_reg_33
      show (10000000000 : Int64) = mReg r x y
      simp only [mReg, if_neg c_5, if_pos c_13]
abbrev rm_M_word : Room := { frames := 1, cells := 0, slots := 0, locals := 21 }
set_option maxHeartbeats 4000000 in
set_option maxRecDepth 100000 in
theorem c_M_word (l : Launch) {D : va_G} {g : Nat → ClassId} {am : Nat → Nat} {r : Vs} (x : Int32) (hO : OkM r) : MtL l y_M_word ws_M_word rm_M_word D classes (tysA g) [.ref (am (0)), .int (x)] (wM g am (r)) (fun (rr : Int64) (_ : Unit) => rr = mWord r x) (fun _ => wM g am (r)) 0 0 := by
  refine mt_l (by decide +kernel) rfl (Nat.le_of_ble_eq_true rfl) (fun p e s m args below meth c Q A C hA hW hret ls hl => ?_)
  obtain ⟨hx, hb, hr, hml, hown, hts0, hlocks⟩ := C
  have hts : ∀ w ∈ bigw, w.before args s = true := fun w h => hts0 w (List.mem_cons_of_mem _ h)
  have hown : s.vm.findClass R_M = some m.cls := hown
  have hnp := hO.le
  have hl : lv_has ls 2 [(0, .ref (am (0))), (1, .int (x))] := hl
  refine lv_iload_n hx hb d_M_word_0 rfl (lv_at hl 1 rfl) ?_
  refine lv_bipush (v := 31) hx hb d_M_word_1 (by decide) ?_
  refine wci hW hA (va_runS (As := [.int (x), .int (31)]) (rest := []) ⟨hx, hb, hml, hown, hts⟩ (c_M_out l _ (x) (31) _) (cs 2 hts kc_M_out ks_M_out kn_M km_M_84 kh_M_out rfl rfl ⟨by decide, by decide⟩) (preWS hW) rfl rfl hl.1 rfl (lv_room (Nat.le_of_ble_eq_true rfl)) d_M_word_3 ⟨by decide, by decide⟩) (fun rr1 uu1 H locs hp1 hW => ?_)
  have hW : Wd D classes (tysA g) s A (wM g am (r)) H locs := hW
  have hp1 : rr1 = if outP (x) (31) then 1 else 0 := hp1
  refine lv_if_eq (tgt := 15) hx hb d_M_word_6 (by decide) (fun c_6 => ?_) (fun c_6 => ?_)
  · have c_6 : ¬ (outP (x) (31)) := bo_eq hp1 c_6
    obtain ⟨e2, b2⟩ := nout_nn (N := 31) rfl (by omega) c_6
    refine lv_aload_n hx hb d_M_word_15 rfl (lv_at hl 0 rfl) ?_
    refine wg hx hb hts i_M hown hW (0) (by omega) mm_root rfl 18 (by decide) (hts _ kf_M_62) rfl d_M_word_16 ?_
    refine lv_iload_n hx hb d_M_word_19 rfl (lv_at hl 1 rfl) ?_
    refine wi hx hb hW (18) (by omega) mm_18 0 rfl (nn x) e2 (by omega) (by decide) d_M_word_20 ?_
    refine lv_i2l (v := (r (18) (nn x)).toInt64) hx hb d_M_word_21 rfl ?_
    refine hret _ () _ _ _ _ _ _ ?_ hW (by decide) (by decide) d_M_word_22
    show (r (18) (nn x)).toInt64 = mWord r x
    simp only [mWord, if_neg c_6]
  · have c_6 : outP (x) (31) := bo_ne hp1 c_6
    refine lv_ldc2 (v := (10000000000 : Int64)) hx hb hown (hts _ kg_M_152) d_M_word_9 ?_
    refine lv_goto (tgt := 22) hx hb d_M_word_12 (by decide) ?_
    refine hret _ () _ _ _ _ _ _ ?_ hW (by decide) (by decide) d_M_word_22
    show (10000000000 : Int64) = mWord r x
    simp only [mWord, if_pos c_6]
abbrev rm_M_copy : Room := { frames := 1, cells := 0, slots := 0, locals := 21 }
set_option maxHeartbeats 4000000 in
set_option maxRecDepth 100000 in
theorem c_M_copy (l : Launch) {D : va_G} {g : Nat → ClassId} {am : Nat → Nat} {r : Vs} (x : Int32) (y : Int32) (hO : OkM r) : MtL l y_M_copy ws_M_copy rm_M_copy D classes (tysA g) [.ref (am (0)), .int (x), .int (y)] (wM g am (r)) (fun (rr : Int64) (_ : Unit) => rr = mCopy r x y) (fun _ => wM g am (r)) 0 0 := by
  refine mt_l (by decide +kernel) rfl (Nat.le_of_ble_eq_true rfl) (fun p e s m args below meth c Q A C hA hW hret ls hl => ?_)
  obtain ⟨hx, hb, hr, hml, hown, hts0, hlocks⟩ := C
  have hts : ∀ w ∈ bigw, w.before args s = true := fun w h => hts0 w (List.mem_cons_of_mem _ h)
  have hown : s.vm.findClass R_M = some m.cls := hown
  have hnp := hO.le
  have hl : lv_has ls 3 [(0, .ref (am (0))), (1, .int (x)), (2, .int (y))] := hl
  refine lv_iload_n hx hb d_M_copy_0 rfl (lv_at hl 1 rfl) ?_
  refine lv_iconst (v := 2) hx hb d_M_copy_1 (by decide) ?_
  refine wci hW hA (va_runS (As := [.int (x), .int (2)]) (rest := []) ⟨hx, hb, hml, hown, hts⟩ (c_M_out l _ (x) (2) _) (cs 2 hts kc_M_out ks_M_out kn_M km_M_84 kh_M_out rfl rfl ⟨by decide, by decide⟩) (preWS hW) rfl rfl hl.1 rfl (lv_room (Nat.le_of_ble_eq_true rfl)) d_M_copy_2 ⟨by decide, by decide⟩) (fun rr1 uu1 H locs hp1 hW => ?_)
  have hW : Wd D classes (tysA g) s A (wM g am (r)) H locs := hW
  have hp1 : rr1 = if outP (x) (2) then 1 else 0 := hp1
  refine lv_if_ne (tgt := 33) hx hb d_M_copy_5 (by decide) (fun c_5 => ?_) (fun c_5 => ?_)
  · have c_5 : outP (x) (2) := bo_ne hp1 c_5
    refine lv_ldc2 (v := (10000000000 : Int64)) hx hb hown (hts _ kg_M_152) d_M_copy_33 ?_
    refine hret _ () _ _ _ _ _ _ ?_ hW (by decide) (by decide) d_M_copy_36
    show (10000000000 : Int64) = mCopy r x y
    simp only [mCopy, if_pos c_5]
  · have c_5 : ¬ (outP (x) (2)) := bo_eq hp1 c_5
    obtain ⟨e2, b2⟩ := nout_nn (N := 2) rfl (by omega) c_5
    refine lv_iload_n hx hb d_M_copy_8 rfl (lv_at hl 2 rfl) ?_
    refine lv_bipush (v := 31) hx hb d_M_copy_9 (by decide) ?_
    refine wci hW hA (va_runS (As := [.int (y), .int (31)]) (rest := []) ⟨hx, hb, hml, hown, hts⟩ (c_M_out l _ (y) (31) _) (cs 2 hts kc_M_out ks_M_out kn_M km_M_84 kh_M_out rfl rfl ⟨by decide, by decide⟩) (preWS hW) rfl rfl hl.1 rfl (lv_room (Nat.le_of_ble_eq_true rfl)) d_M_copy_11 ⟨by decide, by decide⟩) (fun rr3 uu3 H locs hp3 hW => ?_)
    have hW : Wd D classes (tysA g) s A (wM g am (r)) H locs := hW
    have hp3 : rr3 = if outP (y) (31) then 1 else 0 := hp3
    refine lv_if_ne (tgt := 33) hx hb d_M_copy_14 (by decide) (fun c_14 => ?_) (fun c_14 => ?_)
    · have c_14 : outP (y) (31) := bo_ne hp3 c_14
      refine lv_ldc2 (v := (10000000000 : Int64)) hx hb hown (hts _ kg_M_152) d_M_copy_33 ?_
      refine hret _ () _ _ _ _ _ _ ?_ hW (by decide) (by decide) d_M_copy_36
      show (10000000000 : Int64) = mCopy r x y
      simp only [mCopy, if_neg c_5, if_pos c_14]
    · have c_14 : ¬ (outP (y) (31)) := bo_eq hp3 c_14
      obtain ⟨e4, b4⟩ := nout_nn (N := 31) rfl (by omega) c_14
      refine lv_aload_n hx hb d_M_copy_17 rfl (lv_at hl 0 rfl) ?_
      refine wg hx hb hts i_M hown hW (0) (by omega) mm_root rfl 19 (by decide) (hts _ kf_M_65) rfl d_M_copy_18 ?_
      refine lv_bipush (v := 8) hx hb d_M_copy_21 (by decide) ?_
      refine lv_iload_n hx hb d_M_copy_23 rfl (lv_at hl 1 rfl) ?_
      refine lv_imul hx hb d_M_copy_24 ?_
      refine lv_iload_n hx hb d_M_copy_25 rfl (lv_at hl 2 rfl) ?_
      refine lv_iconst (v := 4) hx hb d_M_copy_26 (by decide) ?_
      refine lv_idiv hx hb d_M_copy_27 (by decide) ?_
      refine lv_iadd hx hb d_M_copy_28 ?_
      refine wi hx hb hW (19) (by omega) mm_19 0 rfl (8 * (nn x) + (nn y) / 4) (ni_add (ni_mul rfl e2) (ni_div e4 rfl (by omega) (by decide) (by decide))) (by omega) (by decide) d_M_copy_29 ?_
      refine lv_if_ne (tgt := 37) hx hb d_M_copy_30 (by decide) (fun c_30 => ?_) (fun c_30 => ?_)
      · refine lv_aload_n hx hb d_M_copy_37 rfl (lv_at hl 0 rfl) ?_
        refine wg hx hb hts i_M hown hW (0) (by omega) mm_root rfl 18 (by decide) (hts _ kf_M_62) rfl d_M_copy_38 ?_
        refine lv_iload_n hx hb d_M_copy_41 rfl (lv_at hl 2 rfl) ?_
        refine wi hx hb hW (18) (by omega) mm_18 0 rfl (nn y) e4 (by omega) (by decide) d_M_copy_42 ?_
        refine lv_i2l (v := (r (18) (nn y)).toInt64) hx hb d_M_copy_43 rfl ?_
        refine hret _ () _ _ _ _ _ _ ?_ hW (by decide) (by decide) d_M_copy_44
        show (r (18) (nn y)).toInt64 = mCopy r x y
        simp only [mCopy, if_neg c_5, if_neg c_14, if_neg c_30]
      · refine lv_ldc2 (v := (10000000000 : Int64)) hx hb hown (hts _ kg_M_152) d_M_copy_33 ?_
        refine hret _ () _ _ _ _ _ _ ?_ hW (by decide) (by decide) d_M_copy_36
        show (10000000000 : Int64) = mCopy r x y
        simp only [mCopy, if_neg c_5, if_neg c_14, if_pos c_30]
abbrev rm_M_right : Room := { frames := 1, cells := 0, slots := 0, locals := 21 }
set_option maxHeartbeats 4000000 in
set_option maxRecDepth 100000 in
theorem c_M_right (l : Launch) {D : va_G} {g : Nat → ClassId} {am : Nat → Nat} {r : Vs} (x : Int32) (y : Int32) (hO : OkM r) : MtI l y_M_right ws_M_right rm_M_right D classes (tysA g) [.ref (am (0)), .int (x), .int (y)] (wM g am (r)) (fun (rr : Int32) (_ : Unit) => rr = mRight r x y) (fun _ => wM g am (r)) 0 0 := by
  refine mt_i (ty := .int) (fun _ _ _ => rfl) (by decide +kernel) rfl (Nat.le_of_ble_eq_true rfl) (fun p e s m args below meth c Q A C hA hW hret ls hl => ?_)
  obtain ⟨hx, hb, hr, hml, hown, hts0, hlocks⟩ := C
  have hts : ∀ w ∈ bigw, w.before args s = true := fun w h => hts0 w (List.mem_cons_of_mem _ h)
  have hown : s.vm.findClass R_M = some m.cls := hown
  have hnp := hO.le
  have hl : lv_has ls 3 [(0, .ref (am (0))), (1, .int (x)), (2, .int (y))] := hl
  refine lv_iload_n hx hb d_M_right_0 rfl (lv_at hl 1 rfl) ?_
  refine lv_iconst (v := 2) hx hb d_M_right_1 (by decide) ?_
  refine wci hW hA (va_runS (As := [.int (x), .int (2)]) (rest := []) ⟨hx, hb, hml, hown, hts⟩ (c_M_out l _ (x) (2) _) (cs 2 hts kc_M_out ks_M_out kn_M km_M_84 kh_M_out rfl rfl ⟨by decide, by decide⟩) (preWS hW) rfl rfl hl.1 rfl (lv_room (Nat.le_of_ble_eq_true rfl)) d_M_right_2 ⟨by decide, by decide⟩) (fun rr1 uu1 H locs hp1 hW => ?_)
  have hW : Wd D classes (tysA g) s A (wM g am (r)) H locs := hW
  have hp1 : rr1 = if outP (x) (2) then 1 else 0 := hp1
  refine lv_if_ne (tgt := 17) hx hb d_M_right_5 (by decide) (fun c_5 => ?_) (fun c_5 => ?_)
  · have c_5 : outP (x) (2) := bo_ne hp1 c_5
    refine lv_iconst (v := (-1)) hx hb d_M_right_17 (by decide) ?_
    refine lv_goto (tgt := 32) hx hb d_M_right_18 (by decide) ?_
    refine hret _ () _ _ _ _ _ _ ?_ hW (by decide) (by decide) d_M_right_32
    show (-1) = mRight r x y
    simp only [mRight, if_pos c_5]
  · have c_5 : ¬ (outP (x) (2)) := bo_eq hp1 c_5
    obtain ⟨e2, b2⟩ := nout_nn (N := 2) rfl (by omega) c_5
    refine lv_iload_n hx hb d_M_right_8 rfl (lv_at hl 2 rfl) ?_
    refine lv_bipush (v := 7) hx hb d_M_right_9 (by decide) ?_
    refine wci hW hA (va_runS (As := [.int (y), .int (7)]) (rest := []) ⟨hx, hb, hml, hown, hts⟩ (c_M_out l _ (y) (7) _) (cs 2 hts kc_M_out ks_M_out kn_M km_M_84 kh_M_out rfl rfl ⟨by decide, by decide⟩) (preWS hW) rfl rfl hl.1 rfl (lv_room (Nat.le_of_ble_eq_true rfl)) d_M_right_11 ⟨by decide, by decide⟩) (fun rr3 uu3 H locs hp3 hW => ?_)
    have hW : Wd D classes (tysA g) s A (wM g am (r)) H locs := hW
    have hp3 : rr3 = if outP (y) (7) then 1 else 0 := hp3
    refine lv_if_eq (tgt := 21) hx hb d_M_right_14 (by decide) (fun c_14 => ?_) (fun c_14 => ?_)
    · have c_14 : ¬ (outP (y) (7)) := bo_eq hp3 c_14
      obtain ⟨e4, b4⟩ := nout_nn (N := 7) rfl (by omega) c_14
      refine lv_aload_n hx hb d_M_right_21 rfl (lv_at hl 0 rfl) ?_
      refine wg hx hb hts i_M hown hW (0) (by omega) mm_root rfl 19 (by decide) (hts _ kf_M_65) rfl d_M_right_22 ?_
      refine lv_bipush (v := 8) hx hb d_M_right_25 (by decide) ?_
      refine lv_iload_n hx hb d_M_right_27 rfl (lv_at hl 1 rfl) ?_
      refine lv_imul hx hb d_M_right_28 ?_
      refine lv_iload_n hx hb d_M_right_29 rfl (lv_at hl 2 rfl) ?_
      refine lv_iadd hx hb d_M_right_30 ?_
      refine wi hx hb hW (19) (by omega) mm_19 0 rfl (8 * (nn x) + nn y) (ni_add (ni_mul rfl e2) e4) (by omega) (by decide) d_M_right_31 ?_
      refine hret _ () _ _ _ _ _ _ ?_ hW (by decide) (by decide) d_M_right_32
      show r (19) (8 * (nn x) + nn y) = mRight r x y
      simp only [mRight, if_neg c_5, if_neg c_14]
    · have c_14 : outP (y) (7) := bo_ne hp3 c_14
      refine lv_iconst (v := (-1)) hx hb d_M_right_17 (by decide) ?_
      refine lv_goto (tgt := 32) hx hb d_M_right_18 (by decide) ?_
      refine hret _ () _ _ _ _ _ _ ?_ hW (by decide) (by decide) d_M_right_32
      show (-1) = mRight r x y
      simp only [mRight, if_neg c_5, if_pos c_14]
abbrev rm_M_owner : Room := { frames := 1, cells := 0, slots := 0, locals := 21 }
set_option maxHeartbeats 4000000 in
set_option maxRecDepth 100000 in
theorem c_M_owner (l : Launch) {D : va_G} {g : Nat → ClassId} {am : Nat → Nat} {r : Vs} (x : Int32) (hO : OkM r) : MtI l y_M_owner ws_M_owner rm_M_owner D classes (tysA g) [.ref (am (0)), .int (x)] (wM g am (r)) (fun (rr : Int32) (_ : Unit) => rr = mOwner r x) (fun _ => wM g am (r)) 0 0 := by
  refine mt_i (ty := .int) (fun _ _ _ => rfl) (by decide +kernel) rfl (Nat.le_of_ble_eq_true rfl) (fun p e s m args below meth c Q A C hA hW hret ls hl => ?_)
  obtain ⟨hx, hb, hr, hml, hown, hts0, hlocks⟩ := C
  have hts : ∀ w ∈ bigw, w.before args s = true := fun w h => hts0 w (List.mem_cons_of_mem _ h)
  have hown : s.vm.findClass R_M = some m.cls := hown
  have hnp := hO.le
  have hl : lv_has ls 2 [(0, .ref (am (0))), (1, .int (x))] := hl
  refine lv_iload_n hx hb d_M_owner_0 rfl (lv_at hl 1 rfl) ?_
  refine lv_bipush (v := 7) hx hb d_M_owner_1 (by decide) ?_
  refine wci hW hA (va_runS (As := [.int (x), .int (7)]) (rest := []) ⟨hx, hb, hml, hown, hts⟩ (c_M_out l _ (x) (7) _) (cs 2 hts kc_M_out ks_M_out kn_M km_M_84 kh_M_out rfl rfl ⟨by decide, by decide⟩) (preWS hW) rfl rfl hl.1 rfl (lv_room (Nat.le_of_ble_eq_true rfl)) d_M_owner_3 ⟨by decide, by decide⟩) (fun rr1 uu1 H locs hp1 hW => ?_)
  have hW : Wd D classes (tysA g) s A (wM g am (r)) H locs := hW
  have hp1 : rr1 = if outP (x) (7) then 1 else 0 := hp1
  refine lv_if_eq (tgt := 13) hx hb d_M_owner_6 (by decide) (fun c_6 => ?_) (fun c_6 => ?_)
  · have c_6 : ¬ (outP (x) (7)) := bo_eq hp1 c_6
    obtain ⟨e2, b2⟩ := nout_nn (N := 7) rfl (by omega) c_6
    refine lv_aload_n hx hb d_M_owner_13 rfl (lv_at hl 0 rfl) ?_
    refine wg hx hb hts i_M hown hW (0) (by omega) mm_root rfl 21 (by decide) (hts _ kf_M_71) rfl d_M_owner_14 ?_
    refine lv_iload_n hx hb d_M_owner_17 rfl (lv_at hl 1 rfl) ?_
    refine wi hx hb hW (21) (by omega) mm_21 0 rfl (nn x) e2 (by omega) (by decide) d_M_owner_18 ?_
    refine hret _ () _ _ _ _ _ _ ?_ hW (by decide) (by decide) d_M_owner_19
    show r (21) (nn x) = mOwner r x
    simp only [mOwner, if_neg c_6]
  · have c_6 : outP (x) (7) := bo_ne hp1 c_6
    refine lv_iconst (v := (-1)) hx hb d_M_owner_9 (by decide) ?_
    refine lv_goto (tgt := 19) hx hb d_M_owner_10 (by decide) ?_
    refine hret _ () _ _ _ _ _ _ ?_ hW (by decide) (by decide) d_M_owner_19
    show (-1) = mOwner r x
    simp only [mOwner, if_pos c_6]
abbrev rm_M_line : Room := { frames := 1, cells := 0, slots := 0, locals := 25 }
set_option maxHeartbeats 4000000 in
set_option maxRecDepth 100000 in
theorem c_M_line (l : Launch) {D : va_G} {g : Nat → ClassId} {am : Nat → Nat} {r : Vs} (x : Int32) (y : Int32) (hO : OkM r) : MtI l y_M_line ws_M_line rm_M_line D classes (tysA g) [.ref (am (0)), .int (x), .int (y)] (wM g am (r)) (fun (rr : Int32) (_ : Unit) => rr = mLine r x y) (fun _ => wM g am (r)) 0 0 := by
  refine mt_i (ty := .int) (fun _ _ _ => rfl) (by decide +kernel) rfl (Nat.le_of_ble_eq_true rfl) (fun p e s m args below meth c Q A C hA hW hret ls hl => ?_)
  obtain ⟨hx, hb, hr, hml, hown, hts0, hlocks⟩ := C
  have hts : ∀ w ∈ bigw, w.before args s = true := fun w h => hts0 w (List.mem_cons_of_mem _ h)
  have hown : s.vm.findClass R_M = some m.cls := hown
  have hnp := hO.le
  have hl : lv_has ls 3 [(0, .ref (am (0))), (1, .int (x)), (2, .int (y))] := hl
  refine lv_iload_n hx hb d_M_line_0 rfl (lv_at hl 1 rfl) ?_
  refine lv_iconst (v := 2) hx hb d_M_line_1 (by decide) ?_
  refine wci hW hA (va_runS (As := [.int (x), .int (2)]) (rest := []) ⟨hx, hb, hml, hown, hts⟩ (c_M_out l _ (x) (2) _) (cs 2 hts kc_M_out ks_M_out kn_M km_M_84 kh_M_out rfl rfl ⟨by decide, by decide⟩) (preWS hW) rfl rfl hl.1 rfl (lv_room (Nat.le_of_ble_eq_true rfl)) d_M_line_2 ⟨by decide, by decide⟩) (fun rr1 uu1 H locs hp1 hW => ?_)
  have hW : Wd D classes (tysA g) s A (wM g am (r)) H locs := hW
  have hp1 : rr1 = if outP (x) (2) then 1 else 0 := hp1
  refine lv_if_ne (tgt := 12) hx hb d_M_line_5 (by decide) (fun c_5 => ?_) (fun c_5 => ?_)
  · have c_5 : outP (x) (2) := bo_ne hp1 c_5
    refine lv_iconst (v := (-1)) hx hb d_M_line_12 (by decide) ?_
    refine lv_goto (tgt := 22) hx hb d_M_line_13 (by decide) ?_
    refine hret _ () _ _ _ _ _ _ ?_ hW (by decide) (by decide) d_M_line_22
    show (-1) = mLine r x y
    simp only [mLine, if_pos c_5]
  · have c_5 : ¬ (outP (x) (2)) := bo_eq hp1 c_5
    obtain ⟨e2, b2⟩ := nout_nn (N := 2) rfl (by omega) c_5
    refine lv_iload_n hx hb d_M_line_8 rfl (lv_at hl 2 rfl) ?_
    refine lv_if_ge (tgt := 16) hx hb d_M_line_9 (by decide) (fun c_9 => ?_) (fun c_9 => ?_)
    · refine lv_aload_n hx hb d_M_line_16 rfl (lv_at hl 0 rfl) ?_
      refine lv_iload_n hx hb d_M_line_17 rfl (lv_at hl 1 rfl) ?_
      refine lv_iload_n hx hb d_M_line_18 rfl (lv_at hl 2 rfl) ?_
      refine wci hW hA (va_runV (As := [.int (x), .int (y)]) (rest := []) ⟨hx, hb, hml, hown, hts⟩ (c_M_standing l (x) (y) hO _) (cv 2 hts kc_M_standing ki_M_standing ke_M_standing kn_M km_M_118 kh_M_standing rfl rfl ⟨by decide, by decide⟩) (preW hW rfl rfl (mw_get (by omega) mm_root)) rfl rfl hl.1 rfl (lv_room (Nat.le_of_ble_eq_true rfl)) d_M_line_19 ⟨by decide, by decide⟩) (fun rr3 uu3 H locs hp3 hW => ?_)
      have hW : Wd D classes (tysA g) s A (wM g am (r)) H locs := hW
      have hp3 : rr3 = mSt r (x) (y) := hp3
      subst hp3
      obtain ⟨e4, b4⟩ := mSt_nn hO (x := (x)) (y := (y))
      refine hret _ () _ _ _ _ _ _ ?_ hW (by decide) (by decide) d_M_line_22
      show mSt r (x) (y) = mLine r x y
      simp only [mLine, if_neg c_5, if_pos c_9]
    · refine lv_iconst (v := (-1)) hx hb d_M_line_12 (by decide) ?_
      refine lv_goto (tgt := 22) hx hb d_M_line_13 (by decide) ?_
      refine hret _ () _ _ _ _ _ _ ?_ hW (by decide) (by decide) d_M_line_22
      show (-1) = mLine r x y
      simp only [mLine, if_neg c_5, if_neg c_9]
abbrev rm_M_info : Room := { frames := 1, cells := 0, slots := 0, locals := 21 }
set_option maxHeartbeats 4000000 in
set_option maxRecDepth 100000 in
theorem c_M_info (l : Launch) {D : va_G} {g : Nat → ClassId} {am : Nat → Nat} {r : Vs} (x : Int32) (y : Int32) (hO : OkM r) : MtL l y_M_info ws_M_info rm_M_info D classes (tysA g) [.ref (am (0)), .int (x), .int (y)] (wM g am (r)) (fun (rr : Int64) (_ : Unit) => rr = mInfo r x y) (fun _ => wM g am (r)) 0 0 := by
  refine mt_l (by decide +kernel) rfl (Nat.le_of_ble_eq_true rfl) (fun p e s m args below meth c Q A C hA hW hret ls hl => ?_)
  obtain ⟨hx, hb, hr, hml, hown, hts0, hlocks⟩ := C
  have hts : ∀ w ∈ bigw, w.before args s = true := fun w h => hts0 w (List.mem_cons_of_mem _ h)
  have hown : s.vm.findClass R_M = some m.cls := hown
  have hnp := hO.le
  have hl : lv_has ls 3 [(0, .ref (am (0))), (1, .int (x)), (2, .int (y))] := hl
  refine lv_aload_n hx hb d_M_info_0 rfl (lv_at hl 0 rfl) ?_
  refine lv_iload_n hx hb d_M_info_1 rfl (lv_at hl 1 rfl) ?_
  refine wci hW hA (va_runV (As := [.int (x)]) (rest := []) ⟨hx, hb, hml, hown, hts⟩ (c_M_noProcess l (x) hO _) (cv 1 hts kc_M_noProcess ki_M_noProcess ke_M_noProcess kn_M km_M_100 kh_M_noProcess rfl rfl ⟨by decide, by decide⟩) (preW hW rfl rfl (mw_get (by omega) mm_root)) rfl rfl hl.1 rfl (lv_room (Nat.le_of_ble_eq_true rfl)) d_M_info_2 ⟨by decide, by decide⟩) (fun rr1 uu1 H locs hp1 hW => ?_)
  have hW : Wd D classes (tysA g) s A (wM g am (r)) H locs := hW
  have hp1 : rr1 = if npP r (x) then 1 else 0 := hp1
  refine lv_if_eq (tgt := 12) hx hb d_M_info_5 (by decide) (fun c_5 => ?_) (fun c_5 => ?_)
  · have c_5 : ¬ (npP r (x)) := bo_eq hp1 c_5
    obtain ⟨e2, b2⟩ := nnp_nn hO c_5
    refine lv_iload_n hx hb d_M_info_12 rfl (lv_at hl 2 rfl) ?_
    rcases sw_6 (y) with c_13 | h_13_0 | h_13_1 | h_13_2 | h_13_3 | h_13_4 | h_13_5
    · refine lv_tableOut (tgt := 100) hx hb d_M_info_13 c_13 (by decide) ?_
      refine lv_ldc2 (v := (10000000000 : Int64)) hx hb hown (hts _ kg_M_152) d_M_info_100 ?_
      refine hret _ () _ _ _ _ _ _ ?_ hW (by decide) (by decide) d_M_info_103
      show (10000000000 : Int64) = mInfo r x y
      simp only [mInfo, if_neg c_5, if_neg (out_ne c_13 0 (by decide)), if_neg (out_ne c_13 1 (by decide)), if_neg (out_ne c_13 2 (by decide)), if_neg (out_ne c_13 3 (by decide)), if_neg (out_ne c_13 4 (by decide)), if_neg (out_ne c_13 5 (by decide))]
    · refine lv_tableIn (tgt := 52) hx hb d_M_info_13 (by rw [h_13_0]; decide) (by rw [h_13_0]; decide) (off := 39) (by rw [h_13_0]; rfl) (by decide) ?_
      refine lv_aload_n hx hb d_M_info_52 rfl (lv_at hl 0 rfl) ?_
      refine wg hx hb hts i_M hown hW (0) (by omega) mm_root rfl 8 (by decide) (hts _ kf_M_34) rfl d_M_info_53 ?_
      refine lv_iload_n hx hb d_M_info_56 rfl (lv_at hl 1 rfl) ?_
      refine wi hx hb hW (9) (by omega) mm_9 0 rfl (nn x) e2 (by omega) (by decide) d_M_info_57 ?_
      refine lv_i2l (v := (r (9) (nn x)).toInt64) hx hb d_M_info_58 rfl ?_
      refine hret _ () _ _ _ _ _ _ ?_ hW (by decide) (by decide) d_M_info_59
      show (r (9) (nn x)).toInt64 = mInfo r x y
      subst h_13_0
      simp only [mInfo, if_neg c_5]
      rfl
    · refine lv_tableIn (tgt := 60) hx hb d_M_info_13 (by rw [h_13_1]; decide) (by rw [h_13_1]; decide) (off := 47) (by rw [h_13_1]; rfl) (by decide) ?_
      refine lv_aload_n hx hb d_M_info_60 rfl (lv_at hl 0 rfl) ?_
      refine wg hx hb hts i_M hown hW (0) (by omega) mm_root rfl 7 (by decide) (hts _ kf_M_31) rfl d_M_info_61 ?_
      refine lv_iload_n hx hb d_M_info_64 rfl (lv_at hl 1 rfl) ?_
      refine wi hx hb hW (8) (by omega) mm_8 0 rfl (nn x) e2 (by omega) (by decide) d_M_info_65 ?_
      obtain ⟨e3, b3⟩ := hO.c8 (nn x)
      refine lv_i2l (v := (r (8) (nn x)).toInt64) hx hb d_M_info_66 rfl ?_
      refine hret _ () _ _ _ _ _ _ ?_ hW (by decide) (by decide) d_M_info_67
      show (r (8) (nn x)).toInt64 = mInfo r x y
      subst h_13_1
      simp only [mInfo, if_neg c_5]
      rfl
    · refine lv_tableIn (tgt := 68) hx hb d_M_info_13 (by rw [h_13_2]; decide) (by rw [h_13_2]; decide) (off := 55) (by rw [h_13_2]; rfl) (by decide) ?_
      refine lv_aload_n hx hb d_M_info_68 rfl (lv_at hl 0 rfl) ?_
      refine wg hx hb hts i_M hown hW (0) (by omega) mm_root rfl 6 (by decide) (hts _ kf_M_28) rfl d_M_info_69 ?_
      refine lv_iload_n hx hb d_M_info_72 rfl (lv_at hl 1 rfl) ?_
      refine wi hx hb hW (7) (by omega) mm_7 0 rfl (nn x) e2 (by omega) (by decide) d_M_info_73 ?_
      obtain ⟨e4, b4⟩ := hO.c7 (nn x)
      refine lv_i2l (v := (r (7) (nn x)).toInt64) hx hb d_M_info_74 rfl ?_
      refine hret _ () _ _ _ _ _ _ ?_ hW (by decide) (by decide) d_M_info_75
      show (r (7) (nn x)).toInt64 = mInfo r x y
      subst h_13_2
      simp only [mInfo, if_neg c_5]
      rfl
    · refine lv_tableIn (tgt := 76) hx hb d_M_info_13 (by rw [h_13_3]; decide) (by rw [h_13_3]; decide) (off := 63) (by rw [h_13_3]; rfl) (by decide) ?_
      refine lv_aload_n hx hb d_M_info_76 rfl (lv_at hl 0 rfl) ?_
      refine wg hx hb hts i_M hown hW (0) (by omega) mm_root rfl 10 (by decide) (hts _ kf_M_40) rfl d_M_info_77 ?_
      refine lv_iload_n hx hb d_M_info_80 rfl (lv_at hl 1 rfl) ?_
      refine wi hx hb hW (11) (by omega) mm_11 0 rfl (nn x) e2 (by omega) (by decide) d_M_info_81 ?_
      refine lv_i2l (v := (r (11) (nn x)).toInt64) hx hb d_M_info_82 rfl ?_
      refine hret _ () _ _ _ _ _ _ ?_ hW (by decide) (by decide) d_M_info_83
      show (r (11) (nn x)).toInt64 = mInfo r x y
      subst h_13_3
      simp only [mInfo, if_neg c_5]
      rfl
    · refine lv_tableIn (tgt := 84) hx hb d_M_info_13 (by rw [h_13_4]; decide) (by rw [h_13_4]; decide) (off := 71) (by rw [h_13_4]; rfl) (by decide) ?_
      refine lv_aload_n hx hb d_M_info_84 rfl (lv_at hl 0 rfl) ?_
      refine wg hx hb hts i_M hown hW (0) (by omega) mm_root rfl 11 (by decide) (hts _ kf_M_43) rfl d_M_info_85 ?_
      refine lv_iload_n hx hb d_M_info_88 rfl (lv_at hl 1 rfl) ?_
      refine wi hx hb hW (12) (by omega) mm_12 0 rfl (nn x) e2 (by omega) (by decide) d_M_info_89 ?_
      refine lv_i2l (v := (r (12) (nn x)).toInt64) hx hb d_M_info_90 rfl ?_
      refine hret _ () _ _ _ _ _ _ ?_ hW (by decide) (by decide) d_M_info_91
      show (r (12) (nn x)).toInt64 = mInfo r x y
      subst h_13_4
      simp only [mInfo, if_neg c_5]
      rfl
    · refine lv_tableIn (tgt := 92) hx hb d_M_info_13 (by rw [h_13_5]; decide) (by rw [h_13_5]; decide) (off := 79) (by rw [h_13_5]; rfl) (by decide) ?_
      refine lv_aload_n hx hb d_M_info_92 rfl (lv_at hl 0 rfl) ?_
      refine wg hx hb hts i_M hown hW (0) (by omega) mm_root rfl 13 (by decide) (hts _ kf_M_49) rfl d_M_info_93 ?_
      refine lv_iload_n hx hb d_M_info_96 rfl (lv_at hl 1 rfl) ?_
      refine wi hx hb hW (14) (by omega) mm_14 0 rfl (nn x) e2 (by omega) (by decide) d_M_info_97 ?_
      refine lv_i2l (v := (r (14) (nn x)).toInt64) hx hb d_M_info_98 rfl ?_
      refine hret _ () _ _ _ _ _ _ ?_ hW (by decide) (by decide) d_M_info_99
      show (r (14) (nn x)).toInt64 = mInfo r x y
      subst h_13_5
      simp only [mInfo, if_neg c_5]
      rfl
  · have c_5 : npP r (x) := bo_ne hp1 c_5
    refine lv_ldc2 (v := (10000000000 : Int64)) hx hb hown (hts _ kg_M_152) d_M_info_8 ?_
    refine hret _ () _ _ _ _ _ _ ?_ hW (by decide) (by decide) d_M_info_11
    show (10000000000 : Int64) = mInfo r x y
    simp only [mInfo, if_pos c_5]
abbrev rm_M_migrate : Room := { frames := 2, cells := 0, slots := 0, locals := 41 }
set_option maxHeartbeats 4000000 in
set_option maxRecDepth 100000 in
theorem c_M_migrate (l : Launch) {D : va_G} {g : Nat → ClassId} {am : Nat → Nat} {r : Vs} (x : Int32) (y : Int32) (hO : OkM r) : MtI l y_M_migrate ws_M_migrate rm_M_migrate D classes (tysA g) [.ref (am (0)), .int (x), .int (y)] (wM g am (r)) (fun (rr : Int32) (_ : Unit) => rr = (mMig r x y).1) (fun _ => wM g am ((mMig r x y).2)) 0 0 := by
  refine mt_i (ty := .int) (fun _ _ _ => rfl) (by decide +kernel) rfl (Nat.le_of_ble_eq_true rfl) (fun p e s m args below meth c Q A C hA hW hret ls hl => ?_)
  obtain ⟨hx, hb, hr, hml, hown, hts0, hlocks⟩ := C
  have hts : ∀ w ∈ bigw, w.before args s = true := fun w h => hts0 w (List.mem_cons_of_mem _ h)
  have hown : s.vm.findClass R_M = some m.cls := hown
  have hnp := hO.le
  have hl : lv_has ls 4 [(0, .ref (am (0))), (1, .int (x)), (2, .int (y))] := hl
  refine lv_aload_n hx hb d_M_migrate_0 rfl (lv_at hl 0 rfl) ?_
  refine lv_iload_n hx hb d_M_migrate_1 rfl (lv_at hl 1 rfl) ?_
  refine wci hW hA (va_runV (As := [.int (x)]) (rest := []) ⟨hx, hb, hml, hown, hts⟩ (c_M_noProcess l (x) hO _) (cv 1 hts kc_M_noProcess ki_M_noProcess ke_M_noProcess kn_M km_M_100 kh_M_noProcess rfl rfl ⟨by decide, by decide⟩) (preW hW rfl rfl (mw_get (by omega) mm_root)) rfl rfl hl.1 rfl (lv_room (Nat.le_of_ble_eq_true rfl)) d_M_migrate_2 ⟨by decide, by decide⟩) (fun rr1 uu1 H locs hp1 hW => ?_)
  have hW : Wd D classes (tysA g) s A (wM g am (r)) H locs := hW
  have hp1 : rr1 = if npP r (x) then 1 else 0 := hp1
  refine lv_if_ne (tgt := 36) hx hb d_M_migrate_5 (by decide) (fun c_5 => ?_) (fun c_5 => ?_)
  · have c_5 : npP r (x) := bo_ne hp1 c_5
    refine lv_iconst (v := (-1)) hx hb d_M_migrate_36 (by decide) ?_
    have hfin : mMig r x y = ((-1), r) := by
      skip; simp only [mMig, if_pos c_5]
    refine hret _ () _ _ _ _ _ _ ?_ (by show Wd D classes (tysA g) s A (wM g am ((mMig r x y).2)) _ _; rw [hfin]; exact hW) (by decide) (by decide) d_M_migrate_37
    show (-1) = (mMig r x y).1
    rw [hfin]
  · have c_5 : ¬ (npP r (x)) := bo_eq hp1 c_5
    obtain ⟨e2, b2⟩ := nnp_nn hO c_5
    refine lv_aload_n hx hb d_M_migrate_8 rfl (lv_at hl 0 rfl) ?_
    refine wg hx hb hts i_M hown hW (0) (by omega) mm_root rfl 8 (by decide) (hts _ kf_M_34) rfl d_M_migrate_9 ?_
    refine lv_iload_n hx hb d_M_migrate_12 rfl (lv_at hl 1 rfl) ?_
    refine wi hx hb hW (9) (by omega) mm_9 0 rfl (nn x) e2 (by omega) (by decide) d_M_migrate_13 ?_
    refine lv_iconst (v := 4) hx hb d_M_migrate_14 (by decide) ?_
    refine lv_icmp_eq (tgt := 36) hx hb d_M_migrate_15 (by decide) (fun c_15 => ?_) (fun c_15 => ?_)
    · refine lv_iconst (v := (-1)) hx hb d_M_migrate_36 (by decide) ?_
      have hfin : mMig r x y = ((-1), r) := by
        skip; simp only [mMig, if_neg c_5, if_pos c_15]
      refine hret _ () _ _ _ _ _ _ ?_ (by show Wd D classes (tysA g) s A (wM g am ((mMig r x y).2)) _ _; rw [hfin]; exact hW) (by decide) (by decide) d_M_migrate_37
      show (-1) = (mMig r x y).1
      rw [hfin]
    · refine lv_iload_n hx hb d_M_migrate_18 rfl (lv_at hl 2 rfl) ?_
      refine lv_iconst (v := 2) hx hb d_M_migrate_19 (by decide) ?_
      refine wci hW hA (va_runS (As := [.int (y), .int (2)]) (rest := []) ⟨hx, hb, hml, hown, hts⟩ (c_M_out l _ (y) (2) _) (cs 2 hts kc_M_out ks_M_out kn_M km_M_84 kh_M_out rfl rfl ⟨by decide, by decide⟩) (preWS hW) rfl rfl hl.1 rfl (lv_room (Nat.le_of_ble_eq_true rfl)) d_M_migrate_20 ⟨by decide, by decide⟩) (fun rr3 uu3 H locs hp3 hW => ?_)
      have hW : Wd D classes (tysA g) s A (wM g am (r)) H locs := hW
      have hp3 : rr3 = if outP (y) (2) then 1 else 0 := hp3
      refine lv_if_ne (tgt := 36) hx hb d_M_migrate_23 (by decide) (fun c_23 => ?_) (fun c_23 => ?_)
      · have c_23 : outP (y) (2) := bo_ne hp3 c_23
        refine lv_iconst (v := (-1)) hx hb d_M_migrate_36 (by decide) ?_
        have hfin : mMig r x y = ((-1), r) := by
          skip; simp only [mMig, if_neg c_5, if_neg c_15, if_pos c_23]
        refine hret _ () _ _ _ _ _ _ ?_ (by show Wd D classes (tysA g) s A (wM g am ((mMig r x y).2)) _ _; rw [hfin]; exact hW) (by decide) (by decide) d_M_migrate_37
        show (-1) = (mMig r x y).1
        rw [hfin]
      · have c_23 : ¬ (outP (y) (2)) := bo_eq hp3 c_23
        obtain ⟨e4, b4⟩ := nout_nn (N := 2) rfl (by omega) c_23
        refine lv_aload_n hx hb d_M_migrate_26 rfl (lv_at hl 0 rfl) ?_
        refine wg hx hb hts i_M hown hW (0) (by omega) mm_root rfl 7 (by decide) (hts _ kf_M_31) rfl d_M_migrate_27 ?_
        refine lv_iload_n hx hb d_M_migrate_30 rfl (lv_at hl 1 rfl) ?_
        refine wi hx hb hW (8) (by omega) mm_8 0 rfl (nn x) e2 (by omega) (by decide) d_M_migrate_31 ?_
        obtain ⟨e5, b5⟩ := hO.c8 (nn x)
        refine lv_iload_n hx hb d_M_migrate_32 rfl (lv_at hl 2 rfl) ?_
        refine lv_icmp_ne (tgt := 38) hx hb d_M_migrate_33 (by decide) (fun c_33 => ?_) (fun c_33 => ?_)
        · have nc_33 : ¬ nv r (8) (nn x) = nn y := ni_ne e5 e4 (by omega) (by omega) c_33
          refine lv_aload_n hx hb d_M_migrate_38 rfl (lv_at hl 0 rfl) ?_
          refine wg hx hb hts i_M hown hW (0) (by omega) mm_root rfl 7 (by decide) (hts _ kf_M_31) rfl d_M_migrate_39 ?_
          refine lv_iload_n hx hb d_M_migrate_42 rfl (lv_at hl 1 rfl) ?_
          refine wi hx hb hW (8) (by omega) mm_8 0 rfl (nn x) e2 (by omega) (by decide) d_M_migrate_43 ?_
          obtain ⟨e6, b6⟩ := hO.c8 (nn x)
          refine lv_istore_n (lv' := [(3, .int (r (8) (nn x))), (0, .ref (am (0))), (1, .int (x)), (2, .int (y))]) hx hb d_M_migrate_44 rfl hl (by decide) rfl (fun ls hl => ?_)
          refine lv_aload_n hx hb d_M_migrate_45 rfl (lv_at hl 1 rfl) ?_
          refine wg hx hb hts i_M hown hW (0) (by omega) mm_root rfl 7 (by decide) (hts _ kf_M_31) rfl d_M_migrate_46 ?_
          refine lv_iload_n hx hb d_M_migrate_49 rfl (lv_at hl 2 rfl) ?_
          refine lv_iload_n hx hb d_M_migrate_50 rfl (lv_at hl 3 rfl) ?_
          refine wis hx hb hW (8) (by omega) mm_8 0 rfl (nn x) e2 (by omega) (by decide) (x := y) mm_8 d_M_migrate_51 (fun H locs hW => ?_)
          obtain ⟨mr7, ev7⟩ : ∃ z : Vs, z = u2 r (8) (nn x) (y) := ⟨_, rfl⟩
          rw [← ev7] at hW
          have hO7 : OkM mr7 := by rw [ev7]; exact hO.set (fun a => absurd a (by decide)) (fun a => absurd a (by decide)) (fun a => absurd a (by decide)) (fun _ => ⟨nn y, by omega, e4⟩) (fun a => absurd a (by decide)) (by decide)
          refine lv_aload_n hx hb d_M_migrate_52 rfl (lv_at hl 1 rfl) ?_
          refine wg hx hb hts i_M hown hW (0) (by omega) mm_root rfl 8 (by decide) (hts _ kf_M_34) rfl d_M_migrate_53 ?_
          refine lv_iload_n hx hb d_M_migrate_56 rfl (lv_at hl 2 rfl) ?_
          refine wi hx hb hW (9) (by omega) mm_9 0 rfl (nn x) e2 (by omega) (by decide) d_M_migrate_57 ?_
          refine lv_iconst (v := 1) hx hb d_M_migrate_58 (by decide) ?_
          refine lv_icmp_ne (tgt := 67) hx hb d_M_migrate_59 (by decide) (fun c_59 => ?_) (fun c_59 => ?_)
          · refine lv_aload_n hx hb d_M_migrate_67 rfl (lv_at hl 1 rfl) ?_
            refine wg hx hb hts i_M hown hW (0) (by omega) mm_root rfl 22 (by decide) (hts _ kf_M_74) rfl d_M_migrate_68 ?_
            refine lv_bipush (v := 8) hx hb d_M_migrate_71 (by decide) ?_
            refine lv_iload_n hx hb d_M_migrate_73 rfl (lv_at hl 0 rfl) ?_
            refine lv_imul hx hb d_M_migrate_74 ?_
            refine lv_iload_n hx hb d_M_migrate_75 rfl (lv_at hl 2 rfl) ?_
            refine lv_iadd hx hb d_M_migrate_76 ?_
            refine lv_iload_n hx hb d_M_migrate_77 rfl (lv_at hl 3 rfl) ?_
            refine wis hx hb hW (22) (by omega) mm_22 0 rfl (8 * (nv r (8) (nn x)) + nn x) (ni_add (ni_mul rfl e6) e2) (by omega) (by decide) (x := y) mm_22 d_M_migrate_78 (fun H locs hW => ?_)
            obtain ⟨mr8, ev8⟩ : ∃ z : Vs, z = u2 mr7 (22) (8 * (nv r (8) (nn x)) + nn x) (y) := ⟨_, rfl⟩
            rw [← ev8] at hW
            have hO8 : OkM mr8 := by rw [ev8]; exact hO7.set (fun a => absurd a (by decide)) (fun a => absurd a (by decide)) (fun a => absurd a (by decide)) (fun a => absurd a (by decide)) (fun _ => ⟨nn y, by omega, e4⟩) (by decide)
            refine lv_aload_n hx hb d_M_migrate_79 rfl (lv_at hl 1 rfl) ?_
            refine wg hx hb hts i_M hown hW (0) (by omega) mm_root rfl 22 (by decide) (hts _ kf_M_74) rfl d_M_migrate_80 ?_
            refine lv_bipush (v := 8) hx hb d_M_migrate_83 (by decide) ?_
            refine lv_iload_n hx hb d_M_migrate_85 rfl (lv_at hl 3 rfl) ?_
            refine lv_imul hx hb d_M_migrate_86 ?_
            refine lv_iload_n hx hb d_M_migrate_87 rfl (lv_at hl 2 rfl) ?_
            refine lv_iadd hx hb d_M_migrate_88 ?_
            refine lv_iload_n hx hb d_M_migrate_89 rfl (lv_at hl 3 rfl) ?_
            refine wis hx hb hW (22) (by omega) mm_22 0 rfl (8 * (nn y) + nn x) (ni_add (ni_mul rfl e4) e2) (by omega) (by decide) (x := y) mm_22 d_M_migrate_90 (fun H locs hW => ?_)
            obtain ⟨mr9, ev9⟩ : ∃ z : Vs, z = u2 mr8 (22) (8 * (nn y) + nn x) (y) := ⟨_, rfl⟩
            rw [← ev9] at hW
            have hO9 : OkM mr9 := by rw [ev9]; exact hO8.set (fun a => absurd a (by decide)) (fun a => absurd a (by decide)) (fun a => absurd a (by decide)) (fun a => absurd a (by decide)) (fun _ => ⟨nn y, by omega, e4⟩) (by decide)
            refine lv_iload_n hx hb d_M_migrate_91 rfl (lv_at hl 0 rfl) ?_
            have hfin : mMig r x y = (r (8) (nn x), mr9) := by
              subst ev9 ev8 ev7; simp only [mMig, if_neg c_5, if_neg c_15, if_neg c_23, if_neg c_33, if_neg c_59]
            refine hret _ () _ _ _ _ _ _ ?_ (by show Wd D classes (tysA g) s A (wM g am ((mMig r x y).2)) _ _; rw [hfin]; exact hW) (by decide) (by decide) d_M_migrate_92
            show r (8) (nn x) = (mMig r x y).1
            rw [hfin]
          · refine lv_aload_n hx hb d_M_migrate_62 rfl (lv_at hl 1 rfl) ?_
            refine lv_iload_n hx hb d_M_migrate_63 rfl (lv_at hl 2 rfl) ?_
            refine wcv hW hA (va_runV (As := [.int (x)]) (rest := []) ⟨hx, hb, hml, hown, hts⟩ (c_M_ready l (x) (nn x) e2 (by omega) hO7 _) (cv 1 hts kc_M_ready ki_M_ready ke_M_ready kn_M km_M_92 kh_M_ready rfl rfl ⟨by decide, by decide⟩) (preW hW rfl rfl (mw_get (by omega) mm_root)) rfl rfl hl.1 rfl (lv_room (Nat.le_of_ble_eq_true rfl)) d_M_migrate_64 ⟨by decide, by decide⟩) (fun uu10 H locs hp10 hW => ?_)
            have hW : Wd D classes (tysA g) s A (wM g am (mRdy mr7 (nn x))) H locs := hW
            obtain ⟨mr11, ev11⟩ : ∃ z : Vs, z = mRdy mr7 (nn x) := ⟨_, rfl⟩
            rw [← ev11] at hW
            have hO11 : OkM mr11 := by rw [ev11]; exact hO7.rdy
            refine lv_aload_n hx hb d_M_migrate_67 rfl (lv_at hl 1 rfl) ?_
            refine wg hx hb hts i_M hown hW (0) (by omega) mm_root rfl 22 (by decide) (hts _ kf_M_74) rfl d_M_migrate_68 ?_
            refine lv_bipush (v := 8) hx hb d_M_migrate_71 (by decide) ?_
            refine lv_iload_n hx hb d_M_migrate_73 rfl (lv_at hl 0 rfl) ?_
            refine lv_imul hx hb d_M_migrate_74 ?_
            refine lv_iload_n hx hb d_M_migrate_75 rfl (lv_at hl 2 rfl) ?_
            refine lv_iadd hx hb d_M_migrate_76 ?_
            refine lv_iload_n hx hb d_M_migrate_77 rfl (lv_at hl 3 rfl) ?_
            refine wis hx hb hW (22) (by omega) mm_22 0 rfl (8 * (nv r (8) (nn x)) + nn x) (ni_add (ni_mul rfl e6) e2) (by omega) (by decide) (x := y) mm_22 d_M_migrate_78 (fun H locs hW => ?_)
            obtain ⟨mr12, ev12⟩ : ∃ z : Vs, z = u2 mr11 (22) (8 * (nv r (8) (nn x)) + nn x) (y) := ⟨_, rfl⟩
            rw [← ev12] at hW
            have hO12 : OkM mr12 := by rw [ev12]; exact hO11.set (fun a => absurd a (by decide)) (fun a => absurd a (by decide)) (fun a => absurd a (by decide)) (fun a => absurd a (by decide)) (fun _ => ⟨nn y, by omega, e4⟩) (by decide)
            refine lv_aload_n hx hb d_M_migrate_79 rfl (lv_at hl 1 rfl) ?_
            refine wg hx hb hts i_M hown hW (0) (by omega) mm_root rfl 22 (by decide) (hts _ kf_M_74) rfl d_M_migrate_80 ?_
            refine lv_bipush (v := 8) hx hb d_M_migrate_83 (by decide) ?_
            refine lv_iload_n hx hb d_M_migrate_85 rfl (lv_at hl 3 rfl) ?_
            refine lv_imul hx hb d_M_migrate_86 ?_
            refine lv_iload_n hx hb d_M_migrate_87 rfl (lv_at hl 2 rfl) ?_
            refine lv_iadd hx hb d_M_migrate_88 ?_
            refine lv_iload_n hx hb d_M_migrate_89 rfl (lv_at hl 3 rfl) ?_
            refine wis hx hb hW (22) (by omega) mm_22 0 rfl (8 * (nn y) + nn x) (ni_add (ni_mul rfl e4) e2) (by omega) (by decide) (x := y) mm_22 d_M_migrate_90 (fun H locs hW => ?_)
            obtain ⟨mr13, ev13⟩ : ∃ z : Vs, z = u2 mr12 (22) (8 * (nn y) + nn x) (y) := ⟨_, rfl⟩
            rw [← ev13] at hW
            have hO13 : OkM mr13 := by rw [ev13]; exact hO12.set (fun a => absurd a (by decide)) (fun a => absurd a (by decide)) (fun a => absurd a (by decide)) (fun a => absurd a (by decide)) (fun _ => ⟨nn y, by omega, e4⟩) (by decide)
            refine lv_iload_n hx hb d_M_migrate_91 rfl (lv_at hl 0 rfl) ?_
            have hfin : mMig r x y = (r (8) (nn x), mr13) := by
              subst ev13 ev12 ev11 ev7; simp only [mMig, if_neg c_5, if_neg c_15, if_neg c_23, if_neg c_33, if_pos c_59]
            refine hret _ () _ _ _ _ _ _ ?_ (by show Wd D classes (tysA g) s A (wM g am ((mMig r x y).2)) _ _; rw [hfin]; exact hW) (by decide) (by decide) d_M_migrate_92
            show r (8) (nn x) = (mMig r x y).1
            rw [hfin]
        · have nc_33 : nv r (8) (nn x) = nn y := ni_eq e5 e4 (by omega) (by omega) c_33
          refine lv_iconst (v := (-1)) hx hb d_M_migrate_36 (by decide) ?_
          have hfin : mMig r x y = ((-1), r) := by
            skip; simp only [mMig, if_neg c_5, if_neg c_15, if_neg c_23, if_pos c_33]
          refine hret _ () _ _ _ _ _ _ ?_ (by show Wd D classes (tysA g) s A (wM g am ((mMig r x y).2)) _ _; rw [hfin]; exact hW) (by decide) (by decide) d_M_migrate_37
          show (-1) = (mMig r x y).1
          rw [hfin]
abbrev rm_M_find : Room := { frames := 1, cells := 0, slots := 0, locals := 21 }
set_option maxHeartbeats 4000000 in
set_option maxRecDepth 100000 in
theorem c_M_find (l : Launch) {D : va_G} {g : Nat → ClassId} {am : Nat → Nat} {r : Vs} (x : Int32) (y : Int32) (hO : OkM r) : MtI l y_M_find ws_M_find rm_M_find D classes (tysA g) [.ref (am (0)), .int (x), .int (y)] (wM g am (r)) (fun (rr : Int32) (_ : Unit) => rr = (mFnd r x y).1) (fun _ => wM g am ((mFnd r x y).2)) 0 0 := by
  refine mt_i (ty := .int) (fun _ _ _ => rfl) (by decide +kernel) rfl (Nat.le_of_ble_eq_true rfl) (fun p e s m args below meth c Q A C hA hW hret ls hl => ?_)
  obtain ⟨hx, hb, hr, hml, hown, hts0, hlocks⟩ := C
  have hts : ∀ w ∈ bigw, w.before args s = true := fun w h => hts0 w (List.mem_cons_of_mem _ h)
  have hown : s.vm.findClass R_M = some m.cls := hown
  have hnp := hO.le
  have hl : lv_has ls 6 [(0, .ref (am (0))), (1, .int (x)), (2, .int (y))] := hl
  refine lv_iload_n hx hb d_M_find_0 rfl (lv_at hl 1 rfl) ?_
  refine lv_iconst (v := 2) hx hb d_M_find_1 (by decide) ?_
  refine wci hW hA (va_runS (As := [.int (x), .int (2)]) (rest := []) ⟨hx, hb, hml, hown, hts⟩ (c_M_out l _ (x) (2) _) (cs 2 hts kc_M_out ks_M_out kn_M km_M_84 kh_M_out rfl rfl ⟨by decide, by decide⟩) (preWS hW) rfl rfl hl.1 rfl (lv_room (Nat.le_of_ble_eq_true rfl)) d_M_find_2 ⟨by decide, by decide⟩) (fun rr1 uu1 H locs hp1 hW => ?_)
  have hW : Wd D classes (tysA g) s A (wM g am (r)) H locs := hW
  have hp1 : rr1 = if outP (x) (2) then 1 else 0 := hp1
  refine lv_if_ne (tgt := 16) hx hb d_M_find_5 (by decide) (fun c_5 => ?_) (fun c_5 => ?_)
  · have c_5 : outP (x) (2) := bo_ne hp1 c_5
    refine lv_iconst (v := (-1)) hx hb d_M_find_16 (by decide) ?_
    have hfin : mFnd r x y = ((-1), r) := by
      skip; simp only [mFnd, if_pos c_5]
    refine hret _ () _ _ _ _ _ _ ?_ (by show Wd D classes (tysA g) s A (wM g am ((mFnd r x y).2)) _ _; rw [hfin]; exact hW) (by decide) (by decide) d_M_find_17
    show (-1) = (mFnd r x y).1
    rw [hfin]
  · have c_5 : ¬ (outP (x) (2)) := bo_eq hp1 c_5
    obtain ⟨e2, b2⟩ := nout_nn (N := 2) rfl (by omega) c_5
    refine lv_aload_n hx hb d_M_find_8 rfl (lv_at hl 0 rfl) ?_
    refine lv_iload_n hx hb d_M_find_9 rfl (lv_at hl 2 rfl) ?_
    refine wci hW hA (va_runV (As := [.int (y)]) (rest := []) ⟨hx, hb, hml, hown, hts⟩ (c_M_noProcess l (y) hO _) (cv 1 hts kc_M_noProcess ki_M_noProcess ke_M_noProcess kn_M km_M_100 kh_M_noProcess rfl rfl ⟨by decide, by decide⟩) (preW hW rfl rfl (mw_get (by omega) mm_root)) rfl rfl hl.1 rfl (lv_room (Nat.le_of_ble_eq_true rfl)) d_M_find_10 ⟨by decide, by decide⟩) (fun rr3 uu3 H locs hp3 hW => ?_)
    have hW : Wd D classes (tysA g) s A (wM g am (r)) H locs := hW
    have hp3 : rr3 = if npP r (y) then 1 else 0 := hp3
    refine lv_if_eq (tgt := 18) hx hb d_M_find_13 (by decide) (fun c_13 => ?_) (fun c_13 => ?_)
    · have c_13 : ¬ (npP r (y)) := bo_eq hp3 c_13
      obtain ⟨e4, b4⟩ := nnp_nn hO c_13
      refine lv_iload_n hx hb d_M_find_18 rfl (lv_at hl 1 rfl) ?_
      refine lv_istore_n (lv' := [(3, .int (x)), (0, .ref (am (0))), (1, .int (x)), (2, .int (y))]) hx hb d_M_find_19 rfl hl (by decide) rfl (fun ls hl => ?_)
      refine lv_iconst (v := 0) hx hb d_M_find_20 (by decide) ?_
      refine lv_istore (lv' := [(4, .int (0)), (3, .int (x)), (0, .ref (am (0))), (1, .int (x)), (2, .int (y))]) hx hb d_M_find_21 hl (by decide) rfl (fun ls hl => ?_)
      have hM : mFnd r x y = mFndL (nn y) 9 0 (nn x) r := by simp only [mFnd, if_neg c_5, if_neg c_13]
      have hyn := e4
      have hy8 : nn y < 8 := by omega
      have hl0 : lv_has ls 6 [(0, .ref (am (0))), (2, .int (y)), (3, .int (x)), (4, .int (0))] := lv_sub hl [2, 4, 1, 0] rfl
      have hl1 : lv_has ls 6 [(0, .ref (am (0))), (2, .int (y)), (3, .int (nI (nn x))), (4, .int (nI (0)))] := by rw [← e2]; exact hl0
      have loop : ∀ (k : Nat) (f : Nat) (t : Nat) (rc : Vs) (H : Heap) (locs : List Loc) (ls : Array Slot), OkM rc → 9 = f + k → t < 3 → mFndL (nn y) k f t rc = mFndL (nn y) 9 0 (nn x) r → Wd D classes (tysA g) s A (wM g am (rc)) H locs → lv_has ls 6 [(0, .ref (am (0))), (2, .int (y)), (3, .int (nI (t))), (4, .int (nI (f)))] → W p l e rm_M_find s m args below meth c H locs 0 0 Q (F0 m 23 ls []) := by
        intro k
        induction k with
        | zero =>
          intro f t rc H locs ls hOc h3 ht3 hT hW hl
          refine lv_iload_n hx hb d_M_find_23 rfl (lv_at hl 2 rfl) ?_
          refine lv_aload_n hx hb d_M_find_24 rfl (lv_at hl 0 rfl) ?_
          refine wg hx hb hts i_M hown hW (0) (by omega) mm_root rfl 7 (by decide) (hts _ kf_M_31) rfl d_M_find_25 ?_
          refine lv_iload_n hx hb d_M_find_28 rfl (lv_at hl 1 rfl) ?_
          refine wi hx hb hW (8) (by omega) mm_8 0 rfl (nn y) hyn (by omega) (by decide) d_M_find_29 ?_
          obtain ⟨e5, b5⟩ := hOc.c8 (nn y)
          refine lv_icmp_eq (tgt := 79) hx hb d_M_find_30 (by decide) (fun c_30 => ?_) (fun c_30 => ?_)
          · have nc_30 : t = nv rc (8) (nn y) := ni_eq rfl e5 (by omega) (by omega) c_30
            refine lv_iload hx hb d_M_find_79 (lv_at hl 3 rfl) ?_
            have hfin : mFnd r x y = (nI f, rc) := by rw [hM, ← hT]; rfl
            exact hret _ () _ _ _ _ _ _ (show nI f = (mFnd r x y).1 by rw [hfin]) (by show Wd D classes (tysA g) s A (wM g am ((mFnd r x y).2)) _ _; rw [hfin]; exact hW) (by decide) (by decide) d_M_find_81
          · have nc_30 : ¬ t = nv rc (8) (nn y) := ni_ne rfl e5 (by omega) (by omega) c_30
            refine lv_iload hx hb d_M_find_33 (lv_at hl 3 rfl) ?_
            refine lv_bipush (v := 9) hx hb d_M_find_35 (by decide) ?_
            refine lv_icmp_ge (tgt := 79) hx hb d_M_find_37 (by decide) (fun c_37 => ?_) (fun c_37 => ?_)
            · have nc_37 : 9 ≤ f := ni_le rfl rfl (by omega) (by omega) c_37
              refine lv_iload hx hb d_M_find_79 (lv_at hl 3 rfl) ?_
              have hfin : mFnd r x y = (nI f, rc) := by rw [hM, ← hT]; rfl
              exact hret _ () _ _ _ _ _ _ (show nI f = (mFnd r x y).1 by rw [hfin]) (by show Wd D classes (tysA g) s A (wM g am ((mFnd r x y).2)) _ _; rw [hfin]; exact hW) (by decide) (by decide) d_M_find_81
            · have nc_37 : f < 9 := ni_nle rfl rfl (by omega) (by omega) c_37
              exfalso; omega
        | succ k ih =>
          intro f t rc H locs ls hOc h3 ht3 hT hW hl
          refine lv_iload_n hx hb d_M_find_23 rfl (lv_at hl 2 rfl) ?_
          refine lv_aload_n hx hb d_M_find_24 rfl (lv_at hl 0 rfl) ?_
          refine wg hx hb hts i_M hown hW (0) (by omega) mm_root rfl 7 (by decide) (hts _ kf_M_31) rfl d_M_find_25 ?_
          refine lv_iload_n hx hb d_M_find_28 rfl (lv_at hl 1 rfl) ?_
          refine wi hx hb hW (8) (by omega) mm_8 0 rfl (nn y) hyn (by omega) (by decide) d_M_find_29 ?_
          obtain ⟨e6, b6⟩ := hOc.c8 (nn y)
          refine lv_icmp_eq (tgt := 79) hx hb d_M_find_30 (by decide) (fun c_30 => ?_) (fun c_30 => ?_)
          · have nc_30 : t = nv rc (8) (nn y) := ni_eq rfl e6 (by omega) (by omega) c_30
            refine lv_iload hx hb d_M_find_79 (lv_at hl 3 rfl) ?_
            have hfin : mFnd r x y = (nI f, rc) := by rw [hM, ← hT]; rw [mFndL, if_pos c_30]
            exact hret _ () _ _ _ _ _ _ (show nI f = (mFnd r x y).1 by rw [hfin]) (by show Wd D classes (tysA g) s A (wM g am ((mFnd r x y).2)) _ _; rw [hfin]; exact hW) (by decide) (by decide) d_M_find_81
          · have nc_30 : ¬ t = nv rc (8) (nn y) := ni_ne rfl e6 (by omega) (by omega) c_30
            refine lv_iload hx hb d_M_find_33 (lv_at hl 3 rfl) ?_
            refine lv_bipush (v := 9) hx hb d_M_find_35 (by decide) ?_
            refine lv_icmp_ge (tgt := 79) hx hb d_M_find_37 (by decide) (fun c_37 => ?_) (fun c_37 => ?_)
            · have nc_37 : 9 ≤ f := ni_le rfl rfl (by omega) (by omega) c_37
              refine lv_iload hx hb d_M_find_79 (lv_at hl 3 rfl) ?_
              exfalso; omega
            · have nc_37 : f < 9 := ni_nle rfl rfl (by omega) (by omega) c_37
              refine lv_aload_n hx hb d_M_find_40 rfl (lv_at hl 0 rfl) ?_
              refine wg hx hb hts i_M hown hW (0) (by omega) mm_root rfl 22 (by decide) (hts _ kf_M_74) rfl d_M_find_41 ?_
              refine lv_bipush (v := 8) hx hb d_M_find_44 (by decide) ?_
              refine lv_iload_n hx hb d_M_find_46 rfl (lv_at hl 2 rfl) ?_
              refine lv_imul hx hb d_M_find_47 ?_
              refine lv_iload_n hx hb d_M_find_48 rfl (lv_at hl 1 rfl) ?_
              refine lv_iadd hx hb d_M_find_49 ?_
              refine wi hx hb hW (22) (by omega) mm_22 0 rfl (8 * t + nn y) (ni_add (ni_mul rfl rfl) hyn) (by omega) (by decide) d_M_find_50 ?_
              obtain ⟨e7, b7⟩ := hOc.c22 (8 * t + nn y)
              refine lv_istore (lv' := [(5, .int (rc (22) (8 * t + nn y))), (0, .ref (am (0))), (2, .int (y)), (3, .int (nI (t))), (4, .int (nI (f)))]) hx hb d_M_find_51 hl (by decide) rfl (fun ls hl => ?_)
              refine lv_aload_n hx hb d_M_find_53 rfl (lv_at hl 1 rfl) ?_
              refine wg hx hb hts i_M hown hW (0) (by omega) mm_root rfl 22 (by decide) (hts _ kf_M_74) rfl d_M_find_54 ?_
              refine lv_bipush (v := 8) hx hb d_M_find_57 (by decide) ?_
              refine lv_iload_n hx hb d_M_find_59 rfl (lv_at hl 3 rfl) ?_
              refine lv_imul hx hb d_M_find_60 ?_
              refine lv_iload_n hx hb d_M_find_61 rfl (lv_at hl 2 rfl) ?_
              refine lv_iadd hx hb d_M_find_62 ?_
              refine lv_aload_n hx hb d_M_find_63 rfl (lv_at hl 1 rfl) ?_
              refine wg hx hb hts i_M hown hW (0) (by omega) mm_root rfl 7 (by decide) (hts _ kf_M_31) rfl d_M_find_64 ?_
              refine lv_iload_n hx hb d_M_find_67 rfl (lv_at hl 2 rfl) ?_
              refine wi hx hb hW (8) (by omega) mm_8 0 rfl (nn y) hyn (by omega) (by decide) d_M_find_68 ?_
              obtain ⟨e8, b8⟩ := hOc.c8 (nn y)
              refine wis hx hb hW (22) (by omega) mm_22 0 rfl (8 * t + nn y) (ni_add (ni_mul rfl rfl) hyn) (by omega) (by decide) (x := rc (8) (nn y)) mm_22 d_M_find_69 (fun H locs hW => ?_)
              obtain ⟨mr9, ev9⟩ : ∃ z : Vs, z = u2 rc (22) (8 * t + nn y) (rc (8) (nn y)) := ⟨_, rfl⟩
              rw [← ev9] at hW
              have hO9 : OkM mr9 := by rw [ev9]; exact hOc.set (fun a => absurd a (by decide)) (fun a => absurd a (by decide)) (fun a => absurd a (by decide)) (fun a => absurd a (by decide)) (fun _ => ⟨nv rc (8) (nn y), by omega, e8⟩) (by decide)
              refine lv_iload hx hb d_M_find_70 (lv_at hl 0 rfl) ?_
              refine lv_istore_n (lv' := [(3, .int (rc (22) (8 * t + nn y))), (5, .int (rc (22) (8 * t + nn y))), (0, .ref (am (0))), (2, .int (y)), (4, .int (nI (f)))]) hx hb d_M_find_72 rfl hl (by decide) rfl (fun ls hl => ?_)
              refine lv_iinc (v := nI (f + 1)) (lv' := [(4, .int (nI (f + 1))), (3, .int (rc (22) (8 * t + nn y))), (5, .int (rc (22) (8 * t + nn y))), (0, .ref (am (0))), (2, .int (y))]) hx hb d_M_find_73 hl (k := 4) rfl (nI_1 _) (by decide) rfl (fun ls hl => ?_)
              refine lv_goto (tgt := 23) hx hb d_M_find_76 (by decide) ?_
              have hl : lv_has ls 6 [(0, .ref (am (0))), (2, .int (y)), (3, .int (rc (22) (8 * t + nn y))), (4, .int (nI (f + 1)))] := lv_sub hl [3, 4, 1, 0] rfl
              rw [e7] at hl
              refine ih (f + 1) (nv rc (22) (8 * t + nn y)) mr9 _ _ _ hO9 (by omega) (by omega) ?_ hW hl
              rw [← hT, mFndL, if_neg c_30]; subst ev9; rfl
      exact loop 9 0 (nn x) r _ _ _ hO rfl (by omega) rfl hW hl1
    · have c_13 : npP r (y) := bo_ne hp3 c_13
      refine lv_iconst (v := (-1)) hx hb d_M_find_16 (by decide) ?_
      have hfin : mFnd r x y = ((-1), r) := by
        skip; simp only [mFnd, if_neg c_5, if_pos c_13]
      refine hret _ () _ _ _ _ _ _ ?_ (by show Wd D classes (tysA g) s A (wM g am ((mFnd r x y).2)) _ _; rw [hfin]; exact hW) (by decide) (by decide) d_M_find_17
      show (-1) = (mFnd r x y).1
      rw [hfin]
abbrev rm_M_held : Room := { frames := 0, cells := 0, slots := 0, locals := 0 }
set_option maxHeartbeats 4000000 in
set_option maxRecDepth 100000 in
theorem c_M_held (l : Launch) {D : va_G} {g : Nat → ClassId} {am : Nat → Nat} {r : Vs} (x : Int32) (n : Nat) (zx : x = nI n) (ln : n < 3) (hO : OkM r) : MtI l y_M_held ws_M_held rm_M_held D classes (tysA g) [.ref (am (0)), .int (x)] (wM g am (r)) (fun (rr : Int32) (_ : Unit) => rr = nI (mHeld r n)) (fun _ => wM g am (r)) 0 0 := by
  refine mt_i (ty := .int) (fun _ _ _ => rfl) (by decide +kernel) rfl (Nat.le_of_ble_eq_true rfl) (fun p e s m args below meth c Q A C hA hW hret ls hl => ?_)
  obtain ⟨hx, hb, hr, hml, hown, hts0, hlocks⟩ := C
  have hts : ∀ w ∈ bigw, w.before args s = true := fun w h => hts0 w (List.mem_cons_of_mem _ h)
  have hown : s.vm.findClass R_M = some m.cls := hown
  have hnp := hO.le
  have hl : lv_has ls 4 [(0, .ref (am (0))), (1, .int (x))] := hl
  refine lv_iconst (v := 0) hx hb d_M_held_0 (by decide) ?_
  refine lv_istore_n (lv' := [(2, .int (0)), (0, .ref (am (0))), (1, .int (x))]) hx hb d_M_held_1 rfl hl (by decide) rfl (fun ls hl => ?_)
  refine lv_iconst (v := 0) hx hb d_M_held_2 (by decide) ?_
  refine lv_istore_n (lv' := [(3, .int (0)), (2, .int (0)), (0, .ref (am (0))), (1, .int (x))]) hx hb d_M_held_3 rfl hl (by decide) rfl (fun ls hl => ?_)
  have loop : ∀ (k : Nat) (t : Nat) (h : Nat) (H : Heap) (locs : List Loc) (ls : Array Slot), 8 = t + k → h ≤ t → mHeldL r n k t h = mHeldL r n 8 0 0 → Wd D classes (tysA g) s A (wM g am (r)) H locs → lv_has ls 4 [(0, .ref (am (0))), (1, .int (x)), (2, .int (nI (h))), (3, .int (nI (t)))] → W p l e rm_M_held s m args below meth c H locs 0 0 Q (F0 m 4 ls []) := by
    intro k
    induction k with
    | zero =>
      intro t h H locs ls h8 hht hT hW hl
      refine lv_iload_n hx hb d_M_held_4 rfl (lv_at hl 3 rfl) ?_
      refine lv_bipush (v := 8) hx hb d_M_held_5 (by decide) ?_
      refine lv_icmp_ge (tgt := 33) hx hb d_M_held_7 (by decide) (fun c_7 => ?_) (fun c_7 => ?_)
      · have nc_7 : 8 ≤ t := ni_le rfl rfl (by omega) (by omega) c_7
        refine lv_iload_n hx hb d_M_held_33 rfl (lv_at hl 2 rfl) ?_
        exact hret _ () _ _ _ _ _ _ (show nI h = nI (mHeld r n) by unfold mHeld; rw [← hT]; rfl) hW (by decide) (by decide) d_M_held_34
      · have nc_7 : t < 8 := ni_nle rfl rfl (by omega) (by omega) c_7
        exfalso; omega
    | succ k ih =>
      intro t h H locs ls h8 hht hT hW hl
      refine lv_iload_n hx hb d_M_held_4 rfl (lv_at hl 3 rfl) ?_
      refine lv_bipush (v := 8) hx hb d_M_held_5 (by decide) ?_
      refine lv_icmp_ge (tgt := 33) hx hb d_M_held_7 (by decide) (fun c_7 => ?_) (fun c_7 => ?_)
      · have nc_7 : 8 ≤ t := ni_le rfl rfl (by omega) (by omega) c_7
        exfalso; omega
      · have nc_7 : t < 8 := ni_nle rfl rfl (by omega) (by omega) c_7
        refine lv_aload_n hx hb d_M_held_10 rfl (lv_at hl 0 rfl) ?_
        refine wg hx hb hts i_M hown hW (0) (by omega) mm_root rfl 19 (by decide) (hts _ kf_M_65) rfl d_M_held_11 ?_
        refine lv_bipush (v := 8) hx hb d_M_held_14 (by decide) ?_
        refine lv_iload_n hx hb d_M_held_16 rfl (lv_at hl 1 rfl) ?_
        refine lv_imul hx hb d_M_held_17 ?_
        refine lv_iload_n hx hb d_M_held_18 rfl (lv_at hl 3 rfl) ?_
        refine lv_iadd hx hb d_M_held_19 ?_
        refine wi hx hb hW (19) (by omega) mm_19 0 rfl (8 * n + t) (ni_add (ni_mul rfl zx) rfl) (by omega) (by decide) d_M_held_20 ?_
        refine lv_if_eq (tgt := 27) hx hb d_M_held_21 (by decide) (fun c_21 => ?_) (fun c_21 => ?_)
        · refine lv_iinc (v := nI (t + 1)) (lv' := [(3, .int (nI (t + 1))), (0, .ref (am (0))), (1, .int (x)), (2, .int (nI (h)))]) hx hb d_M_held_27 hl (k := 3) rfl (nI_1 _) (by decide) rfl (fun ls hl => ?_)
          refine lv_goto (tgt := 4) hx hb d_M_held_30 (by decide) ?_
          refine ih (t + 1) (h) _ _ _ (by omega) (by omega) ?_ hW (lv_sub hl [1, 2, 3, 0] rfl)
          rw [← hT, mHeldL, if_pos c_21]
        · refine lv_iinc (v := nI (h + 1)) (lv' := [(2, .int (nI (h + 1))), (0, .ref (am (0))), (1, .int (x)), (3, .int (nI (t)))]) hx hb d_M_held_24 hl (k := 2) rfl (nI_1 _) (by decide) rfl (fun ls hl => ?_)
          refine lv_iinc (v := nI (t + 1)) (lv' := [(3, .int (nI (t + 1))), (2, .int (nI (h + 1))), (0, .ref (am (0))), (1, .int (x))]) hx hb d_M_held_27 hl (k := 3) rfl (nI_1 _) (by decide) rfl (fun ls hl => ?_)
          refine lv_goto (tgt := 4) hx hb d_M_held_30 (by decide) ?_
          refine ih (t + 1) (h + 1) _ _ _ (by omega) (by omega) ?_ hW (lv_sub hl [2, 3, 1, 0] rfl)
          rw [← hT, mHeldL, if_neg c_21]
  exact loop 8 0 0 _ _ _ rfl (Nat.le_refl _) rfl hW (lv_sub hl [2, 3, 1, 0] rfl)
abbrev rm_M_firstAsking : Room := { frames := 0, cells := 0, slots := 0, locals := 0 }
set_option maxHeartbeats 4000000 in
set_option maxRecDepth 100000 in
theorem c_M_firstAsking (l : Launch) {D : va_G} {g : Nat → ClassId} {am : Nat → Nat} {r : Vs} (x : Int32) (hO : OkM r) : MtI l y_M_firstAsking ws_M_firstAsking rm_M_firstAsking D classes (tysA g) [.ref (am (0)), .int (x)] (wM g am (r)) (fun (rr : Int32) (_ : Unit) => rr = nI (mAsk r x)) (fun _ => wM g am (r)) 0 0 := by
  refine mt_i (ty := .int) (fun _ _ _ => rfl) (by decide +kernel) rfl (Nat.le_of_ble_eq_true rfl) (fun p e s m args below meth c Q A C hA hW hret ls hl => ?_)
  obtain ⟨hx, hb, hr, hml, hown, hts0, hlocks⟩ := C
  have hts : ∀ w ∈ bigw, w.before args s = true := fun w h => hts0 w (List.mem_cons_of_mem _ h)
  have hown : s.vm.findClass R_M = some m.cls := hown
  have hnp := hO.le
  have hl : lv_has ls 4 [(0, .ref (am (0))), (1, .int (x))] := hl
  refine lv_bipush (v := 8) hx hb d_M_firstAsking_0 (by decide) ?_
  refine lv_istore_n (lv' := [(2, .int (8)), (0, .ref (am (0))), (1, .int (x))]) hx hb d_M_firstAsking_2 rfl hl (by decide) rfl (fun ls hl => ?_)
  refine lv_iconst (v := 0) hx hb d_M_firstAsking_3 (by decide) ?_
  refine lv_istore_n (lv' := [(3, .int (0)), (2, .int (8)), (0, .ref (am (0))), (1, .int (x))]) hx hb d_M_firstAsking_4 rfl hl (by decide) rfl (fun ls hl => ?_)
  have loop : ∀ (k : Nat) (q : Nat) (b : Nat) (H : Heap) (locs : List Loc) (ls : Array Slot), nv r 0 14 = q + k → b ≤ 8 → mAskL r x k q b = mAskL r x (nv r 0 14) 0 8 → Wd D classes (tysA g) s A (wM g am (r)) H locs → lv_has ls 4 [(0, .ref (am (0))), (1, .int (x)), (2, .int (nI (b))), (3, .int (nI (q)))] → W p l e rm_M_firstAsking s m args below meth c H locs 0 0 Q (F0 m 5 ls []) := by
    intro k
    induction k with
    | zero =>
      intro q b H locs ls hq hb8 hT hW hl
      refine lv_iload_n hx hb d_M_firstAsking_5 rfl (lv_at hl 3 rfl) ?_
      refine lv_aload_n hx hb d_M_firstAsking_6 rfl (lv_at hl 0 rfl) ?_
      refine wg hx hb hts i_M hown hW (0) (by omega) mm_root rfl 14 (by decide) (hts _ kf_M_81) rfl d_M_firstAsking_7 ?_
      obtain ⟨e1, b1⟩ := hO.made
      refine lv_icmp_ge (tgt := 64) hx hb d_M_firstAsking_10 (by decide) (fun c_10 => ?_) (fun c_10 => ?_)
      · have nc_10 : nv r (0) 14 ≤ q := ni_le e1 rfl (by omega) (by omega) c_10
        refine lv_iload_n hx hb d_M_firstAsking_64 rfl (lv_at hl 2 rfl) ?_
        exact hret _ () _ _ _ _ _ _ (show nI b = nI (mAsk r x) by unfold mAsk; rw [← hT]; rfl) hW (by decide) (by decide) d_M_firstAsking_65
      · have nc_10 : q < nv r (0) 14 := ni_nle e1 rfl (by omega) (by omega) c_10
        exfalso; omega
    | succ k ih =>
      intro q b H locs ls hq hb8 hT hW hl
      refine lv_iload_n hx hb d_M_firstAsking_5 rfl (lv_at hl 3 rfl) ?_
      refine lv_aload_n hx hb d_M_firstAsking_6 rfl (lv_at hl 0 rfl) ?_
      refine wg hx hb hts i_M hown hW (0) (by omega) mm_root rfl 14 (by decide) (hts _ kf_M_81) rfl d_M_firstAsking_7 ?_
      obtain ⟨e2, b2⟩ := hO.made
      refine lv_icmp_ge (tgt := 64) hx hb d_M_firstAsking_10 (by decide) (fun c_10 => ?_) (fun c_10 => ?_)
      · have nc_10 : nv r (0) 14 ≤ q := ni_le e2 rfl (by omega) (by omega) c_10
        exfalso; omega
      · have nc_10 : q < nv r (0) 14 := ni_nle e2 rfl (by omega) (by omega) c_10
        refine lv_aload_n hx hb d_M_firstAsking_13 rfl (lv_at hl 0 rfl) ?_
        refine wg hx hb hts i_M hown hW (0) (by omega) mm_root rfl 15 (by decide) (hts _ kf_M_52) rfl d_M_firstAsking_14 ?_
        refine lv_iload_n hx hb d_M_firstAsking_17 rfl (lv_at hl 3 rfl) ?_
        refine wi hx hb hW (15) (by omega) mm_15 0 rfl (q) rfl (by omega) (by decide) d_M_firstAsking_18 ?_
        refine lv_if_eq (tgt := 58) hx hb d_M_firstAsking_19 (by decide) (fun c_19 => ?_) (fun c_19 => ?_)
        · refine lv_iinc (v := nI (q + 1)) (lv' := [(3, .int (nI (q + 1))), (0, .ref (am (0))), (1, .int (x)), (2, .int (nI (b)))]) hx hb d_M_firstAsking_58 hl (k := 3) rfl (nI_1 _) (by decide) rfl (fun ls hl => ?_)
          refine lv_goto (tgt := 5) hx hb d_M_firstAsking_61 (by decide) ?_
          refine ih (q + 1) (b) _ _ _ (by omega) (by omega) ?_ hW (lv_sub hl [1, 2, 3, 0] rfl)
          rw [← hT, mAskL, if_pos c_19]
        · refine lv_aload_n hx hb d_M_firstAsking_22 rfl (lv_at hl 0 rfl) ?_
          refine wg hx hb hts i_M hown hW (0) (by omega) mm_root rfl 16 (by decide) (hts _ kf_M_55) rfl d_M_firstAsking_23 ?_
          refine lv_iload_n hx hb d_M_firstAsking_26 rfl (lv_at hl 3 rfl) ?_
          refine wi hx hb hW (16) (by omega) mm_16 0 rfl (q) rfl (by omega) (by decide) d_M_firstAsking_27 ?_
          refine lv_iload_n hx hb d_M_firstAsking_28 rfl (lv_at hl 1 rfl) ?_
          refine lv_icmp_eq (tgt := 35) hx hb d_M_firstAsking_29 (by decide) (fun c_29 => ?_) (fun c_29 => ?_)
          · refine lv_iload_n hx hb d_M_firstAsking_35 rfl (lv_at hl 2 rfl) ?_
            refine lv_bipush (v := 8) hx hb d_M_firstAsking_36 (by decide) ?_
            refine lv_icmp_eq (tgt := 56) hx hb d_M_firstAsking_38 (by decide) (fun c_38 => ?_) (fun c_38 => ?_)
            · have nc_38 : b = 8 := ni_eq rfl rfl (by omega) (by omega) c_38
              refine lv_iload_n hx hb d_M_firstAsking_56 rfl (lv_at hl 3 rfl) ?_
              refine lv_istore_n (lv' := [(2, .int (nI (q))), (0, .ref (am (0))), (1, .int (x)), (3, .int (nI (q)))]) hx hb d_M_firstAsking_57 rfl hl (by decide) rfl (fun ls hl => ?_)
              refine lv_iinc (v := nI (q + 1)) (lv' := [(3, .int (nI (q + 1))), (2, .int (nI (q))), (0, .ref (am (0))), (1, .int (x))]) hx hb d_M_firstAsking_58 hl (k := 3) rfl (nI_1 _) (by decide) rfl (fun ls hl => ?_)
              refine lv_goto (tgt := 5) hx hb d_M_firstAsking_61 (by decide) ?_
              refine ih (q + 1) (q) _ _ _ (by omega) (by omega) ?_ hW (lv_sub hl [2, 3, 1, 0] rfl)
              rw [← hT, mAskL, if_neg c_19, if_pos c_29, if_pos c_38]
            · have nc_38 : ¬ b = 8 := ni_ne rfl rfl (by omega) (by omega) c_38
              refine lv_aload_n hx hb d_M_firstAsking_41 rfl (lv_at hl 0 rfl) ?_
              refine wg hx hb hts i_M hown hW (0) (by omega) mm_root rfl 15 (by decide) (hts _ kf_M_52) rfl d_M_firstAsking_42 ?_
              refine lv_iload_n hx hb d_M_firstAsking_45 rfl (lv_at hl 3 rfl) ?_
              refine wi hx hb hW (15) (by omega) mm_15 0 rfl (q) rfl (by omega) (by decide) d_M_firstAsking_46 ?_
              refine lv_aload_n hx hb d_M_firstAsking_47 rfl (lv_at hl 0 rfl) ?_
              refine wg hx hb hts i_M hown hW (0) (by omega) mm_root rfl 15 (by decide) (hts _ kf_M_52) rfl d_M_firstAsking_48 ?_
              refine lv_iload_n hx hb d_M_firstAsking_51 rfl (lv_at hl 2 rfl) ?_
              refine wi hx hb hW (15) (by omega) mm_15 0 rfl (b) rfl (by omega) (by decide) d_M_firstAsking_52 ?_
              refine lv_icmp_ge (tgt := 58) hx hb d_M_firstAsking_53 (by decide) (fun c_53 => ?_) (fun c_53 => ?_)
              · refine lv_iinc (v := nI (q + 1)) (lv' := [(3, .int (nI (q + 1))), (0, .ref (am (0))), (1, .int (x)), (2, .int (nI (b)))]) hx hb d_M_firstAsking_58 hl (k := 3) rfl (nI_1 _) (by decide) rfl (fun ls hl => ?_)
                refine lv_goto (tgt := 5) hx hb d_M_firstAsking_61 (by decide) ?_
                refine ih (q + 1) (b) _ _ _ (by omega) (by omega) ?_ hW (lv_sub hl [1, 2, 3, 0] rfl)
                rw [← hT, mAskL, if_neg c_19, if_pos c_29, if_neg c_38, if_pos c_53]
              · refine lv_iload_n hx hb d_M_firstAsking_56 rfl (lv_at hl 3 rfl) ?_
                refine lv_istore_n (lv' := [(2, .int (nI (q))), (0, .ref (am (0))), (1, .int (x)), (3, .int (nI (q)))]) hx hb d_M_firstAsking_57 rfl hl (by decide) rfl (fun ls hl => ?_)
                refine lv_iinc (v := nI (q + 1)) (lv' := [(3, .int (nI (q + 1))), (2, .int (nI (q))), (0, .ref (am (0))), (1, .int (x))]) hx hb d_M_firstAsking_58 hl (k := 3) rfl (nI_1 _) (by decide) rfl (fun ls hl => ?_)
                refine lv_goto (tgt := 5) hx hb d_M_firstAsking_61 (by decide) ?_
                refine ih (q + 1) (q) _ _ _ (by omega) (by omega) ?_ hW (lv_sub hl [2, 3, 1, 0] rfl)
                rw [← hT, mAskL, if_neg c_19, if_pos c_29, if_neg c_38, if_neg c_53]
          · refine lv_goto (tgt := 58) hx hb d_M_firstAsking_32 (by decide) ?_
            refine lv_iinc (v := nI (q + 1)) (lv' := [(3, .int (nI (q + 1))), (0, .ref (am (0))), (1, .int (x)), (2, .int (nI (b)))]) hx hb d_M_firstAsking_58 hl (k := 3) rfl (nI_1 _) (by decide) rfl (fun ls hl => ?_)
            refine lv_goto (tgt := 5) hx hb d_M_firstAsking_61 (by decide) ?_
            refine ih (q + 1) (b) _ _ _ (by omega) (by omega) ?_ hW (lv_sub hl [1, 2, 3, 0] rfl)
            rw [← hT, mAskL, if_neg c_19, if_neg c_29]
  exact loop (nv r 0 14) 0 8 _ _ _ (by omega) (Nat.le_refl _) rfl hW (lv_sub hl [2, 3, 1, 0] rfl)
