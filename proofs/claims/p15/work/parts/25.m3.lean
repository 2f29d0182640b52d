abbrev rm_C_makeRoom : Room := { frames := 2, cells := 0, slots := 0, locals := 43 }
set_option maxHeartbeats 4000000 in
set_option maxRecDepth 100000 in
theorem c_C_makeRoom (l : Launch) {D : va_G} {g : Nat → ClassId} {ad : Nat → Nat} {np : Nat} {v : Vs} (x : Int32) (n : Nat) (zx : x = nI n) (ln : n < 3) (hO : Ok np v) : MtV l y_C_makeRoom ws_C_makeRoom rm_C_makeRoom D classes (tysA g) [.ref (ad (0)), .int (x)] (wC g ad np (v)) (fun _ : Unit => True) (fun _ => wC g ad np (cRoom v x n)) 0 0 := by
  refine mt_v (by decide +kernel) rfl (Nat.le_of_ble_eq_true rfl) (fun p e s m args below meth c Q A C hnm hA hW hret ls hl => ?_)
  obtain ⟨hx, hb, hr, hml, hown, hts0, hlocks⟩ := C
  have hts : ∀ w ∈ bigw, w.before args s = true := fun w h => hts0 w (List.mem_cons_of_mem _ h)
  have hown : s.vm.findClass R_C = some m.cls := hown
  have hnp := hO.le
  have hl : lv_has ls 6 [(0, .ref (ad (0))), (1, .int (x))] := hl
  refine lv_iconst (v := 0) hx hb d_C_makeRoom_0 (by decide) ?_
  refine lv_istore_n (lv' := [(2, .int (0)), (0, .ref (ad (0))), (1, .int (x))]) hx hb d_C_makeRoom_1 rfl hl (by decide) rfl (fun ls hl => ?_)
  refine lv_null hx hb d_C_makeRoom_2 ?_
  refine lv_astore_nN (lv' := [(3, .null), (2, .int (0)), (0, .ref (ad (0))), (1, .int (x))]) hx hb d_C_makeRoom_3 rfl hl (by decide) rfl (fun ls hl => ?_)
  refine lv_iconst (v := 0) hx hb d_C_makeRoom_4 (by decide) ?_
  refine lv_istore (lv' := [(4, .int (0)), (3, .null), (2, .int (0)), (0, .ref (ad (0))), (1, .int (x))]) hx hb d_C_makeRoom_5 hl (by decide) rfl (fun ls hl => ?_)
  have loop : ∀ (r : Nat) (t h : Nat) (o : Option Nat) (H : Heap) (locs : List Loc) (ls : Array Slot), 8 = t + r → h ≤ t → (∀ q, o = some q → q < 8) → cOld v n r t h o = cOld v n 8 0 0 none → Wd D classes (tysA g) s A (wC g ad np (v)) H locs → lv_has ls 6 [(0, .ref (ad (0))), (1, .int (x)), (2, .int (nI (h))), (3, lqP ad o), (4, .int (nI (t)))] → W p l e rm_C_makeRoom s m args below meth c H locs 0 0 Q (F0 m 7 ls []) := by
    intro r
    induction r with
    | zero =>
      intro t h o H locs ls h8 hht ho hT hW hl
      cases o with
      | none =>
        have hl : lv_has ls 6 [(0, .ref (ad (0))), (1, .int (x)), (2, .int (nI (h))), (3, .null), (4, .int (nI (t)))] := hl
        refine lv_iload hx hb d_C_makeRoom_7 (lv_at hl 4 rfl) ?_
        refine lv_bipush (v := 8) hx hb d_C_makeRoom_9 (by decide) ?_
        refine lv_icmp_ge (tgt := 65) hx hb d_C_makeRoom_11 (by decide) (fun c_11 => ?_) (fun c_11 => ?_)
        · have nc_11 : 8 ≤ t := ni_le rfl rfl (by omega) (by omega) c_11
          refine lv_aload_nN hx hb d_C_makeRoom_65 rfl (lv_at hl 3 rfl) ?_
          refine lv_ifnullN (tgt := 80) hx hb d_C_makeRoom_66 (by decide) ?_
          have hfin : cRoom v x n = v := by
            unfold cRoom; rw [← hT]; skip; rfl
          exact hret () _ _ _ _ _ _ trivial (by show Wd D classes (tysA g) s A (wC g ad np (cRoom v x n)) _ _; rw [hfin]; exact hW) (by decide) (by decide) d_C_makeRoom_80
        · have nc_11 : t < 8 := ni_nle rfl rfl (by omega) (by omega) c_11
          exfalso; omega
      | some q =>
        have hq := ho q rfl
        have hl : lv_has ls 6 [(0, .ref (ad (0))), (1, .int (x)), (2, .int (nI (h))), (3, .ref (ad (28 + 5 * q))), (4, .int (nI (t)))] := hl
        refine lv_iload hx hb d_C_makeRoom_7 (lv_at hl 4 rfl) ?_
        refine lv_bipush (v := 8) hx hb d_C_makeRoom_9 (by decide) ?_
        refine lv_icmp_ge (tgt := 65) hx hb d_C_makeRoom_11 (by decide) (fun c_11 => ?_) (fun c_11 => ?_)
        · have nc_11 : 8 ≤ t := ni_le rfl rfl (by omega) (by omega) c_11
          refine lv_aload_n hx hb d_C_makeRoom_65 rfl (lv_at hl 3 rfl) ?_
          refine lv_ifnull hx hb d_C_makeRoom_66 ?_
          refine lv_iload_n hx hb d_C_makeRoom_69 rfl (lv_at hl 2 rfl) ?_
          refine lv_iconst (v := 3) hx hb d_C_makeRoom_70 (by decide) ?_
          refine lv_icmp_ne (tgt := 80) hx hb d_C_makeRoom_71 (by decide) (fun c_71 => ?_) (fun c_71 => ?_)
          · have nc_71 : ¬ h = 3 := ni_ne rfl rfl (by omega) (by omega) c_71
            have hfin : cRoom v x n = v := by
              unfold cRoom; rw [← hT]; skip; show (if nI h = 3 then cGive v q x n else v) = _; simp only [if_neg c_71]
            exact hret () _ _ _ _ _ _ trivial (by show Wd D classes (tysA g) s A (wC g ad np (cRoom v x n)) _ _; rw [hfin]; exact hW) (by decide) (by decide) d_C_makeRoom_80
          · have nc_71 : h = 3 := ni_eq rfl rfl (by omega) (by omega) c_71
            refine lv_aload_n hx hb d_C_makeRoom_74 rfl (lv_at hl 0 rfl) ?_
            refine lv_aload_n hx hb d_C_makeRoom_75 rfl (lv_at hl 3 rfl) ?_
            refine lv_iload_n hx hb d_C_makeRoom_76 rfl (lv_at hl 1 rfl) ?_
            refine wcv hW hA (va_runV (As := [.ref (ad (28 + 5 * q)), .int (x)]) (rest := []) ⟨hx, hb, hml, hown, hts⟩ (c_C_giveUp l q hq (x) n zx (by omega) hO _) (cv 2 hts kc_C_giveUp ki_C_giveUp ke_C_giveUp kn_C km_C_230 kh_C_giveUp rfl rfl ⟨by decide, by decide⟩) (preW hW rfl rfl (mw_get (by omega) mk_root)) rfl rfl hl.1 rfl (lv_room (Nat.le_of_ble_eq_true rfl)) d_C_makeRoom_77 ⟨by decide, by decide⟩) (fun uu1 H locs hp1 hW => ?_)
            have hW : Wd D classes (tysA g) s A (wC g ad np (cGive v q (x) n)) H locs := hW
            obtain ⟨v2, ev2⟩ : ∃ z : Vs, z = cGive v q (x) n := ⟨_, rfl⟩
            rw [← ev2] at hW
            have hO2 : Ok np v2 := by rw [ev2]; exact hO.give hq
            have hfin : cRoom v x n = v2 := by
              unfold cRoom; rw [← hT]; subst ev2; show (if nI h = 3 then cGive v q x n else v) = _; simp only [if_pos c_71]
            exact hret () _ _ _ _ _ _ trivial (by show Wd D classes (tysA g) s A (wC g ad np (cRoom v x n)) _ _; rw [hfin]; exact hW) (by decide) (by decide) d_C_makeRoom_80
        · have nc_11 : t < 8 := ni_nle rfl rfl (by omega) (by omega) c_11
          exfalso; omega
    | succ r ih =>
      intro t h o H locs ls h8 hht ho hT hW hl
      cases o with
      | none =>
        have hl : lv_has ls 6 [(0, .ref (ad (0))), (1, .int (x)), (2, .int (nI (h))), (3, .null), (4, .int (nI (t)))] := hl
        refine lv_iload hx hb d_C_makeRoom_7 (lv_at hl 4 rfl) ?_
        refine lv_bipush (v := 8) hx hb d_C_makeRoom_9 (by decide) ?_
        refine lv_icmp_ge (tgt := 65) hx hb d_C_makeRoom_11 (by decide) (fun c_11 => ?_) (fun c_11 => ?_)
        · have nc_11 : 8 ≤ t := ni_le rfl rfl (by omega) (by omega) c_11
          exfalso; omega
        · have nc_11 : t < 8 := ni_nle rfl rfl (by omega) (by omega) c_11
          refine lv_aload_n hx hb d_C_makeRoom_14 rfl (lv_at hl 0 rfl) ?_
          refine wg hx hb hts i_C hown hW (0) (by omega) mk_root rfl 3 (by decide) (hts _ kf_C_29) rfl d_C_makeRoom_15 ?_
          refine lv_iload hx hb d_C_makeRoom_18 (lv_at hl 4 rfl) ?_
          have hi3 : t < 8 := by omega
          refine wa hx hb hW 4 (by omega) mk_pages 4 rfl (t) rfl (by omega) (by decide) (if_pos hi3) d_C_makeRoom_20 ?_
          refine lv_astore (lv' := [(5, .ref (ad (28 + 5 * t))), (0, .ref (ad (0))), (1, .int (x)), (2, .int (nI (h))), (3, .null), (4, .int (nI (t)))]) hx hb d_C_makeRoom_21 hl (by decide) rfl (fun ls hl => ?_)
          refine lv_aload hx hb d_C_makeRoom_23 (lv_at hl 0 rfl) ?_
          refine wg hx hb hts i_Page hown hW (28 + 5 * t) (by omega) (mk_page hi3) rfl 0 (by decide) (hts _ kf_C_118) rfl d_C_makeRoom_25 ?_
          refine lv_iload_n hx hb d_C_makeRoom_28 rfl (lv_at hl 2 rfl) ?_
          refine wi hx hb hW (28 + 5 * t + 1) (by omega) (mk_rights hi3) 0 rfl (n) zx (by omega) (by decide) d_C_makeRoom_29 ?_
          refine lv_if_eq (tgt := 59) hx hb d_C_makeRoom_30 (by decide) (fun c_30 => ?_) (fun c_30 => ?_)
          · refine lv_iinc (v := nI (t + 1)) (lv' := [(4, .int (nI (t + 1))), (5, .ref (ad (28 + 5 * t))), (0, .ref (ad (0))), (1, .int (x)), (2, .int (nI (h))), (3, .null)]) hx hb d_C_makeRoom_59 hl (k := 5) rfl (nI_1 _) (by decide) rfl (fun ls hl => ?_)
            refine lv_goto (tgt := 7) hx hb d_C_makeRoom_62 (by decide) ?_
            refine ih (t + 1) h none _ _ _ (by omega) (by omega) (fun q e => by cases e) ?_ hW (lv_sub hl [2, 3, 4, 5, 0] rfl)
            rw [← hT, cOld, if_pos c_30]
          · refine lv_iinc (v := nI (h + 1)) (lv' := [(2, .int (nI (h + 1))), (5, .ref (ad (28 + 5 * t))), (0, .ref (ad (0))), (1, .int (x)), (3, .null), (4, .int (nI (t)))]) hx hb d_C_makeRoom_33 hl (k := 3) rfl (nI_1 _) (by decide) rfl (fun ls hl => ?_)
            refine lv_aload_nN hx hb d_C_makeRoom_36 rfl (lv_at hl 4 rfl) ?_
            refine lv_ifnullN (tgt := 56) hx hb d_C_makeRoom_37 (by decide) ?_
            refine lv_aload hx hb d_C_makeRoom_56 (lv_at hl 1 rfl) ?_
            refine lv_astore_n (lv' := [(3, .ref (ad (28 + 5 * t))), (2, .int (nI (h + 1))), (5, .ref (ad (28 + 5 * t))), (0, .ref (ad (0))), (1, .int (x)), (4, .int (nI (t)))]) hx hb d_C_makeRoom_58 rfl hl (by decide) rfl (fun ls hl => ?_)
            refine lv_iinc (v := nI (t + 1)) (lv' := [(4, .int (nI (t + 1))), (3, .ref (ad (28 + 5 * t))), (2, .int (nI (h + 1))), (5, .ref (ad (28 + 5 * t))), (0, .ref (ad (0))), (1, .int (x))]) hx hb d_C_makeRoom_59 hl (k := 5) rfl (nI_1 _) (by decide) rfl (fun ls hl => ?_)
            refine lv_goto (tgt := 7) hx hb d_C_makeRoom_62 (by decide) ?_
            refine ih (t + 1) (h + 1) (some t) _ _ _ (by omega) (by omega) (fun q e => by cases e; omega) ?_ hW (lv_sub hl [4, 5, 2, 1, 0] rfl)
            rw [← hT, cOld, if_neg c_30]
      | some q =>
        have hq := ho q rfl
        have hl : lv_has ls 6 [(0, .ref (ad (0))), (1, .int (x)), (2, .int (nI (h))), (3, .ref (ad (28 + 5 * q))), (4, .int (nI (t)))] := hl
        refine lv_iload hx hb d_C_makeRoom_7 (lv_at hl 4 rfl) ?_
        refine lv_bipush (v := 8) hx hb d_C_makeRoom_9 (by decide) ?_
        refine lv_icmp_ge (tgt := 65) hx hb d_C_makeRoom_11 (by decide) (fun c_11 => ?_) (fun c_11 => ?_)
        · have nc_11 : 8 ≤ t := ni_le rfl rfl (by omega) (by omega) c_11
          exfalso; omega
        · have nc_11 : t < 8 := ni_nle rfl rfl (by omega) (by omega) c_11
          refine lv_aload_n hx hb d_C_makeRoom_14 rfl (lv_at hl 0 rfl) ?_
          refine wg hx hb hts i_C hown hW (0) (by omega) mk_root rfl 3 (by decide) (hts _ kf_C_29) rfl d_C_makeRoom_15 ?_
          refine lv_iload hx hb d_C_makeRoom_18 (lv_at hl 4 rfl) ?_
          have hi4 : t < 8 := by omega
          refine wa hx hb hW 4 (by omega) mk_pages 4 rfl (t) rfl (by omega) (by decide) (if_pos hi4) d_C_makeRoom_20 ?_
          refine lv_astore (lv' := [(5, .ref (ad (28 + 5 * t))), (0, .ref (ad (0))), (1, .int (x)), (2, .int (nI (h))), (3, .ref (ad (28 + 5 * q))), (4, .int (nI (t)))]) hx hb d_C_makeRoom_21 hl (by decide) rfl (fun ls hl => ?_)
          refine lv_aload hx hb d_C_makeRoom_23 (lv_at hl 0 rfl) ?_
          refine wg hx hb hts i_Page hown hW (28 + 5 * t) (by omega) (mk_page hi4) rfl 0 (by decide) (hts _ kf_C_118) rfl d_C_makeRoom_25 ?_
          refine lv_iload_n hx hb d_C_makeRoom_28 rfl (lv_at hl 2 rfl) ?_
          refine wi hx hb hW (28 + 5 * t + 1) (by omega) (mk_rights hi4) 0 rfl (n) zx (by omega) (by decide) d_C_makeRoom_29 ?_
          refine lv_if_eq (tgt := 59) hx hb d_C_makeRoom_30 (by decide) (fun c_30 => ?_) (fun c_30 => ?_)
          · refine lv_iinc (v := nI (t + 1)) (lv' := [(4, .int (nI (t + 1))), (5, .ref (ad (28 + 5 * t))), (0, .ref (ad (0))), (1, .int (x)), (2, .int (nI (h))), (3, .ref (ad (28 + 5 * q)))]) hx hb d_C_makeRoom_59 hl (k := 5) rfl (nI_1 _) (by decide) rfl (fun ls hl => ?_)
            refine lv_goto (tgt := 7) hx hb d_C_makeRoom_62 (by decide) ?_
            refine ih (t + 1) h (some q) _ _ _ (by omega) (by omega) (fun q e => by cases e; omega) ?_ hW (lv_sub hl [2, 3, 4, 5, 0] rfl)
            rw [← hT, cOld, if_pos c_30]
          · refine lv_iinc (v := nI (h + 1)) (lv' := [(2, .int (nI (h + 1))), (5, .ref (ad (28 + 5 * t))), (0, .ref (ad (0))), (1, .int (x)), (3, .ref (ad (28 + 5 * q))), (4, .int (nI (t)))]) hx hb d_C_makeRoom_33 hl (k := 3) rfl (nI_1 _) (by decide) rfl (fun ls hl => ?_)
            refine lv_aload_n hx hb d_C_makeRoom_36 rfl (lv_at hl 4 rfl) ?_
            refine lv_ifnull hx hb d_C_makeRoom_37 ?_
            refine lv_aload hx hb d_C_makeRoom_40 (lv_at hl 1 rfl) ?_
            refine wg hx hb hts i_Page hown hW (28 + 5 * t) (by omega) (mk_page hi4) rfl 1 (by decide) (hts _ kf_C_218) rfl d_C_makeRoom_42 ?_
            refine lv_iload_n hx hb d_C_makeRoom_45 rfl (lv_at hl 3 rfl) ?_
            refine wi hx hb hW (28 + 5 * t + 2) (by omega) (mk_uses hi4) 0 rfl (n) zx (by omega) (by decide) d_C_makeRoom_46 ?_
            refine lv_aload_n hx hb d_C_makeRoom_47 rfl (lv_at hl 4 rfl) ?_
            refine wg hx hb hts i_Page hown hW (28 + 5 * q) (by omega) (mk_page hq) rfl 1 (by decide) (hts _ kf_C_218) rfl d_C_makeRoom_48 ?_
            refine lv_iload_n hx hb d_C_makeRoom_51 rfl (lv_at hl 3 rfl) ?_
            refine wi hx hb hW (28 + 5 * q + 2) (by omega) (mk_uses hq) 0 rfl (n) zx (by omega) (by decide) d_C_makeRoom_52 ?_
            refine lv_icmp_ge (tgt := 59) hx hb d_C_makeRoom_53 (by decide) (fun c_53 => ?_) (fun c_53 => ?_)
            · refine lv_iinc (v := nI (t + 1)) (lv' := [(4, .int (nI (t + 1))), (2, .int (nI (h + 1))), (5, .ref (ad (28 + 5 * t))), (0, .ref (ad (0))), (1, .int (x)), (3, .ref (ad (28 + 5 * q)))]) hx hb d_C_makeRoom_59 hl (k := 5) rfl (nI_1 _) (by decide) rfl (fun ls hl => ?_)
              refine lv_goto (tgt := 7) hx hb d_C_makeRoom_62 (by decide) ?_
              refine ih (t + 1) (h + 1) (some q) _ _ _ (by omega) (by omega) (fun q e => by cases e; omega) ?_ hW (lv_sub hl [3, 4, 1, 5, 0] rfl)
              rw [← hT, cOld, if_neg c_30, if_pos c_53]
            · refine lv_aload hx hb d_C_makeRoom_56 (lv_at hl 1 rfl) ?_
              refine lv_astore_n (lv' := [(3, .ref (ad (28 + 5 * t))), (2, .int (nI (h + 1))), (5, .ref (ad (28 + 5 * t))), (0, .ref (ad (0))), (1, .int (x)), (4, .int (nI (t)))]) hx hb d_C_makeRoom_58 rfl hl (by decide) rfl (fun ls hl => ?_)
              refine lv_iinc (v := nI (t + 1)) (lv' := [(4, .int (nI (t + 1))), (3, .ref (ad (28 + 5 * t))), (2, .int (nI (h + 1))), (5, .ref (ad (28 + 5 * t))), (0, .ref (ad (0))), (1, .int (x))]) hx hb d_C_makeRoom_59 hl (k := 5) rfl (nI_1 _) (by decide) rfl (fun ls hl => ?_)
              refine lv_goto (tgt := 7) hx hb d_C_makeRoom_62 (by decide) ?_
              refine ih (t + 1) (h + 1) (some t) _ _ _ (by omega) (by omega) (fun q e => by cases e; omega) ?_ hW (lv_sub hl [4, 5, 2, 1, 0] rfl)
              rw [← hT, cOld, if_neg c_30, if_neg c_53]
  exact loop 8 0 0 none _ _ _ rfl (Nat.le_refl _) (fun q e => by cases e) rfl hW (lv_sub hl [3, 4, 2, 1, 0] rfl)
abbrev rm_C_grantRequest : Room := { frames := 3, cells := 0, slots := 0, locals := 68 }
set_option maxHeartbeats 4000000 in
set_option maxRecDepth 100000 in
theorem c_C_grantRequest (l : Launch) {D : va_G} {g : Nat → ClassId} {ad : Nat → Nat} {np : Nat} {v : Vs} (j : Nat) (hj : j < 8) (i : Nat) (hi : i < np) (hO : Ok np v) : MtV l y_C_grantRequest ws_C_grantRequest rm_C_grantRequest D classes (tysA g) [.ref (ad (0)), .ref (ad (28 + 5 * j)), .ref (ad (68 + 3 * i))] (wC g ad np (v)) (fun _ : Unit => True) (fun _ => wC g ad np (cGrant v j i)) 0 0 := by
  refine mt_v (by decide +kernel) rfl (Nat.le_of_ble_eq_true rfl) (fun p e s m args below meth c Q A C hnm hA hW hret ls hl => ?_)
  obtain ⟨hx, hb, hr, hml, hown, hts0, hlocks⟩ := C
  have hts : ∀ w ∈ bigw, w.before args s = true := fun w h => hts0 w (List.mem_cons_of_mem _ h)
  have hown : s.vm.findClass R_C = some m.cls := hown
  have hnp := hO.le
  have hl : lv_has ls 4 [(0, .ref (ad (0))), (1, .ref (ad (28 + 5 * j))), (2, .ref (ad (68 + 3 * i)))] := hl
  refine lv_aload_n hx hb d_C_grantRequest_0 rfl (lv_at hl 2 rfl) ?_
  refine wg hx hb hts i_Proc hown hW (68 + 3 * i) (by omega) mk_proc rfl 4 (by decide) (hts _ kf_C_88) rfl d_C_grantRequest_1 ?_
  obtain ⟨e1, b1⟩ := hO.place hi
  refine lv_istore_n (lv' := [(3, .int (v (68 + 3 * i) 4)), (0, .ref (ad (0))), (1, .ref (ad (28 + 5 * j))), (2, .ref (ad (68 + 3 * i)))]) hx hb d_C_grantRequest_4 rfl hl (by decide) rfl (fun ls hl => ?_)
  refine lv_aload_n hx hb d_C_grantRequest_5 rfl (lv_at hl 1 rfl) ?_
  refine lv_dup hx hb d_C_grantRequest_6 rfl ?_
  refine wg hx hb hts i_C hown hW (0) (by omega) mk_root rfl 10 (by decide) (hts _ kf_C_140) rfl d_C_grantRequest_7 ?_
  refine lv_iconst (v := 1) hx hb d_C_grantRequest_10 (by decide) ?_
  refine lv_iadd hx hb d_C_grantRequest_11 ?_
  refine wp hx hb hts i_C t_C t_C_ok n_C hown hW (0) (by omega) mk_root rfl 10 (by decide) (hts _ kf_C_140) rfl (by decide +kernel) (x := (v 0 10) + (1)) (Nat.le_of_ble_eq_true rfl) (mk_root.trans rfl) d_C_grantRequest_12 (fun H locs hW => ?_)
  obtain ⟨v2, ev2⟩ : ∃ z : Vs, z = u2 v (0) 10 ((v 0 10) + (1)) := ⟨_, rfl⟩
  rw [← ev2] at hW
  have hO2 : Ok np v2 := by rw [ev2]; exact hO.set (by omega) (okS_free (by omega))
  refine lv_aload_n hx hb d_C_grantRequest_15 rfl (lv_at hl 1 rfl) ?_
  refine lv_dup hx hb d_C_grantRequest_16 rfl ?_
  refine wg hx hb hts i_C hown hW (0) (by omega) mk_root rfl 7 (by decide) (hts _ kf_C_124) rfl d_C_grantRequest_17 ?_
  refine lv_iconst (v := 1) hx hb d_C_grantRequest_20 (by decide) ?_
  refine lv_iadd hx hb d_C_grantRequest_21 ?_
  refine wp hx hb hts i_C t_C t_C_ok n_C hown hW (0) (by omega) mk_root rfl 7 (by decide) (hts _ kf_C_124) rfl (by decide +kernel) (x := (v2 0 7) + (1)) (Nat.le_of_ble_eq_true rfl) (mk_root.trans rfl) d_C_grantRequest_22 (fun H locs hW => ?_)
  obtain ⟨v3, ev3⟩ : ∃ z : Vs, z = u2 v2 (0) 7 ((v2 0 7) + (1)) := ⟨_, rfl⟩
  rw [← ev3] at hW
  have hO3 : Ok np v3 := by rw [ev3]; exact hO2.set (by omega) (okS_free (by omega))
  refine lv_aload_n hx hb d_C_grantRequest_25 rfl (lv_at hl 2 rfl) ?_
  refine wg hx hb hts i_Page hown hW (28 + 5 * j) (by omega) (mk_page hj) rfl 0 (by decide) (hts _ kf_C_118) rfl d_C_grantRequest_26 ?_
  refine lv_iload_n hx hb d_C_grantRequest_29 rfl (lv_at hl 0 rfl) ?_
  refine wi hx hb hW (28 + 5 * j + 1) (by omega) (mk_rights hj) 0 rfl (nv v (68 + 3 * i) 4) e1 (by omega) (by decide) d_C_grantRequest_30 ?_
  refine lv_if_ne (tgt := 49) hx hb d_C_grantRequest_31 (by decide) (fun c_31 => ?_) (fun c_31 => ?_)
  · refine lv_aload_n hx hb d_C_grantRequest_49 rfl (lv_at hl 3 rfl) ?_
    refine wg hx hb hts i_Proc hown hW (68 + 3 * i) (by omega) mk_proc rfl 10 (by decide) (hts _ kf_C_195) rfl d_C_grantRequest_50 ?_
    refine lv_iconst (v := 2) hx hb d_C_grantRequest_53 (by decide) ?_
    refine lv_icmp_ne (tgt := 74) hx hb d_C_grantRequest_54 (by decide) (fun c_54 => ?_) (fun c_54 => ?_)
    · refine lv_aload_n hx hb d_C_grantRequest_74 rfl (lv_at hl 2 rfl) ?_
      refine lv_iload_n hx hb d_C_grantRequest_75 rfl (lv_at hl 0 rfl) ?_
      refine wcv hW hA (va_runV (As := [.int (v (68 + 3 * i) 4)]) (rest := []) ⟨hx, hb, hml, hown, hts⟩ (c_Page_giveRead l j hj (v (68 + 3 * i) 4) (nv v (68 + 3 * i) 4) e1 (by omega) hO3 _) (cv 1 hts kc_Page_giveRead ki_Page_giveRead ke_Page_giveRead kn_Page km_C_227 kh_Page_giveRead rfl rfl ⟨by decide, by decide⟩) (preW hW rfl rfl (mw_get (by omega) (mk_page hj))) rfl rfl hl.1 rfl (lv_room (Nat.le_of_ble_eq_true rfl)) d_C_grantRequest_76 ⟨by decide, by decide⟩) (fun uu4 H locs hp4 hW => ?_)
      have hW : Wd D classes (tysA g) s A (wC g ad np (cGR v3 j (v (68 + 3 * i) 4) (nv v (68 + 3 * i) 4))) H locs := hW
      obtain ⟨v5, ev5⟩ : ∃ z : Vs, z = cGR v3 j (v (68 + 3 * i) 4) (nv v (68 + 3 * i) 4) := ⟨_, rfl⟩
      rw [← ev5] at hW
      have hO5 : Ok np v5 := by rw [ev5]; exact hO3.gr hj
      refine lv_aload_n hx hb d_C_grantRequest_79 rfl (lv_at hl 1 rfl) ?_
      refine lv_aload_n hx hb d_C_grantRequest_80 rfl (lv_at hl 2 rfl) ?_
      refine lv_iload_n hx hb d_C_grantRequest_81 rfl (lv_at hl 0 rfl) ?_
      refine wcv hW hA (va_runV (As := [.ref (ad (28 + 5 * j)), .int (v (68 + 3 * i) 4)]) (rest := []) ⟨hx, hb, hml, hown, hts⟩ (c_C_usePage l j hj (v (68 + 3 * i) 4) (nv v (68 + 3 * i) 4) e1 (by omega) hO5 _) (cv 2 hts kc_C_usePage ki_C_usePage ke_C_usePage kn_C km_C_207 kh_C_usePage rfl rfl ⟨by decide, by decide⟩) (preW hW rfl rfl (mw_get (by omega) mk_root)) rfl rfl hl.1 rfl (lv_room (Nat.le_of_ble_eq_true rfl)) d_C_grantRequest_82 ⟨by decide, by decide⟩) (fun uu6 H locs hp6 hW => ?_)
      have hW : Wd D classes (tysA g) s A (wC g ad np (cUse v5 j (nv v (68 + 3 * i) 4))) H locs := hW
      obtain ⟨v7, ev7⟩ : ∃ z : Vs, z = cUse v5 j (nv v (68 + 3 * i) 4) := ⟨_, rfl⟩
      rw [← ev7] at hW
      have hO7 : Ok np v7 := by rw [ev7]; exact hO5.use hj
      refine lv_aload_n hx hb d_C_grantRequest_85 rfl (lv_at hl 1 rfl) ?_
      refine lv_aload_n hx hb d_C_grantRequest_86 rfl (lv_at hl 3 rfl) ?_
      refine wcv hW hA (va_runV (As := [.ref (ad (68 + 3 * i))]) (rest := []) ⟨hx, hb, hml, hown, hts⟩ (c_C_joinLine l i hi hO7 _) (cv 1 hts kc_C_joinLine ki_C_joinLine ke_C_joinLine kn_C km_C_94 kh_C_joinLine rfl rfl ⟨by decide, by decide⟩) (preW hW rfl rfl (mw_get (by omega) mk_root)) rfl rfl hl.1 rfl (lv_room (Nat.le_of_ble_eq_true rfl)) d_C_grantRequest_87 ⟨by decide, by decide⟩) (fun uu8 H locs hp8 hW => ?_)
      have hW : Wd D classes (tysA g) s A (wC g ad np (cJoin v7 i)) H locs := hW
      obtain ⟨v9, ev9⟩ : ∃ z : Vs, z = cJoin v7 i := ⟨_, rfl⟩
      rw [← ev9] at hW
      have hO9 : Ok np v9 := by rw [ev9]; exact hO7.join hi
      have hfin : cGrant v j i = v9 := by
        subst ev9 ev7 ev5 ev3 ev2
        simp only [cGrant, cGrE, if_neg c_31, if_neg c_54]
      exact hret () _ _ _ _ _ _ trivial (by show Wd D classes (tysA g) s A (wC g ad np (cGrant v j i)) _ _; rw [hfin]; exact hW) (by decide) (by decide) d_C_grantRequest_90
    · refine lv_aload_n hx hb d_C_grantRequest_57 rfl (lv_at hl 1 rfl) ?_
      refine lv_dup hx hb d_C_grantRequest_58 rfl ?_
      refine wg hx hb hts i_C hown hW (0) (by omega) mk_root rfl 7 (by decide) (hts _ kf_C_124) rfl d_C_grantRequest_59 ?_
      refine lv_aload_n hx hb d_C_grantRequest_62 rfl (lv_at hl 2 rfl) ?_
      refine lv_iload_n hx hb d_C_grantRequest_63 rfl (lv_at hl 0 rfl) ?_
      refine wci hW hA (va_runV (As := [.int (v (68 + 3 * i) 4)]) (rest := [.int (v3 0 7), .ref (ad (0))]) ⟨hx, hb, hml, hown, hts⟩ (c_Page_giveWrite l j hj (v (68 + 3 * i) 4) (nv v (68 + 3 * i) 4) e1 (by omega) hO3 _) (cv 1 hts kc_Page_giveWrite ki_Page_giveWrite ke_Page_giveWrite kn_Page km_C_224 kh_Page_giveWrite rfl rfl ⟨by decide, by decide⟩) (preW hW rfl rfl (mw_get (by omega) (mk_page hj))) rfl rfl hl.1 rfl (lv_room (Nat.le_of_ble_eq_true rfl)) d_C_grantRequest_64 ⟨by decide, by decide⟩) (fun rr10 uu10 H locs hp10 hW => ?_)
      have hW : Wd D classes (tysA g) s A (wC g ad np ((cGW v3 j (v (68 + 3 * i) 4) (nv v (68 + 3 * i) 4)).2)) H locs := hW
      obtain ⟨v11, ev11⟩ : ∃ z : Vs, z = (cGW v3 j (v (68 + 3 * i) 4) (nv v (68 + 3 * i) 4)).2 := ⟨_, rfl⟩
      rw [← ev11] at hW
      have hO11 : Ok np v11 := by rw [ev11]; exact hO3.gw hj
      have hp10 : rr10 = (cGW v3 j (v (68 + 3 * i) 4) (nv v (68 + 3 * i) 4)).1 := hp10
      subst hp10
      refine lv_iadd hx hb d_C_grantRequest_67 ?_
      refine wp hx hb hts i_C t_C t_C_ok n_C hown hW (0) (by omega) mk_root rfl 7 (by decide) (hts _ kf_C_124) rfl (by decide +kernel) (x := (v3 0 7) + ((cGW v3 j (v (68 + 3 * i) 4) (nv v (68 + 3 * i) 4)).1)) (Nat.le_of_ble_eq_true rfl) (mk_root.trans rfl) d_C_grantRequest_68 (fun H locs hW => ?_)
      obtain ⟨v12, ev12⟩ : ∃ z : Vs, z = u2 v11 (0) 7 ((v3 0 7) + ((cGW v3 j (v (68 + 3 * i) 4) (nv v (68 + 3 * i) 4)).1)) := ⟨_, rfl⟩
      rw [← ev12] at hW
      have hO12 : Ok np v12 := by rw [ev12]; exact hO11.set (by omega) (okS_free (by omega))
      refine lv_goto (tgt := 79) hx hb d_C_grantRequest_71 (by decide) ?_
      refine lv_aload_n hx hb d_C_grantRequest_79 rfl (lv_at hl 1 rfl) ?_
      refine lv_aload_n hx hb d_C_grantRequest_80 rfl (lv_at hl 2 rfl) ?_
      refine lv_iload_n hx hb d_C_grantRequest_81 rfl (lv_at hl 0 rfl) ?_
      refine wcv hW hA (va_runV (As := [.ref (ad (28 + 5 * j)), .int (v (68 + 3 * i) 4)]) (rest := []) ⟨hx, hb, hml, hown, hts⟩ (c_C_usePage l j hj (v (68 + 3 * i) 4) (nv v (68 + 3 * i) 4) e1 (by omega) hO12 _) (cv 2 hts kc_C_usePage ki_C_usePage ke_C_usePage kn_C km_C_207 kh_C_usePage rfl rfl ⟨by decide, by decide⟩) (preW hW rfl rfl (mw_get (by omega) mk_root)) rfl rfl hl.1 rfl (lv_room (Nat.le_of_ble_eq_true rfl)) d_C_grantRequest_82 ⟨by decide, by decide⟩) (fun uu13 H locs hp13 hW => ?_)
      have hW : Wd D classes (tysA g) s A (wC g ad np (cUse v12 j (nv v (68 + 3 * i) 4))) H locs := hW
      obtain ⟨v14, ev14⟩ : ∃ z : Vs, z = cUse v12 j (nv v (68 + 3 * i) 4) := ⟨_, rfl⟩
      rw [← ev14] at hW
      have hO14 : Ok np v14 := by rw [ev14]; exact hO12.use hj
      refine lv_aload_n hx hb d_C_grantRequest_85 rfl (lv_at hl 1 rfl) ?_
      refine lv_aload_n hx hb d_C_grantRequest_86 rfl (lv_at hl 3 rfl) ?_
      refine wcv hW hA (va_runV (As := [.ref (ad (68 + 3 * i))]) (rest := []) ⟨hx, hb, hml, hown, hts⟩ (c_C_joinLine l i hi hO14 _) (cv 1 hts kc_C_joinLine ki_C_joinLine ke_C_joinLine kn_C km_C_94 kh_C_joinLine rfl rfl ⟨by decide, by decide⟩) (preW hW rfl rfl (mw_get (by omega) mk_root)) rfl rfl hl.1 rfl (lv_room (Nat.le_of_ble_eq_true rfl)) d_C_grantRequest_87 ⟨by decide, by decide⟩) (fun uu15 H locs hp15 hW => ?_)
      have hW : Wd D classes (tysA g) s A (wC g ad np (cJoin v14 i)) H locs := hW
      obtain ⟨v16, ev16⟩ : ∃ z : Vs, z = cJoin v14 i := ⟨_, rfl⟩
      rw [← ev16] at hW
      have hO16 : Ok np v16 := by rw [ev16]; exact hO14.join hi
      have hfin : cGrant v j i = v16 := by
        subst ev16 ev14 ev12 ev11 ev3 ev2
        simp only [cGrant, cGrE, if_neg c_31, if_pos c_54]
      exact hret () _ _ _ _ _ _ trivial (by show Wd D classes (tysA g) s A (wC g ad np (cGrant v j i)) _ _; rw [hfin]; exact hW) (by decide) (by decide) d_C_grantRequest_90
  · refine lv_aload_n hx hb d_C_grantRequest_34 rfl (lv_at hl 1 rfl) ?_
    refine lv_dup hx hb d_C_grantRequest_35 rfl ?_
    refine wg hx hb hts i_C hown hW (0) (by omega) mk_root rfl 7 (by decide) (hts _ kf_C_124) rfl d_C_grantRequest_36 ?_
    refine lv_iconst (v := 1) hx hb d_C_grantRequest_39 (by decide) ?_
    refine lv_iadd hx hb d_C_grantRequest_40 ?_
    refine wp hx hb hts i_C t_C t_C_ok n_C hown hW (0) (by omega) mk_root rfl 7 (by decide) (hts _ kf_C_124) rfl (by decide +kernel) (x := (v3 0 7) + (1)) (Nat.le_of_ble_eq_true rfl) (mk_root.trans rfl) d_C_grantRequest_41 (fun H locs hW => ?_)
    obtain ⟨v17, ev17⟩ : ∃ z : Vs, z = u2 v3 (0) 7 ((v3 0 7) + (1)) := ⟨_, rfl⟩
    rw [← ev17] at hW
    have hO17 : Ok np v17 := by rw [ev17]; exact hO3.set (by omega) (okS_free (by omega))
    refine lv_aload_n hx hb d_C_grantRequest_44 rfl (lv_at hl 1 rfl) ?_
    refine lv_iload_n hx hb d_C_grantRequest_45 rfl (lv_at hl 0 rfl) ?_
    refine wcv hW hA (va_runV (As := [.int (v (68 + 3 * i) 4)]) (rest := []) ⟨hx, hb, hml, hown, hts⟩ (c_C_makeRoom l (v (68 + 3 * i) 4) (nv v (68 + 3 * i) 4) e1 (by omega) hO17 _) (cv 1 hts kc_C_makeRoom ki_C_makeRoom ke_C_makeRoom kn_C km_C_221 kh_C_makeRoom rfl rfl ⟨by decide, by decide⟩) (preW hW rfl rfl (mw_get (by omega) mk_root)) rfl rfl hl.1 rfl (lv_room (Nat.le_of_ble_eq_true rfl)) d_C_grantRequest_46 ⟨by decide, by decide⟩) (fun uu18 H locs hp18 hW => ?_)
    have hW : Wd D classes (tysA g) s A (wC g ad np (cRoom v17 (v (68 + 3 * i) 4) (nv v (68 + 3 * i) 4))) H locs := hW
    obtain ⟨v19, ev19⟩ : ∃ z : Vs, z = cRoom v17 (v (68 + 3 * i) 4) (nv v (68 + 3 * i) 4) := ⟨_, rfl⟩
    rw [← ev19] at hW
    have hO19 : Ok np v19 := by rw [ev19]; exact hO17.room
    refine lv_aload_n hx hb d_C_grantRequest_49 rfl (lv_at hl 3 rfl) ?_
    refine wg hx hb hts i_Proc hown hW (68 + 3 * i) (by omega) mk_proc rfl 10 (by decide) (hts _ kf_C_195) rfl d_C_grantRequest_50 ?_
    refine lv_iconst (v := 2) hx hb d_C_grantRequest_53 (by decide) ?_
    refine lv_icmp_ne (tgt := 74) hx hb d_C_grantRequest_54 (by decide) (fun c_54 => ?_) (fun c_54 => ?_)
    · refine lv_aload_n hx hb d_C_grantRequest_74 rfl (lv_at hl 2 rfl) ?_
      refine lv_iload_n hx hb d_C_grantRequest_75 rfl (lv_at hl 0 rfl) ?_
      refine wcv hW hA (va_runV (As := [.int (v (68 + 3 * i) 4)]) (rest := []) ⟨hx, hb, hml, hown, hts⟩ (c_Page_giveRead l j hj (v (68 + 3 * i) 4) (nv v (68 + 3 * i) 4) e1 (by omega) hO19 _) (cv 1 hts kc_Page_giveRead ki_Page_giveRead ke_Page_giveRead kn_Page km_C_227 kh_Page_giveRead rfl rfl ⟨by decide, by decide⟩) (preW hW rfl rfl (mw_get (by omega) (mk_page hj))) rfl rfl hl.1 rfl (lv_room (Nat.le_of_ble_eq_true rfl)) d_C_grantRequest_76 ⟨by decide, by decide⟩) (fun uu20 H locs hp20 hW => ?_)
      have hW : Wd D classes (tysA g) s A (wC g ad np (cGR v19 j (v (68 + 3 * i) 4) (nv v (68 + 3 * i) 4))) H locs := hW
      obtain ⟨v21, ev21⟩ : ∃ z : Vs, z = cGR v19 j (v (68 + 3 * i) 4) (nv v (68 + 3 * i) 4) := ⟨_, rfl⟩
      rw [← ev21] at hW
      have hO21 : Ok np v21 := by rw [ev21]; exact hO19.gr hj
      refine lv_aload_n hx hb d_C_grantRequest_79 rfl (lv_at hl 1 rfl) ?_
      refine lv_aload_n hx hb d_C_grantRequest_80 rfl (lv_at hl 2 rfl) ?_
      refine lv_iload_n hx hb d_C_grantRequest_81 rfl (lv_at hl 0 rfl) ?_
      refine wcv hW hA (va_runV (As := [.ref (ad (28 + 5 * j)), .int (v (68 + 3 * i) 4)]) (rest := []) ⟨hx, hb, hml, hown, hts⟩ (c_C_usePage l j hj (v (68 + 3 * i) 4) (nv v (68 + 3 * i) 4) e1 (by omega) hO21 _) (cv 2 hts kc_C_usePage ki_C_usePage ke_C_usePage kn_C km_C_207 kh_C_usePage rfl rfl ⟨by decide, by decide⟩) (preW hW rfl rfl (mw_get (by omega) mk_root)) rfl rfl hl.1 rfl (lv_room (Nat.le_of_ble_eq_true rfl)) d_C_grantRequest_82 ⟨by decide, by decide⟩) (fun uu22 H locs hp22 hW => ?_)
      have hW : Wd D classes (tysA g) s A (wC g ad np (cUse v21 j (nv v (68 + 3 * i) 4))) H locs := hW
      obtain ⟨v23, ev23⟩ : ∃ z : Vs, z = cUse v21 j (nv v (68 + 3 * i) 4) := ⟨_, rfl⟩
      rw [← ev23] at hW
      have hO23 : Ok np v23 := by rw [ev23]; exact hO21.use hj
      refine lv_aload_n hx hb d_C_grantRequest_85 rfl (lv_at hl 1 rfl) ?_
      refine lv_aload_n hx hb d_C_grantRequest_86 rfl (lv_at hl 3 rfl) ?_
      refine wcv hW hA (va_runV (As := [.ref (ad (68 + 3 * i))]) (rest := []) ⟨hx, hb, hml, hown, hts⟩ (c_C_joinLine l i hi hO23 _) (cv 1 hts kc_C_joinLine ki_C_joinLine ke_C_joinLine kn_C km_C_94 kh_C_joinLine rfl rfl ⟨by decide, by decide⟩) (preW hW rfl rfl (mw_get (by omega) mk_root)) rfl rfl hl.1 rfl (lv_room (Nat.le_of_ble_eq_true rfl)) d_C_grantRequest_87 ⟨by decide, by decide⟩) (fun uu24 H locs hp24 hW => ?_)
      have hW : Wd D classes (tysA g) s A (wC g ad np (cJoin v23 i)) H locs := hW
      obtain ⟨v25, ev25⟩ : ∃ z : Vs, z = cJoin v23 i := ⟨_, rfl⟩
      rw [← ev25] at hW
      have hO25 : Ok np v25 := by rw [ev25]; exact hO23.join hi
      have hfin : cGrant v j i = v25 := by
        subst ev25 ev23 ev21 ev19 ev17 ev3 ev2
        simp only [cGrant, cGrE, if_pos c_31, if_neg c_54]
      exact hret () _ _ _ _ _ _ trivial (by show Wd D classes (tysA g) s A (wC g ad np (cGrant v j i)) _ _; rw [hfin]; exact hW) (by decide) (by decide) d_C_grantRequest_90
    · refine lv_aload_n hx hb d_C_grantRequest_57 rfl (lv_at hl 1 rfl) ?_
      refine lv_dup hx hb d_C_grantRequest_58 rfl ?_
      refine wg hx hb hts i_C hown hW (0) (by omega) mk_root rfl 7 (by decide) (hts _ kf_C_124) rfl d_C_grantRequest_59 ?_
      refine lv_aload_n hx hb d_C_grantRequest_62 rfl (lv_at hl 2 rfl) ?_
      refine lv_iload_n hx hb d_C_grantRequest_63 rfl (lv_at hl 0 rfl) ?_
      refine wci hW hA (va_runV (As := [.int (v (68 + 3 * i) 4)]) (rest := [.int (v19 0 7), .ref (ad (0))]) ⟨hx, hb, hml, hown, hts⟩ (c_Page_giveWrite l j hj (v (68 + 3 * i) 4) (nv v (68 + 3 * i) 4) e1 (by omega) hO19 _) (cv 1 hts kc_Page_giveWrite ki_Page_giveWrite ke_Page_giveWrite kn_Page km_C_224 kh_Page_giveWrite rfl rfl ⟨by decide, by decide⟩) (preW hW rfl rfl (mw_get (by omega) (mk_page hj))) rfl rfl hl.1 rfl (lv_room (Nat.le_of_ble_eq_true rfl)) d_C_grantRequest_64 ⟨by decide, by decide⟩) (fun rr26 uu26 H locs hp26 hW => ?_)
      have hW : Wd D classes (tysA g) s A (wC g ad np ((cGW v19 j (v (68 + 3 * i) 4) (nv v (68 + 3 * i) 4)).2)) H locs := hW
      obtain ⟨v27, ev27⟩ : ∃ z : Vs, z = (cGW v19 j (v (68 + 3 * i) 4) (nv v (68 + 3 * i) 4)).2 := ⟨_, rfl⟩
      rw [← ev27] at hW
      have hO27 : Ok np v27 := by rw [ev27]; exact hO19.gw hj
      have hp26 : rr26 = (cGW v19 j (v (68 + 3 * i) 4) (nv v (68 + 3 * i) 4)).1 := hp26
      subst hp26
      refine lv_iadd hx hb d_C_grantRequest_67 ?_
      refine wp hx hb hts i_C t_C t_C_ok n_C hown hW (0) (by omega) mk_root rfl 7 (by decide) (hts _ kf_C_124) rfl (by decide +kernel) (x := (v19 0 7) + ((cGW v19 j (v (68 + 3 * i) 4) (nv v (68 + 3 * i) 4)).1)) (Nat.le_of_ble_eq_true rfl) (mk_root.trans rfl) d_C_grantRequest_68 (fun H locs hW => ?_)
      obtain ⟨v28, ev28⟩ : ∃ z : Vs, z = u2 v27 (0) 7 ((v19 0 7) + ((cGW v19 j (v (68 + 3 * i) 4) (nv v (68 + 3 * i) 4)).1)) := ⟨_, rfl⟩
      rw [← ev28] at hW
      have hO28 : Ok np v28 := by rw [ev28]; exact hO27.set (by omega) (okS_free (by omega))
      refine lv_goto (tgt := 79) hx hb d_C_grantRequest_71 (by decide) ?_
      refine lv_aload_n hx hb d_C_grantRequest_79 rfl (lv_at hl 1 rfl) ?_
      refine lv_aload_n hx hb d_C_grantRequest_80 rfl (lv_at hl 2 rfl) ?_
      refine lv_iload_n hx hb d_C_grantRequest_81 rfl (lv_at hl 0 rfl) ?_
      refine wcv hW hA (va_runV (As := [.ref (ad (28 + 5 * j)), .int (v (68 + 3 * i) 4)]) (rest := []) ⟨hx, hb, hml, hown, hts⟩ (c_C_usePage l j hj (v (68 + 3 * i) 4) (nv v (68 + 3 * i) 4) e1 (by omega) hO28 _) (cv 2 hts kc_C_usePage ki_C_usePage ke_C_usePage kn_C km_C_207 kh_C_usePage rfl rfl ⟨by decide, by decide⟩) (preW hW rfl rfl (mw_get (by omega) mk_root)) rfl rfl hl.1 rfl (lv_room (Nat.le_of_ble_eq_true rfl)) d_C_grantRequest_82 ⟨by decide, by decide⟩) (fun uu29 H locs hp29 hW => ?_)
      have hW : Wd D classes (tysA g) s A (wC g ad np (cUse v28 j (nv v (68 + 3 * i) 4))) H locs := hW
      obtain ⟨v30, ev30⟩ : ∃ z : Vs, z = cUse v28 j (nv v (68 + 3 * i) 4) := ⟨_, rfl⟩
      rw [← ev30] at hW
      have hO30 : Ok np v30 := by rw [ev30]; exact hO28.use hj
      refine lv_aload_n hx hb d_C_grantRequest_85 rfl (lv_at hl 1 rfl) ?_
      refine lv_aload_n hx hb d_C_grantRequest_86 rfl (lv_at hl 3 rfl) ?_
      refine wcv hW hA (va_runV (As := [.ref (ad (68 + 3 * i))]) (rest := []) ⟨hx, hb, hml, hown, hts⟩ (c_C_joinLine l i hi hO30 _) (cv 1 hts kc_C_joinLine ki_C_joinLine ke_C_joinLine kn_C km_C_94 kh_C_joinLine rfl rfl ⟨by decide, by decide⟩) (preW hW rfl rfl (mw_get (by omega) mk_root)) rfl rfl hl.1 rfl (lv_room (Nat.le_of_ble_eq_true rfl)) d_C_grantRequest_87 ⟨by decide, by decide⟩) (fun uu31 H locs hp31 hW => ?_)
      have hW : Wd D classes (tysA g) s A (wC g ad np (cJoin v30 i)) H locs := hW
      obtain ⟨v32, ev32⟩ : ∃ z : Vs, z = cJoin v30 i := ⟨_, rfl⟩
      rw [← ev32] at hW
      have hO32 : Ok np v32 := by rw [ev32]; exact hO30.join hi
      have hfin : cGrant v j i = v32 := by
        subst ev32 ev30 ev28 ev27 ev19 ev17 ev3 ev2
        simp only [cGrant, cGrE, if_pos c_31, if_pos c_54]
      exact hret () _ _ _ _ _ _ trivial (by show Wd D classes (tysA g) s A (wC g ad np (cGrant v j i)) _ _; rw [hfin]; exact hW) (by decide) (by decide) d_C_grantRequest_90
abbrev rm_C_requestsStanding : Room := { frames := 0, cells := 0, slots := 0, locals := 0 }
set_option maxHeartbeats 4000000 in
set_option maxRecDepth 100000 in
theorem c_C_requestsStanding (l : Launch) {D : va_G} {g : Nat → ClassId} {ad : Nat → Nat} {np : Nat} {v : Vs} (hO : Ok np v) : MtI l y_C_requestsStanding ws_C_requestsStanding rm_C_requestsStanding D classes (tysA g) [.ref (ad (0))] (wC g ad np (v)) (fun (rr : Int32) (_ : Unit) => rr = cReqL v 8 0 0) (fun _ => wC g ad np (v)) 0 0 := by
  refine mt_i (ty := .int) (fun _ _ _ => rfl) (by decide +kernel) rfl (Nat.le_of_ble_eq_true rfl) (fun p e s m args below meth c Q A C hA hW hret ls hl => ?_)
  obtain ⟨hx, hb, hr, hml, hown, hts0, hlocks⟩ := C
  have hts : ∀ w ∈ bigw, w.before args s = true := fun w h => hts0 w (List.mem_cons_of_mem _ h)
  have hown : s.vm.findClass R_C = some m.cls := hown
  have hnp := hO.le
  have hl : lv_has ls 3 [(0, .ref (ad (0)))] := hl
  refine lv_iconst (v := 0) hx hb d_C_requestsStanding_0 (by decide) ?_
  refine lv_istore_n (lv' := [(1, .int (0)), (0, .ref (ad (0)))]) hx hb d_C_requestsStanding_1 rfl hl (by decide) rfl (fun ls hl => ?_)
  refine lv_iconst (v := 0) hx hb d_C_requestsStanding_2 (by decide) ?_
  refine lv_istore_n (lv' := [(2, .int (0)), (1, .int (0)), (0, .ref (ad (0)))]) hx hb d_C_requestsStanding_3 rfl hl (by decide) rfl (fun ls hl => ?_)
  have loop : ∀ (r : Nat) (t : Nat) (acc : Int32) (H : Heap) (locs : List Loc) (ls : Array Slot), 8 = t + r → cReqL v r t acc = cReqL v 8 0 0 → Wd D classes (tysA g) s A (wC g ad np (v)) H locs → lv_has ls 3 [(0, .ref (ad (0))), (1, .int (acc)), (2, .int (nI (t)))] → W p l e rm_C_requestsStanding s m args below meth c H locs 0 0 Q (F0 m 4 ls []) := by
    intro r
    induction r with
    | zero =>
      intro t acc H locs ls h3 hT hW hl
      refine lv_iload_n hx hb d_C_requestsStanding_4 rfl (lv_at hl 2 rfl) ?_
      refine lv_bipush (v := 8) hx hb d_C_requestsStanding_5 (by decide) ?_
      refine lv_icmp_ge (tgt := 31) hx hb d_C_requestsStanding_7 (by decide) (fun c_7 => ?_) (fun c_7 => ?_)
      · have nc_7 : 8 ≤ t := ni_le rfl rfl (by omega) (by omega) c_7
        refine lv_iload_n hx hb d_C_requestsStanding_31 rfl (lv_at hl 1 rfl) ?_
        exact hret _ () _ _ _ _ _ _ (show acc = cReqL v 8 0 0 by rw [← hT]; rfl) hW (by decide) (by decide) d_C_requestsStanding_32
      · have nc_7 : t < 8 := ni_nle rfl rfl (by omega) (by omega) c_7
        exfalso; omega
    | succ r ih =>
      intro t acc H locs ls h3 hT hW hl
      refine lv_iload_n hx hb d_C_requestsStanding_4 rfl (lv_at hl 2 rfl) ?_
      refine lv_bipush (v := 8) hx hb d_C_requestsStanding_5 (by decide) ?_
      refine lv_icmp_ge (tgt := 31) hx hb d_C_requestsStanding_7 (by decide) (fun c_7 => ?_) (fun c_7 => ?_)
      · have nc_7 : 8 ≤ t := ni_le rfl rfl (by omega) (by omega) c_7
        exfalso; omega
      · have nc_7 : t < 8 := ni_nle rfl rfl (by omega) (by omega) c_7
        refine lv_iload_n hx hb d_C_requestsStanding_10 rfl (lv_at hl 1 rfl) ?_
        refine lv_aload_n hx hb d_C_requestsStanding_11 rfl (lv_at hl 0 rfl) ?_
        refine wg hx hb hts i_C hown hW (0) (by omega) mk_root rfl 3 (by decide) (hts _ kf_C_29) rfl d_C_requestsStanding_12 ?_
        refine lv_iload_n hx hb d_C_requestsStanding_15 rfl (lv_at hl 2 rfl) ?_
        have hi1 : t < 8 := by omega
        refine wa hx hb hW 4 (by omega) mk_pages 4 rfl (t) rfl (by omega) (by decide) (if_pos hi1) d_C_requestsStanding_16 ?_
        refine wg hx hb hts i_Page hown hW (28 + 5 * t) (by omega) (mk_page hi1) rfl 2 (by decide) (hts _ kf_C_76) rfl d_C_requestsStanding_17 ?_
        refine wg hx hb hts i_Line hown hW (28 + 5 * t + 3) (by have := ln_lt (ln_page hi1); omega) (mk_line (ln_page hi1)) rfl 1 (by decide) (hts _ kf_C_62) rfl d_C_requestsStanding_20 ?_
        obtain ⟨e2, b2⟩ := hO.size (ln_page hi1)
        refine lv_iadd hx hb d_C_requestsStanding_23 ?_
        refine lv_istore_n (lv' := [(1, .int ((acc) + (v (28 + 5 * t + 3) 1))), (0, .ref (ad (0))), (2, .int (nI (t)))]) hx hb d_C_requestsStanding_24 rfl hl (by decide) rfl (fun ls hl => ?_)
        refine lv_iinc (v := nI (t + 1)) (lv' := [(2, .int (nI (t + 1))), (1, .int ((acc) + (v (28 + 5 * t + 3) 1))), (0, .ref (ad (0)))]) hx hb d_C_requestsStanding_25 hl (k := 2) rfl (nI_1 _) (by decide) rfl (fun ls hl => ?_)
        refine lv_goto (tgt := 4) hx hb d_C_requestsStanding_28 (by decide) ?_
        refine ih (t + 1) _ _ _ _ (by omega) ?_ hW (lv_sub hl [2, 1, 0] rfl)
        rw [← hT, cReqL]
  exact loop 8 0 0 _ _ _ rfl rfl hW (lv_sub hl [2, 1, 0] rfl)
abbrev rm_C_processesReady : Room := { frames := 0, cells := 0, slots := 0, locals := 0 }
set_option maxHeartbeats 4000000 in
set_option maxRecDepth 100000 in
theorem c_C_processesReady (l : Launch) {D : va_G} {g : Nat → ClassId} {ad : Nat → Nat} {np : Nat} {v : Vs} (hO : Ok np v) : MtI l y_C_processesReady ws_C_processesReady rm_C_processesReady D classes (tysA g) [.ref (ad (0))] (wC g ad np (v)) (fun (rr : Int32) (_ : Unit) => rr = cRdyL v 3 0 0) (fun _ => wC g ad np (v)) 0 0 := by
  refine mt_i (ty := .int) (fun _ _ _ => rfl) (by decide +kernel) rfl (Nat.le_of_ble_eq_true rfl) (fun p e s m args below meth c Q A C hA hW hret ls hl => ?_)
  obtain ⟨hx, hb, hr, hml, hown, hts0, hlocks⟩ := C
  have hts : ∀ w ∈ bigw, w.before args s = true := fun w h => hts0 w (List.mem_cons_of_mem _ h)
  have hown : s.vm.findClass R_C = some m.cls := hown
  have hnp := hO.le
  have hl : lv_has ls 3 [(0, .ref (ad (0)))] := hl
  refine lv_iconst (v := 0) hx hb d_C_processesReady_0 (by decide) ?_
  refine lv_istore_n (lv' := [(1, .int (0)), (0, .ref (ad (0)))]) hx hb d_C_processesReady_1 rfl hl (by decide) rfl (fun ls hl => ?_)
  refine lv_iconst (v := 0) hx hb d_C_processesReady_2 (by decide) ?_
  refine lv_istore_n (lv' := [(2, .int (0)), (1, .int (0)), (0, .ref (ad (0)))]) hx hb d_C_processesReady_3 rfl hl (by decide) rfl (fun ls hl => ?_)
  have loop : ∀ (r : Nat) (t : Nat) (acc : Int32) (H : Heap) (locs : List Loc) (ls : Array Slot), 3 = t + r → cRdyL v r t acc = cRdyL v 3 0 0 → Wd D classes (tysA g) s A (wC g ad np (v)) H locs → lv_has ls 3 [(0, .ref (ad (0))), (1, .int (acc)), (2, .int (nI (t)))] → W p l e rm_C_processesReady s m args below meth c H locs 0 0 Q (F0 m 4 ls []) := by
    intro r
    induction r with
    | zero =>
      intro t acc H locs ls h3 hT hW hl
      refine lv_iload_n hx hb d_C_processesReady_4 rfl (lv_at hl 2 rfl) ?_
      refine lv_iconst (v := 3) hx hb d_C_processesReady_5 (by decide) ?_
      refine lv_icmp_ge (tgt := 27) hx hb d_C_processesReady_6 (by decide) (fun c_6 => ?_) (fun c_6 => ?_)
      · have nc_6 : 3 ≤ t := ni_le rfl rfl (by omega) (by omega) c_6
        refine lv_iload_n hx hb d_C_processesReady_27 rfl (lv_at hl 1 rfl) ?_
        exact hret _ () _ _ _ _ _ _ (show acc = cRdyL v 3 0 0 by rw [← hT]; rfl) hW (by decide) (by decide) d_C_processesReady_28
      · have nc_6 : t < 3 := ni_nle rfl rfl (by omega) (by omega) c_6
        exfalso; omega
    | succ r ih =>
      intro t acc H locs ls h3 hT hW hl
      refine lv_iload_n hx hb d_C_processesReady_4 rfl (lv_at hl 2 rfl) ?_
      refine lv_iconst (v := 3) hx hb d_C_processesReady_5 (by decide) ?_
      refine lv_icmp_ge (tgt := 27) hx hb d_C_processesReady_6 (by decide) (fun c_6 => ?_) (fun c_6 => ?_)
      · have nc_6 : 3 ≤ t := ni_le rfl rfl (by omega) (by omega) c_6
        exfalso; omega
      · have nc_6 : t < 3 := ni_nle rfl rfl (by omega) (by omega) c_6
        refine lv_iload_n hx hb d_C_processesReady_9 rfl (lv_at hl 1 rfl) ?_
        refine lv_aload_n hx hb d_C_processesReady_10 rfl (lv_at hl 0 rfl) ?_
        refine wg hx hb hts i_C hown hW (0) (by omega) mk_root rfl 2 (by decide) (hts _ kf_C_23) rfl d_C_processesReady_11 ?_
        refine lv_iload_n hx hb d_C_processesReady_14 rfl (lv_at hl 2 rfl) ?_
        have hk1 : isLn (22 + 2 * t) := ln_node (by omega)
        refine wa hx hb hW 3 (by omega) mk_lines 3 rfl (t) rfl (by omega) (by decide) (if_pos (by omega)) d_C_processesReady_15 ?_
        refine wg hx hb hts i_Line hown hW (22 + 2 * t) (by have := ln_lt hk1; omega) (mk_line hk1) rfl 1 (by decide) (hts _ kf_C_62) rfl d_C_processesReady_16 ?_
        obtain ⟨e2, b2⟩ := hO.size hk1
        refine lv_iadd hx hb d_C_processesReady_19 ?_
        refine lv_istore_n (lv' := [(1, .int ((acc) + (v (22 + 2 * t) 1))), (0, .ref (ad (0))), (2, .int (nI (t)))]) hx hb d_C_processesReady_20 rfl hl (by decide) rfl (fun ls hl => ?_)
        refine lv_iinc (v := nI (t + 1)) (lv' := [(2, .int (nI (t + 1))), (1, .int ((acc) + (v (22 + 2 * t) 1))), (0, .ref (ad (0)))]) hx hb d_C_processesReady_21 hl (k := 2) rfl (nI_1 _) (by decide) rfl (fun ls hl => ?_)
        refine lv_goto (tgt := 4) hx hb d_C_processesReady_24 (by decide) ?_
        refine ih (t + 1) _ _ _ _ (by omega) ?_ hW (lv_sub hl [2, 1, 0] rfl)
        rw [← hT, cRdyL]
  exact loop 3 0 0 _ _ _ rfl rfl hW (lv_sub hl [2, 1, 0] rfl)
abbrev rm_Program_add : Room := { frames := 0, cells := 0, slots := 0, locals := 0 }
set_option maxHeartbeats 4000000 in
set_option maxRecDepth 100000 in
theorem c_Program_add (l : Launch) {D : va_G} {g : Nat → ClassId} {ad : Nat → Nat} {np : Nat} {v : Vs} (i : Nat) (hi : i < 4) (op : Int32) (a : Int32) (b : Int32) (hO : Ok np v) (hs : nv v (6 + 4 * i) 3 < 12) : MtV l y_Program_add ws_Program_add rm_Program_add D classes (tysA g) [.ref (ad (6 + 4 * i)), .int (op), .int (a), .int (b)] (wC g ad np (v)) (fun _ : Unit => True) (fun _ => wC g ad np (cAdd v i op a b)) 0 0 := by
  refine mt_v (by decide +kernel) rfl (Nat.le_of_ble_eq_true rfl) (fun p e s m args below meth c Q A C hnm hA hW hret ls hl => ?_)
  obtain ⟨hx, hb, hr, hml, hown, hts0, hlocks⟩ := C
  have hts : ∀ w ∈ bigw, w.before args s = true := fun w h => hts0 w (List.mem_cons_of_mem _ h)
  have hown : s.vm.findClass R_Program = some m.cls := hown
  have hnp := hO.le
  have hl : lv_has ls 4 [(0, .ref (ad (6 + 4 * i))), (1, .int (op)), (2, .int (a)), (3, .int (b))] := hl
  refine lv_aload_n hx hb d_Program_add_0 rfl (lv_at hl 0 rfl) ?_
  refine wg hx hb hts i_Program hown hW (6 + 4 * i) (by omega) (mk_program hi) rfl 0 (by decide) (hts _ kf_Program_9) rfl d_Program_add_1 ?_
  refine lv_aload_n hx hb d_Program_add_4 rfl (lv_at hl 0 rfl) ?_
  refine wg hx hb hts i_Program hown hW (6 + 4 * i) (by omega) (mk_program hi) rfl 3 (by decide) (hts _ kf_Program_21) rfl d_Program_add_5 ?_
  obtain ⟨e1, b1⟩ := hO.psize hi
  refine lv_iload_n hx hb d_Program_add_8 rfl (lv_at hl 1 rfl) ?_
  refine wis hx hb hW (6 + 4 * i + 1) (by omega) (mk_ops hi (by decide) (by decide)) 0 rfl (nv v (6 + 4 * i) 3) e1 (by omega) (by decide) (x := op) (mk_ops hi (by decide) (by decide)) d_Program_add_9 (fun H locs hW => ?_)
  obtain ⟨v2, ev2⟩ : ∃ z : Vs, z = u2 v (6 + 4 * i + 1) (nv v (6 + 4 * i) 3) (op) := ⟨_, rfl⟩
  rw [← ev2] at hW
  have t2_3 : nv v2 (6 + 4 * i) 3 = nv v (6 + 4 * i) 3 := by rw [← (rfl : nv v (6 + 4 * i) 3 = nv v (6 + 4 * i) 3)]; unfold nv; rw [ev2, u2_a (by omega)]
  have hO2 : Ok np v2 := by rw [ev2]; exact hO.pset hi (by decide) (by decide) (by omega)
  refine lv_aload_n hx hb d_Program_add_10 rfl (lv_at hl 0 rfl) ?_
  refine wg hx hb hts i_Program hown hW (6 + 4 * i) (by omega) (mk_program hi) rfl 1 (by decide) (hts _ kf_Program_15) rfl d_Program_add_11 ?_
  refine lv_aload_n hx hb d_Program_add_14 rfl (lv_at hl 0 rfl) ?_
  refine wg hx hb hts i_Program hown hW (6 + 4 * i) (by omega) (mk_program hi) rfl 3 (by decide) (hts _ kf_Program_21) rfl d_Program_add_15 ?_
  obtain ⟨e3, b3⟩ := hO2.psize hi
  refine lv_iload_n hx hb d_Program_add_18 rfl (lv_at hl 2 rfl) ?_
  refine wis hx hb hW (6 + 4 * i + 2) (by omega) (mk_ops hi (by decide) (by decide)) 0 rfl (nv v2 (6 + 4 * i) 3) e3 (by omega) (by decide) (x := a) (mk_ops hi (by decide) (by decide)) d_Program_add_19 (fun H locs hW => ?_)
  obtain ⟨v4, ev4⟩ : ∃ z : Vs, z = u2 v2 (6 + 4 * i + 2) (nv v2 (6 + 4 * i) 3) (a) := ⟨_, rfl⟩
  rw [← ev4] at hW
  have t4_3 : nv v4 (6 + 4 * i) 3 = nv v (6 + 4 * i) 3 := by rw [← t2_3]; unfold nv; rw [ev4, u2_a (by omega)]
  have hO4 : Ok np v4 := by rw [ev4]; exact hO2.pset hi (by decide) (by decide) (by omega)
  refine lv_aload_n hx hb d_Program_add_20 rfl (lv_at hl 0 rfl) ?_
  refine wg hx hb hts i_Program hown hW (6 + 4 * i) (by omega) (mk_program hi) rfl 2 (by decide) (hts _ kf_Program_18) rfl d_Program_add_21 ?_
  refine lv_aload_n hx hb d_Program_add_24 rfl (lv_at hl 0 rfl) ?_
  refine wg hx hb hts i_Program hown hW (6 + 4 * i) (by omega) (mk_program hi) rfl 3 (by decide) (hts _ kf_Program_21) rfl d_Program_add_25 ?_
  obtain ⟨e5, b5⟩ := hO4.psize hi
  refine lv_iload_n hx hb d_Program_add_28 rfl (lv_at hl 3 rfl) ?_
  refine wis hx hb hW (6 + 4 * i + 3) (by omega) (mk_ops hi (by decide) (by decide)) 0 rfl (nv v4 (6 + 4 * i) 3) e5 (by omega) (by decide) (x := b) (mk_ops hi (by decide) (by decide)) d_Program_add_29 (fun H locs hW => ?_)
  obtain ⟨v6, ev6⟩ : ∃ z : Vs, z = u2 v4 (6 + 4 * i + 3) (nv v4 (6 + 4 * i) 3) (b) := ⟨_, rfl⟩
  rw [← ev6] at hW
  have t6_3 : nv v6 (6 + 4 * i) 3 = nv v (6 + 4 * i) 3 := by rw [← t4_3]; unfold nv; rw [ev6, u2_a (by omega)]
  have hO6 : Ok np v6 := by rw [ev6]; exact hO4.pset hi (by decide) (by decide) (by omega)
  refine lv_aload_n hx hb d_Program_add_30 rfl (lv_at hl 0 rfl) ?_
  refine lv_dup hx hb d_Program_add_31 rfl ?_
  refine wg hx hb hts i_Program hown hW (6 + 4 * i) (by omega) (mk_program hi) rfl 3 (by decide) (hts _ kf_Program_21) rfl d_Program_add_32 ?_
  obtain ⟨e7, b7⟩ := hO6.psize hi
  refine lv_iconst (v := 1) hx hb d_Program_add_35 (by decide) ?_
  refine lv_iadd hx hb d_Program_add_36 ?_
  refine wp hx hb hts i_Program t_Program t_Program_ok n_Program hown hW (6 + 4 * i) (by omega) (mk_program hi) rfl 3 (by decide) (hts _ kf_Program_21) rfl (by decide +kernel) (x := (v6 (6 + 4 * i) 3) + (1)) (Nat.le_of_ble_eq_true rfl) ((mk_program hi).trans rfl) d_Program_add_37 (fun H locs hW => ?_)
  obtain ⟨v8, ev8⟩ : ∃ z : Vs, z = u2 v6 (6 + 4 * i) 3 ((v6 (6 + 4 * i) 3) + (1)) := ⟨_, rfl⟩
  rw [← ev8] at hW
  have hfin : cAdd v i op a b = v8 := by
    subst ev8 ev6 ev4 ev2
    rfl
  exact hret () _ _ _ _ _ _ trivial (by show Wd D classes (tysA g) s A (wC g ad np (cAdd v i op a b)) _ _; rw [hfin]; exact hW) (by decide) (by decide) d_Program_add_40
abbrev rm_C_instr : Room := { frames := 2, cells := 0, slots := 0, locals := 42 }
set_option maxHeartbeats 4000000 in
set_option maxRecDepth 100000 in
theorem c_C_instr (l : Launch) {D : va_G} {g : Nat → ClassId} {ad : Nat → Nat} {np : Nat} {v : Vs} (x : Int32) (op : Int32) (a : Int32) (b : Int32) (hO : Ok np v) : MtI l y_C_instr ws_C_instr rm_C_instr D classes (tysA g) [.ref (ad (0)), .int (x), .int (op), .int (a), .int (b)] (wC g ad np (v)) (fun (rr : Int32) (_ : Unit) => rr = (mInstr v x op a b).1) (fun _ => wC g ad np ((mInstr v x op a b).2)) 0 0 := by
  refine mt_i (ty := .int) (fun _ _ _ => rfl) (by decide +kernel) rfl (Nat.le_of_ble_eq_true rfl) (fun p e s m args below meth c Q A C hA hW hret ls hl => ?_)
  obtain ⟨hx, hb, hr, hml, hown, hts0, hlocks⟩ := C
  have hts : ∀ w ∈ bigw, w.before args s = true := fun w h => hts0 w (List.mem_cons_of_mem _ h)
  have hown : s.vm.findClass R_C = some m.cls := hown
  have hnp := hO.le
  have hl : lv_has ls 6 [(0, .ref (ad (0))), (1, .int (x)), (2, .int (op)), (3, .int (a)), (4, .int (b))] := hl
  refine lv_iload_n hx hb d_C_instr_0 rfl (lv_at hl 1 rfl) ?_
  refine lv_iconst (v := 4) hx hb d_C_instr_1 (by decide) ?_
  refine wci hW hA (va_runS (As := [.int (x), .int (4)]) (rest := []) ⟨hx, hb, hml, hown, hts⟩ (c_C_isIn l _ (x) (4) _) (cs 2 hts kc_C_isIn ks_C_isIn kn_C km_C_40 kh_C_isIn rfl rfl ⟨by decide, by decide⟩) (preWS hW) rfl rfl hl.1 rfl (lv_room (Nat.le_of_ble_eq_true rfl)) d_C_instr_2 ⟨by decide, by decide⟩) (fun rr1 uu1 H locs hp1 hW => ?_)
  have hW : Wd D classes (tysA g) s A (wC g ad np (v)) H locs := hW
  have hp1 : rr1 = if inI (x) (4) then 1 else 0 := hp1
  refine lv_if_eq (tgt := 34) hx hb d_C_instr_5 (by decide) (fun c_5 => ?_) (fun c_5 => ?_)
  · have c_5 : ¬ (inI (x) (4)) := bo_eq hp1 c_5
    refine lv_iconst (v := (-1)) hx hb d_C_instr_34 (by decide) ?_
    have hfin : mInstr v x op a b = ((-1), v) := by
      skip; simp only [mInstr, if_neg c_5]
    refine hret _ () _ _ _ _ _ _ ?_ (by show Wd D classes (tysA g) s A (wC g ad np ((mInstr v x op a b).2)) _ _; rw [hfin]; exact hW) (by decide) (by decide) d_C_instr_35
    show (-1) = (mInstr v x op a b).1
    rw [hfin]
  · have c_5 : inI (x) (4) := bo_ne hp1 c_5
    obtain ⟨e2, b2⟩ := inI_nn (N := 4) rfl (by omega) c_5
    refine lv_iload_n hx hb d_C_instr_8 rfl (lv_at hl 2 rfl) ?_
    refine lv_bipush (v := 13) hx hb d_C_instr_9 (by decide) ?_
    refine wci hW hA (va_runS (As := [.int (op), .int (13)]) (rest := []) ⟨hx, hb, hml, hown, hts⟩ (c_C_isIn l _ (op) (13) _) (cs 2 hts kc_C_isIn ks_C_isIn kn_C km_C_40 kh_C_isIn rfl rfl ⟨by decide, by decide⟩) (preWS hW) rfl rfl hl.1 rfl (lv_room (Nat.le_of_ble_eq_true rfl)) d_C_instr_11 ⟨by decide, by decide⟩) (fun rr3 uu3 H locs hp3 hW => ?_)
    have hW : Wd D classes (tysA g) s A (wC g ad np (v)) H locs := hW
    have hp3 : rr3 = if inI (op) (13) then 1 else 0 := hp3
    refine lv_if_eq (tgt := 34) hx hb d_C_instr_14 (by decide) (fun c_14 => ?_) (fun c_14 => ?_)
    · have c_14 : ¬ (inI (op) (13)) := bo_eq hp3 c_14
      refine lv_iconst (v := (-1)) hx hb d_C_instr_34 (by decide) ?_
      have hfin : mInstr v x op a b = ((-1), v) := by
        skip; simp only [mInstr, if_pos c_5, if_neg c_14]
      refine hret _ () _ _ _ _ _ _ ?_ (by show Wd D classes (tysA g) s A (wC g ad np ((mInstr v x op a b).2)) _ _; rw [hfin]; exact hW) (by decide) (by decide) d_C_instr_35
      show (-1) = (mInstr v x op a b).1
      rw [hfin]
    · have c_14 : inI (op) (13) := bo_ne hp3 c_14
      obtain ⟨e4, b4⟩ := inI_nn (N := 13) rfl (by omega) c_14
      refine lv_iload_n hx hb d_C_instr_17 rfl (lv_at hl 3 rfl) ?_
      refine lv_iconst (v := 4) hx hb d_C_instr_18 (by decide) ?_
      refine wci hW hA (va_runS (As := [.int (a), .int (4)]) (rest := []) ⟨hx, hb, hml, hown, hts⟩ (c_C_isIn l _ (a) (4) _) (cs 2 hts kc_C_isIn ks_C_isIn kn_C km_C_40 kh_C_isIn rfl rfl ⟨by decide, by decide⟩) (preWS hW) rfl rfl hl.1 rfl (lv_room (Nat.le_of_ble_eq_true rfl)) d_C_instr_19 ⟨by decide, by decide⟩) (fun rr5 uu5 H locs hp5 hW => ?_)
      have hW : Wd D classes (tysA g) s A (wC g ad np (v)) H locs := hW
      have hp5 : rr5 = if inI (a) (4) then 1 else 0 := hp5
      refine lv_if_eq (tgt := 34) hx hb d_C_instr_22 (by decide) (fun c_22 => ?_) (fun c_22 => ?_)
      · have c_22 : ¬ (inI (a) (4)) := bo_eq hp5 c_22
        refine lv_iconst (v := (-1)) hx hb d_C_instr_34 (by decide) ?_
        have hfin : mInstr v x op a b = ((-1), v) := by
          skip; simp only [mInstr, if_pos c_5, if_pos c_14, if_neg c_22]
        refine hret _ () _ _ _ _ _ _ ?_ (by show Wd D classes (tysA g) s A (wC g ad np ((mInstr v x op a b).2)) _ _; rw [hfin]; exact hW) (by decide) (by decide) d_C_instr_35
        show (-1) = (mInstr v x op a b).1
        rw [hfin]
      · have c_22 : inI (a) (4) := bo_ne hp5 c_22
        obtain ⟨e6, b6⟩ := inI_nn (N := 4) rfl (by omega) c_22
        refine lv_iload_n hx hb d_C_instr_25 rfl (lv_at hl 2 rfl) ?_
        refine lv_iload hx hb d_C_instr_26 (lv_at hl 4 rfl) ?_
        refine wci hW hA (va_runS (As := [.int (op), .int (b)]) (rest := []) ⟨hx, hb, hml, hown, hts⟩ (c_C_fitsOp l _ (op) (b) _) (cs 2 hts kc_C_fitsOp ks_C_fitsOp kn_C km_C_44 kh_C_fitsOp rfl rfl ⟨by decide, by decide⟩) (preWS hW) rfl rfl hl.1 rfl (lv_room (Nat.le_of_ble_eq_true rfl)) d_C_instr_28 ⟨by decide, by decide⟩) (fun rr7 uu7 H locs hp7 hW => ?_)
        have hW : Wd D classes (tysA g) s A (wC g ad np (v)) H locs := hW
        have hp7 : rr7 = if fitP (op) (b) then 1 else 0 := hp7
        refine lv_if_ne (tgt := 36) hx hb d_C_instr_31 (by decide) (fun c_31 => ?_) (fun c_31 => ?_)
        · have c_31 : fitP (op) (b) := bo_ne hp7 c_31
          refine lv_aload_n hx hb d_C_instr_36 rfl (lv_at hl 0 rfl) ?_
          refine wg hx hb hts i_C hown hW (0) (by omega) mk_root rfl 0 (by decide) (hts _ kf_C_11) rfl d_C_instr_37 ?_
          refine lv_iload_n hx hb d_C_instr_40 rfl (lv_at hl 1 rfl) ?_
          have hi8 : nn x < 4 := by omega
          refine wa hx hb hW 1 (by omega) mk_programs 1 rfl (nn x) e2 (by omega) (by decide) (if_pos hi8) d_C_instr_41 ?_
          refine lv_astore (lv' := [(5, .ref (ad (6 + 4 * (nn x)))), (0, .ref (ad (0))), (1, .int (x)), (2, .int (op)), (3, .int (a)), (4, .int (b))]) hx hb d_C_instr_42 hl (by decide) rfl (fun ls hl => ?_)
          refine lv_aload hx hb d_C_instr_44 (lv_at hl 0 rfl) ?_
          refine wg hx hb hts i_Program hown hW (6 + 4 * (nn x)) (by omega) (mk_program hi8) rfl 3 (by decide) (hts _ kf_C_47) rfl d_C_instr_46 ?_
          obtain ⟨e9, b9⟩ := hO.psize hi8
          refine lv_bipush (v := 12) hx hb d_C_instr_49 (by decide) ?_
          refine lv_icmp_ne (tgt := 57) hx hb d_C_instr_51 (by decide) (fun c_51 => ?_) (fun c_51 => ?_)
          · have nc_51 : ¬ nv v (6 + 4 * (nn x)) 3 = 12 := ni_ne e9 rfl (by omega) (by omega) c_51
            have hsz : nv v (6 + 4 * nn x) 3 < 12 := by omega
            refine lv_aload hx hb d_C_instr_57 (lv_at hl 0 rfl) ?_
            refine lv_iload_n hx hb d_C_instr_59 rfl (lv_at hl 3 rfl) ?_
            refine lv_iload_n hx hb d_C_instr_60 rfl (lv_at hl 4 rfl) ?_
            refine lv_iload hx hb d_C_instr_61 (lv_at hl 5 rfl) ?_
            refine wcv hW hA (va_runV (As := [.int (op), .int (a), .int (b)]) (rest := []) ⟨hx, hb, hml, hown, hts⟩ (c_Program_add l (nn x) hi8 (op) (a) (b) hO hsz _) (cv 3 hts kc_Program_add ki_Program_add ke_Program_add kn_Program km_C_51 kh_Program_add rfl rfl ⟨by decide, by decide⟩) (preW hW rfl rfl (mw_get (by omega) (mk_program hi8))) rfl rfl hl.1 rfl (lv_room (Nat.le_of_ble_eq_true rfl)) d_C_instr_63 ⟨by decide, by decide⟩) (fun uu10 H locs hp10 hW => ?_)
            have hW : Wd D classes (tysA g) s A (wC g ad np (cAdd v (nn x) (op) (a) (b))) H locs := hW
            obtain ⟨v11, ev11⟩ : ∃ z : Vs, z = cAdd v (nn x) (op) (a) (b) := ⟨_, rfl⟩
            rw [← ev11] at hW
            refine lv_aload hx hb d_C_instr_66 (lv_at hl 0 rfl) ?_
            refine wg hx hb hts i_Program hown hW (6 + 4 * (nn x)) (by omega) (mk_program hi8) rfl 3 (by decide) (hts _ kf_C_47) rfl d_C_instr_68 ?_
            obtain ⟨e12, b12⟩ := hO.psize hi8
            have hfin : mInstr v x op a b = (v11 (6 + 4 * (nn x)) 3, v11) := by
              subst ev11; simp only [mInstr, if_pos c_5, if_pos c_14, if_pos c_22, if_pos c_31, if_neg c_51]
            refine hret _ () _ _ _ _ _ _ ?_ (by show Wd D classes (tysA g) s A (wC g ad np ((mInstr v x op a b).2)) _ _; rw [hfin]; exact hW) (by decide) (by decide) d_C_instr_71
            show v11 (6 + 4 * (nn x)) 3 = (mInstr v x op a b).1
            rw [hfin]
          · have nc_51 : nv v (6 + 4 * (nn x)) 3 = 12 := ni_eq e9 rfl (by omega) (by omega) c_51
            refine lv_bipush (v := (-2)) hx hb d_C_instr_54 (by decide) ?_
            have hfin : mInstr v x op a b = ((-2), v) := by
              skip; simp only [mInstr, if_pos c_5, if_pos c_14, if_pos c_22, if_pos c_31, if_pos c_51]
            refine hret _ () _ _ _ _ _ _ ?_ (by show Wd D classes (tysA g) s A (wC g ad np ((mInstr v x op a b).2)) _ _; rw [hfin]; exact hW) (by decide) (by decide) d_C_instr_56
            show (-2) = (mInstr v x op a b).1
            rw [hfin]
        · have c_31 : ¬ (fitP (op) (b)) := bo_eq hp7 c_31
          refine lv_iconst (v := (-1)) hx hb d_C_instr_34 (by decide) ?_
          have hfin : mInstr v x op a b = ((-1), v) := by
            skip; simp only [mInstr, if_pos c_5, if_pos c_14, if_pos c_22, if_neg c_31]
          refine hret _ () _ _ _ _ _ _ ?_ (by show Wd D classes (tysA g) s A (wC g ad np ((mInstr v x op a b).2)) _ _; rw [hfin]; exact hW) (by decide) (by decide) d_C_instr_35
          show (-1) = (mInstr v x op a b).1
          rw [hfin]
abbrev rm_C_serve : Room := { frames := 4, cells := 0, slots := 0, locals := 91 }
set_option maxHeartbeats 4000000 in
set_option maxRecDepth 100000 in
theorem c_C_serve (l : Launch) {D : va_G} {g : Nat → ClassId} {ad : Nat → Nat} {np : Nat} {v : Vs} (x : Int32) (hO : Ok np v) : MtI l y_C_serve ws_C_serve rm_C_serve D classes (tysA g) [.ref (ad (0)), .int (x)] (wC g ad np (v)) (fun (rr : Int32) (_ : Unit) => rr = (mServe v x).1) (fun _ => wC g ad np ((mServe v x).2)) 0 0 := by
  refine mt_i (ty := .int) (fun _ _ _ => rfl) (by decide +kernel) rfl (Nat.le_of_ble_eq_true rfl) (fun p e s m args below meth c Q A C hA hW hret ls hl => ?_)
  obtain ⟨hx, hb, hr, hml, hown, hts0, hlocks⟩ := C
  have hts : ∀ w ∈ bigw, w.before args s = true := fun w h => hts0 w (List.mem_cons_of_mem _ h)
  have hown : s.vm.findClass R_C = some m.cls := hown
  have hnp := hO.le
  have hl : lv_has ls 6 [(0, .ref (ad (0))), (1, .int (x))] := hl
  refine lv_iload_n hx hb d_C_serve_0 rfl (lv_at hl 1 rfl) ?_
  refine lv_bipush (v := 8) hx hb d_C_serve_1 (by decide) ?_
  refine wci hW hA (va_runS (As := [.int (x), .int (8)]) (rest := []) ⟨hx, hb, hml, hown, hts⟩ (c_C_isIn l _ (x) (8) _) (cs 2 hts kc_C_isIn ks_C_isIn kn_C km_C_40 kh_C_isIn rfl rfl ⟨by decide, by decide⟩) (preWS hW) rfl rfl hl.1 rfl (lv_room (Nat.le_of_ble_eq_true rfl)) d_C_serve_3 ⟨by decide, by decide⟩) (fun rr1 uu1 H locs hp1 hW => ?_)
  have hW : Wd D classes (tysA g) s A (wC g ad np (v)) H locs := hW
  have hp1 : rr1 = if inI (x) (8) then 1 else 0 := hp1
  refine lv_if_ne (tgt := 11) hx hb d_C_serve_6 (by decide) (fun c_6 => ?_) (fun c_6 => ?_)
  · have c_6 : inI (x) (8) := bo_ne hp1 c_6
    obtain ⟨e2, b2⟩ := inI_nn (N := 8) rfl (by omega) c_6
    refine lv_aload_n hx hb d_C_serve_11 rfl (lv_at hl 0 rfl) ?_
    refine wg hx hb hts i_C hown hW (0) (by omega) mk_root rfl 3 (by decide) (hts _ kf_C_29) rfl d_C_serve_12 ?_
    refine lv_iload_n hx hb d_C_serve_15 rfl (lv_at hl 1 rfl) ?_
    have hi3 : nn x < 8 := by omega
    refine wa hx hb hW 4 (by omega) mk_pages 4 rfl (nn x) e2 (by omega) (by decide) (if_pos hi3) d_C_serve_16 ?_
    refine wg hx hb hts i_Page hown hW (28 + 5 * (nn x)) (by omega) (mk_page hi3) rfl 2 (by decide) (hts _ kf_C_76) rfl d_C_serve_17 ?_
    refine lv_astore_n (lv' := [(2, .ref (ad (28 + 5 * (nn x) + 3))), (0, .ref (ad (0))), (1, .int (x))]) hx hb d_C_serve_20 rfl hl (by decide) rfl (fun ls hl => ?_)
    refine lv_aload_n hx hb d_C_serve_21 rfl (lv_at hl 0 rfl) ?_
    refine wg hx hb hts i_Line hown hW (28 + 5 * (nn x) + 3) (by have := ln_lt (ln_page hi3); omega) (mk_line (ln_page hi3)) rfl 1 (by decide) (hts _ kf_C_62) rfl d_C_serve_22 ?_
    obtain ⟨e4, b4⟩ := hO.size (ln_page hi3)
    refine lv_istore_n (lv' := [(3, .int (v (28 + 5 * (nn x) + 3) 1)), (2, .ref (ad (28 + 5 * (nn x) + 3))), (0, .ref (ad (0))), (1, .int (x))]) hx hb d_C_serve_25 rfl hl (by decide) rfl (fun ls hl => ?_)
    refine lv_iconst (v := 0) hx hb d_C_serve_26 (by decide) ?_
    refine lv_istore (lv' := [(4, .int (0)), (3, .int (v (28 + 5 * (nn x) + 3) 1)), (2, .ref (ad (28 + 5 * (nn x) + 3))), (0, .ref (ad (0))), (1, .int (x))]) hx hb d_C_serve_27 hl (by decide) rfl (fun ls hl => ?_)
    have hjx : nn x < 8 := by omega
    have hM : mServe v x = cServeL (nn x) (nv v (28 + 5 * nn x + 3) 1) v := by simp only [mServe, if_pos c_6]
    obtain ⟨sz, esz⟩ : ∃ z, z = nv v (28 + 5 * nn x + 3) 1 := ⟨_, rfl⟩
    have hsz : v (28 + 5 * (nn x) + 3) 1 = nI sz := by rw [esz]; exact e4
    have hs8 : sz ≤ 8 ∧ (0 < sz → 0 < np) := by rw [esz]; exact (hO.size (ln_page hjx)).2
    have loop : ∀ (r : Nat) (t : Nat) (vc : Vs) (H : Heap) (locs : List Loc) (ls : Array Slot), Ok np vc → sz = t + r → cServeL (nn x) r vc = cServeL (nn x) (nv v (28 + 5 * nn x + 3) 1) v → Wd D classes (tysA g) s A (wC g ad np (vc)) H locs → lv_has ls 6 [(0, .ref (ad (0))), (1, .int (x)), (2, .ref (ad (28 + 5 * (nn x) + 3))), (3, .int (v (28 + 5 * (nn x) + 3) 1)), (4, .int (nI (t)))] → W p l e rm_C_serve s m args below meth c H locs 0 0 Q (F0 m 29 ls []) := by
      intro r
      induction r with
      | zero =>
        intro t vc H locs ls hOc h3 hT hW hl
        refine lv_iload hx hb d_C_serve_29 (lv_at hl 4 rfl) ?_
        refine lv_iload_n hx hb d_C_serve_31 rfl (lv_at hl 3 rfl) ?_
        refine lv_icmp_ge (tgt := 90) hx hb d_C_serve_32 (by decide) (fun c_32 => ?_) (fun c_32 => ?_)
        · have nc_32 : sz ≤ t := ni_le hsz rfl (by omega) (by omega) c_32
          refine lv_bipush (v := (-3)) hx hb d_C_serve_90 (by decide) ?_
          have hfin : mServe v x = (-3, vc) := by rw [hM, ← hT]; rfl
          exact hret _ () _ _ _ _ _ _ (show (-3 : Int32) = (mServe v x).1 by rw [hfin]) (by show Wd D classes (tysA g) s A (wC g ad np ((mServe v x).2)) _ _; rw [hfin]; exact hW) (by decide) (by decide) d_C_serve_92
        · have nc_32 : t < sz := ni_nle hsz rfl (by omega) (by omega) c_32
          exfalso; omega
      | succ r ih =>
        intro t vc H locs ls hOc h3 hT hW hl
        refine lv_iload hx hb d_C_serve_29 (lv_at hl 4 rfl) ?_
        refine lv_iload_n hx hb d_C_serve_31 rfl (lv_at hl 3 rfl) ?_
        refine lv_icmp_ge (tgt := 90) hx hb d_C_serve_32 (by decide) (fun c_32 => ?_) (fun c_32 => ?_)
        · have nc_32 : sz ≤ t := ni_le hsz rfl (by omega) (by omega) c_32
          exfalso; omega
        · have nc_32 : t < sz := ni_nle hsz rfl (by omega) (by omega) c_32
          refine lv_aload_n hx hb d_C_serve_35 rfl (lv_at hl 0 rfl) ?_
          refine wg hx hb hts i_C hown hW (0) (by omega) mk_root rfl 1 (by decide) (hts _ kf_C_17) rfl d_C_serve_36 ?_
          refine lv_aload_n hx hb d_C_serve_39 rfl (lv_at hl 2 rfl) ?_
          refine wg hx hb hts i_Line hown hW (28 + 5 * (nn x) + 3) (by have := ln_lt (ln_page hjx); omega) (mk_line (ln_page hjx)) rfl 0 (by decide) (hts _ kf_C_63) rfl d_C_serve_40 ?_
          refine lv_iconst (v := 0) hx hb d_C_serve_43 (by decide) ?_
          refine wi hx hb hW (28 + 5 * (nn x) + 3 + 1) (by have := ln_lt (ln_page hjx); omega) (mk_items (ln_page hjx)) 0 rfl (0) rfl (by omega) (by decide) d_C_serve_44 ?_
          obtain ⟨e5, b5⟩ := hOc.item (ln_page hjx) (0) (by omega)
          have hi6 : nv vc (28 + 5 * (nn x) + 3 + 1) 0 < np := by omega
          refine wa hx hb hW 2 (by omega) mk_processes 2 rfl (nv vc (28 + 5 * (nn x) + 3 + 1) 0) e5 (by omega) (by decide) (if_pos hi6) d_C_serve_45 ?_
          refine lv_astore (lv' := [(5, .ref (ad (68 + 3 * (nv vc (28 + 5 * (nn x) + 3 + 1) 0)))), (0, .ref (ad (0))), (1, .int (x)), (2, .ref (ad (28 + 5 * (nn x) + 3))), (3, .int (v (28 + 5 * (nn x) + 3) 1)), (4, .int (nI (t)))]) hx hb d_C_serve_46 hl (by decide) rfl (fun ls hl => ?_)
          refine lv_aload_n hx hb d_C_serve_48 rfl (lv_at hl 3 rfl) ?_
          refine lv_aload hx hb d_C_serve_49 (lv_at hl 0 rfl) ?_
          refine wg hx hb hts i_Proc hown hW (68 + 3 * (nv vc (28 + 5 * (nn x) + 3 + 1) 0)) (by omega) mk_proc rfl 0 (by decide) (hts _ kf_C_73) rfl d_C_serve_51 ?_
          obtain ⟨e7, b7⟩ := hOc.number hi6
          refine wcv hW hA (va_runV (As := [.int (vc (68 + 3 * (nv vc (28 + 5 * (nn x) + 3 + 1) 0)) 0)]) (rest := []) ⟨hx, hb, hml, hown, hts⟩ (c_Line_remove l (28 + 5 * (nn x) + 3) (ln_page hjx) (vc (68 + 3 * (nv vc (28 + 5 * (nn x) + 3 + 1) 0)) 0) hOc (by omega) _) (cv 1 hts kc_Line_remove ki_Line_remove ke_Line_remove kn_Line km_C_80 kh_Line_remove rfl rfl ⟨by decide, by decide⟩) (preW hW rfl rfl (mw_get (by have := ln_lt (ln_page hjx); omega) (mk_line (ln_page hjx)))) rfl rfl hl.1 rfl (lv_room (Nat.le_of_ble_eq_true rfl)) d_C_serve_54 ⟨by decide, by decide⟩) (fun uu8 H locs hp8 hW => ?_)
          have hW : Wd D classes (tysA g) s A (wC g ad np (cRem vc (28 + 5 * (nn x) + 3) (vc (68 + 3 * (nv vc (28 + 5 * (nn x) + 3 + 1) 0)) 0))) H locs := hW
          obtain ⟨v9, ev9⟩ : ∃ z : Vs, z = cRem vc (28 + 5 * (nn x) + 3) (vc (68 + 3 * (nv vc (28 + 5 * (nn x) + 3 + 1) 0)) 0) := ⟨_, rfl⟩
          rw [← ev9] at hW
          have hO9 : Ok np v9 := by rw [ev9]; exact hOc.rem (ln_page hjx) (by omega)
          refine lv_aload hx hb d_C_serve_57 (lv_at hl 0 rfl) ?_
          refine wg hx hb hts i_Proc hown hW (68 + 3 * (nv vc (28 + 5 * (nn x) + 3 + 1) 0)) (by omega) mk_proc rfl 5 (by decide) (hts _ kf_C_70) rfl d_C_serve_59 ?_
          refine lv_iconst (v := 4) hx hb d_C_serve_62 (by decide) ?_
          refine lv_icmp_eq (tgt := 84) hx hb d_C_serve_63 (by decide) (fun c_63 => ?_) (fun c_63 => ?_)
          · refine lv_iinc (v := nI (t + 1)) (lv' := [(4, .int (nI (t + 1))), (5, .ref (ad (68 + 3 * (nv vc (28 + 5 * (nn x) + 3 + 1) 0)))), (0, .ref (ad (0))), (1, .int (x)), (2, .ref (ad (28 + 5 * (nn x) + 3))), (3, .int (v (28 + 5 * (nn x) + 3) 1))]) hx hb d_C_serve_84 hl (k := 5) rfl (nI_1 _) (by decide) rfl (fun ls hl => ?_)
            refine lv_goto (tgt := 29) hx hb d_C_serve_87 (by decide) ?_
            refine ih (t + 1) v9 _ _ _ hO9 (by omega) ?_ hW (lv_sub hl [2, 3, 4, 5, 0] rfl)
            rw [← hT, cServeL]; subst ev9; simp only [if_pos c_63]
          · refine lv_aload_n hx hb d_C_serve_66 rfl (lv_at hl 1 rfl) ?_
            refine lv_aload_n hx hb d_C_serve_67 rfl (lv_at hl 1 rfl) ?_
            refine wg hx hb hts i_C hown hW (0) (by omega) mk_root rfl 3 (by decide) (hts _ kf_C_29) rfl d_C_serve_68 ?_
            refine lv_iload_n hx hb d_C_serve_71 rfl (lv_at hl 2 rfl) ?_
            have hi10 : nn x < 8 := by omega
            refine wa hx hb hW 4 (by omega) mk_pages 4 rfl (nn x) e2 (by omega) (by decide) (if_pos hi10) d_C_serve_72 ?_
            refine lv_aload hx hb d_C_serve_73 (lv_at hl 0 rfl) ?_
            refine wcv hW hA (va_runV (As := [.ref (ad (28 + 5 * (nn x))), .ref (ad (68 + 3 * (nv vc (28 + 5 * (nn x) + 3 + 1) 0)))]) (rest := []) ⟨hx, hb, hml, hown, hts⟩ (c_C_grantRequest l (nn x) hi10 (nv vc (28 + 5 * (nn x) + 3 + 1) 0) hi6 hO9 _) (cv 2 hts kc_C_grantRequest ki_C_grantRequest ke_C_grantRequest kn_C km_C_84 kh_C_grantRequest rfl rfl ⟨by decide, by decide⟩) (preW hW rfl rfl (mw_get (by omega) mk_root)) rfl rfl hl.1 rfl (lv_room (Nat.le_of_ble_eq_true rfl)) d_C_serve_75 ⟨by decide, by decide⟩) (fun uu11 H locs hp11 hW => ?_)
            have hW : Wd D classes (tysA g) s A (wC g ad np (cGrant v9 (nn x) (nv vc (28 + 5 * (nn x) + 3 + 1) 0))) H locs := hW
            obtain ⟨v12, ev12⟩ : ∃ z : Vs, z = cGrant v9 (nn x) (nv vc (28 + 5 * (nn x) + 3 + 1) 0) := ⟨_, rfl⟩
            rw [← ev12] at hW
            have hO12 : Ok np v12 := by rw [ev12]; exact hO9.grant hi10 hi6
            refine lv_aload hx hb d_C_serve_78 (lv_at hl 0 rfl) ?_
            refine wg hx hb hts i_Proc hown hW (68 + 3 * (nv vc (28 + 5 * (nn x) + 3 + 1) 0)) (by omega) mk_proc rfl 0 (by decide) (hts _ kf_C_73) rfl d_C_serve_80 ?_
            obtain ⟨e13, b13⟩ := hO12.number hi6
            have hfin : mServe v x = (v12 (68 + 3 * (nv vc (28 + 5 * (nn x) + 3 + 1) 0)) 0, v12) := by rw [hM, ← hT, cServeL]; subst ev12 ev9; simp only [if_neg c_63]
            exact hret _ () _ _ _ _ _ _ (show v12 (68 + 3 * (nv vc (28 + 5 * (nn x) + 3 + 1) 0)) 0 = (mServe v x).1 by rw [hfin]) (by show Wd D classes (tysA g) s A (wC g ad np ((mServe v x).2)) _ _; rw [hfin]; exact hW) (by decide) (by decide) d_C_serve_83
    exact loop sz 0 v _ _ _ hO (by omega) (by rw [esz]) hW (lv_sub hl [3, 4, 2, 1, 0] rfl)
  · have c_6 : ¬ (inI (x) (8)) := bo_eq hp1 c_6
    refine lv_iconst (v := (-1)) hx hb d_C_serve_9 (by decide) ?_
    have hfin : mServe v x = (-1, v) := by simp only [mServe, if_neg c_6]
    exact hret _ () _ _ _ _ _ _ (show (-1 : Int32) = (mServe v x).1 by rw [hfin]) (by show Wd D classes (tysA g) s A (wC g ad np ((mServe v x).2)) _ _; rw [hfin]; exact hW) (by decide) (by decide) d_C_serve_10
abbrev rm_C_migrate : Room := { frames := 2, cells := 0, slots := 0, locals := 42 }
set_option maxHeartbeats 4000000 in
set_option maxRecDepth 100000 in
theorem c_C_migrate (l : Launch) {D : va_G} {g : Nat → ClassId} {ad : Nat → Nat} {np : Nat} {v : Vs} (x : Int32) (y : Int32) (hO : Ok np v) : MtI l y_C_migrate ws_C_migrate rm_C_migrate D classes (tysA g) [.ref (ad (0)), .int (x), .int (y)] (wC g ad np (v)) (fun (rr : Int32) (_ : Unit) => rr = (mMigrate v x y).1) (fun _ => wC g ad np ((mMigrate v x y).2)) 0 0 := by
  refine mt_i (ty := .int) (fun _ _ _ => rfl) (by decide +kernel) rfl (Nat.le_of_ble_eq_true rfl) (fun p e s m args below meth c Q A C hA hW hret ls hl => ?_)
  obtain ⟨hx, hb, hr, hml, hown, hts0, hlocks⟩ := C
  have hts : ∀ w ∈ bigw, w.before args s = true := fun w h => hts0 w (List.mem_cons_of_mem _ h)
  have hown : s.vm.findClass R_C = some m.cls := hown
  have hnp := hO.le
  have hl : lv_has ls 5 [(0, .ref (ad (0))), (1, .int (x)), (2, .int (y))] := hl
  refine lv_iload_n hx hb d_C_migrate_0 rfl (lv_at hl 1 rfl) ?_
  refine lv_aload_n hx hb d_C_migrate_1 rfl (lv_at hl 0 rfl) ?_
  refine wg hx hb hts i_C hown hW (0) (by omega) mk_root rfl 5 (by decide) (hts _ kf_C_55) rfl d_C_migrate_2 ?_
  obtain ⟨e1, b1⟩ := hO.made
  refine wci hW hA (va_runS (As := [.int (x), .int (v 0 5)]) (rest := []) ⟨hx, hb, hml, hown, hts⟩ (c_C_isIn l _ (x) (v 0 5) _) (cs 2 hts kc_C_isIn ks_C_isIn kn_C km_C_40 kh_C_isIn rfl rfl ⟨by decide, by decide⟩) (preWS hW) rfl rfl hl.1 rfl (lv_room (Nat.le_of_ble_eq_true rfl)) d_C_migrate_5 ⟨by decide, by decide⟩) (fun rr2 uu2 H locs hp2 hW => ?_)
  have hW : Wd D classes (tysA g) s A (wC g ad np (v)) H locs := hW
  have hp2 : rr2 = if inI (x) (v 0 5) then 1 else 0 := hp2
  refine lv_if_eq (tgt := 19) hx hb d_C_migrate_8 (by decide) (fun c_8 => ?_) (fun c_8 => ?_)
  · have c_8 : ¬ (inI (x) (v 0 5)) := bo_eq hp2 c_8
    refine lv_iconst (v := (-1)) hx hb d_C_migrate_19 (by decide) ?_
    have hfin : mMigrate v x y = ((-1), v) := by
      skip; simp only [mMigrate, cMove, if_neg c_8]
    refine hret _ () _ _ _ _ _ _ ?_ (by show Wd D classes (tysA g) s A (wC g ad np ((mMigrate v x y).2)) _ _; rw [hfin]; exact hW) (by decide) (by decide) d_C_migrate_20
    show (-1) = (mMigrate v x y).1
    rw [hfin]
  · have c_8 : inI (x) (v 0 5) := bo_ne hp2 c_8
    obtain ⟨e3, b3⟩ := inI_nn (N := np) e1 (by omega) c_8
    refine lv_iload_n hx hb d_C_migrate_11 rfl (lv_at hl 2 rfl) ?_
    refine lv_iconst (v := 3) hx hb d_C_migrate_12 (by decide) ?_
    refine wci hW hA (va_runS (As := [.int (y), .int (3)]) (rest := []) ⟨hx, hb, hml, hown, hts⟩ (c_C_isIn l _ (y) (3) _) (cs 2 hts kc_C_isIn ks_C_isIn kn_C km_C_40 kh_C_isIn rfl rfl ⟨by decide, by decide⟩) (preWS hW) rfl rfl hl.1 rfl (lv_room (Nat.le_of_ble_eq_true rfl)) d_C_migrate_13 ⟨by decide, by decide⟩) (fun rr4 uu4 H locs hp4 hW => ?_)
    have hW : Wd D classes (tysA g) s A (wC g ad np (v)) H locs := hW
    have hp4 : rr4 = if inI (y) (3) then 1 else 0 := hp4
    refine lv_if_ne (tgt := 21) hx hb d_C_migrate_16 (by decide) (fun c_16 => ?_) (fun c_16 => ?_)
    · have c_16 : inI (y) (3) := bo_ne hp4 c_16
      obtain ⟨e5, b5⟩ := inI_nn (N := 3) rfl (by omega) c_16
      refine lv_aload_n hx hb d_C_migrate_21 rfl (lv_at hl 0 rfl) ?_
      refine wg hx hb hts i_C hown hW (0) (by omega) mk_root rfl 1 (by decide) (hts _ kf_C_17) rfl d_C_migrate_22 ?_
      refine lv_iload_n hx hb d_C_migrate_25 rfl (lv_at hl 1 rfl) ?_
      have hi6 : nn x < np := by omega
      refine wa hx hb hW 2 (by omega) mk_processes 2 rfl (nn x) e3 (by omega) (by decide) (if_pos hi6) d_C_migrate_26 ?_
      refine lv_astore_n (lv' := [(3, .ref (ad (68 + 3 * (nn x)))), (0, .ref (ad (0))), (1, .int (x)), (2, .int (y))]) hx hb d_C_migrate_27 rfl hl (by decide) rfl (fun ls hl => ?_)
      refine lv_aload_n hx hb d_C_migrate_28 rfl (lv_at hl 0 rfl) ?_
      refine wg hx hb hts i_Proc hown hW (68 + 3 * (nn x)) (by omega) mk_proc rfl 5 (by decide) (hts _ kf_C_70) rfl d_C_migrate_29 ?_
      refine lv_iconst (v := 4) hx hb d_C_migrate_32 (by decide) ?_
      refine lv_icmp_eq (tgt := 44) hx hb d_C_migrate_33 (by decide) (fun c_33 => ?_) (fun c_33 => ?_)
      · refine lv_iconst (v := (-1)) hx hb d_C_migrate_44 (by decide) ?_
        have hfin : mMigrate v x y = ((-1), v) := by
          skip; simp only [mMigrate, cMove, if_pos c_8, if_pos c_16, if_pos c_33]
        refine hret _ () _ _ _ _ _ _ ?_ (by show Wd D classes (tysA g) s A (wC g ad np ((mMigrate v x y).2)) _ _; rw [hfin]; exact hW) (by decide) (by decide) d_C_migrate_45
        show (-1) = (mMigrate v x y).1
        rw [hfin]
      · refine lv_aload_n hx hb d_C_migrate_36 rfl (lv_at hl 0 rfl) ?_
        refine wg hx hb hts i_Proc hown hW (68 + 3 * (nn x)) (by omega) mk_proc rfl 4 (by decide) (hts _ kf_C_88) rfl d_C_migrate_37 ?_
        obtain ⟨e7, b7⟩ := hO.place hi6
        refine lv_iload_n hx hb d_C_migrate_40 rfl (lv_at hl 3 rfl) ?_
        refine lv_icmp_ne (tgt := 46) hx hb d_C_migrate_41 (by decide) (fun c_41 => ?_) (fun c_41 => ?_)
        · have nc_41 : ¬ nv v (68 + 3 * (nn x)) 4 = nn y := ni_ne e7 e5 (by omega) (by omega) c_41
          refine lv_aload_n hx hb d_C_migrate_46 rfl (lv_at hl 0 rfl) ?_
          refine wg hx hb hts i_Proc hown hW (68 + 3 * (nn x)) (by omega) mk_proc rfl 4 (by decide) (hts _ kf_C_88) rfl d_C_migrate_47 ?_
          obtain ⟨e8, b8⟩ := hO.place hi6
          refine lv_istore (lv' := [(4, .int (v (68 + 3 * (nn x)) 4)), (3, .ref (ad (68 + 3 * (nn x)))), (0, .ref (ad (0))), (1, .int (x)), (2, .int (y))]) hx hb d_C_migrate_50 hl (by decide) rfl (fun ls hl => ?_)
          refine lv_aload_n hx hb d_C_migrate_52 rfl (lv_at hl 2 rfl) ?_
          refine wg hx hb hts i_C hown hW (0) (by omega) mk_root rfl 2 (by decide) (hts _ kf_C_23) rfl d_C_migrate_53 ?_
          refine lv_iload hx hb d_C_migrate_56 (lv_at hl 0 rfl) ?_
          have hk9 : isLn (22 + 2 * (nv v (68 + 3 * (nn x)) 4)) := ln_node (by omega)
          refine wa hx hb hW 3 (by omega) mk_lines 3 rfl (nv v (68 + 3 * (nn x)) 4) e8 (by omega) (by decide) (if_pos (by omega)) d_C_migrate_58 ?_
          refine lv_iload_n hx hb d_C_migrate_59 rfl (lv_at hl 3 rfl) ?_
          refine wcv hW hA (va_runV (As := [.int (x)]) (rest := []) ⟨hx, hb, hml, hown, hts⟩ (c_Line_remove l (22 + 2 * (nv v (68 + 3 * (nn x)) 4)) hk9 (x) hO (by omega) _) (cv 1 hts kc_Line_remove ki_Line_remove ke_Line_remove kn_Line km_C_80 kh_Line_remove rfl rfl ⟨by decide, by decide⟩) (preW hW rfl rfl (mw_get (by have := ln_lt hk9; omega) (mk_line hk9))) rfl rfl hl.1 rfl (lv_room (Nat.le_of_ble_eq_true rfl)) d_C_migrate_60 ⟨by decide, by decide⟩) (fun uu10 H locs hp10 hW => ?_)
          have hW : Wd D classes (tysA g) s A (wC g ad np (cRem v (22 + 2 * (nv v (68 + 3 * (nn x)) 4)) (x))) H locs := hW
          obtain ⟨v11, ev11⟩ : ∃ z : Vs, z = cRem v (22 + 2 * (nv v (68 + 3 * (nn x)) 4)) (x) := ⟨_, rfl⟩
          rw [← ev11] at hW
          have hO11 : Ok np v11 := by rw [ev11]; exact hO.rem hk9 (by omega)
          refine lv_aload_n hx hb d_C_migrate_63 rfl (lv_at hl 1 rfl) ?_
          refine lv_iload_n hx hb d_C_migrate_64 rfl (lv_at hl 4 rfl) ?_
          refine wp hx hb hts i_Proc t_Proc t_Proc_ok n_Proc hown hW (68 + 3 * (nn x)) (by omega) mk_proc rfl 4 (by decide) (hts _ kf_C_88) rfl (by decide +kernel) (x := y) (Nat.le_of_ble_eq_true rfl) (mk_proc.trans rfl) d_C_migrate_65 (fun H locs hW => ?_)
          obtain ⟨v12, ev12⟩ : ∃ z : Vs, z = u2 v11 (68 + 3 * (nn x)) 4 (y) := ⟨_, rfl⟩
          rw [← ev12] at hW
          have hO12 : Ok np v12 := by rw [ev12]; exact hO11.set (by omega) (okS_place ⟨nn y, by omega, e5⟩)
          refine lv_aload_n hx hb d_C_migrate_68 rfl (lv_at hl 1 rfl) ?_
          refine wg hx hb hts i_Proc hown hW (68 + 3 * (nn x)) (by omega) mk_proc rfl 3 (by decide) (hts _ kf_C_91) rfl d_C_migrate_69 ?_
          refine lv_iload hx hb d_C_migrate_72 (lv_at hl 0 rfl) ?_
          refine lv_iload_n hx hb d_C_migrate_74 rfl (lv_at hl 4 rfl) ?_
          refine wis hx hb hW (68 + 3 * (nn x) + 2) (by omega) mk_hints 0 rfl (nv v (68 + 3 * (nn x)) 4) e8 (by omega) (by decide) (x := y) mk_hints d_C_migrate_75 (fun H locs hW => ?_)
          obtain ⟨v13, ev13⟩ : ∃ z : Vs, z = u2 v12 (68 + 3 * (nn x) + 2) (nv v (68 + 3 * (nn x)) 4) (y) := ⟨_, rfl⟩
          rw [← ev13] at hW
          have hO13 : Ok np v13 := by rw [ev13]; exact hO12.set (by omega) (okS_hint ⟨nn y, by omega, e5⟩)
          refine lv_aload_n hx hb d_C_migrate_76 rfl (lv_at hl 1 rfl) ?_
          refine wg hx hb hts i_Proc hown hW (68 + 3 * (nn x)) (by omega) mk_proc rfl 3 (by decide) (hts _ kf_C_91) rfl d_C_migrate_77 ?_
          refine lv_iload_n hx hb d_C_migrate_80 rfl (lv_at hl 4 rfl) ?_
          refine lv_iload_n hx hb d_C_migrate_81 rfl (lv_at hl 4 rfl) ?_
          refine wis hx hb hW (68 + 3 * (nn x) + 2) (by omega) mk_hints 0 rfl (nn y) e5 (by omega) (by decide) (x := y) mk_hints d_C_migrate_82 (fun H locs hW => ?_)
          obtain ⟨v14, ev14⟩ : ∃ z : Vs, z = u2 v13 (68 + 3 * (nn x) + 2) (nn y) (y) := ⟨_, rfl⟩
          rw [← ev14] at hW
          have hO14 : Ok np v14 := by rw [ev14]; exact hO13.set (by omega) (okS_hint ⟨nn y, by omega, e5⟩)
          refine lv_aload_n hx hb d_C_migrate_83 rfl (lv_at hl 1 rfl) ?_
          refine wg hx hb hts i_Proc hown hW (68 + 3 * (nn x)) (by omega) mk_proc rfl 5 (by decide) (hts _ kf_C_70) rfl d_C_migrate_84 ?_
          refine lv_iconst (v := 1) hx hb d_C_migrate_87 (by decide) ?_
          refine lv_icmp_ne (tgt := 96) hx hb d_C_migrate_88 (by decide) (fun c_88 => ?_) (fun c_88 => ?_)
          · refine lv_iload hx hb d_C_migrate_96 (lv_at hl 0 rfl) ?_
            have hfin : mMigrate v x y = (v (68 + 3 * (nn x)) 4, v14) := by
              subst ev14 ev13 ev12 ev11; simp only [mMigrate, cMove, if_pos c_8, if_pos c_16, if_neg c_33, if_neg c_41, if_neg c_88]
            refine hret _ () _ _ _ _ _ _ ?_ (by show Wd D classes (tysA g) s A (wC g ad np ((mMigrate v x y).2)) _ _; rw [hfin]; exact hW) (by decide) (by decide) d_C_migrate_98
            show v (68 + 3 * (nn x)) 4 = (mMigrate v x y).1
            rw [hfin]
          · refine lv_aload_n hx hb d_C_migrate_91 rfl (lv_at hl 2 rfl) ?_
            refine lv_aload_n hx hb d_C_migrate_92 rfl (lv_at hl 1 rfl) ?_
            refine wcv hW hA (va_runV (As := [.ref (ad (68 + 3 * (nn x)))]) (rest := []) ⟨hx, hb, hml, hown, hts⟩ (c_C_joinLine l (nn x) hi6 hO14 _) (cv 1 hts kc_C_joinLine ki_C_joinLine ke_C_joinLine kn_C km_C_94 kh_C_joinLine rfl rfl ⟨by decide, by decide⟩) (preW hW rfl rfl (mw_get (by omega) mk_root)) rfl rfl hl.1 rfl (lv_room (Nat.le_of_ble_eq_true rfl)) d_C_migrate_93 ⟨by decide, by decide⟩) (fun uu15 H locs hp15 hW => ?_)
            have hW : Wd D classes (tysA g) s A (wC g ad np (cJoin v14 (nn x))) H locs := hW
            obtain ⟨v16, ev16⟩ : ∃ z : Vs, z = cJoin v14 (nn x) := ⟨_, rfl⟩
            rw [← ev16] at hW
            have hO16 : Ok np v16 := by rw [ev16]; exact hO14.join hi6
            refine lv_iload hx hb d_C_migrate_96 (lv_at hl 0 rfl) ?_
            have hfin : mMigrate v x y = (v (68 + 3 * (nn x)) 4, v16) := by
              subst ev16 ev14 ev13 ev12 ev11; simp only [mMigrate, cMove, if_pos c_8, if_pos c_16, if_neg c_33, if_neg c_41, if_pos c_88]
            refine hret _ () _ _ _ _ _ _ ?_ (by show Wd D classes (tysA g) s A (wC g ad np ((mMigrate v x y).2)) _ _; rw [hfin]; exact hW) (by decide) (by decide) d_C_migrate_98
            show v (68 + 3 * (nn x)) 4 = (mMigrate v x y).1
            rw [hfin]
        · have nc_41 : nv v (68 + 3 * (nn x)) 4 = nn y := ni_eq e7 e5 (by omega) (by omega) c_41
          refine lv_iconst (v := (-1)) hx hb d_C_migrate_44 (by decide) ?_
          have hfin : mMigrate v x y = ((-1), v) := by
            skip; simp only [mMigrate, cMove, if_pos c_8, if_pos c_16, if_neg c_33, if_pos c_41]
          refine hret _ () _ _ _ _ _ _ ?_ (by show Wd D classes (tysA g) s A (wC g ad np ((mMigrate v x y).2)) _ _; rw [hfin]; exact hW) (by decide) (by decide) d_C_migrate_45
          show (-1) = (mMigrate v x y).1
          rw [hfin]
    · have c_16 : ¬ (inI (y) (3)) := bo_eq hp4 c_16
      refine lv_iconst (v := (-1)) hx hb d_C_migrate_19 (by decide) ?_
      have hfin : mMigrate v x y = ((-1), v) := by
        skip; simp only [mMigrate, cMove, if_pos c_8, if_neg c_16]
      refine hret _ () _ _ _ _ _ _ ?_ (by show Wd D classes (tysA g) s A (wC g ad np ((mMigrate v x y).2)) _ _; rw [hfin]; exact hW) (by decide) (by decide) d_C_migrate_20
      show (-1) = (mMigrate v x y).1
      rw [hfin]
abbrev rm_C_find : Room := { frames := 1, cells := 0, slots := 0, locals := 21 }
set_option maxHeartbeats 4000000 in
set_option maxRecDepth 100000 in
theorem c_C_find (l : Launch) {D : va_G} {g : Nat → ClassId} {ad : Nat → Nat} {np : Nat} {v : Vs} (x : Int32) (y : Int32) (hO : Ok np v) : MtI l y_C_find ws_C_find rm_C_find D classes (tysA g) [.ref (ad (0)), .int (x), .int (y)] (wC g ad np (v)) (fun (rr : Int32) (_ : Unit) => rr = (mFind v x y).1) (fun _ => wC g ad np ((mFind v x y).2)) 0 0 := by
  refine mt_i (ty := .int) (fun _ _ _ => rfl) (by decide +kernel) rfl (Nat.le_of_ble_eq_true rfl) (fun p e s m args below meth c Q A C hA hW hret ls hl => ?_)
  obtain ⟨hx, hb, hr, hml, hown, hts0, hlocks⟩ := C
  have hts : ∀ w ∈ bigw, w.before args s = true := fun w h => hts0 w (List.mem_cons_of_mem _ h)
  have hown : s.vm.findClass R_C = some m.cls := hown
  have hnp := hO.le
  have hl : lv_has ls 7 [(0, .ref (ad (0))), (1, .int (x)), (2, .int (y))] := hl
  refine lv_iload_n hx hb d_C_find_0 rfl (lv_at hl 1 rfl) ?_
  refine lv_iconst (v := 3) hx hb d_C_find_1 (by decide) ?_
  refine wci hW hA (va_runS (As := [.int (x), .int (3)]) (rest := []) ⟨hx, hb, hml, hown, hts⟩ (c_C_isIn l _ (x) (3) _) (cs 2 hts kc_C_isIn ks_C_isIn kn_C km_C_40 kh_C_isIn rfl rfl ⟨by decide, by decide⟩) (preWS hW) rfl rfl hl.1 rfl (lv_room (Nat.le_of_ble_eq_true rfl)) d_C_find_2 ⟨by decide, by decide⟩) (fun rr1 uu1 H locs hp1 hW => ?_)
  have hW : Wd D classes (tysA g) s A (wC g ad np (v)) H locs := hW
  have hp1 : rr1 = if inI (x) (3) then 1 else 0 := hp1
  refine lv_if_eq (tgt := 19) hx hb d_C_find_5 (by decide) (fun c_5 => ?_) (fun c_5 => ?_)
  · have c_5 : ¬ (inI (x) (3)) := bo_eq hp1 c_5
    refine lv_iconst (v := (-1)) hx hb d_C_find_19 (by decide) ?_
    have hfin : mFind v x y = ((-1), v) := by
      skip; simp only [mFind, if_neg c_5]
    refine hret _ () _ _ _ _ _ _ ?_ (by show Wd D classes (tysA g) s A (wC g ad np ((mFind v x y).2)) _ _; rw [hfin]; exact hW) (by decide) (by decide) d_C_find_20
    show (-1) = (mFind v x y).1
    rw [hfin]
  · have c_5 : inI (x) (3) := bo_ne hp1 c_5
    obtain ⟨e2, b2⟩ := inI_nn (N := 3) rfl (by omega) c_5
    refine lv_iload_n hx hb d_C_find_8 rfl (lv_at hl 2 rfl) ?_
    refine lv_aload_n hx hb d_C_find_9 rfl (lv_at hl 0 rfl) ?_
    refine wg hx hb hts i_C hown hW (0) (by omega) mk_root rfl 5 (by decide) (hts _ kf_C_55) rfl d_C_find_10 ?_
    obtain ⟨e3, b3⟩ := hO.made
    refine wci hW hA (va_runS (As := [.int (y), .int (v 0 5)]) (rest := []) ⟨hx, hb, hml, hown, hts⟩ (c_C_isIn l _ (y) (v 0 5) _) (cs 2 hts kc_C_isIn ks_C_isIn kn_C km_C_40 kh_C_isIn rfl rfl ⟨by decide, by decide⟩) (preWS hW) rfl rfl hl.1 rfl (lv_room (Nat.le_of_ble_eq_true rfl)) d_C_find_13 ⟨by decide, by decide⟩) (fun rr4 uu4 H locs hp4 hW => ?_)
    have hW : Wd D classes (tysA g) s A (wC g ad np (v)) H locs := hW
    have hp4 : rr4 = if inI (y) (v 0 5) then 1 else 0 := hp4
    refine lv_if_ne (tgt := 21) hx hb d_C_find_16 (by decide) (fun c_16 => ?_) (fun c_16 => ?_)
    · have c_16 : inI (y) (v 0 5) := bo_ne hp4 c_16
      obtain ⟨e5, b5⟩ := inI_nn (N := np) e3 (by omega) c_16
      refine lv_aload_n hx hb d_C_find_21 rfl (lv_at hl 0 rfl) ?_
      refine wg hx hb hts i_C hown hW (0) (by omega) mk_root rfl 1 (by decide) (hts _ kf_C_17) rfl d_C_find_22 ?_
      refine lv_iload_n hx hb d_C_find_25 rfl (lv_at hl 2 rfl) ?_
      have hi6 : nn y < np := by omega
      refine wa hx hb hW 2 (by omega) mk_processes 2 rfl (nn y) e5 (by omega) (by decide) (if_pos hi6) d_C_find_26 ?_
      refine lv_astore_n (lv' := [(3, .ref (ad (68 + 3 * (nn y)))), (0, .ref (ad (0))), (1, .int (x)), (2, .int (y))]) hx hb d_C_find_27 rfl hl (by decide) rfl (fun ls hl => ?_)
      refine lv_iload_n hx hb d_C_find_28 rfl (lv_at hl 2 rfl) ?_
      refine lv_istore (lv' := [(4, .int (x)), (3, .ref (ad (68 + 3 * (nn y)))), (0, .ref (ad (0))), (1, .int (x)), (2, .int (y))]) hx hb d_C_find_29 hl (by decide) rfl (fun ls hl => ?_)
      refine lv_iconst (v := 0) hx hb d_C_find_31 (by decide) ?_
      refine lv_istore (lv' := [(5, .int (0)), (4, .int (x)), (3, .ref (ad (68 + 3 * (nn y)))), (0, .ref (ad (0))), (1, .int (x)), (2, .int (y))]) hx hb d_C_find_32 hl (by decide) rfl (fun ls hl => ?_)
      have hqy : nn y < np := by omega
      have hM : mFind v x y = cFindL (nn y) 3 0 (nn x) v := by simp only [mFind, if_pos c_5, if_pos c_16]
      have hxx := e2
      have hl0 : lv_has ls 7 [(0, .ref (ad (0))), (3, .ref (ad (68 + 3 * (nn y)))), (4, .int (x)), (5, .int (0))] := lv_sub hl [3, 2, 1, 0] rfl
      have hl1 : lv_has ls 7 [(0, .ref (ad (0))), (3, .ref (ad (68 + 3 * (nn y)))), (4, .int (nI (nn x))), (5, .int (nI (0)))] := by rw [← hxx]; exact hl0
      have loop : ∀ (r : Nat) (f : Nat) (t : Nat) (vc : Vs) (H : Heap) (locs : List Loc) (ls : Array Slot), Ok np vc → 3 = f + r → t < 3 → cFindL (nn y) r f t vc = cFindL (nn y) 3 0 (nn x) v → Wd D classes (tysA g) s A (wC g ad np (vc)) H locs → lv_has ls 7 [(0, .ref (ad (0))), (3, .ref (ad (68 + 3 * (nn y)))), (4, .int (nI (t))), (5, .int (nI (f)))] → W p l e rm_C_find s m args below meth c H locs 0 0 Q (F0 m 34 ls []) := by
        intro r
        induction r with
        | zero =>
          intro f t vc H locs ls hOc h3 ht3 hT hW hl
          refine lv_iload hx hb d_C_find_34 (lv_at hl 2 rfl) ?_
          refine lv_aload_n hx hb d_C_find_36 rfl (lv_at hl 1 rfl) ?_
          refine wg hx hb hts i_Proc hown hW (68 + 3 * (nn y)) (by omega) mk_proc rfl 4 (by decide) (hts _ kf_C_88) rfl d_C_find_37 ?_
          obtain ⟨e7, b7⟩ := hOc.place hqy
          refine lv_icmp_eq (tgt := 79) hx hb d_C_find_40 (by decide) (fun c_40 => ?_) (fun c_40 => ?_)
          · have nc_40 : t = nv vc (68 + 3 * (nn y)) 4 := ni_eq rfl e7 (by omega) (by omega) c_40
            refine lv_iload hx hb d_C_find_79 (lv_at hl 3 rfl) ?_
            have hfin : mFind v x y = (nI f, vc) := by rw [hM, ← hT]; rfl
            exact hret _ () _ _ _ _ _ _ (show nI f = (mFind v x y).1 by rw [hfin]) (by show Wd D classes (tysA g) s A (wC g ad np ((mFind v x y).2)) _ _; rw [hfin]; exact hW) (by decide) (by decide) d_C_find_81
          · have nc_40 : ¬ t = nv vc (68 + 3 * (nn y)) 4 := ni_ne rfl e7 (by omega) (by omega) c_40
            refine lv_iload hx hb d_C_find_43 (lv_at hl 3 rfl) ?_
            refine lv_iconst (v := 3) hx hb d_C_find_45 (by decide) ?_
            refine lv_icmp_ge (tgt := 79) hx hb d_C_find_46 (by decide) (fun c_46 => ?_) (fun c_46 => ?_)
            · have nc_46 : 3 ≤ f := ni_le rfl rfl (by omega) (by omega) c_46
              refine lv_iload hx hb d_C_find_79 (lv_at hl 3 rfl) ?_
              have hfin : mFind v x y = (nI f, vc) := by rw [hM, ← hT]; rfl
              exact hret _ () _ _ _ _ _ _ (show nI f = (mFind v x y).1 by rw [hfin]) (by show Wd D classes (tysA g) s A (wC g ad np ((mFind v x y).2)) _ _; rw [hfin]; exact hW) (by decide) (by decide) d_C_find_81
            · have nc_46 : f < 3 := ni_nle rfl rfl (by omega) (by omega) c_46
              exfalso; omega
        | succ r ih =>
          intro f t vc H locs ls hOc h3 ht3 hT hW hl
          refine lv_iload hx hb d_C_find_34 (lv_at hl 2 rfl) ?_
          refine lv_aload_n hx hb d_C_find_36 rfl (lv_at hl 1 rfl) ?_
          refine wg hx hb hts i_Proc hown hW (68 + 3 * (nn y)) (by omega) mk_proc rfl 4 (by decide) (hts _ kf_C_88) rfl d_C_find_37 ?_
          obtain ⟨e8, b8⟩ := hOc.place hqy
          refine lv_icmp_eq (tgt := 79) hx hb d_C_find_40 (by decide) (fun c_40 => ?_) (fun c_40 => ?_)
          · have nc_40 : t = nv vc (68 + 3 * (nn y)) 4 := ni_eq rfl e8 (by omega) (by omega) c_40
            refine lv_iload hx hb d_C_find_79 (lv_at hl 3 rfl) ?_
            have hfin : mFind v x y = (nI f, vc) := by rw [hM, ← hT]; rw [cFindL, if_pos c_40]
            exact hret _ () _ _ _ _ _ _ (show nI f = (mFind v x y).1 by rw [hfin]) (by show Wd D classes (tysA g) s A (wC g ad np ((mFind v x y).2)) _ _; rw [hfin]; exact hW) (by decide) (by decide) d_C_find_81
          · have nc_40 : ¬ t = nv vc (68 + 3 * (nn y)) 4 := ni_ne rfl e8 (by omega) (by omega) c_40
            refine lv_iload hx hb d_C_find_43 (lv_at hl 3 rfl) ?_
            refine lv_iconst (v := 3) hx hb d_C_find_45 (by decide) ?_
            refine lv_icmp_ge (tgt := 79) hx hb d_C_find_46 (by decide) (fun c_46 => ?_) (fun c_46 => ?_)
            · have nc_46 : 3 ≤ f := ni_le rfl rfl (by omega) (by omega) c_46
              refine lv_iload hx hb d_C_find_79 (lv_at hl 3 rfl) ?_
              exfalso; omega
            · have nc_46 : f < 3 := ni_nle rfl rfl (by omega) (by omega) c_46
              refine lv_aload_n hx hb d_C_find_49 rfl (lv_at hl 1 rfl) ?_
              refine wg hx hb hts i_Proc hown hW (68 + 3 * (nn y)) (by omega) mk_proc rfl 3 (by decide) (hts _ kf_C_91) rfl d_C_find_50 ?_
              refine lv_iload hx hb d_C_find_53 (lv_at hl 2 rfl) ?_
              refine wi hx hb hW (68 + 3 * (nn y) + 2) (by omega) mk_hints 0 rfl (t) rfl (by omega) (by decide) d_C_find_55 ?_
              obtain ⟨e9, b9⟩ := hOc.hint hqy (t)
              refine lv_istore (lv' := [(6, .int (vc (68 + 3 * (nn y) + 2) (t))), (0, .ref (ad (0))), (3, .ref (ad (68 + 3 * (nn y)))), (4, .int (nI (t))), (5, .int (nI (f)))]) hx hb d_C_find_56 hl (by decide) rfl (fun ls hl => ?_)
              refine lv_aload_n hx hb d_C_find_58 rfl (lv_at hl 2 rfl) ?_
              refine wg hx hb hts i_Proc hown hW (68 + 3 * (nn y)) (by omega) mk_proc rfl 3 (by decide) (hts _ kf_C_91) rfl d_C_find_59 ?_
              refine lv_iload hx hb d_C_find_62 (lv_at hl 3 rfl) ?_
              refine lv_aload_n hx hb d_C_find_64 rfl (lv_at hl 2 rfl) ?_
              refine wg hx hb hts i_Proc hown hW (68 + 3 * (nn y)) (by omega) mk_proc rfl 4 (by decide) (hts _ kf_C_88) rfl d_C_find_65 ?_
              obtain ⟨e10, b10⟩ := hOc.place hqy
              refine wis hx hb hW (68 + 3 * (nn y) + 2) (by omega) mk_hints 0 rfl (t) rfl (by omega) (by decide) (x := vc (68 + 3 * (nn y)) 4) mk_hints d_C_find_68 (fun H locs hW => ?_)
              obtain ⟨v11, ev11⟩ : ∃ z : Vs, z = u2 vc (68 + 3 * (nn y) + 2) (t) (vc (68 + 3 * (nn y)) 4) := ⟨_, rfl⟩
              rw [← ev11] at hW
              have hO11 : Ok np v11 := by rw [ev11]; exact hOc.set (by omega) (okS_hint ⟨nv vc (68 + 3 * (nn y)) 4, by omega, e10⟩)
              refine lv_iload hx hb d_C_find_69 (lv_at hl 0 rfl) ?_
              refine lv_istore (lv' := [(4, .int (vc (68 + 3 * (nn y) + 2) (t))), (6, .int (vc (68 + 3 * (nn y) + 2) (t))), (0, .ref (ad (0))), (3, .ref (ad (68 + 3 * (nn y)))), (5, .int (nI (f)))]) hx hb d_C_find_71 hl (by decide) rfl (fun ls hl => ?_)
              refine lv_iinc (v := nI (f + 1)) (lv' := [(5, .int (nI (f + 1))), (4, .int (vc (68 + 3 * (nn y) + 2) (t))), (6, .int (vc (68 + 3 * (nn y) + 2) (t))), (0, .ref (ad (0))), (3, .ref (ad (68 + 3 * (nn y))))]) hx hb d_C_find_73 hl (k := 4) rfl (nI_1 _) (by decide) rfl (fun ls hl => ?_)
              refine lv_goto (tgt := 34) hx hb d_C_find_76 (by decide) ?_
              have hl : lv_has ls 7 [(0, .ref (ad (0))), (3, .ref (ad (68 + 3 * (nn y)))), (4, .int (vc (68 + 3 * (nn y) + 2) (t))), (5, .int (nI (f + 1)))] := lv_sub hl [3, 4, 1, 0] rfl
              rw [e9] at hl
              refine ih (f + 1) (nv vc (68 + 3 * (nn y) + 2) (t)) v11 _ _ _ hO11 (by omega) (by omega) ?_ hW hl
              rw [← hT, cFindL, if_neg c_40]; subst ev11; rfl
      exact loop 3 0 (nn x) v _ _ _ hO rfl (by omega) rfl hW hl1
    · have c_16 : ¬ (inI (y) (v 0 5)) := bo_eq hp4 c_16
      refine lv_iconst (v := (-1)) hx hb d_C_find_19 (by decide) ?_
      have hfin : mFind v x y = ((-1), v) := by
        skip; simp only [mFind, if_pos c_5, if_neg c_16]
      refine hret _ () _ _ _ _ _ _ ?_ (by show Wd D classes (tysA g) s A (wC g ad np ((mFind v x y).2)) _ _; rw [hfin]; exact hW) (by decide) (by decide) d_C_find_20
      show (-1) = (mFind v x y).1
      rw [hfin]
abbrev rm_C_reg : Room := { frames := 1, cells := 0, slots := 0, locals := 21 }
set_option maxHeartbeats 4000000 in
set_option maxRecDepth 100000 in
theorem c_C_reg (l : Launch) {D : va_G} {g : Nat → ClassId} {ad : Nat → Nat} {np : Nat} {v : Vs} (x : Int32) (y : Int32) (hO : Ok np v) : MtL l y_C_reg ws_C_reg rm_C_reg D classes (tysA g) [.ref (ad (0)), .int (x), .int (y)] (wC g ad np (v)) (fun (rr : Int64) (_ : Unit) => rr = rReg v x y) (fun _ => wC g ad np (v)) 0 0 := by
  refine mt_l (by decide +kernel) rfl (Nat.le_of_ble_eq_true rfl) (fun p e s m args below meth c Q A C hA hW hret ls hl => ?_)
  obtain ⟨hx, hb, hr, hml, hown, hts0, hlocks⟩ := C
  have hts : ∀ w ∈ bigw, w.before args s = true := fun w h => hts0 w (List.mem_cons_of_mem _ h)
  have hown : s.vm.findClass R_C = some m.cls := hown
  have hnp := hO.le
  have hl : lv_has ls 3 [(0, .ref (ad (0))), (1, .int (x)), (2, .int (y))] := hl
  refine lv_iload_n hx hb d_C_reg_0 rfl (lv_at hl 1 rfl) ?_
  refine lv_aload_n hx hb d_C_reg_1 rfl (lv_at hl 0 rfl) ?_
  refine wg hx hb hts i_C hown hW (0) (by omega) mk_root rfl 5 (by decide) (hts _ kf_C_55) rfl d_C_reg_2 ?_
  obtain ⟨e1, b1⟩ := hO.made
  refine wci hW hA (va_runS (As := [.int (x), .int (v 0 5)]) (rest := []) ⟨hx, hb, hml, hown, hts⟩ (c_C_isIn l _ (x) (v 0 5) _) (cs 2 hts kc_C_isIn ks_C_isIn kn_C km_C_40 kh_C_isIn rfl rfl ⟨by decide, by decide⟩) (preWS hW) rfl rfl hl.1 rfl (lv_room (Nat.le_of_ble_eq_true rfl)) d_C_reg_5 ⟨by decide, by decide⟩) (fun rr2 uu2 H locs hp2 hW => ?_)
  have hW : Wd D classes (tysA g) s A (wC g ad np (v)) H locs := hW
  have hp2 : rr2 = if inI (x) (v 0 5) then 1 else 0 := hp2
  refine lv_if_eq (tgt := 19) hx hb d_C_reg_8 (by decide) (fun c_8 => ?_) (fun c_8 => ?_)
  · have c_8 : ¬ (inI (x) (v 0 5)) := bo_eq hp2 c_8
    refine lv_ldc2 (v := (10000000000 : Int64)) hx hb hown (hts _ kg_C_97) d_C_reg_19 ?_
    refine hret _ () _ _ _ _ _ _ ?_ hW (by decide) (by decide) d_C_reg_22
    show (10000000000 : Int64) = rReg v x y
    simp only [rReg, if_neg c_8]
  · have c_8 : inI (x) (v 0 5) := bo_ne hp2 c_8
    obtain ⟨e3, b3⟩ := inI_nn (N := np) e1 (by omega) c_8
    refine lv_iload_n hx hb d_C_reg_11 rfl (lv_at hl 2 rfl) ?_
    refine lv_iconst (v := 4) hx hb d_C_reg_12 (by decide) ?_
    refine wci hW hA (va_runS (As := [.int (y), .int (4)]) (rest := []) ⟨hx, hb, hml, hown, hts⟩ (c_C_isIn l _ (y) (4) _) (cs 2 hts kc_C_isIn ks_C_isIn kn_C km_C_40 kh_C_isIn rfl rfl ⟨by decide, by decide⟩) (preWS hW) rfl rfl hl.1 rfl (lv_room (Nat.le_of_ble_eq_true rfl)) d_C_reg_13 ⟨by decide, by decide⟩) (fun rr4 uu4 H locs hp4 hW => ?_)
    have hW : Wd D classes (tysA g) s A (wC g ad np (v)) H locs := hW
    have hp4 : rr4 = if inI (y) (4) then 1 else 0 := hp4
    refine lv_if_ne (tgt := 23) hx hb d_C_reg_16 (by decide) (fun c_16 => ?_) (fun c_16 => ?_)
    · have c_16 : inI (y) (4) := bo_ne hp4 c_16
      obtain ⟨e5, b5⟩ := inI_nn (N := 4) rfl (by omega) c_16
      refine lv_aload_n hx hb d_C_reg_23 rfl (lv_at hl 0 rfl) ?_
      refine wg hx hb hts i_C hown hW (0) (by omega) mk_root rfl 1 (by decide) (hts _ kf_C_17) rfl d_C_reg_24 ?_
      refine lv_iload_n hx hb d_C_reg_27 rfl (lv_at hl 1 rfl) ?_
      have hi6 : nn x < np := by omega
      refine wa hx hb hW 2 (by omega) mk_processes 2 rfl (nn x) e3 (by omega) (by decide) (if_pos hi6) d_C_reg_28 ?_
      refine wg hx hb hts i_Proc hown hW (68 + 3 * (nn x)) (by omega) mk_proc rfl 2 (by decide) (hts _ kf_C_99) rfl d_C_reg_29 ?_
      refine lv_iload_n hx hb d_C_reg_32 rfl (lv_at hl 2 rfl) ?_
      refine wi hx hb hW (68 + 3 * (nn x) + 1) (by omega) mk_regs 0 rfl (nn y) e5 (by omega) (by decide) d_C_reg_33 ?_
      refine lv_i2l (v := (v (68 + 3 * (nn x) + 1) (nn y)).toInt64) hx hb d_C_reg_34 rfl ?_
      refine hret _ () _ _ _ _ _ _ ?_ hW (by decide) (by decide) d_C_reg_35
      show (v (68 + 3 * (nn x) + 1) (nn y)).toInt64 = rReg v x y
      simp only [rReg, if_pos c_8, if_pos c_16]
    · have c_16 : ¬ (inI (y) (4)) := bo_eq hp4 c_16
      refine lv_ldc2 (v := (10000000000 : Int64)) hx hb hown (hts _ kg_C_97) d_C_reg_19 ?_
      refine hret _ () _ _ _ _ _ _ ?_ hW (by decide) (by decide) d_C_reg_22
      show (10000000000 : Int64) = rReg v x y
      simp only [rReg, if_pos c_8, if_neg c_16]
abbrev rm_C_word : Room := { frames := 1, cells := 0, slots := 0, locals := 21 }
set_option maxHeartbeats 4000000 in
set_option maxRecDepth 100000 in
theorem c_C_word (l : Launch) {D : va_G} {g : Nat → ClassId} {ad : Nat → Nat} {np : Nat} {v : Vs} (x : Int32) (hO : Ok np v) : MtL l y_C_word ws_C_word rm_C_word D classes (tysA g) [.ref (ad (0)), .int (x)] (wC g ad np (v)) (fun (rr : Int64) (_ : Unit) => rr = rWord v x) (fun _ => wC g ad np (v)) 0 0 := by
  refine mt_l (by decide +kernel) rfl (Nat.le_of_ble_eq_true rfl) (fun p e s m args below meth c Q A C hA hW hret ls hl => ?_)
  obtain ⟨hx, hb, hr, hml, hown, hts0, hlocks⟩ := C
  have hts : ∀ w ∈ bigw, w.before args s = true := fun w h => hts0 w (List.mem_cons_of_mem _ h)
  have hown : s.vm.findClass R_C = some m.cls := hown
  have hnp := hO.le
  have hl : lv_has ls 2 [(0, .ref (ad (0))), (1, .int (x))] := hl
  refine lv_iload_n hx hb d_C_word_0 rfl (lv_at hl 1 rfl) ?_
  refine lv_bipush (v := 32) hx hb d_C_word_1 (by decide) ?_
  refine wci hW hA (va_runS (As := [.int (x), .int (32)]) (rest := []) ⟨hx, hb, hml, hown, hts⟩ (c_C_isIn l _ (x) (32) _) (cs 2 hts kc_C_isIn ks_C_isIn kn_C km_C_40 kh_C_isIn rfl rfl ⟨by decide, by decide⟩) (preWS hW) rfl rfl hl.1 rfl (lv_room (Nat.le_of_ble_eq_true rfl)) d_C_word_3 ⟨by decide, by decide⟩) (fun rr1 uu1 H locs hp1 hW => ?_)
  have hW : Wd D classes (tysA g) s A (wC g ad np (v)) H locs := hW
  have hp1 : rr1 = if inI (x) (32) then 1 else 0 := hp1
  refine lv_if_eq (tgt := 19) hx hb d_C_word_6 (by decide) (fun c_6 => ?_) (fun c_6 => ?_)
  · have c_6 : ¬ (inI (x) (32)) := bo_eq hp1 c_6
    refine lv_ldc2 (v := (10000000000 : Int64)) hx hb hown (hts _ kg_C_97) d_C_word_19 ?_
    refine hret _ () _ _ _ _ _ _ ?_ hW (by decide) (by decide) d_C_word_22
    show (10000000000 : Int64) = rWord v x
    simp only [rWord, if_neg c_6]
  · have c_6 : inI (x) (32) := bo_ne hp1 c_6
    obtain ⟨e2, b2⟩ := inI_nn (N := 32) rfl (by omega) c_6
    refine lv_aload_n hx hb d_C_word_9 rfl (lv_at hl 0 rfl) ?_
    refine wg hx hb hts i_C hown hW (0) (by omega) mk_root rfl 4 (by decide) (hts _ kf_C_33) rfl d_C_word_10 ?_
    refine lv_iload_n hx hb d_C_word_13 rfl (lv_at hl 1 rfl) ?_
    refine wi hx hb hW (5) (by omega) mk_memory 0 rfl (nn x) e2 (by omega) (by decide) d_C_word_14 ?_
    refine lv_i2l (v := (v (5) (nn x)).toInt64) hx hb d_C_word_15 rfl ?_
    refine lv_goto (tgt := 22) hx hb d_C_word_16 (by decide) ?_
    refine hret _ () _ _ _ _ _ _ ?_ hW (by decide) (by decide) d_C_word_22
    show (v (5) (nn x)).toInt64 = rWord v x
    simp only [rWord, if_pos c_6]
abbrev rm_C_copy : Room := { frames := 1, cells := 0, slots := 0, locals := 21 }
set_option maxHeartbeats 4000000 in
set_option maxRecDepth 100000 in
theorem c_C_copy (l : Launch) {D : va_G} {g : Nat → ClassId} {ad : Nat → Nat} {np : Nat} {v : Vs} (x : Int32) (y : Int32) (hO : Ok np v) : MtL l y_C_copy ws_C_copy rm_C_copy D classes (tysA g) [.ref (ad (0)), .int (x), .int (y)] (wC g ad np (v)) (fun (rr : Int64) (_ : Unit) => rr = rCopy v x y) (fun _ => wC g ad np (v)) 0 0 := by
  refine mt_l (by decide +kernel) rfl (Nat.le_of_ble_eq_true rfl) (fun p e s m args below meth c Q A C hA hW hret ls hl => ?_)
  obtain ⟨hx, hb, hr, hml, hown, hts0, hlocks⟩ := C
  have hts : ∀ w ∈ bigw, w.before args s = true := fun w h => hts0 w (List.mem_cons_of_mem _ h)
  have hown : s.vm.findClass R_C = some m.cls := hown
  have hnp := hO.le
  have hl : lv_has ls 3 [(0, .ref (ad (0))), (1, .int (x)), (2, .int (y))] := hl
  refine lv_iload_n hx hb d_C_copy_0 rfl (lv_at hl 1 rfl) ?_
  refine lv_iconst (v := 3) hx hb d_C_copy_1 (by decide) ?_
  refine wci hW hA (va_runS (As := [.int (x), .int (3)]) (rest := []) ⟨hx, hb, hml, hown, hts⟩ (c_C_isIn l _ (x) (3) _) (cs 2 hts kc_C_isIn ks_C_isIn kn_C km_C_40 kh_C_isIn rfl rfl ⟨by decide, by decide⟩) (preWS hW) rfl rfl hl.1 rfl (lv_room (Nat.le_of_ble_eq_true rfl)) d_C_copy_2 ⟨by decide, by decide⟩) (fun rr1 uu1 H locs hp1 hW => ?_)
  have hW : Wd D classes (tysA g) s A (wC g ad np (v)) H locs := hW
  have hp1 : rr1 = if inI (x) (3) then 1 else 0 := hp1
  refine lv_if_eq (tgt := 17) hx hb d_C_copy_5 (by decide) (fun c_5 => ?_) (fun c_5 => ?_)
  · have c_5 : ¬ (inI (x) (3)) := bo_eq hp1 c_5
    refine lv_ldc2 (v := (-1 : Int64)) hx hb hown (hts _ kg_C_116) d_C_copy_17 ?_
    refine hret _ () _ _ _ _ _ _ ?_ hW (by decide) (by decide) d_C_copy_20
    show (-1 : Int64) = rCopy v x y
    simp only [rCopy, if_neg c_5]
  · have c_5 : inI (x) (3) := bo_ne hp1 c_5
    obtain ⟨e2, b2⟩ := inI_nn (N := 3) rfl (by omega) c_5
    refine lv_iload_n hx hb d_C_copy_8 rfl (lv_at hl 2 rfl) ?_
    refine lv_bipush (v := 32) hx hb d_C_copy_9 (by decide) ?_
    refine wci hW hA (va_runS (As := [.int (y), .int (32)]) (rest := []) ⟨hx, hb, hml, hown, hts⟩ (c_C_isIn l _ (y) (32) _) (cs 2 hts kc_C_isIn ks_C_isIn kn_C km_C_40 kh_C_isIn rfl rfl ⟨by decide, by decide⟩) (preWS hW) rfl rfl hl.1 rfl (lv_room (Nat.le_of_ble_eq_true rfl)) d_C_copy_11 ⟨by decide, by decide⟩) (fun rr3 uu3 H locs hp3 hW => ?_)
    have hW : Wd D classes (tysA g) s A (wC g ad np (v)) H locs := hW
    have hp3 : rr3 = if inI (y) (32) then 1 else 0 := hp3
    refine lv_if_ne (tgt := 21) hx hb d_C_copy_14 (by decide) (fun c_14 => ?_) (fun c_14 => ?_)
    · have c_14 : inI (y) (32) := bo_ne hp3 c_14
      obtain ⟨e4, b4⟩ := inI_nn (N := 32) rfl (by omega) c_14
      refine lv_aload_n hx hb d_C_copy_21 rfl (lv_at hl 0 rfl) ?_
      refine wg hx hb hts i_C hown hW (0) (by omega) mk_root rfl 3 (by decide) (hts _ kf_C_29) rfl d_C_copy_22 ?_
      refine lv_iload_n hx hb d_C_copy_25 rfl (lv_at hl 2 rfl) ?_
      refine lv_iconst (v := 4) hx hb d_C_copy_26 (by decide) ?_
      refine lv_idiv hx hb d_C_copy_27 (by decide) ?_
      have hi5 : (nn y) / 4 < 8 := by omega
      refine wa hx hb hW 4 (by omega) mk_pages 4 rfl ((nn y) / 4) (ni_div e4 rfl (by omega) (by decide) (by decide)) (by omega) (by decide) (if_pos hi5) d_C_copy_28 ?_
      refine wg hx hb hts i_Page hown hW (28 + 5 * ((nn y) / 4)) (by omega) (mk_page hi5) rfl 0 (by decide) (hts _ kf_C_118) rfl d_C_copy_29 ?_
      refine lv_iload_n hx hb d_C_copy_32 rfl (lv_at hl 1 rfl) ?_
      refine wi hx hb hW (28 + 5 * ((nn y) / 4) + 1) (by omega) (mk_rights hi5) 0 rfl (nn x) e2 (by omega) (by decide) d_C_copy_33 ?_
      refine lv_if_ne (tgt := 43) hx hb d_C_copy_34 (by decide) (fun c_34 => ?_) (fun c_34 => ?_)
      · refine lv_aload_n hx hb d_C_copy_43 rfl (lv_at hl 0 rfl) ?_
        refine wg hx hb hts i_C hown hW (0) (by omega) mk_root rfl 4 (by decide) (hts _ kf_C_33) rfl d_C_copy_44 ?_
        refine lv_iload_n hx hb d_C_copy_47 rfl (lv_at hl 2 rfl) ?_
        refine wi hx hb hW (5) (by omega) mk_memory 0 rfl (nn y) e4 (by omega) (by decide) d_C_copy_48 ?_
        refine lv_i2l (v := (v (5) (nn y)).toInt64) hx hb d_C_copy_49 rfl ?_
        refine hret _ () _ _ _ _ _ _ ?_ hW (by decide) (by decide) d_C_copy_50
        show (v (5) (nn y)).toInt64 = rCopy v x y
        simp only [rCopy, if_pos c_5, if_pos c_14, if_neg c_34]
      · refine lv_ldc2 (v := (10000000000 : Int64)) hx hb hown (hts _ kg_C_97) d_C_copy_37 ?_
        refine lv_goto (tgt := 50) hx hb d_C_copy_40 (by decide) ?_
        refine hret _ () _ _ _ _ _ _ ?_ hW (by decide) (by decide) d_C_copy_50
        show (10000000000 : Int64) = rCopy v x y
        simp only [rCopy, if_pos c_5, if_pos c_14, if_pos c_34]
    · have c_14 : ¬ (inI (y) (32)) := bo_eq hp3 c_14
      refine lv_ldc2 (v := (-1 : Int64)) hx hb hown (hts _ kg_C_116) d_C_copy_17 ?_
      refine hret _ () _ _ _ _ _ _ ?_ hW (by decide) (by decide) d_C_copy_20
      show (-1 : Int64) = rCopy v x y
      simp only [rCopy, if_pos c_5, if_neg c_14]
abbrev rm_C_right : Room := { frames := 1, cells := 0, slots := 0, locals := 21 }
set_option maxHeartbeats 4000000 in
set_option maxRecDepth 100000 in
theorem c_C_right (l : Launch) {D : va_G} {g : Nat → ClassId} {ad : Nat → Nat} {np : Nat} {v : Vs} (x : Int32) (y : Int32) (hO : Ok np v) : MtI l y_C_right ws_C_right rm_C_right D classes (tysA g) [.ref (ad (0)), .int (x), .int (y)] (wC g ad np (v)) (fun (rr : Int32) (_ : Unit) => rr = rRight v x y) (fun _ => wC g ad np (v)) 0 0 := by
  refine mt_i (ty := .int) (fun _ _ _ => rfl) (by decide +kernel) rfl (Nat.le_of_ble_eq_true rfl) (fun p e s m args below meth c Q A C hA hW hret ls hl => ?_)
  obtain ⟨hx, hb, hr, hml, hown, hts0, hlocks⟩ := C
  have hts : ∀ w ∈ bigw, w.before args s = true := fun w h => hts0 w (List.mem_cons_of_mem _ h)
  have hown : s.vm.findClass R_C = some m.cls := hown
  have hnp := hO.le
  have hl : lv_has ls 3 [(0, .ref (ad (0))), (1, .int (x)), (2, .int (y))] := hl
  refine lv_iload_n hx hb d_C_right_0 rfl (lv_at hl 1 rfl) ?_
  refine lv_iconst (v := 3) hx hb d_C_right_1 (by decide) ?_
  refine wci hW hA (va_runS (As := [.int (x), .int (3)]) (rest := []) ⟨hx, hb, hml, hown, hts⟩ (c_C_isIn l _ (x) (3) _) (cs 2 hts kc_C_isIn ks_C_isIn kn_C km_C_40 kh_C_isIn rfl rfl ⟨by decide, by decide⟩) (preWS hW) rfl rfl hl.1 rfl (lv_room (Nat.le_of_ble_eq_true rfl)) d_C_right_2 ⟨by decide, by decide⟩) (fun rr1 uu1 H locs hp1 hW => ?_)
  have hW : Wd D classes (tysA g) s A (wC g ad np (v)) H locs := hW
  have hp1 : rr1 = if inI (x) (3) then 1 else 0 := hp1
  refine lv_if_eq (tgt := 31) hx hb d_C_right_5 (by decide) (fun c_5 => ?_) (fun c_5 => ?_)
  · have c_5 : ¬ (inI (x) (3)) := bo_eq hp1 c_5
    refine lv_iconst (v := (-1)) hx hb d_C_right_31 (by decide) ?_
    refine hret _ () _ _ _ _ _ _ ?_ hW (by decide) (by decide) d_C_right_32
    show (-1) = rRight v x y
    simp only [rRight, if_neg c_5]
  · have c_5 : inI (x) (3) := bo_ne hp1 c_5
    obtain ⟨e2, b2⟩ := inI_nn (N := 3) rfl (by omega) c_5
    refine lv_iload_n hx hb d_C_right_8 rfl (lv_at hl 2 rfl) ?_
    refine lv_bipush (v := 8) hx hb d_C_right_9 (by decide) ?_
    refine wci hW hA (va_runS (As := [.int (y), .int (8)]) (rest := []) ⟨hx, hb, hml, hown, hts⟩ (c_C_isIn l _ (y) (8) _) (cs 2 hts kc_C_isIn ks_C_isIn kn_C km_C_40 kh_C_isIn rfl rfl ⟨by decide, by decide⟩) (preWS hW) rfl rfl hl.1 rfl (lv_room (Nat.le_of_ble_eq_true rfl)) d_C_right_11 ⟨by decide, by decide⟩) (fun rr3 uu3 H locs hp3 hW => ?_)
    have hW : Wd D classes (tysA g) s A (wC g ad np (v)) H locs := hW
    have hp3 : rr3 = if inI (y) (8) then 1 else 0 := hp3
    refine lv_if_eq (tgt := 31) hx hb d_C_right_14 (by decide) (fun c_14 => ?_) (fun c_14 => ?_)
    · have c_14 : ¬ (inI (y) (8)) := bo_eq hp3 c_14
      refine lv_iconst (v := (-1)) hx hb d_C_right_31 (by decide) ?_
      refine hret _ () _ _ _ _ _ _ ?_ hW (by decide) (by decide) d_C_right_32
      show (-1) = rRight v x y
      simp only [rRight, if_pos c_5, if_neg c_14]
    · have c_14 : inI (y) (8) := bo_ne hp3 c_14
      obtain ⟨e4, b4⟩ := inI_nn (N := 8) rfl (by omega) c_14
      refine lv_aload_n hx hb d_C_right_17 rfl (lv_at hl 0 rfl) ?_
      refine wg hx hb hts i_C hown hW (0) (by omega) mk_root rfl 3 (by decide) (hts _ kf_C_29) rfl d_C_right_18 ?_
      refine lv_iload_n hx hb d_C_right_21 rfl (lv_at hl 2 rfl) ?_
      have hi5 : nn y < 8 := by omega
      refine wa hx hb hW 4 (by omega) mk_pages 4 rfl (nn y) e4 (by omega) (by decide) (if_pos hi5) d_C_right_22 ?_
      refine wg hx hb hts i_Page hown hW (28 + 5 * (nn y)) (by omega) (mk_page hi5) rfl 0 (by decide) (hts _ kf_C_118) rfl d_C_right_23 ?_
      refine lv_iload_n hx hb d_C_right_26 rfl (lv_at hl 1 rfl) ?_
      refine wi hx hb hW (28 + 5 * (nn y) + 1) (by omega) (mk_rights hi5) 0 rfl (nn x) e2 (by omega) (by decide) d_C_right_27 ?_
      refine lv_goto (tgt := 32) hx hb d_C_right_28 (by decide) ?_
      refine hret _ () _ _ _ _ _ _ ?_ hW (by decide) (by decide) d_C_right_32
      show v (28 + 5 * (nn y) + 1) (nn x) = rRight v x y
      simp only [rRight, if_pos c_5, if_pos c_14]
abbrev rm_C_owner : Room := { frames := 1, cells := 0, slots := 0, locals := 21 }
set_option maxHeartbeats 4000000 in
set_option maxRecDepth 100000 in
theorem c_C_owner (l : Launch) {D : va_G} {g : Nat → ClassId} {ad : Nat → Nat} {np : Nat} {v : Vs} (x : Int32) (hO : Ok np v) : MtI l y_C_owner ws_C_owner rm_C_owner D classes (tysA g) [.ref (ad (0)), .int (x)] (wC g ad np (v)) (fun (rr : Int32) (_ : Unit) => rr = rOwner v x) (fun _ => wC g ad np (v)) 0 0 := by
  refine mt_i (ty := .int) (fun _ _ _ => rfl) (by decide +kernel) rfl (Nat.le_of_ble_eq_true rfl) (fun p e s m args below meth c Q A C hA hW hret ls hl => ?_)
  obtain ⟨hx, hb, hr, hml, hown, hts0, hlocks⟩ := C
  have hts : ∀ w ∈ bigw, w.before args s = true := fun w h => hts0 w (List.mem_cons_of_mem _ h)
  have hown : s.vm.findClass R_C = some m.cls := hown
  have hnp := hO.le
  have hl : lv_has ls 2 [(0, .ref (ad (0))), (1, .int (x))] := hl
  refine lv_iload_n hx hb d_C_owner_0 rfl (lv_at hl 1 rfl) ?_
  refine lv_bipush (v := 8) hx hb d_C_owner_1 (by decide) ?_
  refine wci hW hA (va_runS (As := [.int (x), .int (8)]) (rest := []) ⟨hx, hb, hml, hown, hts⟩ (c_C_isIn l _ (x) (8) _) (cs 2 hts kc_C_isIn ks_C_isIn kn_C km_C_40 kh_C_isIn rfl rfl ⟨by decide, by decide⟩) (preWS hW) rfl rfl hl.1 rfl (lv_room (Nat.le_of_ble_eq_true rfl)) d_C_owner_3 ⟨by decide, by decide⟩) (fun rr1 uu1 H locs hp1 hW => ?_)
  have hW : Wd D classes (tysA g) s A (wC g ad np (v)) H locs := hW
  have hp1 : rr1 = if inI (x) (8) then 1 else 0 := hp1
  refine lv_if_eq (tgt := 21) hx hb d_C_owner_6 (by decide) (fun c_6 => ?_) (fun c_6 => ?_)
  · have c_6 : ¬ (inI (x) (8)) := bo_eq hp1 c_6
    refine lv_iconst (v := (-1)) hx hb d_C_owner_21 (by decide) ?_
    refine hret _ () _ _ _ _ _ _ ?_ hW (by decide) (by decide) d_C_owner_22
    show (-1) = rOwner v x
    simp only [rOwner, if_neg c_6]
  · have c_6 : inI (x) (8) := bo_ne hp1 c_6
    obtain ⟨e2, b2⟩ := inI_nn (N := 8) rfl (by omega) c_6
    refine lv_aload_n hx hb d_C_owner_9 rfl (lv_at hl 0 rfl) ?_
    refine wg hx hb hts i_C hown hW (0) (by omega) mk_root rfl 3 (by decide) (hts _ kf_C_29) rfl d_C_owner_10 ?_
    refine lv_iload_n hx hb d_C_owner_13 rfl (lv_at hl 1 rfl) ?_
    have hi3 : nn x < 8 := by omega
    refine wa hx hb hW 4 (by omega) mk_pages 4 rfl (nn x) e2 (by omega) (by decide) (if_pos hi3) d_C_owner_14 ?_
    refine wg hx hb hts i_Page hown hW (28 + 5 * (nn x)) (by omega) (mk_page hi3) rfl 3 (by decide) (hts _ kf_C_121) rfl d_C_owner_15 ?_
    refine lv_goto (tgt := 22) hx hb d_C_owner_18 (by decide) ?_
    refine hret _ () _ _ _ _ _ _ ?_ hW (by decide) (by decide) d_C_owner_22
    show v (28 + 5 * (nn x)) 3 = rOwner v x
    simp only [rOwner, if_pos c_6]
abbrev rm_C_line : Room := { frames := 1, cells := 0, slots := 0, locals := 21 }
set_option maxHeartbeats 4000000 in
set_option maxRecDepth 100000 in
theorem c_C_line (l : Launch) {D : va_G} {g : Nat → ClassId} {ad : Nat → Nat} {np : Nat} {v : Vs} (x : Int32) (y : Int32) (hO : Ok np v) : MtI l y_C_line ws_C_line rm_C_line D classes (tysA g) [.ref (ad (0)), .int (x), .int (y)] (wC g ad np (v)) (fun (rr : Int32) (_ : Unit) => rr = rLine v x y) (fun _ => wC g ad np (v)) 0 0 := by
  refine mt_i (ty := .int) (fun _ _ _ => rfl) (by decide +kernel) rfl (Nat.le_of_ble_eq_true rfl) (fun p e s m args below meth c Q A C hA hW hret ls hl => ?_)
  obtain ⟨hx, hb, hr, hml, hown, hts0, hlocks⟩ := C
  have hts : ∀ w ∈ bigw, w.before args s = true := fun w h => hts0 w (List.mem_cons_of_mem _ h)
  have hown : s.vm.findClass R_C = some m.cls := hown
  have hnp := hO.le
  have hl : lv_has ls 3 [(0, .ref (ad (0))), (1, .int (x)), (2, .int (y))] := hl
  refine lv_iload_n hx hb d_C_line_0 rfl (lv_at hl 1 rfl) ?_
  refine lv_iconst (v := 3) hx hb d_C_line_1 (by decide) ?_
  refine wci hW hA (va_runS (As := [.int (x), .int (3)]) (rest := []) ⟨hx, hb, hml, hown, hts⟩ (c_C_isIn l _ (x) (3) _) (cs 2 hts kc_C_isIn ks_C_isIn kn_C km_C_40 kh_C_isIn rfl rfl ⟨by decide, by decide⟩) (preWS hW) rfl rfl hl.1 rfl (lv_room (Nat.le_of_ble_eq_true rfl)) d_C_line_2 ⟨by decide, by decide⟩) (fun rr1 uu1 H locs hp1 hW => ?_)
  have hW : Wd D classes (tysA g) s A (wC g ad np (v)) H locs := hW
  have hp1 : rr1 = if inI (x) (3) then 1 else 0 := hp1
  refine lv_if_eq (tgt := 12) hx hb d_C_line_5 (by decide) (fun c_5 => ?_) (fun c_5 => ?_)
  · have c_5 : ¬ (inI (x) (3)) := bo_eq hp1 c_5
    refine lv_iconst (v := (-1)) hx hb d_C_line_12 (by decide) ?_
    refine hret _ () _ _ _ _ _ _ ?_ hW (by decide) (by decide) d_C_line_13
    show (-1) = rLine v x y
    simp only [rLine, if_neg c_5]
  · have c_5 : inI (x) (3) := bo_ne hp1 c_5
    obtain ⟨e2, b2⟩ := inI_nn (N := 3) rfl (by omega) c_5
    refine lv_iload_n hx hb d_C_line_8 rfl (lv_at hl 2 rfl) ?_
    refine lv_if_ge (tgt := 14) hx hb d_C_line_9 (by decide) (fun c_9 => ?_) (fun c_9 => ?_)
    · obtain ⟨e3, b3⟩ := pos_nn c_9
      refine lv_iload_n hx hb d_C_line_14 rfl (lv_at hl 2 rfl) ?_
      refine lv_aload_n hx hb d_C_line_15 rfl (lv_at hl 0 rfl) ?_
      refine wg hx hb hts i_C hown hW (0) (by omega) mk_root rfl 2 (by decide) (hts _ kf_C_23) rfl d_C_line_16 ?_
      refine lv_iload_n hx hb d_C_line_19 rfl (lv_at hl 1 rfl) ?_
      have hk4 : isLn (22 + 2 * (nn x)) := ln_node (by omega)
      refine wa hx hb hW 3 (by omega) mk_lines 3 rfl (nn x) e2 (by omega) (by decide) (if_pos (by omega)) d_C_line_20 ?_
      refine wg hx hb hts i_Line hown hW (22 + 2 * (nn x)) (by have := ln_lt hk4; omega) (mk_line hk4) rfl 1 (by decide) (hts _ kf_C_62) rfl d_C_line_21 ?_
      obtain ⟨e5, b5⟩ := hO.size hk4
      refine lv_icmp_ge (tgt := 41) hx hb d_C_line_24 (by decide) (fun c_24 => ?_) (fun c_24 => ?_)
      · have nc_24 : nv v (22 + 2 * (nn x)) 1 ≤ nn y := ni_le e5 e3 (by omega) (by omega) c_24
        refine lv_bipush (v := 8) hx hb d_C_line_41 (by decide) ?_
        refine hret _ () _ _ _ _ _ _ ?_ hW (by decide) (by decide) d_C_line_43
        show 8 = rLine v x y
        simp only [rLine, if_pos c_5, if_pos c_9, if_pos c_24]
      · have nc_24 : nn y < nv v (22 + 2 * (nn x)) 1 := ni_nle e5 e3 (by omega) (by omega) c_24
        refine lv_aload_n hx hb d_C_line_27 rfl (lv_at hl 0 rfl) ?_
        refine wg hx hb hts i_C hown hW (0) (by omega) mk_root rfl 2 (by decide) (hts _ kf_C_23) rfl d_C_line_28 ?_
        refine lv_iload_n hx hb d_C_line_31 rfl (lv_at hl 1 rfl) ?_
        have hk6 : isLn (22 + 2 * (nn x)) := ln_node (by omega)
        refine wa hx hb hW 3 (by omega) mk_lines 3 rfl (nn x) e2 (by omega) (by decide) (if_pos (by omega)) d_C_line_32 ?_
        refine wg hx hb hts i_Line hown hW (22 + 2 * (nn x)) (by have := ln_lt hk6; omega) (mk_line hk6) rfl 0 (by decide) (hts _ kf_C_63) rfl d_C_line_33 ?_
        refine lv_iload_n hx hb d_C_line_36 rfl (lv_at hl 2 rfl) ?_
        refine wi hx hb hW (22 + 2 * (nn x) + 1) (by have := ln_lt hk6; omega) (mk_items hk6) 0 rfl (nn y) e3 (by omega) (by decide) d_C_line_37 ?_
        obtain ⟨e7, b7⟩ := hO.item hk6 (nn y) (by omega)
        refine lv_goto (tgt := 43) hx hb d_C_line_38 (by decide) ?_
        refine hret _ () _ _ _ _ _ _ ?_ hW (by decide) (by decide) d_C_line_43
        show v (22 + 2 * (nn x) + 1) (nn y) = rLine v x y
        simp only [rLine, if_pos c_5, if_pos c_9, if_neg c_24]
    · refine lv_iconst (v := (-1)) hx hb d_C_line_12 (by decide) ?_
      refine hret _ () _ _ _ _ _ _ ?_ hW (by decide) (by decide) d_C_line_13
      show (-1) = rLine v x y
      simp only [rLine, if_pos c_5, if_neg c_9]
abbrev rm_C_info : Room := { frames := 1, cells := 0, slots := 0, locals := 21 }
set_option maxHeartbeats 4000000 in
set_option maxRecDepth 100000 in
theorem c_C_info (l : Launch) {D : va_G} {g : Nat → ClassId} {ad : Nat → Nat} {np : Nat} {v : Vs} (x : Int32) (y : Int32) (hO : Ok np v) : MtL l y_C_info ws_C_info rm_C_info D classes (tysA g) [.ref (ad (0)), .int (x), .int (y)] (wC g ad np (v)) (fun (rr : Int64) (_ : Unit) => rr = rInfo v x y) (fun _ => wC g ad np (v)) 0 0 := by
  refine mt_l (by decide +kernel) rfl (Nat.le_of_ble_eq_true rfl) (fun p e s m args below meth c Q A C hA hW hret ls hl => ?_)
  obtain ⟨hx, hb, hr, hml, hown, hts0, hlocks⟩ := C
  have hts : ∀ w ∈ bigw, w.before args s = true := fun w h => hts0 w (List.mem_cons_of_mem _ h)
  have hown : s.vm.findClass R_C = some m.cls := hown
  have hnp := hO.le
  have hl : lv_has ls 4 [(0, .ref (ad (0))), (1, .int (x)), (2, .int (y))] := hl
  refine lv_iload_n hx hb d_C_info_0 rfl (lv_at hl 1 rfl) ?_
  refine lv_aload_n hx hb d_C_info_1 rfl (lv_at hl 0 rfl) ?_
  refine wg hx hb hts i_C hown hW (0) (by omega) mk_root rfl 5 (by decide) (hts _ kf_C_55) rfl d_C_info_2 ?_
  obtain ⟨e1, b1⟩ := hO.made
  refine wci hW hA (va_runS (As := [.int (x), .int (v 0 5)]) (rest := []) ⟨hx, hb, hml, hown, hts⟩ (c_C_isIn l _ (x) (v 0 5) _) (cs 2 hts kc_C_isIn ks_C_isIn kn_C km_C_40 kh_C_isIn rfl rfl ⟨by decide, by decide⟩) (preWS hW) rfl rfl hl.1 rfl (lv_room (Nat.le_of_ble_eq_true rfl)) d_C_info_5 ⟨by decide, by decide⟩) (fun rr2 uu2 H locs hp2 hW => ?_)
  have hW : Wd D classes (tysA g) s A (wC g ad np (v)) H locs := hW
  have hp2 : rr2 = if inI (x) (v 0 5) then 1 else 0 := hp2
  refine lv_if_ne (tgt := 15) hx hb d_C_info_8 (by decide) (fun c_8 => ?_) (fun c_8 => ?_)
  · have c_8 : inI (x) (v 0 5) := bo_ne hp2 c_8
    obtain ⟨e3, b3⟩ := inI_nn (N := np) e1 (by omega) c_8
    refine lv_aload_n hx hb d_C_info_15 rfl (lv_at hl 0 rfl) ?_
    refine wg hx hb hts i_C hown hW (0) (by omega) mk_root rfl 1 (by decide) (hts _ kf_C_17) rfl d_C_info_16 ?_
    refine lv_iload_n hx hb d_C_info_19 rfl (lv_at hl 1 rfl) ?_
    have hi4 : nn x < np := by omega
    refine wa hx hb hW 2 (by omega) mk_processes 2 rfl (nn x) e3 (by omega) (by decide) (if_pos hi4) d_C_info_20 ?_
    refine lv_astore_n (lv' := [(3, .ref (ad (68 + 3 * (nn x)))), (0, .ref (ad (0))), (1, .int (x)), (2, .int (y))]) hx hb d_C_info_21 rfl hl (by decide) rfl (fun ls hl => ?_)
    refine lv_iload_n hx hb d_C_info_22 rfl (lv_at hl 3 rfl) ?_
    rcases sw_6 (y) with c_23 | h_23_0 | h_23_1 | h_23_2 | h_23_3 | h_23_4 | h_23_5
    · refine lv_tableOut (tgt := 110) hx hb d_C_info_23 c_23 (by decide) ?_
      refine lv_ldc2 (v := (10000000000 : Int64)) hx hb hown (hts _ kg_C_97) d_C_info_110 ?_
      refine hret _ () _ _ _ _ _ _ ?_ hW (by decide) (by decide) d_C_info_113
      show (10000000000 : Int64) = rInfo v x y
      simp only [rInfo, if_pos c_8, if_neg (out_ne c_23 0 (by decide)), if_neg (out_ne c_23 1 (by decide)), if_neg (out_ne c_23 2 (by decide)), if_neg (out_ne c_23 3 (by decide)), if_neg (out_ne c_23 4 (by decide)), if_neg (out_ne c_23 5 (by decide))]
    · refine lv_tableIn (tgt := 60) hx hb d_C_info_23 (by rw [h_23_0]; decide) (by rw [h_23_0]; decide) (off := 37) (by rw [h_23_0]; rfl) (by decide) ?_
      refine lv_aload_n hx hb d_C_info_60 rfl (lv_at hl 0 rfl) ?_
      refine wg hx hb hts i_Proc hown hW (68 + 3 * (nn x)) (by omega) mk_proc rfl 5 (by decide) (hts _ kf_C_70) rfl d_C_info_61 ?_
      refine lv_i2l (v := (v (68 + 3 * (nn x)) 5).toInt64) hx hb d_C_info_64 rfl ?_
      refine hret _ () _ _ _ _ _ _ ?_ hW (by decide) (by decide) d_C_info_65
      show (v (68 + 3 * (nn x)) 5).toInt64 = rInfo v x y
      subst h_23_0
      simp only [rInfo, if_pos c_8]
      rfl
    · refine lv_tableIn (tgt := 66) hx hb d_C_info_23 (by rw [h_23_1]; decide) (by rw [h_23_1]; decide) (off := 43) (by rw [h_23_1]; rfl) (by decide) ?_
      refine lv_aload_n hx hb d_C_info_66 rfl (lv_at hl 0 rfl) ?_
      refine wg hx hb hts i_Proc hown hW (68 + 3 * (nn x)) (by omega) mk_proc rfl 4 (by decide) (hts _ kf_C_88) rfl d_C_info_67 ?_
      obtain ⟨e5, b5⟩ := hO.place hi4
      refine lv_i2l (v := (v (68 + 3 * (nn x)) 4).toInt64) hx hb d_C_info_70 rfl ?_
      refine hret _ () _ _ _ _ _ _ ?_ hW (by decide) (by decide) d_C_info_71
      show (v (68 + 3 * (nn x)) 4).toInt64 = rInfo v x y
      subst h_23_1
      simp only [rInfo, if_pos c_8]
      rfl
    · refine lv_tableIn (tgt := 72) hx hb d_C_info_23 (by rw [h_23_2]; decide) (by rw [h_23_2]; decide) (off := 49) (by rw [h_23_2]; rfl) (by decide) ?_
      refine lv_aload_n hx hb d_C_info_72 rfl (lv_at hl 0 rfl) ?_
      refine wg hx hb hts i_Proc hown hW (68 + 3 * (nn x)) (by omega) mk_proc rfl 6 (by decide) (hts _ kf_C_102) rfl d_C_info_73 ?_
      obtain ⟨e6, b6⟩ := hO.counter hi4
      refine lv_i2l (v := (v (68 + 3 * (nn x)) 6).toInt64) hx hb d_C_info_76 rfl ?_
      refine hret _ () _ _ _ _ _ _ ?_ hW (by decide) (by decide) d_C_info_77
      show (v (68 + 3 * (nn x)) 6).toInt64 = rInfo v x y
      subst h_23_2
      simp only [rInfo, if_pos c_8]
      rfl
    · refine lv_tableIn (tgt := 78) hx hb d_C_info_23 (by rw [h_23_3]; decide) (by rw [h_23_3]; decide) (off := 55) (by rw [h_23_3]; rfl) (by decide) ?_
      refine lv_aload_n hx hb d_C_info_78 rfl (lv_at hl 0 rfl) ?_
      refine wg hx hb hts i_Proc hown hW (68 + 3 * (nn x)) (by omega) mk_proc rfl 7 (by decide) (hts _ kf_C_105) rfl d_C_info_79 ?_
      refine lv_i2l (v := (v (68 + 3 * (nn x)) 7).toInt64) hx hb d_C_info_82 rfl ?_
      refine hret _ () _ _ _ _ _ _ ?_ hW (by decide) (by decide) d_C_info_83
      show (v (68 + 3 * (nn x)) 7).toInt64 = rInfo v x y
      subst h_23_3
      simp only [rInfo, if_pos c_8]
      rfl
    · refine lv_tableIn (tgt := 84) hx hb d_C_info_23 (by rw [h_23_4]; decide) (by rw [h_23_4]; decide) (off := 61) (by rw [h_23_4]; rfl) (by decide) ?_
      refine lv_aload_n hx hb d_C_info_84 rfl (lv_at hl 0 rfl) ?_
      refine wg hx hb hts i_Proc hown hW (68 + 3 * (nn x)) (by omega) mk_proc rfl 8 (by decide) (hts _ kf_C_108) rfl d_C_info_85 ?_
      refine lv_i2l (v := (v (68 + 3 * (nn x)) 8).toInt64) hx hb d_C_info_88 rfl ?_
      refine hret _ () _ _ _ _ _ _ ?_ hW (by decide) (by decide) d_C_info_89
      show (v (68 + 3 * (nn x)) 8).toInt64 = rInfo v x y
      subst h_23_4
      simp only [rInfo, if_pos c_8]
      rfl
    · refine lv_tableIn (tgt := 90) hx hb d_C_info_23 (by rw [h_23_5]; decide) (by rw [h_23_5]; decide) (off := 67) (by rw [h_23_5]; rfl) (by decide) ?_
      refine lv_aload_n hx hb d_C_info_90 rfl (lv_at hl 0 rfl) ?_
      refine wg hx hb hts i_Proc hown hW (68 + 3 * (nn x)) (by omega) mk_proc rfl 5 (by decide) (hts _ kf_C_70) rfl d_C_info_91 ?_
      refine lv_iconst (v := 2) hx hb d_C_info_94 (by decide) ?_
      refine lv_icmp_ne (tgt := 106) hx hb d_C_info_95 (by decide) (fun c_95 => ?_) (fun c_95 => ?_)
      · refine lv_ldc2 (v := (8 : Int64)) hx hb hown (hts _ kg_C_114) d_C_info_106 ?_
        refine hret _ () _ _ _ _ _ _ ?_ hW (by decide) (by decide) d_C_info_109
        show (8 : Int64) = rInfo v x y
        subst h_23_5
        simp only [rInfo, if_pos c_8, if_neg c_95]
        rfl
      · refine lv_aload_n hx hb d_C_info_98 rfl (lv_at hl 0 rfl) ?_
        refine wg hx hb hts i_Proc hown hW (68 + 3 * (nn x)) (by omega) mk_proc rfl 9 (by decide) (hts _ kf_C_111) rfl d_C_info_99 ?_
        refine lv_i2l (v := (v (68 + 3 * (nn x)) 9).toInt64) hx hb d_C_info_102 rfl ?_
        refine lv_goto (tgt := 109) hx hb d_C_info_103 (by decide) ?_
        refine hret _ () _ _ _ _ _ _ ?_ hW (by decide) (by decide) d_C_info_109
        show (v (68 + 3 * (nn x)) 9).toInt64 = rInfo v x y
        subst h_23_5
        simp only [rInfo, if_pos c_8, if_pos c_95]
        rfl
  · have c_8 : ¬ (inI (x) (v 0 5)) := bo_eq hp2 c_8
    refine lv_ldc2 (v := (10000000000 : Int64)) hx hb hown (hts _ kg_C_97) d_C_info_11 ?_
    refine hret _ () _ _ _ _ _ _ ?_ hW (by decide) (by decide) d_C_info_14
    show (10000000000 : Int64) = rInfo v x y
    simp only [rInfo, if_neg c_8]
abbrev rm_C_count : Room := { frames := 1, cells := 0, slots := 0, locals := 22 }
set_option maxHeartbeats 4000000 in
set_option maxRecDepth 100000 in
theorem c_C_count (l : Launch) {D : va_G} {g : Nat → ClassId} {ad : Nat → Nat} {np : Nat} {v : Vs} (y : Int32) (hO : Ok np v) : MtI l y_C_count ws_C_count rm_C_count D classes (tysA g) [.ref (ad (0)), .int (y)] (wC g ad np (v)) (fun (rr : Int32) (_ : Unit) => rr = rCount v y) (fun _ => wC g ad np (v)) 0 0 := by
  refine mt_i (ty := .int) (fun _ _ _ => rfl) (by decide +kernel) rfl (Nat.le_of_ble_eq_true rfl) (fun p e s m args below meth c Q A C hA hW hret ls hl => ?_)
  obtain ⟨hx, hb, hr, hml, hown, hts0, hlocks⟩ := C
  have hts : ∀ w ∈ bigw, w.before args s = true := fun w h => hts0 w (List.mem_cons_of_mem _ h)
  have hown : s.vm.findClass R_C = some m.cls := hown
  have hnp := hO.le
  have hl : lv_has ls 2 [(0, .ref (ad (0))), (1, .int (y))] := hl
  refine lv_iload_n hx hb d_C_count_0 rfl (lv_at hl 1 rfl) ?_
  rcases sw_7 (y) with c_1 | h_1_0 | h_1_1 | h_1_2 | h_1_3 | h_1_4 | h_1_5 | h_1_6
  · refine lv_tableOut (tgt := 79) hx hb d_C_count_1 c_1 (by decide) ?_
    refine lv_iconst (v := (-1)) hx hb d_C_count_79 (by decide) ?_
    refine hret _ () _ _ _ _ _ _ ?_ hW (by decide) (by decide) d_C_count_80
    show (-1) = rCount v y
    simp only [rCount, if_neg (out_ne c_1 0 (by decide)), if_neg (out_ne c_1 1 (by decide)), if_neg (out_ne c_1 2 (by decide)), if_neg (out_ne c_1 3 (by decide)), if_neg (out_ne c_1 4 (by decide)), if_neg (out_ne c_1 5 (by decide)), if_neg (out_ne c_1 6 (by decide))]
  · refine lv_tableIn (tgt := 44) hx hb d_C_count_1 (by rw [h_1_0]; decide) (by rw [h_1_0]; decide) (off := 43) (by rw [h_1_0]; rfl) (by decide) ?_
    refine lv_aload_n hx hb d_C_count_44 rfl (lv_at hl 0 rfl) ?_
    refine wg hx hb hts i_C hown hW (0) (by omega) mk_root rfl 5 (by decide) (hts _ kf_C_55) rfl d_C_count_45 ?_
    obtain ⟨e1, b1⟩ := hO.made
    refine hret _ () _ _ _ _ _ _ ?_ hW (by decide) (by decide) d_C_count_48
    show v 0 5 = rCount v y
    subst h_1_0
    simp only [rCount]
    rfl
  · refine lv_tableIn (tgt := 49) hx hb d_C_count_1 (by rw [h_1_1]; decide) (by rw [h_1_1]; decide) (off := 48) (by rw [h_1_1]; rfl) (by decide) ?_
    refine lv_aload_n hx hb d_C_count_49 rfl (lv_at hl 0 rfl) ?_
    refine wg hx hb hts i_C hown hW (0) (by omega) mk_root rfl 7 (by decide) (hts _ kf_C_124) rfl d_C_count_50 ?_
    refine hret _ () _ _ _ _ _ _ ?_ hW (by decide) (by decide) d_C_count_53
    show v 0 7 = rCount v y
    subst h_1_1
    simp only [rCount]
    rfl
  · refine lv_tableIn (tgt := 54) hx hb d_C_count_1 (by rw [h_1_2]; decide) (by rw [h_1_2]; decide) (off := 53) (by rw [h_1_2]; rfl) (by decide) ?_
    refine lv_aload_n hx hb d_C_count_54 rfl (lv_at hl 0 rfl) ?_
    refine wg hx hb hts i_C hown hW (0) (by omega) mk_root rfl 8 (by decide) (hts _ kf_C_127) rfl d_C_count_55 ?_
    refine hret _ () _ _ _ _ _ _ ?_ hW (by decide) (by decide) d_C_count_58
    show v 0 8 = rCount v y
    subst h_1_2
    simp only [rCount]
    rfl
  · refine lv_tableIn (tgt := 59) hx hb d_C_count_1 (by rw [h_1_3]; decide) (by rw [h_1_3]; decide) (off := 58) (by rw [h_1_3]; rfl) (by decide) ?_
    refine lv_aload_n hx hb d_C_count_59 rfl (lv_at hl 0 rfl) ?_
    refine wg hx hb hts i_C hown hW (0) (by omega) mk_root rfl 9 (by decide) (hts _ kf_C_130) rfl d_C_count_60 ?_
    refine hret _ () _ _ _ _ _ _ ?_ hW (by decide) (by decide) d_C_count_63
    show v 0 9 = rCount v y
    subst h_1_3
    simp only [rCount]
    rfl
  · refine lv_tableIn (tgt := 64) hx hb d_C_count_1 (by rw [h_1_4]; decide) (by rw [h_1_4]; decide) (off := 63) (by rw [h_1_4]; rfl) (by decide) ?_
    refine lv_aload_n hx hb d_C_count_64 rfl (lv_at hl 0 rfl) ?_
    refine wci hW hA (va_runV (As := []) (rest := []) ⟨hx, hb, hml, hown, hts⟩ (c_C_requestsStanding l hO _) (cv 0 hts kc_C_requestsStanding ki_C_requestsStanding ke_C_requestsStanding kn_C km_C_133 kh_C_requestsStanding rfl rfl ⟨by decide, by decide⟩) (preW hW rfl rfl (mw_get (by omega) mk_root)) rfl rfl hl.1 rfl (lv_room (Nat.le_of_ble_eq_true rfl)) d_C_count_65 ⟨by decide, by decide⟩) (fun rr2 uu2 H locs hp2 hW => ?_)
    have hW : Wd D classes (tysA g) s A (wC g ad np (v)) H locs := hW
    have hp2 : rr2 = cReqL v 8 0 0 := hp2
    subst hp2
    refine hret _ () _ _ _ _ _ _ ?_ hW (by decide) (by decide) d_C_count_68
    show cReqL v 8 0 0 = rCount v y
    subst h_1_4
    simp only [rCount]
    rfl
  · refine lv_tableIn (tgt := 69) hx hb d_C_count_1 (by rw [h_1_5]; decide) (by rw [h_1_5]; decide) (off := 68) (by rw [h_1_5]; rfl) (by decide) ?_
    refine lv_aload_n hx hb d_C_count_69 rfl (lv_at hl 0 rfl) ?_
    refine wci hW hA (va_runV (As := []) (rest := []) ⟨hx, hb, hml, hown, hts⟩ (c_C_processesReady l hO _) (cv 0 hts kc_C_processesReady ki_C_processesReady ke_C_processesReady kn_C km_C_137 kh_C_processesReady rfl rfl ⟨by decide, by decide⟩) (preW hW rfl rfl (mw_get (by omega) mk_root)) rfl rfl hl.1 rfl (lv_room (Nat.le_of_ble_eq_true rfl)) d_C_count_70 ⟨by decide, by decide⟩) (fun rr3 uu3 H locs hp3 hW => ?_)
    have hW : Wd D classes (tysA g) s A (wC g ad np (v)) H locs := hW
    have hp3 : rr3 = cRdyL v 3 0 0 := hp3
    subst hp3
    refine hret _ () _ _ _ _ _ _ ?_ hW (by decide) (by decide) d_C_count_73
    show cRdyL v 3 0 0 = rCount v y
    subst h_1_5
    simp only [rCount]
    rfl
  · refine lv_tableIn (tgt := 74) hx hb d_C_count_1 (by rw [h_1_6]; decide) (by rw [h_1_6]; decide) (off := 73) (by rw [h_1_6]; rfl) (by decide) ?_
    refine lv_aload_n hx hb d_C_count_74 rfl (lv_at hl 0 rfl) ?_
    refine wg hx hb hts i_C hown hW (0) (by omega) mk_root rfl 10 (by decide) (hts _ kf_C_140) rfl d_C_count_75 ?_
    refine hret _ () _ _ _ _ _ _ ?_ hW (by decide) (by decide) d_C_count_78
    show v 0 10 = rCount v y
    subst h_1_6
    simp only [rCount]
    rfl
