abbrev rm_Math_floorMod : Room := { frames := 0, cells := 0, slots := 0, locals := 0 }
set_option maxHeartbeats 4000000 in
set_option maxRecDepth 100000 in
theorem c_Math_floorMod (l : Launch) {D : va_G} {cl : List vw_C} {tys : List (ClassId × FieldType)} (w : va_W) (x : Int32) (y : Int32) (hy : ¬ y = 0) : MtI l y_Math_floorMod ws_Math_floorMod rm_Math_floorMod D cl tys [.int (x), .int (y)] (w) (fun (rr : Int32) (_ : Unit) => rr = fmod x y) (fun _ => w) 0 0 := by
  refine mt_i (ty := .int) (fun _ _ _ => rfl) (by decide +kernel) rfl (Nat.le_of_ble_eq_true rfl) (fun p e s m args below meth c Q A C hA hW hret ls hl => ?_)
  obtain ⟨hx, hb, hr, hml, hown, hts0, hlocks⟩ := C
  have hts : ∀ w ∈ bigw, w.before args s = true := fun w h => hts0 w (List.mem_cons_of_mem _ h)
  have hown : s.vm.findClass R_Math = some m.cls := hown
  have hl : lv_has ls 3 [(0, .int (x)), (1, .int (y))] := hl
  refine lv_iload_n hx hb d_Math_floorMod_0 rfl (lv_at hl 0 rfl) ?_
  refine lv_iload_n hx hb d_Math_floorMod_1 rfl (lv_at hl 1 rfl) ?_
  refine lv_irem hx hb d_Math_floorMod_2 hy ?_
  refine lv_istore_n (lv' := [(2, .int ((x) - (x) / (y) * (y))), (0, .int (x)), (1, .int (y))]) hx hb d_Math_floorMod_3 rfl hl (by decide) rfl (fun ls hl => ?_)
  refine lv_iload_n hx hb d_Math_floorMod_4 rfl (lv_at hl 1 rfl) ?_
  refine lv_iload_n hx hb d_Math_floorMod_5 rfl (lv_at hl 2 rfl) ?_
  refine lv_ixor hx hb d_Math_floorMod_6 ?_
  refine lv_if_ge (tgt := 18) hx hb d_Math_floorMod_7 (by decide) (fun c_7 => ?_) (fun c_7 => ?_)
  · refine lv_iload_n hx hb d_Math_floorMod_18 rfl (lv_at hl 0 rfl) ?_
    refine hret _ () _ _ _ _ _ _ ?_ hW (by decide) (by decide) d_Math_floorMod_19
    show (x) - (x) / (y) * (y) = fmod x y
    simp only [fmod, if_pos c_7]
  · refine lv_iload_n hx hb d_Math_floorMod_10 rfl (lv_at hl 0 rfl) ?_
    refine lv_if_eq (tgt := 18) hx hb d_Math_floorMod_11 (by decide) (fun c_11 => ?_) (fun c_11 => ?_)
    · refine lv_iload_n hx hb d_Math_floorMod_18 rfl (lv_at hl 0 rfl) ?_
      refine hret _ () _ _ _ _ _ _ ?_ hW (by decide) (by decide) d_Math_floorMod_19
      show (x) - (x) / (y) * (y) = fmod x y
      simp only [fmod, if_neg c_7, if_pos c_11]
    · refine lv_iload_n hx hb d_Math_floorMod_14 rfl (lv_at hl 0 rfl) ?_
      refine lv_iload_n hx hb d_Math_floorMod_15 rfl (lv_at hl 2 rfl) ?_
      refine lv_iadd hx hb d_Math_floorMod_16 ?_
      refine hret _ () _ _ _ _ _ _ ?_ hW (by decide) (by decide) d_Math_floorMod_17
      show ((x) - (x) / (y) * (y)) + (y) = fmod x y
      simp only [fmod, if_neg c_7, if_neg c_11]
abbrev rm_C_isIn : Room := { frames := 0, cells := 0, slots := 0, locals := 0 }
set_option maxHeartbeats 4000000 in
set_option maxRecDepth 100000 in
theorem c_C_isIn (l : Launch) {D : va_G} {cl : List vw_C} {tys : List (ClassId × FieldType)} (w : va_W) (x : Int32) (n : Int32) : MtI l y_C_isIn ws_C_isIn rm_C_isIn D cl tys [.int (x), .int (n)] (w) (fun (rr : Int32) (_ : Unit) => rr = if inI x n then 1 else 0) (fun _ => w) 0 0 := by
  refine mt_i (ty := .boolean) (fun r _ h => by rw [h]; split <;> rfl) (by decide +kernel) rfl (Nat.le_of_ble_eq_true rfl) (fun p e s m args below meth c Q A C hA hW hret ls hl => ?_)
  obtain ⟨hx, hb, hr, hml, hown, hts0, hlocks⟩ := C
  have hts : ∀ w ∈ bigw, w.before args s = true := fun w h => hts0 w (List.mem_cons_of_mem _ h)
  have hown : s.vm.findClass R_C = some m.cls := hown
  have hl : lv_has ls 2 [(0, .int (x)), (1, .int (n))] := hl
  refine lv_iload_n hx hb d_C_isIn_0 rfl (lv_at hl 0 rfl) ?_
  refine lv_if_lt (tgt := 13) hx hb d_C_isIn_1 (by decide) (fun c_1 => ?_) (fun c_1 => ?_)
  · refine lv_iconst (v := 0) hx hb d_C_isIn_13 (by decide) ?_
    refine hret _ () _ _ _ _ _ _ ?_ hW (by decide) (by decide) d_C_isIn_14
    show 0 = if inI x n then (1 : Int32) else 0
    exact ite_f (fun h => h.1 c_1)
  · refine lv_iload_n hx hb d_C_isIn_4 rfl (lv_at hl 0 rfl) ?_
    refine lv_iload_n hx hb d_C_isIn_5 rfl (lv_at hl 1 rfl) ?_
    refine lv_icmp_ge (tgt := 13) hx hb d_C_isIn_6 (by decide) (fun c_6 => ?_) (fun c_6 => ?_)
    · refine lv_iconst (v := 0) hx hb d_C_isIn_13 (by decide) ?_
      refine hret _ () _ _ _ _ _ _ ?_ hW (by decide) (by decide) d_C_isIn_14
      show 0 = if inI x n then (1 : Int32) else 0
      exact ite_f (fun h => i_nlt c_6 h.2)
    · refine lv_iconst (v := 1) hx hb d_C_isIn_9 (by decide) ?_
      refine lv_goto (tgt := 14) hx hb d_C_isIn_10 (by decide) ?_
      refine hret _ () _ _ _ _ _ _ ?_ hW (by decide) (by decide) d_C_isIn_14
      show 1 = if inI x n then (1 : Int32) else 0
      exact ite_t ⟨c_1, i_lt c_6⟩
abbrev rm_C_fitsOp : Room := { frames := 1, cells := 0, slots := 0, locals := 21 }
set_option maxHeartbeats 4000000 in
set_option maxRecDepth 100000 in
theorem c_C_fitsOp (l : Launch) {D : va_G} {cl : List vw_C} {tys : List (ClassId × FieldType)} (w : va_W) (op : Int32) (b : Int32) : MtI l y_C_fitsOp ws_C_fitsOp rm_C_fitsOp D cl tys [.int (op), .int (b)] (w) (fun (rr : Int32) (_ : Unit) => rr = if fitP op b then 1 else 0) (fun _ => w) 0 0 := by
  refine mt_i (ty := .boolean) (fun r _ h => by rw [h]; split <;> rfl) (by decide +kernel) rfl (Nat.le_of_ble_eq_true rfl) (fun p e s m args below meth c Q A C hA hW hret ls hl => ?_)
  obtain ⟨hx, hb, hr, hml, hown, hts0, hlocks⟩ := C
  have hts : ∀ w ∈ bigw, w.before args s = true := fun w h => hts0 w (List.mem_cons_of_mem _ h)
  have hown : s.vm.findClass R_C = some m.cls := hown
  have hl : lv_has ls 2 [(0, .int (op)), (1, .int (b))] := hl
  refine lv_iload_n hx hb d_C_fitsOp_0 rfl (lv_at hl 0 rfl) ?_
  refine lv_if_ne (tgt := 24) hx hb d_C_fitsOp_1 (by decide) (fun c_1 => ?_) (fun c_1 => ?_)
  · refine lv_iload_n hx hb d_C_fitsOp_24 rfl (lv_at hl 1 rfl) ?_
    refine lv_iload_n hx hb d_C_fitsOp_25 rfl (lv_at hl 0 rfl) ?_
    refine lv_iconst (v := 5) hx hb d_C_fitsOp_26 (by decide) ?_
    refine lv_icmp_ne (tgt := 35) hx hb d_C_fitsOp_27 (by decide) (fun c_27 => ?_) (fun c_27 => ?_)
    · refine lv_iconst (v := 4) hx hb d_C_fitsOp_35 (by decide) ?_
      refine wci hW hA (va_runS (As := [.int (b), .int (4)]) (rest := []) ⟨hx, hb, hml, hown, hts⟩ (c_C_isIn l _ (b) (4) _) (cs 2 hts kc_C_isIn ks_C_isIn kn_C km_C_40 kh_C_isIn rfl rfl ⟨by decide, by decide⟩) (preWS hW) rfl rfl hl.1 rfl (lv_room (Nat.le_of_ble_eq_true rfl)) d_C_fitsOp_36 ⟨by decide, by decide⟩) (fun rr1 uu1 H locs hp1 hW => ?_)
      have hW : Wd D cl tys s A (w) H locs := hW
      have hp1 : rr1 = if inI (b) (4) then 1 else 0 := hp1
      refine hret _ () _ _ _ _ _ _ ?_ hW (by decide) (by decide) d_C_fitsOp_39
      show rr1 = if fitP op b then (1 : Int32) else 0
      exact hp1.trans (ite_iff ⟨fun h => Or.inr ⟨c_1, by rw [if_neg c_27]; exact h⟩, fun h => h.elim (fun q => absurd q.1 c_1) (fun q => by have := q.2; rw [if_neg c_27] at this; exact this)⟩)
    · refine lv_bipush (v := 12) hx hb d_C_fitsOp_30 (by decide) ?_
      refine lv_goto (tgt := 36) hx hb d_C_fitsOp_32 (by decide) ?_
      refine wci hW hA (va_runS (As := [.int (b), .int (12)]) (rest := []) ⟨hx, hb, hml, hown, hts⟩ (c_C_isIn l _ (b) (12) _) (cs 2 hts kc_C_isIn ks_C_isIn kn_C km_C_40 kh_C_isIn rfl rfl ⟨by decide, by decide⟩) (preWS hW) rfl rfl hl.1 rfl (lv_room (Nat.le_of_ble_eq_true rfl)) d_C_fitsOp_36 ⟨by decide, by decide⟩) (fun rr2 uu2 H locs hp2 hW => ?_)
      have hW : Wd D cl tys s A (w) H locs := hW
      have hp2 : rr2 = if inI (b) (12) then 1 else 0 := hp2
      refine hret _ () _ _ _ _ _ _ ?_ hW (by decide) (by decide) d_C_fitsOp_39
      show rr2 = if fitP op b then (1 : Int32) else 0
      exact hp2.trans (ite_iff ⟨fun h => Or.inr ⟨c_1, by rw [if_pos c_27]; exact h⟩, fun h => h.elim (fun q => absurd q.1 c_1) (fun q => by have := q.2; rw [if_pos c_27] at this; exact this)⟩)
  · refine lv_iload_n hx hb d_C_fitsOp_4 rfl (lv_at hl 1 rfl) ?_
    refine lv_sipush (v := (-1000)) hx hb d_C_fitsOp_5 (by decide) ?_
    refine lv_icmp_lt (tgt := 22) hx hb d_C_fitsOp_8 (by decide) (fun c_8 => ?_) (fun c_8 => ?_)
    · refine lv_iconst (v := 0) hx hb d_C_fitsOp_22 (by decide) ?_
      refine hret _ () _ _ _ _ _ _ ?_ hW (by decide) (by decide) d_C_fitsOp_23
      show 0 = if fitP op b then (1 : Int32) else 0
      exact ite_f (fun h => h.elim (fun q => q.2.1 c_8) (fun q => q.1 c_1))
    · refine lv_iload_n hx hb d_C_fitsOp_11 rfl (lv_at hl 1 rfl) ?_
      refine lv_sipush (v := 1000) hx hb d_C_fitsOp_12 (by decide) ?_
      refine lv_icmp_gt (tgt := 22) hx hb d_C_fitsOp_15 (by decide) (fun c_15 => ?_) (fun c_15 => ?_)
      · refine lv_iconst (v := 0) hx hb d_C_fitsOp_22 (by decide) ?_
        refine hret _ () _ _ _ _ _ _ ?_ hW (by decide) (by decide) d_C_fitsOp_23
        show 0 = if fitP op b then (1 : Int32) else 0
        exact ite_f (fun h => h.elim (fun q => q.2.2 c_15) (fun q => q.1 c_1))
      · refine lv_iconst (v := 1) hx hb d_C_fitsOp_18 (by decide) ?_
        refine lv_goto (tgt := 23) hx hb d_C_fitsOp_19 (by decide) ?_
        refine hret _ () _ _ _ _ _ _ ?_ hW (by decide) (by decide) d_C_fitsOp_23
        show 1 = if fitP op b then (1 : Int32) else 0
        exact ite_t (Or.inl ⟨c_1, c_8, c_15⟩)
abbrev rm_C_touchesMemory : Room := { frames := 0, cells := 0, slots := 0, locals := 0 }
set_option maxHeartbeats 4000000 in
set_option maxRecDepth 100000 in
theorem c_C_touchesMemory (l : Launch) {D : va_G} {cl : List vw_C} {tys : List (ClassId × FieldType)} (w : va_W) (op : Int32) : MtI l y_C_touchesMemory ws_C_touchesMemory rm_C_touchesMemory D cl tys [.int (op)] (w) (fun (rr : Int32) (_ : Unit) => rr = if op = 2 ∨ op = 3 ∨ op = 4 then 1 else 0) (fun _ => w) 0 0 := by
  refine mt_i (ty := .boolean) (fun r _ h => by rw [h]; split <;> rfl) (by decide +kernel) rfl (Nat.le_of_ble_eq_true rfl) (fun p e s m args below meth c Q A C hA hW hret ls hl => ?_)
  obtain ⟨hx, hb, hr, hml, hown, hts0, hlocks⟩ := C
  have hts : ∀ w ∈ bigw, w.before args s = true := fun w h => hts0 w (List.mem_cons_of_mem _ h)
  have hown : s.vm.findClass R_C = some m.cls := hown
  have hl : lv_has ls 1 [(0, .int (op))] := hl
  refine lv_iload_n hx hb d_C_touchesMemory_0 rfl (lv_at hl 0 rfl) ?_
  refine lv_iconst (v := 2) hx hb d_C_touchesMemory_1 (by decide) ?_
  refine lv_icmp_eq (tgt := 15) hx hb d_C_touchesMemory_2 (by decide) (fun c_2 => ?_) (fun c_2 => ?_)
  · refine lv_iconst (v := 1) hx hb d_C_touchesMemory_15 (by decide) ?_
    refine lv_goto (tgt := 20) hx hb d_C_touchesMemory_16 (by decide) ?_
    refine hret _ () _ _ _ _ _ _ ?_ hW (by decide) (by decide) d_C_touchesMemory_20
    show 1 = if op = 2 ∨ op = 3 ∨ op = 4 then (1 : Int32) else 0
    exact ite_t (Or.inl c_2)
  · refine lv_iload_n hx hb d_C_touchesMemory_5 rfl (lv_at hl 0 rfl) ?_
    refine lv_iconst (v := 3) hx hb d_C_touchesMemory_6 (by decide) ?_
    refine lv_icmp_eq (tgt := 15) hx hb d_C_touchesMemory_7 (by decide) (fun c_7 => ?_) (fun c_7 => ?_)
    · refine lv_iconst (v := 1) hx hb d_C_touchesMemory_15 (by decide) ?_
      refine lv_goto (tgt := 20) hx hb d_C_touchesMemory_16 (by decide) ?_
      refine hret _ () _ _ _ _ _ _ ?_ hW (by decide) (by decide) d_C_touchesMemory_20
      show 1 = if op = 2 ∨ op = 3 ∨ op = 4 then (1 : Int32) else 0
      exact ite_t (Or.inr (Or.inl c_7))
    · refine lv_iload_n hx hb d_C_touchesMemory_10 rfl (lv_at hl 0 rfl) ?_
      refine lv_iconst (v := 4) hx hb d_C_touchesMemory_11 (by decide) ?_
      refine lv_icmp_ne (tgt := 19) hx hb d_C_touchesMemory_12 (by decide) (fun c_12 => ?_) (fun c_12 => ?_)
      · refine lv_iconst (v := 0) hx hb d_C_touchesMemory_19 (by decide) ?_
        refine hret _ () _ _ _ _ _ _ ?_ hW (by decide) (by decide) d_C_touchesMemory_20
        show 0 = if op = 2 ∨ op = 3 ∨ op = 4 then (1 : Int32) else 0
        exact ite_f (fun h => h.elim c_2 (fun h => h.elim c_7 c_12))
      · refine lv_iconst (v := 1) hx hb d_C_touchesMemory_15 (by decide) ?_
        refine lv_goto (tgt := 20) hx hb d_C_touchesMemory_16 (by decide) ?_
        refine hret _ () _ _ _ _ _ _ ?_ hW (by decide) (by decide) d_C_touchesMemory_20
        show 1 = if op = 2 ∨ op = 3 ∨ op = 4 then (1 : Int32) else 0
        exact ite_t (Or.inr (Or.inr c_12))
abbrev rm_C_addressOf : Room := { frames := 1, cells := 0, slots := 0, locals := 22 }
set_option maxHeartbeats 4000000 in
set_option maxRecDepth 100000 in
theorem c_C_addressOf (l : Launch) {D : va_G} {cl : List vw_C} {tys : List (ClassId × FieldType)} (w : va_W) (x : Int32) : MtI l y_C_addressOf ws_C_addressOf rm_C_addressOf D cl tys [.int (x)] (w) (fun (rr : Int32) (_ : Unit) => rr = fmod x 32) (fun _ => w) 0 0 := by
  refine mt_i (ty := .int) (fun _ _ _ => rfl) (by decide +kernel) rfl (Nat.le_of_ble_eq_true rfl) (fun p e s m args below meth c Q A C hA hW hret ls hl => ?_)
  obtain ⟨hx, hb, hr, hml, hown, hts0, hlocks⟩ := C
  have hts : ∀ w ∈ bigw, w.before args s = true := fun w h => hts0 w (List.mem_cons_of_mem _ h)
  have hown : s.vm.findClass R_C = some m.cls := hown
  have hl : lv_has ls 1 [(0, .int (x))] := hl
  refine lv_iload_n hx hb d_C_addressOf_0 rfl (lv_at hl 0 rfl) ?_
  refine lv_bipush (v := 32) hx hb d_C_addressOf_1 (by decide) ?_
  refine wci hW hA (va_runS (As := [.int (x), .int (32)]) (rest := []) ⟨hx, hb, hml, hown, hts⟩ (c_Math_floorMod l _ (x) (32) (by decide) _) (cs 2 hts kc_Math_floorMod ks_Math_floorMod kn_Math km_C_143 kh_Math_floorMod rfl rfl ⟨by decide, by decide⟩) (preWS hW) rfl rfl hl.1 rfl (lv_room (Nat.le_of_ble_eq_true rfl)) d_C_addressOf_3 ⟨by decide, by decide⟩) (fun rr1 uu1 H locs hp1 hW => ?_)
  have hW : Wd D cl tys s A (w) H locs := hW
  have hp1 : rr1 = fmod (x) (32) := hp1
  subst hp1
  refine hret _ () _ _ _ _ _ _ ?_ hW (by decide) (by decide) d_C_addressOf_6
  show fmod (x) (32) = fmod x 32
  rfl
abbrev rm_Line_append : Room := { frames := 0, cells := 0, slots := 0, locals := 0 }
set_option maxHeartbeats 4000000 in
set_option maxRecDepth 100000 in
theorem c_Line_append (l : Launch) {D : va_G} {g : Nat → ClassId} {ad : Nat → Nat} {np : Nat} {v : Vs} (k : Nat) (hk : isLn k) (x : Int32) (hO : Ok np v) (h0 : 0 < np) (hx0 : okIt np x) : MtV l y_Line_append ws_Line_append rm_Line_append D classes (tysA g) [.ref (ad (k)), .int (x)] (wC g ad np (v)) (fun _ : Unit => True) (fun _ => wC g ad np (cApp v k x)) 0 0 := by
  refine mt_v (by decide +kernel) rfl (Nat.le_of_ble_eq_true rfl) (fun p e s m args below meth c Q A C hnm hA hW hret ls hl => ?_)
  obtain ⟨hx, hb, hr, hml, hown, hts0, hlocks⟩ := C
  have hts : ∀ w ∈ bigw, w.before args s = true := fun w h => hts0 w (List.mem_cons_of_mem _ h)
  have hown : s.vm.findClass R_Line = some m.cls := hown
  have hnp := hO.le
  have hl : lv_has ls 2 [(0, .ref (ad (k))), (1, .int (x))] := hl
  refine lv_aload_n hx hb d_Line_append_0 rfl (lv_at hl 0 rfl) ?_
  refine wg hx hb hts i_Line hown hW (k) (by have := ln_lt hk; omega) (mk_line hk) rfl 1 (by decide) (hts _ kf_Line_15) rfl d_Line_append_1 ?_
  obtain ⟨e1, b1⟩ := hO.size hk
  refine lv_bipush (v := 8) hx hb d_Line_append_4 (by decide) ?_
  refine lv_icmp_ge (tgt := 29) hx hb d_Line_append_6 (by decide) (fun c_6 => ?_) (fun c_6 => ?_)
  · have nc_6 : 8 ≤ nv v (k) 1 := ni_le rfl e1 (by omega) (by omega) c_6
    have hfin : cApp v k x = v := by
      skip
      simp only [cApp, if_pos c_6]
    exact hret () _ _ _ _ _ _ trivial (by show Wd D classes (tysA g) s A (wC g ad np (cApp v k x)) _ _; rw [hfin]; exact hW) (by decide) (by decide) d_Line_append_29
  · have nc_6 : nv v (k) 1 < 8 := ni_nle rfl e1 (by omega) (by omega) c_6
    refine lv_aload_n hx hb d_Line_append_9 rfl (lv_at hl 0 rfl) ?_
    refine wg hx hb hts i_Line hown hW (k) (by have := ln_lt hk; omega) (mk_line hk) rfl 0 (by decide) (hts _ kf_Line_9) rfl d_Line_append_10 ?_
    refine lv_aload_n hx hb d_Line_append_13 rfl (lv_at hl 0 rfl) ?_
    refine wg hx hb hts i_Line hown hW (k) (by have := ln_lt hk; omega) (mk_line hk) rfl 1 (by decide) (hts _ kf_Line_15) rfl d_Line_append_14 ?_
    obtain ⟨e2, b2⟩ := hO.size hk
    refine lv_iload_n hx hb d_Line_append_17 rfl (lv_at hl 1 rfl) ?_
    refine wis hx hb hW (k + 1) (by have := ln_lt hk; omega) (mk_items hk) 0 rfl (nv v (k) 1) e2 (by omega) (by decide) (x := x) (mk_items hk) d_Line_append_18 (fun H locs hW => ?_)
    obtain ⟨v3, ev3⟩ : ∃ z : Vs, z = u2 v (k + 1) (nv v (k) 1) (x) := ⟨_, rfl⟩
    rw [← ev3] at hW
    have hO3 : Ok np v3 := by rw [ev3]; exact hO.set (by have := ln_lt hk; omega) (okS_it hk hx0)
    have ha : nv v3 k 1 = nv v k 1 := by unfold nv; rw [ev3, u2_a (by omega)]
    refine lv_aload_n hx hb d_Line_append_19 rfl (lv_at hl 0 rfl) ?_
    refine lv_dup hx hb d_Line_append_20 rfl ?_
    refine wg hx hb hts i_Line hown hW (k) (by have := ln_lt hk; omega) (mk_line hk) rfl 1 (by decide) (hts _ kf_Line_15) rfl d_Line_append_21 ?_
    obtain ⟨e4, b4⟩ := hO3.size hk
    refine lv_iconst (v := 1) hx hb d_Line_append_24 (by decide) ?_
    refine lv_iadd hx hb d_Line_append_25 ?_
    refine wp hx hb hts i_Line t_Line t_Line_ok n_Line hown hW (k) (by have := ln_lt hk; omega) (mk_line hk) rfl 1 (by decide) (hts _ kf_Line_15) rfl (by decide +kernel) (x := (v3 (k) 1) + (1)) (Nat.le_of_ble_eq_true rfl) ((mk_line hk).trans rfl) d_Line_append_26 (fun H locs hW => ?_)
    obtain ⟨v5, ev5⟩ : ∃ z : Vs, z = u2 v3 (k) 1 ((v3 (k) 1) + (1)) := ⟨_, rfl⟩
    rw [← ev5] at hW
    have hO5 : Ok np v5 := by rw [ev5]; exact hO3.set (by have := ln_lt hk; omega) (okS_sz hk ⟨nv v3 (k) 1 + 1, by omega, (ni_add e4 rfl), by omega⟩)
    have hfin : cApp v k x = v5 := by
      subst ev5 ev3
      simp only [cApp, if_neg c_6]
    exact hret () _ _ _ _ _ _ trivial (by show Wd D classes (tysA g) s A (wC g ad np (cApp v k x)) _ _; rw [hfin]; exact hW) (by decide) (by decide) d_Line_append_29
abbrev rm_Line_remove : Room := { frames := 0, cells := 0, slots := 0, locals := 0 }
set_option maxHeartbeats 4000000 in
set_option maxRecDepth 100000 in
theorem c_Line_remove (l : Launch) {D : va_G} {g : Nat → ClassId} {ad : Nat → Nat} {np : Nat} {v : Vs} (k : Nat) (hk : isLn k) (x : Int32) (hO : Ok np v) (h0 : 0 < np) : MtV l y_Line_remove ws_Line_remove rm_Line_remove D classes (tysA g) [.ref (ad (k)), .int (x)] (wC g ad np (v)) (fun _ : Unit => True) (fun _ => wC g ad np (cRem v k x)) 0 0 := by
  refine mt_v (by decide +kernel) rfl (Nat.le_of_ble_eq_true rfl) (fun p e s m args below meth c Q A C hnm hA hW hret ls hl => ?_)
  obtain ⟨hx, hb, hr, hml, hown, hts0, hlocks⟩ := C
  have hts : ∀ w ∈ bigw, w.before args s = true := fun w h => hts0 w (List.mem_cons_of_mem _ h)
  have hown : s.vm.findClass R_Line = some m.cls := hown
  have hnp := hO.le
  have hl : lv_has ls 4 [(0, .ref (ad (k))), (1, .int (x))] := hl
  refine lv_iconst (v := 0) hx hb d_Line_remove_0 (by decide) ?_
  refine lv_istore_n (lv' := [(2, .int (0)), (0, .ref (ad (k))), (1, .int (x))]) hx hb d_Line_remove_1 rfl hl (by decide) rfl (fun ls hl => ?_)
  refine lv_iconst (v := 0) hx hb d_Line_remove_2 (by decide) ?_
  refine lv_istore_n (lv' := [(3, .int (0)), (2, .int (0)), (0, .ref (ad (k))), (1, .int (x))]) hx hb d_Line_remove_3 rfl hl (by decide) rfl (fun ls hl => ?_)
  have loop : ∀ (r i kept : Nat) (vc : Vs) (H : Heap) (locs : List Loc) (ls : Array Slot), Ok np vc → nv vc k 1 = i + r → kept ≤ i → cRemL k x r i kept vc = cRem v k x → Wd D classes (tysA g) s A (wC g ad np vc) H locs → lv_has ls 4 [(0, .ref (ad (k))), (1, .int (x)), (2, .int (nI (kept))), (3, .int (nI (i)))] → W p l e rm_Line_remove s m args below meth c H locs 0 0 Q (F0 m 4 ls []) := by
    intro r
    induction r with
    | zero =>
      intro i kept vc H locs ls hOc hsz hki hT hW hl
      refine lv_iload_n hx hb d_Line_remove_4 rfl (lv_at hl 3 rfl) ?_
      refine lv_aload_n hx hb d_Line_remove_5 rfl (lv_at hl 0 rfl) ?_
      refine wg hx hb hts i_Line hown hW (k) (by have := ln_lt hk; omega) (mk_line hk) rfl 1 (by decide) (hts _ kf_Line_15) rfl d_Line_remove_6 ?_
      obtain ⟨e1, b1⟩ := hOc.size hk
      refine lv_icmp_ge (tgt := 43) hx hb d_Line_remove_9 (by decide) (fun c_9 => ?_) (fun c_9 => ?_)
      · have nc_9 : nv vc (k) 1 ≤ i := ni_le e1 rfl (by omega) (by omega) c_9
        refine lv_aload_n hx hb d_Line_remove_43 rfl (lv_at hl 0 rfl) ?_
        refine lv_iload_n hx hb d_Line_remove_44 rfl (lv_at hl 2 rfl) ?_
        refine wp hx hb hts i_Line t_Line t_Line_ok n_Line hown hW (k) (by have := ln_lt hk; omega) (mk_line hk) rfl 1 (by decide) (hts _ kf_Line_15) rfl (by decide +kernel) (x := nI (kept)) (Nat.le_of_ble_eq_true rfl) ((mk_line hk).trans rfl) d_Line_remove_45 (fun H locs hW => ?_)
        obtain ⟨v2, ev2⟩ : ∃ z : Vs, z = u2 vc (k) 1 (nI (kept)) := ⟨_, rfl⟩
        rw [← ev2] at hW
        have hO2 : Ok np v2 := by rw [ev2]; exact hOc.set (by have := ln_lt hk; omega) (okS_sz hk ⟨kept, by omega, rfl, by omega⟩)
        have hfin : cRem v k x = v2 := by
          rw [← hT]; subst ev2; rfl
        exact hret () _ _ _ _ _ _ trivial (by show Wd D classes (tysA g) s A (wC g ad np (cRem v k x)) H locs; rw [hfin]; exact hW) (by decide) (by decide) d_Line_remove_48
      · have nc_9 : i < nv vc (k) 1 := ni_nle e1 rfl (by omega) (by omega) c_9
        exfalso; omega
    | succ r ih =>
      intro i kept vc H locs ls hOc hsz hki hT hW hl
      refine lv_iload_n hx hb d_Line_remove_4 rfl (lv_at hl 3 rfl) ?_
      refine lv_aload_n hx hb d_Line_remove_5 rfl (lv_at hl 0 rfl) ?_
      refine wg hx hb hts i_Line hown hW (k) (by have := ln_lt hk; omega) (mk_line hk) rfl 1 (by decide) (hts _ kf_Line_15) rfl d_Line_remove_6 ?_
      obtain ⟨e3, b3⟩ := hOc.size hk
      refine lv_icmp_ge (tgt := 43) hx hb d_Line_remove_9 (by decide) (fun c_9 => ?_) (fun c_9 => ?_)
      · have nc_9 : nv vc (k) 1 ≤ i := ni_le e3 rfl (by omega) (by omega) c_9
        exfalso; omega
      · have nc_9 : i < nv vc (k) 1 := ni_nle e3 rfl (by omega) (by omega) c_9
        refine lv_aload_n hx hb d_Line_remove_12 rfl (lv_at hl 0 rfl) ?_
        refine wg hx hb hts i_Line hown hW (k) (by have := ln_lt hk; omega) (mk_line hk) rfl 0 (by decide) (hts _ kf_Line_9) rfl d_Line_remove_13 ?_
        refine lv_iload_n hx hb d_Line_remove_16 rfl (lv_at hl 3 rfl) ?_
        refine wi hx hb hW (k + 1) (by have := ln_lt hk; omega) (mk_items hk) 0 rfl (i) rfl (by omega) (by decide) d_Line_remove_17 ?_
        obtain ⟨e4, b4⟩ := hOc.item hk (i) (by omega)
        refine lv_iload_n hx hb d_Line_remove_18 rfl (lv_at hl 1 rfl) ?_
        refine lv_icmp_eq (tgt := 37) hx hb d_Line_remove_19 (by decide) (fun c_19 => ?_) (fun c_19 => ?_)
        · refine lv_iinc (v := nI (i + 1)) (lv' := [(3, .int (nI (i + 1))), (0, .ref (ad (k))), (1, .int (x)), (2, .int (nI (kept)))]) hx hb d_Line_remove_37 hl (k := 3) rfl (nI_1 _) (by decide) rfl (fun ls hl => ?_)
          refine lv_goto (tgt := 4) hx hb d_Line_remove_40 (by decide) ?_
          refine ih (i + 1) (kept) vc _ _ _ hOc ?_ (by omega) ?_ hW (lv_sub hl [1, 2, 3, 0] rfl)
          · omega
          · rw [← hT, cRemL, if_pos c_19]
        · refine lv_aload_n hx hb d_Line_remove_22 rfl (lv_at hl 0 rfl) ?_
          refine wg hx hb hts i_Line hown hW (k) (by have := ln_lt hk; omega) (mk_line hk) rfl 0 (by decide) (hts _ kf_Line_9) rfl d_Line_remove_23 ?_
          refine lv_iload_n hx hb d_Line_remove_26 rfl (lv_at hl 2 rfl) ?_
          refine lv_aload_n hx hb d_Line_remove_27 rfl (lv_at hl 0 rfl) ?_
          refine wg hx hb hts i_Line hown hW (k) (by have := ln_lt hk; omega) (mk_line hk) rfl 0 (by decide) (hts _ kf_Line_9) rfl d_Line_remove_28 ?_
          refine lv_iload_n hx hb d_Line_remove_31 rfl (lv_at hl 3 rfl) ?_
          refine wi hx hb hW (k + 1) (by have := ln_lt hk; omega) (mk_items hk) 0 rfl (i) rfl (by omega) (by decide) d_Line_remove_32 ?_
          obtain ⟨e5, b5⟩ := hOc.item hk (i) (by omega)
          refine wis hx hb hW (k + 1) (by have := ln_lt hk; omega) (mk_items hk) 0 rfl (kept) rfl (by omega) (by decide) (x := vc (k + 1) (i)) (mk_items hk) d_Line_remove_33 (fun H locs hW => ?_)
          obtain ⟨v6, ev6⟩ : ∃ z : Vs, z = u2 vc (k + 1) (kept) (vc (k + 1) (i)) := ⟨_, rfl⟩
          rw [← ev6] at hW
          have hO6 : Ok np v6 := by rw [ev6]; exact hOc.set (by have := ln_lt hk; omega) (okS_it hk ⟨nv vc (k + 1) (i), e5, by omega⟩)
          refine lv_iinc (v := nI (kept + 1)) (lv' := [(2, .int (nI (kept + 1))), (0, .ref (ad (k))), (1, .int (x)), (3, .int (nI (i)))]) hx hb d_Line_remove_34 hl (k := 2) rfl (nI_1 _) (by decide) rfl (fun ls hl => ?_)
          refine lv_iinc (v := nI (i + 1)) (lv' := [(3, .int (nI (i + 1))), (2, .int (nI (kept + 1))), (0, .ref (ad (k))), (1, .int (x))]) hx hb d_Line_remove_37 hl (k := 3) rfl (nI_1 _) (by decide) rfl (fun ls hl => ?_)
          refine lv_goto (tgt := 4) hx hb d_Line_remove_40 (by decide) ?_
          refine ih (i + 1) (kept + 1) v6 _ _ _ hO6 ?_ (by omega) ?_ hW (lv_sub hl [2, 3, 1, 0] rfl)
          · subst ev6; unfold nv at hsz ⊢; rw [u2_a (by omega)]; omega
          · rw [← hT, cRemL, if_neg c_19]; subst ev6; rfl
  exact loop (nv v k 1) 0 0 v _ _ _ hO (by omega) (Nat.le_refl _) rfl hW (lv_sub hl [2, 3, 1, 0] rfl)
abbrev rm_C_joinLine : Room := { frames := 1, cells := 0, slots := 0, locals := 21 }
set_option maxHeartbeats 4000000 in
set_option maxRecDepth 100000 in
theorem c_C_joinLine (l : Launch) {D : va_G} {g : Nat → ClassId} {ad : Nat → Nat} {np : Nat} {v : Vs} (i : Nat) (hi : i < np) (hO : Ok np v) : MtV l y_C_joinLine ws_C_joinLine rm_C_joinLine D classes (tysA g) [.ref (ad (0)), .ref (ad (68 + 3 * i))] (wC g ad np (v)) (fun _ : Unit => True) (fun _ => wC g ad np (cJoin v i)) 0 0 := by
  refine mt_v (by decide +kernel) rfl (Nat.le_of_ble_eq_true rfl) (fun p e s m args below meth c Q A C hnm hA hW hret ls hl => ?_)
  obtain ⟨hx, hb, hr, hml, hown, hts0, hlocks⟩ := C
  have hts : ∀ w ∈ bigw, w.before args s = true := fun w h => hts0 w (List.mem_cons_of_mem _ h)
  have hown : s.vm.findClass R_C = some m.cls := hown
  have hnp := hO.le
  have hl : lv_has ls 2 [(0, .ref (ad (0))), (1, .ref (ad (68 + 3 * i)))] := hl
  refine lv_aload_n hx hb d_C_joinLine_0 rfl (lv_at hl 1 rfl) ?_
  refine lv_iconst (v := 1) hx hb d_C_joinLine_1 (by decide) ?_
  refine wp hx hb hts i_Proc t_Proc t_Proc_ok n_Proc hown hW (68 + 3 * i) (by omega) mk_proc rfl 5 (by decide) (hts _ kf_C_70) rfl (by decide +kernel) (x := 1) (Nat.le_of_ble_eq_true rfl) (mk_proc.trans rfl) d_C_joinLine_2 (fun H locs hW => ?_)
  obtain ⟨v1, ev1⟩ : ∃ z : Vs, z = u2 v (68 + 3 * i) 5 (1) := ⟨_, rfl⟩
  rw [← ev1] at hW
  have hO1 : Ok np v1 := by rw [ev1]; exact hO.set (by omega) (okS_free (by omega))
  refine lv_aload_n hx hb d_C_joinLine_5 rfl (lv_at hl 1 rfl) ?_
  refine lv_iconst (v := 0) hx hb d_C_joinLine_6 (by decide) ?_
  refine wp hx hb hts i_Proc t_Proc t_Proc_ok n_Proc hown hW (68 + 3 * i) (by omega) mk_proc rfl 7 (by decide) (hts _ kf_C_105) rfl (by decide +kernel) (x := 0) (Nat.le_of_ble_eq_true rfl) (mk_proc.trans rfl) d_C_joinLine_7 (fun H locs hW => ?_)
  obtain ⟨v2, ev2⟩ : ∃ z : Vs, z = u2 v1 (68 + 3 * i) 7 (0) := ⟨_, rfl⟩
  rw [← ev2] at hW
  have hO2 : Ok np v2 := by rw [ev2]; exact hO1.set (by omega) (okS_free (by omega))
  refine lv_aload_n hx hb d_C_joinLine_10 rfl (lv_at hl 0 rfl) ?_
  refine wg hx hb hts i_C hown hW (0) (by omega) mk_root rfl 2 (by decide) (hts _ kf_C_23) rfl d_C_joinLine_11 ?_
  refine lv_aload_n hx hb d_C_joinLine_14 rfl (lv_at hl 1 rfl) ?_
  refine wg hx hb hts i_Proc hown hW (68 + 3 * i) (by omega) mk_proc rfl 4 (by decide) (hts _ kf_C_88) rfl d_C_joinLine_15 ?_
  obtain ⟨e3, b3⟩ := hO2.place hi
  have hk4 : isLn (22 + 2 * (nv v2 (68 + 3 * i) 4)) := ln_node (by omega)
  refine wa hx hb hW 3 (by omega) mk_lines 3 rfl (nv v2 (68 + 3 * i) 4) e3 (by omega) (by decide) (if_pos (by omega)) d_C_joinLine_18 ?_
  refine lv_aload_n hx hb d_C_joinLine_19 rfl (lv_at hl 1 rfl) ?_
  refine wg hx hb hts i_Proc hown hW (68 + 3 * i) (by omega) mk_proc rfl 0 (by decide) (hts _ kf_C_73) rfl d_C_joinLine_20 ?_
  obtain ⟨e5, b5⟩ := hO2.number hi
  refine wcv hW hA (va_runV (As := [.int (v2 (68 + 3 * i) 0)]) (rest := []) ⟨hx, hb, hml, hown, hts⟩ (c_Line_append l (22 + 2 * (nv v2 (68 + 3 * i) 4)) hk4 (v2 (68 + 3 * i) 0) hO2 (by omega) ⟨i, e5, by omega⟩ _) (cv 1 hts kc_Line_append ki_Line_append ke_Line_append kn_Line km_C_150 kh_Line_append rfl rfl ⟨by decide, by decide⟩) (preW hW rfl rfl (mw_get (by have := ln_lt hk4; omega) (mk_line hk4))) rfl rfl hl.1 rfl (lv_room (Nat.le_of_ble_eq_true rfl)) d_C_joinLine_23 ⟨by decide, by decide⟩) (fun uu6 H locs hp6 hW => ?_)
  have hW : Wd D classes (tysA g) s A (wC g ad np (cApp v2 (22 + 2 * (nv v2 (68 + 3 * i) 4)) (v2 (68 + 3 * i) 0))) H locs := hW
  obtain ⟨v7, ev7⟩ : ∃ z : Vs, z = cApp v2 (22 + 2 * (nv v2 (68 + 3 * i) 4)) (v2 (68 + 3 * i) 0) := ⟨_, rfl⟩
  rw [← ev7] at hW
  have hO7 : Ok np v7 := by rw [ev7]; exact hO2.app hk4 (by omega) ⟨i, e5, by omega⟩
  have hfin : cJoin v i = v7 := by
    subst ev7 ev2 ev1
    rfl
  exact hret () _ _ _ _ _ _ trivial (by show Wd D classes (tysA g) s A (wC g ad np (cJoin v i)) _ _; rw [hfin]; exact hW) (by decide) (by decide) d_C_joinLine_26
abbrev rm_C_leaveLine : Room := { frames := 1, cells := 0, slots := 0, locals := 23 }
set_option maxHeartbeats 4000000 in
set_option maxRecDepth 100000 in
theorem c_C_leaveLine (l : Launch) {D : va_G} {g : Nat → ClassId} {ad : Nat → Nat} {np : Nat} {v : Vs} (i : Nat) (hi : i < np) (st : Int32) (hO : Ok np v) : MtV l y_C_leaveLine ws_C_leaveLine rm_C_leaveLine D classes (tysA g) [.ref (ad (0)), .ref (ad (68 + 3 * i)), .int (st)] (wC g ad np (v)) (fun _ : Unit => True) (fun _ => wC g ad np (cLeave v i st)) 0 0 := by
  refine mt_v (by decide +kernel) rfl (Nat.le_of_ble_eq_true rfl) (fun p e s m args below meth c Q A C hnm hA hW hret ls hl => ?_)
  obtain ⟨hx, hb, hr, hml, hown, hts0, hlocks⟩ := C
  have hts : ∀ w ∈ bigw, w.before args s = true := fun w h => hts0 w (List.mem_cons_of_mem _ h)
  have hown : s.vm.findClass R_C = some m.cls := hown
  have hnp := hO.le
  have hl : lv_has ls 3 [(0, .ref (ad (0))), (1, .ref (ad (68 + 3 * i))), (2, .int (st))] := hl
  refine lv_aload_n hx hb d_C_leaveLine_0 rfl (lv_at hl 0 rfl) ?_
  refine wg hx hb hts i_C hown hW (0) (by omega) mk_root rfl 2 (by decide) (hts _ kf_C_23) rfl d_C_leaveLine_1 ?_
  refine lv_aload_n hx hb d_C_leaveLine_4 rfl (lv_at hl 1 rfl) ?_
  refine wg hx hb hts i_Proc hown hW (68 + 3 * i) (by omega) mk_proc rfl 4 (by decide) (hts _ kf_C_88) rfl d_C_leaveLine_5 ?_
  obtain ⟨e1, b1⟩ := hO.place hi
  have hk2 : isLn (22 + 2 * (nv v (68 + 3 * i) 4)) := ln_node (by omega)
  refine wa hx hb hW 3 (by omega) mk_lines 3 rfl (nv v (68 + 3 * i) 4) e1 (by omega) (by decide) (if_pos (by omega)) d_C_leaveLine_8 ?_
  refine lv_aload_n hx hb d_C_leaveLine_9 rfl (lv_at hl 1 rfl) ?_
  refine wg hx hb hts i_Proc hown hW (68 + 3 * i) (by omega) mk_proc rfl 0 (by decide) (hts _ kf_C_73) rfl d_C_leaveLine_10 ?_
  obtain ⟨e3, b3⟩ := hO.number hi
  refine wcv hW hA (va_runV (As := [.int (v (68 + 3 * i) 0)]) (rest := []) ⟨hx, hb, hml, hown, hts⟩ (c_Line_remove l (22 + 2 * (nv v (68 + 3 * i) 4)) hk2 (v (68 + 3 * i) 0) hO (by omega) _) (cv 1 hts kc_Line_remove ki_Line_remove ke_Line_remove kn_Line km_C_80 kh_Line_remove rfl rfl ⟨by decide, by decide⟩) (preW hW rfl rfl (mw_get (by have := ln_lt hk2; omega) (mk_line hk2))) rfl rfl hl.1 rfl (lv_room (Nat.le_of_ble_eq_true rfl)) d_C_leaveLine_13 ⟨by decide, by decide⟩) (fun uu4 H locs hp4 hW => ?_)
  have hW : Wd D classes (tysA g) s A (wC g ad np (cRem v (22 + 2 * (nv v (68 + 3 * i) 4)) (v (68 + 3 * i) 0))) H locs := hW
  obtain ⟨v5, ev5⟩ : ∃ z : Vs, z = cRem v (22 + 2 * (nv v (68 + 3 * i) 4)) (v (68 + 3 * i) 0) := ⟨_, rfl⟩
  rw [← ev5] at hW
  have hO5 : Ok np v5 := by rw [ev5]; exact hO.rem hk2 (by omega)
  refine lv_aload_n hx hb d_C_leaveLine_16 rfl (lv_at hl 1 rfl) ?_
  refine lv_iload_n hx hb d_C_leaveLine_17 rfl (lv_at hl 2 rfl) ?_
  refine wp hx hb hts i_Proc t_Proc t_Proc_ok n_Proc hown hW (68 + 3 * i) (by omega) mk_proc rfl 5 (by decide) (hts _ kf_C_70) rfl (by decide +kernel) (x := st) (Nat.le_of_ble_eq_true rfl) (mk_proc.trans rfl) d_C_leaveLine_18 (fun H locs hW => ?_)
  obtain ⟨v6, ev6⟩ : ∃ z : Vs, z = u2 v5 (68 + 3 * i) 5 (st) := ⟨_, rfl⟩
  rw [← ev6] at hW
  have hO6 : Ok np v6 := by rw [ev6]; exact hO5.set (by omega) (okS_free (by omega))
  have hfin : cLeave v i st = v6 := by
    subst ev6 ev5
    rfl
  exact hret () _ _ _ _ _ _ trivial (by show Wd D classes (tysA g) s A (wC g ad np (cLeave v i st)) _ _; rw [hfin]; exact hW) (by decide) (by decide) d_C_leaveLine_21
abbrev rm_C_endProcess : Room := { frames := 2, cells := 0, slots := 0, locals := 45 }
set_option maxHeartbeats 4000000 in
set_option maxRecDepth 100000 in
theorem c_C_endProcess (l : Launch) {D : va_G} {g : Nat → ClassId} {ad : Nat → Nat} {np : Nat} {v : Vs} (i : Nat) (hi : i < np) (code : Int32) (hO : Ok np v) : MtV l y_C_endProcess ws_C_endProcess rm_C_endProcess D classes (tysA g) [.ref (ad (0)), .ref (ad (68 + 3 * i)), .int (code)] (wC g ad np (v)) (fun _ : Unit => True) (fun _ => wC g ad np (cEnd np v i code)) 0 0 := by
  refine mt_v (by decide +kernel) rfl (Nat.le_of_ble_eq_true rfl) (fun p e s m args below meth c Q A C hnm hA hW hret ls hl => ?_)
  obtain ⟨hx, hb, hr, hml, hown, hts0, hlocks⟩ := C
  have hts : ∀ w ∈ bigw, w.before args s = true := fun w h => hts0 w (List.mem_cons_of_mem _ h)
  have hown : s.vm.findClass R_C = some m.cls := hown
  have hnp := hO.le
  have hl : lv_has ls 5 [(0, .ref (ad (0))), (1, .ref (ad (68 + 3 * i))), (2, .int (code))] := hl
  refine lv_aload_n hx hb d_C_endProcess_0 rfl (lv_at hl 0 rfl) ?_
  refine lv_aload_n hx hb d_C_endProcess_1 rfl (lv_at hl 1 rfl) ?_
  refine lv_iconst (v := 4) hx hb d_C_endProcess_2 (by decide) ?_
  refine wcv hW hA (va_runV (As := [.ref (ad (68 + 3 * i)), .int (4)]) (rest := []) ⟨hx, hb, hml, hown, hts⟩ (c_C_leaveLine l i hi (4) hO _) (cv 2 hts kc_C_leaveLine ki_C_leaveLine ke_C_leaveLine kn_C km_C_153 kh_C_leaveLine rfl rfl ⟨by decide, by decide⟩) (preW hW rfl rfl (mw_get (by omega) mk_root)) rfl rfl hl.1 rfl (lv_room (Nat.le_of_ble_eq_true rfl)) d_C_endProcess_3 ⟨by decide, by decide⟩) (fun uu1 H locs hp1 hW => ?_)
  have hW : Wd D classes (tysA g) s A (wC g ad np (cLeave v i (4))) H locs := hW
  obtain ⟨v2, ev2⟩ : ∃ z : Vs, z = cLeave v i (4) := ⟨_, rfl⟩
  rw [← ev2] at hW
  have hO2 : Ok np v2 := by rw [ev2]; exact hO.leave hi
  refine lv_aload_n hx hb d_C_endProcess_6 rfl (lv_at hl 1 rfl) ?_
  refine lv_iload_n hx hb d_C_endProcess_7 rfl (lv_at hl 2 rfl) ?_
  refine wp hx hb hts i_Proc t_Proc t_Proc_ok n_Proc hown hW (68 + 3 * i) (by omega) mk_proc rfl 8 (by decide) (hts _ kf_C_108) rfl (by decide +kernel) (x := code) (Nat.le_of_ble_eq_true rfl) (mk_proc.trans rfl) d_C_endProcess_8 (fun H locs hW => ?_)
  obtain ⟨v3, ev3⟩ : ∃ z : Vs, z = u2 v2 (68 + 3 * i) 8 (code) := ⟨_, rfl⟩
  rw [← ev3] at hW
  have hO3 : Ok np v3 := by rw [ev3]; exact hO2.set (by omega) (okS_free (by omega))
  refine lv_iconst (v := 0) hx hb d_C_endProcess_11 (by decide) ?_
  refine lv_istore_n (lv' := [(3, .int (0)), (0, .ref (ad (0))), (1, .ref (ad (68 + 3 * i))), (2, .int (code))]) hx hb d_C_endProcess_12 rfl hl (by decide) rfl (fun ls hl => ?_)
  have loop : ∀ (r j : Nat) (vc : Vs) (H : Heap) (locs : List Loc) (ls : Array Slot), Ok np vc → np = j + r → cWk i r j vc = cEnd np v i code → Wd D classes (tysA g) s A (wC g ad np vc) H locs → lv_has ls 5 [(0, .ref (ad (0))), (1, .ref (ad (68 + 3 * i))), (3, .int (nI (j)))] → W p l e rm_C_endProcess s m args below meth c H locs 0 0 Q (F0 m 13 ls []) := by
    intro r
    induction r with
    | zero =>
      intro j vc H locs ls hOc hnp hT hW hl
      refine lv_iload_n hx hb d_C_endProcess_13 rfl (lv_at hl 2 rfl) ?_
      refine lv_aload_n hx hb d_C_endProcess_14 rfl (lv_at hl 0 rfl) ?_
      refine wg hx hb hts i_C hown hW (0) (by omega) mk_root rfl 5 (by decide) (hts _ kf_C_55) rfl d_C_endProcess_15 ?_
      obtain ⟨e4, b4⟩ := hOc.made
      refine lv_icmp_ge (tgt := 62) hx hb d_C_endProcess_18 (by decide) (fun c_18 => ?_) (fun c_18 => ?_)
      · have nc_18 : np ≤ j := ni_le e4 rfl (by omega) (by omega) c_18
        exact hret () _ _ _ _ _ _ trivial (by show Wd D classes (tysA g) s A (wC g ad np (cEnd np v i code)) H locs; rw [← hT]; exact hW) (by decide) (by decide) d_C_endProcess_62
      · have nc_18 : j < np := ni_nle e4 rfl (by omega) (by omega) c_18
        exfalso; omega
    | succ r ih =>
      intro j vc H locs ls hOc hnp hT hW hl
      refine lv_iload_n hx hb d_C_endProcess_13 rfl (lv_at hl 2 rfl) ?_
      refine lv_aload_n hx hb d_C_endProcess_14 rfl (lv_at hl 0 rfl) ?_
      refine wg hx hb hts i_C hown hW (0) (by omega) mk_root rfl 5 (by decide) (hts _ kf_C_55) rfl d_C_endProcess_15 ?_
      obtain ⟨e5, b5⟩ := hOc.made
      refine lv_icmp_ge (tgt := 62) hx hb d_C_endProcess_18 (by decide) (fun c_18 => ?_) (fun c_18 => ?_)
      · have nc_18 : np ≤ j := ni_le e5 rfl (by omega) (by omega) c_18
        exfalso; omega
      · have nc_18 : j < np := ni_nle e5 rfl (by omega) (by omega) c_18
        refine lv_aload_n hx hb d_C_endProcess_21 rfl (lv_at hl 0 rfl) ?_
        refine wg hx hb hts i_C hown hW (0) (by omega) mk_root rfl 1 (by decide) (hts _ kf_C_17) rfl d_C_endProcess_22 ?_
        refine lv_iload_n hx hb d_C_endProcess_25 rfl (lv_at hl 2 rfl) ?_
        have hi6 : j < np := by omega
        refine wa hx hb hW 2 (by omega) mk_processes 2 rfl (j) rfl (by omega) (by decide) (if_pos hi6) d_C_endProcess_26 ?_
        refine lv_astore (lv' := [(4, .ref (ad (68 + 3 * j))), (0, .ref (ad (0))), (1, .ref (ad (68 + 3 * i))), (3, .int (nI (j)))]) hx hb d_C_endProcess_27 hl (by decide) rfl (fun ls hl => ?_)
        refine lv_aload hx hb d_C_endProcess_29 (lv_at hl 0 rfl) ?_
        refine wg hx hb hts i_Proc hown hW (68 + 3 * j) (by omega) mk_proc rfl 5 (by decide) (hts _ kf_C_70) rfl d_C_endProcess_31 ?_
        refine lv_iconst (v := 3) hx hb d_C_endProcess_34 (by decide) ?_
        refine lv_icmp_ne (tgt := 56) hx hb d_C_endProcess_35 (by decide) (fun c_35 => ?_) (fun c_35 => ?_)
        · refine lv_iinc (v := nI (j + 1)) (lv' := [(3, .int (nI (j + 1))), (4, .ref (ad (68 + 3 * j))), (0, .ref (ad (0))), (1, .ref (ad (68 + 3 * i)))]) hx hb d_C_endProcess_56 hl (k := 3) rfl (nI_1 _) (by decide) rfl (fun ls hl => ?_)
          refine lv_goto (tgt := 13) hx hb d_C_endProcess_59 (by decide) ?_
          refine ih (j + 1) vc _ _ _ hOc (by omega) ?_ hW (lv_sub hl [2, 3, 0] rfl)
          rw [← hT, cWk]; skip; simp only [if_neg c_18, if_neg c_35]
        · refine lv_aload hx hb d_C_endProcess_38 (lv_at hl 0 rfl) ?_
          refine wg hx hb hts i_Proc hown hW (68 + 3 * j) (by omega) mk_proc rfl 11 (by decide) (hts _ kf_C_157) rfl d_C_endProcess_40 ?_
          refine lv_aload_n hx hb d_C_endProcess_43 rfl (lv_at hl 2 rfl) ?_
          refine wg hx hb hts i_Proc hown hW (68 + 3 * i) (by omega) mk_proc rfl 0 (by decide) (hts _ kf_C_73) rfl d_C_endProcess_44 ?_
          obtain ⟨e7, b7⟩ := hOc.number hi
          refine lv_icmp_ne (tgt := 56) hx hb d_C_endProcess_47 (by decide) (fun c_47 => ?_) (fun c_47 => ?_)
          · refine lv_iinc (v := nI (j + 1)) (lv' := [(3, .int (nI (j + 1))), (4, .ref (ad (68 + 3 * j))), (0, .ref (ad (0))), (1, .ref (ad (68 + 3 * i)))]) hx hb d_C_endProcess_56 hl (k := 3) rfl (nI_1 _) (by decide) rfl (fun ls hl => ?_)
            refine lv_goto (tgt := 13) hx hb d_C_endProcess_59 (by decide) ?_
            refine ih (j + 1) vc _ _ _ hOc (by omega) ?_ hW (lv_sub hl [2, 3, 0] rfl)
            rw [← hT, cWk]; skip; simp only [if_neg c_18, if_pos c_35, if_neg c_47]
          · refine lv_aload_n hx hb d_C_endProcess_50 rfl (lv_at hl 1 rfl) ?_
            refine lv_aload hx hb d_C_endProcess_51 (lv_at hl 0 rfl) ?_
            refine wcv hW hA (va_runV (As := [.ref (ad (68 + 3 * j))]) (rest := []) ⟨hx, hb, hml, hown, hts⟩ (c_C_joinLine l j hi6 hOc _) (cv 1 hts kc_C_joinLine ki_C_joinLine ke_C_joinLine kn_C km_C_94 kh_C_joinLine rfl rfl ⟨by decide, by decide⟩) (preW hW rfl rfl (mw_get (by omega) mk_root)) rfl rfl hl.1 rfl (lv_room (Nat.le_of_ble_eq_true rfl)) d_C_endProcess_53 ⟨by decide, by decide⟩) (fun uu8 H locs hp8 hW => ?_)
            have hW : Wd D classes (tysA g) s A (wC g ad np (cJoin vc j)) H locs := hW
            obtain ⟨v9, ev9⟩ : ∃ z : Vs, z = cJoin vc j := ⟨_, rfl⟩
            rw [← ev9] at hW
            have hO9 : Ok np v9 := by rw [ev9]; exact hOc.join hi6
            refine lv_iinc (v := nI (j + 1)) (lv' := [(3, .int (nI (j + 1))), (4, .ref (ad (68 + 3 * j))), (0, .ref (ad (0))), (1, .ref (ad (68 + 3 * i)))]) hx hb d_C_endProcess_56 hl (k := 3) rfl (nI_1 _) (by decide) rfl (fun ls hl => ?_)
            refine lv_goto (tgt := 13) hx hb d_C_endProcess_59 (by decide) ?_
            refine ih (j + 1) v9 _ _ _ hO9 (by omega) ?_ hW (lv_sub hl [2, 3, 0] rfl)
            rw [← hT, cWk]; subst ev9; simp only [if_neg c_18, if_pos c_35, if_pos c_47]
  refine loop np 0 v3 _ _ _ hO3 (by omega) ?_ hW (lv_sub hl [1, 2, 0] rfl)
  subst ev3 ev2; rfl
