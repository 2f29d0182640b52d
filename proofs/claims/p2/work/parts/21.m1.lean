abbrev rm_Math_floorMod : Room := { frames := 0, cells := 0, slots := 0, locals := 0 }
set_option maxHeartbeats 4000000 in
set_option maxRecDepth 100000 in
theorem c_Math_floorMod (l : Launch) {D : va_G} {cl : List vw_C} {tys : List (ClassId × FieldType)} (w : va_W) (x : Int32) (y : Int32) (hy : ¬ y = 0) : MtI l y_Math_floorMod ws_Math_floorMod rm_Math_floorMod D cl tys [.int (x), .int (y)] (w) (fun (r : Int32) (_ : Unit) => r = fmod x y) (fun _ => w) 0 0 := by
  refine mt_i (ty := .int) (fun _ _ _ => rfl) (by decide +kernel) rfl (Nat.le_of_ble_eq_true rfl) (fun p e s m args below meth c Q A C hA hW hret ls hl => ?_)
  obtain ⟨hx, hb, hr, hml, hown, hts0, hlocks⟩ := C
  have hts : ∀ w ∈ bigw, w.before args s = true := fun w h => hts0 w (List.mem_cons_of_mem _ h)
  have hown : s.vm.findClass R_Math = some m.cls := hown
  have hl : lv_has ls 3 [(0, .int (x)), (1, .int (y))] := hl
  refine lv_iload_n hx hb d_Math_floorMod_0 rfl (lv_at hl 0 rfl) ?_
  refine lv_iload_n hx hb d_Math_floorMod_1 rfl (lv_at hl 1 rfl) ?_
  refine lv_irem hx hb d_Math_floorMod_2 hy ?_
  refine lv_istore_n (lv' := [(2, .int ((x) - (x) / (y) * (y))), (0, .int (x)), (1, .int (y))]) hx hb d_Math_floorMod_3 rfl hl (by decide) rfl (fun ls hl => ?_)
  refine lv_iload_n hx hb d_Math_floorMod_4 rfl (lv_at hl 1 rfl) ?_
  refine lv_iload_n hx hb d_Math_floorMod_5 rfl (lv_at hl 2 rfl) ?_
  refine lv_ixor hx hb d_Math_floorMod_6 ?_
  refine lv_if_ge (tgt := 18) hx hb d_Math_floorMod_7 (by decide) (fun c_7 => ?_) (fun c_7 => ?_)
  · refine lv_iload_n hx hb d_Math_floorMod_18 rfl (lv_at hl 0 rfl) ?_
    refine hret _ () _ _ _ _ _ _ ?_ hW (by decide) (by decide) d_Math_floorMod_19
    show (x) - (x) / (y) * (y) = fmod x y
    simp only [fmod, if_pos c_7]
  · refine lv_iload_n hx hb d_Math_floorMod_10 rfl (lv_at hl 0 rfl) ?_
    refine lv_if_eq (tgt := 18) hx hb d_Math_floorMod_11 (by decide) (fun c_11 => ?_) (fun c_11 => ?_)
    · refine lv_iload_n hx hb d_Math_floorMod_18 rfl (lv_at hl 0 rfl) ?_
      refine hret _ () _ _ _ _ _ _ ?_ hW (by decide) (by decide) d_Math_floorMod_19
      show (x) - (x) / (y) * (y) = fmod x y
      simp only [fmod, if_neg c_7, if_pos c_11]
    · refine lv_iload_n hx hb d_Math_floorMod_14 rfl (lv_at hl 0 rfl) ?_
      refine lv_iload_n hx hb d_Math_floorMod_15 rfl (lv_at hl 2 rfl) ?_
      refine lv_iadd hx hb d_Math_floorMod_16 ?_
      refine hret _ () _ _ _ _ _ _ ?_ hW (by decide) (by decide) d_Math_floorMod_17
      show ((x) - (x) / (y) * (y)) + (y) = fmod x y
      simp only [fmod, if_neg c_7, if_neg c_11]
abbrev rm_C_isIn : Room := { frames := 0, cells := 0, slots := 0, locals := 0 }
set_option maxHeartbeats 4000000 in
set_option maxRecDepth 100000 in
theorem c_C_isIn (l : Launch) {D : va_G} {cl : List vw_C} {tys : List (ClassId × FieldType)} (w : va_W) (x : Int32) (n : Int32) : MtI l y_C_isIn ws_C_isIn rm_C_isIn D cl tys [.int (x), .int (n)] (w) (fun (r : Int32) (_ : Unit) => r = if inI x n then 1 else 0) (fun _ => w) 0 0 := by
  refine mt_i (ty := .boolean) (fun r _ h => by rw [h]; split <;> rfl) (by decide +kernel) rfl (Nat.le_of_ble_eq_true rfl) (fun p e s m args below meth c Q A C hA hW hret ls hl => ?_)
  obtain ⟨hx, hb, hr, hml, hown, hts0, hlocks⟩ := C
  have hts : ∀ w ∈ bigw, w.before args s = true := fun w h => hts0 w (List.mem_cons_of_mem _ h)
  have hown : s.vm.findClass R_C = some m.cls := hown
  have hl : lv_has ls 2 [(0, .int (x)), (1, .int (n))] := hl
  refine lv_iload_n hx hb d_C_isIn_0 rfl (lv_at hl 0 rfl) ?_
  refine lv_if_lt (tgt := 13) hx hb d_C_isIn_1 (by decide) (fun c_1 => ?_) (fun c_1 => ?_)
  · refine lv_iconst (v := 0) hx hb d_C_isIn_13 (by decide) ?_
    refine hret _ () _ _ _ _ _ _ ?_ hW (by decide) (by decide) d_C_isIn_14
    show 0 = if inI x n then (1 : Int32) else 0
    rw [if_neg (fun h => h.1 c_1)]
  · refine lv_iload_n hx hb d_C_isIn_4 rfl (lv_at hl 0 rfl) ?_
    refine lv_iload_n hx hb d_C_isIn_5 rfl (lv_at hl 1 rfl) ?_
    refine lv_icmp_ge (tgt := 13) hx hb d_C_isIn_6 (by decide) (fun c_6 => ?_) (fun c_6 => ?_)
    · refine lv_iconst (v := 0) hx hb d_C_isIn_13 (by decide) ?_
      refine hret _ () _ _ _ _ _ _ ?_ hW (by decide) (by decide) d_C_isIn_14
      show 0 = if inI x n then (1 : Int32) else 0
      rw [if_neg (fun h => i_nlt c_6 h.2)]
    · refine lv_iconst (v := 1) hx hb d_C_isIn_9 (by decide) ?_
      refine lv_goto (tgt := 14) hx hb d_C_isIn_10 (by decide) ?_
      refine hret _ () _ _ _ _ _ _ ?_ hW (by decide) (by decide) d_C_isIn_14
      show 1 = if inI x n then (1 : Int32) else 0
      rw [if_pos ⟨c_1, i_lt c_6⟩]
