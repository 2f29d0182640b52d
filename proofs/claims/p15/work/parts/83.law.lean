/-! THE LAW'S LOOP -/
set_option maxHeartbeats 8000000 in
set_option maxRecDepth 100000 in
theorem law_loop {p : Program} {l : Launch} {e : Env} {s : State} {m : MethodId} {below : List Frame} {meth : Method} {c : Code} {D : va_G} {g : Nat → ClassId} {b L : Nat} {xs : Nat → Int32} (hL : L ≤ 2560) (C0 : lw_At p s m meth c b L xs) {A : Nat → Prop} (hA : ∀ q : Nat, s.heap.size ≤ q → A q) (hbA : ¬ A b) (hAs : ∀ q : Nat, A q → s.heap.size ≤ q) :
    ∀ (n k : Nat), k ≤ 512 → 513 ≤ k + n → ∀ (np : Nat) (v r : Vs) (ad am : Nat → Nat) (H : Heap) (locs : List Loc) (ls : Array Slot), Rl k np v r → Wd D classes (tysA g) s A (wC g ad np v ++ wM g am r) H locs → lv_has ls 4 [(0, .ref b), (1, .ref (ad 0)), (2, .ref (am 0)), (3, .int (nI (5 * k)))] → W p l e room_1 s m #[Value.ref b] below meth c H locs (100 + 3 * k) (900 + 19 * k) (lw_Z below #[Value.ref b] s) (F0 m 18 ls []) := by
  obtain ⟨hx, hb, hr, hml, hown, hts0, hX, hbl, hlocks, hgv⟩ := C0
  have hts : ∀ w ∈ bigw, w.before #[Value.ref b] s = true := fun w h => hts0 w (bg_in h)
  have hown : s.vm.findClass RL = some m.cls := hown
  intro n
  induction n with
  | zero => intro k h1 h2; exact absurd h2 (by omega)
  | succ n ih =>
    intro k hk hn np v r ad am H locs ls hR hW hl
    have hend : 5 * k + 5 ≤ L → ∀ (np : Nat) (v r : Vs) (ad : Nat → Nat) (H : Heap) (locs : List Loc) (ls : Array Slot), Rl (k + 1) np v r → Wd D classes (tysA g) s A (wC g ad np v ++ wM g am r) H locs → lv_has ls 4 [(0, .ref b), (1, .ref (ad 0)), (2, .ref (am 0)), (3, .int (nI (5 * k)))] → W p l e room_1 s m #[Value.ref b] below meth c H locs (103 + 3 * k) (919 + 19 * k) (lw_Z below #[Value.ref b] s) (F0 m 536 ls []) := by
      intro hk5 np v r ad H locs ls hR hW hl
      refine lv_iinc (v := nI (5 * (k + 1))) (lv' := [(3, .int (nI (5 * (k + 1)))), (0, .ref b), (1, .ref (ad 0)), (2, .ref (am 0))]) hx hb d_law_536 hl (k := 3) rfl (ni_add (a := 5 * k) (b := 5) rfl rfl) (by decide) rfl (fun ls hl => ?_)
      refine lv_goto (tgt := 18) hx hb d_law_539 (by decide) ?_
      refine W.widen (k := 100 + 3 * (k + 1)) (n := 900 + 19 * (k + 1)) (by omega) (by omega) ?_
      exact ih (k + 1) (by omega) (by omega) np v r ad am _ _ _ hR hW (lv_sub hl [1, 2, 3, 0] rfl)
    refine lv_iload_n hx hb d_law_18 rfl (lv_at hl 3 rfl) ?_
    refine lv_aload_n hx hb d_law_19 rfl (lv_at hl 0 rfl) ?_
    refine va_slen hx hb hX hbl hbA hW.2.2.2 d_law_20 ?_
    refine lv_iconst (v := 5) hx hb d_law_21 (by decide) ?_
    refine lv_isub hx hb d_law_22 ?_
    refine lv_icmp_gt (tgt := 542) hx hb d_law_23 (by decide) (fun c0 => ?_) (fun c0 => ?_)
    · refine lv_iconst (v := 1) hx hb d_law_542 (by decide) ?_
      refine va_forget (fun q hq => hAs _ (hW.2.2.2.2.2 q hq)) ?_
      refine W.widen (k := 634478) (n := 7198814) (by omega) (by omega) ?_
      exact lw_ret hx hb hr hlocks d_law_543
    · have hk5 : 5 * k + 5 ≤ L := law_test hL hk c0
      have hk9 : k < 512 := by omega
      refine lv_aload_n hx hb d_law_26 rfl (lv_at hl 0 rfl) ?_
      refine lv_iload_n hx hb d_law_27 rfl (lv_at hl 3 rfl) ?_
      refine sld hx hb hW hX hbl hbA (5 * k) rfl (by omega) (by omega) d_law_28 ?_
      refine lv_bipush (v := 15) hx hb d_law_29 (by decide) ?_
      have hbl1 := bl_lt (xs (5 * k)) 15
      refine lv_iand hx hb d_law_31 ?_
      rcases sw_14 ((xs (5 * k)) &&& (15)) with c_32 | h_32_0 | h_32_1 | h_32_2 | h_32_3 | h_32_4 | h_32_5 | h_32_6 | h_32_7 | h_32_8 | h_32_9 | h_32_10 | h_32_11 | h_32_12 | h_32_13
      · refine lv_tableOut (tgt := 536) hx hb d_law_32 c_32 (by decide) ?_
        refine W.widen (k := 103 + 3 * k) (n := 919 + 19 * k) (by omega) (by omega) ?_
        exact hend hk5 (np) (v) (r) ad _ _ _ (rl_next hR hk9) hW hl
      · refine lv_tableIn (tgt := 104) hx hb d_law_32 (by rw [h_32_0]; decide) (by rw [h_32_0]; decide) (off := 72) (by rw [h_32_0]; rfl) (by decide) ?_
        refine lv_aload_n hx hb d_law_104 rfl (lv_at hl 1 rfl) ?_
        refine lv_aload_n hx hb d_law_105 rfl (lv_at hl 0 rfl) ?_
        refine lv_iload_n hx hb d_law_106 rfl (lv_at hl 3 rfl) ?_
        refine lv_iconst (v := 1) hx hb d_law_107 (by decide) ?_
        refine lv_iadd hx hb d_law_108 ?_
        refine sld hx hb hW hX hbl hbA (5 * k + 1) (ni_add rfl rfl) (by omega) (by omega) d_law_109 ?_
        refine lv_aload_n hx hb d_law_110 rfl (lv_at hl 0 rfl) ?_
        refine lv_iload_n hx hb d_law_111 rfl (lv_at hl 3 rfl) ?_
        refine lv_iconst (v := 2) hx hb d_law_112 (by decide) ?_
        refine lv_iadd hx hb d_law_113 ?_
        refine sld hx hb hW hX hbl hbA (5 * k + 2) (ni_add rfl rfl) (by omega) (by omega) d_law_114 ?_
        refine lv_aload_n hx hb d_law_115 rfl (lv_at hl 0 rfl) ?_
        refine lv_iload_n hx hb d_law_116 rfl (lv_at hl 3 rfl) ?_
        refine lv_iconst (v := 3) hx hb d_law_117 (by decide) ?_
        refine lv_iadd hx hb d_law_118 ?_
        refine sld hx hb hW hX hbl hbA (5 * k + 3) (ni_add rfl rfl) (by omega) (by omega) d_law_119 ?_
        refine lv_aload_n hx hb d_law_120 rfl (lv_at hl 0 rfl) ?_
        refine lv_iload_n hx hb d_law_121 rfl (lv_at hl 3 rfl) ?_
        refine lv_iconst (v := 4) hx hb d_law_122 (by decide) ?_
        refine lv_iadd hx hb d_law_123 ?_
        refine sld hx hb hW hX hbl hbA (5 * k + 4) (ni_add rfl rfl) (by omega) (by omega) d_law_124 ?_
        refine jci hW hA (va_runV (As := [.int (xs (5 * k + 1)), .int (xs (5 * k + 2)), .int (xs (5 * k + 3)), .int (xs (5 * k + 4))]) (rest := []) ⟨hx, hb, hml, hown, hts⟩ (c_C_instr l (xs (5 * k + 1)) (xs (5 * k + 2)) (xs (5 * k + 3)) (xs (5 * k + 4)) (rl_ok hR) _) (cv 4 hts kc_C_instr ki_C_instr ke_C_instr kn_C km_law_13 kh_C_instr rfl rfl ⟨by decide, by decide⟩) (preW hW.left rfl rfl (mw_get (k := 0) (by omega) mk_root)) rfl rfl hl.1 rfl (lv_room (Nat.le_of_ble_eq_true rfl)) d_law_125 ⟨by show 100 + 3 * k + 0 ≤ 634478; omega, by show 900 + 19 * k + 0 ≤ 7198814; omega⟩) (fun rr uc H locs hp hW => ?_)
        have hW : Wd D classes (tysA g) s A (wC g ad (np) ((mInstr v (xs (5 * k + 1)) (xs (5 * k + 2)) (xs (5 * k + 3)) (xs (5 * k + 4))).2) ++ wM g am r) H locs := hW
        have hp : rr = (mInstr v (xs (5 * k + 1)) (xs (5 * k + 2)) (xs (5 * k + 3)) (xs (5 * k + 4))).1 := hp
        subst hp
        refine lv_pop hx hb d_law_128 rfl ?_
        refine lv_aload_n hx hb d_law_129 rfl (lv_at hl 2 rfl) ?_
        refine lv_aload_n hx hb d_law_130 rfl (lv_at hl 0 rfl) ?_
        refine lv_iload_n hx hb d_law_131 rfl (lv_at hl 3 rfl) ?_
        refine lv_iconst (v := 1) hx hb d_law_132 (by decide) ?_
        refine lv_iadd hx hb d_law_133 ?_
        refine sld hx hb hW hX hbl hbA (5 * k + 1) (ni_add rfl rfl) (by omega) (by omega) d_law_134 ?_
        refine lv_aload_n hx hb d_law_135 rfl (lv_at hl 0 rfl) ?_
        refine lv_iload_n hx hb d_law_136 rfl (lv_at hl 3 rfl) ?_
        refine lv_iconst (v := 2) hx hb d_law_137 (by decide) ?_
        refine lv_iadd hx hb d_law_138 ?_
        refine sld hx hb hW hX hbl hbA (5 * k + 2) (ni_add rfl rfl) (by omega) (by omega) d_law_139 ?_
        refine lv_aload_n hx hb d_law_140 rfl (lv_at hl 0 rfl) ?_
        refine lv_iload_n hx hb d_law_141 rfl (lv_at hl 3 rfl) ?_
        refine lv_iconst (v := 3) hx hb d_law_142 (by decide) ?_
        refine lv_iadd hx hb d_law_143 ?_
        refine sld hx hb hW hX hbl hbA (5 * k + 3) (ni_add rfl rfl) (by omega) (by omega) d_law_144 ?_
        refine lv_aload_n hx hb d_law_145 rfl (lv_at hl 0 rfl) ?_
        refine lv_iload_n hx hb d_law_146 rfl (lv_at hl 3 rfl) ?_
        refine lv_iconst (v := 4) hx hb d_law_147 (by decide) ?_
        refine lv_iadd hx hb d_law_148 ?_
        refine sld hx hb hW hX hbl hbA (5 * k + 4) (ni_add rfl rfl) (by omega) (by omega) d_law_149 ?_
        have hW := hW.swap
        refine jci hW hA (va_runV (As := [.int (xs (5 * k + 1)), .int (xs (5 * k + 2)), .int (xs (5 * k + 3)), .int (xs (5 * k + 4))]) (rest := []) ⟨hx, hb, hml, hown, hts⟩ (c_M_instr l (xs (5 * k + 1)) (xs (5 * k + 2)) (xs (5 * k + 3)) (xs (5 * k + 4)) (rl_okM hR) _) (cv 4 hts kc_M_instr ki_M_instr ke_M_instr kn_M km_law_17 kh_M_instr rfl rfl ⟨by decide, by decide⟩) (preW hW.left rfl rfl (mw_get (k := 0) (by omega) mm_root)) rfl rfl hl.1 rfl (lv_room (Nat.le_of_ble_eq_true rfl)) d_law_150 ⟨by show 100 + 3 * k + 0 + 0 ≤ 634478; omega, by show 900 + 19 * k + 0 + 0 ≤ 7198814; omega⟩) (fun rr um H locs hp hW => ?_)
        have hW : Wd D classes (tysA g) s A (wM g am ((mIns r (xs (5 * k + 1)) (xs (5 * k + 2)) (xs (5 * k + 3)) (xs (5 * k + 4))).2) ++ wC g ad (np) ((mInstr v (xs (5 * k + 1)) (xs (5 * k + 2)) (xs (5 * k + 3)) (xs (5 * k + 4))).2)) H locs := hW
        have hW := hW.swap
        have hp : rr = (mIns r (xs (5 * k + 1)) (xs (5 * k + 2)) (xs (5 * k + 3)) (xs (5 * k + 4))).1 := hp
        subst hp
        refine lv_pop hx hb d_law_153 rfl ?_
        refine lv_goto (tgt := 536) hx hb d_law_154 (by decide) ?_
        refine W.widen (k := 103 + 3 * k) (n := 919 + 19 * k) (by omega) (by omega) ?_
        exact hend hk5 (np) ((mInstr v (xs (5 * k + 1)) (xs (5 * k + 2)) (xs (5 * k + 3)) (xs (5 * k + 4))).2) ((mIns r (xs (5 * k + 1)) (xs (5 * k + 2)) (xs (5 * k + 3)) (xs (5 * k + 4))).2) ad _ _ _ (rl_instr hR hk9 (xs (5 * k + 1)) (xs (5 * k + 2)) (xs (5 * k + 3)) (xs (5 * k + 4))) hW hl
      · refine lv_tableIn (tgt := 157) hx hb d_law_32 (by rw [h_32_1]; decide) (by rw [h_32_1]; decide) (off := 125) (by rw [h_32_1]; rfl) (by decide) ?_
        refine lv_aload_n hx hb d_law_157 rfl (lv_at hl 1 rfl) ?_
        refine lv_aload_n hx hb d_law_158 rfl (lv_at hl 0 rfl) ?_
        refine lv_iload_n hx hb d_law_159 rfl (lv_at hl 3 rfl) ?_
        refine lv_iconst (v := 1) hx hb d_law_160 (by decide) ?_
        refine lv_iadd hx hb d_law_161 ?_
        refine sld hx hb hW hX hbl hbA (5 * k + 1) (ni_add rfl rfl) (by omega) (by omega) d_law_162 ?_
        refine lv_aload_n hx hb d_law_163 rfl (lv_at hl 0 rfl) ?_
        refine lv_iload_n hx hb d_law_164 rfl (lv_at hl 3 rfl) ?_
        refine lv_iconst (v := 2) hx hb d_law_165 (by decide) ?_
        refine lv_iadd hx hb d_law_166 ?_
        refine sld hx hb hW hX hbl hbA (5 * k + 2) (ni_add rfl rfl) (by omega) (by omega) d_law_167 ?_
        refine jci hW hA (va_runV (As := [.int (xs (5 * k + 1)), .int (xs (5 * k + 2))]) (rest := []) ⟨hx, hb, hml, hown, hts⟩ (c_C_spawn l (xs (5 * k + 1)) (xs (5 * k + 2)) (rl_ok hR) _) (cv 2 hts kc_C_spawn ki_C_spawn ke_C_spawn kn_C km_law_18 kh_C_spawn rfl rfl ⟨by decide, by decide⟩) (preW hW.left rfl rfl (mw_get (k := 0) (by omega) mk_root)) rfl rfl hl.1 rfl (lv_room (Nat.le_of_ble_eq_true rfl)) d_law_168 ⟨by show 100 + 3 * k + 3 ≤ 634478; omega, by show 900 + 19 * k + 19 ≤ 7198814; omega⟩) (fun rr uc H locs hp hW => ?_)
        obtain ⟨hp, hu⟩ := hp
        have h0 : uc 0 = ad 0 := hu 0 (by omega)
        have hl : lv_has ls 4 [(0, .ref b), (1, .ref (uc 0)), (2, .ref (am 0)), (3, .int (nI (5 * k)))] := by rw [h0]; exact hl
        have hW : Wd D classes (tysA g) s A (wC g uc ((mSpawn np v (xs (5 * k + 1)) (xs (5 * k + 2))).2.1) ((mSpawn np v (xs (5 * k + 1)) (xs (5 * k + 2))).2.2) ++ wM g am r) H locs := hW
        have hp : rr = (mSpawn np v (xs (5 * k + 1)) (xs (5 * k + 2))).1 := hp
        subst hp
        refine lv_pop hx hb d_law_171 rfl ?_
        refine lv_aload_n hx hb d_law_172 rfl (lv_at hl 2 rfl) ?_
        refine lv_aload_n hx hb d_law_173 rfl (lv_at hl 0 rfl) ?_
        refine lv_iload_n hx hb d_law_174 rfl (lv_at hl 3 rfl) ?_
        refine lv_iconst (v := 1) hx hb d_law_175 (by decide) ?_
        refine lv_iadd hx hb d_law_176 ?_
        refine sld hx hb hW hX hbl hbA (5 * k + 1) (ni_add rfl rfl) (by omega) (by omega) d_law_177 ?_
        refine lv_aload_n hx hb d_law_178 rfl (lv_at hl 0 rfl) ?_
        refine lv_iload_n hx hb d_law_179 rfl (lv_at hl 3 rfl) ?_
        refine lv_iconst (v := 2) hx hb d_law_180 (by decide) ?_
        refine lv_iadd hx hb d_law_181 ?_
        refine sld hx hb hW hX hbl hbA (5 * k + 2) (ni_add rfl rfl) (by omega) (by omega) d_law_182 ?_
        have hW := hW.swap
        refine jci hW hA (va_runV (As := [.int (xs (5 * k + 1)), .int (xs (5 * k + 2))]) (rest := []) ⟨hx, hb, hml, hown, hts⟩ (c_M_spawn l (xs (5 * k + 1)) (xs (5 * k + 2)) (rl_okM hR) _) (cv 2 hts kc_M_spawn ki_M_spawn ke_M_spawn kn_M km_law_22 kh_M_spawn rfl rfl ⟨by decide, by decide⟩) (preW hW.left rfl rfl (mw_get (k := 0) (by omega) mm_root)) rfl rfl hl.1 rfl (lv_room (Nat.le_of_ble_eq_true rfl)) d_law_183 ⟨by show 100 + 3 * k + 3 + 0 ≤ 634478; omega, by show 900 + 19 * k + 19 + 0 ≤ 7198814; omega⟩) (fun rr um H locs hp hW => ?_)
        have hW : Wd D classes (tysA g) s A (wM g am ((mSpw r (xs (5 * k + 1)) (xs (5 * k + 2))).2) ++ wC g uc ((mSpawn np v (xs (5 * k + 1)) (xs (5 * k + 2))).2.1) ((mSpawn np v (xs (5 * k + 1)) (xs (5 * k + 2))).2.2)) H locs := hW
        have hW := hW.swap
        have hp : rr = (mSpw r (xs (5 * k + 1)) (xs (5 * k + 2))).1 := hp
        subst hp
        refine lv_pop hx hb d_law_186 rfl ?_
        refine lv_goto (tgt := 536) hx hb d_law_187 (by decide) ?_
        refine W.widen (k := 103 + 3 * k) (n := 919 + 19 * k) (by omega) (by omega) ?_
        exact hend hk5 ((mSpawn np v (xs (5 * k + 1)) (xs (5 * k + 2))).2.1) ((mSpawn np v (xs (5 * k + 1)) (xs (5 * k + 2))).2.2) ((mSpw r (xs (5 * k + 1)) (xs (5 * k + 2))).2) uc _ _ _ (rl_spawn hR hk9 (xs (5 * k + 1)) (xs (5 * k + 2))) hW hl
      · refine lv_tableIn (tgt := 190) hx hb d_law_32 (by rw [h_32_2]; decide) (by rw [h_32_2]; decide) (off := 158) (by rw [h_32_2]; rfl) (by decide) ?_
        refine lv_aload_n hx hb d_law_190 rfl (lv_at hl 1 rfl) ?_
        refine lv_aload_n hx hb d_law_191 rfl (lv_at hl 0 rfl) ?_
        refine lv_iload_n hx hb d_law_192 rfl (lv_at hl 3 rfl) ?_
        refine lv_iconst (v := 1) hx hb d_law_193 (by decide) ?_
        refine lv_iadd hx hb d_law_194 ?_
        refine sld hx hb hW hX hbl hbA (5 * k + 1) (ni_add rfl rfl) (by omega) (by omega) d_law_195 ?_
        refine jci hW hA (va_runV (As := [.int (xs (5 * k + 1))]) (rest := []) ⟨hx, hb, hml, hown, hts⟩ (c_C_step l (xs (5 * k + 1)) (rl_ok hR) _) (cv 1 hts kc_C_step ki_C_step ke_C_step kn_C km_law_23 kh_C_step rfl rfl ⟨by decide, by decide⟩) (preW hW.left rfl rfl (mw_get (k := 0) (by omega) mk_root)) rfl rfl hl.1 rfl (lv_room (Nat.le_of_ble_eq_true rfl)) d_law_196 ⟨by show 100 + 3 * k + 3 ≤ 634478; omega, by show 900 + 19 * k + 19 ≤ 7198814; omega⟩) (fun rr uc H locs hp hW => ?_)
        obtain ⟨hp, hu⟩ := hp
        have h0 : uc 0 = ad 0 := hu 0 (by omega)
        have hl : lv_has ls 4 [(0, .ref b), (1, .ref (uc 0)), (2, .ref (am 0)), (3, .int (nI (5 * k)))] := by rw [h0]; exact hl
        have hW : Wd D classes (tysA g) s A (wC g uc ((mStep np v (xs (5 * k + 1))).2.1) ((mStep np v (xs (5 * k + 1))).2.2) ++ wM g am r) H locs := hW
        have hp : rr = (mStep np v (xs (5 * k + 1))).1 := hp
        subst hp
        refine lv_pop hx hb d_law_199 rfl ?_
        refine lv_aload_n hx hb d_law_200 rfl (lv_at hl 2 rfl) ?_
        refine lv_aload_n hx hb d_law_201 rfl (lv_at hl 0 rfl) ?_
        refine lv_iload_n hx hb d_law_202 rfl (lv_at hl 3 rfl) ?_
        refine lv_iconst (v := 1) hx hb d_law_203 (by decide) ?_
        refine lv_iadd hx hb d_law_204 ?_
        refine sld hx hb hW hX hbl hbA (5 * k + 1) (ni_add rfl rfl) (by omega) (by omega) d_law_205 ?_
        have hW := hW.swap
        refine jci hW hA (va_runV (As := [.int (xs (5 * k + 1))]) (rest := []) ⟨hx, hb, hml, hown, hts⟩ (c_M_step l (xs (5 * k + 1)) (rl_okM hR) _) (cv 1 hts kc_M_step ki_M_step ke_M_step kn_M km_law_27 kh_M_step rfl rfl ⟨by decide, by decide⟩) (preW hW.left rfl rfl (mw_get (k := 0) (by omega) mm_root)) rfl rfl hl.1 rfl (lv_room (Nat.le_of_ble_eq_true rfl)) d_law_206 ⟨by show 100 + 3 * k + 3 + 0 ≤ 634478; omega, by show 900 + 19 * k + 19 + 0 ≤ 7198814; omega⟩) (fun rr um H locs hp hW => ?_)
        have hW : Wd D classes (tysA g) s A (wM g am ((mStp r (xs (5 * k + 1))).2) ++ wC g uc ((mStep np v (xs (5 * k + 1))).2.1) ((mStep np v (xs (5 * k + 1))).2.2)) H locs := hW
        have hW := hW.swap
        have hp : rr = (mStp r (xs (5 * k + 1))).1 := hp
        subst hp
        refine lv_pop hx hb d_law_209 rfl ?_
        refine lv_goto (tgt := 536) hx hb d_law_210 (by decide) ?_
        refine W.widen (k := 103 + 3 * k) (n := 919 + 19 * k) (by omega) (by omega) ?_
        exact hend hk5 ((mStep np v (xs (5 * k + 1))).2.1) ((mStep np v (xs (5 * k + 1))).2.2) ((mStp r (xs (5 * k + 1))).2) uc _ _ _ (rl_step hR hk9 (xs (5 * k + 1))) hW hl
      · refine lv_tableIn (tgt := 213) hx hb d_law_32 (by rw [h_32_3]; decide) (by rw [h_32_3]; decide) (off := 181) (by rw [h_32_3]; rfl) (by decide) ?_
        refine lv_aload_n hx hb d_law_213 rfl (lv_at hl 1 rfl) ?_
        refine lv_aload_n hx hb d_law_214 rfl (lv_at hl 0 rfl) ?_
        refine lv_iload_n hx hb d_law_215 rfl (lv_at hl 3 rfl) ?_
        refine lv_iconst (v := 1) hx hb d_law_216 (by decide) ?_
        refine lv_iadd hx hb d_law_217 ?_
        refine sld hx hb hW hX hbl hbA (5 * k + 1) (ni_add rfl rfl) (by omega) (by omega) d_law_218 ?_
        refine jci hW hA (va_runV (As := [.int (xs (5 * k + 1))]) (rest := []) ⟨hx, hb, hml, hown, hts⟩ (c_C_serve l (xs (5 * k + 1)) (rl_ok hR) _) (cv 1 hts kc_C_serve ki_C_serve ke_C_serve kn_C km_law_28 kh_C_serve rfl rfl ⟨by decide, by decide⟩) (preW hW.left rfl rfl (mw_get (k := 0) (by omega) mk_root)) rfl rfl hl.1 rfl (lv_room (Nat.le_of_ble_eq_true rfl)) d_law_219 ⟨by show 100 + 3 * k + 0 ≤ 634478; omega, by show 900 + 19 * k + 0 ≤ 7198814; omega⟩) (fun rr uc H locs hp hW => ?_)
        have hW : Wd D classes (tysA g) s A (wC g ad (np) ((mServe v (xs (5 * k + 1))).2) ++ wM g am r) H locs := hW
        have hp : rr = (mServe v (xs (5 * k + 1))).1 := hp
        subst hp
        refine lv_pop hx hb d_law_222 rfl ?_
        refine lv_aload_n hx hb d_law_223 rfl (lv_at hl 2 rfl) ?_
        refine lv_aload_n hx hb d_law_224 rfl (lv_at hl 0 rfl) ?_
        refine lv_iload_n hx hb d_law_225 rfl (lv_at hl 3 rfl) ?_
        refine lv_iconst (v := 1) hx hb d_law_226 (by decide) ?_
        refine lv_iadd hx hb d_law_227 ?_
        refine sld hx hb hW hX hbl hbA (5 * k + 1) (ni_add rfl rfl) (by omega) (by omega) d_law_228 ?_
        have hW := hW.swap
        refine jci hW hA (va_runV (As := [.int (xs (5 * k + 1))]) (rest := []) ⟨hx, hb, hml, hown, hts⟩ (c_M_serve l (xs (5 * k + 1)) (rl_okM hR) _) (cv 1 hts kc_M_serve ki_M_serve ke_M_serve kn_M km_law_31 kh_M_serve rfl rfl ⟨by decide, by decide⟩) (preW hW.left rfl rfl (mw_get (k := 0) (by omega) mm_root)) rfl rfl hl.1 rfl (lv_room (Nat.le_of_ble_eq_true rfl)) d_law_229 ⟨by show 100 + 3 * k + 0 + 0 ≤ 634478; omega, by show 900 + 19 * k + 0 + 0 ≤ 7198814; omega⟩) (fun rr um H locs hp hW => ?_)
        have hW : Wd D classes (tysA g) s A (wM g am ((mSrv r (xs (5 * k + 1))).2) ++ wC g ad (np) ((mServe v (xs (5 * k + 1))).2)) H locs := hW
        have hW := hW.swap
        have hp : rr = (mSrv r (xs (5 * k + 1))).1 := hp
        subst hp
        refine lv_pop hx hb d_law_232 rfl ?_
        refine lv_goto (tgt := 536) hx hb d_law_233 (by decide) ?_
        refine W.widen (k := 103 + 3 * k) (n := 919 + 19 * k) (by omega) (by omega) ?_
        exact hend hk5 (np) ((mServe v (xs (5 * k + 1))).2) ((mSrv r (xs (5 * k + 1))).2) ad _ _ _ (rl_serve hR hk9 (xs (5 * k + 1))) hW hl
      · refine lv_tableIn (tgt := 236) hx hb d_law_32 (by rw [h_32_4]; decide) (by rw [h_32_4]; decide) (off := 204) (by rw [h_32_4]; rfl) (by decide) ?_
        refine lv_aload_n hx hb d_law_236 rfl (lv_at hl 1 rfl) ?_
        refine lv_aload_n hx hb d_law_237 rfl (lv_at hl 0 rfl) ?_
        refine lv_iload_n hx hb d_law_238 rfl (lv_at hl 3 rfl) ?_
        refine lv_iconst (v := 1) hx hb d_law_239 (by decide) ?_
        refine lv_iadd hx hb d_law_240 ?_
        refine sld hx hb hW hX hbl hbA (5 * k + 1) (ni_add rfl rfl) (by omega) (by omega) d_law_241 ?_
        refine lv_aload_n hx hb d_law_242 rfl (lv_at hl 0 rfl) ?_
        refine lv_iload_n hx hb d_law_243 rfl (lv_at hl 3 rfl) ?_
        refine lv_iconst (v := 2) hx hb d_law_244 (by decide) ?_
        refine lv_iadd hx hb d_law_245 ?_
        refine sld hx hb hW hX hbl hbA (5 * k + 2) (ni_add rfl rfl) (by omega) (by omega) d_law_246 ?_
        refine jci hW hA (va_runV (As := [.int (xs (5 * k + 1)), .int (xs (5 * k + 2))]) (rest := []) ⟨hx, hb, hml, hown, hts⟩ (c_C_migrate l (xs (5 * k + 1)) (xs (5 * k + 2)) (rl_ok hR) _) (cv 2 hts kc_C_migrate ki_C_migrate ke_C_migrate kn_C km_law_32 kh_C_migrate rfl rfl ⟨by decide, by decide⟩) (preW hW.left rfl rfl (mw_get (k := 0) (by omega) mk_root)) rfl rfl hl.1 rfl (lv_room (Nat.le_of_ble_eq_true rfl)) d_law_247 ⟨by show 100 + 3 * k + 0 ≤ 634478; omega, by show 900 + 19 * k + 0 ≤ 7198814; omega⟩) (fun rr uc H locs hp hW => ?_)
        have hW : Wd D classes (tysA g) s A (wC g ad (np) ((mMigrate v (xs (5 * k + 1)) (xs (5 * k + 2))).2) ++ wM g am r) H locs := hW
        have hp : rr = (mMigrate v (xs (5 * k + 1)) (xs (5 * k + 2))).1 := hp
        subst hp
        refine lv_pop hx hb d_law_250 rfl ?_
        refine lv_aload_n hx hb d_law_251 rfl (lv_at hl 2 rfl) ?_
        refine lv_aload_n hx hb d_law_252 rfl (lv_at hl 0 rfl) ?_
        refine lv_iload_n hx hb d_law_253 rfl (lv_at hl 3 rfl) ?_
        refine lv_iconst (v := 1) hx hb d_law_254 (by decide) ?_
        refine lv_iadd hx hb d_law_255 ?_
        refine sld hx hb hW hX hbl hbA (5 * k + 1) (ni_add rfl rfl) (by omega) (by omega) d_law_256 ?_
        refine lv_aload_n hx hb d_law_257 rfl (lv_at hl 0 rfl) ?_
        refine lv_iload_n hx hb d_law_258 rfl (lv_at hl 3 rfl) ?_
        refine lv_iconst (v := 2) hx hb d_law_259 (by decide) ?_
        refine lv_iadd hx hb d_law_260 ?_
        refine sld hx hb hW hX hbl hbA (5 * k + 2) (ni_add rfl rfl) (by omega) (by omega) d_law_261 ?_
        have hW := hW.swap
        refine jci hW hA (va_runV (As := [.int (xs (5 * k + 1)), .int (xs (5 * k + 2))]) (rest := []) ⟨hx, hb, hml, hown, hts⟩ (c_M_migrate l (xs (5 * k + 1)) (xs (5 * k + 2)) (rl_okM hR) _) (cv 2 hts kc_M_migrate ki_M_migrate ke_M_migrate kn_M km_law_35 kh_M_migrate rfl rfl ⟨by decide, by decide⟩) (preW hW.left rfl rfl (mw_get (k := 0) (by omega) mm_root)) rfl rfl hl.1 rfl (lv_room (Nat.le_of_ble_eq_true rfl)) d_law_262 ⟨by show 100 + 3 * k + 0 + 0 ≤ 634478; omega, by show 900 + 19 * k + 0 + 0 ≤ 7198814; omega⟩) (fun rr um H locs hp hW => ?_)
        have hW : Wd D classes (tysA g) s A (wM g am ((mMig r (xs (5 * k + 1)) (xs (5 * k + 2))).2) ++ wC g ad (np) ((mMigrate v (xs (5 * k + 1)) (xs (5 * k + 2))).2)) H locs := hW
        have hW := hW.swap
        have hp : rr = (mMig r (xs (5 * k + 1)) (xs (5 * k + 2))).1 := hp
        subst hp
        refine lv_pop hx hb d_law_265 rfl ?_
        refine lv_goto (tgt := 536) hx hb d_law_266 (by decide) ?_
        refine W.widen (k := 103 + 3 * k) (n := 919 + 19 * k) (by omega) (by omega) ?_
        exact hend hk5 (np) ((mMigrate v (xs (5 * k + 1)) (xs (5 * k + 2))).2) ((mMig r (xs (5 * k + 1)) (xs (5 * k + 2))).2) ad _ _ _ (rl_migrate hR hk9 (xs (5 * k + 1)) (xs (5 * k + 2))) hW hl
      · refine lv_tableIn (tgt := 269) hx hb d_law_32 (by rw [h_32_5]; decide) (by rw [h_32_5]; decide) (off := 237) (by rw [h_32_5]; rfl) (by decide) ?_
        refine lv_aload_n hx hb d_law_269 rfl (lv_at hl 1 rfl) ?_
        refine lv_aload_n hx hb d_law_270 rfl (lv_at hl 0 rfl) ?_
        refine lv_iload_n hx hb d_law_271 rfl (lv_at hl 3 rfl) ?_
        refine lv_iconst (v := 1) hx hb d_law_272 (by decide) ?_
        refine lv_iadd hx hb d_law_273 ?_
        refine sld hx hb hW hX hbl hbA (5 * k + 1) (ni_add rfl rfl) (by omega) (by omega) d_law_274 ?_
        refine lv_aload_n hx hb d_law_275 rfl (lv_at hl 0 rfl) ?_
        refine lv_iload_n hx hb d_law_276 rfl (lv_at hl 3 rfl) ?_
        refine lv_iconst (v := 2) hx hb d_law_277 (by decide) ?_
        refine lv_iadd hx hb d_law_278 ?_
        refine sld hx hb hW hX hbl hbA (5 * k + 2) (ni_add rfl rfl) (by omega) (by omega) d_law_279 ?_
        refine jci hW hA (va_runV (As := [.int (xs (5 * k + 1)), .int (xs (5 * k + 2))]) (rest := []) ⟨hx, hb, hml, hown, hts⟩ (c_C_find l (xs (5 * k + 1)) (xs (5 * k + 2)) (rl_ok hR) _) (cv 2 hts kc_C_find ki_C_find ke_C_find kn_C km_law_36 kh_C_find rfl rfl ⟨by decide, by decide⟩) (preW hW.left rfl rfl (mw_get (k := 0) (by omega) mk_root)) rfl rfl hl.1 rfl (lv_room (Nat.le_of_ble_eq_true rfl)) d_law_280 ⟨by show 100 + 3 * k + 0 ≤ 634478; omega, by show 900 + 19 * k + 0 ≤ 7198814; omega⟩) (fun rr uc H locs hp hW => ?_)
        have hW : Wd D classes (tysA g) s A (wC g ad (np) ((mFind v (xs (5 * k + 1)) (xs (5 * k + 2))).2) ++ wM g am r) H locs := hW
        have hp : rr = (mFind v (xs (5 * k + 1)) (xs (5 * k + 2))).1 := hp
        subst hp
        refine lv_pop hx hb d_law_283 rfl ?_
        refine lv_aload_n hx hb d_law_284 rfl (lv_at hl 2 rfl) ?_
        refine lv_aload_n hx hb d_law_285 rfl (lv_at hl 0 rfl) ?_
        refine lv_iload_n hx hb d_law_286 rfl (lv_at hl 3 rfl) ?_
        refine lv_iconst (v := 1) hx hb d_law_287 (by decide) ?_
        refine lv_iadd hx hb d_law_288 ?_
        refine sld hx hb hW hX hbl hbA (5 * k + 1) (ni_add rfl rfl) (by omega) (by omega) d_law_289 ?_
        refine lv_aload_n hx hb d_law_290 rfl (lv_at hl 0 rfl) ?_
        refine lv_iload_n hx hb d_law_291 rfl (lv_at hl 3 rfl) ?_
        refine lv_iconst (v := 2) hx hb d_law_292 (by decide) ?_
        refine lv_iadd hx hb d_law_293 ?_
        refine sld hx hb hW hX hbl hbA (5 * k + 2) (ni_add rfl rfl) (by omega) (by omega) d_law_294 ?_
        have hW := hW.swap
        refine jci hW hA (va_runV (As := [.int (xs (5 * k + 1)), .int (xs (5 * k + 2))]) (rest := []) ⟨hx, hb, hml, hown, hts⟩ (c_M_find l (xs (5 * k + 1)) (xs (5 * k + 2)) (rl_okM hR) _) (cv 2 hts kc_M_find ki_M_find ke_M_find kn_M km_law_39 kh_M_find rfl rfl ⟨by decide, by decide⟩) (preW hW.left rfl rfl (mw_get (k := 0) (by omega) mm_root)) rfl rfl hl.1 rfl (lv_room (Nat.le_of_ble_eq_true rfl)) d_law_295 ⟨by show 100 + 3 * k + 0 + 0 ≤ 634478; omega, by show 900 + 19 * k + 0 + 0 ≤ 7198814; omega⟩) (fun rr um H locs hp hW => ?_)
        have hW : Wd D classes (tysA g) s A (wM g am ((mFnd r (xs (5 * k + 1)) (xs (5 * k + 2))).2) ++ wC g ad (np) ((mFind v (xs (5 * k + 1)) (xs (5 * k + 2))).2)) H locs := hW
        have hW := hW.swap
        have hp : rr = (mFnd r (xs (5 * k + 1)) (xs (5 * k + 2))).1 := hp
        subst hp
        refine lv_pop hx hb d_law_298 rfl ?_
        refine lv_goto (tgt := 536) hx hb d_law_299 (by decide) ?_
        refine W.widen (k := 103 + 3 * k) (n := 919 + 19 * k) (by omega) (by omega) ?_
        exact hend hk5 (np) ((mFind v (xs (5 * k + 1)) (xs (5 * k + 2))).2) ((mFnd r (xs (5 * k + 1)) (xs (5 * k + 2))).2) ad _ _ _ (rl_find hR hk9 (xs (5 * k + 1)) (xs (5 * k + 2))) hW hl
      · refine lv_tableIn (tgt := 302) hx hb d_law_32 (by rw [h_32_6]; decide) (by rw [h_32_6]; decide) (off := 270) (by rw [h_32_6]; rfl) (by decide) ?_
        refine lv_aload_n hx hb d_law_302 rfl (lv_at hl 1 rfl) ?_
        refine lv_aload_n hx hb d_law_303 rfl (lv_at hl 0 rfl) ?_
        refine lv_iload_n hx hb d_law_304 rfl (lv_at hl 3 rfl) ?_
        refine lv_iconst (v := 1) hx hb d_law_305 (by decide) ?_
        refine lv_iadd hx hb d_law_306 ?_
        refine sld hx hb hW hX hbl hbA (5 * k + 1) (ni_add rfl rfl) (by omega) (by omega) d_law_307 ?_
        refine lv_aload_n hx hb d_law_308 rfl (lv_at hl 0 rfl) ?_
        refine lv_iload_n hx hb d_law_309 rfl (lv_at hl 3 rfl) ?_
        refine lv_iconst (v := 2) hx hb d_law_310 (by decide) ?_
        refine lv_iadd hx hb d_law_311 ?_
        refine sld hx hb hW hX hbl hbA (5 * k + 2) (ni_add rfl rfl) (by omega) (by omega) d_law_312 ?_
        refine jcl hW hA (va_runV (As := [.int (xs (5 * k + 1)), .int (xs (5 * k + 2))]) (rest := []) ⟨hx, hb, hml, hown, hts⟩ (c_C_reg l (xs (5 * k + 1)) (xs (5 * k + 2)) (rl_ok hR) _) (cv 2 hts kc_C_reg ki_C_reg ke_C_reg kn_C km_law_40 kh_C_reg rfl rfl ⟨by decide, by decide⟩) (preW hW.left rfl rfl (mw_get (k := 0) (by omega) mk_root)) rfl rfl hl.1 rfl (lv_room (Nat.le_of_ble_eq_true rfl)) d_law_313 ⟨by show 100 + 3 * k + 0 ≤ 634478; omega, by show 900 + 19 * k + 0 ≤ 7198814; omega⟩) (fun rr uc H locs hp hW => ?_)
        have hW : Wd D classes (tysA g) s A (wC g ad (np) (v) ++ wM g am r) H locs := hW
        have hp : rr = rReg v (xs (5 * k + 1)) (xs (5 * k + 2)) := hp
        subst hp
        refine lv_pop2_2 hx hb d_law_316 rfl ?_
        refine lv_aload_n hx hb d_law_317 rfl (lv_at hl 2 rfl) ?_
        refine lv_aload_n hx hb d_law_318 rfl (lv_at hl 0 rfl) ?_
        refine lv_iload_n hx hb d_law_319 rfl (lv_at hl 3 rfl) ?_
        refine lv_iconst (v := 1) hx hb d_law_320 (by decide) ?_
        refine lv_iadd hx hb d_law_321 ?_
        refine sld hx hb hW hX hbl hbA (5 * k + 1) (ni_add rfl rfl) (by omega) (by omega) d_law_322 ?_
        refine lv_aload_n hx hb d_law_323 rfl (lv_at hl 0 rfl) ?_
        refine lv_iload_n hx hb d_law_324 rfl (lv_at hl 3 rfl) ?_
        refine lv_iconst (v := 2) hx hb d_law_325 (by decide) ?_
        refine lv_iadd hx hb d_law_326 ?_
        refine sld hx hb hW hX hbl hbA (5 * k + 2) (ni_add rfl rfl) (by omega) (by omega) d_law_327 ?_
        have hW := hW.swap
        refine jcl hW hA (va_runV (As := [.int (xs (5 * k + 1)), .int (xs (5 * k + 2))]) (rest := []) ⟨hx, hb, hml, hown, hts⟩ (c_M_reg l (xs (5 * k + 1)) (xs (5 * k + 2)) (rl_okM hR) _) (cv 2 hts kc_M_reg ki_M_reg ke_M_reg kn_M km_law_44 kh_M_reg rfl rfl ⟨by decide, by decide⟩) (preW hW.left rfl rfl (mw_get (k := 0) (by omega) mm_root)) rfl rfl hl.1 rfl (lv_room (Nat.le_of_ble_eq_true rfl)) d_law_328 ⟨by show 100 + 3 * k + 0 + 0 ≤ 634478; omega, by show 900 + 19 * k + 0 + 0 ≤ 7198814; omega⟩) (fun rr um H locs hp hW => ?_)
        have hW : Wd D classes (tysA g) s A (wM g am (r) ++ wC g ad (np) (v)) H locs := hW
        have hW := hW.swap
        have hp : rr = mReg r (xs (5 * k + 1)) (xs (5 * k + 2)) := hp
        subst hp
        refine lv_pop2_2 hx hb d_law_331 rfl ?_
        refine lv_goto (tgt := 536) hx hb d_law_332 (by decide) ?_
        refine W.widen (k := 103 + 3 * k) (n := 919 + 19 * k) (by omega) (by omega) ?_
        exact hend hk5 (np) (v) (r) ad _ _ _ (rl_next hR hk9) hW hl
      · refine lv_tableIn (tgt := 335) hx hb d_law_32 (by rw [h_32_7]; decide) (by rw [h_32_7]; decide) (off := 303) (by rw [h_32_7]; rfl) (by decide) ?_
        refine lv_aload_n hx hb d_law_335 rfl (lv_at hl 1 rfl) ?_
        refine lv_aload_n hx hb d_law_336 rfl (lv_at hl 0 rfl) ?_
        refine lv_iload_n hx hb d_law_337 rfl (lv_at hl 3 rfl) ?_
        refine lv_iconst (v := 1) hx hb d_law_338 (by decide) ?_
        refine lv_iadd hx hb d_law_339 ?_
        refine sld hx hb hW hX hbl hbA (5 * k + 1) (ni_add rfl rfl) (by omega) (by omega) d_law_340 ?_
        refine lv_aload_n hx hb d_law_341 rfl (lv_at hl 0 rfl) ?_
        refine lv_iload_n hx hb d_law_342 rfl (lv_at hl 3 rfl) ?_
        refine lv_iconst (v := 2) hx hb d_law_343 (by decide) ?_
        refine lv_iadd hx hb d_law_344 ?_
        refine sld hx hb hW hX hbl hbA (5 * k + 2) (ni_add rfl rfl) (by omega) (by omega) d_law_345 ?_
        refine jcl hW hA (va_runV (As := [.int (xs (5 * k + 1)), .int (xs (5 * k + 2))]) (rest := []) ⟨hx, hb, hml, hown, hts⟩ (c_C_info l (xs (5 * k + 1)) (xs (5 * k + 2)) (rl_ok hR) _) (cv 2 hts kc_C_info ki_C_info ke_C_info kn_C km_law_45 kh_C_info rfl rfl ⟨by decide, by decide⟩) (preW hW.left rfl rfl (mw_get (k := 0) (by omega) mk_root)) rfl rfl hl.1 rfl (lv_room (Nat.le_of_ble_eq_true rfl)) d_law_346 ⟨by show 100 + 3 * k + 0 ≤ 634478; omega, by show 900 + 19 * k + 0 ≤ 7198814; omega⟩) (fun rr uc H locs hp hW => ?_)
        have hW : Wd D classes (tysA g) s A (wC g ad (np) (v) ++ wM g am r) H locs := hW
        have hp : rr = rInfo v (xs (5 * k + 1)) (xs (5 * k + 2)) := hp
        subst hp
        refine lv_pop2_2 hx hb d_law_349 rfl ?_
        refine lv_aload_n hx hb d_law_350 rfl (lv_at hl 2 rfl) ?_
        refine lv_aload_n hx hb d_law_351 rfl (lv_at hl 0 rfl) ?_
        refine lv_iload_n hx hb d_law_352 rfl (lv_at hl 3 rfl) ?_
        refine lv_iconst (v := 1) hx hb d_law_353 (by decide) ?_
        refine lv_iadd hx hb d_law_354 ?_
        refine sld hx hb hW hX hbl hbA (5 * k + 1) (ni_add rfl rfl) (by omega) (by omega) d_law_355 ?_
        refine lv_aload_n hx hb d_law_356 rfl (lv_at hl 0 rfl) ?_
        refine lv_iload_n hx hb d_law_357 rfl (lv_at hl 3 rfl) ?_
        refine lv_iconst (v := 2) hx hb d_law_358 (by decide) ?_
        refine lv_iadd hx hb d_law_359 ?_
        refine sld hx hb hW hX hbl hbA (5 * k + 2) (ni_add rfl rfl) (by omega) (by omega) d_law_360 ?_
        have hW := hW.swap
        refine jcl hW hA (va_runV (As := [.int (xs (5 * k + 1)), .int (xs (5 * k + 2))]) (rest := []) ⟨hx, hb, hml, hown, hts⟩ (c_M_info l (xs (5 * k + 1)) (xs (5 * k + 2)) (rl_okM hR) _) (cv 2 hts kc_M_info ki_M_info ke_M_info kn_M km_law_48 kh_M_info rfl rfl ⟨by decide, by decide⟩) (preW hW.left rfl rfl (mw_get (k := 0) (by omega) mm_root)) rfl rfl hl.1 rfl (lv_room (Nat.le_of_ble_eq_true rfl)) d_law_361 ⟨by show 100 + 3 * k + 0 + 0 ≤ 634478; omega, by show 900 + 19 * k + 0 + 0 ≤ 7198814; omega⟩) (fun rr um H locs hp hW => ?_)
        have hW : Wd D classes (tysA g) s A (wM g am (r) ++ wC g ad (np) (v)) H locs := hW
        have hW := hW.swap
        have hp : rr = mInfo r (xs (5 * k + 1)) (xs (5 * k + 2)) := hp
        subst hp
        refine lv_pop2_2 hx hb d_law_364 rfl ?_
        refine lv_goto (tgt := 536) hx hb d_law_365 (by decide) ?_
        refine W.widen (k := 103 + 3 * k) (n := 919 + 19 * k) (by omega) (by omega) ?_
        exact hend hk5 (np) (v) (r) ad _ _ _ (rl_next hR hk9) hW hl
      · refine lv_tableIn (tgt := 368) hx hb d_law_32 (by rw [h_32_8]; decide) (by rw [h_32_8]; decide) (off := 336) (by rw [h_32_8]; rfl) (by decide) ?_
        refine lv_aload_n hx hb d_law_368 rfl (lv_at hl 1 rfl) ?_
        refine lv_aload_n hx hb d_law_369 rfl (lv_at hl 0 rfl) ?_
        refine lv_iload_n hx hb d_law_370 rfl (lv_at hl 3 rfl) ?_
        refine lv_iconst (v := 1) hx hb d_law_371 (by decide) ?_
        refine lv_iadd hx hb d_law_372 ?_
        refine sld hx hb hW hX hbl hbA (5 * k + 1) (ni_add rfl rfl) (by omega) (by omega) d_law_373 ?_
        refine lv_aload_n hx hb d_law_374 rfl (lv_at hl 0 rfl) ?_
        refine lv_iload_n hx hb d_law_375 rfl (lv_at hl 3 rfl) ?_
        refine lv_iconst (v := 2) hx hb d_law_376 (by decide) ?_
        refine lv_iadd hx hb d_law_377 ?_
        refine sld hx hb hW hX hbl hbA (5 * k + 2) (ni_add rfl rfl) (by omega) (by omega) d_law_378 ?_
        refine jci hW hA (va_runV (As := [.int (xs (5 * k + 1)), .int (xs (5 * k + 2))]) (rest := []) ⟨hx, hb, hml, hown, hts⟩ (c_C_line l (xs (5 * k + 1)) (xs (5 * k + 2)) (rl_ok hR) _) (cv 2 hts kc_C_line ki_C_line ke_C_line kn_C km_law_49 kh_C_line rfl rfl ⟨by decide, by decide⟩) (preW hW.left rfl rfl (mw_get (k := 0) (by omega) mk_root)) rfl rfl hl.1 rfl (lv_room (Nat.le_of_ble_eq_true rfl)) d_law_379 ⟨by show 100 + 3 * k + 0 ≤ 634478; omega, by show 900 + 19 * k + 0 ≤ 7198814; omega⟩) (fun rr uc H locs hp hW => ?_)
        have hW : Wd D classes (tysA g) s A (wC g ad (np) (v) ++ wM g am r) H locs := hW
        have hp : rr = rLine v (xs (5 * k + 1)) (xs (5 * k + 2)) := hp
        subst hp
        refine lv_pop hx hb d_law_382 rfl ?_
        refine lv_aload_n hx hb d_law_383 rfl (lv_at hl 2 rfl) ?_
        refine lv_aload_n hx hb d_law_384 rfl (lv_at hl 0 rfl) ?_
        refine lv_iload_n hx hb d_law_385 rfl (lv_at hl 3 rfl) ?_
        refine lv_iconst (v := 1) hx hb d_law_386 (by decide) ?_
        refine lv_iadd hx hb d_law_387 ?_
        refine sld hx hb hW hX hbl hbA (5 * k + 1) (ni_add rfl rfl) (by omega) (by omega) d_law_388 ?_
        refine lv_aload_n hx hb d_law_389 rfl (lv_at hl 0 rfl) ?_
        refine lv_iload_n hx hb d_law_390 rfl (lv_at hl 3 rfl) ?_
        refine lv_iconst (v := 2) hx hb d_law_391 (by decide) ?_
        refine lv_iadd hx hb d_law_392 ?_
        refine sld hx hb hW hX hbl hbA (5 * k + 2) (ni_add rfl rfl) (by omega) (by omega) d_law_393 ?_
        have hW := hW.swap
        refine jci hW hA (va_runV (As := [.int (xs (5 * k + 1)), .int (xs (5 * k + 2))]) (rest := []) ⟨hx, hb, hml, hown, hts⟩ (c_M_line l (xs (5 * k + 1)) (xs (5 * k + 2)) (rl_okM hR) _) (cv 2 hts kc_M_line ki_M_line ke_M_line kn_M km_law_52 kh_M_line rfl rfl ⟨by decide, by decide⟩) (preW hW.left rfl rfl (mw_get (k := 0) (by omega) mm_root)) rfl rfl hl.1 rfl (lv_room (Nat.le_of_ble_eq_true rfl)) d_law_394 ⟨by show 100 + 3 * k + 0 + 0 ≤ 634478; omega, by show 900 + 19 * k + 0 + 0 ≤ 7198814; omega⟩) (fun rr um H locs hp hW => ?_)
        have hW : Wd D classes (tysA g) s A (wM g am (r) ++ wC g ad (np) (v)) H locs := hW
        have hW := hW.swap
        have hp : rr = mLine r (xs (5 * k + 1)) (xs (5 * k + 2)) := hp
        subst hp
        refine lv_pop hx hb d_law_397 rfl ?_
        refine lv_goto (tgt := 536) hx hb d_law_398 (by decide) ?_
        refine W.widen (k := 103 + 3 * k) (n := 919 + 19 * k) (by omega) (by omega) ?_
        exact hend hk5 (np) (v) (r) ad _ _ _ (rl_next hR hk9) hW hl
      · refine lv_tableIn (tgt := 401) hx hb d_law_32 (by rw [h_32_9]; decide) (by rw [h_32_9]; decide) (off := 369) (by rw [h_32_9]; rfl) (by decide) ?_
        refine lv_aload_n hx hb d_law_401 rfl (lv_at hl 1 rfl) ?_
        refine lv_aload_n hx hb d_law_402 rfl (lv_at hl 0 rfl) ?_
        refine lv_iload_n hx hb d_law_403 rfl (lv_at hl 3 rfl) ?_
        refine lv_iconst (v := 1) hx hb d_law_404 (by decide) ?_
        refine lv_iadd hx hb d_law_405 ?_
        refine sld hx hb hW hX hbl hbA (5 * k + 1) (ni_add rfl rfl) (by omega) (by omega) d_law_406 ?_
        refine jcl hW hA (va_runV (As := [.int (xs (5 * k + 1))]) (rest := []) ⟨hx, hb, hml, hown, hts⟩ (c_C_word l (xs (5 * k + 1)) (rl_ok hR) _) (cv 1 hts kc_C_word ki_C_word ke_C_word kn_C km_law_53 kh_C_word rfl rfl ⟨by decide, by decide⟩) (preW hW.left rfl rfl (mw_get (k := 0) (by omega) mk_root)) rfl rfl hl.1 rfl (lv_room (Nat.le_of_ble_eq_true rfl)) d_law_407 ⟨by show 100 + 3 * k + 0 ≤ 634478; omega, by show 900 + 19 * k + 0 ≤ 7198814; omega⟩) (fun rr uc H locs hp hW => ?_)
        have hW : Wd D classes (tysA g) s A (wC g ad (np) (v) ++ wM g am r) H locs := hW
        have hp : rr = rWord v (xs (5 * k + 1)) := hp
        subst hp
        refine lv_pop2_2 hx hb d_law_410 rfl ?_
        refine lv_aload_n hx hb d_law_411 rfl (lv_at hl 2 rfl) ?_
        refine lv_aload_n hx hb d_law_412 rfl (lv_at hl 0 rfl) ?_
        refine lv_iload_n hx hb d_law_413 rfl (lv_at hl 3 rfl) ?_
        refine lv_iconst (v := 1) hx hb d_law_414 (by decide) ?_
        refine lv_iadd hx hb d_law_415 ?_
        refine sld hx hb hW hX hbl hbA (5 * k + 1) (ni_add rfl rfl) (by omega) (by omega) d_law_416 ?_
        have hW := hW.swap
        refine jcl hW hA (va_runV (As := [.int (xs (5 * k + 1))]) (rest := []) ⟨hx, hb, hml, hown, hts⟩ (c_M_word l (xs (5 * k + 1)) (rl_okM hR) _) (cv 1 hts kc_M_word ki_M_word ke_M_word kn_M km_law_57 kh_M_word rfl rfl ⟨by decide, by decide⟩) (preW hW.left rfl rfl (mw_get (k := 0) (by omega) mm_root)) rfl rfl hl.1 rfl (lv_room (Nat.le_of_ble_eq_true rfl)) d_law_417 ⟨by show 100 + 3 * k + 0 + 0 ≤ 634478; omega, by show 900 + 19 * k + 0 + 0 ≤ 7198814; omega⟩) (fun rr um H locs hp hW => ?_)
        have hW : Wd D classes (tysA g) s A (wM g am (r) ++ wC g ad (np) (v)) H locs := hW
        have hW := hW.swap
        have hp : rr = mWord r (xs (5 * k + 1)) := hp
        subst hp
        refine lv_pop2_2 hx hb d_law_420 rfl ?_
        refine lv_goto (tgt := 536) hx hb d_law_421 (by decide) ?_
        refine W.widen (k := 103 + 3 * k) (n := 919 + 19 * k) (by omega) (by omega) ?_
        exact hend hk5 (np) (v) (r) ad _ _ _ (rl_next hR hk9) hW hl
      · refine lv_tableIn (tgt := 424) hx hb d_law_32 (by rw [h_32_10]; decide) (by rw [h_32_10]; decide) (off := 392) (by rw [h_32_10]; rfl) (by decide) ?_
        refine lv_aload_n hx hb d_law_424 rfl (lv_at hl 1 rfl) ?_
        refine lv_aload_n hx hb d_law_425 rfl (lv_at hl 0 rfl) ?_
        refine lv_iload_n hx hb d_law_426 rfl (lv_at hl 3 rfl) ?_
        refine lv_iconst (v := 1) hx hb d_law_427 (by decide) ?_
        refine lv_iadd hx hb d_law_428 ?_
        refine sld hx hb hW hX hbl hbA (5 * k + 1) (ni_add rfl rfl) (by omega) (by omega) d_law_429 ?_
        refine lv_aload_n hx hb d_law_430 rfl (lv_at hl 0 rfl) ?_
        refine lv_iload_n hx hb d_law_431 rfl (lv_at hl 3 rfl) ?_
        refine lv_iconst (v := 2) hx hb d_law_432 (by decide) ?_
        refine lv_iadd hx hb d_law_433 ?_
        refine sld hx hb hW hX hbl hbA (5 * k + 2) (ni_add rfl rfl) (by omega) (by omega) d_law_434 ?_
        refine jcl hW hA (va_runV (As := [.int (xs (5 * k + 1)), .int (xs (5 * k + 2))]) (rest := []) ⟨hx, hb, hml, hown, hts⟩ (c_C_copy l (xs (5 * k + 1)) (xs (5 * k + 2)) (rl_ok hR) _) (cv 2 hts kc_C_copy ki_C_copy ke_C_copy kn_C km_law_58 kh_C_copy rfl rfl ⟨by decide, by decide⟩) (preW hW.left rfl rfl (mw_get (k := 0) (by omega) mk_root)) rfl rfl hl.1 rfl (lv_room (Nat.le_of_ble_eq_true rfl)) d_law_435 ⟨by show 100 + 3 * k + 0 ≤ 634478; omega, by show 900 + 19 * k + 0 ≤ 7198814; omega⟩) (fun rr uc H locs hp hW => ?_)
        have hW : Wd D classes (tysA g) s A (wC g ad (np) (v) ++ wM g am r) H locs := hW
        have hp : rr = rCopy v (xs (5 * k + 1)) (xs (5 * k + 2)) := hp
        subst hp
        refine lv_pop2_2 hx hb d_law_438 rfl ?_
        refine lv_aload_n hx hb d_law_439 rfl (lv_at hl 2 rfl) ?_
        refine lv_aload_n hx hb d_law_440 rfl (lv_at hl 0 rfl) ?_
        refine lv_iload_n hx hb d_law_441 rfl (lv_at hl 3 rfl) ?_
        refine lv_iconst (v := 1) hx hb d_law_442 (by decide) ?_
        refine lv_iadd hx hb d_law_443 ?_
        refine sld hx hb hW hX hbl hbA (5 * k + 1) (ni_add rfl rfl) (by omega) (by omega) d_law_444 ?_
        refine lv_aload_n hx hb d_law_445 rfl (lv_at hl 0 rfl) ?_
        refine lv_iload_n hx hb d_law_446 rfl (lv_at hl 3 rfl) ?_
        refine lv_iconst (v := 2) hx hb d_law_447 (by decide) ?_
        refine lv_iadd hx hb d_law_448 ?_
        refine sld hx hb hW hX hbl hbA (5 * k + 2) (ni_add rfl rfl) (by omega) (by omega) d_law_449 ?_
        have hW := hW.swap
        refine jcl hW hA (va_runV (As := [.int (xs (5 * k + 1)), .int (xs (5 * k + 2))]) (rest := []) ⟨hx, hb, hml, hown, hts⟩ (c_M_copy l (xs (5 * k + 1)) (xs (5 * k + 2)) (rl_okM hR) _) (cv 2 hts kc_M_copy ki_M_copy ke_M_copy kn_M km_law_61 kh_M_copy rfl rfl ⟨by decide, by decide⟩) (preW hW.left rfl rfl (mw_get (k := 0) (by omega) mm_root)) rfl rfl hl.1 rfl (lv_room (Nat.le_of_ble_eq_true rfl)) d_law_450 ⟨by show 100 + 3 * k + 0 + 0 ≤ 634478; omega, by show 900 + 19 * k + 0 + 0 ≤ 7198814; omega⟩) (fun rr um H locs hp hW => ?_)
        have hW : Wd D classes (tysA g) s A (wM g am (r) ++ wC g ad (np) (v)) H locs := hW
        have hW := hW.swap
        have hp : rr = mCopy r (xs (5 * k + 1)) (xs (5 * k + 2)) := hp
        subst hp
        refine lv_pop2_2 hx hb d_law_453 rfl ?_
        refine lv_goto (tgt := 536) hx hb d_law_454 (by decide) ?_
        refine W.widen (k := 103 + 3 * k) (n := 919 + 19 * k) (by omega) (by omega) ?_
        exact hend hk5 (np) (v) (r) ad _ _ _ (rl_next hR hk9) hW hl
      · refine lv_tableIn (tgt := 457) hx hb d_law_32 (by rw [h_32_11]; decide) (by rw [h_32_11]; decide) (off := 425) (by rw [h_32_11]; rfl) (by decide) ?_
        refine lv_aload_n hx hb d_law_457 rfl (lv_at hl 1 rfl) ?_
        refine lv_aload_n hx hb d_law_458 rfl (lv_at hl 0 rfl) ?_
        refine lv_iload_n hx hb d_law_459 rfl (lv_at hl 3 rfl) ?_
        refine lv_iconst (v := 1) hx hb d_law_460 (by decide) ?_
        refine lv_iadd hx hb d_law_461 ?_
        refine sld hx hb hW hX hbl hbA (5 * k + 1) (ni_add rfl rfl) (by omega) (by omega) d_law_462 ?_
        refine lv_aload_n hx hb d_law_463 rfl (lv_at hl 0 rfl) ?_
        refine lv_iload_n hx hb d_law_464 rfl (lv_at hl 3 rfl) ?_
        refine lv_iconst (v := 2) hx hb d_law_465 (by decide) ?_
        refine lv_iadd hx hb d_law_466 ?_
        refine sld hx hb hW hX hbl hbA (5 * k + 2) (ni_add rfl rfl) (by omega) (by omega) d_law_467 ?_
        refine jci hW hA (va_runV (As := [.int (xs (5 * k + 1)), .int (xs (5 * k + 2))]) (rest := []) ⟨hx, hb, hml, hown, hts⟩ (c_C_right l (xs (5 * k + 1)) (xs (5 * k + 2)) (rl_ok hR) _) (cv 2 hts kc_C_right ki_C_right ke_C_right kn_C km_law_62 kh_C_right rfl rfl ⟨by decide, by decide⟩) (preW hW.left rfl rfl (mw_get (k := 0) (by omega) mk_root)) rfl rfl hl.1 rfl (lv_room (Nat.le_of_ble_eq_true rfl)) d_law_468 ⟨by show 100 + 3 * k + 0 ≤ 634478; omega, by show 900 + 19 * k + 0 ≤ 7198814; omega⟩) (fun rr uc H locs hp hW => ?_)
        have hW : Wd D classes (tysA g) s A (wC g ad (np) (v) ++ wM g am r) H locs := hW
        have hp : rr = rRight v (xs (5 * k + 1)) (xs (5 * k + 2)) := hp
        subst hp
        refine lv_pop hx hb d_law_471 rfl ?_
        refine lv_aload_n hx hb d_law_472 rfl (lv_at hl 2 rfl) ?_
        refine lv_aload_n hx hb d_law_473 rfl (lv_at hl 0 rfl) ?_
        refine lv_iload_n hx hb d_law_474 rfl (lv_at hl 3 rfl) ?_
        refine lv_iconst (v := 1) hx hb d_law_475 (by decide) ?_
        refine lv_iadd hx hb d_law_476 ?_
        refine sld hx hb hW hX hbl hbA (5 * k + 1) (ni_add rfl rfl) (by omega) (by omega) d_law_477 ?_
        refine lv_aload_n hx hb d_law_478 rfl (lv_at hl 0 rfl) ?_
        refine lv_iload_n hx hb d_law_479 rfl (lv_at hl 3 rfl) ?_
        refine lv_iconst (v := 2) hx hb d_law_480 (by decide) ?_
        refine lv_iadd hx hb d_law_481 ?_
        refine sld hx hb hW hX hbl hbA (5 * k + 2) (ni_add rfl rfl) (by omega) (by omega) d_law_482 ?_
        have hW := hW.swap
        refine jci hW hA (va_runV (As := [.int (xs (5 * k + 1)), .int (xs (5 * k + 2))]) (rest := []) ⟨hx, hb, hml, hown, hts⟩ (c_M_right l (xs (5 * k + 1)) (xs (5 * k + 2)) (rl_okM hR) _) (cv 2 hts kc_M_right ki_M_right ke_M_right kn_M km_law_65 kh_M_right rfl rfl ⟨by decide, by decide⟩) (preW hW.left rfl rfl (mw_get (k := 0) (by omega) mm_root)) rfl rfl hl.1 rfl (lv_room (Nat.le_of_ble_eq_true rfl)) d_law_483 ⟨by show 100 + 3 * k + 0 + 0 ≤ 634478; omega, by show 900 + 19 * k + 0 + 0 ≤ 7198814; omega⟩) (fun rr um H locs hp hW => ?_)
        have hW : Wd D classes (tysA g) s A (wM g am (r) ++ wC g ad (np) (v)) H locs := hW
        have hW := hW.swap
        have hp : rr = mRight r (xs (5 * k + 1)) (xs (5 * k + 2)) := hp
        subst hp
        refine lv_pop hx hb d_law_486 rfl ?_
        refine lv_goto (tgt := 536) hx hb d_law_487 (by decide) ?_
        refine W.widen (k := 103 + 3 * k) (n := 919 + 19 * k) (by omega) (by omega) ?_
        exact hend hk5 (np) (v) (r) ad _ _ _ (rl_next hR hk9) hW hl
      · refine lv_tableIn (tgt := 490) hx hb d_law_32 (by rw [h_32_12]; decide) (by rw [h_32_12]; decide) (off := 458) (by rw [h_32_12]; rfl) (by decide) ?_
        refine lv_aload_n hx hb d_law_490 rfl (lv_at hl 1 rfl) ?_
        refine lv_aload_n hx hb d_law_491 rfl (lv_at hl 0 rfl) ?_
        refine lv_iload_n hx hb d_law_492 rfl (lv_at hl 3 rfl) ?_
        refine lv_iconst (v := 1) hx hb d_law_493 (by decide) ?_
        refine lv_iadd hx hb d_law_494 ?_
        refine sld hx hb hW hX hbl hbA (5 * k + 1) (ni_add rfl rfl) (by omega) (by omega) d_law_495 ?_
        refine jci hW hA (va_runV (As := [.int (xs (5 * k + 1))]) (rest := []) ⟨hx, hb, hml, hown, hts⟩ (c_C_owner l (xs (5 * k + 1)) (rl_ok hR) _) (cv 1 hts kc_C_owner ki_C_owner ke_C_owner kn_C km_law_66 kh_C_owner rfl rfl ⟨by decide, by decide⟩) (preW hW.left rfl rfl (mw_get (k := 0) (by omega) mk_root)) rfl rfl hl.1 rfl (lv_room (Nat.le_of_ble_eq_true rfl)) d_law_496 ⟨by show 100 + 3 * k + 0 ≤ 634478; omega, by show 900 + 19 * k + 0 ≤ 7198814; omega⟩) (fun rr uc H locs hp hW => ?_)
        have hW : Wd D classes (tysA g) s A (wC g ad (np) (v) ++ wM g am r) H locs := hW
        have hp : rr = rOwner v (xs (5 * k + 1)) := hp
        subst hp
        refine lv_pop hx hb d_law_499 rfl ?_
        refine lv_aload_n hx hb d_law_500 rfl (lv_at hl 2 rfl) ?_
        refine lv_aload_n hx hb d_law_501 rfl (lv_at hl 0 rfl) ?_
        refine lv_iload_n hx hb d_law_502 rfl (lv_at hl 3 rfl) ?_
        refine lv_iconst (v := 1) hx hb d_law_503 (by decide) ?_
        refine lv_iadd hx hb d_law_504 ?_
        refine sld hx hb hW hX hbl hbA (5 * k + 1) (ni_add rfl rfl) (by omega) (by omega) d_law_505 ?_
        have hW := hW.swap
        refine jci hW hA (va_runV (As := [.int (xs (5 * k + 1))]) (rest := []) ⟨hx, hb, hml, hown, hts⟩ (c_M_owner l (xs (5 * k + 1)) (rl_okM hR) _) (cv 1 hts kc_M_owner ki_M_owner ke_M_owner kn_M km_law_69 kh_M_owner rfl rfl ⟨by decide, by decide⟩) (preW hW.left rfl rfl (mw_get (k := 0) (by omega) mm_root)) rfl rfl hl.1 rfl (lv_room (Nat.le_of_ble_eq_true rfl)) d_law_506 ⟨by show 100 + 3 * k + 0 + 0 ≤ 634478; omega, by show 900 + 19 * k + 0 + 0 ≤ 7198814; omega⟩) (fun rr um H locs hp hW => ?_)
        have hW : Wd D classes (tysA g) s A (wM g am (r) ++ wC g ad (np) (v)) H locs := hW
        have hW := hW.swap
        have hp : rr = mOwner r (xs (5 * k + 1)) := hp
        subst hp
        refine lv_pop hx hb d_law_509 rfl ?_
        refine lv_goto (tgt := 536) hx hb d_law_510 (by decide) ?_
        refine W.widen (k := 103 + 3 * k) (n := 919 + 19 * k) (by omega) (by omega) ?_
        exact hend hk5 (np) (v) (r) ad _ _ _ (rl_next hR hk9) hW hl
      · refine lv_tableIn (tgt := 513) hx hb d_law_32 (by rw [h_32_13]; decide) (by rw [h_32_13]; decide) (off := 481) (by rw [h_32_13]; rfl) (by decide) ?_
        refine lv_aload_n hx hb d_law_513 rfl (lv_at hl 1 rfl) ?_
        refine lv_aload_n hx hb d_law_514 rfl (lv_at hl 0 rfl) ?_
        refine lv_iload_n hx hb d_law_515 rfl (lv_at hl 3 rfl) ?_
        refine lv_iconst (v := 1) hx hb d_law_516 (by decide) ?_
        refine lv_iadd hx hb d_law_517 ?_
        refine sld hx hb hW hX hbl hbA (5 * k + 1) (ni_add rfl rfl) (by omega) (by omega) d_law_518 ?_
        refine jci hW hA (va_runV (As := [.int (xs (5 * k + 1))]) (rest := []) ⟨hx, hb, hml, hown, hts⟩ (c_C_count l (xs (5 * k + 1)) (rl_ok hR) _) (cv 1 hts kc_C_count ki_C_count ke_C_count kn_C km_law_70 kh_C_count rfl rfl ⟨by decide, by decide⟩) (preW hW.left rfl rfl (mw_get (k := 0) (by omega) mk_root)) rfl rfl hl.1 rfl (lv_room (Nat.le_of_ble_eq_true rfl)) d_law_519 ⟨by show 100 + 3 * k + 0 ≤ 634478; omega, by show 900 + 19 * k + 0 ≤ 7198814; omega⟩) (fun rr uc H locs hp hW => ?_)
        have hW : Wd D classes (tysA g) s A (wC g ad (np) (v) ++ wM g am r) H locs := hW
        have hp : rr = rCount v (xs (5 * k + 1)) := hp
        subst hp
        refine lv_aload_n hx hb d_law_522 rfl (lv_at hl 2 rfl) ?_
        refine lv_aload_n hx hb d_law_523 rfl (lv_at hl 0 rfl) ?_
        refine lv_iload_n hx hb d_law_524 rfl (lv_at hl 3 rfl) ?_
        refine lv_iconst (v := 1) hx hb d_law_525 (by decide) ?_
        refine lv_iadd hx hb d_law_526 ?_
        refine sld hx hb hW hX hbl hbA (5 * k + 1) (ni_add rfl rfl) (by omega) (by omega) d_law_527 ?_
        have hW := hW.swap
        refine jci hW hA (va_runV (As := [.int (xs (5 * k + 1))]) (rest := [.int (rCount v (xs (5 * k + 1)))]) ⟨hx, hb, hml, hown, hts⟩ (c_M_count l (xs (5 * k + 1)) (rl_okM hR) _) (cv 1 hts kc_M_count ki_M_count ke_M_count kn_M km_law_73 kh_M_count rfl rfl ⟨by decide, by decide⟩) (preW hW.left rfl rfl (mw_get (k := 0) (by omega) mm_root)) rfl rfl hl.1 rfl (lv_room (Nat.le_of_ble_eq_true rfl)) d_law_528 ⟨by show 100 + 3 * k + 0 + 0 ≤ 634478; omega, by show 900 + 19 * k + 0 + 0 ≤ 7198814; omega⟩) (fun rr um H locs hp hW => ?_)
        have hW : Wd D classes (tysA g) s A (wM g am (r) ++ wC g ad (np) (v)) H locs := hW
        have hW := hW.swap
        have hp : rr = mCount r (xs (5 * k + 1)) := hp
        subst hp
        refine lv_icmp_eq (tgt := 536) hx hb d_law_531 (by decide) (fun _ => ?_) (fun c1 => absurd (eq_count hR hk9 (xs (5 * k + 1))) c1)
        refine W.widen (k := 103 + 3 * k) (n := 919 + 19 * k) (by omega) (by omega) ?_
        exact hend hk5 (np) (v) (r) ad _ _ _ (rl_next hR hk9) hW hl
