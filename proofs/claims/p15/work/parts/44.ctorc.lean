/-- what the start of ClusterImage() holds beside -/
def nestC (U : State) : Prop := va_Nw (.methodLinkNest R_C 37 y_Program_init "ClusterImage") U ∧ va_Nw (.methodLinkNest R_C 38 y_Line_init "ClusterImage") U ∧ va_Nw (.methodLinkNest R_C 39 y_Page_init "ClusterImage") U ∧ nestP U ∧ va_AO "ClusterImage$Program" U ∧ va_AO "ClusterImage$Proc" U ∧ va_AO "ClusterImage$Line" U ∧ va_AO "ClusterImage$Page" U
theorem fn0 (f : Nat → Nat) : (fun i => if i < 0 then some (f i) else none) = (fun _ => none : Nat → Option Nat) := by
  funext i; rw [if_neg (by omega)]
def MtK {S : Type} (l : Launch) (y : MethodName) (ws : List Cond) (rm : Room) (D : va_G) (cl : List vw_C) (tys : List (ClassId × FieldType)) (av : List Value) (w : va_W) (post : S → Prop) (w' : S → va_W) (mc ms : Nat) : Prop := ∀ sz : Nat, Met l y ws rm (fun v U => PcW D cl tys av sz w v U ∧ nestC U) (va_Qv post (BtW D cl tys (va_A w sz) w') (va_A w sz)) mc ms (va_A w sz)
theorem mt_k {S : Type} {l : Launch} {y : MethodName} {ws ws' : List Cond} {rm : Room} {D : va_G} {cl : List vw_C} {tys : List (ClassId × FieldType)} {av : List Value} {w : va_W} {w' : S → va_W} {mc ms : Nat} {cc : ByteArray} {maxL : Nat} {post : S → Prop} (hy : plainFor y = true) (hw : ws = Cond.code y cc maxL none :: ws') (hL : (lg_sl av).length ≤ maxL)
    (body : ∀ (p : Program) (e : Env) (s : State) (m : MethodId) (args : Array Value) (below : List Frame) (meth : Method) (c : Code) (Q : State → Prop) (A : Nat → Prop), Cx p s m args meth c y.cls cc maxL none ws → (meth.name = y.name) → (∀ q, s.heap.size ≤ q → A q) → nestC s → Wd D cl tys s A w s.heap [] →
      (∀ (u : S) (H : Heap) (locs : List Loc) (cells slots pc : Nat) (ls : Array Slot), post u → Wd D cl tys s A (w' u) H locs → cells ≤ mc → slots ≤ ms → decode cc pc = .ok (.return_, 1) → W p l e rm s m args below meth c H locs cells slots Q (F0 m pc ls [])) →
      ∀ ls : Array Slot, lv_has ls maxL (lv_args 0 av) → W p l e rm s m args below meth c s.heap [] 0 0 Q (F0 m 0 ls [])) : MtK l y ws rm D cl tys av w post w' mc ms := by
  intro sz
  refine met_ofF (cc := cc) (maxL := maxL) (ret := none) hy hw ?_
  intro p e s m args below meth c s₁ B hml hv
  obtain ⟨⟨rfl, hsz, hP, hK, hD0⟩, hX⟩ := hv
  subst hsz
  have hown : s.vm.findClass y.cls = some m.cls := findClass_of_methodNamed B.named
  have hl := lv_entry av (n := maxL) hL
  rw [lg_entry_eq]
  generalize (lg_sl av ++ List.replicate (maxL - (lg_sl av).length) Slot.unset).toArray = ls at hl ⊢
  refine body p e s m _ below meth c _ (va_A w s.heap.size) ⟨B.exec, B.bytes, B.returns, hml, hown, atoms_spec (ws := ws) B.pre, B.notSynchronized⟩ (name_of_methodNamed B.named B.method).1 (fun q h => Or.inr h) hX (Wd.start hP hK hD0) ?_ ls hl
  intro u H locs cells slots pc ls hp hW h1 h2 hdg
  refine W.widen (k := mc) (n := ms) h1 h2 ?_
  exact W.vret B.exec B.bytes B.returns (fun t ht hw => ⟨⟨u, rfl, hp, by rw [ht]; exact hW.2.1, va_K.moved hw.alike hW.1, hW.2.2.1⟩, hW.2.2.2.F ht⟩) hW.2.2.2.2.2 hdg B.notSynchronized
abbrev rm_C_init : Room := { frames := 3, cells := 67, slots := 405, locals := 60 }
set_option maxHeartbeats 8000000 in
set_option maxRecDepth 100000 in
theorem c_C_init (l : Launch) {D : va_G} {g : Nat → ClassId} (q : Nat) : MtK l y_C_init ws_C_init rm_C_init D classes (tysA g) [.ref q] [(q, .inr (ciC, [.null, .null, .null, .null, .null, .int 0, .int 0, .int 0, .int 0, .int 0, .int 0]))] (fun u : Nat → Nat => u 0 = q) (fun u => wC g u 0 vC0) 67 405 := by
  refine mt_k (by decide +kernel) rfl (Nat.le_of_ble_eq_true rfl) (fun p e s m args below meth c Q A C hnm hA hX hW hret ls hl => ?_)
  obtain ⟨hx, hb, hr, hml, hown, hts0, hlocks⟩ := C
  have hts : ∀ w ∈ bigw, w.before args s = true := fun w h => hts0 w (List.mem_cons_of_mem _ h)
  have hown : s.vm.findClass R_C = some m.cls := hown
  obtain ⟨hX1, hX2, hX3, hX4, hA1, hA2, hA3, hA4⟩ := hX
  have hl : lv_has ls 2 [(0, .ref q)] := hl
  obtain ⟨hK, hP, hD, hS⟩ := hW
  refine lv_aload_n hx hb d_C_init_0 rfl (lv_at hl 0 rfl) ?_
  refine W.objInit hx hb hown (hts _ km_C_3) (hts _ ko_i) (hts _ ko_c) rfl (by rw [hml]; exact hl.1) rfl d_C_init_1 (Nat.le_of_ble_eq_true rfl) (Nat.le_of_ble_eq_true rfl) ?_
  refine W.eq (g2 := F0 m 4 ls []) rfl ?_
  refine lv_aload_n hx hb d_C_init_4 rfl (lv_at hl 0 rfl) ?_
  refine lv_iconst (v := 4) hx hb d_C_init_5 (by decide) ?_
  refine va_newq (N' := 4) hx hb hown (hts _ kd_C_9) hA1 hK hP hD hS hA (by decide) rfl (by decide) (by decide) (by decide) d_C_init_6 (fun q1 cA H hK hP hD hS => ?_)
  obtain rfl : cA = g 1 := kO 1 rfl hK
  have hK : va_K D classes (tysA g) s := hK.sub [0, 1, 2, 3, 4, 5] rfl
  have hP : va_P D classes [(q, .inr (ciC, [.null, .null, .null, .null, .null, .int 0, .int 0, .int 0, .int 0, .int 0, .int 0])), (q1, .inl (g 1, 4, .inr (.inr (.inr (.inr (fun _ => none))))))] H := hP
  have hD : va_D A [(q, .inr (ciC, [.null, .null, .null, .null, .null, .int 0, .int 0, .int 0, .int 0, .int 0, .int 0])), (q1, .inl (g 1, 4, .inr (.inr (.inr (.inr (fun _ => none))))))] := hD
  refine va_putF (D := D) (ci := ciC) (v := .ref q1) (ty := .array (.object "ClusterImage$Program")) (C := R_C) (T := F_C) (N := 11) hx hb hts i_C t_C t_C_ok n_C hown hK hP hD hS 0 rfl rfl 0 (by decide) (hts _ kf_C_11) (fun _ h9 => h9) rfl hnm rfl (by decide +kernel) rfl rfl (Nat.le_of_ble_eq_true rfl) d_C_init_9 (fun H locs hP hD hS => ?_)
  have hP : va_P D classes [(q, .inr (ciC, [.ref q1, .null, .null, .null, .null, .int 0, .int 0, .int 0, .int 0, .int 0, .int 0])), (q1, .inl (g 1, 4, .inr (.inr (.inr (.inr (fun _ => none))))))] H := hP
  have hD : va_D A [(q, .inr (ciC, [.ref q1, .null, .null, .null, .null, .int 0, .int 0, .int 0, .int 0, .int 0, .int 0])), (q1, .inl (g 1, 4, .inr (.inr (.inr (.inr (fun _ => none))))))] := hD
  refine lv_aload_n hx hb d_C_init_12 rfl (lv_at hl 0 rfl) ?_
  refine lv_bipush (v := 8) hx hb d_C_init_13 (by decide) ?_
  refine va_newq (N' := 8) hx hb hown (hts _ kd_C_15) hA2 hK hP hD hS hA (by decide) rfl (by decide) (by decide) (by decide) d_C_init_15 (fun q2 cA H hK hP hD hS => ?_)
  obtain rfl : cA = g 2 := kO 2 rfl hK
  have hK : va_K D classes (tysA g) s := hK.sub [0, 1, 2, 3, 4, 5] rfl
  have hP : va_P D classes [(q, .inr (ciC, [.ref q1, .null, .null, .null, .null, .int 0, .int 0, .int 0, .int 0, .int 0, .int 0])), (q1, .inl (g 1, 4, .inr (.inr (.inr (.inr (fun _ => none)))))), (q2, .inl (g 2, 8, .inr (.inr (.inr (.inr (fun _ => none))))))] H := hP
  have hD : va_D A [(q, .inr (ciC, [.ref q1, .null, .null, .null, .null, .int 0, .int 0, .int 0, .int 0, .int 0, .int 0])), (q1, .inl (g 1, 4, .inr (.inr (.inr (.inr (fun _ => none)))))), (q2, .inl (g 2, 8, .inr (.inr (.inr (.inr (fun _ => none))))))] := hD
  refine va_putF (D := D) (ci := ciC) (v := .ref q2) (ty := .array (.object "ClusterImage$Proc")) (C := R_C) (T := F_C) (N := 11) hx hb hts i_C t_C t_C_ok n_C hown hK hP hD hS 0 rfl rfl 1 (by decide) (hts _ kf_C_17) (fun _ h9 => h9) rfl hnm rfl (by decide +kernel) rfl rfl (Nat.le_of_ble_eq_true rfl) d_C_init_18 (fun H locs hP hD hS => ?_)
  have hP : va_P D classes [(q, .inr (ciC, [.ref q1, .ref q2, .null, .null, .null, .int 0, .int 0, .int 0, .int 0, .int 0, .int 0])), (q1, .inl (g 1, 4, .inr (.inr (.inr (.inr (fun _ => none)))))), (q2, .inl (g 2, 8, .inr (.inr (.inr (.inr (fun _ => none))))))] H := hP
  have hD : va_D A [(q, .inr (ciC, [.ref q1, .ref q2, .null, .null, .null, .int 0, .int 0, .int 0, .int 0, .int 0, .int 0])), (q1, .inl (g 1, 4, .inr (.inr (.inr (.inr (fun _ => none)))))), (q2, .inl (g 2, 8, .inr (.inr (.inr (.inr (fun _ => none))))))] := hD
  refine lv_aload_n hx hb d_C_init_21 rfl (lv_at hl 0 rfl) ?_
  refine lv_iconst (v := 3) hx hb d_C_init_22 (by decide) ?_
  refine va_newq (N' := 3) hx hb hown (hts _ kd_C_21) hA3 hK hP hD hS hA (by decide) rfl (by decide) (by decide) (by decide) d_C_init_23 (fun q3 cA H hK hP hD hS => ?_)
  obtain rfl : cA = g 3 := kO 3 rfl hK
  have hK : va_K D classes (tysA g) s := hK.sub [0, 1, 2, 3, 4, 5] rfl
  have hP : va_P D classes [(q, .inr (ciC, [.ref q1, .ref q2, .null, .null, .null, .int 0, .int 0, .int 0, .int 0, .int 0, .int 0])), (q1, .inl (g 1, 4, .inr (.inr (.inr (.inr (fun _ => none)))))), (q2, .inl (g 2, 8, .inr (.inr (.inr (.inr (fun _ => none)))))), (q3, .inl (g 3, 3, .inr (.inr (.inr (.inr (fun _ => none))))))] H := hP
  have hD : va_D A [(q, .inr (ciC, [.ref q1, .ref q2, .null, .null, .null, .int 0, .int 0, .int 0, .int 0, .int 0, .int 0])), (q1, .inl (g 1, 4, .inr (.inr (.inr (.inr (fun _ => none)))))), (q2, .inl (g 2, 8, .inr (.inr (.inr (.inr (fun _ => none)))))), (q3, .inl (g 3, 3, .inr (.inr (.inr (.inr (fun _ => none))))))] := hD
  refine va_putF (D := D) (ci := ciC) (v := .ref q3) (ty := .array (.object "ClusterImage$Line")) (C := R_C) (T := F_C) (N := 11) hx hb hts i_C t_C t_C_ok n_C hown hK hP hD hS 0 rfl rfl 2 (by decide) (hts _ kf_C_23) (fun _ h9 => h9) rfl hnm rfl (by decide +kernel) rfl rfl (Nat.le_of_ble_eq_true rfl) d_C_init_26 (fun H locs hP hD hS => ?_)
  have hP : va_P D classes [(q, .inr (ciC, [.ref q1, .ref q2, .ref q3, .null, .null, .int 0, .int 0, .int 0, .int 0, .int 0, .int 0])), (q1, .inl (g 1, 4, .inr (.inr (.inr (.inr (fun _ => none)))))), (q2, .inl (g 2, 8, .inr (.inr (.inr (.inr (fun _ => none)))))), (q3, .inl (g 3, 3, .inr (.inr (.inr (.inr (fun _ => none))))))] H := hP
  have hD : va_D A [(q, .inr (ciC, [.ref q1, .ref q2, .ref q3, .null, .null, .int 0, .int 0, .int 0, .int 0, .int 0, .int 0])), (q1, .inl (g 1, 4, .inr (.inr (.inr (.inr (fun _ => none)))))), (q2, .inl (g 2, 8, .inr (.inr (.inr (.inr (fun _ => none)))))), (q3, .inl (g 3, 3, .inr (.inr (.inr (.inr (fun _ => none))))))] := hD
  refine lv_aload_n hx hb d_C_init_29 rfl (lv_at hl 0 rfl) ?_
  refine lv_bipush (v := 8) hx hb d_C_init_30 (by decide) ?_
  refine va_newq (N' := 8) hx hb hown (hts _ kd_C_27) hA4 hK hP hD hS hA (by decide) rfl (by decide) (by decide) (by decide) d_C_init_32 (fun q4 cA H hK hP hD hS => ?_)
  obtain rfl : cA = g 4 := kO 4 rfl hK
  have hK : va_K D classes (tysA g) s := hK.sub [0, 1, 2, 3, 4, 5] rfl
  have hP : va_P D classes [(q, .inr (ciC, [.ref q1, .ref q2, .ref q3, .null, .null, .int 0, .int 0, .int 0, .int 0, .int 0, .int 0])), (q1, .inl (g 1, 4, .inr (.inr (.inr (.inr (fun _ => none)))))), (q2, .inl (g 2, 8, .inr (.inr (.inr (.inr (fun _ => none)))))), (q3, .inl (g 3, 3, .inr (.inr (.inr (.inr (fun _ => none)))))), (q4, .inl (g 4, 8, .inr (.inr (.inr (.inr (fun _ => none))))))] H := hP
  have hD : va_D A [(q, .inr (ciC, [.ref q1, .ref q2, .ref q3, .null, .null, .int 0, .int 0, .int 0, .int 0, .int 0, .int 0])), (q1, .inl (g 1, 4, .inr (.inr (.inr (.inr (fun _ => none)))))), (q2, .inl (g 2, 8, .inr (.inr (.inr (.inr (fun _ => none)))))), (q3, .inl (g 3, 3, .inr (.inr (.inr (.inr (fun _ => none)))))), (q4, .inl (g 4, 8, .inr (.inr (.inr (.inr (fun _ => none))))))] := hD
  refine va_putF (D := D) (ci := ciC) (v := .ref q4) (ty := .array (.object "ClusterImage$Page")) (C := R_C) (T := F_C) (N := 11) hx hb hts i_C t_C t_C_ok n_C hown hK hP hD hS 0 rfl rfl 3 (by decide) (hts _ kf_C_29) (fun _ h9 => h9) rfl hnm rfl (by decide +kernel) rfl rfl (Nat.le_of_ble_eq_true rfl) d_C_init_35 (fun H locs hP hD hS => ?_)
  have hP : va_P D classes [(q, .inr (ciC, [.ref q1, .ref q2, .ref q3, .ref q4, .null, .int 0, .int 0, .int 0, .int 0, .int 0, .int 0])), (q1, .inl (g 1, 4, .inr (.inr (.inr (.inr (fun _ => none)))))), (q2, .inl (g 2, 8, .inr (.inr (.inr (.inr (fun _ => none)))))), (q3, .inl (g 3, 3, .inr (.inr (.inr (.inr (fun _ => none)))))), (q4, .inl (g 4, 8, .inr (.inr (.inr (.inr (fun _ => none))))))] H := hP
  have hD : va_D A [(q, .inr (ciC, [.ref q1, .ref q2, .ref q3, .ref q4, .null, .int 0, .int 0, .int 0, .int 0, .int 0, .int 0])), (q1, .inl (g 1, 4, .inr (.inr (.inr (.inr (fun _ => none)))))), (q2, .inl (g 2, 8, .inr (.inr (.inr (.inr (fun _ => none)))))), (q3, .inl (g 3, 3, .inr (.inr (.inr (.inr (fun _ => none)))))), (q4, .inl (g 4, 8, .inr (.inr (.inr (.inr (fun _ => none))))))] := hD
  refine lv_aload_n hx hb d_C_init_38 rfl (lv_at hl 0 rfl) ?_
  refine lv_bipush (v := 32) hx hb d_C_init_39 (by decide) ?_
  refine va_newa (atype := .int) (ty := .int) (N' := 32) (a0 := (32, .inl (fun _ => 0))) hx hb (hts _ ka_int) rfl hK hP hD hS hA (fun _ => rfl) (by decide) rfl (by decide) (by decide) (by decide) d_C_init_41 (fun q5 cA H hK hP hD hS => ?_)
  obtain rfl : cA = g 0 := kI hK
  have hK : va_K D classes (tysA g) s := hK.sub [0, 1, 2, 3, 4, 5] rfl
  have hP : va_P D classes [(q, .inr (ciC, [.ref q1, .ref q2, .ref q3, .ref q4, .null, .int 0, .int 0, .int 0, .int 0, .int 0, .int 0])), (q1, .inl (g 1, 4, .inr (.inr (.inr (.inr (fun _ => none)))))), (q2, .inl (g 2, 8, .inr (.inr (.inr (.inr (fun _ => none)))))), (q3, .inl (g 3, 3, .inr (.inr (.inr (.inr (fun _ => none)))))), (q4, .inl (g 4, 8, .inr (.inr (.inr (.inr (fun _ => none)))))), (q5, .inl (g 0, 32, .inl (fun _ => 0)))] H := hP
  have hD : va_D A [(q, .inr (ciC, [.ref q1, .ref q2, .ref q3, .ref q4, .null, .int 0, .int 0, .int 0, .int 0, .int 0, .int 0])), (q1, .inl (g 1, 4, .inr (.inr (.inr (.inr (fun _ => none)))))), (q2, .inl (g 2, 8, .inr (.inr (.inr (.inr (fun _ => none)))))), (q3, .inl (g 3, 3, .inr (.inr (.inr (.inr (fun _ => none)))))), (q4, .inl (g 4, 8, .inr (.inr (.inr (.inr (fun _ => none)))))), (q5, .inl (g 0, 32, .inl (fun _ => 0)))] := hD
  refine va_putF (D := D) (ci := ciC) (v := .ref q5) (ty := .array .int) (C := R_C) (T := F_C) (N := 11) hx hb hts i_C t_C t_C_ok n_C hown hK hP hD hS 0 rfl rfl 4 (by decide) (hts _ kf_C_33) (fun _ h9 => h9) rfl hnm rfl (by decide +kernel) rfl rfl (Nat.le_of_ble_eq_true rfl) d_C_init_43 (fun H locs hP hD hS => ?_)
  have hP : va_P D classes [(q, .inr (ciC, [.ref q1, .ref q2, .ref q3, .ref q4, .ref q5, .int 0, .int 0, .int 0, .int 0, .int 0, .int 0])), (q1, .inl (g 1, 4, .inr (.inr (.inr (.inr (fun _ => none)))))), (q2, .inl (g 2, 8, .inr (.inr (.inr (.inr (fun _ => none)))))), (q3, .inl (g 3, 3, .inr (.inr (.inr (.inr (fun _ => none)))))), (q4, .inl (g 4, 8, .inr (.inr (.inr (.inr (fun _ => none)))))), (q5, .inl (g 0, 32, .inl (fun _ => 0)))] H := hP
  have hD : va_D A [(q, .inr (ciC, [.ref q1, .ref q2, .ref q3, .ref q4, .ref q5, .int 0, .int 0, .int 0, .int 0, .int 0, .int 0])), (q1, .inl (g 1, 4, .inr (.inr (.inr (.inr (fun _ => none)))))), (q2, .inl (g 2, 8, .inr (.inr (.inr (.inr (fun _ => none)))))), (q3, .inl (g 3, 3, .inr (.inr (.inr (.inr (fun _ => none)))))), (q4, .inl (g 4, 8, .inr (.inr (.inr (.inr (fun _ => none)))))), (q5, .inl (g 0, 32, .inl (fun _ => 0)))] := hD
  obtain ⟨ad, had⟩ : ∃ z : Nat → Nat, z = fun k => [q, q1, q2, q3, q4, q5].getD k 0 := ⟨_, rfl⟩
  have e1 : wl (6 + 4 * 0) ad (mkI g ad 0 0 0) = [(q, .inr (ciC, [.ref q1, .ref q2, .ref q3, .ref q4, .ref q5, .int 0, .int 0, .int 0, .int 0, .int 0, .int 0])), (q1, .inl (g 1, 4, .inr (.inr (.inr (.inr (fun _ => none)))))), (q2, .inl (g 2, 8, .inr (.inr (.inr (.inr (fun _ => none)))))), (q3, .inl (g 3, 3, .inr (.inr (.inr (.inr (fun _ => none)))))), (q4, .inl (g 4, 8, .inr (.inr (.inr (.inr (fun _ => none)))))), (q5, .inl (g 0, 32, .inl (fun _ => 0)))] := by
    have e0 : wl (6 + 4 * 0) ad (mkI g ad 0 0 0) = [(ad 0, .inr (ciC, [.ref (ad 1), .ref (ad 2), .ref (ad 3), .ref (ad 4), .ref (ad 5), .int 0, .int 0, .int 0, .int 0, .int 0, .int 0])), (ad 1, .inl (g 1, 4, .inr (.inr (.inr (.inr (fun i => if i < 0 then some (ad (6 + 4 * i)) else none)))))), (ad 2, .inl (g 2, 8, .inr (.inr (.inr (.inr (fun i => if i < 0 then some (ad (68 + 3 * i)) else none)))))), (ad 3, .inl (g 3, 3, .inr (.inr (.inr (.inr (fun i => if i < 0 then some (ad (22 + 2 * i)) else none)))))), (ad 4, .inl (g 4, 8, .inr (.inr (.inr (.inr (fun i => if i < 0 then some (ad (28 + 5 * i)) else none)))))), (ad 5, .inl (g 0, 32, .inl (fun _ => 0)))] := rfl
    rw [e0, fn0 (fun i => ad (6 + 4 * i)), fn0 (fun i => ad (68 + 3 * i)), fn0 (fun i => ad (22 + 2 * i)), fn0 (fun i => ad (28 + 5 * i)), had]
    rfl
  have h0 : ad 0 = q := by rw [had]; rfl
  rw [← e1] at hP hD
  have hl : lv_has ls 2 [(0, .ref (ad 0))] := by rw [h0]; exact hl
  have hW : Wd D classes (tysA g) s A (wl (6 + 4 * 0) ad (mkI g ad 0 0 0)) H _ := ⟨hK, hP, hD, hS⟩
  have loop3 : ∀ (k c0 : Nat) (ad : Nat → Nat) (H : Heap) (locs : List Loc) (ls : Array Slot), 8 = c0 + k → ad 0 = q → Wd D classes (tysA g) s A (wl (28 + 5 * c0) ad (mkI g ad 4 3 c0)) H locs → lv_has ls 2 [(0, .ref (ad 0)), (1, .int (nI c0))] → W p l e rm_C_init s m args below meth c H locs (27 + 5 * c0) (245 + 20 * c0) Q (F0 m 100 ls []) := by
    intro k
    induction k with
    | zero =>
      intro c0 ad H locs ls hk h0 hW hl
      obtain rfl : c0 = 8 := by omega
      refine lv_iload_n hx hb d_C_init_100 rfl (lv_at hl 1 rfl) ?_
      refine lv_bipush (v := 8) hx hb d_C_init_101 (by decide) ?_
      refine lv_icmp_ge (tgt := 125) hx hb d_C_init_103 (by decide) (fun c1 => ?_) (fun c1 => absurd (show (8 : Int32) ≤ nI 8 by decide) c1)
      refine hret ad _ _ _ _ _ _ h0 ?_ (by decide) (by decide) d_C_init_125
      show Wd D classes (tysA g) s A (wC g ad 0 vC0) H locs
      rw [← mkI_end]
      exact hW
    | succ k ih =>
      intro c0 ad H locs ls hk h0 hW hl
      have hc : c0 < 8 := by omega
      refine lv_iload_n hx hb d_C_init_100 rfl (lv_at hl 1 rfl) ?_
      refine lv_bipush (v := 8) hx hb d_C_init_101 (by decide) ?_
      refine lv_icmp_ge (tgt := 125) hx hb d_C_init_103 (by decide) (fun c1 => absurd (ni_le (a := 8) (b := c0) rfl rfl (by omega) (by omega) c1) (by omega)) (fun c1 => ?_)
      refine lv_aload_n hx hb d_C_init_106 rfl (lv_at hl 0 rfl) ?_
      obtain ⟨hK, hP, hD, hS⟩ := hW
      refine va_get (D := D) (ci := ciC) (v := .ref (ad 4)) (C := R_C) (T := F_C) (N := 11) hx hb hts i_C hown hK hP 0 ((wl_get (by omega)).trans rfl) rfl 3 (by decide) (hts _ kf_C_29) (fun _ h9 => h9) rfl d_C_init_107 ?_
      refine lv_iload_n hx hb d_C_init_110 rfl (lv_at hl 1 rfl) ?_
      refine va_new (ci := ciPage) (fs := [.null, .null, .null, .int 0]) (C := R_Page) (T := F_Page) (N := 4) hx hb hts i_Page t_Page t_Page_ok hown (hts _ kd_C_27) (hts _ kx_Page) (hts _ kn_Page) hK hP hD hS hA rfl (fun j hj => by rcases (show j = 0 ∨ j = 1 ∨ j = 2 ∨ j = 3 by omega) with rfl | rfl | rfl | rfl <;> rfl) (by show 27 + 5 * c0 + 1 ≤ 67; omega) (by show 245 + 20 * c0 + 4 ≤ 405; omega) d_C_init_111 (fun qn H hP hD hS => ?_)
      refine lv_dup hx hb d_C_init_114 rfl ?_
      have hW : Wd D classes (tysA g) s A (wl (28 + 5 * c0) ad (mkI g ad 4 3 c0) ++ [(qn, .inr (ciPage, [.null, .null, .null, .int 0]))]) H _ := ⟨hK, hP, hD, hS⟩
      refine wcv hW hA (va_runIN (As := []) (rest := [.ref qn, .int (nI c0), .ref (ad 4)]) ⟨hx, hb, hml, hown, hts⟩ (c_Page_init l (wl (28 + 5 * c0) ad (mkI g ad 4 3 c0)) qn _) ⟨va_cnB 0 hts (gb kc_Page_init) rfl rfl rfl hX3 (hts _ kn_Page) kh_Page_init ⟨by decide, by decide⟩, rfl, hts _ ki_Page_init⟩ (preWN hW hX4) rfl rfl hl.1 rfl (lv_room (Nat.le_of_ble_eq_true rfl)) d_C_init_115 ⟨by show 27 + 5 * c0 + 1 + 4 ≤ 67; omega, by show 245 + 20 * c0 + 4 + 16 ≤ 405; omega⟩) (fun u H locs hp hW => ?_)
      obtain ⟨hK, hP, hD, hS⟩ := hW
      refine va_astq hx hb hK hP hD hS 4 4 ((wl (28 + 5 * c0) ad (mkI g ad 4 3 c0)).length + 0) ciPage (ap_left ((wl_get (by omega)).trans rfl)) rfl ((ap_get _ _ 0).trans rfl) rfl (vp_in_nI hc (by decide)) d_C_init_118 (fun H locs hP hD hS => ?_)
      rw [nI_clamp (by omega)] at hP hD
      have hP := (congrArg (fun w => va_P D classes w H) (mkI_g (g := g) (ad := ad) (q := qn) (u1 := u.1) (u2 := u.2.1) (u3 := u.2.2.1) (u4 := u.2.2.2) hc)).mp hP
      have hD := (congrArg (fun w => va_D A w) (mkI_g (g := g) (ad := ad) (q := qn) (u1 := u.1) (u2 := u.2.1) (u3 := u.2.2.1) (u4 := u.2.2.2) hc)).mp hD
      have hlo : ∀ k, k < 28 + 5 * c0 → adL ad (28 + 5 * c0) [qn, u.1, u.2.1, u.2.2.1, u.2.2.2] k = ad k := fun k hk => adL_lt hk
      refine lv_iinc (v := nI (c0 + 1)) (lv' := [(1, .int (nI (c0 + 1))), (0, .ref (ad 0))]) hx hb d_C_init_119 hl (k := 1) rfl (nI_1 _) (by decide) rfl (fun ls hl => ?_)
      refine lv_goto (tgt := 100) hx hb d_C_init_122 (by decide) ?_
      refine W.widen (k := 27 + 5 * (c0 + 1)) (n := 245 + 20 * (c0 + 1)) (by omega) (by omega) ?_
      exact ih (c0 + 1) _ _ _ _ (by omega) (by rw [hlo 0 (by omega)]; exact h0) ⟨hK, hP, hD, hS⟩ (by rw [hlo 0 (by omega)]; exact lv_sub hl [1, 0] rfl)
  have loop2 : ∀ (k c0 : Nat) (ad : Nat → Nat) (H : Heap) (locs : List Loc) (ls : Array Slot), 3 = c0 + k → ad 0 = q → Wd D classes (tysA g) s A (wl (22 + 2 * c0) ad (mkI g ad 4 c0 0)) H locs → lv_has ls 2 [(0, .ref (ad 0)), (1, .int (nI c0))] → W p l e rm_C_init s m args below meth c H locs (21 + 2 * c0) (215 + 10 * c0) Q (F0 m 74 ls []) := by
    intro k
    induction k with
    | zero =>
      intro c0 ad H locs ls hk h0 hW hl
      obtain rfl : c0 = 3 := by omega
      refine lv_iload_n hx hb d_C_init_74 rfl (lv_at hl 1 rfl) ?_
      refine lv_iconst (v := 3) hx hb d_C_init_75 (by decide) ?_
      refine lv_icmp_ge (tgt := 98) hx hb d_C_init_76 (by decide) (fun c1 => ?_) (fun c1 => absurd (show (3 : Int32) ≤ nI 3 by decide) c1)
      refine lv_iconst (v := 0) hx hb d_C_init_98 (by decide) ?_
      refine lv_istore_n (lv' := [(1, .int 0), (0, .ref (ad 0))]) hx hb d_C_init_99 rfl hl (by decide) rfl (fun ls hl => ?_)
      exact loop3 8 0 ad _ _ _ rfl h0 hW (lv_sub hl [1, 0] rfl)
    | succ k ih =>
      intro c0 ad H locs ls hk h0 hW hl
      have hc : c0 < 3 := by omega
      refine lv_iload_n hx hb d_C_init_74 rfl (lv_at hl 1 rfl) ?_
      refine lv_iconst (v := 3) hx hb d_C_init_75 (by decide) ?_
      refine lv_icmp_ge (tgt := 98) hx hb d_C_init_76 (by decide) (fun c1 => absurd (ni_le (a := 3) (b := c0) rfl rfl (by omega) (by omega) c1) (by omega)) (fun c1 => ?_)
      refine lv_aload_n hx hb d_C_init_79 rfl (lv_at hl 0 rfl) ?_
      obtain ⟨hK, hP, hD, hS⟩ := hW
      refine va_get (D := D) (ci := ciC) (v := .ref (ad 3)) (C := R_C) (T := F_C) (N := 11) hx hb hts i_C hown hK hP 0 ((wl_get (by omega)).trans rfl) rfl 2 (by decide) (hts _ kf_C_23) (fun _ h9 => h9) rfl d_C_init_80 ?_
      refine lv_iload_n hx hb d_C_init_83 rfl (lv_at hl 1 rfl) ?_
      refine va_new (ci := ciLine) (fs := [.null, .int 0]) (C := R_Line) (T := F_Line) (N := 2) hx hb hts i_Line t_Line t_Line_ok hown (hts _ kd_C_21) (hts _ kx_Line) (hts _ kn_Line) hK hP hD hS hA rfl (fun j hj => by rcases (show j = 0 ∨ j = 1 by omega) with rfl | rfl <;> rfl) (by show 21 + 2 * c0 + 1 ≤ 67; omega) (by show 215 + 10 * c0 + 2 ≤ 405; omega) d_C_init_84 (fun qn H hP hD hS => ?_)
      refine lv_dup hx hb d_C_init_87 rfl ?_
      have hW : Wd D classes (tysA g) s A (wl (22 + 2 * c0) ad (mkI g ad 4 c0 0) ++ [(qn, .inr (ciLine, [.null, .int 0]))]) H _ := ⟨hK, hP, hD, hS⟩
      refine wcv hW hA (va_runIN (As := []) (rest := [.ref qn, .int (nI c0), .ref (ad 3)]) ⟨hx, hb, hml, hown, hts⟩ (c_Line_init l (wl (22 + 2 * c0) ad (mkI g ad 4 c0 0)) qn _) ⟨va_cnB 0 hts (gb kc_Line_init) rfl rfl rfl hX2 (hts _ kn_Line) kh_Line_init ⟨by decide, by decide⟩, rfl, hts _ ki_Line_init⟩ (preWS hW) rfl rfl hl.1 rfl (lv_room (Nat.le_of_ble_eq_true rfl)) d_C_init_88 ⟨by show 21 + 2 * c0 + 1 + 1 ≤ 67; omega, by show 215 + 10 * c0 + 2 + 8 ≤ 405; omega⟩) (fun u H locs hp hW => ?_)
      obtain ⟨hK, hP, hD, hS⟩ := hW
      refine va_astq hx hb hK hP hD hS 3 3 ((wl (22 + 2 * c0) ad (mkI g ad 4 c0 0)).length + 0) ciLine (ap_left ((wl_get (by omega)).trans rfl)) rfl ((ap_get _ _ 0).trans rfl) rfl (vp_in_nI hc (by decide)) d_C_init_91 (fun H locs hP hD hS => ?_)
      rw [nI_clamp (by omega)] at hP hD
      have hP := (congrArg (fun w => va_P D classes w H) (mkI_l (g := g) (ad := ad) (q := qn) (u1 := u) hc)).mp hP
      have hD := (congrArg (fun w => va_D A w) (mkI_l (g := g) (ad := ad) (q := qn) (u1 := u) hc)).mp hD
      have hlo : ∀ k, k < 22 + 2 * c0 → adL ad (22 + 2 * c0) [qn, u] k = ad k := fun k hk => adL_lt hk
      refine lv_iinc (v := nI (c0 + 1)) (lv' := [(1, .int (nI (c0 + 1))), (0, .ref (ad 0))]) hx hb d_C_init_92 hl (k := 1) rfl (nI_1 _) (by decide) rfl (fun ls hl => ?_)
      refine lv_goto (tgt := 74) hx hb d_C_init_95 (by decide) ?_
      refine W.widen (k := 21 + 2 * (c0 + 1)) (n := 215 + 10 * (c0 + 1)) (by omega) (by omega) ?_
      exact ih (c0 + 1) _ _ _ _ (by omega) (by rw [hlo 0 (by omega)]; exact h0) ⟨hK, hP, hD, hS⟩ (by rw [hlo 0 (by omega)]; exact lv_sub hl [1, 0] rfl)
  have loop1 : ∀ (k c0 : Nat) (ad : Nat → Nat) (H : Heap) (locs : List Loc) (ls : Array Slot), 4 = c0 + k → ad 0 = q → Wd D classes (tysA g) s A (wl (6 + 4 * c0) ad (mkI g ad c0 0 0)) H locs → lv_has ls 2 [(0, .ref (ad 0)), (1, .int (nI c0))] → W p l e rm_C_init s m args below meth c H locs (5 + 4 * c0) (55 + 40 * c0) Q (F0 m 48 ls []) := by
    intro k
    induction k with
    | zero =>
      intro c0 ad H locs ls hk h0 hW hl
      obtain rfl : c0 = 4 := by omega
      refine lv_iload_n hx hb d_C_init_48 rfl (lv_at hl 1 rfl) ?_
      refine lv_iconst (v := 4) hx hb d_C_init_49 (by decide) ?_
      refine lv_icmp_ge (tgt := 72) hx hb d_C_init_50 (by decide) (fun c1 => ?_) (fun c1 => absurd (show (4 : Int32) ≤ nI 4 by decide) c1)
      refine lv_iconst (v := 0) hx hb d_C_init_72 (by decide) ?_
      refine lv_istore_n (lv' := [(1, .int 0), (0, .ref (ad 0))]) hx hb d_C_init_73 rfl hl (by decide) rfl (fun ls hl => ?_)
      exact loop2 3 0 ad _ _ _ rfl h0 hW (lv_sub hl [1, 0] rfl)
    | succ k ih =>
      intro c0 ad H locs ls hk h0 hW hl
      have hc : c0 < 4 := by omega
      refine lv_iload_n hx hb d_C_init_48 rfl (lv_at hl 1 rfl) ?_
      refine lv_iconst (v := 4) hx hb d_C_init_49 (by decide) ?_
      refine lv_icmp_ge (tgt := 72) hx hb d_C_init_50 (by decide) (fun c1 => absurd (ni_le (a := 4) (b := c0) rfl rfl (by omega) (by omega) c1) (by omega)) (fun c1 => ?_)
      refine lv_aload_n hx hb d_C_init_53 rfl (lv_at hl 0 rfl) ?_
      obtain ⟨hK, hP, hD, hS⟩ := hW
      refine va_get (D := D) (ci := ciC) (v := .ref (ad 1)) (C := R_C) (T := F_C) (N := 11) hx hb hts i_C hown hK hP 0 ((wl_get (by omega)).trans rfl) rfl 0 (by decide) (hts _ kf_C_11) (fun _ h9 => h9) rfl d_C_init_54 ?_
      refine lv_iload_n hx hb d_C_init_57 rfl (lv_at hl 1 rfl) ?_
      refine va_new (ci := ciProgram) (fs := [.null, .null, .null, .int 0]) (C := R_Program) (T := F_Program) (N := 4) hx hb hts i_Program t_Program t_Program_ok hown (hts _ kd_C_9) (hts _ kx_Program) (hts _ kn_Program) hK hP hD hS hA rfl (fun j hj => by rcases (show j = 0 ∨ j = 1 ∨ j = 2 ∨ j = 3 by omega) with rfl | rfl | rfl | rfl <;> rfl) (by show 5 + 4 * c0 + 1 ≤ 67; omega) (by show 55 + 40 * c0 + 4 ≤ 405; omega) d_C_init_58 (fun qn H hP hD hS => ?_)
      refine lv_dup hx hb d_C_init_61 rfl ?_
      have hW : Wd D classes (tysA g) s A (wl (6 + 4 * c0) ad (mkI g ad c0 0 0) ++ [(qn, .inr (ciProgram, [.null, .null, .null, .int 0]))]) H _ := ⟨hK, hP, hD, hS⟩
      refine wcv hW hA (va_runIN (As := []) (rest := [.ref qn, .int (nI c0), .ref (ad 1)]) ⟨hx, hb, hml, hown, hts⟩ (c_Program_init l (wl (6 + 4 * c0) ad (mkI g ad c0 0 0)) qn _) ⟨va_cnB 0 hts (gb kc_Program_init) rfl rfl rfl hX1 (hts _ kn_Program) kh_Program_init ⟨by decide, by decide⟩, rfl, hts _ ki_Program_init⟩ (preWS hW) rfl rfl hl.1 rfl (lv_room (Nat.le_of_ble_eq_true rfl)) d_C_init_62 ⟨by show 5 + 4 * c0 + 1 + 3 ≤ 67; omega, by show 55 + 40 * c0 + 4 + 36 ≤ 405; omega⟩) (fun u H locs hp hW => ?_)
      obtain ⟨hK, hP, hD, hS⟩ := hW
      refine va_astq hx hb hK hP hD hS 1 1 ((wl (6 + 4 * c0) ad (mkI g ad c0 0 0)).length + 0) ciProgram (ap_left ((wl_get (by omega)).trans rfl)) rfl ((ap_get _ _ 0).trans rfl) rfl (vp_in_nI hc (by decide)) d_C_init_65 (fun H locs hP hD hS => ?_)
      rw [nI_clamp (by omega)] at hP hD
      have hP := (congrArg (fun w => va_P D classes w H) (mkI_p (g := g) (ad := ad) (q := qn) (u1 := u.1) (u2 := u.2.1) (u3 := u.2.2) hc)).mp hP
      have hD := (congrArg (fun w => va_D A w) (mkI_p (g := g) (ad := ad) (q := qn) (u1 := u.1) (u2 := u.2.1) (u3 := u.2.2) hc)).mp hD
      have hlo : ∀ k, k < 6 + 4 * c0 → adL ad (6 + 4 * c0) [qn, u.1, u.2.1, u.2.2] k = ad k := fun k hk => adL_lt hk
      refine lv_iinc (v := nI (c0 + 1)) (lv' := [(1, .int (nI (c0 + 1))), (0, .ref (ad 0))]) hx hb d_C_init_66 hl (k := 1) rfl (nI_1 _) (by decide) rfl (fun ls hl => ?_)
      refine lv_goto (tgt := 48) hx hb d_C_init_69 (by decide) ?_
      refine W.widen (k := 5 + 4 * (c0 + 1)) (n := 55 + 40 * (c0 + 1)) (by omega) (by omega) ?_
      exact ih (c0 + 1) _ _ _ _ (by omega) (by rw [hlo 0 (by omega)]; exact h0) ⟨hK, hP, hD, hS⟩ (by rw [hlo 0 (by omega)]; exact lv_sub hl [1, 0] rfl)
  refine lv_iconst (v := 0) hx hb d_C_init_46 (by decide) ?_
  refine lv_istore_n (lv' := [(1, .int 0), (0, .ref (ad 0))]) hx hb d_C_init_47 rfl hl (by decide) rfl (fun ls hl => ?_)
  exact loop1 4 0 ad _ _ _ rfl h0 hW (lv_sub hl [1, 0] rfl)
