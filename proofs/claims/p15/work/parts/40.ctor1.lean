/-! makers that call a nest mate's private maker: what their start holds beside -/
def nestP (U : State) : Prop := va_Nw (.methodLinkNest R_Page 20 y_Line_init "ClusterImage") U
theorem nestP.warm {s U : State} (hW : s.WarmedH U.vm) (h : nestP s) : nestP U := va_Nw.warmM hW h
def MtN {S : Type} (l : Launch) (y : MethodName) (ws : List Cond) (rm : Room) (D : va_G) (cl : List vw_C) (tys : List (ClassId × FieldType)) (av : List Value) (w : va_W) (post : S → Prop) (w' : S → va_W) (mc ms : Nat) : Prop := ∀ sz : Nat, Met l y ws rm (fun v U => PcW D cl tys av sz w v U ∧ nestP U) (va_Qv post (BtW D cl tys (va_A w sz) w') (va_A w sz)) mc ms (va_A w sz)
theorem mt_n {S : Type} {l : Launch} {y : MethodName} {ws ws' : List Cond} {rm : Room} {D : va_G} {cl : List vw_C} {tys : List (ClassId × FieldType)} {av : List Value} {w : va_W} {w' : S → va_W} {mc ms : Nat} {cc : ByteArray} {maxL : Nat} {post : S → Prop} (hy : plainFor y = true) (hw : ws = Cond.code y cc maxL none :: ws') (hL : (lg_sl av).length ≤ maxL)
    (body : ∀ (p : Program) (e : Env) (s : State) (m : MethodId) (args : Array Value) (below : List Frame) (meth : Method) (c : Code) (Q : State → Prop) (A : Nat → Prop), Cx p s m args meth c y.cls cc maxL none ws → (meth.name = y.name) → (∀ q, s.heap.size ≤ q → A q) → nestP s → Wd D cl tys s A w s.heap [] →
      (∀ (u : S) (H : Heap) (locs : List Loc) (cells slots pc : Nat) (ls : Array Slot), post u → Wd D cl tys s A (w' u) H locs → cells ≤ mc → slots ≤ ms → decode cc pc = .ok (.return_, 1) → W p l e rm s m args below meth c H locs cells slots Q (F0 m pc ls [])) →
      ∀ ls : Array Slot, lv_has ls maxL (lv_args 0 av) → W p l e rm s m args below meth c s.heap [] 0 0 Q (F0 m 0 ls [])) : MtN l y ws rm D cl tys av w post w' mc ms := by
  intro sz
  refine met_ofF (cc := cc) (maxL := maxL) (ret := none) hy hw ?_
  intro p e s m args below meth c s₁ B hml hv
  obtain ⟨⟨rfl, hsz, hP, hK, hD0⟩, hX⟩ := hv
  subst hsz
  have hown : s.vm.findClass y.cls = some m.cls := findClass_of_methodNamed B.named
  have hl := lv_entry av (n := maxL) hL
  rw [lg_entry_eq]
  generalize (lg_sl av ++ List.replicate (maxL - (lg_sl av).length) Slot.unset).toArray = ls at hl ⊢
  refine body p e s m _ below meth c _ (va_A w s.heap.size) ⟨B.exec, B.bytes, B.returns, hml, hown, atoms_spec (ws := ws) B.pre, B.notSynchronized⟩ (name_of_methodNamed B.named B.method).1 (fun q h => Or.inr h) hX (Wd.start hP hK hD0) ?_ ls hl
  intro u H locs cells slots pc ls hp hW h1 h2 hdg
  refine W.widen (k := mc) (n := ms) h1 h2 ?_
  exact W.vret B.exec B.bytes B.returns (fun t ht hw => ⟨⟨u, rfl, hp, by rw [ht]; exact hW.2.1, va_K.moved hw.alike hW.1, hW.2.2.1⟩, hW.2.2.2.F ht⟩) hW.2.2.2.2.2 hdg B.notSynchronized
theorem preWN {D : va_G} {cl : List vw_C} {tys : List (ClassId × FieldType)} {s : State} {A : Nat → Prop} {w : va_W} {H : Heap} {locs : List Loc} {As : List Value} (hW : Wd D cl tys s A w H locs) (hX : nestP s) : PreS s H (fun v U => PcW D cl tys As H.size w v U ∧ nestP U) As := by
  refine ⟨fun a U g mk q => ?_, fun U hU hw => ⟨⟨rfl, by rw [hU], by rw [hU]; exact hW.2.1, va_K.moved hw.alike hW.1, hW.2.2.1.weaken (fun _ _ _ _ => trivial)⟩, hX.warm hw⟩⟩
  obtain ⟨⟨q0, q1, qP, qK, qD⟩, qX⟩ := q
  exact ⟨⟨q0, q1, qP, va_K.moved (u := U) (U := U.calling g mk a) (Vm.Alike.refl U.vm) qK, qD⟩, va_Nw.same rfl rfl qX⟩
theorem kZ {D : va_G} {cl : List vw_C} {g : Nat → ClassId} {s : State} {cA : ClassId} (h : va_K D cl (tysA g ++ [(cA, .boolean)]) s) : cA = g 5 := by
  have h1 : s.vm.findClass ("[" ++ FieldType.boolean.toString) = some (g 5) := (h.2 5 (g 5, .boolean) rfl).2
  have h2 : s.vm.findClass ("[" ++ FieldType.boolean.toString) = some cA := (h.2 6 (cA, .boolean) rfl).2
  exact Option.some.inj (h2.symm.trans h1)
