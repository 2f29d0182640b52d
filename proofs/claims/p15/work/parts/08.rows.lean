/-! ROWS over numbered worlds -/
section MW
variable {p : Program} {l : Launch} {e : Env} {R : Room} {s : State} {m : MethodId} {args : Array Value} {below : List Frame} {meth : Method} {c : Code} {H : Heap} {locs : List Loc} {cells slots : Nat} {Q : State → Prop}
variable {cc : ByteArray} {pc : Nat} {ls : Array Slot} {rest : List Value} {D : va_G} {cl : List vw_C} {A : Nat → Prop} {tys : List (ClassId × FieldType)} {H0 : Heap} {n : Nat} {ad : Nat → Nat} {mk : Nat → (Nat → Int32) → va_E} {v : Vs}
/-- the tables, the cells, that they are apart, and what stays -/
def Wd (D : va_G) (cl : List vw_C) (tys : List (ClassId × FieldType)) (s : State) (A : Nat → Prop) (ws : va_W) (H : Heap) (locs : List Loc) : Prop := va_K D cl tys s ∧ va_P D cl ws H ∧ va_D A ws ∧ va_S A s.heap H locs
theorem wg (hx : p.tables.exec = Jvm.exec) (hb : c.code = cc) {own C : String} {T : u_T} {N ci index : Nat} {Ts : List Cond} (hts : ∀ w ∈ Ts, w.before args s = true) (hin : ∀ w ∈ u_ws C T N, w ∈ Ts) (hown : s.vm.findClass own = some m.cls) (hW : Wd D cl tys s A (mw n ad mk v) H locs) (k : Nat) (hk : k < n) {fs : List Value} (he : mk k (v k) = .inr (ci, fs)) (hc : cl[ci]? = some (C, T, N)) (j : Nat) (hj : j < N) (hlink : (Cond.fieldLink own index (T j).1 (T j).2.1 (T j).2.2.1).before args s = true) {x : Value} (hv : fs[j]? = some x) (hdg : decode cc pc = .ok (.getfield index, 3))
    (kk : W p l e R s m args below meth c H locs cells slots Q (F0 m (pc + 3) ls (x :: rest))) : W p l e R s m args below meth c H locs cells slots Q (F0 m pc ls (.ref (ad k) :: rest)) :=
  va_get hx hb hts hin hown hW.1 hW.2.1 k (mw_get hk he) hc j hj hlink (fun _ h => h) hv hdg kk
theorem wp (hx : p.tables.exec = Jvm.exec) (hb : c.code = cc) {own C : String} {T : u_T} {N ci index : Nat} {Ts : List Cond} (hts : ∀ w ∈ Ts, w.before args s = true) (hin : ∀ w ∈ u_ws C T N, w ∈ Ts) (ty0 : Nat → FieldType) (hty : ∀ k, k < N → parseFieldDescriptor (T k).2.2.1 = some (ty0 k)) (hnm : ∀ a, a < N → ∀ b, b < N → a ≠ b → (T a).2.1 ≠ (T b).2.1) (hown : s.vm.findClass own = some m.cls) (hW : Wd D cl tys s A (mw n ad mk v) H locs) (k : Nat) (hk : k < n) {fs : List Value} (he : mk k (v k) = .inr (ci, fs)) (hc : cl[ci]? = some (C, T, N)) (j : Nat) (hj : j < N) (hlink : (Cond.fieldLink own index (T j).1 (T j).2.1 (T j).2.2.1).before args s = true) (hfin : (T j).2.2.2 = false) (hd : parseFieldDescriptor (T j).2.2.1 = some .int) {x : Int32} (hl : j < fs.length) (hs : mk k (upd (v k) j x) = .inr (ci, fs.set j (.int x))) (hdg : decode cc pc = .ok (.putfield index, 3))
    (kk : ∀ (H1 : Heap) (locs1 : List Loc), Wd D cl tys s A (mw n ad mk (u2 v k j x)) H1 locs1 → W p l e R s m args below meth c H1 locs1 cells slots Q (F0 m (pc + 3) ls rest)) : W p l e R s m args below meth c H locs cells slots Q (F0 m pc ls (.int x :: .ref (ad k) :: rest)) := by
  refine va_put hx hb hts hin ty0 hty hnm hown hW.1 hW.2.1 hW.2.2.1 hW.2.2.2 k (mw_get hk he) hc j hj hlink (fun _ h => h) hfin hd rfl rfl hl hdg (fun H1 locs1 h1 h2 h3 => kk H1 locs1 ?_)
  rw [mw_set hk hs] at h1 h2
  exact ⟨hW.1, h1, h2, h3⟩
theorem wi (hx : p.tables.exec = Jvm.exec) (hb : c.code = cc) (hW : Wd D cl tys s A (mw n ad mk v) H locs) (k : Nat) (hk : k < n) {cA : ClassId} {N : Nat} {f : Nat → Int32} (he : mk k (v k) = .inl (cA, N, .inl f)) (t0 : Nat) (ht : tys[t0]? = some (cA, .int)) (i : Nat) {x : Int32} (hxi : x = nI i) (hi : i < N) (hN : N < 2 ^ 31) (hdg : decode cc pc = .ok (.iaload, 1))
    (kk : W p l e R s m args below meth c H locs cells slots Q (F0 m (pc + 1) ls (.int (f i) :: rest))) : W p l e R s m args below meth c H locs cells slots Q (F0 m pc ls (.int x :: .ref (ad k) :: rest)) := by
  subst hxi
  refine va_iald hx hb hW.1 hW.2.1 k t0 (mw_get hk he) ht (vp_in_nI hi hN) hdg ?_
  rw [nI_clamp (by omega)]
  exact kk
theorem wis (hx : p.tables.exec = Jvm.exec) (hb : c.code = cc) (hW : Wd D cl tys s A (mw n ad mk v) H locs) (k : Nat) (hk : k < n) {cA : ClassId} {N : Nat} {f : Nat → Int32} (he : mk k (v k) = .inl (cA, N, .inl f)) (t0 : Nat) (ht : tys[t0]? = some (cA, .int)) (i : Nat) {y : Int32} (hyi : y = nI i) (hi : i < N) (hN : N < 2 ^ 31) {x : Int32} (hs : mk k (upd (v k) i x) = .inl (cA, N, .inl (upd f i x))) (hdg : decode cc pc = .ok (.iastore, 1))
    (kk : ∀ (H1 : Heap) (locs1 : List Loc), Wd D cl tys s A (mw n ad mk (u2 v k i x)) H1 locs1 → W p l e R s m args below meth c H1 locs1 cells slots Q (F0 m (pc + 1) ls rest)) : W p l e R s m args below meth c H locs cells slots Q (F0 m pc ls (.int x :: .int y :: .ref (ad k) :: rest)) := by
  subst hyi
  refine va_iast hx hb hW.1 hW.2.1 hW.2.2.1 hW.2.2.2 k t0 (mw_get hk he) ht (vp_in_nI hi hN) hdg (fun H1 locs1 h1 h2 h3 => kk H1 locs1 ?_)
  rw [nI_clamp (by omega), mw_set hk hs] at h1 h2
  exact ⟨hW.1, h1, h2, h3⟩
theorem wa (hx : p.tables.exec = Jvm.exec) (hb : c.code = cc) (hW : Wd D cl tys s A (mw n ad mk v) H locs) (k : Nat) (hk : k < n) {cA : ClassId} {C : String} {N : Nat} {f : Nat → Option Nat} (he : mk k (v k) = .inl (cA, N, .inr (.inr (.inr (.inr f))))) (t0 : Nat) (ht : tys[t0]? = some (cA, .object C)) (i : Nat) {x : Int32} (hxi : x = nI i) (hi : i < N) (hN : N < 2 ^ 31) {a : Nat} (hf : f i = some a) (hdg : decode cc pc = .ok (.aaload, 1))
    (kk : W p l e R s m args below meth c H locs cells slots Q (F0 m (pc + 1) ls (.ref a :: rest))) : W p l e R s m args below meth c H locs cells slots Q (F0 m pc ls (.int x :: .ref (ad k) :: rest)) := by
  subst hxi
  refine va_aldq hx hb hW.1 hW.2.1 k t0 (mw_get hk he) ht (vp_in_nI hi hN) hdg ?_
  rw [nI_clamp (by omega), hf]
  exact kk
end MW
/-! CALLS: a contract over a whole world -/
def PcW (D : va_G) (cl : List vw_C) (tys : List (ClassId × FieldType)) (av : List Value) (sz : Nat) (w : va_W) : Array Value → State → Prop := va_Pc av (fun U => U.heap.size = sz ∧ va_P D cl w U.heap ∧ va_K D cl tys U ∧ va_D (fun _ => True) w)
def BtW {S : Type} (D : va_G) (cl : List vw_C) (tys : List (ClassId × FieldType)) (A : Nat → Prop) (w' : S → va_W) (u : S) (t : State) : Prop := va_P D cl (w' u) t.heap ∧ va_K D cl tys t ∧ va_D A (w' u)
def MtI {S : Type} (l : Launch) (y : MethodName) (ws : List Cond) (rm : Room) (D : va_G) (cl : List vw_C) (tys : List (ClassId × FieldType)) (av : List Value) (w : va_W) (post : Int32 → S → Prop) (w' : S → va_W) (mc ms : Nat) : Prop := ∀ sz : Nat, Met l y ws rm (PcW D cl tys av sz w) (va_Qi post (BtW D cl tys (va_A w sz) w') (va_A w sz)) mc ms (va_A w sz)
def MtL {S : Type} (l : Launch) (y : MethodName) (ws : List Cond) (rm : Room) (D : va_G) (cl : List vw_C) (tys : List (ClassId × FieldType)) (av : List Value) (w : va_W) (post : Int64 → S → Prop) (w' : S → va_W) (mc ms : Nat) : Prop := ∀ sz : Nat, Met l y ws rm (PcW D cl tys av sz w) (va_Ql post (BtW D cl tys (va_A w sz) w') (va_A w sz)) mc ms (va_A w sz)
def MtV {S : Type} (l : Launch) (y : MethodName) (ws : List Cond) (rm : Room) (D : va_G) (cl : List vw_C) (tys : List (ClassId × FieldType)) (av : List Value) (w : va_W) (post : S → Prop) (w' : S → va_W) (mc ms : Nat) : Prop := ∀ sz : Nat, Met l y ws rm (PcW D cl tys av sz w) (va_Qv post (BtW D cl tys (va_A w sz) w') (va_A w sz)) mc ms (va_A w sz)
section MC
variable {p : Program} {l : Launch} {e : Env} {R : Room} {s : State} {m : MethodId} {args : Array Value} {below : List Frame} {meth : Method} {c : Code} {H : Heap} {locs : List Loc} {cells slots : Nat} {Q : State → Prop}
variable {pc : Nat} {ls : Array Slot} {rest st0 : List Value} {a : Array Value} {D : va_G} {cl : List vw_C} {A : Nat → Prop} {tys : List (ClassId × FieldType)} {mc ms : Nat} {w : va_W}
theorem Wd.free (hW : Wd D cl tys s A w H locs) (hA : ∀ q, s.heap.size ≤ q → A q) : ∀ q, va_A w H.size q → A q := by
  intro q h
  rcases h with ⟨k, e, h⟩ | h
  · exact hW.2.2.1.2 k (q, e) h
  · exact hA q (Nat.le_trans hW.2.2.2.1 h)
theorem preW {b : Nat} {As : List Value} {C : String} (hW : Wd D cl tys s A w H locs) {q0 ci : Nat} {r : vw_C} {fs : List Value} (hc : cl[ci]? = some r) (hC : r.1 = C) (he : w[q0]? = some (b, .inr (ci, fs))) : PreV s H C b (PcW D cl tys (.ref b :: As) H.size w) As := by
  subst hC
  refine ⟨fun a U g mk q => ?_, va_recv hW.1 hW.2.1 hc he, fun U hU hw => ⟨rfl, by rw [hU], by rw [hU]; exact hW.2.1, va_K.moved hw.alike hW.1, hW.2.2.1.weaken (fun _ _ _ _ => trivial)⟩⟩
  obtain ⟨q0, q1, qP, qK, qD⟩ := q
  exact ⟨q0, q1, qP, va_K.moved (u := U) (U := U.calling g mk a) (Vm.Alike.refl U.vm) qK, qD⟩
theorem preWS {As : List Value} (hW : Wd D cl tys s A w H locs) : PreS s H (PcW D cl tys As H.size w) As := by
  refine ⟨fun a U g mk q => ?_, fun U hU hw => ⟨rfl, by rw [hU], by rw [hU]; exact hW.2.1, va_K.moved hw.alike hW.1, hW.2.2.1.weaken (fun _ _ _ _ => trivial)⟩⟩
  obtain ⟨q0, q1, qP, qK, qD⟩ := q
  exact ⟨q0, q1, qP, va_K.moved (u := U) (U := U.calling g mk a) (Vm.Alike.refl U.vm) qK, qD⟩
theorem wci {S : Type} {post : Int32 → S → Prop} {w' : S → va_W} (hW : Wd D cl tys s A w H locs) (hA : ∀ q, s.heap.size ≤ q → A q) (hr : va_Run p l e R s m args below meth c H locs cells slots mc ms (F0 m pc ls st0) rest (va_Qi post (BtW D cl tys (va_A w H.size) w') (va_A w H.size) a) (va_A w H.size))
    (kk : ∀ (r : Int32) (u : S) (H1 : Heap) (locs1 : List Loc), post r u → Wd D cl tys s A (w' u) H1 locs1 → W p l e R s m args below meth c H1 locs1 (cells + mc) (slots + ms) Q (F0 m (pc + 3) ls (.int r :: rest))) : W p l e R s m args below meth c H locs cells slots Q (F0 m pc ls st0) := by
  have hF := hW.free hA
  refine va_calli hr hW.2.2.2 (fun q _ h => hF q h) hF (fun r u t H1 locs1 ht hvm hp hB hz hk hS => kk r u H1 locs1 hp ⟨hW.1, ?_, hB.2.2.weaken (fun _ q _ h => hF q.1 h), hS⟩)
  rw [← ht]
  exact hB.1
theorem wcl {S : Type} {post : Int64 → S → Prop} {w' : S → va_W} (hW : Wd D cl tys s A w H locs) (hA : ∀ q, s.heap.size ≤ q → A q) (hr : va_Run p l e R s m args below meth c H locs cells slots mc ms (F0 m pc ls st0) rest (va_Ql post (BtW D cl tys (va_A w H.size) w') (va_A w H.size) a) (va_A w H.size))
    (kk : ∀ (r : Int64) (u : S) (H1 : Heap) (locs1 : List Loc), post r u → Wd D cl tys s A (w' u) H1 locs1 → W p l e R s m args below meth c H1 locs1 (cells + mc) (slots + ms) Q (F0 m (pc + 3) ls (.long r :: rest))) : W p l e R s m args below meth c H locs cells slots Q (F0 m pc ls st0) := by
  have hF := hW.free hA
  refine va_calll hr hW.2.2.2 (fun q _ h => hF q h) hF (fun r u t H1 locs1 ht hvm hp hB hz hk hS => kk r u H1 locs1 hp ⟨hW.1, ?_, hB.2.2.weaken (fun _ q _ h => hF q.1 h), hS⟩)
  rw [← ht]
  exact hB.1
theorem wcv {S : Type} {post : S → Prop} {w' : S → va_W} (hW : Wd D cl tys s A w H locs) (hA : ∀ q, s.heap.size ≤ q → A q) (hr : va_Run p l e R s m args below meth c H locs cells slots mc ms (F0 m pc ls st0) rest (va_Qv post (BtW D cl tys (va_A w H.size) w') (va_A w H.size) a) (va_A w H.size))
    (kk : ∀ (u : S) (H1 : Heap) (locs1 : List Loc), post u → Wd D cl tys s A (w' u) H1 locs1 → W p l e R s m args below meth c H1 locs1 (cells + mc) (slots + ms) Q (F0 m (pc + 3) ls rest)) : W p l e R s m args below meth c H locs cells slots Q (F0 m pc ls st0) := by
  have hF := hW.free hA
  refine va_callv hr hW.2.2.2 (fun q _ h => hF q h) hF (fun u t H1 locs1 ht hvm hp hB hz hk hS => kk u H1 locs1 hp ⟨hW.1, ?_, hB.2.2.weaken (fun _ q _ h => hF q.1 h), hS⟩)
  rw [← ht]
  exact hB.1
end MC
/-- a method's start: the world that it stands in -/
theorem Wd.start {D : va_G} {cl : List vw_C} {tys : List (ClassId × FieldType)} {s : State} {w : va_W} (hP : va_P D cl w s.heap) (hK : va_K D cl tys s) (hD : va_D (fun _ => True) w) : Wd D cl tys s (va_A w s.heap.size) w s.heap [] := ⟨hK, hP, hD.self, va_S.rf⟩
/-- as Met.ofW, of a method for which no native stands in -/
theorem met_ofF {l : Launch} {y : MethodName} {ws ws' : List Cond} {rm : Room} {Pc : Array Value → State → Prop} {Qc : Array Value → State → Outcome → State → Prop} {mc ms : Nat} {free : Addr → Prop} {cc : ByteArray} {maxL : Nat} {ret : Option FieldType}
    (hy : plainFor y = true) (hw : ws = Cond.code y cc maxL ret :: ws')
    (body : ∀ p e s m args below meth c s₁, BodyLoose p l y (headSpec ws rm) cc maxL ret e s m args below meth c s₁ → c.maxLocals = maxL → Pc args s →
      W p l e (headSpec ws rm).room s m args below meth c s.heap [] 0 0 (MQ below Qc args s mc ms free) (entryFrame m args maxL)) : Met l y ws rm Pc Qc mc ms free := by
  refine MetFree.of_bodySF (code := cc) (maxLocals := maxL) (ret := ret) hy ?_ ?_
  · intro args s m h hn
    obtain ⟨meth, c, h1, h2, h3, h4, h5, h6, -, -⟩ := Cond.code_spec hn (atoms_spec (ws := ws) h _ (by rw [hw]; exact List.mem_cons_self))
    exact ⟨meth, c, h1, h2, h3, h4, h5, h6⟩
  · intro p e s m args below meth c s₁ B hml hP _
    have hh0 : s₁.heap = s.heap := by rw [B.state]; rfl
    obtain ⟨t, a1, o, b1, b2, b3⟩ := body p e s m args below meth c s₁ B hml hP s₁ hh0 (Stand.of_body B)
    exact ⟨t, o, a1, b1, b2, ⟨b3.1, b3.2⟩⟩
/-- what a method's walk has at hand -/
def Cx (p : Program) (s : State) (m : MethodId) (args : Array Value) (meth : Method) (c : Code) (own : String) (cc : ByteArray) (maxL : Nat) (ret : Option FieldType) (ws : List Cond) : Prop :=
  p.tables.exec = Jvm.exec ∧ c.code = cc ∧ meth.sig.returnType = ret ∧ c.maxLocals = maxL ∧ s.vm.findClass own = some m.cls ∧ (∀ w ∈ ws, w.before args s = true) ∧ meth.locks = false
section MS
variable {S : Type} {l : Launch} {y : MethodName} {ws ws' : List Cond} {rm : Room} {D : va_G} {cl : List vw_C} {tys : List (ClassId × FieldType)} {av : List Value} {w : va_W} {w' : S → va_W} {mc ms : Nat} {cc : ByteArray} {maxL : Nat}
theorem mt_i {post : Int32 → S → Prop} {ty : FieldType} (hn : ∀ r u, post r u → narrow ty (.int r) = .int r) (hy : plainFor y = true) (hw : ws = Cond.code y cc maxL (some ty) :: ws') (hL : (lg_sl av).length ≤ maxL)
    (body : ∀ (p : Program) (e : Env) (s : State) (m : MethodId) (args : Array Value) (below : List Frame) (meth : Method) (c : Code) (Q : State → Prop) (A : Nat → Prop), Cx p s m args meth c y.cls cc maxL (some ty) ws → (∀ q, s.heap.size ≤ q → A q) → Wd D cl tys s A w s.heap [] →
      (∀ (r : Int32) (u : S) (H : Heap) (locs : List Loc) (cells slots pc : Nat) (ls : Array Slot), post r u → Wd D cl tys s A (w' u) H locs → cells ≤ mc → slots ≤ ms → decode cc pc = .ok (.ireturn, 1) → W p l e rm s m args below meth c H locs cells slots Q (F0 m pc ls [.int r])) →
      ∀ ls : Array Slot, lv_has ls maxL (lv_args 0 av) → W p l e rm s m args below meth c s.heap [] 0 0 Q (F0 m 0 ls [])) : MtI l y ws rm D cl tys av w post w' mc ms := by
  intro sz
  refine met_ofF (cc := cc) (maxL := maxL) (ret := some ty) hy hw ?_
  intro p e s m args below meth c s₁ B hml hv
  obtain ⟨rfl, hsz, hP, hK, hD0⟩ := hv
  subst hsz
  have hown : s.vm.findClass y.cls = some m.cls := findClass_of_methodNamed B.named
  have hl := lv_entry av (n := maxL) hL
  rw [lg_entry_eq]
  generalize (lg_sl av ++ List.replicate (maxL - (lg_sl av).length) Slot.unset).toArray = ls at hl ⊢
  refine body p e s m _ below meth c _ (va_A w s.heap.size) ⟨B.exec, B.bytes, B.returns, hml, hown, atoms_spec (ws := ws) B.pre, B.notSynchronized⟩ (fun q h => Or.inr h) (Wd.start hP hK hD0) ?_ ls hl
  intro r u H locs cells slots pc ls hp hW h1 h2 hdg
  refine W.widen (k := mc) (n := ms) h1 h2 ?_
  exact W.zret B.exec B.bytes B.returns (hn r u hp) (fun t ht hw => ⟨⟨r, u, rfl, hp, by rw [ht]; exact hW.2.1, va_K.moved hw.alike hW.1, hW.2.2.1⟩, hW.2.2.2.F ht⟩) hW.2.2.2.2.2 hdg B.notSynchronized
theorem mt_l {post : Int64 → S → Prop} (hy : plainFor y = true) (hw : ws = Cond.code y cc maxL (some .long) :: ws') (hL : (lg_sl av).length ≤ maxL)
    (body : ∀ (p : Program) (e : Env) (s : State) (m : MethodId) (args : Array Value) (below : List Frame) (meth : Method) (c : Code) (Q : State → Prop) (A : Nat → Prop), Cx p s m args meth c y.cls cc maxL (some .long) ws → (∀ q, s.heap.size ≤ q → A q) → Wd D cl tys s A w s.heap [] →
      (∀ (r : Int64) (u : S) (H : Heap) (locs : List Loc) (cells slots pc : Nat) (ls : Array Slot), post r u → Wd D cl tys s A (w' u) H locs → cells ≤ mc → slots ≤ ms → decode cc pc = .ok (.lreturn, 1) → W p l e rm s m args below meth c H locs cells slots Q (F0 m pc ls [.long r])) →
      ∀ ls : Array Slot, lv_has ls maxL (lv_args 0 av) → W p l e rm s m args below meth c s.heap [] 0 0 Q (F0 m 0 ls [])) : MtL l y ws rm D cl tys av w post w' mc ms := by
  intro sz
  refine met_ofF (cc := cc) (maxL := maxL) (ret := some .long) hy hw ?_
  intro p e s m args below meth c s₁ B hml hv
  obtain ⟨rfl, hsz, hP, hK, hD0⟩ := hv
  subst hsz
  have hown : s.vm.findClass y.cls = some m.cls := findClass_of_methodNamed B.named
  have hl := lv_entry av (n := maxL) hL
  rw [lg_entry_eq]
  generalize (lg_sl av ++ List.replicate (maxL - (lg_sl av).length) Slot.unset).toArray = ls at hl ⊢
  refine body p e s m _ below meth c _ (va_A w s.heap.size) ⟨B.exec, B.bytes, B.returns, hml, hown, atoms_spec (ws := ws) B.pre, B.notSynchronized⟩ (fun q h => Or.inr h) (Wd.start hP hK hD0) ?_ ls hl
  intro r u H locs cells slots pc ls hp hW h1 h2 hdg
  refine W.widen (k := mc) (n := ms) h1 h2 ?_
  exact W.lret B.exec B.bytes B.returns (fun t ht hw => ⟨⟨r, u, rfl, hp, by rw [ht]; exact hW.2.1, va_K.moved hw.alike hW.1, hW.2.2.1⟩, hW.2.2.2.F ht⟩) hW.2.2.2.2.2 hdg B.notSynchronized
theorem mt_v {post : S → Prop} (hy : plainFor y = true) (hw : ws = Cond.code y cc maxL none :: ws') (hL : (lg_sl av).length ≤ maxL)
    (body : ∀ (p : Program) (e : Env) (s : State) (m : MethodId) (args : Array Value) (below : List Frame) (meth : Method) (c : Code) (Q : State → Prop) (A : Nat → Prop), Cx p s m args meth c y.cls cc maxL none ws → (meth.name = y.name) → (∀ q, s.heap.size ≤ q → A q) → Wd D cl tys s A w s.heap [] →
      (∀ (u : S) (H : Heap) (locs : List Loc) (cells slots pc : Nat) (ls : Array Slot), post u → Wd D cl tys s A (w' u) H locs → cells ≤ mc → slots ≤ ms → decode cc pc = .ok (.return_, 1) → W p l e rm s m args below meth c H locs cells slots Q (F0 m pc ls [])) →
      ∀ ls : Array Slot, lv_has ls maxL (lv_args 0 av) → W p l e rm s m args below meth c s.heap [] 0 0 Q (F0 m 0 ls [])) : MtV l y ws rm D cl tys av w post w' mc ms := by
  intro sz
  refine met_ofF (cc := cc) (maxL := maxL) (ret := none) hy hw ?_
  intro p e s m args below meth c s₁ B hml hv
  obtain ⟨rfl, hsz, hP, hK, hD0⟩ := hv
  subst hsz
  have hown : s.vm.findClass y.cls = some m.cls := findClass_of_methodNamed B.named
  have hl := lv_entry av (n := maxL) hL
  rw [lg_entry_eq]
  generalize (lg_sl av ++ List.replicate (maxL - (lg_sl av).length) Slot.unset).toArray = ls at hl ⊢
  refine body p e s m _ below meth c _ (va_A w s.heap.size) ⟨B.exec, B.bytes, B.returns, hml, hown, atoms_spec (ws := ws) B.pre, B.notSynchronized⟩ (name_of_methodNamed B.named B.method).1 (fun q h => Or.inr h) (Wd.start hP hK hD0) ?_ ls hl
  intro u H locs cells slots pc ls hp hW h1 h2 hdg
  refine W.widen (k := mc) (n := ms) h1 h2 ?_
  exact W.vret B.exec B.bytes B.returns (fun t ht hw => ⟨⟨u, rfl, hp, by rw [ht]; exact hW.2.1, va_K.moved hw.alike hW.1, hW.2.2.1⟩, hW.2.2.2.F ht⟩) hW.2.2.2.2.2 hdg B.notSynchronized
end MS
/-! WORDS of a call: all methods have the words of bigw -/
theorem gb {y : MethodName} {b : ByteArray} {n : Nat} {r : Option FieldType} (h : Cond.code y b n r ∈ bigw) : GoodIn bigw (Cond.code y b n r :: bigw) := by
  have key : ∀ w, w ∈ bigw → w ∈ bigw ∧ ((w.onTables && w.keeps) = true ∨ ∃ ty, w = .arrayClass ty) := fun w hw => ⟨hw, good_of_word (List.mem_filter.mp hw).2⟩
  intro w hw
  rcases List.mem_cons.mp hw with rfl | hw
  · exact key _ h
  · exact key _ hw
section CW
variable {R : Room} {s : State} {args : Array Value} {own : String} {y : MethodName} {bytes : ByteArray} {maxL index mc ms : Nat} {ret : Option FieldType} {rm : Room}
theorem cv (n : Nat) (ht : ∀ w ∈ bigw, w.before args s = true) (kc : Cond.code y bytes maxL ret ∈ bigw) (ki : Cond.instanceMethod y ∈ bigw) (ke : Cond.selects y.cls y y ∈ bigw) (kn : Cond.initialized y.cls ∈ bigw) (km : Cond.methodLink own index y ∈ bigw) (hd : y.cls ≠ "java/lang/invoke/MethodHandle" ∧ y.cls ≠ "java/lang/invoke/VarHandle" ∧ (parseMethodDescriptor y.desc).map (fun d => d.parameters.length) = some n) (hrc : rm.cells = mc) (hrs : rm.slots = ms) (hR : rm.frames + 1 ≤ R.frames ∧ 8 + (maxL + 11) + rm.locals ≤ R.locals) : CallW R s args own y.cls index y bytes maxL ret (Cond.code y bytes maxL ret :: bigw) rm mc ms n :=
  ⟨callB_of n ht (gb kc) rfl hrc hrs (ht _ kn) (ht _ km) hd hR, ht _ ki, ht _ ke⟩
theorem cs (n : Nat) (ht : ∀ w ∈ bigw, w.before args s = true) (kc : Cond.code y bytes maxL ret ∈ bigw) (ks : Cond.static y ∈ bigw) (kn : Cond.initialized y.cls ∈ bigw) (km : Cond.methodLink own index y ∈ bigw) (hd : y.cls ≠ "java/lang/invoke/MethodHandle" ∧ y.cls ≠ "java/lang/invoke/VarHandle" ∧ (parseMethodDescriptor y.desc).map (fun d => d.parameters.length) = some n) (hrc : rm.cells = mc) (hrs : rm.slots = ms) (hR : rm.frames + 1 ≤ R.frames ∧ 8 + (maxL + 11) + rm.locals ≤ R.locals) : CallB R s args own index y bytes maxL ret (Cond.code y bytes maxL ret :: bigw) rm mc ms n ∧ (Cond.static y).before args s = true :=
  ⟨callB_of n ht (gb kc) rfl hrc hrs (ht _ kn) (ht _ km) hd hR, ht _ ks⟩
end CW
