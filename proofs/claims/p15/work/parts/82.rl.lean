/-! THE TIE, as the law's loop has it: k calls have been made -/
def Rl (k np : Nat) (v r : Vs) : Prop := Sim (12 * k) 8 0 np v r
section RL
variable {k np : Nat} {v r : Vs}
theorem rl_ok (h : Rl k np v r) : Ok np v := Sim.ok h
theorem rl_okM (h : Rl k np v r) : OkM r := Sim.okM h
theorem rl_next (h : Rl k np v r) (hk : k < 512) : Rl (k + 1) np v r := Sim.wide h (by omega) (by omega)
theorem rl_up {b : Nat} (h : Sim b 8 0 np v r) (hk : k < 512) (hb : b ≤ 12 * k + 12) : Rl (k + 1) np v r := Sim.wide h (by omega) (by omega)
theorem rl_instr (h : Rl k np v r) (hk : k < 512) (x op a b : Int32) : Rl (k + 1) np (mInstr v x op a b).2 (mIns r x op a b).2 := rl_up (Sim.instr h x op a b) hk (by omega)
theorem eq_instr (h : Rl k np v r) (_ : k < 512) (x op a b : Int32) : (mInstr v x op a b).1 = (mIns r x op a b).1 := (instr_eq (fun i hi => Sim.D h _ _ _ _ (.psz hi)) x op a b).1
theorem rl_spawn (h : Rl k np v r) (hk : k < 512) (x y : Int32) : Rl (k + 1) (mSpawn np v x y).2.1 (mSpawn np v x y).2.2 (mSpw r x y).2 := rl_up (Sim.spawn h x y (by omega)).1 hk (by omega)
theorem eq_spawn (h : Rl k np v r) (hk : k < 512) (x y : Int32) : (mSpawn np v x y).1 = (mSpw r x y).1 := (Sim.spawn h x y (by omega)).2
theorem rl_step (h : Rl k np v r) (hk : k < 512) (x : Int32) : Rl (k + 1) (mStep np v x).2.1 (mStep np v x).2.2 (mStp r x).2 := rl_up (Sim.step h x (by omega)).1 hk (by omega)
theorem eq_step (h : Rl k np v r) (hk : k < 512) (x : Int32) : (mStep np v x).1 = (mStp r x).1 := (Sim.step h x (by omega)).2
theorem rl_serve (h : Rl k np v r) (hk : k < 512) (x : Int32) : Rl (k + 1) np (mServe v x).2 (mSrv r x).2 := rl_up (Sim.serve h x (by omega)).1 hk (by omega)
theorem eq_serve (h : Rl k np v r) (hk : k < 512) (x : Int32) : (mServe v x).1 = (mSrv r x).1 := (Sim.serve h x (by omega)).2
theorem rl_migrate (h : Rl k np v r) (hk : k < 512) (x y : Int32) : Rl (k + 1) np (mMigrate v x y).2 (mMig r x y).2 := rl_up (Sim.migrate h x y (by omega)).1 hk (by omega)
theorem eq_migrate (h : Rl k np v r) (hk : k < 512) (x y : Int32) : (mMigrate v x y).1 = (mMig r x y).1 := (Sim.migrate h x y (by omega)).2
theorem rl_find (h : Rl k np v r) (hk : k < 512) (x y : Int32) : Rl (k + 1) np (mFind v x y).2 (mFnd r x y).2 := rl_up (Sim.find h x y).1 hk (by omega)
theorem eq_find (h : Rl k np v r) (_ : k < 512) (x y : Int32) : (mFind v x y).1 = (mFnd r x y).1 := (Sim.find h x y).2
theorem eq_reg (h : Rl k np v r) (_ : k < 512) (x y : Int32) : rReg v x y = mReg r x y := Sim.reg h x y
theorem eq_info (h : Rl k np v r) (_ : k < 512) (x y : Int32) : rInfo v x y = mInfo r x y := Sim.info h x y
theorem eq_line (h : Rl k np v r) (_ : k < 512) (x y : Int32) : rLine v x y = mLine r x y := Sim.line h x y
theorem eq_word (h : Rl k np v r) (_ : k < 512) (x : Int32) : rWord v x = mWord r x := Sim.word h x
theorem eq_right (h : Rl k np v r) (_ : k < 512) (x y : Int32) : rRight v x y = mRight r x y := Sim.rightE h x y
theorem eq_owner (h : Rl k np v r) (_ : k < 512) (x : Int32) : rOwner v x = mOwner r x := Sim.owner h x
theorem eq_count (h : Rl k np v r) (_ : k < 512) (x : Int32) : rCount v x = mCount r x := Sim.count h x
end RL
theorem rl_0 : Rl 0 0 vC0 rM0 := sim_0
