/-! p2: the tie between the class and the reference: the programs are of one length -/
def Rl (np : Nat) (v r : Vs) : Prop := Ok np v ∧ OkM r ∧ ∀ i, i < 4 → v (6 + 4 * i) 3 = r 4 i
section RL
variable {np : Nat} {v r : Vs}
theorem rl_instr (h : Rl np v r) (x op a b : Int32) : Rl np (mInstr v x op a b).2 (mIns r x op a b).2 := ⟨h.1.instr, h.2.1.ins, (instr_eq h.2.2 x op a b).2⟩
theorem eq_instr (h : Rl np v r) (x op a b : Int32) : (mInstr v x op a b).1 = (mIns r x op a b).1 := (instr_eq h.2.2 x op a b).1
theorem rl_spawn (h : Rl np v r) (x y : Int32) : Rl (mSpawn np v x y).2.1 (mSpawn np v x y).2.2 (mSpw r x y).2 := ⟨h.1.spawn.1, h.2.1.spw, fun i hi => by rw [s_spawn (by omega), q_spw]; exact h.2.2 i hi⟩
theorem rl_step (h : Rl np v r) (x : Int32) : Rl (mStep np v x).2.1 (mStep np v x).2.2 (mStp r x).2 := ⟨h.1.step.1, h.2.1.stp, fun i hi => by rw [s_step (by omega), q_stp]; exact h.2.2 i hi⟩
theorem rl_serve (h : Rl np v r) (x : Int32) : Rl np (mServe v x).2 (mSrv r x).2 := ⟨h.1.serve, h.2.1.srv, fun i hi => by rw [s_serve (by omega), q_srv]; exact h.2.2 i hi⟩
theorem rl_migrate (h : Rl np v r) (x y : Int32) : Rl np (mMigrate v x y).2 (mMig r x y).2 := ⟨h.1.migrate, h.2.1.mig, fun i hi => by rw [s_migrate (by omega), q_mig]; exact h.2.2 i hi⟩
theorem rl_find (h : Rl np v r) (x y : Int32) : Rl np (mFind v x y).2 (mFnd r x y).2 := ⟨h.1.find, h.2.1.fnd, fun i hi => by rw [s_find (by omega), q_fnd]; exact h.2.2 i hi⟩
end RL
theorem rl_0 : Rl 0 vC0 rM0 := ⟨ok_0, okM_0, fun i hi => by rw [vC0_z (by omega)]; rfl⟩
