/-! the reference's sizes under all but instr; instr's answers alike -/
section SM
variable {r : Vs}
theorem st4 : stay 4 := Or.inl (by omega)
theorem q_spw {x y : Int32} : (mSpw r x y).2 4 = r 4 := by
  unfold mSpw
  split
  · rfl
  · split
    · rfl
    · split
      · exact mMake_st st4
      · exact mMake_st st4
theorem q_mig {x y : Int32} : (mMig r x y).2 4 = r 4 := by
  unfold mMig
  split
  · rfl
  · split
    · rfl
    · split
      · rfl
      · split
        · rfl
        · dsimp only
          split
          · dsimp only
            rw [u2_oth (by omega), u2_oth (by omega), mRdy_st st4, u2_oth (by omega)]
          · dsimp only
            rw [u2_oth (by omega), u2_oth (by omega), u2_oth (by omega)]
theorem q_fndL {q : Nat} : ∀ (k f t : Nat) (r : Vs), (mFndL q k f t r).2 4 = r 4 := by
  intro k
  induction k with
  | zero => intro f t r; rfl
  | succ k ih =>
    intro f t r
    unfold mFndL
    split
    · rfl
    · rw [ih, u2_oth (by omega)]
theorem q_fnd {x y : Int32} : (mFnd r x y).2 4 = r 4 := by
  unfold mFnd
  split
  · rfl
  · split
    · rfl
    · exact q_fndL _ _ _ _
theorem q_low {o : Nat} : mLow r o 4 = r 4 := by
  have key : ∀ (c : Vs) (q : Nat) (x : Int32), (if c 19 q = 0 then c else u2 c 21 o x) 4 = c 4 := by
    intro c q x
    split
    · rfl
    · exact u2_oth (by omega)
  exact (key _ _ _).trans ((key _ _ _).trans (key _ _ _))
theorem q_giv {x : Int32} {n : Nat} : mGiv r x n 4 = r 4 := by
  unfold mGiv
  dsimp only
  split
  · rfl
  · split
    · unfold mGivE
      split
      · rw [u2_oth (by omega), q_low, u2_oth (by omega), u2_oth (by omega), u2_oth (by omega)]
      · rw [q_low, u2_oth (by omega), u2_oth (by omega), u2_oth (by omega)]
    · rw [u2_oth (by omega), u2_oth (by omega)]
theorem q_shL {x y : Int32} {g : Nat} : ∀ (k m : Nat) (r : Vs), mShL x y g k m r 4 = r 4 := by
  intro k
  induction k with
  | zero => intro m r; rfl
  | succ k ih =>
    intro m r
    unfold mShL
    split
    · exact ih _ _
    · split
      · exact ih _ _
      · split
        · rw [ih, u2_oth (by omega)]
        · rw [ih, u2_oth (by omega), u2_oth (by omega)]
theorem q_sh2 {x y : Int32} {g : Nat} : mSh2 r x g y 4 = r 4 := by
  unfold mSh2
  split
  · split
    · exact u2_oth (by omega)
    · rfl
  · exact u2_oth (by omega)
theorem q_share {x y : Int32} {n g : Nat} : mShare r x n g y 4 = r 4 := by
  unfold mShare mSh1
  split
  · split
    · rw [q_sh2, u2_oth (by omega), q_shL]
    · rw [q_sh2, q_shL]
  · rw [q_sh2, u2_oth (by omega), q_shL]
theorem q_drop {x : Int32} : ∀ (k : Nat) (r : Vs), mDrop x k r 4 = r 4 := by
  intro k
  induction k with
  | zero => intro r; rfl
  | succ k ih =>
    intro r
    unfold mDrop
    split
    · rfl
    · split
      · rw [ih, u2_oth (by omega)]
      · rfl
theorem q_srv2 {x y : Int32} {q n : Nat} : mSrv2 r x q n y 4 = r 4 := by
  unfold mSrv2
  rw [mRdy_st st4, u2_oth (by omega), u2_oth (by omega), mTick_st st4, q_share]
theorem q_srv {x : Int32} : (mSrv r x).2 4 = r 4 := by
  unfold mSrv
  split
  · rfl
  · rw [← q_drop (x := x) (mRem r 8) r]
    generalize mDrop x (mRem r 8) r = c
    unfold mSrv1
    dsimp only
    split
    · rfl
    · split
      · split
        · dsimp only
          rw [q_srv2, q_giv, u2_oth (by omega), u2_oth (by omega)]
        · dsimp only
          rw [q_srv2, u2_oth (by omega), u2_oth (by omega)]
      · dsimp only
        rw [q_srv2, u2_oth (by omega), u2_oth (by omega)]
theorem q_sl {s op : Int32} {q : Nat} : (mSl r s q op).2 4 = r 4 := by
  unfold mSl
  dsimp only
  split
  · rfl
  · split
    · dsimp only
      rw [mRdy_st st4, u2_oth (by omega)]
    · split
      · dsimp only
        rw [mRdy_st st4, u2_oth (by omega)]
      · dsimp only; rw [u2_oth (by omega)]
theorem q_aft {s op j : Int32} {q a b t : Nat} : (mAft r s q op a b t j).2 4 = r 4 := by
  unfold mAft
  dsimp only
  split
  · split
    · rw [q_sl, u2_oth (by omega), mPrf_st st4]
    · rw [q_sl, u2_oth (by omega), mPrf_st st4]
  · exact mPrf_st st4
theorem q_fault {p t : Nat} {op y : Int32} : mFault r p op y t 4 = r 4 := by
  unfold mFault
  split
  · unfold mFl0
    split
    · rw [u2_oth (by omega), u2_oth (by omega), u2_oth (by omega), mTick_st st4, u2_oth (by omega), u2_oth (by omega), u2_oth (by omega)]
    · rw [u2_oth (by omega), u2_oth (by omega), u2_oth (by omega), mTick_st st4, u2_oth (by omega), u2_oth (by omega), u2_oth (by omega)]
  · rfl
theorem q_stp {x : Int32} : (mStp r x).2 4 = r 4 := by
  unfold mStp
  split
  · rfl
  · split
    · rfl
    · unfold mRun
      dsimp only
      split
      · split
        · exact q_fault
        · split
          · split
            · exact q_aft
            · exact q_aft
          · exact q_aft
      · exact mEnd_st st4
end SM
theorem io {x n m : Int32} (h : n.toInt = m.toInt + 1) : inI x n ↔ ¬ outP x m := by
  have e1 : x < 0 ↔ x.toInt < 0 := Int32.lt_iff_toInt_lt
  have e2 : x < n ↔ x.toInt < n.toInt := Int32.lt_iff_toInt_lt
  have e3 : m < x ↔ m.toInt < x.toInt := Int32.lt_iff_toInt_lt
  show (¬ x < 0 ∧ x < n) ↔ ¬ (x < 0 ∨ m < x)
  rw [e1, e2, e3]
  omega
