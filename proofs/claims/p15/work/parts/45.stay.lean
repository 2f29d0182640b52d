/-! what leaves the programs alone: the class's cells 6 .. 21 -/
section ST
variable {v : Vs} {c : Nat}
theorem s_u2 {k j : Nat} {x : Int32} (hc : 6 ≤ c ∧ c < 22) (h : k < 6 ∨ 22 ≤ k) : u2 v k j x c = v c := u2_oth (by omega)
theorem s_app (hc : 6 ≤ c ∧ c < 22) {k : Nat} {x : Int32} (h : 22 ≤ k) : cApp v k x c = v c := by
  unfold cApp
  split
  · rfl
  · dsimp only
    rw [s_u2 hc (by omega), s_u2 hc (by omega)]
theorem s_remL (hc : 6 ≤ c ∧ c < 22) {k : Nat} {x : Int32} (h : 22 ≤ k) : ∀ (n i t : Nat) (v : Vs), cRemL k x n i t v c = v c := by
  intro n
  induction n with
  | zero => intro i t v; unfold cRemL; exact s_u2 hc (by omega)
  | succ n ih =>
    intro i t v
    unfold cRemL
    split
    · exact ih _ _ _
    · rw [ih, s_u2 hc (by omega)]
theorem s_rem (hc : 6 ≤ c ∧ c < 22) {k : Nat} {x : Int32} (h : 22 ≤ k) : cRem v k x c = v c := s_remL hc h _ _ _ _
theorem s_join (hc : 6 ≤ c ∧ c < 22) {i : Nat} : cJoin v i c = v c := by
  unfold cJoin
  rw [s_app hc (by omega), s_u2 hc (by omega), s_u2 hc (by omega)]
theorem s_leave (hc : 6 ≤ c ∧ c < 22) {i : Nat} {x : Int32} : cLeave v i x c = v c := by
  unfold cLeave
  rw [s_u2 hc (by omega), s_rem hc (by omega)]
theorem s_wk (hc : 6 ≤ c ∧ c < 22) {i : Nat} : ∀ (n j : Nat) (v : Vs), cWk i n j v c = v c := by
  intro n
  induction n with
  | zero => intro j v; rfl
  | succ n ih =>
    intro j v
    unfold cWk
    rw [ih]
    split
    · split
      · exact s_join hc
      · rfl
    · rfl
theorem s_end (hc : 6 ≤ c ∧ c < 22) {np i : Nat} {x : Int32} : cEnd np v i x c = v c := by
  unfold cEnd
  rw [s_wk hc, s_u2 hc (by omega), s_leave hc]
theorem s_use (hc : 6 ≤ c ∧ c < 22) {j n : Nat} : cUse v j n c = v c := by
  unfold cUse
  rw [s_u2 hc (by omega), s_u2 hc (by omega)]
theorem s_block (hc : 6 ≤ c ∧ c < 22) {i j : Nat} {x y : Int32} : cBlock v i x j y c = v c := by
  unfold cBlock
  rw [s_u2 hc (by omega), s_app hc (by omega), s_u2 hc (by omega), s_u2 hc (by omega), s_leave hc]
theorem s_again (hc : 6 ≤ c ∧ c < 22) {i : Nat} : cAgain v i c = v c := by
  unfold cAgain
  rw [s_join hc, s_rem hc (by omega)]
theorem s_spend (hc : 6 ≤ c ∧ c < 22) {i : Nat} {y : Int32} : cSpend v i y c = v c := by
  unfold cSpend
  split
  · split
    · rw [s_again hc, s_u2 hc (by omega)]
    · rw [s_u2 hc (by omega)]
  · rw [s_again hc, s_u2 hc (by omega)]
theorem s_wait (hc : 6 ≤ c ∧ c < 22) {i a : Nat} : cWait v i a c = v c := by
  unfold cWait
  split
  · split
    · rw [s_u2 hc (by omega)]
    · rw [s_u2 hc (by omega), s_leave hc]
  · rw [s_u2 hc (by omega)]
theorem s_kill (hc : 6 ≤ c ∧ c < 22) {np i a : Nat} : cKill np v i a c = v c := by
  unfold cKill
  split
  · split
    · rw [s_u2 hc (by omega)]
    · rw [s_u2 hc (by omega), s_end hc]
  · rw [s_u2 hc (by omega)]
theorem s_acc (hc : 6 ≤ c ∧ c < 22) {i a b : Nat} {op : Int32} : cAcc v i op a b c = v c := by
  unfold cAcc
  dsimp only
  split
  · rw [s_u2 hc (by omega), s_use hc]
  · split
    · rw [s_u2 hc (by omega), s_use hc]
    · split
      · rw [s_u2 hc (by omega), s_u2 hc (by omega), s_use hc]
      · rw [s_u2 hc (by omega), s_use hc]
theorem s_give (hc : 6 ≤ c ∧ c < 22) {j n : Nat} {x : Int32} : cGive v j x n c = v c := by
  unfold cGive
  dsimp only
  split
  · split
    · rw [s_u2 hc (by omega), s_u2 hc (by omega), s_u2 hc (by omega), s_u2 hc (by omega)]
    · rw [s_u2 hc (by omega), s_u2 hc (by omega), s_u2 hc (by omega), s_u2 hc (by omega)]
  · rw [s_u2 hc (by omega), s_u2 hc (by omega)]
theorem s_room (hc : 6 ≤ c ∧ c < 22) {n : Nat} {x : Int32} : cRoom v x n c = v c := by
  unfold cRoom
  generalize cOld v n 8 0 0 none = z
  obtain ⟨a, o⟩ := z
  cases o with
  | none => rfl
  | some q =>
    show (if nI a = 3 then cGive v q x n else v) c = v c
    split
    · exact s_give hc
    · rfl
theorem s_gwl (hc : 6 ≤ c ∧ c < 22) {j : Nat} {x : Int32} : ∀ (n i : Nat) (lost : Int32) (v : Vs), (cGWL j x n i lost v).2 c = v c := by
  intro n
  induction n with
  | zero => intro i lost v; rfl
  | succ n ih =>
    intro i lost v
    unfold cGWL
    split
    · exact ih _ _ _
    · split
      · exact ih _ _ _
      · rw [ih, s_u2 hc (by omega)]
theorem s_gw (hc : 6 ≤ c ∧ c < 22) {j n : Nat} {x : Int32} : (cGW v j x n).2 c = v c := by
  show u2 (u2 (cGWL j x 3 0 0 v).2 (28 + 5 * j + 1) n 2) (28 + 5 * j) 3 x c = v c
  rw [s_u2 hc (by omega), s_u2 hc (by omega), s_gwl hc]
theorem s_grl (hc : 6 ≤ c ∧ c < 22) {j : Nat} {x : Int32} : ∀ (n i : Nat) (v : Vs), cGRL j x n i v c = v c := by
  intro n
  induction n with
  | zero => intro i v; rfl
  | succ n ih =>
    intro i v
    unfold cGRL
    split
    · exact ih _ _
    · split
      · rw [ih, s_u2 hc (by omega)]
      · exact ih _ _
theorem s_gr (hc : 6 ≤ c ∧ c < 22) {j n : Nat} {x : Int32} : cGR v j x n c = v c := by
  unfold cGR cGRE
  dsimp only
  split
  · split
    · rw [s_u2 hc (by omega), s_u2 hc (by omega), s_grl hc]
    · rw [s_u2 hc (by omega), s_grl hc]
  · split
    · rw [s_u2 hc (by omega), s_grl hc]
    · rw [s_grl hc]
theorem s_grE (hc : 6 ≤ c ∧ c < 22) {j n i : Nat} {x : Int32} : cGrE v j x n i c = v c := by
  unfold cGrE
  split
  · rw [s_join hc, s_use hc, s_u2 hc (by omega), s_gw hc]
  · rw [s_join hc, s_use hc, s_gr hc]
theorem s_grant (hc : 6 ≤ c ∧ c < 22) {j i : Nat} : cGrant v j i c = v c := by
  unfold cGrant
  split
  · rw [s_grE hc, s_room hc, s_u2 hc (by omega), s_u2 hc (by omega), s_u2 hc (by omega)]
  · rw [s_grE hc, s_u2 hc (by omega), s_u2 hc (by omega)]
theorem s_serveL (hc : 6 ≤ c ∧ c < 22) {j : Nat} : ∀ (n : Nat) (v : Vs), (cServeL j n v).2 c = v c := by
  intro n
  induction n with
  | zero => intro v; rfl
  | succ n ih =>
    intro v
    unfold cServeL
    dsimp only
    split
    · rw [ih, s_rem hc (by omega)]
    · show cGrant _ j _ c = v c
      rw [s_grant hc, s_rem hc (by omega)]
theorem s_serve (hc : 6 ≤ c ∧ c < 22) {x : Int32} : (mServe v x).2 c = v c := by
  unfold mServe
  split
  · exact s_serveL hc _ _
  · rfl
theorem s_migrate (hc : 6 ≤ c ∧ c < 22) {x y : Int32} : (mMigrate v x y).2 c = v c := by
  unfold mMigrate
  split
  · split
    · split
      · rfl
      · split
        · rfl
        · show cMove v (nn x) x y c = v c
          unfold cMove
          split
          · rw [s_join hc, s_u2 hc (by omega), s_u2 hc (by omega), s_u2 hc (by omega), s_rem hc (by omega)]
          · rw [s_u2 hc (by omega), s_u2 hc (by omega), s_u2 hc (by omega), s_rem hc (by omega)]
    · rfl
  · rfl
theorem s_findL (hc : 6 ≤ c ∧ c < 22) {q : Nat} : ∀ (n f t : Nat) (v : Vs), (cFindL q n f t v).2 c = v c := by
  intro n
  induction n with
  | zero => intro f t v; rfl
  | succ n ih =>
    intro f t v
    unfold cFindL
    split
    · rfl
    · rw [ih, s_u2 hc (by omega)]
theorem s_find (hc : 6 ≤ c ∧ c < 22) {x y : Int32} : (mFind v x y).2 c = v c := by
  unfold mFind
  split
  · split
    · exact s_findL hc _ _ _ _
    · rfl
  · rfl
theorem s_make (hc : 6 ≤ c ∧ c < 22) {np : Nat} {x y : Int32} : cMake v np x y c = v c := by
  unfold cMake cMk1
  rw [s_join hc, s_u2 hc (by omega), cNew_old (by omega)]
theorem s_spawn (hc : 6 ≤ c ∧ c < 22) {np : Nat} {x y : Int32} : (mSpawn np v x y).2.2 c = v c := by
  unfold mSpawn
  split
  · split
    · split
      · rfl
      · exact s_make hc
    · rfl
  · rfl
theorem s_perf (hc : 6 ≤ c ∧ c < 22) {np i a : Nat} {op y : Int32} : (cPerf np v i op a y).2 c = v c := by
  have k : ∀ (w : Vs) (z : Int32), w c = v c → u2 w (68 + 3 * i) 6 z c = v c := fun w z h => by rw [s_u2 hc (by omega)]; exact h
  have f : ∀ z, u2 v (68 + 3 * i + 1) a z c = v c := fun z => s_u2 hc (by omega)
  unfold cPerf
  by_cases e0 : op = 0
  · rw [if_pos e0]; exact k _ _ (f _)
  rw [if_neg e0]
  by_cases e1 : op = 1
  · rw [if_pos e1]; exact k _ _ (f _)
  rw [if_neg e1]
  by_cases e2 : op = 2
  · rw [if_pos e2]; exact k _ _ (s_acc hc)
  rw [if_neg e2]
  by_cases e3 : op = 3
  · rw [if_pos e3]; exact k _ _ (s_acc hc)
  rw [if_neg e3]
  by_cases e4 : op = 4
  · rw [if_pos e4]; exact k _ _ (s_acc hc)
  rw [if_neg e4]
  by_cases e5 : op = 5
  · rw [if_pos e5]
    split
    · exact k _ _ rfl
    · exact k _ _ rfl
  rw [if_neg e5]
  by_cases e6 : op = 6
  · rw [if_pos e6]
    split
    · exact k _ _ (f _)
    · exact k _ _ (by rw [s_u2 hc (by omega), s_make hc])
  rw [if_neg e6]
  by_cases e7 : op = 7
  · rw [if_pos e7]
    split
    · exact k _ _ (s_wait hc)
    · exact k _ _ (s_wait hc)
  rw [if_neg e7]
  by_cases e8 : op = 8
  · rw [if_pos e8]; exact k _ _ (s_kill hc)
  rw [if_neg e8]
  by_cases e9 : op = 9
  · rw [if_pos e9]; exact k _ _ (s_end hc)
  rw [if_neg e9]
  by_cases e10 : op = 10
  · rw [if_pos e10]; exact k _ _ (f _)
  rw [if_neg e10]
  by_cases e11 : op = 11
  · rw [if_pos e11]; exact k _ _ (f _)
  rw [if_neg e11]
  exact k _ _ rfl
theorem s_rest (hc : 6 ≤ c ∧ c < 22) {np i : Nat} {op a y : Int32} : (cRest np v i op a y).2 c = v c := by
  have h := s_perf (v := v) hc (np := np) (i := i) (a := nn a) (op := op) (y := y)
  unfold cRest
  generalize cPerf np v i op (nn a) y = z at h ⊢
  split
  · split
    · show cSpend z.2 i 1 c = v c
      rw [s_spend hc]; exact h
    · show cSpend z.2 i 0 c = v c
      rw [s_spend hc]; exact h
  · exact h
theorem s_run (hc : 6 ≤ c ∧ c < 22) {np i : Nat} : (cRun np v i).2 c = v c := by
  unfold cRun
  dsimp only
  split
  · split
    · split
      · split
        · exact s_rest hc
        · exact s_block hc
      · split
        · exact s_rest hc
        · exact s_block hc
    · exact s_rest hc
  · exact s_end hc
theorem s_step (hc : 6 ≤ c ∧ c < 22) {np : Nat} {x : Int32} : (mStep np v x).2.2 c = v c := by
  unfold mStep
  split
  · split
    · rfl
    · exact s_run hc
  · rfl
end ST
