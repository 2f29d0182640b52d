section SR
variable {b x np : Nat} {d : Int32} {v r : Vs}
theorem LOK.grow {np : Nat} {l : List Nat} {P P' : Nat → Prop} {key key' : Nat → Nat} (h : LOK np l P key) (hP : ∀ i, i < np → (P i ↔ P' i)) (hn : ¬ P' np) (hk : ∀ i, i < np → P i → key' i = key i) : LOK (np + 1) l P' key' := by
  have h := h.congr hP hk
  refine ⟨h.1, fun i => ?_⟩
  rw [h.2 i]
  constructor
  · rintro ⟨a, c⟩; exact ⟨by omega, c⟩
  · rintro ⟨a, c⟩
    refine ⟨?_, c⟩
    have : i ≠ np := fun e => hn (by rw [← e]; exact c)
    omega
/-- a process is made, not yet in view -/
def mMk6 (r : Vs) (p : Nat) (x y : Int32) : Vs := u2 (u2 (u2 (u2 (u2 (u2 r 0 14 (r 0 14 + 1)) 5 p x) 8 p y) 22 (8 * 0 + p) y) 22 (8 * 1 + p) y) 22 (8 * 2 + p) y
theorem Sim.mk1 (h : Sim b 8 d np v r) {a n : Nat} (h8 : np < 8) (ha : a < 4) (hn : n < 3) : Sim b np d (np + 1) (cMk1 v np (nI a) (nI n)) (mMk6 r np (nI a) (nI n)) := by
  have hz := h.zz np (Nat.le_refl _) h8
  have hm : v 0 5 = nI np := h.ok.made.1
  have hrm : r 0 14 = nI np := by rw [← h.D _ _ _ _ .made]; exact hm
  have oN : ∀ k, k ≠ 68 + 3 * np → k ≠ 68 + 3 * np + 1 → k ≠ 68 + 3 * np + 2 → cNew v np (v 0 5) (nI a) (nI n) k = v k := fun k q1 q2 q3 => by
    unfold cNew; rw [u1_oth q3, u1_oth q2, u1_oth q1]
  have oC : ∀ k, k ≠ 0 → k ≠ 68 + 3 * np → k ≠ 68 + 3 * np + 1 → k ≠ 68 + 3 * np + 2 → cMk1 v np (nI a) (nI n) k = v k := fun k q0 q1 q2 q3 => by
    unfold cMk1; rw [u2_oth q0, oN k q1 q2 q3]
  have z0 : ∀ j, j ≠ 5 → cMk1 v np (nI a) (nI n) 0 j = v 0 j := fun j hj => by
    unfold cMk1; rw [u2_n hj, oN 0 (by omega) (by omega) (by omega)]
  have z5 : cMk1 v np (nI a) (nI n) 0 5 = nI (np + 1) := by
    unfold cMk1; rw [u2_s, oN 0 (by omega) (by omega) (by omega)]; exact ni_add hm rfl
  have c0 : ∀ j, cMk1 v np (nI a) (nI n) (68 + 3 * np) j = if j = 0 then v 0 5 else if j = 1 then nI a else if j = 4 then nI n else 0 := fun j => by
    unfold cMk1 cNew; rw [u2_oth (by omega), u1_oth (by omega), u1_oth (by omega), u1_row]
  have c1 : ∀ j, cMk1 v np (nI a) (nI n) (68 + 3 * np + 1) j = 0 := fun j => by
    unfold cMk1 cNew; rw [u2_oth (by omega), u1_oth (by omega), u1_row]
  have c2 : ∀ j, j < 3 → cMk1 v np (nI a) (nI n) (68 + 3 * np + 2) j = nI n := fun j hj => by
    unfold cMk1 cNew; rw [u2_oth (by omega), u1_row]
    unfold upd
    rcases (show j = 0 ∨ j = 1 ∨ j = 2 by omega) with rfl | rfl | rfl <;> rfl
  have oR : ∀ k, k ≠ 0 → k ≠ 5 → k ≠ 8 → k ≠ 22 → mMk6 r np (nI a) (nI n) k = r k := fun k q0 q1 q2 q3 => by
    unfold mMk6; rw [u2_oth q3, u2_oth q3, u2_oth q3, u2_oth q2, u2_oth q1, u2_oth q0]
  have nR : ∀ k, k ≠ 0 → k ≠ 5 → k ≠ 8 → k ≠ 22 → ∀ q, nv (mMk6 r np (nI a) (nI n)) k q = nv r k q := fun k q0 q1 q2 q3 q => by unfold nv; rw [oR k q0 q1 q2 q3]
  have r0 : ∀ j, j ≠ 14 → mMk6 r np (nI a) (nI n) 0 j = r 0 j := fun j hj => by
    unfold mMk6; rw [u2_oth (by omega), u2_oth (by omega), u2_oth (by omega), u2_oth (by omega), u2_oth (by omega), u2_n hj]
  have r14 : mMk6 r np (nI a) (nI n) 0 14 = nI (np + 1) := by
    unfold mMk6; rw [u2_oth (by omega), u2_oth (by omega), u2_oth (by omega), u2_oth (by omega), u2_oth (by omega), u2_s]; exact ni_add hrm rfl
  have r5 : ∀ i, mMk6 r np (nI a) (nI n) 5 i = if i = np then nI a else r 5 i := fun i => by
    unfold mMk6; rw [u2_oth (by omega), u2_oth (by omega), u2_oth (by omega), u2_oth (by omega)]
    by_cases e : i = np
    · rw [if_pos e, e, u2_s]
    · rw [if_neg e, u2_n e, u2_oth (by omega)]
  have r8 : ∀ i, mMk6 r np (nI a) (nI n) 8 i = if i = np then nI n else r 8 i := fun i => by
    unfold mMk6; rw [u2_oth (by omega), u2_oth (by omega), u2_oth (by omega)]
    by_cases e : i = np
    · rw [if_pos e, e, u2_s]
    · rw [if_neg e, u2_n e, u2_oth (by omega), u2_oth (by omega)]
  have r22o : ∀ q, q % 8 ≠ np → mMk6 r np (nI a) (nI n) 22 q = r 22 q := fun q hq => by
    unfold mMk6; rw [u2_n (by omega), u2_n (by omega), u2_n (by omega), u2_oth (by omega), u2_oth (by omega), u2_oth (by omega)]
  have r22s : ∀ m, m < 3 → mMk6 r np (nI a) (nI n) 22 (8 * m + np) = nI n := fun m hm => by
    unfold mMk6
    rcases (show m = 0 ∨ m = 1 ∨ m = 2 by omega) with rfl | rfl | rfl
    · rw [u2_n (by omega), u2_n (by omega), u2_s]
    · rw [u2_n (by omega), u2_s]
    · rw [u2_s]
  have hokM : OkM (mMk6 r np (nI a) (nI n)) := by
    unfold mMk6
    have hy : okLt 3 (nI n) := ⟨n, hn, rfl⟩
    refine ((((((h.okM.set (fun _ _ => ⟨np + 1, by omega, ni_add hrm rfl⟩) (fun q => by omega) (fun q => by omega) (fun q => by omega) (fun q => by omega) (by omega)).pr ⟨a, ha, rfl⟩).pl hy).hi hy).hi hy).hi hy)
  have n6 : nv (cMk1 v np (nI a) (nI n)) 0 6 = nv v 0 6 := by unfold nv; rw [z0 6 (by omega)]
  have nU : ∀ j, j < 8 → ∀ m, nv (cMk1 v np (nI a) (nI n)) (28 + 5 * j + 2) m = nv v (28 + 5 * j + 2) m := fun j hj m => by unfold nv; rw [oC _ (by omega) (by omega) (by omega) (by omega)]
  have n23 : nv (mMk6 r np (nI a) (nI n)) 0 23 = nv r 0 23 := by unfold nv; rw [r0 23 (by omega)]
  refine Sim.intro ⟨h.ok.mk1 h8 ⟨a, ha, rfl⟩ ⟨n, hn, rfl⟩, hokM, fun k j k' j' H => ?_, ?_, fun m hm' => ?_, fun J hJ => ?_, ?_, ?_, ?_, ?_, ?_, ?_, ?_, ?_, ?_, ?_, ?_, ?_, ?_, ?_, h.hB⟩
  · refine Mp.cs (M := fun k j k' j' => cMk1 v np (nI a) (nI n) k j = mMk6 r np (nI a) (nI n) k' j') ?_ ?_ ?_ ?_ ?_ ?_ ?_ ?_ ?_ ?_ ?_ ?_ ?_ ?_ ?_ ?_ ?_ H <;> (try dsimp only)
    · rw [z5, r14]
    · rw [z0 7 (by omega), r0 24 (by omega)]; exact h.D _ _ _ _ .msg
    · rw [z0 8 (by omega), r0 25 (by omega)]; exact h.D _ _ _ _ .flt
    · rw [z0 9 (by omega), r0 26 (by omega)]; exact h.D _ _ _ _ .giv
    · intro w9 hw
      rw [oC _ (by omega) (by omega) (by omega) (by omega), oR _ (by omega) (by omega) (by omega) (by omega)]; exact h.D _ _ _ _ (.mem hw)
    · intro i9 hw
      rw [oC _ (by omega) (by omega) (by omega) (by omega), oR _ (by omega) (by omega) (by omega) (by omega)]; exact h.D _ _ _ _ (.psz hw)
    · intro i9 o9 t9 q1 q2 q3 q4
      rw [oC _ (by omega) (by omega) (by omega) (by omega), oR _ (by omega) (by omega) (by omega) (by omega)]; exact h.D _ _ _ _ (.pin q1 q2 q3 q4)
    · intro j9 hw
      rw [oC _ (by omega) (by omega) (by omega) (by omega), oR _ (by omega) (by omega) (by omega) (by omega)]; exact h.D _ _ _ _ (.own hw)
    · intro j9 n9 q1 q2
      rw [oC _ (by omega) (by omega) (by omega) (by omega), oR _ (by omega) (by omega) (by omega) (by omega)]; exact h.D _ _ _ _ (.rt q1 q2)
    · intro i9 hi
      rw [r5]
      by_cases e : i9 = np
      · subst e; rw [if_pos rfl, c0]; rfl
      · rw [if_neg e, oC _ (by omega) (by omega) (by omega) (by omega)]; exact h.D _ _ _ _ (.prog (by omega))
    · intro i9 hi
      rw [r8]
      by_cases e : i9 = np
      · subst e; rw [if_pos rfl, c0]; rfl
      · rw [if_neg e, oC _ (by omega) (by omega) (by omega) (by omega)]; exact h.D _ _ _ _ (.place (by omega))
    · intro i9 hi
      rw [oR 9 (by omega) (by omega) (by omega) (by omega)]
      by_cases e : i9 = np
      · subst e; rw [c0, hz.2.2.2.2.1]; rfl
      · rw [oC _ (by omega) (by omega) (by omega) (by omega)]; exact h.D _ _ _ _ (.state (by omega))
    · intro i9 hi
      rw [oR 7 (by omega) (by omega) (by omega) (by omega)]
      by_cases e : i9 = np
      · subst e; rw [c0, hz.2.1]; rfl
      · rw [oC _ (by omega) (by omega) (by omega) (by omega)]; exact h.D _ _ _ _ (.ctr (by omega))
    · intro i9 hi
      rw [oR 11 (by omega) (by omega) (by omega) (by omega)]
      by_cases e : i9 = np
      · subst e; rw [c0, hz.2.2.2.2.2]; rfl
      · rw [oC _ (by omega) (by omega) (by omega) (by omega)]; exact h.D _ _ _ _ (.slice (by omega))
    · intro i9 hi
      rw [oR 12 (by omega) (by omega) (by omega) (by omega)]
      by_cases e : i9 = np
      · subst e; rw [c0, hz.2.2.1]; rfl
      · rw [oC _ (by omega) (by omega) (by omega) (by omega)]; exact h.D _ _ _ _ (.code (by omega))
    · intro i9 a9 hi hc
      rw [oR 6 (by omega) (by omega) (by omega) (by omega)]
      by_cases e : i9 = np
      · subst e; rw [c1, hz.1 a9 hc]
      · rw [oC _ (by omega) (by omega) (by omega) (by omega)]; exact h.D _ _ _ _ (.reg (by omega) hc)
    · intro i9 n9 hi hi8 hm'
      by_cases e : i9 = np
      · subst e; rw [c2 _ hm', r22s _ hm']
      · rw [oC _ (by omega) (by omega) (by omega) (by omega), r22o _ (by omega)]; exact h.D _ _ _ _ (.hint (by omega) hi8 hm')
  · rw [z0 10 (by omega), r0 27 (by omega)]; exact h.gr
  · rw [ln_congr (v := v) (by rw [oC _ (by omega) (by omega) (by omega) (by omega)]) (oC _ (by omega) (by omega) (by omega) (by omega)), oR 9 (by omega) (by omega) (by omega) (by omega)]
    refine (h.nd m hm').grow (fun i hi => ?_) (fun q => q.1 rfl) (fun i _ _ => nR 10 (by omega) (by omega) (by omega) (by omega) i)
    rw [r8, if_neg (by omega)]
    constructor
    · rintro ⟨-, q⟩; exact ⟨by omega, q⟩
    · rintro ⟨-, q⟩; exact ⟨by omega, q⟩
  · rw [ln_congr (v := v) (by rw [oC _ (by omega) (by omega) (by omega) (by omega)]) (oC _ (by omega) (by omega) (by omega) (by omega)), oR 15 (by omega) (by omega) (by omega) (by omega), oR 16 (by omega) (by omega) (by omega) (by omega)]
    exact (h.rq J hJ).grow (fun i hi => Iff.rfl) (fun q => q.1 hz.2.2.2.1) (fun i _ _ => nR 15 (by omega) (by omega) (by omega) (by omega) i)
  · rw [n23, r0 23 (by omega)]; exact h.tm
  · intro q hq; rw [nR 10 (by omega) (by omega) (by omega) (by omega), n23, oR 10 (by omega) (by omega) (by omega) (by omega)]; exact h.t10 q hq
  · intro q hq; rw [nR 15 (by omega) (by omega) (by omega) (by omega), n23, oR 15 (by omega) (by omega) (by omega) (by omega)]; exact h.t15 q hq
  · intro q hq; rw [nR 20 (by omega) (by omega) (by omega) (by omega), n23, oR 20 (by omega) (by omega) (by omega) (by omega)]; exact h.t20 q hq
  · rw [n6, z0 6 (by omega)]; exact h.us
  · intro m hm' j hj; rw [nU j hj, n6, oC _ (by omega) (by omega) (by omega) (by omega)]; exact h.uv m hm' j hj
  · intro m hm' j hj j' hj'; rw [nU j hj, nU j' hj', nR 20 (by omega) (by omega) (by omega) (by omega), nR 20 (by omega) (by omega) (by omega) (by omega)]; exact h.uo m hm' j hj j' hj'
  · intro i hi hx; rw [oR 14 (by omega) (by omega) (by omega) (by omega), oC _ (by omega) (by omega) (by omega) (by omega)]; exact h.pg i (by omega) (by omega)
  · intro i hi hx; rw [oR 13 (by omega) (by omega) (by omega) (by omega), oC _ (by omega) (by omega) (by omega) (by omega)]; exact h.aw i (by omega) (by omega)
  · intro i hi hx; rw [oR 15 (by omega) (by omega) (by omega) (by omega), oR 17 (by omega) (by omega) (by omega) (by omega), oC _ (by omega) (by omega) (by omega) (by omega)]; exact h.wr i (by omega) (by omega)
  · intro i hi hx; rw [oR 15 (by omega) (by omega) (by omega) (by omega), oR 9 (by omega) (by omega) (by omega) (by omega)]; exact h.rs i (by omega) (by omega)
  · intro i hi h8'; rw [oR 6 (by omega) (by omega) (by omega) (by omega), oR 7 (by omega) (by omega) (by omega) (by omega), oR 12 (by omega) (by omega) (by omega) (by omega), oR 15 (by omega) (by omega) (by omega) (by omega), oR 9 (by omega) (by omega) (by omega) (by omega), oR 11 (by omega) (by omega) (by omega) (by omega)]; exact h.zz i (by omega) h8'
  · intro j hj m hm'; rw [oC _ (by omega) (by omega) (by omega) (by omega)]; exact h.rv j hj m hm'
  · intro i hi q
    rw [oR 15 (by omega) (by omega) (by omega) (by omega)] at q
    rw [oR 16 (by omega) (by omega) (by omega) (by omega)]
    refine h.rx i ?_ q
    have : i ≠ np := fun e => q (by rw [e]; exact hz.2.2.2.1)
    omega
theorem Sim.make (h : Sim b 8 d np v r) {a n : Nat} (h8 : np < 8) (ha : a < 4) (hn : n < 3) (hb : b + 1 < 2 ^ 30) : Sim (b + 1) 8 d (np + 1) (cMake v np (nI a) (nI n)) (mMk0 r (nI a) (nI n)) := by
  have h1 := h.mk1 h8 ha hn
  have e : mMk0 r (nI a) (nI n) = mRdy (mMk6 r np (nI a) (nI n)) np := by
    unfold mMk0 mMk6
    rw [h.made]
  rw [e]
  unfold cMake
  refine h1.join (by omega) ?_ hb
  unfold mMk6
  rw [u2_oth (by omega), u2_oth (by omega), u2_oth (by omega), u2_oth (by omega), u2_oth (by omega), u2_oth (by omega)]
  exact (h.zz np (Nat.le_refl _) h8).2.2.2.1
/-- each that waits for one that has ended becomes ready -/
theorem Sim.wk {i : Nat} (hi : i < np) : ∀ (k j b : Nat) (v r : Vs), j + k = np → b + k < 2 ^ 30 → Sim b 8 d np v r → Sim (b + k) 8 d np (cWk i k j v) (mEndL (nI i) k j r) := by
  intro k
  induction k with
  | zero => intro j b v r _ _ h; exact h
  | succ k ih =>
    intro j b v r hj hb h
    simp only [cWk, mEndL]
    have hst := h.st (i := j) (by omega)
    have hle := h.le
    by_cases c : r 9 j = 3
    · have c' : v (68 + 3 * j) 5 = 3 := by rw [hst]; exact c
      have ha := h.aw j (by omega) (by omega) c'
      rw [if_pos c, if_pos c', ha, h.number hi]
      by_cases c2 : r 13 j = nI i
      · rw [if_pos c2, if_pos c2]
        have h15 : r 15 j = 0 := by
          by_cases q : r 15 j = 0
          · exact q
          · rcases h.rs j (by omega) (by omega) q with e | e <;> rw [c] at e <;> exact absurd e (by decide)
        have h1 := (h.hide (i := j) (by rw [c]; decide)).join (by omega) h15 (by omega)
        have := ih (j + 1) (b + 1) _ _ (by omega) (by omega) h1
        rw [show b + (k + 1) = b + 1 + k by omega]
        exact this
      · rw [if_neg c2, if_neg c2]
        exact (ih (j + 1) b _ _ (by omega) (by omega) h).wide (by omega) hb
    · have c' : ¬ v (68 + 3 * j) 5 = 3 := by rw [hst]; exact c
      rw [if_neg c, if_neg c']
      exact (ih (j + 1) b _ _ (by omega) (by omega) h).wide (by omega) hb
/-- one ends -/
theorem Sim.end (h : Sim b 8 d np v r) {i : Nat} {y : Int32} (hi : i < np) (hb : b + 8 < 2 ^ 30) : Sim (b + 8) 8 d np (cEnd np v i y) (mEnd r (nI i) i y) := by
  have hle := h.le
  have h1 := h.rem hi
  have h2 := h1.up (z := 4) (.state hi) (h1.ok.fr (by omega)) (h1.okM.fr (by omega)) (fun _ => rfl) (fun q => by omega)
  have h3 := h2.up (z := y) (.code hi) (h2.ok.fr (by omega)) (h2.okM.fr (by omega)) (fun q => by omega) (fun q => by omega)
  have h4 := h3.upr (o := 14) (z := 8) (by omega)
  have eo : ∀ o, cRem v (22 + 2 * nv v (68 + 3 * i) 4) (v (68 + 3 * i) 0) (68 + 3 * i) o = v (68 + 3 * i) o := fun o => by
    have := (h.pln hi)
    rw [cRem_oth (by omega)]
  have h5 : Sim b 8 d np _ _ := h4.show (by rw [u2_oth (by omega), u2_oth (by omega), u2_s]; decide)
    (fun _ => by rw [u2_s, u2_a (by omega), u2_s]; rfl)
    (fun _ q => by rw [u2_a (by omega), u2_s] at q; exact absurd q (by decide))
    (fun _ q => by
      rw [u2_oth (by omega), u2_oth (by omega), u2_oth (by omega)] at q
      rw [u2_oth (by omega), u2_oth (by omega), u2_oth (by omega), u2_a (by omega), u2_a (by omega), eo]
      exact h.wr i hi (by omega) q)
    (fun _ _ => by rw [u2_oth (by omega), u2_oth (by omega), u2_s]; exact Or.inr rfl)
  unfold cEnd mEnd cLeave
  rw [h.made]
  have := Sim.wk hi np 0 b _ _ (by omega) (by omega) h5
  exact this.wide (by omega) hb
/-- one goes to the end of its line -/
theorem Sim.again (h : Sim b 8 d np v r) {i : Nat} (hi : i < np) (hs : r 9 i = 1) (hb : b + 1 < 2 ^ 30) : Sim (b + 1) 8 d np (cAgain v i) (mRdy r i) := by
  have hle := h.le
  have h15 : r 15 i = 0 := by
    by_cases q : r 15 i = 0
    · exact q
    · rcases h.rs i hi (by omega) q with e | e <;> rw [hs] at e <;> exact absurd e (by decide)
  exact (h.rem hi).join hi h15 hb
end SR
