section SV
variable {b x np : Nat} {d : Int32} {v r : Vs}
theorem Sim.sl (h : Sim b 8 d np v r) {i : Nat} (op : Int32) (hi : i < np) (hs : r 9 i = 1) (hb : b + 1 < 2 ^ 30) : Sim (b + 1) 8 d np (if op = 12 then cSpend v i 1 else cSpend v i 0) (mSl r (nI i) i op).2 ∧ (mSl r (nI i) i op).1 = nI i ∧ (mSl r (nI i) i op).2 9 i = 1 := by
  have hsl : v (68 + 3 * i) 7 = r 11 i := h.D _ _ _ _ (.slice hi)
  have h1 := h.up (z := r 11 i + 1) (.slice hi) (h.ok.fr (by omega)) (h.okM.fr (by omega)) (fun q => by omega) (fun q => by omega)
  have hs1 : u2 r 11 i (r 11 i + 1) 9 i = 1 := by rw [u2_oth (by omega)]; exact hs
  have h2 := h1.again hi hs1 hb
  have n4 : ¬ r 9 i = 4 := by rw [hs]; decide
  have n1 : ¬ (1 : Int32) = 0 := by decide
  have n0 : (0 : Int32) = 0 := rfl
  unfold mSl cSpend
  rw [if_neg n4]
  try dsimp only
  rw [hsl]
  by_cases c : op = 12
  · rw [if_pos c, if_pos c, if_neg n1]
    exact ⟨h2, rfl, mRdy_9s⟩
  · rw [if_neg c, if_neg c, if_pos n0, u2_s, u2_s]
    by_cases c3 : r 11 i + 1 = 3
    · rw [if_pos c3, if_pos c3]
      exact ⟨h2, rfl, mRdy_9s⟩
    · rw [if_neg c3, if_neg c3]
      exact ⟨h1.wide (by omega) hb, rfl, hs1⟩
theorem op24 (op : Int32) : (¬ op < 2 ∧ op ≤ 4) ↔ (op = 2 ∨ op = 3 ∨ op = 4) := by
  constructor
  · rintro ⟨h1, h2⟩
    rw [Int32.lt_iff_toInt_lt] at h1
    rw [Int32.le_iff_toInt_le] at h2
    have e2 : (2 : Int32).toInt = 2 := by decide
    have e4 : (4 : Int32).toInt = 4 := by decide
    rw [e2] at h1
    rw [e4] at h2
    rcases (show op.toInt = 2 ∨ op.toInt = 3 ∨ op.toInt = 4 by omega) with e | e | e
    · exact Or.inl (Int32.toInt_inj.mp e)
    · exact Or.inr (Or.inl (Int32.toInt_inj.mp e))
    · exact Or.inr (Or.inr (Int32.toInt_inj.mp e))
  · rintro (e | e | e) <;> subst e <;> decide
/-- what the reference does when the instruction is there and is no fault -/
theorem mRun_do {i : Nat} (h7 : r 7 i < r 4 (nv r 5 i)) (hf : ¬ fltP r i (r 1 (12 * nv r 5 i + nv r 7 i)) (bl (r 6 (4 * i + bl (r 3 (12 * nv r 5 i + nv r 7 i)) 3)) 31)) :
    mRun r (nI i) i = if wtP r (nI i) (r 1 (12 * nv r 5 i + nv r 7 i)) (4 * i + nv r 2 (12 * nv r 5 i + nv r 7 i)) then (20 + nI i, mPc r i (nv r 2 (12 * nv r 5 i + nv r 7 i)) (r 1 (12 * nv r 5 i + nv r 7 i)) (r 3 (12 * nv r 5 i + nv r 7 i))) else mSl (mPc r i (nv r 2 (12 * nv r 5 i + nv r 7 i)) (r 1 (12 * nv r 5 i + nv r 7 i)) (r 3 (12 * nv r 5 i + nv r 7 i))) (nI i) i (r 1 (12 * nv r 5 i + nv r 7 i)) := by
  unfold mRun
  rw [if_pos h7]
  try dsimp only
  rw [if_neg hf]
  generalize 12 * nv r 5 i + nv r 7 i = t
  generalize nv r 2 t = a
  unfold mAft mPc
  by_cases w : wtP r (nI i) (r 1 t) (4 * i + a)
  · have c5 : ¬ r 1 t = 5 := by rw [w.1]; decide
    rw [if_neg c5, if_neg (fun q => q w), if_pos w, if_pos w]
  · rw [if_neg w, if_neg w]
    have e7 : mPrf r (nI i) i (r 1 t) (4 * i + a) (4 * i + bl (r 3 t) 3) (r 3 t) 7 = r 7 := mPrf_st (Or.inr rfl)
    have e3 : mPrf r (nI i) i (r 1 t) (4 * i + a) (4 * i + bl (r 3 t) 3) (r 3 t) 3 = r 3 := mPrf_st (Or.inl (by omega))
    have n0 : (0 : Int32) = 0 := rfl
    have n1 : ¬ (1 : Int32) = 0 := by decide
    by_cases c5 : r 1 t = 5
    · by_cases c0 : r 6 (4 * i + a) = 0
      · have nj : ¬ (r 1 t = 5 ∧ ¬ r 6 (4 * i + a) = 0) := fun q => q.2 c0
        rw [if_pos c5, if_pos c0, if_pos w, if_pos n0, if_neg nj, e7]
      · have nj : r 1 t = 5 ∧ ¬ r 6 (4 * i + a) = 0 := ⟨c5, c0⟩
        rw [if_pos c5, if_neg c0, if_pos w, if_neg n1, if_pos nj, e3]
    · have nj : ¬ (r 1 t = 5 ∧ ¬ r 6 (4 * i + a) = 0) := fun q => c5 q.1
      rw [if_neg c5, if_pos w, if_pos n0, if_neg nj, e7]
set_option maxHeartbeats 1000000 in
theorem Sim.run (h : Sim b 8 d np v r) {i : Nat} (hi : i < np) (hs : r 9 i = 1) (hb : b + 10 < 2 ^ 30) :
    Sim (b + 10) 8 d (cRun np v i).1 (cRun np v i).2 (mRun r (nI i) i).2 ∧ (mRun r (nI i) i).1 = 10 * ((mRun r (nI i) i).2 9 i - 1) + nI i ∧ i < (cRun np v i).1 := by
  have hle := h.le
  have hpg : v (68 + 3 * i) 1 = r 5 i := h.D _ _ _ _ (.prog hi)
  have hct : v (68 + 3 * i) 6 = r 7 i := h.D _ _ _ _ (.ctr hi)
  have npg : nv v (68 + 3 * i) 1 = nv r 5 i := by unfold nv; rw [hpg]
  have nct : nv v (68 + 3 * i) 6 = nv r 7 i := by unfold nv; rw [hct]
  have hp4 := (h.okM.c5 i).2
  have hsz : v (6 + 4 * nv r 5 i) 3 = r 4 (nv r 5 i) := h.D _ _ _ _ (.psz hp4)
  unfold cRun
  try dsimp only
  by_cases c : r 7 i < r 4 (nv r 5 i)
  · have c' : v (68 + 3 * i) 6 < v (6 + 4 * nv v (68 + 3 * i) 1) 3 := by rw [npg, hsz, hct]; exact c
    obtain ⟨k1, k2, k3, k4, k5⟩ := h.ok.ins hi c'
    rw [if_pos c']
    rw [npg, nct] at k2 k3 k4 k5 ⊢
    rw [nct] at k1
    have pin : ∀ o, 1 ≤ o → o ≤ 3 → v (6 + 4 * nv r 5 i + o) (nv r 7 i) = r o (12 * nv r 5 i + nv r 7 i) := fun o q1 q2 => h.D _ _ _ _ (.pin hp4 q1 q2 k1)
    rw [pin 1 (by omega) (by omega)] at k2 k4 k5 ⊢
    rw [pin 2 (by omega) (by omega)] at k3 ⊢
    rw [pin 3 (by omega) (by omega)] at k4 k5 ⊢
    obtain ⟨a, ha, ea⟩ := k3
    have na : nv r 2 (12 * nv r 5 i + nv r 7 i) = a := nv_of ea (by omega)
    have nna : nn (r 2 (12 * nv r 5 i + nv r 7 i)) = a := na
    have hD := fun hf => mRun_do (r := r) (i := i) c hf
    have hE : ∀ hf : fltP r i (r 1 (12 * nv r 5 i + nv r 7 i)) (bl (r 6 (4 * i + bl (r 3 (12 * nv r 5 i + nv r 7 i)) 3)) 31), mRun r (nI i) i = (10 + nI i, mFl0 r i (r 1 (12 * nv r 5 i + nv r 7 i)) (r 6 (4 * i + bl (r 3 (12 * nv r 5 i + nv r 7 i)) 3) &&& 31)) := fun hf => by
      unfold mRun
      rw [if_pos c]
      try dsimp only
      rw [if_pos hf]
      unfold mFault
      rw [if_pos hf]
    rw [na] at hD
    have hpf := fun op y => h.perf (i := i) (a := a) (op := op) (y := y) hi hs ha k1
    generalize r 1 (12 * nv r 5 i + nv r 7 i) = op at *
    generalize r 3 (12 * nv r 5 i + nv r 7 i) = y at *
    -- done: perform, then the slice
    have done : ¬ fltP r i op (bl (r 6 (4 * i + bl y 3)) 31) → Sim (b + 10) 8 d (cRest np v i op (r 2 (12 * nv r 5 i + nv r 7 i)) y).1 (cRest np v i op (r 2 (12 * nv r 5 i + nv r 7 i)) y).2 (mRun r (nI i) i).2 ∧ (mRun r (nI i) i).1 = 10 * ((mRun r (nI i) i).2 9 i - 1) + nI i ∧ i < (cRest np v i op (r 2 (12 * nv r 5 i + nv r 7 i)) y).1 := by
      intro hf
      rw [hD hf]
      obtain ⟨p1, p2, p3, p4⟩ := hpf op y k4 k5 (by omega)
      unfold cRest
      rw [nna]
      have est := p1.st p4
      by_cases w : wtP r (nI i) op (4 * i + a)
      · rw [if_pos w]
        have e9 := p2 w
        rw [if_neg (by rw [est, e9]; decide)]
        try dsimp only
        rw [e9]
        exact ⟨p1.wide (by omega) hb, rfl, p4⟩
      · rw [if_neg w]
        obtain ⟨p5, p6⟩ := p3 w
        by_cases c9 : op = 9
        · have e9 := p5 c9
          rw [if_neg (by rw [est, e9]; decide)]
          unfold mSl
          rw [if_pos e9]
          try dsimp only
          rw [e9]
          exact ⟨p1.wide (by omega) hb, rfl, p4⟩
        · have e9 := p6 c9
          rw [if_pos (by rw [est, e9])]
          have hsl := p1.sl op p4 e9 (by omega)
          obtain ⟨s1, s2, s3⟩ := hsl
          by_cases c12 : op = 12
          · rw [if_pos c12] at s1 ⊢
            try dsimp only
            rw [s2, s3]
            refine ⟨s1, ?_, p4⟩
            rw [show (10 : Int32) * (1 - 1) = 0 from by decide, Int32.zero_add]
          · rw [if_neg c12] at s1 ⊢
            try dsimp only
            rw [s2, s3]
            refine ⟨s1, ?_, p4⟩
            rw [show (10 : Int32) * (1 - 1) = 0 from by decide, Int32.zero_add]
    by_cases cm : op = 2 ∨ op = 3 ∨ op = 4
    · rw [if_pos cm]
      have hne : op ≠ 0 ∧ op ≠ 5 := by rcases cm with e | e | e <;> rw [e] <;> decide
      obtain ⟨t, ht, et⟩ := k4 hne.1 hne.2
      have eb : bl y 3 = t := by rw [et]; exact bl3 ht
      have en : nn y = t := by rw [et]; exact nn_nI (by omega)
      rw [en, h.rg hi ht]
      rw [eb] at done hE
      have hw := bl_lt (r 6 (4 * i + t)) 31
      have ha31 := ni_and31 (r 6 (4 * i + t))
      have hfm := fmod32 (r 6 (4 * i + t))
      generalize hz : r 6 (4 * i + t) = z at *
      obtain ⟨q1, q2, q3⟩ := h.pln hi
      have hrt : v (28 + 5 * (bl z 31 / 4) + 1) (nv r 8 i) = mRt r i (bl z 31) := h.D _ _ _ _ (.rt (by omega) q2)
      have hrv := h.rv (bl z 31 / 4) (by omega) (nv r 8 i) q2
      rw [q1, hrt]
      rw [hrt] at hrv
      have hdiv : nI (bl z 31) / 4 = nI (bl z 31 / 4) := ni_div (a := bl z 31) (d := 4) rfl rfl (by omega) (by decide) (by decide)
      have blk : ∀ w : Int32, ((op = 2 ∧ w = 1) ∨ (¬ op = 2 ∧ w = 2)) → fltP r i op (bl z 31) → Sim (b + 10) 8 d np (cBlock v i (fmod z 32 / 4) (bl z 31 / 4) w) (mRun r (nI i) i).2 ∧ (mRun r (nI i) i).1 = 10 * ((mRun r (nI i) i).2 9 i - 1) + nI i ∧ i < np := by
        intro w hw' hf
        rw [hE hf, hfm, hdiv]
        have hB := h.block (op := op) (y := w) (y' := z &&& 31) hi (j := bl z 31 / 4) (by omega) hs hw' (by rw [ha31]; exact hdiv) (by omega)
        refine ⟨hB.wide (by omega) hb, ?_, hi⟩
        have e9 : mFl0 r i op (z &&& 31) 9 i = 2 := by
          rw [fl0_eq, u2_oth (by omega), u2_oth (by omega), u2_oth (by omega), u2_oth (by omega), tick_oth (by omega), u2_oth (by omega), u2_s]
        show 10 + nI i = 10 * (mFl0 r i op (z &&& 31) 9 i - 1) + nI i
        rw [e9]
        rfl
      by_cases c2 : op = 2
      · rw [if_pos c2]
        by_cases cr : (1 : Int32) ≤ mRt r i (bl z 31)
        · rw [if_pos cr]
          refine done (fun q => ?_)
          rcases hrv with e | e | e
          · rw [e] at cr; exact absurd cr (by decide)
          · exact q.2.2 ⟨e, c2⟩
          · exact q.2.1 e
        · rw [if_neg cr]
          refine blk 1 (Or.inl ⟨c2, rfl⟩) ⟨(op24 op).mpr cm, fun e => cr (by rw [e]; decide), fun e => cr (by rw [e.1]; decide)⟩
      · rw [if_neg c2]
        by_cases cr : (2 : Int32) ≤ mRt r i (bl z 31)
        · rw [if_pos cr]
          refine done (fun q => ?_)
          rcases hrv with e | e | e
          · rw [e] at cr; exact absurd cr (by decide)
          · rw [e] at cr; exact absurd cr (by decide)
          · exact q.2.1 e
        · rw [if_neg cr]
          exact blk 2 (Or.inr ⟨c2, rfl⟩) ⟨(op24 op).mpr cm, fun e => cr (by rw [e]; decide), fun e => c2 e.2⟩
    · rw [if_neg cm]
      exact done (fun q => cm ((op24 op).mp q.1))
  · have c' : ¬ v (68 + 3 * i) 6 < v (6 + 4 * nv v (68 + 3 * i) 1) 3 := by rw [npg, hsz, hct]; exact c
    rw [if_neg c']
    have e : mRun r (nI i) i = (30 + nI i, mEnd r (nI i) i 0) := by
      unfold mRun; rw [if_neg c]
    rw [e]
    refine ⟨(h.end hi (by omega)).wide (by omega) hb, ?_, hi⟩
    show 30 + nI i = 10 * (mEnd r (nI i) i 0 9 i - 1) + nI i
    rw [mEnd_9s]
    rfl
end SV
