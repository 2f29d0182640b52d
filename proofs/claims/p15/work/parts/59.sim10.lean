section SU
variable {b x np : Nat} {d : Int32} {v r : Vs}
/-- what the reference has behind an instruction that was done, its counter moved -/
def mPc (r : Vs) (i a : Nat) (op y : Int32) : Vs := if wtP r (nI i) op (4 * i + a) then mPrf r (nI i) i op (4 * i + a) (4 * i + bl y 3) y else u2 (mPrf r (nI i) i op (4 * i + a) (4 * i + bl y 3) y) 7 i (if op = 5 ∧ ¬ r 6 (4 * i + a) = 0 then y else r 7 i + 1)
theorem bl3 {n : Nat} (h : n < 4) : bl (nI n) 3 = n := by
  have := ni_and3 (nI n)
  rcases (show n = 0 ∨ n = 1 ∨ n = 2 ∨ n = 3 by omega) with rfl | rfl | rfl | rfl <;> decide
set_option maxHeartbeats 1000000 in
theorem Sim.perf (h : Sim b 8 d np v r) {i a : Nat} {op y : Int32} (hi : i < np) (hs : r 9 i = 1) (ha : a < 4) (hct : nv r 7 i < 12) (h4 : op ≠ 0 → op ≠ 5 → okLt 4 y) (h5 : op = 5 → okLt 12 y) (hb : b + 9 < 2 ^ 30) :
    Sim (b + 9) 8 d (cPerf np v i op a y).1 (cPerf np v i op a y).2 (mPc r i a op y) ∧ (wtP r (nI i) op (4 * i + a) → mPc r i a op y 9 i = 3) ∧ (¬ wtP r (nI i) op (4 * i + a) → (op = 9 → mPc r i a op y 9 i = 4) ∧ (op ≠ 9 → mPc r i a op y 9 i = 1)) ∧ i < (cPerf np v i op a y).1 := by
  have hle := h.le
  have hb1 : b + 9 < 2 ^ 30 := hb
  have hw := h.wide (b' := b + 9) (by omega) hb
  have hra := h.rg hi ha
  have hrc : v (68 + 3 * i) 6 = r 7 i := h.D _ _ _ _ (.ctr hi)
  have hz : okLt 13 (r 7 i + 1) := ⟨nv r 7 i + 1, by omega, ni_add (h.okM.c7 i).1 rfl⟩
  have hpl := h.pl hi
  have hnum := h.number hi
  unfold mPc
  -- an instruction other than WAIT and JUMP: its doing, then the counter
  have fin : ∀ (np' : Nat) (v' r' : Vs), ¬ op = 7 → ¬ op = 5 → i < np' → Sim (b + 9) 8 d np' v' r' → ((op = 9 → r' 9 i = 4) ∧ (op ≠ 9 → r' 9 i = 1)) → mPrf r (nI i) i op (4 * i + a) (4 * i + bl y 3) y = r' → cPerf np v i op a y = (np', u2 v' (68 + 3 * i) 6 (v (68 + 3 * i) 6 + 1)) →
      Sim (b + 9) 8 d (cPerf np v i op a y).1 (cPerf np v i op a y).2 (if wtP r (nI i) op (4 * i + a) then mPrf r (nI i) i op (4 * i + a) (4 * i + bl y 3) y else u2 (mPrf r (nI i) i op (4 * i + a) (4 * i + bl y 3) y) 7 i (if op = 5 ∧ ¬ r 6 (4 * i + a) = 0 then y else r 7 i + 1)) ∧ (wtP r (nI i) op (4 * i + a) → (if wtP r (nI i) op (4 * i + a) then mPrf r (nI i) i op (4 * i + a) (4 * i + bl y 3) y else u2 (mPrf r (nI i) i op (4 * i + a) (4 * i + bl y 3) y) 7 i (if op = 5 ∧ ¬ r 6 (4 * i + a) = 0 then y else r 7 i + 1)) 9 i = 3) ∧ (¬ wtP r (nI i) op (4 * i + a) → (op = 9 → (if wtP r (nI i) op (4 * i + a) then mPrf r (nI i) i op (4 * i + a) (4 * i + bl y 3) y else u2 (mPrf r (nI i) i op (4 * i + a) (4 * i + bl y 3) y) 7 i (if op = 5 ∧ ¬ r 6 (4 * i + a) = 0 then y else r 7 i + 1)) 9 i = 4) ∧ (op ≠ 9 → (if wtP r (nI i) op (4 * i + a) then mPrf r (nI i) i op (4 * i + a) (4 * i + bl y 3) y else u2 (mPrf r (nI i) i op (4 * i + a) (4 * i + bl y 3) y) 7 i (if op = 5 ∧ ¬ r 6 (4 * i + a) = 0 then y else r 7 i + 1)) 9 i = 1)) ∧ i < (cPerf np v i op a y).1 := by
    intro np' v' r' c7 c5 hi' hS h9 e1 e2
    have nw : ¬ wtP r (nI i) op (4 * i + a) := fun q => c7 q.1
    rw [if_neg nw, if_neg (fun q => c5 q.1), e1, e2, hrc]
    refine ⟨hS.setc hi' hz, fun q => absurd q nw, fun _ => ?_, hi'⟩
    rw [u2_oth (by omega)]
    exact h9
  by_cases c0 : op = 0
  · refine fin np _ _ (by rw [c0]; decide) (by rw [c0]; decide) hi (hw.setr (z := y) hi ha) ⟨fun q => absurd q (by rw [c0]; decide), fun _ => by rw [u2_oth (by omega)]; exact hs⟩ (by unfold mPrf; rw [if_pos c0]) (by unfold cPerf; rw [if_pos c0])
  · by_cases c1 : op = 1
    · obtain ⟨t, ht, et⟩ := h4 (by rw [c1]; decide) (by rw [c1]; decide)
      have eb : bl y 3 = t := by rw [et]; exact bl3 ht
      have en : nn y = t := by rw [et]; exact nn_nI (by omega)
      have hS := hw.setr (z := r 6 (4 * i + a) + r 6 (4 * i + t)) hi ha
      refine fin np _ _ (by rw [c1]; decide) (by rw [c1]; decide) hi hS ⟨fun q => absurd q (by rw [c1]; decide), fun _ => by rw [u2_oth (by omega)]; exact hs⟩ (by unfold mPrf; rw [if_neg c0, if_pos c1]; rw [eb]) (by unfold cPerf; rw [if_neg c0, if_pos c1]; rw [hra, en, h.rg hi ht])
    · by_cases c2 : op = 2
      · obtain ⟨t, ht, et⟩ := h4 (by rw [c2]; decide) (by rw [c2]; decide)
        have eb : bl y 3 = t := by rw [et]; exact bl3 ht
        have en : nn y = t := by rw [et]; exact nn_nI (by omega)
        have hS := (h.acc (op := op) hi ha ht (by omega)).wide (b' := b + 9) (by omega) hb
        refine fin np _ _ (by rw [c2]; decide) (by rw [c2]; decide) hi hS ⟨fun q => absurd q (by rw [c2]; decide), fun _ => by rw [mTch_9]; exact hs⟩ (by unfold mPrf; rw [if_neg c0, if_neg c1, if_pos c2]; rw [eb]) (by unfold cPerf; rw [if_neg c0, if_neg c1, if_pos c2]; rw [en])
      · by_cases c3 : op = 3
        · obtain ⟨t, ht, et⟩ := h4 (by rw [c3]; decide) (by rw [c3]; decide)
          have eb : bl y 3 = t := by rw [et]; exact bl3 ht
          have en : nn y = t := by rw [et]; exact nn_nI (by omega)
          have hS := (h.acc (op := op) hi ha ht (by omega)).wide (b' := b + 9) (by omega) hb
          refine fin np _ _ (by rw [c3]; decide) (by rw [c3]; decide) hi hS ⟨fun q => absurd q (by rw [c3]; decide), fun _ => by rw [mTch_9]; exact hs⟩ (by unfold mPrf; rw [if_neg c0, if_neg c1, if_neg c2, if_pos c3]; rw [eb]) (by unfold cPerf; rw [if_neg c0, if_neg c1, if_neg c2, if_pos c3]; rw [en])
        · by_cases c4 : op = 4
          · obtain ⟨t, ht, et⟩ := h4 (by rw [c4]; decide) (by rw [c4]; decide)
            have eb : bl y 3 = t := by rw [et]; exact bl3 ht
            have en : nn y = t := by rw [et]; exact nn_nI (by omega)
            have hS := (h.acc (op := op) hi ha ht (by omega)).wide (b' := b + 9) (by omega) hb
            refine fin np _ _ (by rw [c4]; decide) (by rw [c4]; decide) hi hS ⟨fun q => absurd q (by rw [c4]; decide), fun _ => by rw [mTch_9]; exact hs⟩ (by unfold mPrf; rw [if_neg c0, if_neg c1, if_neg c2, if_neg c3, if_pos c4]; rw [eb]) (by unfold cPerf; rw [if_neg c0, if_neg c1, if_neg c2, if_neg c3, if_pos c4]; rw [en])
          · by_cases c5 : op = 5
            · have c7 : ¬ op = 7 := by rw [c5]; decide
              have nw : ¬ wtP r (nI i) op (4 * i + a) := fun q => c7 q.1
              have e1 : mPrf r (nI i) i op (4 * i + a) (4 * i + bl y 3) y = r := by
                unfold mPrf
                rw [if_neg c0, if_neg c1, if_neg c2, if_neg c3, if_neg c4, if_neg (by rw [c5]; decide), if_neg c7, if_neg (by rw [c5]; decide), if_neg (by rw [c5]; decide), if_neg (by rw [c5]; decide), if_neg (by rw [c5]; decide)]
              rw [if_neg nw, e1]
              by_cases q : r 6 (4 * i + a) = 0
              · have e2 : cPerf np v i op a y = (np, u2 v (68 + 3 * i) 6 (r 7 i + 1)) := by
                  unfold cPerf
                  rw [if_neg c0, if_neg c1, if_neg c2, if_neg c3, if_neg c4, if_pos c5, hra, if_pos q, hrc]
                rw [e2, if_neg (fun p => p.2 q)]
                refine ⟨hw.setc hi hz, fun p => absurd p nw, fun _ => ?_, hi⟩
                rw [u2_oth (by omega)]
                exact ⟨fun p => absurd p (by rw [c5]; decide), fun _ => hs⟩
              · have e2 : cPerf np v i op a y = (np, u2 v (68 + 3 * i) 6 y) := by
                  unfold cPerf
                  rw [if_neg c0, if_neg c1, if_neg c2, if_neg c3, if_neg c4, if_pos c5, hra, if_neg q]
                rw [e2, if_pos ⟨c5, q⟩]
                obtain ⟨t, ht, et⟩ := h5 c5
                refine ⟨hw.setc hi ⟨t, by omega, et⟩, fun p => absurd p nw, fun _ => ?_, hi⟩
                rw [u2_oth (by omega)]
                exact ⟨fun p => absurd p (by rw [c5]; decide), fun _ => hs⟩
            · by_cases c6 : op = 6
              · obtain ⟨t, ht, et⟩ := h4 (by rw [c6]; decide) (by rw [c6]; decide)
                obtain ⟨p1, p2, p3⟩ := h.pln hi
                by_cases q : v 0 5 = 8
                · have q' : r 0 14 = 8 := by rw [← h.D _ _ _ _ .made]; exact q
                  refine fin np _ _ (by rw [c6]; decide) c5 hi (hw.setr (z := -1) hi ha) ⟨fun q => absurd q (by rw [c6]; decide), fun _ => by rw [u2_oth (by omega)]; exact hs⟩ (by unfold mPrf; rw [if_neg c0, if_neg c1, if_neg c2, if_neg c3, if_neg c4, if_pos c6]; unfold mMake; rw [if_pos q']) (by unfold cPerf; rw [if_neg c0, if_neg c1, if_neg c2, if_neg c3, if_neg c4, if_neg c5, if_pos c6]; rw [if_pos q])
                · have q' : ¬ r 0 14 = 8 := by rw [← h.D _ _ _ _ .made]; exact q
                  have h8 := h.ok.lt8 q
                  have hm : r 0 14 = nI np := by rw [← h.D _ _ _ _ .made]; exact h.ok.made.1
                  have hS := ((h.make h8 ht p2 (by omega)).setr (z := nI np) (i := i) (a := a) (by omega) ha).wide (b' := b + 9) (by omega) hb
                  refine fin (np + 1) _ _ (by rw [c6]; decide) c5 (by omega) hS ⟨fun p => absurd p (by rw [c6]; decide), fun _ => ?_⟩ ?_ (by unfold cPerf; rw [if_neg c0, if_neg c1, if_neg c2, if_neg c3, if_neg c4, if_neg c5, if_pos c6]; rw [if_neg q, et, hpl, p3])
                  · rw [u2_oth (by omega), mMk0_9 (by rw [h.made]; omega)]; exact hs
                  · unfold mPrf; rw [if_neg c0, if_neg c1, if_neg c2, if_neg c3, if_neg c4, if_pos c6]
                    unfold mMake
                    rw [if_neg q', hm, et, p3]
              · by_cases c7 : op = 7
                · have mk : ∀ z, mPrf r (nI i) i op (4 * i + a) (4 * i + bl y 3) y = z ↔ (if npP r (r 6 (4 * i + a)) then u2 r 6 (4 * i + a) (-1) else if r 6 (4 * i + a) = nI i then u2 r 6 (4 * i + a) (-1) else if edP r (r 6 (4 * i + a)) then u2 r 6 (4 * i + a) (r 12 (nn (r 6 (4 * i + a)))) else u2 (u2 r 9 i 3) 13 i (r 6 (4 * i + a))) = z := fun z => by
                    unfold mPrf; rw [if_neg c0, if_neg c1, if_neg c2, if_neg c3, if_neg c4, if_neg c6, if_pos c7]
                  -- done without waiting
                  have fin7 : ∀ (z : Int32), ¬ wtP r (nI i) op (4 * i + a) → cWait v i a = u2 v (68 + 3 * i + 1) a z → mPrf r (nI i) i op (4 * i + a) (4 * i + bl y 3) y = u2 r 6 (4 * i + a) z →
                      Sim (b + 9) 8 d (cPerf np v i op a y).1 (cPerf np v i op a y).2 (if wtP r (nI i) op (4 * i + a) then mPrf r (nI i) i op (4 * i + a) (4 * i + bl y 3) y else u2 (mPrf r (nI i) i op (4 * i + a) (4 * i + bl y 3) y) 7 i (if op = 5 ∧ ¬ r 6 (4 * i + a) = 0 then y else r 7 i + 1)) ∧ (wtP r (nI i) op (4 * i + a) → (if wtP r (nI i) op (4 * i + a) then mPrf r (nI i) i op (4 * i + a) (4 * i + bl y 3) y else u2 (mPrf r (nI i) i op (4 * i + a) (4 * i + bl y 3) y) 7 i (if op = 5 ∧ ¬ r 6 (4 * i + a) = 0 then y else r 7 i + 1)) 9 i = 3) ∧ (¬ wtP r (nI i) op (4 * i + a) → (op = 9 → (if wtP r (nI i) op (4 * i + a) then mPrf r (nI i) i op (4 * i + a) (4 * i + bl y 3) y else u2 (mPrf r (nI i) i op (4 * i + a) (4 * i + bl y 3) y) 7 i (if op = 5 ∧ ¬ r 6 (4 * i + a) = 0 then y else r 7 i + 1)) 9 i = 4) ∧ (op ≠ 9 → (if wtP r (nI i) op (4 * i + a) then mPrf r (nI i) i op (4 * i + a) (4 * i + bl y 3) y else u2 (mPrf r (nI i) i op (4 * i + a) (4 * i + bl y 3) y) 7 i (if op = 5 ∧ ¬ r 6 (4 * i + a) = 0 then y else r 7 i + 1)) 9 i = 1)) ∧ i < (cPerf np v i op a y).1 := by
                    intro z nw ew em
                    have es : ¬ cWait v i a (68 + 3 * i) 5 = 3 := by
                      rw [ew, u2_oth (by omega), h.st hi, hs]; decide
                    have e2 : cPerf np v i op a y = (np, u2 (u2 v (68 + 3 * i + 1) a z) (68 + 3 * i) 6 (r 7 i + 1)) := by
                      unfold cPerf
                      rw [if_neg c0, if_neg c1, if_neg c2, if_neg c3, if_neg c4, if_neg c5, if_neg c6, if_pos c7, if_neg es, ew, hrc]
                    rw [if_neg nw, if_neg (fun q => c5 q.1), em, e2]
                    refine ⟨(hw.setr hi ha).setc hi hz, fun q => absurd q nw, fun _ => ?_, hi⟩
                    rw [u2_oth (by omega), u2_oth (by omega)]
                    exact ⟨fun q => absurd q (by rw [c7]; decide), fun _ => hs⟩
                  by_cases q1 : npP r (r 6 (4 * i + a))
                  · refine fin7 (-1) (fun q => q.2.1 q1) ?_ ((mk _).mpr (by rw [if_pos q1]))
                    unfold cWait
                    rw [if_neg (fun q => by rw [hra] at q; exact (h.np_iff _).mp q.1 q1)]
                  · by_cases q2 : r 6 (4 * i + a) = nI i
                    · refine fin7 (-1) (fun q => q.2.2.1 q2) ?_ ((mk _).mpr (by rw [if_neg q1, if_pos q2]))
                      unfold cWait
                      rw [if_neg (fun q => by rw [hra] at q; exact q.2 (by rw [hnum]; exact q2))]
                    · have ho : othP v i (v (68 + 3 * i + 1) a) := by rw [hra]; exact ⟨(h.np_iff _).mpr q1, by rw [hnum]; exact q2⟩
                      obtain ⟨n1, n2⟩ := h.named q1
                      have en : nv v (68 + 3 * i + 1) a = nn (r 6 (4 * i + a)) := by unfold nv nn; rw [hra]
                      by_cases q3 : edP r (r 6 (4 * i + a))
                      · refine fin7 (r 12 (nn (r 6 (4 * i + a)))) (fun q => q.2.2.2 q3) ?_ ((mk _).mpr (by rw [if_neg q1, if_neg q2, if_pos q3]))
                        unfold cWait
                        rw [if_pos ho, en, if_pos (by rw [h.st n2]; exact q3.2), h.D _ _ _ _ (.code n2)]
                      · have wt : wtP r (nI i) op (4 * i + a) := ⟨c7, q1, q2, q3⟩
                        have ew : cWait v i a = u2 (cLeave v i 3) (68 + 3 * i) 11 (r 6 (4 * i + a)) := by
                          unfold cWait
                          rw [if_pos ho, en, if_neg (fun p => q3 ⟨q1, by rw [← h.st n2]; exact p⟩), hra]
                        have hW := (h.wait (z := r 6 (4 * i + a)) hi hs).wide (b' := b + 9) (by omega) hb
                        have es : cWait v i a (68 + 3 * i) 5 = 3 := by
                          rw [ew, u2_a (by omega)]; unfold cLeave; rw [u2_s]
                        have e2 : cPerf np v i op a y = (np, u2 (cLeave v i 3) (68 + 3 * i) 11 (r 6 (4 * i + a))) := by
                          unfold cPerf
                          rw [if_neg c0, if_neg c1, if_neg c2, if_neg c3, if_neg c4, if_neg c5, if_neg c6, if_pos c7, if_pos es, u2_id rfl, ew]
                        have em := (mk _).mpr (show _ = u2 (u2 r 9 i 3) 13 i (r 6 (4 * i + a)) by rw [if_neg q1, if_neg q2, if_neg q3])
                        rw [if_pos wt, em, e2]
                        refine ⟨hW, fun _ => by rw [u2_oth (by omega), u2_s], fun q => absurd wt q, hi⟩
                · by_cases c8 : op = 8
                  · have mk : ∀ z, mPrf r (nI i) i op (4 * i + a) (4 * i + bl y 3) y = z ↔ (if npP r (r 6 (4 * i + a)) then u2 r 6 (4 * i + a) (-1) else if r 6 (4 * i + a) = nI i then u2 r 6 (4 * i + a) (-1) else if edP r (r 6 (4 * i + a)) then u2 r 6 (4 * i + a) (-1) else mEnd (u2 r 6 (4 * i + a) 0) (r 6 (4 * i + a)) (nn (r 6 (4 * i + a))) (-9)) = z := fun z => by
                      unfold mPrf; rw [if_neg c0, if_neg c1, if_neg c2, if_neg c3, if_neg c4, if_neg c6, if_neg c7, if_pos c8]
                    have ck : cPerf np v i op a y = (np, u2 (cKill np v i a) (68 + 3 * i) 6 (v (68 + 3 * i) 6 + 1)) := by unfold cPerf; rw [if_neg c0, if_neg c1, if_neg c2, if_neg c3, if_neg c4, if_neg c5, if_neg c6, if_neg c7, if_pos c8]
                    by_cases q1 : npP r (r 6 (4 * i + a))
                    · refine fin np _ _ c7 c5 hi (hw.setr (z := -1) hi ha) ⟨fun q => absurd q (by rw [c8]; decide), fun _ => by rw [u2_oth (by omega)]; exact hs⟩ ((mk _).mpr (by rw [if_pos q1])) ?_
                      rw [ck]
                      unfold cKill
                      rw [if_neg (fun q => by rw [hra] at q; exact (h.np_iff _).mp q.1 q1)]
                    · by_cases q2 : r 6 (4 * i + a) = nI i
                      · refine fin np _ _ c7 c5 hi (hw.setr (z := -1) hi ha) ⟨fun q => absurd q (by rw [c8]; decide), fun _ => by rw [u2_oth (by omega)]; exact hs⟩ ((mk _).mpr (by rw [if_neg q1, if_pos q2])) ?_
                        rw [ck]
                        unfold cKill
                        rw [if_neg (fun q => by rw [hra] at q; exact q.2 (by rw [hnum]; exact q2))]
                      · have ho : othP v i (v (68 + 3 * i + 1) a) := by rw [hra]; exact ⟨(h.np_iff _).mpr q1, by rw [hnum]; exact q2⟩
                        obtain ⟨n1, n2⟩ := h.named q1
                        have en : nv v (68 + 3 * i + 1) a = nn (r 6 (4 * i + a)) := by unfold nv nn; rw [hra]
                        by_cases q3 : edP r (r 6 (4 * i + a))
                        · refine fin np _ _ c7 c5 hi (hw.setr (z := -1) hi ha) ⟨fun q => absurd q (by rw [c8]; decide), fun _ => by rw [u2_oth (by omega)]; exact hs⟩ ((mk _).mpr (by rw [if_neg q1, if_neg q2, if_pos q3])) ?_
                          rw [ck]
                          unfold cKill
                          rw [if_pos ho, en, if_pos (by rw [h.st n2]; exact q3.2)]
                        · have hS := ((h.end (y := -9) n2 (by omega)).setr (z := 0) hi ha).wide (b' := b + 9) (by omega) hb
                          rw [← n1] at hS
                          refine fin np _ _ c7 c5 hi hS ⟨fun q => absurd q (by rw [c8]; decide), fun _ => ?_⟩ ((mk _).mpr (by rw [if_neg q1, if_neg q2, if_neg q3, mEnd_u6])) ?_
                          · rw [u2_oth (by omega), mEnd_9o (fun e => q2 (by rw [n1, ← e])) (by rw [hs]; decide)]; exact hs
                          · rw [ck]
                            unfold cKill
                            rw [if_pos ho, en, if_neg (fun p => q3 ⟨q1, by rw [← h.st n2]; exact p⟩)]
                  · by_cases c9 : op = 9
                    · have hS := (h.end (y := r 6 (4 * i + a)) hi (by omega)).wide (b' := b + 9) (by omega) hb
                      refine fin np _ _ c7 c5 hi hS ⟨fun _ => mEnd_9s, fun q => absurd c9 q⟩ (by unfold mPrf; rw [if_neg c0, if_neg c1, if_neg c2, if_neg c3, if_neg c4, if_neg c6, if_neg c7, if_neg c8, if_pos c9]) (by unfold cPerf; rw [if_neg c0, if_neg c1, if_neg c2, if_neg c3, if_neg c4, if_neg c5, if_neg c6, if_neg c7, if_neg c8, if_pos c9]; rw [hra])
                    · by_cases c10 : op = 10
                      · refine fin np _ _ c7 c5 hi (hw.setr (z := nI i) hi ha) ⟨fun q => absurd q (by rw [c10]; decide), fun _ => by rw [u2_oth (by omega)]; exact hs⟩ (by unfold mPrf; rw [if_neg c0, if_neg c1, if_neg c2, if_neg c3, if_neg c4, if_neg c6, if_neg c7, if_neg c8, if_neg c9, if_pos c10]) (by unfold cPerf; rw [if_neg c0, if_neg c1, if_neg c2, if_neg c3, if_neg c4, if_neg c5, if_neg c6, if_neg c7, if_neg c8, if_neg c9, if_pos c10]; rw [hnum])
                      · by_cases c11 : op = 11
                        · refine fin np _ _ c7 c5 hi (hw.setr (z := r 8 i) hi ha) ⟨fun q => absurd q (by rw [c11]; decide), fun _ => by rw [u2_oth (by omega)]; exact hs⟩ (by unfold mPrf; rw [if_neg c0, if_neg c1, if_neg c2, if_neg c3, if_neg c4, if_neg c6, if_neg c7, if_neg c8, if_neg c9, if_neg c10, if_pos c11]) (by unfold cPerf; rw [if_neg c0, if_neg c1, if_neg c2, if_neg c3, if_neg c4, if_neg c5, if_neg c6, if_neg c7, if_neg c8, if_neg c9, if_neg c10, if_pos c11]; rw [hpl])
                        · refine fin np _ _ c7 c5 hi hw ⟨fun q => absurd q c9, fun _ => hs⟩ (by unfold mPrf; rw [if_neg c0, if_neg c1, if_neg c2, if_neg c3, if_neg c4, if_neg c6, if_neg c7, if_neg c8, if_neg c9, if_neg c10, if_neg c11]) (by unfold cPerf; rw [if_neg c0, if_neg c1, if_neg c2, if_neg c3, if_neg c4, if_neg c5, if_neg c6, if_neg c7, if_neg c8, if_neg c9, if_neg c10, if_neg c11])
end SU
