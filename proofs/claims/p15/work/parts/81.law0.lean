/-! the law's own rows -/
section LW0
variable {p : Program} {l : Launch} {e : Env} {R : Room} {s : State} {m : MethodId} {args : Array Value} {below : List Frame} {meth : Method} {c : Code} {H : Heap} {locs : List Loc} {cells slots : Nat} {Q : State → Prop}
variable {cc : ByteArray} {pc : Nat} {ls : Array Slot} {rest : List Value} {D : va_G} {cl : List vw_C} {A : Nat → Prop} {tys : List (ClassId × FieldType)} {w : va_W}
theorem sld (hx : p.tables.exec = Jvm.exec) (hb : c.code = cc) (hW : Wd D cl tys s A w H locs) {b L : Nat} {xs : Nat → Int32} (hX : va_X b L xs s s.heap) (hbl : b < s.heap.size) (hbA : ¬ A b) (j : Nat) {x : Int32} (hxi : x = nI j) (hj : j < L) (hL : L < 2 ^ 31) (hdg : decode cc pc = .ok (.iaload, 1))
    (kk : W p l e R s m args below meth c H locs cells slots Q (F0 m (pc + 1) ls (.int (xs j) :: rest))) : W p l e R s m args below meth c H locs cells slots Q (F0 m pc ls (.int x :: .ref b :: rest)) := by
  subst hxi
  refine va_sld hx hb hX hbl hbA hW.2.2.2 (vp_in_nI hj hL) hdg ?_
  rw [nI_clamp (by omega)]
  exact kk
end LW0
theorem sw_14 (x : Int32) : (x.toInt < 0 ∨ 13 < x.toInt) ∨ x = 0 ∨ x = 1 ∨ x = 2 ∨ x = 3 ∨ x = 4 ∨ x = 5 ∨ x = 6 ∨ x = 7 ∨ x = 8 ∨ x = 9 ∨ x = 10 ∨ x = 11 ∨ x = 12 ∨ x = 13 := by
  have key : ∀ (k : Int32), x.toInt = k.toInt → x = k := fun k h => Int32.toInt_inj.mp h
  by_cases c : x.toInt < 0 ∨ 13 < x.toInt
  · exact Or.inl c
  · right
    rcases (show x.toInt = 0 ∨ x.toInt = 1 ∨ x.toInt = 2 ∨ x.toInt = 3 ∨ x.toInt = 4 ∨ x.toInt = 5 ∨ x.toInt = 6 ∨ x.toInt = 7 ∨ x.toInt = 8 ∨ x.toInt = 9 ∨ x.toInt = 10 ∨ x.toInt = 11 ∨ x.toInt = 12 ∨ x.toInt = 13 by omega) with h | h | h | h | h | h | h | h | h | h | h | h | h | h
    · exact Or.inl (key 0 h)
    · exact Or.inr (Or.inl (key 1 h))
    · exact Or.inr (Or.inr (Or.inl (key 2 h)))
    · exact Or.inr (Or.inr (Or.inr (Or.inl (key 3 h))))
    · exact Or.inr (Or.inr (Or.inr (Or.inr (Or.inl (key 4 h)))))
    · exact Or.inr (Or.inr (Or.inr (Or.inr (Or.inr (Or.inl (key 5 h))))))
    · exact Or.inr (Or.inr (Or.inr (Or.inr (Or.inr (Or.inr (Or.inl (key 6 h)))))))
    · exact Or.inr (Or.inr (Or.inr (Or.inr (Or.inr (Or.inr (Or.inr (Or.inl (key 7 h))))))))
    · exact Or.inr (Or.inr (Or.inr (Or.inr (Or.inr (Or.inr (Or.inr (Or.inr (Or.inl (key 8 h)))))))))
    · exact Or.inr (Or.inr (Or.inr (Or.inr (Or.inr (Or.inr (Or.inr (Or.inr (Or.inr (Or.inl (key 9 h))))))))))
    · exact Or.inr (Or.inr (Or.inr (Or.inr (Or.inr (Or.inr (Or.inr (Or.inr (Or.inr (Or.inr (Or.inl (key 10 h)))))))))))
    · exact Or.inr (Or.inr (Or.inr (Or.inr (Or.inr (Or.inr (Or.inr (Or.inr (Or.inr (Or.inr (Or.inr (Or.inl (key 11 h))))))))))))
    · exact Or.inr (Or.inr (Or.inr (Or.inr (Or.inr (Or.inr (Or.inr (Or.inr (Or.inr (Or.inr (Or.inr (Or.inr (Or.inl (key 12 h)))))))))))))
    · exact Or.inr (Or.inr (Or.inr (Or.inr (Or.inr (Or.inr (Or.inr (Or.inr (Or.inr (Or.inr (Or.inr (Or.inr (Or.inr (key 13 h)))))))))))))
theorem law_test {L k : Nat} (hL : L ≤ 2560) (hk : k ≤ 512) (c : ¬ (Int32.ofNat L - 5 < nI (5 * k))) : 5 * k + 5 ≤ L := by
  rcases Nat.lt_or_ge L 5 with h | h
  · exfalso
    apply c
    have h0 : Int32.ofNat L - 5 < 0 := by
      rcases (show L = 0 ∨ L = 1 ∨ L = 2 ∨ L = 3 ∨ L = 4 by omega) with rfl | rfl | rfl | rfl | rfl <;> decide
    exact Int32.lt_of_lt_of_le h0 (Int32.not_lt.mp (nI_pos (by omega)))
  · have e : Int32.ofNat L - 5 = nI (L - 5) := by
      have e1 : nI (L - 5) + 5 = nI L := (ni_add (x := nI (L - 5)) (y := 5) (a := L - 5) (b := 5) rfl rfl).trans (by rw [show L - 5 + 5 = L by omega])
      show nI L - 5 = nI (L - 5)
      rw [← e1, Int32.add_sub_cancel]
    rw [e] at c
    have : ¬ (L - 5 < 5 * k) := fun q => c ((nI_ltI (by omega) (by omega)).mpr q)
    omega
theorem nestC.warm {s U : State} (hW : s.WarmedH U.vm) (h : nestC s) : nestC U := by
  obtain ⟨h1, h2, h3, h4, a1, a2, a3, a4⟩ := h
  exact ⟨va_Nw.warmM hW h1, va_Nw.warmM hW h2, va_Nw.warmM hW h3, nestP.warm hW h4, a1.moved hW.alike, a2.moved hW.alike, a3.moved hW.alike, a4.moved hW.alike⟩
theorem nestC.same {s U : State} (e : s.vm = U.vm) (h : nestC s) : nestC U := by
  obtain ⟨h1, h2, h3, h4, a1, a2, a3, a4⟩ := h
  have ha : s.vm.Alike U.vm := by rw [e]; exact Vm.Alike.refl _
  exact ⟨va_Nw.same rfl e h1, va_Nw.same rfl e h2, va_Nw.same rfl e h3, va_Nw.same rfl e h4, a1.moved ha, a2.moved ha, a3.moved ha, a4.moved ha⟩
theorem preWC {D : va_G} {cl : List vw_C} {tys : List (ClassId × FieldType)} {s : State} {A : Nat → Prop} {w : va_W} {H : Heap} {locs : List Loc} {As : List Value} (hW : Wd D cl tys s A w H locs) (hX : nestC s) : PreS s H (fun v U => PcW D cl tys As H.size w v U ∧ nestC U) As := by
  refine ⟨fun a U g mk q => ?_, fun U hU hw => ⟨⟨rfl, by rw [hU], by rw [hU]; exact hW.2.1, va_K.moved hw.alike hW.1, hW.2.2.1.weaken (fun _ _ _ _ => trivial)⟩, hX.warm hw⟩⟩
  obtain ⟨⟨q0, q1, qP, qK, qD⟩, qX⟩ := q
  exact ⟨⟨q0, q1, qP, va_K.moved (u := U) (U := U.calling g mk a) (Vm.Alike.refl U.vm) qK, qD⟩, qX.same rfl⟩
theorem lgc {x y : Int64} (h : x = y) : lg_cmp x y = 0 := by subst h; simp [lg_cmp]
