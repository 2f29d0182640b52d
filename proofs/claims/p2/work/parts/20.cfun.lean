theorem i_nlt {x y : Int32} (h : y ≤ x) : ¬ x < y := fun c => absurd (Int32.lt_iff_toInt_lt.mp c) (Int.not_lt.mpr (Int32.le_iff_toInt_le.mp h))
theorem i_lt {x y : Int32} (h : ¬ y ≤ x) : x < y := Int32.lt_iff_toInt_lt.mpr (Int.not_le.mp fun c => h (Int32.le_iff_toInt_le.mpr c))
/-! WHAT THE CLASS'S METHODS DO, as functions of the slots -/
def fmod (x y : Int32) : Int32 := if 0 ≤ x ^^^ y then x - x / y * y else if x - x / y * y = 0 then x - x / y * y else x - x / y * y + y
