theorem rf_n (C : String) (x : Option Nat) : narrow (.object C) (va_rf x) = va_rf x := by cases x <;> rfl
theorem rf_f (C : String) (x : Option Nat) : fits (.object C) (va_rf x) = true := by cases x <;> rfl
