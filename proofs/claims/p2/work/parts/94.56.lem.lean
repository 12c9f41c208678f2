/-! ===== places of marks ===== -/
theorem t2_km0 {h A : Nat} (hA : A < 3) : fl_ok h (.inr (.inr (.inl (22, 82 + 3 * A)))) := by
  rcases (by omega : A = 0 ∨ A = 1 ∨ A = 2) with rfl | rfl | rfl <;> exact ⟨by decide +kernel, by show _ < fl_N h; unfold fl_N; omega⟩
theorem t2_km1 {h A : Nat} (hA : A < 3) : fl_ok h (.inr (.inr (.inl (23, 83 + 3 * A)))) := by
  rcases (by omega : A = 0 ∨ A = 1 ∨ A = 2) with rfl | rfl | rfl <;> exact ⟨by decide +kernel, by show _ < fl_N h; unfold fl_N; omega⟩
theorem t2_km2 {h A : Nat} (hA : A < 3) : fl_ok h (.inr (.inr (.inl (24, 84 + 3 * A)))) := by
  rcases (by omega : A = 0 ∨ A = 1 ∨ A = 2) with rfl | rfl | rfl <;> exact ⟨by decide +kernel, by show _ < fl_N h; unfold fl_N; omega⟩
theorem t2_mi {a : Int32} {A : Nat} (hA : a.toInt = (A : Int)) (hA1 : A < 3) : ((339 : Int32) + ((35 : Int32) * a)).toInt = ((339 + 35 * A : Nat) : Int) := by
  have c1 : (339 : Int32).toInt = 339 := by decide +kernel
  have c2 : (35 : Int32).toInt = 35 := by decide +kernel
  have e : ((35 : Int32) * a).toInt = 35 * (A : Int) := by rw [at_mul32 (by rw [c2, hA]; omega) (by rw [c2, hA]; omega), c2, hA]
  rw [at_add32 (by omega) (by omega), e, c1]
  omega
theorem fl_rr {f : t2_F} {p : Nat} {a b : Nat → Int32} : fl_row (fl_row f p a) p b = fl_row f p b := by
  funext q w
  unfold fl_row
  split <;> rfl
