theorem isoB_t {V : Nat → Int32} {v : Int32} {x : Nat} : isoB V v x = true ↔ (v = 4 ∧ 0 ≤ V x) ∨ (¬ v = 4 ∧ V x = v) := by
  unfold isoB
  split
  · rename_i h
    simp [h]
  · rename_i h
    simp [h]
theorem isoB_f {V : Nat → Int32} {v : Int32} {x : Nat} : isoB V v x = false ↔ ¬ ((v = 4 ∧ 0 ≤ V x) ∨ (¬ v = 4 ∧ V x = v)) := by
  rw [← isoB_t]
  cases isoB V v x <;> simp
