def isoC (V : Nat → Int32) (v : Int32) (x : Nat) : Bool := if v = 4 then decide (¬ V x = -1) else decide (V x = v)
theorem isoC_t {V : Nat → Int32} {v : Int32} {x : Nat} : isoC V v x = true ↔ (v = 4 ∧ ¬ V x = -1) ∨ (¬ v = 4 ∧ V x = v) := by
  unfold isoC
  split
  · rename_i h
    simp [h]
  · rename_i h
    simp [h]
theorem isoC_f {V : Nat → Int32} {v : Int32} {x : Nat} : isoC V v x = false ↔ ¬ ((v = 4 ∧ ¬ V x = -1) ∨ (¬ v = 4 ∧ V x = v)) := by
  rw [← isoC_t]
  cases isoC V v x <;> simp
def cvr (q : Nat → Bool) (F T : Nat → Int32) (n : Nat) (tm t1 : Int32) : Prop := tm ≤ t1 ∧ ∀ t2, tm ≤ t2 → t2 < t1 → ∃ k, k < n ∧ snB q F T t2 k
def SO (q : Nat → Bool) (F T : Nat → Int32) (n : Nat) (tm t1 : Int32) (mo : Bool) : Prop := cvr q F T n tm t1 ∧ (mo = false → ∀ k, k < n → ¬ snB q F T t1 k)
def SI (q : Nat → Bool) (F T : Nat → Int32) (n : Nat) (tm t1 : Int32) (k : Nat) (t3 : Int32) (mo : Bool) : Prop := cvr q F T n tm t3 ∧ (mo = false → t3 = t1 ∧ ∀ j, j < k → ¬ snB q F T t1 j) ∧ (mo = true → t1 < t3 ∧ t3.toInt ≤ 100000)
theorem SO_0 {q : Nat → Bool} {F T : Nat → Int32} {n : Nat} {tm : Int32} : SO q F T n tm tm true := ⟨⟨Int32.le_refl _, fun t h1 h2 => absurd h2 (Int32.not_lt.mpr h1)⟩, fun h => by cases h⟩
theorem SI_0 {q : Nat → Bool} {F T : Nat → Int32} {n : Nat} {tm t1 : Int32} {mo : Bool} (h : SO q F T n tm t1 mo) : SI q F T n tm t1 0 t1 false := ⟨h.1, fun _ => ⟨rfl, fun j hj => absurd hj (Nat.not_lt_zero j)⟩, fun h => by cases h⟩
theorem SI_y {q : Nat → Bool} {F T : Nat → Int32} {n k : Nat} {tm t1 t3 : Int32} {mo : Bool} (hT : ∀ j, (T j).toInt ≤ 100000) (hk : k < n) (h : SI q F T n tm t1 k t3 mo) (h1 : q k = true) (h2 : F k ≤ t3) (h3 : t3 < T k) : SI q F T n tm t1 (k + 1) (T k) true := by
  have hle : t1.toInt ≤ t3.toInt := by
    cases mo
    · rw [(h.2.1 rfl).1]
      exact Int.le_refl _
    · have := (h.2.2 rfl).1
      rw [Int32.lt_iff_toInt_lt] at this
      omega
  have hc := h.1.1
  refine ⟨⟨?_, fun t2 a b => ?_⟩, fun e => (by cases e), fun _ => ⟨?_, hT k⟩⟩
  · rw [Int32.le_iff_toInt_le] at *
    rw [Int32.lt_iff_toInt_lt] at h3
    omega
  · by_cases c : t2 < t3
    · exact h.1.2 t2 a c
    · refine ⟨k, hk, h1, ?_, b⟩
      have := Int32.not_lt.mp c
      rw [Int32.le_iff_toInt_le] at *
      omega
  · rw [Int32.lt_iff_toInt_lt] at *
    omega
theorem SI_n {q : Nat → Bool} {F T : Nat → Int32} {n k : Nat} {tm t1 t3 : Int32} {mo : Bool} (h : SI q F T n tm t1 k t3 mo) (h1 : ¬ snB q F T t3 k) : SI q F T n tm t1 (k + 1) t3 mo := by
  refine ⟨h.1, fun e => ⟨(h.2.1 e).1, fun j hj => ?_⟩, h.2.2⟩
  by_cases c : j = k
  · rw [c, ← (h.2.1 e).1]
    exact h1
  · exact (h.2.1 e).2 j (by omega)
theorem SO_next {q : Nat → Bool} {F T : Nat → Int32} {n k : Nat} {tm t1 t3 : Int32} {mo : Bool} (hk : n ≤ k) (h : SI q F T n tm t1 k t3 mo) : SO q F T n tm t3 mo := ⟨h.1, fun e j hj => by
  rw [(h.2.1 e).1]
  exact (h.2.1 e).2 j (by omega)⟩
theorem SI_dec {q : Nat → Bool} {F T : Nat → Int32} {n k : Nat} {tm t1 t3 : Int32} {mo m0 : Bool} (h : SI q F T n tm t1 k t3 mo) (h0 : m0 = true) : 2 * (100001 - t3.toInt).toNat + mo.toNat < 2 * (100001 - t1.toInt).toNat + m0.toNat := by
  subst h0
  cases mo
  · rw [(h.2.1 rfl).1]
    simp
  · have h1 := h.2.2 rfl
    rw [Int32.lt_iff_toInt_lt] at h1
    simp only [Bool.toNat_true]
    omega
theorem SO_end {q : Nat → Bool} {F T : Nat → Int32} {n : Nat} {tm t1 : Int32} {mo : Bool} (h : SO q F T n tm t1 mo) (e : mo = false) : SIL q F T n tm t1 := ⟨h.1.1, h.2 e, h.1.2⟩
