-- what a note costs in a voice: the reference's price (la: the rank of each voice's last note, and 1; 0 none)
def nevI : Int32 := 2000000000
def pbM (F T P Wt : Nat → Int32) (o la : Nat → Nat) (r v : Nat) : Int32 := if la v = 0 then Wt 3 else (if P (o (la v - 1)) < P (o r) then P (o r) - P (o (la v - 1)) else P (o (la v - 1)) - P (o r)) * Wt 0 + (F (o r) - T (o (la v - 1))) * Wt 1
def pcM (F T P : Nat → Int32) (o la : Nat → Nat) (r v u : Nat) : Bool := decide (u ≠ v) && (decide (la u ≠ 0) && (tog F T (o (la u - 1)) (o r) && (if u < v then decide (P (o (la u - 1)) < P (o r)) else decide (P (o r) < P (o (la u - 1))))))
def sumW (c : Nat → Bool) (w b : Int32) : Nat → Int32
  | 0 => b
  | k + 1 => if c k then sumW c w b k + w else sumW c w b k
theorem sumW_y {c : Nat → Bool} {w b : Int32} {k : Nat} (h : c k = true) : sumW c w b k + w = sumW c w b (k + 1) := by simp [sumW, h]
theorem sumW_n {c : Nat → Bool} {w b : Int32} {k : Nat} (h : c k = false) : sumW c w b k = sumW c w b (k + 1) := by simp [sumW, h]
def prc (F T P Wt : Nat → Int32) (o la : Nat → Nat) (r v : Nat) : Int32 := if la v ≠ 0 ∧ tog F T (o (la v - 1)) (o r) = true then 2000000000 else sumW (pcM F T P o la r v) (Wt 2) (pbM F T P Wt o la r v) 4
theorem prc_nev {F T P Wt : Nat → Int32} {o la : Nat → Nat} {r v : Nat} (h : la v ≠ 0) (h2 : tog F T (o (la v - 1)) (o r) = true) : 2000000000 = prc F T P Wt o la r v := by
  unfold prc
  rw [if_pos ⟨h, h2⟩]
theorem prc_end {F T P Wt : Nat → Int32} {o la : Nat → Nat} {r v : Nat} (h : la v = 0 ∨ tog F T (o (la v - 1)) (o r) = false) : sumW (pcM F T P o la r v) (Wt 2) (pbM F T P Wt o la r v) 4 = prc F T P Wt o la r v := by
  unfold prc
  rw [if_neg]
  rintro ⟨h1, h2⟩
  rcases h with h | h
  · exact h1 h
  · rw [h] at h2
    cases h2
theorem pbM_0 {F T P Wt : Nat → Int32} {o la : Nat → Nat} {r v : Nat} (h : la v = 0) : Wt 3 = pbM F T P Wt o la r v := by
  unfold pbM
  rw [if_pos h]
theorem pbM_1 {F T P Wt : Nat → Int32} {o la : Nat → Nat} {r v : Nat} (h : la v ≠ 0) (h2 : P (o (la v - 1)) < P (o r)) : (P (o r) - P (o (la v - 1))) * Wt 0 + (F (o r) - T (o (la v - 1))) * Wt 1 = pbM F T P Wt o la r v := by
  unfold pbM
  rw [if_neg h, if_pos h2]
theorem pbM_2 {F T P Wt : Nat → Int32} {o la : Nat → Nat} {r v : Nat} (h : la v ≠ 0) (h2 : ¬ P (o (la v - 1)) < P (o r)) : (P (o (la v - 1)) - P (o r)) * Wt 0 + (F (o r) - T (o (la v - 1))) * Wt 1 = pbM F T P Wt o la r v := by
  unfold pbM
  rw [if_neg h, if_neg h2]
theorem pcM_t {F T P : Nat → Int32} {o la : Nat → Nat} {r v u : Nat} : pcM F T P o la r v u = true ↔ (u ≠ v ∧ la u ≠ 0 ∧ tog F T (o (la u - 1)) (o r) = true ∧ ((u < v ∧ P (o (la u - 1)) < P (o r)) ∨ (¬ u < v ∧ P (o r) < P (o (la u - 1))))) := by
  unfold pcM
  by_cases h : u < v
  · simp only [h, if_true, Bool.and_eq_true, decide_eq_true_eq, not_true, false_and, or_false, true_and]
  · simp only [h, if_false, Bool.and_eq_true, decide_eq_true_eq, not_false_eq_true, false_and, false_or, true_and]
theorem pcM_f {F T P : Nat → Int32} {o la : Nat → Nat} {r v u : Nat} : pcM F T P o la r v u = false ↔ ¬ (u ≠ v ∧ la u ≠ 0 ∧ tog F T (o (la u - 1)) (o r) = true ∧ ((u < v ∧ P (o (la u - 1)) < P (o r)) ∨ (¬ u < v ∧ P (o r) < P (o (la u - 1))))) := by
  rw [← pcM_t]
  cases pcM F T P o la r v u <;> simp
-- the class's: ln: each voice's last note, and 1; 0 none
def ccC (F T P : Nat → Int32) (ln : Nat → Nat) (x v i : Nat) : Bool := decide (ln i ≠ 0 ∧ F x < T (ln i - 1) ∧ ((i < v ∧ 0 < P x - P (ln i - 1)) ∨ (v < i ∧ P x - P (ln i - 1) < 0)))
theorem ccC_t {F T P : Nat → Int32} {ln : Nat → Nat} {x v i : Nat} (h0 : ln i ≠ 0) (h1 : F x < T (ln i - 1)) (h2 : (i < v ∧ 0 < P x - P (ln i - 1)) ∨ (v < i ∧ P x - P (ln i - 1) < 0)) : ccC F T P ln x v i = true := by simp only [ccC, decide_eq_true_eq]; exact ⟨h0, h1, h2⟩
theorem ccC_f0 {F T P : Nat → Int32} {ln : Nat → Nat} {x v i : Nat} (h0 : ln i = 0) : ccC F T P ln x v i = false := by simp [ccC, h0]
theorem ccC_f1 {F T P : Nat → Int32} {ln : Nat → Nat} {x v i : Nat} (h0 : ¬ F x < T (ln i - 1)) : ccC F T P ln x v i = false := by simp only [ccC, decide_eq_false_iff_not]; exact fun h => h0 h.2.1
theorem ccC_f2 {F T P : Nat → Int32} {ln : Nat → Nat} {x v i : Nat} (h0 : ¬ ((i < v ∧ 0 < P x - P (ln i - 1)) ∨ (v < i ∧ P x - P (ln i - 1) < 0))) : ccC F T P ln x v i = false := by simp only [ccC, decide_eq_false_iff_not]; exact fun h => h0 h.2.2
def crC (F T P Wt : Nat → Int32) (ln : Nat → Nat) (x v : Nat) : Int32 := sumW (ccC F T P ln x v) (Wt 2) 0 4
def adC (F T P Wt : Nat → Int32) (ln : Nat → Nat) (x v : Nat) : Int32 := if ln v = 0 then Wt 3 + crC F T P Wt ln x v else if F x - T (ln v - 1) < 0 then -1 else abI (P x - P (ln v - 1)) * Wt 0 + (F x - T (ln v - 1)) * Wt 1 + crC F T P Wt ln x v
theorem adC_0 {F T P Wt : Nat → Int32} {ln : Nat → Nat} {x v : Nat} (h : ln v = 0) : Wt 3 + crC F T P Wt ln x v = adC F T P Wt ln x v := by
  unfold adC
  rw [if_pos h]
theorem adC_1 {F T P Wt : Nat → Int32} {ln : Nat → Nat} {x v : Nat} (h : ln v ≠ 0) (h2 : F x - T (ln v - 1) < 0) : -1 = adC F T P Wt ln x v := by
  unfold adC
  rw [if_neg h, if_pos h2]
theorem adC_2 {F T P Wt : Nat → Int32} {ln : Nat → Nat} {x v : Nat} (h : ln v ≠ 0) (h2 : ¬ F x - T (ln v - 1) < 0) : abI (P x - P (ln v - 1)) * Wt 0 + (F x - T (ln v - 1)) * Wt 1 + crC F T P Wt ln x v = adC F T P Wt ln x v := by
  unfold adC
  rw [if_neg h, if_neg h2]
