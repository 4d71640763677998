-- the state as both sides hold it
def bnd (F T P V Wt : Nat → Int32) : Prop := (∀ j, 0 ≤ (F j).toInt ∧ (F j).toInt ≤ 100000) ∧ (∀ j, 0 ≤ (T j).toInt ∧ (T j).toInt ≤ 100000) ∧ (∀ j, 0 ≤ (P j).toInt ∧ (P j).toInt ≤ 127) ∧ (∀ j, -1 ≤ (V j).toInt ∧ (V j).toInt ≤ 3) ∧ (∀ j, 0 ≤ (Wt j).toInt ∧ (Wt j).toInt ≤ 1000)
def INV (n : Nat) (F T P V Wt : Nat → Int32) (o kr : Nat → Nat) : Prop := n ≤ 60 ∧ (∀ j, o j < 60) ∧ prm n o ∧ srt F P n o ∧ (∀ j, j < n → kr (o j) = j) ∧ bnd F T P V Wt ∧ (∀ j, j < n → F j < T j)
theorem kr_rk {n : Nat} {F P : Nat → Int32} {o kr : Nat → Nat} (hp : prm n o) (hs : srt F P n o) (hk : ∀ j, j < n → kr (o j) = j) {x : Nat} (hx : x < n) : kr x = rkN F P n x := by
  obtain ⟨i, hi, rfl⟩ := prm_sur hp hx
  rw [hk i hi, srt_rk hp hs hi]
theorem kr_lt {n : Nat} {o kr : Nat → Nat} (hp : prm n o) (hk : ∀ j, j < n → kr (o j) = j) : ∀ j, j < n → kr j < n := fun x hx => by
  obtain ⟨i, hi, rfl⟩ := prm_sur hp hx
  rw [hk i hi]
  exact hi
theorem V_ge {V : Nat → Int32} (hV : ∀ j, -1 ≤ (V j).toInt ∧ (V j).toInt ≤ 3) (x : Nat) : 0 ≤ V x ↔ ¬ V x = -1 := by
  have h := hV x
  rw [Int32.le_iff_toInt_le, ← Int32.toInt_inj, tI0, tIm1]
  omega
theorem fl_eq {n : Nat} {F P V : Nat → Int32} {o kr : Nat → Nat} (hp : prm n o) (hs : srt F P n o) (hk : ∀ j, j < n → kr (o j) = j) (hV : ∀ j, -1 ≤ (V j).toInt ∧ (V j).toInt ≤ 3) {x : Nat} (hx : x < n) : flC V o kr n x = flM F P V o n x := by
  unfold flC flM
  rw [kr_rk hp hs hk hx]
  by_cases c : V x = -1
  · rw [if_pos c, if_neg (fun h => (V_ge hV x).mp h c)]
  · rw [if_neg c, if_pos ((V_ge hV x).mpr c)]
theorem tog_c {F T : Nat → Int32} {a b : Nat} : tog F T a b = tog F T b a := by
  unfold tog
  exact Bool.and_comm _ _
theorem cl_eq {n : Nat} {F T V : Nat → Int32} (hV : ∀ j, -1 ≤ (V j).toInt ∧ (V j).toInt ≤ 3) (x : Nat) : clC F T V n x = clM F T V n x := by
  unfold clC clM
  by_cases c : V x = -1
  · rw [if_pos c]
    symm
    apply cnt_0.mpr
    intro k _
    have : ¬ 0 ≤ V x := fun h => (V_ge hV x).mp h c
    simp [this]
  · rw [if_neg c]
    have : 0 ≤ V x := (V_ge hV x).mpr c
    apply cnt_congr
    intro k _
    simp [this, tog_c (a := x) (b := k)]
theorem nxU_sp {q : Nat → Bool} {o : Nat → Nat} : ∀ (d lo : Nat), (nxU q o lo d = 0 ∧ ∀ i, lo ≤ i → i < lo + d → q i = false) ∨ (∃ i, lo ≤ i ∧ i < lo + d ∧ q i = true ∧ nxU q o lo d = o i + 1 ∧ ∀ i', lo ≤ i' → i' < i → q i' = false)
  | 0, lo => Or.inl ⟨rfl, fun i h1 h2 => by omega⟩
  | d + 1, lo => by
    cases c : q lo
    · simp only [nxU, c]
      rcases nxU_sp (q := q) (o := o) d (lo + 1) with ⟨h1, h2⟩ | ⟨i, h1, h2, h3, h4, h5⟩
      · left
        refine ⟨by simpa using h1, fun i a b => ?_⟩
        by_cases e : i = lo
        · rw [e]
          exact c
        · exact h2 i (by omega) (by omega)
      · right
        refine ⟨i, by omega, by omega, h3, by simpa using h4, fun i' a b => ?_⟩
        by_cases e : i' = lo
        · rw [e]
          exact c
        · exact h5 i' (by omega) b
    · right
      exact ⟨lo, Nat.le_refl _, by omega, c, by simp [nxU, c], fun i' a b => by omega⟩
theorem wh_eq {n : Nat} {F T P V : Nat → Int32} {o kr : Nat → Nat} (hp : prm n o) (hs : srt F P n o) (hk : ∀ j, j < n → kr (o j) = j) (hV : ∀ j, -1 ≤ (V j).toInt ∧ (V j).toInt ≤ 3) (hFT : ∀ j, j < n → F j < T j) : whC F T V o kr n = whM F T V n := by
  have e1 : whC F T V o kr n = true ↔ whM F T V n = true := by
    unfold whC whM
    rw [allB_t, allB_t]
    constructor
    · intro h k hkn
      have hv : ∀ x, x < n → ¬ V x = -1 := fun x hx => by
        have := h x hx
        simp only [whp, Bool.and_eq_true, decide_eq_true_eq] at this
        exact this.1
      simp only [Bool.and_eq_true, decide_eq_true_eq]
      refine ⟨(V_ge hV k).mpr (hv k hkn), ?_⟩
      apply cnt_0.mpr
      -- of two that sound together the earlier one's next sounds with it
      have key : ∀ i i2, i < i2 → i2 < n → V (o i) = V (o i2) → tog F T (o i) (o i2) = false := by
        intro i i2 hi hi2 hvv
        have hx := h (o i) (prm_lt hp (by omega))
        simp only [whp, Bool.and_eq_true, decide_eq_true_eq, Bool.or_eq_true, Bool.not_eq_true'] at hx
        unfold flC at hx
        rw [if_neg hx.1, hk i (by omega)] at hx
        rcases nxU_sp (q := fun r => decide (V (o r) = V (o i))) (o := o) (n - (i + 1)) (i + 1) with ⟨h1, h2⟩ | ⟨y, h1, h2, h3, h4, h5⟩
        · have := h2 i2 (by omega) (by omega)
          simp at this
          exact absurd hvv.symm this
        · rw [h4] at hx
          have hy : y ≤ i2 := Nat.le_of_not_lt (fun hlt => by
            have := h5 i2 (by omega) hlt
            simp at this
            exact absurd hvv.symm this)
          have hty := hx.2.resolve_left (by omega)
          rw [Nat.add_sub_cancel] at hty
          rw [tog_f] at hty ⊢
          rintro ⟨a1, a2⟩
          apply hty
          have b1 := srt_F hs (i := i) (j := y) (by omega) (by omega)
          have b2 := srt_F hs (i := y) (j := i2) hy hi2
          have b3 := hFT (o y) (prm_lt hp (by omega))
          simp only [Int32.lt_iff_toInt_lt, Int32.le_iff_toInt_le] at a1 a2 b1 b2 b3 ⊢
          omega
      intro j hj
      cases hc : decide (j ≠ k) && (decide (0 ≤ V k) && (decide (V j = V k) && tog F T j k))
      · rfl
      · exfalso
        simp only [Bool.and_eq_true, decide_eq_true_eq] at hc
        obtain ⟨i, hi, rfl⟩ := prm_sur hp hj
        obtain ⟨i2, hi2, rfl⟩ := prm_sur hp hkn
        rcases Nat.lt_trichotomy i i2 with q | q | q
        · have := key i i2 q hi2 hc.2.2.1
          rw [this] at hc
          exact absurd hc.2.2.2 (by decide)
        · exact hc.1 (by rw [q])
        · have := key i2 i q hi hc.2.2.1.symm
          rw [tog_c, this] at hc
          exact absurd hc.2.2.2 (by decide)
    · intro h x hx
      have hx2 := h x hx
      simp only [Bool.and_eq_true, decide_eq_true_eq] at hx2
      have hv := (V_ge hV x).mp hx2.1
      simp only [whp, Bool.and_eq_true, decide_eq_true_eq, Bool.or_eq_true, Bool.not_eq_true']
      refine ⟨hv, ?_⟩
      by_cases c : flC V o kr n x = 0
      · exact Or.inl c
      · right
        have c2 := c
        unfold flC at c2
        rw [if_neg hv] at c2
        have hkx := kr_lt hp hk x hx
        rcases nxU_sp (q := fun r => decide (V (o r) = V x)) (o := o) (n - (kr x + 1)) (kr x + 1) with ⟨h1, h2⟩ | ⟨y, h1, h2, h3, h4, h5⟩
        · exact absurd h1 c2
        · have e : flC V o kr n x - 1 = o y := by
            unfold flC
            rw [if_neg hv, h4, Nat.add_sub_cancel]
          rw [e]
          have hyn : y < n := by omega
          have hne : o y ≠ x := fun e2 => by
            have := hk y hyn
            rw [e2] at this
            omega
          have := cnt_0.mp hx2.2 (o y) (prm_lt hp hyn)
          simp only [decide_eq_true_eq] at h3
          simp [hne, hx2.1, h3] at this
          rw [tog_c]
          exact this
  cases h1 : whC F T V o kr n <;> cases h2 : whM F T V n
  · rfl
  · rw [h1, h2] at e1
    exact absurd (e1.mpr rfl) (by decide)
  · rw [h1, h2] at e1
    exact absurd (e1.mp rfl) (by decide)
  · rfl
theorem low_eq {V P : Nat → Int32} {v : Int32} (hP : ∀ j, 0 ≤ (P j).toInt ∧ (P j).toInt ≤ 127) : ∀ n, lowC V P v n = lowM V P v n ∧ (lowM V P v n = -1 ∨ 0 ≤ (lowM V P v n).toInt)
  | 0 => ⟨rfl, Or.inl rfl⟩
  | n + 1 => by
    obtain ⟨h1, h2⟩ := low_eq (V := V) (v := v) hP n
    have e : (lowC V P v n = -1) ↔ (lowM V P v n < 0) := by
      rw [h1, Int32.lt_iff_toInt_lt, tI0]
      constructor
      · intro h
        rw [h]
        decide
      · intro h
        exact h2.resolve_right (by omega)
    by_cases c : V n = v ∧ (lowM V P v n < 0 ∨ P n < lowM V P v n)
    · rw [← lowM_y c, ← lowC_y (by rw [e, h1]; exact c)]
      exact ⟨rfl, Or.inr (hP n).1⟩
    · rw [← lowM_n c, ← lowC_n (by rw [e, h1]; exact c)]
      exact ⟨h1, h2⟩
theorem iso_eq {V : Nat → Int32} (hV : ∀ j, -1 ≤ (V j).toInt ∧ (V j).toInt ≤ 3) (v : Int32) : isoC V v = isoB V v := by
  funext x
  unfold isoC isoB
  by_cases c : v = 4
  · rw [if_pos c, if_pos c]
    exact decide_eq_decide.mpr (V_ge hV x).symm
  · rw [if_neg c, if_neg c]
theorem pr_eq {F T P V : Nat → Int32} (hV : ∀ j, -1 ≤ (V j).toInt ∧ (V j).toInt ≤ 3) (k : Int32) (a b : Nat) : prC F T P V k a b = prM F T P V k a b := by
  have ha := V_ge hV a
  have hb := V_ge hV b
  have e : prC F T P V k a b = true ↔ prM F T P V k a b = true := by
    rw [prM_t]
    unfold prC udB dmB ssB
    by_cases h : k = 0
    · simp only [h, if_true, Bool.and_eq_true, Bool.or_eq_true, decide_eq_true_eq, not_true, false_and, or_false, true_and, ← ha, ← hb]
      simp only [Int32.lt_iff_toInt_lt, Int32.le_iff_toInt_le, ← Int32.toInt_inj, tI0]
      constructor
      · rintro ⟨h1, h2, h3, h4⟩
        exact ⟨h1, h2, by omega, h3, by omega⟩
      · rintro ⟨h1, h2, h3, h4, h5⟩
        exact ⟨h1, h2, h4, by omega⟩
    · simp only [h, if_false, Bool.and_eq_true, Bool.or_eq_true, decide_eq_true_eq, false_and, false_or, not_false_eq_true, true_and, ← ha, ← hb]
      constructor
      · rintro ⟨h1, h2, h3, ⟨h4, h5⟩, h6⟩
        exact ⟨h1, h2, h4, h3, h5, h6⟩
      · rintro ⟨h1, h2, h4, h3, h5, h6⟩
        exact ⟨h1, h2, h3, ⟨h4, h5⟩, h6⟩
  cases h1 : prC F T P V k a b <;> cases h2 : prM F T P V k a b
  · rfl
  · rw [h1, h2] at e
    exact absurd (e.mpr rfl) (by decide)
  · rw [h1, h2] at e
    exact absurd (e.mp rfl) (by decide)
  · rfl
theorem qq_eq {F T P V : Nat → Int32} {o : Nat → Nat} (hV : ∀ j, -1 ≤ (V j).toInt ∧ (V j).toInt ≤ 3) (k : Int32) : qC F T P V o k = qM F T P V o k := by
  funext a b
  exact pr_eq hV k (o a) (o b)
theorem pOK_uni {q : Nat → Nat → Bool} {o : Nat → Nat} {n : Nat} {i w r1 r2 : Int32} (h1 : pOK q o n i w r1) (h2 : pOK q o n i w r2) : r1 = r2 := by
  by_cases c : ∃ a b, a < b ∧ b < n ∧ q a b = true ∧ nI (posc q n a b) = i
  · obtain ⟨a, b, c1, c2, c3, c4⟩ := c
    rw [h1.1 a b c1 c2 c3 c4, h2.1 a b c1 c2 c3 c4]
  · have hno : ∀ a b, a < b → b < n → q a b = true → ¬ nI (posc q n a b) = i := fun a b c1 c2 c3 c4 => c ⟨a, b, c1, c2, c3, c4⟩
    rw [h1.2 hno, h2.2 hno]
