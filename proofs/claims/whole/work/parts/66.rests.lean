-- rests: q tells which notes count; a time is silent if none of them sounds
def snB (q : Nat → Bool) (F T : Nat → Int32) (t : Int32) (k : Nat) : Prop := q k = true ∧ F k ≤ t ∧ t < T k
def SIL (q : Nat → Bool) (F T : Nat → Int32) (n : Nat) (p t : Int32) : Prop := p ≤ t ∧ (∀ k, k < n → ¬ snB q F T t k) ∧ (∀ t', p ≤ t' → t' < t → ∃ k, k < n ∧ snB q F T t' k)
theorem SIL_uni {q : Nat → Bool} {F T : Nat → Int32} {n : Nat} {p t t2 : Int32} (h : SIL q F T n p t) (h2 : SIL q F T n p t2) : t = t2 := by
  have key : ∀ {a b : Int32}, SIL q F T n p a → SIL q F T n p b → ¬ a < b := fun ha hb hlt => by
    obtain ⟨k, hk, hs⟩ := hb.2.2 _ ha.1 hlt
    exact ha.2.1 k hk hs
  have h3 := key h h2
  have h4 := key h2 h
  rw [Int32.lt_iff_toInt_lt] at h3 h4
  exact Int32.toInt_inj.mp (by omega)
def snf (q : Nat → Bool) (F : Nat → Int32) (tm e : Int32) : Nat → Int32
  | 0 => e
  | k + 1 => if q k = true ∧ tm ≤ F k ∧ F k < snf q F tm e k then F k else snf q F tm e k
theorem snf_y {q : Nat → Bool} {F : Nat → Int32} {tm e : Int32} {k : Nat} (h : q k = true ∧ tm ≤ F k ∧ F k < snf q F tm e k) : F k = snf q F tm e (k + 1) := by rw [snf, if_pos h]
theorem snf_n {q : Nat → Bool} {F : Nat → Int32} {tm e : Int32} {k : Nat} (h : ¬ (q k = true ∧ tm ≤ F k ∧ F k < snf q F tm e k)) : snf q F tm e k = snf q F tm e (k + 1) := by rw [snf, if_neg h]
theorem snf_le {q : Nat → Bool} {F : Nat → Int32} {tm e : Int32} : ∀ n, snf q F tm e n ≤ e ∧ (∀ k, k < n → q k = true → tm ≤ F k → snf q F tm e n ≤ F k) ∧ (snf q F tm e n = e ∨ ∃ k, k < n ∧ q k = true ∧ tm ≤ F k ∧ snf q F tm e n = F k)
  | 0 => ⟨by simp [snf], fun k hk => absurd hk (Nat.not_lt_zero k), Or.inl rfl⟩
  | n + 1 => by
    obtain ⟨h1, h2, h3⟩ := snf_le (q := q) (F := F) (tm := tm) (e := e) n
    by_cases c : q n = true ∧ tm ≤ F n ∧ F n < snf q F tm e n
    · rw [← snf_y c]
      have c3 := c.2.2
      refine ⟨?_, fun k hk hq ht => ?_, Or.inr ⟨n, Nat.lt_succ_self n, c.1, c.2.1, rfl⟩⟩
      · rw [Int32.le_iff_toInt_le] at *
        rw [Int32.lt_iff_toInt_lt] at c3
        omega
      · by_cases e2 : k = n
        · rw [e2]
          exact Int32.le_refl _
        · have := h2 k (by omega) hq ht
          rw [Int32.le_iff_toInt_le] at *
          rw [Int32.lt_iff_toInt_lt] at c3
          omega
    · rw [← snf_n c]
      refine ⟨h1, fun k hk hq ht => ?_, h3.imp id (fun ⟨k, hk, r⟩ => ⟨k, by omega, r⟩)⟩
      by_cases e2 : k = n
      · subst e2
        apply Classical.byContradiction
        intro hh
        exact c ⟨hq, ht, Int32.not_le.mp hh⟩
      · exact h2 k (by omega) hq ht
theorem snf_eq {q : Nat → Bool} {F : Nat → Int32} {tm e y : Int32} {n : Nat} (hy : y ≤ e) (h1 : ∀ k, k < n → q k = true → tm ≤ F k → y ≤ F k) (h2 : y = e ∨ ∃ k, k < n ∧ q k = true ∧ tm ≤ F k ∧ F k = y) : y = snf q F tm e n := by
  obtain ⟨a1, a2, a3⟩ := snf_le (q := q) (F := F) (tm := tm) (e := e) n
  have b1 : y ≤ snf q F tm e n := by
    rcases a3 with r | ⟨k, hk, hq, ht, r⟩
    · rw [r]
      exact hy
    · rw [r]
      exact h1 k hk hq ht
  have b2 : snf q F tm e n ≤ y := by
    rcases h2 with r | ⟨k, hk, hq, ht, r⟩
    · rw [r]
      exact a1
    · rw [← r]
      exact a2 k hk hq ht
  rw [Int32.le_iff_toInt_le] at b1 b2
  exact Int32.toInt_inj.mp (by omega)
def pe (RE : Nat → Int32) (j : Nat) : Int32 := if j = 0 then 0 else RE (j - 1)
theorem pe_s {RE : Nat → Int32} {j : Nat} : pe RE (j + 1) = RE j := by simp [pe]
def rwP (q : Nat → Bool) (F T : Nat → Int32) (n c : Nat) (RB RE : Nat → Int32) : Prop := ∀ j, j < c → SIL q F T n (pe RE j) (RB j) ∧ RB j < mxT T n ∧ RE j = snf q F (RB j) (mxT T n) n
def RP (q : Nat → Bool) (F T : Nat → Int32) (n c : Nat) (RB RE : Nat → Int32) : Prop := rwP q F T n c RB RE ∧ ∃ tf, SIL q F T n (pe RE c) tf ∧ ¬ tf < mxT T n
-- the class's rows as they grow
def CI (q : Nat → Bool) (F T : Nat → Int32) (o : Nat → Nat) (n r c : Nat) (re : Int32) (RB RE : Nat → Int32) : Prop := c ≤ r ∧ rwP q F T n c RB RE ∧ pe RE c ≤ re ∧ (∀ t, pe RE c ≤ t → t < re → ∃ k, k < n ∧ snB q F T t k) ∧ (∀ i, i < r → q (o i) = true → T (o i) ≤ re)
theorem CI_0 {q : Nat → Bool} {F T : Nat → Int32} {o : Nat → Nat} {n : Nat} {RB RE : Nat → Int32} : CI q F T o n 0 0 0 RB RE := ⟨Nat.le_refl 0, fun j hj => absurd hj (Nat.not_lt_zero j), Int32.le_refl _, fun t h1 h2 => absurd h2 (Int32.not_lt.mpr h1), fun i hi => absurd hi (Nat.not_lt_zero i)⟩
theorem mxT_ge {T : Nat → Int32} : ∀ {n k : Nat}, k < n → T k ≤ mxT T n
  | 0, k, h => absurd h (Nat.not_lt_zero k)
  | n + 1, k, h => by
    simp only [mxT]
    by_cases e : k = n
    · subst e
      split
      · exact Int32.le_refl _
      · rename_i h2
        exact Int32.not_lt.mp h2
    · have := mxT_ge (T := T) (n := n) (k := k) (by omega)
      split
      · rename_i h2
        rw [Int32.le_iff_toInt_le] at *
        rw [Int32.lt_iff_toInt_lt] at h2
        omega
      · exact this
theorem CI_skip {q : Nat → Bool} {F T : Nat → Int32} {o : Nat → Nat} {n r c : Nat} {re : Int32} {RB RE : Nat → Int32} (h : CI q F T o n r c re RB RE) (hq : q (o r) = false) : CI q F T o n (r + 1) c re RB RE := by
  refine ⟨Nat.le_succ_of_le h.1, h.2.1, h.2.2.1, h.2.2.2.1, fun i hi hqi => ?_⟩
  by_cases e : i = r
  · rw [e, hq] at hqi
    cases hqi
  · exact h.2.2.2.2 i (by omega) hqi
theorem srt_F {F P : Nat → Int32} {n : Nat} {o : Nat → Nat} (hs : srt F P n o) {i j : Nat} (hij : i ≤ j) (hj : j < n) : F (o i) ≤ F (o j) := by
  by_cases e : i = j
  · rw [e]
    exact Int32.le_refl _
  · have := ahd_t.mp (hs i j (by omega) hj)
    rw [Int32.le_iff_toInt_le]
    rw [Int32.lt_iff_toInt_lt] at this
    rcases this with a | ⟨a, _⟩
    · omega
    · rw [a]
      exact Int.le_refl _
theorem max_ge {x y : Int32} : x ≤ (if x < y then y else x) ∧ y ≤ (if x < y then y else x) ∧ ((if x < y then y else x) = x ∨ (if x < y then y else x) = y) := by
  by_cases h : x < y
  · rw [if_pos h]
    refine ⟨?_, Int32.le_refl _, Or.inr rfl⟩
    rw [Int32.le_iff_toInt_le]
    rw [Int32.lt_iff_toInt_lt] at h
    omega
  · rw [if_neg h]
    exact ⟨Int32.le_refl _, Int32.not_lt.mp h, Or.inl rfl⟩
theorem CI_on {q : Nat → Bool} {F T : Nat → Int32} {o : Nat → Nat} {n r c : Nat} {re : Int32} {RB RE : Nat → Int32} (hon : o r < n) (h : CI q F T o n r c re RB RE) (hq : q (o r) = true) (hF : ¬ re < F (o r)) : CI q F T o n (r + 1) c (if re < T (o r) then T (o r) else re) RB RE := by
  obtain ⟨m1, m2, m3⟩ := max_ge (x := re) (y := T (o r))
  have hF2 := Int32.not_lt.mp hF
  refine ⟨Nat.le_succ_of_le h.1, h.2.1, ?_, fun t h1 h2 => ?_, fun i hi hqi => ?_⟩
  · have := h.2.2.1
    rw [Int32.le_iff_toInt_le] at *
    omega
  · by_cases c1 : t < re
    · exact h.2.2.2.1 t h1 c1
    · refine ⟨o r, hon, hq, ?_, ?_⟩
      · have := Int32.not_lt.mp c1
        rw [Int32.le_iff_toInt_le] at *
        omega
      · rcases m3 with e | e
        · rw [e] at h2
          exact absurd h2 c1
        · rwa [e] at h2
  · by_cases e : i = r
    · rw [e]
      exact m2
    · have := h.2.2.2.2 i (by omega) hqi
      rw [Int32.le_iff_toInt_le] at *
      omega
theorem rwP_up {q : Nat → Bool} {F T : Nat → Int32} {n c : Nat} {RB RE : Nat → Int32} {x y : Int32} (h : rwP q F T n c RB RE) (h1 : SIL q F T n (pe RE c) x) (h2 : x < mxT T n) (h3 : y = snf q F x (mxT T n) n) : rwP q F T n (c + 1) (upd RB c x) (upd RE c y) := by
  intro j hj
  by_cases e : j = c
  · subst e
    rw [pk_us, pk_us]
    have e1 : pe (upd RE j y) j = pe RE j := by
      unfold pe
      split
      · rfl
      · exact pk_un (by omega)
    rw [e1]
    exact ⟨h1, h2, h3⟩
  · rw [pk_un e, pk_un e]
    have e1 : pe (upd RE c y) j = pe RE j := by
      unfold pe
      split
      · rfl
      · exact pk_un (by omega)
    rw [e1]
    exact h j (by omega)
theorem CI_new {q : Nat → Bool} {F T P : Nat → Int32} {o : Nat → Nat} {n r c : Nat} {re : Int32} {RB RE : Nat → Int32} (hp : prm n o) (hs : srt F P n o) (hFT : ∀ k, k < n → F k < T k) (hr : r < n) (h : CI q F T o n r c re RB RE) (hq : q (o r) = true) (hF : re < F (o r)) : CI q F T o n (r + 1) (c + 1) (if re < T (o r) then T (o r) else re) (upd RB c re) (upd RE c (F (o r))) := by
  have hon := prm_lt hp hr
  have hft := hFT _ hon
  have hT : (if re < T (o r) then T (o r) else re) = T (o r) := by
    rw [if_pos]
    rw [Int32.lt_iff_toInt_lt] at *
    omega
  rw [hT]
  have hsil : SIL q F T n (pe RE c) re := by
    refine ⟨h.2.2.1, fun k hk hs2 => ?_, h.2.2.2.1⟩
    obtain ⟨i, hi, rfl⟩ := prm_sur hp hk
    by_cases c1 : i < r
    · have := h.2.2.2.2 i c1 hs2.1
      exact absurd hs2.2.2 (Int32.not_lt.mpr this)
    · have := srt_F hs (i := r) (j := i) (by omega) hi
      have h5 := hs2.2.1
      rw [Int32.le_iff_toInt_le] at this h5
      rw [Int32.lt_iff_toInt_lt] at hF
      omega
  have hlt : re < mxT T n := by
    have := mxT_ge (T := T) hon
    rw [Int32.le_iff_toInt_le] at this
    rw [Int32.lt_iff_toInt_lt] at *
    omega
  have hsnd : F (o r) = snf q F re (mxT T n) n := by
    refine snf_eq ?_ (fun k hk hqk hk2 => ?_) (Or.inr ⟨o r, hon, hq, ?_, rfl⟩)
    · have := mxT_ge (T := T) hon
      rw [Int32.le_iff_toInt_le] at *
      rw [Int32.lt_iff_toInt_lt] at hft
      omega
    · obtain ⟨i, hi, rfl⟩ := prm_sur hp hk
      by_cases c1 : i < r
      · have h6 := h.2.2.2.2 i c1 hqk
        have h7 := hFT _ hk
        rw [Int32.le_iff_toInt_le] at *
        rw [Int32.lt_iff_toInt_lt] at h7
        omega
      · exact srt_F hs (by omega) hi
    · rw [Int32.le_iff_toInt_le]
      rw [Int32.lt_iff_toInt_lt] at hF
      omega
  refine ⟨Nat.succ_le_succ h.1, rwP_up h.2.1 hsil hlt hsnd, ?_, fun t h1 h2 => ?_, fun i hi hqi => ?_⟩
  · rw [pe_s, pk_us, Int32.le_iff_toInt_le]
    rw [Int32.lt_iff_toInt_lt] at hft
    omega
  · rw [pe_s, pk_us] at h1
    exact ⟨o r, hon, hq, h1, h2⟩
  · by_cases e : i = r
    · rw [e]
      exact Int32.le_refl _
    · have h6 := h.2.2.2.2 i (by omega) hqi
      rw [Int32.le_iff_toInt_le] at *
      rw [Int32.lt_iff_toInt_lt] at hF hft
      omega
theorem CI_end {q : Nat → Bool} {F T P : Nat → Int32} {o : Nat → Nat} {n c : Nat} {re : Int32} {RB RE : Nat → Int32} (hp : prm n o) (hFT : ∀ k, k < n → F k < T k) (h : CI q F T o n n c re RB RE) : SIL q F T n (pe RE c) re ∧ (∀ k, k < n → q k = true → ¬ re ≤ F k) := by
  have key : ∀ k, k < n → q k = true → T k ≤ re := fun k hk hqk => by
    obtain ⟨i, hi, rfl⟩ := prm_sur hp hk
    exact h.2.2.2.2 i hi hqk
  refine ⟨⟨h.2.2.1, fun k hk hs2 => absurd hs2.2.2 (Int32.not_lt.mpr (key k hk hs2.1)), h.2.2.2.1⟩, fun k hk hqk h9 => ?_⟩
  have h6 := key k hk hqk
  have h7 := hFT k hk
  rw [Int32.le_iff_toInt_le] at *
  rw [Int32.lt_iff_toInt_lt] at h7
  omega
theorem CI_full {q : Nat → Bool} {F T P : Nat → Int32} {o : Nat → Nat} {n c : Nat} {re : Int32} {RB RE : Nat → Int32} (hp : prm n o) (hFT : ∀ k, k < n → F k < T k) (h : CI q F T o n n c re RB RE) (hre : re < mxT T n) : RP q F T n (c + 1) (upd RB c re) (upd RE c (mxT T n)) := by
  obtain ⟨h1, h2⟩ := CI_end (P := P) hp hFT h
  have hsnd : mxT T n = snf q F re (mxT T n) n := snf_eq (Int32.le_refl _) (fun k hk hqk hk2 => absurd hk2 (h2 k hk hqk)) (Or.inl rfl)
  refine ⟨rwP_up h.2.1 h1 hre hsnd, mxT T n, ?_, Int32.lt_irrefl⟩
  rw [pe_s, pk_us]
  refine ⟨Int32.le_refl _, fun k hk hs2 => absurd hs2.2.2 (Int32.not_lt.mpr (mxT_ge hk)), fun t h3 h4 => absurd h4 (Int32.not_lt.mpr h3)⟩
theorem CI_stop {q : Nat → Bool} {F T P : Nat → Int32} {o : Nat → Nat} {n c : Nat} {re : Int32} {RB RE : Nat → Int32} (hp : prm n o) (hFT : ∀ k, k < n → F k < T k) (h : CI q F T o n n c re RB RE) (hre : ¬ re < mxT T n) : RP q F T n c RB RE := ⟨h.2.1, re, (CI_end (P := P) hp hFT h).1, hre⟩
-- the reference's walk along the rows
theorem RP_at {q : Nat → Bool} {F T : Nat → Int32} {n c j : Nat} {RB RE : Nat → Int32} {t : Int32} (h : RP q F T n c RB RE) (hj : j ≤ c) (ht : SIL q F T n (pe RE j) t) : (t < mxT T n → j < c ∧ t = RB j) ∧ (¬ t < mxT T n → j = c) := by
  constructor
  · intro h1
    by_cases e : j = c
    · obtain ⟨tf, h2, h3⟩ := h.2
      rw [e] at ht
      rw [SIL_uni ht h2] at h1
      exact absurd h1 h3
    · exact ⟨by omega, SIL_uni ht (h.1 j (by omega)).1⟩
  · intro h1
    apply Classical.byContradiction
    intro e
    have h2 := h.1 j (by omega)
    rw [SIL_uni ht h2.1] at h1
    exact h1 h2.2.1
theorem RP_next {q : Nat → Bool} {F T : Nat → Int32} {n c j : Nat} {RB RE : Nat → Int32} (h : RP q F T n c RB RE) (hj : j < c) : snf q F (RB j) (mxT T n) n = RE j := (h.1 j hj).2.2.symm
