-- the words of the state
def rkN (F P : Nat → Int32) (n x : Nat) : Nat := cnt (fun j => decide (j ≠ x) && ahd F P j x) n
def atN (F T : Nat → Int32) (n : Nat) (t : Int32) : Nat := cnt (fun k => decide (F k ≤ t) && decide (t < T k)) n
def szN (V : Nat → Int32) (n : Nat) (v : Int32) : Nat := cnt (fun k => decide (V k = v)) n
def usN (V : Nat → Int32) (n : Nat) : Nat := cnt (fun v => decide (0 < szN V n (nI v))) 4
def ndN (F T : Nat → Int32) (n : Nat) : Nat := mxN (fun k => atN F T n (F k)) n
def clM (F T V : Nat → Int32) (n x : Nat) : Nat := cnt (fun j => decide (j ≠ x) && (decide (0 ≤ V x) && (decide (V j = V x) && tog F T j x))) n
def whM (F T V : Nat → Int32) (n : Nat) : Bool := allB (fun k => decide (0 ≤ V k) && decide (clM F T V n k = 0)) n
def isoB (V : Nat → Int32) (v : Int32) (x : Nat) : Bool := if v = 4 then decide (0 ≤ V x) else decide (V x = v)
def okN (f t q : Int32) : Bool := decide (0 ≤ f) && (decide (f < t) && (decide (t ≤ 100000) && (decide (0 ≤ q) && decide (q ≤ 127))))
theorem rkN_le {F P : Nat → Int32} {n x : Nat} : rkN F P n x ≤ n := cnt_le _ _
theorem atN_le {F T : Nat → Int32} {n : Nat} {t : Int32} : atN F T n t ≤ n := cnt_le _ _
theorem szN_le {V : Nat → Int32} {n : Nat} {v : Int32} : szN V n v ≤ n := cnt_le _ _
theorem usN_le {V : Nat → Int32} {n : Nat} : usN V n ≤ 4 := cnt_le _ _
theorem clM_le {F T V : Nat → Int32} {n x : Nat} : clM F T V n x ≤ n := cnt_le _ _
theorem ndN_le {F T : Nat → Int32} {n : Nat} : ndN F T n ≤ n := mxN_le (fun _ => atN_le) n
theorem gk_dec {r : Nat} (h : 0 < r) : nI r + Int32.ofInt (-1) = nI (r - 1) := by
  rw [show Int32.ofInt (-1) = -1 by decide]
  obtain ⟨k, rfl⟩ : ∃ k, r = k + 1 := ⟨r - 1, by omega⟩
  exact pk_m1 k
theorem nxU_y {q : Nat → Bool} {o : Nat → Nat} {r n : Nat} (h : r < n) (h0 : 0 < r) (hq : q r = true) : nI (o r) = oi (nxU q o (r - 1 + 1) (n - (r - 1 + 1))) := by
  rw [show r - 1 + 1 = r by omega, show n - r = (n - (r + 1)) + 1 by omega]
  simp only [nxU, hq, if_true, oi_s]
theorem nxU_n {q : Nat → Bool} {o : Nat → Nat} {r n : Nat} (h : r < n) (h0 : 0 < r) (hq : q r = false) : oi (nxU q o (r + 1) (n - (r + 1))) = oi (nxU q o (r - 1 + 1) (n - (r - 1 + 1))) := by
  rw [show r - 1 + 1 = r by omega, show n - r = (n - (r + 1)) + 1 by omega]
  simp [nxU, hq]
-- counts
theorem cnt_lt {p : Nat → Bool} : ∀ {n x : Nat}, x < n → p x = false → cnt p n < n
  | 0, _, h, _ => absurd h (Nat.not_lt_zero _)
  | n + 1, x, h, hp => by
    by_cases q : x = n
    · subst q
      have := cnt_le p x
      simp only [cnt, hp]
      simp
      omega
    · have := cnt_lt (n := n) (show x < n by omega) hp
      simp only [cnt]
      split <;> omega
theorem cnt_0 {p : Nat → Bool} {n : Nat} : cnt p n = 0 ↔ ∀ k, k < n → p k = false := by
  induction n with
  | zero => exact ⟨fun _ k h => absurd h (Nat.not_lt_zero k), fun _ => rfl⟩
  | succ n ih =>
    constructor
    · intro h k hk
      simp only [cnt] at h
      have h1 : cnt p n = 0 := by omega
      by_cases q : k = n
      · subst q
        cases hq : p k with
        | false => rfl
        | true => rw [hq] at h; simp at h
      · exact ih.mp h1 k (by omega)
    · intro h
      simp only [cnt, ih.mpr (fun k hk => h k (by omega)), h n (Nat.lt_succ_self n)]
      rfl
theorem cnt_pos {p : Nat → Bool} {n : Nat} (h : 0 < cnt p n) : ∃ k, k < n ∧ p k = true := by
  apply Classical.byContradiction
  intro q
  have : cnt p n = 0 := cnt_0.mpr (fun k hk => by
    cases hp : p k with
    | false => rfl
    | true => exact absurd ⟨k, hk, hp⟩ q)
  omega
theorem cnt_ltK (i : Nat) : ∀ n, i ≤ n → cnt (fun j => decide (j < i)) n = i
  | 0, h => by simp only [cnt]; omega
  | n + 1, h => by
    simp only [cnt]
    by_cases q : i = n + 1
    · subst q
      have e : cnt (fun j => decide (j < n + 1)) n = cnt (fun j => decide (j < n)) n := cnt_congr (fun k hk => by simp [hk, Nat.lt_succ_of_lt hk])
      rw [e, cnt_ltK n n (Nat.le_refl n)]
      simp
    · rw [cnt_ltK i n (by omega), if_neg (by simp; omega)]
      rfl
theorem cnt_eq1 (x : Nat) : ∀ n, x < n → cnt (fun j => decide (j = x)) n = 1
  | 0, h => absurd h (Nat.not_lt_zero _)
  | n + 1, h => by
    simp only [cnt]
    by_cases q : x = n
    · subst q
      rw [cnt_0.mpr (fun k hk => by simp; omega)]
      simp
    · rw [cnt_eq1 x n (by omega), if_neg (by simp; omega)]
-- the order: strict, total
theorem ahd_irr {F P : Nat → Int32} {x : Nat} : ahd F P x x = false := by
  rw [ahd_f]
  simp only [Int32.lt_iff_toInt_lt, ← Int32.toInt_inj]
  omega
theorem ahd_tr {F P : Nat → Int32} {x y z : Nat} (h1 : ahd F P x y = true) (h2 : ahd F P y z = true) : ahd F P x z = true := by
  rw [ahd_t] at *
  simp only [Int32.lt_iff_toInt_lt, ← Int32.toInt_inj] at *
  omega
theorem ahd_tot {F P : Nat → Int32} {x y : Nat} (h : x ≠ y) (h1 : ahd F P x y = false) : ahd F P y x = true := by
  rw [ahd_t]
  rw [ahd_f] at h1
  simp only [Int32.lt_iff_toInt_lt, ← Int32.toInt_inj] at *
  omega
theorem ahd_asy {F P : Nat → Int32} {x y : Nat} (h1 : ahd F P x y = true) : ahd F P y x = false := by
  rw [ahd_f]
  rw [ahd_t] at h1
  simp only [Int32.lt_iff_toInt_lt, ← Int32.toInt_inj] at *
  omega
theorem rkN_lt {F P : Nat → Int32} {n x : Nat} (h : x < n) : rkN F P n x < n := cnt_lt h (by simp)
-- o lists 0 .. n - 1, each once
def prm (n : Nat) (o : Nat → Nat) : Prop := ∀ p : Nat → Bool, cnt (fun i => p (o i)) n = cnt p n
def srt (F P : Nat → Int32) (n : Nat) (o : Nat → Nat) : Prop := ∀ i j, i < j → j < n → ahd F P (o i) (o j) = true
theorem prm_lt {n : Nat} {o : Nat → Nat} (h : prm n o) {i : Nat} (hi : i < n) : o i < n := by
  have h1 := h (fun x => decide (n ≤ x))
  have h2 : cnt (fun x => decide (n ≤ x)) n = 0 := cnt_0.mpr (fun k hk => by simp; omega)
  rw [h2] at h1
  have := cnt_0.mp h1 i hi
  simp at this
  omega
theorem prm_sur {n : Nat} {o : Nat → Nat} (h : prm n o) {x : Nat} (hx : x < n) : ∃ i, i < n ∧ o i = x := by
  have h1 := h (fun y => decide (y = x))
  rw [cnt_eq1 x n hx] at h1
  obtain ⟨k, hk, hp⟩ := cnt_pos (p := fun i => decide (o i = x)) (n := n) (by rw [h1]; decide)
  exact ⟨k, hk, by simpa using hp⟩
theorem srt_rk {F P : Nat → Int32} {n : Nat} {o : Nat → Nat} (hp : prm n o) (hs : srt F P n o) {i : Nat} (hi : i < n) : rkN F P n (o i) = i := by
  unfold rkN
  rw [← hp (fun j => decide (j ≠ o i) && ahd F P j (o i))]
  rw [cnt_congr (q := fun j => decide (j < i)) (fun k hk => ?_)]
  · exact cnt_ltK i n (by omega)
  · rcases Nat.lt_trichotomy k i with q | q | q
    · have h1 := hs k i q hi
      have h2 : o k ≠ o i := fun e => by rw [e, ahd_irr] at h1; cases h1
      simp [h1, h2, q]
    · subst q
      simp
    · have h1 := ahd_asy (hs i k q hk)
      simp [h1]
      omega
theorem srt_inv {F P : Nat → Int32} {n : Nat} {o : Nat → Nat} (hp : prm n o) (hs : srt F P n o) {x : Nat} (hx : x < n) : o (rkN F P n x) = x := by
  obtain ⟨i, hi, rfl⟩ := prm_sur hp hx
  rw [srt_rk hp hs hi]
theorem srt_rk_lt {F P : Nat → Int32} {n : Nat} {o : Nat → Nat} (hp : prm n o) (hs : srt F P n o) {x y : Nat} (hx : x < n) (hy : y < n) : ahd F P x y = true ↔ rkN F P n x < rkN F P n y := by
  obtain ⟨i, hi, rfl⟩ := prm_sur hp hx
  obtain ⟨j, hj, rfl⟩ := prm_sur hp hy
  rw [srt_rk hp hs hi, srt_rk hp hs hj]
  constructor
  · intro h
    rcases Nat.lt_trichotomy i j with q | q | q
    · exact q
    · subst q
      rw [ahd_irr] at h
      cases h
    · rw [ahd_asy (hs j i q hi)] at h
      cases h
  · intro h
    exact hs i j h hj
