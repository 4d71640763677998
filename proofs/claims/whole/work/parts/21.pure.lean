-- numbers of Int32 as Ints
theorem tI0 : (0 : Int32).toInt = 0 := rfl
theorem tI1 : (1 : Int32).toInt = 1 := rfl
theorem tI2 : (2 : Int32).toInt = 2 := rfl
theorem tI3 : (3 : Int32).toInt = 3 := rfl
theorem tI4 : (4 : Int32).toInt = 4 := rfl
theorem tI6 : (6 : Int32).toInt = 6 := rfl
theorem tI14 : (14 : Int32).toInt = 14 := rfl
theorem tI59 : (59 : Int32).toInt = 59 := rfl
theorem tI60 : (60 : Int32).toInt = 60 := rfl
theorem tI127 : (127 : Int32).toInt = 127 := rfl
theorem tI1000 : (1000 : Int32).toInt = 1000 := rfl
theorem tI100000 : (100000 : Int32).toInt = 100000 := rfl
theorem tIm1 : (-1 : Int32).toInt = -1 := rfl
theorem tIm2 : (-2 : Int32).toInt = -2 := rfl
theorem tIm3 : (-3 : Int32).toInt = -3 := rfl
theorem tIm4 : (-4 : Int32).toInt = -4 := rfl
theorem tIbig : (2000000000 : Int32).toInt = 2000000000 := rfl
-- how many
def cnt (p : Nat → Bool) : Nat → Nat
  | 0 => 0
  | k + 1 => cnt p k + (if p k then 1 else 0)
theorem cnt_le (p : Nat → Bool) : ∀ k, cnt p k ≤ k
  | 0 => Nat.le_refl 0
  | k + 1 => by
    have := cnt_le p k
    simp only [cnt]
    split <;> omega
theorem cnt_s1 {p : Nat → Bool} {k : Nat} (h : p k = true) : cnt p (k + 1) = cnt p k + 1 := by simp [cnt, h]
theorem cnt_s0 {p : Nat → Bool} {k : Nat} (h : p k = false) : cnt p (k + 1) = cnt p k := by simp [cnt, h]
theorem cnt_y {p : Nat → Bool} {k : Nat} (h : p k = true) : nI (cnt p k) + 1 = nI (cnt p (k + 1)) := by rw [cnt_s1 h]; exact nI_1 _
theorem cnt_y1 {p : Nat → Bool} {k : Nat} (h : p k = true) : nI (cnt p k + 1) = nI (cnt p (k + 1)) := by rw [cnt_s1 h]
theorem cnt_n {p : Nat → Bool} {k : Nat} (h : p k = false) : nI (cnt p k) = nI (cnt p (k + 1)) := by rw [cnt_s0 h]
theorem cnt_n0 {p : Nat → Bool} {k : Nat} (h : p k = false) : nI (cnt p k + 0) = nI (cnt p (k + 1)) := by rw [cnt_s0 h]; rfl
theorem cnt_congr {p q : Nat → Bool} {n : Nat} (h : ∀ k, k < n → p k = q k) : cnt p n = cnt q n := by
  induction n with
  | zero => rfl
  | succ n ih => simp only [cnt, h n (Nat.lt_succ_self n), ih (fun k hk => h k (Nat.lt_succ_of_lt hk))]
-- two sound together; one is ahead of the other
def tog (F T : Nat → Int32) (a b : Nat) : Bool := decide (F a < T b) && decide (F b < T a)
theorem tog_t {F T : Nat → Int32} {a b : Nat} : tog F T a b = true ↔ F a < T b ∧ F b < T a := by simp [tog]
theorem tog_f {F T : Nat → Int32} {a b : Nat} : tog F T a b = false ↔ ¬ (F a < T b ∧ F b < T a) := by
  rw [← tog_t]
  cases tog F T a b <;> simp
def ahd (F P : Nat → Int32) (a b : Nat) : Bool := decide (F a < F b ∨ (F a = F b ∧ (P b < P a ∨ (P a = P b ∧ a < b))))
theorem ahd_t {F P : Nat → Int32} {a b : Nat} : ahd F P a b = true ↔ (F a < F b ∨ (F a = F b ∧ (P b < P a ∨ (P a = P b ∧ a < b)))) := by simp [ahd]
theorem ahd_f {F P : Nat → Int32} {a b : Nat} : ahd F P a b = false ↔ ¬ (F a < F b ∨ (F a = F b ∧ (P b < P a ∨ (P a = P b ∧ a < b)))) := by
  rw [← ahd_t]
  cases ahd F P a b <;> simp
-- all of them
def allB (p : Nat → Bool) : Nat → Bool
  | 0 => true
  | k + 1 => allB p k && p k
theorem allB_t {p : Nat → Bool} : ∀ {n : Nat}, allB p n = true ↔ ∀ k, k < n → p k = true
  | 0 => ⟨fun _ k h => absurd h (Nat.not_lt_zero k), fun _ => rfl⟩
  | n + 1 => by
    simp only [allB, Bool.and_eq_true, allB_t (n := n)]
    exact ⟨fun ⟨h1, h2⟩ k hk => (Nat.lt_succ_iff_lt_or_eq.mp hk).elim (h1 k) (fun q => q ▸ h2), fun h => ⟨fun k hk => h k (Nat.lt_succ_of_lt hk), h n (Nat.lt_succ_self n)⟩⟩
theorem and_y {p : Nat → Bool} {k : Nat} (h : p k = true) : b2i (allB p k) &&& 1 = b2i (allB p (k + 1)) := by
  simp only [allB, h, Bool.and_true]
  cases allB p k <;> decide
theorem and_n {p : Nat → Bool} {k : Nat} (h : p k = false) : b2i (allB p k) &&& 0 = b2i (allB p (k + 1)) := by
  simp only [allB, h, Bool.and_false]
  cases allB p k <;> decide
-- the greatest
def mxT (T : Nat → Int32) : Nat → Int32
  | 0 => 0
  | k + 1 => if mxT T k < T k then T k else mxT T k
theorem mxT_y {T : Nat → Int32} {k : Nat} (h : mxT T k < T k) : T k = mxT T (k + 1) := by simp only [mxT, if_pos h]
theorem mxT_n {T : Nat → Int32} {k : Nat} (h : ¬ mxT T k < T k) : mxT T k = mxT T (k + 1) := by simp only [mxT, if_neg h]
def mxN (f : Nat → Nat) : Nat → Nat
  | 0 => 0
  | k + 1 => if mxN f k < f k then f k else mxN f k
theorem mxN_le {f : Nat → Nat} {B : Nat} (h : ∀ k, f k ≤ B) : ∀ k, mxN f k ≤ B
  | 0 => Nat.zero_le B
  | k + 1 => by
    simp only [mxN]
    split
    · exact h k
    · exact mxN_le h k
theorem mxN_y {f : Nat → Nat} {k : Nat} (h : mxN f k < f k) : nI (f k) = nI (mxN f (k + 1)) := by simp only [mxN, if_pos h]
theorem mxN_n {f : Nat → Nat} {k : Nat} (h : ¬ mxN f k < f k) : nI (mxN f k) = nI (mxN f (k + 1)) := by simp only [mxN, if_neg h]
theorem mxN_m {f : Nat → Nat} {k : Nat} (h1 : mxN f k < 2 ^ 31) (h2 : f k < 2 ^ 31) : (if nI (mxN f k) < nI (f k) then nI (f k) else nI (mxN f k)) = nI (mxN f (k + 1)) := by
  by_cases h : mxN f k < f k
  · rw [if_pos ((nI_ltI h1 h2).mpr h)]
    exact mxN_y h
  · rw [if_neg (fun q => h ((nI_ltI h1 h2).mp q))]
    exact mxN_n h
-- the lowest, the highest of a voice
def lowC (V P : Nat → Int32) (v : Int32) : Nat → Int32
  | 0 => -1
  | k + 1 => if V k = v ∧ (lowC V P v k = -1 ∨ P k < lowC V P v k) then P k else lowC V P v k
theorem lowC_y {V P : Nat → Int32} {v : Int32} {k : Nat} (h : V k = v ∧ (lowC V P v k = -1 ∨ P k < lowC V P v k)) : P k = lowC V P v (k + 1) := by rw [lowC, if_pos h]
theorem lowC_n {V P : Nat → Int32} {v : Int32} {k : Nat} (h : ¬ (V k = v ∧ (lowC V P v k = -1 ∨ P k < lowC V P v k))) : lowC V P v k = lowC V P v (k + 1) := by rw [lowC, if_neg h]
def lowM (V P : Nat → Int32) (v : Int32) : Nat → Int32
  | 0 => -1
  | k + 1 => if V k = v ∧ (lowM V P v k < 0 ∨ P k < lowM V P v k) then P k else lowM V P v k
theorem lowM_y {V P : Nat → Int32} {v : Int32} {k : Nat} (h : V k = v ∧ (lowM V P v k < 0 ∨ P k < lowM V P v k)) : P k = lowM V P v (k + 1) := by rw [lowM, if_pos h]
theorem lowM_n {V P : Nat → Int32} {v : Int32} {k : Nat} (h : ¬ (V k = v ∧ (lowM V P v k < 0 ∨ P k < lowM V P v k))) : lowM V P v k = lowM V P v (k + 1) := by rw [lowM, if_neg h]
def hiV (V P : Nat → Int32) (v : Int32) : Nat → Int32
  | 0 => -1
  | k + 1 => if V k = v ∧ hiV V P v k < P k then P k else hiV V P v k
theorem hiV_y {V P : Nat → Int32} {v : Int32} {k : Nat} (h : V k = v ∧ hiV V P v k < P k) : P k = hiV V P v (k + 1) := by rw [hiV, if_pos h]
theorem hiV_n {V P : Nat → Int32} {v : Int32} {k : Nat} (h : ¬ (V k = v ∧ hiV V P v k < P k)) : hiV V P v k = hiV V P v (k + 1) := by rw [hiV, if_neg h]
theorem hiV_m {V P : Nat → Int32} {v : Int32} {k : Nat} (h : V k = v) : (if hiV V P v k < P k then P k else hiV V P v k) = hiV V P v (k + 1) := by
  by_cases q : hiV V P v k < P k
  · rw [if_pos q]; exact hiV_y ⟨h, q⟩
  · rw [if_neg q]; exact hiV_n (fun r => q r.2)
-- none is -1, j is j + 1
def oi (x : Nat) : Int32 := if x = 0 then -1 else nI (x - 1)
theorem oi_0 : oi 0 = -1 := rfl
theorem oi_s (x : Nat) : oi (x + 1) = nI x := by simp [oi]
theorem oi_pos {x : Nat} (h : x ≠ 0) : oi x = nI (x - 1) := by simp [oi, h]
theorem oi_m1 {x : Nat} (hx : x < 2 ^ 31) : oi x = -1 ↔ x = 0 := by
  constructor
  · intro h
    rcases Nat.eq_zero_or_pos x with q | q
    · exact q
    · rw [oi_pos (by omega)] at h
      have := congrArg Int32.toInt h
      rw [nI_toInt (by omega), tIm1] at this
      omega
  · intro h
    rw [h]
    rfl
theorem oi_ge {x : Nat} (hx : x < 2 ^ 31) : 0 ≤ oi x ↔ x ≠ 0 := by
  constructor
  · intro h q
    rw [q] at h
    exact absurd h (by decide)
  · intro h
    rw [oi_pos h]
    exact nI_pos' (by omega)
-- the first of d places from lo on at which q holds: that of o there, and 1; else 0
def nxU (q : Nat → Bool) (o : Nat → Nat) (lo : Nat) : Nat → Nat
  | 0 => 0
  | d + 1 => if q lo then o lo + 1 else nxU q o (lo + 1) d
theorem nxU_le {q : Nat → Bool} {o : Nat → Nat} {B : Nat} (h : ∀ j, o j < B) : ∀ (d lo : Nat), nxU q o lo d ≤ B
  | 0, _ => Nat.zero_le B
  | d + 1, lo => by
    simp only [nxU]
    split
    · exact h lo
    · exact nxU_le h d (lo + 1)
