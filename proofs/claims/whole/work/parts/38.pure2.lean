-- the next of its voice
def flC (V : Nat → Int32) (o kr : Nat → Nat) (n x : Nat) : Nat := if V x = -1 then 0 else nxU (fun r => decide (V (o r) = V x)) o (kr x + 1) (n - (kr x + 1))
def flM (F P V : Nat → Int32) (o : Nat → Nat) (n x : Nat) : Nat := if 0 ≤ V x then nxU (fun r => decide (V (o r) = V x)) o (rkN F P n x + 1) (n - (rkN F P n x + 1)) else 0
theorem flC_le {V : Nat → Int32} {o kr : Nat → Nat} {n x : Nat} (h : ∀ j, o j < 60) : flC V o kr n x ≤ 60 := by
  unfold flC
  split
  · omega
  · exact nxU_le h _ _
theorem flM_le {F P V : Nat → Int32} {o : Nat → Nat} {n x : Nat} (h : ∀ j, o j < 60) : flM F P V o n x ≤ 60 := by
  unfold flM
  split
  · exact nxU_le h _ _
  · omega
theorem nxU_hit {q : Nat → Bool} {o : Nat → Nat} {i n : Nat} (h : i < n) (hq : q i = true) : nxU q o i (n - i) = o i + 1 := by
  rw [show n - i = (n - (i + 1)) + 1 by omega]
  simp [nxU, hq]
theorem nxU_miss {q : Nat → Bool} {o : Nat → Nat} {i n : Nat} (h : i < n) (hq : q i = false) : nxU q o i (n - i) = nxU q o (i + 1) (n - (i + 1)) := by
  rw [show n - i = (n - (i + 1)) + 1 by omega]
  simp [nxU, hq]
theorem nxU_end {q : Nat → Bool} {o : Nat → Nat} {i n : Nat} (h : n ≤ i) : nxU q o i (n - i) = 0 := by
  rw [show n - i = 0 by omega]
  rfl
theorem flC_none {V : Nat → Int32} {o kr : Nat → Nat} {n x : Nat} (h : V x = -1) : (-1 : Int32) = oi (flC V o kr n x) := by
  unfold flC
  rw [if_pos h]
  rfl
theorem flC_hit {V : Nat → Int32} {o kr : Nat → Nat} {n x i : Nat} (h : ¬ V x = -1) (e : nxU (fun r => decide (V (o r) = V x)) o i (n - i) = nxU (fun r => decide (V (o r) = V x)) o (kr x + 1) (n - (kr x + 1))) (hi : i < n) (hq : V (o i) = V x) : nI (o i) = oi (flC V o kr n x) := by
  unfold flC
  rw [if_neg h, ← e, nxU_hit hi (by simpa using hq), oi_s]
theorem flC_end {V : Nat → Int32} {o kr : Nat → Nat} {n x i : Nat} (h : ¬ V x = -1) (e : nxU (fun r => decide (V (o r) = V x)) o i (n - i) = nxU (fun r => decide (V (o r) = V x)) o (kr x + 1) (n - (kr x + 1))) (hi : n ≤ i) : (-1 : Int32) = oi (flC V o kr n x) := by
  unfold flC
  rw [if_neg h, ← e, nxU_end hi]
  rfl
theorem flM_end {F P V : Nat → Int32} {o : Nat → Nat} {n x r : Nat} (h : r = rkN F P n x) (hv : 0 ≤ V x ∨ r = n - 1) (hr : r < n) : oi (nxU (fun r => decide (V (o r) = V x)) o (r + 1) (n - (r + 1))) = oi (flM F P V o n x) := by
  unfold flM
  split
  · rw [h]
  · rcases hv with q | q
    · contradiction
    · rw [nxU_end (by omega)]
theorem flM_neg {F P V : Nat → Int32} {o : Nat → Nat} {n x r : Nat} (hv : 0 ≤ V x ∨ r = n - 1) (hr : r < n) (h : ¬ 0 ≤ V x) : oi (nxU (fun r => decide (V (o r) = V x)) o (r + 1) (n - (r + 1))) = oi (flM F P V o n x) := by
  unfold flM
  rw [if_neg h]
  rcases hv with q | q
  · contradiction
  · rw [nxU_end (by omega)]
-- clashes, whether it is whole
def clC (F T V : Nat → Int32) (n x : Nat) : Nat := if V x = -1 then 0 else cnt (fun j => decide (j ≠ x) && (decide (V j = V x) && tog F T x j)) n
theorem clC_le {F T V : Nat → Int32} {n x : Nat} : clC F T V n x ≤ n := by
  unfold clC
  split
  · omega
  · exact cnt_le _ _
theorem clC_end {F T V : Nat → Int32} {n x k : Nat} (h : k = n ∨ V x = -1) (h0 : V x = -1 → k = 0) : nI (cnt (fun j => decide (j ≠ x) && (decide (V j = V x) && tog F T x j)) k) = nI (clC F T V n x) := by
  unfold clC
  split
  · rename_i q
    rw [h0 q]
    rfl
  · rcases h with h | h
    · rw [h]
    · contradiction
def whp (F T V : Nat → Int32) (o kr : Nat → Nat) (n x : Nat) : Bool := decide (¬ V x = -1) && (decide (flC V o kr n x = 0) || !tog F T x (flC V o kr n x - 1))
def whC (F T V : Nat → Int32) (o kr : Nat → Nat) (n : Nat) : Bool := allB (whp F T V o kr n) n
theorem allB_f {p : Nat → Bool} {n k : Nat} (h : k < n) (hp : p k = false) : allB p n = false := by
  cases e : allB p n
  · rfl
  · rw [allB_t.mp e k h] at hp
    cases hp
theorem allB_s {p : Nat → Bool} {k : Nat} (h : allB p k = true) (hp : p k = true) : allB p (k + 1) = true := by simp [allB, h, hp]
theorem whp_1 {F T V : Nat → Int32} {o kr : Nat → Nat} {n x : Nat} (h : V x = -1) : whp F T V o kr n x = false := by simp [whp, h]
theorem whp_2 {F T V : Nat → Int32} {o kr : Nat → Nat} {n x : Nat} (h0 : flC V o kr n x ≠ 0) (h : tog F T x (flC V o kr n x - 1) = true) : whp F T V o kr n x = false := by simp [whp, h0, h]
theorem whp_3 {F T V : Nat → Int32} {o kr : Nat → Nat} {n x : Nat} (hv : ¬ V x = -1) (h0 : flC V o kr n x = 0) : whp F T V o kr n x = true := by simp [whp, h0, hv]
theorem whp_4 {F T V : Nat → Int32} {o kr : Nat → Nat} {n x : Nat} (hv : ¬ V x = -1) (h : tog F T x (flC V o kr n x - 1) = false) : whp F T V o kr n x = true := by simp [whp, h, hv]
-- pairs
def udB (V P : Nat → Int32) (a b : Nat) : Bool := decide (V a < V b) && decide (P a < P b)
def dmB (V P : Nat → Int32) (a b : Nat) : Bool := decide (¬ V a = V b) && decide (P a = P b)
def ssB (F T : Nat → Int32) (a b : Nat) : Bool := decide (F a = F b) && decide (T a = T b)
def prC (F T P V : Nat → Int32) (k : Int32) (a b : Nat) : Bool := decide (¬ V a = -1) && (decide (¬ V b = -1) && (tog F T a b && (if k = 0 then udB V P a b || udB V P b a else dmB V P a b && (decide (k = 1) || ssB F T a b))))
def prM (F T P V : Nat → Int32) (k : Int32) (a b : Nat) : Bool := decide (0 ≤ V a) && (decide (0 ≤ V b) && (decide (¬ V a = V b) && (tog F T a b && (if k = 0 then (if V a < V b then decide (P a < P b) else decide (P b < P a)) else decide (P a = P b) && (decide (k = 1) || ssB F T a b)))))
-- how many of a row; of the rows before; the number of a pair
def rowc (q : Nat → Nat → Bool) (n a : Nat) : Nat := cnt (fun b => decide (a < b) && q a b) n
def totc (q : Nat → Nat → Bool) (n : Nat) : Nat → Nat
  | 0 => 0
  | a + 1 => totc q n a + rowc q n a
def posc (q : Nat → Nat → Bool) (n a b : Nat) : Nat := totc q n a + cnt (fun b' => decide (a < b') && q a b') b
theorem totc_le {q : Nat → Nat → Bool} {n : Nat} : ∀ a, totc q n a ≤ a * n
  | 0 => Nat.zero_le _
  | a + 1 => by
    have h1 := totc_le (q := q) (n := n) a
    have h2 : rowc q n a ≤ n := cnt_le _ _
    simp only [totc, Nat.add_mul]
    omega
theorem totc_b {q : Nat → Nat → Bool} {n a : Nat} (hn : n ≤ 60) (ha : a ≤ n) : totc q n a ≤ 3600 := Nat.le_trans (totc_le a) (Nat.mul_le_mul (by omega : a ≤ 60) hn)
theorem posc_b {q : Nat → Nat → Bool} {n a b : Nat} (hn : n ≤ 60) (ha : a ≤ n) (hb : b ≤ n) : posc q n a b ≤ 3660 := by
  have h1 := totc_b (q := q) hn ha
  have h2 := cnt_le (fun b' => decide (a < b') && q a b') b
  unfold posc
  omega
theorem posc_0 {q : Nat → Nat → Bool} {n a : Nat} : posc q n a (a + 1) = totc q n a := by
  unfold posc
  rw [cnt_0.mpr (fun k hk => by simp; omega)]
  rfl
theorem posc_n {q : Nat → Nat → Bool} {n a : Nat} : posc q n a n = totc q n (a + 1) := rfl
theorem posc_s1 {q : Nat → Nat → Bool} {n a b : Nat} (h : a < b) (hq : q a b = true) : posc q n a (b + 1) = posc q n a b + 1 := by
  unfold posc
  rw [cnt_s1 (by simp [h, hq])]
  rfl
theorem posc_s0 {q : Nat → Nat → Bool} {n a b : Nat} (hq : q a b = false) : posc q n a (b + 1) = posc q n a b := by
  unfold posc
  rw [cnt_s0 (by simp [hq])]
theorem cnt_le2 {p : Nat → Bool} : ∀ {k n : Nat}, k ≤ n → cnt p k ≤ cnt p n
  | k, 0, h => by rw [show k = 0 by omega]; exact Nat.le_refl _
  | k, n + 1, h => by
    by_cases e : k = n + 1
    · rw [e]
      exact Nat.le_refl _
    · have := cnt_le2 (p := p) (k := k) (n := n) (by omega)
      simp only [cnt]
      omega
theorem totc_mono {q : Nat → Nat → Bool} {n : Nat} : ∀ {a c : Nat}, a ≤ c → totc q n a ≤ totc q n c
  | a, 0, h => by rw [show a = 0 by omega]; exact Nat.le_refl _
  | a, c + 1, h => by
    by_cases e : a = c + 1
    · rw [e]
      exact Nat.le_refl _
    · have := totc_mono (q := q) (n := n) (a := a) (c := c) (by omega)
      simp only [totc]
      omega
theorem posc_lt {q : Nat → Nat → Bool} {n a b a2 b2 : Nat} (h : a < b) (hb : b < n) (hq : q a b = true) (hl : a < a2 ∨ (a = a2 ∧ b < b2)) : posc q n a b < posc q n a2 b2 := by
  have h1 := posc_s1 (n := n) h hq
  rcases hl with hl | ⟨rfl, hl⟩
  · have h2 : posc q n a (b + 1) ≤ totc q n (a + 1) := Nat.add_le_add_left (cnt_le2 (by omega)) _
    have h3 := totc_mono (q := q) (n := n) (a := a + 1) (c := a2) hl
    have h4 : totc q n a2 ≤ posc q n a2 b2 := Nat.le_add_right _ _
    omega
  · have h2 : posc q n a (b + 1) ≤ posc q n a b2 := Nat.add_le_add_left (cnt_le2 (by omega)) _
    omega
theorem cnt_ith {p : Nat → Bool} : ∀ {n t : Nat}, t < cnt p n → ∃ k, k < n ∧ p k = true ∧ cnt p k = t
  | 0, t, h => absurd h (Nat.not_lt_zero t)
  | n + 1, t, h => by
    by_cases e : t < cnt p n
    · obtain ⟨k, h1, h2, h3⟩ := cnt_ith e
      exact ⟨k, by omega, h2, h3⟩
    · cases hp : p n
      · rw [cnt_s0 hp] at h
        omega
      · rw [cnt_s1 hp] at h
        exact ⟨n, by omega, hp, by omega⟩
theorem posc_ith {q : Nat → Nat → Bool} {n t : Nat} : ∀ {c : Nat}, t < totc q n c → ∃ a b, a < c ∧ a < b ∧ b < n ∧ q a b = true ∧ posc q n a b = t
  | 0, h => absurd h (Nat.not_lt_zero t)
  | c + 1, h => by
    by_cases e : t < totc q n c
    · obtain ⟨a, b, h1, h2, h3, h4, h5⟩ := posc_ith e
      exact ⟨a, b, by omega, h2, h3, h4, h5⟩
    · simp only [totc] at h
      obtain ⟨k, h1, h2, h3⟩ := cnt_ith (p := fun b => decide (c < b) && q c b) (n := n) (t := t - totc q n c) (by unfold rowc at h; omega)
      simp only [Bool.and_eq_true, decide_eq_true_eq] at h2
      exact ⟨c, k, by omega, h2.1, h1, h2.2, by unfold posc; omega⟩
-- sums
def smC (c : Nat → Bool) (f : Nat → Int32) : Nat → Int32
  | 0 => 0
  | k + 1 => if c k then smC c f k + f k else smC c f k
theorem smC_y {c : Nat → Bool} {f : Nat → Int32} {k : Nat} (h : c k = true) : smC c f k + f k = smC c f (k + 1) := by simp [smC, h]
theorem smC_n {c : Nat → Bool} {f : Nat → Int32} {k : Nat} (h : c k = false) : smC c f k = smC c f (k + 1) := by simp [smC, h]
