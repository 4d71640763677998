def updN (o : Nat → Nat) (k x : Nat) : Nat → Nat := fun j => if j = k then x else o j
theorem upd_nI {o : Nat → Nat} {k x : Nat} : upd (fun j => nI (o j)) k (nI x) = fun j => nI (updN o k x j) := by
  funext j
  simp only [upd, updN]
  split <;> rfl
theorem updN_s {o : Nat → Nat} {k x : Nat} : updN o k x k = x := by simp [updN]
theorem updN_n {o : Nat → Nat} {k x j : Nat} (h : j ≠ k) : updN o k x j = o j := by simp [updN, h]
theorem updN_self {o : Nat → Nat} {k : Nat} : updN o k (o k) = o := by
  funext j
  simp only [updN]
  split
  · rename_i h; rw [h]
  · rfl
theorem updN_lt {o : Nat → Nat} {k x B : Nat} (h : ∀ j, o j < B) (hx : x < B) : ∀ j, updN o k x j < B := by
  intro j
  simp only [updN]
  split
  · exact hx
  · exact h j
theorem updN_ge {o o0 : Nat → Nat} {k x n : Nat} (h : ∀ j, n ≤ j → o j = o0 j) (hk : k < n) : ∀ j, n ≤ j → updN o k x j = o0 j := fun j hj => by
  rw [updN_n (by omega)]
  exact h j hj
theorem cnt_swap {q q' : Nat → Bool} {a : Nat} (h1 : q' a = q (a + 1)) (h2 : q' (a + 1) = q a) (h3 : ∀ k, k ≠ a → k ≠ a + 1 → q' k = q k) : ∀ n, a + 2 ≤ n → cnt q' n = cnt q n := by
  intro n
  induction n with
  | zero => intro h; omega
  | succ n ih =>
    intro h
    by_cases e : n = a + 1
    · subst e
      simp only [cnt, h1, h2, cnt_congr (n := a) (fun k hk => h3 k (by omega) (by omega))]
      omega
    · simp only [cnt, ih (by omega), h3 n (by omega) e]
theorem prm_swap {n g x : Nat} {o : Nat → Nat} (hg : g + 1 < n) (h : prm n (updN o (g + 1) x)) : prm n (updN (updN o (g + 1) (o g)) g x) := by
  intro p
  rw [← h p]
  refine cnt_swap (a := g) ?_ ?_ ?_ n (by omega)
  · simp [updN]
  · simp [updN]
  · intro k h1 h2
    simp [updN, h1, h2]
theorem cnt_one {p : Nat → Bool} {i n : Nat} (hi : i < n) (h : p i = true) : 1 ≤ cnt p n := by
  rcases Nat.eq_zero_or_pos (cnt p n) with q | q
  · have := cnt_0.mp q i hi
    rw [h] at this
    cases this
  · exact q
theorem cnt_two {p : Nat → Bool} {i j : Nat} : ∀ {n : Nat}, i < j → j < n → p i = true → p j = true → 2 ≤ cnt p n
  | 0, _, h, _, _ => absurd h (Nat.not_lt_zero _)
  | n + 1, hij, hj, hi', hj' => by
    by_cases e : j = n
    · subst e
      have := cnt_one hij hi'
      simp only [cnt, hj']
      simp
      omega
    · have := cnt_two (n := n) hij (by omega) hi' hj'
      simp only [cnt]
      omega
theorem prm_inj {n : Nat} {o : Nat → Nat} (h : prm n o) {i j : Nat} (hi : i < n) (hj : j < n) (e : o i = o j) : i = j := by
  have h1 := h (fun y => decide (y = o i))
  rw [cnt_eq1 (o i) n (prm_lt h hi)] at h1
  rcases Nat.lt_trichotomy i j with q | q | q
  · have := cnt_two (p := fun k => decide (o k = o i)) q hj (by simp) (by simp [e])
    omega
  · exact q
  · have := cnt_two (p := fun k => decide (o k = o i)) q hi (by simp [e]) (by simp)
    omega
theorem cnt_mono {p q : Nat → Bool} : ∀ {n : Nat}, (∀ k, k < n → p k = true → q k = true) → cnt p n ≤ cnt q n
  | 0, _ => Nat.le_refl 0
  | n + 1, h => by
    have h1 := cnt_mono (n := n) (fun k hk => h k (by omega))
    have h2 := h n (by omega)
    simp only [cnt]
    cases hp : p n
    · simp
      omega
    · rw [h2 hp]
      simp
      omega
theorem cnt_mono_lt {p q : Nat → Bool} {x : Nat} : ∀ {n : Nat}, (∀ k, k < n → p k = true → q k = true) → x < n → p x = false → q x = true → cnt p n < cnt q n
  | 0, _, h, _, _ => absurd h (Nat.not_lt_zero _)
  | n + 1, h, hx, hp, hq => by
    by_cases e : x = n
    · subst e
      have h1 := cnt_mono (n := x) (fun k hk => h k (by omega))
      simp only [cnt, hp, hq]
      simp
      omega
    · have h1 := cnt_mono_lt (n := n) (fun k hk => h k (by omega)) (by omega) hp hq
      have h2 := h n (by omega)
      simp only [cnt]
      cases hp2 : p n
      · simp
        omega
      · rw [h2 hp2]
        simp
        omega
theorem rkN_mono {F P : Nat → Int32} {n x y : Nat} (hx : x < n) (h : ahd F P x y = true) : rkN F P n x < rkN F P n y := by
  refine cnt_mono_lt (x := x) (fun k _ hk => ?_) hx (by simp) ?_
  · simp only [Bool.and_eq_true, decide_eq_true_eq] at hk ⊢
    have h1 := ahd_tr hk.2 h
    exact ⟨fun e => by (rw [e, ahd_irr] at h1; cases h1), h1⟩
  · simp only [Bool.and_eq_true, decide_eq_true_eq]
    exact ⟨fun e => by (rw [e, ahd_irr] at h; cases h), h⟩
theorem rkN_inj {F P : Nat → Int32} {n x y : Nat} (hx : x < n) (hy : y < n) (e : rkN F P n x = rkN F P n y) : x = y := by
  apply Classical.byContradiction
  intro q
  cases h : ahd F P x y
  · have := rkN_mono (n := n) hy (ahd_tot q h)
    omega
  · have := rkN_mono (n := n) hx h
    omega
-- insertion: x is to come to f, all else up to i is in order
def isv (F P : Nat → Int32) (i : Nat) (o : Nat → Nat) (f x : Nat) : Prop := ∀ p q, p < q → q ≤ i → q ≠ f → ahd F P (updN o f x p) (updN o f x q) = true
theorem srt_one {F P : Nat → Int32} {o : Nat → Nat} : srt F P 1 o := fun i j h1 h2 => by omega
theorem srt_le {F P : Nat → Int32} {o : Nat → Nat} {i n : Nat} (h : srt F P i o) (hn : n ≤ i) : srt F P n o := fun p q h1 h2 => h p q h1 (by omega)
theorem isv_init {F P : Nat → Int32} {o : Nat → Nat} {i : Nat} (h : srt F P i o) : isv F P i o i (o i) := by
  intro p q h1 h2 h3
  rw [updN_self]
  exact h p q h1 (by omega)
theorem isv_step {F P : Nat → Int32} {o : Nat → Nat} {i g x : Nat} (h : isv F P i o (g + 1) x) (hg : g + 1 ≤ i) (hx : ahd F P x (o g) = true) : isv F P i (updN o (g + 1) (o g)) g x := by
  intro p q h1 h2 h3
  have a1 : ∀ p', p' < g → ahd F P (o p') (o g) = true := fun p' hp' => by
    have := h p' g hp' (by omega) (by omega)
    rwa [updN_n (by omega), updN_n (by omega)] at this
  have a2 : ∀ q', g + 1 < q' → q' ≤ i → ahd F P x (o q') = true := fun q' hq' hi => by
    have := h (g + 1) q' hq' hi (by omega)
    rwa [updN_s, updN_n (by omega)] at this
  have a3 : ∀ p' q', p' < q' → q' ≤ i → p' ≠ g + 1 → q' ≠ g + 1 → ahd F P (o p') (o q') = true := fun p' q' e1 e2 e3 e4 => by
    have := h p' q' e1 e2 e4
    rwa [updN_n e3, updN_n e4] at this
  have vq : updN (updN o (g + 1) (o g)) g x q = if q = g + 1 then o g else o q := by rw [updN_n h3]; rfl
  rw [vq]
  by_cases p1 : p = g
  · subst p1
    rw [updN_s]
    split
    · exact hx
    · exact a2 q (by omega) h2
  · rw [updN_n p1]
    by_cases p2 : p = g + 1
    · subst p2
      rw [updN_s, if_neg (by omega)]
      exact a3 g q (by omega) h2 (by omega) (by omega)
    · rw [updN_n p2]
      split
      · exact a1 p (by omega)
      · exact a3 p q h1 h2 p2 (by assumption)
theorem isv_done {F P : Nat → Int32} {o : Nat → Nat} {i f x n : Nat} (h : isv F P i o f x) (hp : prm n (updN o f x)) (hi : i < n) (hf : f ≤ i) (hx : f = 0 ∨ ahd F P x (o (f - 1)) = false) : srt F P (i + 1) (updN o f x) := by
  intro p q h1 h2
  by_cases e : q = f
  · subst e
    rcases hx with hx | hx
    · omega
    · have hne : x ≠ o (q - 1) := fun e2 => by
        have := prm_inj hp (i := q) (j := q - 1) (by omega) (by omega) (by rw [updN_s, updN_n (by omega)]; exact e2)
        omega
      have b1 := ahd_tot hne hx
      rw [updN_s]
      by_cases e3 : p = q - 1
      · rw [updN_n (by omega), e3]
        exact b1
      · have := h p (q - 1) (by omega) (by omega) (by omega)
        rw [updN_n (j := q - 1) (by omega)] at this
        exact ahd_tr this b1
  · exact h p q h1 (by omega) e
theorem prm_step {n f x : Nat} {o : Nat → Nat} (h0 : 0 < f) (hf : f < n) (h : prm n (updN o f x)) : prm n (updN (updN o f (o (f - 1))) (f - 1) x) := by
  obtain ⟨g, rfl⟩ : ∃ g, f = g + 1 := ⟨f - 1, by omega⟩
  exact prm_swap hf h
theorem isv_step' {F P : Nat → Int32} {o : Nat → Nat} {i f x : Nat} (h : isv F P i o f x) (h0 : 0 < f) (hf : f ≤ i) (hx : ahd F P x (o (f - 1)) = true) : isv F P i (updN o f (o (f - 1))) (f - 1) x := by
  obtain ⟨g, rfl⟩ : ∃ g, f = g + 1 := ⟨f - 1, by omega⟩
  exact isv_step h hf hx
theorem kof_step {n r : Nat} {o k : Nat → Nat} (hp : prm n o) (hr : r < n) (h : ∀ j, j < r → k (o j) = j) : ∀ j, j < r + 1 → updN k (o r) r (o j) = j := by
  intro j hj
  by_cases e : j = r
  · subst e
    exact updN_s
  · rw [updN_n (fun e2 => e (prm_inj hp (by omega) hr e2))]
    exact h j (by omega)
theorem rof_step {F P : Nat → Int32} {n r : Nat} {o : Nat → Nat} (hr : r < n) (h : ∀ j, j < r → o (rkN F P n j) = j) : ∀ j, j < r + 1 → updN o (rkN F P n r) r (rkN F P n j) = j := by
  intro j hj
  by_cases e : j = r
  · subst e
    exact updN_s
  · rw [updN_n (fun e2 => e (rkN_inj (by omega) hr e2))]
    exact h j (by omega)
-- what the reference's sort leaves is what insertion leaves
theorem two_sorts {F P : Nat → Int32} {n : Nat} {o o1 o2 : Nat → Nat} (hp : prm n o1) (hs : srt F P n o1) (hu : ∀ j, n ≤ j → o1 j = o j) (h2 : ∀ j, j < n → o2 (rkN F P n j) = j) (hu2 : ∀ j, n ≤ j → o2 j = o j) : o2 = o1 := by
  funext i
  by_cases e : i < n
  · have := h2 (o1 i) (prm_lt hp e)
    rwa [srt_rk hp hs e] at this
  · rw [hu i (by omega), hu2 i (by omega)]
