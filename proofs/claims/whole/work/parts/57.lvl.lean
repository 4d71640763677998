theorem pw_le {b k : Nat} (hb : b ≤ 15) (hk : k ≤ 4) : b ^ k ≤ 50625 := by
  have h1 : b ^ k ≤ 15 ^ k := Nat.pow_le_pow_left hb k
  have h2 : 15 ^ k ≤ 15 ^ 4 := Nat.pow_le_pow_right (by decide) hk
  have h3 : (15 : Nat) ^ 4 = 50625 := by decide
  omega
def oneN (r : Nat) (la : Nat → Nat) : Nat → Bool
  | 0 => decide (r = 0)
  | k + 1 => oneN r la k || decide (la k = r)
theorem one_y {r : Nat} {la : Nat → Nat} {k : Nat} (h : la k = r) : b2i (oneN r la k) ||| 1 = b2i (oneN r la (k + 1)) := by
  simp only [oneN, h, decide_true, Bool.or_true]
  cases oneN r la k <;> decide
theorem one_n {r : Nat} {la : Nat → Nat} {k : Nat} (h : la k ≠ r) : b2i (oneN r la k) ||| 0 = b2i (oneN r la (k + 1)) := by
  simp only [oneN, h, decide_false, Bool.or_false]
  cases oneN r la k <;> decide
theorem one_t {r : Nat} {la : Nat → Nat} : ∀ {k : Nat}, oneN r la k = true ↔ (r = 0 ∨ ∃ v, v < k ∧ la v = r)
  | 0 => by
    simp only [oneN, decide_eq_true_eq]
    exact ⟨Or.inl, fun h => h.elim id (fun ⟨v, hv, _⟩ => absurd hv (Nat.not_lt_zero v))⟩
  | k + 1 => by
    simp only [oneN, Bool.or_eq_true, one_t (k := k), decide_eq_true_eq]
    constructor
    · rintro ((h | ⟨v, hv, e⟩) | h)
      · exact Or.inl h
      · exact Or.inr ⟨v, by omega, e⟩
      · exact Or.inr ⟨k, by omega, h⟩
    · rintro (h | ⟨v, hv, e⟩)
      · exact Or.inl (Or.inl h)
      · by_cases c : v = k
        · subst c
          exact Or.inr e
        · exact Or.inl (Or.inr ⟨v, by omega, e⟩)
theorem rem_dg {b nv c v : Nat} (hv : v < nv) (hc : c < 2 ^ 31) (h0 : 0 < b) (hb : b < 2 ^ 31) : nI (c / b ^ min v nv) - nI (c / b ^ min v nv) / nI b * nI b = nI (laD b nv c v) := by
  rw [pk_rem (Nat.lt_of_le_of_lt (Nat.div_le_self _ _) hc) h0 hb]
  unfold laD
  rw [if_pos hv, show min v nv = v by omega]
theorem div_dg {b nv c v : Nat} (hv : v < nv) (hc : c < 2 ^ 31) (h0 : 0 < b) (hb : b < 2 ^ 31) : nI (c / b ^ min v nv) / nI b = nI (c / b ^ min (v + 1) nv) := by
  rw [pk_div (Nat.lt_of_le_of_lt (Nat.div_le_self _ _) hc) h0 hb]
  rw [show min v nv = v by omega, show min (v + 1) nv = v + 1 by omega, Nat.pow_succ, Nat.div_div_eq_div_mul]
def lvV (F T P Wt : Nat → Int32) (o : Nat → Nat) (n nv r : Nat) (R : Nat → Int32) (la : Nat → Nat) : Int32 := if r = n then 0 else (mn (thr (fun w => R (plc (r + 1) w)) (prc F T P Wt o la r) la r) nv).2
def lvP (F T P Wt : Nat → Int32) (o : Nat → Nat) (n nv r : Nat) (R R1 : Nat → Int32) (c2 : Nat) : Prop := (∀ c, c < c2 → oneN r (laD (r + 1) nv c) 4 = true → R1 (plc r (laD (r + 1) nv c)) = lvV F T P Wt o n nv r R (laD (r + 1) nv c)) ∧ (∀ i, (i < r * 50625 ∨ (r + 1) * 50625 ≤ i) → R1 i = R i)
theorem lvP_0 {F T P Wt : Nat → Int32} {o : Nat → Nat} {n nv r : Nat} {R : Nat → Int32} : lvP F T P Wt o n nv r R R 0 := ⟨fun c hc => absurd hc (Nat.not_lt_zero c), fun _ _ => rfl⟩
theorem lvP_no {F T P Wt : Nat → Int32} {o : Nat → Nat} {n nv r c2 : Nat} {R R1 : Nat → Int32} (h : lvP F T P Wt o n nv r R R1 c2) (h0 : oneN r (laD (r + 1) nv c2) 4 = false) : lvP F T P Wt o n nv r R R1 (c2 + 1) := by
  refine ⟨fun c hc h1 => ?_, h.2⟩
  by_cases e : c = c2
  · subst e
    rw [h0] at h1
    cases h1
  · exact h.1 c (by omega) h1
theorem laD14 {r nv c : Nat} (hr : r ≤ 14) : ∀ v, laD (r + 1) nv c v ≤ 14 := fun v => by
  have := laD_le (b := r + 1) (nv := nv) (c := c) (by omega) v
  omega
theorem lvP_yes {F T P Wt : Nat → Int32} {o : Nat → Nat} {n nv r c2 : Nat} {R R1 : Nat → Int32} {x : Int32} (hr : r ≤ 14) (hv : nv ≤ 4) (h : lvP F T P Wt o n nv r R R1 c2) (hx : x = lvV F T P Wt o n nv r R (laD (r + 1) nv c2)) : lvP F T P Wt o n nv r R (upd R1 (plc r (laD (r + 1) nv c2)) x) (c2 + 1) := by
  constructor
  · intro c hc h1
    simp only [upd]
    by_cases e : plc r (laD (r + 1) nv c) = plc r (laD (r + 1) nv c2)
    · rw [if_pos e, hx]
      rw [plc_inj (laD14 hr) (laD14 hr) (fun v hv4 => by rw [laD_z (by omega), laD_z (by omega)]) e]
    · rw [if_neg e]
      by_cases e2 : c = c2
      · rw [e2] at e
        exact absurd rfl e
      · exact h.1 c (by omega) h1
  · intro i hi
    have h1 := plc_in (r := r) (laD14 (nv := nv) (c := c2) hr)
    simp only [upd]
    rw [if_neg (by omega)]
    exact h.2 i hi
theorem lvV_0 {F T P Wt : Nat → Int32} {o la : Nat → Nat} {n nv r : Nat} {R : Nat → Int32} (h : r = n) : 0 = lvV F T P Wt o n nv r R la := by simp [lvV, h]
theorem lvV_1 {F T P Wt : Nat → Int32} {o : Nat → Nat} {n nv r c2 c : Nat} {R R1 : Nat → Int32} (hr : r < 14) (h : lvP F T P Wt o n nv r R R1 c2) (hn : r ≠ n) : (mn (thr (fun w => R1 (plc (r + 1) w)) (prc F T P Wt o (laD (r + 1) nv c) r) (laD (r + 1) nv c) r) nv).2 = lvV F T P Wt o n nv r R (laD (r + 1) nv c) := by
  unfold lvV
  rw [if_neg hn]
  rw [mn_congr]
  intro v _
  have h1 : R1 (plc (r + 1) (updN (laD (r + 1) nv c) v (r + 1))) = R (plc (r + 1) (updN (laD (r + 1) nv c) v (r + 1))) := by
    refine h.2 _ (Or.inr ?_)
    exact (plc_in (r := r + 1) (updN_le (laD14 (by omega)) (by omega))).1
  simp only [thr, h1]
-- the table from level k on
def rdP (F T P Wt : Nat → Int32) (o : Nat → Nat) (n nv : Nat) (R : Nat → Int32) (k : Nat) : Prop := ∀ r, k ≤ r → r ≤ n → ∀ la, laV nv r la → R (plc r la) = dp F T P Wt o nv (n - r) r la
theorem rdP_top {F T P Wt : Nat → Int32} {o : Nat → Nat} {n nv : Nat} {R : Nat → Int32} : rdP F T P Wt o n nv R (n + 1) := fun r h1 h2 => by omega
theorem rdP_step {F T P Wt : Nat → Int32} {o : Nat → Nat} {n nv r : Nat} {R R1 : Nat → Int32} (hn : n ≤ 14) (hr : r ≤ n) (hv : nv ≤ 4) (h : rdP F T P Wt o n nv R (r + 1)) (hl : lvP F T P Wt o n nv r R R1 ((r + 1) ^ nv)) : rdP F T P Wt o n nv R1 r := by
  intro q h1 h2 la hla
  by_cases e : q = r
  · subst e
    obtain ⟨c, hc, rfl⟩ := laD_full (b := q + 1) (nv := nv) (by omega) (la := la) (fun v => Nat.lt_succ_of_le (hla.1 v)) hla.2.1
    have hone : oneN q (laD (q + 1) nv c) 4 = true := one_t.mpr (hla.2.2.elim Or.inl (fun ⟨v, hv1, e1⟩ => Or.inr ⟨v, by omega, e1⟩))
    rw [hl.1 c hc hone]
    unfold lvV
    by_cases c2 : q = n
    · rw [if_pos c2, c2, Nat.sub_self]
      rfl
    · rw [if_neg c2, show n - q = (n - (q + 1)) + 1 by omega]
      simp only [dp]
      rw [mn_congr]
      intro v hv1
      have h3 := h (q + 1) (Nat.le_refl _) (by omega) (updN (laD (q + 1) nv c) v (q + 1)) (laV_up hla hv1)
      simp only [thr, h3]
  · rw [hl.2 _ (Or.inr ?_)]
    · exact h q (by omega) h2 la hla
    · have h5 := (plc_in (r := q) (fun v => Nat.le_trans (hla.1 v) (Nat.le_trans h2 hn))).1
      have h6 : (r + 1) * 50625 ≤ q * 50625 := Nat.mul_le_mul_right _ (by omega)
      exact Nat.le_trans h6 h5
-- what is found
def laF (F T P Wt : Nat → Int32) (o : Nat → Nat) (n nv : Nat) : Nat → Nat → Nat
  | 0 => ln0
  | r + 1 => updN (laF F T P Wt o n nv r) ((mn (thr (dp F T P Wt o nv (n - (r + 1)) (r + 1)) (prc F T P Wt o (laF F T P Wt o n nv r) r) (laF F T P Wt o n nv r) r) nv).1 - 1) (r + 1)
def chF (F T P Wt : Nat → Int32) (o : Nat → Nat) (n nv r : Nat) : Nat := (mn (thr (dp F T P Wt o nv (n - (r + 1)) (r + 1)) (prc F T P Wt o (laF F T P Wt o n nv r) r) (laF F T P Wt o n nv r) r) nv).1 - 1
theorem dp_s {F T P Wt : Nat → Int32} {o la : Nat → Nat} {n nv r : Nat} (h : r < n) : dp F T P Wt o nv (n - r) r la = (mn (thr (dp F T P Wt o nv (n - (r + 1)) (r + 1)) (prc F T P Wt o la r) la r) nv).2 := by
  rw [show n - r = (n - (r + 1)) + 1 by omega]
  rfl
def okF (F T P Wt : Nat → Int32) (o : Nat → Nat) (n nv r : Nat) : Prop := laV nv r (laF F T P Wt o n nv r) ∧ ¬ dp F T P Wt o nv (n - r) r (laF F T P Wt o n nv r) = 2000000000
theorem okF_0 {F T P Wt : Nat → Int32} {o : Nat → Nat} {n nv : Nat} (h : ¬ dp F T P Wt o nv n 0 ln0 = 2000000000) : okF F T P Wt o n nv 0 := ⟨laV_0, h⟩
theorem chF_lt {F T P Wt : Nat → Int32} {o : Nat → Nat} {n nv r : Nat} (hr : r < n) (h : okF F T P Wt o n nv r) : chF F T P Wt o n nv r < nv ∧ thr (dp F T P Wt o nv (n - (r + 1)) (r + 1)) (prc F T P Wt o (laF F T P Wt o n nv r) r) (laF F T P Wt o n nv r) r (chF F T P Wt o n nv r) = dp F T P Wt o nv (n - r) r (laF F T P Wt o n nv r) ∧ ∀ v, v < chF F T P Wt o n nv r → ¬ thr (dp F T P Wt o nv (n - (r + 1)) (r + 1)) (prc F T P Wt o (laF F T P Wt o n nv r) r) (laF F T P Wt o n nv r) r v = dp F T P Wt o nv (n - r) r (laF F T P Wt o n nv r) := by
  have h2 := h.2
  rw [dp_s hr] at h2 ⊢
  have h3 := mn_some h2
  have h4 := mn_first h3
  have h5 := mn_le (pr := thr (dp F T P Wt o nv (n - (r + 1)) (r + 1)) (prc F T P Wt o (laF F T P Wt o n nv r) r) (laF F T P Wt o n nv r) r) nv
  exact ⟨by unfold chF; omega, h4.1, h4.2⟩
theorem okF_s {F T P Wt : Nat → Int32} {o : Nat → Nat} {n nv r : Nat} (hr : r < n) (h : okF F T P Wt o n nv r) : okF F T P Wt o n nv (r + 1) := by
  obtain ⟨h1, h2, _⟩ := chF_lt hr h
  have e : laF F T P Wt o n nv (r + 1) = updN (laF F T P Wt o n nv r) (chF F T P Wt o n nv r) (r + 1) := rfl
  refine ⟨by rw [e]; exact laV_up h.1 h1, ?_⟩
  rw [e]
  intro h3
  have h4 : thr (dp F T P Wt o nv (n - (r + 1)) (r + 1)) (prc F T P Wt o (laF F T P Wt o n nv r) r) (laF F T P Wt o n nv r) r (chF F T P Wt o n nv r) = 2000000000 := by
    by_cases c : prc F T P Wt o (laF F T P Wt o n nv r) r (chF F T P Wt o n nv r) = 2000000000
    · exact (thr_1 c).symm
    · exact (thr_2 c h3).symm
  exact h.2 (h2.symm.trans h4)
theorem thr_R {F T P Wt : Nat → Int32} {o la : Nat → Nat} {n nv r v : Nat} {R : Nat → Int32} (h : rdP F T P Wt o n nv R 0) (hr : r < n) (hla : laV nv r la) (hv : v < nv) : thr (fun w => R (plc (r + 1) w)) (prc F T P Wt o la r) la r v = thr (dp F T P Wt o nv (n - (r + 1)) (r + 1)) (prc F T P Wt o la r) la r v := by
  have h3 := h (r + 1) (Nat.zero_le _) (by omega) (updN la v (r + 1)) (laV_up hla hv)
  simp only [thr, h3]
theorem oi_dec {k : Nat} (h : k ≠ 0) : oi k + Int32.ofInt (-1) = oi (k - 1) := by
  rw [oi_pos h]
  by_cases e : k = 1
  · subst e
    rfl
  · rw [oi_pos (show k - 1 ≠ 0 by omega)]
    exact gk_dec (by omega)
