-- finding: the least cost of the notes from rank r on, la being the last of each voice (its rank and 1)
def thr (dpn : (Nat → Nat) → Int32) (pr : Nat → Int32) (la : Nat → Nat) (r v : Nat) : Int32 := if pr v = 2000000000 then 2000000000 else if dpn (updN la v (r + 1)) = 2000000000 then 2000000000 else pr v + dpn (updN la v (r + 1))
def dp (F T P Wt : Nat → Int32) (o : Nat → Nat) (nv : Nat) : Nat → Nat → (Nat → Nat) → Int32
  | 0, _, _ => 0
  | d + 1, r, la => (mn (thr (dp F T P Wt o nv d (r + 1)) (prc F T P Wt o la r) la r) nv).2
theorem thr_1 {dpn : (Nat → Nat) → Int32} {pr : Nat → Int32} {la : Nat → Nat} {r v : Nat} (h : pr v = 2000000000) : 2000000000 = thr dpn pr la r v := by simp [thr, h]
theorem thr_2 {dpn : (Nat → Nat) → Int32} {pr : Nat → Int32} {la : Nat → Nat} {r v : Nat} (h0 : ¬ pr v = 2000000000) (h : dpn (updN la v (r + 1)) = 2000000000) : 2000000000 = thr dpn pr la r v := by simp [thr, h0, h]
theorem thr_3 {dpn : (Nat → Nat) → Int32} {pr : Nat → Int32} {la : Nat → Nat} {r v : Nat} (h0 : ¬ pr v = 2000000000) (h : ¬ dpn (updN la v (r + 1)) = 2000000000) : pr v + dpn (updN la v (r + 1)) = thr dpn pr la r v := by simp [thr, h0, h]
theorem mn_congr {p q : Nat → Int32} : ∀ {n : Nat}, (∀ k, k < n → p k = q k) → mn p n = mn q n
  | 0, _ => rfl
  | n + 1, h => by
    have ih := mn_congr (n := n) (fun k hk => h k (by omega))
    simp only [mn, ih, h n (Nat.lt_succ_self n)]
theorem mn_first {p : Nat → Int32} : ∀ {n : Nat}, (mn p n).1 ≠ 0 → p ((mn p n).1 - 1) = (mn p n).2 ∧ ∀ v, v < (mn p n).1 - 1 → ¬ p v = (mn p n).2
  | 0, h => absurd rfl h
  | n + 1, h => by
    by_cases c : p n < (mn p n).2
    · rw [mn_y c]
      refine ⟨rfl, fun v hv e => ?_⟩
      have key : ∀ m, v < m → ¬ p v < (mn p m).2 := by
        intro m
        induction m with
        | zero => intro h0; omega
        | succ m ih =>
          intro hm
          by_cases c2 : p m < (mn p m).2
          · rw [mn_y c2]
            by_cases e2 : v = m
            · rw [e2]
              exact Int32.lt_irrefl
            · have := ih (by omega)
              intro h3
              have h4 : p v < p m := h3
              exact this (by rw [Int32.lt_iff_toInt_lt] at *; omega)
          · rw [mn_n c2]
            by_cases e2 : v = m
            · rw [e2]
              exact c2
            · exact ih (by omega)
      have := key n (by omega)
      simp only at e
      rw [e] at this
      exact this c
    · rw [mn_n c] at h ⊢
      exact mn_first h
theorem mn_some {p : Nat → Int32} : ∀ {n : Nat}, ¬ (mn p n).2 = 2000000000 → (mn p n).1 ≠ 0
  | 0, h => absurd rfl h
  | n + 1, h => by
    by_cases c : p n < (mn p n).2
    · rw [mn_y c]
      exact Nat.succ_ne_zero n
    · rw [mn_n c] at h ⊢
      exact mn_some h
-- the reference's table
def plc (r : Nat) (la : Nat → Nat) : Nat := r * 50625 + ((la 0 * 15 + la 1) * 15 + la 2) * 15 + la 3
theorem plc_lt {r : Nat} {la : Nat → Nat} (hr : r ≤ 14) (h : ∀ v, la v ≤ 14) : plc r la < 759375 := by
  have h0 := h 0
  have h1 := h 1
  have h2 := h 2
  have h3 := h 3
  unfold plc
  omega
theorem plc_in {r : Nat} {la : Nat → Nat} (h : ∀ v, la v ≤ 14) : r * 50625 ≤ plc r la ∧ plc r la < (r + 1) * 50625 := by
  have h0 := h 0
  have h1 := h 1
  have h2 := h 2
  have h3 := h 3
  unfold plc
  omega
theorem plc_inj {r : Nat} {la lb : Nat → Nat} (h : ∀ v, la v ≤ 14) (h' : ∀ v, lb v ≤ 14) (z : ∀ v, 4 ≤ v → la v = lb v) (e : plc r la = plc r lb) : la = lb := by
  have h0 := h 0
  have h1 := h 1
  have h2 := h 2
  have h3 := h 3
  have g0 := h' 0
  have g1 := h' 1
  have g2 := h' 2
  have g3 := h' 3
  unfold plc at e
  funext v
  by_cases c : 4 ≤ v
  · exact z v c
  · rcases (show v = 0 ∨ v = 1 ∨ v = 2 ∨ v = 3 by omega) with q | q | q | q <;> subst q <;> omega
-- digits
def laD (b nv c : Nat) : Nat → Nat := fun v => if v < nv then c / b ^ v % b else 0
def laV (nv r : Nat) (la : Nat → Nat) : Prop := (∀ v, la v ≤ r) ∧ (∀ v, nv ≤ v → la v = 0) ∧ (r = 0 ∨ ∃ v, v < nv ∧ la v = r)
theorem laD_le {b nv c : Nat} (hb : 0 < b) : ∀ v, laD b nv c v < b := by
  intro v
  unfold laD
  split
  · exact Nat.mod_lt _ hb
  · exact hb
theorem laD_z {b nv c v : Nat} (h : nv ≤ v) : laD b nv c v = 0 := by
  unfold laD
  rw [if_neg (by omega)]
theorem laD_sur {b : Nat} (hb : 0 < b) (la : Nat → Nat) (h : ∀ v, la v < b) : ∀ nv, ∃ c, c < b ^ nv ∧ ∀ v, v < nv → c / b ^ v % b = la v
  | 0 => ⟨0, by simp, fun v hv => absurd hv (Nat.not_lt_zero v)⟩
  | nv + 1 => by
    obtain ⟨c, hc, hd⟩ := laD_sur hb la h nv
    refine ⟨c + b ^ nv * la nv, ?_, ?_⟩
    · have h1 : b ^ nv * la nv + b ^ nv ≤ b ^ nv * b := by
        rw [← Nat.mul_succ]
        exact Nat.mul_le_mul_left _ (h nv)
      rw [Nat.pow_succ]
      omega
    · intro v hv
      by_cases e : v = nv
      · subst e
        rw [Nat.add_mul_div_left _ _ (Nat.pow_pos hb), Nat.div_eq_of_lt hc, Nat.zero_add]
        exact Nat.mod_eq_of_lt (h v)
      · have hlt : v < nv := by omega
        rw [← hd v hlt]
        have e1 : b ^ nv * la nv = b ^ v * (b * (b ^ (nv - v - 1) * la nv)) := by
          rw [← Nat.mul_assoc, ← Nat.mul_assoc, ← Nat.pow_succ, ← Nat.pow_add]
          congr 2
          omega
        rw [e1, Nat.add_mul_div_left _ _ (Nat.pow_pos hb), Nat.add_mul_mod_self_left]
theorem laD_full {b nv : Nat} (hb : 0 < b) {la : Nat → Nat} (h : ∀ v, la v < b) (hz : ∀ v, nv ≤ v → la v = 0) : ∃ c, c < b ^ nv ∧ laD b nv c = la := by
  obtain ⟨c, hc, hd⟩ := laD_sur hb la h nv
  refine ⟨c, hc, ?_⟩
  funext v
  unfold laD
  by_cases e : v < nv
  · rw [if_pos e]
    exact hd v e
  · rw [if_neg e, hz v (by omega)]
theorem laV_up {nv r v : Nat} {la : Nat → Nat} (h : laV nv r la) (hv : v < nv) : laV nv (r + 1) (updN la v (r + 1)) := by
  refine ⟨fun u => ?_, fun u hu => ?_, Or.inr ⟨v, hv, updN_s⟩⟩
  · by_cases e : u = v
    · rw [e, updN_s]
      exact Nat.le_refl _
    · rw [updN_n e]
      exact Nat.le_succ_of_le (h.1 u)
  · rw [updN_n (by omega)]
    exact h.2.1 u hu
theorem laV_0 {nv : Nat} : laV nv 0 ln0 := ⟨fun _ => Nat.le_refl 0, fun _ _ => rfl, Or.inl rfl⟩
theorem updN_back {la : Nat → Nat} {v x : Nat} : updN (updN la v x) v (la v) = la := by
  funext j
  simp only [updN]
  split
  · rename_i h
    rw [h]
  · rfl
-- the class's state number
def stt (n : Nat) (la : Nat → Nat) : Nat → Nat
  | 0 => 0
  | k + 1 => stt n la k + la k * n ^ k
theorem stt_lt {n : Nat} {la : Nat → Nat} (h : ∀ v, la v < n) : ∀ k, stt n la k < n ^ k
  | 0 => by simp [stt]
  | k + 1 => by
    have h1 := stt_lt h k
    have h2 : la k * n ^ k + n ^ k ≤ n * n ^ k := by
      rw [← Nat.succ_mul]
      exact Nat.mul_le_mul_right _ (h k)
    simp only [stt]
    rw [Nat.pow_succ, Nat.mul_comm (n ^ k) n]
    omega
theorem stt_inj {n : Nat} {la lb : Nat → Nat} (h : ∀ v, la v < n) (h' : ∀ v, lb v < n) : ∀ k, stt n la k = stt n lb k → ∀ v, v < k → la v = lb v
  | 0, _, v, hv => absurd hv (Nat.not_lt_zero v)
  | k + 1, e, v, hv => by
    have h1 := stt_lt h k
    have h2 := stt_lt h' k
    simp only [stt] at e
    have hk : la k = lb k := by
      have e1 : (stt n la k + la k * n ^ k) / n ^ k = la k := by
        rw [Nat.add_mul_div_right _ _ (by omega), Nat.div_eq_of_lt h1, Nat.zero_add]
      have e2 : (stt n lb k + lb k * n ^ k) / n ^ k = lb k := by
        rw [Nat.add_mul_div_right _ _ (by omega), Nat.div_eq_of_lt h2, Nat.zero_add]
      rw [← e1, ← e2, e]
    by_cases c : v = k
    · rw [c]
      exact hk
    · rw [hk] at e
      exact stt_inj h h' k (by omega) v (by omega)
theorem stt_same {n : Nat} {la lb : Nat → Nat} : ∀ k, (∀ v, v < k → la v = lb v) → stt n la k = stt n lb k
  | 0, _ => rfl
  | k + 1, h => by
    simp only [stt]
    rw [stt_same k (fun v hv => h v (by omega)), h k (by omega)]
theorem stt_up {n : Nat} {la : Nat → Nat} {v x : Nat} (hx : la v ≤ x) : ∀ k, v < k → stt n (updN la v x) k = stt n la k + (x - la v) * n ^ v
  | 0, h => absurd h (Nat.not_lt_zero v)
  | k + 1, h => by
    simp only [stt]
    by_cases c : v = k
    · subst c
      rw [updN_s, stt_same (lb := la) v (fun u hu => updN_n (by omega))]
      have : x * n ^ v = la v * n ^ v + (x - la v) * n ^ v := by
        rw [← Nat.add_mul]
        congr 1
        omega
      omega
    · rw [stt_up hx k (by omega), updN_n (Ne.symm c)]
      omega
theorem stt_0 {n : Nat} : ∀ k, stt n ln0 k = 0
  | 0 => rfl
  | k + 1 => by
    simp only [stt, stt_0 k]
    simp
theorem laV_r {nv r q : Nat} {la : Nat → Nat} (h : laV nv r la) (h' : laV nv q la) : r = q := by
  have a1 : r ≤ q := by
    rcases h.2.2 with e | ⟨v, _, e⟩
    · omega
    · rw [← e]
      exact h'.1 v
  have a2 : q ≤ r := by
    rcases h'.2.2 with e | ⟨v, _, e⟩
    · omega
    · rw [← e]
      exact h.1 v
  omega
theorem stt_key {n nv r q : Nat} {la lb : Nat → Nat} (hr : r < n) (hq : q < n) (h : laV nv r la) (h' : laV nv q lb) (e : stt n la nv = stt n lb nv) : la = lb ∧ r = q := by
  have e1 : la = lb := by
    funext v
    by_cases c : v < nv
    · exact stt_inj (fun u => Nat.lt_of_le_of_lt (h.1 u) hr) (fun u => Nat.lt_of_le_of_lt (h'.1 u) hq) nv e v c
    · rw [h.2.1 v (by omega), h'.2.1 v (by omega)]
  subst e1
  exact ⟨rfl, laV_r h h'⟩
def encC (x : Int32) : Int32 := if x = 2000000000 then -1 else x
theorem encC_n {x : Int32} (h : x = 2000000000) : encC x = -1 := by simp [encC, h]
theorem encC_s {x : Int32} (h : ¬ x = 2000000000) : encC x = x := by simp [encC, h]
theorem encC_m {x : Int32} (hx : ¬ x = -1) : encC x = -1 ↔ x = 2000000000 := by
  unfold encC
  split
  · rename_i h
    simp [h]
  · rename_i h
    constructor
    · intro h2
      exact absurd h2 hx
    · intro h2
      exact absurd h2 h
def lnO (o la : Nat → Nat) : Nat → Nat := fun j => if la j = 0 then 0 else o (la j - 1) + 1
theorem lnO_le {o la : Nat → Nat} (ho : ∀ j, o j < 60) : ∀ j, lnO o la j ≤ 60 := by
  intro j
  unfold lnO
  split
  · omega
  · exact ho _
theorem lnO_up {o la : Nat → Nat} {v r : Nat} : updN (lnO o la) v (o r + 1) = lnO o (updN la v (r + 1)) := by
  funext j
  simp only [updN, lnO]
  split
  · simp
  · rfl
theorem lnO_0 {o : Nat → Nat} : lnO o ln0 = ln0 := rfl
