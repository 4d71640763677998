-- contents beyond an array's length do not count
theorem cell_ext {c : ClassId} {n : Nat} {f g : Nat → Int32} (h : ∀ j, j < n → f j = g j) : vp_cell c (n, .inl f) = vp_cell c (n, .inl g) := by
  show arrV c n (fun j => .int (f j)) = arrV c n (fun j => .int (g j))
  unfold arrV
  congr 1
  apply congrArg
  funext j
  show Value.int (f j.val) = Value.int (g j.val)
  rw [h j.val j.isLt]
theorem gk_extP {D : va_G} {cl : List vw_C} {ws : va_W} {H : Heap} (hP : va_P D cl ws H) (k : Nat) {a : Nat} {c : ClassId} {n : Nat} {f g : Nat → Int32} (ha : ws[k]? = some (a, .inl (c, n, .inl f))) (h : ∀ j, j < n → f j = g j) : va_P D cl (ws.set k (a, .inl (c, n, .inl g))) H := by
  intro i q hq
  by_cases e : i = k
  · subst e
    have hl : i < ws.length := (List.getElem?_eq_some_iff.mp ha).1
    rw [List.getElem?_set_self hl] at hq
    cases hq
    have h1 : H[a]? = some (vp_cell c (n, .inl f)) := hP i _ ha
    show H[a]? = some (vp_cell c (n, .inl g))
    rw [h1, cell_ext h]
  · rw [List.getElem?_set_ne (Ne.symm e)] at hq
    exact hP i q hq
theorem gk_extD {A : Nat → Prop} {ws : va_W} (hD : va_D A ws) (k : Nat) {a : Nat} {e0 e : va_E} (ha : ws[k]? = some (a, e0)) : va_D A (ws.set k (a, e)) := by
  have hl : k < ws.length := (List.getElem?_eq_some_iff.mp ha).1
  have key : ∀ (i : Nat) (q : Nat × va_E), (ws.set k (a, e))[i]? = some q → ∃ q', ws[i]? = some q' ∧ q'.1 = q.1 := by
    intro i q hq
    by_cases h : i = k
    · subst h
      rw [List.getElem?_set_self hl] at hq
      cases hq
      exact ⟨_, ha, rfl⟩
    · rw [List.getElem?_set_ne (Ne.symm h)] at hq
      exact ⟨q, hq, rfl⟩
  constructor
  · intro i j p q hp hq hpq
    obtain ⟨p', h1, h2⟩ := key i p hp
    obtain ⟨q', h3, h4⟩ := key j q hq
    exact hD.1 i j p' q' h1 h3 (by rw [h2, h4]; exact hpq)
  · intro i q hq
    obtain ⟨q', h1, h2⟩ := key i q hq
    rw [← h2]
    exact hD.2 i q' h1
def fillF (f : Nat → Int32) (x : Int32) (lo i : Nat) : Nat → Int32 := fun j => if lo ≤ j ∧ j < i then x else f j
theorem fillF_0 {f : Nat → Int32} {x : Int32} {lo : Nat} : f = fillF f x lo lo := by
  funext j
  simp only [fillF]
  rw [if_neg (by omega)]
theorem fillF_s {f : Nat → Int32} {x : Int32} {lo i : Nat} (h : lo ≤ i) : upd (fillF f x lo i) i x = fillF f x lo (i + 1) := by
  funext j
  simp only [upd, fillF]
  by_cases e : j = i
  · rw [if_pos e, if_pos (by omega)]
  · rw [if_neg e]
    by_cases e2 : lo ≤ j ∧ j < i
    · rw [if_pos e2, if_pos (by omega)]
    · rw [if_neg e2, if_neg (by omega)]
abbrev ln0 : Nat → Nat := fun _ => 0
theorem upd_oi {ln : Nat → Nat} {k x : Nat} : upd (fun j => oi (ln j)) k (nI x) = fun j => oi (updN ln k (x + 1) j) := by
  funext j
  simp only [upd, updN]
  split
  · exact (oi_s x).symm
  · rfl
theorem upd_oi2 {ln : Nat → Nat} {k x : Nat} : upd (fun j => oi (ln j)) k (oi x) = fun j => oi (updN ln k x j) := by
  funext j
  simp only [upd, updN]
  split <;> rfl
-- the first of the cheapest: the class's, the reference's
def cm (ad : Nat → Int32) : Nat → Nat × Int32
  | 0 => (0, -1)
  | k + 1 => if ¬ ad k = -1 ∧ ((cm ad k).1 = 0 ∨ ad k < (cm ad k).2) then (k + 1, ad k) else cm ad k
theorem cm_y {ad : Nat → Int32} {k : Nat} (h : ¬ ad k = -1 ∧ ((cm ad k).1 = 0 ∨ ad k < (cm ad k).2)) : cm ad (k + 1) = (k + 1, ad k) := by simp only [cm]; rw [if_pos h]
theorem cm_n {ad : Nat → Int32} {k : Nat} (h : ¬ (¬ ad k = -1 ∧ ((cm ad k).1 = 0 ∨ ad k < (cm ad k).2))) : cm ad (k + 1) = cm ad k := by simp only [cm]; rw [if_neg h]
theorem cm_le {ad : Nat → Int32} : ∀ k, (cm ad k).1 ≤ k
  | 0 => Nat.le_refl 0
  | k + 1 => by
    have := cm_le (ad := ad) k
    simp only [cm]
    split
    · exact Nat.le_refl _
    · omega
def mn (pr : Nat → Int32) : Nat → Nat × Int32
  | 0 => (0, 2000000000)
  | k + 1 => if pr k < (mn pr k).2 then (k + 1, pr k) else mn pr k
theorem mn_y {pr : Nat → Int32} {k : Nat} (h : pr k < (mn pr k).2) : mn pr (k + 1) = (k + 1, pr k) := by simp only [mn]; rw [if_pos h]
theorem mn_n {pr : Nat → Int32} {k : Nat} (h : ¬ pr k < (mn pr k).2) : mn pr (k + 1) = mn pr k := by simp only [mn]; rw [if_neg h]
theorem mn_le {pr : Nat → Int32} : ∀ k, (mn pr k).1 ≤ k
  | 0 => Nat.le_refl 0
  | k + 1 => by
    have := mn_le (pr := pr) k
    simp only [mn]
    split
    · exact Nat.le_refl _
    · omega
-- going along
def lnG (F T P Wt : Nat → Int32) (o : Nat → Nat) (nv : Nat) : Nat → Nat → Nat
  | 0 => ln0
  | r + 1 => updN (lnG F T P Wt o nv r) ((cm (adC F T P Wt (lnG F T P Wt o nv r) (o r)) nv).1 - 1) (o r + 1)
def chG (F T P Wt : Nat → Int32) (o : Nat → Nat) (nv r : Nat) : Nat := (cm (adC F T P Wt (lnG F T P Wt o nv r) (o r)) nv).1
theorem lnG_le {F T P Wt : Nat → Int32} {o : Nat → Nat} {nv : Nat} (ho : ∀ j, o j < 60) : ∀ r j, lnG F T P Wt o nv r j ≤ 60
  | 0, _ => by simp only [lnG, ln0]; omega
  | r + 1, j => by
    simp only [lnG, updN]
    split
    · exact ho r
    · exact lnG_le ho r j
def laG (F T P Wt : Nat → Int32) (o : Nat → Nat) (nv : Nat) : Nat → Nat → Nat
  | 0 => ln0
  | r + 1 => updN (laG F T P Wt o nv r) ((mn (prc F T P Wt o (laG F T P Wt o nv r) r) nv).1 - 1) (r + 1)
def chM (F T P Wt : Nat → Int32) (o : Nat → Nat) (nv r : Nat) : Nat := (mn (prc F T P Wt o (laG F T P Wt o nv r) r) nv).1
theorem laG_le {F T P Wt : Nat → Int32} {o : Nat → Nat} {nv : Nat} : ∀ r j, laG F T P Wt o nv r j ≤ r
  | 0, _ => by simp only [laG, ln0]; omega
  | r + 1, j => by
    simp only [laG, updN]
    split
    · exact Nat.le_refl _
    · exact Nat.le_succ_of_le (laG_le r j)
-- a voicing is given out by ranks
theorem give_step {n r : Nat} {o : Nat → Nat} {G V1 : Nat → Int32} (hp : prm n o) (hr : r < n) (h : ∀ j, j < r → V1 (o j) = G j) : ∀ j, j < r + 1 → upd V1 (o r) (G r) (o j) = G j := by
  intro j hj
  simp only [upd]
  by_cases e : j = r
  · rw [e, if_pos rfl]
  · rw [if_neg (fun e2 => e (prm_inj hp (by omega) hr e2))]
    exact h j (by omega)
theorem give_keep {n r : Nat} {o : Nat → Nat} {V V1 : Nat → Int32} {x : Int32} (hp : prm n o) (hr : r < n) (h : ∀ j, n ≤ j → V1 j = V j) : ∀ j, n ≤ j → upd V1 (o r) x j = V j := by
  intro j hj
  have := prm_lt hp hr
  simp only [upd]
  rw [if_neg (by omega)]
  exact h j hj
theorem row_step {r : Nat} {f G1 : Nat → Int32} (h : ∀ j, j < r → G1 j = f j) : ∀ j, j < r + 1 → upd G1 r (f r) j = f j := by
  intro j hj
  simp only [upd]
  by_cases e : j = r
  · rw [e, if_pos rfl]
  · rw [if_neg e]
    exact h j (by omega)
