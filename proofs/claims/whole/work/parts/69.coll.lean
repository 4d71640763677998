theorem CI_keep {q : Nat → Bool} {F T P : Nat → Int32} {o : Nat → Nat} {n r ct c3 : Nat} {re : Int32} {RB RE RB3 RE3 : Nat → Int32} (hp : prm n o) (hs : srt F P n o) (hFT : ∀ k, k < n → F k < T k) (hr : r < n) (h : CI q F T o n r ct re RB RE) (hq : q (o r) = true) (hw : (c3, RB3, RE3) = if re < F (o r) then (ct + 1, upd RB ct re, upd RE ct (F (o r))) else (ct, RB, RE)) : CI q F T o n (r + 1) c3 (if re < T (o r) then T (o r) else re) RB3 RE3 := by
  by_cases c : re < F (o r)
  · rw [if_pos c] at hw
    simp only [Prod.mk.injEq] at hw
    obtain ⟨rfl, rfl, rfl⟩ := hw
    exact CI_new hp hs hFT hr h hq c
  · rw [if_neg c] at hw
    simp only [Prod.mk.injEq] at hw
    obtain ⟨rfl, rfl, rfl⟩ := hw
    exact CI_on (prm_lt hp hr) h hq c
theorem CI_last {q : Nat → Bool} {F T P : Nat → Int32} {o : Nat → Nat} {n ct c4 : Nat} {re : Int32} {RB RE RB4 RE4 : Nat → Int32} (hn : n ≤ 60) (hp : prm n o) (hs : srt F P n o) (hFT : ∀ k, k < n → F k < T k) (h : CI q F T o n n ct re RB RE) (hw : (c4, RB4, RE4) = if re < mxT T n then (ct + 1, upd RB ct re, upd RE ct (mxT T n)) else (ct, RB, RE)) : c4 ≤ 61 ∧ RP q F T n c4 RB4 RE4 := by
  have hc := h.1
  by_cases c : re < mxT T n
  · rw [if_pos c] at hw
    simp only [Prod.mk.injEq] at hw
    obtain ⟨rfl, rfl, rfl⟩ := hw
    exact ⟨by omega, CI_full (P := P) hp hFT h c⟩
  · rw [if_neg c] at hw
    simp only [Prod.mk.injEq] at hw
    obtain ⟨rfl, rfl, rfl⟩ := hw
    exact ⟨by omega, CI_stop (P := P) hp hFT h c⟩
