/-! RangeDeeds: texts -/
def padE (G : xG) (w : Wd) (p : Nat) (cs : List Int) : Prop := ∃ pl kd le nu se : Int, padA G w p cs pl kd le nu se
theorem padE.kp {G : xG} {w w1 : Wd} {p lo hi : Nat} {cs : List Int} (h : padE G w p cs) (k : Fr lo hi w w1) (a : p + 2 ≤ lo ∨ hi ≤ p) : padE G w1 p cs := by
  obtain ⟨pl, kd, le, nu, se, h⟩ := h
  exact ⟨pl, kd, le, nu, se, h.kp k a⟩
