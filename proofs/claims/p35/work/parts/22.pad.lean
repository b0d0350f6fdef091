/-! Pad: reading -/
def padW (cs : List Int) : Prop := cs.length ≤ 80 ∧ ∀ c ∈ cs, 33 ≤ c ∧ c ≤ 126
def padA (G : xG) (w : Wd) (p : Nat) (cs : List Int) (pl kd le nu se : Int) : Prop :=
  padW cs ∧ w p = some (.inr (2, [.ref (p + 1), .int (iI cs.length), .int (iI pl), .int (iI kd), .int (iI le), .int (iI nu), .int (iI se)])) ∧ ∃ f : Int → Int, w (p + 1) = some (aC G 80 f) ∧ ∀ (i : Nat) (h : i < cs.length), f i = cs[i]
theorem pad_o {G : xG} {w : Wd} {p : Nat} {cs : List Int} {pl kd le nu se : Int} (h : padA G w p cs pl kd le nu se) : w p = some (.inr (2, [.ref (p + 1), .int (iI cs.length), .int (iI pl), .int (iI kd), .int (iI le), .int (iI nu), .int (iI se)])) := h.2.1
theorem padA.kp {G : xG} {w w1 : Wd} {p lo hi : Nat} {cs : List Int} {pl kd le nu se : Int} (h : padA G w p cs pl kd le nu se) (k : Fr lo hi w w1) (a : p + 2 ≤ lo ∨ hi ≤ p) : padA G w1 p cs pl kd le nu se := by
  obtain ⟨h1, h2, f, h3, h4⟩ := h
  exact ⟨h1, (k _ (by omega)).trans h2, f, (k _ (by omega)).trans h3, h4⟩
theorem padA.up {G : xG} {w : Wd} {p : Nat} {cs : List Int} {pl kd le nu se pl2 kd2 le2 nu2 se2 : Int} (h : padA G w p cs pl kd le nu se) : padA G (wS w p (.inr (2, [.ref (p + 1), .int (iI cs.length), .int (iI pl2), .int (iI kd2), .int (iI le2), .int (iI nu2), .int (iI se2)]))) p cs pl2 kd2 le2 nu2 se2 := by
  obtain ⟨h1, h2, f, h3, h4⟩ := h
  exact ⟨h1, wS_eq, f, (wS_ne (by omega)).trans h3, h4⟩
def sgP (cs : List Int) (i : Int) : Int := if 0 ≤ i then cs[i.toNat]?.getD 0 else 0
theorem sgP_b {cs : List Int} (h : padW cs) (i : Int) : 0 ≤ sgP cs i ∧ sgP cs i ≤ 126 := by
  unfold sgP
  split
  · cases h1 : cs[i.toNat]? with
    | none => simp
    | some c =>
      have := h.2 c (List.mem_of_getElem? h1)
      simp only [Option.getD_some]
      omega
  · omega
theorem sgP_in {cs : List Int} {i : Int} (h0 : 0 ≤ i) (h : i < cs.length) : ∃ hi : i.toNat < cs.length, sgP cs i = cs[i.toNat] := by
  refine ⟨by omega, ?_⟩
  unfold sgP
  rw [if_pos h0, List.getElem?_eq_getElem (by omega)]
  rfl
theorem sgP_out {cs : List Int} {i : Int} (h : i < 0 ∨ cs.length ≤ i) : sgP cs i = 0 := by
  unfold sgP
  split
  · rw [List.getElem?_eq_none (by omega)]; rfl
  · rfl
theorem nar_c {x : Int} (h : 0 ≤ x ∧ x < 65536) : narrow .char (.int (iI x)) = .int (iI x) := by
  have h1 := (pk_charN (q := x.toNat) (by omega)).1
  have e : nI x.toNat = iI x := by rw [show nI x.toNat = iI (x.toNat : Int) from iI_nat _]; congr 1; omega
  rw [e] at h1
  exact h1
def isDg (c : Int) : Prop := 48 ≤ c ∧ c ≤ 57
/-- a number's further digits: at most k of them -/
def numL (cs : List Int) : Nat → Int → Int → Int × Int
  | 0, v, i => (v, i)
  | k + 1, v, i => if 0 < v ∧ 48 ≤ sgP cs i ∧ sgP cs i ≤ 57 then numL cs k (v * 10 + sgP cs i - 48) (i + 1) else (v, i)
theorem numL_b {cs : List Int} : ∀ (k : Nat) (v i : Int), 0 ≤ v → 0 ≤ (numL cs k v i).1 ∧ i ≤ (numL cs k v i).2 ∧ (numL cs k v i).2 ≤ i + k := by
  intro k
  induction k with
  | zero => intro v i h; simp only [numL]; omega
  | succ k ih =>
    intro v i h
    simp only [numL]
    split
    · have := ih (v * 10 + sgP cs i - 48) (i + 1) (by omega)
      omega
    · simp only; omega
theorem numL_v {cs : List Int} {v i : Int} (h : 0 ≤ v ∧ v ≤ 9) : (numL cs 3 v i).1 ≤ 9999 := by
  have g : ∀ v i : Int, 0 ≤ v → v ≤ 999 → (numL cs 1 v i).1 ≤ 9999 := by
    intro v i h1 h2
    simp only [numL]
    split <;> simp only <;> omega
  have g2 : ∀ v i : Int, 0 ≤ v → v ≤ 99 → (numL cs 2 v i).1 ≤ 9999 := by
    intro v i h1 h2
    rw [numL]
    split
    · exact g _ _ (by omega) (by omega)
    · simp only; omega
  rw [numL]
  split
  · exact g2 _ _ (by omega) (by omega)
  · simp only; omega
