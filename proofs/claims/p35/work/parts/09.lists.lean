/-! the street as a list of ranges (owner, first meter, meter behind it) -/
abbrev Sg : Type := Int × Int × Int
def cntO : List Sg → Int → Int
  | [], _ => 0
  | s :: t, o => (if s.1 = o then 1 else 0) + cntO t o
def mtsO : List Sg → Int → Int
  | [], _ => 0
  | s :: t, o => (if s.1 = o then s.2.2 - s.2.1 else 0) + mtsO t o
abbrev okS (s : Sg) : Prop := 0 ≤ s.1 ∧ s.1 < 10 ∧ 0 ≤ s.2.1 ∧ s.2.1 < s.2.2 ∧ s.2.2 ≤ 10000
def strW (L : List Sg) : Prop := L.length ≤ 42 ∧ ∀ s ∈ L, okS s
/-- a piece behind all ranges -/
def apF (L : List Sg) (o a n : Int) : List Sg :=
  if o < 0 ∨ n ≤ 0 then L else
  match L.getLast? with
  | some x => if x.1 = o ∧ x.2.2 = a then L.dropLast ++ [(o, x.2.1, x.2.2 + n)] else if L.length < 42 then L ++ [(o, a, a + n)] else L
  | none => L ++ [(o, a, a + n)]
def lefP (a : Int) (s : Sg) : Sg := (s.1, s.2.1, (if a < s.2.2 then a else s.2.2) - s.2.1)
def rigP (b : Int) (s : Sg) : Sg := (s.1, (if s.2.1 < b then b else s.2.1), s.2.2 - (if s.2.1 < b then b else s.2.1))
def apL (T : List Sg) (M : List Sg) : List Sg := M.foldl (fun T x => apF T x.1 x.2.1 x.2.2) T
/-- the street when a piece goes to an owner (or to none) -/
def becF (M : List Sg) (o a n : Int) : List Sg := apL (apF (apL [] (M.map (lefP a))) o a n) (M.map (rigP (a + n)))
def inhP (o h : Int) (s : Sg) : Sg := ((if s.1 = o then h else s.1), s.2.1, s.2.2 - s.2.1)
def inhF (M : List Sg) (o h : Int) : List Sg := apL [] (M.map (inhP o h))
theorem cntO_app (L M : List Sg) (o : Int) : cntO (L ++ M) o = cntO L o + cntO M o := by
  induction L with
  | nil => simp [cntO]
  | cons s t ih => simp only [List.cons_append, cntO, ih]; omega
theorem mtsO_app (L M : List Sg) (o : Int) : mtsO (L ++ M) o = mtsO L o + mtsO M o := by
  induction L with
  | nil => simp [mtsO]
  | cons s t ih => simp only [List.cons_append, mtsO, ih]; omega
theorem cntO_nn (L : List Sg) (o : Int) : 0 ≤ cntO L o ∧ cntO L o ≤ L.length := by
  induction L with
  | nil => simp [cntO]
  | cons s t ih => simp only [cntO, List.length_cons]; split <;> omega
theorem mtsO_nn (L : List Sg) (o : Int) (h : ∀ s ∈ L, okS s) : 0 ≤ mtsO L o ∧ mtsO L o ≤ 10000 * L.length := by
  induction L with
  | nil => simp [mtsO]
  | cons s t ih =>
    have h1 := ih (fun x hx => h x (List.mem_cons_of_mem _ hx))
    have h2 := h s List.mem_cons_self
    simp only [mtsO, List.length_cons]
    split <;> omega
theorem okS_mk {o a b : Int} (h : 0 ≤ o ∧ o < 10 ∧ 0 ≤ a ∧ a < b ∧ b ≤ 10000) : okS (o, a, b) := h
theorem strW_nil : strW [] := ⟨by simp, fun s h => absurd h List.not_mem_nil⟩
theorem strW_at {L : List Sg} (h : strW L) {i : Nat} (hi : i < L.length) : okS L[i] := h.2 _ (List.getElem_mem hi)
theorem apF_W {L : List Sg} {o a n : Int} (h : strW L) (ho : o < 10) (hb : 0 ≤ o → 0 < n → 0 ≤ a ∧ a + n ≤ 10000) : strW (apF L o a n) := by
  unfold apF
  split
  · exact h
  · next h0 =>
    have hb1 := hb (by omega) (by omega)
    cases hl : L.getLast? with
    | none =>
      have : L = [] := List.getLast?_eq_none_iff.mp hl
      subst this
      exact ⟨by simp, fun s hs => by simp at hs; subst hs; exact okS_mk (by omega)⟩
    | some x =>
      have hx : x ∈ L := List.mem_of_getLast? hl
      have hx1 := h.2 x hx
      simp only
      split
      · next h1 =>
        refine ⟨?_, ?_⟩
        · rw [List.length_append, List.length_dropLast]
          have : 0 < L.length := List.length_pos_of_mem hx
          simp only [List.length_cons, List.length_nil]
          have := h.1
          omega
        · intro s hs
          rcases List.mem_append.mp hs with h2 | h2
          · exact h.2 s (List.dropLast_subset _ h2)
          · simp at h2
            subst h2
            exact okS_mk (by omega)
      · split
        · next h2 =>
          refine ⟨by simp; omega, fun s hs => ?_⟩
          rcases List.mem_append.mp hs with h3 | h3
          · exact h.2 s h3
          · simp at h3
            subst h3
            exact okS_mk (by omega)
        · exact h
