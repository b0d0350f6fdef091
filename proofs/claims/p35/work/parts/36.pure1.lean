/-! the law's own laying of ranges (without a bound) is the class's -/
def adF (T : List Sg) (o a n : Int) : List Sg :=
  if o < 0 ∨ n ≤ 0 then T else
  match T.getLast? with
  | some x => if x.1 = o ∧ x.2.2 = a then T.dropLast ++ [(o, x.2.1, x.2.2 + n)] else T ++ [(o, a, a + n)]
  | none => T ++ [(o, a, a + n)]
def adS (T : List Sg) (x : Sg) : List Sg := adF T x.1 x.2.1 x.2.2
def adL (T M : List Sg) : List Sg := M.foldl adS T
theorem adF_no {T : List Sg} {o a n : Int} (h : o < 0 ∨ n ≤ 0) : adF T o a n = T := if_pos h
theorem adF_nil {T : List Sg} {o a n : Int} (h : ¬ (o < 0 ∨ n ≤ 0)) (hT : T.getLast? = none) : adF T o a n = T ++ [(o, a, a + n)] := by
  unfold adF
  rw [if_neg h, hT]
theorem adF_ext {T : List Sg} {o a n : Int} {x : Sg} (h : ¬ (o < 0 ∨ n ≤ 0)) (hT : T.getLast? = some x) (hx : x.1 = o ∧ x.2.2 = a) : adF T o a n = T.dropLast ++ [(o, x.2.1, x.2.2 + n)] := by
  unfold adF
  rw [if_neg h, hT]
  exact if_pos hx
theorem adF_push {T : List Sg} {o a n : Int} {x : Sg} (h : ¬ (o < 0 ∨ n ≤ 0)) (hT : T.getLast? = some x) (hx : ¬ (x.1 = o ∧ x.2.2 = a)) : adF T o a n = T ++ [(o, a, a + n)] := by
  unfold adF
  rw [if_neg h, hT]
  exact if_neg hx
theorem len_last {T : List Sg} {x : Sg} (h : T.getLast? = some x) : T = T.dropLast ++ [x] ∧ 0 < T.length := by
  have h1 : T ≠ [] := fun e => by subst e; cases h
  have h2 : 0 < T.length := List.length_pos_iff.mpr h1
  refine ⟨?_, h2⟩
  have h3 := List.dropLast_concat_getLast h1
  rw [List.getLast?_eq_some_getLast h1] at h
  cases h
  exact h3.symm
theorem adF_len (T : List Sg) (o a n : Int) : T.length ≤ (adF T o a n).length ∧ (adF T o a n).length ≤ T.length + 1 := by
  by_cases h : o < 0 ∨ n ≤ 0
  · rw [adF_no h]; omega
  · cases hT : T.getLast? with
    | none => rw [adF_nil h hT, List.length_append]; simp
    | some x =>
      have hl := (len_last hT).2
      by_cases hx : x.1 = o ∧ x.2.2 = a
      · rw [adF_ext h hT hx, List.length_append, List.length_dropLast]; simp; omega
      · rw [adF_push h hT hx, List.length_append]; simp
theorem adL_cons (T : List Sg) (x : Sg) (M : List Sg) : adL T (x :: M) = adL (adS T x) M := rfl
theorem adL_nil (T : List Sg) : adL T [] = T := rfl
theorem adL_app (T M N : List Sg) : adL T (M ++ N) = adL (adL T M) N := List.foldl_append
theorem adL_len : ∀ (M T : List Sg), T.length ≤ (adL T M).length ∧ (adL T M).length ≤ T.length + M.length := by
  intro M
  induction M with
  | nil => intro T; exact ⟨Nat.le_refl _, Nat.le_add_right _ _⟩
  | cons x M ih =>
    intro T
    rw [adL_cons, List.length_cons]
    have h1 := ih (adS T x)
    have h2 := adF_len T x.1 x.2.1 x.2.2
    unfold adS at *
    omega
theorem adF_ap {T : List Sg} {o a n : Int} (h : (adF T o a n).length ≤ 42) : apF T o a n = adF T o a n := by
  unfold apF
  by_cases h0 : o < 0 ∨ n ≤ 0
  · rw [if_pos h0, adF_no h0]
  · rw [if_neg h0]
    cases hT : T.getLast? with
    | none => rw [adF_nil h0 hT]
    | some x =>
      by_cases hx : x.1 = o ∧ x.2.2 = a
      · rw [adF_ext h0 hT hx]
        exact if_pos hx
      · rw [adF_push h0 hT hx] at h ⊢
        rw [List.length_append] at h
        show (if x.1 = o ∧ x.2.2 = a then _ else if T.length < 42 then _ else _) = _
        rw [if_neg hx, if_pos (by simp at h; omega)]
theorem adL_ap : ∀ (M T : List Sg), (adL T M).length ≤ 42 → apL T M = adL T M := by
  intro M
  induction M with
  | nil => intro T _; rfl
  | cons x M ih =>
    intro T h
    rw [adL_cons] at h ⊢
    have h1 := (adL_len M (adS T x)).1
    show apL (apF T x.1 x.2.1 x.2.2) M = _
    rw [adF_ap (show (adF T x.1 x.2.1 x.2.2).length ≤ 42 from Nat.le_trans h1 h)]
    exact ih _ h
theorem adL_no : ∀ (M T : List Sg), (∀ x ∈ M, x.1 < 0 ∨ x.2.2 ≤ 0) → adL T M = T := by
  intro M
  induction M with
  | nil => intro T _; rfl
  | cons x M ih =>
    intro T h
    rw [adL_cons]
    have h1 : adS T x = T := adF_no (h x List.mem_cons_self)
    rw [h1]
    exact ih T fun y hy => h y (List.mem_cons_of_mem _ hy)
/-- how many of the pieces are pieces -/
def effN : List Sg → Nat
  | [] => 0
  | x :: t => (if 0 < x.2.2 then 1 else 0) + effN t
theorem effN_app (M N : List Sg) : effN (M ++ N) = effN M + effN N := by
  induction M with
  | nil => simp [effN]
  | cons x M ih => simp only [List.cons_append, effN, ih]; omega
theorem adL_eff : ∀ (M T : List Sg), (adL T M).length ≤ T.length + effN M := by
  intro M
  induction M with
  | nil => intro T; exact Nat.le_add_right _ _
  | cons x M ih =>
    intro T
    rw [adL_cons]
    have h1 := ih (adS T x)
    have h2 := adF_len T x.1 x.2.1 x.2.2
    simp only [effN]
    by_cases h : 0 < x.2.2
    · rw [if_pos h]; unfold adS at *; omega
    · rw [if_neg h]
      have h3 : adS T x = T := adF_no (Or.inr (by omega))
      rw [h3] at h1 ⊢
      omega
/-- ranges along the street -/
def srtL (L : List Sg) : Prop := L.Pairwise (fun x y => x.2.2 ≤ y.2.1)
def jn (x y : Sg) : Prop := x.2.2 ≤ y.2.1 ∧ (x.2.2 = y.2.1 → x.1 ≠ y.1)
/-- .. and none beside its like -/
def canL (L : List Sg) : Prop := ∀ (i : Nat) (h : i + 1 < L.length), jn L[i] L[i + 1]
theorem canL_nil : canL [] := fun i h => by simp at h
theorem can_lt {L : List Sg} (h : canL L) (ho : ∀ s ∈ L, s.2.1 < s.2.2) : ∀ (k i : Nat) (hj : i + k + 1 < L.length), L[i].2.2 ≤ L[i + k + 1].2.1 := by
  intro k
  induction k with
  | zero => intro i hj; exact (h i hj).1
  | succ k ih =>
    intro i hj
    have h1 := ih i (by omega)
    have h2 := (h (i + k + 1) (by omega)).1
    have h3 := ho L[i + k + 1] (List.getElem_mem _)
    have h4 : L[i + (k + 1) + 1].2.1 = L[i + k + 1 + 1].2.1 := by congr 2
    omega
theorem can_le {L : List Sg} (h : canL L) (ho : ∀ s ∈ L, s.2.1 < s.2.2) {i j : Nat} (hij : i < j) (hj : j < L.length) : L[i].2.2 ≤ L[j].2.1 := by
  obtain ⟨k, rfl⟩ : ∃ k, j = i + k + 1 := ⟨j - i - 1, by omega⟩
  exact can_lt h ho k i hj
theorem can_srt {L : List Sg} (h : canL L) (ho : ∀ s ∈ L, s.2.1 < s.2.2) : srtL L := by
  unfold srtL
  rw [List.pairwise_iff_getElem]
  intro i j hi hj hij
  exact can_le h ho hij hj
theorem effN_b {a e : Int} (he : a < e) : ∀ M : List Sg, srtL M → (∀ s ∈ M, s.2.1 < s.2.2) → effN (M.map (lefP a)) + effN (M.map (rigP e)) ≤ M.length + 1 := by
  intro M
  induction M with
  | nil => intro _ _; simp [effN]
  | cons s M ih =>
    intro hs ho
    obtain ⟨h1, h2⟩ := List.pairwise_cons.mp hs
    have h3 := ih h2 fun x hx => ho x (List.mem_cons_of_mem _ hx)
    have h4 := ho s List.mem_cons_self
    simp only [List.map_cons, effN, List.length_cons]
    by_cases hc : s.2.2 ≤ a
    · have e1 : ¬ 0 < (rigP e s).2.2 := by
        show ¬ 0 < s.2.2 - (if s.2.1 < e then e else s.2.1)
        rw [if_pos (by omega)]; omega
      rw [if_neg e1]
      split <;> omega
    · have h5 : effN (M.map (lefP a)) = 0 := by
        have : ∀ N : List Sg, (∀ x ∈ N, a ≤ x.2.1) → effN (N.map (lefP a)) = 0 := by
          intro N
          induction N with
          | nil => intro _; rfl
          | cons x N ihN =>
            intro hN
            have q := hN x List.mem_cons_self
            simp only [List.map_cons, effN]
            rw [ihN fun y hy => hN y (List.mem_cons_of_mem _ hy)]
            have e1 : ¬ 0 < (lefP a x).2.2 := by
              show ¬ 0 < (if a < x.2.2 then a else x.2.2) - x.2.1
              split <;> omega
            rw [if_neg e1]
        exact this M fun x hx => by have := h1 x hx; omega
      have h6 : effN (M.map (rigP e)) ≤ M.length := by
        have : ∀ N : List Sg, effN N ≤ N.length := by
          intro N
          induction N with
          | nil => exact Nat.le_refl _
          | cons x N ihN => simp only [effN, List.length_cons]; split <;> omega
        have := this (M.map (rigP e))
        rwa [List.length_map] at this
      split <;> split <;> omega
/-- the pieces that make the street anew -/
def opsB (L : List Sg) (o a n : Int) : List Sg := L.map (lefP a) ++ (o, a, n) :: L.map (rigP (a + n))
theorem bec_ad {L : List Sg} {o a n : Int} (hL : srtL L) (ho : ∀ s ∈ L, s.2.1 < s.2.2) (hl : L.length ≤ 40) (hn : 0 < n) : becF L o a n = adL [] (opsB L o a n) ∧ (becF L o a n).length ≤ L.length + 2 := by
  have h1 := effN_b (a := a) (e := a + n) (by omega) L hL ho
  have h2 : (adL [] (opsB L o a n)).length ≤ L.length + 2 := by
    have h3 := adL_eff (opsB L o a n) []
    unfold opsB at *
    rw [effN_app] at h3
    simp only [effN] at h3
    rw [if_pos hn] at h3
    have h4 : ([] : List Sg).length = 0 := rfl
    omega
  have h5 : becF L o a n = adL [] (opsB L o a n) := by
    rw [← adL_ap _ _ (by omega)]
    unfold becF opsB apL
    rw [List.foldl_append]
    rfl
  exact ⟨h5, by rw [h5]; exact h2⟩
/-! the law's loop: the piece's place is found on the way -/
def layS (a e o : Int) (c : List Sg × Bool) (s : Sg) : List Sg × Bool :=
  let c1 := if c.2 = false ∧ a ≤ s.2.1 then (adF c.1 o a (e - a), true) else c
  let T2 := adS c1.1 (lefP a s)
  let c3 := if c1.2 = false ∧ a < s.2.2 then (adF T2 o a (e - a), true) else (T2, c1.2)
  (adS c3.1 (rigP e s), c3.2)
def layE (a e o : Int) (c : List Sg × Bool) : List Sg := if c.2 = true then c.1 else adF c.1 o a (e - a)
theorem lay_in {a e o : Int} : ∀ (M T : List Sg), (∀ s ∈ M, a ≤ s.2.1 ∧ s.2.1 < s.2.2) → M.foldl (layS a e o) (T, true) = (adL T (M.map (rigP e)), true) := by
  intro M
  induction M with
  | nil => intro T _; rfl
  | cons s M ih =>
    intro T h
    have h1 := h s List.mem_cons_self
    have e1 : adS T (lefP a s) = T := adF_no (Or.inr (by show (if a < s.2.2 then a else s.2.2) - s.2.1 ≤ 0; rw [if_pos (by omega)]; omega))
    have e2 : layS a e o (T, true) s = (adS T (rigP e s), true) := by
      unfold layS
      simp [e1]
    rw [List.foldl_cons, e2, ih _ fun x hx => h x (List.mem_cons_of_mem _ hx)]
    rfl
theorem lef_no {a : Int} {M : List Sg} (h : ∀ s ∈ M, a ≤ s.2.1) (T : List Sg) : adL T (M.map (lefP a)) = T := by
  refine adL_no _ _ fun x hx => ?_
  obtain ⟨s, hs, rfl⟩ := List.mem_map.mp hx
  have := h s hs
  refine Or.inr ?_
  show (if a < s.2.2 then a else s.2.2) - s.2.1 ≤ 0
  split <;> omega
theorem lay_out {a e o : Int} (he : a < e) : ∀ (M T : List Sg), srtL M → (∀ s ∈ M, s.2.1 < s.2.2) → layE a e o (M.foldl (layS a e o) (T, false)) = adL (adF (adL T (M.map (lefP a))) o a (e - a)) (M.map (rigP e)) := by
  intro M
  induction M with
  | nil => intro T _ _; rfl
  | cons s M ih =>
    intro T hs ho
    obtain ⟨h1, h2⟩ := List.pairwise_cons.mp hs
    have h4 := ho s List.mem_cons_self
    have ho2 : ∀ x ∈ M, x.2.1 < x.2.2 := fun x hx => ho x (List.mem_cons_of_mem _ hx)
    rw [List.foldl_cons, List.map_cons, List.map_cons, adL_cons, adL_cons]
    by_cases c1 : a ≤ s.2.1
    · have e0 : ∀ T : List Sg, adS T (lefP a s) = T := fun T => adF_no (Or.inr (by show (if a < s.2.2 then a else s.2.2) - s.2.1 ≤ 0; rw [if_pos (by omega)]; omega))
      have e2 : layS a e o (T, false) s = (adS (adF T o a (e - a)) (rigP e s), true) := by
        unfold layS
        simp [e0, c1]
      have hM : ∀ x ∈ M, a ≤ x.2.1 ∧ x.2.1 < x.2.2 := fun x hx => ⟨by have := h1 x hx; omega, ho2 x hx⟩
      rw [e2, lay_in _ _ hM, e0, lef_no fun x hx => (hM x hx).1]
      rfl
    · by_cases c2 : a < s.2.2
      · have e2 : layS a e o (T, false) s = (adS (adF (adS T (lefP a s)) o a (e - a)) (rigP e s), true) := by
          unfold layS
          simp [c1, c2]
        have hM : ∀ x ∈ M, a ≤ x.2.1 ∧ x.2.1 < x.2.2 := fun x hx => ⟨by have := h1 x hx; omega, ho2 x hx⟩
        rw [e2, lay_in _ _ hM, lef_no fun x hx => (hM x hx).1]
        rfl
      · have e0 : ∀ T : List Sg, adS T (rigP e s) = T := fun T => adF_no (Or.inr (by show s.2.2 - (if s.2.1 < e then e else s.2.1) ≤ 0; rw [if_pos (by omega)]; omega))
        have e2 : layS a e o (T, false) s = (adS T (lefP a s), false) := by
          unfold layS
          simp [c1, c2, e0]
        rw [e2, ih _ h2 ho2, e0]
/-- what the law lays is the class's street -/
theorem lay_bec {L : List Sg} {a e o : Int} (hL : srtL L) (ho : ∀ s ∈ L, s.2.1 < s.2.2) (hl : L.length ≤ 40) (he : a < e) : layE a e o (L.foldl (layS a e o) ([], false)) = becF L o a (e - a) := by
  rw [lay_out he L [] hL ho, (bec_ad (n := e - a) hL ho hl (by omega)).1]
  unfold opsB
  rw [adL_app, adL_cons, show a + (e - a) = e by omega]
  rfl
theorem layS_len (a e o : Int) (c : List Sg × Bool) (s : Sg) : (layS a e o c s).1.length ≤ c.1.length + 4 := by
  have h := fun (T : List Sg) (x : Sg) => (adF_len T x.1 x.2.1 x.2.2).2
  have h2 := fun (T : List Sg) => (adF_len T o a (e - a)).2
  unfold layS
  dsimp only
  have k1 : (if c.2 = false ∧ a ≤ s.2.1 then (adF c.1 o a (e - a), true) else c).1.length ≤ c.1.length + 1 := by
    split
    · exact h2 _
    · exact Nat.le_add_right _ _
  generalize (if c.2 = false ∧ a ≤ s.2.1 then (adF c.1 o a (e - a), true) else c) = c1 at *
  have k2 := h c1.1 (lefP a s)
  have k3 : (if c1.2 = false ∧ a < s.2.2 then (adF (adS c1.1 (lefP a s)) o a (e - a), true) else (adS c1.1 (lefP a s), c1.2)).1.length ≤ (adS c1.1 (lefP a s)).length + 1 := by
    split
    · exact h2 _
    · exact Nat.le_add_right _ _
  generalize (if c1.2 = false ∧ a < s.2.2 then (adF (adS c1.1 (lefP a s)) o a (e - a), true) else (adS c1.1 (lefP a s), c1.2)) = c3 at *
  have k4 := h c3.1 (rigP e s)
  unfold adS at *
  omega
theorem layS_mono (a e o : Int) (c : List Sg × Bool) (s : Sg) : c.1.length ≤ (layS a e o c s).1.length := by
  have h := fun (T : List Sg) (x : Sg) => (adF_len T x.1 x.2.1 x.2.2).1
  have h2 := fun (T : List Sg) => (adF_len T o a (e - a)).1
  unfold layS
  dsimp only
  have k1 : c.1.length ≤ (if c.2 = false ∧ a ≤ s.2.1 then (adF c.1 o a (e - a), true) else c).1.length := by
    split
    · exact h2 _
    · exact Nat.le_refl _
  generalize (if c.2 = false ∧ a ≤ s.2.1 then (adF c.1 o a (e - a), true) else c) = c1 at *
  have k2 := h c1.1 (lefP a s)
  have k3 : (adS c1.1 (lefP a s)).length ≤ (if c1.2 = false ∧ a < s.2.2 then (adF (adS c1.1 (lefP a s)) o a (e - a), true) else (adS c1.1 (lefP a s), c1.2)).1.length := by
    split
    · exact h2 _
    · exact Nat.le_refl _
  generalize (if c1.2 = false ∧ a < s.2.2 then (adF (adS c1.1 (lefP a s)) o a (e - a), true) else (adS c1.1 (lefP a s), c1.2)) = c3 at *
  have k4 := h c3.1 (rigP e s)
  unfold adS at *
  omega
theorem layE_mono (a e o : Int) : ∀ (M : List Sg) (c : List Sg × Bool), c.1.length ≤ (layE a e o (M.foldl (layS a e o) c)).length := by
  intro M
  induction M with
  | nil =>
    intro c
    unfold layE
    split
    · exact Nat.le_refl _
    · exact (adF_len _ _ _ _).1
  | cons s M ih =>
    intro c
    exact Nat.le_trans (layS_mono a e o c s) (ih _)
