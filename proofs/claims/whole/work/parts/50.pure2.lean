/-! the ranges among the pieces; rows that are laid against pieces that are added -/
def rngS (L : List Sg) : List Sg := L.filter fun s => decide (0 ≤ s.1)
theorem rngS_nil : rngS [] = [] := rfl
theorem rngS_pos {s : Sg} {L : List Sg} (h : 0 ≤ s.1) : rngS (s :: L) = s :: rngS L := List.filter_cons_of_pos (by simpa using h)
theorem rngS_neg {s : Sg} {L : List Sg} (h : s.1 < 0) : rngS (s :: L) = rngS L := List.filter_cons_of_neg (by simp; omega)
theorem rngS_app (L M : List Sg) : rngS (L ++ M) = rngS L ++ rngS M := by unfold rngS; rw [List.filter_append]
theorem rngS_mem {s : Sg} {L : List Sg} : s ∈ rngS L ↔ s ∈ L ∧ 0 ≤ s.1 := by unfold rngS; rw [List.mem_filter]; simp
theorem rngS_len (L : List Sg) : ((rngS L).length : Int) = rnF L := by
  induction L with
  | nil => rfl
  | cons s L ih =>
    rw [rnF_cons]
    by_cases h : 0 ≤ s.1
    · rw [rngS_pos h, List.length_cons, if_pos h]; omega
    · rw [rngS_neg (by omega), if_neg h]; omega
/-- a piece behind all ranges, without a limit -/
def apG (L : List Sg) (o a n : Int) : List Sg :=
  if o < 0 ∨ n ≤ 0 then L else
  match L.getLast? with
  | some x => if x.1 = o ∧ x.2.2 = a then L.dropLast ++ [(o, x.2.1, x.2.2 + n)] else L ++ [(o, a, a + n)]
  | none => L ++ [(o, a, a + n)]
theorem apG_no {L : List Sg} {o a n : Int} (h : o < 0 ∨ n ≤ 0) : apG L o a n = L := if_pos h
theorem apG_new {L : List Sg} {o a n : Int} (h : 0 ≤ o ∧ 0 < n) (hx : ∀ x, L.getLast? = some x → ¬ (x.1 = o ∧ x.2.2 = a)) : apG L o a n = L ++ [(o, a, a + n)] := by
  unfold apG
  rw [if_neg (by omega)]
  cases hg : L.getLast? with
  | none => rfl
  | some x => exact if_neg (hx x hg)
theorem apG_len (L : List Sg) (o a n : Int) : L.length ≤ (apG L o a n).length ∧ (apG L o a n).length ≤ L.length + 1 := by
  unfold apG
  split
  · omega
  · split
    · next x hx =>
      have : L ≠ [] := fun q => by rw [q] at hx; cases hx
      have := List.length_pos_iff.mpr this
      split
      · simp only [List.length_append, List.length_dropLast, List.length_cons, List.length_nil]; omega
      · simp only [List.length_append, List.length_cons, List.length_nil]; omega
    · simp only [List.length_append, List.length_cons, List.length_nil]; omega
theorem apG_F {L : List Sg} {o a n : Int} (h : (apG L o a n).length ≤ 42) : apF L o a n = apG L o a n := by
  unfold apG at h ⊢
  unfold apF
  by_cases c : o < 0 ∨ n ≤ 0
  · rw [if_pos c, if_pos c]
  · rw [if_neg c] at h
    rw [if_neg c, if_neg c]
    cases hg : L.getLast? with
    | none => rfl
    | some x =>
      rw [hg] at h
      dsimp only at h ⊢
      by_cases d : x.1 = o ∧ x.2.2 = a
      · rw [if_pos d, if_pos d]
      · rw [if_neg d] at h
        rw [if_neg d, if_neg d, if_pos (by simp at h; omega)]
def apM (T : List Sg) (M : List Sg) : List Sg := M.foldl (fun T x => apG T x.1 x.2.1 x.2.2) T
theorem apM_nil (T : List Sg) : apM T [] = T := rfl
theorem apM_cons (T : List Sg) (x : Sg) (M : List Sg) : apM T (x :: M) = apM (apG T x.1 x.2.1 x.2.2) M := rfl
theorem apM_app (T M N : List Sg) : apM T (M ++ N) = apM (apM T M) N := List.foldl_append
theorem apM_no {M : List Sg} : ∀ T : List Sg, (∀ x ∈ M, x.1 < 0 ∨ x.2.2 ≤ 0) → apM T M = T := by
  induction M with
  | nil => intro T _; rfl
  | cons x M ih =>
    intro T h
    rw [apM_cons, apG_no (h x List.mem_cons_self)]
    exact ih T fun y hy => h y (List.mem_cons_of_mem _ hy)
theorem apM_len (M : List Sg) : ∀ T : List Sg, T.length ≤ (apM T M).length := by
  induction M with
  | nil => intro T; exact Nat.le_refl _
  | cons x M ih => intro T; rw [apM_cons]; exact Nat.le_trans (apG_len T x.1 x.2.1 x.2.2).1 (ih _)
theorem apM_F (M : List Sg) : ∀ T : List Sg, (apM T M).length ≤ 42 → apL T M = apM T M := by
  induction M with
  | nil => intro T _; rfl
  | cons x M ih =>
    intro T h
    rw [apM_cons] at h ⊢
    have h1 : (apG T x.1 x.2.1 x.2.2).length ≤ 42 := Nat.le_trans (apM_len M _) h
    rw [show apL T (x :: M) = apL (apF T x.1 x.2.1 x.2.2) M from rfl, apG_F h1]
    exact ih _ h
/-- holes add nothing, so only the ranges count -/
theorem apM_rng (f : Sg → Sg) (hf : ∀ s : Sg, s.1 < 0 → (f s).1 < 0) (S : List Sg) : ∀ T : List Sg, apM T ((rngS S).map f) = apM T (S.map f) := by
  induction S with
  | nil => intro T; rfl
  | cons s S ih =>
    intro T
    by_cases h : 0 ≤ s.1
    · rw [rngS_pos h, List.map_cons, List.map_cons, apM_cons, apM_cons]; exact ih _
    · rw [rngS_neg (by omega), List.map_cons, apM_cons, apG_no (Or.inl (hf s (by omega)))]; exact ih _
def becG (M : List Sg) (o a n : Int) : List Sg := apM (apG (apM [] (M.map (lefP a))) o a n) (M.map (rigP (a + n)))
theorem becG_F {M : List Sg} {o a n : Int} (h : (becG M o a n).length ≤ 42) : becF M o a n = becG M o a n := by
  unfold becG at h ⊢
  unfold becF
  have h1 := Nat.le_trans (apM_len _ _) h
  have h2 := Nat.le_trans (apG_len _ _ _ _).1 h1
  rw [apM_F _ _ h2, apG_F h1, apM_F _ _ h]
theorem becG_rng (S : List Sg) (o a n : Int) : becG (rngS S) o a n = becG S o a n := by
  unfold becG
  rw [apM_rng (lefP a) (fun s h => h), apM_rng (rigP (a + n)) (fun s h => h)]
/-- a row that reaches to a: what is laid there is added behind its ranges -/
theorem rng_lay {R : List Sg} {a b o : Int} (h : a < b → chE a 0 R) : rngS (layF R a b o) = apG (rngS R) o a (b - a) := by
  by_cases hb : a < b
  · have h := h hb
    unfold layF
    rw [if_pos hb]
    cases hg : R.getLast? with
    | none =>
      have hRn : R = [] := List.getLast?_eq_none_iff.mp hg
      subst hRn
      dsimp only
      by_cases ho : 0 ≤ o
      · rw [apG_new ⟨ho, by omega⟩ (fun x q => by cases q), rngS_pos ho, show a + (b - a) = b by omega]; rfl
      · rw [apG_no (Or.inl (by omega)), rngS_neg (show ((o, a, b) : Sg).1 < 0 by show o < 0; omega)]
    | some s =>
      have hRn := lastE hg
      dsimp only
      have h2 := h
      rw [hRn] at h2
      obtain ⟨h3, h4, h5, h6⟩ := chE_pre _ h2
      by_cases c : s.1 = o
      · rw [if_pos c, rngS_app]
        by_cases ho : 0 ≤ o
        · have e1 : rngS R = rngS R.dropLast ++ [s] := by
            have : rngS R = rngS (R.dropLast ++ [s]) := by rw [← hRn]
            rw [this, rngS_app, rngS_pos (show 0 ≤ s.1 by omega), rngS_nil]
          rw [rngS_pos (show (0 : Int) ≤ ((s.1, s.2.1, b) : Sg).1 by show 0 ≤ s.1; omega), rngS_nil, e1]
          unfold apG
          rw [if_neg (by omega), List.getLast?_concat]
          dsimp only
          rw [if_pos ⟨c, h4⟩, List.dropLast_concat, show s.2.2 + (b - a) = b by omega, c]
        · rw [apG_no (Or.inl (by omega)), rngS_neg (show ((s.1, s.2.1, b) : Sg).1 < 0 by show s.1 < 0; omega)]
          have : rngS R = rngS (R.dropLast ++ [s]) := by rw [← hRn]
          rw [this, rngS_app, rngS_neg (show s.1 < 0 by omega)]
      · rw [if_neg c, rngS_app]
        by_cases ho : 0 ≤ o
        · rw [rngS_pos (show (0 : Int) ≤ ((o, a, b) : Sg).1 from ho), rngS_nil, apG_new ⟨ho, by omega⟩ (fun x hx q => ?_), show a + (b - a) = b by omega]
          have hx1 := (rngS_mem.mp (List.mem_of_getLast? hx)).1
          rw [hRn] at hx1
          rcases List.mem_append.mp hx1 with hx2 | hx2
          · have := (chE_ok 0 h3 x hx2).2.2.2
            omega
          · rw [List.mem_singleton] at hx2
            subst hx2
            exact c q.1
        · rw [apG_no (Or.inl (by omega)), rngS_neg (show ((o, a, b) : Sg).1 < 0 by show o < 0; omega), rngS_nil, List.append_nil]
  · rw [layF_no hb, apG_no (Or.inr (by omega))]
/-- the pieces before a meter, the one that has it, those behind it -/
theorem chn_split : ∀ (S : List Sg) (x a : Int), chn x S → x ≤ a → a < 10000 → ∃ (A : List Sg) (s : Sg) (B : List Sg), S = A ++ s :: B ∧ s.2.1 ≤ a ∧ a < s.2.2 ∧ chE s.2.1 x A ∧ chn s.2.2 B ∧ okO s.1 := by
  intro S
  induction S with
  | nil => intro x a h h1 h2; have : x = 10000 := h; omega
  | cons s S ih =>
    intro x a h h1 h2
    obtain ⟨g1, g2, g3, g4⟩ := h
    by_cases c : a < s.2.2
    · exact ⟨[], s, S, rfl, by omega, c, g1.symm, g4, g3⟩
    · obtain ⟨A, u, B, e, h3, h4, h5, h6, h7⟩ := ih s.2.2 a g4 (by omega) h2
      exact ⟨s :: A, u, B, by rw [e]; rfl, h3, h4, ⟨g1, g2, g3, h5⟩, h6, h7⟩
/-- the pieces that lie before are laid as they are -/
theorem lr_pre {a b o e : Int} (hb : a < b) : ∀ (A R : List Sg) (x : Int), chE e x A → e ≤ a → chE x 0 R → rngS (A.foldl (lrS a b o) R) = apM (rngS R) (A.map (lefP a)) ∧ chE e 0 (A.foldl (lrS a b o) R) ∧ (adj R → adj (A.foldl (lrS a b o) R)) := by
  intro A
  induction A with
  | nil => intro R x h he hR; have : x = e := h; subst this; exact ⟨rfl, hR, fun q => q⟩
  | cons s A ih =>
    intro R x h he hR
    obtain ⟨g1, g2, g3, g4⟩ := h
    subst g1
    have hle := chE_le _ g4
    have e1 : lrS a b o R s = layF R s.2.1 s.2.2 s.1 := by
      unfold lrS
      rw [if_neg (show ¬ (s.2.1 ≤ a ∧ a < s.2.2) by omega), if_neg (show ¬ b < s.2.1 by omega), layF_no (a := b) (by omega)]
      have : (if s.2.2 < a then s.2.2 else a) = s.2.2 := by split <;> omega
      rw [this]
    have e2 : chE s.2.2 0 (layF R s.2.1 s.2.2 s.1) := by
      have : ∀ R : List Sg, chE s.2.1 0 R → chE s.2.2 0 (layF R s.2.1 s.2.2 s.1) := by
        intro R hR
        unfold layF
        rw [if_pos g2]
        cases hg : R.getLast? with
        | none =>
          have hRn : R = [] := List.getLast?_eq_none_iff.mp hg
          subst hRn
          have h0 : (0 : Int) = s.2.1 := hR
          exact ⟨h0.symm, by show (0 : Int) < s.2.2; omega, g3, rfl⟩
        | some u =>
          have hRn := lastE hg
          dsimp only
          split
          · rw [hRn] at hR
            obtain ⟨h1, h2, h3, h4⟩ := chE_pre _ hR
            exact chE_app (x := (u.1, u.2.1, s.2.2)) (by show u.2.1 < s.2.2; omega) rfl h3 _ h1
          · exact chE_app (x := (s.1, s.2.1, s.2.2)) g2 rfl g3 _ hR
      exact this R hR
    obtain ⟨i1, i2, i3⟩ := ih (lrS a b o R s) s.2.2 g4 he (by rw [e1]; exact e2)
    refine ⟨?_, i2, fun q => i3 (by rw [e1]; exact (layF_cov hR q g3 g2).2)⟩
    rw [List.foldl_cons, i1, e1, rng_lay (fun _ => hR), List.map_cons, apM_cons]
    have : (lefP a s) = (s.1, s.2.1, s.2.2 - s.2.1) := by
      unfold lefP
      have : (if a < s.2.2 then a else s.2.2) = s.2.2 := by split <;> omega
      rw [this]
    rw [this]
/-- the pieces that begin behind -/
theorem lr_suf {a b o : Int} (hb : a < b) : ∀ (B R : List Sg) (x : Int), chn x B → a < x → chE (if x < b then b else x) 0 R → adj R → rngS (B.foldl (lrS a b o) R) = apM (rngS R) (B.map (rigP b)) := by
  intro B
  induction B with
  | nil => intro R x h he hR ha; rfl
  | cons s B ih =>
    intro R x h he hR ha
    obtain ⟨g1, g2, g3, g4⟩ := h
    subst g1
    have e1 : lrS a b o R s = layF R (if b < s.2.1 then s.2.1 else b) s.2.2 s.1 := by
      unfold lrS
      rw [if_neg (show ¬ (s.2.1 ≤ a ∧ a < s.2.2) by omega), layF_no (R := R) (a := s.2.1) (by split <;> omega)]
    have e3 : (if b < s.2.1 then s.2.1 else b) = (if s.2.1 < b then b else s.2.1) := by split <;> split <;> omega
    have e2 : chE (if s.2.2 < b then b else s.2.2) 0 (lrS a b o R s) ∧ adj (lrS a b o R s) := by
      rw [e1, e3]
      by_cases c : (if s.2.1 < b then b else s.2.1) < s.2.2
      · have := layF_cov (o := s.1) hR ha g3 c
        rw [if_neg (by split at c <;> omega)]
        exact this
      · rw [layF_no c]
        have e : (if s.2.2 < b then b else s.2.2) = (if s.2.1 < b then b else s.2.1) := by split at c <;> split <;> (try split) <;> omega
        rw [e]
        exact ⟨hR, ha⟩
    rw [List.foldl_cons, ih _ s.2.2 g4 (by omega) e2.1 e2.2, e1, e3, rng_lay (fun _ => hR), List.map_cons, apM_cons]
    rfl
theorem chE_A {A : List Sg} {s : Sg} {a : Int} (hA : chE s.2.1 0 A) (h : s.2.1 ≤ a) : ∀ x ∈ A, x.2.2 ≤ a := fun x hx => by have := (chE_ok 0 hA x hx).2.2.2; omega
theorem chn_B {B : List Sg} {x : Int} (hB : chn x B) : ∀ s ∈ B, x ≤ s.2.1 ∧ s.2.1 < s.2.2 ∧ s.2.2 ≤ 10000 ∧ okO s.1 := fun s hs => by
  have := chE_ok x ((chE_n x).mpr hB) s hs
  exact ⟨this.2.1, this.2.2.1, this.2.2.2, this.1⟩
theorem lr_three {S A B : List Sg} {s : Sg} {a b o : Int} (e : S = A ++ s :: B) (hA : chE s.2.1 0 A) (hB : chn s.2.2 B) (hs : okO s.1) (h1 : s.2.1 ≤ a) (h2 : a < s.2.2) (hb : a < b) (ho : okO o) (hj : adj S) : rngS (lrF S a b o) = apM (apG (apG (apG (apM [] (A.map (lefP a))) s.1 s.2.1 (a - s.2.1)) o a (b - a)) s.1 b (s.2.2 - b)) (B.map (rigP b)) := by
  subst e
  unfold lrF
  rw [List.foldl_append, List.foldl_cons]
  obtain ⟨p1, p2, p3⟩ := lr_pre (o := o) hb A [] 0 hA h1 rfl
  have p3 := p3 trivial
  generalize A.foldl (lrS a b o) [] = R at p1 p2 p3
  have e1 : lrS a b o R s = layF (layF (layF R s.2.1 a s.1) a b o) b s.2.2 s.1 := by
    unfold lrS
    rw [if_pos ⟨h1, h2⟩, if_neg (show ¬ s.2.2 < a by omega), if_neg (show ¬ b < s.2.1 by omega)]
  have c1 : chE a 0 (layF R s.2.1 a s.1) ∧ adj (layF R s.2.1 a s.1) := by
    by_cases c : s.2.1 < a
    · exact layF_cov p2 p3 hs c
    · rw [layF_no c, show a = s.2.1 by omega]; exact ⟨p2, p3⟩
  have c2 := layF_cov c1.1 c1.2 ho hb
  have c3 : chE (if s.2.2 < b then b else s.2.2) 0 (layF (layF (layF R s.2.1 a s.1) a b o) b s.2.2 s.1) ∧ adj (layF (layF (layF R s.2.1 a s.1) a b o) b s.2.2 s.1) := by
    by_cases c : b < s.2.2
    · rw [if_neg (by omega)]; exact layF_cov c2.1 c2.2 hs c
    · rw [layF_no c]
      have : (if s.2.2 < b then b else s.2.2) = b := by split <;> omega
      rw [this]; exact c2
  rw [lr_suf hb B _ s.2.2 hB h2 (by rw [e1]; exact c3.1) (by rw [e1]; exact c3.2), e1, rng_lay (fun _ => c2.1), rng_lay (fun _ => c1.1), rng_lay (fun _ => p2), p1, rngS_nil]
theorem bec_three {S A B : List Sg} {s : Sg} {a n o : Int} (e : S = A ++ s :: B) (hA : chE s.2.1 0 A) (hB : chn s.2.2 B) (h1 : s.2.1 ≤ a) (h2 : a < s.2.2) (hn : 0 < n) : becG S o a n = apM (apG (apG (apG (apM [] (A.map (lefP a))) s.1 s.2.1 (a - s.2.1)) o a n) s.1 (a + n) (s.2.2 - (a + n))) (B.map (rigP (a + n))) := by
  subst e
  unfold becG
  have e1 : lefP a s = (s.1, s.2.1, a - s.2.1) := by unfold lefP; rw [if_pos h2]
  have e2 : rigP (a + n) s = (s.1, a + n, s.2.2 - (a + n)) := by unfold rigP; rw [if_pos (by omega)]
  rw [List.map_append, List.map_cons, apM_app, apM_cons, apM_no (M := B.map (lefP a)), List.map_append, List.map_cons, apM_app, apM_cons, apM_no (M := A.map (rigP (a + n))), e1, e2]
  · intro x hx
    obtain ⟨y, hy, rfl⟩ := List.mem_map.mp hx
    have := chE_A hA h1 y hy
    have := (chE_ok 0 hA y hy).2.2.1
    right
    unfold rigP
    dsimp only
    rw [if_pos (by omega)]
    omega
  · intro x hx
    obtain ⟨y, hy, rfl⟩ := List.mem_map.mp hx
    have := chn_B hB y hy
    right
    unfold lefP
    dsimp only
    split <;> omega
/-- the ranges of the row that is laid are the street that becomes -/
theorem lr_G {S : List Sg} {o a n : Int} (hS : chn 0 S) (hj : adj S) (ho : okO o) (h : 0 ≤ a ∧ 0 < n ∧ a + n ≤ 10000) : rngS (lrF S a (a + n) o) = becG (rngS S) o a n := by
  obtain ⟨A, s, B, e, h1, h2, h3, h4, h5⟩ := chn_split S 0 a hS h.1 (by omega)
  rw [becG_rng, bec_three e h3 h4 h1 h2 h.2.1, lr_three e h3 h4 h5 h1 h2 (by omega) ho hj, show a + n - a = n by omega]
theorem apM_len2 (M : List Sg) : ∀ T : List Sg, (apM T M).length ≤ T.length + (rngS M).length := by
  induction M with
  | nil => intro T; exact Nat.le_refl _
  | cons x M ih =>
    intro T
    rw [apM_cons]
    have h1 := ih (apG T x.1 x.2.1 x.2.2)
    have h2 := apG_len T x.1 x.2.1 x.2.2
    by_cases c : 0 ≤ x.1
    · rw [rngS_pos c, List.length_cons]; omega
    · rw [apG_no (Or.inl (by omega))] at h1 ⊢; rw [rngS_neg (by omega)]; exact h1
theorem rng_map_len (f : Sg → Sg) (hf : ∀ s : Sg, (f s).1 = s.1) (S : List Sg) : (rngS (S.map f)).length = (rngS S).length := by
  induction S with
  | nil => rfl
  | cons s S ih =>
    rw [List.map_cons]
    by_cases c : 0 ≤ s.1
    · rw [rngS_pos c, rngS_pos (by rw [hf]; exact c), List.length_cons, List.length_cons, ih]
    · rw [rngS_neg (s := s) (by omega), rngS_neg (s := f s) (by rw [hf]; omega), ih]
theorem bec_len {S : List Sg} {o a n : Int} (hS : chn 0 S) (h : 0 ≤ a ∧ 0 < n ∧ a + n ≤ 10000) : (becG S o a n).length ≤ (rngS S).length + 2 := by
  obtain ⟨A, s, B, e, h1, h2, h3, h4, h5⟩ := chn_split S 0 a hS h.1 (by omega)
  rw [bec_three e h3 h4 h1 h2 h.2.1]
  subst e
  have q1 := apM_len2 (A.map (lefP a)) []
  rw [rng_map_len (lefP a) (fun _ => rfl)] at q1
  generalize apM [] (A.map (lefP a)) = T1 at *
  have q2 := apG_len T1 s.1 s.2.1 (a - s.2.1)
  have q2b : s.1 < 0 → (apG T1 s.1 s.2.1 (a - s.2.1)).length = T1.length := fun q => by rw [apG_no (Or.inl q)]
  generalize apG T1 s.1 s.2.1 (a - s.2.1) = T2 at *
  have q3 := apG_len T2 o a n
  generalize apG T2 o a n = T3 at *
  have q4 := apG_len T3 s.1 (a + n) (s.2.2 - (a + n))
  have q4b : s.1 < 0 → (apG T3 s.1 (a + n) (s.2.2 - (a + n))).length = T3.length := fun q => by rw [apG_no (Or.inl q)]
  generalize apG T3 s.1 (a + n) (s.2.2 - (a + n)) = T4 at *
  have q5 := apM_len2 (B.map (rigP (a + n))) T4
  rw [rng_map_len (rigP (a + n)) (fun _ => rfl)] at q5
  rw [rngS_app]
  simp only [List.length_nil, List.length_append] at *
  by_cases c : 0 ≤ s.1
  · rw [rngS_pos c, List.length_cons]; omega
  · have := q2b (by omega); have := q4b (by omega); rw [rngS_neg (by omega)]; omega
theorem lr_F {S : List Sg} {o a n : Int} (hS : segW S) (hr : rnF S ≤ 40) (ho : okO o) (h : 0 ≤ a ∧ 0 < n ∧ a + n ≤ 10000) : rngS (lrF S a (a + n) o) = becF (rngS S) o a n := by
  have e := lr_G hS.2.1 hS.2.2 ho h
  have l := bec_len (o := o) hS.2.1 h
  have := rngS_len S
  rw [e, becG_F (by rw [becG_rng]; omega)]
/-- pieces of which none joins the one before -/
def adw : List Sg → Prop
  | [] => True
  | s :: L => (match L with | [] => True | u :: _ => s.1 ≠ u.1 ∨ u.1 < 0) ∧ adw L
theorem adw_of {L : List Sg} (h : adj L) : adw L := by
  induction L with
  | nil => trivial
  | cons s L ih =>
    cases L with
    | nil => exact ⟨trivial, trivial⟩
    | cons u M => exact ⟨Or.inl h.1, ih h.2⟩
theorem adw_mid {P : List Sg} {x y : Sg} {M : List Sg} (h : adw (P ++ x :: y :: M)) : x.1 ≠ y.1 ∨ y.1 < 0 := by
  induction P with
  | nil => exact h.1
  | cons s P ih =>
    cases P with
    | nil => exact ih h.2
    | cons u Q => exact ih h.2
def lnP (s : Sg) : Sg := (s.1, s.2.1, s.2.2 - s.2.1)
theorem apM_adw : ∀ (M P : List Sg) (e : Int), chE e 0 (P ++ M) → adw (P ++ M) → apM (rngS P) (M.map lnP) = rngS P ++ rngS M := by
  intro M
  induction M with
  | nil => intro P e h ha; rw [rngS_nil, List.append_nil]; rfl
  | cons x M ih =>
    intro P e h ha
    have hP : P ++ x :: M = (P ++ [x]) ++ M := by simp
    rw [List.map_cons, apM_cons]
    have hx := chE_ok 0 h x (by simp)
    have key : apG (rngS P) x.1 x.2.1 (x.2.2 - x.2.1) = rngS (P ++ [x]) := by
      rw [rngS_app]
      by_cases c : 0 ≤ x.1
      · rw [apG_new ⟨c, by omega⟩ (fun u hu q => ?_), rngS_pos c, rngS_nil, show x.2.1 + (x.2.2 - x.2.1) = x.2.2 by omega]
        have hm := (rngS_mem.mp (List.mem_of_getLast? hu)).1
        obtain ⟨Q, N, rfl⟩ := List.append_of_mem hm
        cases N with
        | nil =>
          have : (Q ++ [u]) ++ x :: M = Q ++ u :: x :: M := by simp
          rw [this] at ha
          rcases adw_mid ha with g | g
          · exact g q.1
          · omega
        | cons v N =>
          have e2 : (Q ++ u :: v :: N) ++ x :: M = Q ++ ([u] ++ (v :: N ++ x :: M)) := by simp
          rw [e2] at h
          have gen : ∀ (Q T : List Sg) (a : Int), chE e a (Q ++ T) → ∃ b, chE e b T := by
            intro Q
            induction Q with
            | nil => intro T a h; exact ⟨a, h⟩
            | cons z Q ih => intro T a h; exact ih T _ h.2.2.2
          obtain ⟨b, g1, g2, g3, g4⟩ := gen Q _ _ h
          have g5 : v.2.1 = u.2.2 ∧ u.2.2 < v.2.2 ∧ okO v.1 ∧ chE e v.2.2 (N ++ x :: M) := g4
          have := (chE_ok _ g5.2.2.2 x (by simp)).2.1
          omega
      · rw [apG_no (Or.inl (by omega)), rngS_neg (by omega), rngS_nil, List.append_nil]
    show apM (apG (rngS P) x.1 x.2.1 (x.2.2 - x.2.1)) (M.map lnP) = _
    rw [key, ih (P ++ [x]) e (hP ▸ h) (hP ▸ ha), rngS_app, List.append_assoc, ← rngS_app [x] M]
    rfl
