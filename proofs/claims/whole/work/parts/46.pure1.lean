/-! rows that are laid: they cover what they should, side by side never alike -/
def chE (e : Int) : Int → List Sg → Prop
  | a, [] => a = e
  | a, s :: L => s.2.1 = a ∧ a < s.2.2 ∧ okO s.1 ∧ chE e s.2.2 L
theorem chE_n {S : List Sg} : ∀ a : Int, chE 10000 a S ↔ chn a S := by
  induction S with
  | nil => intro a; exact Iff.rfl
  | cons s L ih => intro a; unfold chE chn; rw [ih]
theorem chE_app {R : List Sg} {x : Sg} {e : Int} (hx : e < x.2.2) (hf : x.2.1 = e) (ho : okO x.1) : ∀ a : Int, chE e a R → chE x.2.2 a (R ++ [x]) := by
  induction R with
  | nil => intro a h; have : a = e := h; subst this; exact ⟨hf, hx, ho, rfl⟩
  | cons s L ih => intro a h; exact ⟨h.1, h.2.1, h.2.2.1, ih _ h.2.2.2⟩
theorem chE_pre {R : List Sg} {x : Sg} {e : Int} : ∀ a : Int, chE e a (R ++ [x]) → chE x.2.1 a R ∧ x.2.2 = e ∧ okO x.1 ∧ x.2.1 < x.2.2 := by
  induction R with
  | nil => intro a h; obtain ⟨h1, h2, h3, h4⟩ := h; exact ⟨h1.symm, h4, h3, by omega⟩
  | cons s L ih => intro a h; obtain ⟨g1, g2⟩ := ih _ h.2.2.2; exact ⟨⟨h.1, h.2.1, h.2.2.1, g1⟩, g2⟩
theorem chE_le {S : List Sg} {e : Int} : ∀ a : Int, chE e a S → a ≤ e := by
  induction S with
  | nil => intro a h; exact Int.le_of_eq h
  | cons s L ih => intro a h; have := ih _ h.2.2.2; have := h.2.1; omega
theorem chE_ok {S : List Sg} {e : Int} : ∀ a : Int, chE e a S → ∀ s ∈ S, okO s.1 ∧ a ≤ s.2.1 ∧ s.2.1 < s.2.2 ∧ s.2.2 ≤ e := by
  induction S with
  | nil => intro a _ s h; exact absurd h List.not_mem_nil
  | cons x L ih =>
    intro a h s hs
    have h0 := chE_le _ h.2.2.2
    rcases List.mem_cons.mp hs with q | q
    · subst q; exact ⟨h.2.2.1, Int.le_of_eq h.1.symm, by have := h.1; have := h.2.1; omega, h0⟩
    · obtain ⟨g1, g2, g3, g4⟩ := ih _ h.2.2.2 s q; exact ⟨g1, by have := h.2.1; omega, g3, g4⟩
theorem adj_app {R : List Sg} {x : Sg} (h : adj R) (hx : ∀ s, R.getLast? = some s → s.1 ≠ x.1) : adj (R ++ [x]) := by
  induction R with
  | nil => exact ⟨trivial, trivial⟩
  | cons s L ih =>
    cases L with
    | nil => exact ⟨hx s rfl, trivial, trivial⟩
    | cons u M => exact ⟨h.1, ih h.2 (fun y hy => hx y (by rw [List.getLast?_cons_cons]; exact hy))⟩
theorem adj_last {R : List Sg} {x y : Sg} (h : adj (R ++ [x])) (hy : y.1 = x.1) : adj (R ++ [y]) := by
  induction R with
  | nil => exact ⟨trivial, trivial⟩
  | cons s L ih =>
    cases L with
    | nil => exact ⟨fun q => h.1 (q.trans hy), trivial, trivial⟩
    | cons u M => exact ⟨h.1, ih h.2⟩
theorem lastE {R : List Sg} {s : Sg} (h : R.getLast? = some s) : R = R.dropLast ++ [s] := by
  have hne : R ≠ [] := fun q => by rw [q] at h; cases h
  have := List.dropLast_concat_getLast hne
  rw [List.getLast?_eq_some_getLast hne] at h
  cases h
  exact this.symm
theorem layF_cov {R : List Sg} {e b o : Int} (h : chE e 0 R) (ha : adj R) (ho : okO o) (hb : e < b) : chE b 0 (layF R e b o) ∧ adj (layF R e b o) := by
  unfold layF
  rw [if_pos hb]
  cases hg : R.getLast? with
  | none =>
    have hRn : R = [] := List.getLast?_eq_none_iff.mp hg
    subst hRn
    have h0 : (0 : Int) = e := h
    exact ⟨⟨h0.symm, by show (0 : Int) < b; omega, ho, rfl⟩, trivial, trivial⟩
  | some s =>
    have hRn := lastE hg
    dsimp only
    split
    · next q =>
      rw [hRn] at h ha
      obtain ⟨h1, h2, h3, h4⟩ := chE_pre _ h
      exact ⟨chE_app (x := (s.1, s.2.1, b)) (by show s.2.1 < b; omega) rfl h3 _ h1, adj_last ha rfl⟩
    · next q => exact ⟨chE_app (x := (o, e, b)) hb rfl ho _ h, adj_app ha (fun u hu => by rw [hg] at hu; cases hu; exact q)⟩
theorem layF_no {R : List Sg} {a b o : Int} (h : ¬ a < b) : layF R a b o = R := if_neg h
/-- how far a row reaches when the pieces up to a meter are laid -/
def eoF (a b x : Int) : Int := if x ≤ a then x else if x < b then b else x
theorem lrS_cov {R : List Sg} {a b o : Int} {s : Sg} (h : chE (eoF a b s.2.1) 0 R) (ha : adj R) (ho : okO o) (hs : okO s.1) (hb : a < b) (hs2 : s.2.1 < s.2.2) : chE (eoF a b s.2.2) 0 (lrS a b o R s) ∧ adj (lrS a b o R s) := by
  unfold lrS
  unfold eoF at *
  by_cases c1 : s.2.1 ≤ a
  · rw [if_pos c1] at h
    by_cases c2 : a < s.2.2
    · rw [if_pos (show s.2.1 ≤ a ∧ a < s.2.2 from ⟨c1, c2⟩), if_neg (show ¬ s.2.2 < a by omega), if_neg (show ¬ s.2.2 ≤ a by omega), if_neg (show ¬ b < s.2.1 by omega)]
      have h1 : chE a 0 (layF R s.2.1 a s.1) ∧ adj (layF R s.2.1 a s.1) := by
        by_cases c3 : s.2.1 < a
        · exact layF_cov h ha hs c3
        · rw [layF_no c3]; have : s.2.1 = a := by omega
          rw [← this]; exact ⟨h, ha⟩
      have h2 := layF_cov h1.1 h1.2 ho hb
      by_cases c4 : s.2.2 < b
      · rw [if_pos c4, layF_no (by omega)]; exact h2
      · rw [if_neg c4]
        by_cases c5 : b < s.2.2
        · exact layF_cov h2.1 h2.2 hs c5
        · rw [layF_no c5, show s.2.2 = b by omega]; exact h2
    · rw [if_neg (show ¬ (s.2.1 ≤ a ∧ a < s.2.2) by omega), if_pos (show s.2.2 ≤ a by omega), if_neg (show ¬ b < s.2.1 by omega), layF_no (a := b) (by omega)]
      have e : (if s.2.2 < a then s.2.2 else a) = s.2.2 := by split <;> omega
      rw [e]
      exact layF_cov h ha hs hs2
  · rw [if_neg c1] at h
    rw [if_neg (show ¬ (s.2.1 ≤ a ∧ a < s.2.2) by omega), if_neg (show ¬ s.2.2 ≤ a by omega), layF_no (a := s.2.1) (by split <;> omega)]
    by_cases c4 : s.2.1 < b
    · rw [if_pos c4] at h
      rw [if_neg (show ¬ b < s.2.1 by omega)]
      by_cases c5 : s.2.2 < b
      · rw [if_pos c5, layF_no (by omega)]; exact ⟨h, ha⟩
      · rw [if_neg c5]
        by_cases c6 : b < s.2.2
        · exact layF_cov h ha hs c6
        · rw [layF_no c6, show s.2.2 = b by omega]; exact ⟨h, ha⟩
    · rw [if_neg c4] at h
      rw [if_neg (show ¬ s.2.2 < b by omega)]
      have e : (if b < s.2.1 then s.2.1 else b) = s.2.1 := by split <;> omega
      rw [e]
      exact layF_cov h ha hs hs2
theorem lr_fold {a b o : Int} (ho : okO o) (hb : a < b) : ∀ (S R : List Sg) (x : Int), chn x S → chE (eoF a b x) 0 R → adj R → chE (eoF a b 10000) 0 (S.foldl (lrS a b o) R) ∧ adj (S.foldl (lrS a b o) R) := by
  intro S
  induction S with
  | nil => intro R x hx h ha; have : x = 10000 := hx; subst this; exact ⟨h, ha⟩
  | cons s S ih =>
    intro R x hx h ha
    obtain ⟨h1, h2, h3, h4⟩ := hx
    subst h1
    obtain ⟨g1, g2⟩ := lrS_cov (s := s) h ha ho h3 hb h2
    exact ih _ _ h4 g1 g2
theorem lrF_cov {S : List Sg} {a b o : Int} (hS : chn 0 S) (ho : okO o) (ha : 0 ≤ a ∧ a < b ∧ b ≤ 10000) : chn 0 (lrF S a b o) ∧ adj (lrF S a b o) := by
  have h := lr_fold (a := a) (b := b) ho ha.2.1 S [] 0 hS (by unfold eoF; rw [if_pos ha.1]; exact rfl) trivial
  have e : eoF a b 10000 = 10000 := by unfold eoF; rw [if_neg (by omega), if_neg (by omega)]
  rw [e] at h
  exact ⟨(chE_n 0).mp h.1, h.2⟩
theorem la_fold {o q : Int} (hh : okO q) : ∀ (S R : List Sg) (x : Int), chn x S → chE x 0 R → adj R → chE 10000 0 (S.foldl (laS o q) R) ∧ adj (S.foldl (laS o q) R) := by
  intro S
  induction S with
  | nil => intro R x hx h ha; have : x = 10000 := hx; subst this; exact ⟨h, ha⟩
  | cons s S ih =>
    intro R x hx h ha
    obtain ⟨h1, h2, h3, h4⟩ := hx
    subst h1
    obtain ⟨g1, g2⟩ := layF_cov (o := if s.1 = o then q else s.1) h ha (by split <;> omega) h2
    exact ih _ _ h4 g1 g2
theorem laF_cov {S : List Sg} {o q : Int} (hS : chn 0 S) (hh : okO q) : chn 0 (laF S o q) ∧ adj (laF S o q) := by
  have g := la_fold (o := o) hh S [] 0 hS rfl trivial
  exact ⟨(chE_n 0).mp g.1, g.2⟩
theorem rn_fold : ∀ (L : List Sg) (c : Int), L.foldl rnS c = c + rnF L := by
  intro L
  induction L with
  | nil => intro c; exact (Int.add_zero c).symm
  | cons s L ih =>
    intro c
    unfold rnF
    rw [List.foldl_cons, List.foldl_cons, ih, ih (rnS 0 s)]
    unfold rnS
    split <;> omega
theorem rnF_cons (s : Sg) (L : List Sg) : rnF (s :: L) = (if 0 ≤ s.1 then 1 else 0) + rnF L := by
  have e : rnS 0 s = if 0 ≤ s.1 then 1 else 0 := by unfold rnS; split <;> rfl
  rw [← e, ← rn_fold L (rnS 0 s)]
  rfl
theorem rnF_b (L : List Sg) : 0 ≤ rnF L ∧ rnF L ≤ L.length := by
  induction L with
  | nil => exact ⟨Int.le_refl 0, Int.le_refl 0⟩
  | cons s L ih => rw [rnF_cons, List.length_cons]; split <;> omega
/-- two holes are never side by side -/
theorem adj_len : ∀ (L : List Sg), adj L → (∀ s ∈ L, okO s.1) → (L.length : Int) ≤ 2 * rnF L + 1 ∧ (∀ s M, L = s :: M → 0 ≤ s.1 → (L.length : Int) ≤ 2 * rnF L) := by
  intro L
  induction L with
  | nil => intro _ _; exact ⟨by decide, fun s M q => by cases q⟩
  | cons s L ih =>
    intro h hk
    obtain ⟨i1, i2⟩ := ih h.2 (fun x hx => hk x (List.mem_cons_of_mem _ hx))
    have hs := hk s List.mem_cons_self
    rw [rnF_cons, List.length_cons]
    refine ⟨?_, fun u M q hu => ?_⟩
    · split
      · omega
      · cases L with
        | nil => simp only [List.length_nil]; have := rnF_b []; omega
        | cons u M =>
          have hu := hk u (List.mem_cons_of_mem _ List.mem_cons_self)
          have := i2 u M rfl (by have := h.1; omega)
          omega
    · cases q
      rw [if_pos hu]
      omega
theorem segW_of {R : List Sg} (h : chn 0 R) (ha : adj R) (hr : rnF R ≤ 40) : segW R := by
  have := (adj_len R ha (fun s hs => (chE_ok 0 ((chE_n 0).mpr h) s hs).1)).1
  exact ⟨by omega, h, ha⟩
