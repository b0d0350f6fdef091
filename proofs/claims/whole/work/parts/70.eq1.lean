/-! class and reference: the same, seen through the ranges -/
abbrev rS (t : St) : St := mkS (rngS t.L) t.set t.mon t.tax t.los t.D t.own t.day t.clo t.fee
theorem fold_rng {β : Type} (f : β → Sg → β) (hf : ∀ (c : β) (s : Sg), s.1 < 0 → f c s = c) (S : List Sg) : ∀ c : β, (rngS S).foldl f c = S.foldl f c := by
  induction S with
  | nil => intro c; rfl
  | cons s S ih =>
    intro c
    by_cases h : 0 ≤ s.1
    · rw [rngS_pos h, List.foldl_cons, List.foldl_cons, ih]
    · rw [rngS_neg (by omega), List.foldl_cons, hf c s (by omega), ih]
theorem mtw_rng {o : Int} (ho : 0 ≤ o) (S : List Sg) (a n : Int) : mtwF (rngS S) o a n = mtwF S o a n := fold_rng _ (fun c s h => if_neg (by omega)) S 0
theorem lon_rng {o : Int} (ho : 0 ≤ o) (S : List Sg) : lonF (rngS S) o = lonF S o := fold_rng _ (fun c s h => if_neg (by omega)) S 0
theorem mbt_rng {o : Int} (ho : 0 ≤ o) (S : List Sg) : mbtF (rngS S) o = mbtF S o := by
  unfold mbtF
  rw [fold_rng (mbtS o) (fun c s h => if_neg (by omega)) S (-6, 0), (cnt_rng o ho S).2]
theorem sho_rng {o : Int} (ho : 0 ≤ o) (n : Int) (S : List Sg) : shoB (rngS S) o n = shoB S o n := by
  induction S with
  | nil => rfl
  | cons s S ih =>
    by_cases h : 0 ≤ s.1
    · rw [rngS_pos h]
      unfold shoB at ih ⊢
      rw [List.any_cons, List.any_cons, ih]
    · rw [rngS_neg (by omega)]
      unfold shoB at ih ⊢
      rw [List.any_cons, ih, show decide (s.1 = o) = false from decide_eq_false (by omega)]
      rfl
theorem tax_rng {t : St} {o : Int} (ho : 0 ≤ o) : taxV (rS t) o = taxV t o := by
  unfold taxV
  rw [(cnt_rng o ho t.L).1, (cnt_rng o ho t.L).2]
theorem hld_skip {m : Int} : ∀ (A M : List Sg), (∀ s ∈ A, s.2.2 ≤ m) → hldF (rngS A ++ M) m = hldF M m := by
  intro A
  induction A with
  | nil => intro M _; rfl
  | cons s A ih =>
    intro M h
    have h0 := h s List.mem_cons_self
    have h1 := ih M fun x hx => h x (List.mem_cons_of_mem _ hx)
    by_cases c : 0 ≤ s.1
    · rw [rngS_pos c, List.cons_append, hldF, if_neg (by omega)]; exact h1
    · rw [rngS_neg (by omega)]; exact h1
theorem hld_no {m : Int} : ∀ (B : List Sg), (∀ s ∈ B, m < s.2.1) → hldF (rngS B) m = -6 := by
  intro B
  induction B with
  | nil => intro _; rfl
  | cons s B ih =>
    intro h
    have h0 := h s List.mem_cons_self
    have h1 := ih fun x hx => h x (List.mem_cons_of_mem _ hx)
    by_cases c : 0 ≤ s.1
    · rw [rngS_pos c, hldF, if_neg (by omega)]; exact h1
    · rw [rngS_neg (by omega)]; exact h1
theorem ow_skip {m : Int} : ∀ (B : List Sg) (c : Int), (∀ s ∈ B, m < s.2.1) → B.foldl (owS m) c = c := by
  intro B
  induction B with
  | nil => intro c _; rfl
  | cons s B ih =>
    intro c h
    have h0 := h s List.mem_cons_self
    rw [List.foldl_cons, show owS m c s = c from if_neg (by omega)]
    exact ih c fun x hx => h x (List.mem_cons_of_mem _ hx)
theorem hld_ow {S : List Sg} {m : Int} (hS : chn 0 S) (hm : 0 ≤ m ∧ m < 10000) : hldF (rngS S) m = owF S m := by
  obtain ⟨A, s, B, e, h1, h2, h3, h4, h5⟩ := chn_split S 0 m hS hm.1 hm.2
  subst e
  have hB : ∀ x ∈ B, m < x.2.1 := fun x hx => by have := (chn_B h4 x hx).1; omega
  rw [rngS_app, hld_skip A _ (fun x hx => by have := (chE_ok 0 h3 x hx).2.2.2; omega)]
  unfold owF
  rw [List.foldl_append, List.foldl_cons, show owS m (A.foldl (owS m) (-6)) s = s.1 from if_pos h1, ow_skip B _ hB]
  by_cases c : 0 ≤ s.1
  · rw [rngS_pos c, hldF, if_pos ⟨h1, h2⟩]
  · rw [rngS_neg (by omega), hld_no B hB]; omega
theorem pie_out : ∀ (L : List Sg) (i n r : Int), r < n ∨ n + rnF L ≤ r → pieF L i n r = -6 := by
  intro L
  induction L with
  | nil => intro i n r _; rfl
  | cons s L ih =>
    intro i n r h
    have hb := rnF_b L
    rw [rnF_cons] at h
    rw [pieF]
    by_cases c : 0 ≤ s.1
    · rw [if_pos c] at h ⊢
      rw [if_neg (by omega)]
      exact ih _ _ _ (by omega)
    · rw [if_neg c] at h ⊢
      exact ih _ _ _ (by omega)
/-- range r lies in piece p -/
theorem pie_rk {L : List Sg} {r : Nat} (h : (r : Int) < rnF L) : ∃ p : Nat, pieF L 0 0 r = p ∧ ∃ hp : p < L.length, 0 ≤ L[p].1 ∧ (rngS (L.take p)).length = r ∧ (rngS L)[r]? = some L[p] := by
  obtain ⟨A, s, B, e1, e2, e3, e4⟩ := pie_at L 0 0 r (by omega) (by omega)
  subst e1
  have e5 : (A ++ s :: B)[A.length]'(by simp) = s := by
    rw [List.getElem_append_right (Nat.le_refl _)]; simp
  refine ⟨A.length, by omega, by simp, by rw [e5]; exact e2, by rw [List.take_left]; omega, ?_⟩
  rw [e5, rngS_app, rngS_pos e2, List.getElem?_append_right (by omega), show r - (rngS A).length = 0 by omega]
  rfl
theorem gO_some {L : List Sg} {i : Nat} {s : Sg} (h : L[i]? = some s) : gO L i = s.1 ∧ gA_ L i = s.2.1 ∧ gB_ L i = s.2.2 := by
  obtain ⟨k1, k2⟩ := List.getElem?_eq_some_iff.mp h
  have := gO_at k1
  rw [k2] at this
  exact this
theorem q_ofR (t : St) (r k : Int) : ofR (rS t) r k = ofRR t.L r k := by
  unfold ofR ofRR
  have hlen := rngS_len t.L
  by_cases c : 0 ≤ r ∧ r < (rngS t.L).length
  · rw [if_pos c]
    obtain ⟨n, rfl⟩ : ∃ n : Nat, r = n := ⟨r.toNat, by omega⟩
    obtain ⟨p, e1, hp, e2, e3, e4⟩ := pie_rk (L := t.L) (r := n) (by omega)
    obtain ⟨g1, g2, g3⟩ := gO_some e4
    obtain ⟨k1, k2, k3⟩ := gO_at hp
    show (if k = 0 then gO (rngS t.L) ((n : Int)).toNat else if k = 1 then gA_ (rngS t.L) ((n : Int)).toNat else if k = 2 then gB_ (rngS t.L) ((n : Int)).toNat - gA_ (rngS t.L) ((n : Int)).toNat else -2) = _
    rw [e1, if_neg (show ¬ ((p : Int) < 0) by omega), Int.toNat_natCast, Int.toNat_natCast, g1, g2, g3, k1, k2, k3]
  · rw [if_neg c, pie_out t.L 0 0 r (by omega), if_pos (by decide)]
theorem q_ofO {t : St} {o : Int} (ho : 0 ≤ o) (k : Int) : ofO (rS t) o k = ofO t o k := by
  unfold ofO
  rw [(cnt_rng o ho t.L).1, (cnt_rng o ho t.L).2, lon_rng ho, tax_rng ho]
theorem q_ofO2 {t : St} (o k : Int) : ofO (rS t) o k = ofO t o k := by
  by_cases c : 0 ≤ o ∧ o < t.own
  · exact q_ofO c.1 k
  · unfold ofO; rw [if_neg c, if_neg c]
theorem q_own {t : St} (h : segW t.L) (m : Int) : ownV (rS t) m = ownR t.L m := by
  unfold ownV ownR
  by_cases c : m < 0
  · rw [if_pos c, if_neg (by omega)]
  · by_cases d : m < 10000
    · rw [if_neg c, if_pos d, if_pos (by omega)]; exact hld_ow h.2.1 ⟨by omega, d⟩
    · rw [if_neg c, if_neg d, if_neg (by omega)]
theorem q_gaps {t : St} (o : Int) : gpsV (rS t) o = gpsV t o := by
  unfold gpsV
  by_cases c : 0 ≤ o ∧ o < t.own
  · rw [if_pos c, if_pos c]; exact mbt_rng c.1 _
  · rw [if_neg c, if_neg c]
/-! holes -/
def hlL (S : List Sg) : List (Int × Int) := (S.filter fun s => decide (s.1 < 0)).map fun s => (s.2.1, s.2.2 - s.2.1)
def posG (G : List (Int × Int)) : List (Int × Int) := G.filter fun g => decide (0 < g.2)
theorem hlL_pos {s : Sg} {S : List Sg} (h : 0 ≤ s.1) : hlL (s :: S) = hlL S := by unfold hlL; rw [List.filter_cons_of_neg (by simp; omega)]
theorem hlL_neg {s : Sg} {S : List Sg} (h : s.1 < 0) : hlL (s :: S) = (s.2.1, s.2.2 - s.2.1) :: hlL S := by unfold hlL; rw [List.filter_cons_of_pos (by simpa using h)]; rfl
theorem posG_cons (g : Int × Int) (G : List (Int × Int)) : posG (g :: G) = (if 0 < g.2 then [g] else []) ++ posG G := by
  unfold posG
  by_cases h : 0 < g.2
  · rw [List.filter_cons_of_pos (by simpa using h), if_pos h]; rfl
  · rw [List.filter_cons_of_neg (by simpa using h), if_neg h]; rfl
theorem gap_hl : ∀ (S : List Sg) (x y : Int), chn x S → adj S → y ≤ x → (y < x → ∀ s M, S = s :: M → 0 ≤ s.1) → posG (gapL y (rngS S)) = (if y < x then [(y, x - y)] else []) ++ hlL S := by
  intro S
  induction S with
  | nil =>
    intro x y h _ hy _
    have hx : x = 10000 := h
    subst hx
    show posG [(y, 10000 - y)] = _
    rw [posG_cons]
    by_cases c : y < 10000
    · rw [if_pos (show 0 < 10000 - y by omega), if_pos c]; rfl
    · rw [if_neg (show ¬ 0 < 10000 - y by omega), if_neg c]; rfl
  | cons s S ih =>
    intro x y h ha hy hh
    obtain ⟨g1, g2, g3, g4⟩ := h
    by_cases c : 0 ≤ s.1
    · rw [rngS_pos c, hlL_pos c]
      show posG ((y, s.2.1 - y) :: gapL s.2.2 (rngS S)) = _
      rw [posG_cons, ih s.2.2 s.2.2 g4 ha.2 (Int.le_refl _) (fun q => absurd q (Int.lt_irrefl _)), if_neg (show ¬ s.2.2 < s.2.2 by omega), g1]
      by_cases d : y < x
      · rw [if_pos (show 0 < x - y by omega), if_pos d]; rfl
      · rw [if_neg (show ¬ 0 < x - y by omega), if_neg d]; rfl
    · have hyx : y = x := by
        by_cases d : y < x
        · exact absurd (hh d s S rfl) c
        · omega
      subst hyx
      rw [rngS_neg (by omega), hlL_neg (by omega), if_neg (by omega)]
      have := ih s.2.2 y g4 ha.2 (by omega) (fun _ u M e => by
        subst e
        have h1 := ha.1
        have h2 := g4.2.2.1
        have h3 : s.1 ≠ u.1 := h1
        omega)
      rw [this, if_pos (by omega), g1]
      rfl
theorem gap_all {S : List Sg} (h : segW S) : posG (gapL 0 (rngS S)) = hlL S := by
  rw [gap_hl S 0 0 h.2.1 h.2.2 (Int.le_refl _) (fun q => absurd q (Int.lt_irrefl _)), if_neg (by omega)]
  rfl
theorem pos_fold {β : Type} (f : β → Int × Int → β) (I : β → Prop) (hf : ∀ (c : β) (g : Int × Int), I c → ¬ 0 < g.2 → f c g = c) (hi : ∀ (c : β) (g : Int × Int), I c → I (f c g)) (G : List (Int × Int)) : ∀ c : β, I c → G.foldl f c = (posG G).foldl f c := by
  induction G with
  | nil => intro c _; rfl
  | cons g G ih =>
    intro c hc
    rw [posG_cons, List.foldl_append, List.foldl_cons]
    by_cases h : 0 < g.2
    · rw [if_pos h]; exact ih _ (hi c g hc)
    · rw [if_neg h, hf c g hc h]; exact ih c hc
theorem q_hol {S : List Sg} (h : segW S) : holF (rngS S) = cntO S (-6) := by
  unfold holF
  rw [pos_fold holS (fun _ => True) (fun c g _ hg => if_neg hg) (fun _ _ _ => trivial) _ 0 trivial, gap_all h]
  have gen : ∀ (M : List Sg) (x c : Int), chn x M → (hlL M).foldl holS c = c + cntO M (-6) := by
    intro M
    induction M with
    | nil => intro x c _; exact (Int.add_zero c).symm
    | cons s M ih =>
      intro x c hx
      obtain ⟨g1, g2, g3, g4⟩ := hx
      show _ = c + ((if s.1 = -6 then 1 else 0) + cntO M (-6))
      by_cases d : 0 ≤ s.1
      · rw [hlL_pos d, ih _ c g4, if_neg (by omega)]; omega
      · rw [hlL_neg (by omega), List.foldl_cons, ih _ _ g4, show holS c (s.2.1, s.2.2 - s.2.1) = c + 1 from if_pos (show 0 < s.2.2 - s.2.1 by omega), if_pos (by omega)]; omega
  rw [gen S 0 0 h.2.1, Int.zero_add]
theorem q_lgh {S : List Sg} (h : segW S) : lghF (rngS S) = lonF S (-6) := by
  unfold lghF lonF
  rw [pos_fold lghS (fun c => 0 ≤ c) (fun c g hc hg => if_neg (by omega)) (fun c g hc => by unfold lghS; split <;> omega) _ 0 (Int.le_refl 0), gap_all h]
  have gen : ∀ (M : List Sg) (x c : Int), chn x M → (hlL M).foldl lghS c = M.foldl (lonS (-6)) c := by
    intro M
    induction M with
    | nil => intro x c _; rfl
    | cons s M ih =>
      intro x c hx
      obtain ⟨g1, g2, g3, g4⟩ := hx
      by_cases d : 0 ≤ s.1
      · rw [hlL_pos d, List.foldl_cons, lonS_f (by omega)]; exact ih _ c g4
      · rw [hlL_neg (by omega), List.foldl_cons, List.foldl_cons, lonS_t (by omega)]; exact ih _ _ g4
  exact gen S 0 0 h.2.1
def bstS (n h : Int) (c : Int × Int × Int) (g : Int × Int) : Int × Int × Int := if n ≤ g.2 ∧ (c.1 = -6 ∨ (h = 1 ∧ g.2 < c.2.1) ∨ (h = 2 ∧ c.2.1 < g.2)) then (0, g.2, g.1) else c
theorem gfr_bst {L : List Sg} (n h : Int) : (if gfrF L n h = -6 then -6 else gapP L (gfrF L n h).toNat) = (if ((gapL 0 L).foldl (bstS n h) (-6, 0, 0)).1 = -6 then -6 else ((gapL 0 L).foldl (bstS n h) (-6, 0, 0)).2.2) := by
  have gen : ∀ (k i : Nat) (b bl : Int) (c : Int × Int × Int), i + k = L.length + 1 → ((b = -6 ∧ c.1 = -6) ∨ ∃ j : Nat, b = j ∧ c.1 = 0 ∧ c.2.1 = bl ∧ c.2.2 = gapP L j) → (if (((gapL 0 L).drop i).foldl (gfrS n h) ((i : Int), b, bl)).2.1 = -6 then -6 else gapP L (((gapL 0 L).drop i).foldl (gfrS n h) ((i : Int), b, bl)).2.1.toNat) = (if (((gapL 0 L).drop i).foldl (bstS n h) c).1 = -6 then -6 else (((gapL 0 L).drop i).foldl (bstS n h) c).2.2) := by
    intro k
    induction k with
    | zero =>
      intro i b bl c hi hc
      rw [gap_foldE (gfrS n h) (by omega), gap_foldE (bstS n h) (by omega)]
      rcases hc with ⟨h1, h2⟩ | ⟨j, h1, h2, h3, h4⟩
      · rw [if_pos h1, if_pos h2]
      · dsimp only
        rw [if_neg (by omega), if_neg (by omega), h1, Int.toNat_natCast, h4]
    | succ k ih =>
      intro i b bl c hi hc
      rw [gap_fold (gfrS n h) (i := i) (by omega), gap_fold (bstS n h) (i := i) (by omega)]
      have hcond : (n ≤ gapE L i - gapP L i ∧ (b = -6 ∨ (h = 1 ∧ gapE L i - gapP L i < bl) ∨ (h = 2 ∧ bl < gapE L i - gapP L i))) ↔ (n ≤ gapE L i - gapP L i ∧ (c.1 = -6 ∨ (h = 1 ∧ gapE L i - gapP L i < c.2.1) ∨ (h = 2 ∧ c.2.1 < gapE L i - gapP L i))) := by
        rcases hc with ⟨h1, h2⟩ | ⟨j, h1, h2, h3, h4⟩
        · omega
        · rw [h3]; omega
      by_cases q : n ≤ gapE L i - gapP L i ∧ (b = -6 ∨ (h = 1 ∧ gapE L i - gapP L i < bl) ∨ (h = 2 ∧ bl < gapE L i - gapP L i))
      · rw [show gfrS n h ((i : Int), b, bl) (gapP L i, gapE L i - gapP L i) = ((i : Int) + 1, (i : Int), gapE L i - gapP L i) from if_pos q, show bstS n h c (gapP L i, gapE L i - gapP L i) = (0, gapE L i - gapP L i, gapP L i) from if_pos (hcond.mp q)]
        exact ih (i + 1) _ _ _ (by omega) (Or.inr ⟨i, rfl, rfl, rfl, rfl⟩)
      · rw [show gfrS n h ((i : Int), b, bl) (gapP L i, gapE L i - gapP L i) = ((i : Int) + 1, b, bl) from if_neg q, show bstS n h c (gapP L i, gapE L i - gapP L i) = c from if_neg (fun z => q (hcond.mpr z))]
        exact ih (i + 1) _ _ _ (by omega) hc
  exact gen (L.length + 1) 0 (-6) 0 (-6, 0, 0) (by omega) (Or.inl ⟨rfl, rfl⟩)
theorem hf_bst {S : List Sg} (n h : Int) : hfF S n h = (if ((hlL S).foldl (bstS n h) (-6, 0, 0)).1 = -6 then -6 else ((hlL S).foldl (bstS n h) (-6, 0, 0)).2.2) := by
  have gen : ∀ (M : List Sg) (c : Int × Int × Int × Int) (d : Int × Int × Int), 0 ≤ c.1 → ((c.2.1 = -6 ∧ d.1 = -6) ∨ (0 ≤ c.2.1 ∧ d.1 = 0 ∧ d.2.1 = c.2.2.1 ∧ d.2.2 = c.2.2.2)) → (if (M.foldl (hfS n h) c).2.1 < 0 then -6 else (M.foldl (hfS n h) c).2.2.2) = (if ((hlL M).foldl (bstS n h) d).1 = -6 then -6 else ((hlL M).foldl (bstS n h) d).2.2) := by
    intro M
    induction M with
    | nil =>
      intro c d hc hd
      rcases hd with ⟨h1, h2⟩ | ⟨h1, h2, h3, h4⟩
      · show (if c.2.1 < 0 then _ else _) = if d.1 = -6 then _ else _
        rw [if_pos (by omega), if_pos h2]
      · show (if c.2.1 < 0 then _ else _) = if d.1 = -6 then _ else _
        rw [if_neg (by omega), if_neg (by omega)]; exact h4.symm
    | cons s M ih =>
      intro c d hc hd
      rw [List.foldl_cons]
      by_cases e : 0 ≤ s.1
      · rw [hlL_pos e, show hfS n h c s = (c.1 + 1, c.2) from if_neg (by omega)]
        exact ih _ _ (by show 0 ≤ c.1 + 1; omega) hd
      · rw [hlL_neg (by omega), List.foldl_cons]
        have hcond : ((s.1 < 0 ∧ n ≤ s.2.2 - s.2.1) ∧ (c.2.1 = -6 ∨ (h = 1 ∧ s.2.2 - s.2.1 < c.2.2.1) ∨ (h = 2 ∧ c.2.2.1 < s.2.2 - s.2.1))) ↔ (n ≤ s.2.2 - s.2.1 ∧ (d.1 = -6 ∨ (h = 1 ∧ s.2.2 - s.2.1 < d.2.1) ∨ (h = 2 ∧ d.2.1 < s.2.2 - s.2.1))) := by
          rcases hd with ⟨h1, h2⟩ | ⟨h1, h2, h3, h4⟩
          · omega
          · rw [h3]; omega
        by_cases q : (s.1 < 0 ∧ n ≤ s.2.2 - s.2.1) ∧ (c.2.1 = -6 ∨ (h = 1 ∧ s.2.2 - s.2.1 < c.2.2.1) ∨ (h = 2 ∧ c.2.2.1 < s.2.2 - s.2.1))
        · rw [show hfS n h c s = (c.1 + 1, c.1, s.2.2 - s.2.1, s.2.1) from if_pos q, show bstS n h d (s.2.1, s.2.2 - s.2.1) = (0, s.2.2 - s.2.1, s.2.1) from if_pos (hcond.mp q)]
          exact ih _ _ (by show 0 ≤ c.1 + 1; omega) (Or.inr ⟨hc, rfl, rfl, rfl⟩)
        · rw [show hfS n h c s = (c.1 + 1, c.2) from if_neg q, show bstS n h d (s.2.1, s.2.2 - s.2.1) = d from if_neg (fun z => q (hcond.mpr z))]
          exact ih _ _ (by show 0 ≤ c.1 + 1; omega) hd
  exact gen S (0, -6, 0, 0) (-6, 0, 0) (Int.le_refl 0) (Or.inl ⟨rfl, rfl⟩)
theorem q_gfr {S : List Sg} (hS : segW S) {n : Int} (hn : 1 ≤ n) (h : Int) : (if gfrF (rngS S) n h = -6 then -6 else gapP (rngS S) (gfrF (rngS S) n h).toNat) = hfF S n h := by
  rw [gfr_bst, hf_bst, ← gap_all hS, ← pos_fold (bstS n h) (fun _ => True) (fun c g _ hg => if_neg (by omega)) (fun _ _ _ => trivial) _ _ trivial]
theorem q_hole {t : St} (hS : segW t.L) (n h : Int) : holV (rS t) n h = holR t.L n h := by
  unfold holV holR
  by_cases c : (1 ≤ n ∧ n ≤ 10000) ∧ 0 ≤ h ∧ h ≤ 2
  · rw [if_pos c, if_pos c]; exact q_gfr hS c.1.1 h
  · rw [if_neg c, if_neg c]
theorem all_rng : ∀ (S : List Sg) (x : Int), chn x S → allM (rngS S) + mtsO S (-6) = 10000 - x := by
  intro S
  induction S with
  | nil => intro x h; have : x = 10000 := h; subst this; decide
  | cons s S ih =>
    intro x h
    obtain ⟨g1, g2, g3, g4⟩ := h
    have := ih _ g4
    rw [mtsO_cons]
    by_cases c : 0 ≤ s.1
    · rw [rngS_pos c, allM_cons _ _ (by omega), if_neg (by omega)]; omega
    · rw [rngS_neg (by omega), if_pos (by omega)]; omega
theorem q_cnt {t : St} (hS : segW t.L) (htax : ∀ o : Int, t.own ≤ o → o < 10 → t.tax o = 0) (ho : 0 ≤ t.own ∧ t.own ≤ 10) (np nh k : Int) : cntV (rS t) np nh k = cntR t np nh k := by
  have e3 := all_rng t.L 0 hS.2.1
  have esum : sumF t.tax 10 = sumF t.tax t.own.toNat := by
    have gen : ∀ k : Nat, t.own.toNat + k ≤ 10 → sumF t.tax (t.own.toNat + k) = sumF t.tax t.own.toNat := by
      intro k
      induction k with
      | zero => intro _; rfl
      | succ k ih =>
        intro hk
        show sumF t.tax (t.own.toNat + k) + t.tax ((t.own.toNat + k : Nat) : Int) = _
        rw [ih (by omega), htax _ (by omega) (by omega), Int.add_zero]
    have := gen (10 - t.own.toNat) (by omega)
    rw [show t.own.toNat + (10 - t.own.toNat) = 10 by omega] at this
    exact this
  unfold cntV cntR
  rw [q_hol hS, q_lgh hS, rngS_len, esum, show allM (rngS t.L) = 10000 - mtsO t.L (-6) by omega]
  by_cases c : 12 ≤ k ∧ k ≤ 16
  · rw [if_pos c]
    iterate 12 rw [if_neg (by omega)]
    rw [if_pos (by omega)]
  · rw [if_neg c, if_neg (show ¬ (12 ≤ k ∧ k < 17) by omega)]
theorem q_shr {t : St} (hS : segW t.L) (o : Int) : shrV (rS t) o = shR t o := by
  have e3 := all_rng t.L 0 hS.2.1
  unfold shrV shR
  by_cases c : 0 ≤ o ∧ o < t.own
  · rw [if_pos c, if_pos c, (cnt_rng o c.1 t.L).2, show allM (rngS t.L) = 10000 - mtsO t.L (-6) by omega]
    by_cases d : 10000 - mtsO t.L (-6) = 0
    · rw [if_pos d, d]; unfold bqF; rw [if_neg (by omega)]
    · rw [if_neg d]
  · rw [if_neg c, if_neg c]
