/-! class and reference: changes of the street -/
theorem strW_rng {t : St} (hS : segW t.L) (h40 : rnF t.L ≤ 40) : strW (rngS t.L) := by
  have := rngS_len t.L
  refine ⟨by omega, fun s hs => ?_⟩
  obtain ⟨h1, h2⟩ := rngS_mem.mp hs
  obtain ⟨g1, g2, g3, g4⟩ := chE_ok 0 ((chE_n 0).mpr hS.2.1) s h1
  exact ⟨h2, by omega, by omega, by omega, by omega⟩
theorem e_gv {t : St} (hS : segW t.L) (h40 : rnF t.L ≤ 40) (how : t.own ≤ 10) (o f n : Int) : gvF (rS t) o f n = ((gvR t o f n).1, rS (gvR t o f n).2) := by
  unfold gvF gvR
  by_cases c1 : 0 ≤ o ∧ o < t.own
  · rw [if_pos (show 0 ≤ o ∧ o < (rS t).own from c1), if_pos c1]
    by_cases c2 : isP f n
    · rw [if_pos c2, if_pos c2]
      have hF : rngS (lrF t.L f (f + n) o) = becF (rngS t.L) o f n := lr_F hS h40 (Or.inr (by omega)) (by omega)
      have hl := rngS_len (lrF t.L f (f + n) o)
      have hm := mtw_rng c1.1 t.L f n
      have hmt := (cnt_rng o c1.1 t.L).2
      rw [hF] at hl
      by_cases c3 : rnF (lrF t.L f (f + n) o) ≤ 40
      · rw [if_pos (show (becF (rS t).L o f n).length ≤ 40 by show (becF (rngS t.L) o f n).length ≤ 40; omega), if_pos c3]
        by_cases c4 : mayE t o (n - mtwF t.L o f n)
        · rw [if_pos (show n - mtwF (rS t).L o f n = 0 ∨ mtsO (rS t).L o + (n - mtwF (rS t).L o f n) ≤ (rS t).set 4 by show n - mtwF (rngS t.L) o f n = 0 ∨ mtsO (rngS t.L) o + (n - mtwF (rngS t.L) o f n) ≤ t.set 4; rw [hm, hmt]; exact c4), if_pos c4, ← hl]
          show (_, mkS (becF (rngS t.L) o f n) t.set t.mon t.tax t.los t.D t.own t.day t.clo t.fee) = (_, mkS (rngS (lrF t.L f (f + n) o)) t.set t.mon t.tax t.los t.D t.own t.day t.clo t.fee)
          rw [hF]
        · rw [if_neg (show ¬ (n - mtwF (rS t).L o f n = 0 ∨ mtsO (rS t).L o + (n - mtwF (rS t).L o f n) ≤ (rS t).set 4) by show ¬ (n - mtwF (rngS t.L) o f n = 0 ∨ mtsO (rngS t.L) o + (n - mtwF (rngS t.L) o f n) ≤ t.set 4); rw [hm, hmt]; exact c4), if_neg c4]
      · rw [if_neg (show ¬ (becF (rS t).L o f n).length ≤ 40 by show ¬ (becF (rngS t.L) o f n).length ≤ 40; omega), if_neg c3]
    · rw [if_neg c2, if_neg c2]
  · rw [if_neg (show ¬ (0 ≤ o ∧ o < (rS t).own) from c1), if_neg c1]
theorem e_fr {t : St} (hS : segW t.L) (h40 : rnF t.L ≤ 40) (f n : Int) : frF (rS t) f n = ((frR t f n).1, rS (frR t f n).2) := by
  unfold frF frR
  by_cases c2 : isP f n
  · rw [if_pos c2, if_pos c2]
    have hF : rngS (lrF t.L f (f + n) (-6)) = becF (rngS t.L) (-6) f n := lr_F hS h40 (Or.inl rfl) (by omega)
    have hl := rngS_len (lrF t.L f (f + n) (-6))
    rw [hF] at hl
    by_cases c3 : rnF (lrF t.L f (f + n) (-6)) ≤ 40
    · rw [if_pos (show (becF (rS t).L (-6) f n).length ≤ 40 by show (becF (rngS t.L) (-6) f n).length ≤ 40; omega), if_pos c3, ← hl]
      show (_, mkS (becF (rngS t.L) (-6) f n) t.set t.mon t.tax t.los t.D t.own t.day t.clo t.fee) = (_, mkS (rngS (lrF t.L f (f + n) (-6))) t.set t.mon t.tax t.los t.D t.own t.day t.clo t.fee)
      rw [hF]
    · rw [if_neg (show ¬ (becF (rS t).L (-6) f n).length ≤ 40 by show ¬ (becF (rngS t.L) (-6) f n).length ≤ 40; omega), if_neg c3]
  · rw [if_neg c2, if_neg c2]
theorem hf_hole {L : List Sg} {n : Int} (h : 0 ≤ hfF L n 0) : ∃ s ∈ L, s.1 < 0 ∧ s.2.1 = hfF L n 0 ∧ n ≤ s.2.2 - s.2.1 := by
  have gen : ∀ (M : List Sg) (c : Int × Int × Int × Int), 0 ≤ c.1 → (∀ x ∈ M, x ∈ L) → (c.2.1 < 0 ∨ ∃ s ∈ L, s.1 < 0 ∧ s.2.1 = c.2.2.2 ∧ n ≤ s.2.2 - s.2.1) → ((M.foldl (hfS n 0) c).2.1 < 0 ∨ ∃ s ∈ L, s.1 < 0 ∧ s.2.1 = (M.foldl (hfS n 0) c).2.2.2 ∧ n ≤ s.2.2 - s.2.1) := by
    intro M
    induction M with
    | nil => intro c _ _ h; exact h
    | cons x M ih =>
      intro c h0 hx h
      refine ih _ ?_ (fun y hy => hx y (List.mem_cons_of_mem _ hy)) ?_
      · unfold hfS; split <;> (dsimp only; omega)
      · unfold hfS
        split
        · next q => exact Or.inr ⟨x, hx x List.mem_cons_self, q.1.1, rfl, q.1.2⟩
        · exact h
  have := gen L (0, -6, 0, 0) (Int.le_refl 0) (fun x hx => hx) (Or.inl (by decide))
  unfold hfF at h ⊢
  split at h
  · exact absurd h (by decide)
  · next q =>
    rw [if_neg q]
    exact this.resolve_left q
theorem mtw_zero {o a n : Int} : ∀ (M : List Sg) (c : Int), (∀ s ∈ M, s.1 = o → ovF s a n = 0) → M.foldl (mtwS o a n) c = c := by
  intro M
  induction M with
  | nil => intro c _; rfl
  | cons s M ih =>
    intro c h
    rw [List.foldl_cons]
    have : mtwS o a n c s = c := by
      unfold mtwS
      split
      · next q => rw [h s List.mem_cons_self q, Int.add_zero]
      · rfl
    rw [this]
    exact ih c fun x hx => h x (List.mem_cons_of_mem _ hx)
theorem ov_out {s : Sg} {a n : Int} (h : s.2.2 ≤ a ∨ a + n ≤ s.2.1) (hs : s.2.1 < s.2.2) (hn : 0 < n) : ovF s a n = 0 := by
  unfold ovF
  by_cases c1 : a + n < s.2.2
  · rw [if_pos c1]
    by_cases c2 : s.2.1 < a
    · rw [if_pos c2]; split <;> omega
    · rw [if_neg c2]; split <;> omega
  · rw [if_neg c1]
    by_cases c2 : s.2.1 < a
    · rw [if_pos c2]; split <;> omega
    · rw [if_neg c2]; split <;> omega
theorem mtw_hole {L : List Sg} {n o : Int} (hL : chn 0 L) (ho : 0 ≤ o) (hn : 1 ≤ n) (h : 0 ≤ hfF L n 0) : mtwF L o (hfF L n 0) n = 0 := by
  obtain ⟨s, h1, h2, h3, h4⟩ := hf_hole h
  obtain ⟨A, B, rfl⟩ := List.append_of_mem h1
  obtain ⟨hA, hB, -, -⟩ := chn_cut 0 hL
  refine mtw_zero _ 0 fun x hx hxo => ?_
  rcases List.mem_append.mp hx with g | g
  · have := chE_ok 0 hA x g
    exact ov_out (Or.inl (by omega)) this.2.2.1 (by omega)
  · rcases List.mem_cons.mp g with g | g
    · subst g; omega
    · have := chn_B hB x g
      exact ov_out (Or.inr (by omega)) this.2.1 (by omega)
theorem e_gr {t : St} (hS : segW t.L) (h40 : rnF t.L ≤ 40) (how : t.own ≤ 10) (o n : Int) : grF (rS t) o n = ((grR t o n).1, rS (grR t o n).2) := by
  unfold grF grR
  by_cases c1 : 0 ≤ o ∧ o < t.own
  · rw [if_pos (show 0 ≤ o ∧ o < (rS t).own from c1), if_pos c1]
    by_cases c2 : 1 ≤ n ∧ n ≤ 10000
    · rw [if_pos c2, if_pos c2]
      have hg := q_gfr hS c2.1 0
      have hb := hf_b (h := 0) (L := t.L) (fun s hs => (show okG s from by have := chE_ok 0 ((chE_n 0).mpr hS.2.1) s hs; exact ⟨this.1, this.2.1, this.2.2.1, this.2.2.2⟩)) c2.1
      by_cases c3 : gfrF (rngS t.L) n 0 = -6
      · rw [if_pos c3] at hg
        rw [if_pos (show gfrF (rS t).L n 0 = -6 from c3), if_pos (show hfF t.L n 0 < 0 by omega)]
      · rw [if_neg c3] at hg
        have hgb := gapP_b (strW_rng hS h40) (gfrF (rngS t.L) n 0).toNat
        have hz := mtw_hole (o := o) hS.2.1 c1.1 c2.1 (by omega)
        rw [if_neg (show ¬ gfrF (rS t).L n 0 = -6 from c3), if_neg (show ¬ hfF t.L n 0 < 0 by omega)]
        show ((if (gvF (rS t) o (gapP (rngS t.L) (gfrF (rngS t.L) n 0).toNat) n).1 < 0 then (gvF (rS t) o (gapP (rngS t.L) (gfrF (rngS t.L) n 0).toNat) n).1 else gapP (rngS t.L) (gfrF (rngS t.L) n 0).toNat), (gvF (rS t) o (gapP (rngS t.L) (gfrF (rngS t.L) n 0).toNat) n).2) = _
        rw [hg, e_gv hS h40 how]
        have hrb := rnF_b (lrF t.L (hfF t.L n 0) (hfF t.L n 0 + n) o)
        unfold gvR
        rw [if_pos c1, if_pos (show isP (hfF t.L n 0) n by omega), hz, Int.sub_zero]
        by_cases c4 : rnF (lrF t.L (hfF t.L n 0) (hfF t.L n 0 + n) o) ≤ 40
        · rw [if_pos c4, if_pos c4]
          by_cases c5 : mayE t o n
          · rw [if_pos c5, if_pos c5]
            dsimp only
            rw [if_neg (by omega)]
          · rw [if_neg c5, if_neg c5]; rfl
        · rw [if_neg c4, if_neg c4]; rfl
    · rw [if_neg c2, if_neg c2]
  · rw [if_neg (show ¬ (0 ≤ o ∧ o < (rS t).own) from c1), if_neg c1]
theorem la_G {o h : Int} (hh : okO h) : ∀ (S R : List Sg) (x : Int), chn x S → chE x 0 R → adj R → rngS (S.foldl (laS o h) R) = apM (rngS R) (S.map (inhP o h)) := by
  intro S
  induction S with
  | nil => intro R x _ _ _; rfl
  | cons s S ih =>
    intro R x hx hR ha
    obtain ⟨g1, g2, g3, g4⟩ := hx
    subst g1
    obtain ⟨k1, k2⟩ := layF_cov (o := if s.1 = o then h else s.1) hR ha (by split <;> omega) g2
    rw [List.foldl_cons, List.map_cons, apM_cons, ih (laS o h R s) s.2.2 g4 k1 k2]
    unfold laS
    rw [rng_lay (fun _ => hR)]
    rfl
theorem e_inh {S : List Sg} {o h : Int} (hS : segW S) (h40 : rnF S ≤ 40) (ho : 0 ≤ o) (hh : okO h) : inhF (rngS S) o h = rngS (laF S o h) := by
  have e1 := la_G (o := o) hh S [] 0 hS.2.1 rfl trivial
  have hl := rngS_len S
  have e2 := apM_rng (inhP o h) (fun s hs => by unfold inhP; dsimp only; rw [if_neg (by omega)]; exact hs) S []
  have e3 := apM_len2 ((rngS S).map (inhP o h)) []
  have e4 : (rngS ((rngS S).map (inhP o h))).length ≤ (rngS S).length := by
    have := List.length_filter_le (fun s : Sg => decide (0 ≤ s.1)) ((rngS S).map (inhP o h))
    rw [List.length_map] at this
    exact this
  have e5 : (apM [] ((rngS S).map (inhP o h))).length ≤ 42 := by
    rw [List.length_nil] at e3
    omega
  unfold inhF
  rw [apM_F _ _ e5, e2]
  exact e1.symm
theorem e_in {t : St} (hS : segW t.L) (h40 : rnF t.L ≤ 40) (how : t.own ≤ 10) (o h : Int) : inF (rS t) o h = ((inR t o h).1, rS (inR t o h).2) := by
  unfold inF inR
  by_cases c1 : (0 ≤ o ∧ o < t.own) ∧ (0 ≤ h ∧ h < t.own) ∧ o ≠ h
  · rw [if_pos (show (0 ≤ o ∧ o < (rS t).own) ∧ (0 ≤ h ∧ h < (rS t).own) ∧ o ≠ h from c1), if_pos c1]
    have h1 := (cnt_rng o c1.1.1 t.L).2
    have h2 := (cnt_rng h c1.2.1.1 t.L).2
    show (if mtsO (rngS t.L) o = 0 ∨ mtsO (rngS t.L) h + mtsO (rngS t.L) o ≤ t.set 4 then (mtsO (rngS t.L) o, mkS (inhF (rngS t.L) o h) t.set t.mon t.tax t.los t.D t.own t.day t.clo t.fee) else (-5, rS t)) = _
    rw [h1, h2, e_inh hS h40 c1.1.1 (Or.inr (by omega))]
    by_cases c2 : mayE t h (mtsO t.L o)
    · rw [if_pos c2, if_pos c2]
    · rw [if_neg c2, if_neg c2]
  · rw [if_neg (show ¬ ((0 ≤ o ∧ o < (rS t).own) ∧ (0 ≤ h ∧ h < (rS t).own) ∧ o ≠ h) from c1), if_neg c1]
theorem e_set (t : St) (i v : Int) : setF (rS t) i v = ((setF t i v).1, rS (setF t i v).2) := by
  unfold setF
  split
  · split
    · rfl
    · split <;> rfl
  · rfl
theorem e_own (t : St) (v : Int) : ownF (rS t) v = ((ownF t v).1, rS (ownF t v).2) := by
  unfold ownF
  split
  · split <;> rfl
  · rfl
theorem e_pay (t : St) (o v : Int) : payF (rS t) o v = ((payF t o v).1, rS (payF t o v).2) := by
  unfold payF
  split
  · split <;> rfl
  · rfl
theorem e_tr (t : St) (a b f n p : Int) : trF (rS t) a b f n p = ((trF t a b f n p).1, rS (trF t a b f n p).2) := by
  unfold trF
  split
  · split
    · split <;> rfl
    · rfl
  · rfl
theorem e_dr (t : St) : drF (rS t) = ((drF t).1, rS (drF t).2) := by
  unfold drF
  split <;> rfl
/-! days -/
theorem srt_pre (o : Int) : ∀ (M P : List Sg) (b b2 bl : Int), ((b = -6 ∧ b2 = -6) ∨ ∃ n : Nat, n < P.length ∧ b = n ∧ b2 = ((rngS (P.take n)).length : Int)) → 0 ≤ o → (((M.foldl (srtS o) ((P.length : Int), b, bl)).2.1 = -6 ∧ ((rngS M).foldl (srtS o) (((rngS P).length : Int), b2, bl)).2.1 = -6) ∨ ∃ n : Nat, n < (P ++ M).length ∧ (M.foldl (srtS o) ((P.length : Int), b, bl)).2.1 = n ∧ ((rngS M).foldl (srtS o) (((rngS P).length : Int), b2, bl)).2.1 = ((rngS ((P ++ M).take n)).length : Int)) := by
  intro M
  induction M with
  | nil =>
    intro P b b2 bl h ho
    rcases h with ⟨h1, h2⟩ | ⟨n, h1, h2, h3⟩
    · exact Or.inl ⟨h1, h2⟩
    · exact Or.inr ⟨n, by rw [List.append_nil]; exact h1, h2, by rw [List.append_nil]; exact h3⟩
  | cons s M ih =>
    intro P b b2 bl h ho
    have hP : P ++ s :: M = (P ++ [s]) ++ M := by simp
    have hl : ((P ++ [s]).length : Int) = (P.length : Int) + 1 := by simp
    rw [hP]
    have hb6 : b = -6 ↔ b2 = -6 := by
      rcases h with ⟨h1, h2⟩ | ⟨n, h1, h2, h3⟩
      · exact ⟨fun _ => h2, fun _ => h1⟩
      · omega
    by_cases c : 0 ≤ s.1
    · have hr : ((rngS (P ++ [s])).length : Int) = ((rngS P).length : Int) + 1 := by rw [rngS_app, rngS_pos c, rngS_nil]; simp
      rw [rngS_pos c, List.foldl_cons, List.foldl_cons]
      by_cases q : s.1 = o ∧ (b = -6 ∨ s.2.2 - s.2.1 ≤ bl)
      · rw [show srtS o ((P.length : Int), b, bl) s = (((P ++ [s]).length : Int), (P.length : Int), s.2.2 - s.2.1) by rw [hl]; exact if_pos q, show srtS o (((rngS P).length : Int), b2, bl) s = (((rngS (P ++ [s])).length : Int), ((rngS P).length : Int), s.2.2 - s.2.1) by rw [hr]; exact if_pos ⟨q.1, by rcases q.2 with g | g; exact Or.inl (hb6.mp g); exact Or.inr g⟩]
        refine ih (P ++ [s]) _ _ _ (Or.inr ⟨P.length, by simp, rfl, ?_⟩) ho
        rw [List.take_left]
      · rw [show srtS o ((P.length : Int), b, bl) s = (((P ++ [s]).length : Int), b, bl) by rw [hl]; exact if_neg q, show srtS o (((rngS P).length : Int), b2, bl) s = (((rngS (P ++ [s])).length : Int), b2, bl) by rw [hr]; exact if_neg (fun g => q ⟨g.1, by rcases g.2 with k | k; exact Or.inl (hb6.mpr k); exact Or.inr k⟩)]
        refine ih (P ++ [s]) _ _ _ ?_ ho
        rcases h with h | ⟨n, h1, h2, h3⟩
        · exact Or.inl h
        · exact Or.inr ⟨n, by simp; omega, h2, by rw [List.take_append_of_le_length (by omega)]; exact h3⟩
    · have hr : rngS (P ++ [s]) = rngS P := by rw [rngS_app, rngS_neg (by omega), rngS_nil, List.append_nil]
      rw [rngS_neg (by omega), List.foldl_cons, show srtS o ((P.length : Int), b, bl) s = (((P ++ [s]).length : Int), b, bl) by rw [hl]; exact if_neg (by omega), ← hr]
      refine ih (P ++ [s]) _ _ _ ?_ ho
      rcases h with h | ⟨n, h1, h2, h3⟩
      · exact Or.inl h
      · exact Or.inr ⟨n, by simp; omega, h2, by rw [List.take_append_of_le_length (by omega)]; exact h3⟩
theorem srt_rng {L : List Sg} {o : Int} (ho : 0 ≤ o) : (srtF L o = -6 ∧ srtF (rngS L) o = -6) ∨ ∃ n : Nat, n < L.length ∧ srtF L o = n ∧ srtF (rngS L) o = ((rngS (L.take n)).length : Int) := srt_pre o L [] (-6) (-6) 0 (Or.inl ⟨rfl, rfl⟩) ho
theorem e_los {t : St} {o : Int} (ho : 0 ≤ o) (hS : segW t.L) (h : srtF t.L o ≠ -6) : losT (rS t) o = rS (losR t o) := by
  rcases srt_rng (L := t.L) ho with ⟨g, -⟩ | ⟨n, hn, g1, g2⟩
  · exact absurd g h
  obtain ⟨n2, e2, hn2, hno⟩ := srt_some2 h
  have : n2 = n := by omega
  subst this
  have ea := gO_at hn
  have hr : 0 ≤ t.L[n2].1 := by omega
  have hx : (rngS t.L) = rngS (t.L.take n2) ++ t.L[n2] :: rngS (t.L.drop (n2 + 1)) := by
    have := cut_at hn
    rw [← rngS_pos hr, ← rngS_app, ← this]
  have hx2 : (rngS t.L)[(rngS (t.L.take n2)).length]? = some t.L[n2] := by
    rw [hx, List.getElem?_append_right (Nat.le_refl _), Nat.sub_self]; rfl
  obtain ⟨k1, k2, k3⟩ := gO_some hx2
  have hdel := (lr_deln hn hS).2
  have e1 : losT1 (rS t) o = rS (losR1 t o) := by
    show mkS ((rngS t.L).eraseIdx (srtF (rngS t.L) o).toNat) t.set t.mon t.tax (fU t.los o (t.los o + (gB_ (rngS t.L) (srtF (rngS t.L) o).toNat - gA_ (rngS t.L) (srtF (rngS t.L) o).toNat))) t.D t.own t.day t.clo t.fee = mkS (rngS (lrF t.L (gA_ t.L (srtF t.L o).toNat) (gB_ t.L (srtF t.L o).toNat) (-6))) t.set t.mon t.tax (fU t.los o (t.los o + (gB_ t.L (srtF t.L o).toNat - gA_ t.L (srtF t.L o).toNat))) t.D t.own t.day t.clo t.fee
    rw [g2, g1, Int.toNat_natCast, Int.toNat_natCast, k2, k3, ea.2.1, ea.2.2, hdel, hx, List.eraseIdx_append_of_length_le (Nat.le_refl _), Nat.sub_self]
    rfl
  unfold losT losR
  rw [e1, tax_rng ho, tax_rng ho]
  rfl
theorem e_losF {o : Int} (ho : 0 ≤ o) : ∀ (k : Nat) (t : St), segW t.L → cntO t.L o = k → losF k (rS t) o = rS (losRF k t o) := by
  intro k
  induction k with
  | zero => intro t _ _; rfl
  | succ k ih =>
    intro t h hc
    have hne : srtF t.L o ≠ -6 := fun q => by have := cntO_pos.mp ((srt_ok t.L o).1 q); omega
    obtain ⟨g1, g2, g3⟩ := losR_ok ho h hne
    simp only [losF, losRF]
    by_cases c : t.mon o < jJ 0
    · rw [if_pos (show (rS t).mon o < jJ 0 from c), if_pos c, e_los ho h hne]
      exact ih (losR t o) g1 (by omega)
    · rw [if_neg (show ¬ (rS t).mon o < jJ 0 from c), if_neg c]
theorem e_dayO {t : St} {o : Int} (ho : 0 ≤ o) (hS : segW t.L) : dayO (rS t) o = rS (dayRO t o) := by
  unfold dayO dayRO
  rw [tax_rng ho]
  have e1 : chgF (rS t) o (taxV t o) = rS (chgF t o (taxV t o)) := rfl
  rw [e1]
  have e2 : cntO (rS (chgF t o (taxV t o))).L o = cntO (chgF t o (taxV t o)).L o := (cnt_rng o ho t.L).1
  rw [e2]
  exact e_losF ho _ _ hS (by have := cnt_gb (chgF t o (taxV t o)).L o; omega)
theorem e_dayF {t : St} (hS : segW t.L) : ∀ n : Nat, dayF (rS t) n = rS (dayRF t n) := by
  intro n
  induction n with
  | zero => rfl
  | succ n ih =>
    show dayO (dayF (rS t) n) n = _
    rw [ih]
    exact e_dayO (by omega) (dayRF_ok hS n).1
theorem e_dayP {t : St} (hS : segW t.L) : dayP (rS t) = rS (dayRP t) := by
  have h := e_dayF hS t.own.toNat
  have e1 : dayP (rS t) = mkS (dayF (rS t) t.own.toNat).L (dayF (rS t) t.own.toNat).set (dayF (rS t) t.own.toNat).mon (dayF (rS t) t.own.toNat).tax (dayF (rS t) t.own.toNat).los (dayF (rS t) t.own.toNat).D (dayF (rS t) t.own.toNat).own ((dayF (rS t) t.own.toNat).day + 1) (dayF (rS t) t.own.toNat).clo (dayF (rS t) t.own.toNat).fee := rfl
  rw [e1, h]
  rfl
theorem dnR_ok {t : St} (hS : segW t.L) : ∀ n : Nat, segW (dnR t n).L ∧ consL t (dnR t n) ∧ dayN (rS t) n = rS (dnR t n) := by
  intro n
  induction n with
  | zero => exact ⟨hS, consL.rf, rfl⟩
  | succ n ih =>
    obtain ⟨h1, h2, h3⟩ := ih
    obtain ⟨g1, g2⟩ := dayRP_ok h1
    refine ⟨g1, h2.tr g2, ?_⟩
    show dayP (dayN (rS t) n) = _
    rw [h3]
    exact e_dayP h1
theorem e_da {t : St} (hS : segW t.L) (d : Int) : daF (rS t) d = ((daR t d).1, rS (daR t d).2) := by
  unfold daF daR
  by_cases c : 1 ≤ d ∧ d ≤ 60
  · rw [if_neg (by omega), if_neg (by omega), if_pos c, (dnR_ok hS d.toNat).2.2]
  · rw [if_neg c]
    split
    · rfl
    · rw [if_pos (by omega)]
