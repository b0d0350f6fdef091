/-! class and reference: the states that come; deals -/
theorem mts_le {o : Int} : ∀ (L : List Sg) (x : Int), chn x L → mtsO L o ≤ 10000 - x := by
  intro L
  induction L with
  | nil => intro x h; have : x = 10000 := h; show (0 : Int) ≤ _; omega
  | cons s L ih =>
    intro x h
    obtain ⟨g1, g2, g3, g4⟩ := h
    have := ih _ g4
    rw [mtsO_cons]
    split <;> omega
theorem mts_0 {L : List Sg} {o x : Int} (h : chn x L) : 0 ≤ mtsO L o := by
  induction L generalizing x with
  | nil => exact Int.le_refl 0
  | cons s L ih =>
    obtain ⟨g1, g2, g3, g4⟩ := h
    have := ih g4
    rw [mtsO_cons]
    split <;> omega
/-- a state that can come: D bounds the day, F what an owner lost and has -/
def gd (D F : Int) (t : St) : Prop := segW t.L ∧ rnF t.L ≤ 40 ∧ regW t ∧ (dealW t.D ∧ ∀ v ∈ t.D, v.1 < t.own ∧ v.2.1 < t.own) ∧ (∀ o : Int, t.own ≤ o → t.mon o = 0 ∧ t.tax o = 0 ∧ t.los o = 0) ∧ (0 ≤ t.day ∧ t.day ≤ D) ∧ ∀ o : Int, 0 ≤ o → o < 10 → 0 ≤ t.los o ∧ t.los o + mtsO t.L o ≤ F
theorem gd_L {D F : Int} {t : St} (h : gd D F t) : segW t.L := h.1
theorem gd_40 {D F : Int} {t : St} (h : gd D F t) : rnF t.L ≤ 40 := h.2.1
theorem gd_W {D F : Int} {t : St} (h : gd D F t) : regW t := h.2.2.1
theorem gd_D {D F : Int} {t : St} (h : gd D F t) : dealW t.D := h.2.2.2.1.1
theorem gd_O {D F : Int} {t : St} (h : gd D F t) : ∀ v ∈ t.D, v.1 < t.own ∧ v.2.1 < t.own := h.2.2.2.1.2
theorem gd_z {D F : Int} {t : St} (h : gd D F t) : ∀ o : Int, t.own ≤ o → t.mon o = 0 ∧ t.tax o = 0 ∧ t.los o = 0 := h.2.2.2.2.1
theorem gd_d {D F : Int} {t : St} (h : gd D F t) : 0 ≤ t.day ∧ t.day ≤ D := h.2.2.2.2.2.1
theorem gd_f {D F : Int} {t : St} (h : gd D F t) : ∀ o : Int, 0 ≤ o → o < 10 → 0 ≤ t.los o ∧ t.los o + mtsO t.L o ≤ F := h.2.2.2.2.2.2
theorem gd_10 {D F : Int} {t : St} (h : gd D F t) : t.own ≤ 10 := h.2.2.1.2.1
theorem gd.mono {D F D2 F2 : Int} {t : St} (h : gd D F t) (hD : D ≤ D2) (hF : F ≤ F2) : gd D2 F2 t := ⟨h.1, h.2.1, h.2.2.1, h.2.2.2.1, h.2.2.2.2.1, ⟨(gd_d h).1, Int.le_trans (gd_d h).2 hD⟩, fun o a b => ⟨(gd_f h o a b).1, Int.le_trans (gd_f h o a b).2 hF⟩⟩
theorem gd_st {D F : Int} {t : St} {R : List Sg} (h : gd D F t) (hR : segW R) (h40 : rnF R ≤ 40) : gd D (F + 10000) (stL t R) := by
  obtain ⟨x1, x2, x3, x4, x5, x6, x7⟩ := id h
  refine ⟨hR, h40, x3, x4, x5, x6, fun o a b => ?_⟩
  obtain ⟨h1, h2⟩ := gd_f h o a b
  have h3 := mts_le (o := o) R 0 hR.2.1
  have h4 := mts_0 (o := o) (gd_L h).2.1
  exact ⟨h1, show t.los o + mtsO R o ≤ F + 10000 by omega⟩
theorem gd_n {D F : Int} {t : St} (h : gd D F t) : gd D (F + 10000) t := h.mono (Int.le_refl _) (by omega)
theorem lr_ok {t : St} {a b o : Int} (hS : segW t.L) (ho : okO o) (ha : 0 ≤ a ∧ a < b ∧ b ≤ 10000) (h : rnF (lrF t.L a b o) ≤ 40) : segW (lrF t.L a b o) := by
  obtain ⟨h1, h2⟩ := lrF_cov hS.2.1 ho ha
  exact segW_of h1 h2 h
theorem gd_gv {D F : Int} {t : St} (h : gd D F t) (o f n : Int) : gd D (F + 10000) (gvR t o f n).2 := by
  have h10 := gd_10 h
  unfold gvR
  split
  · next c1 =>
    split
    · next c2 =>
      split
      · next c3 =>
        split
        · exact gd_st h (lr_ok (gd_L h) (Or.inr (by omega)) (by omega) c3) c3
        · exact gd_n h
      · exact gd_n h
    · exact gd_n h
  · exact gd_n h
theorem gd_fr {D F : Int} {t : St} (h : gd D F t) (f n : Int) : gd D (F + 10000) (frR t f n).2 := by
  unfold frR
  split
  · next c2 =>
    split
    · next c3 => exact gd_st h (lr_ok (gd_L h) (Or.inl rfl) (by omega) c3) c3
    · exact gd_n h
  · exact gd_n h
theorem gd_okG {D F : Int} {t : St} (h : gd D F t) : ∀ s ∈ t.L, okG s := fun s hs => by
  have := chE_ok 0 ((chE_n 0).mpr (gd_L h).2.1) s hs
  exact ⟨this.1, this.2.1, this.2.2.1, this.2.2.2⟩
theorem gd_gr {D F : Int} {t : St} (h : gd D F t) (o n : Int) : gd D (F + 10000) (grR t o n).2 := by
  have h10 := gd_10 h
  unfold grR
  split
  · next c1 =>
    split
    · next c2 =>
      have hb := hf_b (h := 0) (gd_okG h) c2.1
      split
      · exact gd_n h
      · next c4 =>
        split
        · next c3 =>
          split
          · exact gd_st h (lr_ok (gd_L h) (Or.inr (by omega)) (by omega) c3) c3
          · exact gd_n h
        · exact gd_n h
    · exact gd_n h
  · exact gd_n h
theorem gd_inh {D F : Int} {t : St} (h : gd D F t) (o q : Int) : gd D (F + 10000) (inR t o q).2 := by
  have h10 := gd_10 h
  unfold inR
  split
  · next c1 =>
    split
    · have hc := laF_cov (o := o) (gd_L h).2.1 (show okO q from Or.inr (by omega))
      have h40 : rnF (laF t.L o q) ≤ 40 := by
        have e := e_inh (gd_L h) (gd_40 h) c1.1.1 (show okO q from Or.inr (by omega))
        have l1 := rngS_len (laF t.L o q)
        have l2 := rngS_len t.L
        have e1 := la_G (o := o) (show okO q from Or.inr (by omega)) t.L [] 0 (gd_L h).2.1 rfl trivial
        have e2 := apM_rng (inhP o q) (fun s hs => by unfold inhP; dsimp only; rw [if_neg (by omega)]; exact hs) t.L []
        have e3 := apM_len2 ((rngS t.L).map (inhP o q)) []
        have e4 : (rngS ((rngS t.L).map (inhP o q))).length ≤ (rngS t.L).length := by
          have := List.length_filter_le (fun s : Sg => decide (0 ≤ s.1)) ((rngS t.L).map (inhP o q))
          rw [List.length_map] at this
          exact this
        have e5 : rngS (laF t.L o q) = apM [] ((rngS t.L).map (inhP o q)) := e1.trans e2.symm
        rw [List.length_nil] at e3
        rw [← l1, e5]
        have := gd_40 h
        omega
      exact gd_st h (segW_of hc.1 hc.2 h40) h40
    · exact gd_n h
  · exact gd_n h
theorem gd_set {D F : Int} {t : St} (h : gd D F t) (i v : Int) : gd D (F + 10000) (setF t i v).2 := by
  obtain ⟨x1, x2, x3, x4, x5, x6, x7⟩ := id h
  have y7 := (gd_n h).2.2.2.2.2.2
  unfold setF
  split
  · next c1 =>
    split
    · exact gd_n h
    · split
      · exact gd_n h
      · exact ⟨x1, x2, setF_W x3 c1 (by omega) (by omega), x4, x5, x6, y7⟩
  · exact gd_n h
theorem gd_own {D F : Int} {t : St} (h : gd D F t) (v : Int) : gd D (F + 10000) (ownF t v).2 := by
  obtain ⟨x1, x2, x3, x4, x5, x6, x7⟩ := id h
  have y7 := (gd_n h).2.2.2.2.2.2
  obtain ⟨w1, w2, w3⟩ := id x3
  unfold ownF
  split
  · split
    · exact gd_n h
    · next c2 =>
      refine ⟨x1, x2, ⟨show 0 ≤ t.own + 1 by omega, show t.own + 1 ≤ 10 by omega, w3⟩, ⟨x4.1, fun v hv => by have := x4.2 v hv; exact ⟨show v.1 < t.own + 1 by omega, show v.2.1 < t.own + 1 by omega⟩⟩, fun o a => ?_, x6, y7⟩
      have a2 : t.own + 1 ≤ o := a
      obtain ⟨z1, z2, z3⟩ := x5 o (by omega)
      exact ⟨(fU_ne (by omega)).trans z1, z2, z3⟩
  · exact gd_n h
theorem gd_pay {D F : Int} {t : St} (h : gd D F t) (o v : Int) : gd D (F + 10000) (payF t o v).2 := by
  obtain ⟨x1, x2, x3, x4, x5, x6, x7⟩ := id h
  have y7 := (gd_n h).2.2.2.2.2.2
  unfold payF
  split
  · next c1 =>
    split
    · refine ⟨x1, x2, x3, x4, fun q a => ?_, x6, y7⟩
      obtain ⟨z1, z2, z3⟩ := x5 q a
      exact ⟨(fU_ne (by have a2 : t.own ≤ q := a; omega)).trans z1, z2, z3⟩
    · exact gd_n h
  · exact gd_n h
theorem gd_tr {D F : Int} {t : St} (h : gd D F t) (a b f n p : Int) : gd D (F + 10000) (trF t a b f n p).2 := by
  obtain ⟨x1, x2, x3, x4, x5, x6, x7⟩ := id h
  have y7 := (gd_n h).2.2.2.2.2.2
  have h10 := gd_10 h
  unfold trF
  split
  · next c1 =>
    split
    · next c2 =>
      split
      · next c3 =>
        refine ⟨x1, x2, x3, ⟨⟨?_, fun v hv => ?_⟩, fun v hv => ?_⟩, x5, x6, y7⟩
        · show (t.D ++ [(a, b, f, n, p)]).length ≤ 8
          rw [List.length_append, List.length_cons, List.length_nil]; omega
        · rcases List.mem_append.mp hv with g | g
          · exact x4.1.2 v g
          · rw [List.mem_singleton] at g
            rw [g]
            show 0 ≤ a ∧ a < 10 ∧ 0 ≤ b ∧ b < 10 ∧ a ≠ b ∧ 0 ≤ f ∧ 1 ≤ n ∧ f + n ≤ 10000 ∧ 0 ≤ p ∧ p ≤ 1000000
            omega
        · rcases List.mem_append.mp hv with g | g
          · exact x4.2 v g
          · rw [List.mem_singleton] at g
            rw [g]
            exact ⟨c1.1.2, c1.2.1.2⟩
      · exact gd_n h
    · exact gd_n h
  · exact gd_n h
theorem gd_dr {D F : Int} {t : St} (h : gd D F t) : gd D (F + 10000) (drF t).2 := by
  obtain ⟨x1, x2, x3, x4, x5, x6, x7⟩ := id h
  have y7 := (gd_n h).2.2.2.2.2.2
  unfold drF
  split
  · exact gd_n h
  · refine ⟨x1, x2, x3, ⟨⟨?_, fun v hv => x4.1.2 v (List.dropLast_subset _ hv)⟩, fun v hv => x4.2 v (List.dropLast_subset _ hv)⟩, x5, x6, y7⟩
    show t.D.dropLast.length ≤ 8
    have := x4.1.1
    rw [List.length_dropLast]; omega
/-! days -/
/-- what a day of owner q leaves as it is -/
def othE (q : Int) (t u : St) : Prop := (∀ o : Int, o ≠ q → u.mon o = t.mon o ∧ u.tax o = t.tax o ∧ u.los o = t.los o) ∧ (∀ o : Int, 0 ≤ o → o ≠ q → cntO u.L o = cntO t.L o ∧ mtsO u.L o = mtsO t.L o) ∧ rnF u.L ≤ rnF t.L
theorem othE.rf {q : Int} {t : St} : othE q t t := ⟨fun _ _ => ⟨rfl, rfl, rfl⟩, fun _ _ _ => ⟨rfl, rfl⟩, Int.le_refl _⟩
theorem othE.tr {q : Int} {t u v : St} (h : othE q t u) (k : othE q u v) : othE q t v := ⟨fun o ho => ⟨(k.1 o ho).1.trans (h.1 o ho).1, (k.1 o ho).2.1.trans (h.1 o ho).2.1, (k.1 o ho).2.2.trans (h.1 o ho).2.2⟩, fun o a b => ⟨(k.2.1 o a b).1.trans (h.2.1 o a b).1, (k.2.1 o a b).2.trans (h.2.1 o a b).2⟩, Int.le_trans k.2.2 h.2.2⟩
theorem losR_oth {t : St} {q : Int} (hq : 0 ≤ q) (hS : segW t.L) (h : srtF t.L q ≠ -6) : othE q t (losR t q) ∧ t.los q < (losR t q).los q := by
  obtain ⟨n, e, hn, h2⟩ := srt_some2 h
  have ea := gO_at hn
  have eL : (losR t q).L = lrF t.L t.L[n].2.1 t.L[n].2.2 (-6) := by
    show lrF t.L (gA_ t.L (srtF t.L q).toNat) (gB_ t.L (srtF t.L q).toNat) (-6) = _
    rw [e, Int.toNat_natCast, ea.2.1, ea.2.2]
  have elos : (losR t q).los = fU t.los q (t.los q + (t.L[n].2.2 - t.L[n].2.1)) := by
    show fU t.los q (t.los q + (gB_ t.L (srtF t.L q).toNat - gA_ t.L (srtF t.L q).toNat)) = _
    rw [e, Int.toNat_natCast, ea.2.1, ea.2.2]
  obtain ⟨d1, d2⟩ := lr_deln hn hS
  have hpos : 0 < t.L[n].2.2 - t.L[n].2.1 := by
    have := chn_at 0 hS.2.1 n hn
    omega
  refine ⟨⟨fun o ho => ⟨?_, ?_, ?_⟩, fun o ho hne => ?_, ?_⟩, ?_⟩
  · exact fU_ne ho
  · exact fU_ne ho
  · rw [elos]; exact fU_ne ho
  · have e1 := cntO_app (t.L.take n) (t.L[n] :: t.L.drop (n + 1)) o
    have e2 := mtsO_app (t.L.take n) (t.L[n] :: t.L.drop (n + 1)) o
    rw [← cut_at hn] at e1 e2
    rw [← (cnt_rng o ho (losR t q).L).1, ← (cnt_rng o ho (losR t q).L).2, eL, d2, cntO_app, mtsO_app, (cnt_rng o ho _).1, (cnt_rng o ho _).2, (cnt_rng o ho _).1, (cnt_rng o ho _).2, e1, e2]
    have k1 : cntO (t.L[n] :: t.L.drop (n + 1)) o = (if t.L[n].1 = o then 1 else 0) + cntO (t.L.drop (n + 1)) o := rfl
    rw [k1, mtsO_cons, if_neg (by omega), if_neg (by omega), Int.zero_add, Int.zero_add]
    exact ⟨rfl, rfl⟩
  · have l1 := rngS_len (losR t q).L
    have l2 := rngS_len t.L
    have hr : 0 ≤ t.L[n].1 := by omega
    have hx : (rngS t.L) = rngS (t.L.take n) ++ t.L[n] :: rngS (t.L.drop (n + 1)) := by
      have := cut_at hn
      rw [← rngS_pos hr, ← rngS_app, ← this]
    rw [eL, d2, List.length_append] at l1
    rw [hx, List.length_append, List.length_cons] at l2
    rw [eL]
    omega
  · rw [elos, fU_eq]; omega
theorem losRF_oth {q : Int} (hq : 0 ≤ q) : ∀ (k : Nat) (t : St), segW t.L → cntO t.L q = k → othE q t (losRF k t q) := by
  intro k
  induction k with
  | zero => intro t _ _; exact othE.rf
  | succ k ih =>
    intro t h hc
    simp only [losRF]
    split
    · have hne : srtF t.L q ≠ -6 := fun z => by have := cntO_pos.mp ((srt_ok t.L q).1 z); omega
      obtain ⟨g1, g2, g3⟩ := losR_ok hq h hne
      exact (losR_oth hq h hne).1.tr (ih (losR t q) g1 (by omega))
    · exact othE.rf
theorem cnt_chg (t : St) (o c q : Int) : cntO (chgF t o c).L q = ((cntO (chgF t o c).L q).toNat : Nat) := by
  have := cnt_gb (chgF t o c).L q
  omega
theorem dayRO_oth {t : St} {q : Int} (hq : 0 ≤ q) (h : segW t.L) : othE q t (dayRO t q) := by
  have h1 : othE q t (chgF t q (taxV t q)) := ⟨fun o ho => ⟨fU_ne ho, fU_ne ho, rfl⟩, fun _ _ _ => ⟨rfl, rfl⟩, Int.le_refl _⟩
  exact h1.tr (losRF_oth hq _ (chgF t q (taxV t q)) h (cnt_chg t q _ q))
theorem dayRF_oth {t : St} (h : segW t.L) : ∀ n : Nat, (∀ o : Int, (n : Int) ≤ o → (dayRF t n).mon o = t.mon o ∧ (dayRF t n).tax o = t.tax o ∧ (dayRF t n).los o = t.los o ∧ (0 ≤ o → cntO (dayRF t n).L o = cntO t.L o ∧ mtsO (dayRF t n).L o = mtsO t.L o)) ∧ rnF (dayRF t n).L ≤ rnF t.L := by
  intro n
  induction n with
  | zero => exact ⟨fun o _ => ⟨rfl, rfl, rfl, fun _ => ⟨rfl, rfl⟩⟩, Int.le_refl _⟩
  | succ n ih =>
    have g := dayRO_oth (q := (n : Int)) (by omega) (dayRF_ok h n).1
    obtain ⟨i1, i2⟩ := ih
    refine ⟨fun o ho => ?_, Int.le_trans g.2.2 i2⟩
    obtain ⟨a1, a2, a3, a4⟩ := i1 o (by omega)
    obtain ⟨b1, b2, b3⟩ := g.1 o (by omega)
    exact ⟨b1.trans a1, b2.trans a2, b3.trans a3, fun h0 => ⟨(g.2.1 o h0 (by omega)).1.trans (a4 h0).1, (g.2.1 o h0 (by omega)).2.trans (a4 h0).2⟩⟩
theorem gd_dayP {D F : Int} {t : St} (h : gd D F t) : gd (D + 1) F (dayRP t) := by
  have hS := gd_L h
  obtain ⟨k1, k2⟩ := dayRP_ok hS
  obtain ⟨o1, o2⟩ := dayRF_oth hS t.own.toNat
  obtain ⟨w1, w2, w3⟩ := gd_W h
  have hown := dayRF_own t t.own.toNat
  have e1 : (dayRP t).own = t.own := hown.1
  have e2 : (dayRP t).set = t.set := hown.2.1
  have e3 : (dayRP t).D = t.D := hown.2.2.1
  have e4 : (dayRP t).day = t.day + 1 := by show (dayRF t t.own.toNat).day + 1 = _; rw [hown.2.2.2.1]
  refine ⟨k1, Int.le_trans o2 (gd_40 h), ⟨by rw [e1]; exact w1, by rw [e1]; exact w2, by rw [e2]; exact w3⟩, by rw [e3, e1]; exact h.2.2.2.1, fun o a => ?_, ?_, fun o a b => ?_⟩
  · rw [e1] at a
    obtain ⟨z1, z2, z3⟩ := gd_z h o a
    obtain ⟨a1, a2, a3, -⟩ := o1 o (by omega)
    exact ⟨a1.trans z1, a2.trans z2, a3.trans z3⟩
  · rw [e4]
    have := gd_d h
    omega
  · obtain ⟨f1, f2⟩ := gd_f h o a b
    obtain ⟨c1, c2⟩ := k2 o a
    exact ⟨by omega, by omega⟩
theorem gd_dn {D F : Int} {t : St} (h : gd D F t) : ∀ n : Nat, gd (D + n) F (dnR t n) := by
  intro n
  induction n with
  | zero => exact h.mono (by omega) (Int.le_refl _)
  | succ n ih => exact (gd_dayP ih).mono (by omega) (Int.le_refl _)
theorem gd_da {D F : Int} {t : St} (h : gd D F t) (d : Int) : gd (D + 60) (F + 10000) (daR t d).2 := by
  unfold daR
  split
  · exact (gd_dn h d.toNat).mono (by omega) (by omega)
  · exact h.mono (by omega) (by omega)
/-! deals -/
theorem mtw_le {o a n : Int} (hn : 0 < n) : ∀ (L : List Sg) (x c : Int), chn x L → L.foldl (mtwS o a n) c ≤ c + (if a + n ≤ x then 0 else if x < a then n else a + n - x) := by
  intro L
  induction L with
  | nil => intro x c h; show c ≤ _; split <;> (try split) <;> omega
  | cons s L ih =>
    intro x c h
    obtain ⟨g1, g2, g3, g4⟩ := h
    have h1 := ih s.2.2 (mtwS o a n c s) g4
    rw [List.foldl_cons]
    refine Int.le_trans h1 ?_
    have h2 : mtwS o a n c s ≤ c + ovF s a n := by
      have : 0 ≤ ovF s a n := by unfold ovF; split <;> omega
      unfold mtwS; split <;> omega
    have h3 : ovF s a n + (if a + n ≤ s.2.2 then 0 else if s.2.2 < a then n else a + n - s.2.2) ≤ (if a + n ≤ x then 0 else if x < a then n else a + n - x) := by
      unfold ovF
      by_cases c1 : a + n < s.2.2
      · rw [if_pos c1]
        by_cases c2 : s.2.1 < a
        · rw [if_pos c2]; split <;> split <;> (try split) <;> (try split) <;> omega
        · rw [if_neg c2]; split <;> split <;> (try split) <;> (try split) <;> omega
      · rw [if_neg c1]
        by_cases c2 : s.2.1 < a
        · rw [if_pos c2]; split <;> split <;> (try split) <;> (try split) <;> omega
        · rw [if_neg c2]; split <;> split <;> (try split) <;> (try split) <;> omega
    omega
theorem mtw_n {o a n : Int} {L : List Sg} (hn : 0 < n) (hL : chn 0 L) (ha : 0 ≤ a) : mtwF L o a n ≤ n := by
  have := mtw_le (o := o) (a := a) hn L 0 0 hL
  unfold mtwF
  split at this
  · omega
  · split at this <;> omega
theorem e_go {D F : Int} {t : St} (h : gd D F t) {q : Tr} (hq : okT q) : ((trfC1 (rS t) q ∧ trfC2 (rS t) q) ↔ (goR t q).1 = 1) ∧ ((goR t q).1 = 1 → trfD (rS t) q = rS (goR t q).2 ∧ segW (goR t q).2.L ∧ rnF (goR t q).2.L ≤ 40) := by
  obtain ⟨a1, a2, a3, a4, a5⟩ := q
  obtain ⟨k1, k2, k3, k4, k5, k6, k7, k8, k9, k10⟩ : 0 ≤ a1 ∧ a1 < 10 ∧ 0 ≤ a2 ∧ a2 < 10 ∧ a1 ≠ a2 ∧ 0 ≤ a3 ∧ 1 ≤ a4 ∧ a3 + a4 ≤ 10000 ∧ 0 ≤ a5 ∧ a5 ≤ 1000000 := hq
  have hS := gd_L h
  have hF : rngS (lrF t.L a3 (a3 + a4) a2) = becF (rngS t.L) a2 a3 a4 := lr_F hS (gd_40 h) (Or.inr ⟨k3, k4⟩) (by omega)
  have hl := rngS_len (lrF t.L a3 (a3 + a4) a2)
  have hm := mtw_rng k1 t.L a3 a4
  have hmt := (cnt_rng a2 k3 t.L).2
  have hle := mtw_n (o := a1) (a := a3) (n := a4) (by omega) hS.2.1 k6
  have s1 := sho_rng k1 (t.set 3) (lrF t.L a3 (a3 + a4) a2)
  have s2 := sho_rng k3 (t.set 3) (lrF t.L a3 (a3 + a4) a2)
  have c1 : trfC1 (rS t) (a1, a2, a3, a4, a5) ↔ ¬ goN t (a1, a2, a3, a4, a5) := by
    show (mtwF (rngS t.L) a1 a3 a4 = a4 ∧ ¬ t.mon a2 < jJ (a5 + t.set 2) ∧ (a4 = 0 ∨ mtsO (rngS t.L) a2 + a4 ≤ t.set 4)) ↔ ¬ (mtwF t.L a1 a3 a4 < a4 ∨ t.mon a2 < jJ (a5 + t.set 2) ∨ ¬ (a4 = 0 ∨ mtsO t.L a2 + a4 ≤ t.set 4))
    rw [hm, hmt]
    constructor
    · rintro ⟨g1, g2, g3⟩ (z | z | z)
      · omega
      · exact g2 z
      · exact z g3
    · intro z
      refine ⟨?_, fun g => z (Or.inr (Or.inl g)), Decidable.byContradiction fun g => z (Or.inr (Or.inr g))⟩
      have : ¬ mtwF t.L a1 a3 a4 < a4 := fun g => z (Or.inl g)
      omega
  have c2 : trfC2 (rS t) (a1, a2, a3, a4, a5) ↔ (¬ 40 < rnF (lrF t.L a3 (a3 + a4) a2) ∧ ¬ goS t (a1, a2, a3, a4, a5)) := by
    show ((becF (rngS t.L) a2 a3 a4).length ≤ 40 ∧ shoB (becF (rngS t.L) a2 a3 a4) a1 (t.set 3) = false ∧ shoB (becF (rngS t.L) a2 a3 a4) a2 (t.set 3) = false) ↔ (¬ 40 < rnF (lrF t.L a3 (a3 + a4) a2) ∧ ¬ (shoB (lrF t.L a3 (a3 + a4) a2) a1 (t.set 3) = true ∨ shoB (lrF t.L a3 (a3 + a4) a2) a2 (t.set 3) = true))
    rw [← hF, s1, s2]
    constructor
    · rintro ⟨g1, g2, g3⟩
      refine ⟨by omega, ?_⟩
      rintro (z | z)
      · rw [g2] at z; cases z
      · rw [g3] at z; cases z
    · rintro ⟨g1, g2⟩
      exact ⟨by omega, Bool.eq_false_iff.mpr (fun z => g2 (Or.inl z)), Bool.eq_false_iff.mpr (fun z => g2 (Or.inr z))⟩
  rw [c1, c2]
  by_cases d1 : goN t (a1, a2, a3, a4, a5)
  · have e1 : goR t (a1, a2, a3, a4, a5) = (0, t) := if_pos d1
    rw [e1]
    exact ⟨⟨fun z => absurd d1 z.1, fun z => absurd z (show ¬ ((0 : Int) = 1) by decide)⟩, fun z => absurd z (show ¬ ((0 : Int) = 1) by decide)⟩
  · by_cases d2 : 40 < rnF (lrF t.L a3 (a3 + a4) a2)
    · have e1 : goR t (a1, a2, a3, a4, a5) = (0, t) := (if_neg d1).trans (if_pos d2)
      rw [e1]
      exact ⟨⟨fun z => absurd d2 z.2.1, fun z => absurd z (show ¬ ((0 : Int) = 1) by decide)⟩, fun z => absurd z (show ¬ ((0 : Int) = 1) by decide)⟩
    · have e1 : goR t (a1, a2, a3, a4, a5) = (if goS t (a1, a2, a3, a4, a5) then 0 else 1, goT t (a1, a2, a3, a4, a5)) := (if_neg d1).trans (if_neg d2)
      rw [e1]
      by_cases d3 : goS t (a1, a2, a3, a4, a5)
      · rw [if_pos d3]
        exact ⟨⟨fun z => absurd d3 z.2.2, fun z => absurd z (show ¬ ((0 : Int) = 1) by decide)⟩, fun z => absurd z (show ¬ ((0 : Int) = 1) by decide)⟩
      · rw [if_neg d3]
        refine ⟨⟨fun _ => rfl, fun _ => ⟨d1, d2, d3⟩⟩, fun _ => ⟨?_, show segW (lrF t.L a3 (a3 + a4) a2) from lr_ok hS (Or.inr ⟨k3, k4⟩) (by omega) (by omega), show rnF (lrF t.L a3 (a3 + a4) a2) ≤ 40 by omega⟩⟩
        show mkS (becF (rngS t.L) a2 a3 a4) t.set (fU (fU t.mon a2 (t.mon a2 + jJ (-a5 - t.set 2))) a1 (fU t.mon a2 (t.mon a2 + jJ (-a5 - t.set 2)) a1 + jJ a5)) t.tax t.los t.D t.own t.day t.clo (t.fee + t.set 2) = mkS (rngS (lrF t.L a3 (a3 + a4) a2)) t.set (fU (fU t.mon a2 (t.mon a2 - jJ (a5 + t.set 2))) a1 (t.mon a1 + jJ a5)) t.tax t.los t.D t.own t.day t.clo (t.fee + t.set 2)
        rw [hF, fU_ne k5, jJ_ns, show -a5 - t.set 2 = -(a5 + t.set 2) by omega]
theorem goT_gd {D F : Int} {t : St} (h : gd D F t) {q : Tr} (hq : okT q) (hown : q.1 < t.own ∧ q.2.1 < t.own) (h1 : (goR t q).1 = 1) : gd D (F + 10000) (goR t q).2 := by
  obtain ⟨x1, x2, x3, x4, x5, x6, x7⟩ := id h
  obtain ⟨-, g⟩ := e_go h hq
  obtain ⟨-, g2, g3⟩ := g h1
  unfold goR at h1 g2 g3 ⊢
  split at h1
  · exact absurd h1 (show ¬ ((0 : Int) = 1) by decide)
  · next d1 =>
    rw [if_neg d1] at g2 g3 ⊢
    split at h1
    · exact absurd h1 (show ¬ ((0 : Int) = 1) by decide)
    · next d2 =>
      rw [if_neg d2] at g2 g3 ⊢
      have e := (gd_st h g2 g3).2.2.2.2.2.2
      refine ⟨g2, g3, x3, x4, fun o a => ?_, x6, e⟩
      obtain ⟨z1, z2, z3⟩ := x5 o a
      have a2 : t.own ≤ o := a
      exact ⟨(fU_ne (by omega)).trans ((fU_ne (by omega)).trans z1), z2, z3⟩
