/-! a range that is lost -/
theorem lr_len {a b e : Int} (hb : a < b) : ∀ (A R : List Sg) (x : Int), chE e x A → e ≤ a → (A.foldl (lrS a b (-6)) R).length ≤ R.length + A.length := by
  intro A
  induction A with
  | nil => intro R x _ _; exact Nat.le_refl _
  | cons s A ih =>
    intro R x h he
    obtain ⟨g1, g2, g3, g4⟩ := h
    subst g1
    have hle := chE_le _ g4
    have e1 : lrS a b (-6) R s = layF R s.2.1 s.2.2 s.1 := by
      unfold lrS
      rw [if_neg (show ¬ (s.2.1 ≤ a ∧ a < s.2.2) by omega), if_neg (show ¬ b < s.2.1 by omega), layF_no (a := b) (by omega)]
      have : (if s.2.2 < a then s.2.2 else a) = s.2.2 := by split <;> omega
      rw [this]
    have h1 := ih (lrS a b (-6) R s) s.2.2 g4 he
    have h2 := layF_len R s.2.1 s.2.2 s.1
    rw [List.foldl_cons, List.length_cons]
    rw [e1] at h1 ⊢
    omega
theorem lr_len2 {a b : Int} (hb : a < b) : ∀ (B R : List Sg), (∀ s ∈ B, b ≤ s.2.1) → (B.foldl (lrS a b (-6)) R).length ≤ R.length + B.length := by
  intro B
  induction B with
  | nil => intro R _; exact Nat.le_refl _
  | cons s B ih =>
    intro R h
    have g := h s List.mem_cons_self
    have e1 : lrS a b (-6) R s = layF R (if b < s.2.1 then s.2.1 else b) s.2.2 s.1 := by
      unfold lrS
      rw [if_neg (show ¬ (s.2.1 ≤ a ∧ a < s.2.2) by omega), layF_no (R := R) (a := s.2.1) (by split <;> omega)]
    have h1 := ih (lrS a b (-6) R s) (fun y hy => h y (List.mem_cons_of_mem _ hy))
    have h2 := layF_len R (if b < s.2.1 then s.2.1 else b) s.2.2 s.1
    rw [List.foldl_cons, List.length_cons]
    rw [e1] at h1 ⊢
    omega
theorem chn_cut {A B : List Sg} {s : Sg} : ∀ x : Int, chn x (A ++ s :: B) → chE s.2.1 x A ∧ chn s.2.2 B ∧ okO s.1 ∧ s.2.1 < s.2.2 := by
  induction A with
  | nil => intro x h; exact ⟨h.1.symm, h.2.2.2, h.2.2.1, by have := h.1; have := h.2.1; omega⟩
  | cons u A ih => intro x h; obtain ⟨g1, g2⟩ := ih _ h.2.2.2; exact ⟨⟨h.1, h.2.1, h.2.2.1, g1⟩, g2⟩
/-- a piece becomes a hole: the row that is laid -/
theorem lr_del {S A B : List Sg} {s : Sg} (e : S = A ++ s :: B) (hS : segW S) : segW (lrF S s.2.1 s.2.2 (-6)) ∧ rngS (lrF S s.2.1 s.2.2 (-6)) = rngS A ++ rngS B := by
  obtain ⟨h1, h2, h3⟩ := hS
  have hc : chn 0 (A ++ s :: B) := e ▸ h2
  obtain ⟨hA, hB, hs, hl⟩ := chn_cut 0 hc
  have h0 := chE_le 0 hA
  have h9 := chn_le _ hB
  have cov := lrF_cov (a := s.2.1) (b := s.2.2) (o := -6) h2 (Or.inl rfl) ⟨h0, hl, h9⟩
  refine ⟨⟨?_, cov⟩, ?_⟩
  · have l1 := lr_len (a := s.2.1) (b := s.2.2) hl A [] 0 hA (Int.le_refl _)
    have l3 := lr_len2 (a := s.2.1) (b := s.2.2) hl B (lrS s.2.1 s.2.2 (-6) (A.foldl (lrS s.2.1 s.2.2 (-6)) []) s) (fun y hy => (chn_B hB y hy).1)
    have e1 : lrS s.2.1 s.2.2 (-6) (A.foldl (lrS s.2.1 s.2.2 (-6)) []) s = layF (A.foldl (lrS s.2.1 s.2.2 (-6)) []) s.2.1 s.2.2 (-6) := by
      generalize A.foldl (lrS s.2.1 s.2.2 (-6)) [] = R
      unfold lrS
      rw [if_pos ⟨Int.le_refl _, hl⟩, if_neg (show ¬ s.2.2 < s.2.1 by omega), if_neg (show ¬ s.2.2 < s.2.1 by omega), layF_no (R := R) (show ¬ s.2.1 < s.2.1 by omega), layF_no (show ¬ s.2.2 < s.2.2 by omega)]
    have l2 := layF_len (A.foldl (lrS s.2.1 s.2.2 (-6)) []) s.2.1 s.2.2 (-6)
    rw [e1] at l3
    have e2 : (lrF S s.2.1 s.2.2 (-6)) = B.foldl (lrS s.2.1 s.2.2 (-6)) (layF (A.foldl (lrS s.2.1 s.2.2 (-6)) []) s.2.1 s.2.2 (-6)) := by
      rw [← e1, e]; unfold lrF; rw [List.foldl_append, List.foldl_cons]
    have e3 : S.length = A.length + (B.length + 1) := by rw [e, List.length_append, List.length_cons]
    rw [e2]
    simp only [List.length_nil] at l1
    omega
  · have haw : adw (A ++ s :: B) := adw_of (e ▸ h3)
    have q := lr_three (a := s.2.1) (b := s.2.2) (o := -6) e hA hB hs (Int.le_refl _) hl hl (Or.inl rfl) h3
    rw [q, apG_no (a := s.2.1) (n := s.2.1 - s.2.1) (Or.inr (by omega)), apG_no (o := -6) (Or.inl (by decide)), apG_no (a := s.2.2) (Or.inr (by omega))]
    have m1 : A.map (lefP s.2.1) = A.map lnP := List.map_congr_left fun x hx => by
      have := chE_A hA (Int.le_refl _) x hx
      unfold lefP lnP
      have : (if s.2.1 < x.2.2 then s.2.1 else x.2.2) = x.2.2 := by split <;> omega
      rw [this]
    have m2 : B.map (rigP s.2.2) = B.map lnP := List.map_congr_left fun x hx => by
      have := chn_B hB x hx
      unfold rigP lnP
      rw [if_neg (by omega)]
    have pre : ∀ (P Q : List Sg), adw (P ++ Q) → adw P := by
      intro P
      induction P with
      | nil => intro Q _; trivial
      | cons u P ih =>
        intro Q h
        cases P with
        | nil => exact ⟨trivial, trivial⟩
        | cons v P => exact ⟨h.1, ih Q h.2⟩
    have r1 := apM_adw A [] s.2.1 hA (pre A (s :: B) haw)
    rw [m1, m2]
    rw [rngS_nil] at r1
    rw [r1, List.nil_append]
    have app : ∀ (P : List Sg) (x b c : Int) (Q : List Sg), chE b x P → chE c b Q → chE c x (P ++ Q) := by
      intro P
      induction P with
      | nil => intro x b c Q h1 h2; have : x = b := h1; subst this; exact h2
      | cons u P ih => intro x b c Q h1 h2; exact ⟨h1.1, h1.2.1, h1.2.2.1, ih _ _ _ _ h1.2.2.2 h2⟩
    have hh : chE 10000 0 ((A ++ [((-6 : Int), s.2.1, s.2.2)]) ++ B) := app _ _ _ _ _ (chE_app (x := (-6, s.2.1, s.2.2)) hl rfl (Or.inl rfl) 0 hA) ((chE_n _).mpr hB)
    have aw : adw ((A ++ [((-6 : Int), s.2.1, s.2.2)]) ++ B) := by
      have gen : ∀ A : List Sg, adw (A ++ s :: B) → adw ((A ++ [((-6 : Int), s.2.1, s.2.2)]) ++ B) := by
        intro A
        induction A with
        | nil =>
          intro h
          cases B with
          | nil => exact ⟨trivial, trivial⟩
          | cons u B =>
            refine ⟨?_, h.2⟩
            have hu := (chn_B hB u List.mem_cons_self).2.2.2
            rcases hu with hu | hu
            · exact Or.inr (by omega)
            · exact Or.inl (by show (-6 : Int) ≠ u.1; omega)
        | cons u A ih =>
          intro h
          cases A with
          | nil => exact ⟨Or.inr (by show (-6 : Int) < 0; decide), ih h.2⟩
          | cons v A => exact ⟨h.1, ih h.2⟩
      exact gen A haw
    have r2 := apM_adw B (A ++ [((-6 : Int), s.2.1, s.2.2)]) 10000 hh aw
    have e5 : rngS (A ++ [((-6 : Int), s.2.1, s.2.2)]) = rngS A := by rw [rngS_app, rngS_neg (show ((-6 : Int), s.2.1, s.2.2).1 < 0 by show (-6 : Int) < 0; decide), rngS_nil, List.append_nil]
    rw [e5] at r2
    exact r2
theorem cnt_rng (o : Int) (ho : 0 ≤ o) (S : List Sg) : cntO (rngS S) o = cntO S o ∧ mtsO (rngS S) o = mtsO S o := by
  induction S with
  | nil => exact ⟨rfl, rfl⟩
  | cons s S ih =>
    by_cases c : 0 ≤ s.1
    · rw [rngS_pos c]; simp only [cntO, mtsO, ih.1, ih.2]; exact ⟨trivial, trivial⟩
    · rw [rngS_neg (by omega)]; simp only [cntO, mtsO, ih.1, ih.2]; rw [if_neg (by omega), if_neg (by omega)]; omega
/-- the same by its place -/
theorem cut_at {L : List Sg} {n : Nat} (h : n < L.length) : L = L.take n ++ L[n] :: L.drop (n + 1) := by rw [← List.drop_eq_getElem_cons h, List.take_append_drop]
theorem lr_deln {L : List Sg} {n : Nat} (h : n < L.length) (hS : segW L) : segW (lrF L L[n].2.1 L[n].2.2 (-6)) ∧ rngS (lrF L L[n].2.1 L[n].2.2 (-6)) = rngS (L.take n) ++ rngS (L.drop (n + 1)) := lr_del (cut_at h) hS
theorem srt_some2 {L : List Sg} {o : Int} (h : srtF L o ≠ -6) : ∃ n : Nat, srtF L o = n ∧ ∃ hn : n < L.length, L[n].1 = o := by
  obtain ⟨-, s2⟩ := srt_ok L o
  obtain ⟨g1, g2, x, g3, g4, -⟩ := s2 h
  obtain ⟨k1, k2⟩ := List.getElem?_eq_some_iff.mp g3
  exact ⟨(srtF L o).toNat, by omega, k1, by rw [k2]; exact g4⟩
theorem srt_none {L : List Sg} {o : Int} (h : cntO L o = 0) : srtF L o = -6 := by
  by_cases c : srtF L o = -6
  · exact c
  · obtain ⟨n, -, hn, h2⟩ := srt_some2 c
    exact absurd h2 (cntO_pos.mpr h _ (List.getElem_mem hn))
/-- an owner loses the shortest range -/
def losR1 (t : St) (o : Int) : St := mkS (lrF t.L (gA_ t.L (srtF t.L o).toNat) (gB_ t.L (srtF t.L o).toNat) (-6)) t.set t.mon t.tax (fU t.los o (t.los o + (gB_ t.L (srtF t.L o).toNat - gA_ t.L (srtF t.L o).toNat))) t.D t.own t.day t.clo t.fee
def losR (t : St) (o : Int) : St := chgF (losR1 t o) o (taxV (losR1 t o) o - taxV t o)
def losRF : Nat → St → Int → St
  | 0, t, _ => t
  | k + 1, t, o => if t.mon o < jJ 0 then losRF k (losR t o) o else t
def dayRO (t : St) (o : Int) : St := losRF (cntO (chgF t o (taxV t o)).L o).toNat (chgF t o (taxV t o)) o
def dayRF (t : St) : Nat → St
  | 0 => t
  | n + 1 => dayRO (dayRF t n) n
def dayRP (t : St) : St := let u := dayRF t t.own.toNat; mkS u.L u.set u.mon u.tax u.los u.D u.own (u.day + 1) u.clo u.fee
theorem losRF_own : ∀ (k : Nat) (s : St) (o : Int), (losRF k s o).own = s.own ∧ (losRF k s o).set = s.set ∧ (losRF k s o).D = s.D ∧ (losRF k s o).day = s.day ∧ (losRF k s o).clo = s.clo ∧ (losRF k s o).fee = s.fee := by
  intro k
  induction k with
  | zero => intro s o; exact ⟨rfl, rfl, rfl, rfl, rfl, rfl⟩
  | succ k ih =>
    intro s o
    simp only [losRF]
    split
    · exact ih (losR s o) o
    · exact ⟨rfl, rfl, rfl, rfl, rfl, rfl⟩
theorem dayRO_own (s : St) (o : Int) : (dayRO s o).own = s.own ∧ (dayRO s o).set = s.set ∧ (dayRO s o).D = s.D ∧ (dayRO s o).day = s.day ∧ (dayRO s o).clo = s.clo ∧ (dayRO s o).fee = s.fee := losRF_own _ _ _
theorem dayRF_own (s : St) : ∀ n : Nat, (dayRF s n).own = s.own ∧ (dayRF s n).set = s.set ∧ (dayRF s n).D = s.D ∧ (dayRF s n).day = s.day ∧ (dayRF s n).clo = s.clo ∧ (dayRF s n).fee = s.fee := by
  intro n
  induction n with
  | zero => exact ⟨rfl, rfl, rfl, rfl, rfl, rfl⟩
  | succ n ih =>
    have h := dayRO_own (dayRF s n) n
    simp only [dayRF]
    exact ⟨h.1.trans ih.1, h.2.1.trans ih.2.1, h.2.2.1.trans ih.2.2.1, h.2.2.2.1.trans ih.2.2.2.1, h.2.2.2.2.1.trans ih.2.2.2.2.1, h.2.2.2.2.2.trans ih.2.2.2.2.2⟩
/-- what is lost and what is left, together -/
def consL (t u : St) : Prop := ∀ o : Int, 0 ≤ o → u.los o + mtsO u.L o = t.los o + mtsO t.L o ∧ t.los o ≤ u.los o
theorem consL.rf {t : St} : consL t t := fun o _ => ⟨rfl, Int.le_refl _⟩
theorem consL.tr {t u v : St} (h : consL t u) (k : consL u v) : consL t v := fun o ho => ⟨(k o ho).1.trans (h o ho).1, Int.le_trans (h o ho).2 (k o ho).2⟩
theorem losR_ok {t : St} {o : Int} (ho : 0 ≤ o) (hS : segW t.L) (h : srtF t.L o ≠ -6) : segW (losR t o).L ∧ cntO (losR t o).L o = cntO t.L o - 1 ∧ consL t (losR t o) := by
  obtain ⟨n, e, hn, h2⟩ := srt_some2 h
  have ea := gO_at hn
  have eL : (losR t o).L = lrF t.L t.L[n].2.1 t.L[n].2.2 (-6) := by
    show lrF t.L (gA_ t.L (srtF t.L o).toNat) (gB_ t.L (srtF t.L o).toNat) (-6) = _
    rw [e, Int.toNat_natCast, ea.2.1, ea.2.2]
  have elos : (losR t o).los = fU t.los o (t.los o + (t.L[n].2.2 - t.L[n].2.1)) := by
    show fU t.los o (t.los o + (gB_ t.L (srtF t.L o).toNat - gA_ t.L (srtF t.L o).toNat)) = _
    rw [e, Int.toNat_natCast, ea.2.1, ea.2.2]
  obtain ⟨d1, d2⟩ := lr_deln hn hS
  have cut : ∀ q : Int, cntO t.L q = cntO (t.L.take n) q + ((if t.L[n].1 = q then 1 else 0) + cntO (t.L.drop (n + 1)) q) ∧ mtsO t.L q = mtsO (t.L.take n) q + ((if t.L[n].1 = q then t.L[n].2.2 - t.L[n].2.1 else 0) + mtsO (t.L.drop (n + 1)) q) := by
    intro q
    have e1 := cntO_app (t.L.take n) (t.L[n] :: t.L.drop (n + 1)) q
    have e2 := mtsO_app (t.L.take n) (t.L[n] :: t.L.drop (n + 1)) q
    rw [← cut_at hn] at e1 e2
    exact ⟨e1, e2⟩
  have new : ∀ q : Int, 0 ≤ q → cntO (losR t o).L q = cntO (t.L.take n) q + cntO (t.L.drop (n + 1)) q ∧ mtsO (losR t o).L q = mtsO (t.L.take n) q + mtsO (t.L.drop (n + 1)) q := by
    intro q hq
    rw [← (cnt_rng q hq (losR t o).L).1, ← (cnt_rng q hq (losR t o).L).2, eL, d2, cntO_app, mtsO_app, (cnt_rng q hq _).1, (cnt_rng q hq _).2, (cnt_rng q hq _).1, (cnt_rng q hq _).2]
    exact ⟨rfl, rfl⟩
  have hpos : 0 < t.L[n].2.2 - t.L[n].2.1 := by
    have := chn_at 0 hS.2.1 n hn
    omega
  refine ⟨by rw [eL]; exact d1, ?_, fun q hq => ?_⟩
  · rw [(new o ho).1, (cut o).1, if_pos h2]; omega
  · rw [(new q hq).2, (cut q).2, elos]
    by_cases c : q = o
    · subst c
      rw [fU_eq, if_pos h2]; omega
    · rw [fU_ne c, if_neg (by omega)]; omega
theorem losRF_ok {o : Int} (ho : 0 ≤ o) : ∀ (k : Nat) (t : St), segW t.L → cntO t.L o = k → segW (losRF k t o).L ∧ consL t (losRF k t o) := by
  intro k
  induction k with
  | zero => intro t h _; exact ⟨h, consL.rf⟩
  | succ k ih =>
    intro t h hc
    simp only [losRF]
    split
    · obtain ⟨g1, g2, g3⟩ := losR_ok ho h (fun q => by have := cntO_pos.mp ((srt_ok t.L o).1 q); omega)
      obtain ⟨i1, i2⟩ := ih (losR t o) g1 (by omega)
      exact ⟨i1, g3.tr i2⟩
    · exact ⟨h, consL.rf⟩
theorem dayRO_ok {t : St} {o : Int} (ho : 0 ≤ o) (h : segW t.L) : segW (dayRO t o).L ∧ consL t (dayRO t o) := by
  have c : cntO (chgF t o (taxV t o)).L o = ((cntO (chgF t o (taxV t o)).L o).toNat : Nat) := by
    have := cnt_gb (chgF t o (taxV t o)).L o
    omega
  exact losRF_ok ho _ (chgF t o (taxV t o)) h c
theorem dayRF_ok {t : St} (h : segW t.L) : ∀ n : Nat, segW (dayRF t n).L ∧ consL t (dayRF t n) := by
  intro n
  induction n with
  | zero => exact ⟨h, consL.rf⟩
  | succ n ih =>
    obtain ⟨g1, g2⟩ := dayRO_ok (o := n) (by omega) ih.1
    exact ⟨g1, ih.2.tr g2⟩
theorem dayRP_ok {t : St} (h : segW t.L) : segW (dayRP t).L ∧ consL t (dayRP t) := dayRF_ok h _
theorem jJ_ns (x : Int64) (a : Int) : x - jJ a = x + jJ (-a) := by
  rw [← jJ_of x, jJ_sub, jJ_add]
  congr 1
