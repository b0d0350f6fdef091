/-! The reference: changes of pieces, transfers -/
theorem mu_row {G : xG} {w w1 : Wd} {m : Nat} {it : Int} {t : St} {hs : List St} {R : List Sg} {sg mn pl wr : Int} (hn : nowA G w m t) (hm : hmA G w m hs) (q1 : w1 m = some (hdV m hs.length sg it R.length mn pl wr)) (q2 : rwA G w1 m R) (q3 : Fr2 m (m + 1) (m + 12) (m + 14) w w1) : muA G w1 m it t hs sg mn pl wr :=
  ⟨R, q1, hn.kpf (q3 _ (by omega) (by omega)) (q3 _ (by omega) (by omega)), hm.kpf (q3 _ (by omega) (by omega)) (q3 _ (by omega) (by omega)), q2⟩
/-- after the row is taken -/
theorem mu_take {G : xG} {w w1 : Wd} {m : Nat} {it : Int} {t : St} {hs : List St} {R : List Sg} {sg mn pl wr : Int} {g : Int → Int64} (hh : w m = some (hdV m hs.length sg it R.length mn pl wr)) (hn2 : w (m + 2) = some (aJ G 10 g)) (hg : eqR 10 g t.mon) (hm : hmA G w m hs) (hr : rwA G w m R) (q : ∃ f, w1 (m + 1) = some (aI G 400 f) ∧ nowP f (stL t R)) (k : Fr (m + 1) (m + 2) w w1) : muA G w1 m it (stL t R) hs sg mn pl wr := by
  obtain ⟨f, q1, q2⟩ := q
  exact ⟨R, (k _ (by omega)).trans hh, ⟨f, g, q1, q2, (k _ (by omega)).trans hn2, hg⟩, hm.kpf (k _ (by omega)) (k _ (by omega)), hr.kpf (k _ (by omega)) (k _ (by omega))⟩
theorem p_mrk {G : xG} {w w1 : Wd} {z m : Nat} {it y : Int} {t : St} {hs : List St} {sg mn pl wr : Int} {r : Int × St} (e : r = (y, t)) (hy : y < 0) (h : muA G w1 m it t hs sg mn pl wr) (k : Fm m w w1) : mrP G w z m it t hs sg mn pl wr r (some (.int (iI y))) w1 z := by
  subst e
  exact p_qI ⟨rfl, by unfold hisR; rw [if_pos hy]; exact h, k⟩
abbrev mayE (t : St) (o n : Int) : Prop := n = 0 ∨ mtsO t.L o + n ≤ t.set 4
def gvR (t : St) (o f n : Int) : Int × St := if 0 ≤ o ∧ o < t.own then (if isP f n then (if rnF (lrF t.L f (f + n) o) ≤ 40 then (if mayE t o (n - mtwF t.L o f n) then (rnF (lrF t.L f (f + n) o), stL t (lrF t.L f (f + n) o)) else (-5, t)) else (-4, t)) else (-2, t)) else (-1, t)
theorem ovG_b {s : Sg} {a n : Int} (h : okG s) (ha : 0 ≤ a ∧ 0 ≤ n) : 0 ≤ ovF s a n ∧ ovF s a n ≤ 10000 := by
  obtain ⟨-, h1, h2, h3⟩ := h
  unfold ovF
  by_cases c1 : a + n < s.2.2
  · rw [if_pos c1]
    by_cases c2 : s.2.1 < a
    · rw [if_pos c2]; split <;> omega
    · rw [if_neg c2]; split <;> omega
  · rw [if_neg c1]
    by_cases c2 : s.2.1 < a
    · rw [if_pos c2]; split <;> omega
    · rw [if_neg c2]; split <;> omega
theorem mtw_gb {L : List Sg} (o a n : Int) (h : ∀ s ∈ L, okG s) (ha : 0 ≤ a ∧ 0 ≤ n) : 0 ≤ mtwF L o a n ∧ mtwF L o a n ≤ 10000 * L.length := by
  have gen : ∀ (M : List Sg) (c : Int), (∀ x ∈ M, okG x) → 0 ≤ c → 0 ≤ M.foldl (mtwS o a n) c ∧ M.foldl (mtwS o a n) c ≤ c + 10000 * M.length := by
    intro M
    induction M with
    | nil => intro c _ hc; simp only [List.foldl_nil, List.length_nil]; omega
    | cons x M ih =>
      intro c hx hc
      have h1 := ovG_b (hx x List.mem_cons_self) ha
      have h5 : 0 ≤ mtwS o a n c x ∧ mtwS o a n c x ≤ c + 10000 := by unfold mtwS; split <;> omega
      have := ih (mtwS o a n c x) (fun y hy => hx y (List.mem_cons_of_mem _ hy)) h5.1
      simp only [List.foldl_cons, List.length_cons]
      omega
  have := gen L 0 h (by omega)
  unfold mtwF
  omega
theorem lr_W {f : Int → Int} {t : St} {a b o : Int} (hp : nowP f t) (ho : okO o) (ha : 0 ≤ a ∧ a < b ∧ b ≤ 10000) (h : rnF (lrF t.L a b o) ≤ 40) : segW (lrF t.L a b o) := by
  obtain ⟨h1, h2⟩ := lrF_cov (np_w hp).2.1 ho ha
  exact segW_of h1 h2 h
