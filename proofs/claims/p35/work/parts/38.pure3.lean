/-! questions about a street in order -/
theorem hld_none {m : Int} : ∀ L : List Sg, (∀ s ∈ L, m < s.2.1 ∨ s.2.2 ≤ m) → hldF L m = -6 := by
  intro L
  induction L with
  | nil => intro _; rfl
  | cons s t ih =>
    intro h
    have h1 := h s List.mem_cons_self
    show (if s.2.1 ≤ m ∧ m < s.2.2 then s.1 else hldF t m) = -6
    rw [if_neg (by omega)]
    exact ih fun x hx => h x (List.mem_cons_of_mem _ hx)
theorem hld_at {m : Int} : ∀ L : List Sg, srtL L → ∀ s ∈ L, s.2.1 ≤ m → m < s.2.2 → hldF L m = s.1 := by
  intro L
  induction L with
  | nil => intro _ s hs; exact absurd hs List.not_mem_nil
  | cons t L ih =>
    intro hL s hs h1 h2
    obtain ⟨p1, p2⟩ := List.pairwise_cons.mp hL
    show (if t.2.1 ≤ m ∧ m < t.2.2 then t.1 else hldF L m) = s.1
    rcases List.mem_cons.mp hs with q | q
    · rw [← q, if_pos ⟨h1, h2⟩]
    · have := p1 s q
      rw [if_neg (by omega)]
      exact ih p2 s q h1 h2
theorem gapP_s {L : List Sg} {i : Nat} (h : i < L.length) : gapP L (i + 1) = L[i].2.2 := by
  simp only [gapP]
  rw [List.getElem?_eq_getElem h]
theorem gapE_s {L : List Sg} {i : Nat} (h : i < L.length) : gapE L i = L[i].2.1 := by
  unfold gapE
  rw [List.getElem?_eq_getElem h]
theorem gapE_e {L : List Sg} {i : Nat} (h : L.length ≤ i) : gapE L i = 10000 := by
  unfold gapE
  rw [List.getElem?_eq_none h]
theorem gap_out {L : List Sg} (h : canL L) (ho : ∀ s ∈ L, s.2.1 < s.2.2) {k : Nat} (hk : k ≤ L.length) : ∀ s ∈ L, s.2.2 ≤ gapP L k ∨ gapE L k ≤ s.2.1 := by
  intro s hs
  obtain ⟨j, hj, rfl⟩ := List.getElem_of_mem hs
  by_cases hjk : j < k
  · left
    obtain ⟨i, rfl⟩ : ∃ i, k = i + 1 := ⟨k - 1, by omega⟩
    rw [gapP_s (show i < L.length by omega)]
    by_cases e : j = i
    · subst e; exact Int.le_refl _
    · have := can_le h ho (show j < i by omega) (by omega)
      have := ho L[i] (List.getElem_mem _)
      omega
  · right
    rw [gapE_s (show k < L.length by omega)]
    by_cases e : k = j
    · subst e; exact Int.le_refl _
    · have := can_le h ho (show k < j by omega) hj
      have := ho L[k] (List.getElem_mem _)
      omega
theorem gap_le {L : List Sg} (h : canL L) (ho : ∀ s ∈ L, okS s) {k : Nat} (hk : k ≤ L.length) : gapP L k ≤ gapE L k := by
  cases k with
  | zero =>
    show 0 ≤ gapE L 0
    by_cases h0 : 0 < L.length
    · rw [gapE_s h0]; exact (ho L[0] (List.getElem_mem _)).2.2.1
    · rw [gapE_e (by omega)]; decide
  | succ i =>
    rw [gapP_s (show i < L.length by omega)]
    by_cases h0 : i + 1 < L.length
    · rw [gapE_s h0]; exact (h i h0).1
    · rw [gapE_e (by omega)]; exact (ho L[i] (List.getElem_mem _)).2.2.2.2
theorem hld_gap {L : List Sg} (h : canL L) (ho : ∀ s ∈ L, s.2.1 < s.2.2) {k : Nat} (hk : k ≤ L.length) {m : Int} (h1 : gapP L k ≤ m) (h2 : m < gapE L k) : hldF L m = -6 :=
  hld_none L fun s hs => by have := gap_out h ho hk s hs; omega
/-- all meters that have an owner -/
def mtA : List Sg → Int
  | [] => 0
  | s :: t => (s.2.2 - s.2.1) + mtA t
theorem allM_mtA : ∀ L : List Sg, (∀ s ∈ L, 0 ≤ s.1 ∧ s.1 < 10) → allM L = mtA L := by
  intro L
  induction L with
  | nil => intro _; rfl
  | cons s t ih =>
    intro h
    rw [allM_cons s t (h s List.mem_cons_self), ih fun x hx => h x (List.mem_cons_of_mem _ hx)]
    rfl
theorem mtA_b {p : Int} : ∀ L : List Sg, srtL L → (∀ s ∈ L, p ≤ s.2.1 ∧ s.2.1 < s.2.2 ∧ s.2.2 ≤ 10000) → p ≤ 10000 → 0 ≤ mtA L ∧ mtA L ≤ 10000 - p := by
  intro L
  induction L generalizing p with
  | nil => intro _ _ h; exact ⟨Int.le_refl 0, show (0 : Int) ≤ 10000 - p by omega⟩
  | cons s t ih =>
    intro hL h hp
    obtain ⟨p1, p2⟩ := List.pairwise_cons.mp hL
    have h1 := h s List.mem_cons_self
    have h2 := ih (p := s.2.2) p2 (fun x hx => ⟨p1 x hx, (h x (List.mem_cons_of_mem _ hx)).2⟩) h1.2.2
    show 0 ≤ (s.2.2 - s.2.1) + mtA t ∧ (s.2.2 - s.2.1) + mtA t ≤ 10000 - p
    omega
theorem mts_mtA (o : Int) : ∀ L : List Sg, (∀ s ∈ L, s.2.1 < s.2.2) → 0 ≤ mtsO L o ∧ mtsO L o ≤ mtA L := by
  intro L
  induction L with
  | nil => intro _; exact ⟨Int.le_refl 0, Int.le_refl 0⟩
  | cons s t ih =>
    intro h
    have h1 := h s List.mem_cons_self
    have h2 := ih fun x hx => h x (List.mem_cons_of_mem _ hx)
    simp only [mtsO, mtA]
    split <;> omega
/-! holes -/
theorem lgh_spec : ∀ (M : List (Int × Int)) (c : Int), (c ≤ M.foldl lghS c ∧ ∀ g ∈ M, g.2 ≤ M.foldl lghS c) ∧ (M.foldl lghS c = c ∨ ∃ g ∈ M, g.2 = M.foldl lghS c) := by
  intro M
  induction M with
  | nil => intro c; exact ⟨⟨Int.le_refl _, fun g h => absurd h List.not_mem_nil⟩, Or.inl rfl⟩
  | cons g M ih =>
    intro c
    rw [List.foldl_cons]
    obtain ⟨⟨h1, h2⟩, h3⟩ := ih (lghS c g)
    have h4 : c ≤ lghS c g ∧ g.2 ≤ lghS c g ∧ (lghS c g = c ∨ lghS c g = g.2) := by
      unfold lghS
      split <;> omega
    refine ⟨⟨by omega, fun x hx => ?_⟩, ?_⟩
    · rcases List.mem_cons.mp hx with q | q
      · rw [q]; omega
      · exact h2 x q
    · rcases h3 with q | ⟨x, hx, q⟩
      · rcases h4.2.2 with r | r
        · exact Or.inl (q.trans r)
        · exact Or.inr ⟨g, List.mem_cons_self, (q.trans r).symm⟩
      · exact Or.inr ⟨x, List.mem_cons_of_mem _ hx, q⟩
theorem lgh_b {L : List Sg} (h : strW L) : 0 ≤ lghF L ∧ lghF L ≤ 10000 := by
  obtain ⟨⟨h1, -⟩, h2⟩ := lgh_spec (gapL 0 L) 0
  refine ⟨h1, ?_⟩
  rcases h2 with q | ⟨g, hg, q⟩
  · show (gapL 0 L).foldl lghS 0 ≤ 10000; omega
  · obtain ⟨i, hi, rfl⟩ := List.getElem_of_mem hg
    rw [gapL_len] at hi
    have h3 := gapL_drop (L := L) (i := i) (by omega)
    have h4 : (gapL 0 L)[i] = (gapP L i, gapE L i - gapP L i) := by
      rw [List.drop_eq_getElem_cons (by rw [gapL_len]; omega)] at h3
      exact (List.cons.inj h3).1
    have h5 := gapP_b h i
    have h6 := gapE_b h i
    rw [h4] at q
    show (gapL 0 L).foldl lghS 0 ≤ 10000
    have q : gapE L i - gapP L i = _ := q
    omega
theorem gfr_non {n h : Int} : ∀ (M : List (Int × Int)) (i b bl : Int), (∀ g ∈ M, g.2 < n) → (M.foldl (gfrS n h) (i, b, bl)).2.1 = b := by
  intro M
  induction M with
  | nil => intro i b bl _; rfl
  | cons g M ih =>
    intro i b bl hM
    have h1 := hM g List.mem_cons_self
    rw [List.foldl_cons, show gfrS n h (i, b, bl) g = (i + 1, b, bl) from if_neg (by omega)]
    exact ih _ _ _ fun x hx => hM x (List.mem_cons_of_mem _ hx)
theorem gfr_keep {n : Int} : ∀ (M : List (Int × Int)) (i b bl : Int), b ≠ -6 → (M.foldl (gfrS n 0) (i, b, bl)).2.1 = b := by
  intro M
  induction M with
  | nil => intro i b bl _; rfl
  | cons g M ih =>
    intro i b bl hb
    rw [List.foldl_cons, show gfrS n 0 (i, b, bl) g = (i + 1, b, bl) from if_neg (by show ¬ (n ≤ g.2 ∧ (b = -6 ∨ (0 : Int) = 1 ∧ g.2 < bl ∨ (0 : Int) = 2 ∧ bl < g.2)); omega)]
    exact ih _ _ _ hb
theorem gfr_any {n : Int} : ∀ (M : List (Int × Int)) (i bl : Int), 0 ≤ i → (∃ g ∈ M, n ≤ g.2) → (M.foldl (gfrS n 0) (i, -6, bl)).2.1 ≠ -6 := by
  intro M
  induction M with
  | nil => intro i bl _ h; obtain ⟨g, hg, -⟩ := h; exact absurd hg List.not_mem_nil
  | cons g M ih =>
    intro i bl hi h
    rw [List.foldl_cons]
    by_cases c : n ≤ g.2
    · rw [show gfrS n 0 (i, -6, bl) g = (i + 1, i, g.2) from if_pos ⟨c, Or.inl rfl⟩, gfr_keep _ _ _ _ (by omega)]
      omega
    · rw [show gfrS n 0 (i, -6, bl) g = (i + 1, -6, bl) from if_neg (fun q => c q.1)]
      refine ih _ _ (by omega) ?_
      obtain ⟨x, hx, q⟩ := h
      rcases List.mem_cons.mp hx with r | r
      · rw [r] at q; exact absurd q c
      · exact ⟨x, r, q⟩
/-- the first hole that is long enough -/
def fhoV (L : List Sg) (n : Int) : Int := if gfrF L n 0 = -6 then -6 else gapP L (gfrF L n 0).toNat
theorem gfr_hit {L : List Sg} {n : Int} : ∀ (j k : Nat), k + j = L.length + 1 → (((gapL 0 L).drop k).foldl (gfrS n 0) ((k : Int), -6, 0)).2.1 = -6 ∨ ∃ i : Nat, i ≤ L.length ∧ (((gapL 0 L).drop k).foldl (gfrS n 0) ((k : Int), -6, 0)).2.1 = (i : Int) ∧ n ≤ gapE L i - gapP L i := by
  intro j
  induction j with
  | zero =>
    intro k hk
    rw [gap_foldE _ (by omega)]
    exact Or.inl rfl
  | succ j ih =>
    intro k hk
    rw [gap_fold _ (show k ≤ L.length by omega)]
    by_cases c : n ≤ gapE L k - gapP L k
    · rw [show gfrS n 0 ((k : Int), -6, 0) (gapP L k, gapE L k - gapP L k) = ((k : Int) + 1, (k : Int), gapE L k - gapP L k) from if_pos ⟨c, Or.inl rfl⟩, gfr_keep _ _ _ _ (by omega)]
      exact Or.inr ⟨k, by omega, rfl, c⟩
    · rw [show gfrS n 0 ((k : Int), -6, 0) (gapP L k, gapE L k - gapP L k) = (((k + 1 : Nat) : Int), -6, 0) from if_neg (fun q => c q.1)]
      exact ih (k + 1) (by omega)
theorem fho_spec {L : List Sg} (hW : strW L) (h : canL L) (n : Int) (hn : 1 ≤ n) : (fhoV L n = -6 ∧ gfrF L n 0 = -6) ∨ (gfrF L n 0 ≠ -6 ∧ 0 ≤ fhoV L n ∧ fhoV L n + n ≤ 10000 ∧ fhoV L n = gapP L (gfrF L n 0).toNat ∧ ∀ s ∈ L, s.2.2 ≤ fhoV L n ∨ fhoV L n + n ≤ s.2.1) := by
  have h1 := gfr_hit (L := L) (n := n) (L.length + 1) 0 (by omega)
  have h1 : gfrF L n 0 = -6 ∨ ∃ i : Nat, i ≤ L.length ∧ gfrF L n 0 = (i : Int) ∧ n ≤ gapE L i - gapP L i := h1
  unfold fhoV
  rcases h1 with h1 | ⟨i, hi, h2, h3⟩
  · exact Or.inl ⟨if_pos h1, h1⟩
  · have hne : gfrF L n 0 ≠ -6 := by omega
    rw [if_neg hne]
    have e : (gfrF L n 0).toNat = i := by omega
    rw [e]
    have hp := gapP_b hW i
    have he := gapE_b hW i
    refine Or.inr ⟨hne, by omega, by omega, rfl, fun s hs => ?_⟩
    have := gap_out h (fun s hs => (hW.2 s hs).2.2.2.1) hi s hs
    omega
theorem mtw_no {L : List Sg} {o a n : Int} (h : ∀ s ∈ L, s.2.2 ≤ a ∨ a + n ≤ s.2.1) (hn : 0 ≤ n) : mtwF L o a n = 0 := by
  unfold mtwF
  have : ∀ M : List Sg, (∀ s ∈ M, s.2.2 ≤ a ∨ a + n ≤ s.2.1) → ∀ c : Int, M.foldl (mtwS o a n) c = c := by
    intro M
    induction M with
    | nil => intro _ c; rfl
    | cons s M ih =>
      intro hM c
      have h1 := hM s List.mem_cons_self
      have e : mtwS o a n c s = c := by
        unfold mtwS ovF
        split
        · split
          · omega
          · split <;> split <;> omega
        · rfl
      rw [List.foldl_cons, e]
      exact ih (fun x hx => hM x (List.mem_cons_of_mem _ hx)) c
  exact this L h 0
/-! shares -/
theorem bqL_up {t : Int} : ∀ (k e : Nat) (c : Int), 0 < c → k ≤ e → t ≤ c * 2 ^ k → t ≤ (bqL t e c).1 ∧ e - k ≤ (bqL t e c).2 := by
  intro k
  induction k with
  | zero =>
    intro e c h0 _ h
    rw [Int.pow_zero, Int.mul_one] at h
    cases e with
    | zero => exact ⟨h, Nat.le_refl _⟩
    | succ e =>
      unfold bqL
      rw [if_neg (by omega)]
      exact ⟨h, Nat.le_refl _⟩
  | succ k ih =>
    intro e c h0 hk h
    obtain ⟨f, rfl⟩ : ∃ f, e = f + 1 := ⟨e - 1, by omega⟩
    unfold bqL
    split
    · have h2 : t ≤ c * 2 * 2 ^ k := by
        rw [Int.pow_succ] at h
        rw [Int.mul_assoc, Int.mul_comm 2]
        exact h
      have := ih f (c * 2) (by omega) (by omega) h2
      omega
    · exact ⟨by show t ≤ c; omega, by show f + 1 - (k + 1) ≤ f + 1; omega⟩
theorem bqL_mono {t : Int} : ∀ (e : Nat) (c d : Int), 0 < c → c < d → d < 2 * t → (bqL t e c).2 < (bqL t e d).2 ∨ ((bqL t e c).2 = (bqL t e d).2 ∧ (bqL t e c).1 < (bqL t e d).1) := by
  intro e
  induction e with
  | zero => intro c d h0 h1 h2; exact Or.inr ⟨rfl, h1⟩
  | succ e ih =>
    intro c d h0 h1 h2
    unfold bqL
    by_cases c1 : c < t
    · rw [if_pos c1]
      by_cases c2 : d < t
      · rw [if_pos c2]
        exact ih (c * 2) (d * 2) (by omega) (by omega) (by omega)
      · rw [if_neg c2]
        left
        have := (bqL_b (t := t) e (c * 2) (by omega) (by omega)).2.2
        show (bqL t e (c * 2)).2 < e + 1
        omega
    · rw [if_neg c1, if_neg (by omega)]
      exact Or.inr ⟨rfl, h1⟩
def bqV (t : Int) (p : Int × Nat) : Int := ((p.2 : Int) - 1) * 8388608 + (2 * (p.1 * 8388608) + t) / (2 * t)
theorem bqV_q {t c : Int} (ht : 0 < t) (ht2 : t ≤ 10000) (h1 : t ≤ c) (h2 : c < 2 * t) : 8388608 ≤ (2 * (c * 8388608) + t) / (2 * t) ∧ (2 * (c * 8388608) + t) / (2 * t) < 16777216 := by
  constructor
  · rw [Int.le_ediv_iff_mul_le (by omega)]
    omega
  · rw [Int.ediv_lt_iff_lt_mul (by omega)]
    omega
theorem bqV_mono {t : Int} {p q : Int × Nat} (ht : 0 < t) (ht2 : t ≤ 10000) (hp : t ≤ p.1 ∧ p.1 < 2 * t) (hq : t ≤ q.1 ∧ q.1 < 2 * t) (h : p.2 < q.2 ∨ (p.2 = q.2 ∧ p.1 < q.1)) : bqV t p < bqV t q := by
  unfold bqV
  have a := bqV_q ht ht2 hp.1 hp.2
  have b := bqV_q ht ht2 hq.1 hq.2
  rcases h with h | ⟨h, h2⟩
  · omega
  · rw [h]
    have k1 : (2 * (p.1 * 8388608) + t) / (2 * t) + 1 ≤ (2 * (q.1 * 8388608) + t) / (2 * t) := by
      have e : (2 * (p.1 * 8388608) + t + 1 * (2 * t)) / (2 * t) = (2 * (p.1 * 8388608) + t) / (2 * t) + 1 := Int.add_mul_ediv_right _ _ (by omega)
      rw [← e]
      exact Int.ediv_le_ediv (by omega) (by omega)
    omega
theorem bqF_v {m t : Int} (h : 0 < m ∧ 0 < t ∧ m ≤ t) : bqF m t = bqV t (bqL t 127 m) := if_pos h
theorem bqL_ok {m t : Int} (h : 0 < m) (h2 : m ≤ t) (ht : t ≤ 10000) : (t ≤ (bqL t 127 m).1 ∧ (bqL t 127 m).1 < 2 * t) ∧ 113 ≤ (bqL t 127 m).2 := by
  have a := bqL_up (t := t) 14 127 m h (by decide) (by rw [show ((2 : Int) ^ 14) = 16384 by decide]; omega)
  have b := bqL_b (t := t) 127 m h (by omega)
  exact ⟨⟨a.1, b.2.1⟩, a.2⟩
theorem bqF_mono {m n t : Int} (h0 : 0 ≤ m) (h1 : m < n) (h2 : n ≤ t) (ht : t ≤ 10000) : bqF m t < bqF n t := by
  have k2 := bqL_ok (m := n) (by omega) h2 ht
  have v2 := bqV_q (t := t) (by omega) ht k2.1.1 k2.1.2
  by_cases c : 0 < m
  · have k1 := bqL_ok (m := m) c (by omega) ht
    rw [bqF_v ⟨c, by omega, by omega⟩, bqF_v ⟨by omega, by omega, h2⟩]
    exact bqV_mono (by omega) ht k1.1 k2.1 (bqL_mono 127 m n c h1 (by omega))
  · rw [show bqF m t = 0 from if_neg (fun q => c q.1), bqF_v ⟨by omega, by omega, h2⟩]
    unfold bqV
    omega
theorem bqF_all {t : Int} (h : 0 < t) : bqF t t = 1065353216 := by
  rw [bqF_v ⟨h, h, Int.le_refl _⟩]
  have e : bqL t 127 t = (t, 127) := by
    rw [show (127 : Nat) = 126 + 1 from rfl]
    unfold bqL
    rw [if_neg (by omega)]
  rw [e]
  show (((127 : Nat) : Int) - 1) * 8388608 + (2 * (t * 8388608) + t) / (2 * t) = 1065353216
  have e2 : (2 * (t * 8388608) + t) / (2 * t) = 8388608 := by
    have : 2 * (t * 8388608) + t = t + 8388608 * (2 * t) := by omega
    rw [this, Int.add_mul_ediv_right _ _ (by omega), Int.ediv_eq_zero_of_lt (by omega) (by omega)]
    rfl
  rw [e2]
  decide
theorem bqF_b {m t : Int} (h0 : 0 ≤ m) (h2 : m ≤ t) (ht : t ≤ 10000) : 0 ≤ bqF m t ∧ bqF m t ≤ 1065353216 := by
  by_cases c : 0 < m
  · have h1 := bqF_mono (m := 0) (n := m) (t := t) (by omega) c h2 ht
    have e0 : bqF 0 t = 0 := if_neg (fun q => absurd q.1 (by omega))
    rw [e0] at h1
    by_cases d : m = t
    · rw [d, bqF_all (by omega)]; decide
    · have h3 := bqF_mono (m := m) (n := t) (t := t) h0 (by omega) (by omega) ht
      rw [bqF_all (by omega)] at h3
      omega
  · rw [show bqF m t = 0 from if_neg (fun q => c q.1)]
    decide
