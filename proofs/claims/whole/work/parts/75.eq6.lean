/-! class and reference: exchange -/
def rkP (L : List Sg) (k : Nat) : Nat := (rngS (L.take k)).length
theorem rk_succ {L : List Sg} {k : Nat} (h : k < L.length) : rkP L (k + 1) = rkP L k + (if 0 ≤ L[k].1 then 1 else 0) := by
  unfold rkP
  rw [List.take_succ_eq_append_getElem h, rngS_app, List.length_append]
  congr 1
  by_cases c : 0 ≤ L[k].1
  · rw [rngS_pos c, if_pos c]; rfl
  · rw [rngS_neg (by omega), if_neg c]; rfl
theorem rk_mono {L : List Sg} : ∀ (d k : Nat), k + d ≤ L.length → rkP L k ≤ rkP L (k + d) := by
  intro d
  induction d with
  | zero => intro k _; exact Nat.le_refl _
  | succ d ih =>
    intro k h
    have := ih k (by omega)
    have h2 := rk_succ (L := L) (k := k + d) (by omega)
    rw [show k + (d + 1) = k + d + 1 by omega, h2]
    omega
theorem rk_lt {L : List Sg} {k j : Nat} (hk : k < L.length) (hr : 0 ≤ L[k].1) (hkj : k < j) (hj : j ≤ L.length) : rkP L k < rkP L j := by
  have h1 := rk_succ hk
  rw [if_pos hr] at h1
  have h2 := rk_mono (L := L) (j - (k + 1)) (k + 1) (by omega)
  rw [show k + 1 + (j - (k + 1)) = j by omega] at h2
  omega
theorem rk_inj {L : List Sg} {k j : Nat} (hk : k < L.length) (hj : j < L.length) (hr : 0 ≤ L[k].1) (hr2 : 0 ≤ L[j].1) (h : rkP L k = rkP L j) : k = j := by
  rcases Nat.lt_trichotomy k j with c | c | c
  · have := rk_lt hk hr c (Nat.le_of_lt hj); omega
  · exact c
  · have := rk_lt hj hr2 c (Nat.le_of_lt hk); omega
theorem rk_at {L : List Sg} {k : Nat} (hk : k < L.length) (hr : 0 ≤ L[k].1) : (rngS L)[rkP L k]? = some L[k] := by
  have hx : (rngS L) = rngS (L.take k) ++ L[k] :: rngS (L.drop (k + 1)) := by
    have := cut_at hk
    rw [← rngS_pos hr, ← rngS_app, ← this]
  unfold rkP
  rw [hx, List.getElem?_append_right (Nat.le_refl _), Nat.sub_self]
  rfl
/-- the piece of a range -/
theorem rk_pie {L : List Sg} {r : Nat} (h : (r : Int) < rnF L) : ∃ p : Nat, pieF L 0 0 r = p ∧ ∃ hp : p < L.length, 0 ≤ L[p].1 ∧ rkP L p = r := by
  obtain ⟨p, e1, hp, e2, e3, -⟩ := pie_rk h
  exact ⟨p, e1, hp, e2, e3⟩
theorem rk_b {L : List Sg} {k : Nat} (hk : k < L.length) (hr : 0 ≤ L[k].1) : (rkP L k : Int) < rnF L := by
  have := rk_at hk hr
  have h2 := (List.getElem?_eq_some_iff.mp this).1
  have := rngS_len L
  omega
theorem chn_next {L : List Sg} (h : chn 0 L) {k j : Nat} (hk : k < L.length) (hj : j < L.length) (hkj : k < j) (e : L[k].2.2 = L[j].2.1) : j = k + 1 := by
  by_cases c : j = k + 1
  · exact c
  · exfalso
    have h1 := (chn_at 0 h k hk).2.2.2.2.1 (by omega)
    have gen : ∀ (d i : Nat) (hi : i + d < L.length), L[i].2.1 ≤ L[i + d].2.1 := by
      intro d
      induction d with
      | zero => intro i hi; exact Int.le_refl _
      | succ d ih =>
        intro i hi
        have h2 := ih i (by omega)
        have h3 := chn_at 0 h (i + d) (by omega)
        have h4 := h3.2.2.2.2.1 (by omega)
        have h5 := h3.2.1
        have e9 : L[i + (d + 1)] = L[i + d + 1] := rfl
        rw [e9, ← h4]
        omega
    have h6 := gen (j - (k + 2)) (k + 2) (by omega)
    have h7 := (chn_at 0 h (k + 1) (by omega)).2.1
    have h8 := (chn_at 0 h (k + 1) (by omega)).2.2.2.2.1 (by omega)
    have e7 : L[k + 2 + (j - (k + 2))]'(by omega) = L[j] := by congr 1; omega
    rw [e7] at h6
    have e8 : L[k + 1 + 1]'(by omega) = L[k + 2]'(by omega) := rfl
    rw [e8] at h8
    omega
theorem haf_v {L : List Sg} {p q k : Nat} (hp : p < L.length) (hq : q < L.length) (hpr : 0 ≤ L[p].1) (hqr : 0 ≤ L[q].1) (hk : k < L.length) (hkr : 0 ≤ L[k].1) : hafF (rngS L) (rkP L k) (rkP L p) (rkP L q) = rbV L p q k := by
  unfold hafF rbV
  have e1 := (gO_some (rk_at hp hpr)).1
  have e2 := (gO_some (rk_at hq hqr)).1
  have e3 := (gO_some (rk_at hk hkr)).1
  have k1 := (gO_at hp).1
  have k2 := (gO_at hq).1
  have k3 := (gO_at hk).1
  rw [e1, e2, e3, k1, k2, k3]
  by_cases c1 : k = p
  · subst c1; rw [if_pos rfl, if_pos rfl]
  · rw [if_neg c1, if_neg (fun z => c1 (rk_inj hk hp hkr hpr z))]
    by_cases c2 : k = q
    · subst c2; rw [if_pos rfl, if_pos rfl]
    · rw [if_neg c2, if_neg (fun z => c2 (rk_inj hk hq hkr hqr z))]
theorem rbV_pos {L : List Sg} {p q k : Nat} (hp : p < L.length) (hq : q < L.length) (hpr : 0 ≤ L[p].1) (hqr : 0 ≤ L[q].1) (hk : k < L.length) : 0 ≤ rbV L p q k ↔ 0 ≤ L[k].1 := by
  unfold rbV
  have k1 := (gO_at hp).1
  have k2 := (gO_at hq).1
  have k3 := (gO_at hk).1
  by_cases c1 : k = p
  · subst c1; rw [if_pos rfl, k2]; omega
  · rw [if_neg c1]
    by_cases c2 : k = q
    · subst c2; rw [if_pos rfl, k1]; omega
    · rw [if_neg c2, k3]
/-- the border behind piece k joins -/
abbrev tjB (L : List Sg) (p q k : Nat) : Prop := k + 1 < L.length ∧ rbV L p q k = rbV L p q (k + 1) ∧ 0 ≤ rbV L p q k
theorem jat_T {L : List Sg} (hS : segW L) {p q k : Nat} (hp : p < L.length) (hq : q < L.length) (hpr : 0 ≤ L[p].1) (hqr : 0 ≤ L[q].1) (hk : k < L.length) (hkr : 0 ≤ L[k].1) : jatF (rngS L) (rkP L k : Nat) (rkP L p) (rkP L q) = if tjB L p q k then 1 else 0 := by
  have hlen := rngS_len L
  have hv := haf_v hp hq hpr hqr hk hkr
  have hkv := (rbV_pos hp hq hpr hqr hk).mpr hkr
  obtain ⟨-, e2, e3⟩ := gO_some (rk_at hk hkr)
  unfold jatF
  rw [Int.toNat_natCast, hv, e3]
  by_cases c : tjB L p q k
  · rw [if_pos c]
    obtain ⟨c1, c2, c3⟩ := c
    have h1 := (rbV_pos hp hq hpr hqr c1).mp (by omega)
    have h2 := rk_succ hk
    rw [if_pos hkr] at h2
    have h3 := rk_b c1 h1
    have h4 := haf_v hp hq hpr hqr c1 h1
    obtain ⟨-, e4, -⟩ := gO_some (rk_at c1 h1)
    rw [h2] at h3 h4 e4
    rw [if_pos ⟨by omega, by omega, by rw [e4]; exact (chn_at 0 hS.2.1 k hk).2.2.2.2.1 c1, by rw [h4]; exact c2⟩]
  · rw [if_neg c, if_neg]
    rintro ⟨z1, z2, z3, z4⟩
    refine c ?_
    obtain ⟨j, -, hj, hjr, hrk⟩ := rk_pie (L := L) (r := rkP L k + 1) (by omega)
    obtain ⟨-, e5, -⟩ := gO_some (rk_at hj hjr)
    rw [hrk] at e5
    rw [e5] at z3
    have hkj : k < j := by
      rcases Nat.lt_trichotomy k j with g | g | g
      · exact g
      · subst g; omega
      · have := rk_lt hj hjr g (Nat.le_of_lt hk); omega
    have e6 := chn_next hS.2.1 hk hj hkj z3
    subst e6
    have h4 := haf_v hp hq hpr hqr hj hjr
    rw [hrk] at h4
    exact ⟨hj, by rw [← h4]; exact z4, hkv⟩
theorem jat_T2 {L : List Sg} (hS : segW L) {p q k : Nat} (hp : p < L.length) (hq : q < L.length) (hpr : 0 ≤ L[p].1) (hqr : 0 ≤ L[q].1) (hk : k < L.length) (hkr : 0 ≤ L[k].1) : jatF (rngS L) ((rkP L k : Int) - 1) (rkP L p) (rkP L q) = if 0 < k ∧ tjB L p q (k - 1) then 1 else 0 := by
  by_cases c : rkP L k = 0
  · have e1 : jatF (rngS L) ((rkP L k : Int) - 1) (rkP L p) (rkP L q) = 0 := by
      unfold jatF
      rw [if_neg (by rintro ⟨z, -⟩; omega)]
    rw [e1, if_neg]
    rintro ⟨z1, z2, z3, z4⟩
    have h1 := (rbV_pos hp hq hpr hqr (k := k - 1) (by omega)).mp z4
    have := rk_lt (L := L) (k := k - 1) (j := k) (by omega) h1 (by omega) (by omega)
    omega
  · have hb := rk_b hk hkr
    obtain ⟨j, -, hj, hjr, hrk⟩ := rk_pie (L := L) (r := rkP L k - 1) (by omega)
    have e1 : (rkP L k : Int) - 1 = ((rkP L j : Nat) : Int) := by omega
    rw [e1, jat_T hS hp hq hpr hqr hj hjr]
    have hjk : j < k := by
      rcases Nat.lt_trichotomy j k with g | g | g
      · exact g
      · subst g; omega
      · have := rk_lt hk hkr g (Nat.le_of_lt hj); omega
    by_cases d : j + 1 = k
    · have : k - 1 = j := by omega
      rw [this]
      by_cases z : tjB L p q j
      · rw [if_pos z, if_pos ⟨by omega, z⟩]
      · rw [if_neg z, if_neg (fun g => z g.2)]
    · rw [if_neg, if_neg]
      · rintro ⟨z1, z2, z3, z4⟩
        have h1 := (rbV_pos hp hq hpr hqr (k := k - 1) (by omega)).mp z4
        have h2 := rk_lt (L := L) (k := j) (j := k - 1) hj hjr (by omega) (by omega)
        have h3 := rk_lt (L := L) (k := k - 1) (j := k) (by omega) h1 (by omega) (by omega)
        omega
      · rintro ⟨z2, z3, z4⟩
        have h1 := (rbV_pos hp hq hpr hqr z2).mp (by omega)
        have h2 := rk_lt hj hjr (show j < j + 1 by omega) (by omega)
        have h3 := rk_lt z2 h1 (show j + 1 < k by omega) (by omega)
        omega
/-- the rows that are laid: the last owner, the ranges -/
theorem rb_last {L : List Sg} (hS : chn 0 L) (p q : Nat) : ∀ i : Nat, i < L.length → ∃ s, (rbN L p q (i + 1)).getLast? = some s ∧ s.1 = rbV L p q i := by
  intro i hi
  have hlt := (chn_at 0 hS i hi).2.1
  obtain ⟨-, e2, e3⟩ := gO_at hi
  show ∃ s, (layF (rbN L p q i) (gA_ L i) (gB_ L i) (rbV L p q i)).getLast? = some s ∧ _
  unfold layF
  rw [if_pos (by omega)]
  cases hg : (rbN L p q i).getLast? with
  | none => exact ⟨_, rfl, rfl⟩
  | some s =>
    dsimp only
    split
    · next c => exact ⟨_, List.getLast?_concat, c⟩
    · exact ⟨_, List.getLast?_concat, rfl⟩
theorem rnF_app (L M : List Sg) : rnF (L ++ M) = rnF L + rnF M := by
  have h1 := rngS_len (L ++ M)
  have h2 := rngS_len L
  have h3 := rngS_len M
  rw [rngS_app, List.length_append] at h1
  omega
theorem rnF_lay {R : List Sg} {a b o : Int} (hab : a < b) : rnF (layF R a b o) = rnF R + (if 0 ≤ o ∧ ∀ s, R.getLast? = some s → s.1 ≠ o then 1 else 0) := by
  unfold layF
  rw [if_pos hab]
  cases hg : R.getLast? with
  | none =>
    have hRn : R = [] := List.getLast?_eq_none_iff.mp hg
    subst hRn
    dsimp only
    rw [rnF_cons]
    by_cases c : 0 ≤ o
    · rw [if_pos (show 0 ≤ ((o, a, b) : Sg).1 from c), if_pos ⟨c, fun s hs => by cases hs⟩]; rfl
    · rw [if_neg (show ¬ 0 ≤ ((o, a, b) : Sg).1 from c), if_neg (fun z => c z.1)]; rfl
  | some s =>
    have hRn := lastE hg
    dsimp only
    by_cases c : s.1 = o
    · rw [if_pos c, if_neg (fun z => z.2 s rfl c), Int.add_zero]
      have e1 : rnF R = rnF R.dropLast + rnF [s] := by rw [← rnF_app, ← hRn]
      rw [rnF_app, e1]
      rfl
    · rw [if_neg c, rnF_app, rnF_cons]
      have e0 : rnF [] = 0 := rfl
      by_cases d : 0 ≤ o
      · rw [if_pos (show 0 ≤ ((o, a, b) : Sg).1 from d), if_pos ⟨d, fun u hu => by cases hu; exact c⟩, e0]; omega
      · rw [if_neg (show ¬ 0 ≤ ((o, a, b) : Sg).1 from d), if_neg (fun z => d z.1), e0]; omega
abbrev tI (L : List Sg) (p q k : Nat) : Int := if 0 < k ∧ tjB L p q (k - 1) then 1 else 0
theorem rnF_take {L : List Sg} {i : Nat} (h : i < L.length) : rnF (L.take (i + 1)) = rnF (L.take i) + (if 0 ≤ L[i].1 then 1 else 0) := by
  rw [List.take_succ_eq_append_getElem h, rnF_app, rnF_cons]
  have e0 : rnF [] = 0 := rfl
  rw [e0, Int.add_zero]
theorem rb_sum {L : List Sg} (hS : segW L) {p q : Nat} (hp : p < L.length) (hq : q < L.length) (hpr : 0 ≤ L[p].1) (hqr : 0 ≤ L[q].1) (hpq : p < q) (hne : L[p].1 ≠ L[q].1) : ∀ i : Nat, i ≤ L.length → rnF (rbN L p q i) = rnF (L.take i) - ((if p < i then tI L p q p else 0) + (if p + 1 < i then tI L p q (p + 1) else 0) + (if q < i then (if q = p + 1 then 0 else tI L p q q) else 0) + (if q + 1 < i then tI L p q (q + 1) else 0)) := by
  intro i
  induction i with
  | zero => intro _; rfl
  | succ i ih =>
    intro hi
    have hlt : i < L.length := by omega
    have h0 := ih (by omega)
    obtain ⟨-, e2, e3⟩ := gO_at hlt
    have hab := (chn_at 0 hS.2.1 i hlt).2.1
    have e1 : rnF (rbN L p q (i + 1)) = rnF (rbN L p q i) + (if 0 ≤ rbV L p q i ∧ ∀ s, (rbN L p q i).getLast? = some s → s.1 ≠ rbV L p q i then 1 else 0) := rnF_lay (by omega)
    have hv := rbV_pos hp hq hpr hqr hlt
    have e4 : (if 0 ≤ rbV L p q i ∧ ∀ s, (rbN L p q i).getLast? = some s → s.1 ≠ rbV L p q i then (1 : Int) else 0) = (if 0 ≤ L[i].1 then 1 else 0) - tI L p q i := by
      cases i with
      | zero =>
        have : ∀ s, (rbN L p q 0).getLast? = some s → s.1 ≠ rbV L p q 0 := fun s hs => by cases hs
        unfold tI
        rw [if_neg (show ¬ (0 < 0 ∧ tjB L p q (0 - 1)) from fun z => absurd z.1 (Nat.lt_irrefl _))]
        by_cases c : (0 : Int) ≤ L[0].1
        · rw [if_pos c, if_pos ⟨hv.mpr c, this⟩]; rfl
        · rw [if_neg c, if_neg (fun z => c (hv.mp z.1))]; rfl
      | succ i =>
        obtain ⟨s, g1, g2⟩ := rb_last hS.2.1 p q i (by omega)
        unfold tI
        rw [Nat.add_sub_cancel]
        by_cases c : 0 ≤ L[i + 1].1
        · rw [if_pos c]
          have c2 := hv.mpr c
          by_cases d : rbV L p q i = rbV L p q (i + 1)
          · rw [if_neg (fun z => z.2 s g1 (g2.trans d)), if_pos ⟨by omega, hlt, d, by omega⟩]; rfl
          · rw [if_pos ⟨c2, fun u hu => by rw [g1] at hu; cases hu; rw [g2]; exact d⟩, if_neg (fun z => d z.2.2.1)]; rfl
        · rw [if_neg c, if_neg (fun z => c (hv.mp z.1)), if_neg]
          · rfl
          · rintro ⟨-, z1, z2, z3⟩
            exact c (hv.mp (by omega))
    have hz : i ≠ p → i ≠ p + 1 → i ≠ q → i ≠ q + 1 → tI L p q i = 0 := by
      intro n1 n2 n3 n4
      refine if_neg ?_
      rintro ⟨z0, z1, z2, z3⟩
      obtain ⟨j, rfl⟩ : ∃ j : Nat, i = j + 1 := ⟨i - 1, by omega⟩
      rw [Nat.add_sub_cancel] at z1 z2 z3
      unfold rbV at z2
      rw [if_neg (by omega), if_neg (by omega), if_neg (by omega), if_neg (by omega), (gO_at (show j < L.length by omega)).1, (gO_at hlt).1] at z2
      have gen : ∀ (M : List Sg) (k : Nat) (h : k + 1 < M.length), adj M → M[k].1 ≠ M[k + 1].1 := by
        intro M
        induction M with
        | nil => intro k h; simp at h
        | cons s M ihM =>
          intro k h ha
          cases k with
          | zero =>
            cases M with
            | nil => simp at h
            | cons u M => exact ha.1
          | succ k => exact ihM k (by simpa using h) ha.2
      exact gen L j hlt hS.2.2 z2
    have hz2 : q = p + 1 → tI L p q q = 0 := by
      intro e
      subst e
      refine if_neg ?_
      rintro ⟨z0, z1, z2, z3⟩
      rw [Nat.add_sub_cancel] at z2
      unfold rbV at z2
      rw [if_pos rfl, if_neg (by omega), if_pos rfl, (gO_at hp).1, (gO_at hq).1] at z2
      exact hne z2.symm
    rw [e1, h0, e4, rnF_take hlt]
    by_cases c1 : i = p
    · subst c1
      rw [if_neg (Nat.lt_irrefl _), if_pos (Nat.lt_succ_self _), if_neg (show ¬ i + 1 < i by omega), if_neg (show ¬ i + 1 < i + 1 by omega), if_neg (show ¬ q < i by omega), if_neg (show ¬ q < i + 1 by omega), if_neg (show ¬ q + 1 < i by omega), if_neg (show ¬ q + 1 < i + 1 by omega)]
      omega
    · by_cases c2 : i = p + 1
      · subst c2
        by_cases c3 : q = p + 1
        · have hz3 := hz2 c3
          subst c3
          rw [if_pos (show p < p + 1 by omega), if_pos (show p < p + 1 + 1 by omega), if_neg (show ¬ p + 1 < p + 1 by omega), if_pos (show p + 1 < p + 1 + 1 by omega), if_neg (show ¬ p + 1 + 1 < p + 1 by omega), if_neg (show ¬ p + 1 + 1 < p + 1 + 1 by omega), if_neg (show ¬ p + 1 < p + 1 by omega), if_pos (show p + 1 < p + 1 + 1 by omega), if_pos rfl, hz3]
          omega
        · rw [if_pos (show p < p + 1 by omega), if_pos (show p < p + 1 + 1 by omega), if_neg (show ¬ p + 1 < p + 1 by omega), if_pos (show p + 1 < p + 1 + 1 by omega), if_neg (show ¬ q < p + 1 by omega), if_neg (show ¬ q < p + 1 + 1 by omega), if_neg (show ¬ q + 1 < p + 1 by omega), if_neg (show ¬ q + 1 < p + 1 + 1 by omega)]
          omega
      · by_cases c3 : i = q
        · subst c3
          rw [if_neg (show ¬ i = p + 1 from c2), if_neg (Nat.lt_irrefl i), if_pos (Nat.lt_succ_self i), if_neg (show ¬ i + 1 < i by omega), if_neg (show ¬ i + 1 < i + 1 by omega), if_pos (show p < i by omega), if_pos (show p < i + 1 by omega), if_pos (show p + 1 < i by omega), if_pos (show p + 1 < i + 1 by omega)]
          omega
        · by_cases c4 : i = q + 1
          · subst c4
            rw [if_pos (show q < q + 1 by omega), if_pos (show q < q + 1 + 1 by omega), if_neg (show ¬ q + 1 < q + 1 by omega), if_pos (show q + 1 < q + 1 + 1 by omega), if_pos (show p < q + 1 by omega), if_pos (show p < q + 1 + 1 by omega), if_pos (show p + 1 < q + 1 by omega), if_pos (show p + 1 < q + 1 + 1 by omega)]
            omega
          · rw [hz c1 c2 c3 c4]
            have i1 : (p < i + 1) = (p < i) := propext ⟨fun z => by omega, fun z => by omega⟩
            have i2 : (p + 1 < i + 1) = (p + 1 < i) := propext ⟨fun z => by omega, fun z => by omega⟩
            have i3 : (q < i + 1) = (q < i) := propext ⟨fun z => by omega, fun z => by omega⟩
            have i4 : (q + 1 < i + 1) = (q + 1 < i) := propext ⟨fun z => by omega, fun z => by omega⟩
            simp only [i1, i2, i3, i4]
            omega
/-- how many ranges there are when two are exchanged -/
theorem rb_jns {L : List Sg} (hS : segW L) {p q : Nat} (hp : p < L.length) (hq : q < L.length) (hpr : 0 ≤ L[p].1) (hqr : 0 ≤ L[q].1) (hpq : p < q) (hne : L[p].1 ≠ L[q].1) : rnF (rbN L p q L.length) = rnF L - jnsF (rngS L) (rkP L p) (rkP L q) := by
  have h := rb_sum hS hp hq hpr hqr hpq hne L.length (Nat.le_refl _)
  rw [List.take_length] at h
  have e1 := (gO_some (rk_at hp hpr)).1
  have e2 := (gO_some (rk_at hq hqr)).1
  unfold jnsF
  rw [e1, e2, if_neg hne, jat_T2 hS hp hq hpr hqr hp hpr, jat_T hS hp hq hpr hqr hp hpr, jat_T2 hS hp hq hpr hqr hq hqr, jat_T hS hp hq hpr hqr hq hqr, h]
  have hT : ∀ k : Nat, (if k + 1 < L.length then tI L p q (k + 1) else 0) = if tjB L p q k then 1 else 0 := by
    intro k
    by_cases c : k + 1 < L.length
    · rw [if_pos c]
      unfold tI
      rw [Nat.add_sub_cancel]
      by_cases d : tjB L p q k
      · rw [if_pos d, if_pos ⟨by omega, d⟩]
      · rw [if_neg d, if_neg (fun z => d z.2)]
    · rw [if_neg c, if_neg (fun z => c z.1)]
  rw [hT p, hT q, if_pos hp, if_pos hq]
  by_cases c : q = p + 1
  · have hz : ¬ tjB L p q p := by
      rintro ⟨z1, z2, z3⟩
      unfold rbV at z2
      rw [if_pos rfl, if_neg (by omega), if_pos c.symm, (gO_at hp).1, (gO_at hq).1] at z2
      exact hne z2.symm
    have hz2 : ¬ (0 < q ∧ tjB L p q (q - 1)) := by
      rintro ⟨-, z⟩
      rw [show q - 1 = p by omega] at z
      exact hz z
    rw [if_pos c, if_neg hz, if_neg hz2]
  · rw [if_neg c]
theorem fold_rel {α β γ : Type} (Rl : α → β → Prop) (f : α → γ → α) (g : β → γ → β) : ∀ (M : List γ) (a : α) (b : β), (∀ x ∈ M, ∀ a b, Rl a b → Rl (f a x) (g b x)) → Rl a b → Rl (M.foldl f a) (M.foldl g b) := by
  intro M
  induction M with
  | nil => intro a b _ h; exact h
  | cons x M ih =>
    intro a b h hab
    exact ih _ _ (fun y hy => h y (List.mem_cons_of_mem _ hy)) (h x List.mem_cons_self a b hab)
theorem ex_step {L : List Sg} (hS : segW L) {N : Nat} (hN : rnF L = N) {i j : Nat} (hij : i < j) (hj : j < N) {c d : Int × Int × Int} (h : c.1 = d.1 ∧ c.2.1 = d.2.1 ∧ d.2.2 = N - c.2.2 ∧ 0 ≤ c.2.2 ∧ (c.1 = -6 ∨ 0 ≤ c.1)) : (exS (rngS L) i c j).1 = (exRS L i d j).1 ∧ (exS (rngS L) i c j).2.1 = (exRS L i d j).2.1 ∧ (exRS L i d j).2.2 = N - (exS (rngS L) i c j).2.2 ∧ 0 ≤ (exS (rngS L) i c j).2.2 ∧ ((exS (rngS L) i c j).1 = -6 ∨ 0 ≤ (exS (rngS L) i c j).1) := by
  obtain ⟨h1, h2, h3, h4, h5⟩ := h
  obtain ⟨p, ep, hp, hpr, rp⟩ := rk_pie (L := L) (r := i) (by omega)
  obtain ⟨q, eq, hq, hqr, rq⟩ := rk_pie (L := L) (r := j) (by omega)
  have hpq : p < q := by
    rcases Nat.lt_trichotomy p q with g | g | g
    · exact g
    · subst g; omega
    · have := rk_lt hq hqr g (Nat.le_of_lt hp); omega
  obtain ⟨a1, a2, a3⟩ := gO_some (rk_at hp hpr)
  obtain ⟨b1, b2, b3⟩ := gO_some (rk_at hq hqr)
  rw [rp] at a1 a2 a3
  rw [rq] at b1 b2 b3
  obtain ⟨k1, k2, k3⟩ := gO_at hp
  obtain ⟨l1, l2, l3⟩ := gO_at hq
  have ek : exRk L i j = rnF (rbN L p q L.length) := by show rnF (rbN L (pieF L 0 0 i).toNat (pieF L 0 0 j).toNat L.length) = _; rw [ep, eq]; rfl
  have ec : exRc L i j d.2.2 ↔ (L[p].2.2 - L[p].2.1 = L[q].2.2 - L[q].2.1 ∧ L[p].1 ≠ L[q].1 ∧ rnF (rbN L p q L.length) < d.2.2) := by
    show (gB_ L (pieF L 0 0 i).toNat - gA_ L (pieF L 0 0 i).toNat = gB_ L (pieF L 0 0 j).toNat - gA_ L (pieF L 0 0 j).toNat ∧ gO L (pieF L 0 0 i).toNat ≠ gO L (pieF L 0 0 j).toNat ∧ rnF (rbN L (pieF L 0 0 i).toNat (pieF L 0 0 j).toNat L.length) < d.2.2) ↔ _
    rw [ep, eq, Int.toNat_natCast, Int.toNat_natCast, k1, k2, k3, l1, l2, l3]
  have jb := jns_b (rngS L) i j
  unfold exS
  rw [a2, a3, b2, b3]
  by_cases c1 : L[p].2.2 - L[p].2.1 = L[q].2.2 - L[q].2.1
  · rw [if_pos c1]
    by_cases c2 : L[p].1 = L[q].1
    · have e0 : jnsF (rngS L) i j = 0 := by unfold jnsF; rw [a1, b1, if_pos c2]
      have e9 : exRS L i d j = d := if_neg (fun z => (ec.mp z).2.1 c2)
      rw [e0, if_neg (by omega), e9]
      exact ⟨h1, h2, h3, h4, h5⟩
    · have e0 := rb_jns hS hp hq hpr hqr hpq c2
      rw [rp, rq] at e0
      by_cases c3 : c.2.2 < jnsF (rngS L) i j
      · have e9 : exRS L i d j = ((i : Int), (j : Int), exRk L i j) := if_pos (ec.mpr ⟨c1, c2, by omega⟩)
        rw [if_pos c3, e9, ek, e0]
        exact ⟨rfl, rfl, by show rnF L - _ = _; rw [hN], by show 0 ≤ jnsF (rngS L) i j; omega, Or.inr (by show (0 : Int) ≤ (i : Int); omega)⟩
      · have e9 : exRS L i d j = d := if_neg (fun z => by have := (ec.mp z).2.2; omega)
        rw [if_neg c3, e9]
        exact ⟨h1, h2, h3, h4, h5⟩
  · have e9 : exRS L i d j = d := if_neg (fun z => c1 (ec.mp z).1)
    rw [if_neg c1, if_neg (by omega), e9]
    exact ⟨h1, h2, h3, h4, h5⟩
theorem ex_F {L : List Sg} (hS : segW L) {N : Nat} (hN : rnF L = N) : (exF (rngS L)).1 = (exRF L N).1 ∧ (exF (rngS L)).2.1 = (exRF L N).2.1 ∧ (exRF L N).2.2 = N - (exF (rngS L)).2.2 ∧ 0 ≤ (exF (rngS L)).2.2 ∧ ((exF (rngS L)).1 = -6 ∨ 0 ≤ (exF (rngS L)).1) := by
  have hl : (rngS L).length = N := by have := rngS_len L; omega
  unfold exF exRF
  rw [hl]
  refine fold_rel (fun (c d : Int × Int × Int) => c.1 = d.1 ∧ c.2.1 = d.2.1 ∧ d.2.2 = N - c.2.2 ∧ 0 ≤ c.2.2 ∧ (c.1 = -6 ∨ 0 ≤ c.1)) (exI (rngS L)) (exRI L N) (List.range N) _ _ (fun i hi c d h => ?_) ⟨rfl, rfl, by show (N : Int) = N - 0; omega, Int.le_refl 0, Or.inl rfl⟩
  unfold exI exRI
  rw [hl]
  refine fold_rel (fun (c d : Int × Int × Int) => c.1 = d.1 ∧ c.2.1 = d.2.1 ∧ d.2.2 = N - c.2.2 ∧ 0 ≤ c.2.2 ∧ (c.1 = -6 ∨ 0 ≤ c.1)) (exS (rngS L) i) (exRS L i) _ _ _ (fun j hj c d h => ?_) h
  obtain ⟨m, hm, e⟩ := List.getElem_of_mem hj
  rw [List.getElem_drop, List.getElem_range] at e
  rw [List.length_drop, List.length_range] at hm
  exact ex_step hS hN (by omega) (by omega) h
theorem q_ex {t : St} (hS : segW t.L) (k : Int) : exV (rS t) k = exRV t.L k := by
  unfold exV exRV
  have hb := rnF_b t.L
  obtain ⟨N, hN⟩ : ∃ N : Nat, rnF t.L = N := ⟨(rnF t.L).toNat, by omega⟩
  obtain ⟨h1, h2, h3, h4, h5⟩ := ex_F hS hN
  have hl := rngS_len t.L
  by_cases c : 0 ≤ k ∧ k ≤ 2
  · rw [if_pos c, if_pos c, show (rnF t.L).toNat = N by omega]
    show exW (rngS t.L) k = _
    unfold exW
    rw [h1] at h5 ⊢
    rw [h2]
    by_cases d : (exRF t.L N).1 = -6
    · rw [if_pos (Or.inr d), if_pos (by omega)]; exact d
    · rw [if_neg (show ¬ (exRF t.L N).1 < 0 by omega)]
      by_cases e : k = 0
      · rw [if_pos (Or.inl e), if_pos e]
      · rw [if_neg (by rintro (z | z); exact e z; exact d z), if_neg e]
        by_cases g : k = 1
        · rw [if_pos g, if_pos g]
        · rw [if_neg g, if_neg g]; omega
  · rw [if_neg c, if_neg c]
