/-! the share: a quotient of doubles, rounded to a float -/
theorem fl_round {f : FP.Core.Fmt} {m t e P : Nat} (hP : f.p = P + 1) (hm : 0 < m) (h1 : t ≤ m * 2 ^ e) (h2 : m * 2 ^ e < 2 * t) (hq : f.qmin ≤ -((P + e : Nat) : Int)) : FP.Core.roundRatio f false m t 0 = FP.Core.settle f false (FP.Core.nearest (m * 2 ^ (P + e)) t) (-((P + e : Nat) : Int)) := by
  have ht : 0 < t := by omega
  have hqu : FP.Core.quantum f m t 0 = -((P + e : Nat) : Int) := by
    refine FP.Core.quantum_eq hm ht hq ?_ (Or.inr ?_)
    · rw [hP, show -((P + e : Nat) : Int) - 0 + ((P + 1 : Nat) : Int) = ((1 : Nat) : Int) - (e : Nat) by omega, FP.Core.below_iff]
      rw [Nat.pow_one, Nat.mul_comm t 2]; exact h2
    · rw [hP, show -((P + e : Nat) : Int) - 0 + (((P + 1 : Nat) : Int) - 1) = ((0 : Nat) : Int) - (e : Nat) by omega, FP.Core.below_iff]
      rw [Nat.pow_zero, Nat.mul_one]; omega
  unfold FP.Core.roundRatio
  rw [if_neg (by omega), hqu]
  unfold FP.Core.roundAt FP.Core.unitsNum FP.Core.unitsDen
  rw [show (0 - -((P + e : Nat) : Int)).toNat = P + e by omega, show (-((P + e : Nat) : Int) - 0).toNat = 0 by omega, Nat.pow_zero, Nat.mul_one]
theorem fl_whole {a : Int32} {m : Nat} (h : a.toInt = m) (hm : 0 < m) : ∃ (c : Nat) (q : Int), FP.Core.val64 (FP.i2d a) = .fin false c q ∧ c * 2 ^ q.toNat = m * 2 ^ (-q).toNat := by
  have hw : FP.Core.Whole a.toInt (FP.Core.val64 (FP.i2d a)) := FP.Core.i2d_int a
  cases hv : FP.Core.val64 (FP.i2d a) with
  | nan => rw [hv] at hw; exact hw.elim
  | inf s => rw [hv] at hw; exact hw.elim
  | fin s c q =>
    rw [hv, h] at hw
    have hw : FP.Core.signed s (c * 2 ^ q.toNat) = (m : Int) * ((2 ^ (-q).toNat : Nat) : Int) := hw
    have hp : 0 < m * 2 ^ (-q).toNat := Nat.mul_pos hm (Nat.two_pow_pos _)
    have e1 : (m : Int) * ((2 ^ (-q).toNat : Nat) : Int) = ((m * 2 ^ (-q).toNat : Nat) : Int) := (Int.natCast_mul _ _).symm
    rw [e1] at hw
    generalize hM : m * 2 ^ (-q).toNat = M at hp hw
    generalize hN : c * 2 ^ q.toNat = N at hw
    cases s with
    | true => have hw : -(N : Int) = (M : Int) := hw; exfalso; omega
    | false => have hw : (N : Int) = (M : Int) := hw; exact ⟨c, q, rfl, hN.trans ((Int.ofNat.inj hw).trans hM.symm)⟩
theorem fl_quo {a b : Int32} {m t : Nat} (ha : a.toInt = m) (hb : b.toInt = t) (hm : 0 < m) (ht : 0 < t) : FP.Core.val64 (FP.ddiv (FP.i2d a) (FP.i2d b)) = FP.Core.roundRatio FP.Core.b64 false m t 0 := by
  obtain ⟨c, q, e1, e2⟩ := fl_whole ha hm
  obtain ⟨d, r, e3, e4⟩ := fl_whole hb ht
  have hd : 0 < d := by
    have : 0 < d * 2 ^ r.toNat := by rw [e4]; exact Nat.mul_pos ht (Nat.two_pow_pos _)
    exact Nat.pos_of_mul_pos_right this
  have e5 : FP.Core.val64 (FP.ddiv (FP.i2d a) (FP.i2d b)) = FP.Core.quotient FP.Core.b64 (FP.Core.val64 (FP.i2d a)) (FP.Core.val64 (FP.i2d b)) := FP.Core.val64_ddiv _ _
  rw [e5, e1, e3]
  show (if d = 0 then _ else FP.Core.roundRatio FP.Core.b64 (false != false) c d (q - r)) = _
  rw [if_neg (by omega)]
  show FP.Core.roundRatio FP.Core.b64 false c d (q - r) = _
  refine FP.Core.roundRatio_congr hd ht ?_
  rw [show (q - r - 0).toNat = (q - r).toNat by rw [Int.sub_zero], show (0 - (q - r)).toNat = (-(q - r)).toNat by rw [Int.zero_sub]]
  refine Nat.eq_of_mul_eq_mul_right (Nat.two_pow_pos (q.toNat + (-r).toNat)) ?_
  have hx : q.toNat + (-r).toNat + (-(q - r)).toNat = (-q).toNat + r.toNat + (q - r).toNat := by omega
  calc c * t * 2 ^ (q - r).toNat * 2 ^ (q.toNat + (-r).toNat)
      = (c * 2 ^ q.toNat) * (t * 2 ^ (-r).toNat) * 2 ^ (q - r).toNat := by simp only [Nat.pow_add]; ac_rfl
    _ = (m * 2 ^ (-q).toNat) * (d * 2 ^ r.toNat) * 2 ^ (q - r).toNat := by rw [e2, e4]
    _ = m * d * 2 ^ ((-q).toNat + r.toNat + (q - r).toNat) := by simp only [Nat.pow_add]; ac_rfl
    _ = m * d * 2 ^ (q.toNat + (-r).toNat + (-(q - r)).toNat) := by rw [hx]
    _ = m * d * 2 ^ (-(q - r)).toNat * 2 ^ (q.toNat + (-r).toNat) := by simp only [Nat.pow_add]; ac_rfl
theorem fl_ar {t a b c K : Nat} (ht : 0 < t) (hlt : b < t) (hK : t < K) (s1 : 2 * ((t * a + b) * K) ≤ (2 * c + 1) * t) (s2 : 2 * c * t ≤ 2 * ((t * a + b) * K) + t) : ∃ d : Nat, c = a * K + d ∧ d < K ∧ (2 * b < t → 2 * d < K) ∧ (t < 2 * b → K < 2 * d) := by
  have e0 : (t * a + b) * K = t * a * K + b * K := Nat.add_mul _ _ _
  rw [e0] at s1 s2
  have hb1 : b * K + K ≤ t * K := by
    have := Nat.mul_le_mul_right K (show b + 1 ≤ t from hlt)
    rw [Nat.add_mul, Nat.one_mul] at this
    exact this
  have hca : a * K ≤ c := by
    refine Nat.le_of_not_lt fun q => ?_
    have h1 : (c + 1) * t ≤ a * K * t := Nat.mul_le_mul_right t q
    rw [Nat.add_mul, Nat.one_mul, show a * K * t = t * a * K by ac_rfl] at h1
    have e3 : (2 * c + 1) * t = 2 * (c * t) + t := by rw [Nat.add_mul, Nat.one_mul, Nat.mul_assoc]
    rw [e3] at s1
    omega
  obtain ⟨d, rfl⟩ := Nat.exists_eq_add_of_le hca
  have e1 : (2 * (a * K + d) + 1) * t = 2 * (t * a * K) + 2 * (d * t) + t := by
    rw [Nat.add_mul, Nat.one_mul, Nat.mul_assoc, Nat.add_mul, show a * K * t = t * a * K by ac_rfl, Nat.mul_add]
  have e2 : 2 * (a * K + d) * t = 2 * (t * a * K) + 2 * (d * t) := by
    rw [Nat.mul_assoc, Nat.add_mul, show a * K * t = t * a * K by ac_rfl, Nat.mul_add]
  rw [e1] at s1
  rw [e2] at s2
  generalize t * a * K = Z at *
  have k1 : 2 * (b * K) ≤ 2 * (d * t) + t := by omega
  have k2 : 2 * (d * t) ≤ 2 * (b * K) + t := by omega
  refine ⟨d, rfl, ?_, fun q => ?_, fun q => ?_⟩
  · refine Nat.lt_of_mul_lt_mul_right (a := t) ?_
    rw [Nat.mul_comm K t]
    omega
  · have := Nat.mul_le_mul_right K (show 2 * b + 1 ≤ t from q)
    rw [Nat.add_mul, Nat.one_mul, Nat.mul_assoc] at this
    refine Nat.lt_of_mul_lt_mul_right (a := t) ?_
    rw [Nat.mul_comm K t, Nat.mul_assoc]
    omega
  · have := Nat.mul_le_mul_right K (show t + 1 ≤ 2 * b from q)
    rw [Nat.add_mul, Nat.one_mul, Nat.mul_assoc] at this
    refine Nat.lt_of_mul_lt_mul_right (a := t) ?_
    rw [Nat.mul_comm K t, Nat.mul_assoc]
    omega
/-- rounded twice is rounded once: X / t in units of the float -/
theorem fl_twice {X t c : Nat} (ht : 0 < t) (ht2 : t ≤ 10000) (hc : c = FP.Core.nearest (X * 536870912) t) (hb : 2 * (X % t) ≠ t) : FP.Core.nearest c (536870912) = (2 * X + t) / (2 * t) ∧ FP.Core.nearest X t = (2 * X + t) / (2 * t) := by
  have hX : t * (X / t) + X % t = X := Nat.div_add_mod X t
  have hlt := Nat.mod_lt X ht
  obtain ⟨s1, s2, -⟩ := FP.Core.nearest_spec (X * 536870912) t ht
  rw [← hc] at s1 s2
  generalize X / t = a at *
  generalize X % t = b at *
  subst hX
  have hr : FP.Core.nearest (t * a + b) t = if 2 * b < t then a else a + 1 := by
    unfold FP.Core.nearest
    rw [Nat.mul_add_mod, Nat.mod_eq_of_lt hlt, Nat.mul_add_div ht, Nat.div_eq_of_lt hlt, Nat.add_zero]
    by_cases q : 2 * b < t
    · rw [if_pos q, if_pos q]
    · rw [if_neg q, if_neg q, if_pos (by omega)]
  have hd : (2 * (t * a + b) + t) / (2 * t) = if 2 * b < t then a else a + 1 := by
    rw [show 2 * (t * a + b) + t = 2 * t * a + (2 * b + t) by rw [Nat.mul_add, Nat.mul_assoc]; omega, Nat.mul_add_div (by omega)]
    by_cases q : 2 * b < t
    · rw [if_pos q, Nat.div_eq_of_lt (by omega)]; rfl
    · rw [if_neg q, show 2 * b + t = 2 * t * 1 + (2 * b - t) by omega, Nat.mul_add_div (by omega), Nat.div_eq_of_lt (by omega)]
  rw [hd]
  refine ⟨?_, hr⟩
  obtain ⟨d, rfl, hd29, hl, hg⟩ := fl_ar (K := 536870912) ht hlt (by omega) s1 s2
  unfold FP.Core.nearest
  rw [Nat.mul_comm a, Nat.mul_add_mod, Nat.mod_eq_of_lt hd29, Nat.mul_add_div (Nat.succ_pos _), Nat.div_eq_of_lt hd29, Nat.add_zero]
  by_cases q : 2 * b < t
  · rw [if_pos q, if_pos (hl q)]
  · have := hg (by omega)
    rw [if_neg q, if_neg (by omega), if_pos this]
theorem fl_odd {m t e : Nat} (hm : 0 < m) (hm2 : m ≤ 10000) (ht : 0 < t) (h1 : t ≤ m * 2 ^ e) : 2 * ((8388608 * (m * 2 ^ e)) % t) ≠ t := by
  intro h
  have hX : t * ((8388608 * (m * 2 ^ e)) / t) + (8388608 * (m * 2 ^ e)) % t = 8388608 * (m * 2 ^ e) := Nat.div_add_mod _ t
  have ha : 8388608 ≤ (8388608 * (m * 2 ^ e)) / t := by
    rw [Nat.le_div_iff_mul_le ht]
    exact Nat.mul_le_mul_left _ h1
  have e1 : t * (2 * ((8388608 * (m * 2 ^ e)) / t) + 1) = 16777216 * (m * 2 ^ e) := by
    rw [Nat.mul_add t, Nat.mul_one, Nat.mul_left_comm]
    omega
  generalize (8388608 * (m * 2 ^ e)) / t = a at ha e1
  have e2 : 16777216 * (m * 2 ^ e) = m * 2 ^ (24 + e) := by
    rw [Nat.pow_add, Nat.mul_left_comm]
  rw [e2] at e1
  have hcop : Nat.Coprime (2 * a + 1) (2 ^ (24 + e)) := by
    refine Nat.Coprime.pow_right _ ?_
    unfold Nat.Coprime
    rw [Nat.gcd_comm, Nat.gcd_rec, show (2 * a + 1) % 2 = 1 by omega]
    rfl
  have hdv : (2 * a + 1) ∣ m := hcop.dvd_of_dvd_mul_right ⟨t, e1.symm.trans (Nat.mul_comm _ _)⟩
  have := Nat.le_of_dvd hm hdv
  omega
theorem bqL_e {m : Int} {t : Int} (hm : 0 < m) (ht : t ≤ 10000) : ∀ (k : Nat) (c : Int), 0 < c → (t ≤ c * 2 ^ k) → c < 2 * t → ∀ j : Nat, k ≤ j → ∃ e : Nat, e ≤ k ∧ (bqL t j c) = (c * 2 ^ e, j - e) ∧ t ≤ c * 2 ^ e ∧ c * 2 ^ e < 2 * t := by
  intro k
  induction k with
  | zero =>
    intro c hc h1 h2 j hj
    have h1 : t ≤ c := by simpa using h1
    refine ⟨0, Nat.le_refl _, ?_, by simpa using h1, by simpa using h2⟩
    cases j with
    | zero => simp [bqL]
    | succ j => unfold bqL; rw [if_neg (by omega)]; simp
  | succ k ih =>
    intro c hc h1 h2 j hj
    by_cases q : c < t
    · cases j with
      | zero => omega
      | succ j =>
        have e0 : c * 2 * 2 ^ k = c * 2 ^ (k + 1) := by rw [Int.pow_succ]; ac_rfl
        obtain ⟨e, g1, g2, g3, g4⟩ := ih (c * 2) (by omega) (by rw [e0]; exact h1) (by omega) j (by omega)
        have e1 : c * 2 * 2 ^ e = c * 2 ^ (e + 1) := by rw [Int.pow_succ]; ac_rfl
        rw [e1] at g2 g3 g4
        refine ⟨e + 1, by omega, ?_, g3, g4⟩
        unfold bqL
        rw [if_pos q, g2]
        congr 1
        omega
    · refine ⟨0, Nat.zero_le _, ?_, by simpa using Int.not_lt.mp q, by simpa using h2⟩
      cases j with
      | zero => simp [bqL]
      | succ j => unfold bqL; rw [if_neg q]; simp
