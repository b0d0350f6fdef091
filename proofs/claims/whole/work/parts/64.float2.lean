/-! the share as bits -/
theorem fl_n64 {x : UInt64} {c : Nat} {q : Int} (h : FP.Core.val64 x = .fin false c q) : vf_n64 x := by
  have := (FP.Core.fin_bits x).mp ⟨_, _, _, h⟩
  unfold vf_n64
  rw [UInt64.le_iff_toNat_le, FP.Core.mask_toNat]
  exact Nat.le_of_lt this
theorem fl_n32 {x : UInt32} {c : Nat} {q : Int} (h : FP.Core.val32 x = .fin false c q) : vf_n32 x := by
  have := (FP.Core.fin_bits32 x).mp ⟨_, _, _, h⟩
  unfold vf_n32
  rw [UInt32.le_iff_toNat_le, FP.Core.mask_toNat32]
  exact Nat.le_of_lt this
theorem fl_bits {x : UInt32} {c : Nat} {q : Int} (h : FP.Core.val32 x = .fin false c q) : x.toInt32 = iI (FP.Core.encode FP.Core.b32 (.fin false c q)) := by
  have e1 : x.toNat = FP.Core.encode FP.Core.b32 (.fin false c q) := by
    rw [← h, ← FP.Core.toNat_of32 (FP.Core.val32_fits x), FP.Core.of32_val32 (by rw [h]; intro q; cases q)]
  rw [← e1, ← iI_nat]
  apply Int32.toBitVec_inj.mp
  apply BitVec.eq_of_toNat_eq
  show x.toNat = (Int32.ofNat x.toNat).toBitVec.toNat
  show x.toNat = (BitVec.ofNat 32 x.toNat).toNat
  rw [BitVec.toNat_ofNat, Nat.mod_eq_of_lt x.toNat_lt]
theorem fl_self {x : UInt32} {c : Nat} {q : Int} (h : FP.Core.val32 x = .fin false c q) : FP.fcmp x x = some .eq := FP.Core.fcmp_self (by rw [h]; intro q; cases q)
theorem fl_d2f {x : UInt64} {c : Nat} {q : Int} (h : FP.Core.val64 x = .fin false c q) : FP.Core.val32 (FP.d2f x) = FP.Core.round FP.Core.b32 (.fin false c q) := by
  have hn : FP.Core.dIsNaN x = false := by
    show decide (FP.Core.val64 x = .nan) = false
    rw [h]
    exact decide_eq_false (fun q => by cases q)
  unfold FP.d2f
  rw [hn, if_neg (by decide), FP.Core.val32_d2f, h]
theorem fl_pos {a b : Int32} {m t e : Nat} (ha : a.toInt = m) (hb : b.toInt = t) (hm : 0 < m ∧ m ≤ 10000) (ht : 0 < t ∧ t ≤ 10000) (h1 : t ≤ m * 2 ^ e) (h2 : m * 2 ^ e < 2 * t) (he : e ≤ 14) : (∃ c q, FP.Core.val64 (FP.ddiv (FP.i2d a) (FP.i2d b)) = .fin false c q) ∧ FP.Core.val32 (FP.d2f (FP.ddiv (FP.i2d a) (FP.i2d b))) = .fin false ((2 * (8388608 * (m * 2 ^ e)) + t) / (2 * t)) (-((23 + e : Nat) : Int)) ∧ 8388608 ≤ (2 * (8388608 * (m * 2 ^ e)) + t) / (2 * t) ∧ (2 * (8388608 * (m * 2 ^ e)) + t) / (2 * t) < 16777216 := by
  have q64 : FP.Core.b64.qmin = -1074 := by decide
  have q32 : FP.Core.b32.qmin = -149 := by decide
  have m64 : FP.Core.b64.qmax = 971 := by decide
  have m32 : FP.Core.b32.qmax = 104 := by decide
  have hY : m * 2 ^ (52 + e) = 8388608 * (m * 2 ^ e) * 536870912 := by
    rw [Nat.pow_add, show (2 : Nat) ^ 52 = 8388608 * 536870912 by decide]; ac_rfl
  have v64 := fl_quo ha hb hm.1 ht.1
  rw [fl_round (P := 52) rfl hm.1 h1 h2 (by rw [q64]; omega), hY] at v64
  have hodd := fl_odd hm.1 hm.2 ht.1 h1
  generalize hX : 8388608 * (m * 2 ^ e) = X at v64 hodd ⊢
  obtain ⟨t1, t2⟩ := fl_twice (c := FP.Core.nearest (X * 536870912) t) ht.1 ht.2 rfl hodd
  generalize hc : FP.Core.nearest (X * 536870912) t = c at v64 t1
  have hXl : 8388608 * t ≤ X := by omega
  have hXu : X + 8388608 ≤ 16777216 * t := by omega
  have c1 : 4503599627370496 ≤ c := by rw [← hc]; exact FP.Core.nearest_ge ht.1 (by omega)
  have c2 : c ≤ 9007199254740991 := by rw [← hc]; exact FP.Core.nearest_le ht.1 (by omega)
  have n1 : 8388608 ≤ FP.Core.nearest X t := FP.Core.nearest_ge ht.1 hXl
  have n2 : FP.Core.nearest X t ≤ 16777215 := FP.Core.nearest_le ht.1 (by omega)
  rw [t2] at n1 n2
  generalize (2 * X + t) / (2 * t) = n at t1 n1 n2 ⊢
  have v64b : FP.Core.val64 (FP.ddiv (FP.i2d a) (FP.i2d b)) = .fin false c (-((52 + e : Nat) : Int)) := by
    rw [v64]
    unfold FP.Core.settle FP.Core.bound
    rw [if_pos (show c < 2 ^ FP.Core.b64.p by show c < 2 ^ 53; omega), if_pos (by rw [m64]; omega)]
  refine ⟨⟨_, _, v64b⟩, ?_, n1, by omega⟩
  rw [fl_d2f v64b]
  show FP.Core.roundRatio FP.Core.b32 false c 1 (-((52 + e : Nat) : Int)) = _
  have hp := Nat.two_pow_pos (52 + e)
  rw [FP.Core.roundRatio_congr (A' := c) (B' := 2 ^ (52 + e)) (e' := 0) (by decide) hp (by rw [show (-((52 + e : Nat) : Int) - 0).toNat = 0 by omega, show (0 - -((52 + e : Nat) : Int)).toNat = 52 + e by omega, Nat.pow_zero, Nat.mul_one, Nat.mul_one])]
  have hcp : c * 2 ^ (23 + e) = c * (2 ^ (23 + e)) := rfl
  have e52 : (2 : Nat) ^ (52 + e) = 4503599627370496 * 2 ^ e := by rw [Nat.pow_add]
  have e23 : (2 : Nat) ^ (52 + e) = 536870912 * 2 ^ (23 + e) := by rw [Nat.pow_add, Nat.pow_add 2 23 e]; omega
  rw [fl_round (P := 23) (e := e) rfl (by omega) (by rw [e52]; exact Nat.mul_le_mul_right _ c1) (by rw [e52]; have := Nat.mul_le_mul_right (2 ^ e) c2; have := Nat.two_pow_pos e; omega) (by rw [q32]; omega)]
  rw [e23, FP.Core.nearest_scale c 536870912 _ (Nat.two_pow_pos _), t1]
  unfold FP.Core.settle FP.Core.bound
  rw [if_pos (show n < 2 ^ FP.Core.b32.p by show n < 2 ^ 24; omega), if_pos (by rw [m32]; omega)]
theorem fl_zero {a b : Int32} {t : Nat} (ha : a.toInt = 0) (hb : b.toInt = t) (ht : 0 < t) : (∃ c q, FP.Core.val64 (FP.ddiv (FP.i2d a) (FP.i2d b)) = .fin false c q) ∧ FP.Core.val32 (FP.d2f (FP.ddiv (FP.i2d a) (FP.i2d b))) = .fin false 0 (-149) := by
  obtain ⟨d, r, e3, e4⟩ := fl_whole hb ht
  have hd : 0 < d := by
    have : 0 < d * 2 ^ r.toNat := by rw [e4]; exact Nat.mul_pos ht (Nat.two_pow_pos _)
    exact Nat.pos_of_mul_pos_right this
  have e1 : FP.Core.val64 (FP.i2d a) = .fin false 0 FP.Core.b64.qmin := by
    have : FP.Core.val64 (FP.i2d a) = FP.Core.round FP.Core.b64 (FP.Core.ofInt a.toInt) := FP.Core.val64_i2d a
    rw [this, ha]
    rfl
  have e5 : FP.Core.val64 (FP.ddiv (FP.i2d a) (FP.i2d b)) = FP.Core.quotient FP.Core.b64 (FP.Core.val64 (FP.i2d a)) (FP.Core.val64 (FP.i2d b)) := FP.Core.val64_ddiv _ _
  have e6 : FP.Core.val64 (FP.ddiv (FP.i2d a) (FP.i2d b)) = .fin false 0 FP.Core.b64.qmin := by
    rw [e5, e1, e3]
    show (if d = 0 then _ else FP.Core.roundRatio FP.Core.b64 (false != false) 0 d (FP.Core.b64.qmin - r)) = _
    rw [if_neg (by omega)]
    exact if_pos rfl
  refine ⟨⟨_, _, e6⟩, ?_⟩
  rw [fl_d2f e6]
  show FP.Core.roundRatio FP.Core.b32 false 0 1 _ = _
  unfold FP.Core.roundRatio
  rw [if_pos rfl]
  rfl
/-- all that shareBits needs -/
theorem fl_all {m t : Int} (hm : 0 ≤ m ∧ m ≤ t) (ht : 0 < t ∧ t ≤ 10000) : vf_n64 (FP.ddiv (FP.i2d (iI m)) (FP.i2d (iI t))) ∧ vf_n32 (FP.d2f (FP.ddiv (FP.i2d (iI m)) (FP.i2d (iI t)))) ∧ FP.fcmp (FP.d2f (FP.ddiv (FP.i2d (iI m)) (FP.i2d (iI t)))) (FP.d2f (FP.ddiv (FP.i2d (iI m)) (FP.i2d (iI t)))) = some .eq ∧ (FP.d2f (FP.ddiv (FP.i2d (iI m)) (FP.i2d (iI t)))).toInt32 = iI (bqF m t) := by
  have ha := iI_toInt (z := m) ⟨by omega, by omega⟩
  have hb := iI_toInt (z := t) ⟨by omega, by omega⟩
  obtain ⟨T, rfl⟩ : ∃ T : Nat, t = T := ⟨t.toNat, by omega⟩
  by_cases c0 : m = 0
  · subst c0
    obtain ⟨⟨c, q, k1⟩, k2⟩ := fl_zero ha hb (by omega)
    refine ⟨fl_n64 k1, fl_n32 k2, fl_self k2, ?_⟩
    rw [fl_bits k2]
    unfold bqF
    rw [if_neg (by omega)]
    rfl
  · obtain ⟨M, rfl⟩ : ∃ M : Nat, m = M := ⟨m.toNat, by omega⟩
    obtain ⟨e, g1, g2, g3, g4⟩ := bqL_e (m := (M : Int)) (t := (T : Int)) (by omega) (by omega) 14 M (by omega) (by omega) (by omega) 127 (by omega)
    have p2 : (M : Int) * 2 ^ e = ((M * 2 ^ e : Nat) : Int) := by rw [Int.natCast_mul, Int.natCast_pow]; rfl
    rw [p2] at g2 g3 g4
    obtain ⟨⟨c, q, k1⟩, k2, k3, k4⟩ := fl_pos (e := e) ha hb ⟨by omega, by omega⟩ ⟨by omega, by omega⟩ (by omega) (by omega) g1
    refine ⟨fl_n64 k1, fl_n32 k2, fl_self k2, ?_⟩
    rw [fl_bits k2]
    congr 1
    unfold bqF
    rw [if_pos (by omega), g2]
    have e9 : (2 * (((M * 2 ^ e : Nat) : Int) * 8388608) + (T : Int)) / (2 * (T : Int)) = (((2 * (8388608 * (M * 2 ^ e)) + T) / (2 * T) : Nat) : Int) := by
      rw [Int.natCast_ediv]
      congr 1
      omega
    show ((FP.Core.encode FP.Core.b32 (.fin false ((2 * (8388608 * (M * 2 ^ e)) + T) / (2 * T)) (-((23 + e : Nat) : Int))) : Nat) : Int) = (((127 - e : Nat) : Int) - 1) * 8388608 + (2 * (((M * 2 ^ e : Nat) : Int) * 8388608) + (T : Int)) / (2 * (T : Int))
    rw [e9]
    generalize (2 * (8388608 * (M * 2 ^ e)) + T) / (2 * T) = n at k3 k4 ⊢
    have t32 : FP.Core.b32.tails = 8388608 := by decide
    have q32 : FP.Core.b32.qmin = -149 := by decide
    unfold FP.Core.encode FP.Core.assemble
    dsimp only
    rw [t32, q32, if_neg (by omega), show (-((23 + e : Nat) : Int) - -149).toNat + 1 = 127 - e by omega]
    show (((0 * _ + (127 - e)) * 8388608 + (n - 8388608) : Nat) : Int) = _
    omega
