/-! bits of longs (from the kit's texts to paste), and rows that were wanting -/
theorem wb_tb (n : Nat) : (lN n).toBitVec = BitVec.ofNat 64 n := rfl
theorem wb_inj {a b : Int64} (h : a.toBitVec = b.toBitVec) : a = b := Int64.toBitVec_inj.mp h
theorem wb_tn {n : Nat} (h : n < 2 ^ 64) : (lN n).toBitVec.toNat = n := by rw [wb_tb, BitVec.toNat_ofNat, Nat.mod_eq_of_lt h]
theorem wb_of (x : Int64) : ∃ n, n < 2 ^ 64 ∧ x = lN n := ⟨x.toBitVec.toNat, x.toBitVec.isLt, wb_inj (by rw [wb_tb]; simp)⟩
theorem wb_c : ∀ k, k < 64 → ((nI k).toInt64 &&& 63) = lN k := by decide +kernel
theorem wb_cu : ∀ k, k < 64 → ((nI k).toInt64.toUInt64 &&& Int64.toUInt64 63) = UInt64.ofNat k := by decide +kernel
theorem wb_sm : ∀ k, k < 64 → (BitVec.ofNat 64 k).smod 64 = BitVec.ofNat 64 k := by decide +kernel
theorem wb_pw {a b : Nat} (h : a ≤ b) : 2 ^ b = 2 ^ a * 2 ^ (b - a) := by rw [← Nat.pow_add]; congr 1; omega
theorem wb_lt2 {a b : Nat} (h : a < b) : 2 ^ a < 2 ^ b := Nat.pow_lt_pow_right (by decide) h
theorem wb_mod (n : Nat) : lN n = lN (n % 2 ^ 64) := wb_inj (by rw [wb_tb, wb_tb]; apply BitVec.eq_of_toNat_eq; rw [BitVec.toNat_ofNat, BitVec.toNat_ofNat, Nat.mod_mod])
theorem wb_shr {n k : Nat} (hn : n < 2 ^ 64) (hk : k < 64) : ((lN n).toUInt64 >>> ((nI k).toInt64.toUInt64 &&& Int64.toUInt64 63)).toInt64 = lN (n / 2 ^ k) := by
  rw [wb_cu k hk]
  apply wb_inj
  apply BitVec.eq_of_toNat_eq
  show ((lN n).toUInt64 >>> UInt64.ofNat k).toNat = (BitVec.ofNat 64 _).toNat
  have h1 : (UInt64.ofNat k).toNat = k := by
    show (BitVec.ofNat 64 k).toNat = k
    rw [BitVec.toNat_ofNat, Nat.mod_eq_of_lt (by omega)]
  have h2 : (lN n).toUInt64.toNat = n := wb_tn hn
  rw [UInt64.toNat_shiftRight, h1, h2, Nat.mod_eq_of_lt hk, Nat.shiftRight_eq_div_pow, BitVec.toNat_ofNat, Nat.mod_eq_of_lt (Nat.lt_of_le_of_lt (Nat.div_le_self _ _) hn)]
theorem wb_and {a b : Nat} (ha : a < 2 ^ 64) (hb : b < 2 ^ 64) : lN a &&& lN b = lN (a &&& b) := by
  apply wb_inj
  rw [Int64.toBitVec_and, wb_tb, wb_tb, wb_tb]
  apply BitVec.eq_of_toNat_eq
  rw [BitVec.toNat_and, BitVec.toNat_ofNat, BitVec.toNat_ofNat, BitVec.toNat_ofNat, Nat.mod_eq_of_lt ha, Nat.mod_eq_of_lt hb, Nat.mod_eq_of_lt (Nat.and_lt_two_pow _ hb)]
theorem wb_or {a b : Nat} (ha : a < 2 ^ 64) (hb : b < 2 ^ 64) : lN a ||| lN b = lN (a ||| b) := by
  apply wb_inj
  rw [Int64.toBitVec_or, wb_tb, wb_tb, wb_tb]
  apply BitVec.eq_of_toNat_eq
  rw [BitVec.toNat_or, BitVec.toNat_ofNat, BitVec.toNat_ofNat, BitVec.toNat_ofNat, Nat.mod_eq_of_lt ha, Nat.mod_eq_of_lt hb, Nat.mod_eq_of_lt (Nat.or_lt_two_pow ha hb)]
theorem wb_mask {n k : Nat} (hn : n < 2 ^ 64) (hk : k < 64) : lN n &&& lN (2 ^ k - 1) = lN (n % 2 ^ k) := by
  rw [wb_and hn (by have := wb_lt2 hk; omega), Nat.and_two_pow_sub_one_eq_mod]
theorem shr8 {n : Nat} (hn : n < 2 ^ 64) : ((lN n).toUInt64 >>> ((iI 8).toInt64.toUInt64 &&& Int64.toUInt64 63)).toInt64 = lN (n / 256) := by
  have h := wb_shr (n := n) (k := 8) hn (by decide)
  exact h
theorem and255 {n : Nat} (hn : n < 2 ^ 64) : lN n &&& jJ 255 = lN (n % 256) := wb_mask (n := n) (k := 8) hn (by decide)
theorem lN_0 {n : Nat} (hn : n < 2 ^ 64) : lN n = jJ 0 ↔ n = 0 := by
  constructor
  · intro h
    have h2 : (lN n).toBitVec.toNat = (lN 0).toBitVec.toNat := congrArg (fun x : Int64 => x.toBitVec.toNat) h
    rw [wb_tn hn, wb_tn (by omega)] at h2
    exact h2
  · intro h; subst h; rfl
theorem lN_jlt {a b : Nat} (ha : a < 2 ^ 31) (hb : b < 2 ^ 31) : lN a < jJ b ↔ a < b := by
  have e : jJ b = lN b := by unfold jJ lN; rw [Int64.ofInt_eq_ofNat]
  rw [e]
  exact lN_lt ha hb
theorem jJ_lN (b : Nat) : jJ b = lN b := by unfold jJ lN; rw [Int64.ofInt_eq_ofNat]
theorem lN_int (n : Nat) : (lN n).toInt32 = iI n := (lN_i n).trans (iI_nat n)
section XB
variable {own : String} {cc : ByteArray} {nL : Nat} {R : Room} {l : Launch} {G : xG} {ct : Bool} {P : xT} {pc : Nat} {ls : List (Option Value)} {st : List Value} {w : Wd} {a : Nat × Nat × Nat}
theorem x_i2c (h : xM own cc nL R l G ct P) {x : Int} (hx0 : 0 ≤ x ∧ x < 65536) (d : decode cc pc = .ok (.i2c, 1)) (k : P (pc + 1) ls (.int (iI x) :: st) w a) : P pc ls (.int (iI x) :: st) w a := by
  obtain ⟨p, e, s, m, args, below, meth, c, Q, ⟨hx, hb, hml, hown, hts⟩, hK, hct, rfl⟩ := h
  intro H locs lsA h1 h2 h3 h4 h5
  refine lv_i2c (v := iI x) hx hb d ?_ (k H locs lsA h1 h2 h3 h4 h5)
  have e2 : iI x = nI x.toNat := by rw [show nI x.toNat = iI (x.toNat : Int) from iI_nat _]; congr 1; omega
  rw [e2]
  first | exact pk_char _ |>.trans (by rw [pk_tn (by omega)]; congr 1; omega) | (have := pk_char (nI x.toNat); rw [pk_tn (by omega), Nat.mod_eq_of_lt (by omega)] at this; exact this)
end XB
