/-! RangeDeeds: a quotient as the bits of a float -/
theorem jJ_lt {a b : Int} (ha : jR a) (hb : jR b) : jJ a < jJ b ↔ a < b := by rw [Int64.lt_iff_toInt_lt, jJ_toInt ha, jJ_toInt hb]
theorem jJ_eq {a b : Int} (ha : jR a) (hb : jR b) : jJ a = jJ b ↔ a = b := by
  constructor
  · intro h
    have := congrArg Int64.toInt h
    rwa [jJ_toInt ha, jJ_toInt hb] at this
  · intro h; rw [h]
theorem jJ_div {a b : Int} (h0 : 0 ≤ a) (hb : 0 < b) (ha2 : a < 2 ^ 62) (hb2 : b < 2 ^ 62) : jJ a / jJ b = jJ (a / b) := by
  apply Int64.toInt_inj.mp
  have ra : jR a := ⟨by omega, by omega⟩
  have rb : jR b := ⟨by omega, by omega⟩
  have hq := Int.ediv_nonneg h0 (Int.le_of_lt hb)
  have hq2 := Int.ediv_le_self b h0
  have rq : jR (a / b) := ⟨by omega, by omega⟩
  rw [Int64.toInt_div, jJ_toInt ra, jJ_toInt rb, jJ_toInt rq, Int.tdiv_eq_ediv_of_nonneg h0, Int.bmod_eq_of_le (by omega) (by omega)]
theorem jJ_shl23 {a : Int} (h0 : 0 ≤ a) : jJ a <<< ((iI 23).toInt64 &&& 63) = jJ (a * 8388608) := by
  obtain ⟨n, rfl⟩ : ∃ n : Nat, a = n := ⟨a.toNat, by omega⟩
  have e : jJ ((n : Int) * 8388608) = lN (n * 2 ^ 23) := by rw [← jJ_lN]; congr 1
  rw [e, jJ_lN]
  have wc : ((iI 23).toInt64 &&& 63) = lN 23 := by decide +kernel
  rw [wc]
  apply wb_inj
  rw [Int64.toBitVec_shiftLeft, wb_tb, wb_tb, wb_tb, wb_sm 23 (by decide)]
  apply BitVec.eq_of_toNat_eq
  rw [BitVec.shiftLeft_eq', BitVec.toNat_shiftLeft, BitVec.toNat_ofNat, BitVec.toNat_ofNat, BitVec.toNat_ofNat, Nat.mod_eq_of_lt (show 23 < 2 ^ 64 by omega), Nat.shiftLeft_eq, Nat.mul_mod, Nat.mod_mod, ← Nat.mul_mod]
theorem iI_shl23 : ∀ e : Nat, e < 128 → iI ((e : Int) - 1) <<< (iI 23 &&& 31) = iI (((e : Int) - 1) * 8388608) := by decide +kernel
theorem jJ_int {a : Int} (h0 : 0 ≤ a) : (jJ a).toInt32 = iI a := by
  obtain ⟨n, rfl⟩ : ∃ n : Nat, a = n := ⟨a.toNat, by omega⟩
  rw [jJ_lN, lN_int]
/-- doubled until it is not less: (the number; what is left of the steps) -/
def bqL (t : Int) : Nat → Int → Int × Nat
  | 0, c => (c, 0)
  | e + 1, c => if c < t then bqL t e (c * 2) else (c, e + 1)
theorem bqL_b {t : Int} : ∀ (e : Nat) (c : Int), 0 < c → c < 2 * t → 0 < (bqL t e c).1 ∧ (bqL t e c).1 < 2 * t ∧ (bqL t e c).2 ≤ e := by
  intro e
  induction e with
  | zero => intro c h1 h2; exact ⟨h1, h2, Nat.le_refl _⟩
  | succ e ih =>
    intro c h1 h2
    unfold bqL
    split
    · have := ih (c * 2) (by omega) (by omega); omega
    · exact ⟨h1, h2, Nat.le_refl _⟩
def bqF (m t : Int) : Int := if 0 < m ∧ 0 < t ∧ m ≤ t then (((bqL t 127 m).2 : Int) - 1) * 8388608 + (2 * ((bqL t 127 m).1 * 8388608) + t) / (2 * t) else 0
theorem m_X6_bitsOfQuotient {l : Launch} {G : xG} {w : Wd} {z : Nat} {m t : Int} (hm : iR m) (ht : -1000000 ≤ t ∧ t ≤ 1000000) : xMet l G yX6_bitsOfQuotient cX6_bitsOfQuotient 7 (some .int) ({ frames := 0, cells := 0, slots := 0, locals := 0 } : Room) [.int (iI m), .int (iI t)] w z (rI (bqF m t) w z) := by
  refine xMet_of RX6 rfl (by decide +kernel) false (by decide +kernel) (Nat.le_of_ble_eq_true rfl) rfl ?_
  intro P hM hR
  by_cases h0 : 0 < m ∧ 0 < t ∧ m ≤ t
  · have K : ∀ (e : Nat) (c : Int) (x5 x6 : Option Value), e < 128 → 0 < c → c < 2 * t → bqL t e c = bqL t 127 m → P 22 [some (.int (iI m)), some (.int (iI t)), some (.long (jJ c)), none, some (.int (iI e)), x5, x6] [] w (z, 0, 0) := by
      intro e
      induction e with
      | zero =>
        intro c x5 x6 he h1 h2 hinv
        have hr : (bqL t 127 m) = (c, 0) := by rw [← hinv]; rfl
        refine x_lload_n hM dX6_bitsOfQuotient_22 rfl rfl ?_
        refine x_iload_n hM dX6_bitsOfQuotient_23 rfl rfl ?_
        refine x_i2l hM dX6_bitsOfQuotient_24 ?_
        rw [iI_long (by omega)]
        refine x_lcmp hM dX6_bitsOfQuotient_25 (fun z_25 z_25r z_25l z_25e => ?_)
        refine x_if_ge (tgt := 46) hM dX6_bitsOfQuotient_26 (by decide) (by omega) (fun c_26 => ?_) (fun c_26 => ?_)
        · refine x_lload_n hM dX6_bitsOfQuotient_46 rfl rfl ?_
          refine x_bipush hM dX6_bitsOfQuotient_47 rfl ?_
          refine x_lshl hM dX6_bitsOfQuotient_49 (jJ_shl23 (by omega)) ?_
          refine x_lstore_n hM dX6_bitsOfQuotient_50 rfl rfl (Nat.le_of_ble_eq_true rfl) rfl ?_
          refine x_ldc2 hM dX6_bitsOfQuotient_51 wc_X6_316 ?_
          refine x_lload_n hM dX6_bitsOfQuotient_54 rfl rfl ?_
          refine x_lmul hM dX6_bitsOfQuotient_55 ?_
          refine x_iload_n hM dX6_bitsOfQuotient_56 rfl rfl ?_
          refine x_i2l hM dX6_bitsOfQuotient_57 ?_
          rw [iI_long (by omega), jJ_mul]
          refine x_ladd hM dX6_bitsOfQuotient_58 ?_
          rw [jJ_add]
          refine x_ldc2 hM dX6_bitsOfQuotient_59 wc_X6_316 ?_
          refine x_iload_n hM dX6_bitsOfQuotient_62 rfl rfl ?_
          refine x_i2l hM dX6_bitsOfQuotient_63 ?_
          rw [iI_long (by omega)]
          refine x_lmul hM dX6_bitsOfQuotient_64 ?_
          rw [jJ_mul]
          refine x_ldiv hM dX6_bitsOfQuotient_65 (fun q => by have := (jJ_eq (a := 2 * t) (b := 0) (by omega) (by omega)).mp q; omega) ?_
          rw [jJ_div (by omega) (by omega) (by omega) (by omega)]
          refine x_lstore hM dX6_bitsOfQuotient_66 rfl (Nat.le_of_ble_eq_true rfl) rfl ?_
          refine x_iload hM dX6_bitsOfQuotient_68 rfl ?_
          refine x_iconst hM dX6_bitsOfQuotient_70 ?_
          refine x_isub hM dX6_bitsOfQuotient_71 ?_
          refine x_bipush hM dX6_bitsOfQuotient_72 rfl ?_
          refine x_ishl hM dX6_bitsOfQuotient_74 (iI_shl23 _ he) ?_
          refine x_lload hM dX6_bitsOfQuotient_75 rfl ?_
          refine x_l2i hM dX6_bitsOfQuotient_77 ?_
          rw [jJ_int (Int.ediv_nonneg (by omega) (by omega))]
          refine x_iadd hM dX6_bitsOfQuotient_78 ?_
          refine hR.i dX6_bitsOfQuotient_79 (Nat.zero_le _) (Nat.zero_le _) ?_
          exact p_rI (by unfold bqF; rw [if_pos h0, hr])
        · refine x_iload hM dX6_bitsOfQuotient_29 rfl ?_
          refine x_if_le (tgt := 46) hM dX6_bitsOfQuotient_31 (by decide) (by omega) (fun c_31 => ?_) (fun c_31 => ?_)
          · refine x_lload_n hM dX6_bitsOfQuotient_46 rfl rfl ?_
            refine x_bipush hM dX6_bitsOfQuotient_47 rfl ?_
            refine x_lshl hM dX6_bitsOfQuotient_49 (jJ_shl23 (by omega)) ?_
            refine x_lstore_n hM dX6_bitsOfQuotient_50 rfl rfl (Nat.le_of_ble_eq_true rfl) rfl ?_
            refine x_ldc2 hM dX6_bitsOfQuotient_51 wc_X6_316 ?_
            refine x_lload_n hM dX6_bitsOfQuotient_54 rfl rfl ?_
            refine x_lmul hM dX6_bitsOfQuotient_55 ?_
            refine x_iload_n hM dX6_bitsOfQuotient_56 rfl rfl ?_
            refine x_i2l hM dX6_bitsOfQuotient_57 ?_
            rw [iI_long (by omega), jJ_mul]
            refine x_ladd hM dX6_bitsOfQuotient_58 ?_
            rw [jJ_add]
            refine x_ldc2 hM dX6_bitsOfQuotient_59 wc_X6_316 ?_
            refine x_iload_n hM dX6_bitsOfQuotient_62 rfl rfl ?_
            refine x_i2l hM dX6_bitsOfQuotient_63 ?_
            rw [iI_long (by omega)]
            refine x_lmul hM dX6_bitsOfQuotient_64 ?_
            rw [jJ_mul]
            refine x_ldiv hM dX6_bitsOfQuotient_65 (fun q => by have := (jJ_eq (a := 2 * t) (b := 0) (by omega) (by omega)).mp q; omega) ?_
            rw [jJ_div (by omega) (by omega) (by omega) (by omega)]
            refine x_lstore hM dX6_bitsOfQuotient_66 rfl (Nat.le_of_ble_eq_true rfl) rfl ?_
            refine x_iload hM dX6_bitsOfQuotient_68 rfl ?_
            refine x_iconst hM dX6_bitsOfQuotient_70 ?_
            refine x_isub hM dX6_bitsOfQuotient_71 ?_
            refine x_bipush hM dX6_bitsOfQuotient_72 rfl ?_
            refine x_ishl hM dX6_bitsOfQuotient_74 (iI_shl23 _ he) ?_
            refine x_lload hM dX6_bitsOfQuotient_75 rfl ?_
            refine x_l2i hM dX6_bitsOfQuotient_77 ?_
            rw [jJ_int (Int.ediv_nonneg (by omega) (by omega))]
            refine x_iadd hM dX6_bitsOfQuotient_78 ?_
            refine hR.i dX6_bitsOfQuotient_79 (Nat.zero_le _) (Nat.zero_le _) ?_
            exact p_rI (by unfold bqF; rw [if_pos h0, hr])
          · exfalso; omega
      | succ e ih =>
        intro c x5 x6 he h1 h2 hinv
        have hlt := jJ_lt (a := c) (b := t) (by omega) (by omega)
        by_cases hc : c < t
        · skip
          have e1 : bqL t (e + 1) c = bqL t e (c * 2) := if_pos hc
          refine x_lload_n hM dX6_bitsOfQuotient_22 rfl rfl ?_
          refine x_iload_n hM dX6_bitsOfQuotient_23 rfl rfl ?_
          refine x_i2l hM dX6_bitsOfQuotient_24 ?_
          rw [iI_long (by omega)]
          refine x_lcmp hM dX6_bitsOfQuotient_25 (fun z_25 z_25r z_25l z_25e => ?_)
          have hz : z_25 < 0 := z_25l.mpr (hlt.mpr hc)
          refine x_if_ge (tgt := 46) hM dX6_bitsOfQuotient_26 (by decide) (by omega) (fun c_26 => ?_) (fun c_26 => ?_)
          · exfalso; omega
          · refine x_iload hM dX6_bitsOfQuotient_29 rfl ?_
            refine x_if_le (tgt := 46) hM dX6_bitsOfQuotient_31 (by decide) (by omega) (fun c_31 => ?_) (fun c_31 => ?_)
            · exfalso; omega
            · refine x_lload_n hM dX6_bitsOfQuotient_34 rfl rfl ?_
              refine x_ldc2 hM dX6_bitsOfQuotient_35 wc_X6_316 ?_
              refine x_lmul hM dX6_bitsOfQuotient_38 ?_
              rw [jJ_mul]
              refine x_lstore_n hM dX6_bitsOfQuotient_39 rfl rfl (Nat.le_of_ble_eq_true rfl) rfl ?_
              refine x_iinc hM dX6_bitsOfQuotient_40 rfl rfl rfl ?_
              refine x_goto (tgt := 22) hM dX6_bitsOfQuotient_43 (by decide) ?_
              have q := ih (c * 2) x5 x6 (by omega) (by omega) (by omega) (by rw [← e1]; exact hinv)
              rw [show ((e + 1 : Nat) : Int) + -1 = (e : Int) by omega]
              exact q
        · skip
          have hr : (bqL t 127 m) = (c, e + 1) := by rw [← hinv]; exact if_neg hc
          refine x_lload_n hM dX6_bitsOfQuotient_22 rfl rfl ?_
          refine x_iload_n hM dX6_bitsOfQuotient_23 rfl rfl ?_
          refine x_i2l hM dX6_bitsOfQuotient_24 ?_
          rw [iI_long (by omega)]
          refine x_lcmp hM dX6_bitsOfQuotient_25 (fun z_25 z_25r z_25l z_25e => ?_)
          have hz : ¬ z_25 < 0 := fun q => hc (hlt.mp (z_25l.mp q))
          refine x_if_ge (tgt := 46) hM dX6_bitsOfQuotient_26 (by decide) (by omega) (fun c_26 => ?_) (fun c_26 => ?_)
          · refine x_lload_n hM dX6_bitsOfQuotient_46 rfl rfl ?_
            refine x_bipush hM dX6_bitsOfQuotient_47 rfl ?_
            refine x_lshl hM dX6_bitsOfQuotient_49 (jJ_shl23 (by omega)) ?_
            refine x_lstore_n hM dX6_bitsOfQuotient_50 rfl rfl (Nat.le_of_ble_eq_true rfl) rfl ?_
            refine x_ldc2 hM dX6_bitsOfQuotient_51 wc_X6_316 ?_
            refine x_lload_n hM dX6_bitsOfQuotient_54 rfl rfl ?_
            refine x_lmul hM dX6_bitsOfQuotient_55 ?_
            refine x_iload_n hM dX6_bitsOfQuotient_56 rfl rfl ?_
            refine x_i2l hM dX6_bitsOfQuotient_57 ?_
            rw [iI_long (by omega), jJ_mul]
            refine x_ladd hM dX6_bitsOfQuotient_58 ?_
            rw [jJ_add]
            refine x_ldc2 hM dX6_bitsOfQuotient_59 wc_X6_316 ?_
            refine x_iload_n hM dX6_bitsOfQuotient_62 rfl rfl ?_
            refine x_i2l hM dX6_bitsOfQuotient_63 ?_
            rw [iI_long (by omega)]
            refine x_lmul hM dX6_bitsOfQuotient_64 ?_
            rw [jJ_mul]
            refine x_ldiv hM dX6_bitsOfQuotient_65 (fun q => by have := (jJ_eq (a := 2 * t) (b := 0) (by omega) (by omega)).mp q; omega) ?_
            rw [jJ_div (by omega) (by omega) (by omega) (by omega)]
            refine x_lstore hM dX6_bitsOfQuotient_66 rfl (Nat.le_of_ble_eq_true rfl) rfl ?_
            refine x_iload hM dX6_bitsOfQuotient_68 rfl ?_
            refine x_iconst hM dX6_bitsOfQuotient_70 ?_
            refine x_isub hM dX6_bitsOfQuotient_71 ?_
            refine x_bipush hM dX6_bitsOfQuotient_72 rfl ?_
            refine x_ishl hM dX6_bitsOfQuotient_74 (iI_shl23 _ he) ?_
            refine x_lload hM dX6_bitsOfQuotient_75 rfl ?_
            refine x_l2i hM dX6_bitsOfQuotient_77 ?_
            rw [jJ_int (Int.ediv_nonneg (by omega) (by omega))]
            refine x_iadd hM dX6_bitsOfQuotient_78 ?_
            refine hR.i dX6_bitsOfQuotient_79 (Nat.zero_le _) (Nat.zero_le _) ?_
            exact p_rI (by unfold bqF; rw [if_pos h0, hr])
          · exfalso; omega
    refine x_iload_n hM dX6_bitsOfQuotient_0 rfl rfl ?_
    refine x_if_le (tgt := 13) hM dX6_bitsOfQuotient_1 (by decide) (by omega) (fun c_1 => ?_) (fun c_1 => ?_)
    · exfalso; omega
    · refine x_iload_n hM dX6_bitsOfQuotient_4 rfl rfl ?_
      refine x_if_le (tgt := 13) hM dX6_bitsOfQuotient_5 (by decide) (by omega) (fun c_5 => ?_) (fun c_5 => ?_)
      · exfalso; omega
      · refine x_iload_n hM dX6_bitsOfQuotient_8 rfl rfl ?_
        refine x_iload_n hM dX6_bitsOfQuotient_9 rfl rfl ?_
        refine x_icmp_le (tgt := 15) hM dX6_bitsOfQuotient_10 (by decide) (by omega) (by omega) (fun c_10 => ?_) (fun c_10 => ?_)
        · refine x_iload_n hM dX6_bitsOfQuotient_15 rfl rfl ?_
          refine x_i2l hM dX6_bitsOfQuotient_16 ?_
          rw [iI_long (by omega)]
          refine x_lstore_n hM dX6_bitsOfQuotient_17 rfl rfl (Nat.le_of_ble_eq_true rfl) rfl ?_
          refine x_bipush hM dX6_bitsOfQuotient_18 rfl ?_
          refine x_istore hM dX6_bitsOfQuotient_20 rfl (Nat.le_of_ble_eq_true rfl) rfl ?_
          exact K 127 m _ _ (by omega) (by omega) (by omega) rfl
        · exfalso; omega
  · skip
    refine x_iload_n hM dX6_bitsOfQuotient_0 rfl rfl ?_
    refine x_if_le (tgt := 13) hM dX6_bitsOfQuotient_1 (by decide) (by omega) (fun c_1 => ?_) (fun c_1 => ?_)
    · refine x_iconst hM dX6_bitsOfQuotient_13 ?_
      refine hR.i dX6_bitsOfQuotient_14 (Nat.zero_le _) (Nat.zero_le _) ?_
      exact p_rI (if_neg h0).symm
    · refine x_iload_n hM dX6_bitsOfQuotient_4 rfl rfl ?_
      refine x_if_le (tgt := 13) hM dX6_bitsOfQuotient_5 (by decide) (by omega) (fun c_5 => ?_) (fun c_5 => ?_)
      · refine x_iconst hM dX6_bitsOfQuotient_13 ?_
        refine hR.i dX6_bitsOfQuotient_14 (Nat.zero_le _) (Nat.zero_le _) ?_
        exact p_rI (if_neg h0).symm
      · refine x_iload_n hM dX6_bitsOfQuotient_8 rfl rfl ?_
        refine x_iload_n hM dX6_bitsOfQuotient_9 rfl rfl ?_
        refine x_icmp_le (tgt := 15) hM dX6_bitsOfQuotient_10 (by decide) (by omega) (by omega) (fun c_10 => ?_) (fun c_10 => ?_)
        · exfalso; omega
        · refine x_iconst hM dX6_bitsOfQuotient_13 ?_
          refine hR.i dX6_bitsOfQuotient_14 (Nat.zero_le _) (Nat.zero_le _) ?_
          exact p_rI (if_neg h0).symm
