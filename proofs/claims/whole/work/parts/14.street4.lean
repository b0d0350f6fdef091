/-! Street: questions of pieces -/
/-- how many meters of the piece [a, a + n) a range has -/
def ovF (s : Sg) (a n : Int) : Int :=
  if (if a + n < s.2.2 then a + n else s.2.2) - (if s.2.1 < a then a else s.2.1) < 0 then 0 else (if a + n < s.2.2 then a + n else s.2.2) - (if s.2.1 < a then a else s.2.1)
theorem ovF_b {s : Sg} {a n : Int} (h : okS s) (ha : 0 ≤ a ∧ 0 ≤ n) : 0 ≤ ovF s a n ∧ ovF s a n ≤ 10000 := by
  unfold ovF
  omega
theorem m_X5_overlap {l : Launch} {G : xG} {w : Wd} {z a i : Nat} {L : List Sg} {f n : Int} (h1 : strA G w a L) (hi : i < L.length) (hf : 0 ≤ f ∧ f ≤ 10000 ∧ 0 ≤ n ∧ n ≤ 10000) : xMet l G yX5_overlap cX5_overlap 6 (some .int) ({ frames := 1, cells := 0, slots := 0, locals := 21 } : Room) [.ref a, .int (iI i), .int (iI f), .int (iI n)] w z (rI (ovF L[i] f n) w z) := by
  obtain ⟨hW, fo, fs, fl, fr, fm, hs, hL⟩ := h1
  have hW1 := hW.1
  obtain ⟨e1, e2, e3⟩ := hL.1 i hi
  have hok := strW_at hW hi
  have e4 : fs i + fl i = L[i].2.2 := by omega
  refine xMet_of RX5 rfl (by decide +kernel) false (by decide +kernel) (Nat.le_of_ble_eq_true rfl) rfl ?_
  intro P hM hR
  refine x_aload_n hM dX5_overlap_0 rfl rfl ?_
  refine x_get hM wf_X5_20 wl_X5 (by first | assumption | exact str_o (by assumption) | exact str_a (by assumption)) rfl dX5_overlap_1 ?_
  refine x_iload_n hM dX5_overlap_4 rfl rfl ?_
  refine x_callV hM wv_X5_43 (m_X4_at (by first | assumption | exact sr1 (by assumption) | exact sr2 (by assumption) | exact sr3 (by assumption) | exact sr4 (by assumption) | exact sr5 (by assumption) | exact rg1 (by assumption) | exact rg2 (by assumption) | exact rg3 (by assumption)) (by omega)) ⟨Nat.le_of_ble_eq_true rfl, Nat.le_of_ble_eq_true rfl⟩ (by first | assumption | exact row_o (by first | assumption | exact sr1 (by assumption) | exact sr2 (by assumption) | exact sr3 (by assumption) | exact sr4 (by assumption) | exact sr5 (by assumption) | exact rg1 (by assumption) | exact rg2 (by assumption) | exact rg3 (by assumption))) rfl rfl rfl rfl (Nat.le_of_ble_eq_true rfl) ⟨Nat.le_of_ble_eq_true rfl, Nat.le_of_ble_eq_true rfl⟩ dX5_overlap_5 (k_rI ?_)
  refine x_istore hM dX5_overlap_8 rfl (Nat.le_of_ble_eq_true rfl) rfl ?_
  refine x_iload hM dX5_overlap_10 rfl ?_
  refine x_aload_n hM dX5_overlap_12 rfl rfl ?_
  refine x_get hM wf_X5_23 wl_X5 (by first | assumption | exact str_o (by assumption) | exact str_a (by assumption)) rfl dX5_overlap_13 ?_
  refine x_iload_n hM dX5_overlap_16 rfl rfl ?_
  refine x_callV hM wv_X5_43 (m_X4_at (by first | assumption | exact sr1 (by assumption) | exact sr2 (by assumption) | exact sr3 (by assumption) | exact sr4 (by assumption) | exact sr5 (by assumption) | exact rg1 (by assumption) | exact rg2 (by assumption) | exact rg3 (by assumption)) (by omega)) ⟨Nat.le_of_ble_eq_true rfl, Nat.le_of_ble_eq_true rfl⟩ (by first | assumption | exact row_o (by first | assumption | exact sr1 (by assumption) | exact sr2 (by assumption) | exact sr3 (by assumption) | exact sr4 (by assumption) | exact sr5 (by assumption) | exact rg1 (by assumption) | exact rg2 (by assumption) | exact rg3 (by assumption))) rfl rfl rfl rfl (Nat.le_of_ble_eq_true rfl) ⟨Nat.le_of_ble_eq_true rfl, Nat.le_of_ble_eq_true rfl⟩ dX5_overlap_17 (k_rI ?_)
  refine x_iadd hM dX5_overlap_20 ?_
  refine x_istore hM dX5_overlap_21 rfl (Nat.le_of_ble_eq_true rfl) rfl ?_
  refine x_iload hM dX5_overlap_23 rfl ?_
  refine x_iload_n hM dX5_overlap_25 rfl rfl ?_
  refine x_iload_n hM dX5_overlap_26 rfl rfl ?_
  refine x_iadd hM dX5_overlap_27 ?_
  rw [e4]
  refine x_min hM wm_X5_62 (by omega) (by omega) (Nat.le_of_ble_eq_true rfl) (Nat.le_of_ble_eq_true rfl) ⟨Nat.le_of_ble_eq_true rfl, Nat.le_of_ble_eq_true rfl⟩ dX5_overlap_28 ?_
  refine x_iload hM dX5_overlap_31 rfl ?_
  refine x_iload_n hM dX5_overlap_33 rfl rfl ?_
  rw [e2]
  refine x_max hM wm_X5_72 (by omega) (by omega) (Nat.le_of_ble_eq_true rfl) (Nat.le_of_ble_eq_true rfl) ⟨Nat.le_of_ble_eq_true rfl, Nat.le_of_ble_eq_true rfl⟩ dX5_overlap_34 ?_
  refine x_isub hM dX5_overlap_37 ?_
  refine x_iconst hM dX5_overlap_38 ?_
  refine x_max hM wm_X5_72 (by omega) (by omega) (Nat.le_of_ble_eq_true rfl) (Nat.le_of_ble_eq_true rfl) ⟨Nat.le_of_ble_eq_true rfl, Nat.le_of_ble_eq_true rfl⟩ dX5_overlap_39 ?_
  refine hR.i dX5_overlap_42 (Nat.zero_le _) (Nat.zero_le _) ?_
  exact p_rI rfl
def mtwS (o a n : Int) (c : Int) (s : Sg) : Int := if s.1 = o then c + ovF s a n else c
def mtwF (L : List Sg) (o a n : Int) : Int := L.foldl (mtwS o a n) 0
theorem m_X5_metersWithin {l : Launch} {G : xG} {w : Wd} {z a : Nat} {L : List Sg} {o f n : Int} (h1 : strA G w a L) (ho : iR o) (hf : 0 ≤ f ∧ f ≤ 10000 ∧ 0 ≤ n ∧ n ≤ 10000) : xMet l G yX5_metersWithin cX5_metersWithin 6 (some .int) ({ frames := 2, cells := 0, slots := 0, locals := 46 } : Room) [.ref a, .int (iI o), .int (iI f), .int (iI n)] w z (rI (mtwF L o f n) w z) := by
  have h0 := h1
  obtain ⟨hW, fo, fs, fl, fr, fm, hs, hL⟩ := h1
  have hW1 := hW.1
  refine xMet_of RX5 rfl (by decide +kernel) false (by decide +kernel) (Nat.le_of_ble_eq_true rfl) rfl ?_
  intro P hM hR
  have K : ∀ (k i : Nat) (c : Int), L.length - i < k → i ≤ L.length → (L.drop i).foldl (mtwS o f n) c = mtwF L o f n → P 6 [some (.ref a), some (.int (iI o)), some (.int (iI f)), some (.int (iI n)), some (.int (iI c)), some (.int (iI i))] [] w (z, 0, 0) := by
    intro k
    induction k with
    | zero => intro i c hk; omega
    | succ k ih =>
      intro i c hk hi hinv
      by_cases hlt : i < L.length
      · obtain ⟨e1, e2, e3⟩ := hL.1 i hlt
        have hok := strW_at hW hlt
        rw [drop_fold _ _ hlt] at hinv
        refine x_iload hM dX5_metersWithin_6 rfl ?_
        refine x_aload_n hM dX5_metersWithin_8 rfl rfl ?_
        refine x_get hM wf_X5_36 wl_X5 (by first | assumption | exact str_o (by assumption) | exact str_a (by assumption)) rfl dX5_metersWithin_9 ?_
        refine x_icmp_ge (tgt := 47) hM dX5_metersWithin_12 (by decide) (by omega) (by omega) (fun c_12 => ?_) (fun c_12 => ?_)
        · exfalso; omega
        · refine x_aload_n hM dX5_metersWithin_15 rfl rfl ?_
          refine x_get hM wf_X5_14 wl_X5 (by first | assumption | exact str_o (by assumption) | exact str_a (by assumption)) rfl dX5_metersWithin_16 ?_
          refine x_iload hM dX5_metersWithin_19 rfl ?_
          refine x_callV hM wv_X5_43 (m_X4_at (by first | assumption | exact sr1 (by assumption) | exact sr2 (by assumption) | exact sr3 (by assumption) | exact sr4 (by assumption) | exact sr5 (by assumption) | exact rg1 (by assumption) | exact rg2 (by assumption) | exact rg3 (by assumption)) (by omega)) ⟨Nat.le_of_ble_eq_true rfl, Nat.le_of_ble_eq_true rfl⟩ (by first | assumption | exact row_o (by first | assumption | exact sr1 (by assumption) | exact sr2 (by assumption) | exact sr3 (by assumption) | exact sr4 (by assumption) | exact sr5 (by assumption) | exact rg1 (by assumption) | exact rg2 (by assumption) | exact rg3 (by assumption))) rfl rfl rfl rfl (Nat.le_of_ble_eq_true rfl) ⟨Nat.le_of_ble_eq_true rfl, Nat.le_of_ble_eq_true rfl⟩ dX5_metersWithin_21 (k_rI ?_)
          refine x_iload_n hM dX5_metersWithin_24 rfl rfl ?_
          refine x_icmp_ne (tgt := 41) hM dX5_metersWithin_25 (by decide) (by omega) (by omega) (fun c_25 => ?_) (fun c_25 => ?_)
          · refine x_iinc hM dX5_metersWithin_41 rfl rfl rfl ?_
            refine x_goto (tgt := 6) hM dX5_metersWithin_44 (by decide) ?_
            exact ih (i + 1) _ (by omega) (by omega) (by rw [← hinv]; first | rw [show mtwS o f n c L[i] = _ from if_pos (by omega)] | rw [show mtwS o f n c L[i] = _ from if_neg (by omega)])
          · refine x_iload hM dX5_metersWithin_28 rfl ?_
            refine x_aload_n hM dX5_metersWithin_30 rfl rfl ?_
            refine x_iload hM dX5_metersWithin_31 rfl ?_
            refine x_iload_n hM dX5_metersWithin_33 rfl rfl ?_
            refine x_iload_n hM dX5_metersWithin_34 rfl rfl ?_
            refine x_callV hM wv_X5_82 (m_X5_overlap (i := i) (by assumption) hlt (by omega)) ⟨Nat.le_of_ble_eq_true rfl, Nat.le_of_ble_eq_true rfl⟩ (by first | assumption | exact str_o (by assumption) | exact str_a (by assumption)) rfl rfl rfl rfl (Nat.le_of_ble_eq_true rfl) ⟨Nat.le_of_ble_eq_true rfl, Nat.le_of_ble_eq_true rfl⟩ dX5_metersWithin_35 (k_rI ?_)
            refine x_iadd hM dX5_metersWithin_38 ?_
            refine x_istore hM dX5_metersWithin_39 rfl (Nat.le_of_ble_eq_true rfl) rfl ?_
            refine x_iinc hM dX5_metersWithin_41 rfl rfl rfl ?_
            refine x_goto (tgt := 6) hM dX5_metersWithin_44 (by decide) ?_
            exact ih (i + 1) _ (by omega) (by omega) (by rw [← hinv]; first | rw [show mtwS o f n c L[i] = _ from if_pos (by omega)] | rw [show mtwS o f n c L[i] = _ from if_neg (by omega)])
      · skip
        refine x_iload hM dX5_metersWithin_6 rfl ?_
        refine x_aload_n hM dX5_metersWithin_8 rfl rfl ?_
        refine x_get hM wf_X5_36 wl_X5 (by first | assumption | exact str_o (by assumption) | exact str_a (by assumption)) rfl dX5_metersWithin_9 ?_
        refine x_icmp_ge (tgt := 47) hM dX5_metersWithin_12 (by decide) (by omega) (by omega) (fun c_12 => ?_) (fun c_12 => ?_)
        · refine x_iload hM dX5_metersWithin_47 rfl ?_
          refine hR.i dX5_metersWithin_49 (Nat.zero_le _) (Nat.zero_le _) ?_
          exact p_rI (by rw [← hinv, drop_foldE _ _ (by omega)])
        · exfalso; omega
  refine x_iconst hM dX5_metersWithin_0 ?_
  refine x_istore hM dX5_metersWithin_1 rfl (Nat.le_of_ble_eq_true rfl) rfl ?_
  refine x_iconst hM dX5_metersWithin_3 ?_
  refine x_istore hM dX5_metersWithin_4 rfl (Nat.le_of_ble_eq_true rfl) rfl ?_
  exact K (L.length + 1) 0 0 (by omega) (by omega) rfl
/-! sets of owners as masks -/
def pcM (m : Nat) : Nat := m % 2 + m / 2 % 2 + m / 4 % 2 + m / 8 % 2 + m / 16 % 2 + m / 32 % 2 + m / 64 % 2 + m / 128 % 2 + m / 256 % 2 + m / 512 % 2
def bcI (x0 : Int32) : Int32 :=
  let x1 := x0 - ((x0.toUInt32 >>> ((iI 1).toUInt32 &&& Int32.toUInt32 31)).toInt32 &&& iI 1431655765)
  let x2 := (x1 &&& iI 858993459) + ((x1.toUInt32 >>> ((iI 2).toUInt32 &&& Int32.toUInt32 31)).toInt32 &&& iI 858993459)
  let x3 := (x2 + (x2.toUInt32 >>> ((iI 4).toUInt32 &&& Int32.toUInt32 31)).toInt32) &&& iI 252645135
  let x4 := x3 + (x3.toUInt32 >>> ((iI 8).toUInt32 &&& Int32.toUInt32 31)).toInt32
  let x5 := x4 + (x4.toUInt32 >>> ((iI 16).toUInt32 &&& Int32.toUInt32 31)).toInt32
  x5 &&& iI 63
theorem bc_all : ∀ m : Nat, m < 1024 → bcI (iI m) = iI (pcM m) := by
  have h : (List.range 1024).all (fun m => decide (bcI (iI m) = iI (pcM m))) = true := by decide +kernel
  intro m hm
  have := List.all_eq_true.mp h m (List.mem_range.mpr hm)
  simpa using this
theorem m_J6_bitCount_0f7a4 {l : Launch} {G : xG} {w : Wd} {z m : Nat} (hm : m < 1024) : xMet l G yJ6_bitCount_0f7a4 cJ6_bitCount_0f7a4 1 (some .int) ({ frames := 0, cells := 0, slots := 0, locals := 0 } : Room) [.int (iI m)] w z (rI (pcM m) w z) := by
  refine xMet_of RJ6 rfl (by decide +kernel) false (by decide +kernel) (Nat.le_of_ble_eq_true rfl) rfl ?_
  intro P hM hR
  refine x_iload_n hM dJ6_bitCount_0f7a4_0 rfl rfl ?_
  refine x_iload_n hM dJ6_bitCount_0f7a4_1 rfl rfl ?_
  refine x_iconst hM dJ6_bitCount_0f7a4_2 ?_
  refine x_iushr hM dJ6_bitCount_0f7a4_3 rfl ?_
  refine x_ldcw hM dJ6_bitCount_0f7a4_4 wc_J6_265 ?_
  refine x_iand hM dJ6_bitCount_0f7a4_7 ?_
  refine x_isubR hM dJ6_bitCount_0f7a4_8 ?_
  refine x_istore_n hM dJ6_bitCount_0f7a4_9 rfl rfl (Nat.le_of_ble_eq_true rfl) rfl ?_
  refine x_iload_n hM dJ6_bitCount_0f7a4_10 rfl rfl ?_
  refine x_ldcw hM dJ6_bitCount_0f7a4_11 wc_J6_266 ?_
  refine x_iand hM dJ6_bitCount_0f7a4_14 ?_
  refine x_iload_n hM dJ6_bitCount_0f7a4_15 rfl rfl ?_
  refine x_iconst hM dJ6_bitCount_0f7a4_16 ?_
  refine x_iushr hM dJ6_bitCount_0f7a4_17 rfl ?_
  refine x_ldcw hM dJ6_bitCount_0f7a4_18 wc_J6_266 ?_
  refine x_iand hM dJ6_bitCount_0f7a4_21 ?_
  refine x_iaddR hM dJ6_bitCount_0f7a4_22 ?_
  refine x_istore_n hM dJ6_bitCount_0f7a4_23 rfl rfl (Nat.le_of_ble_eq_true rfl) rfl ?_
  refine x_iload_n hM dJ6_bitCount_0f7a4_24 rfl rfl ?_
  refine x_iload_n hM dJ6_bitCount_0f7a4_25 rfl rfl ?_
  refine x_iconst hM dJ6_bitCount_0f7a4_26 ?_
  refine x_iushr hM dJ6_bitCount_0f7a4_27 rfl ?_
  refine x_iaddR hM dJ6_bitCount_0f7a4_28 ?_
  refine x_ldcw hM dJ6_bitCount_0f7a4_29 wc_J6_267 ?_
  refine x_iand hM dJ6_bitCount_0f7a4_32 ?_
  refine x_istore_n hM dJ6_bitCount_0f7a4_33 rfl rfl (Nat.le_of_ble_eq_true rfl) rfl ?_
  refine x_iload_n hM dJ6_bitCount_0f7a4_34 rfl rfl ?_
  refine x_iload_n hM dJ6_bitCount_0f7a4_35 rfl rfl ?_
  refine x_bipush hM dJ6_bitCount_0f7a4_36 rfl ?_
  refine x_iushr hM dJ6_bitCount_0f7a4_38 rfl ?_
  refine x_iaddR hM dJ6_bitCount_0f7a4_39 ?_
  refine x_istore_n hM dJ6_bitCount_0f7a4_40 rfl rfl (Nat.le_of_ble_eq_true rfl) rfl ?_
  refine x_iload_n hM dJ6_bitCount_0f7a4_41 rfl rfl ?_
  refine x_iload_n hM dJ6_bitCount_0f7a4_42 rfl rfl ?_
  refine x_bipush hM dJ6_bitCount_0f7a4_43 rfl ?_
  refine x_iushr hM dJ6_bitCount_0f7a4_45 rfl ?_
  refine x_iaddR hM dJ6_bitCount_0f7a4_46 ?_
  refine x_istore_n hM dJ6_bitCount_0f7a4_47 rfl rfl (Nat.le_of_ble_eq_true rfl) rfl ?_
  refine x_iload_n hM dJ6_bitCount_0f7a4_48 rfl rfl ?_
  refine x_bipush hM dJ6_bitCount_0f7a4_49 rfl ?_
  refine x_iand hM dJ6_bitCount_0f7a4_51 ?_
  refine hR.raw dJ6_bitCount_0f7a4_52 (bc_all m hm) (Nat.zero_le _) (Nat.zero_le _) ?_
  exact p_rI rfl
theorem or_iI (a b : Nat) : iI (a : Nat) ||| iI (b : Nat) = iI ((a ||| b : Nat) : Nat) := by
  rw [← iI_nat, ← iI_nat, ← iI_nat]
  apply Int32.toBitVec_inj.mp
  rw [Int32.toBitVec_or]
  simp [BitVec.ofNat_or]
theorem shl_iI {o : Int} (h : 0 ≤ o ∧ o < 10) : iI 1 <<< (iI o &&& 31) = iI ((2 ^ o.toNat : Nat) : Nat) := by
  have h1 : (List.range 10).all (fun o => decide (iI 1 <<< (iI (o : Nat) &&& 31) = iI ((2 ^ o : Nat) : Nat))) = true := by decide +kernel
  have h2 := List.all_eq_true.mp h1 o.toNat (List.mem_range.mpr (by omega))
  rw [decide_eq_true_eq, show ((o.toNat : Nat) : Int) = o by omega] at h2
  exact h2
theorem or_lt {a b : Nat} (ha : a < 1024) (hb : b < 1024) : a ||| b < 1024 := Nat.or_lt_two_pow (n := 10) ha hb
theorem two_lt {o : Int} (h : 0 ≤ o ∧ o < 10) : 2 ^ o.toNat < 1024 := Nat.pow_lt_pow_right (by omega) (show o.toNat < 10 by omega)
def mskS (a n : Int) (c : Nat) (s : Sg) : Nat := if 0 < ovF s a n then c ||| 2 ^ s.1.toNat else c
def mskF (L : List Sg) (a n : Int) : Nat := L.foldl (mskS a n) 0
theorem msk_lt (a n : Int) (L : List Sg) (h : ∀ s ∈ L, okS s) (c : Nat) (hc : c < 1024) : L.foldl (mskS a n) c < 1024 := by
  induction L generalizing c with
  | nil => exact hc
  | cons s t ih =>
    have h1 := h s List.mem_cons_self
    refine ih (fun x hx => h x (List.mem_cons_of_mem _ hx)) _ ?_
    unfold mskS
    split
    · exact or_lt hc (two_lt ⟨h1.1, h1.2.1⟩)
    · exact hc
theorem pcM_b (m : Nat) : pcM m ≤ 10 := by unfold pcM; omega
theorem m_X5_holdersWithin {l : Launch} {G : xG} {w : Wd} {z a : Nat} {L : List Sg} {f n : Int} (h1 : strA G w a L) (hf : 0 ≤ f ∧ f ≤ 10000 ∧ 0 ≤ n ∧ n ≤ 10000) : xMet l G yX5_holdersWithin cX5_holdersWithin 5 (some .int) ({ frames := 2, cells := 0, slots := 0, locals := 46 } : Room) [.ref a, .int (iI f), .int (iI n)] w z (rI (pcM (mskF L f n)) w z) := by
  have h0 := h1
  obtain ⟨hW, fo, fs, fl, fr, fm, hs, hL⟩ := h1
  have hW1 := hW.1
  have hlast := msk_lt f n L hW.2 0 (by omega)
  refine xMet_of RX5 rfl (by decide +kernel) false (by decide +kernel) (Nat.le_of_ble_eq_true rfl) rfl ?_
  intro P hM hR
  have K : ∀ (k i c : Nat), L.length - i < k → i ≤ L.length → c < 1024 → (L.drop i).foldl (mskS f n) c = mskF L f n → P 5 [some (.ref a), some (.int (iI f)), some (.int (iI n)), some (.int (iI c)), some (.int (iI i))] [] w (z, 0, 0) := by
    intro k
    induction k with
    | zero => intro i c hk; omega
    | succ k ih =>
      intro i c hk hi hc hinv
      by_cases hlt : i < L.length
      · obtain ⟨e1, e2, e3⟩ := hL.1 i hlt
        have hok := strW_at hW hlt
        have hov := ovF_b (a := f) (n := n) hok (by omega)
        rw [drop_fold _ _ hlt] at hinv
        refine x_iload hM dX5_holdersWithin_5 rfl ?_
        refine x_aload_n hM dX5_holdersWithin_7 rfl rfl ?_
        refine x_get hM wf_X5_36 wl_X5 (by first | assumption | exact str_o (by assumption) | exact str_a (by assumption)) rfl dX5_holdersWithin_8 ?_
        refine x_icmp_ge (tgt := 45) hM dX5_holdersWithin_11 (by decide) (by omega) (by omega) (fun c_11 => ?_) (fun c_11 => ?_)
        · exfalso; omega
        · refine x_aload_n hM dX5_holdersWithin_14 rfl rfl ?_
          refine x_iload hM dX5_holdersWithin_15 rfl ?_
          refine x_iload_n hM dX5_holdersWithin_17 rfl rfl ?_
          refine x_iload_n hM dX5_holdersWithin_18 rfl rfl ?_
          refine x_callV hM wv_X5_82 (m_X5_overlap (i := i) (by assumption) hlt (by omega)) ⟨Nat.le_of_ble_eq_true rfl, Nat.le_of_ble_eq_true rfl⟩ (by first | assumption | exact str_o (by assumption) | exact str_a (by assumption)) rfl rfl rfl rfl (Nat.le_of_ble_eq_true rfl) ⟨Nat.le_of_ble_eq_true rfl, Nat.le_of_ble_eq_true rfl⟩ dX5_holdersWithin_19 (k_rI ?_)
          refine x_if_le (tgt := 39) hM dX5_holdersWithin_22 (by decide) (by omega) (fun c_22 => ?_) (fun c_22 => ?_)
          · refine x_iinc hM dX5_holdersWithin_39 rfl rfl rfl ?_
            refine x_goto (tgt := 5) hM dX5_holdersWithin_42 (by decide) ?_
            first | (rw [show mskS f n c L[i] = c ||| 2 ^ L[i].1.toNat from if_pos (by omega)] at hinv; exact ih (i + 1) _ (by omega) (by omega) (or_lt hc (two_lt ⟨hok.1, hok.2.1⟩)) hinv) | (rw [show mskS f n c L[i] = c from if_neg (by omega)] at hinv; exact ih (i + 1) _ (by omega) (by omega) hc hinv)
          · refine x_iload_n hM dX5_holdersWithin_25 rfl rfl ?_
            refine x_iconst hM dX5_holdersWithin_26 ?_
            refine x_aload_n hM dX5_holdersWithin_27 rfl rfl ?_
            refine x_get hM wf_X5_14 wl_X5 (by first | assumption | exact str_o (by assumption) | exact str_a (by assumption)) rfl dX5_holdersWithin_28 ?_
            refine x_iload hM dX5_holdersWithin_31 rfl ?_
            refine x_callV hM wv_X5_43 (m_X4_at (by first | assumption | exact sr1 (by assumption) | exact sr2 (by assumption) | exact sr3 (by assumption) | exact sr4 (by assumption) | exact sr5 (by assumption) | exact rg1 (by assumption) | exact rg2 (by assumption) | exact rg3 (by assumption)) (by omega)) ⟨Nat.le_of_ble_eq_true rfl, Nat.le_of_ble_eq_true rfl⟩ (by first | assumption | exact row_o (by first | assumption | exact sr1 (by assumption) | exact sr2 (by assumption) | exact sr3 (by assumption) | exact sr4 (by assumption) | exact sr5 (by assumption) | exact rg1 (by assumption) | exact rg2 (by assumption) | exact rg3 (by assumption))) rfl rfl rfl rfl (Nat.le_of_ble_eq_true rfl) ⟨Nat.le_of_ble_eq_true rfl, Nat.le_of_ble_eq_true rfl⟩ dX5_holdersWithin_33 (k_rI ?_)
            refine x_ishl hM dX5_holdersWithin_36 (shl_iI (by omega)) ?_
            refine x_ior hM dX5_holdersWithin_37 ?_
            rw [or_iI, e1]
            refine x_istore_n hM dX5_holdersWithin_38 rfl rfl (Nat.le_of_ble_eq_true rfl) rfl ?_
            refine x_iinc hM dX5_holdersWithin_39 rfl rfl rfl ?_
            refine x_goto (tgt := 5) hM dX5_holdersWithin_42 (by decide) ?_
            first | (rw [show mskS f n c L[i] = c ||| 2 ^ L[i].1.toNat from if_pos (by omega)] at hinv; exact ih (i + 1) _ (by omega) (by omega) (or_lt hc (two_lt ⟨hok.1, hok.2.1⟩)) hinv) | (rw [show mskS f n c L[i] = c from if_neg (by omega)] at hinv; exact ih (i + 1) _ (by omega) (by omega) hc hinv)
      · skip
        refine x_iload hM dX5_holdersWithin_5 rfl ?_
        refine x_aload_n hM dX5_holdersWithin_7 rfl rfl ?_
        refine x_get hM wf_X5_36 wl_X5 (by first | assumption | exact str_o (by assumption) | exact str_a (by assumption)) rfl dX5_holdersWithin_8 ?_
        refine x_icmp_ge (tgt := 45) hM dX5_holdersWithin_11 (by decide) (by omega) (by omega) (fun c_11 => ?_) (fun c_11 => ?_)
        · refine x_iload_n hM dX5_holdersWithin_45 rfl rfl ?_
          have hce : c = mskF L f n := by rw [← hinv, drop_foldE _ _ (by omega)]
          subst hce
          refine x_callS hM ws_X5_86 (m_J6_bitCount_0f7a4 (m := mskF L f n) hlast) ⟨Nat.le_of_ble_eq_true rfl, Nat.le_of_ble_eq_true rfl⟩ rfl rfl (Nat.le_of_ble_eq_true rfl) ⟨Nat.le_of_ble_eq_true rfl, Nat.le_of_ble_eq_true rfl⟩ dX5_holdersWithin_46 (k_rI ?_)
          refine hR.i dX5_holdersWithin_49 (Nat.zero_le _) (Nat.zero_le _) ?_
          exact p_rI rfl
        · exfalso; omega
  refine x_iconst hM dX5_holdersWithin_0 ?_
  refine x_istore_n hM dX5_holdersWithin_1 rfl rfl (Nat.le_of_ble_eq_true rfl) rfl ?_
  refine x_iconst hM dX5_holdersWithin_2 ?_
  refine x_istore hM dX5_holdersWithin_3 rfl (Nat.le_of_ble_eq_true rfl) rfl ?_
  exact K (L.length + 1) 0 0 (by omega) (by omega) (by omega) rfl
def qstS (n : Int) (L : List Sg) (c : Int × Int) (s : Sg) : Int × Int := if s.2.2 + n ≤ 10000 then (if (pcM (mskF L s.2.2 n) : Int) < c.2 then (s.2.2, (pcM (mskF L s.2.2 n) : Int)) else c) else c
def qstF (L : List Sg) (n : Int) : Int := (L.foldl (qstS n L) (0, (pcM (mskF L 0 n) : Int))).1
theorem m_X5_quietestStart {l : Launch} {G : xG} {w : Wd} {z a : Nat} {L : List Sg} {n : Int} (h1 : strA G w a L) (hf : 1 ≤ n ∧ n ≤ 10000) : xMet l G yX5_quietestStart cX5_quietestStart 7 (some .int) ({ frames := 3, cells := 0, slots := 0, locals := 70 } : Room) [.ref a, .int (iI n)] w z (rI (qstF L n) w z) := by
  have h0 := h1
  obtain ⟨hW, fo, fs, fl, fr, fm, hs, hL⟩ := h1
  have hW1 := hW.1
  refine xMet_of RX5 rfl (by decide +kernel) false (by decide +kernel) (Nat.le_of_ble_eq_true rfl) rfl ?_
  intro P hM hR
  have K : ∀ (k i : Nat) (b f : Int) (x5 x6 : Option Value), L.length - i < k → i ≤ L.length → iR f → ((L.drop i).foldl (qstS n L) (b, f)).1 = qstF L n → P 12 [some (.ref a), some (.int (iI n)), some (.int (iI b)), some (.int (iI f)), some (.int (iI i)), x5, x6] [] w (z, 0, 0) := by
    intro k
    induction k with
    | zero => intro i b f x5 x6 hk; omega
    | succ k ih =>
      intro i b f x5 x6 hk hi hf2 hinv
      by_cases hlt : i < L.length
      · obtain ⟨e1, e2, e3⟩ := hL.1 i hlt
        have hok := strW_at hW hlt
        have hpc := pcM_b (mskF L L[i].2.2 n)
        have e4 : fs i + fl i = L[i].2.2 := by omega
        rw [drop_fold _ _ hlt] at hinv
        refine x_iload hM dX5_quietestStart_12 rfl ?_
        refine x_aload_n hM dX5_quietestStart_14 rfl rfl ?_
        refine x_get hM wf_X5_36 wl_X5 (by first | assumption | exact str_o (by assumption) | exact str_a (by assumption)) rfl dX5_quietestStart_15 ?_
        refine x_icmp_ge (tgt := 66) hM dX5_quietestStart_18 (by decide) (by omega) (by omega) (fun c_18 => ?_) (fun c_18 => ?_)
        · exfalso; omega
        · refine x_aload_n hM dX5_quietestStart_21 rfl rfl ?_
          refine x_iload hM dX5_quietestStart_22 rfl ?_
          refine x_callV hM wv_X5_59 (m_X5_endOf (by assumption) (by omega)) ⟨Nat.le_of_ble_eq_true rfl, Nat.le_of_ble_eq_true rfl⟩ (by first | assumption | exact str_o (by assumption) | exact str_a (by assumption)) rfl rfl rfl rfl (Nat.le_of_ble_eq_true rfl) ⟨Nat.le_of_ble_eq_true rfl, Nat.le_of_ble_eq_true rfl⟩ dX5_quietestStart_24 (k_rI ?_)
          rw [e4]
          refine x_istore hM dX5_quietestStart_27 rfl (Nat.le_of_ble_eq_true rfl) rfl ?_
          refine x_iload hM dX5_quietestStart_29 rfl ?_
          refine x_iload_n hM dX5_quietestStart_31 rfl rfl ?_
          refine x_iadd hM dX5_quietestStart_32 ?_
          refine x_sipush hM dX5_quietestStart_33 rfl ?_
          refine x_icmp_gt (tgt := 60) hM dX5_quietestStart_36 (by decide) (by omega) (by omega) (fun c_36 => ?_) (fun c_36 => ?_)
          · refine x_iinc hM dX5_quietestStart_60 rfl rfl rfl ?_
            refine x_goto (tgt := 12) hM dX5_quietestStart_63 (by decide) ?_
            first | (rw [show qstS n L (b, f) L[i] = (L[i].2.2, (pcM (mskF L L[i].2.2 n) : Int)) from (if_pos (by omega)).trans (if_pos (by omega))] at hinv; exact ih (i + 1) _ _ _ _ (by omega) (by omega) (by omega) hinv) | (rw [show qstS n L (b, f) L[i] = (b, f) from (if_pos (by omega)).trans (if_neg (by omega))] at hinv; exact ih (i + 1) _ _ _ _ (by omega) (by omega) (by omega) hinv) | (rw [show qstS n L (b, f) L[i] = (b, f) from if_neg (by omega)] at hinv; exact ih (i + 1) _ _ _ _ (by omega) (by omega) (by omega) hinv)
          · refine x_aload_n hM dX5_quietestStart_39 rfl rfl ?_
            refine x_iload hM dX5_quietestStart_40 rfl ?_
            refine x_iload_n hM dX5_quietestStart_42 rfl rfl ?_
            refine x_callV hM wv_X5_91 (m_X5_holdersWithin (by assumption) (by omega)) ⟨Nat.le_of_ble_eq_true rfl, Nat.le_of_ble_eq_true rfl⟩ (by first | assumption | exact str_o (by assumption) | exact str_a (by assumption)) rfl rfl rfl rfl (Nat.le_of_ble_eq_true rfl) ⟨Nat.le_of_ble_eq_true rfl, Nat.le_of_ble_eq_true rfl⟩ dX5_quietestStart_43 (k_rI ?_)
            refine x_istore hM dX5_quietestStart_46 rfl (Nat.le_of_ble_eq_true rfl) rfl ?_
            refine x_iload hM dX5_quietestStart_48 rfl ?_
            refine x_iload_n hM dX5_quietestStart_50 rfl rfl ?_
            refine x_icmp_ge (tgt := 60) hM dX5_quietestStart_51 (by decide) (by omega) (by omega) (fun c_51 => ?_) (fun c_51 => ?_)
            · refine x_iinc hM dX5_quietestStart_60 rfl rfl rfl ?_
              refine x_goto (tgt := 12) hM dX5_quietestStart_63 (by decide) ?_
              first | (rw [show qstS n L (b, f) L[i] = (L[i].2.2, (pcM (mskF L L[i].2.2 n) : Int)) from (if_pos (by omega)).trans (if_pos (by omega))] at hinv; exact ih (i + 1) _ _ _ _ (by omega) (by omega) (by omega) hinv) | (rw [show qstS n L (b, f) L[i] = (b, f) from (if_pos (by omega)).trans (if_neg (by omega))] at hinv; exact ih (i + 1) _ _ _ _ (by omega) (by omega) (by omega) hinv) | (rw [show qstS n L (b, f) L[i] = (b, f) from if_neg (by omega)] at hinv; exact ih (i + 1) _ _ _ _ (by omega) (by omega) (by omega) hinv)
            · refine x_iload hM dX5_quietestStart_54 rfl ?_
              refine x_istore_n hM dX5_quietestStart_56 rfl rfl (Nat.le_of_ble_eq_true rfl) rfl ?_
              refine x_iload hM dX5_quietestStart_57 rfl ?_
              refine x_istore_n hM dX5_quietestStart_59 rfl rfl (Nat.le_of_ble_eq_true rfl) rfl ?_
              refine x_iinc hM dX5_quietestStart_60 rfl rfl rfl ?_
              refine x_goto (tgt := 12) hM dX5_quietestStart_63 (by decide) ?_
              first | (rw [show qstS n L (b, f) L[i] = (L[i].2.2, (pcM (mskF L L[i].2.2 n) : Int)) from (if_pos (by omega)).trans (if_pos (by omega))] at hinv; exact ih (i + 1) _ _ _ _ (by omega) (by omega) (by omega) hinv) | (rw [show qstS n L (b, f) L[i] = (b, f) from (if_pos (by omega)).trans (if_neg (by omega))] at hinv; exact ih (i + 1) _ _ _ _ (by omega) (by omega) (by omega) hinv) | (rw [show qstS n L (b, f) L[i] = (b, f) from if_neg (by omega)] at hinv; exact ih (i + 1) _ _ _ _ (by omega) (by omega) (by omega) hinv)
      · skip
        refine x_iload hM dX5_quietestStart_12 rfl ?_
        refine x_aload_n hM dX5_quietestStart_14 rfl rfl ?_
        refine x_get hM wf_X5_36 wl_X5 (by first | assumption | exact str_o (by assumption) | exact str_a (by assumption)) rfl dX5_quietestStart_15 ?_
        refine x_icmp_ge (tgt := 66) hM dX5_quietestStart_18 (by decide) (by omega) (by omega) (fun c_18 => ?_) (fun c_18 => ?_)
        · refine x_iload_n hM dX5_quietestStart_66 rfl rfl ?_
          refine hR.i dX5_quietestStart_67 (Nat.zero_le _) (Nat.zero_le _) ?_
          exact p_rI (by rw [← hinv, drop_foldE _ _ (by omega)])
        · exfalso; omega
  have hpc0 := pcM_b (mskF L 0 n)
  refine x_iconst hM dX5_quietestStart_0 ?_
  refine x_istore_n hM dX5_quietestStart_1 rfl rfl (Nat.le_of_ble_eq_true rfl) rfl ?_
  refine x_aload_n hM dX5_quietestStart_2 rfl rfl ?_
  refine x_iconst hM dX5_quietestStart_3 ?_
  refine x_iload_n hM dX5_quietestStart_4 rfl rfl ?_
  refine x_callV hM wv_X5_91 (m_X5_holdersWithin (by assumption) (by omega)) ⟨Nat.le_of_ble_eq_true rfl, Nat.le_of_ble_eq_true rfl⟩ (by first | assumption | exact str_o (by assumption) | exact str_a (by assumption)) rfl rfl rfl rfl (Nat.le_of_ble_eq_true rfl) ⟨Nat.le_of_ble_eq_true rfl, Nat.le_of_ble_eq_true rfl⟩ dX5_quietestStart_5 (k_rI ?_)
  refine x_istore_n hM dX5_quietestStart_8 rfl rfl (Nat.le_of_ble_eq_true rfl) rfl ?_
  refine x_iconst hM dX5_quietestStart_9 ?_
  refine x_istore hM dX5_quietestStart_10 rfl (Nat.le_of_ble_eq_true rfl) rfl ?_
  exact K (L.length + 1) 0 _ _ _ _ (by omega) (by omega) (by omega) rfl
