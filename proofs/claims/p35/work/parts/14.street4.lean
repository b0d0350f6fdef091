/-! Street: questions of pieces -/
/-- how many meters of the piece [a, a + n) a range has -/
def ovF (s : Sg) (a n : Int) : Int :=
  if (if a + n < s.2.2 then a + n else s.2.2) - (if s.2.1 < a then a else s.2.1) < 0 then 0 else (if a + n < s.2.2 then a + n else s.2.2) - (if s.2.1 < a then a else s.2.1)
theorem ovF_b {s : Sg} {a n : Int} (h : okS s) (ha : 0 ≤ a ∧ 0 ≤ n) : 0 ≤ ovF s a n ∧ ovF s a n ≤ 10000 := by
  unfold ovF
  omega
theorem m_X5_overlap {l : Launch} {G : xG} {w : Wd} {z a i : Nat} {L : List Sg} {f n : Int} (h1 : strA G w a L) (hi : i < L.length) (hf : 0 ≤ f ∧ f ≤ 10000 ∧ 0 ≤ n ∧ n ≤ 10000) : xMet l G yX5_overlap cX5_overlap 6 (some .int) ({ frames := 1, cells := 0, slots := 0, locals := 21 } : Room) [.ref a, .int (iI i), .int (iI f), .int (iI n)] w z (rI (ovF L[i] f n) w z) := by
  obtain ⟨hW, fo, fs, fl, fr, fm, hs, hL⟩ := h1
  have hW1 := hW.1
  obtain ⟨e1, e2, e3⟩ := hL.1 i hi
  have hok := strW_at hW hi
  have e4 : fs i + fl i = L[i].2.2 := by omega
  refine xMet_of RX5 rfl (by decide +kernel) false (by decide +kernel) (Nat.le_of_ble_eq_true rfl) rfl ?_
  intro P hM hR
  refine x_aload_n hM dX5_overlap_0 rfl rfl ?_
  refine x_get hM wf_X5_20 wl_X5 (by first | assumption | exact str_o (by assumption) | exact str_a (by assumption)) rfl dX5_overlap_1 ?_
  refine x_iload_n hM dX5_overlap_4 rfl rfl ?_
  refine x_callV hM wv_X5_43 (m_X4_at (by first | assumption | exact sr1 (by assumption) | exact sr2 (by assumption) | exact sr3 (by assumption) | exact sr4 (by assumption) | exact sr5 (by assumption) | exact rg1 (by assumption) | exact rg2 (by assumption) | exact rg3 (by assumption)) (by omega)) ⟨Nat.le_of_ble_eq_true rfl, Nat.le_of_ble_eq_true rfl⟩ (by first | assumption | exact row_o (by first | assumption | exact sr1 (by assumption) | exact sr2 (by assumption) | exact sr3 (by assumption) | exact sr4 (by assumption) | exact sr5 (by assumption) | exact rg1 (by assumption) | exact rg2 (by assumption) | exact rg3 (by assumption))) rfl rfl rfl rfl (Nat.le_of_ble_eq_true rfl) ⟨Nat.le_of_ble_eq_true rfl, Nat.le_of_ble_eq_true rfl⟩ dX5_overlap_5 (k_rI ?_)
  refine x_istore hM dX5_overlap_8 rfl (Nat.le_of_ble_eq_true rfl) rfl ?_
  refine x_iload hM dX5_overlap_10 rfl ?_
  refine x_aload_n hM dX5_overlap_12 rfl rfl ?_
  refine x_get hM wf_X5_23 wl_X5 (by first | assumption | exact str_o (by assumption) | exact str_a (by assumption)) rfl dX5_overlap_13 ?_
  refine x_iload_n hM dX5_overlap_16 rfl rfl ?_
  refine x_callV hM wv_X5_43 (m_X4_at (by first | assumption | exact sr1 (by assumption) | exact sr2 (by assumption) | exact sr3 (by assumption) | exact sr4 (by assumption) | exact sr5 (by assumption) | exact rg1 (by assumption) | exact rg2 (by assumption) | exact rg3 (by assumption)) (by omega)) ⟨Nat.le_of_ble_eq_true rfl, Nat.le_of_ble_eq_true rfl⟩ (by first | assumption | exact row_o (by first | assumption | exact sr1 (by assumption) | exact sr2 (by assumption) | exact sr3 (by assumption) | exact sr4 (by assumption) | exact sr5 (by assumption) | exact rg1 (by assumption) | exact rg2 (by assumption) | exact rg3 (by assumption))) rfl rfl rfl rfl (Nat.le_of_ble_eq_true rfl) ⟨Nat.le_of_ble_eq_true rfl, Nat.le_of_ble_eq_true rfl⟩ dX5_overlap_17 (k_rI ?_)
  refine x_iadd hM dX5_overlap_20 ?_
  refine x_istore hM dX5_overlap_21 rfl (Nat.le_of_ble_eq_true rfl) rfl ?_
  refine x_iload hM dX5_overlap_23 rfl ?_
  refine x_iload_n hM dX5_overlap_25 rfl rfl ?_
  refine x_iload_n hM dX5_overlap_26 rfl rfl ?_
  refine x_iadd hM dX5_overlap_27 ?_
  rw [e4]
  refine x_min hM wm_X5_62 (by omega) (by omega) (Nat.le_of_ble_eq_true rfl) (Nat.le_of_ble_eq_true rfl) ⟨Nat.le_of_ble_eq_true rfl, Nat.le_of_ble_eq_true rfl⟩ dX5_overlap_28 ?_
  refine x_iload hM dX5_overlap_31 rfl ?_
  refine x_iload_n hM dX5_overlap_33 rfl rfl ?_
  rw [e2]
  refine x_max hM wm_X5_72 (by omega) (by omega) (Nat.le_of_ble_eq_true rfl) (Nat.le_of_ble_eq_true rfl) ⟨Nat.le_of_ble_eq_true rfl, Nat.le_of_ble_eq_true rfl⟩ dX5_overlap_34 ?_
  refine x_isub hM dX5_overlap_37 ?_
  refine x_iconst hM dX5_overlap_38 ?_
  refine x_max hM wm_X5_72 (by omega) (by omega) (Nat.le_of_ble_eq_true rfl) (Nat.le_of_ble_eq_true rfl) ⟨Nat.le_of_ble_eq_true rfl, Nat.le_of_ble_eq_true rfl⟩ dX5_overlap_39 ?_
  refine hR.i dX5_overlap_42 (Nat.zero_le _) (Nat.zero_le _) ?_
  exact p_rI rfl
def mtwS (o a n : Int) (c : Int) (s : Sg) : Int := if s.1 = o then c + ovF s a n else c
def mtwF (L : List Sg) (o a n : Int) : Int := L.foldl (mtwS o a n) 0
theorem m_X5_metersWithin {l : Launch} {G : xG} {w : Wd} {z a : Nat} {L : List Sg} {o f n : Int} (h1 : strA G w a L) (ho : iR o) (hf : 0 ≤ f ∧ f ≤ 10000 ∧ 0 ≤ n ∧ n ≤ 10000) : xMet l G yX5_metersWithin cX5_metersWithin 6 (some .int) ({ frames := 2, cells := 0, slots := 0, locals := 46 } : Room) [.ref a, .int (iI o), .int (iI f), .int (iI n)] w z (rI (mtwF L o f n) w z) := by
  have h0 := h1
  obtain ⟨hW, fo, fs, fl, fr, fm, hs, hL⟩ := h1
  have hW1 := hW.1
  refine xMet_of RX5 rfl (by decide +kernel) false (by decide +kernel) (Nat.le_of_ble_eq_true rfl) rfl ?_
  intro P hM hR
  have K : ∀ (k i : Nat) (c : Int), L.length - i < k → i ≤ L.length → (L.drop i).foldl (mtwS o f n) c = mtwF L o f n → P 6 [some (.ref a), some (.int (iI o)), some (.int (iI f)), some (.int (iI n)), some (.int (iI c)), some (.int (iI i))] [] w (z, 0, 0) := by
    intro k
    induction k with
    | zero => intro i c hk; omega
    | succ k ih =>
      intro i c hk hi hinv
      by_cases hlt : i < L.length
      · obtain ⟨e1, e2, e3⟩ := hL.1 i hlt
        have hok := strW_at hW hlt
        rw [drop_fold _ _ hlt] at hinv
        refine x_iload hM dX5_metersWithin_6 rfl ?_
        refine x_aload_n hM dX5_metersWithin_8 rfl rfl ?_
        refine x_get hM wf_X5_36 wl_X5 (by first | assumption | exact str_o (by assumption) | exact str_a (by assumption)) rfl dX5_metersWithin_9 ?_
        refine x_icmp_ge (tgt := 47) hM dX5_metersWithin_12 (by decide) (by omega) (by omega) (fun c_12 => ?_) (fun c_12 => ?_)
        · exfalso; omega
        · refine x_aload_n hM dX5_metersWithin_15 rfl rfl ?_
          refine x_get hM wf_X5_14 wl_X5 (by first | assumption | exact str_o (by assumption) | exact str_a (by assumption)) rfl dX5_metersWithin_16 ?_
          refine x_iload hM dX5_metersWithin_19 rfl ?_
          refine x_callV hM wv_X5_43 (m_X4_at (by first | assumption | exact sr1 (by assumption) | exact sr2 (by assumption) | exact sr3 (by assumption) | exact sr4 (by assumption) | exact sr5 (by assumption) | exact rg1 (by assumption) | exact rg2 (by assumption) | exact rg3 (by assumption)) (by omega)) ⟨Nat.le_of_ble_eq_true rfl, Nat.le_of_ble_eq_true rfl⟩ (by first | assumption | exact row_o (by first | assumption | exact sr1 (by assumption) | exact sr2 (by assumption) | exact sr3 (by assumption) | exact sr4 (by assumption) | exact sr5 (by assumption) | exact rg1 (by assumption) | exact rg2 (by assumption) | exact rg3 (by assumption))) rfl rfl rfl rfl (Nat.le_of_ble_eq_true rfl) ⟨Nat.le_of_ble_eq_true rfl, Nat.le_of_ble_eq_true rfl⟩ dX5_metersWithin_21 (k_rI ?_)
          refine x_iload_n hM dX5_metersWithin_24 rfl rfl ?_
          refine x_icmp_ne (tgt := 41) hM dX5_metersWithin_25 (by decide) (by omega) (by omega) (fun c_25 => ?_) (fun c_25 => ?_)
          · refine x_iinc hM dX5_metersWithin_41 rfl rfl rfl ?_
            refine x_goto (tgt := 6) hM dX5_metersWithin_44 (by decide) ?_
            exact ih (i + 1) _ (by omega) (by omega) (by rw [← hinv]; first | rw [show mtwS o f n c L[i] = _ from if_pos (by omega)] | rw [show mtwS o f n c L[i] = _ from if_neg (by omega)])
          · refine x_iload hM dX5_metersWithin_28 rfl ?_
            refine x_aload_n hM dX5_metersWithin_30 rfl rfl ?_
            refine x_iload hM dX5_metersWithin_31 rfl ?_
            refine x_iload_n hM dX5_metersWithin_33 rfl rfl ?_
            refine x_iload_n hM dX5_metersWithin_34 rfl rfl ?_
            refine x_callV hM wv_X5_82 (m_X5_overlap (i := i) (by assumption) hlt (by omega)) ⟨Nat.le_of_ble_eq_true rfl, Nat.le_of_ble_eq_true rfl⟩ (by first | assumption | exact str_o (by assumption) | exact str_a (by assumption)) rfl rfl rfl rfl (Nat.le_of_ble_eq_true rfl) ⟨Nat.le_of_ble_eq_true rfl, Nat.le_of_ble_eq_true rfl⟩ dX5_metersWithin_35 (k_rI ?_)
            refine x_iadd hM dX5_metersWithin_38 ?_
            refine x_istore hM dX5_metersWithin_39 rfl (Nat.le_of_ble_eq_true rfl) rfl ?_
            refine x_iinc hM dX5_metersWithin_41 rfl rfl rfl ?_
            refine x_goto (tgt := 6) hM dX5_metersWithin_44 (by decide) ?_
            exact ih (i + 1) _ (by omega) (by omega) (by rw [← hinv]; first | rw [show mtwS o f n c L[i] = _ from if_pos (by omega)] | rw [show mtwS o f n c L[i] = _ from if_neg (by omega)])
      · skip
        refine x_iload hM dX5_metersWithin_6 rfl ?_
        refine x_aload_n hM dX5_metersWithin_8 rfl rfl ?_
        refine x_get hM wf_X5_36 wl_X5 (by first | assumption | exact str_o (by assumption) | exact str_a (by assumption)) rfl dX5_metersWithin_9 ?_
        refine x_icmp_ge (tgt := 47) hM dX5_metersWithin_12 (by decide) (by omega) (by omega) (fun c_12 => ?_) (fun c_12 => ?_)
        · refine x_iload hM dX5_metersWithin_47 rfl ?_
          refine hR.i dX5_metersWithin_49 (Nat.zero_le _) (Nat.zero_le _) ?_
          exact p_rI (by rw [← hinv, drop_foldE _ _ (by omega)])
        · exfalso; omega
  refine x_iconst hM dX5_metersWithin_0 ?_
  refine x_istore hM dX5_metersWithin_1 rfl (Nat.le_of_ble_eq_true rfl) rfl ?_
  refine x_iconst hM dX5_metersWithin_3 ?_
  refine x_istore hM dX5_metersWithin_4 rfl (Nat.le_of_ble_eq_true rfl) rfl ?_
  exact K (L.length + 1) 0 0 (by omega) (by omega) rfl
/-! sets of owners as masks -/
def pcM (m : Nat) : Nat := m % 2 + m / 2 % 2 + m / 4 % 2 + m / 8 % 2 + m / 16 % 2 + m / 32 % 2 + m / 64 % 2 + m / 128 % 2 + m / 256 % 2 + m / 512 % 2
def bcI (x0 : Int32) : Int32 :=
  let x1 := x0 - ((x0.toUInt32 >>> ((iI 1).toUInt32 &&& Int32.toUInt32 31)).toInt32 &&& iI 1431655765)
  let x2 := (x1 &&& iI 858993459) + ((x1.toUInt32 >>> ((iI 2).toUInt32 &&& Int32.toUInt32 31)).toInt32 &&& iI 858993459)
  let x3 := (x2 + (x2.toUInt32 >>> ((iI 4).toUInt32 &&& Int32.toUInt32 31)).toInt32) &&& iI 252645135
  let x4 := x3 + (x3.toUInt32 >>> ((iI 8).toUInt32 &&& Int32.toUInt32 31)).toInt32
  let x5 := x4 + (x4.toUInt32 >>> ((iI 16).toUInt32 &&& Int32.toUInt32 31)).toInt32
  x5 &&& iI 63
theorem bc_all : ∀ m : Nat, m < 1024 → bcI (iI m) = iI (pcM m) := by
  have h : (List.range 1024).all (fun m => decide (bcI (iI m) = iI (pcM m))) = true := by decide +kernel
  intro m hm
  have := List.all_eq_true.mp h m (List.mem_range.mpr hm)
  simpa using this
theorem or_iI (a b : Nat) : iI (a : Nat) ||| iI (b : Nat) = iI ((a ||| b : Nat) : Nat) := by
  rw [← iI_nat, ← iI_nat, ← iI_nat]
  apply Int32.toBitVec_inj.mp
  rw [Int32.toBitVec_or]
  simp [BitVec.ofNat_or]
theorem shl_iI {o : Int} (h : 0 ≤ o ∧ o < 10) : iI 1 <<< (iI o &&& 31) = iI ((2 ^ o.toNat : Nat) : Nat) := by
  have h1 : (List.range 10).all (fun o => decide (iI 1 <<< (iI (o : Nat) &&& 31) = iI ((2 ^ o : Nat) : Nat))) = true := by decide +kernel
  have h2 := List.all_eq_true.mp h1 o.toNat (List.mem_range.mpr (by omega))
  rw [decide_eq_true_eq, show ((o.toNat : Nat) : Int) = o by omega] at h2
  exact h2
theorem or_lt {a b : Nat} (ha : a < 1024) (hb : b < 1024) : a ||| b < 1024 := Nat.or_lt_two_pow (n := 10) ha hb
theorem two_lt {o : Int} (h : 0 ≤ o ∧ o < 10) : 2 ^ o.toNat < 1024 := Nat.pow_lt_pow_right (by omega) (show o.toNat < 10 by omega)
def mskS (a n : Int) (c : Nat) (s : Sg) : Nat := if 0 < ovF s a n then c ||| 2 ^ s.1.toNat else c
def mskF (L : List Sg) (a n : Int) : Nat := L.foldl (mskS a n) 0
theorem msk_lt (a n : Int) (L : List Sg) (h : ∀ s ∈ L, okS s) (c : Nat) (hc : c < 1024) : L.foldl (mskS a n) c < 1024 := by
  induction L generalizing c with
  | nil => exact hc
  | cons s t ih =>
    have h1 := h s List.mem_cons_self
    refine ih (fun x hx => h x (List.mem_cons_of_mem _ hx)) _ ?_
    unfold mskS
    split
    · exact or_lt hc (two_lt ⟨h1.1, h1.2.1⟩)
    · exact hc
theorem pcM_b (m : Nat) : pcM m ≤ 10 := by unfold pcM; omega
def qstS (n : Int) (L : List Sg) (c : Int × Int) (s : Sg) : Int × Int := if s.2.2 + n ≤ 10000 then (if (pcM (mskF L s.2.2 n) : Int) < c.2 then (s.2.2, (pcM (mskF L s.2.2 n) : Int)) else c) else c
def qstF (L : List Sg) (n : Int) : Int := (L.foldl (qstS n L) (0, (pcM (mskF L 0 n) : Int))).1
