/-! The law: calls that read -/
theorem mts_two {o p : Int} (h : o ≠ p) : ∀ (L : List Sg) (x : Int), chn x L → mtsO L o + mtsO L p ≤ 10000 - x := by
  intro L
  induction L with
  | nil => intro x h; have : x = 10000 := h; show (0 : Int) + 0 ≤ _; omega
  | cons s L ih =>
    intro x h
    obtain ⟨g1, g2, g3, g4⟩ := h
    have := ih _ g4
    rw [mtsO_cons, mtsO_cons]
    split <;> split <;> omega
theorem lc_ofRange {l : Launch} {G : xG} {P : xT} {b L x c z k n : Nat} {xs : Int → Int} {w : Wd} {t : St} {hs : List St} {sl : Nat → Option St} {cs : List Int} (hM : xM RL cL_law 4 room_1 l G false P) (hS : scK P b L xs) (hi : 6 * (c : Int) + 6 ≤ L) (hc5 : c ≤ 511) (hk : k ≤ 300 + 22 * c) (hn : n ≤ 8000 + 248 * c) (h : lwI G w z x t hs sl cs c) (hN : lwJ P G b x c) : P 532 [some (.ref b), some (.ref x), some (.ref (x + 215)), some (.int (iI (6 * (c : Int))))] [] w (z, k, n) := by
  obtain ⟨hc, ⟨mn, pl, wr, hr⟩, hg, hz⟩ := h
  have hX := hS.2.2.2
  obtain ⟨R1, hh1, ⟨f1, g1, hn1, hp1, hn2, hg2⟩, -⟩ := id hr.1
  have hrd : rdA G w (x + 215) f1 t := ⟨⟨_, _, _, _, _, _, _, hh1⟩, hn1, hp1⟩
  refine x_aload_n hM dL_law_532 rfl rfl ?_
  refine x_aload_n hM dL_law_533 rfl rfl ?_
  refine x_iload_n hM dL_law_534 rfl rfl ?_
  refine x_iconst hM dL_law_535 ?_
  refine x_iadd hM dL_law_536 ?_
  refine hS.1 _ _ _ _ _ _ (by omega) (by omega) dL_law_537 ?_
  refine x_aload_n hM dL_law_538 rfl rfl ?_
  refine x_iload_n hM dL_law_539 rfl rfl ?_
  refine x_iconst hM dL_law_540 ?_
  refine x_iadd hM dL_law_541 ?_
  refine hS.1 _ _ _ _ _ _ (by omega) (by omega) dL_law_542 ?_
  refine x_callV hM wv_L_66 (m_X6_ofRange hc.1 (hX _) (hX _)) ⟨Nat.le_of_ble_eq_true rfl, Nat.le_of_ble_eq_true rfl⟩ hc.1.1 rfl rfl rfl rfl (Nat.le_of_ble_eq_true rfl) ⟨show k ≤ 600000 by omega, show n ≤ 7302250 by omega⟩ dL_law_543 (k_rI ?_)
  rw [q_ofR]
  refine x_aload_n hM dL_law_546 rfl rfl ?_
  refine x_aload_n hM dL_law_547 rfl rfl ?_
  refine x_iload_n hM dL_law_548 rfl rfl ?_
  refine x_iconst hM dL_law_549 ?_
  refine x_iadd hM dL_law_550 ?_
  refine hS.1 _ _ _ _ _ _ (by omega) (by omega) dL_law_551 ?_
  refine x_aload_n hM dL_law_552 rfl rfl ?_
  refine x_iload_n hM dL_law_553 rfl rfl ?_
  refine x_iconst hM dL_law_554 ?_
  refine x_iadd hM dL_law_555 ?_
  refine hS.1 _ _ _ _ _ _ (by omega) (by omega) dL_law_556 ?_
  refine x_callV hM wv_L_69 (m_X7_ofRange hrd (hX _) (hX _)) ⟨Nat.le_of_ble_eq_true rfl, Nat.le_of_ble_eq_true rfl⟩ hh1 rfl rfl rfl rfl (Nat.le_of_ble_eq_true rfl) ⟨show k ≤ 600000 by omega, show n ≤ 7302250 by omega⟩ dL_law_557 (k_rI ?_)
  refine x_same (tgt := 1053) hM rfl dL_law_560 (by decide) ?_
  exact hN _ _ k n _ _ _ _ ⟨hc, ⟨_, _, _, hr⟩, gdA_up hg, hz⟩ (by omega) (by omega)
theorem lc_ofOwner {l : Launch} {G : xG} {P : xT} {b L x c z k n : Nat} {xs : Int → Int} {w : Wd} {t : St} {hs : List St} {sl : Nat → Option St} {cs : List Int} (hM : xM RL cL_law 4 room_1 l G false P) (hS : scK P b L xs) (hi : 6 * (c : Int) + 6 ≤ L) (hc5 : c ≤ 511) (hk : k ≤ 300 + 22 * c) (hn : n ≤ 8000 + 248 * c) (h : lwI G w z x t hs sl cs c) (hN : lwJ P G b x c) : P 565 [some (.ref b), some (.ref x), some (.ref (x + 215)), some (.int (iI (6 * (c : Int))))] [] w (z, k, n) := by
  obtain ⟨hc, ⟨mn, pl, wr, hr⟩, hg, hz⟩ := h
  have hX := hS.2.2.2
  obtain ⟨R1, hh1, ⟨f1, g1, hn1, hp1, hn2, hg2⟩, -⟩ := id hr.1
  have hrd : rdA G w (x + 215) f1 t := ⟨⟨_, _, _, _, _, _, _, hh1⟩, hn1, hp1⟩
  refine x_aload_n hM dL_law_565 rfl rfl ?_
  refine x_aload_n hM dL_law_566 rfl rfl ?_
  refine x_iload_n hM dL_law_567 rfl rfl ?_
  refine x_iconst hM dL_law_568 ?_
  refine x_iadd hM dL_law_569 ?_
  refine hS.1 _ _ _ _ _ _ (by omega) (by omega) dL_law_570 ?_
  refine x_aload_n hM dL_law_571 rfl rfl ?_
  refine x_iload_n hM dL_law_572 rfl rfl ?_
  refine x_iconst hM dL_law_573 ?_
  refine x_iadd hM dL_law_574 ?_
  refine hS.1 _ _ _ _ _ _ (by omega) (by omega) dL_law_575 ?_
  refine x_callV hM wv_L_70 (m_X6_ofOwner hc.1 (hX _) (hX _)) ⟨Nat.le_of_ble_eq_true rfl, Nat.le_of_ble_eq_true rfl⟩ hc.1.1 rfl rfl rfl rfl (Nat.le_of_ble_eq_true rfl) ⟨show k ≤ 600000 by omega, show n ≤ 7302250 by omega⟩ dL_law_576 (k_rI ?_)
  rw [q_ofO2]
  refine x_aload_n hM dL_law_579 rfl rfl ?_
  refine x_aload_n hM dL_law_580 rfl rfl ?_
  refine x_iload_n hM dL_law_581 rfl rfl ?_
  refine x_iconst hM dL_law_582 ?_
  refine x_iadd hM dL_law_583 ?_
  refine hS.1 _ _ _ _ _ _ (by omega) (by omega) dL_law_584 ?_
  refine x_aload_n hM dL_law_585 rfl rfl ?_
  refine x_iload_n hM dL_law_586 rfl rfl ?_
  refine x_iconst hM dL_law_587 ?_
  refine x_iadd hM dL_law_588 ?_
  refine hS.1 _ _ _ _ _ _ (by omega) (by omega) dL_law_589 ?_
  refine x_callV hM wv_L_73 (m_X7_ofOwner hrd (hX _) (hX _)) ⟨Nat.le_of_ble_eq_true rfl, Nat.le_of_ble_eq_true rfl⟩ hh1 rfl rfl rfl rfl (Nat.le_of_ble_eq_true rfl) ⟨show k ≤ 600000 by omega, show n ≤ 7302250 by omega⟩ dL_law_590 (k_rI ?_)
  refine x_same (tgt := 1053) hM rfl dL_law_593 (by decide) ?_
  exact hN _ _ k n _ _ _ _ ⟨hc, ⟨_, _, _, hr⟩, gdA_up hg, hz⟩ (by omega) (by omega)
theorem lc_money {l : Launch} {G : xG} {P : xT} {b L x c z k n : Nat} {xs : Int → Int} {w : Wd} {t : St} {hs : List St} {sl : Nat → Option St} {cs : List Int} (hM : xM RL cL_law 4 room_1 l G false P) (hS : scK P b L xs) (hi : 6 * (c : Int) + 6 ≤ L) (hc5 : c ≤ 511) (hk : k ≤ 300 + 22 * c) (hn : n ≤ 8000 + 248 * c) (h : lwI G w z x t hs sl cs c) (hN : lwJ P G b x c) : P 598 [some (.ref b), some (.ref x), some (.ref (x + 215)), some (.int (iI (6 * (c : Int))))] [] w (z, k, n) := by
  obtain ⟨hc, ⟨mn, pl, wr, hr⟩, hg, hz⟩ := h
  have hX := hS.2.2.2
  obtain ⟨R1, hh1, ⟨f1, g1, hn1, hp1, hn2, hg2⟩, -⟩ := id hr.1
  have hrd : rdA G w (x + 215) f1 t := ⟨⟨_, _, _, _, _, _, _, hh1⟩, hn1, hp1⟩
  refine x_aload_n hM dL_law_598 rfl rfl ?_
  refine x_aload_n hM dL_law_599 rfl rfl ?_
  refine x_iload_n hM dL_law_600 rfl rfl ?_
  refine x_iconst hM dL_law_601 ?_
  refine x_iadd hM dL_law_602 ?_
  refine hS.1 _ _ _ _ _ _ (by omega) (by omega) dL_law_603 ?_
  refine x_callV hM wv_L_74 (m_X6_money hc.1 (hX _)) ⟨Nat.le_of_ble_eq_true rfl, Nat.le_of_ble_eq_true rfl⟩ hc.1.1 rfl rfl rfl rfl (Nat.le_of_ble_eq_true rfl) ⟨show k ≤ 600000 by omega, show n ≤ 7302250 by omega⟩ dL_law_604 (k_rL ?_)
  refine x_aload_n hM dL_law_607 rfl rfl ?_
  refine x_aload_n hM dL_law_608 rfl rfl ?_
  refine x_iload_n hM dL_law_609 rfl rfl ?_
  refine x_iconst hM dL_law_610 ?_
  refine x_iadd hM dL_law_611 ?_
  refine hS.1 _ _ _ _ _ _ (by omega) (by omega) dL_law_612 ?_
  refine x_callV hM wv_L_78 (m_X7_money hrd hn2 hg2 (hX _)) ⟨Nat.le_of_ble_eq_true rfl, Nat.le_of_ble_eq_true rfl⟩ hh1 rfl rfl rfl rfl (Nat.le_of_ble_eq_true rfl) ⟨show k ≤ 600000 by omega, show n ≤ 7302250 by omega⟩ dL_law_613 (k_rL ?_)
  refine x_lcmp hM dL_law_616 (fun z_616 z_616r z_616l z_616e => ?_)
  have hz0 : z_616 = 0 := z_616e.mpr rfl
  refine x_if_eq (tgt := 1053) hM dL_law_617 (by decide) z_616r (fun c_617 => ?_) (fun c_617 => ?_)
  · exact hN _ _ k n _ _ _ _ ⟨hc, ⟨_, _, _, hr⟩, gdA_up hg, hz⟩ (by omega) (by omega)
  · exfalso; omega
theorem lc_ownerAt {l : Launch} {G : xG} {P : xT} {b L x c z k n : Nat} {xs : Int → Int} {w : Wd} {t : St} {hs : List St} {sl : Nat → Option St} {cs : List Int} (hM : xM RL cL_law 4 room_1 l G false P) (hS : scK P b L xs) (hi : 6 * (c : Int) + 6 ≤ L) (hc5 : c ≤ 511) (hk : k ≤ 300 + 22 * c) (hn : n ≤ 8000 + 248 * c) (h : lwI G w z x t hs sl cs c) (hN : lwJ P G b x c) : P 622 [some (.ref b), some (.ref x), some (.ref (x + 215)), some (.int (iI (6 * (c : Int))))] [] w (z, k, n) := by
  obtain ⟨hc, ⟨mn, pl, wr, hr⟩, hg, hz⟩ := h
  have hX := hS.2.2.2
  obtain ⟨R1, hh1, ⟨f1, g1, hn1, hp1, hn2, hg2⟩, -⟩ := id hr.1
  have hrd : rdA G w (x + 215) f1 t := ⟨⟨_, _, _, _, _, _, _, hh1⟩, hn1, hp1⟩
  refine x_aload_n hM dL_law_622 rfl rfl ?_
  refine x_aload_n hM dL_law_623 rfl rfl ?_
  refine x_iload_n hM dL_law_624 rfl rfl ?_
  refine x_iconst hM dL_law_625 ?_
  refine x_iadd hM dL_law_626 ?_
  refine hS.1 _ _ _ _ _ _ (by omega) (by omega) dL_law_627 ?_
  refine x_callV hM wv_L_79 (m_X6_ownerAt hc.1 (hX _)) ⟨Nat.le_of_ble_eq_true rfl, Nat.le_of_ble_eq_true rfl⟩ hc.1.1 rfl rfl rfl rfl (Nat.le_of_ble_eq_true rfl) ⟨show k ≤ 600000 by omega, show n ≤ 7302250 by omega⟩ dL_law_628 (k_rI ?_)
  rw [q_own (gd_L hg.1)]
  refine x_aload_n hM dL_law_631 rfl rfl ?_
  refine x_aload_n hM dL_law_632 rfl rfl ?_
  refine x_iload_n hM dL_law_633 rfl rfl ?_
  refine x_iconst hM dL_law_634 ?_
  refine x_iadd hM dL_law_635 ?_
  refine hS.1 _ _ _ _ _ _ (by omega) (by omega) dL_law_636 ?_
  refine x_callV hM wv_L_82 (m_X7_ownerAt hrd (hX _)) ⟨Nat.le_of_ble_eq_true rfl, Nat.le_of_ble_eq_true rfl⟩ hh1 rfl rfl rfl rfl (Nat.le_of_ble_eq_true rfl) ⟨show k ≤ 600000 by omega, show n ≤ 7302250 by omega⟩ dL_law_637 (k_rI ?_)
  refine x_same (tgt := 1053) hM rfl dL_law_640 (by decide) ?_
  exact hN _ _ k n _ _ _ _ ⟨hc, ⟨_, _, _, hr⟩, gdA_up hg, hz⟩ (by omega) (by omega)
theorem lc_ofTransfer {l : Launch} {G : xG} {P : xT} {b L x c z k n : Nat} {xs : Int → Int} {w : Wd} {t : St} {hs : List St} {sl : Nat → Option St} {cs : List Int} (hM : xM RL cL_law 4 room_1 l G false P) (hS : scK P b L xs) (hi : 6 * (c : Int) + 6 ≤ L) (hc5 : c ≤ 511) (hk : k ≤ 300 + 22 * c) (hn : n ≤ 8000 + 248 * c) (h : lwI G w z x t hs sl cs c) (hN : lwJ P G b x c) : P 645 [some (.ref b), some (.ref x), some (.ref (x + 215)), some (.int (iI (6 * (c : Int))))] [] w (z, k, n) := by
  obtain ⟨hc, ⟨mn, pl, wr, hr⟩, hg, hz⟩ := h
  have hX := hS.2.2.2
  obtain ⟨R1, hh1, ⟨f1, g1, hn1, hp1, hn2, hg2⟩, -⟩ := id hr.1
  have hrd : rdA G w (x + 215) f1 t := ⟨⟨_, _, _, _, _, _, _, hh1⟩, hn1, hp1⟩
  refine x_aload_n hM dL_law_645 rfl rfl ?_
  refine x_aload_n hM dL_law_646 rfl rfl ?_
  refine x_iload_n hM dL_law_647 rfl rfl ?_
  refine x_iconst hM dL_law_648 ?_
  refine x_iadd hM dL_law_649 ?_
  refine hS.1 _ _ _ _ _ _ (by omega) (by omega) dL_law_650 ?_
  refine x_aload_n hM dL_law_651 rfl rfl ?_
  refine x_iload_n hM dL_law_652 rfl rfl ?_
  refine x_iconst hM dL_law_653 ?_
  refine x_iadd hM dL_law_654 ?_
  refine hS.1 _ _ _ _ _ _ (by omega) (by omega) dL_law_655 ?_
  refine x_callV hM wv_L_83 (m_X6_ofTransfer hc.1 (hX _) (hX _)) ⟨Nat.le_of_ble_eq_true rfl, Nat.le_of_ble_eq_true rfl⟩ hc.1.1 rfl rfl rfl rfl (Nat.le_of_ble_eq_true rfl) ⟨show k ≤ 600000 by omega, show n ≤ 7302250 by omega⟩ dL_law_656 (k_rI ?_)
  refine x_aload_n hM dL_law_659 rfl rfl ?_
  refine x_aload_n hM dL_law_660 rfl rfl ?_
  refine x_iload_n hM dL_law_661 rfl rfl ?_
  refine x_iconst hM dL_law_662 ?_
  refine x_iadd hM dL_law_663 ?_
  refine hS.1 _ _ _ _ _ _ (by omega) (by omega) dL_law_664 ?_
  refine x_aload_n hM dL_law_665 rfl rfl ?_
  refine x_iload_n hM dL_law_666 rfl rfl ?_
  refine x_iconst hM dL_law_667 ?_
  refine x_iadd hM dL_law_668 ?_
  refine hS.1 _ _ _ _ _ _ (by omega) (by omega) dL_law_669 ?_
  refine x_callV hM wv_L_86 (m_X7_ofTransfer hrd (hX _) (hX _)) ⟨Nat.le_of_ble_eq_true rfl, Nat.le_of_ble_eq_true rfl⟩ hh1 rfl rfl rfl rfl (Nat.le_of_ble_eq_true rfl) ⟨show k ≤ 600000 by omega, show n ≤ 7302250 by omega⟩ dL_law_670 (k_rI ?_)
  refine x_same (tgt := 1053) hM rfl dL_law_673 (by decide) ?_
  exact hN _ _ k n _ _ _ _ ⟨hc, ⟨_, _, _, hr⟩, gdA_up hg, hz⟩ (by omega) (by omega)
theorem lc_count {l : Launch} {G : xG} {P : xT} {b L x c z k n : Nat} {xs : Int → Int} {w : Wd} {t : St} {hs : List St} {sl : Nat → Option St} {cs : List Int} (hM : xM RL cL_law 4 room_1 l G false P) (hS : scK P b L xs) (hi : 6 * (c : Int) + 6 ≤ L) (hc5 : c ≤ 511) (hk : k ≤ 300 + 22 * c) (hn : n ≤ 8000 + 248 * c) (h : lwI G w z x t hs sl cs c) (hN : lwJ P G b x c) : P 678 [some (.ref b), some (.ref x), some (.ref (x + 215)), some (.int (iI (6 * (c : Int))))] [] w (z, k, n) := by
  obtain ⟨hc, ⟨mn, pl, wr, hr⟩, hg, hz⟩ := h
  have hX := hS.2.2.2
  obtain ⟨R1, hh1, ⟨f1, g1, hn1, hp1, hn2, hg2⟩, -⟩ := id hr.1
  have hrd : rdA G w (x + 215) f1 t := ⟨⟨_, _, _, _, _, _, _, hh1⟩, hn1, hp1⟩
  obtain ⟨pl0, kd0, le0, nu0, se0, hp0⟩ := id hc.2.2.2
  refine x_aload_n hM dL_law_678 rfl rfl ?_
  refine x_aload_n hM dL_law_679 rfl rfl ?_
  refine x_iload_n hM dL_law_680 rfl rfl ?_
  refine x_iconst hM dL_law_681 ?_
  refine x_iadd hM dL_law_682 ?_
  refine hS.1 _ _ _ _ _ _ (by omega) (by omega) dL_law_683 ?_
  refine x_callV hM wv_L_87 (m_X6_count hc.1 hc.2.1 hp0 (hX _)) ⟨Nat.le_of_ble_eq_true rfl, Nat.le_of_ble_eq_true rfl⟩ hc.1.1 rfl rfl rfl rfl (Nat.le_of_ble_eq_true rfl) ⟨show k ≤ 600000 by omega, show n ≤ 7302250 by omega⟩ dL_law_684 (k_rI ?_)
  rw [q_cnt (gd_L hg.1) (fun o a _ => (gd_z hg.1 o a).2.1) ⟨(gd_W hg.1).1, gd_10 hg.1⟩, List.length_map]
  refine x_aload_n hM dL_law_687 rfl rfl ?_
  refine x_aload_n hM dL_law_688 rfl rfl ?_
  refine x_iload_n hM dL_law_689 rfl rfl ?_
  refine x_iconst hM dL_law_690 ?_
  refine x_iadd hM dL_law_691 ?_
  refine hS.1 _ _ _ _ _ _ (by omega) (by omega) dL_law_692 ?_
  refine x_callV hM wv_L_90 (m_X7_count hrd hh1 (hX _)) ⟨Nat.le_of_ble_eq_true rfl, Nat.le_of_ble_eq_true rfl⟩ hh1 rfl rfl rfl rfl (Nat.le_of_ble_eq_true rfl) ⟨show k ≤ 600000 by omega, show n ≤ 7302250 by omega⟩ dL_law_693 (k_rI ?_)
  refine x_same (tgt := 1053) hM rfl dL_law_696 (by decide) ?_
  exact hN _ _ k n _ _ _ _ ⟨hc, ⟨_, _, _, hr⟩, gdA_up hg, hz⟩ (by omega) (by omega)
theorem lc_shareBits {l : Launch} {G : xG} {P : xT} {b L x c z k n : Nat} {xs : Int → Int} {w : Wd} {t : St} {hs : List St} {sl : Nat → Option St} {cs : List Int} (hM : xM RL cL_law 4 room_1 l G false P) (hS : scK P b L xs) (hi : 6 * (c : Int) + 6 ≤ L) (hc5 : c ≤ 511) (hk : k ≤ 300 + 22 * c) (hn : n ≤ 8000 + 248 * c) (h : lwI G w z x t hs sl cs c) (hN : lwJ P G b x c) : P 701 [some (.ref b), some (.ref x), some (.ref (x + 215)), some (.int (iI (6 * (c : Int))))] [] w (z, k, n) := by
  obtain ⟨hc, ⟨mn, pl, wr, hr⟩, hg, hz⟩ := h
  have hX := hS.2.2.2
  obtain ⟨R1, hh1, ⟨f1, g1, hn1, hp1, hn2, hg2⟩, -⟩ := id hr.1
  have hrd : rdA G w (x + 215) f1 t := ⟨⟨_, _, _, _, _, _, _, hh1⟩, hn1, hp1⟩
  refine x_aload_n hM dL_law_701 rfl rfl ?_
  refine x_aload_n hM dL_law_702 rfl rfl ?_
  refine x_iload_n hM dL_law_703 rfl rfl ?_
  refine x_iconst hM dL_law_704 ?_
  refine x_iadd hM dL_law_705 ?_
  refine hS.1 _ _ _ _ _ _ (by omega) (by omega) dL_law_706 ?_
  refine x_callV hM wv_L_91 (m_X6_shareBits hc.1 (hX _)) ⟨Nat.le_of_ble_eq_true rfl, Nat.le_of_ble_eq_true rfl⟩ hc.1.1 rfl rfl rfl rfl (Nat.le_of_ble_eq_true rfl) ⟨show k ≤ 600000 by omega, show n ≤ 7302250 by omega⟩ dL_law_707 (k_rI ?_)
  rw [q_shr (gd_L hg.1)]
  refine x_aload_n hM dL_law_710 rfl rfl ?_
  refine x_aload_n hM dL_law_711 rfl rfl ?_
  refine x_iload_n hM dL_law_712 rfl rfl ?_
  refine x_iconst hM dL_law_713 ?_
  refine x_iadd hM dL_law_714 ?_
  refine hS.1 _ _ _ _ _ _ (by omega) (by omega) dL_law_715 ?_
  refine x_callV hM wv_L_94 (m_X7_shareBits hrd (hX _) ⟨mts_0 (gd_L hg.1).2.1, fun q => ⟨mts_0 (gd_L hg.1).2.1, by have := mts_two (o := xs (6 * (c : Int) + 1)) (p := -6) (by omega) t.L 0 (gd_L hg.1).2.1; omega⟩⟩) ⟨Nat.le_of_ble_eq_true rfl, Nat.le_of_ble_eq_true rfl⟩ hh1 rfl rfl rfl rfl (Nat.le_of_ble_eq_true rfl) ⟨show k ≤ 600000 by omega, show n ≤ 7302250 by omega⟩ dL_law_716 (k_rI ?_)
  refine x_same (tgt := 1053) hM rfl dL_law_719 (by decide) ?_
  exact hN _ _ k n _ _ _ _ ⟨hc, ⟨_, _, _, hr⟩, gdA_up hg, hz⟩ (by omega) (by omega)
theorem lc_hole {l : Launch} {G : xG} {P : xT} {b L x c z k n : Nat} {xs : Int → Int} {w : Wd} {t : St} {hs : List St} {sl : Nat → Option St} {cs : List Int} (hM : xM RL cL_law 4 room_1 l G false P) (hS : scK P b L xs) (hi : 6 * (c : Int) + 6 ≤ L) (hc5 : c ≤ 511) (hk : k ≤ 300 + 22 * c) (hn : n ≤ 8000 + 248 * c) (h : lwI G w z x t hs sl cs c) (hN : lwJ P G b x c) : P 724 [some (.ref b), some (.ref x), some (.ref (x + 215)), some (.int (iI (6 * (c : Int))))] [] w (z, k, n) := by
  obtain ⟨hc, ⟨mn, pl, wr, hr⟩, hg, hz⟩ := h
  have hX := hS.2.2.2
  obtain ⟨R1, hh1, ⟨f1, g1, hn1, hp1, hn2, hg2⟩, -⟩ := id hr.1
  have hrd : rdA G w (x + 215) f1 t := ⟨⟨_, _, _, _, _, _, _, hh1⟩, hn1, hp1⟩
  refine x_aload_n hM dL_law_724 rfl rfl ?_
  refine x_aload_n hM dL_law_725 rfl rfl ?_
  refine x_iload_n hM dL_law_726 rfl rfl ?_
  refine x_iconst hM dL_law_727 ?_
  refine x_iadd hM dL_law_728 ?_
  refine hS.1 _ _ _ _ _ _ (by omega) (by omega) dL_law_729 ?_
  refine x_aload_n hM dL_law_730 rfl rfl ?_
  refine x_iload_n hM dL_law_731 rfl rfl ?_
  refine x_iconst hM dL_law_732 ?_
  refine x_iadd hM dL_law_733 ?_
  refine hS.1 _ _ _ _ _ _ (by omega) (by omega) dL_law_734 ?_
  refine x_callV hM wv_L_95 (m_X6_hole hc.1 (hX _) (hX _)) ⟨Nat.le_of_ble_eq_true rfl, Nat.le_of_ble_eq_true rfl⟩ hc.1.1 rfl rfl rfl rfl (Nat.le_of_ble_eq_true rfl) ⟨show k ≤ 600000 by omega, show n ≤ 7302250 by omega⟩ dL_law_735 (k_rI ?_)
  rw [q_hole (gd_L hg.1)]
  refine x_aload_n hM dL_law_738 rfl rfl ?_
  refine x_aload_n hM dL_law_739 rfl rfl ?_
  refine x_iload_n hM dL_law_740 rfl rfl ?_
  refine x_iconst hM dL_law_741 ?_
  refine x_iadd hM dL_law_742 ?_
  refine hS.1 _ _ _ _ _ _ (by omega) (by omega) dL_law_743 ?_
  refine x_aload_n hM dL_law_744 rfl rfl ?_
  refine x_iload_n hM dL_law_745 rfl rfl ?_
  refine x_iconst hM dL_law_746 ?_
  refine x_iadd hM dL_law_747 ?_
  refine hS.1 _ _ _ _ _ _ (by omega) (by omega) dL_law_748 ?_
  refine x_callV hM wv_L_98 (m_X7_hole hrd (hX _) (hX _)) ⟨Nat.le_of_ble_eq_true rfl, Nat.le_of_ble_eq_true rfl⟩ hh1 rfl rfl rfl rfl (Nat.le_of_ble_eq_true rfl) ⟨show k ≤ 600000 by omega, show n ≤ 7302250 by omega⟩ dL_law_749 (k_rI ?_)
  refine x_same (tgt := 1053) hM rfl dL_law_752 (by decide) ?_
  exact hN _ _ k n _ _ _ _ ⟨hc, ⟨_, _, _, hr⟩, gdA_up hg, hz⟩ (by omega) (by omega)
theorem lc_quietest {l : Launch} {G : xG} {P : xT} {b L x c z k n : Nat} {xs : Int → Int} {w : Wd} {t : St} {hs : List St} {sl : Nat → Option St} {cs : List Int} (hM : xM RL cL_law 4 room_1 l G false P) (hS : scK P b L xs) (hi : 6 * (c : Int) + 6 ≤ L) (hc5 : c ≤ 511) (hk : k ≤ 300 + 22 * c) (hn : n ≤ 8000 + 248 * c) (h : lwI G w z x t hs sl cs c) (hN : lwJ P G b x c) : P 800 [some (.ref b), some (.ref x), some (.ref (x + 215)), some (.int (iI (6 * (c : Int))))] [] w (z, k, n) := by
  obtain ⟨hc, ⟨mn, pl, wr, hr⟩, hg, hz⟩ := h
  have hX := hS.2.2.2
  obtain ⟨R1, hh1, ⟨f1, g1, hn1, hp1, hn2, hg2⟩, -⟩ := id hr.1
  have hrd : rdA G w (x + 215) f1 t := ⟨⟨_, _, _, _, _, _, _, hh1⟩, hn1, hp1⟩
  refine x_aload_n hM dL_law_800 rfl rfl ?_
  refine x_aload_n hM dL_law_801 rfl rfl ?_
  refine x_iload_n hM dL_law_802 rfl rfl ?_
  refine x_iconst hM dL_law_803 ?_
  refine x_iadd hM dL_law_804 ?_
  refine hS.1 _ _ _ _ _ _ (by omega) (by omega) dL_law_805 ?_
  refine x_aload_n hM dL_law_806 rfl rfl ?_
  refine x_iload_n hM dL_law_807 rfl rfl ?_
  refine x_iconst hM dL_law_808 ?_
  refine x_iadd hM dL_law_809 ?_
  refine hS.1 _ _ _ _ _ _ (by omega) (by omega) dL_law_810 ?_
  refine x_callV hM wv_L_103 (m_X6_quietest hc.1 (hX _) (hX _)) ⟨Nat.le_of_ble_eq_true rfl, Nat.le_of_ble_eq_true rfl⟩ hc.1.1 rfl rfl rfl rfl (Nat.le_of_ble_eq_true rfl) ⟨show k ≤ 600000 by omega, show n ≤ 7302250 by omega⟩ dL_law_811 (k_rI ?_)
  rw [q_qst (gd_L hg.1)]
  refine x_aload_n hM dL_law_814 rfl rfl ?_
  refine x_aload_n hM dL_law_815 rfl rfl ?_
  refine x_iload_n hM dL_law_816 rfl rfl ?_
  refine x_iconst hM dL_law_817 ?_
  refine x_iadd hM dL_law_818 ?_
  refine hS.1 _ _ _ _ _ _ (by omega) (by omega) dL_law_819 ?_
  refine x_aload_n hM dL_law_820 rfl rfl ?_
  refine x_iload_n hM dL_law_821 rfl rfl ?_
  refine x_iconst hM dL_law_822 ?_
  refine x_iadd hM dL_law_823 ?_
  refine hS.1 _ _ _ _ _ _ (by omega) (by omega) dL_law_824 ?_
  refine x_callV hM wv_L_106 (m_X7_quietest hrd (hX _) (hX _)) ⟨Nat.le_of_ble_eq_true rfl, Nat.le_of_ble_eq_true rfl⟩ hh1 rfl rfl rfl rfl (Nat.le_of_ble_eq_true rfl) ⟨show k ≤ 600000 by omega, show n ≤ 7302250 by omega⟩ dL_law_825 (k_rI ?_)
  refine x_same (tgt := 1053) hM rfl dL_law_828 (by decide) ?_
  exact hN _ _ k n _ _ _ _ ⟨hc, ⟨_, _, _, hr⟩, gdA_up hg, hz⟩ (by omega) (by omega)
theorem lc_gaps {l : Launch} {G : xG} {P : xT} {b L x c z k n : Nat} {xs : Int → Int} {w : Wd} {t : St} {hs : List St} {sl : Nat → Option St} {cs : List Int} (hM : xM RL cL_law 4 room_1 l G false P) (hS : scK P b L xs) (hi : 6 * (c : Int) + 6 ≤ L) (hc5 : c ≤ 511) (hk : k ≤ 300 + 22 * c) (hn : n ≤ 8000 + 248 * c) (h : lwI G w z x t hs sl cs c) (hN : lwJ P G b x c) : P 833 [some (.ref b), some (.ref x), some (.ref (x + 215)), some (.int (iI (6 * (c : Int))))] [] w (z, k, n) := by
  obtain ⟨hc, ⟨mn, pl, wr, hr⟩, hg, hz⟩ := h
  have hX := hS.2.2.2
  obtain ⟨R1, hh1, ⟨f1, g1, hn1, hp1, hn2, hg2⟩, -⟩ := id hr.1
  have hrd : rdA G w (x + 215) f1 t := ⟨⟨_, _, _, _, _, _, _, hh1⟩, hn1, hp1⟩
  refine x_aload_n hM dL_law_833 rfl rfl ?_
  refine x_aload_n hM dL_law_834 rfl rfl ?_
  refine x_iload_n hM dL_law_835 rfl rfl ?_
  refine x_iconst hM dL_law_836 ?_
  refine x_iadd hM dL_law_837 ?_
  refine hS.1 _ _ _ _ _ _ (by omega) (by omega) dL_law_838 ?_
  refine x_callV hM wv_L_107 (m_X6_gaps hc.1 (hX _)) ⟨Nat.le_of_ble_eq_true rfl, Nat.le_of_ble_eq_true rfl⟩ hc.1.1 rfl rfl rfl rfl (Nat.le_of_ble_eq_true rfl) ⟨show k ≤ 600000 by omega, show n ≤ 7302250 by omega⟩ dL_law_839 (k_rI ?_)
  rw [q_gaps]
  refine x_aload_n hM dL_law_842 rfl rfl ?_
  refine x_aload_n hM dL_law_843 rfl rfl ?_
  refine x_iload_n hM dL_law_844 rfl rfl ?_
  refine x_iconst hM dL_law_845 ?_
  refine x_iadd hM dL_law_846 ?_
  refine hS.1 _ _ _ _ _ _ (by omega) (by omega) dL_law_847 ?_
  refine x_callV hM wv_L_110 (m_X7_gaps hrd (hX _)) ⟨Nat.le_of_ble_eq_true rfl, Nat.le_of_ble_eq_true rfl⟩ hh1 rfl rfl rfl rfl (Nat.le_of_ble_eq_true rfl) ⟨show k ≤ 600000 by omega, show n ≤ 7302250 by omega⟩ dL_law_848 (k_rI ?_)
  refine x_same (tgt := 1053) hM rfl dL_law_851 (by decide) ?_
  exact hN _ _ k n _ _ _ _ ⟨hc, ⟨_, _, _, hr⟩, gdA_up hg, hz⟩ (by omega) (by omega)
