/-! the law lays a row anew -/
section LY
variable {a e o : Int} {s : Sg}
def lyA (a e o : Int) (s : Sg) (c : List Sg × Bool) : List Sg × Bool := if c.2 = false ∧ a ≤ s.2.1 then (adF c.1 o a (e - a), true) else c
def lyB (a : Int) (s : Sg) (c : List Sg × Bool) : List Sg × Bool := (adS c.1 (lefP a s), c.2)
def lyC (a e o : Int) (s : Sg) (c : List Sg × Bool) : List Sg × Bool := if c.2 = false ∧ a < s.2.2 then (adF c.1 o a (e - a), true) else c
def lyD (e : Int) (s : Sg) (c : List Sg × Bool) : List Sg × Bool := (adS c.1 (rigP e s), c.2)
theorem ly_all (c : List Sg × Bool) : layS a e o c s = lyD e s (lyC a e o s (lyB a s (lyA a e o s c))) := rfl
theorem lyB_len (c : List Sg × Bool) : c.1.length ≤ (lyB a s c).1.length := (adF_len _ _ _ _).1
theorem lyC_len (c : List Sg × Bool) : c.1.length ≤ (lyC a e o s c).1.length := by
  unfold lyC
  split
  · exact (adF_len _ _ _ _).1
  · exact Nat.le_refl _
theorem lyD_len (c : List Sg × Bool) : c.1.length ≤ (lyD e s c).1.length := (adF_len _ _ _ _).1
theorem rig_le (h : s.2.1 ≤ e) : rigP e s = (s.1, e, s.2.2 - e) := by
  unfold rigP
  by_cases c : s.2.1 < e
  · rw [if_pos c]
  · rw [if_neg c, show s.2.1 = e by omega]
theorem rig_gt (h : e < s.2.1) : rigP e s = (s.1, s.2.1, s.2.2 - s.2.1) := by
  unfold rigP
  rw [if_neg (by omega)]
theorem lef_lt (h : s.2.2 < a) : lefP a s = (s.1, s.2.1, s.2.2 - s.2.1) := by
  unfold lefP
  rw [if_neg (by omega)]
theorem lef_ge (h : a ≤ s.2.2) : lefP a s = (s.1, s.2.1, a - s.2.1) := by
  unfold lefP
  by_cases c : a < s.2.2
  · rw [if_pos c]
  · rw [if_neg c, show s.2.2 = a by omega]
end LY
theorem m_L_lay {l : Launch} {G : xG} {w : Wd} {z r e t u : Nat} {L : List Sg} {o a b : Int} {f0 g0 : Int → Int} (h : rsA G w r e L) (hc : canL L) (h1 : w t = some (aI G 64 f0)) (h2 : w u = some (aI G 64 g0)) (hd : r ≠ t ∧ r ≠ u ∧ e ≠ t ∧ e ≠ u ∧ t ≠ u) (hl : L.length ≤ 40) (hoo : iR o ∧ o < 10) (hp : 0 ≤ a ∧ a < b ∧ b ≤ 10000) : xMet l G yL_lay cL_lay 12 none ({ frames := 1, cells := 0, slots := 0, locals := 25 } : Room) [.ref r, .ref e, .int (iI a), .int (iI b), .int (iI o), .ref t, .ref u] w z (qV z fun w1 => rsA G w1 t u (becF L o a (b - a)) ∧ Fa t u w w1) := by
  have hW := h.1
  have hok : ∀ s ∈ L, s.2.1 < s.2.2 := fun s hs => (hW.2 s hs).2.2.2.1
  have hsr := can_srt hc hok
  have hb2 := (bec_ad (o := o) (a := a) (n := b - a) hsr hok hl (by omega)).2
  have hlay := lay_bec (o := o) hsr hok hl hp.2.1
  obtain ⟨hd1, hd2, hd3, hd4, hd5⟩ := hd
  refine xMet_of RL rfl (by decide +kernel) false (by decide +kernel) (Nat.le_of_ble_eq_true rfl) rfl ?_
  intro P hM hR
  /- the end -/
  have E : ∀ (T : List Sg) (w1 : Wd) (k1 k2 : Option Value) (bv i k7 : Int), T = becF L o a (b - a) → arA G w1 t u T → Fa t u w w1 → P 182 [some (.ref r), some (.ref e), some (.int (iI a)), some (.int (iI b)), some (.int (iI o)), some (.ref t), some (.ref u), some (.int (iI k7)), some (.int (iI bv)), some (.int (iI i)), k1, k2] [.int (iI T.length)] w1 (z, 0, 0) := by
    intro T w1 k1 k2 bv i k7 hT hA hF
    obtain ⟨k0, f, g, k3, k4, k5⟩ := hA
    refine x_istore hM dL_lay_182 rfl (Nat.le_of_ble_eq_true rfl) rfl ?_
    refine x_aload hM dL_lay_184 rfl ?_
    refine x_iconst hM dL_lay_186 ?_
    refine x_iload hM dL_lay_187 rfl ?_
    refine x_iast hM k3 (by omega) dL_lay_189 ?_
    refine hR.v dL_lay_190 (Nat.zero_le _) (Nat.zero_le _) ?_
    refine p_qV ⟨⟨⟨by omega, by rw [← hT]; exact k0⟩, fU f 0 T.length, g, ⟨wS_eq, (wS_ne (Ne.symm hd5)).trans k4, ?_⟩, ?_⟩, hF.tr Fa.w1⟩
    · rw [← hT]; intro q hq; rw [fU_ne (by omega)]; exact k5 q hq
    · rw [← hT]; exact fU_eq
  have K : ∀ (j i : Nat) (T : List Sg) (c : Bool) (bv : Int) (w1 : Wd) (k1 k2 : Option Value), i + j = L.length → layE a b o ((L.drop i).foldl (layS a b o) (T, c)) = becF L o a (b - a) → (bv = 0 ∧ c = false) ∨ (bv = 1 ∧ c = true) → arA G w1 t u T → Fa t u w w1 → P 9 [some (.ref r), some (.ref e), some (.int (iI a)), some (.int (iI b)), some (.int (iI o)), some (.ref t), some (.ref u), some (.int (iI T.length)), some (.int (iI bv)), some (.int (iI i)), k1, k2] [] w1 (z, 0, 0) := by
    intro j
    induction j with
    | zero =>
      intro i T c bv w1 k1 k2 hij hinv hbv hA hF
      obtain ⟨-, f, g, ⟨r1, r2, r3⟩, r4⟩ := h.kp (hF r hd1 hd2) (hF e hd3 hd4)
      have hTl := layE_mono a b o (L.drop i) (T, c)
      rw [hinv] at hTl
      have hTl : T.length ≤ (becF L o a (b - a)).length := hTl
      rw [List.drop_of_length_le (by omega)] at hinv
      rcases hbv with ⟨rfl, rfl⟩ | ⟨rfl, rfl⟩
      · have hinv : adF T o a (b - a) = becF L o a (b - a) := hinv
        refine x_iload hM dL_lay_9 rfl ?_
        refine x_aload_n hM dL_lay_11 rfl rfl ?_
        refine x_iconst hM dL_lay_12 ?_
        refine x_iald hM r1 (by omega) dL_lay_13 ?_
        refine x_icmp_ge (tgt := 159) hM dL_lay_14 (by decide) (by omega) (by omega) (fun c_14 => ?_) (fun c_14 => ?_)
        · refine x_iload hM dL_lay_159 rfl ?_
          refine x_if_eq (tgt := 169) hM dL_lay_161 (by decide) (by omega) (fun c_161 => ?_) (fun c_161 => ?_)
          · refine x_aload hM dL_lay_169 rfl ?_
            refine x_aload hM dL_lay_171 rfl ?_
            refine x_iload hM dL_lay_173 rfl ?_
            refine x_iload_n hM dL_lay_175 rfl rfl ?_
            refine x_iload_n hM dL_lay_176 rfl rfl ?_
            refine x_iload hM dL_lay_177 rfl ?_
            refine x_callS hM ws_L_24 (m_L_add hA (by omega) hd5 (by omega)) ⟨Nat.le_of_ble_eq_true rfl, Nat.le_of_ble_eq_true rfl⟩ rfl rfl (Nat.le_of_ble_eq_true rfl) ⟨Nat.le_of_ble_eq_true rfl, Nat.le_of_ble_eq_true rfl⟩ dL_lay_179 (k_qI fun x_179 w_179 q_179 => ?_)
            obtain ⟨rfl, qA, qF⟩ := q_179
            exact E _ _ _ _ _ _ _ hinv qA (hF.tr qF)
          · exfalso; omega
        · exfalso; omega
      · have hinv : T = becF L o a (b - a) := hinv
        refine x_iload hM dL_lay_9 rfl ?_
        refine x_aload_n hM dL_lay_11 rfl rfl ?_
        refine x_iconst hM dL_lay_12 ?_
        refine x_iald hM r1 (by omega) dL_lay_13 ?_
        refine x_icmp_ge (tgt := 159) hM dL_lay_14 (by decide) (by omega) (by omega) (fun c_14 => ?_) (fun c_14 => ?_)
        · refine x_iload hM dL_lay_159 rfl ?_
          refine x_if_eq (tgt := 169) hM dL_lay_161 (by decide) (by omega) (fun c_161 => ?_) (fun c_161 => ?_)
          · exfalso; omega
          · refine x_iload hM dL_lay_164 rfl ?_
            refine x_goto (tgt := 182) hM dL_lay_166 (by decide) ?_
            exact E _ _ _ _ _ _ _ hinv hA hF
        · exfalso; omega
    | succ j ih =>
      intro i T c bv w1 k1 k2 hij hinv hbv hA hF
      have hi : i < L.length := by omega
      have ho := strW_at hW hi
      rw [drop_fold _ _ hi, ly_all] at hinv
      have mono := fun c : List Sg × Bool => layE_mono a b o (L.drop (i + 1)) c
      have rest : ∀ w2 : Wd, Fa t u w w2 → rsA G w2 r e L := fun w2 q => h.kp (q r hd1 hd2) (q e hd3 hd4)
      /- behind the middle -/
      have S4 : ∀ (T : List Sg) (c : Bool) (bv : Int) (w1 : Wd), layE a b o ((L.drop (i + 1)).foldl (layS a b o) (lyD b L[i] (T, c))) = becF L o a (b - a) → (bv = 0 ∧ c = false) ∨ (bv = 1 ∧ c = true) → arA G w1 t u T → Fa t u w w1 → P 122 [some (.ref r), some (.ref e), some (.int (iI a)), some (.int (iI b)), some (.int (iI o)), some (.ref t), some (.ref u), some (.int (iI T.length)), some (.int (iI bv)), some (.int (iI i)), some (.int (iI L[i].2.1)), some (.int (iI L[i].2.2))] [] w1 (z, 0, 0) := by
        intro T c bv w1 hinv hbv hA hF
        have hl1 := lyD_len (e := b) (s := L[i]) (T, c)
        have hl2 := mono (lyD b L[i] (T, c))
        rw [hinv] at hl2
        have hl1 : T.length ≤ (lyD b L[i] (T, c)).1.length := hl1
        have hrs := rest w1 hF
        refine x_aload hM dL_lay_122 rfl ?_
        refine x_aload hM dL_lay_124 rfl ?_
        refine x_iload hM dL_lay_126 rfl ?_
        refine x_iload hM dL_lay_128 rfl ?_
        refine x_iload_n hM dL_lay_130 rfl rfl ?_
        refine x_icmp_le (tgt := 139) hM dL_lay_131 (by decide) (by omega) (by omega) (fun c_131 => ?_) (fun c_131 => ?_)
        · refine x_iload_n hM dL_lay_139 rfl rfl ?_
          refine x_iload hM dL_lay_140 rfl ?_
          refine x_aload_n hM dL_lay_142 rfl rfl ?_
          refine x_iload hM dL_lay_143 rfl ?_
          refine x_callS hM ws_L_28 (m_L_ownerOf hrs hi) ⟨Nat.le_of_ble_eq_true rfl, Nat.le_of_ble_eq_true rfl⟩ rfl rfl (Nat.le_of_ble_eq_true rfl) ⟨Nat.le_of_ble_eq_true rfl, Nat.le_of_ble_eq_true rfl⟩ dL_lay_145 (k_rI ?_)
          refine x_callS hM ws_L_24 (m_L_add hA (by omega) hd5 (by omega)) ⟨Nat.le_of_ble_eq_true rfl, Nat.le_of_ble_eq_true rfl⟩ rfl rfl (Nat.le_of_ble_eq_true rfl) ⟨Nat.le_of_ble_eq_true rfl, Nat.le_of_ble_eq_true rfl⟩ dL_lay_148 (k_qI fun x_148 w_148 q_148 => ?_)
          obtain ⟨rfl, qA, qF⟩ := q_148
          refine x_istore hM dL_lay_151 rfl (Nat.le_of_ble_eq_true rfl) rfl ?_
          refine x_iinc hM dL_lay_153 rfl rfl rfl ?_
          refine x_goto (tgt := 9) hM dL_lay_156 (by decide) ?_
          refine ih (i + 1) _ c bv _ _ _ (by omega) ?_ hbv qA (hF.tr qF)
          rw [← hinv]; unfold lyD adS; first | rw [rig_le (by omega)] | rw [rig_gt (by omega)]
        · refine x_iload hM dL_lay_134 rfl ?_
          refine x_goto (tgt := 140) hM dL_lay_136 (by decide) ?_
          refine x_iload hM dL_lay_140 rfl ?_
          refine x_aload_n hM dL_lay_142 rfl rfl ?_
          refine x_iload hM dL_lay_143 rfl ?_
          refine x_callS hM ws_L_28 (m_L_ownerOf hrs hi) ⟨Nat.le_of_ble_eq_true rfl, Nat.le_of_ble_eq_true rfl⟩ rfl rfl (Nat.le_of_ble_eq_true rfl) ⟨Nat.le_of_ble_eq_true rfl, Nat.le_of_ble_eq_true rfl⟩ dL_lay_145 (k_rI ?_)
          refine x_callS hM ws_L_24 (m_L_add hA (by omega) hd5 (by omega)) ⟨Nat.le_of_ble_eq_true rfl, Nat.le_of_ble_eq_true rfl⟩ rfl rfl (Nat.le_of_ble_eq_true rfl) ⟨Nat.le_of_ble_eq_true rfl, Nat.le_of_ble_eq_true rfl⟩ dL_lay_148 (k_qI fun x_148 w_148 q_148 => ?_)
          obtain ⟨rfl, qA, qF⟩ := q_148
          refine x_istore hM dL_lay_151 rfl (Nat.le_of_ble_eq_true rfl) rfl ?_
          refine x_iinc hM dL_lay_153 rfl rfl rfl ?_
          refine x_goto (tgt := 9) hM dL_lay_156 (by decide) ?_
          refine ih (i + 1) _ c bv _ _ _ (by omega) ?_ hbv qA (hF.tr qF)
          rw [← hinv]; unfold lyD adS; first | rw [rig_le (by omega)] | rw [rig_gt (by omega)]
      have S3 : ∀ (T : List Sg) (c : Bool) (bv : Int) (w1 : Wd), layE a b o ((L.drop (i + 1)).foldl (layS a b o) (lyD b L[i] (lyC a b o L[i] (T, c)))) = becF L o a (b - a) → (bv = 0 ∧ c = false) ∨ (bv = 1 ∧ c = true) → arA G w1 t u T → Fa t u w w1 → P 93 [some (.ref r), some (.ref e), some (.int (iI a)), some (.int (iI b)), some (.int (iI o)), some (.ref t), some (.ref u), some (.int (iI T.length)), some (.int (iI bv)), some (.int (iI i)), some (.int (iI L[i].2.1)), some (.int (iI L[i].2.2))] [] w1 (z, 0, 0) := by
        intro T c bv w1 hinv hbv hA hF
        have hl1 := lyC_len (a := a) (e := b) (o := o) (s := L[i]) (T, c)
        have hl2 := lyD_len (e := b) (s := L[i]) (lyC a b o L[i] (T, c))
        have hl3 := mono (lyD b L[i] (lyC a b o L[i] (T, c)))
        rw [hinv] at hl3
        have hl1 : T.length ≤ (lyC a b o L[i] (T, c)).1.length := hl1
        rcases hbv with ⟨rfl, rfl⟩ | ⟨rfl, rfl⟩
        · by_cases c2 : a < L[i].2.2
          · rw [show lyC a b o L[i] (T, false) = (adF T o a (b - a), true) from if_pos ⟨rfl, c2⟩] at hinv
            refine x_iload hM dL_lay_93 rfl ?_
            refine x_if_ne (tgt := 122) hM dL_lay_95 (by decide) (by omega) (fun c_95 => ?_) (fun c_95 => ?_)
            · exfalso; omega
            · refine x_iload hM dL_lay_98 rfl ?_
              refine x_iload_n hM dL_lay_100 rfl rfl ?_
              refine x_icmp_le (tgt := 122) hM dL_lay_101 (by decide) (by omega) (by omega) (fun c_101 => ?_) (fun c_101 => ?_)
              · exfalso; omega
              · refine x_aload hM dL_lay_104 rfl ?_
                refine x_aload hM dL_lay_106 rfl ?_
                refine x_iload hM dL_lay_108 rfl ?_
                refine x_iload_n hM dL_lay_110 rfl rfl ?_
                refine x_iload_n hM dL_lay_111 rfl rfl ?_
                refine x_iload hM dL_lay_112 rfl ?_
                refine x_callS hM ws_L_24 (m_L_add hA (by omega) hd5 (by omega)) ⟨Nat.le_of_ble_eq_true rfl, Nat.le_of_ble_eq_true rfl⟩ rfl rfl (Nat.le_of_ble_eq_true rfl) ⟨Nat.le_of_ble_eq_true rfl, Nat.le_of_ble_eq_true rfl⟩ dL_lay_114 (k_qI fun x_114 w_114 q_114 => ?_)
                obtain ⟨rfl, qA, qF⟩ := q_114
                refine x_istore hM dL_lay_117 rfl (Nat.le_of_ble_eq_true rfl) rfl ?_
                refine x_iconst hM dL_lay_119 ?_
                refine x_istore hM dL_lay_120 rfl (Nat.le_of_ble_eq_true rfl) rfl ?_
                exact S4 _ true 1 _ hinv (Or.inr ⟨rfl, rfl⟩) qA (hF.tr qF)
          · rw [show lyC a b o L[i] (T, false) = (T, false) from if_neg (fun q => c2 q.2)] at hinv
            refine x_iload hM dL_lay_93 rfl ?_
            refine x_if_ne (tgt := 122) hM dL_lay_95 (by decide) (by omega) (fun c_95 => ?_) (fun c_95 => ?_)
            · exfalso; omega
            · refine x_iload hM dL_lay_98 rfl ?_
              refine x_iload_n hM dL_lay_100 rfl rfl ?_
              refine x_icmp_le (tgt := 122) hM dL_lay_101 (by decide) (by omega) (by omega) (fun c_101 => ?_) (fun c_101 => ?_)
              · exact S4 _ false 0 _ hinv (Or.inl ⟨rfl, rfl⟩) hA hF
              · exfalso; omega
        · rw [show lyC a b o L[i] (T, true) = (T, true) from if_neg (fun q => absurd (show true = false from q.1) (by decide))] at hinv
          refine x_iload hM dL_lay_93 rfl ?_
          refine x_if_ne (tgt := 122) hM dL_lay_95 (by decide) (by omega) (fun c_95 => ?_) (fun c_95 => ?_)
          · exact S4 _ true 1 _ hinv (Or.inr ⟨rfl, rfl⟩) hA hF
          · exfalso; omega
      have S2 : ∀ (T : List Sg) (c : Bool) (bv : Int) (w1 : Wd), layE a b o ((L.drop (i + 1)).foldl (layS a b o) (lyD b L[i] (lyC a b o L[i] (lyB a L[i] (T, c))))) = becF L o a (b - a) → (bv = 0 ∧ c = false) ∨ (bv = 1 ∧ c = true) → arA G w1 t u T → Fa t u w w1 → P 62 [some (.ref r), some (.ref e), some (.int (iI a)), some (.int (iI b)), some (.int (iI o)), some (.ref t), some (.ref u), some (.int (iI T.length)), some (.int (iI bv)), some (.int (iI i)), some (.int (iI L[i].2.1)), some (.int (iI L[i].2.2))] [] w1 (z, 0, 0) := by
        intro T c bv w1 hinv hbv hA hF
        have hl0 := lyB_len (a := a) (s := L[i]) (T, c)
        have hl1 := lyC_len (a := a) (e := b) (o := o) (s := L[i]) (lyB a L[i] (T, c))
        have hl2 := lyD_len (e := b) (s := L[i]) (lyC a b o L[i] (lyB a L[i] (T, c)))
        have hl3 := mono (lyD b L[i] (lyC a b o L[i] (lyB a L[i] (T, c))))
        rw [hinv] at hl3
        have hl0 : T.length ≤ (lyB a L[i] (T, c)).1.length := hl0
        have hrs := rest w1 hF
        refine x_aload hM dL_lay_62 rfl ?_
        refine x_aload hM dL_lay_64 rfl ?_
        refine x_iload hM dL_lay_66 rfl ?_
        refine x_iload hM dL_lay_68 rfl ?_
        refine x_iload hM dL_lay_70 rfl ?_
        refine x_iload_n hM dL_lay_72 rfl rfl ?_
        refine x_icmp_ge (tgt := 81) hM dL_lay_73 (by decide) (by omega) (by omega) (fun c_73 => ?_) (fun c_73 => ?_)
        · refine x_iload_n hM dL_lay_81 rfl rfl ?_
          refine x_aload_n hM dL_lay_82 rfl rfl ?_
          refine x_iload hM dL_lay_83 rfl ?_
          refine x_callS hM ws_L_28 (m_L_ownerOf hrs hi) ⟨Nat.le_of_ble_eq_true rfl, Nat.le_of_ble_eq_true rfl⟩ rfl rfl (Nat.le_of_ble_eq_true rfl) ⟨Nat.le_of_ble_eq_true rfl, Nat.le_of_ble_eq_true rfl⟩ dL_lay_85 (k_rI ?_)
          refine x_callS hM ws_L_24 (m_L_add hA (by omega) hd5 (by omega)) ⟨Nat.le_of_ble_eq_true rfl, Nat.le_of_ble_eq_true rfl⟩ rfl rfl (Nat.le_of_ble_eq_true rfl) ⟨Nat.le_of_ble_eq_true rfl, Nat.le_of_ble_eq_true rfl⟩ dL_lay_88 (k_qI fun x_88 w_88 q_88 => ?_)
          obtain ⟨rfl, qA, qF⟩ := q_88
          refine x_istore hM dL_lay_91 rfl (Nat.le_of_ble_eq_true rfl) rfl ?_
          refine S3 _ c bv _ ?_ hbv qA (hF.tr qF)
          rw [← hinv]; unfold lyB adS; first | rw [lef_lt (by omega)] | rw [lef_ge (by omega)]
        · refine x_iload hM dL_lay_76 rfl ?_
          refine x_goto (tgt := 82) hM dL_lay_78 (by decide) ?_
          refine x_aload_n hM dL_lay_82 rfl rfl ?_
          refine x_iload hM dL_lay_83 rfl ?_
          refine x_callS hM ws_L_28 (m_L_ownerOf hrs hi) ⟨Nat.le_of_ble_eq_true rfl, Nat.le_of_ble_eq_true rfl⟩ rfl rfl (Nat.le_of_ble_eq_true rfl) ⟨Nat.le_of_ble_eq_true rfl, Nat.le_of_ble_eq_true rfl⟩ dL_lay_85 (k_rI ?_)
          refine x_callS hM ws_L_24 (m_L_add hA (by omega) hd5 (by omega)) ⟨Nat.le_of_ble_eq_true rfl, Nat.le_of_ble_eq_true rfl⟩ rfl rfl (Nat.le_of_ble_eq_true rfl) ⟨Nat.le_of_ble_eq_true rfl, Nat.le_of_ble_eq_true rfl⟩ dL_lay_88 (k_qI fun x_88 w_88 q_88 => ?_)
          obtain ⟨rfl, qA, qF⟩ := q_88
          refine x_istore hM dL_lay_91 rfl (Nat.le_of_ble_eq_true rfl) rfl ?_
          refine S3 _ c bv _ ?_ hbv qA (hF.tr qF)
          rw [← hinv]; unfold lyB adS; first | rw [lef_lt (by omega)] | rw [lef_ge (by omega)]
      obtain ⟨-, f, g, ⟨r1, r2, r3⟩, r4⟩ := rest w1 hF
      have hrs := rest w1 hF
      have e1 := (r3 i hi).2
      have hl0 : T.length ≤ (lyA a b o L[i] (T, c)).1.length := by
        unfold lyA
        split
        · exact (adF_len _ _ _ _).1
        · exact Nat.le_refl _
      have hl1 := lyB_len (a := a) (s := L[i]) (lyA a b o L[i] (T, c))
      have hl2 := lyC_len (a := a) (e := b) (o := o) (s := L[i]) (lyB a L[i] (lyA a b o L[i] (T, c)))
      have hl3 := lyD_len (e := b) (s := L[i]) (lyC a b o L[i] (lyB a L[i] (lyA a b o L[i] (T, c))))
      have hl4 := mono (lyD b L[i] (lyC a b o L[i] (lyB a L[i] (lyA a b o L[i] (T, c)))))
      rw [hinv] at hl4
      rcases hbv with ⟨rfl, rfl⟩ | ⟨rfl, rfl⟩
      · by_cases c2 : a ≤ L[i].2.1
        · rw [show lyA a b o L[i] (T, false) = (adF T o a (b - a), true) from if_pos ⟨rfl, c2⟩] at hinv
          refine x_iload hM dL_lay_9 rfl ?_
          refine x_aload_n hM dL_lay_11 rfl rfl ?_
          refine x_iconst hM dL_lay_12 ?_
          refine x_iald hM r1 (by omega) dL_lay_13 ?_
          refine x_icmp_ge (tgt := 159) hM dL_lay_14 (by decide) (by omega) (by omega) (fun c_14 => ?_) (fun c_14 => ?_)
          · exfalso; omega
          · refine x_aload_n hM dL_lay_17 rfl rfl ?_
            refine x_iload hM dL_lay_18 rfl ?_
            refine x_callS hM ws_L_18 (m_L_firstOf hrs hi) ⟨Nat.le_of_ble_eq_true rfl, Nat.le_of_ble_eq_true rfl⟩ rfl rfl (Nat.le_of_ble_eq_true rfl) ⟨Nat.le_of_ble_eq_true rfl, Nat.le_of_ble_eq_true rfl⟩ dL_lay_20 (k_rI ?_)
            refine x_istore hM dL_lay_23 rfl (Nat.le_of_ble_eq_true rfl) rfl ?_
            refine x_aload_n hM dL_lay_25 rfl rfl ?_
            refine x_iconst hM dL_lay_26 ?_
            refine x_iload hM dL_lay_27 rfl ?_
            refine x_iadd hM dL_lay_29 ?_
            refine x_iald hM r2 (by omega) dL_lay_30 ?_
            rw [e1]
            refine x_istore hM dL_lay_31 rfl (Nat.le_of_ble_eq_true rfl) rfl ?_
            refine x_iload hM dL_lay_33 rfl ?_
            refine x_if_ne (tgt := 62) hM dL_lay_35 (by decide) (by omega) (fun c_35 => ?_) (fun c_35 => ?_)
            · exfalso; omega
            · refine x_iload hM dL_lay_38 rfl ?_
              refine x_iload_n hM dL_lay_40 rfl rfl ?_
              refine x_icmp_lt (tgt := 62) hM dL_lay_41 (by decide) (by omega) (by omega) (fun c_41 => ?_) (fun c_41 => ?_)
              · exfalso; omega
              · refine x_aload hM dL_lay_44 rfl ?_
                refine x_aload hM dL_lay_46 rfl ?_
                refine x_iload hM dL_lay_48 rfl ?_
                refine x_iload_n hM dL_lay_50 rfl rfl ?_
                refine x_iload_n hM dL_lay_51 rfl rfl ?_
                refine x_iload hM dL_lay_52 rfl ?_
                refine x_callS hM ws_L_24 (m_L_add hA (by omega) hd5 (by omega)) ⟨Nat.le_of_ble_eq_true rfl, Nat.le_of_ble_eq_true rfl⟩ rfl rfl (Nat.le_of_ble_eq_true rfl) ⟨Nat.le_of_ble_eq_true rfl, Nat.le_of_ble_eq_true rfl⟩ dL_lay_54 (k_qI fun x_54 w_54 q_54 => ?_)
                obtain ⟨rfl, qA, qF⟩ := q_54
                refine x_istore hM dL_lay_57 rfl (Nat.le_of_ble_eq_true rfl) rfl ?_
                refine x_iconst hM dL_lay_59 ?_
                refine x_istore hM dL_lay_60 rfl (Nat.le_of_ble_eq_true rfl) rfl ?_
                exact S2 _ true 1 _ hinv (Or.inr ⟨rfl, rfl⟩) qA (hF.tr qF)
        · rw [show lyA a b o L[i] (T, false) = (T, false) from if_neg (fun q => c2 q.2)] at hinv
          refine x_iload hM dL_lay_9 rfl ?_
          refine x_aload_n hM dL_lay_11 rfl rfl ?_
          refine x_iconst hM dL_lay_12 ?_
          refine x_iald hM r1 (by omega) dL_lay_13 ?_
          refine x_icmp_ge (tgt := 159) hM dL_lay_14 (by decide) (by omega) (by omega) (fun c_14 => ?_) (fun c_14 => ?_)
          · exfalso; omega
          · refine x_aload_n hM dL_lay_17 rfl rfl ?_
            refine x_iload hM dL_lay_18 rfl ?_
            refine x_callS hM ws_L_18 (m_L_firstOf hrs hi) ⟨Nat.le_of_ble_eq_true rfl, Nat.le_of_ble_eq_true rfl⟩ rfl rfl (Nat.le_of_ble_eq_true rfl) ⟨Nat.le_of_ble_eq_true rfl, Nat.le_of_ble_eq_true rfl⟩ dL_lay_20 (k_rI ?_)
            refine x_istore hM dL_lay_23 rfl (Nat.le_of_ble_eq_true rfl) rfl ?_
            refine x_aload_n hM dL_lay_25 rfl rfl ?_
            refine x_iconst hM dL_lay_26 ?_
            refine x_iload hM dL_lay_27 rfl ?_
            refine x_iadd hM dL_lay_29 ?_
            refine x_iald hM r2 (by omega) dL_lay_30 ?_
            rw [e1]
            refine x_istore hM dL_lay_31 rfl (Nat.le_of_ble_eq_true rfl) rfl ?_
            refine x_iload hM dL_lay_33 rfl ?_
            refine x_if_ne (tgt := 62) hM dL_lay_35 (by decide) (by omega) (fun c_35 => ?_) (fun c_35 => ?_)
            · exfalso; omega
            · refine x_iload hM dL_lay_38 rfl ?_
              refine x_iload_n hM dL_lay_40 rfl rfl ?_
              refine x_icmp_lt (tgt := 62) hM dL_lay_41 (by decide) (by omega) (by omega) (fun c_41 => ?_) (fun c_41 => ?_)
              · exact S2 _ false 0 _ hinv (Or.inl ⟨rfl, rfl⟩) hA hF
              · exfalso; omega
      · rw [show lyA a b o L[i] (T, true) = (T, true) from if_neg (fun q => absurd (show true = false from q.1) (by decide))] at hinv
        refine x_iload hM dL_lay_9 rfl ?_
        refine x_aload_n hM dL_lay_11 rfl rfl ?_
        refine x_iconst hM dL_lay_12 ?_
        refine x_iald hM r1 (by omega) dL_lay_13 ?_
        refine x_icmp_ge (tgt := 159) hM dL_lay_14 (by decide) (by omega) (by omega) (fun c_14 => ?_) (fun c_14 => ?_)
        · exfalso; omega
        · refine x_aload_n hM dL_lay_17 rfl rfl ?_
          refine x_iload hM dL_lay_18 rfl ?_
          refine x_callS hM ws_L_18 (m_L_firstOf hrs hi) ⟨Nat.le_of_ble_eq_true rfl, Nat.le_of_ble_eq_true rfl⟩ rfl rfl (Nat.le_of_ble_eq_true rfl) ⟨Nat.le_of_ble_eq_true rfl, Nat.le_of_ble_eq_true rfl⟩ dL_lay_20 (k_rI ?_)
          refine x_istore hM dL_lay_23 rfl (Nat.le_of_ble_eq_true rfl) rfl ?_
          refine x_aload_n hM dL_lay_25 rfl rfl ?_
          refine x_iconst hM dL_lay_26 ?_
          refine x_iload hM dL_lay_27 rfl ?_
          refine x_iadd hM dL_lay_29 ?_
          refine x_iald hM r2 (by omega) dL_lay_30 ?_
          rw [e1]
          refine x_istore hM dL_lay_31 rfl (Nat.le_of_ble_eq_true rfl) rfl ?_
          refine x_iload hM dL_lay_33 rfl ?_
          refine x_if_ne (tgt := 62) hM dL_lay_35 (by decide) (by omega) (fun c_35 => ?_) (fun c_35 => ?_)
          · exact S2 _ true 1 _ hinv (Or.inr ⟨rfl, rfl⟩) hA hF
          · exfalso; omega
  refine x_iconst hM dL_lay_0 ?_
  refine x_istore hM dL_lay_1 rfl (Nat.le_of_ble_eq_true rfl) rfl ?_
  refine x_iconst hM dL_lay_3 ?_
  refine x_istore hM dL_lay_4 rfl (Nat.le_of_ble_eq_true rfl) rfl ?_
  refine x_iconst hM dL_lay_6 ?_
  refine x_istore hM dL_lay_7 rfl (Nat.le_of_ble_eq_true rfl) rfl ?_
  exact K L.length 0 [] false 0 _ _ _ (by omega) hlay (Or.inl ⟨rfl, rfl⟩) ⟨fun s hs => absurd hs List.not_mem_nil, f0, g0, h1, h2, fun i hi => absurd hi (by simp)⟩ Fa.rf
