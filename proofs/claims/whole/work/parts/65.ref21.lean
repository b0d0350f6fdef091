/-! The reference: shareBits -/
section XF
variable {own : String} {cc : ByteArray} {nL : Nat} {R : Room} {l : Launch} {G : xG} {ct : Bool} {P : xT} {pc : Nat} {ls : List (Option Value)} {st : List Value} {w : Wd} {a : Nat × Nat × Nat}
theorem x_i2d (h : xM own cc nL R l G ct P) {x : Int} (d : decode cc pc = .ok (.i2d, 1)) (k : P (pc + 1) ls (.double (FP.i2d (iI x)) :: st) w a) : P pc ls (.int (iI x) :: st) w a := by
  obtain ⟨p, e, s, m, args, below, meth, c, Q, ⟨hx, hb, hml, hown, hts⟩, hK, hct, rfl⟩ := h
  intro H locs lsA h1 h2 h3 h4 h5
  exact lv_i2d hx hb d (k H locs lsA h1 h2 h3 h4 h5)
theorem x_ddiv (h : xM own cc nL R l G ct P) {x y : UInt64} (d : decode cc pc = .ok (.ddiv, 1)) (hn : vf_n64 (FP.ddiv x y)) (k : P (pc + 1) ls (.double (FP.ddiv x y) :: st) w a) : P pc ls (.double y :: .double x :: st) w a := by
  obtain ⟨p, e, s, m, args, below, meth, c, Q, ⟨hx, hb, hml, hown, hts⟩, hK, hct, rfl⟩ := h
  intro H locs lsA h1 h2 h3 h4 h5
  exact lv_ddiv hx hb d hn (k H locs lsA h1 h2 h3 h4 h5)
theorem x_d2f (h : xM own cc nL R l G ct P) {x : UInt64} (d : decode cc pc = .ok (.d2f, 1)) (hn : vf_n32 (FP.d2f x)) (k : P (pc + 1) ls (.float (FP.d2f x) :: st) w a) : P pc ls (.double x :: st) w a := by
  obtain ⟨p, e, s, m, args, below, meth, c, Q, ⟨hx, hb, hml, hown, hts⟩, hK, hct, rfl⟩ := h
  intro H locs lsA h1 h2 h3 h4 h5
  exact lv_d2f hx hb d hn (k H locs lsA h1 h2 h3 h4 h5)
theorem x_fcmp (h : xM own cc nL R l G ct P) {x y : UInt32} {op : CmpOp} (d : decode cc pc = .ok (.fcmp op, 1)) (he : FP.fcmp x y = some .eq) (k : P (pc + 1) ls (.int (iI 0) :: st) w a) : P pc ls (.float y :: .float x :: st) w a := by
  obtain ⟨p, e, s, m, args, below, meth, c, Q, ⟨hx, hb, hml, hown, hts⟩, hK, hct, rfl⟩ := h
  intro H locs lsA h1 h2 h3 h4 h5
  refine lv_fcmp hx hb d ?_
  rw [he]
  exact k H locs lsA h1 h2 h3 h4 h5
def Wnf (own : String) (idx : Nat) : Prop := Cond.methodLink own idx ⟨"java/lang/Float", "floatToRawIntBits", "(F)I"⟩ ∈ gd_w ∧ Cond.native ⟨"java/lang/Float", "floatToRawIntBits", "(F)I"⟩ ∈ gd_w ∧ Cond.static ⟨"java/lang/Float", "floatToRawIntBits", "(F)I"⟩ ∈ gd_w ∧ Cond.initialized "java/lang/Float" ∈ gd_w
theorem x_f2raw (h : xM own cc nL R l G ct P) {idx : Nat} {b : UInt32} (hw : Wnf own idx) (hf : 1 ≤ R.frames) (hlo : (st.map fun v => v.category).sum + 15 ≤ R.locals) (d : decode cc pc = .ok (.invokestatic idx, 3)) (kk : P (pc + 3) ls (.int b.toInt32 :: st) w a) : P pc ls (.float b :: st) w a := by
  obtain ⟨p, e, s, m, args, below, meth, c, Q, ⟨hx, hb, hml, hown, hts⟩, hK, hct, rfl⟩ := h
  intro H locs lsA h1 h2 h3 h4 h5
  exact vn_f2i hx hb (hml.trans (h4.1.trans h5).symm) hown (hts _ hw.1) (hts _ hw.2.1) (hts _ hw.2.2.1) (hts _ hw.2.2.2) hf hlo d (kk H locs lsA h1 h2 h3 h4 h5)
end XF
theorem xMet_ofF {l : Launch} {G : xG} {y : MethodName} {cc : ByteArray} {nL : Nat} {ret : Option FieldType} {rm : Room} {av : List Value} {w : Wd} {z : Nat} {post : xPo} (own : String) (hy : y.cls = own) (hp : plainFor y = true) (ct : Bool) (hct : ct = true → y.name = "<init>") (hsz : (lg_sl av).length ≤ nL) {ls0 : List (Option Value)} (hls : xe nL av = ls0)
    (body : ∀ P : xT, xM own cc nL rm l G ct P → xR cc ret rm post P → P 0 ls0 [] w (z, 0, 0)) : xMet l G y cc nL ret rm av w z post := by
  refine va_MetF (cc := cc) (maxL := nL) (ret := ret) hp rfl ?_
  intro p e s m args below meth c s₁ B hml hv
  obtain ⟨rfl, hsz2, hH, hK⟩ := hv
  have hts := atoms_spec (ws := .code y cc nL ret :: gd_w) B.pre
  have hown : s.vm.findClass own = some m.cls := by rw [← hy]; exact findClass_of_methodNamed B.named
  have hin : meth.name = y.name := (name_of_methodNamed B.named B.method).1
  have hb := B.bytes
  have hx := B.exec
  have hr := B.returns
  have hlocks := B.notSynchronized
  have X := body _ ⟨p, e, s, m, av.toArray, below, meth, c, MQ below (xQ G post) av.toArray s rm.cells rm.slots (gA G), ⟨hx, hb, hml, hown, fun w hw => hts w (List.mem_cons_of_mem _ hw)⟩, hK, (fun h => hin.trans (hct h)), rfl⟩ ?_
  · rw [lg_entry_eq]
    exact X s.heap [] _ hH hsz2 va_S.rf (by rw [← hls]; exact xe_entry av hsz) (by rw [← hls]; simp only [xe, List.length_append, List.length_replicate, xe_len]; omega)
  · refine ⟨?_, ?_, ?_⟩
    · intro pc ls w1 z1 k n x ty h1 h2 h3 h4 h5 h6 H locs lsA g1 g2 g3 g4 g5
      refine W.widen h4 h5 ?_
      exact W.zret hx hb (hr.trans h1) h2 (fun t ht hW => ⟨⟨_, w1, rfl, by rw [ht, g2]; exact h6, by rw [ht]; exact g1⟩, g3.F ht⟩) g3.2.2 h3
    · intro pc ls w1 z1 k n x h1 h3 h4 h5 h6 H locs lsA g1 g2 g3 g4 g5
      refine W.widen h4 h5 ?_
      exact W.lret hx hb (hr.trans h1) (fun t ht hW => ⟨⟨_, w1, rfl, by rw [ht, g2]; exact h6, by rw [ht]; exact g1⟩, g3.F ht⟩) g3.2.2 h3
    · intro pc ls w1 z1 k n h1 h3 h4 h5 h6 H locs lsA g1 g2 g3 g4 g5
      refine W.widen h4 h5 ?_
      exact W.vret hx hb (hr.trans h1) (fun t ht hW => ⟨⟨_, w1, rfl, by rw [ht, g2]; exact h6, by rw [ht]; exact g1⟩, g3.F ht⟩) g3.2.2 h3
theorem wn_Jxf58ca_74 : Wnf RJxf58ca 74 := ⟨gd_at 1063 (by decide +kernel) rfl, gd_at 1065 (by decide +kernel) rfl, gd_at 1064 (by decide +kernel) rfl, gd_at 78 (by decide +kernel) rfl⟩
theorem m_Jxf58ca_isNaN_12338 {l : Launch} {G : xG} {w : Wd} {z : Nat} {b : UInt32} (he : FP.fcmp b b = some .eq) : xMet l G yJxf58ca_isNaN_12338 cJxf58ca_isNaN_12338 1 (some .boolean) ({ frames := 0, cells := 0, slots := 0, locals := 0 } : Room) [.float b] w z (rI 0 w z) := by
  refine xMet_ofF RJxf58ca rfl (by decide +kernel) false (by decide +kernel) (Nat.le_of_ble_eq_true rfl) rfl ?_
  intro P hM hR
  refine x_fload_n hM dJxf58ca_isNaN_12338_0 rfl rfl ?_
  refine x_fload_n hM dJxf58ca_isNaN_12338_1 rfl rfl ?_
  refine x_fcmp hM dJxf58ca_isNaN_12338_2 he ?_
  refine x_if_eq (tgt := 10) hM dJxf58ca_isNaN_12338_3 (by decide) (by omega) (fun c_3 => ?_) (fun c_3 => ?_)
  · refine x_iconst hM dJxf58ca_isNaN_12338_10 ?_
    refine hR.b dJxf58ca_isNaN_12338_11 rfl (Nat.zero_le _) (Nat.zero_le _) ?_
    exact p_rI rfl
  · exfalso; omega
theorem m_Jxf58ca_floatToIntBits_5c35a {l : Launch} {G : xG} {w : Wd} {z : Nat} {b : UInt32} {v : Int} (he : FP.fcmp b b = some .eq) (hv : b.toInt32 = iI v) : xMet l G yJxf58ca_floatToIntBits_5c35a cJxf58ca_floatToIntBits_5c35a 1 (some .int) ({ frames := 1, cells := 0, slots := 0, locals := 35 } : Room) [.float b] w z (rI v w z) := by
  refine xMet_ofF RJxf58ca rfl (by decide +kernel) false (by decide +kernel) (Nat.le_of_ble_eq_true rfl) rfl ?_
  intro P hM hR
  refine x_fload_n hM dJxf58ca_floatToIntBits_5c35a_0 rfl rfl ?_
  refine x_callS hM ws_Jxf58ca_59 (m_Jxf58ca_isNaN_12338 (by assumption)) ⟨Nat.le_of_ble_eq_true rfl, Nat.le_of_ble_eq_true rfl⟩ rfl rfl (Nat.le_of_ble_eq_true rfl) ⟨Nat.le_of_ble_eq_true rfl, Nat.le_of_ble_eq_true rfl⟩ dJxf58ca_floatToIntBits_5c35a_1 (k_rI ?_)
  refine x_if_ne (tgt := 12) hM dJxf58ca_floatToIntBits_5c35a_4 (by decide) (by omega) (fun c_4 => ?_) (fun c_4 => ?_)
  · exfalso; omega
  · refine x_fload_n hM dJxf58ca_floatToIntBits_5c35a_7 rfl rfl ?_
    refine x_f2raw hM wn_Jxf58ca_74 (Nat.le_of_ble_eq_true rfl) (Nat.le_of_ble_eq_true rfl) dJxf58ca_floatToIntBits_5c35a_8 ?_
    rw [hv]
    refine hR.i dJxf58ca_floatToIntBits_5c35a_11 (Nat.zero_le _) (Nat.zero_le _) ?_
    exact p_rI rfl
def shR (t : St) (o : Int) : Int := if 0 ≤ o ∧ o < t.own then (if 10000 - mtsO t.L (-6) = 0 then 0 else bqF (mtsO t.L o) (10000 - mtsO t.L (-6))) else -1
theorem m_X7_shareBits {l : Launch} {G : xG} {w : Wd} {z m : Nat} {f : Int → Int} {t : St} {o : Int} (h : rdA G w m f t) (ho : iR o) (hb : 0 ≤ mtsO t.L (-6) ∧ (0 ≤ o → 0 ≤ mtsO t.L o ∧ mtsO t.L o + mtsO t.L (-6) ≤ 10000)) : xMet l G yX7_shareBits cX7_shareBits 3 (some .int) ({ frames := 4, cells := 0, slots := 0, locals := 90 } : Room) [.ref m, .int (iI o)] w z (rI (shR t o) w z) := by
  obtain ⟨⟨un, sg, it, rw', mn, pl, wr, hh⟩, hn, hp⟩ := id h
  have hl := (np_w hp).1
  refine xMet_of RX7 rfl (by decide +kernel) false (by decide +kernel) (Nat.le_of_ble_eq_true rfl) rfl ?_
  intro P hM hR
  by_cases c1 : 0 ≤ o ∧ o < t.own
  · have hb2 := hb.2 c1.1
    by_cases c2 : 10000 - mtsO t.L (-6) = 0
    · have e1 : shR t o = 0 := (if_pos c1).trans (if_pos c2)
      refine x_aload_n hM dX7_shareBits_0 rfl rfl ?_
      refine x_iload_n hM dX7_shareBits_1 rfl rfl ?_
      refine x_callV hM wv_X7_77 (m_X7_isOwner (by assumption) (by omega)) ⟨Nat.le_of_ble_eq_true rfl, Nat.le_of_ble_eq_true rfl⟩ (by first | assumption | exact md_o (by assumption)) rfl rfl rfl rfl (Nat.le_of_ble_eq_true rfl) ⟨Nat.le_of_ble_eq_true rfl, Nat.le_of_ble_eq_true rfl⟩ dX7_shareBits_2 (k_rI ?_)
      rw [if_pos c1]
      refine x_if_ne (tgt := 10) hM dX7_shareBits_5 (by decide) (by omega) (fun c_5 => ?_) (fun c_5 => ?_)
      · refine x_sipush hM dX7_shareBits_10 rfl ?_
        refine x_aload_n hM dX7_shareBits_13 rfl rfl ?_
        refine x_bipush hM dX7_shareBits_14 rfl ?_
        refine x_callV hM wv_X7_101 (m_X7_metersOf (by assumption) (by omega)) ⟨Nat.le_of_ble_eq_true rfl, Nat.le_of_ble_eq_true rfl⟩ (by first | assumption | exact md_o (by assumption)) rfl rfl rfl rfl (Nat.le_of_ble_eq_true rfl) ⟨Nat.le_of_ble_eq_true rfl, Nat.le_of_ble_eq_true rfl⟩ dX7_shareBits_16 (k_rI ?_)
        refine x_isub hM dX7_shareBits_19 ?_
        refine x_istore_n hM dX7_shareBits_20 rfl rfl (Nat.le_of_ble_eq_true rfl) rfl ?_
        refine x_iload_n hM dX7_shareBits_21 rfl rfl ?_
        refine x_if_ne (tgt := 29) hM dX7_shareBits_22 (by decide) (by omega) (fun c_22 => ?_) (fun c_22 => ?_)
        · exfalso; omega
        · refine x_iconst hM dX7_shareBits_25 ?_
          refine x_goto (tgt := 42) hM dX7_shareBits_26 (by decide) ?_
          refine hR.i dX7_shareBits_42 (Nat.zero_le _) (Nat.zero_le _) ?_
          exact p_rI e1.symm
      · exfalso; omega
    · have e1 : shR t o = bqF (mtsO t.L o) (10000 - mtsO t.L (-6)) := (if_pos c1).trans (if_neg c2)
      obtain ⟨f1, f2, f3, f4⟩ := fl_all (m := mtsO t.L o) (t := 10000 - mtsO t.L (-6)) (by omega) (by omega)
      refine x_aload_n hM dX7_shareBits_0 rfl rfl ?_
      refine x_iload_n hM dX7_shareBits_1 rfl rfl ?_
      refine x_callV hM wv_X7_77 (m_X7_isOwner (by assumption) (by omega)) ⟨Nat.le_of_ble_eq_true rfl, Nat.le_of_ble_eq_true rfl⟩ (by first | assumption | exact md_o (by assumption)) rfl rfl rfl rfl (Nat.le_of_ble_eq_true rfl) ⟨Nat.le_of_ble_eq_true rfl, Nat.le_of_ble_eq_true rfl⟩ dX7_shareBits_2 (k_rI ?_)
      rw [if_pos c1]
      refine x_if_ne (tgt := 10) hM dX7_shareBits_5 (by decide) (by omega) (fun c_5 => ?_) (fun c_5 => ?_)
      · refine x_sipush hM dX7_shareBits_10 rfl ?_
        refine x_aload_n hM dX7_shareBits_13 rfl rfl ?_
        refine x_bipush hM dX7_shareBits_14 rfl ?_
        refine x_callV hM wv_X7_101 (m_X7_metersOf (by assumption) (by omega)) ⟨Nat.le_of_ble_eq_true rfl, Nat.le_of_ble_eq_true rfl⟩ (by first | assumption | exact md_o (by assumption)) rfl rfl rfl rfl (Nat.le_of_ble_eq_true rfl) ⟨Nat.le_of_ble_eq_true rfl, Nat.le_of_ble_eq_true rfl⟩ dX7_shareBits_16 (k_rI ?_)
        refine x_isub hM dX7_shareBits_19 ?_
        refine x_istore_n hM dX7_shareBits_20 rfl rfl (Nat.le_of_ble_eq_true rfl) rfl ?_
        refine x_iload_n hM dX7_shareBits_21 rfl rfl ?_
        refine x_if_ne (tgt := 29) hM dX7_shareBits_22 (by decide) (by omega) (fun c_22 => ?_) (fun c_22 => ?_)
        · refine x_aload_n hM dX7_shareBits_29 rfl rfl ?_
          refine x_iload_n hM dX7_shareBits_30 rfl rfl ?_
          refine x_callV hM wv_X7_101 (m_X7_metersOf (by assumption) (by omega)) ⟨Nat.le_of_ble_eq_true rfl, Nat.le_of_ble_eq_true rfl⟩ (by first | assumption | exact md_o (by assumption)) rfl rfl rfl rfl (Nat.le_of_ble_eq_true rfl) ⟨Nat.le_of_ble_eq_true rfl, Nat.le_of_ble_eq_true rfl⟩ dX7_shareBits_31 (k_rI ?_)
          refine x_i2d hM dX7_shareBits_34 ?_
          refine x_iload_n hM dX7_shareBits_35 rfl rfl ?_
          refine x_i2d hM dX7_shareBits_36 ?_
          refine x_ddiv hM dX7_shareBits_37 f1 ?_
          refine x_d2f hM dX7_shareBits_38 f2 ?_
          refine x_callS hM ws_X7_185 (m_Jxf58ca_floatToIntBits_5c35a f3 f4) ⟨Nat.le_of_ble_eq_true rfl, Nat.le_of_ble_eq_true rfl⟩ rfl rfl (Nat.le_of_ble_eq_true rfl) ⟨Nat.le_of_ble_eq_true rfl, Nat.le_of_ble_eq_true rfl⟩ dX7_shareBits_39 (k_rI ?_)
          refine hR.i dX7_shareBits_42 (Nat.zero_le _) (Nat.zero_le _) ?_
          exact p_rI e1.symm
        · exfalso; omega
      · exfalso; omega
  · skip
    refine x_aload_n hM dX7_shareBits_0 rfl rfl ?_
    refine x_iload_n hM dX7_shareBits_1 rfl rfl ?_
    refine x_callV hM wv_X7_77 (m_X7_isOwner (by assumption) (by omega)) ⟨Nat.le_of_ble_eq_true rfl, Nat.le_of_ble_eq_true rfl⟩ (by first | assumption | exact md_o (by assumption)) rfl rfl rfl rfl (Nat.le_of_ble_eq_true rfl) ⟨Nat.le_of_ble_eq_true rfl, Nat.le_of_ble_eq_true rfl⟩ dX7_shareBits_2 (k_rI ?_)
    rw [if_neg c1]
    refine x_if_ne (tgt := 10) hM dX7_shareBits_5 (by decide) (by omega) (fun c_5 => ?_) (fun c_5 => ?_)
    · exfalso; omega
    · refine x_iconst hM dX7_shareBits_8 ?_
      refine hR.i dX7_shareBits_9 (Nat.zero_le _) (Nat.zero_le _) ?_
      exact p_rI (if_neg c1).symm
