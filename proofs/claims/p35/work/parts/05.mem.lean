/-! cells, calls, contracts -/
/-- an int array of n places with the numbers f -/
def aI (G : xG) (n : Nat) (f : Int → Int) : va_E := .inl (G.2.1 0, n, .inl (fun k => iI (f k)))
def aJ (G : xG) (n : Nat) (f : Int → Int64) : va_E := .inl (G.2.1 1, n, .inr (.inl (fun k => f k)))
def aC (G : xG) (n : Nat) (f : Int → Int) : va_E := .inl (G.2.1 2, n, .inl (fun k => iI (f k)))
def aZ (G : xG) (n : Nat) (f : Int → Int) : va_E := .inl (G.2.1 3, n, .inl (fun k => iI (f k)))
def aQ (G : xG) (n : Nat) (f : Int → Option Nat) : va_E := .inl (G.2.1 4, n, .inr (.inr (.inr (.inr (fun k => f k)))))
def fU {α : Type} (f : Int → α) (i : Int) (v : α) : Int → α := fun j => if j = i then v else f j
theorem fU_eq {α : Type} {f : Int → α} {i : Int} {v : α} : fU f i v i = v := if_pos rfl
theorem fU_ne {α : Type} {f : Int → α} {i j : Int} {v : α} (h : j ≠ i) : fU f i v j = f j := if_neg h
/-- a field by its place in the code: class ci, slot k -/
def Wf (own : String) (idx ci k : Nat) : Prop := ∃ q : vw_C, vwCl[ci]? = some q ∧ k < q.2.2 ∧ (Cond.fieldLink own idx (q.2.1 k).1 (q.2.1 k).2.1 (q.2.1 k).2.2.1 ∈ gd_w ∨ ∃ host : String, Cond.fieldLinkNest own idx (q.2.1 k).1 (q.2.1 k).2.1 (q.2.1 k).2.2.1 host ∈ ns_w)
/-- the classes' lays words, and that their fields have different names -/
def Wl (ci : Nat) : Prop := ∀ q : vw_C, vwCl[ci]? = some q → (∀ w ∈ u_ws q.1 q.2.1 q.2.2, w ∈ gd_w) ∧ (∃ ty : Nat → FieldType, ∀ k, k < q.2.2 → parseFieldDescriptor (q.2.1 k).2.2.1 = some (ty k)) ∧ ∀ a, a < q.2.2 → ∀ b, b < q.2.2 → a ≠ b → (q.2.1 a).2.1 ≠ (q.2.1 b).2.1
section XR
variable {own : String} {cc : ByteArray} {nL : Nat} {R : Room} {l : Launch} {G : xG} {ct : Bool} {P : xT} {pc : Nat} {ls : List (Option Value)} {st : List Value} {w : Wd} {a : Nat × Nat × Nat}
theorem x_get (h : xM own cc nL R l G ct P) {idx ci k : Nat} (hf : Wf own idx ci k) (hl : Wl ci) {r : Nat} {fs : List Value} {v : Value} (hw : w r = some (.inr (ci, fs))) (hv : fs[k]? = some v) (d : decode cc pc = .ok (.getfield idx, 3)) (kk : P (pc + 3) ls (v :: st) w a) : P pc ls (.ref r :: st) w a := by
  obtain ⟨p, e, s, m, args, below, meth, c, Q, ⟨hx, hb, hml, hown, hts⟩, hK, hct, rfl⟩ := h
  intro H locs lsA h1 h2 h3 h4 h5
  obtain ⟨⟨C, T, N⟩, q1, q2, q3⟩ := hf
  obtain ⟨l1, -, -⟩ := hl _ q1
  rcases q3 with q3 | ⟨host, q3⟩
  · exact va_get hx hb hts l1 hown hK.1 (gH_of h1 hw) 0 rfl q1 k q2 (hts _ q3) (fun _ z => z) hv d (kk H locs lsA h1 h2 h3 h4 h5)
  · exact va_getN hx hb hts l1 hown hK.1 (gH_of h1 hw) 0 rfl q1 k q2 (va_Nw.use rfl (hK.2.1 _ q3)) (fun _ z => z) hv d (kk H locs lsA h1 h2 h3 h4 h5)
theorem va_S_put {A : Nat → Prop} {H0 H H1 : Heap} {locs : List Loc} {r k : Nat} (h : va_S A H0 H locs) (z : H1.size = H.size) (oq : ∀ q : Nat, q ≠ r → H1[q]? = H[q]?) (ha : A r) : va_S A H0 H1 (locs ++ [⟨r, k⟩]) := h.put z oq ha
theorem x_put (h : xM own cc nL R l G ct P) {idx ci k : Nat} (hf : Wf own idx ci k) (hl : Wl ci) {r : Nat} {fs fs2 : List Value} {v : Value} {ty : FieldType} (hw : w r = some (.inr (ci, fs))) (hfin : ∀ q : vw_C, vwCl[ci]? = some q → (q.2.1 k).2.2.2 = false ∧ parseFieldDescriptor (q.2.1 k).2.2.1 = some ty) (hn : narrow ty v = v) (hfit : fits ty v = true) (hlen : k < fs.length) (hs : fs.set k v = fs2) (d : decode cc pc = .ok (.putfield idx, 3)) (kk : P (pc + 3) ls st (wS w r (.inr (ci, fs2))) a) : P pc ls (v :: .ref r :: st) w a := by
  obtain ⟨p, e, s, m, args, below, meth, c, Q, ⟨hx, hb, hml, hown, hts⟩, hK, hct, rfl⟩ := h
  intro H locs lsA h1 h2 h3 h4 h5
  subst hs
  obtain ⟨⟨C, T, N⟩, q1, q2, q3⟩ := hf
  obtain ⟨l1, ⟨ty0, l2⟩, l3⟩ := hl _ q1
  obtain ⟨hf1, hf2⟩ := hfin _ q1
  have hap := va_apart (own := own) hts l1 ty0 l2 l3 hK.1 q1
  obtain ⟨⟨r1, g1, cell, g2, g3, g4, g5⟩, hr⟩ := h1 _ _ hw
  have hr1 : r1 = (C, T, N) := Option.some.inj (g1.symm.trans q1)
  subst hr1
  obtain ⟨hS, hfc, kC, hkC, hkind⟩ := hK.1.1 ci _ q1
  obtain ⟨cf, kf, fi, f, hi, hsl⟩ := hS k q2
  have hlay := hts _ (l1 _ (u_in_lay q2))
  unfold u_lay at hlay
  rw [if_neg (by rw [hf1]; decide)] at hlay
  have hst := (u_facts hfc hkC (u_lays hts l1 q2) hi).1
  have h6 := u_store hfc hkC hkind hlay hi hf2 hn hfit
  have fin : ∀ H' : Heap, H'[r]? = some (cell.setSlot f.slot v) → H'.size = H.size → (∀ q, q ≠ r → H'[q]? = H[q]?) → W p l e R s m args below meth c H' (locs ++ [⟨r, f.slot⟩]) a.2.1 a.2.2 Q (F0 m (pc + 3) lsA st) := by
    intro H' e1 e2 e3
    rw [hsl] at e1
    exact kk H' _ lsA (gH_put h1 hw ⟨_, q1, t_OB.to (V := updV (vp_V fs) k v) ⟨_, e1, g3, g4, t_set g5 hap q2 v⟩ (fun j _ => vp_updV_set hlen v j)⟩ e3) (e2.trans h2) (h3.put e2 e3 hr) h4 h5
  rcases q3 with q3 | ⟨host, q3⟩
  · exact W.putK hx hb (f := f) ⟨hown, hts _ q3, ⟨_, _, _, hi⟩, hst⟩ (by rw [g3]; exact h6) g2 g4 (by rw [hsl]; exact k2_hasslot (g5 k q2)) rfl rfl d fin
  · exact va_WputK hx hb (f := f) hown (va_Nw.use rfl (hK.2.1 _ q3)) hi hst (by rw [g3]; exact h6) g2 g4 (by rw [hsl]; exact k2_hasslot (g5 k q2)) rfl rfl d fin
theorem x_putF (h : xM own cc nL R l G true P) {idx ci k : Nat} (hl : Wl ci) {r : Nat} {fs fs2 : List Value} {v : Value} {ty : FieldType} (hw : w r = some (.inr (ci, fs))) (hfin : ∃ q : vw_C, vwCl[ci]? = some q ∧ k < q.2.2 ∧ Cond.fieldLink own idx (q.2.1 k).1 (q.2.1 k).2.1 (q.2.1 k).2.2.1 ∈ gd_w ∧ (q.2.1 k).2.2.2 = true ∧ (q.2.1 k).1 = own ∧ parseFieldDescriptor (q.2.1 k).2.2.1 = some ty) (hn : narrow ty v = v) (hfit : fits ty v = true) (hlen : k < fs.length) (hs : fs.set k v = fs2) (d : decode cc pc = .ok (.putfield idx, 3)) (kk : P (pc + 3) ls st (wS w r (.inr (ci, fs2))) a) : P pc ls (v :: .ref r :: st) w a := by
  obtain ⟨p, e, s, m, args, below, meth, c, Q, ⟨hx, hb, hml, hown, hts⟩, hK, hct, rfl⟩ := h
  intro H locs lsA h1 h2 h3 h4 h5
  subst hs
  obtain ⟨⟨C, T, N⟩, q1, q2, q3, hf1, hdecl, hf2⟩ := hfin
  obtain ⟨l1, ⟨ty0, l2⟩, l3⟩ := hl _ q1
  have hap := va_apart (own := own) hts l1 ty0 l2 l3 hK.1 q1
  obtain ⟨⟨r1, g1, cell, g2, g3, g4, g5⟩, hr⟩ := h1 _ _ hw
  have hr1 : r1 = (C, T, N) := Option.some.inj (g1.symm.trans q1)
  subst hr1
  obtain ⟨hS, hfc, kC, hkC, hkind⟩ := hK.1.1 ci _ q1
  obtain ⟨cf, kf, fi, f, hi, hsl⟩ := hS k q2
  have hlay := hts _ (l1 _ (u_in_lay q2))
  unfold u_lay at hlay
  rw [if_pos hf1] at hlay
  have hst := (u_facts hfc hkC (u_lays hts l1 q2) hi).1
  have hcf : m.cls = cf := by
    obtain ⟨_, _, c', _, _, _, -, -, hf', -, -, -, hown2, -⟩ := Cond.laysFinal_spec hlay
    have e1 : c' = cf := by have := hi.symm.trans hf'; simp at this; exact this.1.symm
    rw [hdecl] at hown2
    rw [← e1]; exact Option.some.inj (hown.symm.trans hown2)
  have h6 := u_fits hfc hkC hkind (Or.inr hlay) hi hf2 hn hfit
  refine W.putFinK hx hb hown (hts _ q3) hi hst hcf (hct rfl) (by rw [g3]; exact h6) g2 g4 (by rw [hsl]; exact k2_hasslot (g5 k q2)) rfl rfl d fun H' e1 e2 e3 => ?_
  rw [hsl] at e1 ⊢
  exact kk H' _ lsA (gH_put h1 hw ⟨_, q1, t_OB.to (V := updV (vp_V fs) k v) ⟨_, e1, g3, g4, t_set g5 hap q2 v⟩ (fun j _ => vp_updV_set hlen v j)⟩ e3) (e2.trans h2) (h3.put e2 e3 hr) h4 h5
/-! arrays -/
theorem x_iald (h : xM own cc nL R l G ct P) {r n : Nat} {f : Int → Int} {i : Int} (hw : w r = some (aI G n f)) (hi : 0 ≤ i ∧ i < n ∧ n ≤ 2147483647) (d : decode cc pc = .ok (.iaload, 1)) (kk : P (pc + 1) ls (.int (iI (f i)) :: st) w a) : P pc ls (.int (iI i) :: .ref r :: st) w a := by
  obtain ⟨p, e, s, m, args, below, meth, c, Q, ⟨hx, hb, hml, hown, hts⟩, hK, hct, rfl⟩ := h
  intro H locs lsA h1 h2 h3 h4 h5
  refine va_iald hx hb hK.1 (gH_of h1 hw) 0 0 rfl rfl (iI_in hi.1 hi.2.1 (by omega)) d ?_
  rw [iI_clamp hi.1 (by omega), show ((i.toNat : Nat) : Int) = i by omega]
  exact kk H locs lsA h1 h2 h3 h4 h5
theorem x_lald (h : xM own cc nL R l G ct P) {r n : Nat} {f : Int → Int64} {i : Int} (hw : w r = some (aJ G n f)) (hi : 0 ≤ i ∧ i < n ∧ n ≤ 2147483647) (d : decode cc pc = .ok (.laload, 1)) (kk : P (pc + 1) ls (.long (f i) :: st) w a) : P pc ls (.int (iI i) :: .ref r :: st) w a := by
  obtain ⟨p, e, s, m, args, below, meth, c, Q, ⟨hx, hb, hml, hown, hts⟩, hK, hct, rfl⟩ := h
  intro H locs lsA h1 h2 h3 h4 h5
  refine va_lald hx hb hK.1 (gH_of h1 hw) 0 1 rfl rfl (iI_in hi.1 hi.2.1 (by omega)) d ?_
  rw [iI_clamp hi.1 (by omega), show ((i.toNat : Nat) : Int) = i by omega]
  exact kk H locs lsA h1 h2 h3 h4 h5
theorem x_cald (h : xM own cc nL R l G ct P) {r n : Nat} {f : Int → Int} {i : Int} (hw : w r = some (aC G n f)) (hi : 0 ≤ i ∧ i < n ∧ n ≤ 2147483647) (d : decode cc pc = .ok (.caload, 1)) (kk : P (pc + 1) ls (.int (iI (f i)) :: st) w a) : P pc ls (.int (iI i) :: .ref r :: st) w a := by
  obtain ⟨p, e, s, m, args, below, meth, c, Q, ⟨hx, hb, hml, hown, hts⟩, hK, hct, rfl⟩ := h
  intro H locs lsA h1 h2 h3 h4 h5
  refine va_cald hx hb hK.1 (gH_of h1 hw) 0 2 rfl rfl (iI_in hi.1 hi.2.1 (by omega)) d ?_
  rw [iI_clamp hi.1 (by omega), show ((i.toNat : Nat) : Int) = i by omega]
  exact kk H locs lsA h1 h2 h3 h4 h5
theorem x_aald (h : xM own cc nL R l G ct P) {r n : Nat} {f : Int → Option Nat} {i : Int} (hw : w r = some (aQ G n f)) (hi : 0 ≤ i ∧ i < n ∧ n ≤ 2147483647) (d : decode cc pc = .ok (.aaload, 1)) (kk : P (pc + 1) ls (va_rf (f i) :: st) w a) : P pc ls (.int (iI i) :: .ref r :: st) w a := by
  obtain ⟨p, e, s, m, args, below, meth, c, Q, ⟨hx, hb, hml, hown, hts⟩, hK, hct, rfl⟩ := h
  intro H locs lsA h1 h2 h3 h4 h5
  refine va_aldq hx hb hK.1 (gH_of h1 hw) 0 4 rfl rfl (iI_in hi.1 hi.2.1 (by omega)) d ?_
  rw [iI_clamp hi.1 (by omega), show ((i.toNat : Nat) : Int) = i by omega]
  exact kk H locs lsA h1 h2 h3 h4 h5
theorem x_alen (h : xM own cc nL R l G ct P) {r : Nat} {cA : ClassId} {x : vp_A} (hw : w r = some (.inl (cA, x))) (t0 : Nat) {ty : FieldType} (ht : (gT G)[t0]? = some (cA, ty)) (d : decode cc pc = .ok (.arraylength, 1)) (kk : P (pc + 1) ls (.int (iI (x.1 : Nat)) :: st) w a) : P pc ls (.ref r :: st) w a := by
  obtain ⟨p, e, s, m, args, below, meth, c, Q, ⟨hx, hb, hml, hown, hts⟩, hK, hct, rfl⟩ := h
  intro H locs lsA h1 h2 h3 h4 h5
  exact va_alen hx hb hK.1 (gH_of h1 hw) 0 t0 rfl ht (iI_nat _) d (kk H locs lsA h1 h2 h3 h4 h5)
theorem x_alenI (h : xM own cc nL R l G ct P) {r n : Nat} {f : Int → Int} (hw : w r = some (aI G n f)) (d : decode cc pc = .ok (.arraylength, 1)) (kk : P (pc + 1) ls (.int (iI (n : Nat)) :: st) w a) : P pc ls (.ref r :: st) w a := x_alen h hw 0 rfl d kk
theorem x_alenJ (h : xM own cc nL R l G ct P) {r n : Nat} {f : Int → Int64} (hw : w r = some (aJ G n f)) (d : decode cc pc = .ok (.arraylength, 1)) (kk : P (pc + 1) ls (.int (iI (n : Nat)) :: st) w a) : P pc ls (.ref r :: st) w a := x_alen h hw 1 rfl d kk
theorem x_alenC (h : xM own cc nL R l G ct P) {r n : Nat} {f : Int → Int} (hw : w r = some (aC G n f)) (d : decode cc pc = .ok (.arraylength, 1)) (kk : P (pc + 1) ls (.int (iI (n : Nat)) :: st) w a) : P pc ls (.ref r :: st) w a := x_alen h hw 2 rfl d kk
theorem x_alenQ (h : xM own cc nL R l G ct P) {r n : Nat} {f : Int → Option Nat} (hw : w r = some (aQ G n f)) (d : decode cc pc = .ok (.arraylength, 1)) (kk : P (pc + 1) ls (.int (iI (n : Nat)) :: st) w a) : P pc ls (.ref r :: st) w a := x_alen h hw 4 rfl d kk
theorem up_fU {f : Int → Int} {i v : Int} (h0 : 0 ≤ i) : (fun k : Nat => iI (fU f i v k)) = upd (fun k : Nat => iI (f k)) i.toNat (iI v) := by
  funext k
  unfold fU upd
  by_cases hk : (k : Int) = i
  · rw [if_pos hk, if_pos (by omega)]
  · rw [if_neg hk, if_neg (by omega)]
theorem x_iast (h : xM own cc nL R l G ct P) {r n : Nat} {f : Int → Int} {i v : Int} (hw : w r = some (aI G n f)) (hi : 0 ≤ i ∧ i < n ∧ n ≤ 2147483647) (d : decode cc pc = .ok (.iastore, 1)) (kk : P (pc + 1) ls st (wS w r (aI G n (fU f i v))) a) : P pc ls (.int (iI v) :: .int (iI i) :: .ref r :: st) w a := by
  obtain ⟨p, e, s, m, args, below, meth, c, Q, ⟨hx, hb, hml, hown, hts⟩, hK, hct, rfl⟩ := h
  intro H locs lsA h1 h2 h3 h4 h5
  obtain ⟨ha, hr⟩ := h1 _ _ hw
  refine W.iast hx hb ha ((hK.1.2 0 _ rfl).1 n (fun j => .int (iI (f j)))) (fun q => by cases q) (by show ¬ (iI i < 0 ∨ (arrV _ _ _).slots.size ≤ _); rw [arrV_size]; exact iI_in hi.1 hi.2.1 hi.2.2) rfl rfl d fun H1 e1 z oq => ?_
  refine kk H1 _ lsA (gH_put h1 hw ?_ oq) (z.trans h2) (h3.put z oq hr) h4 h5
  show H1[r]? = some (vp_cell _ _)
  rw [e1]
  rw [up_fU hi.1, vp_cell_i, vp_cell_i, arrV_store, iI_clamp hi.1 (by omega)]
  congr 2
  funext q
  by_cases hq : q = i.toNat
  · subst hq
    simp [updV, upd]
  · simp [updV, upd, hq]
theorem x_cast (h : xM own cc nL R l G ct P) {r n : Nat} {f : Int → Int} {i v : Int} (hw : w r = some (aC G n f)) (hi : 0 ≤ i ∧ i < n ∧ n ≤ 2147483647) (hv : narrow .char (.int (iI v)) = .int (iI v)) (d : decode cc pc = .ok (.castore, 1)) (kk : P (pc + 1) ls st (wS w r (aC G n (fU f i v))) a) : P pc ls (.int (iI v) :: .int (iI i) :: .ref r :: st) w a := by
  obtain ⟨p, e, s, m, args, below, meth, c, Q, ⟨hx, hb, hml, hown, hts⟩, hK, hct, rfl⟩ := h
  intro H locs lsA h1 h2 h3 h4 h5
  obtain ⟨ha, hr⟩ := h1 _ _ hw
  refine W.cast hx hb ha ((hK.1.2 2 _ rfl).1 n (fun j => .int (iI (f j)))) (fun q => by cases q) (by show ¬ (iI i < 0 ∨ (arrV _ _ _).slots.size ≤ _); rw [arrV_size]; exact iI_in hi.1 hi.2.1 hi.2.2) rfl rfl d fun H1 e1 z oq => ?_
  refine kk H1 _ lsA (gH_put h1 hw ?_ oq) (z.trans h2) (h3.put z oq hr) h4 h5
  show H1[r]? = some (vp_cell _ _)
  rw [e1, hv]
  rw [up_fU hi.1, vp_cell_i, vp_cell_i, arrV_store, iI_clamp hi.1 (by omega)]
  congr 2
  funext q
  by_cases hq : q = i.toNat
  · subst hq
    simp [updV, upd]
  · simp [updV, upd, hq]
theorem x_last (h : xM own cc nL R l G ct P) {r n : Nat} {f : Int → Int64} {i : Int} {v : Int64} (hw : w r = some (aJ G n f)) (hi : 0 ≤ i ∧ i < n ∧ n ≤ 2147483647) (d : decode cc pc = .ok (.lastore, 1)) (kk : P (pc + 1) ls st (wS w r (aJ G n (fU f i v))) a) : P pc ls (.long v :: .int (iI i) :: .ref r :: st) w a := by
  obtain ⟨p, e, s, m, args, below, meth, c, Q, ⟨hx, hb, hml, hown, hts⟩, hK, hct, rfl⟩ := h
  intro H locs lsA h1 h2 h3 h4 h5
  obtain ⟨ha, hr⟩ := h1 _ _ hw
  refine W.last hx hb ha ((hK.1.2 1 _ rfl).1 n (fun j => .long (f j))) (fun q => by cases q) (by show ¬ (iI i < 0 ∨ (arrV _ _ _).slots.size ≤ _); rw [arrV_size]; exact iI_in hi.1 hi.2.1 hi.2.2) rfl rfl d fun H1 e1 z oq => ?_
  refine kk H1 _ lsA (gH_put h1 hw ?_ oq) (z.trans h2) (h3.put z oq hr) h4 h5
  show H1[r]? = some (vp_cell _ _)
  rw [e1]
  rw [vp_cell_l, vp_cell_l, arrV_store, iI_clamp hi.1 (by omega)]
  congr 2
  funext q
  unfold fU updV
  by_cases hq : q = i.toNat
  · subst hq
    rw [if_pos rfl, if_pos (by omega)]
  · rw [if_neg hq, if_neg (by omega)]
theorem x_aast (h : xM own cc nL R l G ct P) {r n v : Nat} {f : Int → Option Nat} {i : Int} {vs : List Value} (hw : w r = some (aQ G n f)) (hv : w v = some (.inr (3, vs))) (hi : 0 ≤ i ∧ i < n ∧ n ≤ 2147483647) (d : decode cc pc = .ok (.aastore, 1)) (kk : P (pc + 1) ls st (wS w r (aQ G n (fU f i (some v)))) a) : P pc ls (.ref v :: .int (iI i) :: .ref r :: st) w a := by
  obtain ⟨p, e, s, m, args, below, meth, c, Q, ⟨hx, hb, hml, hown, hts⟩, hK, hct, rfl⟩ := h
  intro H locs lsA h1 h2 h3 h4 h5
  obtain ⟨ha, hr⟩ := h1 _ _ hw
  obtain ⟨⟨r1, g1, cellv, g2, g3, g4, g5⟩, hrv⟩ := h1 _ _ hv
  have hr1 : r1 = (RX3, TX3, 10) := Option.some.inj (g1.symm.trans rfl)
  subst hr1
  obtain ⟨hS, hfc, kC, hkC, hkind⟩ := hK.1.1 3 _ (rfl : vwCl[3]? = some (RX3, TX3, 10))
  obtain ⟨-, kA, comp, a1, a2, a3, -⟩ := hK.1.2 4 _ (rfl : (gT G)[4]? = some (G.2.1 4, .object "RangeDeeds$Register"))
  have hcls : comp = G.1.1 3 := Option.some.inj (a3.symm.trans hfc)
  refine W.aast hx hb ha (fun q h => by cases h) (fun h => by cases h) a1 a2 rfl (by rw [hcls]; exact hkC) ⟨?_, ?_⟩ g2 (fun q h => by rw [g4] at h; cases h) (by rw [g3]; exact hkC) (by rw [g3, hcls]; exact va_assign (C := RX3) ⟨hfc, kC, hkC, hkind⟩) rfl rfl d fun H1 e1 z oq => ?_
  · exact fun q => iI_in hi.1 hi.2.1 hi.2.2 (Or.inl q)
  · show _ < (arrV _ _ _).slots.size
    rw [arrV_size]
    exact Nat.not_le.mp fun q => iI_in hi.1 hi.2.1 hi.2.2 (Or.inr q)
  refine kk H1 _ lsA (gH_put h1 hw ?_ oq) (z.trans h2) (h3.put z oq hr) h4 h5
  show H1[r]? = some (vp_cell _ _)
  rw [e1]
  rw [vp_cell_q, vp_cell_q, arrV_store, iI_clamp hi.1 (by omega)]
  congr 2
  funext q
  unfold fU updV
  by_cases hq : q = i.toNat
  · subst hq
    rw [if_pos rfl, if_pos (by omega)]
    rfl
  · rw [if_neg hq, if_neg (by omega)]
/-! making -/
theorem x_new (h : xM own cc nL R l G ct P) {idx ci : Nat} {fs : List Value} {q : vw_C} (hq : vwCl[ci]? = some q) (hl : Wl ci) (hlk : Cond.classLink own idx q.1 ∈ gd_w) (hin : Cond.instantiable q.1 q.2.2 ∈ gd_w) (hini : Cond.initialized q.1 ∈ gd_w) (ty : Nat → FieldType) (hty : ∀ k, k < q.2.2 → parseFieldDescriptor (q.2.1 k).2.2.1 = some (ty k)) (hfs : ∀ j, j < q.2.2 → defaultValue (ty j) = vp_V fs j) {z k n : Nat} (hc : k + 1 ≤ R.cells) (hs : n + q.2.2 ≤ R.slots) (d : decode cc pc = .ok (.new idx, 3)) (kk : P (pc + 3) ls (.ref z :: st) (wS w z (.inr (ci, fs))) (z + 1, k + 1, n + q.2.2)) : P pc ls st w (z, k, n) := by
  obtain ⟨p, e, s, m, args, below, meth, c, Q, ⟨hx, hb, hml, hown, hts⟩, hK, hct, rfl⟩ := h
  intro H locs lsA h1 h2 h3 h4 h5
  obtain ⟨l1, -, l3⟩ := hl _ hq
  have hKn := hK.1.1 ci _ hq
  refine W.newcK hx hb hown (hts _ hlk) (hts _ hin) (hts _ hini) rfl d hc hs hKn.2.1 h2 fun H1 kC hkC e1 z1 o1 => ?_
  have hzb : G.2.2.1 ≤ z := by have := hK.2.2.1; have := h3.1; have h2' : H.size = z := h2; omega
  refine kk H1 locs lsA (gH_new h1 h2 hzb ⟨_, hq, (u_born ty hts l1 hKn hkC e1 hty).to hfs⟩ o1) z1 ⟨Nat.le_trans h3.1 (by have h2' : H.size = z := h2; omega), fun x g1 g2 => ?_, h3.2.2⟩ h4 h5
  rw [o1 x (by have := h3.1; have h2' : H.size = z := h2; omega)]
  exact h3.2.1 x g1 g2
theorem x_newI (h : xM own cc nL R l G ct P) {x : Int} {z k n N : Nat} (hw : Cond.arrayClass .int ∈ gd_w) (hx0 : 0 ≤ x) (hx1 : x.toNat = N) (hx2 : N ≤ 100000) (hc : k + 1 ≤ R.cells) (hs : n + N ≤ R.slots) (d : decode cc pc = .ok (.newarray .int, 2)) (kk : P (pc + 2) ls (.ref z :: st) (wS w z (aI G N (fun _ => 0))) (z + 1, k + 1, n + N)) : P pc ls (.int (iI x) :: st) w (z, k, n) := by
  obtain ⟨p, e, s, m, args, below, meth, c, Q, ⟨hx, hb, hml, hown, hts⟩, hK, hct, rfl⟩ := h
  intro H locs lsA h1 h2 h3 h4 h5
  refine va_newaK (atype := .int) (N := N) hx hb (hts _ hw) rfl d rfl (iI_nn hx0 (by omega)) (by rw [iI_clamp hx0 (by omega)]; exact hx1) (Nat.le_trans (Nat.mul_le_mul_right _ hx2) (Nat.le_of_ble_eq_true rfl)) hc hs h2 fun H1 cA e1 z1 o1 hAr hNm => ?_
  have hzb : G.2.2.1 ≤ z := by have := hK.2.2.1; have := h3.1; have h2' : H.size = z := h2; omega
  have hcA : cA = G.2.1 0 := Option.some.inj (hNm.symm.trans (hK.1.2 0 _ rfl).2)
  refine kk H1 locs lsA (gH_new h1 h2 hzb ?_ o1) z1 ⟨Nat.le_trans h3.1 (by have h2' : H.size = z := h2; omega), fun x g1 g2 => ?_, h3.2.2⟩ h4 h5
  · show H1[z]? = some (vp_cell _ _)
    rw [e1, hcA]
    rfl
  · rw [o1 x (by have := h3.1; have h2' : H.size = z := h2; omega)]
    exact h3.2.1 x g1 g2
theorem x_newJ (h : xM own cc nL R l G ct P) {x : Int} {z k n N : Nat} (hw : Cond.arrayClass .long ∈ gd_w) (hx0 : 0 ≤ x) (hx1 : x.toNat = N) (hx2 : N ≤ 100000) (hc : k + 1 ≤ R.cells) (hs : n + N ≤ R.slots) (d : decode cc pc = .ok (.newarray .long, 2)) (kk : P (pc + 2) ls (.ref z :: st) (wS w z (aJ G N (fun _ => 0))) (z + 1, k + 1, n + N)) : P pc ls (.int (iI x) :: st) w (z, k, n) := by
  obtain ⟨p, e, s, m, args, below, meth, c, Q, ⟨hx, hb, hml, hown, hts⟩, hK, hct, rfl⟩ := h
  intro H locs lsA h1 h2 h3 h4 h5
  refine va_newaK (atype := .long) (N := N) hx hb (hts _ hw) rfl d rfl (iI_nn hx0 (by omega)) (by rw [iI_clamp hx0 (by omega)]; exact hx1) (Nat.le_trans (Nat.mul_le_mul_right _ hx2) (Nat.le_of_ble_eq_true rfl)) hc hs h2 fun H1 cA e1 z1 o1 hAr hNm => ?_
  have hzb : G.2.2.1 ≤ z := by have := hK.2.2.1; have := h3.1; have h2' : H.size = z := h2; omega
  have hcA : cA = G.2.1 1 := Option.some.inj (hNm.symm.trans (hK.1.2 1 _ rfl).2)
  refine kk H1 locs lsA (gH_new h1 h2 hzb ?_ o1) z1 ⟨Nat.le_trans h3.1 (by have h2' : H.size = z := h2; omega), fun x g1 g2 => ?_, h3.2.2⟩ h4 h5
  · show H1[z]? = some (vp_cell _ _)
    rw [e1, hcA]
    rfl
  · rw [o1 x (by have := h3.1; have h2' : H.size = z := h2; omega)]
    exact h3.2.1 x g1 g2
theorem x_newC (h : xM own cc nL R l G ct P) {x : Int} {z k n N : Nat} (hw : Cond.arrayClass .char ∈ gd_w) (hx0 : 0 ≤ x) (hx1 : x.toNat = N) (hx2 : N ≤ 100000) (hc : k + 1 ≤ R.cells) (hs : n + N ≤ R.slots) (d : decode cc pc = .ok (.newarray .char, 2)) (kk : P (pc + 2) ls (.ref z :: st) (wS w z (aC G N (fun _ => 0))) (z + 1, k + 1, n + N)) : P pc ls (.int (iI x) :: st) w (z, k, n) := by
  obtain ⟨p, e, s, m, args, below, meth, c, Q, ⟨hx, hb, hml, hown, hts⟩, hK, hct, rfl⟩ := h
  intro H locs lsA h1 h2 h3 h4 h5
  refine va_newaK (atype := .char) (N := N) hx hb (hts _ hw) rfl d rfl (iI_nn hx0 (by omega)) (by rw [iI_clamp hx0 (by omega)]; exact hx1) (Nat.le_trans (Nat.mul_le_mul_right _ hx2) (Nat.le_of_ble_eq_true rfl)) hc hs h2 fun H1 cA e1 z1 o1 hAr hNm => ?_
  have hzb : G.2.2.1 ≤ z := by have := hK.2.2.1; have := h3.1; have h2' : H.size = z := h2; omega
  have hcA : cA = G.2.1 2 := Option.some.inj (hNm.symm.trans (hK.1.2 2 _ rfl).2)
  refine kk H1 locs lsA (gH_new h1 h2 hzb ?_ o1) z1 ⟨Nat.le_trans h3.1 (by have h2' : H.size = z := h2; omega), fun x g1 g2 => ?_, h3.2.2⟩ h4 h5
  · show H1[z]? = some (vp_cell _ _)
    rw [e1, hcA]
    rfl
  · rw [o1 x (by have := h3.1; have h2' : H.size = z := h2; omega)]
    exact h3.2.1 x g1 g2
theorem x_newQ (h : xM own cc nL R l G ct P) {idx : Nat} {x : Int} {z k n N : Nat} (hw : Cond.classLink own idx "RangeDeeds$Register" ∈ gd_w) (hx0 : 0 ≤ x) (hx1 : x.toNat = N) (hx2 : N ≤ 100000) (hc : k + 1 ≤ R.cells) (hs : n + N ≤ R.slots) (d : decode cc pc = .ok (.anewarray idx, 3)) (kk : P (pc + 3) ls (.ref z :: st) (wS w z (aQ G N (fun _ => none))) (z + 1, k + 1, n + N)) : P pc ls (.int (iI x) :: st) w (z, k, n) := by
  obtain ⟨p, e, s, m, args, below, meth, c, Q, ⟨hx, hb, hml, hown, hts⟩, hK, hct, rfl⟩ := h
  intro H locs lsA h1 h2 h3 h4 h5
  have hN : (iI x).toNatClampNeg = N := by rw [iI_clamp hx0 (by omega)]; exact hx1
  subst hN
  refine W.anew hx hb hown (hts _ hw) (va_AO.use hK.2.2.2.1) rfl d rfl (iI_nn hx0 (by omega)) (Nat.le_trans (Nat.mul_le_mul_right _ hx2) (Nat.le_of_ble_eq_true rfl)) hc hs fun cA kA comp f1 f2 f3 f4 => ?_
  have h2' : H.size = z := h2
  have hzb : G.2.2.1 ≤ z := by have := hK.2.2.1; have := h3.1; omega
  obtain ⟨-, kA', comp', b1, b2, b3, b4⟩ := hK.1.2 4 _ (rfl : (gT G)[4]? = some (G.2.1 4, .object "RangeDeeds$Register"))
  have hcA : cA = G.2.1 4 := Option.some.inj (f1.symm.trans b4)
  generalize hH1 : H.push ({ cls := cA, slots := Array.replicate (iI x).toNatClampNeg .null, vm := .none } : Cell) = H1
  have z1 : H1.size = H.size + 1 := by rw [← hH1, Array.size_push]
  have e1 : H1[H.size]? = some (arrV cA (iI x).toNatClampNeg (fun _ => .null)) := by rw [← hH1, Array.getElem?_push_size, ← arrV_new]
  have o1 : ∀ q : Nat, q < H.size → H1[q]? = H[q]? := fun q hq => by rw [← hH1, Array.getElem?_push, if_neg (Nat.ne_of_lt hq)]
  rw [h2'] at e1 z1 o1 ⊢
  refine kk H1 locs lsA (gH_new h1 h2 hzb ?_ o1) z1 ⟨Nat.le_trans h3.1 (by omega), fun x g1 g2 => ?_, h3.2.2⟩ h4 h5
  · show H1[z]? = some (vp_cell _ _)
    rw [e1, hcA]
    rfl
  · rw [o1 x (by have := h3.1; omega)]
    exact h3.2.1 x g1 g2
theorem x_widen (h : xM own cc nL R l G ct P) {z k n k2 n2 : Nat} (h1 : k ≤ k2) (h2 : n ≤ n2) (kk : P pc ls st w (z, k2, n2)) : P pc ls st w (z, k, n) := by
  obtain ⟨p, e, s, m, args, below, meth, c, Q, ⟨hx, hb, hml, hown, hts⟩, hK, hct, rfl⟩ := h
  intro H locs lsA g1 g2 g3 g4 g5
  exact W.widen h1 h2 (kk H locs lsA g1 g2 g3 g4 g5)
end XR
