/-! p35: more rows; the object as the law sees it; the law's rows of ranges -/
theorem iI_rem {x y : Int} (hx : 0 ≤ x) (hx2 : x ≤ 2147483647) (hy : 0 < y) (hy2 : y ≤ 2147483647) : iI x - iI x / iI y * iI y = iI (x % y) := by
  rw [iI_div hx hx2 hy hy2, iI_mul, iI_sub]
  congr 1
  rw [Int.emod_def, Int.mul_comm]
section XR
variable {own : String} {cc : ByteArray} {nL : Nat} {R : Room} {l : Launch} {G : xG} {ct : Bool} {P : xT} {pc : Nat} {ls : List (Option Value)} {st : List Value} {w : Wd} {a : Nat × Nat × Nat}
theorem x_irem (h : xM own cc nL R l G ct P) {x y : Int} (d : decode cc pc = .ok (.irem, 1)) (hx0 : 0 ≤ x) (hx2 : x ≤ 2147483647) (hy : 0 < y) (hy2 : y ≤ 2147483647) (k : P (pc + 1) ls (.int (iI (x % y)) :: st) w a) : P pc ls (.int (iI y) :: .int (iI x) :: st) w a := by
  obtain ⟨p, e, s, m, args, below, meth, c, Q, ⟨hx, hb, hml, hown, hts⟩, hK, hct, rfl⟩ := h
  intro H locs lsA h1 h2 h3 h4 h5
  exact lv_irem hx hb d (by intro q; have := congrArg Int32.toInt q; rw [iI_toInt ⟨by omega, hy2⟩, Int32.toInt_zero] at this; omega) (by rw [iI_rem hx0 hx2 hy hy2]; exact k H locs lsA h1 h2 h3 h4 h5)
theorem x_same (h : xM own cc nL R l G ct P) {x y : Int} {off : Int} {tgt : Nat} (e : x = y) (d : decode cc pc = .ok (.if_icmp .eq off, 3)) (ht : (pc : Int) + off = (tgt : Int)) (kt : P tgt ls st w a) : P pc ls (.int (iI y) :: .int (iI x) :: st) w a := by
  subst e
  obtain ⟨p, e, s, m, args, below, meth, c, Q, ⟨hx, hb, hml, hown, hts⟩, hK, hct, rfl⟩ := h
  intro H locs lsA h1 h2 h3 h4 h5
  exact lv_icmp_eq hx hb d ht (fun _ => kt H locs lsA h1 h2 h3 h4 h5) (fun q => absurd rfl q)
theorem x_sameN (h : xM own cc nL R l G ct P) {x y : Int} {off : Int} {tgt : Nat} (e : x = y) (d : decode cc pc = .ok (.if_icmp .ne off, 3)) (ht : (pc : Int) + off = (tgt : Int)) (kt : P (pc + 3) ls st w a) : P pc ls (.int (iI y) :: .int (iI x) :: st) w a := by
  subst e
  obtain ⟨p, e, s, m, args, below, meth, c, Q, ⟨hx, hb, hml, hown, hts⟩, hK, hct, rfl⟩ := h
  intro H locs lsA h1 h2 h3 h4 h5
  exact lv_icmp_ne hx hb d ht (fun q => absurd rfl q) (fun _ => kt H locs lsA h1 h2 h3 h4 h5)
/-- the script: it is read as it lies, whatever stands in it -/
def scK (P : xT) (b L : Nat) : Prop :=
  (∀ (pc : Nat) (ls : List (Option Value)) (st : List Value) (w : Wd) (a : Nat × Nat × Nat) (j : Int), 0 ≤ j → j < L → decode cL_cell pc = .ok (.iaload, 1) → (∀ v : Int32, P (pc + 1) ls (.int v :: st) w a) → P pc ls (.int (iI j) :: .ref b :: st) w a) ∧
  (∀ (pc : Nat) (ls : List (Option Value)) (st : List Value) (w : Wd) (a : Nat × Nat × Nat), decode cL_cell pc = .ok (.arraylength, 1) → P (pc + 1) ls (.int (iI (L : Nat)) :: st) w a → P pc ls (.ref b :: st) w a)
theorem x_scr {P : xT} (h : xM own cL_cell nL R l G ct P) : ∃ L : Nat, L ≤ 260 ∧ scK P (G.2.2.2 3) L := by
  obtain ⟨p, e, s, m, args, below, meth, c, Q, ⟨hx, hb, hml, hown, hts⟩, hK, hct, rfl⟩ := h
  obtain ⟨L, xs, hL, hT⟩ := hK.2.2.2.2.1
  refine ⟨L, hL, ?_, ?_⟩
  · intro pc ls st w a j h0 hj d kk H locs lsA h1 h2 h3 h4 h5
    exact va_ti hx hb hT h3 (iI_in h0 hj (by omega)) rfl d (kk _ H locs lsA h1 h2 h3 h4 h5)
  · intro pc ls st w a d kk H locs lsA h1 h2 h3 h4 h5
    exact va_tlen hx hb hT h3 (iI_nat _) d (kk H locs lsA h1 h2 h3 h4 h5)
end XR
theorem and22 (x : Int32) : ∃ y : Int, 0 ≤ y ∧ y ≤ 4194303 ∧ x &&& iI 4194303 = iI y := by
  have h : (x &&& iI 4194303).toBitVec.toNat ≤ 4194303 := by
    rw [Int32.toBitVec_and, BitVec.toNat_and]
    exact Nat.and_le_right
  have e : (x &&& iI 4194303).toInt = ((x &&& iI 4194303).toBitVec.toNat : Int) := by
    show (x &&& iI 4194303).toBitVec.toInt = _
    exact BitVec.toInt_eq_toNat_of_lt (by omega)
  exact ⟨(x &&& iI 4194303).toInt, by omega, by omega, (iI_of _).symm⟩
/-! the object -/
theorem hisA.kpf {G : xG} {w w1 : Wd} {t : Nat} {hs : List St} (h : hisA G w t hs) (k : ∀ q : Nat, t ≤ q → q < t + 156 → w1 q = w q) : hisA G w1 t hs := by
  obtain ⟨g0, p, g, ⟨h1, ⟨f, h2, h3⟩, h4, h5, h6⟩, g1⟩ := h
  refine ⟨g0, p, g, ⟨(k _ (by omega) (by omega)).trans h1, ⟨f, (k _ (by omega) (by omega)).trans h2, h3⟩, h4, h5, fun i hi => (h6 i hi).kpf fun q a b => ?_⟩, g1⟩
  have := h4 i hi
  exact k q (by omega) (by omega)
theorem coA.kpf {G : xG} {w w1 : Wd} {x : Nat} {s : St} (h : coA G w x s) (k : ∀ q : Nat, x ≤ q → q < x + 56 → w1 q = w q) : coA G w1 x s := by
  obtain ⟨h1, h2, ⟨s1, h3⟩, T, h4⟩ := h
  exact ⟨(k _ (by omega) (by omega)).trans h1, h2.kpf fun q a b => k q (by omega) (by omega), ⟨s1, h3.kpf fun q a b => k q (by omega) (by omega)⟩, T, h4.kpf fun q a b => k q (by omega) (by omega)⟩
theorem padE.kpf {G : xG} {w w1 : Wd} {p : Nat} {cs : List Int} (h : padE G w p cs) (k : ∀ q : Nat, p ≤ q → q < p + 2 → w1 q = w q) : padE G w1 p cs := by
  obtain ⟨pl, kd, le, nu, se, h1, h2, f, h3, h4⟩ := h
  exact ⟨pl, kd, le, nu, se, h1, (k _ (by omega) (by omega)).trans h2, f, (k _ (by omega) (by omega)).trans h3, h4⟩
/-- the object x in the state s -/
def obA (G : xG) (w : Wd) (x : Nat) (s : St) : Prop := coA G w x s ∧ (∃ hs : List St, hisA G w (x + 56) hs) ∧ padE G w (x + 213) []
/-- what lies in lo .. hi stays -/
def Kp (lo hi : Nat) (w w1 : Wd) : Prop := ∀ q : Nat, lo ≤ q → q < hi → w1 q = w q
theorem Kp.rf {lo hi : Nat} {w : Wd} : Kp lo hi w w := fun _ _ _ => rfl
theorem Kp.tr {lo hi : Nat} {w w1 w2 : Wd} (h1 : Kp lo hi w w1) (h2 : Kp lo hi w1 w2) : Kp lo hi w w2 := fun q a b => (h2 q a b).trans (h1 q a b)
theorem Kp.wS {lo hi q : Nat} {w : Wd} {e : va_E} (h : q < lo ∨ hi ≤ q) : Kp lo hi w (wS w q e) := fun x a b => wS_ne (by omega)
theorem obA.kp {G : xG} {w w1 : Wd} {x : Nat} {s : St} (h : obA G w x s) (k : Kp x (x + 215) w w1) : obA G w1 x s := by
  obtain ⟨h1, ⟨hs, h2⟩, h3⟩ := h
  exact ⟨h1.kpf fun q a b => k q (by omega) (by omega), ⟨hs, h2.kpf fun q a b => k q (by omega) (by omega)⟩, h3.kpf fun q a b => k q (by omega) (by omega)⟩
theorem ob_o {G : xG} {w : Wd} {x : Nat} {s : St} (h : obA G w x s) : w x = some (.inr (6, [.ref (x + 1), .ref (x + 23), .ref (x + 45), .ref (x + 56), .ref (x + 212), .ref (x + 213)])) := h.1.1
theorem ob_W {G : xG} {w : Wd} {x : Nat} {s : St} (h : obA G w x s) : regW s ∧ strW s.L ∧ dealW s.D := ⟨h.1.2.1.1, (rgaS h.1.2.1).1, (rgaD h.1.2.1).1⟩
section OB
variable {l : Launch} {G : xG} {w : Wd} {z x : Nat} {s : St}
theorem o_cnt {k v : Int} (h : obA G w x s) (hk : iR k) (hv : ∀ n : Int, cntV s 0 n k = v) : xMet l G yX6_count cX6_count 2 (some .int) ({ frames := 4, cells := 0, slots := 0, locals := 85 } : Room) [.ref x, .int (iI k)] w z (rI v w z) := by
  obtain ⟨h1, ⟨hs, h2⟩, pl, kd, le, nu, se, h3⟩ := h
  have := m_X6_count (l := l) (z := z) h1 h2 h3 hk
  rwa [show cntV s (([] : List Int).length : Int) (hs.length : Int) k = v from hv _] at this
theorem o_c0 (h : obA G w x s) : xMet l G yX6_count cX6_count 2 (some .int) ({ frames := 4, cells := 0, slots := 0, locals := 85 } : Room) [.ref x, .int (iI 0)] w z (rI s.day w z) := o_cnt h (by omega) fun _ => rfl
theorem o_c1 (h : obA G w x s) : xMet l G yX6_count cX6_count 2 (some .int) ({ frames := 4, cells := 0, slots := 0, locals := 85 } : Room) [.ref x, .int (iI 1)] w z (rI s.own w z) := o_cnt h (by omega) fun _ => rfl
theorem o_c2 (h : obA G w x s) : xMet l G yX6_count cX6_count 2 (some .int) ({ frames := 4, cells := 0, slots := 0, locals := 85 } : Room) [.ref x, .int (iI 2)] w z (rI s.L.length w z) := o_cnt h (by omega) fun _ => rfl
theorem o_c3 (h : obA G w x s) : xMet l G yX6_count cX6_count 2 (some .int) ({ frames := 4, cells := 0, slots := 0, locals := 85 } : Room) [.ref x, .int (iI 3)] w z (rI (allM s.L) w z) := o_cnt h (by omega) fun _ => rfl
theorem o_c4 (h : obA G w x s) : xMet l G yX6_count cX6_count 2 (some .int) ({ frames := 4, cells := 0, slots := 0, locals := 85 } : Room) [.ref x, .int (iI 4)] w z (rI (holF s.L) w z) := o_cnt h (by omega) fun _ => rfl
theorem o_c5 (h : obA G w x s) : xMet l G yX6_count cX6_count 2 (some .int) ({ frames := 4, cells := 0, slots := 0, locals := 85 } : Room) [.ref x, .int (iI 5)] w z (rI (lghF s.L) w z) := o_cnt h (by omega) fun _ => rfl
theorem o_c6 (h : obA G w x s) : xMet l G yX6_count cX6_count 2 (some .int) ({ frames := 4, cells := 0, slots := 0, locals := 85 } : Room) [.ref x, .int (iI 6)] w z (rI s.D.length w z) := o_cnt h (by omega) fun _ => rfl
theorem o_c7 (h : obA G w x s) : xMet l G yX6_count cX6_count 2 (some .int) ({ frames := 4, cells := 0, slots := 0, locals := 85 } : Room) [.ref x, .int (iI 7)] w z (rI s.clo w z) := o_cnt h (by omega) fun _ => rfl
theorem o_c8 (h : obA G w x s) : xMet l G yX6_count cX6_count 2 (some .int) ({ frames := 4, cells := 0, slots := 0, locals := 85 } : Room) [.ref x, .int (iI 8)] w z (rI s.fee w z) := o_cnt h (by omega) fun _ => rfl
theorem o_c9 (h : obA G w x s) : xMet l G yX6_count cX6_count 2 (some .int) ({ frames := 4, cells := 0, slots := 0, locals := 85 } : Room) [.ref x, .int (iI 9)] w z (rI (sumF s.tax 10) w z) := o_cnt h (by omega) fun _ => rfl
theorem o_c12 (h : obA G w x s) : xMet l G yX6_count cX6_count 2 (some .int) ({ frames := 4, cells := 0, slots := 0, locals := 85 } : Room) [.ref x, .int (iI 12)] w z (rI (s.set 0) w z) := o_cnt h (by omega) fun _ => rfl
theorem o_c13 (h : obA G w x s) : xMet l G yX6_count cX6_count 2 (some .int) ({ frames := 4, cells := 0, slots := 0, locals := 85 } : Room) [.ref x, .int (iI 13)] w z (rI (s.set 1) w z) := o_cnt h (by omega) fun _ => rfl
theorem o_c14 (h : obA G w x s) : xMet l G yX6_count cX6_count 2 (some .int) ({ frames := 4, cells := 0, slots := 0, locals := 85 } : Room) [.ref x, .int (iI 14)] w z (rI (s.set 2) w z) := o_cnt h (by omega) fun _ => rfl
theorem o_c15 (h : obA G w x s) : xMet l G yX6_count cX6_count 2 (some .int) ({ frames := 4, cells := 0, slots := 0, locals := 85 } : Room) [.ref x, .int (iI 15)] w z (rI (s.set 3) w z) := o_cnt h (by omega) fun _ => rfl
theorem o_c16 (h : obA G w x s) : xMet l G yX6_count cX6_count 2 (some .int) ({ frames := 4, cells := 0, slots := 0, locals := 85 } : Room) [.ref x, .int (iI 16)] w z (rI (s.set 4) w z) := o_cnt h (by omega) fun _ => rfl
theorem o_rng {k : Nat} {j v : Int} (h : obA G w x s) (hk : k < s.L.length) (hj : iR j) (hv : ofR s k j = v) : xMet l G yX6_ofRange cX6_ofRange 3 (some .int) ({ frames := 1, cells := 0, slots := 0, locals := 21 } : Room) [.ref x, .int (iI k), .int (iI j)] w z (rI v w z) := by
  have hL := (ob_W h).2.1.1
  have := m_X6_ofRange (l := l) (z := z) (r := (k : Int)) h.1 (by omega) hj
  rwa [hv] at this
theorem ofR_0 {k : Nat} (hk : k < s.L.length) : ofR s k 0 = s.L[k].1 := by
  unfold ofR
  rw [if_pos (by omega), if_pos rfl, show ((k : Int).toNat) = k by omega, (gO_at hk).1]
theorem ofR_1 {k : Nat} (hk : k < s.L.length) : ofR s k 1 = s.L[k].2.1 := by
  unfold ofR
  rw [if_pos (by omega), if_neg (by decide), if_pos rfl, show ((k : Int).toNat) = k by omega, (gO_at hk).2.1]
theorem ofR_2 {k : Nat} (hk : k < s.L.length) : ofR s k 2 = s.L[k].2.2 - s.L[k].2.1 := by
  unfold ofR
  rw [if_pos (by omega), if_neg (by decide), if_neg (by decide), if_pos rfl, show ((k : Int).toNat) = k by omega, (gO_at hk).2.1, (gO_at hk).2.2]
theorem o_r0 {k : Nat} (h : obA G w x s) (hk : k < s.L.length) : xMet l G yX6_ofRange cX6_ofRange 3 (some .int) ({ frames := 1, cells := 0, slots := 0, locals := 21 } : Room) [.ref x, .int (iI k), .int (iI 0)] w z (rI s.L[k].1 w z) := o_rng h hk (by omega) (ofR_0 hk)
theorem o_r1 {k : Nat} (h : obA G w x s) (hk : k < s.L.length) : xMet l G yX6_ofRange cX6_ofRange 3 (some .int) ({ frames := 1, cells := 0, slots := 0, locals := 21 } : Room) [.ref x, .int (iI k), .int (iI 1)] w z (rI s.L[k].2.1 w z) := o_rng h hk (by omega) (ofR_1 hk)
theorem o_r2 {k : Nat} (h : obA G w x s) (hk : k < s.L.length) : xMet l G yX6_ofRange cX6_ofRange 3 (some .int) ({ frames := 1, cells := 0, slots := 0, locals := 21 } : Room) [.ref x, .int (iI k), .int (iI 2)] w z (rI (s.L[k].2.2 - s.L[k].2.1) w z) := o_rng h hk (by omega) (ofR_2 hk)
theorem o_own {k j v : Int} (h : obA G w x s) (hk : 0 ≤ k ∧ k < s.own) (hj : iR j) (hv : ∀ q : 0 ≤ k ∧ k < s.own, ofO s k j = v) : xMet l G yX6_ofOwner cX6_ofOwner 3 (some .int) ({ frames := 2, cells := 0, slots := 0, locals := 44 } : Room) [.ref x, .int (iI k), .int (iI j)] w z (rI v w z) := by
  have hW := (ob_W h).1
  have := m_X6_ofOwner (l := l) (z := z) (o := k) h.1 (by have := hW.2.1; omega) hj
  rwa [hv hk] at this
theorem o_o0 {k : Int} (h : obA G w x s) (hk : 0 ≤ k ∧ k < s.own) : xMet l G yX6_ofOwner cX6_ofOwner 3 (some .int) ({ frames := 2, cells := 0, slots := 0, locals := 44 } : Room) [.ref x, .int (iI k), .int (iI 0)] w z (rI (cntO s.L k) w z) := o_own h hk (by omega) fun q => if_pos q
theorem o_o1 {k : Int} (h : obA G w x s) (hk : 0 ≤ k ∧ k < s.own) : xMet l G yX6_ofOwner cX6_ofOwner 3 (some .int) ({ frames := 2, cells := 0, slots := 0, locals := 44 } : Room) [.ref x, .int (iI k), .int (iI 1)] w z (rI (mtsO s.L k) w z) := o_own h hk (by omega) fun q => if_pos q
theorem o_o2 {k : Int} (h : obA G w x s) (hk : 0 ≤ k ∧ k < s.own) : xMet l G yX6_ofOwner cX6_ofOwner 3 (some .int) ({ frames := 2, cells := 0, slots := 0, locals := 44 } : Room) [.ref x, .int (iI k), .int (iI 2)] w z (rI (lonF s.L k) w z) := o_own h hk (by omega) fun q => if_pos q
theorem o_o3 {k : Int} (h : obA G w x s) (hk : 0 ≤ k ∧ k < s.own) : xMet l G yX6_ofOwner cX6_ofOwner 3 (some .int) ({ frames := 2, cells := 0, slots := 0, locals := 44 } : Room) [.ref x, .int (iI k), .int (iI 3)] w z (rI (taxV s k) w z) := o_own h hk (by omega) fun q => if_pos q
theorem o_o4 {k : Int} (h : obA G w x s) (hk : 0 ≤ k ∧ k < s.own) : xMet l G yX6_ofOwner cX6_ofOwner 3 (some .int) ({ frames := 2, cells := 0, slots := 0, locals := 44 } : Room) [.ref x, .int (iI k), .int (iI 4)] w z (rI (s.tax k) w z) := o_own h hk (by omega) fun q => if_pos q
theorem o_o5 {k : Int} (h : obA G w x s) (hk : 0 ≤ k ∧ k < s.own) : xMet l G yX6_ofOwner cX6_ofOwner 3 (some .int) ({ frames := 2, cells := 0, slots := 0, locals := 44 } : Room) [.ref x, .int (iI k), .int (iI 5)] w z (rI (s.los k) w z) := o_own h hk (by omega) fun q => if_pos q
theorem own_R {k : Int} (h : obA G w x s) (hk : 0 ≤ k ∧ k < s.own) : iR k := by
  have := (ob_W h).1.2.1
  omega
theorem o_mon {k : Int} (h : obA G w x s) (hk : 0 ≤ k ∧ k < s.own) : xMet l G yX6_money cX6_money 2 (some .long) ({ frames := 1, cells := 0, slots := 0, locals := 21 } : Room) [.ref x, .int (iI k)] w z (rL (s.mon k) w z) := by
  have := m_X6_money (l := l) (z := z) (o := k) h.1 (own_R h hk)
  rwa [show monV s k = s.mon k from if_pos hk] at this
theorem o_at {m : Int} (h : obA G w x s) (hm : 0 ≤ m ∧ m < 10000) : xMet l G yX6_ownerAt cX6_ownerAt 2 (some .int) ({ frames := 3, cells := 0, slots := 0, locals := 64 } : Room) [.ref x, .int (iI m)] w z (rI (hldF s.L m) w z) := by
  have := m_X6_ownerAt (l := l) (z := z) (m := m) h.1 (by omega)
  rwa [show ownV s m = hldF s.L m by unfold ownV; rw [if_neg (by omega), if_pos (by omega)]] at this
theorem o_tr {k : Nat} {j : Int} (h : obA G w x s) (hk : k < s.D.length) (hj : 0 ≤ j ∧ j < 5) : xMet l G yX6_ofTransfer cX6_ofTransfer 3 (some .int) ({ frames := 2, cells := 0, slots := 0, locals := 43 } : Room) [.ref x, .int (iI k), .int (iI j)] w z (rI (trAt s.D[k] j) w z) := by
  have hD := (ob_W h).2.2.1
  have := m_X6_ofTransfer (l := l) (z := z) (i := (k : Int)) (k := j) h.1 (by omega) (by omega)
  rwa [show ofT s k j = trAt s.D[k] j by unfold ofT; rw [if_pos (by omega), if_neg (by omega), show ((k : Int).toNat) = k by omega, List.getElem?_eq_getElem hk]; rfl] at this
theorem o_shr {k : Int} (h : obA G w x s) (hk : 0 ≤ k ∧ k < s.own) : xMet l G yX6_shareBits cX6_shareBits 2 (some .int) ({ frames := 2, cells := 0, slots := 0, locals := 42 } : Room) [.ref x, .int (iI k)] w z (rI (bqF (mtsO s.L k) (allM s.L)) w z) := by
  have := m_X6_shareBits (l := l) (z := z) (o := k) h.1 (own_R h hk)
  rwa [show shrV s k = _ from if_pos hk] at this
theorem o_hol {n j v : Int} (h : obA G w x s) (hn : 1 ≤ n ∧ n ≤ 10000) (hj : 0 ≤ j ∧ j ≤ 2) (hv : (if gfrF s.L n j = -6 then -6 else gapP s.L (gfrF s.L n j).toNat) = v) : xMet l G yX6_hole cX6_hole 4 (some .int) ({ frames := 4, cells := 0, slots := 0, locals := 89 } : Room) [.ref x, .int (iI n), .int (iI j)] w z (rI v w z) := by
  have := m_X6_hole (l := l) (z := z) (n := n) (h := j) h.1 (by omega) (by omega)
  rwa [show holV s n j = v from (if_pos ⟨hn, hj⟩).trans hv] at this
theorem o_gap {k : Int} (h : obA G w x s) (hk : 0 ≤ k ∧ k < s.own) : xMet l G yX6_gaps cX6_gaps 2 (some .int) ({ frames := 3, cells := 0, slots := 0, locals := 66 } : Room) [.ref x, .int (iI k)] w z (rI (mbtF s.L k) w z) := by
  have := m_X6_gaps (l := l) (z := z) (o := k) h.1 (own_R h hk)
  rwa [show gpsV s k = _ from if_pos hk] at this
theorem o_los {k : Int} (h : obA G w x s) (hk : 0 ≤ k ∧ k < s.own) : xMet l G yX6_losesIn cX6_losesIn 2 (some .int) ({ frames := 3, cells := 0, slots := 0, locals := 68 } : Room) [.ref x, .int (iI k)] w z (rI (if cntO s.L k ≤ 0 then -6 else dtlF (taxV s k) 300 1 (s.mon k)) w z) := by
  have := m_X6_losesIn (l := l) (z := z) (o := k) h.1 (own_R h hk)
  rwa [show lsnV s k = _ from if_pos hk] at this
end OB
/-- the object behind a call that may change it -/
abbrev muQ (G : xG) (w : Wd) (z x : Nat) (r : Int × St) : xPo := qI z fun y w1 => y = r.1 ∧ obA G w1 x r.2 ∧ Fr (x + 1) (x + 212) w w1
theorem mu_ob {G : xG} {w w1 : Wd} {x : Nat} {s t : St} (h : obA G w x s) (h1 : coA G w1 x t) (hs : List St) (h2 : hisA G w1 (x + 56) hs) (f : Fr (x + 1) (x + 212) w w1) : obA G w1 x t := ⟨h1, ⟨hs, h2⟩, h.2.2.kp f (by omega)⟩
/-! rows of ranges: first meter and owner in the one, the meter behind in the other -/
def rwA (G : xG) (w : Wd) (r e : Nat) (T : List Sg) (f g : Int → Int) : Prop := w r = some (aI G 64 f) ∧ w e = some (aI G 64 g) ∧ ∀ (i : Nat) (h : i < T.length), f (1 + i) = 16 * T[i].2.1 + T[i].1 ∧ g (1 + i) = T[i].2.2
def arA (G : xG) (w : Wd) (r e : Nat) (T : List Sg) : Prop := (∀ s ∈ T, okS s) ∧ ∃ f g : Int → Int, rwA G w r e T f g
def rsA (G : xG) (w : Wd) (r e : Nat) (L : List Sg) : Prop := strW L ∧ ∃ f g : Int → Int, rwA G w r e L f g ∧ f 0 = L.length
theorem rsA.kp {G : xG} {w w1 : Wd} {r e : Nat} {L : List Sg} (h : rsA G w r e L) (h1 : w1 r = w r) (h2 : w1 e = w e) : rsA G w1 r e L := by
  obtain ⟨g0, f, g, ⟨g1, g2, g3⟩, g4⟩ := h
  exact ⟨g0, f, g, ⟨h1.trans g1, h2.trans g2, g3⟩, g4⟩
theorem arA.kp {G : xG} {w w1 : Wd} {r e : Nat} {L : List Sg} (h : arA G w r e L) (h1 : w1 r = w r) (h2 : w1 e = w e) : arA G w1 r e L := by
  obtain ⟨g0, f, g, g1, g2, g3⟩ := h
  exact ⟨g0, f, g, h1.trans g1, h2.trans g2, g3⟩
/-- what lies elsewhere than at r and e stays -/
def Fa (r e : Nat) (w w1 : Wd) : Prop := ∀ q : Nat, q ≠ r → q ≠ e → w1 q = w q
theorem Fa.rf {r e : Nat} {w : Wd} : Fa r e w w := fun _ _ _ => rfl
theorem Fa.tr {r e : Nat} {w w1 w2 : Wd} (h1 : Fa r e w w1) (h2 : Fa r e w1 w2) : Fa r e w w2 := fun q a b => (h2 q a b).trans (h1 q a b)
theorem Fa.w1 {r e : Nat} {w : Wd} {c : va_E} : Fa r e w (wS w r c) := fun _ a _ => wS_ne a
theorem Fa.w2 {r e : Nat} {w : Wd} {c : va_E} : Fa r e w (wS w e c) := fun _ _ a => wS_ne a
theorem Fa.kp {r e lo hi : Nat} {w w1 : Wd} (h : Fa r e w w1) (a : r < lo ∨ hi ≤ r) (b : e < lo ∨ hi ≤ e) : Kp lo hi w w1 := fun q c d => h q (by omega) (by omega)
theorem Fr.kp {a b lo hi : Nat} {w w1 : Wd} (h : Fr a b w w1) (c : b ≤ lo ∨ hi ≤ a) : Kp lo hi w w1 := fun q d e => h q (by omega)
