/-! THE LAW: what holds between two calls -/
/-- the script: its reads, its length, the law's end with true, its numbers -/
def scK (P : xT) (b L : Nat) (xs : Int → Int) : Prop :=
  (∀ (pc : Nat) (ls : List (Option Value)) (st : List Value) (w : Wd) (a : Nat × Nat × Nat) (j : Int), 0 ≤ j → j < L → decode cL_law pc = .ok (.iaload, 1) → P (pc + 1) ls (.int (iI (xs j)) :: st) w a → P pc ls (.int (iI j) :: .ref b :: st) w a) ∧
  (∀ (pc : Nat) (ls : List (Option Value)) (st : List Value) (w : Wd) (a : Nat × Nat × Nat), decode cL_law pc = .ok (.arraylength, 1) → P (pc + 1) ls (.int (iI (L : Nat)) :: st) w a → P pc ls (.ref b :: st) w a) ∧
  (∀ (pc : Nat) (ls : List (Option Value)) (w : Wd) (z k n : Nat), decode cL_law pc = .ok (.ireturn, 1) → k ≤ 600000 → n ≤ 7302250 → P pc ls [.int (iI 1)] w (z, k, n)) ∧ ∀ j : Int, iR (xs j)
def cpA (G : xG) (w : Wd) (z x : Nat) (s : St) (hs : List St) (sl : Nat → Option St) (cs : List Int) : Prop := coA G w x s ∧ hisA G w (x + 56) hs ∧ slA G w x z sl ∧ padE G w (x + 213) cs
def rpA (G : xG) (w : Wd) (m : Nat) (t : St) (hs : List St) (sl : Nat → Option St) (cs : List Int) (mn pl wr : Int) : Prop := muA G w m 0 t hs cs.length mn pl wr ∧ kpA G w m ∧ pdA G w m cs ∧ enE G w m ∧ svA G w m sl
theorem muA.kpf {G : xG} {w w1 : Wd} {m : Nat} {it : Int} {t : St} {hs : List St} {sg mn pl wr : Int} (h : muA G w m it t hs sg mn pl wr) (k : ∀ q : Nat, m ≤ q → q < m + 15 → w1 q = w q) : muA G w1 m it t hs sg mn pl wr := by
  obtain ⟨R, h1, h2, h3, h4⟩ := h
  exact ⟨R, (k m (by omega) (by omega)).trans h1, h2.kpf (k _ (by omega) (by omega)) (k _ (by omega) (by omega)), h3.kpf (k _ (by omega) (by omega)) (k _ (by omega) (by omega)), h4.kpf (k _ (by omega) (by omega)) (k _ (by omega) (by omega))⟩
theorem cpA.kp {G : xG} {w w1 : Wd} {z x : Nat} {s : St} {hs : List St} {sl : Nat → Option St} {cs : List Int} (h : cpA G w z x s hs sl cs) (k : Fr (x + 215) (x + 230) w w1) : cpA G w1 z x s hs sl cs := ⟨h.1.kp k (by omega), h.2.1.kp k (by omega), h.2.2.1.kp k (by omega), h.2.2.2.kp k (by omega)⟩
theorem rpA.kpf {G : xG} {w w1 : Wd} {m : Nat} {t : St} {hs : List St} {sl : Nat → Option St} {cs : List Int} {mn pl wr : Int} (h : rpA G w m t hs sl cs mn pl wr) (k : ∀ q : Nat, m ≤ q → q < m + 15 → w1 q = w q) : rpA G w1 m t hs sl cs mn pl wr := by
  obtain ⟨h1, h2, h3, ⟨f, h4⟩, h5⟩ := h
  exact ⟨h1.kpf k, h2.kpf (k _ (by omega) (by omega)) (k _ (by omega) (by omega)), h3.kpf (k _ (by omega) (by omega)), ⟨f, (k _ (by omega) (by omega)).trans h4⟩, h5.kpf (k _ (by omega) (by omega)) (k _ (by omega) (by omega)) (k _ (by omega) (by omega))⟩
def gdA (D F : Int) (t : St) (hs : List St) (sl : Nat → Option St) : Prop := gd D F t ∧ (∀ u ∈ hs, gd D F u) ∧ ∀ (i : Nat) (u : St), i < 2 → sl i = some u → gd D F u
theorem gdA.mono {D F D2 F2 : Int} {t : St} {hs : List St} {sl : Nat → Option St} (h : gdA D F t hs sl) (hD : D ≤ D2) (hF : F ≤ F2) : gdA D2 F2 t hs sl := ⟨h.1.mono hD hF, fun u hu => (h.2.1 u hu).mono hD hF, fun i u a b => (h.2.2 i u a b).mono hD hF⟩
theorem gdA.his {D F : Int} {t : St} {hs : List St} {sl : Nat → Option St} {t2 : St} (h : gdA D F t hs sl) (g : gd D F t2) (y : Int) : gdA D F t2 (hisR 0 hs t y) sl := by
  refine ⟨g, fun u hu => ?_, h.2.2⟩
  unfold hisR at hu
  split at hu
  · exact h.2.1 u hu
  · unfold recN at hu
    rw [if_pos rfl] at hu
    unfold pushH at hu
    split at hu
    · rcases List.mem_append.mp hu with q | q
      · exact h.2.1 u q
      · rw [List.mem_singleton] at q; rw [q]; exact h.1
    · rcases List.mem_append.mp hu with q | q
      · exact h.2.1 u (List.mem_of_mem_tail q)
      · rw [List.mem_singleton] at q; rw [q]; exact h.1
theorem his_e (hs : List St) (t : St) (y : Int) : hisN (hs.map rS) (rS t) y = (hisR 0 hs t y).map rS := by
  unfold hisN hisR recN
  rw [if_pos rfl]
  split
  · rfl
  · exact (e_psh hs t).symm
/-- between two calls, c of them done -/
def lwI (G : xG) (w : Wd) (z x : Nat) (t : St) (hs : List St) (sl : Nat → Option St) (cs : List Int) (c : Nat) : Prop := cpA G w z x (rS t) (hs.map rS) (slM sl) cs ∧ (∃ mn pl wr : Int, rpA G w (x + 215) t hs sl cs mn pl wr) ∧ gdA (5000 * c) (1000000 * c) t hs sl ∧ x + 230 ≤ z
/-- what follows a call -/
def lwJ (P : xT) (G : xG) (b x c : Nat) : Prop := ∀ (w : Wd) (z k n : Nat) (t : St) (hs : List St) (sl : Nat → Option St) (cs : List Int), lwI G w z x t hs sl cs (c + 1) → k ≤ 300 + 22 * (c + 1) → n ≤ 8000 + 248 * (c + 1) → P 1053 [some (.ref b), some (.ref x), some (.ref (x + 215)), some (.int (iI (6 * (c : Int))))] [] w (z, k, n)
theorem Fm.w {m : Nat} {w w1 : Wd} (h : Fm m w w1) : Fr m (m + 15) w w1 := fun q a => h q (by omega) (by omega) (by omega) (by omega) (by omega) (by omega) (by omega)
theorem Fk.w {m : Nat} {w w1 : Wd} (h : Fk m w w1) : Fr m (m + 15) w w1 := fun q a => h q (by omega) (by omega) (by omega) (by omega) (by omega) (by omega) (by omega) (by omega) (by omega)
theorem Fq.w {m : Nat} {w w1 : Wd} (h : Fq m w w1) : Fr m (m + 15) w w1 := fun q a => h q (by omega) (by omega) (by omega) (by omega) (by omega) (by omega) (by omega) (by omega)
theorem Fe.w {m : Nat} {w w1 : Wd} (h : Fe m w w1) : Fr m (m + 15) w w1 := fun q a => h q (by omega) (by omega)
theorem Fp.w {m : Nat} {w w1 : Wd} (h : Fp m w w1) : Fr m (m + 15) w w1 := fun q a => h q (by omega) (by omega)
section LW
variable {G : xG} {w w1 w2 : Wd} {z x c : Nat} {t t2 : St} {hs : List St} {sl : Nat → Option St} {cs : List Int} {mn pl wr mn2 pl2 wr2 : Int}
/-- the reference's cells behind a call of the class -/
theorem lw_r (hr : rpA G w (x + 215) t hs sl cs mn pl wr) {lo : Nat} {hi : Nat} (f : Fr lo hi w w1) (hhi : hi ≤ x + 215) : rpA G w1 (x + 215) t hs sl cs mn pl wr := hr.kpf fun q a b => f q (by omega)
theorem rp_m {hs2 : List St} (hr : rpA G w1 (x + 215) t hs sl cs mn pl wr) (b1 : muA G w2 (x + 215) 0 t2 hs2 cs.length mn2 pl2 wr2) (b2 : kpA G w2 (x + 215)) (k1 : w2 (x + 215 + 11) = w1 (x + 215 + 11)) (k2 : w2 (x + 215 + 14) = w1 (x + 215 + 14)) (k3 : ∀ q : Nat, x + 215 + 8 ≤ q → q < x + 215 + 11 → w2 q = w1 q) : rpA G w2 (x + 215) t2 hs2 sl cs mn2 pl2 wr2 := by
  obtain ⟨-, -, h3, ⟨f, h4⟩, h5⟩ := hr
  exact ⟨b1, b2, h3.kpf k1, ⟨f, k2.trans h4⟩, h5.kpf (k3 _ (by omega) (by omega)) (k3 _ (by omega) (by omega)) (k3 _ (by omega) (by omega))⟩
theorem rp_mm {hs2 : List St} (hr : rpA G w1 (x + 215) t hs sl cs mn pl wr) (b1 : muA G w2 (x + 215) 0 t2 hs2 cs.length mn2 pl2 wr2) (f : Fm (x + 215) w1 w2) : rpA G w2 (x + 215) t2 hs2 sl cs mn2 pl2 wr2 := rp_m hr b1 (Fm.kpA f hr.2.1) (f _ (by omega) (by omega) (by omega) (by omega) (by omega) (by omega) (by omega)) (f _ (by omega) (by omega) (by omega) (by omega) (by omega) (by omega) (by omega)) (fun q a b => f q (by omega) (by omega) (by omega) (by omega) (by omega) (by omega) (by omega))
theorem rp_mk {hs2 : List St} (hr : rpA G w1 (x + 215) t hs sl cs mn pl wr) (b1 : muA G w2 (x + 215) 0 t2 hs2 cs.length mn2 pl2 wr2) (b2 : kpA G w2 (x + 215)) (f : Fk (x + 215) w1 w2) : rpA G w2 (x + 215) t2 hs2 sl cs mn2 pl2 wr2 := rp_m hr b1 b2 (f _ (by omega) (by omega) (by omega) (by omega) (by omega) (by omega) (by omega) (by omega) (by omega)) (f _ (by omega) (by omega) (by omega) (by omega) (by omega) (by omega) (by omega) (by omega) (by omega)) (fun q a b => f q (by omega) (by omega) (by omega) (by omega) (by omega) (by omega) (by omega) (by omega) (by omega))
/-- the class's cells behind a call that changes its state -/
theorem cp_mu (hc : cpA G w z x (rS t) (hs.map rS) (slM sl) cs) {y : Int} (q1 : coA G w1 x (rS t2)) (q2 : hisA G w1 (x + 56) (hisN (hs.map rS) (rS t) y)) (f : Fr (x + 1) (x + 212) w w1) : cpA G w1 z x (rS t2) ((hisR 0 hs t y).map rS) (slM sl) cs := ⟨q1, by rw [← his_e]; exact q2, hc.2.2.1.kp f (by omega), hc.2.2.2.kp f (by omega)⟩
theorem cp_rd (hc : cpA G w z x (rS t) (hs.map rS) (slM sl) cs) (q1 : coA G w1 x (rS t)) (f : Fr (x + 1) (x + 56) w w1) : cpA G w1 z x (rS t) (hs.map rS) (slM sl) cs := ⟨q1, hc.2.1.kp f (by omega), hc.2.2.1.kp f (by omega), hc.2.2.2.kp f (by omega)⟩
theorem rp_h {hs : List St} {cs2 : List Int} {R : List Sg} {m : Nat} (hh2 : w2 m = some (hdV m hs.length cs2.length 0 R.length mn2 pl2 wr2)) (hn : nowA G w1 m t) (hm : hmA G w1 m hs) (hrw : rwA G w1 m R) (hkp : kpA G w1 m) (hsv : svA G w1 m sl) (hpd : pdA G w2 m cs2) (hen : enE G w2 m) (k : ∀ q : Nat, q ≠ m → q ≠ m + 11 → q ≠ m + 14 → w2 q = w1 q) : rpA G w2 m t hs sl cs2 mn2 pl2 wr2 :=
  ⟨⟨R, hh2, hn.kpf (k _ (by omega) (by omega) (by omega)) (k _ (by omega) (by omega) (by omega)), hm.kpf (k _ (by omega) (by omega) (by omega)) (k _ (by omega) (by omega) (by omega)), hrw.kpf (k _ (by omega) (by omega) (by omega)) (k _ (by omega) (by omega) (by omega))⟩, hkp.kpf (k _ (by omega) (by omega) (by omega)) (k _ (by omega) (by omega) (by omega)), hpd, hen, hsv.kpf (k _ (by omega) (by omega) (by omega)) (k _ (by omega) (by omega) (by omega)) (k _ (by omega) (by omega) (by omega))⟩
/-- together -/
theorem lw_in {hs2 : List St} {sl2 : Nat → Option St} {cs2 : List Int} {z2 : Nat} (h1 : cpA G w1 z2 x (rS t2) (hs2.map rS) (slM sl2) cs2) (f : Fr (x + 215) (x + 215 + 15) w1 w2) (h2 : rpA G w2 (x + 215) t2 hs2 sl2 cs2 mn pl wr) (g : gdA (5000 * ((c + 1 : Nat) : Int)) (1000000 * ((c + 1 : Nat) : Int)) t2 hs2 sl2) (hz : x + 230 ≤ z2) : lwI G w2 z2 x t2 hs2 sl2 cs2 (c + 1) := ⟨h1.kp (fun q a => f q (by omega)), ⟨_, _, _, h2⟩, g, hz⟩
theorem gd_up {D F : Int} {u : St} (g : gd D F u) (hD : D ≤ 5000 * (c : Int) + 5000) (hF : F ≤ 1000000 * (c : Int) + 1000000) : gd (5000 * ((c + 1 : Nat) : Int)) (1000000 * ((c + 1 : Nat) : Int)) u := g.mono (by omega) (by omega)
theorem gdA_up (h : gdA (5000 * (c : Int)) (1000000 * (c : Int)) t hs sl) : gdA (5000 * ((c + 1 : Nat) : Int)) (1000000 * ((c + 1 : Nat) : Int)) t hs sl := h.mono (by omega) (by omega)
end LW
/-! the answers' bounds -/
theorem iRk {v : Int} {s : St} (h : -10 ≤ v ∧ v ≤ 10) : iR (v, s).1 := ⟨by show -2147483648 ≤ v; omega, by show v ≤ 2147483647; omega⟩
theorem b_gv {D F : Int} {t : St} (h : gd D F t) (o f n : Int) : iR (gvF (rS t) o f n).1 := ⟨by have := gvF_r (s := rS t) (o := o) (f := f) (n := n); omega, by have := gvF_r (s := rS t) (o := o) (f := f) (n := n); omega⟩
theorem b_set {D F : Int} {t : St} (h : gd D F t) (i v : Int) : iR (setF (rS t) i v).1 := by
  obtain ⟨-, -, h0, h1, h2, h3, h4⟩ := gd_W h
  unfold setF
  split
  · split
    · exact iRk (by decide)
    · split
      · exact iRk (by decide)
      · show iR (t.set i)
        rcases (show i = 0 ∨ i = 1 ∨ i = 2 ∨ i = 3 ∨ i = 4 by omega) with rfl | rfl | rfl | rfl | rfl <;> exact ⟨by omega, by omega⟩
  · exact iRk (by decide)
theorem b_own {D F : Int} {t : St} (h : gd D F t) (v : Int) : iR (ownF (rS t) v).1 := by
  obtain ⟨h1, h2, -⟩ := gd_W h
  unfold ownF
  split
  · split
    · exact iRk (by decide)
    · exact ⟨show -2147483648 ≤ t.own by omega, show t.own ≤ 2147483647 by omega⟩
  · exact iRk (by decide)
theorem b_pay (t : St) (o v : Int) : iR (payF t o v).1 := by
  unfold payF
  split
  · split
    · show iR (if t.mon o + jJ v < jJ 0 then 0 else 1)
      split <;> exact ⟨by decide, by decide⟩
    · exact iRk (by decide)
  · exact iRk (by decide)
theorem b_fr (t : St) (f n : Int) : iR (frF t f n).1 := by
  unfold frF
  split
  · split
    · next c => exact ⟨show -2147483648 ≤ (((becF t.L (-6) f n).length : Nat) : Int) by omega, show (((becF t.L (-6) f n).length : Nat) : Int) ≤ 2147483647 by omega⟩
    · exact iRk (by decide)
  · exact iRk (by decide)
theorem b_gr {t : St} (hL : strW t.L) (o n : Int) : iR (grF t o n).1 := by
  have hgp := gapP_b hL (gfrF t.L n 0).toNat
  have hgr := gvF_r (s := t) (o := o) (f := gapP t.L (gfrF t.L n 0).toNat) (n := n)
  unfold grF
  split
  · split
    · split
      · exact iRk (by decide)
      · split
        · exact ⟨show -2147483648 ≤ (gvF t o (gapP t.L (gfrF t.L n 0).toNat) n).1 by omega, show (gvF t o (gapP t.L (gfrF t.L n 0).toNat) n).1 ≤ 2147483647 by omega⟩
        · exact ⟨show -2147483648 ≤ gapP t.L (gfrF t.L n 0).toNat by omega, show gapP t.L (gfrF t.L n 0).toNat ≤ 2147483647 by omega⟩
    · exact iRk (by decide)
  · exact iRk (by decide)
theorem b_in {D F : Int} {t : St} (h : gd D F t) (o q : Int) : iR (inF (rS t) o q).1 := by
  unfold inF
  split
  · next c =>
    have e : mtsO (rngS t.L) o = mtsO t.L o := (cnt_rng o c.1.1 t.L).2
    have m1 := mts_0 (o := o) (gd_L h).2.1
    have m2 := mts_le (o := o) t.L 0 (gd_L h).2.1
    split
    · show iR (mtsO (rngS t.L) o)
      rw [e]; exact ⟨by omega, by omega⟩
    · exact iRk (by decide)
  · exact iRk (by decide)
theorem b_tr (t : St) (a b f n p : Int) : iR (trF t a b f n p).1 := by
  unfold trF
  split
  · split
    · split
      · next c => exact ⟨show -2147483648 ≤ (t.D.length : Int) + 1 by omega, show (t.D.length : Int) + 1 ≤ 2147483647 by omega⟩
      · exact iRk (by decide)
    · exact iRk (by decide)
  · exact iRk (by decide)
theorem b_dr {D F : Int} {t : St} (h : gd D F t) : iR (drF (rS t)).1 := by
  have := (gd_D h).1
  unfold drF
  split
  · exact iRk (by decide)
  · exact ⟨show -2147483648 ≤ (t.D.length : Int) - 1 by omega, show (t.D.length : Int) - 1 ≤ 2147483647 by omega⟩
theorem b_cl {D F : Int} {t : St} (h : gd D F t) : iR (clF (rS t)).1 := by
  have := (gd_D h).1
  rw [(e_cl h).1]
  unfold clR
  split
  · exact iRk (v := -5) (s := t) (by decide)
  · exact ⟨show -2147483648 ≤ (t.D.length : Int) by omega, show (t.D.length : Int) ≤ 2147483647 by omega⟩
theorem b_da {D F : Int} {t : St} (h : gd D F t) (hD : D ≤ 2000000000) (d : Int) : iR (daF (rS t) d).1 := by
  have g := gd_d (gd_da h d)
  rw [e_da (gd_L h)]
  unfold daR at g ⊢
  split
  · next c =>
    rw [if_pos c] at g
    have g : 0 ≤ (dnR t d.toNat).day ∧ (dnR t d.toNat).day ≤ D + 60 := g
    exact ⟨show -2147483648 ≤ (dnR t d.toNat).day by omega, show (dnR t d.toNat).day ≤ 2147483647 by omega⟩
  · exact iRk (v := -2) (s := t) (by decide)
theorem b_cb {D F : Int} {t : St} {hs : List St} {sl : Nat → Option St} (h : gdA D F t hs sl) (hD : D ≤ 2000000000) (i : Int) : iR (cbF (rS t) (slM sl) i).1 := by
  rw [e_cb]
  unfold cbF
  split
  · next c =>
    cases e : sl i.toNat with
    | none => exact iRk (v := -5) (s := t) (by decide)
    | some u =>
      have g := gd_d (h.2.2 i.toNat u (by omega) e)
      exact ⟨show -2147483648 ≤ u.day by omega, show u.day ≤ 2147483647 by omega⟩
  · exact iRk (v := -2) (s := t) (by decide)
theorem gd_cb {D F : Int} {t : St} {hs : List St} {sl : Nat → Option St} (h : gdA D F t hs sl) (i : Int) : gd D F (cbF t sl i).2 := by
  unfold cbF
  split
  · next c =>
    cases e : sl i.toNat with
    | none => exact h.1
    | some u => exact h.2.2 i.toNat u (by omega) e
  · exact h.1
section XR
variable {own : String} {cc : ByteArray} {nL : Nat} {R : Room} {l : Launch} {G : xG} {ct : Bool} {P : xT} {pc : Nat} {ls : List (Option Value)} {st : List Value} {w : Wd} {a : Nat × Nat × Nat}
/-- both answers are the same -/
theorem x_same (h : xM own cc nL R l G ct P) {x y : Int} {off : Int} {tgt : Nat} (e : x = y) (d : decode cc pc = .ok (.if_icmp .eq off, 3)) (ht : (pc : Int) + off = (tgt : Int)) (kt : P tgt ls st w a) : P pc ls (.int (iI y) :: .int (iI x) :: st) w a := by
  subst e
  obtain ⟨p, e, s, m, args, below, meth, c, Q, ⟨hx, hb, hml, hown, hts⟩, hK, hct, rfl⟩ := h
  intro H locs lsA h1 h2 h3 h4 h5
  exact lv_icmp_eq hx hb d ht (fun _ => kt H locs lsA h1 h2 h3 h4 h5) (fun q => absurd rfl q)
end XR
