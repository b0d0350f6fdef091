/-! Street: exchange -/
def gO (L : List Sg) (i : Nat) : Int := match L[i]? with
  | some s => s.1
  | none => -6
def gA_ (L : List Sg) (i : Nat) : Int := match L[i]? with
  | some s => s.2.1
  | none => 0
def gB_ (L : List Sg) (i : Nat) : Int := match L[i]? with
  | some s => s.2.2
  | none => 0
theorem gO_at {L : List Sg} {i : Nat} (h : i < L.length) : gO L i = L[i].1 ∧ gA_ L i = L[i].2.1 ∧ gB_ L i = L[i].2.2 := by
  unfold gO gA_ gB_
  rw [List.getElem?_eq_getElem h]
  exact ⟨rfl, rfl, rfl⟩
def hafF (L : List Sg) (r f s : Nat) : Int := if r = f then gO L s else if r = s then gO L f else gO L r
def jatF (L : List Sg) (r : Int) (f s : Nat) : Int := if 0 ≤ r ∧ r + 1 < L.length ∧ gB_ L r.toNat = gA_ L (r.toNat + 1) ∧ hafF L r.toNat f s = hafF L (r.toNat + 1) f s then 1 else 0
theorem jat_b (L : List Sg) (r : Int) (f s : Nat) : 0 ≤ jatF L r f s ∧ jatF L r f s ≤ 1 := by unfold jatF; split <;> omega
theorem haf_b {L : List Sg} (h : strW L) (r f s : Nat) : -6 ≤ hafF L r f s ∧ hafF L r f s < 10 := by
  have k : ∀ i : Nat, -6 ≤ gO L i ∧ gO L i < 10 := by
    intro i
    unfold gO
    cases h1 : L[i]? with
    | none => simp
    | some x =>
      have := h.2 x (List.mem_of_getElem? h1)
      simp only
      omega
  unfold hafF
  have k1 := k r
  have k2 := k f
  have k3 := k s
  omega
def jnsF (L : List Sg) (f s : Nat) : Int := if gO L f = gO L s then 0 else jatF L ((f : Int) - 1) f s + jatF L f f s + jatF L ((s : Int) - 1) f s + jatF L s f s
theorem jns_b (L : List Sg) (f s : Nat) : 0 ≤ jnsF L f s ∧ jnsF L f s ≤ 4 := by
  have := jat_b L ((f : Int) - 1) f s
  have := jat_b L f f s
  have := jat_b L ((s : Int) - 1) f s
  have := jat_b L s f s
  unfold jnsF
  split <;> omega
def exS (L : List Sg) (i : Nat) (c : Int × Int × Int) (j : Nat) : Int × Int × Int := if c.2.2 < (if gB_ L i - gA_ L i = gB_ L j - gA_ L j then jnsF L i j else 0) then ((i : Int), (j : Int), (if gB_ L i - gA_ L i = gB_ L j - gA_ L j then jnsF L i j else 0)) else c
def exI (L : List Sg) (c : Int × Int × Int) (i : Nat) : Int × Int × Int := ((List.range L.length).drop (i + 1)).foldl (exS L i) c
def exF (L : List Sg) : Int × Int × Int := (List.range L.length).foldl (exI L) (-6, -6, 0)
def exW (L : List Sg) (h : Int) : Int := if h = 0 ∨ (exF L).1 = -6 then (exF L).1 else if h = 1 then (exF L).2.1 else L.length - (exF L).2.2
theorem range_drop {β : Type} (f : β → Nat → β) {n i : Nat} (h : i < n) (c : β) : ((List.range n).drop i).foldl f c = ((List.range n).drop (i + 1)).foldl f (f c i) := by
  rw [drop_fold f _ (by rw [List.length_range]; exact h), List.getElem_range]
theorem range_dropE {β : Type} (f : β → Nat → β) {n i : Nat} (h : n ≤ i) (c : β) : ((List.range n).drop i).foldl f c = c := by
  rw [List.drop_of_length_le (by rw [List.length_range]; exact h)]; rfl
