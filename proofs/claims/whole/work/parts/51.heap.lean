/-! THE MODEL'S HEAP SORT: pure part. -/
def zud (f : Nat → Int) (i : Nat) (v : Int) : Nat → Int := fun j => if j = i then v else f j
/-- how many of the first c have p -/
def zcq (p : Int → Bool) (f : Nat → Int) : Nat → Nat
  | 0 => 0
  | c + 1 => zcq p f c + (if p (f c) = true then 1 else 0)
theorem zcq_congr {p : Int → Bool} {f g : Nat → Int} : ∀ c, (∀ j, j < c → f j = g j) → zcq p f c = zcq p g c
  | 0, _ => rfl
  | c + 1, h => by
    show zcq p f c + _ = zcq p g c + _
    rw [zcq_congr c (fun j hj => h j (by omega)), h c (by omega)]
theorem zcq_ud {p : Int → Bool} {f : Nat → Int} {i : Nat} {v : Int} : ∀ c, i < c → zcq p (zud f i v) c + (if p (f i) = true then 1 else 0) = zcq p f c + (if p v = true then 1 else 0)
  | 0, h => absurd h (Nat.not_lt_zero i)
  | c + 1, h => by
    show zcq p (zud f i v) c + (if p (zud f i v c) = true then 1 else 0) + _ = zcq p f c + (if p (f c) = true then 1 else 0) + _
    by_cases e : i = c
    · subst e
      rw [show zud f i v i = v from if_pos rfl, zcq_congr (f := zud f i v) (g := f) i (fun j hj => if_neg (by omega))]
      omega
    · rw [show zud f i v c = f c from if_neg (by omega)]
      have := zcq_ud (p := p) (f := f) (i := i) (v := v) c (by omega)
      omega
theorem zcq_0 {p : Int → Bool} {f : Nat → Int} : ∀ c, (∀ j, j < c → p (f j) = false) → zcq p f c = 0
  | 0, _ => rfl
  | c + 1, h => by
    show zcq p f c + _ = 0
    rw [zcq_0 c (fun j hj => h j (by omega)), h c (by omega)]
    rfl
theorem zcq_0' {p : Int → Bool} {f : Nat → Int} : ∀ c, zcq p f c = 0 → ∀ j, j < c → p (f j) = false
  | 0, _, j, hj => absurd hj (Nat.not_lt_zero j)
  | c + 1, h, j, hj => by
    have h : zcq p f c + (if p (f c) = true then 1 else 0) = 0 := h
    by_cases e : j = c
    · subst e
      cases hp : p (f j) with
      | false => rfl
      | true => rw [hp, if_pos rfl] at h; omega
    · exact zcq_0' c (by omega) j (by omega)
theorem zcq_ex {p : Int → Bool} {f : Nat → Int} (c : Nat) (h : 0 < zcq p f c) : ∃ j, j < c ∧ p (f j) = true := Decidable.byContradiction fun q => by
  rw [zcq_0 c (fun j hj => by
    cases hp : p (f j) with
    | false => rfl
    | true => exact absurd ⟨j, hj, hp⟩ q)] at h
  omega
theorem zcq_pos {p : Int → Bool} {f : Nat → Int} {c j : Nat} (hj : j < c) (h : p (f j) = true) : 0 < zcq p f c := by
  rcases Nat.eq_zero_or_pos (zcq p f c) with q | q
  · rw [zcq_0' c q j hj] at h; cases h
  · exact q
/-- sorted, each once: as many are below the r-th as stand ahead of it -/
theorem zcq_lt {f : Nat → Int} {r : Nat} : ∀ c, (∀ i, i < c → (f i < f r ↔ i < r)) → zcq (fun x => decide (x < f r)) f c = min c r
  | 0, _ => by show 0 = _; omega
  | c + 1, h => by
    show zcq _ f c + (if decide (f c < f r) = true then 1 else 0) = _
    rw [zcq_lt c (fun i hi => h i (by omega))]
    have hc := h c (by omega)
    by_cases q : f c < f r
    · rw [if_pos (decide_eq_true q)]
      have := hc.mp q
      omega
    · rw [if_neg (by rw [decide_eq_true_eq]; exact q)]
      have : ¬ c < r := fun z => q (hc.mpr z)
      omega
/-- each once: at most one has a value -/
theorem zcq_one {f : Nat → Int} {x : Int} : ∀ c, (∀ i j, i < c → j < c → f i = f j → i = j) → zcq (fun y => decide (y = x)) f c ≤ 1
  | 0, _ => by show 0 ≤ 1; omega
  | c + 1, h => by
    show zcq _ f c + (if decide (f c = x) = true then 1 else 0) ≤ 1
    have ih := zcq_one (f := f) (x := x) c (fun i j hi hj e => h i j (by omega) (by omega) e)
    by_cases q : f c = x
    · rw [zcq_0 (p := fun y => decide (y = x)) c (fun j hj => decide_eq_false (fun z => by
        have := h j c (by omega) (by omega) (z.trans q.symm)
        omega))]
      split <;> omega
    · rw [if_neg (by rw [decide_eq_true_eq]; exact q)]
      omega
theorem zcq_two {f : Nat → Int} {x : Int} {i j : Nat} (hij : i < j) (hi : f i = x) (hj : f j = x) : ∀ c, j < c → 2 ≤ zcq (fun y => decide (y = x)) f c
  | 0, h => absurd h (Nat.not_lt_zero j)
  | c + 1, h => by
    show 2 ≤ zcq _ f c + (if decide (f c = x) = true then 1 else 0)
    by_cases e : j = c
    · subst e
      rw [if_pos (decide_eq_true hj)]
      have := zcq_pos (p := fun y => decide (y = x)) (f := f) (c := j) hij (decide_eq_true hi)
      omega
    · have := zcq_two hij hi hj c (by omega)
      omega
/-- c is a child of i -/
def zcd (i c : Nat) : Prop := c = 2 * i + 1 ∨ c = 2 * i + 2
/-- a heap from k on, below e -/
def zhp (f : Nat → Int) (k e : Nat) : Prop := ∀ i c, k ≤ i → zcd i c → c < e → f c ≤ f i
theorem zhp_max {f : Nat → Int} {e : Nat} (h : zhp f 0 e) : ∀ j, j < e → f j ≤ f 0
  | 0, _ => Int.le_refl _
  | j + 1, hj => by
    have h1 := h (j / 2) (j + 1) (by omega) (by unfold zcd; omega) hj
    have h2 := zhp_max h (j / 2) (by omega)
    omega
/-- one step of sinking keeps what a heap with a hole has -/
theorem zhole_step {f : Nat → Int} {it : Int} {k e at' ch : Nat} (hk : k ≤ at') (hc : zcd at' ch) (hce : ch < e)
    (hbig : ∀ c, zcd at' c → c < e → f c ≤ f ch) (hit : it < f ch)
    (H1 : ∀ i c, k ≤ i → i ≠ at' → zcd i c → c < e → zud f at' it c ≤ zud f at' it i)
    (H2 : ∀ i c, k ≤ i → zcd i at' → zcd at' c → c < e → zud f at' it c ≤ zud f at' it i) :
    (∀ i c, k ≤ i → i ≠ ch → zcd i c → c < e → zud (zud f at' (f ch)) ch it c ≤ zud (zud f at' (f ch)) ch it i) ∧
    (∀ i c, k ≤ i → zcd i ch → zcd ch c → c < e → zud (zud f at' (f ch)) ch it c ≤ zud (zud f at' (f ch)) ch it i) := by
  have hne : ch ≠ at' := by unfold zcd at hc; omega
  have g1 : zud (zud f at' (f ch)) ch it at' = f ch := by unfold zud; rw [if_neg (by omega), if_pos rfl]
  have g2 : zud (zud f at' (f ch)) ch it ch = it := by unfold zud; rw [if_pos rfl]
  have g3 : ∀ j, j ≠ ch → j ≠ at' → zud (zud f at' (f ch)) ch it j = f j := fun j h1 h2 => by unfold zud; rw [if_neg h1, if_neg h2]
  have o1 : zud f at' it at' = it := if_pos rfl
  have o2 : ∀ j, j ≠ at' → zud f at' it j = f j := fun j h => if_neg h
  constructor
  · intro i c hi hne2 hcd hcl
    by_cases e1 : i = at'
    · subst e1
      rw [g1]
      by_cases e2 : c = ch
      · subst e2; rw [g2]; omega
      · rw [g3 c e2 (by unfold zcd at hcd; omega)]
        exact hbig c hcd hcl
    · rw [g3 i hne2 e1]
      have h1 := H1 i c hi e1 hcd hcl
      rw [o2 i e1] at h1
      by_cases e2 : c = at'
      · subst e2
        rw [g1]
        have h2 := H2 i ch hi hcd hc hce
        rw [o2 ch hne, o2 i e1] at h2
        exact h2
      · by_cases e3 : c = ch
        · exact absurd (show i = at' by subst e3; unfold zcd at hcd hc; omega) e1
        · rw [g3 c e3 e2]
          rw [o2 c e2] at h1
          exact h1
  · intro i c hi hcd1 hcd2 hcl
    have ei : i = at' := by unfold zcd at hcd1 hc; omega
    subst ei
    rw [g1]
    have e2 : c ≠ ch := by unfold zcd at hcd2; omega
    have e3 : c ≠ i := by unfold zcd at hcd2 hc; omega
    rw [g3 c e2 e3]
    have h1 := H1 ch c (by unfold zcd at hc; omega) hne hcd2 hcl
    rw [o2 c e3, o2 ch hne] at h1
    exact h1
theorem zhole_cnt {p : Int → Bool} {f : Nat → Int} {it : Int} {at' ch c : Nat} (hne : ch ≠ at') (h1 : at' < c) (h2 : ch < c) : zcq p (zud (zud f at' (f ch)) ch it) c = zcq p (zud f at' it) c := by
  have a := zcq_ud (p := p) (f := zud f at' (f ch)) (i := ch) (v := it) c h2
  have b := zcq_ud (p := p) (f := f) (i := at') (v := f ch) c h1
  have d := zcq_ud (p := p) (f := f) (i := at') (v := it) c h1
  rw [show zud f at' (f ch) ch = f ch from if_neg hne] at a
  omega
theorem zswap_cnt {p : Int → Bool} {f : Nat → Int} {i j c : Nat} (hne : i ≠ j) (h1 : i < c) (h2 : j < c) : zcq p (zud (zud f i (f j)) j (f i)) c = zcq p f c := by
  have a := zcq_ud (p := p) (f := zud f i (f j)) (i := j) (v := f i) c h2
  have b := zcq_ud (p := p) (f := f) (i := i) (v := f j) c h1
  rw [show zud f i (f j) j = f j from if_neg (fun q => hne q.symm)] at a
  omega
