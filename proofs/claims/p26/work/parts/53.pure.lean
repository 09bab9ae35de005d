/-! WHAT IS LEFT OF PARTS 42 TO 53 OF whole: pure rows on keys and lists. -/
section P46
theorem zsum_b {f : Nat → Nat → Int} {n : Nat} (hb : ∀ h w, h ≤ n → 1 ≤ w → w ≤ n → -8000 ≤ f h w ∧ f h w ≤ 8000) : ∀ (v : List Nat) (w : Nat), (∀ x ∈ v, x ≤ n) → 1 ≤ w → w + v.length ≤ n + 1 → -8000 * (v.length : Int) ≤ zsum f w v ∧ zsum f w v ≤ 8000 * (v.length : Int)
  | [], _, _, _, _ => by simp [zsum]
  | h :: t, w, hv, h1, hw => by
    have hl : (h :: t).length = t.length + 1 := rfl
    rw [hl] at hw ⊢
    have ih := zsum_b hb t (w + 1) (fun x hx => hv x (List.mem_cons_of_mem _ hx)) (by omega) (by omega)
    have h2 := hb h w (hv h List.mem_cons_self) h1 (by omega)
    show -8000 * ((t.length + 1 : Nat) : Int) ≤ f h w + zsum f (w + 1) t ∧ f h w + zsum f (w + 1) t ≤ 8000 * ((t.length + 1 : Nat) : Int)
    omega
theorem zkc_zkC {sc : Nat → Nat → Int} {v : List Nat} (hl : v.length ≤ 6) : zkc sc v = zkC (zsum sc 1 v) v := by
  unfold zkc zkC zc7
  have h := zsum_key sc v 1 (by omega) (Nat.le_refl 1)
  rw [show 7 - 1 - v.length = 6 - v.length by omega] at h
  exact h
end P46
section P50
/-! WALKS AS A WHOLE; FINDS. -/
theorem zgokL {α : Type} {K len : Nat → Nat} {a t n m : Nat} {i : Int32} (hi : i = nI n) (hK : K a = t) (hl : len a = m) (h : n < m) (hm : m < 2147483648) (x : Option α) : zg (zok K len a t i) x = x := by
  subst hi
  exact zgok hK hl h hm x
theorem zcl0 : (0 : Int32).toNatClampNeg = 0 := by decide
theorem zcl1 : (1 : Int32).toNatClampNeg = 1 := by decide
variable {N k s n : Nat} {sw : Bool} {kd : Nat → Nat} {mk : Nat → Nat → Int32} {wt : Nat → Int} {M : ZM}
end P50
section P51
/-- how many of the first c have p -/
def zcq (p : Int → Bool) (f : Nat → Int) : Nat → Nat
  | 0 => 0
  | c + 1 => zcq p f c + (if p (f c) = true then 1 else 0)
theorem zcq_congr {p : Int → Bool} {f g : Nat → Int} : ∀ c, (∀ j, j < c → f j = g j) → zcq p f c = zcq p g c
  | 0, _ => rfl
  | c + 1, h => by
    show zcq p f c + _ = zcq p g c + _
    rw [zcq_congr c (fun j hj => h j (by omega)), h c (by omega)]
theorem zcq_0 {p : Int → Bool} {f : Nat → Int} : ∀ c, (∀ j, j < c → p (f j) = false) → zcq p f c = 0
  | 0, _ => rfl
  | c + 1, h => by
    show zcq p f c + _ = 0
    rw [zcq_0 c (fun j hj => h j (by omega)), h c (by omega)]
    rfl
theorem zcq_0' {p : Int → Bool} {f : Nat → Int} : ∀ c, zcq p f c = 0 → ∀ j, j < c → p (f j) = false
  | 0, _, j, hj => absurd hj (Nat.not_lt_zero j)
  | c + 1, h, j, hj => by
    have h : zcq p f c + (if p (f c) = true then 1 else 0) = 0 := h
    by_cases e : j = c
    · subst e
      cases hp : p (f j) with
      | false => rfl
      | true => rw [hp, if_pos rfl] at h; omega
    · exact zcq_0' c (by omega) j (by omega)
theorem zcq_ex {p : Int → Bool} {f : Nat → Int} (c : Nat) (h : 0 < zcq p f c) : ∃ j, j < c ∧ p (f j) = true := Decidable.byContradiction fun q => by
  rw [zcq_0 c (fun j hj => by
    cases hp : p (f j) with
    | false => rfl
    | true => exact absurd ⟨j, hj, hp⟩ q)] at h
  omega
theorem zcq_pos {p : Int → Bool} {f : Nat → Int} {c j : Nat} (hj : j < c) (h : p (f j) = true) : 0 < zcq p f c := by
  rcases Nat.eq_zero_or_pos (zcq p f c) with q | q
  · rw [zcq_0' c q j hj] at h; cases h
  · exact q
/-- sorted, each once: as many are below the r-th as stand ahead of it -/
theorem zcq_lt {f : Nat → Int} {r : Nat} : ∀ c, (∀ i, i < c → (f i < f r ↔ i < r)) → zcq (fun x => decide (x < f r)) f c = min c r
  | 0, _ => by show 0 = _; omega
  | c + 1, h => by
    show zcq _ f c + (if decide (f c < f r) = true then 1 else 0) = _
    rw [zcq_lt c (fun i hi => h i (by omega))]
    have hc := h c (by omega)
    by_cases q : f c < f r
    · rw [if_pos (decide_eq_true q)]
      have := hc.mp q
      omega
    · rw [if_neg (by rw [decide_eq_true_eq]; exact q)]
      have : ¬ c < r := fun z => q (hc.mpr z)
      omega
/-- each once: at most one has a value -/
theorem zcq_one {f : Nat → Int} {x : Int} : ∀ c, (∀ i j, i < c → j < c → f i = f j → i = j) → zcq (fun y => decide (y = x)) f c ≤ 1
  | 0, _ => by show 0 ≤ 1; omega
  | c + 1, h => by
    show zcq _ f c + (if decide (f c = x) = true then 1 else 0) ≤ 1
    have ih := zcq_one (f := f) (x := x) c (fun i j hi hj e => h i j (by omega) (by omega) e)
    by_cases q : f c = x
    · rw [zcq_0 (p := fun y => decide (y = x)) c (fun j hj => decide_eq_false (fun z => by
        have := h j c (by omega) (by omega) (z.trans q.symm)
        omega))]
      split <;> omega
    · rw [if_neg (by rw [decide_eq_true_eq]; exact q)]
      omega
end P51
section P53
/-! LISTS, SCOREIN, HEADIN of the model. -/
def zmk (wt : Nat → Int) (kd : Nat → Nat) (v : List Nat) : Int := zkM (zsum (zsc wt kd) 1 v) v
variable {N k s n : Nat} {sw : Bool} {kd : Nat → Nat} {mk : Nat → Nat → Int32} {wt : Nat → Int} {M : ZM}
theorem zT_at {cr : Bool} {j : Nat} (hj : j < (zT n (zal mk n) cr).length) : (zT n (zal mk n) cr).getD j [] ∈ zT n (zal mk n) cr := by
  rw [List.getD_eq_getElem?_getD, List.getElem?_eq_getElem hj]
  exact List.getElem_mem _
theorem zT_sum (h6 : n ≤ 6) (hsc : ∀ h w, h ≤ n → 1 ≤ w → w ≤ n → -8000 ≤ zsc wt kd h w ∧ zsc wt kd h w ≤ 8000) {cr : Bool} {v : List Nat} (hv : v ∈ zT n (zal mk n) cr) : v.length = n ∧ (∀ x ∈ v, x ≤ n) ∧ -48000 ≤ zsum (zsc wt kd) 1 v ∧ zsum (zsc wt kd) 1 v ≤ 48000 := by
  obtain ⟨hl, hx⟩ := zt_all hv
  have hb := zsum_b hsc v 1 hx (by omega) (by omega)
  exact ⟨hl, hx, by omega, by omega⟩
theorem zmk_inj (h6 : n ≤ 6) {cr : Bool} {u v : List Nat} (hu : u ∈ zT n (zal mk n) cr) (hv : v ∈ zT n (zal mk n) cr) (e : zmk wt kd u = zmk wt kd v) : u = v := by
  obtain ⟨hl, hx⟩ := zt_all hu
  obtain ⟨hl2, hx2⟩ := zt_all hv
  exact (zkM_inj (by omega) (by omega) (fun h hh => by have := hx h hh; omega) (fun h hh => by have := hx2 h hh; omega) e).2
theorem zT_getD_inj {cr : Bool} {i j : Nat} (hi : i < (zT n (zal mk n) cr).length) (hj : j < (zT n (zal mk n) cr).length) (e : (zT n (zal mk n) cr).getD i [] = (zT n (zal mk n) cr).getD j []) : i = j := by
  have hnd : (zT n (zal mk n) cr).Pairwise (fun a b => a ≠ b) := zt_nodup n []
  rw [List.pairwise_iff_getElem] at hnd
  rw [List.getD_eq_getElem?_getD, List.getD_eq_getElem?_getD, List.getElem?_eq_getElem hi, List.getElem?_eq_getElem hj] at e
  have e : (zT n (zal mk n) cr)[i] = (zT n (zal mk n) cr)[j] := e
  rcases Nat.lt_trichotomy i j with h | h | h
  · exact absurd e (hnd i j hi hj h)
  · exact h
  · exact absurd e.symm (hnd j i hj hi h)
end P53
