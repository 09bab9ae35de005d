/-! HEADS WITHOUT CIRCLES, by rank. -/
def zrk (v : List Nat) : Prop := ∃ r : Nat → Nat, ∀ i, 1 ≤ i → i ≤ v.length → r (zhd v i) < r i
/-- up from a place, however long -/
def zup1 (v : List Nat) (p : Nat) : Nat := if 0 < p ∧ p ≤ v.length then zhd v p else p
def zit (v : List Nat) : Nat → Nat → Nat
  | 0, p => p
  | k + 1, p => zit v k (zup1 v p)
theorem zch_it (v : List Nat) : ∀ (k p : Nat), zch v k p = zit v k p
  | 0, _ => rfl
  | k + 1, p => by
    show (if 0 < p ∧ p ≤ v.length then zch v k (zhd v p) else p) = zit v k (zup1 v p)
    by_cases h : 0 < p ∧ p ≤ v.length
    · rw [if_pos h, zch_it v k, show zup1 v p = zhd v p from if_pos h]
    · rw [if_neg h, show zup1 v p = p from if_neg h]
      have stay : ∀ j, zit v j p = p := by
        intro j
        induction j with
        | zero => rfl
        | succ j ih => show zit v j (zup1 v p) = p; rw [show zup1 v p = p from if_neg h]; exact ih
      exact (stay k).symm
theorem zit_succ (v : List Nat) : ∀ (k p : Nat), zit v (k + 1) p = zup1 v (zit v k p)
  | 0, _ => rfl
  | k + 1, p => zit_succ v k (zup1 v p)
/-- with ranks, the way up leaves the words in as many steps as there are -/
theorem zit_out {v : List Nat} (h : zrk v) (p : Nat) : ∀ k, v.length ≤ k → ¬ (0 < zit v k p ∧ zit v k p ≤ v.length) := by
  obtain ⟨r, hr⟩ := h
  have out_stays : ∀ k, ¬ (0 < zit v k p ∧ zit v k p ≤ v.length) → ¬ (0 < zit v (k + 1) p ∧ zit v (k + 1) p ≤ v.length) := by
    intro k hk
    rw [zit_succ, show zup1 v (zit v k p) = zit v k p from if_neg hk]
    exact hk
  have ins : ∀ k, (0 < zit v k p ∧ zit v k p ≤ v.length) → ∀ i, i ≤ k → (0 < zit v i p ∧ zit v i p ≤ v.length) := by
    intro k
    induction k with
    | zero => intro hk i hi; rw [show i = 0 by omega]; exact hk
    | succ k ih =>
      intro hk i hi
      have hk' : 0 < zit v k p ∧ zit v k p ≤ v.length := Decidable.byContradiction (fun q => out_stays k q hk)
      by_cases e : i = k + 1
      · rw [e]; exact hk
      · exact ih hk' i (by omega)
  intro k hk hin
  have hall := ins k hin
  have hdec : ∀ i j, i < j → j ≤ k → r (zit v j p) < r (zit v i p) := by
    intro i j hij
    induction j with
    | zero => omega
    | succ j ih =>
      intro hj
      have h1 := hall j (by omega)
      have h2 : r (zit v (j + 1) p) < r (zit v j p) := by
        rw [zit_succ, show zup1 v (zit v j p) = zhd v (zit v j p) from if_pos h1]
        exact hr _ h1.1 h1.2
      by_cases e : i = j
      · rw [e]; exact h2
      · exact Nat.lt_trans h2 (ih (by omega) (by omega))
  obtain ⟨i, j, h1, h2, h3⟩ := zpig v.length (fun i => zit v i p) (fun i hi => ⟨(hall i (by omega)).1, (hall i (by omega)).2⟩)
  have := hdec i j h1 (by omega)
  have h3 : zit v i p = zit v j p := h3
  rw [h3] at this
  exact Nat.lt_irrefl _ this
theorem zrk_nil : zrk [] := ⟨fun _ => 0, fun i h1 h2 => by simp at h2; omega⟩
/-- a head whose way up doesn't come to the new word -/
theorem zrk_app {v : List Nat} {h : Nat} (hl : v.length ≤ 6) (hv : zrk v) (hne : zch v 7 h ≠ v.length + 1) : zrk (v ++ [h]) := by
  have hout := zit_out hv
  obtain ⟨r, hr⟩ := hv
  rw [zch_it] at hne
  -- whose way up comes to the new word
  have step : ∀ i, 1 ≤ i → i ≤ v.length → zit v 7 (zhd v i) = zit v 7 i := by
    intro i h1 h2
    have e : zit v 7 (zhd v i) = zit v 8 i := by
      show zit v 7 (zhd v i) = zit v 7 (zup1 v i)
      rw [show zup1 v i = zhd v i from if_pos ⟨by omega, h2⟩]
    rw [e, zit_succ, show zup1 v (zit v 7 i) = zit v 7 i from if_neg (hout i 7 (by omega))]
  have self : zit v 7 (v.length + 1) = v.length + 1 := by
    rw [← zch_it]
    exact if_neg (by omega)
  refine ⟨fun u => if zit v 7 u = v.length + 1 then r u + r h + 1 else r u, fun i h1 h2 => ?_⟩
  rw [List.length_append] at h2
  by_cases e : i = v.length + 1
  · subst e
    show (if zit v 7 (zhd (v ++ [h]) (v.length + 1)) = v.length + 1 then _ else _) < (if zit v 7 (v.length + 1) = v.length + 1 then _ else _)
    rw [zhd_last, if_neg hne, if_pos self]
    omega
  · have h3 : i ≤ v.length := by have : [h].length = 1 := rfl; omega
    show (if zit v 7 (zhd (v ++ [h]) i) = v.length + 1 then r (zhd (v ++ [h]) i) + r h + 1 else r (zhd (v ++ [h]) i)) < (if zit v 7 i = v.length + 1 then r i + r h + 1 else r i)
    rw [zhd_app h1 h3, step i h1 h3]
    have := hr i h1 h3
    by_cases c : zit v 7 i = v.length + 1
    · rw [if_pos c, if_pos c]; omega
    · rw [if_neg c, if_neg c]; exact this
