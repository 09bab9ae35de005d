/-! OFRANK: the least key with at most rank keys above it. -/
/-- how many of c keys are above z -/
def zcn (g : Nat → Int) (c : Nat) (z : Int) : Nat := (List.range' 0 c).countP (fun j => decide (z < g j))
theorem zcn_all {g : Nat → Int} {c : Nat} {z : Int} (h : ∀ j, j < c → z < g j) : zcn g c z = c := by
  unfold zcn
  rw [List.countP_eq_length.mpr (fun j hj => by
    rw [List.mem_range'_1] at hj
    exact decide_eq_true (h j (by omega))), List.length_range']
theorem zcn_none {g : Nat → Int} {c : Nat} {z : Int} (h : ∀ j, j < c → g j ≤ z) : zcn g c z = 0 := by
  unfold zcn
  rw [List.countP_eq_zero.mpr (fun j hj => by
    rw [List.mem_range'_1] at hj
    have := h j (by omega)
    rw [decide_eq_true_eq]
    omega)]
section SR
variable {N k c : Nat} {sw : Bool} {M : ZM} {g : Nat → Int}
theorem s_countAbove (hN : 10000000 ≤ N) (hR : zRf sw k (zR M)) (hc : zI M 109 2 = nI c) (hcap : c ≤ 16807) (hg : ∀ j, j < c → zJ M 110 j = lI (g j) ∧ -10000000000 ≤ g j ∧ g j ≤ 10000000000) {z : Int} (h1 : -20000000000 ≤ z) (h2 : z ≤ 20000000000) : f_X4_countAbove N (zKs k) (zln k) 109 (lI z) M = some (nI (zcn g c z)) := by
  have h := s_count5 (N := N) hR hc hcap (lI z) c N 0 0 (by omega) (by omega)
  rw [Nat.zero_add] at h
  refine h.trans ?_
  unfold zcn
  congr 2
  refine List.countP_congr (fun j hj => ?_)
  rw [List.mem_range'_1] at hj
  obtain ⟨e, b1, b2⟩ := hg j (by omega)
  rw [e, decide_eq_true_eq, decide_eq_true_eq, lI_lt (by omega) (by omega) (by omega) (by omega)]
theorem s_rank15 (hN : 10000000 ≤ N) (hR : zRf sw k (zR M)) (hc : zI M 109 2 = nI c) (hcap : c ≤ 16807) (hg : ∀ j, j < c → zJ M 110 j = lI (g j) ∧ -10000000000 ≤ g j ∧ g j ≤ 10000000000) {rank : Nat} (hrank : rank < c) : ∀ (d f r : Nat) (lo hi : Int), d + r = 64 → d < f → lo ≤ hi → hi - lo < (2 ^ d : Nat) → -10000000000 ≤ lo → hi ≤ 10000000000 → zcn g c hi ≤ rank → rank < zcn g c (lo - 1) → ∃ z, f_X4_ofRank_15 N (zKs k) (zln k) f 109 (nI rank) (lI hi) (lI lo) (nI r) M = some (lI z) ∧ zcn g c z ≤ rank ∧ rank < zcn g c (z - 1) ∧ -10000000000 ≤ z ∧ z ≤ 10000000000
  | d, 0, r, lo, hi, _, hf, _, _, _, _, _, _ => absurd hf (Nat.not_lt_zero d)
  | d, f + 1, r, lo, hi, hd, hf, hle, hp, hb1, hb2, hq1, hq2 => by
    unfold f_X4_ofRank_15
    by_cases hz : lo = hi
    · subst hz
      refine ⟨lo, ?_, hq1, hq2, hb1, hb2⟩
      by_cases h64 : (64 : Int32) ≤ nI r
      · rw [if_pos h64]
      · rw [if_neg h64, if_pos (Int64.le_refl _)]
    · cases d with
      | zero => exact absurd hp (by simp; omega)
      | succ d =>
        have e2 : (hi - lo).tdiv 2 = (hi - lo) / 2 := Int.tdiv_eq_ediv_of_nonneg (by omega)
        have e3 : lI lo + (lI hi - lI lo) / (2 : Int64) = lI (lo + (hi - lo) / 2) := by
          rw [lI_sub, show (2 : Int64) = lI 2 from rfl, lI_div (by omega) (by omega) (by decide) (by decide), e2, lI_add]
        rw [Nat.pow_succ] at hp
        have hcnt := s_countAbove hN hR hc hcap hg (z := lo + (hi - lo) / 2) (by omega) (by omega)
        have hcn : zcn g c (lo + (hi - lo) / 2) ≤ 16807 := by
          unfold zcn
          refine Nat.le_trans List.countP_le_length ?_
          rw [List.length_range']; exact hcap
        rw [if_neg (show ¬ (64 : Int32) ≤ nI r from nI_ge (b := 64) (by omega) (by omega)), if_neg (fun q => absurd ((lI_le (by omega) (by omega) (by omega) (by omega)).mp q) (by omega)), e3, zbindS hcnt, zgK (k109 k)]
        unfold f_X4_ofRank_64
        rw [show nI r + 1 = nI (r + 1) from nI_1 r]
        by_cases hm : zcn g c (lo + (hi - lo) / 2) ≤ rank
        · rw [if_pos (nI_le hm (by omega))]
          exact s_rank15 hN hR hc hcap hg hrank d f (r + 1) lo (lo + (hi - lo) / 2) (by omega) (by omega) (by omega) (by generalize 2 ^ d = P at *; omega) hb1 (by omega) hm hq2
        · rw [if_neg (nI_ge (by omega) (by omega)), show (1 : Int64) = lI 1 from rfl, lI_add]
          exact s_rank15 hN hR hc hcap hg hrank d f (r + 1) (lo + (hi - lo) / 2 + 1) hi (by omega) (by omega) (by omega) (by generalize 2 ^ d = P at *; omega) (by omega) hb2 hq1 (by rw [show lo + (hi - lo) / 2 + 1 - 1 = lo + (hi - lo) / 2 by omega]; omega)
theorem s_ofRank (hN : 10000000 ≤ N) (hR : zRf sw k (zR M)) (hc : zI M 109 2 = nI c) (hcap : c ≤ 16807) (hg : ∀ j, j < c → zJ M 110 j = lI (g j) ∧ -10000000000 ≤ g j ∧ g j ≤ 10000000000) {rank : Nat} (hrank : rank < c) : ∃ z, f_X4_ofRank N (zKs k) (zln k) 109 (nI rank) M = some (lI z) ∧ zcn g c z ≤ rank ∧ rank < zcn g c (z - 1) ∧ -10000000000 ≤ z ∧ z ≤ 10000000000 := by
  obtain ⟨hi, e1, h1, h2⟩ := s_greatest hN hR hc hcap
  have hj0 := h2 0 (by omega)
  rw [(hg 0 (by omega)).1] at hj0
  -- the greatest is a key
  have hk : ∃ j, j < c ∧ hi = lI (g j) := by
    rcases h1 with h1 | ⟨j, q1, q2⟩
    · rw [h1, Int64.le_iff_toInt_le, lI_toInt (by have := (hg 0 (by omega)).2; omega) (by have := (hg 0 (by omega)).2; omega), show zNK.toInt = -9223372036854775808 by decide +kernel] at hj0
      have := (hg 0 (by omega)).2
      omega
    · exact ⟨j, q1, by rw [q2, (hg j q1).1]⟩
  obtain ⟨j, hj, rfl⟩ := hk
  obtain ⟨lo, e2, h3, h4, h5⟩ := s_least5 (N := N) hR hc hcap c N 0 (lI (g j)) (by omega) (by omega)
  have hl : ∃ i, i < c ∧ lo = lI (g i) := by
    rcases h3 with h3 | ⟨i, -, q1, q2⟩
    · exact ⟨j, hj, h3⟩
    · exact ⟨i, q1, by rw [q2, (hg i q1).1]⟩
  obtain ⟨i, hi, rfl⟩ := hl
  have bj := (hg j hj).2
  have bi := (hg i hi).2
  have hle : g i ≤ g j := (lI_le (by omega) (by omega) (by omega) (by omega)).mp h4
  obtain ⟨z, e, q1, q2, q3, q4⟩ := s_rank15 hN hR hc hcap hg hrank 64 N 0 (g i) (g j) (by omega) (by omega) hle (by
      have : (2 ^ 64 : Nat) = 18446744073709551616 := by decide
      omega) (by omega) (by omega) (by
      rw [zcn_none (fun t ht => by
        have := h2 t ht
        rw [(hg t ht).1] at this
        have bt := (hg t ht).2
        exact (lI_le (by omega) (by omega) (by omega) (by omega)).mp this)]
      exact Nat.zero_le _) (by
      rw [zcn_all (fun t ht => by
        have := h5 t (by omega) ht
        rw [(hg t ht).1] at this
        have bt := (hg t ht).2
        have := (lI_le (by omega) (by omega) (by omega) (by omega)).mp this
        omega)]
      exact hrank)
  refine ⟨z, ?_, q1, q2, q3, q4⟩
  unfold f_X4_ofRank f_X4_ofRank_0
  rw [zbindS e1, zgK (k109 k), zbindS (show f_X4_least N (zKs k) (zln k) 109 (lI (g j)) M = some (lI (g i)) from e2)]
  exact e
end SR
