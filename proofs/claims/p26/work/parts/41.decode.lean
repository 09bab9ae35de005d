/-! A KEY TELLS ITS SCORE AND ITS HEADS (the class's). -/
theorem zdg_at {b : Nat} (hb : 0 < b) : ∀ (v : List Nat) (w : Nat), (∀ h ∈ v, h < b) → 1 ≤ w → w ≤ v.length → zdg b v / b ^ (v.length - w) % b = zhd v w
  | [], w, _, h1, h2 => by simp at h2; omega
  | h :: t, w, hv, h1, h2 => by
    have ht := zdg_lt t (fun x hx => hv x (List.mem_cons_of_mem _ hx))
    have hh : h < b := hv h List.mem_cons_self
    have hl : (h :: t).length = t.length + 1 := rfl
    show (h * b ^ t.length + zdg b t) / b ^ ((h :: t).length - w) % b = zhd (h :: t) w
    by_cases e : w = 1
    · subst e
      rw [hl, Nat.add_sub_cancel, Nat.mul_comm h, Nat.mul_add_div (Nat.pow_pos hb), Nat.div_eq_of_lt ht, Nat.add_zero, Nat.mod_eq_of_lt hh]
      rfl
    · obtain ⟨x, rfl⟩ : ∃ x, w = x + 2 := ⟨w - 2, by omega⟩
      rw [hl] at h2 ⊢
      have e1 : t.length + 1 - (x + 2) = t.length - (x + 1) := by omega
      rw [e1]
      have e2 : b ^ t.length = b ^ (t.length - (x + 1)) * (b * b ^ x) := by
        rw [← Nat.pow_succ', ← Nat.pow_add]
        congr 1
        omega
      rw [e2, ← Nat.mul_assoc, Nat.mul_comm h, Nat.mul_assoc, Nat.mul_add_div (Nat.pow_pos hb)]
      rw [show h * (b * b ^ x) = b * (h * b ^ x) from Nat.mul_left_comm h b (b ^ x), Nat.mul_add_mod, zdg_at hb t (x + 1) (fun y hy => hv y (List.mem_cons_of_mem _ hy)) (by omega) (by omega)]
      unfold zhd
      rw [show x + 2 - 1 = x + 1 from rfl, Nat.add_sub_cancel]
      rfl
theorem zc7_at {v : List Nat} (hl : v.length ≤ 6) (hv : ∀ h ∈ v, h < 7) {w : Nat} (h1 : 1 ≤ w) (h2 : w ≤ v.length) : zc7 v / 7 ^ (6 - w) % 7 = zhd v w := by
  unfold zc7
  rw [show 6 - w = (6 - v.length) + (v.length - w) by omega, Nat.pow_add, ← Nat.div_div_eq_div_mul, Nat.mul_div_cancel_left _ (Nat.pow_pos (by decide))]
  exact zdg_at (by decide) v w hv h1 h2
theorem zxor_sign (x y : Int64) : 0 ≤ x ^^^ y ↔ (x.toInt < 0 ↔ y.toInt < 0) := by
  rw [Int64.le_iff_toInt_le]
  have h1 : (x ^^^ y).toBitVec.msb = (x.toBitVec.msb ^^ y.toBitVec.msb) := by
    rw [Int64.toBitVec_xor, BitVec.msb_xor]
  rw [BitVec.msb_eq_toInt, BitVec.msb_eq_toInt, BitVec.msb_eq_toInt] at h1
  have h0 : (0 : Int64).toInt = 0 := by decide
  rw [h0]
  have a1 : x.toInt = x.toBitVec.toInt := rfl
  have a2 : y.toInt = y.toBitVec.toInt := rfl
  have a3 : (x ^^^ y).toInt = (x ^^^ y).toBitVec.toInt := rfl
  rw [← a1, ← a2, ← a3] at h1
  by_cases c1 : x.toInt < 0 <;> by_cases c2 : y.toInt < 0 <;> simp [c1, c2] at h1 ⊢ <;> omega
theorem zkC_b {sc : Int} {v : List Nat} (h1 : -50000 ≤ sc) (h2 : sc ≤ 50000) (hl : v.length ≤ 6) (hv : ∀ h ∈ v, h < 7) : -10000000000 ≤ zkC sc v ∧ zkC sc v ≤ 10000000000 := by
  have := zc7_lt hl hv
  unfold zkC
  omega
theorem s_rowOfHeads (N : Nat) {sc : Int} {v : List Nat} (h1 : -50000 ≤ sc) (h2 : sc ≤ 50000) (hl : v.length ≤ 6) (hv : ∀ h ∈ v, h < 7) : f_X6_rowOfHeads N (lI (zkC sc v)) = some (lI (zc7 v : Nat)) := by
  have h7 := zc7_lt hl hv
  have hb := zkC_b h1 h2 hl hv
  unfold f_X6_rowOfHeads f_X6_rowOfHeads_0
  have key : f_J9_floorMod_f86c9 N (-lI (zkC sc v)) (117649 : Int64) = some (lI (zc7 v : Nat)) := by
    unfold f_J9_floorMod_f86c9 f_J9_floorMod_f86c9_0
    rw [show (!((117649 : Int64) == 0)) = true by decide, zg_true, show (117649 : Int64) = lI 117649 from rfl, lI_neg, lI_div (by omega) (by omega) (by decide) (by decide), lI_mul, lI_sub]
    have t1 := Int.mul_tdiv_add_tmod (-zkC sc v) 117649
    have e1 : -zkC sc v - (-zkC sc v).tdiv 117649 * 117649 = (-zkC sc v).tmod 117649 := by
      rw [Int.mul_comm] at t1
      omega
    rw [e1]
    have e2 : -zkC sc v = (zc7 v : Int) + 117649 * (-sc) := by unfold zkC; omega
    by_cases c1 : 0 ≤ -zkC sc v
    · have e3 : (-zkC sc v).tmod 117649 = (zc7 v : Int) := by
        rw [Int.tmod_eq_emod_of_nonneg c1, e2, Int.add_mul_emod_self_left, Int.emod_eq_of_lt (by omega) (by omega)]
      rw [e3, if_pos ((zxor_sign _ _).mpr (by rw [lI_toInt (by omega) (by omega), lI_toInt (by omega) (by omega)]; omega))]
    · rw [if_neg (fun q => by
        have := (zxor_sign _ _).mp q
        rw [lI_toInt (by omega) (by omega), lI_toInt (by omega) (by omega)] at this
        omega)]
      have t2 : (-zkC sc v).tmod 117649 = -((zkC sc v).tmod 117649) := Int.neg_tmod _ _
      have t3 : (zkC sc v).tmod 117649 = (zkC sc v) % 117649 := Int.tmod_eq_emod_of_nonneg (by omega)
      rw [t2, t3]
      by_cases c2 : zc7 v = 0
      · have e4 : zkC sc v % 117649 = 0 := by unfold zkC; rw [c2]; omega
        rw [e4, c2, if_pos (show lI (-0) = 0 by decide +kernel)]
        rfl
      · have e4 : zkC sc v % 117649 = 117649 - (zc7 v : Int) := by unfold zkC; omega
        rw [e4, if_neg (fun q => by
          have := (lI_eq (a := -(117649 - (zc7 v : Int))) (b := 0) (by omega) (by omega) (by omega) (by omega)).mp q
          omega), lI_add]
        congr 2
        omega
  rw [zbindS key]
theorem s_scoreIn (N : Nat) {sc : Int} {v : List Nat} (h1 : -50000 ≤ sc) (h2 : sc ≤ 50000) (hl : v.length ≤ 6) (hv : ∀ h ∈ v, h < 7) : f_X6_scoreIn N (lI (zkC sc v)) = some (iI sc) := by
  unfold f_X6_scoreIn f_X6_scoreIn_0
  rw [zbindS (s_rowOfHeads N h1 h2 hl hv), lI_add, show zkC sc v + (zc7 v : Int) = sc * 117649 by unfold zkC; omega, show (117649 : Int64) = lI 117649 from rfl, lI_div (by omega) (by omega) (by decide) (by decide), Int.mul_tdiv_cancel _ (by decide), lI_int]
theorem nI_dec (a b : Nat) (h : b = a + 1) : nI b + (-1) = nI a := by
  subst h
  rw [← nI_pred a, Int32.sub_eq_add_neg]
theorem s_headIn9 (N : Nat) {w : Nat} (hw : w ≤ 6) : ∀ (d f r : Nat), d < f → r < 117649 → f_X6_headIn_9 N f (nI w) (lI (r : Int)) (nI (w + d)) = some (nI (r / 7 ^ d % 7)) ∨ 6 < w + d
  | d, 0, r, hf, _ => absurd hf (Nat.not_lt_zero d)
  | 0, f + 1, r, _, hr => by
    refine Or.inl ?_
    unfold f_X6_headIn_9
    rw [if_pos (nI_le (by omega) (by omega)), show (7 : Int64) = lI 7 from rfl, lI_div (by omega) (by omega) (by decide) (by decide), lI_mul, lI_sub, lI_int, nI_iI]
    congr 2
    rw [Int.tdiv_eq_ediv_of_nonneg (by omega), Nat.pow_zero, Nat.div_one]
    omega
  | d + 1, f + 1, r, hf, hr => by
    by_cases h6 : 6 < w + (d + 1)
    · exact Or.inr h6
    refine Or.inl ?_
    have ih := (s_headIn9 N hw d f (r / 7) (by omega) (by omega)).resolve_right (by omega)
    unfold f_X6_headIn_9
    rw [if_neg (nI_ge (by omega) (by omega)), show (7 : Int64) = lI 7 from rfl, lI_div (by omega) (by omega) (by decide) (by decide), Int.tdiv_eq_ediv_of_nonneg (by omega), nI_dec (w + d) (w + (d + 1)) (by omega), show (r : Int) / 7 = ((r / 7 : Nat) : Int) by omega, ih, Nat.div_div_eq_div_mul, ← Nat.pow_succ']
theorem s_headIn {N : Nat} (hN : 10000000 ≤ N) {sc : Int} {v : List Nat} (h1 : -50000 ≤ sc) (h2 : sc ≤ 50000) (hl : v.length ≤ 6) (hv : ∀ h ∈ v, h < 7) {w : Nat} (hw1 : 1 ≤ w) (hw : w ≤ v.length) : f_X6_headIn N (lI (zkC sc v)) (nI w) = some (nI (zhd v w)) := by
  unfold f_X6_headIn f_X6_headIn_0
  rw [zbindS (s_rowOfHeads N h1 h2 hl hv)]
  have h := (s_headIn9 N (show w ≤ 6 by omega) (6 - w) N (zc7 v) (by omega) (zc7_lt hl hv)).resolve_right (by omega)
  rw [show w + (6 - w) = 6 by omega, zc7_at hl hv hw1 hw] at h
  exact h
