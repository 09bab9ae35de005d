/-! THE MODEL'S KEY OF A TREE. -/
theorem zshl18 (x : Int64) : x <<< ((18 : Int32).toInt64 &&& 63) = x * 262144 := by
  rw [show ((18 : Int32).toInt64 &&& 63) = (18 : Int64) by decide +kernel]
  refine Int64.toBitVec_inj.mp ?_
  rw [Int64.toBitVec_mul, Int64.toBitVec_shiftLeft]
  rw [show ((18 : Int64).toBitVec.smod 64) = 18#64 by decide +kernel]
  rw [BitVec.shiftLeft_eq', show (18#64).toNat = 18 by decide, BitVec.shiftLeft_eq_mul_twoPow]
  congr 1
theorem zsum_b {f : Nat → Nat → Int} {n : Nat} (hb : ∀ h w, h ≤ n → 1 ≤ w → w ≤ n → -8000 ≤ f h w ∧ f h w ≤ 8000) : ∀ (v : List Nat) (w : Nat), (∀ x ∈ v, x ≤ n) → 1 ≤ w → w + v.length ≤ n + 1 → -8000 * (v.length : Int) ≤ zsum f w v ∧ zsum f w v ≤ 8000 * (v.length : Int)
  | [], _, _, _, _ => by simp [zsum]
  | h :: t, w, hv, h1, hw => by
    have hl : (h :: t).length = t.length + 1 := rfl
    rw [hl] at hw ⊢
    have ih := zsum_b hb t (w + 1) (fun x hx => hv x (List.mem_cons_of_mem _ hx)) (by omega) (by omega)
    have h2 := hb h w (hv h List.mem_cons_self) h1 (by omega)
    show -8000 * ((t.length + 1 : Nat) : Int) ≤ f h w + zsum f (w + 1) t ∧ f h w + zsum f (w + 1) t ≤ 8000 * ((t.length + 1 : Nat) : Int)
    omega
theorem q_keyOf7 {N k s n : Nat} {sw : Bool} {kd : Nat → Nat} {mk : Nat → Nat → Int32} {wt : Nat → Int} {M : ZM} (hR : zRf sw k (zR M)) (hs : s < 5) (hS : zSenM s n kd mk (zI M)) (hW : zWtsM wt (zI M)) (hsc : ∀ h w, h ≤ n → 1 ≤ w → w ≤ n → -8000 ≤ zsc wt kd h w ∧ zsc wt kd h w ≤ 8000) : ∀ (t a : List Nat) (f : Nat), a.length + t.length = n → (∀ x ∈ a ++ t, x ≤ n) → zHd (a ++ t) (zI M) 125 → t.length < f → f_X7_keyOf_7 N (zKs k) (zln k) f 112 (nI s) (iI (zsum (zsc wt kd) 1 a)) (nI (zdg 8 a)) (nI (a.length + 1)) M = some (lI (zkM (zsum (zsc wt kd) 1 (a ++ t)) (a ++ t)))
  | t, a, 0, _, _, _, hf => absurd hf (Nat.not_lt_zero _)
  | [], a, f + 1, hl, hv, hH, _ => by
    have h6 := hS.1
    have hl : a.length = n := hl
    rw [List.append_nil] at hv ⊢
    have hb := zsum_b hsc a 1 hv (by omega) (by omega)
    have h8 := zc8_lt (v := a) (by omega) (fun h hh => by have := hv h hh; omega)
    unfold f_X7_keyOf_7
    rw [zgK (k112 k), zbindS (hR.at 112 1 113 (zrm 22 rfl)), zgok (k113 k) (l113 k) hs (by decide), nI_clamp (by omega), hS.2.1, if_pos (nI_lt (by omega) (by omega)), zshl18, show (100000 : Int32) = iI 100000 from rfl, iI_sub, iI_long (by omega) (by omega), nI_iI, iI_long (by omega) (by omega), show (262144 : Int64) = lI 262144 from rfl, lI_mul, lI_add]
    rfl
  | h :: t, a, f + 1, hl, hv, hH, hf => by
    have h6 := hS.1
    have hlt : (h :: t).length = t.length + 1 := rfl
    rw [hlt] at hl hf
    have e1 : a ++ h :: t = (a ++ [h]) ++ t := by simp
    have hla : (a ++ [h]).length = a.length + 1 := by simp
    have hhead : zI M 125 (a.length + 1) = nI h := by
      rw [hH (a.length + 1) (by omega) (by rw [List.length_append, hlt]; omega)]
      congr 1
      unfold zhd
      rw [List.getD_eq_getElem?_getD, Nat.add_sub_cancel, List.getElem?_append_right (by omega), Nat.sub_self]
      rfl
    have hhn : h ≤ n := hv h (by simp)
    unfold f_X7_keyOf_7
    rw [zgK (k112 k), zbindS (hR.at 112 1 113 (zrm 22 rfl)), zgok (k113 k) (l113 k) hs (by decide), nI_clamp (by omega), hS.2.1, if_neg (nI_nlt (by omega) (by omega)), zbindS (hR.at 112 18 125 (zrm 34 rfl)), zgok (k125 k) (l125 k) (show a.length + 1 < 7 by omega) (by decide), nI_clamp (by omega), hhead, zbindS (q_scoreOf hR hs hS hW hhn (by omega) (by omega)), iI_add, show (8 : Int32) = nI 8 from rfl, nI_mul, nI_add, show nI (a.length + 1) + 1 = nI ((a ++ [h]).length + 1) from by rw [hla]; exact nI_1 _]
    rw [e1] at hv hH ⊢
    have ih := q_keyOf7 (N := N) hR hs hS hW hsc t (a ++ [h]) f (by omega) hv hH (by omega)
    rw [zsum_snoc, zdg_snoc, show 1 + a.length = a.length + 1 by omega] at ih
    exact ih
theorem q_keyOf {N k s n : Nat} {sw : Bool} {kd : Nat → Nat} {mk : Nat → Nat → Int32} {wt : Nat → Int} {M : ZM} (hN : 10000000 ≤ N) (hR : zRf sw k (zR M)) (hs : s < 5) (hS : zSenM s n kd mk (zI M)) (hW : zWtsM wt (zI M)) (hsc : ∀ h w, h ≤ n → 1 ≤ w → w ≤ n → -8000 ≤ zsc wt kd h w ∧ zsc wt kd h w ≤ 8000) {v : List Nat} (hl : v.length = n) (hv : ∀ x ∈ v, x ≤ n) (hH : zHd v (zI M) 125) : f_X7_keyOf N (zKs k) (zln k) 112 (nI s) M = some (lI (zkM (zsum (zsc wt kd) 1 v) v)) := by
  have h6 := hS.1
  exact q_keyOf7 (N := N) hR hs hS hW hsc v [] N (by simpa using hl) hv hH (by omega)
theorem zkc_zkC {sc : Nat → Nat → Int} {v : List Nat} (hl : v.length ≤ 6) : zkc sc v = zkC (zsum sc 1 v) v := by
  unfold zkc zkC zc7
  have h := zsum_key sc v 1 (by omega) (Nat.le_refl 1)
  rw [show 7 - 1 - v.length = 6 - v.length by omega] at h
  exact h
