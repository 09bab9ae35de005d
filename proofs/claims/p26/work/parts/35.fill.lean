/-! THE ARCS' SCORES AND KEYS. -/
/-- a sentence as the class has it: n words, kinds, marks -/
def zSen (s n : Nat) (kd : Nat → Nat) (mk : Nat → Nat → Int32) (I : Nat → Nat → Int32) : Prop :=
  n ≤ 6 ∧ I (112 + 11 * s) 3 = nI n ∧ kd 0 = 4 ∧ (∀ w, 1 ≤ w → w ≤ n → kd w ≤ 3) ∧ (∀ w, w ≤ n → I (112 + 11 * s + 1) w = nI (kd w)) ∧ (∀ h w, h < 7 → w < 7 → I (112 + 11 * s + (4 + h)) w = mk h w) ∧ (∀ w o o', w < 7 → o ≤ n → o' ≤ n → mk o w = 1 → mk o' w = 1 → o = o')
/-- the weights -/
def zWts (wt : Nat → Int) (I : Nat → Nat → Int32) : Prop := ∀ f, f < 28 → I 3 f = iI (wt f) ∧ -4000 ≤ wt f ∧ wt f ≤ 4000
def zbk (kd : Nat → Nat) (h w : Nat) : Nat := 4 * kd h + kd w
def zsc (wt : Nat → Int) (kd : Nat → Nat) (h w : Nat) : Int := wt (zbk kd h w) + wt (zbd h w)
def zNK : Int64 := -9223372036854775808
/-- an arc's key -/
def zkk (al : Nat → Nat → Bool) (sc : Nat → Nat → Int) (h w : Nat) : Int64 := if 1 ≤ w ∧ al h w = true then lI (sc h w * 117649 - (h : Int) * (7 ^ (6 - w) : Nat)) else zNK
section SF
variable {N k s n : Nat} {sw : Bool} {kd : Nat → Nat} {mk : Nat → Nat → Int32} {wt : Nat → Int}
theorem zbk_lt {h w : Nat} {I : Nat → Nat → Int32} (hs : zSen s n kd mk I) (hh : h ≤ n) (h1 : 1 ≤ w) (hw : w ≤ n) : zbk kd h w < 20 := by
  obtain ⟨h6, -, k0, k1, -⟩ := hs
  unfold zbk
  have := k1 w h1 hw
  by_cases e : h = 0
  · subst e; omega
  · have := k1 h (by omega) hh; omega
theorem zhv_pow : ∀ w, w < 7 → 1 ≤ w → zhv w = lI ((7 ^ (6 - w) : Nat) : Int) := by decide +kernel
theorem s_ofArc {M : ZM} (hR : zRf sw k (zR M)) (hk : s < k) (hS : zSen s n kd mk (zI M)) (hW : zWts wt (zI M)) {h w : Nat} (hh : h ≤ n) (h1 : 1 ≤ w) (hw : w ≤ n) : f_X5_ofArc N (zKs k) (zln k) 2 (112 + 11 * s) (nI h) (nI w) M = some (iI (zsc wt kd h w)) := by
  have hb := zbk_lt hS hh h1 hw
  obtain ⟨h6, -, k0, k1, hkd, -⟩ := hS
  unfold f_X5_ofArc f_X5_ofArc_0
  rw [zbindS (s_byKinds hR hk (show h < 7 by omega) (show w < 7 by omega)), hkd h hh, hkd w hw, show (4 : Int32) * nI (kd h) + nI (kd w) = nI (zbk kd h w) from by
    unfold zbk
    rw [← nI_add, show nI (4 * kd h) = nI 4 * nI (kd h) from Int32.ofNat_mul 4 (kd h)]; rfl, zgK (ks0 hk), zbindS (s_get hR (show zbk kd h w < 28 by omega)), zgK (k2 k), zbindS (s_byDistance N (show h < 7 by omega) (show w < 7 by omega)), zbindS (s_get hR zbd_lt), (hW _ (show zbk kd h w < 28 by omega)).1, (hW _ zbd_lt).1, iI_add]
  rfl
theorem s_key {sc : Int} {h w : Nat} (h1 : -8000 ≤ sc) (h2 : sc ≤ 8000) (hh : h < 7) (hw : w < 7) (hw1 : 1 ≤ w) : (iI sc).toInt64 * (117649 : Int64) - (nI h).toInt64 * zhv (nI w).toNatClampNeg = lI (sc * 117649 - (h : Int) * (7 ^ (6 - w) : Nat)) := by
  rw [nI_clamp (by omega), zhv_pow w hw hw1, iI_long (by omega) (by omega), nI_iI, iI_long (by omega) (by omega), show (117649 : Int64) = lI 117649 from rfl, lI_mul, lI_mul, lI_sub]
/-- one row of keys, from word w on -/
theorem s_fill37 (hN : 10000000 ≤ N) {I : Nat → Nat → Int32} {R : Nat → Nat → Option Nat} (hR : zRf sw k R) (hk : s < k) (hS : zSen s n kd mk I) (hW : zWts wt I) (hI48 : I 48 1 = nI n) {h : Nat} (hh : h ≤ n) (kh15 : Nat → Nat → Nat → Int32 → ZM → Option ZM) : ∀ (d f w : Nat) (M : ZM), w + d = n + 1 → 1 ≤ w → d < f → zI M = I → zR M = R → ∃ M', f_X0_fill_37 N (zKs k) (zln k) kh15 f 48 (112 + 11 * s) 2 (nI h) (nI w) M = kh15 48 (112 + 11 * s) 2 (nI (h + 1)) M' ∧ zI M' = I ∧ zR M' = R ∧ zD M' = zD M ∧ ∀ b j, zJ M' b j = if b = 50 + h ∧ w ≤ j ∧ j ≤ n then zkk (zal mk n) (zsc wt kd) h j else zJ M b j
  | d, 0, w, M, _, _, hf, _, _ => absurd hf (Nat.not_lt_zero d)
  | 0, f + 1, w, M, hd, h1, _, eI, eR => by
    refine ⟨M, ?_, eI, eR, rfl, fun b j => by rw [if_neg (by omega)]⟩
    have h6 := hS.1
    unfold f_X0_fill_37
    rw [zgK (k48 k), eI, hI48, if_pos (nI_lt (by omega) (by omega)), show nI h + 1 = nI (h + 1) from nI_1 h]
  | d + 1, f + 1, w, M, hd, h1, hf, eI, eR => by
    have h6 := hS.1
    have hR' : zRf sw k (zR M) := by rw [eR]; exact hR
    have hS' : zSen s n kd mk (zI M) := by rw [eI]; exact hS
    have hW' : zWts wt (zI M) := by rw [eI]; exact hW
    have hb := zbk_lt hS hh h1 (show w ≤ n by omega)
    have g1 := hW _ (show zbk kd h w < 28 by omega)
    have g2 := hW _ (zbd_lt (h := h) (w := w))
    have step : ∀ v : Int64, v = zkk (zal mk n) (zsc wt kd) h w → ∃ M', f_X0_fill_93 N (zKs k) (zln k) kh15 (fun y0 y1 y2 y3 y4 M => f_X0_fill_37 N (zKs k) (zln k) kh15 f y0 y1 y2 y3 y4 M) 48 (112 + 11 * s) 2 (nI h) (nI w) v (nI w) (50 + h) M = kh15 48 (112 + 11 * s) 2 (nI (h + 1)) M' ∧ zI M' = I ∧ zR M' = R ∧ zD M' = zD M ∧ ∀ b j, zJ M' b j = if b = 50 + h ∧ w ≤ j ∧ j ≤ n then zkk (zal mk n) (zsc wt kd) h j else zJ M b j := by
      intro v hv
      obtain ⟨M', e1, e2, e3, e4, e5⟩ := s_fill37 hN hR hk hS hW hI48 hh kh15 d f (w + 1) (zsJ M (50 + h) w v) (by omega) (by omega) (by omega) eI eR
      refine ⟨M', ?_, e2, e3, e4, fun b j => ?_⟩
      · unfold f_X0_fill_93
        rw [zgok (kr50 k (show h < 7 by omega)) (lr50 k (show h < 7 by omega)) (show w < 7 by omega) (by decide), zlS, nI_clamp (by omega), show nI w + 1 = nI (w + 1) from nI_1 w]
        exact e1
      · rw [e5 b j, zJ_sJ]
        by_cases c1 : b = 50 + h ∧ w + 1 ≤ j ∧ j ≤ n
        · rw [if_pos c1, if_pos (by omega)]
        · rw [if_neg c1]
          by_cases c2 : b = 50 + h ∧ j = w
          · rw [if_pos c2, if_pos (by omega), hv, c2.2]
          · rw [if_neg c2, if_neg (by omega)]
    unfold f_X0_fill_37
    rw [zgK (k48 k), eI, hI48, if_neg (nI_nlt (by omega) (by omega)), zbindS (hR'.at 48 0 49 (zrm 11 rfl)), zgok (k49 k) (l49 k) (show h < 7 by omega) (by decide), nI_clamp (by omega), zbindS (hR'.row 49 7 50 (by simp [ztabs]) (show h < 7 by omega)), zbindS (s_allows hN hR' hk hS'.2.2.2.2.2.1 hS'.2.2.2.2.2.2 hS'.2.1 h6 hh (show w < 7 by omega)), zgK (ks0 hk)]
    by_cases ha : zal mk n h w = true
    · rw [if_pos ha, if_neg one_ne0, zbindS (s_ofArc hR' hk hS' hW' hh h1 (by omega)), zgK (k2 k)]
      have hz : zin7 (nI w) = true := by
        unfold zin7
        simp [nI_pos (show w < 2 ^ 31 by omega), nI_clamp (show w < 2 ^ 31 by omega)]
        omega
      rw [hz, zg_true]
      exact step _ (by
        rw [s_key (by unfold zsc; omega) (by unfold zsc; omega) (by omega) (by omega) h1]
        unfold zkk
        rw [if_pos ⟨h1, ha⟩])
    · rw [if_neg ha, if_pos rfl]
      exact step _ (by
        unfold zkk
        rw [if_neg (fun q => ha q.2)]
        rfl)
end SF
