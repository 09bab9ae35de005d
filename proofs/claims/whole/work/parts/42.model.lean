/-! THE MODEL: a sentence and the weights as it has them; scores. -/
def zSenM (s n : Nat) (kd : Nat → Nat) (mk : Nat → Nat → Int32) (I : Nat → Nat → Int32) : Prop :=
  n ≤ 6 ∧ I 113 s = nI n ∧ kd 0 = 4 ∧ (∀ w, 1 ≤ w → w ≤ n → kd w ≤ 3) ∧ (∀ w, 1 ≤ w → w ≤ n → I 114 (7 * s + w) = nI (kd w)) ∧ (∀ h w, h < 7 → w < 7 → I 115 (49 * s + 7 * w + h) = mk h w)
def zWtsM (wt : Nat → Int) (I : Nat → Nat → Int32) : Prop := ∀ f, f < 28 → I 117 f = iI (wt f) ∧ -4000 ≤ wt f ∧ wt f ≤ 4000
theorem q_byDistance_0 : ∀ h, h < 7 → ∀ w, w < 7 → f_X7_byDistance 0 (nI h) (nI w) = some (nI (zbd h w)) := by decide +kernel
theorem q_byDistance (N : Nat) {h w : Nat} (hh : h < 7) (hw : w < 7) : f_X7_byDistance N (nI h) (nI w) = some (nI (zbd h w)) := q_byDistance_0 h hh w hw
theorem nI_mul (a b : Nat) : nI a * nI b = nI (a * b) := (Int32.ofNat_mul a b).symm
section QM
variable {N k s n : Nat} {sw : Bool} {kd : Nat → Nat} {mk : Nat → Nat → Int32} {wt : Nat → Int} {M : ZM}
theorem q_at (s w : Nat) : (7 : Int32) * nI s + nI w = nI (7 * s + w) := by rw [show (7 : Int32) = nI 7 from rfl, nI_mul, nI_add]
theorem q_byKind20 (hR : zRf sw k (zR M)) (hs : s < 5) (hS : zSenM s n kd mk (zI M)) {w a : Nat} (h1 : 1 ≤ w) (hw : w ≤ n) : f_X7_byKind_20 N (zKs k) (zln k) 112 (nI s) (nI w) (nI a) 4 M = some (nI (4 * a + kd w)) := by
  have h6 := hS.1
  unfold f_X7_byKind_20
  rw [q_at, zgK (k112 k), zbindS (hR.at 112 2 114 (zrm 23 rfl)), zgok (k114 k) (l114 k) (show 7 * s + w < 35 by omega) (by decide), nI_clamp (by omega), hS.2.2.2.2.1 w h1 hw, show (4 : Int32) = nI 4 from rfl, nI_mul, nI_add]
theorem q_byKind (hR : zRf sw k (zR M)) (hs : s < 5) (hS : zSenM s n kd mk (zI M)) {h w : Nat} (hh : h ≤ n) (h1 : 1 ≤ w) (hw : w ≤ n) : f_X7_byKind N (zKs k) (zln k) 112 (nI s) (nI h) (nI w) M = some (nI (zbk kd h w)) := by
  have h6 := hS.1
  unfold f_X7_byKind f_X7_byKind_0 zbk
  by_cases e : h = 0
  · subst e
    rw [if_pos (show nI 0 = 0 by decide +kernel), show (4 : Int32) = nI 4 from rfl, hS.2.2.1]
    exact q_byKind20 hR hs hS h1 hw
  · rw [if_neg (nI_ne0 (by omega) (by omega)), q_at, zgK (k112 k), zbindS (hR.at 112 2 114 (zrm 23 rfl)), zgok (k114 k) (l114 k) (show 7 * s + h < 35 by omega) (by decide), nI_clamp (by omega), hS.2.2.2.2.1 h (by omega) hh]
    exact q_byKind20 hR hs hS h1 hw
theorem q_bk_lt (hS : zSenM s n kd mk (zI M)) {h w : Nat} (hh : h ≤ n) (h1 : 1 ≤ w) (hw : w ≤ n) : zbk kd h w < 20 := by
  obtain ⟨h6, -, k0, k1, -⟩ := hS
  unfold zbk
  have := k1 w h1 hw
  by_cases e : h = 0
  · subst e; omega
  · have := k1 h (by omega) hh; omega
theorem q_scoreOf (hR : zRf sw k (zR M)) (hs : s < 5) (hS : zSenM s n kd mk (zI M)) (hW : zWtsM wt (zI M)) {h w : Nat} (hh : h ≤ n) (h1 : 1 ≤ w) (hw : w ≤ n) : f_X7_scoreOf N (zKs k) (zln k) 112 (nI s) (nI h) (nI w) M = some (iI (zsc wt kd h w)) := by
  have h6 := hS.1
  have hb := q_bk_lt hS hh h1 hw
  unfold f_X7_scoreOf f_X7_scoreOf_0
  rw [zgK (k112 k), zbindS (hR.at 112 5 117 (zrm 26 rfl)), zbindS (q_byKind hR hs hS hh h1 hw), zgok (k117 k) (l117 k) (show zbk kd h w < 28 by omega) (by decide), zbindS (q_byDistance N (show h < 7 by omega) (show w < 7 by omega)), zgok (k117 k) (l117 k) zbd_lt (by decide), nI_clamp (by omega), nI_clamp (by have := zbd_lt (h := h) (w := w); omega), (hW _ (show zbk kd h w < 28 by omega)).1, (hW _ zbd_lt).1, iI_add]
  rfl
end QM
/-- the model's crossing is the class's -/
def zbt (p a b : Nat) : Bool := if a < b then decide (a < p ∧ p < b) else decide (b < p ∧ p < a)
def zby (p a b : Nat) : Bool := if a < b then decide (p < a ∨ b < p) else decide (p < b ∨ a < p)
theorem zcr_m : ∀ h, h < 7 → ∀ w, w < 7 → ∀ a, a < 7 → ∀ v, v < 7 → ((zbt w a v && zby h a v) || (zbt h a v && zby w a v)) = zcr h w a v := by decide +kernel
theorem q_isBetween_0 : ∀ p, p < 7 → ∀ a, a < 7 → ∀ b, b < 7 → f_X7_isBetween 0 (nI p) (nI a) (nI b) = some (bif zbt p a b then 1 else 0) := by decide +kernel
theorem q_isBeyond_0 : ∀ p, p < 7 → ∀ a, a < 7 → ∀ b, b < 7 → f_X7_isBeyond 0 (nI p) (nI a) (nI b) = some (bif zby p a b then 1 else 0) := by decide +kernel
theorem q_isBetween (N : Nat) {p a b : Nat} (hp : p < 7) (ha : a < 7) (hb : b < 7) : f_X7_isBetween N (nI p) (nI a) (nI b) = some (bif zbt p a b then 1 else 0) := q_isBetween_0 p hp a ha b hb
theorem q_isBeyond (N : Nat) {p a b : Nat} (hp : p < 7) (ha : a < 7) (hb : b < 7) : f_X7_isBeyond N (nI p) (nI a) (nI b) = some (bif zby p a b then 1 else 0) := q_isBeyond_0 p hp a ha b hb
theorem q_doCross {N k : Nat} {sw : Bool} {M : ZM} (hR : zRf sw k (zR M)) {h w a v : Nat} (hh : h < 7) (hw : w < 7) (ha : a < 7) (hv : v < 7) (eh : zI M 125 w = nI h) (ea : zI M 125 v = nI a) : f_X7_doCross N (zKs k) (zln k) 112 (nI w) (nI v) M = some (bif zcr h w a v then 1 else 0) := by
  rw [← zcr_m h hh w hw a ha v hv]
  have h30 : f_X7_doCross_30 N (zKs k) (zln k) 112 (nI w) (nI v) (nI a) M = some (bif (zbt h a v && zby w a v) then 1 else 0) := by
    unfold f_X7_doCross_30
    rw [zgK (k112 k), zbindS (hR.at 112 18 125 (zrm 34 rfl)), zgok (k125 k) (l125 k) hw (by decide), nI_clamp (by omega), eh, zbindS (q_isBetween N hh ha hv)]
    cases zbt h a v with
    | false => rw [cond_false, if_pos rfl]; rfl
    | true =>
      rw [cond_true, if_neg one_ne0, zbindS (q_isBeyond N hw ha hv)]
      cases zby w a v with
      | false => rw [cond_false, if_pos rfl]; rfl
      | true => rw [cond_true, if_neg one_ne0]; rfl
  unfold f_X7_doCross f_X7_doCross_0
  rw [zgK (k112 k), zbindS (hR.at 112 18 125 (zrm 34 rfl)), zgok (k125 k) (l125 k) hv (by decide), nI_clamp (by omega), ea, zbindS (q_isBetween N hw ha hv)]
  cases zbt w a v with
  | false => rw [cond_false, if_pos rfl, h30]; rfl
  | true =>
    rw [cond_true, if_neg one_ne0, zgok (k125 k) (l125 k) hw (by decide), nI_clamp (by omega), eh, zbindS (q_isBeyond N hh ha hv)]
    cases zby h a v with
    | false => rw [cond_false, if_pos rfl, h30]; rfl
    | true => rw [cond_true, if_neg one_ne0]; rfl
