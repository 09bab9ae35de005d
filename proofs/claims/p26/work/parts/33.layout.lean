/-! WHERE THINGS LIE (by program: wip/whole/gen/genlay.py). kN, lN: kind and length of the place N; kr, lr: of a row of places. -/
theorem k0 (k : Nat) : zKs k 0 = 7 := (zKs_low k 0 (by decide)).trans (by decide +kernel)
theorem k1 (k : Nat) : zKs k 1 = 14 := (zKs_low k 1 (by decide)).trans (by decide +kernel)
theorem k2 (k : Nat) : zKs k 2 = 6 := (zKs_low k 2 (by decide)).trans (by decide +kernel)
theorem k3 (k : Nat) : zKs k 3 = 11 := (zKs_low k 3 (by decide)).trans (by decide +kernel)
theorem k4 (k : Nat) : zKs k 4 = 12 := (zKs_low k 4 (by decide)).trans (by decide +kernel)
theorem k5 (k : Nat) : zKs k 5 = 15 := (zKs_low k 5 (by decide)).trans (by decide +kernel)
theorem k26 (k : Nat) : zKs k 26 = 16 := (zKs_low k 26 (by decide)).trans (by decide +kernel)
theorem k47 (k : Nat) : zKs k 47 = 11 := (zKs_low k 47 (by decide)).trans (by decide +kernel)
theorem k48 (k : Nat) : zKs k 48 = 1 := (zKs_low k 48 (by decide)).trans (by decide +kernel)
theorem k49 (k : Nat) : zKs k 49 = 16 := (zKs_low k 49 (by decide)).trans (by decide +kernel)
theorem k57 (k : Nat) : zKs k 57 = 4 := (zKs_low k 57 (by decide)).trans (by decide +kernel)
theorem k58 (k : Nat) : zKs k 58 = 16 := (zKs_low k 58 (by decide)).trans (by decide +kernel)
theorem k66 (k : Nat) : zKs k 66 = 16 := (zKs_low k 66 (by decide)).trans (by decide +kernel)
theorem k74 (k : Nat) : zKs k 74 = 16 := (zKs_low k 74 (by decide)).trans (by decide +kernel)
theorem k82 (k : Nat) : zKs k 82 = 16 := (zKs_low k 82 (by decide)).trans (by decide +kernel)
theorem k90 (k : Nat) : zKs k 90 = 2 := (zKs_low k 90 (by decide)).trans (by decide +kernel)
theorem k91 (k : Nat) : zKs k 91 = 16 := (zKs_low k 91 (by decide)).trans (by decide +kernel)
theorem k99 (k : Nat) : zKs k 99 = 16 := (zKs_low k 99 (by decide)).trans (by decide +kernel)
theorem k107 (k : Nat) : zKs k 107 = 11 := (zKs_low k 107 (by decide)).trans (by decide +kernel)
theorem k108 (k : Nat) : zKs k 108 = 11 := (zKs_low k 108 (by decide)).trans (by decide +kernel)
theorem k109 (k : Nat) : zKs k 109 = 5 := (zKs_low k 109 (by decide)).trans (by decide +kernel)
theorem k110 (k : Nat) : zKs k 110 = 12 := (zKs_low k 110 (by decide)).trans (by decide +kernel)
theorem k111 (k : Nat) : zKs k 111 = 11 := (zKs_low k 111 (by decide)).trans (by decide +kernel)
theorem l1 (k : Nat) : zln k 1 = 5 := (zln_low k 1 (by decide)).trans (by decide +kernel)
theorem l3 (k : Nat) : zln k 3 = 28 := (zln_low k 3 (by decide)).trans (by decide +kernel)
theorem l4 (k : Nat) : zln k 4 = 28 := (zln_low k 4 (by decide)).trans (by decide +kernel)
theorem l5 (k : Nat) : zln k 5 = 20 := (zln_low k 5 (by decide)).trans (by decide +kernel)
theorem l26 (k : Nat) : zln k 26 = 20 := (zln_low k 26 (by decide)).trans (by decide +kernel)
theorem l47 (k : Nat) : zln k 47 = 20 := (zln_low k 47 (by decide)).trans (by decide +kernel)
theorem l49 (k : Nat) : zln k 49 = 7 := (zln_low k 49 (by decide)).trans (by decide +kernel)
theorem l58 (k : Nat) : zln k 58 = 7 := (zln_low k 58 (by decide)).trans (by decide +kernel)
theorem l66 (k : Nat) : zln k 66 = 7 := (zln_low k 66 (by decide)).trans (by decide +kernel)
theorem l74 (k : Nat) : zln k 74 = 7 := (zln_low k 74 (by decide)).trans (by decide +kernel)
theorem l82 (k : Nat) : zln k 82 = 7 := (zln_low k 82 (by decide)).trans (by decide +kernel)
theorem l91 (k : Nat) : zln k 91 = 7 := (zln_low k 91 (by decide)).trans (by decide +kernel)
theorem l99 (k : Nat) : zln k 99 = 7 := (zln_low k 99 (by decide)).trans (by decide +kernel)
theorem l107 (k : Nat) : zln k 107 = 7 := (zln_low k 107 (by decide)).trans (by decide +kernel)
theorem l108 (k : Nat) : zln k 108 = 7 := (zln_low k 108 (by decide)).trans (by decide +kernel)
theorem l110 (k : Nat) : zln k 110 = 16807 := (zln_low k 110 (by decide)).trans (by decide +kernel)
theorem l111 (k : Nat) : zln k 111 = 7 := (zln_low k 111 (by decide)).trans (by decide +kernel)
theorem kr6_0 : ∀ h, h < 20 → zK0 (6 + h) = 11 := by decide +kernel
theorem kr6 (k : Nat) {h : Nat} (hh : h < 20) : zKs k (6 + h) = 11 := (zKs_low k _ (by omega)).trans (kr6_0 h hh)
theorem lr6_0 : ∀ h, h < 20 → zl0 (6 + h) = 28 := by decide +kernel
theorem lr6 (k : Nat) {h : Nat} (hh : h < 20) : zln k (6 + h) = 28 := (zln_low k _ (by omega)).trans (lr6_0 h hh)
theorem kr27_0 : ∀ h, h < 20 → zK0 (27 + h) = 12 := by decide +kernel
theorem kr27 (k : Nat) {h : Nat} (hh : h < 20) : zKs k (27 + h) = 12 := (zKs_low k _ (by omega)).trans (kr27_0 h hh)
theorem lr27_0 : ∀ h, h < 20 → zl0 (27 + h) = 28 := by decide +kernel
theorem lr27 (k : Nat) {h : Nat} (hh : h < 20) : zln k (27 + h) = 28 := (zln_low k _ (by omega)).trans (lr27_0 h hh)
theorem kr50_0 : ∀ h, h < 7 → zK0 (50 + h) = 12 := by decide +kernel
theorem kr50 (k : Nat) {h : Nat} (hh : h < 7) : zKs k (50 + h) = 12 := (zKs_low k _ (by omega)).trans (kr50_0 h hh)
theorem lr50_0 : ∀ h, h < 7 → zl0 (50 + h) = 7 := by decide +kernel
theorem lr50 (k : Nat) {h : Nat} (hh : h < 7) : zln k (50 + h) = 7 := (zln_low k _ (by omega)).trans (lr50_0 h hh)
theorem kr59_0 : ∀ h, h < 7 → zK0 (59 + h) = 12 := by decide +kernel
theorem kr59 (k : Nat) {h : Nat} (hh : h < 7) : zKs k (59 + h) = 12 := (zKs_low k _ (by omega)).trans (kr59_0 h hh)
theorem lr59_0 : ∀ h, h < 7 → zl0 (59 + h) = 7 := by decide +kernel
theorem lr59 (k : Nat) {h : Nat} (hh : h < 7) : zln k (59 + h) = 7 := (zln_low k _ (by omega)).trans (lr59_0 h hh)
theorem kr67_0 : ∀ h, h < 7 → zK0 (67 + h) = 12 := by decide +kernel
theorem kr67 (k : Nat) {h : Nat} (hh : h < 7) : zKs k (67 + h) = 12 := (zKs_low k _ (by omega)).trans (kr67_0 h hh)
theorem lr67_0 : ∀ h, h < 7 → zl0 (67 + h) = 7 := by decide +kernel
theorem lr67 (k : Nat) {h : Nat} (hh : h < 7) : zln k (67 + h) = 7 := (zln_low k _ (by omega)).trans (lr67_0 h hh)
theorem kr75_0 : ∀ h, h < 7 → zK0 (75 + h) = 12 := by decide +kernel
theorem kr75 (k : Nat) {h : Nat} (hh : h < 7) : zKs k (75 + h) = 12 := (zKs_low k _ (by omega)).trans (kr75_0 h hh)
theorem lr75_0 : ∀ h, h < 7 → zl0 (75 + h) = 7 := by decide +kernel
theorem lr75 (k : Nat) {h : Nat} (hh : h < 7) : zln k (75 + h) = 7 := (zln_low k _ (by omega)).trans (lr75_0 h hh)
theorem kr83_0 : ∀ h, h < 7 → zK0 (83 + h) = 12 := by decide +kernel
theorem kr83 (k : Nat) {h : Nat} (hh : h < 7) : zKs k (83 + h) = 12 := (zKs_low k _ (by omega)).trans (kr83_0 h hh)
theorem lr83_0 : ∀ h, h < 7 → zl0 (83 + h) = 7 := by decide +kernel
theorem lr83 (k : Nat) {h : Nat} (hh : h < 7) : zln k (83 + h) = 7 := (zln_low k _ (by omega)).trans (lr83_0 h hh)
theorem kr92_0 : ∀ h, h < 7 → zK0 (92 + h) = 12 := by decide +kernel
theorem kr92 (k : Nat) {h : Nat} (hh : h < 7) : zKs k (92 + h) = 12 := (zKs_low k _ (by omega)).trans (kr92_0 h hh)
theorem lr92_0 : ∀ h, h < 7 → zl0 (92 + h) = 7 := by decide +kernel
theorem lr92 (k : Nat) {h : Nat} (hh : h < 7) : zln k (92 + h) = 7 := (zln_low k _ (by omega)).trans (lr92_0 h hh)
theorem kr100_0 : ∀ h, h < 7 → zK0 (100 + h) = 12 := by decide +kernel
theorem kr100 (k : Nat) {h : Nat} (hh : h < 7) : zKs k (100 + h) = 12 := (zKs_low k _ (by omega)).trans (kr100_0 h hh)
theorem lr100_0 : ∀ h, h < 7 → zl0 (100 + h) = 7 := by decide +kernel
theorem lr100 (k : Nat) {h : Nat} (hh : h < 7) : zln k (100 + h) = 7 := (zln_low k _ (by omega)).trans (lr100_0 h hh)
/-- a sentence's places -/
theorem zKs_step (k a : Nat) : zKs (k + 1) a = if a = 115 + 11 * k then 15 else if 115 + 11 * k < a ∧ a ≤ 122 + 11 * k then 11 else if a = 114 + 11 * k then 11 else if a = 113 + 11 * k then 11 else if a = 112 + 11 * k then 3 else zKs k a := by
  show kA_X2_init (va_up (zKs k) (112 + 11 * k) 3) (112 + 11 * k) a = _
  unfold kA_X2_init zmu
  rw [show 112 + 11 * k + 1 + 2 = 115 + 11 * k by omega, show 115 + 11 * k + 7 = 122 + 11 * k by omega, show 112 + 11 * k + 1 + 1 = 114 + 11 * k by omega, show 112 + 11 * k + 1 + 0 = 113 + 11 * k by omega]
  rfl
theorem zln_step (k a : Nat) : zln (k + 1) a = if a = 115 + 11 * k then 7 else if 115 + 11 * k < a ∧ a ≤ 122 + 11 * k then 7 else if a = 114 + 11 * k then 7 else if a = 113 + 11 * k then 7 else zln k a := by
  show lA_X2_init (zln k) (112 + 11 * k) a = _
  unfold lA_X2_init zmu
  rw [show 112 + 11 * k + 1 + 2 = 115 + 11 * k by omega, show 115 + 11 * k + 7 = 122 + 11 * k by omega, show 112 + 11 * k + 1 + 1 = 114 + 11 * k by omega, show 112 + 11 * k + 1 + 0 = 113 + 11 * k by omega]
  rfl
theorem zKs_sen : ∀ (k s c : Nat), s < k → c < 11 → zKs k (112 + 11 * s + c) = if c = 0 then 3 else if c = 3 then 15 else 11
  | 0, s, c, h, _ => absurd h (Nat.not_lt_zero s)
  | k + 1, s, c, h, hc => by
    rw [zKs_step]
    by_cases he : s = k
    · subst he
      rcases (show c = 0 ∨ c = 1 ∨ c = 2 ∨ c = 3 ∨ (4 ≤ c ∧ c ≤ 10) by omega) with rfl | rfl | rfl | rfl | q
      · rw [if_neg (by omega), if_neg (by omega), if_neg (by omega), if_neg (by omega), if_pos (by omega)]; rfl
      · rw [if_neg (by omega), if_neg (by omega), if_neg (by omega), if_pos (by omega)]; rfl
      · rw [if_neg (by omega), if_neg (by omega), if_pos (by omega)]; rfl
      · rw [if_pos (by omega)]; rfl
      · rw [if_neg (by omega), if_pos (by omega), if_neg (by omega), if_neg (by omega)]
    · rw [if_neg (by omega), if_neg (by omega), if_neg (by omega), if_neg (by omega), if_neg (by omega)]
      exact zKs_sen k s c (by omega) hc
theorem zln_sen : ∀ (k s c : Nat), s < k → 0 < c → c < 11 → zln k (112 + 11 * s + c) = 7
  | 0, s, c, h, _, _ => absurd h (Nat.not_lt_zero s)
  | k + 1, s, c, h, h0, hc => by
    rw [zln_step]
    by_cases he : s = k
    · subst he
      rcases (show c = 1 ∨ c = 2 ∨ c = 3 ∨ (4 ≤ c ∧ c ≤ 10) by omega) with rfl | rfl | rfl | q
      · rw [if_neg (by omega), if_neg (by omega), if_neg (by omega), if_pos (by omega)]
      · rw [if_neg (by omega), if_neg (by omega), if_pos (by omega)]
      · rw [if_pos (by omega)]
      · rw [if_neg (by omega), if_pos (by omega)]
    · rw [if_neg (by omega), if_neg (by omega), if_neg (by omega), if_neg (by omega)]
      exact zln_sen k s c (by omega) h0 hc
/-- the references that never change but for Circles' two tables -/
def zrows (sw : Bool) : List (Nat × Nat × Nat) := [(0, 0, 1), (0, 2, 2), (0, 3, 48), (0, 4, 57), (0, 5, 90), (0, 6, 109), (2, 0, 3), (2, 1, 4), (2, 3, 5), (2, 4, 26), (2, 5, 47), (48, 0, 49), (57, 0, 58), (57, 1, 66), (57, 2, 74), (57, 3, 82), (90, 0, if sw then 99 else 91), (90, 1, if sw then 91 else 99), (90, 2, 107), (90, 3, 108), (109, 0, 110), (109, 1, 111)]
/-- rows of rows: place, how many, the first row -/
def ztabs : List (Nat × Nat × Nat) := [(5, 20, 6), (26, 20, 27), (49, 7, 50), (58, 7, 59), (66, 7, 67), (74, 7, 75), (82, 7, 83), (91, 7, 92), (99, 7, 100)]
def zRf (sw : Bool) (k : Nat) (R : Nat → Nat → Option Nat) : Prop :=
  (∀ q ∈ zrows sw, R q.1 q.2.1 = some q.2.2) ∧ (∀ q ∈ ztabs, ∀ h, h < q.2.1 → R q.1 h = some (q.2.2 + h)) ∧
  (∀ s, s < k → R 1 s = some (112 + 11 * s) ∧ R (112 + 11 * s) 0 = some (112 + 11 * s + 1) ∧ R (112 + 11 * s) 1 = some (112 + 11 * s + 2) ∧ R (112 + 11 * s) 2 = some (112 + 11 * s + 3) ∧ ∀ h, h < 7 → R (112 + 11 * s + 3) h = some (112 + 11 * s + (4 + h))) ∧
  (∀ s, k ≤ s → R 1 s = none) ∧ (∀ a i r, a < 112 + 11 * k → R a i = some r → r < 112 + 11 * k)
theorem zRf.at {sw : Bool} {k : Nat} {R : Nat → Nat → Option Nat} (h : zRf sw k R) (a i r : Nat) (hm : (a, i, r) ∈ zrows sw) : R a i = some r := h.1 (a, i, r) hm
theorem zRf.row {sw : Bool} {k : Nat} {R : Nat → Nat → Option Nat} (h : zRf sw k R) (a n r : Nat) (hm : (a, n, r) ∈ ztabs) {i : Nat} (hi : i < n) : R a i = some (r + i) := h.2.1 (a, n, r) hm i hi
theorem zrm {sw : Bool} (i : Nat) {q : Nat × Nat × Nat} (h : (zrows sw)[i]? = some q) : q ∈ zrows sw := List.mem_of_getElem? h
