/-! TRYALL, and what is read off its keys. -/
/-- places 48 .. 111 are scratch: nothing else has changed -/
def zScr (k : Nat) (M M' : ZM) : Prop := zD M' = zD M ∧ (∀ a i, (a < 48 ∨ 111 < a) → zI M' a i = zI M a i) ∧ (∀ a i, (a < 48 ∨ 111 < a) → zJ M' a i = zJ M a i) ∧ ∃ sw, zRf sw k (zR M')
theorem zScr_trans {k : Nat} {M M1 M2 : ZM} (h1 : zScr k M M1) (h2 : zScr k M1 M2) : zScr k M M2 := ⟨h2.1.trans h1.1, fun a i h => (h2.2.1 a i h).trans (h1.2.1 a i h), fun a i h => (h2.2.2.1 a i h).trans (h1.2.2.1 a i h), h2.2.2.2⟩
/-- a sentence and the weights, as the class has them -/
def zCl (sw : Bool) (k s n : Nat) (kd : Nat → Nat) (mk : Nat → Nat → Int32) (wt : Nat → Int) (M : ZM) : Prop := zRf sw k (zR M) ∧ s < k ∧ zSen s n kd mk (zI M) ∧ zWts wt (zI M)
theorem zCl_scr {sw : Bool} {k s n : Nat} {kd : Nat → Nat} {mk : Nat → Nat → Int32} {wt : Nat → Int} {M M' : ZM} (h : zCl sw k s n kd mk wt M) (g : zScr k M M') : ∃ sw, zCl sw k s n kd mk wt M' := by
  obtain ⟨g1, g2, g3, sw', g4⟩ := g
  exact ⟨sw', g4, h.2.1, zSen_congr (fun a j ha => g2 a j (by omega)) h.2.2.1, zWts_congr (fun j => g2 3 j (by omega)) h.2.2.2⟩
theorem zsc_b {s n : Nat} {kd : Nat → Nat} {mk : Nat → Nat → Int32} {wt : Nat → Int} {I : Nat → Nat → Int32} (hS : zSen s n kd mk I) (hW : zWts wt I) : ∀ h w, h ≤ n → 1 ≤ w → w ≤ n → -8000 ≤ zsc wt kd h w ∧ zsc wt kd h w ≤ 8000 := fun h w hh h1 hw => by
  have hb := zbk_lt hS hh h1 hw
  have g1 := hW _ (show zbk kd h w < 28 by omega)
  have g2 := hW _ (zbd_lt (h := h) (w := w))
  unfold zsc
  omega
theorem s_tryAll {N k s n : Nat} {sw : Bool} {kd : Nat → Nat} {mk : Nat → Nat → Int32} {wt : Nat → Int} {M : ZM} (hN : 10000000 ≤ N) (h : zCl sw k s n kd mk wt M) (cr : Bool) : ∃ M', f_X6_tryAll N (zKs k) (zln k) 0 (112 + 11 * s) (bif cr then 1 else 0) M = some (109, M') ∧ zScr k M M' ∧ zR M' = zR M ∧ zI M' 109 2 = nI (zT n (zal mk n) cr).length ∧ ∀ i, i < (zT n (zal mk n) cr).length → zJ M' 110 i = lI (zkc (zsc wt kd) ((zT n (zal mk n) cr).getD i [])) := by
  obtain ⟨hR, hk, hS, hW⟩ := h
  have h6 := hS.1
  obtain ⟨M1, e1, i1, r1, d1, j1⟩ := s_fill hN hR hk hS hW
  have hcap : (zT n (zal mk n) cr).length ≤ 16807 := zT_len h6 (fun h w q => (zal_iff.mp q).1) cr
  have hR1 : zRf sw k (zR M1) := by rw [r1]; exact hR
  obtain ⟨M2, e2, g⟩ := s_gives (N := N) (k := k) (sw := sw) (cr := cr) (al := zal mk n) (sc := zsc wt kd) hN h6 (zsc_b hS hW) n 8 [] 0 (zsI M1 109 2 0) (by omega) (by simp) (fun x hx => by cases hx) hR1 ⟨by rw [zI_sI, if_neg (by omega), i1, zI_sI, if_pos ⟨rfl, rfl⟩], fun h w hh hw => by rw [zJ_sI, j1, if_pos (by omega), show 50 + h - 50 = h by omega]⟩ (fun i h1 h2 => by simp at h2; omega) (by rw [zI_sI, if_pos ⟨rfl, rfl⟩]; rfl) (by rw [Nat.zero_add]; exact hcap)
  obtain ⟨a1, a2, a3, a4, a5, a6, a7, a8⟩ := g
  refine ⟨M2, ?_, ⟨a2.trans d1, fun a i ha => ?_, fun a i ha => ?_, sw, by rw [a1]; exact hR1⟩, a1.trans r1, by rw [a5, Nat.zero_add]; rfl, fun i hi => ?_⟩
  · unfold f_X6_tryAll f_X6_tryAll_0
    rw [zgK (k0 k), zbindS (hR.at 0 3 48 (zrm 2 rfl)), zbindS (hR.at 0 2 2 (zrm 1 rfl)), zbindS e1, zgK (k48 k), zbindS (hR1.at 0 6 109 (zrm 5 rfl)), zbindS (hR1.at 0 3 48 (zrm 2 rfl))]
    have er : f_X4_run N (zKs k) (zln k) 109 48 (bif cr then 1 else 0) M1 = some M2 := by
      unfold f_X4_run f_X4_run_0
      rw [zgK (k109 k), zlS]
      exact zbindS e2 _
    have hR2 : zRf sw k (zR M2) := by rw [a1]; exact hR1
    rw [zbindS er, zgK (k109 k), zbindS (hR2.at 0 6 109 (zrm 5 rfl))]
  · rw [a3 a i (by omega) (by omega), zI_sI, if_neg (by omega), i1, zI_sI, if_neg (by omega)]
  · rw [a6 a i (by omega), zJ_sI, j1, if_neg (by omega)]
  · have := a8 i hi
    rw [Nat.zero_add] at this
    exact this
theorem zNK_le (x : Int64) : zNK ≤ x := by
  rw [Int64.le_iff_toInt_le]
  have h1 : zNK.toInt = -9223372036854775808 := by decide +kernel
  have h2 := Int64.minValue_le_toInt x
  have h3 : Int64.minValue.toInt = -9223372036854775808 := by decide +kernel
  omega
section SK
variable {N k c : Nat} {sw : Bool} {M : ZM}
theorem s_tsize : f_X4_size N (zKs k) (zln k) 109 M = some (zI M 109 2) := by
  unfold f_X4_size f_X4_size_0
  rw [zgK (k109 k)]
/-- the greatest of the keys from i on, and of x -/
theorem s_great (hR : zRf sw k (zR M)) (hc : zI M 109 2 = nI c) (hcap : c ≤ 16807) : ∀ (d f i : Nat) (x : Int64), i + d = c → d < f → ∃ r, f_X4_greatest_6 N (zKs k) (zln k) f 109 x (nI i) M = some r ∧ (r = x ∨ ∃ j, i ≤ j ∧ j < c ∧ r = zJ M 110 j) ∧ x ≤ r ∧ ∀ j, i ≤ j → j < c → zJ M 110 j ≤ r
  | d, 0, i, x, _, hf => absurd hf (Nat.not_lt_zero d)
  | 0, f + 1, i, x, hd, _ => by
    refine ⟨x, ?_, Or.inl rfl, Int64.le_refl x, fun j h1 h2 => by omega⟩
    unfold f_X4_greatest_6
    rw [zgK (k109 k), hc, if_pos (nI_le (by omega) (by omega))]
  | d + 1, f + 1, i, x, hd, hf => by
    obtain ⟨r, e, h1, h2, h3⟩ := s_great hR hc hcap d f (i + 1) (if zJ M 110 i < x then x else zJ M 110 i) (by omega) (by omega)
    refine ⟨r, ?_, ?_, ?_, fun j q1 q2 => ?_⟩
    · unfold f_X4_greatest_6
      rw [zgK (k109 k), hc, if_neg (nI_ge (by omega) (by omega)), zbindS (hR.at 109 0 110 (zrm 20 rfl)), zgarr (k110 k) (by decide) (by decide), l110, if_neg (show ¬ Int32.ofNat 16807 ≤ nI i from nI_ge (b := 16807) (by omega) (by omega)), zgok (k110 k) (l110 k) (show i < 16807 by omega) (by decide), nI_clamp (by omega), show nI i + 1 = nI (i + 1) from nI_1 i]
      exact e
    · rcases h1 with h1 | ⟨j, q1, q2, q3⟩
      · by_cases hx : zJ M 110 i < x
        · rw [if_pos hx] at h1; exact Or.inl h1
        · rw [if_neg hx] at h1; exact Or.inr ⟨i, Nat.le_refl _, by omega, h1⟩
      · exact Or.inr ⟨j, by omega, q2, q3⟩
    · by_cases hx : zJ M 110 i < x
      · rw [if_pos hx] at h2; exact h2
      · rw [if_neg hx] at h2
        rw [Int64.lt_iff_toInt_lt] at hx
        rw [Int64.le_iff_toInt_le] at h2 ⊢
        omega
    · by_cases hj : j = i
      · subst hj
        by_cases hx : zJ M 110 j < x
        · rw [if_pos hx] at h2
          rw [Int64.lt_iff_toInt_lt] at hx
          rw [Int64.le_iff_toInt_le] at h2 ⊢
          omega
        · rw [if_neg hx] at h2; exact h2
      · exact h3 j (by omega) q2
theorem s_greatest (hN : 10000000 ≤ N) (hR : zRf sw k (zR M)) (hc : zI M 109 2 = nI c) (hcap : c ≤ 16807) : ∃ r, f_X4_greatest N (zKs k) (zln k) 109 M = some r ∧ (r = zNK ∨ ∃ j, j < c ∧ r = zJ M 110 j) ∧ ∀ j, j < c → zJ M 110 j ≤ r := by
  obtain ⟨r, e, h1, h2, h3⟩ := s_great (N := N) hR hc hcap c N 0 zNK (by omega) (by omega)
  refine ⟨r, e, ?_, fun j h => h3 j (by omega) h⟩
  rcases h1 with h1 | ⟨j, -, q2, q3⟩
  · exact Or.inl h1
  · exact Or.inr ⟨j, q2, q3⟩
/-- the least -/
theorem s_least5 (hR : zRf sw k (zR M)) (hc : zI M 109 2 = nI c) (hcap : c ≤ 16807) : ∀ (d f i : Nat) (x : Int64), i + d = c → d < f → ∃ r, f_X4_least_5 N (zKs k) (zln k) f 109 x (nI i) M = some r ∧ (r = x ∨ ∃ j, i ≤ j ∧ j < c ∧ r = zJ M 110 j) ∧ r ≤ x ∧ ∀ j, i ≤ j → j < c → r ≤ zJ M 110 j
  | d, 0, i, x, _, hf => absurd hf (Nat.not_lt_zero d)
  | 0, f + 1, i, x, hd, _ => by
    refine ⟨x, ?_, Or.inl rfl, Int64.le_refl x, fun j h1 h2 => by omega⟩
    unfold f_X4_least_5
    rw [zgK (k109 k), hc, if_pos (nI_le (by omega) (by omega))]
  | d + 1, f + 1, i, x, hd, hf => by
    obtain ⟨r, e, h1, h2, h3⟩ := s_least5 hR hc hcap d f (i + 1) (if zJ M 110 i < x then zJ M 110 i else x) (by omega) (by omega)
    refine ⟨r, ?_, ?_, ?_, fun j q1 q2 => ?_⟩
    · unfold f_X4_least_5
      rw [zgK (k109 k), hc, if_neg (nI_ge (by omega) (by omega)), zbindS (hR.at 109 0 110 (zrm 20 rfl)), zgarr (k110 k) (by decide) (by decide), l110, if_neg (show ¬ Int32.ofNat 16807 ≤ nI i from nI_ge (b := 16807) (by omega) (by omega)), zgok (k110 k) (l110 k) (show i < 16807 by omega) (by decide), nI_clamp (by omega), show nI i + 1 = nI (i + 1) from nI_1 i]
      exact e
    · rcases h1 with h1 | ⟨j, q1, q2, q3⟩
      · by_cases hx : zJ M 110 i < x
        · rw [if_pos hx] at h1; exact Or.inr ⟨i, Nat.le_refl _, by omega, h1⟩
        · rw [if_neg hx] at h1; exact Or.inl h1
      · exact Or.inr ⟨j, by omega, q2, q3⟩
    · by_cases hx : zJ M 110 i < x
      · rw [if_pos hx] at h2
        rw [Int64.lt_iff_toInt_lt] at hx
        rw [Int64.le_iff_toInt_le] at h2 ⊢
        omega
      · rw [if_neg hx] at h2; exact h2
    · by_cases hj : j = i
      · subst hj
        by_cases hx : zJ M 110 j < x
        · rw [if_pos hx] at h2; exact h2
        · rw [if_neg hx] at h2
          rw [Int64.lt_iff_toInt_lt] at hx
          rw [Int64.le_iff_toInt_le] at h2 ⊢
          omega
      · exact h3 j (by omega) q2
/-- how many keys are above -/
theorem s_count5 (hR : zRf sw k (zR M)) (hc : zI M 109 2 = nI c) (hcap : c ≤ 16807) (key : Int64) : ∀ (d f i a : Nat), i + d = c → d < f → f_X4_countAbove_5 N (zKs k) (zln k) f 109 key (nI a) (nI i) M = some (nI (a + (List.range' i d).countP (fun j => decide (key < zJ M 110 j))))
  | d, 0, i, a, _, hf => absurd hf (Nat.not_lt_zero d)
  | 0, f + 1, i, a, hd, _ => by
    unfold f_X4_countAbove_5
    rw [zgK (k109 k), hc, if_pos (nI_le (by omega) (by omega))]
    rfl
  | d + 1, f + 1, i, a, hd, hf => by
    unfold f_X4_countAbove_5
    rw [zgK (k109 k), hc, if_neg (nI_ge (by omega) (by omega)), zbindS (hR.at 109 0 110 (zrm 20 rfl)), zgarr (k110 k) (by decide) (by decide), l110, if_neg (show ¬ Int32.ofNat 16807 ≤ nI i from nI_ge (b := 16807) (by omega) (by omega)), zgok (k110 k) (l110 k) (show i < 16807 by omega) (by decide), nI_clamp (by omega), List.range'_succ, List.countP_cons]
    unfold f_X4_countAbove_39
    rw [show nI i + 1 = nI (i + 1) from nI_1 i]
    by_cases hx : zJ M 110 i ≤ key
    · rw [if_pos hx]
      refine (s_count5 hR hc hcap key d f (i + 1) a (by omega) (by omega)).trans ?_
      rw [if_neg (by rw [decide_eq_true_eq, Int64.lt_iff_toInt_lt]; rw [Int64.le_iff_toInt_le] at hx; omega)]
      rfl
    · rw [if_neg hx, show nI a + 1 = nI (a + 1) from nI_1 a]
      refine (s_count5 hR hc hcap key d f (i + 1) (a + 1) (by omega) (by omega)).trans ?_
      rw [if_pos (by rw [decide_eq_true_eq, Int64.lt_iff_toInt_lt]; rw [Int64.le_iff_toInt_le] at hx; omega)]
      congr 2
      omega
end SK
