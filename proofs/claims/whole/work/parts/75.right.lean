/-! WHETHER THE RIGHT HEADS MAKE A TREE. -/
/-- up by right heads; 7 where none is told -/
def zrg (rh : Nat → Int32) (p : Nat) : Nat := if p = 0 ∨ p = 7 then p else if rh p = -1 then 7 else (rh p).toNatClampNeg
def zen (p : Nat) : Int32 := if p = 7 then -1 else nI p
theorem zen_0 {p : Nat} (h : p ≤ 7) : zen p = 0 ↔ p = 0 := by
  unfold zen
  by_cases q : p = 7
  · rw [if_pos q]
    exact ⟨fun z => absurd z (by decide), fun z => by omega⟩
  · rw [if_neg q]
    exact nI_eq (b := 0) (by omega) (by decide)
theorem zen_le {p : Nat} (h : p ≤ 7) : zen p ≤ 0 ↔ (p = 0 ∨ p = 7) := by
  unfold zen
  by_cases q : p = 7
  · rw [if_pos q]
    exact ⟨fun _ => Or.inr q, fun _ => by decide⟩
  · rw [if_neg q]
    constructor
    · intro z
      rcases Nat.eq_zero_or_pos p with y | y
      · exact Or.inl y
      · exact absurd z (nI_nle y (by omega))
    · rintro (z | z)
      · rw [z]; decide +kernel
      · exact absurd z q
section RT
variable {n : Nat} {rh : Nat → Int32}
theorem zrg_at (h6 : n ≤ 6) (hr : ∀ w, w < 7 → rh w = -1 ∨ (1 ≤ w ∧ w ≤ n ∧ ∃ h, h ≤ n ∧ rh w = nI h)) {p : Nat} (h1 : 1 ≤ p) (h2 : p ≤ n) : rh p = zen (zrg rh p) ∧ (zrg rh p = 7 ∨ zrg rh p ≤ n) := by
  unfold zrg
  rw [if_neg (by omega)]
  rcases hr p (by omega) with q | ⟨-, -, h, hh, e⟩
  · rw [if_pos q, q]
    exact ⟨rfl, Or.inl rfl⟩
  · rw [e, if_neg (nI_nem1 (by omega)), nI_clamp (by omega)]
    exact ⟨(if_neg (by omega)).symm, Or.inr hh⟩
theorem zrg_ok (h6 : n ≤ 6) (hr : ∀ w, w < 7 → rh w = -1 ∨ (1 ≤ w ∧ w ≤ n ∧ ∃ h, h ≤ n ∧ rh w = nI h)) {p : Nat} (h : p = 7 ∨ p ≤ n) : zrg rh p = 7 ∨ zrg rh p ≤ n := by
  by_cases q : p = 0 ∨ p = 7
  · unfold zrg
    rw [if_pos q]; exact h
  · exact (zrg_at h6 hr (by omega) (by omega)).2
theorem zrg_its (h6 : n ≤ 6) (hr : ∀ w, w < 7 → rh w = -1 ∨ (1 ≤ w ∧ w ≤ n ∧ ∃ h, h ≤ n ∧ rh w = nI h)) : ∀ (k p : Nat), (p = 7 ∨ p ≤ n) → zits (zrg rh) k p = 7 ∨ zits (zrg rh) k p ≤ n
  | 0, p, h => h
  | k + 1, p, h => zrg_its h6 hr k _ (zrg_ok h6 hr h)
theorem zrg_0 : zrg rh 0 = 0 := if_pos (Or.inl rfl)
theorem zrg_7 : zrg rh 7 = 7 := if_pos (Or.inr rfl)
theorem zits_7 : ∀ k, zits (zrg rh) k 7 = 7
  | 0 => rfl
  | k + 1 => by show zits (zrg rh) k (zrg rh 7) = 7; rw [zrg_7]; exact zits_7 k
/-- as many steps as words do as well as 6 -/
theorem zright (h6 : n ≤ 6) (hr : ∀ w, w < 7 → rh w = -1 ∨ (1 ≤ w ∧ w ≤ n ∧ ∃ h, h ≤ n ∧ rh w = nI h)) {w : Nat} (h1 : 1 ≤ w) (h2 : w ≤ n) : zits (zrg rh) n w = 0 ↔ zits (zrg rh) 6 w = 0 := by
  constructor
  · intro h
    rw [show 6 = n + (6 - n) by omega, zits_add, h]
    exact zits_0 zrg_0 _
  · intro h
    refine Decidable.byContradiction fun hn => ?_
    have hin : ∀ i, i ≤ n → 1 ≤ zits (zrg rh) i w ∧ zits (zrg rh) i w ≤ n := fun i hi => by
      rcases zrg_its h6 hr i w (Or.inr h2) with q | q
      · exfalso
        rw [show 6 = i + (6 - i) by omega, zits_add, q, zits_7] at h
        cases h
      · refine ⟨?_, q⟩
        rcases Nat.eq_zero_or_pos (zits (zrg rh) i w) with z | z
        · exfalso
          apply hn
          rw [show n = i + (n - i) by omega, zits_add, z]
          exact zits_0 zrg_0 _
        · exact z
    obtain ⟨i, x, q1, q2, q3⟩ := zpig n (fun i => zits (zrg rh) i w) hin
    have q3 : zits (zrg rh) i w = zits (zrg rh) x w := q3
    have hP : zits (zrg rh) (x - i) (zits (zrg rh) i w) = zits (zrg rh) i w := by
      rw [← zits_add, show i + (x - i) = x by omega, ← q3]
    have h3 := zits_mul hP 6
    rw [← zits_add] at h3
    have h4 : 6 ≤ (x - i) * 6 := Nat.le_mul_of_pos_left 6 (by omega)
    rw [show i + (x - i) * 6 = 6 + (i + (x - i) * 6 - 6) by omega, zits_add, h, zits_0 zrg_0] at h3
    have := hin i (by omega)
    omega
/-- then every right head is told, and is another place -/
theorem zright_at (h6 : n ≤ 6) (hr : ∀ w, w < 7 → rh w = -1 ∨ (1 ≤ w ∧ w ≤ n ∧ ∃ h, h ≤ n ∧ rh w = nI h)) {w : Nat} (h1 : 1 ≤ w) (h2 : w ≤ n) (h : zits (zrg rh) n w = 0) : rh w = nI (zrg rh w) ∧ zrg rh w ≤ n ∧ zrg rh w ≠ w := by
  obtain ⟨e, q⟩ := zrg_at h6 hr h1 h2
  have e0 : zits (zrg rh) (n - 1) (zrg rh w) = 0 := by
    obtain ⟨y, rfl⟩ : ∃ y, n = y + 1 := ⟨n - 1, by omega⟩
    exact h
  rcases q with q | q
  · rw [q, zits_7] at e0
    cases e0
  · refine ⟨e.trans (if_neg (by omega)), q, fun z => ?_⟩
    have stay : ∀ i, zits (zrg rh) i w = w := by
      intro i
      induction i with
      | zero => rfl
      | succ i ih => show zits (zrg rh) i (zrg rh w) = w; rw [z]; exact ih
    rw [stay] at h
    omega
end RT
section RU
variable {N k s n : Nat} {sw : Bool} {rh : Nat → Int32} {M : ZM}
theorem s_right14 (hR : zRf sw k (zR M)) (hs : s < k) (hn : zI M (128 + 11 * s) 3 = nI n) (h6 : n ≤ 6) (hr : ∀ w, w < 7 → rh w = -1 ∨ (1 ≤ w ∧ w ≤ n ∧ ∃ h, h ≤ n ∧ rh w = nI h)) (hrm : ∀ w, w < 7 → zI M (128 + 11 * s + 2) w = rh w) (kh : Nat → Int32 → Option Int32) (w : Nat) : ∀ (d f c p : Nat), c + d = n → d < f → (p = 7 ∨ p ≤ n) → f_X2_hasRightTree_14 N (zKs k) (zln k) kh f (128 + 11 * s) (nI w) (zen p) (nI c) M = if zits (zrg rh) d p = 0 then kh (128 + 11 * s) (nI (w + 1)) else some 0
  | d, 0, c, p, _, hf, _ => absurd hf (Nat.not_lt_zero d)
  | d, f + 1, c, p, hd, hf, hp => by
    have fin : ∀ q, (q = 7 ∨ q ≤ n) → f_X2_hasRightTree_38 N (zKs k) (zln k) kh (128 + 11 * s) (nI w) (zen q) M = if q = 0 then kh (128 + 11 * s) (nI (w + 1)) else some 0 := fun q hq => by
      unfold f_X2_hasRightTree_38
      by_cases e : q = 0
      · rw [if_pos ((zen_0 (by omega)).mpr e), if_pos e, nI_1]
      · rw [if_neg (fun z => e ((zen_0 (by omega)).mp z)), if_neg e]
    rw [f_X2_hasRightTree_14, zgK (ks0 hs), hn]
    cases d with
    | zero =>
      rw [if_pos (nI_le (by omega) (by omega))]
      exact fin p hp
    | succ d =>
      rw [if_neg (nI_ge (by omega) (by omega))]
      by_cases e : p = 0 ∨ p = 7
      · rw [if_pos ((zen_le (by omega)).mpr e), fin p hp]
        rcases e with e | e
        · rw [e, if_pos rfl, if_pos (zits_0 zrg_0 _)]
        · rw [e, if_neg (by decide), if_neg (by rw [zits_7]; decide)]
      · rw [if_neg (fun z => e ((zen_le (by omega)).mp z)), show zen p = nI p from if_neg (by omega), zbindS (s_rightHead hR hs (show p < 7 by omega)), hrm p (by omega), (zrg_at h6 hr (show 1 ≤ p by omega) (by omega)).1, nI_1]
        exact s_right14 hR hs hn h6 hr hrm kh w d f (c + 1) (zrg rh p) (by omega) (by omega) (zrg_ok h6 hr hp)
theorem s_right2 (hN : 10000000 ≤ N) (hR : zRf sw k (zR M)) (hs : s < k) (hn : zI M (128 + 11 * s) 3 = nI n) (h6 : n ≤ 6) (hr : ∀ w, w < 7 → rh w = -1 ∨ (1 ≤ w ∧ w ≤ n ∧ ∃ h, h ≤ n ∧ rh w = nI h)) (hrm : ∀ w, w < 7 → zI M (128 + 11 * s + 2) w = rh w) : ∀ (d f w : Nat), w + d = n + 1 → 1 ≤ w → d < f → ∃ r : Int32, f_X2_hasRightTree_2 N (zKs k) (zln k) f (128 + 11 * s) (nI w) M = some r ∧ ((r = 1 ∧ ∀ x, w ≤ x → x ≤ n → zits (zrg rh) n x = 0) ∨ (r = 0 ∧ ∃ x, w ≤ x ∧ x ≤ n ∧ zits (zrg rh) n x ≠ 0))
  | d, 0, w, _, _, hf => absurd hf (Nat.not_lt_zero d)
  | 0, f + 1, w, hd, h1, _ => by
    refine ⟨1, ?_, Or.inl ⟨rfl, fun x q1 q2 => by omega⟩⟩
    rw [f_X2_hasRightTree_2, zgK (ks0 hs), hn, if_pos (nI_lt (by omega) (by omega))]
  | d + 1, f + 1, w, hd, h1, hf => by
    have e14 := s_right14 (N := N) hR hs hn h6 hr hrm (fun y0 y1 => f_X2_hasRightTree_2 N (zKs k) (zln k) f y0 y1 M) w n N 0 w (by omega) (by omega) (Or.inr (by omega))
    rw [show zen w = nI w from if_neg (by omega)] at e14
    have e2 : f_X2_hasRightTree_2 N (zKs k) (zln k) (f + 1) (128 + 11 * s) (nI w) M = if zits (zrg rh) n w = 0 then f_X2_hasRightTree_2 N (zKs k) (zln k) f (128 + 11 * s) (nI (w + 1)) M else some 0 := by
      rw [f_X2_hasRightTree_2, zgK (ks0 hs), hn, if_neg (nI_nlt (by omega) (by omega))]
      exact e14
    by_cases c : zits (zrg rh) n w = 0
    · obtain ⟨r, e, h⟩ := s_right2 hN hR hs hn h6 hr hrm d f (w + 1) (by omega) (by omega) (by omega)
      refine ⟨r, by rw [e2, if_pos c]; exact e, ?_⟩
      rcases h with ⟨h3, h4⟩ | ⟨h3, x, h4, h5, h7⟩
      · refine Or.inl ⟨h3, fun x q1 q2 => ?_⟩
        by_cases e : x = w
        · rw [e]; exact c
        · exact h4 x (by omega) q2
      · exact Or.inr ⟨h3, x, by omega, h5, h7⟩
    · exact ⟨0, by rw [e2, if_neg c], Or.inr ⟨rfl, w, Nat.le_refl w, by omega, c⟩⟩
theorem q_right20 (hR : zRf sw k (zR M)) (hs5 : s < 5) (h6 : n ≤ 6) (hr : ∀ w, w < 7 → rh w = -1 ∨ (1 ≤ w ∧ w ≤ n ∧ ∃ h, h ≤ n ∧ rh w = nI h)) (hrm : ∀ w, 1 ≤ w → w ≤ n → zI M 116 (7 * s + w) = rh w) (kh : Nat → Int32 → Int32 → Int32 → Option Int32) (w : Nat) (b : Bool) : ∀ (d f c p : Nat), c + d = 6 → d < f → (p = 7 ∨ p ≤ n) → f_X7_isRight_20 N (zKs k) (zln k) kh f 112 (nI s) (bif b then 1 else 0) (nI w) (zen p) (nI c) M = kh 112 (nI s) (bif b && decide (zits (zrg rh) d p = 0) then 1 else 0) (nI (w + 1))
  | d, 0, c, p, _, hf, _ => absurd hf (Nat.not_lt_zero d)
  | d, f + 1, c, p, hd, hf, hp => by
    have fin : ∀ q, (q = 7 ∨ q ≤ n) → f_X7_isRight_52 N (zKs k) (zln k) kh 112 (nI s) (bif b then 1 else 0) (nI w) (zen q) M = kh 112 (nI s) (bif b && decide (q = 0) then 1 else 0) (nI (w + 1)) := fun q hq => by
      unfold f_X7_isRight_52
      cases b with
      | false =>
        rw [cond_false, if_pos rfl, Bool.false_and, cond_false]
        unfold f_X7_isRight_65 f_X7_isRight_66
        rw [nI_1]
      | true =>
        rw [cond_true, if_neg one_ne0, Bool.true_and]
        by_cases e : q = 0
        · rw [if_pos ((zen_0 (by omega)).mpr e), decide_eq_true e, cond_true]
          unfold f_X7_isRight_66
          rw [nI_1]
        · rw [if_neg (fun z => e ((zen_0 (by omega)).mp z)), decide_eq_false e, cond_false]
          unfold f_X7_isRight_65 f_X7_isRight_66
          rw [nI_1]
    rw [f_X7_isRight_20]
    cases d with
    | zero =>
      rw [if_pos (show (6 : Int32) ≤ nI c from nI_le (a := 6) (by omega) (by omega))]
      exact fin p hp
    | succ d =>
      rw [if_neg (show ¬ (6 : Int32) ≤ nI c from nI_ge (b := 6) (by omega) (by omega))]
      by_cases e : p = 0 ∨ p = 7
      · rw [if_pos ((zen_le (by omega)).mpr e), fin p hp]
        rcases e with e | e
        · rw [e, zits_0 zrg_0]
        · rw [e, zits_7]
      · rw [if_neg (fun z => e ((zen_le (by omega)).mp z)), show zen p = nI p from if_neg (by omega), zgK (k112 k), zbindS (hR.at 112 4 116 (zrm 25 rfl)), q_at, zgok (k116 k) (l116 k) (show 7 * s + p < 35 by omega) (by decide), nI_clamp (by omega), hrm p (by omega) (by omega), (zrg_at h6 hr (show 1 ≤ p by omega) (by omega)).1, nI_1]
        exact q_right20 hR hs5 h6 hr hrm kh w b d f (c + 1) (zrg rh p) (by omega) (by omega) (zrg_ok h6 hr hp)
theorem q_right4 (hN : 10000000 ≤ N) (hR : zRf sw k (zR M)) (hs5 : s < 5) (hn : zI M 113 s = nI n) (h6 : n ≤ 6) (hr : ∀ w, w < 7 → rh w = -1 ∨ (1 ≤ w ∧ w ≤ n ∧ ∃ h, h ≤ n ∧ rh w = nI h)) (hrm : ∀ w, 1 ≤ w → w ≤ n → zI M 116 (7 * s + w) = rh w) : ∀ (d f w : Nat) (b : Bool), w + d = n + 1 → 1 ≤ w → d < f → ∃ c : Bool, f_X7_isRight_4 N (zKs k) (zln k) f 112 (nI s) (bif b then 1 else 0) (nI w) M = some (bif c then 1 else 0) ∧ (c = true ↔ b = true ∧ ∀ x, w ≤ x → x ≤ n → zits (zrg rh) 6 x = 0)
  | d, 0, w, b, _, _, hf => absurd hf (Nat.not_lt_zero d)
  | 0, f + 1, w, b, hd, h1, _ => by
    refine ⟨b, ?_, ⟨fun q => ⟨q, fun x q1 q2 => by omega⟩, fun q => q.1⟩⟩
    rw [f_X7_isRight_4, zgK (k112 k), zbindS (hR.at 112 1 113 (zrm 22 rfl)), zgok (k113 k) (l113 k) hs5 (by decide), nI_clamp (by omega), hn, if_pos (nI_lt (by omega) (by omega))]
    cases b <;> rfl
  | d + 1, f + 1, w, b, hd, h1, hf => by
    have e20 := q_right20 (N := N) hR hs5 h6 hr hrm (fun y0 y1 y2 y3 => f_X7_isRight_4 N (zKs k) (zln k) f y0 y1 y2 y3 M) w b 6 N 0 w (by omega) (by omega) (Or.inr (by omega))
    rw [show zen w = nI w from if_neg (by omega)] at e20
    obtain ⟨c, e, h⟩ := q_right4 hN hR hs5 hn h6 hr hrm d f (w + 1) (b && decide (zits (zrg rh) 6 w = 0)) (by omega) (by omega) (by omega)
    refine ⟨c, ?_, h.trans ?_⟩
    · rw [f_X7_isRight_4, zgK (k112 k), zbindS (hR.at 112 1 113 (zrm 22 rfl)), zgok (k113 k) (l113 k) hs5 (by decide), nI_clamp (by omega), hn, if_neg (nI_nlt (by omega) (by omega))]
      exact e20.trans e
    · rw [Bool.and_eq_true, decide_eq_true_eq]
      constructor
      · rintro ⟨⟨q1, q2⟩, q3⟩
        refine ⟨q1, fun x z1 z2 => ?_⟩
        by_cases e : x = w
        · rw [e]; exact q2
        · exact q3 x (by omega) z2
      · rintro ⟨q1, q2⟩
        exact ⟨⟨q1, q2 w (Nat.le_refl w) (by omega)⟩, fun x z1 z2 => q2 x (by omega) z2⟩
end RU
