/-! ARGUMENTS: sentences, words, arcs, features. -/
theorem zi_lt1 {p : Int32} : p < 1 ↔ p ≤ 0 := by
  rw [Int32.lt_iff_toInt_lt, Int32.le_iff_toInt_le, show (1 : Int32).toInt = 1 by decide, show (0 : Int32).toInt = 0 by decide]
  omega
theorem zix1 (p : Int32) {k : Nat} (hk : k ≤ 5) : (p < 0 ∨ nI k ≤ p) ∨ ∃ s, s < k ∧ p = nI s := by
  rcases pk_ix p (n := k) (by omega) with q | q | ⟨s, h, e⟩
  · exact Or.inl (Or.inl q)
  · exact Or.inl (Or.inr q)
  · exact Or.inr ⟨s, h, e⟩
theorem zix2 (p : Int32) {n : Nat} (hn : n ≤ 6) : (p ≤ 0 ∨ nI n < p) ∨ ∃ w, 1 ≤ w ∧ w ≤ n ∧ p = nI w := by
  rcases pk_ix p (n := n + 1) (by omega) with q | q | ⟨w, h, e⟩
  · exact Or.inl (Or.inl (by
      rw [Int32.lt_iff_toInt_lt] at q
      rw [Int32.le_iff_toInt_le]
      omega))
  · refine Or.inl (Or.inr ?_)
    rw [Int32.le_iff_toInt_le, nI_toInt (by omega)] at q
    rw [Int32.lt_iff_toInt_lt, nI_toInt (by omega)]
    omega
  · rcases Nat.eq_zero_or_pos w with z | z
    · subst z; rw [e]; exact Or.inl (Or.inl (by decide +kernel))
    · exact Or.inr ⟨w, z, by omega, e⟩
theorem zix3 (p : Int32) {n : Nat} (hn : n ≤ 6) : (p < 0 ∨ nI n < p) ∨ ∃ h, h ≤ n ∧ p = nI h := by
  rcases pk_ix p (n := n + 1) (by omega) with q | q | ⟨w, h, e⟩
  · exact Or.inl (Or.inl q)
  · refine Or.inl (Or.inr ?_)
    rw [Int32.le_iff_toInt_le, nI_toInt (by omega)] at q
    rw [Int32.lt_iff_toInt_lt, nI_toInt (by omega)]
    omega
  · exact Or.inr ⟨w, by omega, e⟩
theorem zn_le {p q : Int32} (h : p < q) : ¬ q ≤ p := fun z => by
  rw [Int32.lt_iff_toInt_lt] at h
  rw [Int32.le_iff_toInt_le] at z
  omega
theorem zn_lt {p q : Int32} (h : p ≤ q) : ¬ q < p := fun z => by
  rw [Int32.lt_iff_toInt_lt] at z
  rw [Int32.le_iff_toInt_le] at h
  omega
section AR
variable {N k s n : Nat} {sw : Bool} {M : ZM}
theorem s_find_ok (hR : zRf sw k (zR M)) (hk : k ≤ 5) (hs : s < k) : f_X6_find N (zKs k) (zln k) 0 (nI s) M = some (Sum.inr (128 + 11 * s)) := by
  unfold f_X6_find f_X6_find_0
  rw [if_neg (nI_pos (by omega)), zgK (k0 k), zbindS (hR.at 0 0 1 (zrm 0 rfl)), zgarr (k1 k) (by decide) (by decide), l1, if_pos (show nI s < Int32.ofNat 5 from nI_lt (b := 5) (by omega) (by omega)), zgok (k1 k) (l1 k) (show s < 5 by omega) (by decide), nI_clamp (by omega), (hR.2.2.1 s hs).1]
  rfl
theorem s_find_no (hR : zRf sw k (zR M)) (hk : k ≤ 5) {p : Int32} (hp : p < 0 ∨ nI k ≤ p) : f_X6_find N (zKs k) (zln k) 0 p M = some (Sum.inl 1) := by
  unfold f_X6_find f_X6_find_0
  by_cases h0 : p < 0
  · rw [if_pos h0]; rfl
  · have hp := hp.resolve_left h0
    rw [if_neg h0, zgK (k0 k), zbindS (hR.at 0 0 1 (zrm 0 rfl)), zgarr (k1 k) (by decide) (by decide), l1]
    rcases pk_ix p (n := 5) (by decide) with q | q | ⟨s, h, e⟩
    · exact absurd q h0
    · rw [if_neg (show ¬ p < Int32.ofNat 5 from zn_lt q)]; rfl
    · subst e
      have hks : k ≤ s := (nI_leI (by omega) (by omega)).mp hp
      rw [if_pos (show nI s < Int32.ofNat 5 from nI_lt (b := 5) h (by omega)), zgok (k1 k) (l1 k) h (by decide), nI_clamp (by omega), hR.2.2.2.1 s hks]
      rfl
theorem s_word_ok (hs : s < k) (hn : zI M (128 + 11 * s) 3 = nI n) (h6 : n ≤ 6) {w : Nat} (h1 : 1 ≤ w) (h2 : w ≤ n) : f_X6_checkWord N (zKs k) (zln k) (128 + 11 * s) (nI w) M = some (Sum.inr ()) := by
  unfold f_X6_checkWord f_X6_checkWord_0
  rw [if_neg (show ¬ nI w < (1 : Int32) from nI_nlt (b := 1) h1 (by omega)), zbindS (s_size hs hn), zgK (ks0 hs), if_pos (nI_le h2 (by omega))]
theorem s_word_no (hs : s < k) (hn : zI M (128 + 11 * s) 3 = nI n) {p : Int32} (hp : p ≤ 0 ∨ nI n < p) : f_X6_checkWord N (zKs k) (zln k) (128 + 11 * s) p M = some (Sum.inl 1) := by
  unfold f_X6_checkWord f_X6_checkWord_0
  by_cases h : p < 1
  · rw [if_pos h]; rfl
  · rw [if_neg h, zbindS (s_size hs hn), zgK (ks0 hs), if_neg (zn_le (hp.resolve_left (fun q => h (zi_lt1.mpr q))))]
    rfl
theorem s_arc_ok (hs : s < k) (hn : zI M (128 + 11 * s) 3 = nI n) (h6 : n ≤ 6) {h w : Nat} (hh : h ≤ n) (h1 : 1 ≤ w) (h2 : w ≤ n) : f_X6_checkArc N (zKs k) (zln k) (128 + 11 * s) (nI h) (nI w) M = if h = w then some (Sum.inl 2) else some (Sum.inr ()) := by
  unfold f_X6_checkArc f_X6_checkArc_0
  rw [if_neg (nI_pos (by omega)), zbindS (s_size hs hn), zgK (ks0 hs), if_pos (nI_le hh (by omega)), zbindS (s_word_ok hs hn h6 h1 h2)]
  show (if nI h = nI w then _ else _) = _
  by_cases e : h = w
  · rw [if_pos (by rw [e]), if_pos e]
  · rw [if_neg (fun q => e ((nI_eq (by omega) (by omega)).mp q)), if_neg e]
theorem s_arc_no (hs : s < k) (hn : zI M (128 + 11 * s) 3 = nI n) (h6 : n ≤ 6) {p q : Int32} (hp : (p < 0 ∨ nI n < p) ∨ ((∃ h, h ≤ n ∧ p = nI h) ∧ (q ≤ 0 ∨ nI n < q))) : f_X6_checkArc N (zKs k) (zln k) (128 + 11 * s) p q M = some (Sum.inl 1) := by
  unfold f_X6_checkArc f_X6_checkArc_0
  by_cases h0 : p < 0
  · rw [if_pos h0]; rfl
  · rw [if_neg h0, zbindS (s_size hs hn), zgK (ks0 hs)]
    rcases hp with hp | ⟨⟨h, hh, e⟩, hq⟩
    · rw [if_neg (zn_le (hp.resolve_left h0))]; rfl
    · rw [if_pos (by rw [e]; exact nI_le hh (by omega)), zbindS (s_word_no hs hn hq)]; rfl
theorem zixF (p : Int32) : (p < 0 ∨ (28 : Int32) ≤ p) ∨ ∃ f, f < 28 ∧ p = nI f := by
  rcases pk_ix p (n := 28) (by decide) with q | q | h
  · exact Or.inl (Or.inl q)
  · exact Or.inl (Or.inr q)
  · exact Or.inr h
theorem s_feat_ok (N : Nat) {f : Nat} (hf : f < 28) : f_X6_checkFeature N (nI f) = some (Sum.inr ()) := by
  unfold f_X6_checkFeature f_X6_checkFeature_0
  rw [if_neg (nI_pos (by omega)), if_pos (show nI f < (28 : Int32) from nI_lt (b := 28) hf (by omega))]
theorem s_feat_no (N : Nat) {p : Int32} (hp : p < 0 ∨ (28 : Int32) ≤ p) : f_X6_checkFeature N p = some (Sum.inl 1) := by
  unfold f_X6_checkFeature f_X6_checkFeature_0
  by_cases h0 : p < 0
  · rw [if_pos h0]; rfl
  · rw [if_neg h0, if_neg (zn_lt (hp.resolve_left h0))]; rfl
/-! .. and the model's -/
theorem q_asks0 : f_X7_asks N (zKs k) (zln k) 112 0 M = some (0, zsI M 112 19 1) := by
  unfold f_X7_asks f_X7_asks_0
  rw [if_pos rfl]
  unfold f_X7_asks_10
  rw [zgK (k112 k), zlS]
  rfl
theorem q_asks1 : f_X7_asks N (zKs k) (zln k) 112 1 M = some (1, zsI M 112 19 0) := by
  unfold f_X7_asks f_X7_asks_0
  rw [if_neg one_ne0]
  unfold f_X7_asks_10
  rw [zgK (k112 k), zlS]
  rfl
theorem q_fails (v : Int32) : f_X7_fails N (zKs k) (zln k) 112 v M = some (0, zsI M 112 19 v) := by
  unfold f_X7_fails f_X7_fails_0
  rw [zgK (k112 k), zlS]
theorem q_sen_ok (h0 : zI M 112 0 = nI k) (hk : k ≤ 5) (hs : s < k) : f_X7_isSentence N (zKs k) (zln k) 112 (nI s) M = some 1 := by
  unfold f_X7_isSentence f_X7_isSentence_0
  rw [if_neg (nI_pos (by omega)), zgK (k112 k), h0, if_neg (nI_ge hs (by omega))]
theorem q_sen_no (h0 : zI M 112 0 = nI k) {p : Int32} (hp : p < 0 ∨ nI k ≤ p) : f_X7_isSentence N (zKs k) (zln k) 112 p M = some 0 := by
  unfold f_X7_isSentence f_X7_isSentence_0
  by_cases h : p < 0
  · rw [if_pos h]
  · rw [if_neg h, zgK (k112 k), h0, if_pos (hp.resolve_left h)]
theorem q_word_ok (hR : zRf sw k (zR M)) (h0 : zI M 112 0 = nI k) (hk : k ≤ 5) (hs : s < k) (hn : zI M 113 s = nI n) (h6 : n ≤ 6) {w : Nat} (h1 : 1 ≤ w) (h2 : w ≤ n) : f_X7_isWord N (zKs k) (zln k) 112 (nI s) (nI w) M = some 1 := by
  unfold f_X7_isWord f_X7_isWord_0
  rw [zbindS (q_sen_ok h0 hk hs), zgK (k112 k), if_neg one_ne0, if_neg (nI_nle (by omega) (by omega)), zbindS (hR.at 112 1 113 (zrm 22 rfl)), zgok (k113 k) (l113 k) (show s < 5 by omega) (by decide), nI_clamp (by omega), hn, if_neg (nI_nlt h2 (by omega))]
theorem q_word_no (hR : zRf sw k (zR M)) (h0 : zI M 112 0 = nI k) (hk : k ≤ 5) (hs : s < k) (hn : zI M 113 s = nI n) {p : Int32} (hp : p ≤ 0 ∨ nI n < p) : f_X7_isWord N (zKs k) (zln k) 112 (nI s) p M = some 0 := by
  unfold f_X7_isWord f_X7_isWord_0
  rw [zbindS (q_sen_ok h0 hk hs), zgK (k112 k), if_neg one_ne0]
  by_cases h : p ≤ 0
  · rw [if_pos h]
  · rw [if_neg h, zbindS (hR.at 112 1 113 (zrm 22 rfl)), zgok (k113 k) (l113 k) (show s < 5 by omega) (by decide), nI_clamp (by omega), hn, if_pos (hp.resolve_left h)]
theorem q_word_nos (h0 : zI M 112 0 = nI k) {p q : Int32} (hp : p < 0 ∨ nI k ≤ p) : f_X7_isWord N (zKs k) (zln k) 112 p q M = some 0 := by
  unfold f_X7_isWord f_X7_isWord_0
  rw [zbindS (q_sen_no h0 hp), zgK (k112 k), if_pos rfl]
theorem q_place_ok (hR : zRf sw k (zR M)) (h0 : zI M 112 0 = nI k) (hk : k ≤ 5) (hs : s < k) (hn : zI M 113 s = nI n) (h6 : n ≤ 6) {h : Nat} (hh : h ≤ n) : f_X7_isPlace N (zKs k) (zln k) 112 (nI s) (nI h) M = some 1 := by
  unfold f_X7_isPlace f_X7_isPlace_0
  rw [zbindS (q_sen_ok h0 hk hs), zgK (k112 k), if_neg one_ne0, if_neg (nI_pos (by omega)), zbindS (hR.at 112 1 113 (zrm 22 rfl)), zgok (k113 k) (l113 k) (show s < 5 by omega) (by decide), nI_clamp (by omega), hn, if_neg (nI_nlt hh (by omega))]
theorem q_place_no (hR : zRf sw k (zR M)) (h0 : zI M 112 0 = nI k) (hk : k ≤ 5) (hs : s < k) (hn : zI M 113 s = nI n) {p : Int32} (hp : p < 0 ∨ nI n < p) : f_X7_isPlace N (zKs k) (zln k) 112 (nI s) p M = some 0 := by
  unfold f_X7_isPlace f_X7_isPlace_0
  rw [zbindS (q_sen_ok h0 hk hs), zgK (k112 k), if_neg one_ne0]
  by_cases h : p < 0
  · rw [if_pos h]
  · rw [if_neg h, zbindS (hR.at 112 1 113 (zrm 22 rfl)), zgok (k113 k) (l113 k) (show s < 5 by omega) (by decide), nI_clamp (by omega), hn, if_pos (hp.resolve_left h)]
theorem q_place_nos (h0 : zI M 112 0 = nI k) {p q : Int32} (hp : p < 0 ∨ nI k ≤ p) : f_X7_isPlace N (zKs k) (zln k) 112 p q M = some 0 := by
  unfold f_X7_isPlace f_X7_isPlace_0
  rw [zbindS (q_sen_no h0 hp), zgK (k112 k), if_pos rfl]
theorem q_arc33 (v : Int32) : f_X7_asksArc_33 N (zKs k) (zln k) 112 v 112 M = some (if v = 0 then 1 else 0, zsI M 112 19 v) := by
  unfold f_X7_asksArc_33
  rw [zgK (k112 k), zlS, zgK (k112 k), show zI (zsI M 112 19 v) 112 19 = v from rfl]
  by_cases h : v = 0
  · simp only [if_pos h]
  · simp only [if_neg h]
theorem q_arc_ok (hR : zRf sw k (zR M)) (h0 : zI M 112 0 = nI k) (hk : k ≤ 5) (hs : s < k) (hn : zI M 113 s = nI n) (h6 : n ≤ 6) {h w : Nat} (hh : h ≤ n) (h1 : 1 ≤ w) (h2 : w ≤ n) : f_X7_asksArc N (zKs k) (zln k) 112 (nI s) (nI h) (nI w) M = if h = w then some (0, zsI M 112 19 2) else some (1, zsI M 112 19 0) := by
  unfold f_X7_asksArc f_X7_asksArc_0
  rw [zbindS (q_place_ok hR h0 hk hs hn h6 hh), zgK (k112 k), if_neg one_ne0, zbindS (q_word_ok hR h0 hk hs hn h6 h1 h2), if_neg one_ne0]
  by_cases e : h = w
  · rw [if_pos (by rw [e]), if_pos e, q_arc33]; rfl
  · rw [if_neg (fun q => e ((nI_eq (by omega) (by omega)).mp q)), if_neg e, q_arc33]; rfl
theorem q_arc_no (hR : zRf sw k (zR M)) (h0 : zI M 112 0 = nI k) (hk : k ≤ 5) (hs : s < k) (hn : zI M 113 s = nI n) (h6 : n ≤ 6) {p q : Int32} (hp : (p < 0 ∨ nI n < p) ∨ ((∃ h, h ≤ n ∧ p = nI h) ∧ (q ≤ 0 ∨ nI n < q))) : f_X7_asksArc N (zKs k) (zln k) 112 (nI s) p q M = some (0, zsI M 112 19 1) := by
  unfold f_X7_asksArc f_X7_asksArc_0
  rcases hp with hp | ⟨⟨h, hh, e⟩, hq⟩
  · rw [zbindS (q_place_no hR h0 hk hs hn hp), zgK (k112 k), if_pos rfl]
    unfold f_X7_asksArc_19
    rw [q_arc33]; rfl
  · subst e
    rw [zbindS (q_place_ok hR h0 hk hs hn h6 hh), zgK (k112 k), if_neg one_ne0, zbindS (q_word_no hR h0 hk hs hn hq), if_pos rfl]
    unfold f_X7_asksArc_19
    rw [q_arc33]; rfl
theorem q_arc_nos (h0 : zI M 112 0 = nI k) {p q r : Int32} (hp : p < 0 ∨ nI k ≤ p) : f_X7_asksArc N (zKs k) (zln k) 112 p q r M = some (0, zsI M 112 19 1) := by
  unfold f_X7_asksArc f_X7_asksArc_0
  rw [zbindS (q_place_nos h0 hp), zgK (k112 k), if_pos rfl]
  unfold f_X7_asksArc_19
  rw [q_arc33]; rfl
/-- an arc's arguments -/
theorem zix4 (p q : Int32) {n : Nat} (hn : n ≤ 6) : ((p < 0 ∨ nI n < p) ∨ ((∃ h, h ≤ n ∧ p = nI h) ∧ (q ≤ 0 ∨ nI n < q))) ∨ ∃ h w, h ≤ n ∧ 1 ≤ w ∧ w ≤ n ∧ p = nI h ∧ q = nI w := by
  rcases zix3 p hn with h | ⟨h, hh, e⟩
  · exact Or.inl (Or.inl h)
  · rcases zix2 q hn with z | ⟨w, h1, h2, e2⟩
    · exact Or.inl (Or.inr ⟨⟨h, hh, e⟩, z⟩)
    · exact Or.inr ⟨h, w, hh, h1, h2, e, e2⟩
theorem nI_long {n : Nat} (h : n < 2147483648) : (nI n).toInt64 = lI n := by rw [nI_iI, iI_long (by omega) (by omega)]
end AR
