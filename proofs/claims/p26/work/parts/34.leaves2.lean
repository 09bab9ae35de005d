/-! WHAT THE CLASS'S SMALL METHODS ANSWER. Sentence s stands at 112 + 11 s. -/
theorem s_isPlace (N : Nat) {h : Nat} (hh : h < 7) : f_X6_isPlace N (nI h) = some 1 := by
  unfold f_X6_isPlace f_X6_isPlace_0
  rw [if_neg (nI_pos (by omega)), if_neg (show ¬ (7 : Int32) ≤ nI h from nI_ge (b := 7) hh (by omega))]
theorem s_isFeature (N : Nat) {f : Nat} (hf : f < 28) : f_X5_isFeature N (nI f) = some 1 := by
  unfold f_X5_isFeature f_X5_isFeature_0
  rw [if_neg (nI_pos (by omega)), if_neg (show ¬ (28 : Int32) ≤ nI f from nI_ge (b := 28) hf (by omega))]
theorem nI_nem1 {o : Nat} (h : o < 2 ^ 31) : ¬ nI o = -1 := fun q => by
  have h1 := congrArg Int32.toInt q
  rw [nI_toInt h, show (-1 : Int32).toInt = -1 by decide] at h1
  omega
theorem one_ne0 : ¬ (1 : Int32) = 0 := by decide
section SL
variable {N k s : Nat} {sw : Bool} {M : ZM}
theorem ks0 (hs : s < k) : zKs k (112 + 11 * s) = 3 := (zKs_sen k s 0 hs (by decide)).trans rfl
theorem ks1 (hs : s < k) : zKs k (112 + 11 * s + 1) = 11 := (zKs_sen k s 1 hs (by decide)).trans rfl
theorem ks2 (hs : s < k) : zKs k (112 + 11 * s + 2) = 11 := (zKs_sen k s 2 hs (by decide)).trans rfl
theorem ks3 (hs : s < k) : zKs k (112 + 11 * s + 3) = 15 := (zKs_sen k s 3 hs (by decide)).trans rfl
theorem ks4 (hs : s < k) {h : Nat} (hh : h < 7) : zKs k (112 + 11 * s + (4 + h)) = 11 := (zKs_sen k s (4 + h) hs (by omega)).trans (by rw [if_neg (by omega), if_neg (by omega)])
theorem s_kindAt (hR : zRf sw k (zR M)) (hs : s < k) {h : Nat} (hh : h < 7) : f_X2_kindAt N (zKs k) (zln k) (112 + 11 * s) (nI h) M = some (zI M (112 + 11 * s + 1) h) := by
  unfold f_X2_kindAt f_X2_kindAt_0
  rw [zbindS (s_isPlace N hh), if_neg one_ne0, zgK (ks0 hs), zbindS ((hR.2.2.1 s hs).2.1), zgok (ks1 hs) (zln_sen k s 1 hs (by decide) (by decide)) hh (by decide), nI_clamp (by omega)]
theorem s_byKinds (hR : zRf sw k (zR M)) (hs : s < k) {h w : Nat} (hh : h < 7) (hw : w < 7) : f_X2_byKinds N (zKs k) (zln k) (112 + 11 * s) (nI h) (nI w) M = some (4 * zI M (112 + 11 * s + 1) h + zI M (112 + 11 * s + 1) w) := by
  unfold f_X2_byKinds f_X2_byKinds_0
  rw [zbindS (s_kindAt hR hs hh), zgK (ks0 hs), zbindS (s_kindAt hR hs hw)]
theorem s_rightHead (hR : zRf sw k (zR M)) (hs : s < k) {h : Nat} (hh : h < 7) : f_X2_rightHead N (zKs k) (zln k) (112 + 11 * s) (nI h) M = some (zI M (112 + 11 * s + 2) h) := by
  unfold f_X2_rightHead f_X2_rightHead_0
  rw [zbindS (s_isPlace N hh), if_neg one_ne0, zgK (ks0 hs), zbindS ((hR.2.2.1 s hs).2.2.1), zgok (ks2 hs) (zln_sen k s 2 hs (by decide) (by decide)) hh (by decide), nI_clamp (by omega)]
theorem s_markOf (hR : zRf sw k (zR M)) (hs : s < k) {h w : Nat} (hh : h < 7) (hw : w < 7) : f_X2_markOf N (zKs k) (zln k) (112 + 11 * s) (nI h) (nI w) M = some (zI M (112 + 11 * s + (4 + h)) w) := by
  unfold f_X2_markOf f_X2_markOf_0
  rw [zbindS (s_isPlace N hh), if_neg one_ne0, zbindS (s_isPlace N hw), if_neg one_ne0, zgK (ks0 hs), zbindS ((hR.2.2.1 s hs).2.2.2.1), zgok (ks3 hs) (zln_sen k s 3 hs (by decide) (by decide)) hh (by decide), nI_clamp (by omega), zbindS ((hR.2.2.1 s hs).2.2.2.2 h hh),
    zgok (ks4 hs hh) (zln_sen k s (4 + h) hs (by omega) (by omega)) hw (by decide), nI_clamp (by omega)]
theorem s_size (hs : s < k) {n : Nat} (hn : zI M (112 + 11 * s) 3 = nI n) : f_X2_size N (zKs k) (zln k) (112 + 11 * s) M = some (nI n) := by
  unfold f_X2_size f_X2_size_0
  rw [zgK (ks0 hs), hn]
/-- the first forced head from h on, if there is one -/
theorem s_forced (hR : zRf sw k (zR M)) (hs : s < k) {n w : Nat} (hn : zI M (112 + 11 * s) 3 = nI n) (h6 : n ≤ 6) (hw : w < 7) : ∀ (d f h : Nat), h + d = n + 1 → d < f → ∃ r, f_X2_forcedHead_2 N (zKs k) (zln k) f (112 + 11 * s) (nI w) (nI h) M = some r ∧ ((r = -1 ∧ ∀ o, h ≤ o → o ≤ n → zI M (112 + 11 * s + (4 + o)) w ≠ 1) ∨ ∃ o, h ≤ o ∧ o ≤ n ∧ r = nI o ∧ zI M (112 + 11 * s + (4 + o)) w = 1)
  | d, 0, h, _, hf => absurd hf (Nat.not_lt_zero d)
  | 0, f + 1, h, hd, _ => by
    refine ⟨-1, ?_, Or.inl ⟨rfl, fun o h1 h2 => by omega⟩⟩
    unfold f_X2_forcedHead_2
    rw [zgK (ks0 hs), hn, if_pos (nI_lt (by omega) (by omega))]
  | d + 1, f + 1, h, hd, hf => by
    unfold f_X2_forcedHead_2
    rw [zgK (ks0 hs), hn, if_neg (nI_nlt (by omega) (by omega)), zbindS (s_markOf hR hs (by omega) hw)]
    by_cases h1 : zI M (112 + 11 * s + (4 + h)) w = 1
    · rw [if_pos h1]
      exact ⟨_, rfl, Or.inr ⟨h, Nat.le_refl _, by omega, rfl, h1⟩⟩
    · rw [if_neg h1, show nI h + 1 = nI (h + 1) from nI_1 h]
      obtain ⟨r, e, q⟩ := s_forced hR hs hn h6 hw d f (h + 1) (by omega) (by omega)
      refine ⟨r, e, ?_⟩
      rcases q with ⟨q1, q2⟩ | ⟨o, q1, q2, q3, q4⟩
      · refine Or.inl ⟨q1, fun o h2 h3 => ?_⟩
        by_cases ho : o = h
        · subst ho; exact h1
        · exact q2 o (by omega) h3
      · exact Or.inr ⟨o, by omega, q2, q3, q4⟩
theorem s_forcedHead (hN : 10000000 ≤ N) (hR : zRf sw k (zR M)) (hs : s < k) {n w : Nat} (hn : zI M (112 + 11 * s) 3 = nI n) (h6 : n ≤ 6) (hw : w < 7) : ∃ r, f_X2_forcedHead N (zKs k) (zln k) (112 + 11 * s) (nI w) M = some r ∧ ((r = -1 ∧ ∀ o, o ≤ n → zI M (112 + 11 * s + (4 + o)) w ≠ 1) ∨ ∃ o, o ≤ n ∧ r = nI o ∧ zI M (112 + 11 * s + (4 + o)) w = 1) := by
  obtain ⟨r, e, q⟩ := s_forced (N := N) hR hs hn h6 hw (n + 1) N 0 (by omega) (by omega)
  refine ⟨r, e, ?_⟩
  rcases q with ⟨q1, q2⟩ | ⟨o, -, q2, q3, q4⟩
  · exact Or.inl ⟨q1, fun o h => q2 o (by omega) h⟩
  · exact Or.inr ⟨o, q2, q3, q4⟩
/-- which arcs a sentence of n words with the marks mk allows -/
def zal (mk : Nat → Nat → Int32) (n h w : Nat) : Bool := decide (h ≠ w ∧ mk h w ≠ 2 ∧ ∀ o, o < n + 1 → (o ≠ h → mk o w ≠ 1))
theorem zal_iff {mk : Nat → Nat → Int32} {n h w : Nat} : zal mk n h w = true ↔ h ≠ w ∧ mk h w ≠ 2 ∧ ∀ o, o ≤ n → o ≠ h → mk o w ≠ 1 := by
  unfold zal
  rw [decide_eq_true_eq]
  exact ⟨fun h => ⟨h.1, h.2.1, fun o ho => h.2.2 o (by omega)⟩, fun h => ⟨h.1, h.2.1, fun o ho => h.2.2 o (by omega)⟩⟩
theorem s_allows (hN : 10000000 ≤ N) (hR : zRf sw k (zR M)) (hs : s < k) {n h w : Nat} {mk : Nat → Nat → Int32} (hmk : ∀ h w, h < 7 → w < 7 → zI M (112 + 11 * s + (4 + h)) w = mk h w) (hone : ∀ w o o', w < 7 → o ≤ n → o' ≤ n → mk o w = 1 → mk o' w = 1 → o = o') (hn : zI M (112 + 11 * s) 3 = nI n) (h6 : n ≤ 6) (hh : h ≤ n) (hw : w < 7) : f_X2_allows N (zKs k) (zln k) (112 + 11 * s) (nI h) (nI w) M = some (if zal mk n h w = true then 1 else 0) := by
  unfold f_X2_allows f_X2_allows_0
  by_cases e : h = w
  · subst e
    rw [if_pos rfl, if_neg (fun q => (zal_iff.mp q).1 rfl)]
  · rw [if_neg (fun q => e ((nI_eq (by omega) (by omega)).mp q)), zbindS (s_markOf hR hs (by omega) hw), zgK (ks0 hs), hmk h w (by omega) hw]
    by_cases e2 : mk h w = 2
    · rw [if_pos e2, if_neg (fun q => (zal_iff.mp q).2.1 e2)]
    · rw [if_neg e2]
      obtain ⟨r, er, q⟩ := s_forcedHead hN hR hs hn h6 hw
      rw [zbindS er]
      unfold f_X2_allows_33
      rcases q with ⟨q1, q2⟩ | ⟨o, q1, q2, q3⟩
      · rw [if_pos q1, if_pos (zal_iff.mpr ⟨e, e2, fun o ho _ => by rw [← hmk o w (by omega) hw]; exact q2 o ho⟩)]
      · rw [hmk o w (by omega) hw] at q3
        rw [q2, if_neg (nI_nem1 (show o < 2 ^ 31 by omega))]
        by_cases e3 : o = h
        · subst e3
          rw [if_pos rfl, if_pos (zal_iff.mpr ⟨e, e2, fun o' ho' hne q4 => hne (hone w o' o hw ho' q1 q4 q3)⟩)]
        · rw [if_neg (fun q => e3 ((nI_eq (by omega) (by omega)).mp q)), if_neg (fun q => (zal_iff.mp q).2.2 o q1 e3 q3)]
theorem s_get (hR : zRf sw k (zR M)) {f : Nat} (hf : f < 28) : f_X5_get N (zKs k) (zln k) 2 (nI f) M = some (zI M 3 f) := by
  unfold f_X5_get f_X5_get_0
  rw [zbindS (s_isFeature N hf), if_neg one_ne0, zgK (k2 k), zbindS (hR.at 2 0 3 (zrm 6 rfl)), zgok (k3 k) (l3 k) hf (by decide), nI_clamp (by omega)]
theorem s_put (hR : zRf sw k (zR M)) {f : Nat} (hf : f < 28) (v : Int32) : f_X5_put N (zKs k) (zln k) 2 (nI f) v M = some (zsI M 3 f v) := by
  unfold f_X5_put f_X5_put_0
  rw [zbindS (s_isFeature N hf), if_neg one_ne0, zgK (k2 k), zbindS (hR.at 2 0 3 (zrm 6 rfl)), zgok (k3 k) (l3 k) hf (by decide), nI_clamp (by omega), zlS]
end SL
/-- the feature of an arc by distance -/
def zbd (h w : Nat) : Nat := 18 + 2 * min 4 (if h < w then w - h else h - w) + (if w < h then 1 else 0)
theorem s_byDistance_0 : ∀ h, h < 7 → ∀ w, w < 7 → f_X6_byDistance 0 (nI h) (nI w) = some (nI (zbd h w)) := by decide +kernel
theorem s_byDistance (N : Nat) {h w : Nat} (hh : h < 7) (hw : w < 7) : f_X6_byDistance N (nI h) (nI w) = some (nI (zbd h w)) := s_byDistance_0 h hh w hw
theorem zbd_lt {h w : Nat} : zbd h w < 28 := by
  unfold zbd
  split <;> split <;> omega
