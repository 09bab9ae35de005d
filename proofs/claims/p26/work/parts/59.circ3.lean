/-! CIRCLES in memory: the tables, the taken heads. -/
def zkt (sw : Bool) : Nat := if sw then 99 else 91
def zct (sw : Bool) : Nat := if sw then 91 else 99
theorem zkt_k (k : Nat) (sw : Bool) : zKs k (zkt sw) = 16 := by cases sw; exact k91 k; exact k99 k
theorem zkt_l (k : Nat) (sw : Bool) : zln k (zkt sw) = 7 := by cases sw; exact l91 k; exact l99 k
theorem zct_k (k : Nat) (sw : Bool) : zKs k (zct sw) = 16 := by cases sw; exact k99 k; exact k91 k
theorem zct_l (k : Nat) (sw : Bool) : zln k (zct sw) = 7 := by cases sw; exact l99 k; exact l91 k
theorem zkt_kr (k : Nat) (sw : Bool) {h : Nat} (hh : h < 7) : zKs k (zkt sw + 1 + h) = 12 := by cases sw; exact kr92 k hh; exact kr100 k hh
theorem zkt_lr (k : Nat) (sw : Bool) {h : Nat} (hh : h < 7) : zln k (zkt sw + 1 + h) = 7 := by cases sw; exact lr92 k hh; exact lr100 k hh
theorem zct_kr (k : Nat) (sw : Bool) {h : Nat} (hh : h < 7) : zKs k (zct sw + 1 + h) = 12 := by cases sw; exact kr100 k hh; exact kr92 k hh
theorem zct_lr (k : Nat) (sw : Bool) {h : Nat} (hh : h < 7) : zln k (zct sw + 1 + h) = 7 := by cases sw; exact lr100 k hh; exact lr92 k hh
theorem zRf_kt {sw : Bool} {k : Nat} {R : Nat → Nat → Option Nat} (hR : zRf sw k R) : R 90 0 = some (zkt sw) := hR.at 90 0 (zkt sw) (zrm 16 rfl)
theorem zRf_ct {sw : Bool} {k : Nat} {R : Nat → Nat → Option Nat} (hR : zRf sw k R) : R 90 1 = some (zct sw) := hR.at 90 1 (zct sw) (zrm 17 rfl)
theorem zRf_kr {sw : Bool} {k : Nat} {R : Nat → Nat → Option Nat} (hR : zRf sw k R) {h : Nat} (hh : h < 7) : R (zkt sw) h = some (zkt sw + 1 + h) := by
  cases sw
  · exact hR.row 91 7 92 (by simp [ztabs]) hh
  · exact hR.row 99 7 100 (by simp [ztabs]) hh
theorem zRf_cr {sw : Bool} {k : Nat} {R : Nat → Nat → Option Nat} (hR : zRf sw k R) {h : Nat} (hh : h < 7) : R (zct sw) h = some (zct sw + 1 + h) := by
  cases sw
  · exact hR.row 99 7 100 (by simp [ztabs]) hh
  · exact hR.row 91 7 92 (by simp [ztabs]) hh
theorem zkct (sw : Bool) {h h2 : Nat} (hh : h < 7) (hh2 : h2 < 7) : zkt sw + 1 + h ≠ zct sw + 1 + h2 := by
  unfold zkt zct
  cases sw
  · rw [if_neg (by decide), if_neg (by decide)]; omega
  · rw [if_pos rfl, if_pos rfl]; omega
theorem zkt_in (sw : Bool) {h : Nat} (hh : h < 7) : 92 ≤ zkt sw + 1 + h ∧ zkt sw + 1 + h ≤ 106 := by
  unfold zkt
  cases sw
  · rw [if_neg (by decide)]; omega
  · rw [if_pos rfl]; omega
theorem zct_in (sw : Bool) {h : Nat} (hh : h < 7) : 92 ≤ zct sw + 1 + h ∧ zct sw + 1 + h ≤ 106 := by
  unfold zct
  cases sw
  · rw [if_neg (by decide)]; omega
  · rw [if_pos rfl]; omega
/-- the keys of m nodes -/
def zKey (sw : Bool) (m : Nat) (K : Nat → Nat → Option Int) (J : Nat → Nat → Int64) : Prop := ∀ h w, h < m → w < m → J (zkt sw + 1 + h) w = zoI (K h w)
theorem zoI_le {a b : Option Int} (ha : zob 1000000000000 a) (hb : zob 1000000000000 b) : zoI a ≤ zoI b ↔ ∀ z, a = some z → ∃ y, b = some y ∧ z ≤ y := by
  cases a with
  | none => exact ⟨fun _ z e => (by cases e), fun _ => zNK_le _⟩
  | some x =>
    have h1 := ha x rfl
    cases b with
    | none =>
      constructor
      · intro h
        have h : lI x ≤ zNK := h
        rw [Int64.le_iff_toInt_le, lI_toInt (by omega) (by omega), show zNK.toInt = -9223372036854775808 by decide +kernel] at h
        omega
      · intro h
        obtain ⟨y, e, -⟩ := h x rfl
        cases e
    | some y =>
      have h2 := hb y rfl
      show lI x ≤ lI y ↔ _
      rw [lI_le (by omega) (by omega) (by omega) (by omega)]
      constructor
      · intro h z e
        exact ⟨y, rfl, by rw [← Option.some.inj e]; exact h⟩
      · intro h
        obtain ⟨y', e, h3⟩ := h x rfl
        rw [Option.some.inj e]; exact h3
/-- the first of the greatest heads, among h -/
def zam (K : Nat → Nat → Option Int) (w : Nat) : Nat → Nat
  | 0 => 0
  | h + 1 => if zoI (K h w) ≤ zoI (K (zam K w h) w) then zam K w h else h
theorem zam_lt (K : Nat → Nat → Option Int) (w : Nat) : ∀ h, zam K w h < h + 1
  | 0 => Nat.lt_succ_self 0
  | h + 1 => by
    have := zam_lt K w h
    show (if _ then zam K w h else h) < h + 1 + 1
    split <;> omega
theorem zam_lt' (K : Nat → Nat → Option Int) (w : Nat) {h : Nat} (hh : 1 ≤ h) : zam K w h < h := by
  obtain ⟨j, rfl⟩ : ∃ j, h = j + 1 := ⟨h - 1, by omega⟩
  have := zam_lt K w j
  show (if _ then zam K w j else j) < j + 1
  split <;> omega
theorem zam_1 (K : Nat → Nat → Option Int) (w : Nat) : zam K w 1 = 0 := by
  show (if _ then 0 else 0) = 0
  split <;> rfl
theorem zam_ge (K : Nat → Nat → Option Int) (w : Nat) : ∀ h h', h' < h → zoI (K h' w) ≤ zoI (K (zam K w h) w)
  | 0, h', q => absurd q (Nat.not_lt_zero h')
  | h + 1, h', q => by
    show _ ≤ zoI (K (if zoI (K h w) ≤ zoI (K (zam K w h) w) then zam K w h else h) w)
    by_cases c : zoI (K h w) ≤ zoI (K (zam K w h) w)
    · rw [if_pos c]
      by_cases e : h' = h
      · rw [e]; exact c
      · exact zam_ge K w h h' (by omega)
    · rw [if_neg c]
      by_cases e : h' = h
      · rw [e]; exact Int64.le_refl _
      · have h1 := zam_ge K w h h' (by omega)
        rw [Int64.le_iff_toInt_le] at c h1 ⊢
        omega
section CM
variable {N k m : Nat} {sw : Bool} {K : Nat → Nat → Option Int} {M : ZM}
/-- the taken head, as the class asks for it -/
def zth (m : Nat) (tk : Nat → Nat) (w : Nat) : Nat := if 1 ≤ w ∧ w < m then tk w else 0
theorem s_takenHead (hR : zRf sw k (zR M)) (hm : zI M 90 4 = nI m) (hm7 : m ≤ 7) {tk : Nat → Nat} (ht : ∀ w, 1 ≤ w → w < m → zI M 107 w = nI (tk w)) {p : Nat} (hp : p < 2147483648) : f_X1_takenHead N (zKs k) (zln k) 90 (nI p) M = some (nI (zth m tk p)) := by
  unfold f_X1_takenHead f_X1_takenHead_0 zth
  by_cases e0 : p = 0
  · subst e0
    rw [if_pos (show nI 0 ≤ 0 by decide +kernel), if_neg (by omega)]
    rfl
  · rw [if_neg (nI_nle (by omega) (by omega)), zgK (k90 k), hm]
    by_cases e1 : p < m
    · rw [if_neg (nI_ge e1 (by omega)), zbindS (hR.at 90 2 107 (zrm 18 rfl)), zgok (k107 k) (l107 k) (show p < 7 by omega) (by decide), nI_clamp (by omega), ht p (by omega) e1, if_pos ⟨by omega, e1⟩]
    · rw [if_pos (nI_le (by omega) (by omega)), if_neg (by omega)]
      rfl
theorem s_takenKey (hR : zRf sw k (zR M)) (hm : zI M 90 4 = nI m) (hm7 : m ≤ 7) {w a : Nat} (h1 : 1 ≤ w) (h2 : w < m) (ha : zI M 107 w = nI a) (ham : a < m) : f_X1_takenKey N (zKs k) (zln k) 90 (nI w) M = some (zJ M (zkt sw + 1 + a) w) := by
  have ht : f_X1_takenHead N (zKs k) (zln k) 90 (nI w) M = some (nI a) := by
    unfold f_X1_takenHead f_X1_takenHead_0
    rw [if_neg (nI_nle (by omega) (by omega)), zgK (k90 k), hm, if_neg (nI_ge h2 (by omega)), zbindS (hR.at 90 2 107 (zrm 18 rfl)), zgok (k107 k) (l107 k) (show w < 7 by omega) (by decide), nI_clamp (by omega), ha]
  unfold f_X1_takenKey f_X1_takenKey_0
  rw [zbindS ht, zgK (k90 k), zbindS (s_isPlace N (show a < 7 by omega)), if_neg one_ne0, zbindS (s_isPlace N (show w < 7 by omega)), if_neg one_ne0, zbindS (zRf_kt hR), zgok (zkt_k k sw) (zkt_l k sw) (show a < 7 by omega) (by decide), nI_clamp (show a < 2 ^ 31 by omega), zbindS (zRf_kr hR (show a < 7 by omega)), zgok (zkt_kr k sw (show a < 7 by omega)) (zkt_lr k sw (show a < 7 by omega)) (show w < 7 by omega) (by decide), nI_clamp (show w < 2 ^ 31 by omega)]
theorem s_take22 (hm7 : m ≤ 7) (kh : Nat → Int64 → Int32 → ZM → Option (Int64 × ZM)) {w : Nat} (h1 : 1 ≤ w) (h2 : w < m) (sum : Int64) : ∀ (d f h : Nat) (M : ZM), h + d = m → 1 ≤ h → d < f → zRf sw k (zR M) → zI M 90 4 = nI m → zKey sw m K (zJ M) → zI M 107 w = nI (zam K w h) → ∃ M', (zR M' = zR M ∧ zJ M' = zJ M ∧ zD M' = zD M ∧ (∀ a i, ¬ (a = 107 ∧ i = w) → zI M' a i = zI M a i) ∧ zI M' 107 w = nI (zam K w m)) ∧ f_X1_takeGreatest_22 N (zKs k) (zln k) kh f 90 sum (nI w) (nI h) M = if zoI (K (zam K w m) w) = (-9223372036854775808 : Int64) then some ((-9223372036854775808 : Int64), M') else kh 90 (sum + zoI (K (zam K w m) w)) (nI (w + 1)) M'
  | d, 0, h, M, _, _, hf, _, _, _, _ => absurd hf (Nat.not_lt_zero d)
  | 0, f + 1, h, M, hd, hh, _, hR, hm, hK, ha => by
    have e : h = m := by omega
    subst e
    have hz := zam_lt' K w hh
    have hk : f_X1_takenKey N (zKs k) (zln k) 90 (nI w) M = some (zoI (K (zam K w h) w)) := by rw [s_takenKey hR hm hm7 h1 h2 ha hz, hK _ _ hz h2]
    refine ⟨M, ⟨rfl, rfl, rfl, fun _ _ _ => rfl, ha⟩, ?_⟩
    rw [f_X1_takeGreatest_22, zgK (k90 k), hm, if_pos (nI_le (Nat.le_refl h) (by omega)), zbindS hk, zbindS hk, show nI w + 1 = nI (w + 1) from nI_1 w]
  | d + 1, f + 1, h, M, hd, hh, hf, hR, hm, hK, ha => by
    have hz := zam_lt' K w hh
    have hk : f_X1_takenKey N (zKs k) (zln k) 90 (nI w) M = some (zoI (K (zam K w h) w)) := by rw [s_takenKey hR hm hm7 h1 h2 ha (by omega), hK _ _ (by omega) h2]
    have go : ∀ M1 : ZM, (zR M1 = zR M ∧ zJ M1 = zJ M ∧ zD M1 = zD M ∧ (∀ a i, ¬ (a = 107 ∧ i = w) → zI M1 a i = zI M a i)) → zI M1 107 w = nI (zam K w (h + 1)) → ∃ M', (zR M' = zR M ∧ zJ M' = zJ M ∧ zD M' = zD M ∧ (∀ a i, ¬ (a = 107 ∧ i = w) → zI M' a i = zI M a i) ∧ zI M' 107 w = nI (zam K w m)) ∧ f_X1_takeGreatest_22 N (zKs k) (zln k) kh f 90 sum (nI w) (nI (h + 1)) M1 = if zoI (K (zam K w m) w) = (-9223372036854775808 : Int64) then some ((-9223372036854775808 : Int64), M') else kh 90 (sum + zoI (K (zam K w m) w)) (nI (w + 1)) M' := by
      intro M1 g ha1
      obtain ⟨M', g2, e⟩ := s_take22 hm7 kh h1 h2 sum d f (h + 1) M1 (by omega) (by omega) (by omega) (by rw [g.1]; exact hR) (by rw [g.2.2.2 90 4 (by omega)]; exact hm) (by rw [g.2.1]; exact hK) ha1
      exact ⟨M', ⟨g2.1.trans g.1, g2.2.1.trans g.2.1, g2.2.2.1.trans g.2.2.1, fun a i q => (g2.2.2.2.1 a i q).trans (g.2.2.2 a i q), g2.2.2.2.2⟩, e⟩
    have hstep : f_X1_takeGreatest_22 N (zKs k) (zln k) kh (f + 1) 90 sum (nI w) (nI h) M = if zoI (K h w) ≤ zoI (K (zam K w h) w) then f_X1_takeGreatest_22 N (zKs k) (zln k) kh f 90 sum (nI w) (nI (h + 1)) M else f_X1_takeGreatest_22 N (zKs k) (zln k) kh f 90 sum (nI w) (nI (h + 1)) (zsI M 107 w (nI h)) := by
      rw [f_X1_takeGreatest_22, zgK (k90 k), hm, if_neg (nI_ge (by omega) (by omega)), zbindS (zRf_kt hR), zgok (zkt_k k sw) (zkt_l k sw) (show h < 7 by omega) (by decide), nI_clamp (show h < 2 ^ 31 by omega), zbindS (zRf_kr hR (show h < 7 by omega)), zgok (zkt_kr k sw (show h < 7 by omega)) (zkt_lr k sw (show h < 7 by omega)) (show w < 7 by omega) (by decide), zbindS hk, nI_clamp (show w < 2 ^ 31 by omega), hK h w (by omega) h2]
      by_cases c : zoI (K h w) ≤ zoI (K (zam K w h) w)
      · rw [if_pos c, if_pos c, ← nI_1 h]
        exact rfl
      · rw [if_neg c, if_neg c, zbindS (hR.at 90 2 107 (zrm 18 rfl)), zgok (k107 k) (l107 k) (show w < 7 by omega) (by decide), zlS, ← nI_1 h]
        exact rfl
    rw [hstep]
    have hz1 : zam K w (h + 1) = if zoI (K h w) ≤ zoI (K (zam K w h) w) then zam K w h else h := rfl
    by_cases c : zoI (K h w) ≤ zoI (K (zam K w h) w)
    · rw [if_pos c]
      exact go M ⟨rfl, rfl, rfl, fun _ _ _ => rfl⟩ (by rw [hz1, if_pos c]; exact ha)
    · rw [if_neg c]
      exact go (zsI M 107 w (nI h)) ⟨rfl, rfl, rfl, fun a i q => by rw [zI_sI, if_neg q]⟩ (by rw [hz1, if_neg c, zI_sI, if_pos ⟨rfl, rfl⟩])
/-- what takeGreatest leaves -/
def zTG (m : Nat) (K : Nat → Nat → Option Int) (M M' : ZM) : Prop := zR M' = zR M ∧ zJ M' = zJ M ∧ zD M' = zD M ∧ ∀ a i, a ≠ 107 → zI M' a i = zI M a i
theorem s_take4 (hN : 10000000 ≤ N) (hm7 : m ≤ 7) : ∀ (d f w : Nat) (tot : Int) (M : ZM), w + d = m → 1 ≤ w → d < f → zRf sw k (zR M) → zI M 90 4 = nI m → zKey sw m K (zJ M) → (∀ w', 1 ≤ w' → w' < w → zI M 107 w' = nI (zam K w' m)) → ∃ M', zTG m K M M' ∧ ((f_X1_takeGreatest_4 N (zKs k) (zln k) f 90 (lI tot) (nI w) M = some (zNK, M') ∧ ∃ w', w ≤ w' ∧ w' < m ∧ zoI (K (zam K w' m) w') = zNK) ∨ (f_X1_takeGreatest_4 N (zKs k) (zln k) f 90 (lI tot) (nI w) M = some (lI (tot + zls (fun w => (K (zam K w m) w).getD 0) (List.range' w d)), M') ∧ (∀ w', 1 ≤ w' → w' < m → zI M' 107 w' = nI (zam K w' m)) ∧ ∀ w', w ≤ w' → w' < m → ∃ z, K (zam K w' m) w' = some z))
  | d, 0, w, tot, M, _, _, hf, _, _, _, _ => absurd hf (Nat.not_lt_zero d)
  | 0, f + 1, w, tot, M, hd, h1, _, hR, hm, hK, ht => by
    refine ⟨M, ⟨rfl, rfl, rfl, fun _ _ _ => rfl⟩, Or.inr ⟨?_, fun w' q1 q2 => ht w' q1 (by omega), fun w' q1 q2 => by omega⟩⟩
    rw [f_X1_takeGreatest_4, zgK (k90 k), hm, if_pos (nI_le (by omega) (by omega))]
    show some (lI tot, M) = some (lI (tot + 0), M)
    rw [Int.add_zero]
  | d + 1, f + 1, w, tot, M, hd, h1, hf, hR, hm, hK, ht => by
    obtain ⟨M1, g1, e1⟩ := s_take22 (N := N) (k := k) (sw := sw) (K := K) hm7 (fun y0 y1 y3 M => f_X1_takeGreatest_4 N (zKs k) (zln k) f y0 y1 y3 M) h1 (show w < m by omega) (lI tot) (m - 1) N 1 (zsI M 107 w 0) (by omega) (Nat.le_refl 1) (by omega) hR (by rw [zI_sI, if_neg (by omega)]; exact hm) hK (by rw [zI_sI, if_pos ⟨rfl, rfl⟩, zam_1]; rfl)
    have g0 : zTG m K M M1 := ⟨g1.1, g1.2.1, g1.2.2.1, fun a i h => by rw [g1.2.2.2.1 a i (fun q => h q.1), zI_sI, if_neg (fun q => h q.1)]⟩
    have e0 : f_X1_takeGreatest_4 N (zKs k) (zln k) (f + 1) 90 (lI tot) (nI w) M = if zoI (K (zam K w m) w) = (-9223372036854775808 : Int64) then some ((-9223372036854775808 : Int64), M1) else f_X1_takeGreatest_4 N (zKs k) (zln k) f 90 (lI tot + zoI (K (zam K w m) w)) (nI (w + 1)) M1 := by
      rw [f_X1_takeGreatest_4, zgK (k90 k), hm, if_neg (nI_ge (by omega) (by omega)), zbindS (hR.at 90 2 107 (zrm 18 rfl)), zgok (k107 k) (l107 k) (show w < 7 by omega) (by decide), zlS, nI_clamp (show w < 2 ^ 31 by omega)]
      exact e1
    by_cases c : zoI (K (zam K w m) w) = (-9223372036854775808 : Int64)
    · exact ⟨M1, g0, Or.inl ⟨by rw [e0, if_pos c]; rfl, w, Nat.le_refl w, by omega, c⟩⟩
    · obtain ⟨z, ez⟩ : ∃ z, K (zam K w m) w = some z := by
        cases q : K (zam K w m) w with
        | none => rw [q] at c; exact absurd rfl c
        | some z => exact ⟨z, rfl⟩
      obtain ⟨M2, g2, h⟩ := s_take4 hN hm7 d f (w + 1) (tot + z) M1 (by omega) (by omega) (by omega) (by rw [g0.1]; exact hR) (by rw [g0.2.2.2 90 4 (by decide)]; exact hm) (by rw [g0.2.1]; exact hK) (fun w' q1 q2 => by
        by_cases e : w' = w
        · rw [e]; exact g1.2.2.2.2
        · rw [g1.2.2.2.1 107 w' (fun q => e q.2), zI_sI, if_neg (fun q => e q.2)]; exact ht w' q1 (by omega))
      have ez2 : zoI (K (zam K w m) w) = lI z := by rw [ez]; rfl
      rw [e0, if_neg c, ez2, lI_add]
      refine ⟨M2, ⟨g2.1.trans g0.1, g2.2.1.trans g0.2.1, g2.2.2.1.trans g0.2.2.1, fun a i q => (g2.2.2.2 a i q).trans (g0.2.2.2 a i q)⟩, ?_⟩
      rcases h with ⟨h3, w', q1, q2, q3⟩ | ⟨h3, h4, h5⟩
      · exact Or.inl ⟨h3, w', by omega, q2, q3⟩
      · refine Or.inr ⟨?_, h4, fun w' q1 q2 => ?_⟩
        · rw [h3, List.range'_succ]
          show some (lI (tot + z + zls _ (List.range' (w + 1) d)), M2) = some (lI (tot + ((K (zam K w m) w).getD 0 + zls _ (List.range' (w + 1) d))), M2)
          rw [ez]
          show some (lI (tot + z + zls _ (List.range' (w + 1) d)), M2) = some (lI (tot + (z + zls _ (List.range' (w + 1) d))), M2)
          rw [Int.add_assoc]
        · by_cases e : w' = w
          · rw [e]; exact ⟨z, ez⟩
          · exact h5 w' (by omega) q2
/-- takeGreatest: a node without arcs, or the greatest arc of each -/
theorem s_takeGreatest (hN : 10000000 ≤ N) (hm1 : 1 ≤ m) (hm7 : m ≤ 7) (hR : zRf sw k (zR M)) (hm : zI M 90 4 = nI m) (hK : zKey sw m K (zJ M)) (hB : ∀ h w, zob 1000000000000 (K h w)) : ∃ M', zTG m K M M' ∧ ((f_X1_takeGreatest N (zKs k) (zln k) 90 M = some (zNK, M') ∧ ∃ w, 1 ≤ w ∧ w < m ∧ ∀ h, h < m → K h w = none) ∨ ∃ tk y, f_X1_takeGreatest N (zKs k) (zln k) 90 M = some (lI (zls y (List.range' 1 (m - 1))), M') ∧ (∀ w, 1 ≤ w → w < m → zI M' 107 w = nI (tk w)) ∧ zTk m K tk y) := by
  obtain ⟨M', g, h⟩ := s_take4 (N := N) (K := K) hN hm7 (m - 1) N 1 0 M (by omega) (Nat.le_refl 1) (by omega) hR hm hK (fun w' q1 q2 => by omega)
  have hdom : ∀ w h, h < m → ∀ z, K h w = some z → ∃ y, K (zam K w m) w = some y ∧ z ≤ y := fun w h hh => (zoI_le (hB h w) (hB _ w)).mp (zam_ge K w m h hh)
  refine ⟨M', g, ?_⟩
  rcases h with ⟨h1, w, q1, q2, q3⟩ | ⟨h1, h2, h3⟩
  · refine Or.inl ⟨h1, w, q1, q2, fun h hh => ?_⟩
    have hnone : K (zam K w m) w = none := by
      cases q : K (zam K w m) w with
      | none => rfl
      | some z =>
        rw [q] at q3
        have := hB _ _ z q
        exact absurd q3 (zoI_ne (z := z) (by omega) (by omega))
    cases q : K h w with
    | none => rfl
    | some z =>
      obtain ⟨y, e, -⟩ := hdom w h hh z q
      rw [hnone] at e
      cases e
  · refine Or.inr ⟨fun w => zam K w m, fun w => (K (zam K w m) w).getD 0, ?_, h2, fun w q1 q2 => ⟨zam_lt' K w hm1, ?_, fun h hh z e => ?_⟩⟩
    · rw [Int.zero_add] at h1
      exact h1
    · obtain ⟨z, e⟩ := h3 w q1 q2
      show K (zam K w m) w = some ((K (zam K w m) w).getD 0)
      rw [e]; rfl
    · obtain ⟨y, e2, h4⟩ := hdom w h hh z e
      show z ≤ (K (zam K w m) w).getD 0
      rw [e2]
      exact h4
/-! findCircle -/
theorem zth_lt (hm1 : 1 ≤ m) {tk : Nat → Nat} (ht : ∀ w, 1 ≤ w → w < m → tk w < m) (w : Nat) : zth m tk w < m := by
  unfold zth
  by_cases q : 1 ≤ w ∧ w < m
  · rw [if_pos q]; exact ht w q.1 q.2
  · rw [if_neg q]; omega
theorem s_find14 (hm1 : 1 ≤ m) (hm7 : m ≤ 7) (hR : zRf sw k (zR M)) (hm : zI M 90 4 = nI m) {tk : Nat → Nat} (ht : ∀ w, 1 ≤ w → w < m → zI M 107 w = nI (tk w)) (hlt : ∀ w, 1 ≤ w → w < m → tk w < m) (kh : Nat → Int32 → Option Int32) (st : Nat) : ∀ (d f c p : Nat), c + d = m → d < f → p < m → f_X1_findCircle_14 N (zKs k) (zln k) kh f 90 (nI st) (nI p) (nI c) M = if zits (zth m tk) d p = 0 then kh 90 (nI (st + 1)) else some (nI (zits (zth m tk) d p))
  | d, 0, c, p, _, hf, _ => absurd hf (Nat.not_lt_zero d)
  | 0, f + 1, c, p, hd, _, hp => by
    rw [f_X1_findCircle_14, zgK (k90 k), hm, if_pos (nI_le (by omega) (by omega))]
    show _ = if p = 0 then _ else some (nI p)
    by_cases e : p = 0
    · rw [if_pos e, e, if_pos (show nI 0 = 0 from rfl), nI_1]
    · rw [if_neg e, if_neg (nI_ne0 (by omega) (by omega))]
  | d + 1, f + 1, c, p, hd, hf, hp => by
    rw [f_X1_findCircle_14, zgK (k90 k), hm, if_neg (nI_ge (by omega) (by omega)), zbindS (s_takenHead hR hm hm7 ht (by omega)), nI_1]
    exact s_find14 hm1 hm7 hR hm ht hlt kh st d f (c + 1) (zth m tk p) (by omega) (by omega) (zth_lt hm1 hlt p)
theorem s_find2 (hN : 10000000 ≤ N) (hm1 : 1 ≤ m) (hm7 : m ≤ 7) (hR : zRf sw k (zR M)) (hm : zI M 90 4 = nI m) {tk : Nat → Nat} (ht : ∀ w, 1 ≤ w → w < m → zI M 107 w = nI (tk w)) (hlt : ∀ w, 1 ≤ w → w < m → tk w < m) : ∀ (d f st : Nat), st + d = m → 1 ≤ st → d < f → ∃ q, f_X1_findCircle_2 N (zKs k) (zln k) f 90 (nI st) M = some (nI q) ∧ ((q = 0 ∧ ∀ w, st ≤ w → w < m → zits (zth m tk) m w = 0) ∨ (q ≠ 0 ∧ ∃ w, w < m ∧ zits (zth m tk) m w = q))
  | d, 0, st, _, _, hf => absurd hf (Nat.not_lt_zero d)
  | 0, f + 1, st, hd, h1, _ => by
    refine ⟨0, ?_, Or.inl ⟨rfl, fun w q1 q2 => by omega⟩⟩
    rw [f_X1_findCircle_2, zgK (k90 k), hm, if_pos (nI_le (by omega) (by omega))]
    rfl
  | d + 1, f + 1, st, hd, h1, hf => by
    have e14 := s_find14 (N := N) hm1 hm7 hR hm ht hlt (fun y0 y1 => f_X1_findCircle_2 N (zKs k) (zln k) f y0 y1 M) st m N 0 st (by omega) (by omega) (by omega)
    have e2 : f_X1_findCircle_2 N (zKs k) (zln k) (f + 1) 90 (nI st) M = if zits (zth m tk) m st = 0 then f_X1_findCircle_2 N (zKs k) (zln k) f 90 (nI (st + 1)) M else some (nI (zits (zth m tk) m st)) := by
      rw [f_X1_findCircle_2, zgK (k90 k), hm, if_neg (nI_ge (by omega) (by omega))]
      exact e14
    by_cases c : zits (zth m tk) m st = 0
    · obtain ⟨q, e, h⟩ := s_find2 hN hm1 hm7 hR hm ht hlt d f (st + 1) (by omega) (by omega) (by omega)
      refine ⟨q, by rw [e2, if_pos c]; exact e, ?_⟩
      rcases h with ⟨h3, h4⟩ | h
      · refine Or.inl ⟨h3, fun w q1 q2 => ?_⟩
        by_cases e : w = st
        · rw [e]; exact c
        · exact h4 w (by omega) q2
      · exact Or.inr h
    · exact ⟨_, by rw [e2, if_neg c], Or.inr ⟨c, st, by omega, rfl⟩⟩
end CM
