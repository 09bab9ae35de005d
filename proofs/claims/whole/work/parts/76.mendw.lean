/-! MENDING: the weights. -/
def zad (wt : Nat → Int) (a b : Nat) (d : Int) : Nat → Int := fun f => wt f + (if f = a then d else 0) + (if f = b then d else 0)
/-- the weights behind the words 1 .. w -/
def zmd (kd rn v : Nat → Nat) (wt : Nat → Int) : Nat → Nat → Int
  | 0 => wt
  | w + 1 => if rn (w + 1) = v (w + 1) then zmd kd rn v wt w else zad (zad (zmd kd rn v wt w) (zbk kd (rn (w + 1)) (w + 1)) (zbd (rn (w + 1)) (w + 1)) 1) (zbk kd (v (w + 1)) (w + 1)) (zbd (v (w + 1)) (w + 1)) (-1)
def zmn (rn v : Nat → Nat) : Nat → Nat
  | 0 => 0
  | w + 1 => zmn rn v w + (if rn (w + 1) = v (w + 1) then 0 else 1)
theorem zbd_ge {h w : Nat} (e : h ≠ w) : 20 ≤ zbd h w := by
  unfold zbd
  split <;> split <;> omega
theorem zad_b {wt : Nat → Int} {a b : Nat} (h : a < 20) (h2 : 20 ≤ b) (d : Int) (f : Nat) : zad wt a b d f = wt f ∨ zad wt a b d f = wt f + d := by
  unfold zad
  by_cases q : f = a
  · rw [if_pos q, if_neg (by omega)]
    exact Or.inr (by omega)
  · rw [if_neg q]
    by_cases q2 : f = b
    · rw [if_pos q2]; exact Or.inr (by omega)
    · rw [if_neg q2]; exact Or.inl (by omega)
theorem zmd_b {kd rn v : Nat → Nat} {wt : Nat → Int} {n : Nat} (hb : ∀ i, 1 ≤ i → i ≤ n → zbk kd (rn i) i < 20 ∧ zbk kd (v i) i < 20 ∧ rn i ≠ i ∧ v i ≠ i) : ∀ w, w ≤ n → ∀ f, wt f - (w : Int) ≤ zmd kd rn v wt w f ∧ zmd kd rn v wt w f ≤ wt f + (w : Int)
  | 0, _, f => by
    show wt f - ((0 : Nat) : Int) ≤ wt f ∧ wt f ≤ wt f + ((0 : Nat) : Int)
    omega
  | w + 1, hw, f => by
    have ih := zmd_b (wt := wt) hb w (by omega) f
    obtain ⟨b1, b2, b3, b4⟩ := hb (w + 1) (by omega) hw
    show wt f - ((w + 1 : Nat) : Int) ≤ (if rn (w + 1) = v (w + 1) then zmd kd rn v wt w else _) f ∧ (if rn (w + 1) = v (w + 1) then zmd kd rn v wt w else _) f ≤ wt f + ((w + 1 : Nat) : Int)
    by_cases q : rn (w + 1) = v (w + 1)
    · rw [if_pos q]; omega
    · rw [if_neg q]
      rcases zad_b (wt := zad (zmd kd rn v wt w) (zbk kd (rn (w + 1)) (w + 1)) (zbd (rn (w + 1)) (w + 1)) 1) b2 (zbd_ge b4) (-1) f with e | e <;> rcases zad_b (wt := zmd kd rn v wt w) b1 (zbd_ge b3) 1 f with e2 | e2 <;> rw [e, e2] <;> omega
section MW
variable {N k s n : Nat} {sw : Bool} {kd : Nat → Nat} {mk : Nat → Nat → Int32} {M : ZM}
theorem s_addToArc (hR : zRf sw k (zR M)) (hk : s < k) (hS : zSen s n kd mk (zI M)) {wt : Nat → Int} (hW : ∀ f, f < 28 → zI M 3 f = iI (wt f)) {h w : Nat} (hh : h ≤ n) (h1 : 1 ≤ w) (hw : w ≤ n) (d : Int) : ∃ M', f_X5_addToArc N (zKs k) (zln k) 2 (128 + 11 * s) (nI h) (nI w) (iI d) M = some M' ∧ zR M' = zR M ∧ zJ M' = zJ M ∧ zD M' = zD M ∧ (∀ f, f < 28 → zI M' 3 f = iI (zad wt (zbk kd h w) (zbd h w) d f)) ∧ ∀ b i, b ≠ 3 → zI M' b i = zI M b i := by
  have hb := zbk_lt hS hh h1 hw
  have h6 := hS.1
  have hd28 := zbd_lt (h := h) (w := w)
  have h3 : zI (zsI M 3 (zbk kd h w) (iI (wt (zbk kd h w) + d))) 3 (zbd h w) = iI (wt (zbd h w) + (if zbd h w = zbk kd h w then d else 0)) := by
    rw [zI_sI]
    by_cases q : zbd h w = zbk kd h w
    · rw [if_pos ⟨rfl, q⟩, if_pos q, q]
    · rw [if_neg (fun z => q z.2), if_neg q, hW _ hd28, Int.add_zero]
  refine ⟨zsI (zsI M 3 (zbk kd h w) (iI (wt (zbk kd h w) + d))) 3 (zbd h w) (iI (wt (zbd h w) + (if zbd h w = zbk kd h w then d else 0) + d)), ?_, rfl, rfl, rfl, fun f hf => ?_, fun b i q => by rw [zI_sI, if_neg (fun z => q z.1), zI_sI, if_neg (fun z => q z.1)]⟩
  · unfold f_X5_addToArc f_X5_addToArc_0
    rw [zbindS (s_byK hR hk hS hh hw), zgK (ks0 hk), zbindS (s_byDistance N (show h < 7 by omega) (show w < 7 by omega)), zbindS (s_get hR (show zbk kd h w < 28 by omega)), zgK (k2 k), hW _ (by omega), iI_add, zbindS (s_put hR (show zbk kd h w < 28 by omega) _), zbindS (s_get (M := zsI M 3 (zbk kd h w) (iI (wt (zbk kd h w) + d))) hR hd28), h3, iI_add, zbindS (s_put (M := zsI M 3 (zbk kd h w) (iI (wt (zbk kd h w) + d))) hR hd28 _)]
  · rw [zI_sI]
    unfold zad
    by_cases q : f = zbd h w
    · rw [if_pos ⟨rfl, q⟩, if_pos q, q]
    · rw [if_neg (fun z => q z.2), if_neg q, zI_sI, Int.add_zero]
      by_cases q2 : f = zbk kd h w
      · rw [if_pos ⟨rfl, q2⟩, if_pos q2, q2]
      · rw [if_neg (fun z => q2 z.2), if_neg q2, hW f hf, Int.add_zero]
theorem q_adds (hR : zRf sw k (zR M)) (hs5 : s < 5) (hS : zSenM s n kd mk (zI M)) {wt : Nat → Int} (hW : ∀ f, f < 28 → zI M 117 f = iI (wt f)) {h w : Nat} (hh : h ≤ n) (h1 : 1 ≤ w) (hw : w ≤ n) (d : Int) : ∃ M', f_X7_adds N (zKs k) (zln k) 112 (nI s) (nI h) (nI w) (iI d) M = some M' ∧ zR M' = zR M ∧ zJ M' = zJ M ∧ zD M' = zD M ∧ (∀ f, f < 28 → zI M' 117 f = iI (zad wt (zbk kd h w) (zbd h w) d f)) ∧ ∀ b i, b ≠ 117 → zI M' b i = zI M b i := by
  have hb := q_bk_lt hS hh h1 hw
  have h6 := hS.1
  have hd28 := zbd_lt (h := h) (w := w)
  have h3 : zI (zsI M 117 (zbk kd h w) (iI (wt (zbk kd h w) + d))) 117 (zbd h w) = iI (wt (zbd h w) + (if zbd h w = zbk kd h w then d else 0)) := by
    rw [zI_sI]
    by_cases q : zbd h w = zbk kd h w
    · rw [if_pos ⟨rfl, q⟩, if_pos q, q]
    · rw [if_neg (fun z => q z.2), if_neg q, hW _ hd28, Int.add_zero]
  refine ⟨zsI (zsI M 117 (zbk kd h w) (iI (wt (zbk kd h w) + d))) 117 (zbd h w) (iI (wt (zbd h w) + (if zbd h w = zbk kd h w then d else 0) + d)), ?_, rfl, rfl, rfl, fun f hf => ?_, fun b i q => by rw [zI_sI, if_neg (fun z => q z.1), zI_sI, if_neg (fun z => q z.1)]⟩
  · unfold f_X7_adds f_X7_adds_0
    rw [zgK (k112 k), zbindS (hR.at 112 5 117 (zrm 26 rfl)), zbindS (q_byKind hR hs5 hS hh h1 hw), zgok (k117 k) (l117 k) (show zbk kd h w < 28 by omega) (by decide), nI_clamp (show zbk kd h w < 2 ^ 31 by omega), hW _ (show zbk kd h w < 28 by omega), iI_add, zlS, zR_sI, zbindS (hR.at 112 5 117 (zrm 26 rfl)), zbindS (q_byDistance N (show h < 7 by omega) (show w < 7 by omega)), zgok (k117 k) (l117 k) hd28 (by decide), nI_clamp (show zbd h w < 2 ^ 31 by omega), h3, iI_add, zlS]
  · rw [zI_sI]
    unfold zad
    by_cases q : f = zbd h w
    · rw [if_pos ⟨rfl, q⟩, if_pos q, q]
    · rw [if_neg (fun z => q z.2), if_neg q, zI_sI, Int.add_zero]
      by_cases q2 : f = zbk kd h w
      · rw [if_pos ⟨rfl, q2⟩, if_pos q2, q2]
      · rw [if_neg (fun z => q2 z.2), if_neg q2, hW f hf, Int.add_zero]
theorem s_mend43 (hk : s < k) (h6 : n ≤ 6) {rh : Nat → Int32} {rn v : Nat → Nat} {key : Int64} {wt : Nat → Int} (hrn : ∀ w, 1 ≤ w → w ≤ n → rh w = nI (rn w) ∧ rn w ≤ n) (hkey : ∀ w, 1 ≤ w → w ≤ n → f_X6_headIn N key (nI w) = some (nI (v w)) ∧ v w ≤ n) : ∀ (d f w : Nat) (M : ZM), w + d = n → d < f → zRf sw k (zR M) → zSen s n kd mk (zI M) → (∀ w, w < 7 → zI M (128 + 11 * s + 2) w = rh w) → (∀ g, g < 28 → zI M 3 g = iI (zmd kd rn v wt w g)) → ∃ M', f_X6_mend_43 N (zKs k) (zln k) f 0 (128 + 11 * s) key (nI (zmn rn v w)) (nI (w + 1)) M = (f_X5_endStep N (zKs k) (zln k) 2 M').bind (fun M10 => some (Sum.inr (nI (zmn rn v n)), M10)) ∧ zR M' = zR M ∧ zJ M' = zJ M ∧ zD M' = zD M ∧ (∀ g, g < 28 → zI M' 3 g = iI (zmd kd rn v wt n g)) ∧ ∀ b i, b ≠ 3 → zI M' b i = zI M b i
  | d, 0, w, M, _, hf, _, _, _, _ => absurd hf (Nat.not_lt_zero d)
  | 0, f + 1, w, M, hd, _, hR, hS, hr, hW => by
    have e : w = n := by omega
    subst e
    refine ⟨M, ?_, rfl, rfl, rfl, hW, fun _ _ _ => rfl⟩
    rw [f_X6_mend_43, zbindS (s_size hk hS.2.1), zgK (ks0 hk), if_pos (nI_lt (Nat.lt_succ_self w) (by omega)), zgK (k0 k), zbindS (hR.at 0 2 2 (zrm 1 rfl))]
    congr 1
    funext M10
    rw [zgK (k2 k)]
  | d + 1, f + 1, w, M, hd, hf, hR, hS, hr, hW => by
    obtain ⟨e1, b1⟩ := hrn (w + 1) (by omega) (by omega)
    obtain ⟨e2, b2⟩ := hkey (w + 1) (by omega) (by omega)
    have pre : f_X6_mend_43 N (zKs k) (zln k) (f + 1) 0 (128 + 11 * s) key (nI (zmn rn v w)) (nI (w + 1)) M = if nI (rn (w + 1)) = nI (v (w + 1)) then f_X6_mend_43 N (zKs k) (zln k) f 0 (128 + 11 * s) key (nI (zmn rn v w)) (nI (w + 1 + 1)) M else (f_X5_addToArc N (zKs k) (zln k) 2 (128 + 11 * s) (nI (rn (w + 1))) (nI (w + 1)) 1 M).bind fun M22 => (zR M22 0 2).bind fun b24 => (f_X5_addToArc N (zKs k) (zln k) b24 (128 + 11 * s) (nI (v (w + 1))) (nI (w + 1)) (-1) M22).bind fun M28 => zg (zKs k b24 == 6) (f_X6_mend_43 N (zKs k) (zln k) f 0 (128 + 11 * s) key (nI (zmn rn v w) + 1) (nI (w + 1 + 1)) M28) := by
      rw [f_X6_mend_43, zbindS (s_size hk hS.2.1), zgK (ks0 hk), if_neg (nI_nlt (by omega) (by omega)), zbindS (s_rightHead hR hk (show w + 1 < 7 by omega)), hr _ (show w + 1 < 7 by omega), e1, zbindS e2, ← nI_1 (w + 1)]
      by_cases q : nI (rn (w + 1)) = nI (v (w + 1))
      · rw [if_pos q, if_pos q]
        exact rfl
      · rw [if_neg q, if_neg q, zgK (k0 k), zbindS (hR.at 0 2 2 (zrm 1 rfl))]
        congr 1
        funext M22
        rw [zgK (k2 k)]
        exact rfl
    rw [pre]
    have ez : zmd kd rn v wt (w + 1) = if rn (w + 1) = v (w + 1) then zmd kd rn v wt w else zad (zad (zmd kd rn v wt w) (zbk kd (rn (w + 1)) (w + 1)) (zbd (rn (w + 1)) (w + 1)) 1) (zbk kd (v (w + 1)) (w + 1)) (zbd (v (w + 1)) (w + 1)) (-1) := rfl
    have en : zmn rn v (w + 1) = zmn rn v w + (if rn (w + 1) = v (w + 1) then 0 else 1) := rfl
    by_cases q : rn (w + 1) = v (w + 1)
    · rw [if_pos q] at ez
      have en : zmn rn v (w + 1) = zmn rn v w := by rw [en, if_pos q]; rfl
      rw [if_pos (by rw [q]), ← en]
      exact s_mend43 hk h6 hrn hkey d f (w + 1) M (by omega) (by omega) hR hS hr (by rw [ez]; exact hW)
    · rw [if_neg q] at ez en
      rw [if_neg (fun z => q ((nI_eq (by omega) (by omega)).mp z))]
      obtain ⟨M1, a1, r1, j1, d1, w1, o1⟩ := s_addToArc (N := N) hR hk hS hW b1 (show 1 ≤ w + 1 by omega) (show w + 1 ≤ n by omega) 1
      have hR1 : zRf sw k (zR M1) := by rw [r1]; exact hR
      have hS1 : zSen s n kd mk (zI M1) := zSen_congr (fun a i ha => o1 a i (by omega)) hS
      obtain ⟨M2, a2, r2, j2, d2, w2, o2⟩ := s_addToArc (N := N) hR1 hk hS1 w1 b2 (show 1 ≤ w + 1 by omega) (show w + 1 ≤ n by omega) (-1)
      have hR2 : zRf sw k (zR M2) := by rw [r2]; exact hR1
      obtain ⟨M', e, r3, j3, d3, w3, o3⟩ := s_mend43 hk h6 hrn hkey d f (w + 1) M2 (by omega) (by omega) hR2 (zSen_congr (fun a i ha => o2 a i (by omega)) hS1) (fun x hx => (o2 _ _ (by omega)).trans ((o1 _ _ (by omega)).trans (hr x hx))) (by rw [ez]; exact w2)
      refine ⟨M', ?_, r3.trans (r2.trans r1), j3.trans (j2.trans j1), d3.trans (d2.trans d1), w3, fun b i z => (o3 b i z).trans ((o2 b i z).trans (o1 b i z))⟩
      rw [show (1 : Int32) = iI 1 from rfl, zbindS a1, zbindS (hR1.at 0 2 2 (zrm 1 rfl)), show -iI 1 = iI (-1) from by decide +kernel, zbindS a2, zgK (k2 k), show nI (zmn rn v w) + iI 1 = nI (zmn rn v (w + 1)) from by rw [en]; exact nI_1 _]
      exact e
theorem s_endStep (hN : 10000000 ≤ N) : ∀ (d f x : Nat) (M : ZM), x + d = 28 → d < f → zRf sw k (zR M) → ∃ M', f_X5_endStep_2 N (zKs k) (zln k) f 2 (nI x) M = some M' ∧ zR M' = zR M ∧ zD M' = zD M ∧ zI M' = zI (zsI M 2 2 (zI M 2 2 + 1)) ∧ ∀ b i, zJ M' b i = if b = 4 ∧ x ≤ i ∧ i < 28 then zJ M 4 i + (zI M 3 i).toInt64 else zJ M b i
  | d, 0, x, M, _, hf, _ => absurd hf (Nat.not_lt_zero d)
  | 0, f + 1, x, M, hd, _, hR => by
    refine ⟨zsI M 2 2 (zI M 2 2 + 1), ?_, rfl, rfl, rfl, fun b i => by rw [if_neg (by omega)]; rfl⟩
    rw [f_X5_endStep_2, if_pos (show (28 : Int32) ≤ nI x from nI_le (a := 28) (by omega) (by omega)), zgK (k2 k), zlS]
  | d + 1, f + 1, x, M, hd, hf, hR => by
    obtain ⟨M', e, r, D, I, h⟩ := s_endStep hN d f (x + 1) (zsJ M 4 x (zJ M 4 x + (zI M 3 x).toInt64)) (by omega) (by omega) hR
    refine ⟨M', ?_, r, D, I, fun b i => ?_⟩
    · rw [f_X5_endStep_2, if_neg (show ¬ (28 : Int32) ≤ nI x from nI_ge (b := 28) (by omega) (by omega)), zgK (k2 k), zbindS (hR.at 2 1 4 (zrm 7 rfl)), zgok (k4 k) (l4 k) (show x < 28 by omega) (by decide), zbindS (hR.at 2 0 3 (zrm 6 rfl)), zgok (k3 k) (l3 k) (show x < 28 by omega) (by decide), zlS, nI_clamp (by omega), nI_1]
      exact e
    · rw [h b i]
      by_cases q : b = 4 ∧ x + 1 ≤ i ∧ i < 28
      · rw [if_pos q, if_pos ⟨q.1, by omega, q.2.2⟩, zI_sJ, zJ_sJ, if_neg (by omega)]
      · rw [if_neg q, zJ_sJ]
        by_cases q2 : b = 4 ∧ i = x
        · rw [if_pos q2, if_pos (by omega), q2.2]
        · rw [if_neg q2, if_neg (by omega)]
theorem q_mend149 (hN : 10000000 ≤ N) (cnt : Int32) : ∀ (d f x : Nat) (M : ZM), x + d = 28 → d < f → zRf sw k (zR M) → ∃ M', f_X7_mend_149 N (zKs k) (zln k) f 112 cnt (nI x) M = (f_X7_changed N (zKs k) (zln k) 112 M').bind (fun M4 => some (cnt, M4)) ∧ zR M' = zR M ∧ zD M' = zD M ∧ zI M' = zI M ∧ ∀ b i, zJ M' b i = if b = 118 ∧ x ≤ i ∧ i < 28 then zJ M 118 i + (zI M 117 i).toInt64 else zJ M b i
  | d, 0, x, M, _, hf, _ => absurd hf (Nat.not_lt_zero d)
  | 0, f + 1, x, M, hd, _, hR => by
    refine ⟨M, ?_, rfl, rfl, rfl, fun b i => by rw [if_neg (by omega)]⟩
    rw [f_X7_mend_149, if_pos (show (28 : Int32) ≤ nI x from nI_le (a := 28) (by omega) (by omega))]
    congr 1
    funext M4
    rw [zgK (k112 k)]
  | d + 1, f + 1, x, M, hd, hf, hR => by
    obtain ⟨M', e, r, D, I, h⟩ := q_mend149 hN cnt d f (x + 1) (zsJ M 118 x (zJ M 118 x + (zI M 117 x).toInt64)) (by omega) (by omega) hR
    refine ⟨M', ?_, r, D, I, fun b i => ?_⟩
    · rw [f_X7_mend_149, if_neg (show ¬ (28 : Int32) ≤ nI x from nI_ge (b := 28) (by omega) (by omega)), zgK (k112 k), zbindS (hR.at 112 6 118 (zrm 27 rfl)), zgok (k118 k) (l118 k) (show x < 28 by omega) (by decide), zbindS (hR.at 112 5 117 (zrm 26 rfl)), zgok (k117 k) (l117 k) (show x < 28 by omega) (by decide), zlS, nI_clamp (by omega), nI_1]
      exact e
    · rw [h b i]
      by_cases q : b = 118 ∧ x + 1 ≤ i ∧ i < 28
      · rw [if_pos q, if_pos ⟨q.1, by omega, q.2.2⟩, zI_sJ, zJ_sJ, if_neg (by omega)]
      · rw [if_neg q, zJ_sJ]
        by_cases q2 : b = 118 ∧ i = x
        · rw [if_pos q2, if_pos (by omega), q2.2]
        · rw [if_neg q2, if_neg (by omega)]
theorem q_mend65 (hs5 : s < 5) (h6 : n ≤ 6) {rh : Nat → Int32} {rn v : Nat → Nat} {key : Int64} {wt : Nat → Int} (hrn : ∀ w, 1 ≤ w → w ≤ n → rh w = nI (rn w) ∧ rn w ≤ n) (hv : ∀ w, 1 ≤ w → w ≤ n → v w ≤ n) (hkey : ∀ M : ZM, zRf sw k (zR M) → zI M 113 s = nI n → ∀ w, 1 ≤ w → w ≤ n → f_X7_headIn N (zKs k) (zln k) 112 (nI s) key (nI w) M = some (nI (v w))) : ∀ (d f w : Nat) (M : ZM), w + d = n → d < f → zRf sw k (zR M) → zSenM s n kd mk (zI M) → (∀ w, 1 ≤ w → w ≤ n → zI M 116 (7 * s + w) = rh w) → (∀ g, g < 28 → zI M 117 g = iI (zmd kd rn v wt w g)) → ∃ M', f_X7_mend_65 N (zKs k) (zln k) f 112 (nI s) key (nI (zmn rn v w)) (nI (w + 1)) M = f_X7_mend_149 N (zKs k) (zln k) N 112 (nI (zmn rn v n)) (0 : Int32) (zsI M' 112 7 (zI M' 112 7 + 1)) ∧ zR M' = zR M ∧ zJ M' = zJ M ∧ zD M' = zD M ∧ (∀ g, g < 28 → zI M' 117 g = iI (zmd kd rn v wt n g)) ∧ ∀ b i, b ≠ 117 → zI M' b i = zI M b i
  | d, 0, w, M, _, hf, _, _, _, _ => absurd hf (Nat.not_lt_zero d)
  | 0, f + 1, w, M, hd, _, hR, hS, hr, hW => by
    have e : w = n := by omega
    subst e
    refine ⟨M, ?_, rfl, rfl, rfl, hW, fun _ _ _ => rfl⟩
    rw [f_X7_mend_65, zgK (k112 k), zbindS (hR.at 112 1 113 (zrm 22 rfl)), zgok (k113 k) (l113 k) hs5 (by decide), nI_clamp (by omega), hS.2.1, if_pos (nI_lt (Nat.lt_succ_self w) (by omega)), zlS]
  | d + 1, f + 1, w, M, hd, hf, hR, hS, hr, hW => by
    obtain ⟨e1, b1⟩ := hrn (w + 1) (by omega) (by omega)
    have e2 := hkey M hR hS.2.1 (w + 1) (by omega) (by omega)
    have b2 := hv (w + 1) (by omega) (by omega)
    have pre : f_X7_mend_65 N (zKs k) (zln k) (f + 1) 112 (nI s) key (nI (zmn rn v w)) (nI (w + 1)) M = if nI (rn (w + 1)) = nI (v (w + 1)) then f_X7_mend_65 N (zKs k) (zln k) f 112 (nI s) key (nI (zmn rn v w)) (nI (w + 1 + 1)) M else (f_X7_adds N (zKs k) (zln k) 112 (nI s) (nI (rn (w + 1))) (nI (w + 1)) 1 M).bind fun M16 => (f_X7_adds N (zKs k) (zln k) 112 (nI s) (nI (v (w + 1))) (nI (w + 1)) (-1) M16).bind fun M19 => f_X7_mend_65 N (zKs k) (zln k) f 112 (nI s) key (nI (zmn rn v w) + 1) (nI (w + 1 + 1)) M19 := by
      rw [f_X7_mend_65, zgK (k112 k), zbindS (hR.at 112 1 113 (zrm 22 rfl)), zgok (k113 k) (l113 k) hs5 (by decide), nI_clamp (show s < 2 ^ 31 by omega), hS.2.1, if_neg (nI_nlt (by omega) (by omega)), zbindS (hR.at 112 4 116 (zrm 25 rfl)), q_at, zgok (k116 k) (l116 k) (show 7 * s + (w + 1) < 35 by omega) (by decide), nI_clamp (show 7 * s + (w + 1) < 2 ^ 31 by omega), hr _ (by omega) (by omega), e1, zbindS e2, ← nI_1 (w + 1)]
      by_cases q : nI (rn (w + 1)) = nI (v (w + 1))
      · rw [if_pos q, if_pos q]
        exact rfl
      · rw [if_neg q, if_neg q]
        exact rfl
    rw [pre]
    have ez : zmd kd rn v wt (w + 1) = if rn (w + 1) = v (w + 1) then zmd kd rn v wt w else zad (zad (zmd kd rn v wt w) (zbk kd (rn (w + 1)) (w + 1)) (zbd (rn (w + 1)) (w + 1)) 1) (zbk kd (v (w + 1)) (w + 1)) (zbd (v (w + 1)) (w + 1)) (-1) := rfl
    have en : zmn rn v (w + 1) = zmn rn v w + (if rn (w + 1) = v (w + 1) then 0 else 1) := rfl
    by_cases q : rn (w + 1) = v (w + 1)
    · rw [if_pos q] at ez
      have en : zmn rn v (w + 1) = zmn rn v w := by rw [en, if_pos q]; rfl
      rw [if_pos (by rw [q]), ← en]
      exact q_mend65 hs5 h6 hrn hv hkey d f (w + 1) M (by omega) (by omega) hR hS hr (by rw [ez]; exact hW)
    · rw [if_neg q] at ez en
      rw [if_neg (fun z => q ((nI_eq (by omega) (by omega)).mp z))]
      obtain ⟨M1, a1, r1, j1, d1, w1, o1⟩ := q_adds (N := N) hR hs5 hS hW b1 (show 1 ≤ w + 1 by omega) (show w + 1 ≤ n by omega) 1
      have hR1 : zRf sw k (zR M1) := by rw [r1]; exact hR
      have hS1 : zSenM s n kd mk (zI M1) := zSenM_congr (fun a i ha => o1 a i (by omega)) hS
      obtain ⟨M2, a2, r2, j2, d2, w2, o2⟩ := q_adds (N := N) hR1 hs5 hS1 w1 b2 (show 1 ≤ w + 1 by omega) (show w + 1 ≤ n by omega) (-1)
      have hR2 : zRf sw k (zR M2) := by rw [r2]; exact hR1
      obtain ⟨M', e, r3, j3, d3, w3, o3⟩ := q_mend65 hs5 h6 hrn hv hkey d f (w + 1) M2 (by omega) (by omega) hR2 (zSenM_congr (fun a i ha => o2 a i (by omega)) hS1) (fun x x1 x2 => (o2 _ _ (by omega)).trans ((o1 _ _ (by omega)).trans (hr x x1 x2))) (by rw [ez]; exact w2)
      refine ⟨M', ?_, r3.trans (r2.trans r1), j3.trans (j2.trans j1), d3.trans (d2.trans d1), w3, fun b i z => (o3 b i z).trans ((o2 b i z).trans (o1 b i z))⟩
      rw [show (1 : Int32) = iI 1 from rfl, zbindS a1, show -iI 1 = iI (-1) from by decide +kernel, zbindS a2, show nI (zmn rn v w) + iI 1 = nI (zmn rn v (w + 1)) from by rw [en]; exact nI_1 _]
      exact e
end MW
