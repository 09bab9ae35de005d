/-! CIRCLES in memory: contraction, rounds. -/
/-- what the contracted table holds -/
def zCon (sw : Bool) (m' : Nat) (K' : Nat → Nat → Option Int) (J : Nat → Nat → Int64) : Prop := ∀ a b, a < m' → b < 7 → J (zct sw + 1 + a) b = zoI (K' a b)
/-- one more offer -/
def zof (K' : Nat → Nat → Option Int) (a b : Nat) (v : Int) : Nat → Nat → Option Int := fun i j => if i = a ∧ j = b then zomax (K' a b) (some v) else K' i j
theorem zKc_skip {m : Nat} {K K' : Nat → Nat → Option Int} {g : Nat → Nat} {y : Nat → Int} {D D' : Nat → Nat → Prop} (h : zKc m K K' g y D) (h1 : ∀ a b, D a b → D' a b) (h2 : ∀ a b, a < m → 1 ≤ b → b < m → D' a b → D a b ∨ g a = g b ∨ K a b = none) : zKc m K K' g y D' := by
  refine ⟨fun a b z e => ?_, fun a b x hd ha hb1 hb hg e => ?_⟩
  · obtain ⟨p, w, x, q1, q2⟩ := h.1 a b z e
    exact ⟨p, w, x, h1 _ _ q1, q2⟩
  · rcases h2 a b ha hb1 hb hd with q | q | q
    · exact h.2 a b x q ha hb1 hb hg e
    · exact absurd q hg
    · rw [q] at e; cases e
theorem zKc_step {m : Nat} {K K' : Nat → Nat → Option Int} {g : Nat → Nat} {y : Nat → Int} {D D' : Nat → Nat → Prop} (h : zKc m K K' g y D) {p w : Nat} {x : Int} (hp : p < m) (hw1 : 1 ≤ w) (hw : w < m) (hx : K p w = some x) (hg : g p ≠ g w) (h0 : D' p w) (h1 : ∀ a b, D a b → D' a b) (h2 : ∀ a b, a < m → 1 ≤ b → b < m → D' a b → D a b ∨ (a = p ∧ b = w)) : zKc m K (zof K' (g p) (g w) (x - y w)) g y D' := by
  constructor
  · intro a b z e
    unfold zof at e
    by_cases q : a = g p ∧ b = g w
    · rw [if_pos q] at e
      rcases zomax_of e with q2 | q2
      · obtain ⟨p', w', x', r1, r2⟩ := h.1 (g p) (g w) z q2
        rw [← q.1, ← q.2] at r2
        exact ⟨p', w', x', h1 _ _ r1, r2⟩
      · exact ⟨p, w, x, h0, hp, hw1, hw, q.1.symm, q.2.symm, by rw [q.1, q.2]; exact hg, hx, (Option.some.inj q2).symm⟩
    · rw [if_neg q] at e
      obtain ⟨p', w', x', r1, r2⟩ := h.1 a b z e
      exact ⟨p', w', x', h1 _ _ r1, r2⟩
  · intro a b x' hd ha hb1 hb hg' e
    unfold zof
    rcases h2 a b ha hb1 hb hd with q | ⟨q1, q2⟩
    · obtain ⟨z, e2, h3⟩ := h.2 a b x' q ha hb1 hb hg' e
      by_cases q : g a = g p ∧ g b = g w
      · rw [if_pos q]
        rw [q.1, q.2] at e2
        obtain ⟨z', e3, h4⟩ := zomax_l (b := some (x - y w)) e2
        exact ⟨z', e3, by omega⟩
      · rw [if_neg q]; exact ⟨z, e2, h3⟩
    · subst q1; subst q2
      rw [if_pos ⟨rfl, rfl⟩]
      rw [hx] at e
      have e := Option.some.inj e
      obtain ⟨z', e3, h4⟩ := zomax_r (a := K' (g a) (g b)) (b := some (x - y b)) rfl
      exact ⟨z', e3, by omega⟩
/-- only the table of contracted keys has changed -/
def zCf (M M' : ZM) : Prop := zR M' = zR M ∧ zI M' = zI M ∧ zD M' = zD M
section CC
variable {N k m m' : Nat} {sw : Bool} {K : Nat → Nat → Option Int} {M : ZM}
theorem zoI_ofle {o : Option Int} (ho : zob 1000000000000 o) {v : Int} (h1 : -1000000000000 ≤ v) (h2 : v ≤ 1000000000000) : (lI v ≤ zoI o → zomax o (some v) = o) ∧ (¬ lI v ≤ zoI o → zomax o (some v) = some v) := by
  cases o with
  | none =>
    refine ⟨fun h => ?_, fun _ => rfl⟩
    have h : lI v ≤ zNK := h
    rw [Int64.le_iff_toInt_le, lI_toInt (by omega) (by omega), show zNK.toInt = -9223372036854775808 by decide +kernel] at h
    omega
  | some x =>
    have hx := ho x rfl
    show (lI v ≤ lI x → some (if v < x then x else v) = some x) ∧ (¬ lI v ≤ lI x → some (if v < x then x else v) = some v)
    rw [lI_le (by omega) (by omega) (by omega) (by omega)]
    constructor
    · intro h
      congr 1
      split <;> omega
    · intro h
      congr 1
      split <;> omega
theorem s_offer (hR : zRf sw k (zR M)) {K' : Nat → Nat → Option Int} (hC : zCon sw m' K' (zJ M)) (hm' : m' ≤ 7) (hB : ∀ a b, zob 1000000000000 (K' a b)) {a b : Nat} (ha : a < m') (hb : b < m') (hab : a ≠ b) {v : Int} (h1 : -1000000000000 ≤ v) (h2 : v ≤ 1000000000000) : ∃ M', f_X1_offer N (zKs k) (zln k) 90 (nI a) (nI b) (lI v) M = some M' ∧ zCf M M' ∧ zCon sw m' (zof K' a b v) (zJ M') ∧ ∀ c i, (∀ h, h < 7 → c ≠ zct sw + 1 + h) → zJ M' c i = zJ M c i := by
  have hq := zoI_ofle (hB a b) h1 h2
  unfold f_X1_offer f_X1_offer_0
  rw [if_neg (fun q => hab ((nI_eq (by omega) (by omega)).mp q)), zbindS (s_isPlace N (show a < 7 by omega)), if_neg one_ne0, zbindS (s_isPlace N (show b < 7 by omega)), if_neg one_ne0, zgK (k90 k), zbindS (zRf_ct hR), zgok (zct_k k sw) (zct_l k sw) (show a < 7 by omega) (by decide), nI_clamp (show a < 2 ^ 31 by omega), zbindS (zRf_cr hR (show a < 7 by omega)), zgok (zct_kr k sw (show a < 7 by omega)) (zct_lr k sw (show a < 7 by omega)) (show b < 7 by omega) (by decide), nI_clamp (show b < 2 ^ 31 by omega), hC a b ha (by omega)]
  by_cases c : lI v ≤ zoI (K' a b)
  · rw [if_pos c]
    refine ⟨M, rfl, ⟨rfl, rfl, rfl⟩, fun i j hi hj => ?_, fun _ _ _ => rfl⟩
    unfold zof
    by_cases q : i = a ∧ j = b
    · rw [if_pos q, hq.1 c, q.1, q.2]; exact hC a b ha (by omega)
    · rw [if_neg q]; exact hC i j hi hj
  · rw [if_neg c, zbindS (zRf_cr hR (show a < 7 by omega)), zgok (zct_kr k sw (show a < 7 by omega)) (zct_lr k sw (show a < 7 by omega)) (show b < 7 by omega) (by decide), zlS]
    refine ⟨_, rfl, ⟨rfl, rfl, rfl⟩, fun i j hi hj => ?_, fun c i hc => by rw [zJ_sJ, if_neg (fun q => hc a (by omega) q.1)]⟩
    unfold zof
    rw [zJ_sJ]
    by_cases q : i = a ∧ j = b
    · rw [if_pos ⟨by rw [q.1], q.2⟩, if_pos q, hq.2 c]; rfl
    · rw [if_neg (fun z => q ⟨by omega, z.2⟩), if_neg q]; exact hC i j hi hj
/-- what stays while offers are made -/
def zCin (sw : Bool) (k m m' : Nat) (K : Nat → Nat → Option Int) (g tk : Nat → Nat) (M : ZM) : Prop := zRf sw k (zR M) ∧ zI M 90 4 = nI m ∧ zKey sw m K (zJ M) ∧ (∀ i, i < m → zI M 108 i = nI (g i)) ∧ (∀ w, 1 ≤ w → w < m → zI M 107 w = nI (tk w))
theorem zCin_cf {g tk : Nat → Nat} {M M' : ZM} (h : zCin sw k m m' K g tk M) (hm7 : m ≤ 7) (hf : zCf M M') (hj : ∀ c i, (∀ h, h < 7 → c ≠ zct sw + 1 + h) → zJ M' c i = zJ M c i) : zCin sw k m m' K g tk M' := by
  obtain ⟨a1, a2, a3, a4, a5⟩ := h
  obtain ⟨b1, b2, b3⟩ := hf
  refine ⟨by rw [b1]; exact a1, by rw [b2]; exact a2, fun i w hi hw => ?_, by rw [b2]; exact a4, by rw [b2]; exact a5⟩
  rw [hj _ _ (fun h hh => zkct sw (by omega) hh)]
  exact a3 i w hi hw
theorem s_contract51 (hm7 : m ≤ 7) (hm' : m' ≤ m) {g tk : Nat → Nat} {y : Nat → Int} (hg : ∀ i, i < m → g i < m') {B : Int} (hBm : B ≤ 400000000000) (hKB : ∀ h w, zob B (K h w)) (kh : Nat → Int32 → Int32 → ZM → Option ZM) {w : Nat} (hw1 : 1 ≤ w) (hw : w < m) (hyB : -B ≤ y w ∧ y w ≤ B) : ∀ (d f h : Nat) (K' : Nat → Nat → Option Int) (M : ZM), h + d = m → d < f → zCin sw k m m' K g tk M → zCon sw m' K' (zJ M) → (∀ a b, zob (B + B) (K' a b)) → zKc m K K' g y (fun a b => b < w ∨ (b = w ∧ a < h)) → ∃ M' K2, f_X1_contract_51 N (zKs k) (zln k) kh f 90 (nI m') (nI w) (lI (y w)) (nI h) M = kh 90 (nI m') (nI (w + 1)) M' ∧ zCf M M' ∧ zCin sw k m m' K g tk M' ∧ zCon sw m' K2 (zJ M') ∧ (∀ a b, zob (B + B) (K2 a b)) ∧ zKc m K K2 g y (fun _ b => b < w + 1) ∧ ∀ c i, (∀ h, h < 7 → c ≠ zct sw + 1 + h) → zJ M' c i = zJ M c i
  | d, 0, h, K', M, _, hf, _, _, _, _ => absurd hf (Nat.not_lt_zero d)
  | 0, f + 1, h, K', M, hd, _, hI, hC, hB, hD => by
    refine ⟨M, K', ?_, ⟨rfl, rfl, rfl⟩, hI, hC, hB, zKc_skip hD (fun a b q => by omega) (fun a b ha _ _ q => Or.inl (by omega)), fun _ _ _ => rfl⟩
    rw [f_X1_contract_51, zgK (k90 k), hI.2.1, if_pos (nI_le (by omega) (by omega)), show nI w + 1 = nI (w + 1) from nI_1 w]
  | d + 1, f + 1, h, K', M, hd, hf, hI, hC, hB, hD => by
    have hR := hI.1
    have hkey := hI.2.2.1 h w (by omega) hw
    have go : ∀ (K1 : Nat → Nat → Option Int) (M1 : ZM), zCf M M1 → (∀ c i, (∀ h, h < 7 → c ≠ zct sw + 1 + h) → zJ M1 c i = zJ M c i) → zCon sw m' K1 (zJ M1) → (∀ a b, zob (B + B) (K1 a b)) → zKc m K K1 g y (fun a b => b < w ∨ (b = w ∧ a < h + 1)) → ∃ M' K2, f_X1_contract_51 N (zKs k) (zln k) kh f 90 (nI m') (nI w) (lI (y w)) (nI (h + 1)) M1 = kh 90 (nI m') (nI (w + 1)) M' ∧ zCf M M' ∧ zCin sw k m m' K g tk M' ∧ zCon sw m' K2 (zJ M') ∧ (∀ a b, zob (B + B) (K2 a b)) ∧ zKc m K K2 g y (fun _ b => b < w + 1) ∧ ∀ c i, (∀ h, h < 7 → c ≠ zct sw + 1 + h) → zJ M' c i = zJ M c i := by
      intro K1 M1 g1 j1 c1 b1 d1
      obtain ⟨M2, K2, e, r1, r2, r3, r4, r5, r6⟩ := s_contract51 hm7 hm' hg hBm hKB kh hw1 hw hyB d f (h + 1) K1 M1 (by omega) (by omega) (zCin_cf hI hm7 g1 j1) c1 b1 d1
      exact ⟨M2, K2, e, ⟨r1.1.trans g1.1, r1.2.1.trans g1.2.1, r1.2.2.trans g1.2.2⟩, r2, r3, r4, r5, fun c i hc => (r6 c i hc).trans (j1 c i hc)⟩
    have pre : f_X1_contract_51 N (zKs k) (zln k) kh (f + 1) 90 (nI m') (nI w) (lI (y w)) (nI h) M = if zoI (K h w) = (-9223372036854775808 : Int64) then f_X1_contract_51 N (zKs k) (zln k) kh f 90 (nI m') (nI w) (lI (y w)) (nI (h + 1)) M else (f_X1_offer N (zKs k) (zln k) 90 (nI (g h)) (nI (g w)) (zoI (K h w) - lI (y w)) M).bind fun M19 => f_X1_contract_51 N (zKs k) (zln k) kh f 90 (nI m') (nI w) (lI (y w)) (nI (h + 1)) M19 := by
      rw [f_X1_contract_51, zgK (k90 k), hI.2.1, if_neg (nI_ge (by omega) (by omega)), zbindS (zRf_kt hR), zgok (zkt_k k sw) (zkt_l k sw) (show h < 7 by omega) (by decide), nI_clamp (show h < 2 ^ 31 by omega), zbindS (zRf_kr hR (show h < 7 by omega)), zgok (zkt_kr k sw (show h < 7 by omega)) (zkt_lr k sw (show h < 7 by omega)) (show w < 7 by omega) (by decide), nI_clamp (show w < 2 ^ 31 by omega), hkey]
      by_cases c : zoI (K h w) = (-9223372036854775808 : Int64)
      · rw [if_pos c, if_pos c, ← nI_1 h]
        exact rfl
      · rw [if_neg c, if_neg c, zbindS (hR.at 90 3 108 (zrm 19 rfl)), zgok (k108 k) (l108 k) (show h < 7 by omega) (by decide), zgok (k108 k) (l108 k) (show w < 7 by omega) (by decide), zbindS (zRf_kr hR (show h < 7 by omega)), zgok (zkt_kr k sw (show h < 7 by omega)) (zkt_lr k sw (show h < 7 by omega)) (show w < 7 by omega) (by decide), hI.2.2.2.1 h (by omega), hI.2.2.2.1 w hw, hkey, ← nI_1 h]
        exact rfl
    rw [pre]
    cases hx : K h w with
    | none =>
      rw [if_pos (show zoI none = (-9223372036854775808 : Int64) from rfl)]
      exact go K' M ⟨rfl, rfl, rfl⟩ (fun _ _ _ => rfl) hC hB (zKc_skip hD (fun a b q => by omega) (fun a b _ _ _ q => by
        by_cases z : b = w ∧ a = h
        · exact Or.inr (Or.inr (by rw [z.1, z.2]; exact hx))
        · exact Or.inl (by omega)))
    | some x =>
      have hxb := hKB h w x hx
      rw [if_neg (show ¬ zoI (some x) = (-9223372036854775808 : Int64) from zoI_ne (by omega) (by omega)), show zoI (some x) - lI (y w) = lI (x - y w) from lI_sub x (y w)]
      by_cases hgg : g h = g w
      · rw [hgg, zbindS (show f_X1_offer N (zKs k) (zln k) 90 (nI (g w)) (nI (g w)) (lI (x - y w)) M = some M from if_pos rfl)]
        exact go K' M ⟨rfl, rfl, rfl⟩ (fun _ _ _ => rfl) hC hB (zKc_skip hD (fun a b q => by omega) (fun a b _ _ _ q => by
          by_cases z : b = w ∧ a = h
          · exact Or.inr (Or.inl (by rw [z.1, z.2]; exact hgg))
          · exact Or.inl (by omega)))
      · obtain ⟨M1, e1, f1, c1, j1⟩ := s_offer (N := N) hR hC (by omega) (fun a b => zob_mono (hB a b) (by omega)) (hg h (by omega)) (hg w hw) hgg (v := x - y w) (by omega) (by omega)
        rw [zbindS e1]
        refine go _ M1 f1 j1 c1 (fun a b => ?_) (zKc_step hD (by omega) hw1 hw hx hgg (Or.inr ⟨rfl, Nat.lt_succ_self h⟩) (fun a b q => by omega) (fun a b _ _ _ q => by
          by_cases z : b = w ∧ a = h
          · exact Or.inr ⟨z.2, z.1⟩
          · exact Or.inl (by omega)))
        unfold zof
        by_cases z : a = g h ∧ b = g w
        · rw [if_pos z]
          intro u eu
          rcases zomax_of eu with q | q
          · exact hB _ _ u q
          · have := Option.some.inj q
            omega
        · rw [if_neg z]; exact hB a b
theorem s_contract33 (hN : 10000000 ≤ N) (hm7 : m ≤ 7) (hm' : m' ≤ m) {g tk : Nat → Nat} {y : Nat → Int} (hg : ∀ i, i < m → g i < m') {B : Int} (hBm : B ≤ 400000000000) (hKB : ∀ h w, zob B (K h w)) (hT : zTk m K tk y) : ∀ (d f w : Nat) (K' : Nat → Nat → Option Int) (M : ZM), w + d = m → 1 ≤ w → d < f → zCin sw k m m' K g tk M → zCon sw m' K' (zJ M) → (∀ a b, zob (B + B) (K' a b)) → zKc m K K' g y (fun _ b => b < w) → ∃ M1 K2, f_X1_contract_33 N (zKs k) (zln k) f 90 (nI m') (nI w) M = some (zsI (zsR (zsR M1 90 0 (some (zct sw))) 90 1 (some (zkt sw))) 90 4 (nI m')) ∧ zCf M M1 ∧ zCin sw k m m' K g tk M1 ∧ zCon sw m' K2 (zJ M1) ∧ (∀ a b, zob (B + B) (K2 a b)) ∧ zKc m K K2 g y (fun _ _ => True) ∧ ∀ c i, (∀ h, h < 7 → c ≠ zct sw + 1 + h) → zJ M1 c i = zJ M c i
  | d, 0, w, K', M, _, _, hf, _, _, _, _ => absurd hf (Nat.not_lt_zero d)
  | 0, f + 1, w, K', M, hd, h1, _, hI, hC, hB, hD => by
    refine ⟨M, K', ?_, ⟨rfl, rfl, rfl⟩, hI, hC, hB, zKc_skip hD (fun _ _ _ => trivial) (fun a b _ _ hb _ => Or.inl (by omega)), fun _ _ _ => rfl⟩
    rw [f_X1_contract_33, zgK (k90 k), hI.2.1, if_pos (nI_le (by omega) (by omega)), zbindS (zRf_kt hI.1), zbindS (zRf_ct hI.1), zlS, zlS, zlS]
  | d + 1, f + 1, w, K', M, hd, h1, hf, hI, hC, hB, hD => by
    have hw := hT w h1 (by omega)
    have hk : f_X1_takenKey N (zKs k) (zln k) 90 (nI w) M = some (lI (y w)) := by
      rw [s_takenKey hI.1 hI.2.1 hm7 h1 (by omega) (hI.2.2.2.2 w h1 (by omega)) hw.1, hI.2.2.1 _ _ hw.1 (by omega), hw.2.1]
      rfl
    obtain ⟨M1, K1, e1, f1, i1, c1, b1, d1, j1⟩ := s_contract51 (N := N) (k := k) (sw := sw) (tk := tk) hm7 hm' hg hBm hKB (fun y0 y2 y3 M => f_X1_contract_33 N (zKs k) (zln k) f y0 y2 y3 M) h1 (show w < m by omega) (hKB _ _ _ hw.2.1) m N 0 K' M (by omega) (by omega) hI hC hB (zKc_skip hD (fun a b q => Or.inl q) (fun a b _ _ _ q => Or.inl (by omega)))
    obtain ⟨M2, K2, e2, f2, i2, c2, b2, d2, j2⟩ := s_contract33 hN hm7 hm' hg hBm hKB hT d f (w + 1) K1 M1 (by omega) (by omega) (by omega) i1 c1 b1 d1
    refine ⟨M2, K2, ?_, ⟨f2.1.trans f1.1, f2.2.1.trans f1.2.1, f2.2.2.trans f1.2.2⟩, i2, c2, b2, d2, fun c i hc => (j2 c i hc).trans (j1 c i hc)⟩
    rw [f_X1_contract_33, zgK (k90 k), hI.2.1, if_neg (nI_ge (by omega) (by omega)), zbindS hk]
    exact e1.trans e2
theorem s_contract8 (hN : 10000000 ≤ N) (hm' : m' ≤ 7) : ∀ (d f h : Nat) (M : ZM), h + d = m' → d < f → zRf sw k (zR M) → (∀ a, a < h → ∀ b, b < 7 → zJ M (zct sw + 1 + a) b = zNK) → ∃ M', f_X1_contract_8 N (zKs k) (zln k) f 90 (nI m') (nI h) M = f_X1_contract_33 N (zKs k) (zln k) N 90 (nI m') (1 : Int32) M' ∧ zCf M M' ∧ zCon sw m' (fun _ _ => none) (zJ M') ∧ ∀ c i, (∀ h, h < 7 → c ≠ zct sw + 1 + h) → zJ M' c i = zJ M c i
  | d, 0, h, M, _, hf, _, _ => absurd hf (Nat.not_lt_zero d)
  | 0, f + 1, h, M, hd, _, hR, hz => by
    refine ⟨M, ?_, ⟨rfl, rfl, rfl⟩, fun a b ha hb => hz a (by omega) b hb, fun _ _ _ => rfl⟩
    rw [f_X1_contract_8, if_pos (nI_le (by omega) (by omega))]
  | d + 1, f + 1, h, M, hd, hf, hR, hz => by
    obtain ⟨M1, e1, r1, i1, d1, j1⟩ := s_fillJa (N := N) (K := zKs k) (len := zln k) (a := zct sw + 1 + h) (c := 7) hN (zct_kr k sw (by omega)) (zct_lr k sw (by omega)) (by decide) zNK M
    obtain ⟨M2, e2, f2, c2, j2⟩ := s_contract8 hN hm' d f (h + 1) M1 (by omega) (by omega) (by rw [r1]; exact hR) (fun a ha b hb => by
      rw [j1]
      by_cases q : a = h
      · rw [if_pos ⟨by rw [q], hb⟩]
      · rw [if_neg (by omega)]; exact hz a (by omega) b hb)
    refine ⟨M2, ?_, ⟨f2.1.trans r1, f2.2.1.trans i1, f2.2.2.trans d1⟩, c2, fun c i hc => (j2 c i hc).trans (by rw [j1, if_neg (fun q => hc h (by omega) q.1)])⟩
    rw [f_X1_contract_8, if_neg (nI_ge (by omega) (by omega)), zgK (k90 k), zbindS (zRf_ct hR), zgok (zct_k k sw) (zct_l k sw) (show h < 7 by omega) (by decide), nI_clamp (show h < 2 ^ 31 by omega), zbindS (zRf_cr hR (show h < 7 by omega)), show (-9223372036854775808 : Int64) = zNK from rfl, zbindS e1, nI_1]
    exact e2
/-- the tables are swapped -/
theorem zrows_sw : ∀ sw : Bool, ∀ q ∈ zrows (!sw), (q.1 = 90 ∧ q.2.1 = 0 ∧ q.2.2 = zct sw) ∨ (q.1 = 90 ∧ q.2.1 = 1 ∧ q.2.2 = zkt sw) ∨ (q ∈ zrows sw ∧ ¬ (q.1 = 90 ∧ q.2.1 = 0) ∧ ¬ (q.1 = 90 ∧ q.2.1 = 1)) := by decide
theorem zRf_swap (hR : zRf sw k (zR M)) : zRf (!sw) k (zR (zsR (zsR M 90 0 (some (zct sw))) 90 1 (some (zkt sw)))) := by
  have e : ∀ a i, zR (zsR (zsR M 90 0 (some (zct sw))) 90 1 (some (zkt sw))) a i = if a = 90 ∧ i = 1 then some (zkt sw) else if a = 90 ∧ i = 0 then some (zct sw) else zR M a i := fun a i => rfl
  have o : ∀ a i, a ≠ 90 → zR (zsR (zsR M 90 0 (some (zct sw))) 90 1 (some (zkt sw))) a i = zR M a i := fun a i h => by rw [e, if_neg (fun q => h q.1), if_neg (fun q => h q.1)]
  refine ⟨fun q hq => ?_, fun q hq h hh => ?_, fun s hs => ?_, fun s hs => ?_, fun a i r ha h => ?_⟩
  · rw [e]
    rcases zrows_sw sw q hq with ⟨h1, h2, h3⟩ | ⟨h1, h2, h3⟩ | ⟨h1, h2, h3⟩
    · rw [if_neg (by omega), if_pos ⟨h1, h2⟩, h3]
    · rw [if_pos ⟨h1, h2⟩, h3]
    · rw [if_neg h3, if_neg h2]; exact hR.1 q h1
  · have hne : ∀ q ∈ ztabs, q.1 ≠ 90 := by decide
    rw [o _ _ (hne q hq)]
    exact hR.2.1 q hq h hh
  · rw [o _ _ (by omega), o _ _ (by omega), o _ _ (by omega), o _ _ (by omega)]
    obtain ⟨h1, h2, h3, h4, h5⟩ := hR.2.2.1 s hs
    exact ⟨h1, h2, h3, h4, fun h hh => by rw [o _ _ (by omega)]; exact h5 h hh⟩
  · rw [o _ _ (by omega)]; exact hR.2.2.2.1 s hs
  · rw [e] at h
    have hz : zkt sw < 112 ∧ zct sw < 112 := by cases sw <;> decide
    by_cases q1 : a = 90 ∧ i = 1
    · rw [if_pos q1] at h
      have := Option.some.inj h
      omega
    · rw [if_neg q1] at h
      by_cases q2 : a = 90 ∧ i = 0
      · rw [if_pos q2] at h
        have := Option.some.inj h
        omega
      · rw [if_neg q2] at h
        exact hR.2.2.2.2 a i r ha h
/-- what the rounds leave -/
def zCr (k : Nat) (M M' : ZM) : Prop := zD M' = zD M ∧ (∀ a i, (a < 90 ∨ 108 < a) → zI M' a i = zI M a i) ∧ (∀ a i, (a < 92 ∨ 106 < a) → zJ M' a i = zJ M a i) ∧ ∃ sw, zRf sw k (zR M')
theorem zls_bb {f : Nat → Int} : ∀ {l : List Nat}, (∀ a ∈ l, -400000000000 ≤ f a ∧ f a ≤ 400000000000) → -400000000000 * (l.length : Int) ≤ zls f l ∧ zls f l ≤ 400000000000 * (l.length : Int)
  | [], _ => by show _ ≤ (0 : Int) ∧ (0 : Int) ≤ _; simp
  | a :: l, h => by
    have h1 := h a List.mem_cons_self
    have h2 := zls_bb (fun x hx => h x (List.mem_cons_of_mem _ hx) : ∀ x ∈ l, -400000000000 ≤ f x ∧ f x ≤ 400000000000)
    have hl : (a :: l).length = l.length + 1 := rfl
    rw [hl]
    show _ ≤ f a + zls f l ∧ f a + zls f l ≤ _
    omega
end CC
theorem s_circ66 {N k : Nat} (hN : 10000000 ≤ N) : ∀ (d f rd m : Nat) (sw : Bool) (K : Nat → Nat → Option Int) (tot B : Int) (M : ZM), rd + d = 7 → m ≤ d → 1 ≤ m → d < f → zRf sw k (zR M) → zI M 90 4 = nI m → zKey sw m K (zJ M) → (∀ w, K w w = none) → (∀ h w, zob B (K h w)) → 0 ≤ B → B * ((2 ^ d : Nat) : Int) ≤ 128000000000 → ∃ M' o, zBs m K o ∧ f_X1_greatest_66 N (zKs k) (zln k) f 90 (lI tot) (nI rd) M = some (zoI (o.map fun z => tot + z), M') ∧ zCr k M M'
  | d, 0, rd, m, sw, K, tot, B, M, _, _, _, hf, _, _, _, _, _, _, _ => absurd hf (Nat.not_lt_zero d)
  | 0, f + 1, rd, m, sw, K, tot, B, M, _, hmd, hm1, _, _, _, _, _, _, _, _ => by omega
  | d + 1, f + 1, rd, m, sw, K, tot, B, M, hd, hmd, hm1, hf, hR, hm, hK, hdiag, hB, hB0, hBd => by
    have hm7 : m ≤ 7 := by omega
    have hpow : B + B ≤ 128000000000 ∧ (B + B) * ((2 ^ d : Nat) : Int) ≤ 128000000000 := by
      rw [Nat.pow_succ, Int.natCast_mul, Int.mul_comm (((2 ^ d : Nat)) : Int), ← Int.mul_assoc, show B * ((2 : Nat) : Int) = B + B by omega] at hBd
      refine ⟨?_, hBd⟩
      have h1 : (1 : Int) ≤ ((2 ^ d : Nat) : Int) := by
        have := Nat.pow_pos (n := d) (show 0 < 2 by decide)
        omega
      have h2 := Int.mul_le_mul_of_nonneg_left h1 (show 0 ≤ B + B by omega)
      rw [Int.mul_one] at h2
      omega
    have h66 : ∀ M1 (v : Int64), f_X1_takeGreatest N (zKs k) (zln k) 90 M = some (v, M1) → f_X1_greatest_66 N (zKs k) (zln k) (f + 1) 90 (lI tot) (nI rd) M = if v = (-9223372036854775808 : Int64) then some ((-9223372036854775808 : Int64), M1) else (f_X1_findCircle N (zKs k) (zln k) 90 M1).bind fun q7 => if q7 = 0 then some (lI tot + v, M1) else (f_X1_contract N (zKs k) (zln k) 90 q7 M1).bind fun M12 => f_X1_greatest_66 N (zKs k) (zln k) f 90 (lI tot + v) (nI rd + 1) M12 := fun M1 v e => by
      rw [f_X1_greatest_66, if_neg (show ¬ (7 : Int32) ≤ nI rd from nI_ge (b := 7) (by omega) (by omega)), zbpS e, zgK (k90 k)]
    obtain ⟨M1, g1, h⟩ := s_takeGreatest (N := N) hN hm1 hm7 hR hm hK (fun h w => zob_mono (hB h w) (by omega))
    have hR1 : zRf sw k (zR M1) := by rw [g1.1]; exact hR
    have hm1' : zI M1 90 4 = nI m := by rw [g1.2.2.2 90 4 (by decide)]; exact hm
    have cr1 : zCr k M M1 := ⟨g1.2.2.1, fun a i h => g1.2.2.2 a i (by omega), fun a i _ => by rw [g1.2.1], sw, hR1⟩
    rcases h with ⟨e1, w, q1, q2, q3⟩ | ⟨tk, y, e1, ht, hT⟩
    · exact ⟨M1, none, zBs_none q1 q2 q3, by rw [h66 M1 _ e1, if_pos (show zNK = (-9223372036854775808 : Int64) from rfl)]; rfl, cr1⟩
    · have hlt : ∀ w, 1 ≤ w → w < m → tk w < m := fun w a b => (hT w a b).1
      have hyB : ∀ w, 1 ≤ w → w < m → -B ≤ y w ∧ y w ≤ B := fun w a b => hB _ _ _ (hT w a b).2.1
      have hS := zls_bb (f := y) (l := List.range' 1 (m - 1)) (fun a ha => by
        rw [zr1] at ha
        have := hyB a ha.1 ha.2
        omega)
      rw [List.length_range'] at hS
      have hne : ¬ lI (zls y (List.range' 1 (m - 1))) = (-9223372036854775808 : Int64) := zoI_ne (by omega) (by omega)
      have hzlt := zth_lt (m := m) hm1 hlt
      have hz0 : zth m tk 0 = 0 := if_neg (by omega)
      have hzw : ∀ w, 1 ≤ w → w < m → zth m tk w = tk w := fun w a b => if_pos ⟨a, b⟩
      obtain ⟨q, eq, hq⟩ := s_find2 (N := N) hN hm1 hm7 hR1 hm1' ht hlt (m - 1) N 1 (by omega) (Nat.le_refl 1) (by omega)
      have eq : f_X1_findCircle N (zKs k) (zln k) 90 M1 = some (nI q) := eq
      rcases hq with ⟨hq0, hno⟩ | ⟨hq0, st, hst, hqe⟩
      · obtain ⟨r, hr⟩ := zno_circle (tk := zth m tk) (m := m) hno
        refine ⟨M1, _, zBs_tree hT (r := r) (fun w a b => by rw [← hzw w a b]; exact hr w a b), ?_, cr1⟩
        rw [h66 M1 _ e1, if_neg hne, zbindS eq, hq0, if_pos (show nI 0 = 0 from rfl), lI_add]
        rfl
      · -- a circle
        have hst1 : zits (zth m tk) m st ≠ 0 := by rw [hqe]; exact hq0
        have hqm : q < m := by
          rw [← hqe]
          obtain ⟨c, hc⟩ : ∃ c, m = c + 1 := ⟨m - 1, by omega⟩
          rw [show zits (zth m tk) m st = zits (zth m tk) (c + 1) st by rw [← hc], zits_succ]
          exact hzlt _
        obtain ⟨P, hP1, hPm, hP⟩ := zper hzlt hz0 hst hst1
        rw [hqe] at hP
        have hself : ∀ w, 1 ≤ w → w < m → zth m tk w ≠ w := fun w a b e => by
          rw [hzw w a b] at e
          have := (hT w a b).2.1
          rw [e, hdiag] at this
          cases this
        obtain ⟨k0, kcl, kqq, kcc, kd⟩ := zon_facts hzlt hz0 hself hP1 hPm hP hq0 hqm
        obtain ⟨M2, e2, g2, hgr⟩ := s_group (N := N) hN hm1 hm7 hR1 hm1' ht hlt hqm (by omega)
        generalize hC : zon (zth m tk) m q = C at *
        have hR2 : zRf sw k (zR M2) := by rw [g2.1]; exact hR1
        have hg : ∀ i, i < m → zgr C m i < zcc C m + 1 := fun i hi => by
          unfold zgr
          by_cases c : C i = true
          · rw [if_pos c]; omega
          · rw [if_neg c]
            have := zcc_lt (C := C) hi (Bool.eq_false_iff.mpr c)
            omega
        obtain ⟨M3, e3, f3, c3, j3⟩ := s_contract8 (N := N) (k := k) (sw := sw) (m' := zcc C m + 1) hN (by omega) (zcc C m + 1) N 0 M2 (by omega) (by omega) hR2 (fun a ha => absurd ha (Nat.not_lt_zero a))
        have hI3 : zCin sw k m (zcc C m + 1) K (zgr C m) tk M3 := by
          refine ⟨by rw [f3.1]; exact hR2, by rw [f3.2.1, g2.2.2.2 90 4 (by decide)]; exact hm1', fun a w ha hw => ?_, fun i hi => by rw [f3.2.1]; exact hgr i hi, fun w a b => by rw [f3.2.1, g2.2.2.2 107 w (by decide)]; exact ht w a b⟩
          rw [j3 _ _ (fun h hh => zkct sw (by omega) hh), g2.2.1, g1.2.1]
          exact hK a w ha hw
        obtain ⟨M4, K', e4, f4, i4, c4, b4, d4, j4⟩ := s_contract33 (N := N) (k := k) (sw := sw) (m := m) (m' := zcc C m + 1) (K := K) (g := zgr C m) (tk := tk) (y := y) hN hm7 (by omega) hg (B := B) (by omega) hB hT (m - 1) N 1 (fun _ _ => none) M3 (by omega) (Nat.le_refl 1) (by omega) hI3 c3 (fun _ _ z e => by cases e) ⟨fun _ _ _ e => (by cases e), fun a b x hd _ hb1 _ _ _ => by omega⟩
        obtain ⟨M5, eM5⟩ : ∃ M5, M5 = zsI (zsR (zsR M4 90 0 (some (zct sw))) 90 1 (some (zkt sw))) 90 4 (nI (zcc C m + 1)) := ⟨_, rfl⟩
        rw [← eM5] at e4
        have hR5 : zRf (!sw) k (zR M5) := by rw [eM5]; exact zRf_swap i4.1
        have hJ5 : zJ M5 = zJ M4 := by rw [eM5]; rfl
        have hI5 : ∀ a i, ¬ (a = 90 ∧ i = 4) → zI M5 a i = zI M4 a i := fun a i h => by rw [eM5, zI_sI, if_neg h]; rfl
        have hm5 : zI M5 90 4 = nI (zcc C m + 1) := by rw [eM5, zI_sI, if_pos ⟨rfl, rfl⟩]
        have hK5 : zKey (!sw) (zcc C m + 1) K' (zJ M5) := fun a b ha hb => by
          rw [hJ5, show zkt (!sw) = zct sw by cases sw <;> rfl]
          exact c4 a b ha (by omega)
        have hdiag5 : ∀ w, K' w w = none := fun w => by
          cases e : K' w w with
          | none => rfl
          | some z =>
            obtain ⟨_, _, _, _, _, _, _, _, _, h, -⟩ := d4.1 w w z e
            exact absurd rfl h
        obtain ⟨M6, o, ho, e6, g6⟩ := s_circ66 hN d f (rd + 1) (zcc C m + 1) (!sw) K' (tot + zls y (List.range' 1 (m - 1))) (B + B) M5 (by omega) (by omega) (by omega) (by omega) hR5 hm5 hK5 hdiag5 b4 (by omega) hpow.2
        have hCz : ∀ p, C p = true → p < m ∧ C (tk p) = true := fun p hp => by
          have h1 := kcl p hp
          have h2 : 1 ≤ p := by
            rcases Nat.eq_zero_or_pos p with z | z
            · rw [z, k0] at hp; cases hp
            · exact z
          rw [hzw p h2 h1.1] at h1
          exact h1
        have hbest := zcontract (K := K) (K' := K') (tk := tk) (y := y) (C := C) hm1 hT k0 hCz ⟨q, kqq⟩ (fun u hu => by
          obtain ⟨dd, hdd⟩ := kd u hu
          refine ⟨dd, fun w hw hne => ?_⟩
          have h1 := kcl w hw
          have h2 : 1 ≤ w := by
            rcases Nat.eq_zero_or_pos w with z | z
            · rw [z, k0] at hw; cases hw
            · exact z
          rw [← hzw w h2 h1.1]
          exact hdd w hw hne) d4 ho
        refine ⟨M6, _, hbest, ?_, ?_⟩
        · have ec : f_X1_contract N (zKs k) (zln k) 90 (nI q) M1 = some M5 := by
            unfold f_X1_contract f_X1_contract_0
            rw [zbpS e2, zgK (k90 k)]
            exact e3.trans e4
          rw [h66 M1 _ e1, if_neg hne, zbindS eq, if_neg (nI_ne0 (by omega) (by omega)), zbindS ec, lI_add, show nI rd + 1 = nI (rd + 1) from nI_1 rd, e6]
          cases o with
          | none => rfl
          | some z =>
            show some (lI (tot + zls y (List.range' 1 (m - 1)) + z), M6) = some (lI (tot + (zls y (List.range' 1 (m - 1)) + z)), M6)
            rw [Int.add_assoc]
        · refine ⟨?_, fun a i h => ?_, fun a i h => ?_, g6.2.2.2⟩
          · rw [g6.1, eM5]
            show zD M4 = zD M
            rw [f4.2.2, f3.2.2, g2.2.2.1, g1.2.2.1]
          · rw [g6.2.1 a i h, hI5 a i (by omega), f4.2.1, f3.2.1, g2.2.2.2 a i (by omega), g1.2.2.2 a i (by omega)]
          · have hc : ∀ h, h < 7 → a ≠ zct sw + 1 + h := fun x hx => by
              have := zct_in sw hx
              omega
            rw [g6.2.2.1 a i h, hJ5, j4 a i hc, j3 a i hc, g2.2.1, g1.2.1]
section CT
variable {N k n : Nat} {sw : Bool} {al : Nat → Nat → Bool} {sc : Nat → Nat → Int}
theorem s_copy27 (hn : n ≤ 6) (kh : Nat → Nat → Int32 → ZM → Option (Int64 × ZM)) {h : Nat} (hh : h ≤ n) : ∀ (d f w : Nat) (M : ZM), w + d = n + 1 → d < f → zRf sw k (zR M) → zI M 90 4 = nI (n + 1) → zArcs n al sc M → (∀ a b, a ≤ n → b ≤ n → (a < h ∨ (a = h ∧ b < w)) → zJ M (zkt sw + 1 + a) b = zoI (zvl n al sc a b)) → ∃ M', f_X1_greatest_27 N (zKs k) (zln k) kh f 90 48 (nI h) (nI w) M = kh 90 48 (nI (h + 1)) M' ∧ zCf M M' ∧ zArcs n al sc M' ∧ (∀ a b, a ≤ n → b ≤ n → a < h + 1 → zJ M' (zkt sw + 1 + a) b = zoI (zvl n al sc a b)) ∧ ∀ c i, (c < 92 ∨ 106 < c) → zJ M' c i = zJ M c i
  | d, 0, w, M, _, hf, _, _, _, _ => absurd hf (Nat.not_lt_zero d)
  | 0, f + 1, w, M, hd, _, hR, hm, hA, hc => by
    refine ⟨M, ?_, ⟨rfl, rfl, rfl⟩, hA, fun a b ha hb q => hc a b ha hb (by omega), fun _ _ _ => rfl⟩
    rw [f_X1_greatest_27, zgK (k90 k), hm, if_pos (nI_le (by omega) (by omega)), show nI h + 1 = nI (h + 1) from nI_1 h]
  | d + 1, f + 1, w, M, hd, hf, hR, hm, hA, hc => by
    obtain ⟨M1, eM1⟩ : ∃ M1, M1 = zsJ M (zkt sw + 1 + h) w (zoI (zvl n al sc h w)) := ⟨_, rfl⟩
    have hin := zkt_in sw (show h < 7 by omega)
    have j1 : ∀ c i, (c < 92 ∨ 106 < c) → zJ M1 c i = zJ M c i := fun c i q => by rw [eM1, zJ_sJ, if_neg (by omega)]
    have hA1 : zArcs n al sc M1 := ⟨by rw [eM1]; exact hA.1, fun a b ha hb => (j1 (50 + a) b (by omega)).trans (hA.2 a b ha hb)⟩
    obtain ⟨M2, e2, f2, a2, c2, j2⟩ := s_copy27 hn kh hh d f (w + 1) M1 (by omega) (by omega) (by rw [eM1]; exact hR) (by rw [eM1]; exact hm) hA1 (fun a b ha hb q => by
      rw [eM1, zJ_sJ]
      by_cases z : a = h ∧ b = w
      · rw [if_pos ⟨by rw [z.1], z.2⟩, z.1, z.2]
      · rw [if_neg (by omega)]; exact hc a b ha hb (by omega))
    refine ⟨M2, ?_, ⟨f2.1.trans (by rw [eM1]; rfl), f2.2.1.trans (by rw [eM1]; rfl), f2.2.2.trans (by rw [eM1]; rfl)⟩, a2, c2, fun c i q => (j2 c i q).trans (j1 c i q)⟩
    rw [f_X1_greatest_27, zgK (k90 k), hm, if_neg (nI_ge (by omega) (by omega)), zbindS (zRf_kt hR), zgok (zkt_k k sw) (zkt_l k sw) (show h < 7 by omega) (by decide), nI_clamp (show h < 2 ^ 31 by omega), zbindS (zRf_kr hR (show h < 7 by omega)), zbindS (s_aget hR (show h < 7 by omega) (show w < 7 by omega)), zgK (k48 k), zgok (zkt_kr k sw (show h < 7 by omega)) (zkt_lr k sw (show h < 7 by omega)) (show w < 7 by omega) (by decide), zlS, nI_clamp (show w < 2 ^ 31 by omega), hA.2 h w hh (by omega), zvl_kk hh (by omega), ← eM1, nI_1]
    exact e2
theorem s_copy17 (hN : 10000000 ≤ N) (hn : n ≤ 6) : ∀ (d f h : Nat) (M : ZM), h + d = n + 1 → d < f → zRf sw k (zR M) → zI M 90 4 = nI (n + 1) → zArcs n al sc M → (∀ a b, a ≤ n → b ≤ n → a < h → zJ M (zkt sw + 1 + a) b = zoI (zvl n al sc a b)) → ∃ M', f_X1_greatest_17 N (zKs k) (zln k) f 90 48 (nI h) M = f_X1_greatest_66 N (zKs k) (zln k) N 90 (0 : Int64) (0 : Int32) M' ∧ zCf M M' ∧ zKey sw (n + 1) (zvl n al sc) (zJ M') ∧ ∀ c i, (c < 92 ∨ 106 < c) → zJ M' c i = zJ M c i
  | d, 0, h, M, _, hf, _, _, _, _ => absurd hf (Nat.not_lt_zero d)
  | 0, f + 1, h, M, hd, _, hR, hm, hA, hc => by
    refine ⟨M, ?_, ⟨rfl, rfl, rfl⟩, fun a b ha hb => hc a b (by omega) (by omega) (by omega), fun _ _ _ => rfl⟩
    rw [f_X1_greatest_17, zgK (k90 k), hm, if_pos (nI_le (by omega) (by omega))]
  | d + 1, f + 1, h, M, hd, hf, hR, hm, hA, hc => by
    obtain ⟨M1, e1, f1, a1, c1, j1⟩ := s_copy27 (N := N) (k := k) (sw := sw) hn (fun y0 y1 y2 M => f_X1_greatest_17 N (zKs k) (zln k) f y0 y1 y2 M) (show h ≤ n by omega) (n + 1) N 0 M (by omega) (by omega) hR hm hA (fun a b ha hb q => hc a b ha hb (by omega))
    obtain ⟨M2, e2, f2, c2, j2⟩ := s_copy17 hN hn d f (h + 1) M1 (by omega) (by omega) (by rw [f1.1]; exact hR) (by rw [f1.2.1]; exact hm) a1 c1
    refine ⟨M2, ?_, ⟨f2.1.trans f1.1, f2.2.1.trans f1.2.1, f2.2.2.trans f1.2.2⟩, c2, fun c i q => (j2 c i q).trans (j1 c i q)⟩
    rw [f_X1_greatest_17, zgK (k90 k), hm, if_neg (nI_ge (by omega) (by omega))]
    exact e1.trans e2
theorem s_circles (hN : 10000000 ≤ N) (hn : n ≤ 6) (hal : ∀ h w, al h w = true → h ≠ w) (hsc : ∀ h w, h ≤ n → 1 ≤ w → w ≤ n → -8000 ≤ sc h w ∧ sc h w ≤ 8000) {M : ZM} (hR : zRf sw k (zR M)) (hA : zArcs n al sc M) : ∃ M' o, zBst (zT n al true) (zkc sc) o ∧ f_X1_greatest N (zKs k) (zln k) 90 48 M = some (zoI o, M') ∧ zCr k M M' := by
  obtain ⟨M1, e1, f1, c1, j1⟩ := s_copy17 (N := N) (k := k) (sw := sw) (al := al) (sc := sc) hN hn (n + 1) N 0 (zsI M 90 4 (nI (n + 1))) (by omega) (by omega) hR (by rw [zI_sI, if_pos ⟨rfl, rfl⟩]) ⟨by rw [zI_sI, if_neg (by omega)]; exact hA.1, hA.2⟩ (fun a b _ _ q => absurd q (Nat.not_lt_zero a))
  obtain ⟨M2, o, h2, e2, g2⟩ := s_circ66 (N := N) (k := k) hN 7 N 0 (n + 1) sw (zvl n al sc) 0 1000000000 M1 (by omega) (by omega) (by omega) (by omega) (by rw [f1.1]; exact hR) (by rw [f1.2.1, zI_sI, if_pos ⟨rfl, rfl⟩]) c1 (fun w => by
    unfold zvl
    rw [if_neg (fun q => hal w w q.2.2.2 rfl)]) (zvl_b hn hsc) (by decide) (by decide)
  refine ⟨M2, o, zBs_zT hn h2, ?_, ?_⟩
  · unfold f_X1_greatest f_X1_greatest_0
    rw [zbindS s_asize, zgK (k48 k), zgK (k90 k), hA.1, show nI n + (1 : Int32) = nI (n + 1) from nI_1 n, if_neg (show ¬ (7 : Int32) < nI (n + 1) from nI_nlt (a := 7) (b := n + 1) (by omega) (by omega)), zlS]
    refine e1.trans (e2.trans ?_)
    cases o with
    | none => rfl
    | some z =>
      show some (lI (0 + z), M2) = some (lI z, M2)
      rw [Int.zero_add]
  · refine ⟨g2.1.trans f1.2.2, fun a i h => ?_, fun a i h => (g2.2.2.1 a i h).trans (j1 a i h), g2.2.2.2⟩
    rw [g2.2.1 a i h, f1.2.1, zI_sI, if_neg (by omega)]
end CT
