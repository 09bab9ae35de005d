/-! WHAT PARTS 63 TO 79 OF whole SAY OF THE CLASS ALONE. -/
/-! WHAT HOLDS BETWEEN CALLS. -/
/-- an entry of the history: weights, sums, steps ahead of a change, and whether it was a mending -/
abbrev zE : Type := (Nat → Int) × (Nat → Int) × Nat × Bool
/-- the class's sentences -/
def zA1 (k : Nat) (n : Nat → Nat) (kd : Nat → Nat → Nat) (mk : Nat → Nat → Nat → Int32) (rh : Nat → Nat → Int32) (I : Nat → Nat → Int32) : Prop := I 0 1 = nI k ∧ ∀ s, s < k → zSen s (n s) (kd s) (mk s) I ∧ ∀ w, w < 7 → I (112 + 11 * s + 2) w = rh s w
/-- right heads and marks beyond the words -/
def zA3 (k : Nat) (n : Nat → Nat) (mk : Nat → Nat → Nat → Int32) (rh : Nat → Nat → Int32) : Prop := k ≤ 5 ∧ ∀ s, s < k → (∀ w, w < 7 → rh s w = -1 ∨ (1 ≤ w ∧ w ≤ n s ∧ ∃ h, h ≤ n s ∧ rh s w = nI h)) ∧ ∀ h w, h < 7 → w < 7 → (n s < h ∨ n s < w) → mk s h w = 0
def zrp (nx i : Nat) : Nat := (nx + 19 - i) % 20
def zrq (fs l i : Nat) : Nat := (fs + l - 1 - i) % 20
/-- the class's weights and their ring -/
def zW1 (wt sm : Nat → Int) (st : Nat) (H : List zE) (nx : Nat) (I : Nat → Nat → Int32) (J : Nat → Nat → Int64) : Prop := (∀ f, f < 28 → I 3 f = iI (wt f) ∧ J 4 f = lI (sm f)) ∧ I 2 2 = nI st ∧ I 2 6 = nI H.length ∧ I 2 7 = nI nx ∧ nx < 20 ∧ ∀ i e, H[i]? = some e → (∀ f, f < 28 → I (6 + zrp nx i) f = iI (e.1 f) ∧ J (27 + zrp nx i) f = lI (e.2.1 f)) ∧ I 47 (zrp nx i) = nI e.2.2.1
section IN
variable {j k : Nat} {sw : Bool} {n : Nat → Nat} {kd : Nat → Nat → Nat} {mk : Nat → Nat → Nat → Int32} {rh : Nat → Nat → Int32} {wt sm : Nat → Int} {st : Nat} {H : List zE} {nx fs : Nat} {M M' : ZM}
theorem zrp_lt (nx i : Nat) : zrp nx i < 20 := Nat.mod_lt _ (by decide)
theorem zrq_lt (fs l i : Nat) : zrq fs l i < 20 := Nat.mod_lt _ (by decide)
end IN
/-! ARGUMENTS: sentences, words, arcs, features. -/
theorem zi_lt1 {p : Int32} : p < 1 ↔ p ≤ 0 := by
  rw [Int32.lt_iff_toInt_lt, Int32.le_iff_toInt_le, show (1 : Int32).toInt = 1 by decide, show (0 : Int32).toInt = 0 by decide]
  omega
theorem zix1 (p : Int32) {k : Nat} (hk : k ≤ 5) : (p < 0 ∨ nI k ≤ p) ∨ ∃ s, s < k ∧ p = nI s := by
  rcases pk_ix p (n := k) (by omega) with q | q | ⟨s, h, e⟩
  · exact Or.inl (Or.inl q)
  · exact Or.inl (Or.inr q)
  · exact Or.inr ⟨s, h, e⟩
theorem zix2 (p : Int32) {n : Nat} (hn : n ≤ 6) : (p ≤ 0 ∨ nI n < p) ∨ ∃ w, 1 ≤ w ∧ w ≤ n ∧ p = nI w := by
  rcases pk_ix p (n := n + 1) (by omega) with q | q | ⟨w, h, e⟩
  · exact Or.inl (Or.inl (by
      rw [Int32.lt_iff_toInt_lt] at q
      rw [Int32.le_iff_toInt_le]
      omega))
  · refine Or.inl (Or.inr ?_)
    rw [Int32.le_iff_toInt_le, nI_toInt (by omega)] at q
    rw [Int32.lt_iff_toInt_lt, nI_toInt (by omega)]
    omega
  · rcases Nat.eq_zero_or_pos w with z | z
    · subst z; rw [e]; exact Or.inl (Or.inl (by decide +kernel))
    · exact Or.inr ⟨w, z, by omega, e⟩
theorem zix3 (p : Int32) {n : Nat} (hn : n ≤ 6) : (p < 0 ∨ nI n < p) ∨ ∃ h, h ≤ n ∧ p = nI h := by
  rcases pk_ix p (n := n + 1) (by omega) with q | q | ⟨w, h, e⟩
  · exact Or.inl (Or.inl q)
  · refine Or.inl (Or.inr ?_)
    rw [Int32.le_iff_toInt_le, nI_toInt (by omega)] at q
    rw [Int32.lt_iff_toInt_lt, nI_toInt (by omega)]
    omega
  · exact Or.inr ⟨w, by omega, e⟩
theorem zn_le {p q : Int32} (h : p < q) : ¬ q ≤ p := fun z => by
  rw [Int32.lt_iff_toInt_lt] at h
  rw [Int32.le_iff_toInt_le] at z
  omega
theorem zn_lt {p q : Int32} (h : p ≤ q) : ¬ q < p := fun z => by
  rw [Int32.lt_iff_toInt_lt] at z
  rw [Int32.le_iff_toInt_le] at h
  omega
section AR
variable {N k s n : Nat} {sw : Bool} {M : ZM}
theorem s_find_ok (hR : zRf sw k (zR M)) (hk : k ≤ 5) (hs : s < k) : f_X6_find N (zKs k) (zln k) 0 (nI s) M = some (Sum.inr (112 + 11 * s)) := by
  unfold f_X6_find f_X6_find_0
  rw [if_neg (nI_pos (by omega)), zgK (k0 k), zbindS (hR.at 0 0 1 (zrm 0 rfl)), zgarr (k1 k) (by decide) (by decide), l1, if_pos (show nI s < Int32.ofNat 5 from nI_lt (b := 5) (by omega) (by omega)), zgok (k1 k) (l1 k) (show s < 5 by omega) (by decide), nI_clamp (by omega), (hR.2.2.1 s hs).1]
  rfl
theorem s_find_no (hR : zRf sw k (zR M)) (hk : k ≤ 5) {p : Int32} (hp : p < 0 ∨ nI k ≤ p) : f_X6_find N (zKs k) (zln k) 0 p M = some (Sum.inl 1) := by
  unfold f_X6_find f_X6_find_0
  by_cases h0 : p < 0
  · rw [if_pos h0]; rfl
  · have hp := hp.resolve_left h0
    rw [if_neg h0, zgK (k0 k), zbindS (hR.at 0 0 1 (zrm 0 rfl)), zgarr (k1 k) (by decide) (by decide), l1]
    rcases pk_ix p (n := 5) (by decide) with q | q | ⟨s, h, e⟩
    · exact absurd q h0
    · rw [if_neg (show ¬ p < Int32.ofNat 5 from zn_lt q)]; rfl
    · subst e
      have hks : k ≤ s := (nI_leI (by omega) (by omega)).mp hp
      rw [if_pos (show nI s < Int32.ofNat 5 from nI_lt (b := 5) h (by omega)), zgok (k1 k) (l1 k) h (by decide), nI_clamp (by omega), hR.2.2.2.1 s hks]
      rfl
theorem s_word_ok (hs : s < k) (hn : zI M (112 + 11 * s) 3 = nI n) (h6 : n ≤ 6) {w : Nat} (h1 : 1 ≤ w) (h2 : w ≤ n) : f_X6_checkWord N (zKs k) (zln k) (112 + 11 * s) (nI w) M = some (Sum.inr ()) := by
  unfold f_X6_checkWord f_X6_checkWord_0
  rw [if_neg (show ¬ nI w < (1 : Int32) from nI_nlt (b := 1) h1 (by omega)), zbindS (s_size hs hn), zgK (ks0 hs), if_pos (nI_le h2 (by omega))]
theorem s_word_no (hs : s < k) (hn : zI M (112 + 11 * s) 3 = nI n) {p : Int32} (hp : p ≤ 0 ∨ nI n < p) : f_X6_checkWord N (zKs k) (zln k) (112 + 11 * s) p M = some (Sum.inl 1) := by
  unfold f_X6_checkWord f_X6_checkWord_0
  by_cases h : p < 1
  · rw [if_pos h]; rfl
  · rw [if_neg h, zbindS (s_size hs hn), zgK (ks0 hs), if_neg (zn_le (hp.resolve_left (fun q => h (zi_lt1.mpr q))))]
    rfl
theorem s_arc_ok (hs : s < k) (hn : zI M (112 + 11 * s) 3 = nI n) (h6 : n ≤ 6) {h w : Nat} (hh : h ≤ n) (h1 : 1 ≤ w) (h2 : w ≤ n) : f_X6_checkArc N (zKs k) (zln k) (112 + 11 * s) (nI h) (nI w) M = if h = w then some (Sum.inl 2) else some (Sum.inr ()) := by
  unfold f_X6_checkArc f_X6_checkArc_0
  rw [if_neg (nI_pos (by omega)), zbindS (s_size hs hn), zgK (ks0 hs), if_pos (nI_le hh (by omega)), zbindS (s_word_ok hs hn h6 h1 h2)]
  show (if nI h = nI w then _ else _) = _
  by_cases e : h = w
  · rw [if_pos (by rw [e]), if_pos e]
  · rw [if_neg (fun q => e ((nI_eq (by omega) (by omega)).mp q)), if_neg e]
theorem s_arc_no (hs : s < k) (hn : zI M (112 + 11 * s) 3 = nI n) (h6 : n ≤ 6) {p q : Int32} (hp : (p < 0 ∨ nI n < p) ∨ ((∃ h, h ≤ n ∧ p = nI h) ∧ (q ≤ 0 ∨ nI n < q))) : f_X6_checkArc N (zKs k) (zln k) (112 + 11 * s) p q M = some (Sum.inl 1) := by
  unfold f_X6_checkArc f_X6_checkArc_0
  by_cases h0 : p < 0
  · rw [if_pos h0]; rfl
  · rw [if_neg h0, zbindS (s_size hs hn), zgK (ks0 hs)]
    rcases hp with hp | ⟨⟨h, hh, e⟩, hq⟩
    · rw [if_neg (zn_le (hp.resolve_left h0))]; rfl
    · rw [if_pos (by rw [e]; exact nI_le hh (by omega)), zbindS (s_word_no hs hn hq)]; rfl
theorem zixF (p : Int32) : (p < 0 ∨ (28 : Int32) ≤ p) ∨ ∃ f, f < 28 ∧ p = nI f := by
  rcases pk_ix p (n := 28) (by decide) with q | q | h
  · exact Or.inl (Or.inl q)
  · exact Or.inl (Or.inr q)
  · exact Or.inr h
theorem s_feat_ok (N : Nat) {f : Nat} (hf : f < 28) : f_X6_checkFeature N (nI f) = some (Sum.inr ()) := by
  unfold f_X6_checkFeature f_X6_checkFeature_0
  rw [if_neg (nI_pos (by omega)), if_pos (show nI f < (28 : Int32) from nI_lt (b := 28) hf (by omega))]
theorem s_feat_no (N : Nat) {p : Int32} (hp : p < 0 ∨ (28 : Int32) ≤ p) : f_X6_checkFeature N p = some (Sum.inl 1) := by
  unfold f_X6_checkFeature f_X6_checkFeature_0
  by_cases h0 : p < 0
  · rw [if_pos h0]; rfl
  · rw [if_neg h0, if_neg (zn_lt (hp.resolve_left h0))]; rfl
/-- an arc's arguments -/
theorem zix4 (p q : Int32) {n : Nat} (hn : n ≤ 6) : ((p < 0 ∨ nI n < p) ∨ ((∃ h, h ≤ n ∧ p = nI h) ∧ (q ≤ 0 ∨ nI n < q))) ∨ ∃ h w, h ≤ n ∧ 1 ≤ w ∧ w ≤ n ∧ p = nI h ∧ q = nI w := by
  rcases zix3 p hn with h | ⟨h, hh, e⟩
  · exact Or.inl (Or.inl h)
  · rcases zix2 q hn with z | ⟨w, h1, h2, e2⟩
    · exact Or.inl (Or.inr ⟨⟨h, hh, e⟩, z⟩)
    · exact Or.inr ⟨h, w, hh, h1, h2, e, e2⟩
theorem nI_long {n : Nat} (h : n < 2147483648) : (nI n).toInt64 = lI n := by rw [nI_iI, iI_long (by omega) (by omega)]
end AR
/-! CALLS THAT READ: sentences, words, kind, weight, feature, score, steps, average. -/
theorem zxR {ρ β : Type} (r : ρ) (f : Nat → β) (g : ρ → β) : zx (Sum.inr r) f g = g r := rfl
theorem zxL {ρ β : Type} (a : Nat) (f : Nat → β) (g : ρ → β) : zx (Sum.inl a) f g = f a := rfl
theorem i1_ne0 : ¬ (1 : Int32) = 0 := by decide
theorem i2_ne0 : ¬ (2 : Int32) = 0 := by decide
theorem i3_ne0 : ¬ (3 : Int32) = 0 := by decide
section CQ
variable {N j k : Nat} {sw : Bool} {n : Nat → Nat} {kd : Nat → Nat → Nat} {mk : Nat → Nat → Nat → Int32} {rh : Nat → Nat → Int32} {wt sm : Nat → Int} {st : Nat} {H : List zE} {nx fs : Nat} {M : ZM}
theorem s_byK {s m : Nat} {kd : Nat → Nat} {mk : Nat → Nat → Int32} (hR : zRf sw k (zR M)) (hk : s < k) (hS : zSen s m kd mk (zI M)) {h w : Nat} (hh : h ≤ m) (hw : w ≤ m) : f_X2_byKinds N (zKs k) (zln k) (112 + 11 * s) (nI h) (nI w) M = some (nI (zbk kd h w)) := by
  obtain ⟨h6, -, k0, k1, hkd, -⟩ := hS
  rw [s_byKinds hR hk (show h < 7 by omega) (show w < 7 by omega), hkd h hh, hkd w hw]
  congr 1
  unfold zbk
  rw [← nI_add, show nI (4 * kd h) = nI 4 * nI (kd h) from Int32.ofNat_mul 4 (kd h)]
  rfl
end CQ
section CT
variable {N j k : Nat} {sw : Bool} {n : Nat → Nat} {kd : Nat → Nat → Nat} {mk : Nat → Nat → Nat → Int32} {rh : Nat → Nat → Int32} {wt sm : Nat → Int} {st : Nat} {H : List zE} {nx fs : Nat} {M : ZM}
end CT
section CU
variable {N j k : Nat} {M : ZM}
theorem zBt_mem {T : List (List Nat)} {wt : Nat → Int} {kd : Nat → Nat} {v : List Nat} (h : zBt T wt kd v) : T ≠ [] := fun e => by
  have := h.1
  rw [e] at this
  cases this
end CU
/-! CROSSINGS AND MATCHED. -/
def zxs (v : List Nat) : Nat → Nat
  | 0 => 0
  | w + 1 => zxs v w + (List.range' 1 w).countP (fun o => zcr (zhd v (w + 1)) (w + 1) (zhd v o) o)
def zms (rh : Nat → Int32) (v : List Nat) : Nat → Nat
  | 0 => 0
  | w + 1 => zms rh v w + (if rh (w + 1) = nI (zhd v (w + 1)) then 1 else 0)
section CX
variable {N j k s n : Nat} {sw : Bool} {kd : Nat → Nat} {mk : Nat → Nat → Int32} {wt : Nat → Int} {M : ZM}
theorem s_cx31 (hN : 10000000 ≤ N) (h6 : n ≤ 6) {v : List Nat} {key : Int64} (hkey : ∀ w, 1 ≤ w → w ≤ n → f_X6_headIn N key (nI w) = some (nI (zhd v w)) ∧ zhd v w < 7) (kh : Nat → Int64 → Int32 → Int32 → ZM → Option ((Nat ⊕ Int32) × ZM)) (S : Nat) {w : Nat} (hw1 : 1 ≤ w) (hw : w ≤ n) : ∀ (d f o acc : Nat), o + d = w → 1 ≤ o → d < f → f_X6_crossings_31 N (zKs k) (zln k) kh f S key (nI acc) (nI w) (nI o) M = kh S key (nI (acc + (List.range' o d).countP (fun o => zcr (zhd v w) w (zhd v o) o))) (nI (w + 1)) M
  | d, 0, o, acc, _, _, hf => absurd hf (Nat.not_lt_zero d)
  | 0, f + 1, o, acc, hd, h1, _ => by
    rw [f_X6_crossings_31, if_pos (nI_le (by omega) (by omega)), show nI w + 1 = nI (w + 1) from nI_1 w]
    rfl
  | d + 1, f + 1, o, acc, hd, h1, hf => by
    obtain ⟨e1, l1⟩ := hkey w hw1 hw
    obtain ⟨e2, l2⟩ := hkey o h1 (by omega)
    rw [f_X6_crossings_31, if_neg (nI_ge (by omega) (by omega)), zbindS e1, zbindS e2, zbindS (s_doCross N l1 (show w < 7 by omega) l2 (show o < 7 by omega)), List.range'_succ, List.countP_cons]
    unfold f_X6_crossings_63
    rw [show nI o + 1 = nI (o + 1) from nI_1 o]
    cases hc : zcr (zhd v w) w (zhd v o) o with
    | true =>
      rw [cond_true, if_neg one_ne0, show nI acc + 1 = nI (acc + 1) from nI_1 acc, if_pos rfl]
      refine (s_cx31 hN h6 hkey kh S hw1 hw d f (o + 1) (acc + 1) (by omega) (by omega) (by omega)).trans ?_
      congr 2
      omega
    | false =>
      rw [cond_false, if_pos rfl, if_neg (by decide), Nat.add_zero]
      exact s_cx31 hN h6 hkey kh S hw1 hw d f (o + 1) acc (by omega) (by omega) (by omega)
theorem s_cx19 (hN : 10000000 ≤ N) (hs : s < k) (hn : zI M (112 + 11 * s) 3 = nI n) (h6 : n ≤ 6) {v : List Nat} {key : Int64} (hkey : ∀ w, 1 ≤ w → w ≤ n → f_X6_headIn N key (nI w) = some (nI (zhd v w)) ∧ zhd v w < 7) : ∀ (d f w : Nat), w + d = n → d < f → f_X6_crossings_19 N (zKs k) (zln k) f (112 + 11 * s) key (nI (zxs v w)) (nI (w + 1)) M = some (Sum.inr (nI (zxs v n)), M)
  | d, 0, w, _, hf => absurd hf (Nat.not_lt_zero d)
  | 0, f + 1, w, hd, _ => by
    have e : w = n := by omega
    subst e
    rw [f_X6_crossings_19, zbindS (s_size hs hn), zgK (ks0 hs), if_pos (nI_lt (Nat.lt_succ_self w) (by omega))]
  | d + 1, f + 1, w, hd, hf => by
    rw [f_X6_crossings_19, zbindS (s_size hs hn), zgK (ks0 hs), if_neg (nI_nlt (by omega) (by omega))]
    refine (s_cx31 (N := N) (k := k) hN h6 hkey (fun y2 y3 y5 y6 M => f_X6_crossings_19 N (zKs k) (zln k) f y2 y3 y5 y6 M) (112 + 11 * s) (w := w + 1) (by omega) (by omega) w N 1 (zxs v w) (by omega) (Nat.le_refl 1) (by omega)).trans ?_
    exact s_cx19 hN hs hn h6 hkey d f (w + 1) (by omega) (by omega)
theorem s_mt19 (hR : zRf sw k (zR M)) (hs : s < k) (hn : zI M (112 + 11 * s) 3 = nI n) (h6 : n ≤ 6) {rh : Nat → Int32} (hrh : ∀ w, w < 7 → zI M (112 + 11 * s + 2) w = rh w) {v : List Nat} {key : Int64} (hkey : ∀ w, 1 ≤ w → w ≤ n → f_X6_headIn N key (nI w) = some (nI (zhd v w))) : ∀ (d f w : Nat), w + d = n → d < f → f_X6_matched_19 N (zKs k) (zln k) f (112 + 11 * s) key (nI (zms rh v w)) (nI (w + 1)) M = some (Sum.inr (nI (zms rh v n)), M)
  | d, 0, w, _, hf => absurd hf (Nat.not_lt_zero d)
  | 0, f + 1, w, hd, _ => by
    have e : w = n := by omega
    subst e
    rw [f_X6_matched_19, zbindS (s_size hs hn), zgK (ks0 hs), if_pos (nI_lt (Nat.lt_succ_self w) (by omega))]
  | d + 1, f + 1, w, hd, hf => by
    have ih := s_mt19 hR hs hn h6 hrh hkey d f (w + 1) (by omega) (by omega)
    have ez : zms rh v (w + 1) = zms rh v w + (if rh (w + 1) = nI (zhd v (w + 1)) then 1 else 0) := rfl
    rw [f_X6_matched_19, zbindS (s_size hs hn), zgK (ks0 hs), if_neg (nI_nlt (by omega) (by omega)), zbindS (s_rightHead hR hs (show w + 1 < 7 by omega)), hrh _ (show w + 1 < 7 by omega), zbindS (hkey (w + 1) (by omega) (by omega))]
    unfold f_X6_matched_46
    rw [show nI (w + 1) + 1 = nI (w + 1 + 1) from nI_1 _]
    by_cases q : rh (w + 1) = nI (zhd v (w + 1))
    · rw [if_pos q] at ez ⊢
      rw [show nI (zms rh v w) + 1 = nI (zms rh v w + 1) from nI_1 _, ← ez]
      exact ih
    · have ez : zms rh v (w + 1) = zms rh v w := by rw [ez, if_neg q]; rfl
      rw [if_neg q, ← ez]
      exact ih
end CX
section CY
variable {N j k : Nat} {M : ZM}
end CY
/-! CALLS THAT CHANGE: correct, mark, addWord. -/
def zuf {α : Type} (f : Nat → α) (s : Nat) (x : α) : Nat → α := fun t => if t = s then x else f t
theorem zuf_s {α : Type} (f : Nat → α) (s : Nat) (x : α) : zuf f s x s = x := if_pos rfl
theorem zuf_o {α : Type} (f : Nat → α) {s t : Nat} (x : α) (h : t ≠ s) : zuf f s x t = f t := if_neg h
theorem zSen_c {s n : Nat} {kd : Nat → Nat} {mk : Nat → Nat → Int32} {I I' : Nat → Nat → Int32} (e1 : I' (112 + 11 * s) 3 = I (112 + 11 * s) 3) (e2 : ∀ w, I' (112 + 11 * s + 1) w = I (112 + 11 * s + 1) w) (e3 : ∀ h w, h < 7 → I' (112 + 11 * s + (4 + h)) w = I (112 + 11 * s + (4 + h)) w) (h : zSen s n kd mk I) : zSen s n kd mk I' := by
  obtain ⟨h6, h1, k0, k1, h2, h3, h4⟩ := h
  exact ⟨h6, e1.trans h1, k0, k1, fun w hw => (e2 w).trans (h2 w hw), fun h w hh hw => (e3 h w hh).trans (h3 h w hh hw), h4⟩
section UP
variable {N j k : Nat} {sw : Bool} {n : Nat → Nat} {kd : Nat → Nat → Nat} {mk : Nat → Nat → Nat → Int32} {rh : Nat → Nat → Int32} {wt sm : Nat → Int} {st : Nat} {H : List zE} {nx fs : Nat} {M : ZM}
/-- other sentences stay -/
theorem zA1_at {n' : Nat → Nat} {kd' : Nat → Nat → Nat} {mk' : Nat → Nat → Nat → Int32} {rh' : Nat → Nat → Int32} {I I' : Nat → Nat → Int32} {s : Nat} (h : zA1 k n kd mk rh I) (e : ∀ a i, (a < 48 ∨ 112 ≤ a) → (a < 112 + 11 * s ∨ 123 + 11 * s ≤ a) → I' a i = I a i) (eo : ∀ t, t ≠ s → n' t = n t ∧ kd' t = kd t ∧ mk' t = mk t ∧ rh' t = rh t) (hs : zSen s (n' s) (kd' s) (mk' s) I' ∧ ∀ w, w < 7 → I' (112 + 11 * s + 2) w = rh' s w) : zA1 k n' kd' mk' rh' I' := by
  refine ⟨(e 0 1 (by omega) (by omega)).trans h.1, fun t ht => ?_⟩
  by_cases q : t = s
  · subst q; exact hs
  · obtain ⟨q1, q2, q3, q4⟩ := eo t q
    rw [q1, q2, q3, q4]
    have h1 := h.2 t ht
    exact ⟨zSen_c (e _ _ (by omega) (by omega)) (fun w => e _ _ (by omega) (by omega)) (fun h w hh => e _ _ (by omega) (by omega)) h1.1, fun w hw => (e _ _ (by omega) (by omega)).trans (h1.2 w hw)⟩
theorem zW1_c {I I' : Nat → Nat → Int32} {J J' : Nat → Nat → Int64} (e : ∀ a i, a < 48 → I' a i = I a i) (g : ∀ a i, a < 48 → J' a i = J a i) (h : zW1 wt sm st H nx I J) : zW1 wt sm st H nx I' J' := by
  obtain ⟨h1, h2, h3, h4, h5, h6⟩ := h
  refine ⟨fun f hf => ⟨(e _ _ (by omega)).trans (h1 f hf).1, (g _ _ (by omega)).trans (h1 f hf).2⟩, (e _ _ (by omega)).trans h2, (e _ _ (by omega)).trans h3, (e _ _ (by omega)).trans h4, h5, fun i x hx => ?_⟩
  have hl := zrp_lt nx i
  obtain ⟨h7, h8⟩ := h6 i x hx
  exact ⟨fun f hf => ⟨(e _ _ (by omega)).trans (h7 f hf).1, (g _ _ (by omega)).trans (h7 f hf).2⟩, (e _ _ (by omega)).trans h8⟩
end UP
/-! MARK AND ADDWORD. -/
def zms2 (mk : Nat → Nat → Int32) (a w : Nat) (v : Int32) : Nat → Nat → Int32 := fun y x => if y = a ∧ x = w then v else mk y x
theorem zms2_at (mk : Nat → Nat → Int32) (a w : Nat) (v : Int32) : zms2 mk a w v a w = v := if_pos ⟨rfl, rfl⟩
theorem zms2_o (mk : Nat → Nat → Int32) {a w : Nat} (v : Int32) {y x : Nat} (h : ¬ (y = a ∧ x = w)) : zms2 mk a w v y x = mk y x := if_neg h
section MA
variable {N j k : Nat} {M : ZM}
end MA
section AW
variable {N j k : Nat} {M : ZM}
end AW
/-! THE HISTORY: keep, remembers, setWeight. -/
theorem zI_cI (M : ZM) (a0 a sp dp n b j : Nat) : zI (zcI M a0 a sp dp n) b j = if b = a ∧ dp ≤ j ∧ j < dp + n then zI M a0 (sp + (j - dp)) else zI M b j := rfl
theorem zJ_cI (M : ZM) (a0 a sp dp n : Nat) : zJ (zcI M a0 a sp dp n) = zJ M := rfl
theorem zR_cI (M : ZM) (a0 a sp dp n : Nat) : zR (zcI M a0 a sp dp n) = zR M := rfl
theorem zJ_cJ (M : ZM) (a0 a sp dp n b j : Nat) : zJ (zcJ M a0 a sp dp n) b j = if b = a ∧ dp ≤ j ∧ j < dp + n then zJ M a0 (sp + (j - dp)) else zJ M b j := rfl
theorem zI_cJ (M : ZM) (a0 a sp dp n : Nat) : zI (zcJ M a0 a sp dp n) = zI M := rfl
theorem zR_cJ (M : ZM) (a0 a sp dp n : Nat) : zR (zcJ M a0 a sp dp n) = zR M := rfl
theorem zcp28 {K len : Nat → Nat} {t a0 a : Nat} (h1 : K a0 = t) (h2 : K a = t) (h3 : len a0 = 28) (h4 : len a = 28) : zcp K len t a0 a (0 : Int32) (0 : Int32) (28 : Int32) = true := by
  unfold zcp
  rw [h1, h2, h3, h4, beq_self_eq_true]
  decide +kernel
theorem s_isRow (N : Nat) {r : Nat} (h : r < 20) : f_X5_isRow N (nI r) = some 1 := by
  unfold f_X5_isRow f_X5_isRow_0
  rw [if_neg (nI_pos (by omega)), if_neg (show ¬ (20 : Int32) ≤ nI r from nI_ge (b := 20) h (by omega))]
theorem zcl28 : (28 : Int32).toNatClampNeg = 28 := by decide
section KE
variable {N k : Nat} {sw : Bool} {M : ZM}
theorem s_keep (hR : zRf sw k (zR M)) {nx l st : Nat} (hnx : nx < 20) (hl : l ≤ 20) (h7 : zI M 2 7 = nI nx) (h6 : zI M 2 6 = nI l) : ∃ M', f_X5_keep N (zKs k) (zln k) 2 M = some M' ∧ zR M' = zR M ∧ zD M' = zD M ∧ zI M' 2 6 = nI (min 20 (l + 1)) ∧ zI M' 2 7 = nI ((nx + 1) % 20) ∧ zI M' 47 nx = zI M 2 2 ∧ (∀ f, f < 28 → zI M' (6 + nx) f = zI M 3 f) ∧ (∀ f, f < 28 → zJ M' (27 + nx) f = zJ M 4 f) ∧ (∀ b i, ¬ (b = 2 ∧ (i = 6 ∨ i = 7)) → ¬ (b = 47 ∧ i = nx) → b ≠ 6 + nx → zI M' b i = zI M b i) ∧ (∀ b i, b ≠ 27 + nx → zJ M' b i = zJ M b i) := by
  obtain ⟨M23, e23⟩ : ∃ M23, M23 = zcJ (zcI M 3 (6 + nx) 0 0 28) 4 (27 + nx) 0 0 28 := ⟨_, rfl⟩
  obtain ⟨M28, e28⟩ : ∃ M28, M28 = zsI M23 47 nx (zI M 2 2) := ⟨_, rfl⟩
  have hi23 : ∀ b i, b ≠ 6 + nx → zI M23 b i = zI M b i := fun b i h => by rw [e23, zI_cJ, zI_cI, if_neg (fun q => h q.1)]
  have hR23 : zR M23 = zR M := by rw [e23]; rfl
  have hR28 : zR M28 = zR M := by rw [e28]; exact hR23
  have hi28 : ∀ b i, b ≠ 6 + nx → ¬ (b = 47 ∧ i = nx) → zI M28 b i = zI M b i := fun b i h h2 => by rw [e28, zI_sI, if_neg h2]; exact hi23 b i h
  have h86 : ∀ v : Int32, f_X5_keep_86 N (zKs k) (zln k) 2 v 2 M28 = some (zsI (zsI M28 2 7 v) 2 6 (nI (min 20 (l + 1)))) := fun v => by
    unfold f_X5_keep_86
    rw [zgK (k2 k), zlS, zgK (k2 k), show zI (zsI M28 2 7 v) 2 6 = nI l from by rw [zI_sI, if_neg (by omega), hi28 _ _ (by omega) (by omega)]; exact h6, show nI l + (1 : Int32) = nI (l + 1) from nI_1 l, zlS]
    by_cases q : l = 20
    · subst q
      rw [if_pos (show (20 : Int32) < nI (20 + 1) by decide +kernel)]
      rfl
    · rw [if_neg (show ¬ (20 : Int32) < nI (l + 1) from nI_nlt (a := 20) (by omega) (by decide)), show min 20 (l + 1) = l + 1 by omega]
  have hfin : f_X5_keep N (zKs k) (zln k) 2 M = some (zsI (zsI M28 2 7 (nI ((nx + 1) % 20))) 2 6 (nI (min 20 (l + 1)))) := by
    unfold f_X5_keep f_X5_keep_0
    rw [zgK (k2 k), h7, zbindS (s_isRow N hnx), if_neg one_ne0, zbindS (hR.at 2 0 3 (zrm 6 rfl)), zbindS (hR.at 2 3 5 (zrm 8 rfl)), zgok (k5 k) (l5 k) hnx (by decide), nI_clamp (show nx < 2 ^ 31 by omega), zbindS (hR.row 5 20 6 (by simp [ztabs]) hnx), zcp28 (k3 k) (kr6 k hnx) (l3 k) (lr6 k hnx), zg_true, zlS, zcl0, zcl28, zR_cI, zbindS (hR.at 2 1 4 (zrm 7 rfl)), zbindS (hR.at 2 4 26 (zrm 9 rfl)), show zI (zcI M 3 (6 + nx) 0 0 28) 2 7 = nI nx from by rw [zI_cI, if_neg (by omega)]; exact h7, zgok (k26 k) (l26 k) hnx (by decide), nI_clamp (show nx < 2 ^ 31 by omega), zbindS (hR.row 26 20 27 (by simp [ztabs]) hnx), zcp28 (k4 k) (kr27 k hnx) (l4 k) (lr27 k hnx), zg_true, zlS, ← e23, hR23, zbindS (hR.at 2 5 47 (zrm 10 rfl)), show zI M23 2 7 = nI nx from by rw [hi23 _ _ (by omega)]; exact h7, zgok (k47 k) (l47 k) hnx (by decide), zlS, nI_clamp (show nx < 2 ^ 31 by omega), show zI M23 2 2 = zI M 2 2 from hi23 _ _ (by omega), ← e28, show zI M28 2 7 = nI nx from by rw [hi28 _ _ (by omega) (by omega)]; exact h7, show nI nx + (1 : Int32) = nI (nx + 1) from nI_1 nx]
    by_cases q : nx = 19
    · subst q
      rw [if_pos (show (20 : Int32) ≤ nI (19 + 1) by decide +kernel), h86]
      rfl
    · rw [if_neg (show ¬ (20 : Int32) ≤ nI (nx + 1) from nI_ge (b := 20) (by omega) (by decide)), h86, show (nx + 1) % 20 = nx + 1 by omega]
  refine ⟨_, hfin, hR28, by rw [e28, e23]; rfl, ?_, ?_, ?_, fun f hf => ?_, fun f hf => ?_, fun b i q1 q2 q3 => ?_, fun b i q => ?_⟩
  · rw [zI_sI, if_pos ⟨rfl, rfl⟩]
  · rw [zI_sI, if_neg (by decide), zI_sI, if_pos ⟨rfl, rfl⟩]
  · rw [zI_sI, if_neg (by omega), zI_sI, if_neg (by omega), e28, zI_sI, if_pos ⟨rfl, rfl⟩]
  · rw [zI_sI, if_neg (by omega), zI_sI, if_neg (by omega), e28, zI_sI, if_neg (by omega), e23, zI_cJ, zI_cI, if_pos ⟨rfl, by omega, by omega⟩, show 0 + (f - 0) = f by omega]
  · rw [zJ_sI, zJ_sI, e28, zJ_sI, e23, zJ_cJ, if_pos ⟨rfl, by omega, by omega⟩, show 0 + (f - 0) = f by omega, zJ_cI]
  · rw [zI_sI, if_neg (by omega), zI_sI, if_neg (by omega)]; exact hi28 b i q3 q2
  · rw [zJ_sI, zJ_sI, e28, zJ_sI, e23, zJ_cJ, if_neg (fun z => q z.1), zJ_cI]
end KE
theorem zget19 {e : zE} {H : List zE} {i : Nat} {x : zE} (h : (e :: H.take 19)[i]? = some x) : (i = 0 ∧ x = e) ∨ ∃ i', i = i' + 1 ∧ i' < 19 ∧ H[i']? = some x := by
  cases i with
  | zero => exact Or.inl ⟨rfl, (Option.some.inj h).symm⟩
  | succ i =>
    have h : (H.take 19)[i]? = some x := h
    rw [List.getElem?_take] at h
    by_cases q : i < 19
    · rw [if_pos q] at h
      exact Or.inr ⟨i, rfl, q, h⟩
    · rw [if_neg q] at h; cases h
theorem zlen19 (e : zE) (H : List zE) : (e :: H.take 19).length = min 20 (H.length + 1) := by
  show (H.take 19).length + 1 = _
  rw [List.length_take]
  omega
section HI
variable {wt sm : Nat → Int} {st : Nat} {H : List zE} {nx fs : Nat} {I I' : Nat → Nat → Int32} {J J' : Nat → Nat → Int64}
/-- the class has kept what was; then come new weights -/
theorem zW1_keep {wt' sm' : Nat → Int} {st' : Nat} {b : Bool} (h : zW1 wt sm st H nx I J) (e1 : I' 2 6 = nI (min 20 (H.length + 1))) (e2 : I' 2 7 = nI ((nx + 1) % 20)) (e3 : I' 47 nx = I 2 2) (e4 : ∀ f, f < 28 → I' (6 + nx) f = I 3 f ∧ J' (27 + nx) f = J 4 f) (e5 : ∀ b i, 6 ≤ b → b < 48 → b ≠ 6 + nx → ¬ (b = 47 ∧ i = nx) → I' b i = I b i) (e6 : ∀ b i, 27 ≤ b → b < 47 → b ≠ 27 + nx → J' b i = J b i) (e7 : ∀ f, f < 28 → I' 3 f = iI (wt' f) ∧ J' 4 f = lI (sm' f)) (e8 : I' 2 2 = nI st') : zW1 wt' sm' st' ((wt, sm, st, b) :: H.take 19) ((nx + 1) % 20) I' J' := by
  obtain ⟨h1, h2, h3, h4, h5, h6⟩ := h
  refine ⟨e7, e8, by rw [zlen19]; exact e1, e2, Nat.mod_lt _ (by decide), fun i x hx => ?_⟩
  rcases zget19 hx with ⟨rfl, rfl⟩ | ⟨i, rfl, hi, hH⟩
  · have ep : zrp ((nx + 1) % 20) 0 = nx := by unfold zrp; omega
    rw [ep]
    exact ⟨fun f hf => ⟨(e4 f hf).1.trans (h1 f hf).1, (e4 f hf).2.trans (h1 f hf).2⟩, e3.trans h2⟩
  · have ep : zrp ((nx + 1) % 20) (i + 1) = zrp nx i := by unfold zrp; omega
    have en : zrp nx i ≠ nx := by unfold zrp; omega
    have hl := zrp_lt nx i
    rw [ep]
    obtain ⟨q1, q2⟩ := h6 i x hH
    exact ⟨fun f hf => ⟨(e5 _ _ (by omega) (by omega) (by omega) (by omega)).trans (q1 f hf).1, (e6 _ _ (by omega) (by omega) (by omega)).trans (q1 f hf).2⟩, (e5 _ _ (by omega) (by omega) (by omega) (by omega)).trans q2⟩
end HI
section SW
variable {N j k : Nat} {M : ZM}
theorem zA1_c {n : Nat → Nat} {kd : Nat → Nat → Nat} {mk : Nat → Nat → Nat → Int32} {rh : Nat → Nat → Int32} {I I' : Nat → Nat → Int32} (e : ∀ a i, (a = 0 ∨ 112 ≤ a) → I' a i = I a i) (h : zA1 k n kd mk rh I) : zA1 k n kd mk rh I' := ⟨(e 0 1 (by omega)).trans h.1, fun s hs => ⟨zSen_congr (fun a i ha => e a i (by omega)) (h.2 s hs).1, fun w hw => (e _ _ (by omega)).trans ((h.2 s hs).2 w hw)⟩⟩
end SW
section RB
variable {N j k : Nat} {sw : Bool} {M : ZM}
theorem s_takeBack (hR : zRf sw k (zR M)) {nx l p : Nat} (hnx : nx < 20) (hp : p = (nx + 19) % 20) (hl : l < 20) (h7 : zI M 2 7 = nI nx) (h6 : zI M 2 6 = nI (l + 1)) : ∃ M', f_X5_takeBack N (zKs k) (zln k) 2 M = some M' ∧ zR M' = zR M ∧ zD M' = zD M ∧ zI M' 2 6 = nI l ∧ zI M' 2 7 = nI p ∧ zI M' 2 2 = zI M 47 p ∧ (∀ f, f < 28 → zI M' 3 f = zI M (6 + p) f) ∧ (∀ f, f < 28 → zJ M' 4 f = zJ M (27 + p) f) ∧ (∀ b i, b ≠ 2 → b ≠ 3 → zI M' b i = zI M b i) ∧ (∀ b i, b ≠ 4 → zJ M' b i = zJ M b i) := by
  have hp20 : p < 20 := by omega
  obtain ⟨M24, e24⟩ : ∃ M24, M24 = zcJ (zcI M (6 + p) 3 0 0 28) (27 + p) 4 0 0 28 := ⟨_, rfl⟩
  have hi24 : ∀ b i, b ≠ 3 → zI M24 b i = zI M b i := fun b i h => by rw [e24, zI_cJ, zI_cI, if_neg (fun q => h q.1)]
  have hR24 : zR M24 = zR M := by rw [e24]; rfl
  have h18 : f_X5_takeBack_18 N (zKs k) (zln k) 2 (nI p) M = some (zsI (zsI (zsI M24 2 2 (zI M 47 p)) 2 7 (nI p)) 2 6 (nI l)) := by
    unfold f_X5_takeBack_18
    rw [zgK (k2 k), h6, if_neg (nI_nle (by omega) (by omega)), zbindS (s_isRow N hp20), if_neg one_ne0, zbindS (hR.at 2 3 5 (zrm 8 rfl)), zgok (k5 k) (l5 k) hp20 (by decide), nI_clamp (show p < 2 ^ 31 by omega), zbindS (hR.row 5 20 6 (by simp [ztabs]) hp20), zbindS (hR.at 2 0 3 (zrm 6 rfl)), zcp28 (kr6 k hp20) (k3 k) (lr6 k hp20) (l3 k), zg_true, zlS, zcl0, zcl28, zR_cI, zbindS (hR.at 2 4 26 (zrm 9 rfl)), zgok (k26 k) (l26 k) hp20 (by decide), zbindS (hR.row 26 20 27 (by simp [ztabs]) hp20), zbindS (hR.at 2 1 4 (zrm 7 rfl)), zcp28 (kr27 k hp20) (k4 k) (lr27 k hp20) (l4 k), zg_true, zlS, ← e24, hR24, zbindS (hR.at 2 5 47 (zrm 10 rfl)), zgok (k47 k) (l47 k) hp20 (by decide), zlS, zlS, zlS, show zI M24 47 p = zI M 47 p from hi24 _ _ (by omega), show zI (zsI (zsI M24 2 2 (zI M 47 p)) 2 7 (nI p)) 2 6 = nI (l + 1) from by rw [zI_sI, if_neg (by omega), zI_sI, if_neg (by omega), hi24 _ _ (by omega)]; exact h6, show nI (l + 1) - (1 : Int32) = nI l from nI_pred l]
  refine ⟨zsI (zsI (zsI M24 2 2 (zI M 47 p)) 2 7 (nI p)) 2 6 (nI l), ?_, by rw [zR_sI, zR_sI, zR_sI]; exact hR24, by rw [zD_sI, zD_sI, zD_sI, e24]; rfl, ?_, ?_, ?_, fun f hf => ?_, fun f hf => ?_, fun b i q1 q2 => ?_, fun b i q => ?_⟩
  · unfold f_X5_takeBack f_X5_takeBack_0
    rw [zgK (k2 k), h7]
    by_cases q : nx = 0
    · subst q
      rw [if_pos (show nI 0 ≤ 0 by decide +kernel), ← h18, show (19 : Int32) = nI p from by rw [hp]; rfl]
    · rw [if_neg (nI_nle (by omega) (by omega)), ← h18]
      obtain ⟨y, rfl⟩ : ∃ y, nx = y + 1 := ⟨nx - 1, by omega⟩
      rw [show nI (y + 1) - (1 : Int32) = nI y from nI_pred y, show y = p by omega]
  · rw [zI_sI, if_pos ⟨rfl, rfl⟩]
  · rw [zI_sI, if_neg (by decide), zI_sI, if_pos ⟨rfl, rfl⟩]
  · rw [zI_sI, if_neg (by decide), zI_sI, if_neg (by decide), zI_sI, if_pos ⟨rfl, rfl⟩]
  · rw [zI_sI, if_neg (by omega), zI_sI, if_neg (by omega), zI_sI, if_neg (by omega), e24, zI_cJ, zI_cI, if_pos ⟨rfl, by omega, by omega⟩, show 0 + (f - 0) = f by omega]
  · rw [zJ_sI, zJ_sI, zJ_sI, e24, zJ_cJ, if_pos ⟨rfl, by omega, by omega⟩, show 0 + (f - 0) = f by omega, zJ_cI]
  · rw [zI_sI, if_neg (by omega), zI_sI, if_neg (by omega), zI_sI, if_neg (by omega)]; exact hi24 b i q2
  · rw [zJ_sI, zJ_sI, zJ_sI, e24, zJ_cJ, if_neg (fun z => q z.1), zJ_cI]
end RB
/-! WHETHER THE RIGHT HEADS MAKE A TREE. -/
/-- up by right heads; 7 where none is told -/
def zrg (rh : Nat → Int32) (p : Nat) : Nat := if p = 0 ∨ p = 7 then p else if rh p = -1 then 7 else (rh p).toNatClampNeg
def zen (p : Nat) : Int32 := if p = 7 then -1 else nI p
theorem zen_0 {p : Nat} (h : p ≤ 7) : zen p = 0 ↔ p = 0 := by
  unfold zen
  by_cases q : p = 7
  · rw [if_pos q]
    exact ⟨fun z => absurd z (by decide), fun z => by omega⟩
  · rw [if_neg q]
    exact nI_eq (b := 0) (by omega) (by decide)
theorem zen_le {p : Nat} (h : p ≤ 7) : zen p ≤ 0 ↔ (p = 0 ∨ p = 7) := by
  unfold zen
  by_cases q : p = 7
  · rw [if_pos q]
    exact ⟨fun _ => Or.inr q, fun _ => by decide⟩
  · rw [if_neg q]
    constructor
    · intro z
      rcases Nat.eq_zero_or_pos p with y | y
      · exact Or.inl y
      · exact absurd z (nI_nle y (by omega))
    · rintro (z | z)
      · rw [z]; decide +kernel
      · exact absurd z q
section RT
variable {n : Nat} {rh : Nat → Int32}
theorem zrg_at (h6 : n ≤ 6) (hr : ∀ w, w < 7 → rh w = -1 ∨ (1 ≤ w ∧ w ≤ n ∧ ∃ h, h ≤ n ∧ rh w = nI h)) {p : Nat} (h1 : 1 ≤ p) (h2 : p ≤ n) : rh p = zen (zrg rh p) ∧ (zrg rh p = 7 ∨ zrg rh p ≤ n) := by
  unfold zrg
  rw [if_neg (by omega)]
  rcases hr p (by omega) with q | ⟨-, -, h, hh, e⟩
  · rw [if_pos q, q]
    exact ⟨rfl, Or.inl rfl⟩
  · rw [e, if_neg (nI_nem1 (by omega)), nI_clamp (by omega)]
    exact ⟨(if_neg (by omega)).symm, Or.inr hh⟩
theorem zrg_ok (h6 : n ≤ 6) (hr : ∀ w, w < 7 → rh w = -1 ∨ (1 ≤ w ∧ w ≤ n ∧ ∃ h, h ≤ n ∧ rh w = nI h)) {p : Nat} (h : p = 7 ∨ p ≤ n) : zrg rh p = 7 ∨ zrg rh p ≤ n := by
  by_cases q : p = 0 ∨ p = 7
  · unfold zrg
    rw [if_pos q]; exact h
  · exact (zrg_at h6 hr (by omega) (by omega)).2
theorem zrg_its (h6 : n ≤ 6) (hr : ∀ w, w < 7 → rh w = -1 ∨ (1 ≤ w ∧ w ≤ n ∧ ∃ h, h ≤ n ∧ rh w = nI h)) : ∀ (k p : Nat), (p = 7 ∨ p ≤ n) → zits (zrg rh) k p = 7 ∨ zits (zrg rh) k p ≤ n
  | 0, p, h => h
  | k + 1, p, h => zrg_its h6 hr k _ (zrg_ok h6 hr h)
theorem zrg_0 : zrg rh 0 = 0 := if_pos (Or.inl rfl)
theorem zrg_7 : zrg rh 7 = 7 := if_pos (Or.inr rfl)
theorem zits_7 : ∀ k, zits (zrg rh) k 7 = 7
  | 0 => rfl
  | k + 1 => by show zits (zrg rh) k (zrg rh 7) = 7; rw [zrg_7]; exact zits_7 k
/-- as many steps as words do as well as 6 -/
theorem zright (h6 : n ≤ 6) (hr : ∀ w, w < 7 → rh w = -1 ∨ (1 ≤ w ∧ w ≤ n ∧ ∃ h, h ≤ n ∧ rh w = nI h)) {w : Nat} (h1 : 1 ≤ w) (h2 : w ≤ n) : zits (zrg rh) n w = 0 ↔ zits (zrg rh) 6 w = 0 := by
  constructor
  · intro h
    rw [show 6 = n + (6 - n) by omega, zits_add, h]
    exact zits_0 zrg_0 _
  · intro h
    refine Decidable.byContradiction fun hn => ?_
    have hin : ∀ i, i ≤ n → 1 ≤ zits (zrg rh) i w ∧ zits (zrg rh) i w ≤ n := fun i hi => by
      rcases zrg_its h6 hr i w (Or.inr h2) with q | q
      · exfalso
        rw [show 6 = i + (6 - i) by omega, zits_add, q, zits_7] at h
        cases h
      · refine ⟨?_, q⟩
        rcases Nat.eq_zero_or_pos (zits (zrg rh) i w) with z | z
        · exfalso
          apply hn
          rw [show n = i + (n - i) by omega, zits_add, z]
          exact zits_0 zrg_0 _
        · exact z
    obtain ⟨i, x, q1, q2, q3⟩ := zpig n (fun i => zits (zrg rh) i w) hin
    have q3 : zits (zrg rh) i w = zits (zrg rh) x w := q3
    have hP : zits (zrg rh) (x - i) (zits (zrg rh) i w) = zits (zrg rh) i w := by
      rw [← zits_add, show i + (x - i) = x by omega, ← q3]
    have h3 := zits_mul hP 6
    rw [← zits_add] at h3
    have h4 : 6 ≤ (x - i) * 6 := Nat.le_mul_of_pos_left 6 (by omega)
    rw [show i + (x - i) * 6 = 6 + (i + (x - i) * 6 - 6) by omega, zits_add, h, zits_0 zrg_0] at h3
    have := hin i (by omega)
    omega
/-- then every right head is told, and is another place -/
theorem zright_at (h6 : n ≤ 6) (hr : ∀ w, w < 7 → rh w = -1 ∨ (1 ≤ w ∧ w ≤ n ∧ ∃ h, h ≤ n ∧ rh w = nI h)) {w : Nat} (h1 : 1 ≤ w) (h2 : w ≤ n) (h : zits (zrg rh) n w = 0) : rh w = nI (zrg rh w) ∧ zrg rh w ≤ n ∧ zrg rh w ≠ w := by
  obtain ⟨e, q⟩ := zrg_at h6 hr h1 h2
  have e0 : zits (zrg rh) (n - 1) (zrg rh w) = 0 := by
    obtain ⟨y, rfl⟩ : ∃ y, n = y + 1 := ⟨n - 1, by omega⟩
    exact h
  rcases q with q | q
  · rw [q, zits_7] at e0
    cases e0
  · refine ⟨e.trans (if_neg (by omega)), q, fun z => ?_⟩
    have stay : ∀ i, zits (zrg rh) i w = w := by
      intro i
      induction i with
      | zero => rfl
      | succ i ih => show zits (zrg rh) i (zrg rh w) = w; rw [z]; exact ih
    rw [stay] at h
    omega
end RT
section RU
variable {N k s n : Nat} {sw : Bool} {rh : Nat → Int32} {M : ZM}
theorem s_right14 (hR : zRf sw k (zR M)) (hs : s < k) (hn : zI M (112 + 11 * s) 3 = nI n) (h6 : n ≤ 6) (hr : ∀ w, w < 7 → rh w = -1 ∨ (1 ≤ w ∧ w ≤ n ∧ ∃ h, h ≤ n ∧ rh w = nI h)) (hrm : ∀ w, w < 7 → zI M (112 + 11 * s + 2) w = rh w) (kh : Nat → Int32 → Option Int32) (w : Nat) : ∀ (d f c p : Nat), c + d = n → d < f → (p = 7 ∨ p ≤ n) → f_X2_hasRightTree_14 N (zKs k) (zln k) kh f (112 + 11 * s) (nI w) (zen p) (nI c) M = if zits (zrg rh) d p = 0 then kh (112 + 11 * s) (nI (w + 1)) else some 0
  | d, 0, c, p, _, hf, _ => absurd hf (Nat.not_lt_zero d)
  | d, f + 1, c, p, hd, hf, hp => by
    have fin : ∀ q, (q = 7 ∨ q ≤ n) → f_X2_hasRightTree_38 N (zKs k) (zln k) kh (112 + 11 * s) (nI w) (zen q) M = if q = 0 then kh (112 + 11 * s) (nI (w + 1)) else some 0 := fun q hq => by
      unfold f_X2_hasRightTree_38
      by_cases e : q = 0
      · rw [if_pos ((zen_0 (by omega)).mpr e), if_pos e, nI_1]
      · rw [if_neg (fun z => e ((zen_0 (by omega)).mp z)), if_neg e]
    rw [f_X2_hasRightTree_14, zgK (ks0 hs), hn]
    cases d with
    | zero =>
      rw [if_pos (nI_le (by omega) (by omega))]
      exact fin p hp
    | succ d =>
      rw [if_neg (nI_ge (by omega) (by omega))]
      by_cases e : p = 0 ∨ p = 7
      · rw [if_pos ((zen_le (by omega)).mpr e), fin p hp]
        rcases e with e | e
        · rw [e, if_pos rfl, if_pos (zits_0 zrg_0 _)]
        · rw [e, if_neg (by decide), if_neg (by rw [zits_7]; decide)]
      · rw [if_neg (fun z => e ((zen_le (by omega)).mp z)), show zen p = nI p from if_neg (by omega), zbindS (s_rightHead hR hs (show p < 7 by omega)), hrm p (by omega), (zrg_at h6 hr (show 1 ≤ p by omega) (by omega)).1, nI_1]
        exact s_right14 hR hs hn h6 hr hrm kh w d f (c + 1) (zrg rh p) (by omega) (by omega) (zrg_ok h6 hr hp)
theorem s_right2 (hN : 10000000 ≤ N) (hR : zRf sw k (zR M)) (hs : s < k) (hn : zI M (112 + 11 * s) 3 = nI n) (h6 : n ≤ 6) (hr : ∀ w, w < 7 → rh w = -1 ∨ (1 ≤ w ∧ w ≤ n ∧ ∃ h, h ≤ n ∧ rh w = nI h)) (hrm : ∀ w, w < 7 → zI M (112 + 11 * s + 2) w = rh w) : ∀ (d f w : Nat), w + d = n + 1 → 1 ≤ w → d < f → ∃ r : Int32, f_X2_hasRightTree_2 N (zKs k) (zln k) f (112 + 11 * s) (nI w) M = some r ∧ ((r = 1 ∧ ∀ x, w ≤ x → x ≤ n → zits (zrg rh) n x = 0) ∨ (r = 0 ∧ ∃ x, w ≤ x ∧ x ≤ n ∧ zits (zrg rh) n x ≠ 0))
  | d, 0, w, _, _, hf => absurd hf (Nat.not_lt_zero d)
  | 0, f + 1, w, hd, h1, _ => by
    refine ⟨1, ?_, Or.inl ⟨rfl, fun x q1 q2 => by omega⟩⟩
    rw [f_X2_hasRightTree_2, zgK (ks0 hs), hn, if_pos (nI_lt (by omega) (by omega))]
  | d + 1, f + 1, w, hd, h1, hf => by
    have e14 := s_right14 (N := N) hR hs hn h6 hr hrm (fun y0 y1 => f_X2_hasRightTree_2 N (zKs k) (zln k) f y0 y1 M) w n N 0 w (by omega) (by omega) (Or.inr (by omega))
    rw [show zen w = nI w from if_neg (by omega)] at e14
    have e2 : f_X2_hasRightTree_2 N (zKs k) (zln k) (f + 1) (112 + 11 * s) (nI w) M = if zits (zrg rh) n w = 0 then f_X2_hasRightTree_2 N (zKs k) (zln k) f (112 + 11 * s) (nI (w + 1)) M else some 0 := by
      rw [f_X2_hasRightTree_2, zgK (ks0 hs), hn, if_neg (nI_nlt (by omega) (by omega))]
      exact e14
    by_cases c : zits (zrg rh) n w = 0
    · obtain ⟨r, e, h⟩ := s_right2 hN hR hs hn h6 hr hrm d f (w + 1) (by omega) (by omega) (by omega)
      refine ⟨r, by rw [e2, if_pos c]; exact e, ?_⟩
      rcases h with ⟨h3, h4⟩ | ⟨h3, x, h4, h5, h7⟩
      · refine Or.inl ⟨h3, fun x q1 q2 => ?_⟩
        by_cases e : x = w
        · rw [e]; exact c
        · exact h4 x (by omega) q2
      · exact Or.inr ⟨h3, x, by omega, h5, h7⟩
    · exact ⟨0, by rw [e2, if_neg c], Or.inr ⟨rfl, w, Nat.le_refl w, by omega, c⟩⟩
end RU
/-! MENDING: the weights. -/
def zad (wt : Nat → Int) (a b : Nat) (d : Int) : Nat → Int := fun f => wt f + (if f = a then d else 0) + (if f = b then d else 0)
/-- the weights behind the words 1 .. w -/
def zmd (kd rn v : Nat → Nat) (wt : Nat → Int) : Nat → Nat → Int
  | 0 => wt
  | w + 1 => if rn (w + 1) = v (w + 1) then zmd kd rn v wt w else zad (zad (zmd kd rn v wt w) (zbk kd (rn (w + 1)) (w + 1)) (zbd (rn (w + 1)) (w + 1)) 1) (zbk kd (v (w + 1)) (w + 1)) (zbd (v (w + 1)) (w + 1)) (-1)
def zmn (rn v : Nat → Nat) : Nat → Nat
  | 0 => 0
  | w + 1 => zmn rn v w + (if rn (w + 1) = v (w + 1) then 0 else 1)
theorem zbd_ge {h w : Nat} (e : h ≠ w) : 20 ≤ zbd h w := by
  unfold zbd
  split <;> split <;> omega
theorem zad_b {wt : Nat → Int} {a b : Nat} (h : a < 20) (h2 : 20 ≤ b) (d : Int) (f : Nat) : zad wt a b d f = wt f ∨ zad wt a b d f = wt f + d := by
  unfold zad
  by_cases q : f = a
  · rw [if_pos q, if_neg (by omega)]
    exact Or.inr (by omega)
  · rw [if_neg q]
    by_cases q2 : f = b
    · rw [if_pos q2]; exact Or.inr (by omega)
    · rw [if_neg q2]; exact Or.inl (by omega)
theorem zmd_b {kd rn v : Nat → Nat} {wt : Nat → Int} {n : Nat} (hb : ∀ i, 1 ≤ i → i ≤ n → zbk kd (rn i) i < 20 ∧ zbk kd (v i) i < 20 ∧ rn i ≠ i ∧ v i ≠ i) : ∀ w, w ≤ n → ∀ f, wt f - (w : Int) ≤ zmd kd rn v wt w f ∧ zmd kd rn v wt w f ≤ wt f + (w : Int)
  | 0, _, f => by
    show wt f - ((0 : Nat) : Int) ≤ wt f ∧ wt f ≤ wt f + ((0 : Nat) : Int)
    omega
  | w + 1, hw, f => by
    have ih := zmd_b (wt := wt) hb w (by omega) f
    obtain ⟨b1, b2, b3, b4⟩ := hb (w + 1) (by omega) hw
    show wt f - ((w + 1 : Nat) : Int) ≤ (if rn (w + 1) = v (w + 1) then zmd kd rn v wt w else _) f ∧ (if rn (w + 1) = v (w + 1) then zmd kd rn v wt w else _) f ≤ wt f + ((w + 1 : Nat) : Int)
    by_cases q : rn (w + 1) = v (w + 1)
    · rw [if_pos q]; omega
    · rw [if_neg q]
      rcases zad_b (wt := zad (zmd kd rn v wt w) (zbk kd (rn (w + 1)) (w + 1)) (zbd (rn (w + 1)) (w + 1)) 1) b2 (zbd_ge b4) (-1) f with e | e <;> rcases zad_b (wt := zmd kd rn v wt w) b1 (zbd_ge b3) 1 f with e2 | e2 <;> rw [e, e2] <;> omega
section MW
variable {N k s n : Nat} {sw : Bool} {kd : Nat → Nat} {mk : Nat → Nat → Int32} {M : ZM}
theorem s_addToArc (hR : zRf sw k (zR M)) (hk : s < k) (hS : zSen s n kd mk (zI M)) {wt : Nat → Int} (hW : ∀ f, f < 28 → zI M 3 f = iI (wt f)) {h w : Nat} (hh : h ≤ n) (h1 : 1 ≤ w) (hw : w ≤ n) (d : Int) : ∃ M', f_X5_addToArc N (zKs k) (zln k) 2 (112 + 11 * s) (nI h) (nI w) (iI d) M = some M' ∧ zR M' = zR M ∧ zJ M' = zJ M ∧ zD M' = zD M ∧ (∀ f, f < 28 → zI M' 3 f = iI (zad wt (zbk kd h w) (zbd h w) d f)) ∧ ∀ b i, b ≠ 3 → zI M' b i = zI M b i := by
  have hb := zbk_lt hS hh h1 hw
  have h6 := hS.1
  have hd28 := zbd_lt (h := h) (w := w)
  have h3 : zI (zsI M 3 (zbk kd h w) (iI (wt (zbk kd h w) + d))) 3 (zbd h w) = iI (wt (zbd h w) + (if zbd h w = zbk kd h w then d else 0)) := by
    rw [zI_sI]
    by_cases q : zbd h w = zbk kd h w
    · rw [if_pos ⟨rfl, q⟩, if_pos q, q]
    · rw [if_neg (fun z => q z.2), if_neg q, hW _ hd28, Int.add_zero]
  refine ⟨zsI (zsI M 3 (zbk kd h w) (iI (wt (zbk kd h w) + d))) 3 (zbd h w) (iI (wt (zbd h w) + (if zbd h w = zbk kd h w then d else 0) + d)), ?_, rfl, rfl, rfl, fun f hf => ?_, fun b i q => by rw [zI_sI, if_neg (fun z => q z.1), zI_sI, if_neg (fun z => q z.1)]⟩
  · unfold f_X5_addToArc f_X5_addToArc_0
    rw [zbindS (s_byK hR hk hS hh hw), zgK (ks0 hk), zbindS (s_byDistance N (show h < 7 by omega) (show w < 7 by omega)), zbindS (s_get hR (show zbk kd h w < 28 by omega)), zgK (k2 k), hW _ (by omega), iI_add, zbindS (s_put hR (show zbk kd h w < 28 by omega) _), zbindS (s_get (M := zsI M 3 (zbk kd h w) (iI (wt (zbk kd h w) + d))) hR hd28), h3, iI_add, zbindS (s_put (M := zsI M 3 (zbk kd h w) (iI (wt (zbk kd h w) + d))) hR hd28 _)]
  · rw [zI_sI]
    unfold zad
    by_cases q : f = zbd h w
    · rw [if_pos ⟨rfl, q⟩, if_pos q, q]
    · rw [if_neg (fun z => q z.2), if_neg q, zI_sI, Int.add_zero]
      by_cases q2 : f = zbk kd h w
      · rw [if_pos ⟨rfl, q2⟩, if_pos q2, q2]
      · rw [if_neg (fun z => q2 z.2), if_neg q2, hW f hf, Int.add_zero]
theorem s_mend43 (hk : s < k) (h6 : n ≤ 6) {rh : Nat → Int32} {rn v : Nat → Nat} {key : Int64} {wt : Nat → Int} (hrn : ∀ w, 1 ≤ w → w ≤ n → rh w = nI (rn w) ∧ rn w ≤ n) (hkey : ∀ w, 1 ≤ w → w ≤ n → f_X6_headIn N key (nI w) = some (nI (v w)) ∧ v w ≤ n) : ∀ (d f w : Nat) (M : ZM), w + d = n → d < f → zRf sw k (zR M) → zSen s n kd mk (zI M) → (∀ w, w < 7 → zI M (112 + 11 * s + 2) w = rh w) → (∀ g, g < 28 → zI M 3 g = iI (zmd kd rn v wt w g)) → ∃ M', f_X6_mend_43 N (zKs k) (zln k) f 0 (112 + 11 * s) key (nI (zmn rn v w)) (nI (w + 1)) M = (f_X5_endStep N (zKs k) (zln k) 2 M').bind (fun M10 => some (Sum.inr (nI (zmn rn v n)), M10)) ∧ zR M' = zR M ∧ zJ M' = zJ M ∧ zD M' = zD M ∧ (∀ g, g < 28 → zI M' 3 g = iI (zmd kd rn v wt n g)) ∧ ∀ b i, b ≠ 3 → zI M' b i = zI M b i
  | d, 0, w, M, _, hf, _, _, _, _ => absurd hf (Nat.not_lt_zero d)
  | 0, f + 1, w, M, hd, _, hR, hS, hr, hW => by
    have e : w = n := by omega
    subst e
    refine ⟨M, ?_, rfl, rfl, rfl, hW, fun _ _ _ => rfl⟩
    rw [f_X6_mend_43, zbindS (s_size hk hS.2.1), zgK (ks0 hk), if_pos (nI_lt (Nat.lt_succ_self w) (by omega)), zgK (k0 k), zbindS (hR.at 0 2 2 (zrm 1 rfl))]
    congr 1
    funext M10
    rw [zgK (k2 k)]
  | d + 1, f + 1, w, M, hd, hf, hR, hS, hr, hW => by
    obtain ⟨e1, b1⟩ := hrn (w + 1) (by omega) (by omega)
    obtain ⟨e2, b2⟩ := hkey (w + 1) (by omega) (by omega)
    have pre : f_X6_mend_43 N (zKs k) (zln k) (f + 1) 0 (112 + 11 * s) key (nI (zmn rn v w)) (nI (w + 1)) M = if nI (rn (w + 1)) = nI (v (w + 1)) then f_X6_mend_43 N (zKs k) (zln k) f 0 (112 + 11 * s) key (nI (zmn rn v w)) (nI (w + 1 + 1)) M else (f_X5_addToArc N (zKs k) (zln k) 2 (112 + 11 * s) (nI (rn (w + 1))) (nI (w + 1)) 1 M).bind fun M22 => (zR M22 0 2).bind fun b24 => (f_X5_addToArc N (zKs k) (zln k) b24 (112 + 11 * s) (nI (v (w + 1))) (nI (w + 1)) (-1) M22).bind fun M28 => zg (zKs k b24 == 6) (f_X6_mend_43 N (zKs k) (zln k) f 0 (112 + 11 * s) key (nI (zmn rn v w) + 1) (nI (w + 1 + 1)) M28) := by
      rw [f_X6_mend_43, zbindS (s_size hk hS.2.1), zgK (ks0 hk), if_neg (nI_nlt (by omega) (by omega)), zbindS (s_rightHead hR hk (show w + 1 < 7 by omega)), hr _ (show w + 1 < 7 by omega), e1, zbindS e2, ← nI_1 (w + 1)]
      by_cases q : nI (rn (w + 1)) = nI (v (w + 1))
      · rw [if_pos q, if_pos q]
        exact rfl
      · rw [if_neg q, if_neg q, zgK (k0 k), zbindS (hR.at 0 2 2 (zrm 1 rfl))]
        congr 1
        funext M22
        rw [zgK (k2 k)]
        exact rfl
    rw [pre]
    have ez : zmd kd rn v wt (w + 1) = if rn (w + 1) = v (w + 1) then zmd kd rn v wt w else zad (zad (zmd kd rn v wt w) (zbk kd (rn (w + 1)) (w + 1)) (zbd (rn (w + 1)) (w + 1)) 1) (zbk kd (v (w + 1)) (w + 1)) (zbd (v (w + 1)) (w + 1)) (-1) := rfl
    have en : zmn rn v (w + 1) = zmn rn v w + (if rn (w + 1) = v (w + 1) then 0 else 1) := rfl
    by_cases q : rn (w + 1) = v (w + 1)
    · rw [if_pos q] at ez
      have en : zmn rn v (w + 1) = zmn rn v w := by rw [en, if_pos q]; rfl
      rw [if_pos (by rw [q]), ← en]
      exact s_mend43 hk h6 hrn hkey d f (w + 1) M (by omega) (by omega) hR hS hr (by rw [ez]; exact hW)
    · rw [if_neg q] at ez en
      rw [if_neg (fun z => q ((nI_eq (by omega) (by omega)).mp z))]
      obtain ⟨M1, a1, r1, j1, d1, w1, o1⟩ := s_addToArc (N := N) hR hk hS hW b1 (show 1 ≤ w + 1 by omega) (show w + 1 ≤ n by omega) 1
      have hR1 : zRf sw k (zR M1) := by rw [r1]; exact hR
      have hS1 : zSen s n kd mk (zI M1) := zSen_congr (fun a i ha => o1 a i (by omega)) hS
      obtain ⟨M2, a2, r2, j2, d2, w2, o2⟩ := s_addToArc (N := N) hR1 hk hS1 w1 b2 (show 1 ≤ w + 1 by omega) (show w + 1 ≤ n by omega) (-1)
      have hR2 : zRf sw k (zR M2) := by rw [r2]; exact hR1
      obtain ⟨M', e, r3, j3, d3, w3, o3⟩ := s_mend43 hk h6 hrn hkey d f (w + 1) M2 (by omega) (by omega) hR2 (zSen_congr (fun a i ha => o2 a i (by omega)) hS1) (fun x hx => (o2 _ _ (by omega)).trans ((o1 _ _ (by omega)).trans (hr x hx))) (by rw [ez]; exact w2)
      refine ⟨M', ?_, r3.trans (r2.trans r1), j3.trans (j2.trans j1), d3.trans (d2.trans d1), w3, fun b i z => (o3 b i z).trans ((o2 b i z).trans (o1 b i z))⟩
      rw [show (1 : Int32) = iI 1 from rfl, zbindS a1, zbindS (hR1.at 0 2 2 (zrm 1 rfl)), show -iI 1 = iI (-1) from by decide +kernel, zbindS a2, zgK (k2 k), show nI (zmn rn v w) + iI 1 = nI (zmn rn v (w + 1)) from by rw [en]; exact nI_1 _]
      exact e
theorem s_endStep (hN : 10000000 ≤ N) : ∀ (d f x : Nat) (M : ZM), x + d = 28 → d < f → zRf sw k (zR M) → ∃ M', f_X5_endStep_2 N (zKs k) (zln k) f 2 (nI x) M = some M' ∧ zR M' = zR M ∧ zD M' = zD M ∧ zI M' = zI (zsI M 2 2 (zI M 2 2 + 1)) ∧ ∀ b i, zJ M' b i = if b = 4 ∧ x ≤ i ∧ i < 28 then zJ M 4 i + (zI M 3 i).toInt64 else zJ M b i
  | d, 0, x, M, _, hf, _ => absurd hf (Nat.not_lt_zero d)
  | 0, f + 1, x, M, hd, _, hR => by
    refine ⟨zsI M 2 2 (zI M 2 2 + 1), ?_, rfl, rfl, rfl, fun b i => by rw [if_neg (by omega)]; rfl⟩
    rw [f_X5_endStep_2, if_pos (show (28 : Int32) ≤ nI x from nI_le (a := 28) (by omega) (by omega)), zgK (k2 k), zlS]
  | d + 1, f + 1, x, M, hd, hf, hR => by
    obtain ⟨M', e, r, D, I, h⟩ := s_endStep hN d f (x + 1) (zsJ M 4 x (zJ M 4 x + (zI M 3 x).toInt64)) (by omega) (by omega) hR
    refine ⟨M', ?_, r, D, I, fun b i => ?_⟩
    · rw [f_X5_endStep_2, if_neg (show ¬ (28 : Int32) ≤ nI x from nI_ge (b := 28) (by omega) (by omega)), zgK (k2 k), zbindS (hR.at 2 1 4 (zrm 7 rfl)), zgok (k4 k) (l4 k) (show x < 28 by omega) (by decide), zbindS (hR.at 2 0 3 (zrm 6 rfl)), zgok (k3 k) (l3 k) (show x < 28 by omega) (by decide), zlS, nI_clamp (by omega), nI_1]
      exact e
    · rw [h b i]
      by_cases q : b = 4 ∧ x + 1 ≤ i ∧ i < 28
      · rw [if_pos q, if_pos ⟨q.1, by omega, q.2.2⟩, zI_sJ, zJ_sJ, if_neg (by omega)]
      · rw [if_neg q, zJ_sJ]
        by_cases q2 : b = 4 ∧ i = x
        · rw [if_pos q2, if_pos (by omega), q2.2]
        · rw [if_neg q2, if_neg (by omega)]
end MW
section ME
variable {N j k : Nat} {M : ZM}
end ME
/-! ADDSENTENCE. -/
theorem zI_clr (M : ZM) (r b j : Nat) : zI (zclr M r) b j = if b = r then 0 else zI M b j := rfl
theorem zJ_clr (M : ZM) (r b j : Nat) : zJ (zclr M r) b j = if b = r then 0 else zJ M b j := rfl
theorem zR_clr (M : ZM) (r b j : Nat) : zR (zclr M r) b j = if b = r then none else zR M b j := rfl
theorem zI_clm (M : ZM) (r n b j : Nat) : zI (zclm M r n) b j = if r ≤ b ∧ b ≤ r + n then 0 else zI M b j := rfl
theorem zJ_clm (M : ZM) (r n b j : Nat) : zJ (zclm M r n) b j = if r ≤ b ∧ b ≤ r + n then 0 else zJ M b j := rfl
theorem zR_clm (M : ZM) (r n b j : Nat) : zR (zclm M r n) b j = if r ≤ b ∧ b ≤ r + n then (if b = r ∧ j < n then some (r + 1 + j) else none) else zR M b j := rfl
section AS
variable {N j k : Nat} {M : ZM}
theorem s_init2 (hN : 10000000 ≤ N) {K len : Nat → Nat} {S : Nat} (hK : K S = 3) (M : ZM) : ∃ M', f_X2_init N K len S M = some M' ∧ (∀ b i, (b < S ∨ S + 10 < b) → zI M' b i = zI M b i ∧ zJ M' b i = zJ M b i ∧ zR M' b i = zR M b i) ∧ zI M' S 3 = 0 ∧ zI M' (S + 1) 0 = 4 ∧ (∀ i, i < 7 → zI M' (S + 2) i = -1) ∧ (∀ h i, h < 7 → zI M' (S + (4 + h)) i = 0) ∧ zR M' S 0 = some (S + 1) ∧ zR M' S 1 = some (S + 2) ∧ zR M' S 2 = some (S + 3) ∧ (∀ i, 3 ≤ i → zR M' S i = zR M S i) ∧ (∀ i, zR M' (S + 1) i = none ∧ zR M' (S + 2) i = none) ∧ (∀ i, zR M' (S + 3) i = if i < 7 then some (S + 3 + 1 + i) else none) ∧ ∀ h i, h < 7 → zR M' (S + (4 + h)) i = none := by
  obtain ⟨M8, e8⟩ : ∃ M8, M8 = zsR (zclm (zsR (zclr (zsR (zclr M (S + 1)) S 0 (some (S + 1))) (S + 2)) S 1 (some (S + 2))) (S + 3) 7) S 2 (some (S + 3)) := ⟨_, rfl⟩
  obtain ⟨M15, e15⟩ : ∃ M15, M15 = zsI (zsI M8 S 3 0) (S + 1) 0 4 := ⟨_, rfl⟩
  have k1 : (zmu (va_up (va_up K (S + 1) 11) (S + 2) 11) (S + 3) 7 15 11) (S + 1) = 11 := by
    unfold zmu va_up
    rw [if_neg (by omega), if_neg (by omega), if_neg (by omega), if_pos rfl]
  have k2 : (zmu (va_up (va_up K (S + 1) 11) (S + 2) 11) (S + 3) 7 15 11) (S + 2) = 11 := by
    unfold zmu va_up
    rw [if_neg (by omega), if_neg (by omega), if_pos rfl]
  have l1 : (zmu (va_up (va_up len (S + 1) 7) (S + 2) 7) (S + 3) 7 7 7) (S + 1) = 7 := by
    unfold zmu va_up
    rw [if_neg (by omega), if_neg (by omega), if_neg (by omega), if_pos rfl]
  have l2 : (zmu (va_up (va_up len (S + 1) 7) (S + 2) 7) (S + 3) 7 7 7) (S + 2) = 7 := by
    unfold zmu va_up
    rw [if_neg (by omega), if_neg (by omega), if_pos rfl]
  have s1 : (va_up K (S + 1) 11) S = 3 := by unfold va_up; rw [if_neg (by omega)]; exact hK
  have s2 : (va_up (va_up K (S + 1) 11) (S + 2) 11) S = 3 := by unfold va_up; rw [if_neg (by omega), if_neg (by omega)]; exact hK
  have s3 : (zmu (va_up (va_up K (S + 1) 11) (S + 2) 11) (S + 3) 7 15 11) S = 3 := by unfold zmu va_up; rw [if_neg (by omega), if_neg (by omega), if_neg (by omega), if_neg (by omega)]; exact hK
  obtain ⟨M19, e19, r19, j19, d19, i19⟩ := s_fillIa (N := N) (K := zmu (va_up (va_up K (S + 1) 11) (S + 2) 11) (S + 3) 7 15 11) (len := zmu (va_up (va_up len (S + 1) 7) (S + 2) 7) (S + 3) 7 7 7) (a := S + 2) (c := 7) hN k2 l2 (by decide) (-1 : Int32) M15
  have r8 : ∀ b i, zR M8 b i = if b = S ∧ i = 2 then some (S + 3) else if S + 3 ≤ b ∧ b ≤ S + 3 + 7 then (if b = S + 3 ∧ i < 7 then some (S + 3 + 1 + i) else none) else if b = S ∧ i = 1 then some (S + 2) else if b = S + 2 then none else if b = S ∧ i = 0 then some (S + 1) else if b = S + 1 then none else zR M b i := fun b i => by rw [e8]; rfl
  have i8 : ∀ b i, zI M8 b i = if S + 3 ≤ b ∧ b ≤ S + 3 + 7 then 0 else if b = S + 2 then 0 else if b = S + 1 then 0 else zI M b i := fun b i => by rw [e8]; rfl
  have j8 : ∀ b i, zJ M8 b i = if S + 3 ≤ b ∧ b ≤ S + 3 + 7 then 0 else if b = S + 2 then 0 else if b = S + 1 then 0 else zJ M b i := fun b i => by rw [e8]; rfl
  have r15 : zR M15 = zR M8 := by rw [e15]; rfl
  have hb12 : zR (zsI M8 S 3 0) S 0 = some (S + 1) := by
    show zR M8 S 0 = _
    rw [r8, if_neg (by omega), if_neg (by omega), if_neg (by omega), if_neg (by omega), if_pos ⟨rfl, rfl⟩]
  have hb17 : zR M15 S 1 = some (S + 2) := by rw [r15, r8, if_neg (by omega), if_neg (by omega), if_pos ⟨rfl, rfl⟩]
  refine ⟨M19, ?_, fun b i q => ⟨?_, ?_, ?_⟩, ?_, ?_, fun i hi => ?_, fun h i hh => ?_, ?_, ?_, ?_, fun i hi => ?_, fun i => ⟨?_, ?_⟩, fun i => ?_, fun h i hh => ?_⟩
  · unfold f_X2_init
    rw [show S + 1 + 0 = S + 1 from rfl, show S + 1 + 1 = S + 2 from rfl, show S + 1 + 2 = S + 3 from rfl, zgK s1, zlS, zgK s2, zlS, zgK s3, zlS, ← e8, zlS, zbindS hb12, zgokL (i := 0) (n := 0) rfl k1 l1 (by decide) (by decide), zlS, zcl0, ← e15, zbindS hb17, zbindS e19]
  · rw [i19, if_neg (by omega), e15, zI_sI, if_neg (by omega), zI_sI, if_neg (by omega), i8, if_neg (by omega), if_neg (by omega), if_neg (by omega)]
  · rw [j19, e15, zJ_sI, zJ_sI, j8, if_neg (by omega), if_neg (by omega), if_neg (by omega)]
  · rw [r19, r15, r8, if_neg (by omega), if_neg (by omega), if_neg (by omega), if_neg (by omega), if_neg (by omega), if_neg (by omega)]
  · rw [i19, if_neg (by omega), e15, zI_sI, if_neg (by omega), zI_sI, if_pos ⟨rfl, rfl⟩]
  · rw [i19, if_neg (by omega), e15, zI_sI, if_pos ⟨rfl, rfl⟩]
  · rw [i19, if_pos ⟨rfl, hi⟩]
  · rw [i19, if_neg (by omega), e15, zI_sI, if_neg (by omega), zI_sI, if_neg (by omega), i8, if_pos (by omega)]
  · rw [r19, r15]; exact hb12
  · rw [r19]; exact hb17
  · rw [r19, r15, r8, if_pos ⟨rfl, rfl⟩]
  · rw [r19, r15, r8, if_neg (by omega), if_neg (by omega), if_neg (by omega), if_neg (by omega), if_neg (by omega), if_neg (by omega)]
  · rw [r19, r15, r8, if_neg (by omega), if_neg (by omega), if_neg (by omega), if_neg (by omega), if_neg (by omega), if_pos rfl]
  · rw [r19, r15, r8, if_neg (by omega), if_neg (by omega), if_neg (by omega), if_pos rfl]
  · rw [r19, r15, r8, if_neg (by omega), if_pos (by omega)]
    by_cases q : i < 7
    · rw [if_pos ⟨rfl, q⟩, if_pos q]
    · rw [if_neg (fun z => q z.2), if_neg q]
  · rw [r19, r15, r8, if_neg (by omega), if_pos (by omega), if_neg (by omega)]
end AS
