/-! THE HISTORY: keep, remembers, setWeight. -/
theorem zI_cI (M : ZM) (a0 a sp dp n b j : Nat) : zI (zcI M a0 a sp dp n) b j = if b = a ∧ dp ≤ j ∧ j < dp + n then zI M a0 (sp + (j - dp)) else zI M b j := rfl
theorem zJ_cI (M : ZM) (a0 a sp dp n : Nat) : zJ (zcI M a0 a sp dp n) = zJ M := rfl
theorem zR_cI (M : ZM) (a0 a sp dp n : Nat) : zR (zcI M a0 a sp dp n) = zR M := rfl
theorem zJ_cJ (M : ZM) (a0 a sp dp n b j : Nat) : zJ (zcJ M a0 a sp dp n) b j = if b = a ∧ dp ≤ j ∧ j < dp + n then zJ M a0 (sp + (j - dp)) else zJ M b j := rfl
theorem zI_cJ (M : ZM) (a0 a sp dp n : Nat) : zI (zcJ M a0 a sp dp n) = zI M := rfl
theorem zR_cJ (M : ZM) (a0 a sp dp n : Nat) : zR (zcJ M a0 a sp dp n) = zR M := rfl
theorem zcp28 {K len : Nat → Nat} {t a0 a : Nat} (h1 : K a0 = t) (h2 : K a = t) (h3 : len a0 = 28) (h4 : len a = 28) : zcp K len t a0 a (0 : Int32) (0 : Int32) (28 : Int32) = true := by
  unfold zcp
  rw [h1, h2, h3, h4, beq_self_eq_true]
  decide +kernel
theorem s_isRow (N : Nat) {r : Nat} (h : r < 20) : f_X5_isRow N (nI r) = some 1 := by
  unfold f_X5_isRow f_X5_isRow_0
  rw [if_neg (nI_pos (by omega)), if_neg (show ¬ (20 : Int32) ≤ nI r from nI_ge (b := 20) h (by omega))]
theorem zcl28 : (28 : Int32).toNatClampNeg = 28 := by decide
section KE
variable {N k : Nat} {sw : Bool} {M : ZM}
theorem s_keep (hR : zRf sw k (zR M)) {nx l st : Nat} (hnx : nx < 20) (hl : l ≤ 20) (h7 : zI M 2 7 = nI nx) (h6 : zI M 2 6 = nI l) : ∃ M', f_X5_keep N (zKs k) (zln k) 2 M = some M' ∧ zR M' = zR M ∧ zD M' = zD M ∧ zI M' 2 6 = nI (min 20 (l + 1)) ∧ zI M' 2 7 = nI ((nx + 1) % 20) ∧ zI M' 47 nx = zI M 2 2 ∧ (∀ f, f < 28 → zI M' (6 + nx) f = zI M 3 f) ∧ (∀ f, f < 28 → zJ M' (27 + nx) f = zJ M 4 f) ∧ (∀ b i, ¬ (b = 2 ∧ (i = 6 ∨ i = 7)) → ¬ (b = 47 ∧ i = nx) → b ≠ 6 + nx → zI M' b i = zI M b i) ∧ (∀ b i, b ≠ 27 + nx → zJ M' b i = zJ M b i) := by
  obtain ⟨M23, e23⟩ : ∃ M23, M23 = zcJ (zcI M 3 (6 + nx) 0 0 28) 4 (27 + nx) 0 0 28 := ⟨_, rfl⟩
  obtain ⟨M28, e28⟩ : ∃ M28, M28 = zsI M23 47 nx (zI M 2 2) := ⟨_, rfl⟩
  have hi23 : ∀ b i, b ≠ 6 + nx → zI M23 b i = zI M b i := fun b i h => by rw [e23, zI_cJ, zI_cI, if_neg (fun q => h q.1)]
  have hR23 : zR M23 = zR M := by rw [e23]; rfl
  have hR28 : zR M28 = zR M := by rw [e28]; exact hR23
  have hi28 : ∀ b i, b ≠ 6 + nx → ¬ (b = 47 ∧ i = nx) → zI M28 b i = zI M b i := fun b i h h2 => by rw [e28, zI_sI, if_neg h2]; exact hi23 b i h
  have h86 : ∀ v : Int32, f_X5_keep_86 N (zKs k) (zln k) 2 v 2 M28 = some (zsI (zsI M28 2 7 v) 2 6 (nI (min 20 (l + 1)))) := fun v => by
    unfold f_X5_keep_86
    rw [zgK (k2 k), zlS, zgK (k2 k), show zI (zsI M28 2 7 v) 2 6 = nI l from by rw [zI_sI, if_neg (by omega), hi28 _ _ (by omega) (by omega)]; exact h6, show nI l + (1 : Int32) = nI (l + 1) from nI_1 l, zlS]
    by_cases q : l = 20
    · subst q
      rw [if_pos (show (20 : Int32) < nI (20 + 1) by decide +kernel)]
      rfl
    · rw [if_neg (show ¬ (20 : Int32) < nI (l + 1) from nI_nlt (a := 20) (by omega) (by decide)), show min 20 (l + 1) = l + 1 by omega]
  have hfin : f_X5_keep N (zKs k) (zln k) 2 M = some (zsI (zsI M28 2 7 (nI ((nx + 1) % 20))) 2 6 (nI (min 20 (l + 1)))) := by
    unfold f_X5_keep f_X5_keep_0
    rw [zgK (k2 k), h7, zbindS (s_isRow N hnx), if_neg one_ne0, zbindS (hR.at 2 0 3 (zrm 6 rfl)), zbindS (hR.at 2 3 5 (zrm 8 rfl)), zgok (k5 k) (l5 k) hnx (by decide), nI_clamp (show nx < 2 ^ 31 by omega), zbindS (hR.row 5 20 6 (by simp [ztabs]) hnx), zcp28 (k3 k) (kr6 k hnx) (l3 k) (lr6 k hnx), zg_true, zlS, zcl0, zcl28, zR_cI, zbindS (hR.at 2 1 4 (zrm 7 rfl)), zbindS (hR.at 2 4 26 (zrm 9 rfl)), show zI (zcI M 3 (6 + nx) 0 0 28) 2 7 = nI nx from by rw [zI_cI, if_neg (by omega)]; exact h7, zgok (k26 k) (l26 k) hnx (by decide), nI_clamp (show nx < 2 ^ 31 by omega), zbindS (hR.row 26 20 27 (by simp [ztabs]) hnx), zcp28 (k4 k) (kr27 k hnx) (l4 k) (lr27 k hnx), zg_true, zlS, ← e23, hR23, zbindS (hR.at 2 5 47 (zrm 10 rfl)), show zI M23 2 7 = nI nx from by rw [hi23 _ _ (by omega)]; exact h7, zgok (k47 k) (l47 k) hnx (by decide), zlS, nI_clamp (show nx < 2 ^ 31 by omega), show zI M23 2 2 = zI M 2 2 from hi23 _ _ (by omega), ← e28, show zI M28 2 7 = nI nx from by rw [hi28 _ _ (by omega) (by omega)]; exact h7, show nI nx + (1 : Int32) = nI (nx + 1) from nI_1 nx]
    by_cases q : nx = 19
    · subst q
      rw [if_pos (show (20 : Int32) ≤ nI (19 + 1) by decide +kernel), h86]
      rfl
    · rw [if_neg (show ¬ (20 : Int32) ≤ nI (nx + 1) from nI_ge (b := 20) (by omega) (by decide)), h86, show (nx + 1) % 20 = nx + 1 by omega]
  refine ⟨_, hfin, hR28, by rw [e28, e23]; rfl, ?_, ?_, ?_, fun f hf => ?_, fun f hf => ?_, fun b i q1 q2 q3 => ?_, fun b i q => ?_⟩
  · rw [zI_sI, if_pos ⟨rfl, rfl⟩]
  · rw [zI_sI, if_neg (by decide), zI_sI, if_pos ⟨rfl, rfl⟩]
  · rw [zI_sI, if_neg (by omega), zI_sI, if_neg (by omega), e28, zI_sI, if_pos ⟨rfl, rfl⟩]
  · rw [zI_sI, if_neg (by omega), zI_sI, if_neg (by omega), e28, zI_sI, if_neg (by omega), e23, zI_cJ, zI_cI, if_pos ⟨rfl, by omega, by omega⟩, show 0 + (f - 0) = f by omega]
  · rw [zJ_sI, zJ_sI, e28, zJ_sI, e23, zJ_cJ, if_pos ⟨rfl, by omega, by omega⟩, show 0 + (f - 0) = f by omega, zJ_cI]
  · rw [zI_sI, if_neg (by omega), zI_sI, if_neg (by omega)]; exact hi28 b i q3 q2
  · rw [zJ_sI, zJ_sI, e28, zJ_sI, e23, zJ_cJ, if_neg (fun z => q z.1), zJ_cI]
theorem q_rem22 (hN : 10000000 ≤ N) {at' l fs : Nat} (hat : at' < 20) (hl : l ≤ 20) (hfs : fs < 20) : ∀ (d f x : Nat) (M : ZM), x + d = 28 → d < f → zRf sw k (zR M) → zI M 112 8 = nI l → zI M 112 9 = nI fs → ∃ M', f_X7_remembers_22 N (zKs k) (zln k) f 112 (nI at') (nI x) M = some M' ∧ zR M' = zR M ∧ zJ M' = zJ M ∧ zD M' = zD M ∧ zI M' 112 8 = nI (min 20 (l + 1)) ∧ zI M' 112 9 = nI (if l = 20 then (fs + 1) % 20 else fs) ∧ (∀ f, x ≤ f → f < 28 → zI M' 120 (28 * at' + f) = zI M 117 f) ∧ (∀ b i, ¬ (b = 112 ∧ (i = 8 ∨ i = 9)) → ¬ (b = 120 ∧ 28 * at' + x ≤ i ∧ i < 28 * at' + 28) → zI M' b i = zI M b i)
  | d, 0, x, M, _, hf, _, _, _ => absurd hf (Nat.not_lt_zero d)
  | 0, f + 1, x, M, hd, _, hR, h8, h9 => by
    have h77 : ∀ v : Int32, f_X7_remembers_77 N (zKs k) (zln k) 112 v 112 M = some (zsI (zsI M 112 9 v) 112 8 (nI (min 20 (l + 1)))) := fun v => by
      unfold f_X7_remembers_77
      rw [zgK (k112 k), zlS, zgK (k112 k), show zI (zsI M 112 9 v) 112 8 = nI l from by rw [zI_sI, if_neg (by omega)]; exact h8]
      by_cases q : l = 20
      · subst q
        rw [if_pos (show (20 : Int32) ≤ nI 20 by decide +kernel)]
        unfold f_X7_remembers_99
        rw [zgK (k112 k), zlS]
        rfl
      · rw [if_neg (show ¬ (20 : Int32) ≤ nI l from nI_ge (b := 20) (by omega) (by decide))]
        unfold f_X7_remembers_99
        rw [zgK (k112 k), zlS, show nI l + (1 : Int32) = nI (l + 1) from nI_1 l, show min 20 (l + 1) = l + 1 by omega]
    refine ⟨zsI (zsI M 112 9 (nI (if l = 20 then (fs + 1) % 20 else fs))) 112 8 (nI (min 20 (l + 1))), ?_, rfl, rfl, rfl, by rw [zI_sI, if_pos ⟨rfl, rfl⟩], by rw [zI_sI, if_neg (by decide), zI_sI, if_pos ⟨rfl, rfl⟩], fun f q1 q2 => by omega, fun b i q1 q2 => by rw [zI_sI, if_neg (by omega), zI_sI, if_neg (by omega)]⟩
    rw [f_X7_remembers_22, if_pos (show (28 : Int32) ≤ nI x from nI_le (a := 28) (by omega) (by omega)), zgK (k112 k), h8, h9, show nI fs + (1 : Int32) = nI (fs + 1) from nI_1 fs, show (20 : Int32) = nI 20 from rfl, pk_rem (by omega) (by decide) (by decide)]
    by_cases q : l = 20
    · rw [if_pos (show nI 20 ≤ nI l from nI_le (by omega) (by omega)), h77, if_pos q]
    · rw [if_neg (show ¬ nI 20 ≤ nI l from nI_ge (by omega) (by decide)), h77, if_neg q]
  | d + 1, f + 1, x, M, hd, hf, hR, h8, h9 => by
    obtain ⟨M', e, r, J, D, a8, a9, aw, ao⟩ := q_rem22 hN hat hl hfs d f (x + 1) (zsI M 120 (28 * at' + x) (zI M 117 x)) (by omega) (by omega) hR (by rw [zI_sI, if_neg (by omega)]; exact h8) (by rw [zI_sI, if_neg (by omega)]; exact h9)
    refine ⟨M', ?_, r, J, D, a8, a9, fun g q1 q2 => ?_, fun b i q1 q2 => ?_⟩
    · rw [f_X7_remembers_22, if_neg (show ¬ (28 : Int32) ≤ nI x from nI_ge (b := 28) (by omega) (by omega)), zgK (k112 k), zbindS (hR.at 112 11 120 (zrm 29 rfl)), zbindS (hR.at 112 5 117 (zrm 26 rfl)), zgok (k117 k) (l117 k) (show x < 28 by omega) (by decide), show (28 : Int32) * nI at' + nI x = nI (28 * at' + x) from by rw [show (28 : Int32) = nI 28 from rfl, nI_mul, nI_add], zgok (k120 k) (l120 k) (show 28 * at' + x < 560 by omega) (by decide), zlS, nI_clamp (show 28 * at' + x < 2 ^ 31 by omega), nI_clamp (show x < 2 ^ 31 by omega), nI_1]
      exact e
    · by_cases z : g = x
      · subst z
        rw [ao _ _ (by omega) (by omega), zI_sI, if_pos ⟨rfl, rfl⟩]
      · rw [aw g (by omega) q2, zI_sI, if_neg (by omega)]
    · rw [ao b i q1 (by omega), zI_sI, if_neg (by omega)]
theorem q_remembers (hN : 10000000 ≤ N) (hR : zRf sw k (zR M)) {l fs : Nat} (hl : l ≤ 20) (hfs : fs < 20) (h8 : zI M 112 8 = nI l) (h9 : zI M 112 9 = nI fs) (x : Int32) : ∃ M', f_X7_remembers N (zKs k) (zln k) 112 x M = some M' ∧ zR M' = zR M ∧ zJ M' = zJ M ∧ zD M' = zD M ∧ zI M' 112 8 = nI (min 20 (l + 1)) ∧ zI M' 112 9 = nI (if l = 20 then (fs + 1) % 20 else fs) ∧ zI M' 119 ((fs + l) % 20) = x ∧ (∀ f, f < 28 → zI M' 120 (28 * ((fs + l) % 20) + f) = zI M 117 f) ∧ (∀ b i, ¬ (b = 112 ∧ (i = 8 ∨ i = 9)) → ¬ (b = 119 ∧ i = (fs + l) % 20) → ¬ (b = 120 ∧ 28 * ((fs + l) % 20) ≤ i ∧ i < 28 * ((fs + l) % 20) + 28) → zI M' b i = zI M b i) := by
  have hat : (fs + l) % 20 < 20 := Nat.mod_lt _ (by decide)
  generalize ea : (fs + l) % 20 = at' at hat ⊢
  obtain ⟨M', e, r, J, D, a8, a9, aw, ao⟩ := q_rem22 (N := N) (k := k) (sw := sw) hN hat hl hfs 28 N 0 (zsI M 119 at' x) (by omega) (by omega) hR (by rw [zI_sI, if_neg (by omega)]; exact h8) (by rw [zI_sI, if_neg (by omega)]; exact h9)
  refine ⟨M', ?_, r, J, D, a8, a9, ?_, fun f hf => ?_, fun b i q1 q2 q3 => ?_⟩
  · unfold f_X7_remembers f_X7_remembers_0
    rw [zgK (k112 k), zbindS (hR.at 112 10 119 (zrm 28 rfl)), h8, h9, nI_add, show (20 : Int32) = nI 20 from rfl, pk_rem (by omega) (by decide) (by decide), ea, zgok (k119 k) (l119 k) hat (by decide), zlS, nI_clamp (by omega)]
    exact e
  · rw [ao _ _ (by omega) (by omega), zI_sI, if_pos ⟨rfl, rfl⟩]
  · rw [aw f (by omega) hf, zI_sI, if_neg (by omega)]
  · rw [ao b i q1 (by omega), zI_sI, if_neg q2]
end KE
theorem zlk_take : ∀ (m : Nat) (wt sm : Nat → Int) (st : Nat) (H : List zE), zlk wt sm st H → zlk wt sm st (H.take m)
  | 0, _, _, _, _, _ => trivial
  | m + 1, _, _, _, [], _ => trivial
  | m + 1, wt, sm, st, e :: H, h => ⟨h.1, h.2.1, zlk_take m e.1 e.2.1 e.2.2.1 H h.2.2⟩
theorem zget19 {e : zE} {H : List zE} {i : Nat} {x : zE} (h : (e :: H.take 19)[i]? = some x) : (i = 0 ∧ x = e) ∨ ∃ i', i = i' + 1 ∧ i' < 19 ∧ H[i']? = some x := by
  cases i with
  | zero => exact Or.inl ⟨rfl, (Option.some.inj h).symm⟩
  | succ i =>
    have h : (H.take 19)[i]? = some x := h
    rw [List.getElem?_take] at h
    by_cases q : i < 19
    · rw [if_pos q] at h
      exact Or.inr ⟨i, rfl, q, h⟩
    · rw [if_neg q] at h; cases h
theorem zlen19 (e : zE) (H : List zE) : (e :: H.take 19).length = min 20 (H.length + 1) := by
  show (H.take 19).length + 1 = _
  rw [List.length_take]
  omega
section HI
variable {wt sm : Nat → Int} {st : Nat} {H : List zE} {nx fs : Nat} {I I' : Nat → Nat → Int32} {J J' : Nat → Nat → Int64}
/-- the class has kept what was; then come new weights -/
theorem zW1_keep {wt' sm' : Nat → Int} {st' : Nat} {b : Bool} (h : zW1 wt sm st H nx I J) (e1 : I' 2 6 = nI (min 20 (H.length + 1))) (e2 : I' 2 7 = nI ((nx + 1) % 20)) (e3 : I' 47 nx = I 2 2) (e4 : ∀ f, f < 28 → I' (6 + nx) f = I 3 f ∧ J' (27 + nx) f = J 4 f) (e5 : ∀ b i, 6 ≤ b → b < 48 → b ≠ 6 + nx → ¬ (b = 47 ∧ i = nx) → I' b i = I b i) (e6 : ∀ b i, 27 ≤ b → b < 47 → b ≠ 27 + nx → J' b i = J b i) (e7 : ∀ f, f < 28 → I' 3 f = iI (wt' f) ∧ J' 4 f = lI (sm' f)) (e8 : I' 2 2 = nI st') : zW1 wt' sm' st' ((wt, sm, st, b) :: H.take 19) ((nx + 1) % 20) I' J' := by
  obtain ⟨h1, h2, h3, h4, h5, h6⟩ := h
  refine ⟨e7, e8, by rw [zlen19]; exact e1, e2, Nat.mod_lt _ (by decide), fun i x hx => ?_⟩
  rcases zget19 hx with ⟨rfl, rfl⟩ | ⟨i, rfl, hi, hH⟩
  · have ep : zrp ((nx + 1) % 20) 0 = nx := by unfold zrp; omega
    rw [ep]
    exact ⟨fun f hf => ⟨(e4 f hf).1.trans (h1 f hf).1, (e4 f hf).2.trans (h1 f hf).2⟩, e3.trans h2⟩
  · have ep : zrp ((nx + 1) % 20) (i + 1) = zrp nx i := by unfold zrp; omega
    have en : zrp nx i ≠ nx := by unfold zrp; omega
    have hl := zrp_lt nx i
    rw [ep]
    obtain ⟨q1, q2⟩ := h6 i x hH
    exact ⟨fun f hf => ⟨(e5 _ _ (by omega) (by omega) (by omega) (by omega)).trans (q1 f hf).1, (e6 _ _ (by omega) (by omega) (by omega)).trans (q1 f hf).2⟩, (e5 _ _ (by omega) (by omega) (by omega) (by omega)).trans q2⟩
theorem zW2_keep {wt' sm' : Nat → Int} {st' : Nat} {b : Bool} (hl : H.length ≤ 20) (h : zW2 wt sm st H fs I J) (e1 : I' 112 8 = nI (min 20 (H.length + 1))) (e2 : I' 112 9 = nI (if H.length = 20 then (fs + 1) % 20 else fs)) (e3 : I' 119 ((fs + H.length) % 20) = -1 ↔ b = true) (e4 : ∀ f, f < 28 → I' 120 (28 * ((fs + H.length) % 20) + f) = I 117 f) (e5 : ∀ i, i ≠ (fs + H.length) % 20 → I' 119 i = I 119 i) (e6 : ∀ i, ¬ (28 * ((fs + H.length) % 20) ≤ i ∧ i < 28 * ((fs + H.length) % 20) + 28) → I' 120 i = I 120 i) (e7 : ∀ f, f < 28 → I' 117 f = iI (wt' f) ∧ J' 118 f = lI (sm' f)) (e8 : I' 112 7 = nI st') : zW2 wt' sm' st' ((wt, sm, st, b) :: H.take 19) (if H.length = 20 then (fs + 1) % 20 else fs) I' J' := by
  obtain ⟨h1, h2, h3, h4, h5, h6⟩ := h
  refine ⟨e7, e8, by rw [zlen19]; exact e1, e2, by split <;> omega, fun i x hx => ?_⟩
  have hil : i < ((wt, sm, st, b) :: H.take 19).length := (List.getElem?_eq_some_iff.mp hx).1
  rw [zlen19] at hil ⊢
  rcases zget19 hx with ⟨rfl, rfl⟩ | ⟨i, rfl, hi, hH⟩
  · have ep : zrq (if H.length = 20 then (fs + 1) % 20 else fs) (min 20 (H.length + 1)) 0 = (fs + H.length) % 20 := by
      unfold zrq
      split <;> omega
    rw [ep]
    exact ⟨e3, fun f hf => (e4 f hf).trans (h1 f hf).1⟩
  · have hiH : i < H.length := (List.getElem?_eq_some_iff.mp hH).1
    have ep : zrq (if H.length = 20 then (fs + 1) % 20 else fs) (min 20 (H.length + 1)) (i + 1) = zrq fs H.length i := by
      unfold zrq
      split <;> omega
    have en : zrq fs H.length i ≠ (fs + H.length) % 20 := by unfold zrq; omega
    rw [ep]
    obtain ⟨q1, q2⟩ := h6 i x hH
    exact ⟨by rw [e5 _ en]; exact q1, fun f hf => (e6 _ (by omega)).trans (q2 f hf)⟩
end HI
section SW
variable {N j k : Nat} {M : ZM}
theorem zA1_c {n : Nat → Nat} {kd : Nat → Nat → Nat} {mk : Nat → Nat → Nat → Int32} {rh : Nat → Nat → Int32} {I I' : Nat → Nat → Int32} (e : ∀ a i, (a = 0 ∨ 128 ≤ a) → I' a i = I a i) (h : zA1 k n kd mk rh I) : zA1 k n kd mk rh I' := ⟨(e 0 1 (by omega)).trans h.1, fun s hs => ⟨zSen_congr (fun a i ha => e a i (by omega)) (h.2 s hs).1, fun w hw => (e _ _ (by omega)).trans ((h.2 s hs).2 w hw)⟩⟩
theorem zA2_c {n : Nat → Nat} {kd : Nat → Nat → Nat} {mk : Nat → Nat → Nat → Int32} {rh : Nat → Nat → Int32} {I I' : Nat → Nat → Int32} (e : ∀ a i, (a = 112 ∧ i = 0) ∨ (113 ≤ a ∧ a ≤ 116) → I' a i = I a i) (h : zA2 k n kd mk rh I) : zA2 k n kd mk rh I' := ⟨(e _ _ (by omega)).trans h.1, fun s hs => ⟨zSenM_congr (fun a i ha => e a i (by omega)) (h.2.1 s hs).1, fun w h1 h2 => (e _ _ (by omega)).trans ((h.2.1 s hs).2 w h1 h2)⟩, fun s h1 h2 => ⟨(e _ _ (by omega)).trans (h.2.2 s h1 h2).1, fun i hi => (e _ _ (by omega)).trans ((h.2.2 s h1 h2).2 i hi)⟩⟩
theorem c_setWeight (hN : 10000000 ≤ N) (p1 p2 : Int32) (h : zInv j k M) : zC5 N (zInv (j + 1)) k M p1 p2 := by
  obtain ⟨sw, n, kd, mk, rh, wt, sm, st, H, nx, fs, h, hc⟩ := h
  have q15 : ∀ p, f_X7_setWeight_15 N (zKs k) (zln k) 112 p p2 112 M = some (0, zsI M 112 19 1) := fun p => by
    unfold f_X7_setWeight_15 f_X7_setWeight_16
    rw [zbpS q_asks0, zgK (k112 k), if_pos rfl]
  rcases zixF p1 with hp | ⟨f, hf, rfl⟩
  · refine zfin_thr (fX := fun M => f_X7_setWeight N (zKs k) (zln k) 112 p1 p2 M) h hc i1_ne0 (L_setWeight_1 ?_) ?_
    · unfold f_X6_setWeight f_X6_setWeight_0
      rw [zbindS (s_feat_no N hp), zxL]
    · show f_X7_setWeight N (zKs k) (zln k) 112 p1 p2 M = _
      unfold f_X7_setWeight f_X7_setWeight_0
      by_cases q : p1 < 0
      · rw [if_pos q, q15]
      · rw [if_neg q, if_pos (hp.resolve_left q), q15]
  · have hpre : ∀ M1 : ZM, f_X7_setWeight N (zKs k) (zln k) 112 (nI f) p2 M1 = f_X7_setWeight_16 N (zKs k) (zln k) 112 (nI f) p2 1 112 M1 := fun M1 => by
      unfold f_X7_setWeight f_X7_setWeight_0
      rw [if_neg (nI_pos (by omega)), if_neg (show ¬ (28 : Int32) ≤ nI f from nI_ge (b := 28) hf (by omega))]
    by_cases hbad : p2 < (-100 : Int32) ∨ ¬ p2 ≤ (100 : Int32)
    · refine zfin_thr (fX := fun M => f_X7_setWeight N (zKs k) (zln k) 112 (nI f) p2 M) h hc i2_ne0 (L_setWeight_2 ?_) ?_
      · unfold f_X6_setWeight f_X6_setWeight_0
        rw [zbindS (s_feat_ok N hf), zxR]
        by_cases q : p2 < (-100 : Int32)
        · rw [if_pos q]; rfl
        · rw [if_neg q, if_neg (hbad.resolve_left q)]; rfl
      · show f_X7_setWeight N (zKs k) (zln k) 112 (nI f) p2 M = _
        have q36 : f_X7_setWeight_36 N (zKs k) (zln k) 112 (zsI M 112 19 0) = some (0, zsI M 112 19 2) := by
          unfold f_X7_setWeight_36
          rw [zbpS (q_fails 2), zgK (k112 k), zsI_thr]
        rw [hpre]
        unfold f_X7_setWeight_16
        rw [zbpS q_asks1, zgK (k112 k), if_neg one_ne0]
        by_cases q : p2 < (-100 : Int32)
        · rw [if_pos q, q36]
        · rw [if_neg q, if_neg (hbad.resolve_left q), q36]
    · -- a weight in range
      have hlo : ¬ p2 < (-100 : Int32) := fun q => hbad (Or.inl q)
      have hhi : p2 ≤ (100 : Int32) := Decidable.byContradiction fun q => hbad (Or.inr q)
      have hz : -100 ≤ p2.toInt ∧ p2.toInt ≤ 100 := by
        rw [Int32.lt_iff_toInt_lt, show (-100 : Int32).toInt = -100 by decide] at hlo
        rw [Int32.le_iff_toInt_le, show (100 : Int32).toInt = 100 by decide] at hhi
        omega
      have ep : p2 = iI p2.toInt := (Int32.ofInt_toInt p2).symm
      have hW1 := h.2.2.2.2.1
      have hW2 := h.2.2.2.2.2.1
      have hW3 := h.2.2.2.2.2.2
      obtain ⟨M14, e14, r14, d14, a6, a7, a47, aw, aj, ao, ajo⟩ := s_keep (N := N) (st := st) h.1 hW1.2.2.2.2.1 hW3.1 hW1.2.2.2.1 hW1.2.2.1
      have hnx := hW1.2.2.2.2.1
      obtain ⟨Mc, eMc⟩ : ∃ Mc, Mc = zsI M14 3 f p2 := ⟨_, rfl⟩
      obtain ⟨M1, eM1⟩ : ∃ M1, M1 = zsJ Mc 126 0 (iI (wt f)).toInt64 := ⟨_, rfl⟩
      have hR14 : zRf sw k (zR M14) := by rw [r14]; exact h.1
      have hR1 : zRf sw k (zR M1) := by rw [eM1, eMc]; exact hR14
      have hIm : ∀ b i, 112 ≤ b → zI M1 b i = zI M b i := fun b i hb => by rw [eM1, zI_sJ, eMc, zI_sI, if_neg (by omega)]; exact ao b i (by omega) (by omega) (by omega)
      obtain ⟨M10, e10, r10, j10, d10, b8, b9, b119, b120, bo⟩ := q_remembers (N := N) (M := zsI M1 112 19 0) hN hR1 (l := H.length) (fs := fs) hW3.1 hW2.2.2.2.2.1 (by rw [zI_sI, if_neg (by omega), hIm _ _ (by omega)]; exact hW2.2.2.1) (by rw [zI_sI, if_neg (by omega), hIm _ _ (by omega)]; exact hW2.2.2.2.1) (nI f)
      have hat : (fs + H.length) % 20 < 20 := Nat.mod_lt _ (by decide)
      have hR10 : zRf sw k (zR M10) := by rw [r10]; exact hR1
      obtain ⟨M3, eM3⟩ : ∃ M3, M3 = zsI M10 117 f p2 := ⟨_, rfl⟩
      have hR3 : zRf sw k (zR M3) := by rw [eM3]; exact hR10
      obtain ⟨M2, e2, r2, j2, d2, i2, l2, f2⟩ := q_changed (N := N) (M := M3) hN hR3
      -- what the memory holds then
      have hJ2 : ∀ b i, b ≠ 126 → zJ M2 b i = zJ M14 b i := fun b i q => by rw [j2, eM3, zJ_sI, j10, zJ_sI, eM1, zJ_sJ, if_neg (fun z => q z.1), eMc, zJ_sI]
      have hIc : ∀ b i, (b < 112 ∨ 128 ≤ b) → zI M2 b i = if b = 3 ∧ i = f then p2 else zI M14 b i := fun b i q => by rw [i2 _ _ (by omega) (by omega), eM3, zI_sI, if_neg (by omega), bo _ _ (by omega) (by omega) (by omega), zI_sI, if_neg (by omega), eM1, zI_sJ, eMc, zI_sI]
      have hIm2 : ∀ b i, 112 ≤ b → ¬ (b = 117 ∧ i = f) → ¬ (b = 112 ∧ i = 13) → b ≠ 124 → zI M2 b i = zI M10 b i := fun b i q1 q2 q3 q4 => by rw [i2 _ _ q3 q4, eM3, zI_sI, if_neg q2]
      have hIm3 : ∀ b i, 112 ≤ b → ¬ (b = 112 ∧ (i = 8 ∨ i = 9 ∨ i = 19)) → b ≠ 119 → b ≠ 120 → zI M10 b i = zI M b i := fun b i q1 q2 q3 q4 => by rw [bo _ _ (by omega) (by omega) (by omega), zI_sI, if_neg (by omega)]; exact hIm b i q1
      refine zfin_u (fX := fun M => f_X7_setWeight N (zKs k) (zln k) 112 (nI f) p2 M) (v := iI (wt f)) (Mc := Mc) (M2 := M2) (L_setWeight_ok ?_) ?_ ?_ ?_ ⟨sw, n, kd, mk, rh, zuf wt f p2.toInt, sm, st, (wt, sm, st, false) :: H.take 19, (nx + 1) % 20, (if H.length = 20 then (fs + 1) % 20 else fs), ⟨by rw [r2]; exact hR3, ?_, ?_, h.2.2.2.1, ?_, ?_, ?_⟩, zChk_new l2 f2⟩
      · unfold f_X6_setWeight f_X6_setWeight_0
        rw [zbindS (s_feat_ok N hf), zxR, if_neg hlo, if_pos hhi, zgK (k0 k), zbindS (h.1.at 0 2 2 (zrm 1 rfl)), zbindS (s_get h.1 hf), zgK (k2 k), zbindS e14, r14, zbindS (h.1.at 0 2 2 (zrm 1 rfl)), zbindS (s_put hR14 hf p2), zgK (k2 k), ← eMc, (hW1.1 f hf).1]
      · show f_X7_setWeight N (zKs k) (zln k) 112 (nI f) p2 (zsJ Mc 126 0 (iI (wt f)).toInt64) = _
        rw [← eM1, hpre]
        unfold f_X7_setWeight_16
        rw [zbpS q_asks1, zgK (k112 k), if_neg one_ne0, if_neg hlo, if_pos hhi, zbindS e10, zgK (k112 k), zbindS (hR10.at 112 5 117 (zrm 26 rfl)), zgok (k117 k) (l117 k) hf (by decide), zlS, nI_clamp (by omega), ← eM3, zbindS e2, hIm3 _ _ (by omega) (by omega) (by omega) (by omega), (hW2.1 f hf).1]
      · rw [i2 _ _ (by decide) (by decide), eM3, zI_sI, if_neg (by omega), bo _ _ (by decide) (by omega) (by omega), zI_sI, if_pos ⟨rfl, rfl⟩]
      · rw [j2, eM3, zJ_sI, j10, zJ_sI, eM1, zJ_sJ, if_pos ⟨rfl, rfl⟩]
      · exact zA1_c (fun b i q => by rw [hIc b i (by omega), if_neg (by omega)]; exact ao b i (by omega) (by omega) (by omega)) h.2.1
      · exact zA2_c (fun b i q => (hIm2 b i (by omega) (by omega) (by omega) (by omega)).trans (hIm3 b i (by omega) (by omega) (by omega) (by omega))) h.2.2.1
      · refine zW1_keep hW1 (by rw [hIc _ _ (by omega), if_neg (by omega)]; exact a6) (by rw [hIc _ _ (by omega), if_neg (by omega)]; exact a7) (by rw [hIc _ _ (by omega), if_neg (by omega)]; exact a47) (fun g hg => ⟨by rw [hIc _ _ (by omega), if_neg (by omega)]; exact aw g hg, by rw [hJ2 _ _ (by omega)]; exact aj g hg⟩) (fun b i q1 q2 q3 q4 => by rw [hIc _ _ (by omega), if_neg (by omega)]; exact ao b i (by omega) q4 q3) (fun b i q1 q2 q3 => by rw [hJ2 _ _ (by omega)]; exact ajo b i q3) (fun g hg => ⟨?_, by rw [hJ2 _ _ (by omega), ajo _ _ (by omega)]; exact (hW1.1 g hg).2⟩) (by rw [hIc _ _ (by omega), if_neg (by omega), ao _ _ (by omega) (by omega) (by omega)]; exact hW1.2.1)
        rw [hIc _ _ (by omega)]
        by_cases q : g = f
        · rw [if_pos ⟨rfl, q⟩, q, zuf_s]; exact ep
        · rw [if_neg (fun z => q z.2), zuf_o _ _ q, ao _ _ (by omega) (by omega) (by omega)]; exact (hW1.1 g hg).1
      · refine zW2_keep hW3.1 hW2 ((hIm2 _ _ (by omega) (by omega) (by omega) (by omega)).trans b8) ((hIm2 _ _ (by omega) (by omega) (by omega) (by omega)).trans b9) ?_ (fun g hg => ?_) (fun i q => ?_) (fun i q => ?_) (fun g hg => ⟨?_, ?_⟩) ?_
        · rw [hIm2 _ _ (by omega) (by omega) (by omega) (by omega), b119]
          exact ⟨fun q => absurd q (nI_nem1 (by omega)), fun q => by cases q⟩
        · rw [hIm2 _ _ (by omega) (by omega) (by omega) (by omega), b120 g hg, zI_sI, if_neg (by omega)]; exact hIm _ _ (by omega)
        · rw [hIm2 _ _ (by omega) (by omega) (by omega) (by omega), bo _ _ (by omega) (by omega) (by omega), zI_sI, if_neg (by omega)]; exact hIm _ _ (by omega)
        · rw [hIm2 _ _ (by omega) (by omega) (by omega) (by omega), bo _ _ (by omega) (by omega) (by omega), zI_sI, if_neg (by omega)]; exact hIm _ _ (by omega)
        · by_cases q : g = f
          · rw [q, zuf_s, i2 _ _ (by omega) (by omega), eM3, zI_sI, if_pos ⟨rfl, rfl⟩]; exact ep
          · rw [zuf_o _ _ q, hIm2 _ _ (by omega) (by omega) (by omega) (by omega), hIm3 _ _ (by omega) (by omega) (by omega) (by omega)]; exact (hW2.1 g hg).1
        · rw [hJ2 _ _ (by omega), ajo _ _ (by omega)]; exact (hW2.1 g hg).2
        · rw [hIm2 _ _ (by omega) (by omega) (by omega) (by omega), hIm3 _ _ (by omega) (by omega) (by omega) (by omega)]; exact hW2.2.1
      · obtain ⟨w1, w2, w3, w4, w5⟩ := hW3
        refine ⟨by rw [zlen19]; omega, ⟨fun g hg => by show sm g = sm g + (if false = true then _ else 0); rw [if_neg (by decide)]; omega, rfl, zlk_take 19 wt sm st H w2⟩, by omega, fun g hg => ?_, fun x hx => ?_⟩
        · by_cases q : g = f
          · rw [q, zuf_s]; omega
          · rw [zuf_o _ _ q]
            have := w4 g hg
            omega
        · rcases List.mem_cons.mp hx with q | q
          · rw [q]
            exact ⟨by show st ≤ j + 1; omega, fun g hg => by
              have := w4 g hg
              show -(100 + 6 * ((j + 1 : Nat) : Int)) ≤ wt g ∧ wt g ≤ 100 + 6 * ((j + 1 : Nat) : Int)
              omega⟩
          · have h5 := w5 x (List.mem_of_mem_take q)
            exact ⟨by omega, fun g hg => by have := h5.2 g hg; omega⟩
end SW
