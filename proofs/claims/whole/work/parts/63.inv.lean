/-! WHAT HOLDS BETWEEN CALLS. -/
/-- an entry of the history: weights, sums, steps ahead of a change, and whether it was a mending -/
abbrev zE : Type := (Nat → Int) × (Nat → Int) × Nat × Bool
def zlk : (Nat → Int) → (Nat → Int) → Nat → List zE → Prop
  | _, _, _, [] => True
  | wt, sm, st, e :: t => (∀ f, f < 28 → sm f = e.2.1 f + (if e.2.2.2 = true then wt f else 0)) ∧ st = e.2.2.1 + (if e.2.2.2 = true then 1 else 0) ∧ zlk e.1 e.2.1 e.2.2.1 t
/-- the class's sentences -/
def zA1 (k : Nat) (n : Nat → Nat) (kd : Nat → Nat → Nat) (mk : Nat → Nat → Nat → Int32) (rh : Nat → Nat → Int32) (I : Nat → Nat → Int32) : Prop := I 0 1 = nI k ∧ ∀ s, s < k → zSen s (n s) (kd s) (mk s) I ∧ ∀ w, w < 7 → I (128 + 11 * s + 2) w = rh s w
/-- the model's -/
def zA2 (k : Nat) (n : Nat → Nat) (kd : Nat → Nat → Nat) (mk : Nat → Nat → Nat → Int32) (rh : Nat → Nat → Int32) (I : Nat → Nat → Int32) : Prop := I 112 0 = nI k ∧ (∀ s, s < k → zSenM s (n s) (kd s) (mk s) I ∧ ∀ w, 1 ≤ w → w ≤ n s → I 116 (7 * s + w) = rh s w) ∧ ∀ s, k ≤ s → s < 5 → I 113 s = 0 ∧ ∀ i, i < 49 → I 115 (49 * s + i) = 0
/-- right heads and marks beyond the words -/
def zA3 (k : Nat) (n : Nat → Nat) (mk : Nat → Nat → Nat → Int32) (rh : Nat → Nat → Int32) : Prop := k ≤ 5 ∧ ∀ s, s < k → (∀ w, w < 7 → rh s w = -1 ∨ (1 ≤ w ∧ w ≤ n s ∧ ∃ h, h ≤ n s ∧ rh s w = nI h)) ∧ ∀ h w, h < 7 → w < 7 → (n s < h ∨ n s < w) → mk s h w = 0
def zrp (nx i : Nat) : Nat := (nx + 19 - i) % 20
def zrq (fs l i : Nat) : Nat := (fs + l - 1 - i) % 20
/-- the class's weights and their ring -/
def zW1 (wt sm : Nat → Int) (st : Nat) (H : List zE) (nx : Nat) (I : Nat → Nat → Int32) (J : Nat → Nat → Int64) : Prop := (∀ f, f < 28 → I 3 f = iI (wt f) ∧ J 4 f = lI (sm f)) ∧ I 2 2 = nI st ∧ I 2 6 = nI H.length ∧ I 2 7 = nI nx ∧ nx < 20 ∧ ∀ i e, H[i]? = some e → (∀ f, f < 28 → I (6 + zrp nx i) f = iI (e.1 f) ∧ J (27 + zrp nx i) f = lI (e.2.1 f)) ∧ I 47 (zrp nx i) = nI e.2.2.1
/-- the model's -/
def zW2 (wt sm : Nat → Int) (st : Nat) (H : List zE) (fs : Nat) (I : Nat → Nat → Int32) (J : Nat → Nat → Int64) : Prop := (∀ f, f < 28 → I 117 f = iI (wt f) ∧ J 118 f = lI (sm f)) ∧ I 112 7 = nI st ∧ I 112 8 = nI H.length ∧ I 112 9 = nI fs ∧ fs < 20 ∧ ∀ i e, H[i]? = some e → (I 119 (zrq fs H.length i) = -1 ↔ e.2.2.2 = true) ∧ ∀ f, f < 28 → I 120 (28 * zrq fs H.length i + f) = iI (e.1 f)
/-- bounds, and the history's chain -/
def zW3 (j : Nat) (wt sm : Nat → Int) (st : Nat) (H : List zE) : Prop := H.length ≤ 20 ∧ zlk wt sm st H ∧ st ≤ j ∧ (∀ f, f < 28 → -(100 + 6 * (j : Int)) ≤ wt f ∧ wt f ≤ 100 + 6 * (j : Int)) ∧ ∀ e, e ∈ H → e.2.2.1 ≤ j ∧ ∀ f, f < 28 → -(100 + 6 * (j : Int)) ≤ e.1 f ∧ e.1 f ≤ 100 + 6 * (j : Int)
/-- all but the model's caches -/
def zCo (j k : Nat) (sw : Bool) (n : Nat → Nat) (kd : Nat → Nat → Nat) (mk : Nat → Nat → Nat → Int32) (rh : Nat → Nat → Int32) (wt sm : Nat → Int) (st : Nat) (H : List zE) (nx fs : Nat) (M : ZM) : Prop := zRf sw k (zR M) ∧ zA1 k n kd mk rh (zI M) ∧ zA2 k n kd mk rh (zI M) ∧ zA3 k n mk rh ∧ zW1 wt sm st H nx (zI M) (zJ M) ∧ zW2 wt sm st H fs (zI M) (zJ M) ∧ zW3 j wt sm st H
/-- the model's caches -/
def zChk (k : Nat) (n : Nat → Nat) (kd : Nat → Nat → Nat) (mk : Nat → Nat → Nat → Int32) (wt : Nat → Int) (M : ZM) : Prop := (∀ s cr, s < 5 → zI M 124 (zwh s cr) = 0 ∨ (s < k ∧ zFil s (n s) (kd s) (mk s) wt cr M)) ∧ (zI M 112 13 = -1 ∨ ∃ s cr, s < k ∧ zI M 112 13 = nI (zwh s cr) ∧ zSrt wt (kd s) (zT (n s) (zal (mk s) (n s)) cr) M)
def zInv (j k : Nat) (M : ZM) : Prop := ∃ sw n kd mk rh wt sm st H nx fs, zCo j k sw n kd mk rh wt sm st H nx fs M ∧ zChk k n kd mk wt M
def zvlI (a i : Nat) : Prop := (48 ≤ a ∧ a ≤ 111) ∨ (123 ≤ a ∧ a ≤ 125) ∨ (a = 112 ∧ (i = 13 ∨ i = 14 ∨ i = 19))
def zvlJ (a : Nat) : Prop := (48 ≤ a ∧ a ≤ 111) ∨ a = 121 ∨ a = 122 ∨ a = 126
/-- scratch and caches alone have changed -/
def zFr (k : Nat) (M M' : ZM) : Prop := (∃ sw, zRf sw k (zR M')) ∧ (∀ a i, ¬ zvlI a i → zI M' a i = zI M a i) ∧ ∀ a i, ¬ zvlJ a → zJ M' a i = zJ M a i
section IN
variable {j k : Nat} {sw : Bool} {n : Nat → Nat} {kd : Nat → Nat → Nat} {mk : Nat → Nat → Nat → Int32} {rh : Nat → Nat → Int32} {wt sm : Nat → Int} {st : Nat} {H : List zE} {nx fs : Nat} {M M' : ZM}
theorem zrp_lt (nx i : Nat) : zrp nx i < 20 := Nat.mod_lt _ (by decide)
theorem zrq_lt (fs l i : Nat) : zrq fs l i < 20 := Nat.mod_lt _ (by decide)
theorem zA1_congr {I I' : Nat → Nat → Int32} (e : ∀ a i, ¬ zvlI a i → I' a i = I a i) (h : zA1 k n kd mk rh I) : zA1 k n kd mk rh I' := by
  refine ⟨by rw [e _ _ (by unfold zvlI; omega)]; exact h.1, fun s hs => ⟨zSen_congr (fun a i ha => e a i (by unfold zvlI; omega)) (h.2 s hs).1, fun w hw => by rw [e _ _ (by unfold zvlI; omega)]; exact (h.2 s hs).2 w hw⟩⟩
theorem zA2_congr {I I' : Nat → Nat → Int32} (e : ∀ a i, ¬ zvlI a i → I' a i = I a i) (h : zA2 k n kd mk rh I) : zA2 k n kd mk rh I' := by
  refine ⟨by rw [e _ _ (by unfold zvlI; omega)]; exact h.1, fun s hs => ⟨zSenM_congr (fun a i ha => e a i (by unfold zvlI; omega)) (h.2.1 s hs).1, fun w h1 h2 => by rw [e _ _ (by unfold zvlI; omega)]; exact (h.2.1 s hs).2 w h1 h2⟩, fun s h1 h2 => ⟨by rw [e _ _ (by unfold zvlI; omega)]; exact (h.2.2 s h1 h2).1, fun i hi => by rw [e _ _ (by unfold zvlI; omega)]; exact (h.2.2 s h1 h2).2 i hi⟩⟩
theorem zW1_congr {I I' : Nat → Nat → Int32} {J J' : Nat → Nat → Int64} (e : ∀ a i, ¬ zvlI a i → I' a i = I a i) (g : ∀ a i, ¬ zvlJ a → J' a i = J a i) (h : zW1 wt sm st H nx I J) : zW1 wt sm st H nx I' J' := by
  obtain ⟨h1, h2, h3, h4, h5, h6⟩ := h
  refine ⟨fun f hf => ⟨by rw [e _ _ (by unfold zvlI; omega)]; exact (h1 f hf).1, by rw [g _ _ (by unfold zvlJ; omega)]; exact (h1 f hf).2⟩, by rw [e _ _ (by unfold zvlI; omega)]; exact h2, by rw [e _ _ (by unfold zvlI; omega)]; exact h3, by rw [e _ _ (by unfold zvlI; omega)]; exact h4, h5, fun i x hx => ?_⟩
  have hl := zrp_lt nx i
  obtain ⟨h7, h8⟩ := h6 i x hx
  exact ⟨fun f hf => ⟨by rw [e _ _ (by unfold zvlI; omega)]; exact (h7 f hf).1, by rw [g _ _ (by unfold zvlJ; omega)]; exact (h7 f hf).2⟩, by rw [e _ _ (by unfold zvlI; omega)]; exact h8⟩
theorem zW2_congr {I I' : Nat → Nat → Int32} {J J' : Nat → Nat → Int64} (e : ∀ a i, ¬ zvlI a i → I' a i = I a i) (g : ∀ a i, ¬ zvlJ a → J' a i = J a i) (h : zW2 wt sm st H fs I J) : zW2 wt sm st H fs I' J' := by
  obtain ⟨h1, h2, h3, h4, h5, h6⟩ := h
  refine ⟨fun f hf => ⟨by rw [e _ _ (by unfold zvlI; omega)]; exact (h1 f hf).1, by rw [g _ _ (by unfold zvlJ; omega)]; exact (h1 f hf).2⟩, by rw [e _ _ (by unfold zvlI; omega)]; exact h2, by rw [e _ _ (by unfold zvlI; omega)]; exact h3, by rw [e _ _ (by unfold zvlI; omega)]; exact h4, h5, fun i x hx => ?_⟩
  obtain ⟨h7, h8⟩ := h6 i x hx
  exact ⟨by rw [e _ _ (by unfold zvlI; omega)]; exact h7, fun f hf => by rw [e _ _ (by unfold zvlI; omega)]; exact h8 f hf⟩
theorem zCo_fr (h : zCo j k sw n kd mk rh wt sm st H nx fs M) (g : zFr k M M') : ∃ sw, zCo j k sw n kd mk rh wt sm st H nx fs M' := by
  obtain ⟨h1, h2, h3, h4, h5, h6, h7⟩ := h
  obtain ⟨⟨sw', g1⟩, g2, g3⟩ := g
  exact ⟨sw', g1, zA1_congr g2 h2, zA2_congr g2 h3, h4, zW1_congr g2 g3 h5, zW2_congr g2 g3 h6, h7⟩
theorem zCo_up (h : zCo j k sw n kd mk rh wt sm st H nx fs M) : zCo (j + 1) k sw n kd mk rh wt sm st H nx fs M := by
  obtain ⟨h1, h2, h3, h4, h5, h6, h7, h8, h9, h10, h11⟩ := h
  refine ⟨h1, h2, h3, h4, h5, h6, h7, h8, by omega, fun f hf => ?_, fun e he => ⟨by have := (h11 e he).1; omega, fun f hf => ?_⟩⟩
  · have := h10 f hf; omega
  · have := (h11 e he).2 f hf; omega
theorem zInv_up (h : zInv j k M) : zInv (j + 1) k M := by
  obtain ⟨sw, n, kd, mk, rh, wt, sm, st, H, nx, fs, h1, h2⟩ := h
  exact ⟨sw, n, kd, mk, rh, wt, sm, st, H, nx, fs, zCo_up h1, h2⟩
theorem zCo_wts (hj : j ≤ 512) (h : zCo j k sw n kd mk rh wt sm st H nx fs M) : zWts wt (zI M) ∧ zWtsM wt (zI M) := by
  obtain ⟨-, -, -, -, h5, h6, h7⟩ := h
  exact ⟨fun f hf => ⟨(h5.1 f hf).1, by have := h7.2.2.2.1 f hf; omega, by have := h7.2.2.2.1 f hf; omega⟩, fun f hf => ⟨(h6.1 f hf).1, by have := h7.2.2.2.1 f hf; omega, by have := h7.2.2.2.1 f hf; omega⟩⟩
theorem zCo_cl (hj : j ≤ 512) (h : zCo j k sw n kd mk rh wt sm st H nx fs M) {s : Nat} (hs : s < k) : zCl sw k s (n s) (kd s) (mk s) wt M := ⟨h.1, hs, (h.2.1.2 s hs).1, (zCo_wts hj h).1⟩
/-- what a call of the class may change that asks only -/
def zCf1 (k : Nat) (M M' : ZM) : Prop := (∃ sw, zRf sw k (zR M')) ∧ (∀ a i, (a < 48 ∨ 111 < a) → zI M' a i = zI M a i) ∧ ∀ a i, (a < 48 ∨ 111 < a) → a ≠ 126 → zJ M' a i = zJ M a i
theorem zCf1_scr (h : zScr k M M') : zCf1 k M M' := ⟨h.2.2.2, h.2.1, fun a i ha _ => h.2.2.1 a i ha⟩
theorem zCf1_out (h : zCf1 k M M') (v : Int64) : zCf1 k M (zsJ M' 126 0 v) := ⟨h.1, h.2.1, fun a i ha hn => by rw [zJ_sJ, if_neg (fun q => hn q.1)]; exact h.2.2 a i ha hn⟩
theorem zCf1_refl (h : zRf sw k (zR M)) : zCf1 k M M := ⟨⟨sw, h⟩, fun _ _ _ => rfl, fun _ _ _ _ => rfl⟩
theorem zCf1_fr (h : zCf1 k M M') : zFr k M M' := ⟨h.1, fun a i ha => h.2.1 a i (by unfold zvlI at ha; omega), fun a i ha => h.2.2 a i (by unfold zvlJ at ha; omega) (by unfold zvlJ at ha; omega)⟩
theorem zFil_congr {s m : Nat} {kd : Nat → Nat} {mk : Nat → Nat → Int32} {cr : Bool} (e1 : zI M' 124 (zwh s cr) = zI M 124 (zwh s cr)) (e2 : zI M' 123 (zwh s cr) = zI M 123 (zwh s cr)) (e3 : zJ M' 122 (zwh s cr) = zJ M 122 (zwh s cr)) (h : zFil s m kd mk wt cr M) : zFil s m kd mk wt cr M' := ⟨e1.trans h.1, e2.trans h.2.1, e3.trans h.2.2⟩
theorem zSrt_congr {kd : Nat → Nat} {T : List (List Nat)} (e : ∀ i, zJ M' 121 i = zJ M 121 i) (h : zSrt wt kd T M) : zSrt wt kd T M' := fun r hr => by
  obtain ⟨i, h1, h2, h3⟩ := h r hr
  exact ⟨i, h1, (e r).trans h2, h3⟩
theorem zChk_cf (h : zChk k n kd mk wt M) (g : zCf1 k M M') : zChk k n kd mk wt M' := by
  refine ⟨fun s cr hs => ?_, ?_⟩
  · rcases h.1 s cr hs with q | ⟨q1, q2⟩
    · exact Or.inl ((g.2.1 _ _ (by omega)).trans q)
    · exact Or.inr ⟨q1, zFil_congr (g.2.1 _ _ (by omega)) (g.2.1 _ _ (by omega)) (g.2.2 _ _ (by omega) (by omega)) q2⟩
  · rcases h.2 with q | ⟨s, cr, q1, q2, q3⟩
    · exact Or.inl ((g.2.1 _ _ (by omega)).trans q)
    · exact Or.inr ⟨s, cr, q1, (g.2.1 _ _ (by omega)).trans q2, zSrt_congr (fun i => g.2.2 _ _ (by omega) (by omega)) q3⟩
/-- what a call of the model may change that asks only -/
def zMf (M M' : ZM) : Prop := zR M' = zR M ∧ (∀ a i, ¬ (123 ≤ a ∧ a ≤ 125) → ¬ (a = 112 ∧ (i = 13 ∨ i = 14 ∨ i = 19)) → zI M' a i = zI M a i) ∧ (∀ a i, a ≠ 121 → a ≠ 122 → zJ M' a i = zJ M a i) ∧ zD M' = zD M
theorem zMf_refl (M : ZM) : zMf M M := ⟨rfl, fun _ _ _ _ => rfl, fun _ _ _ _ => rfl, rfl⟩
theorem zMf_trans {M1 : ZM} (h1 : zMf M M1) (h2 : zMf M1 M') : zMf M M' := ⟨h2.1.trans h1.1, fun a i q r => (h2.2.1 a i q r).trans (h1.2.1 a i q r), fun a i q r => (h2.2.2.1 a i q r).trans (h1.2.2.1 a i q r), h2.2.2.2.trans h1.2.2.2⟩
theorem zMf_thr (M : ZM) (v : Int32) : zMf M (zsI M 112 19 v) := ⟨rfl, fun a i _ q => by rw [zI_sI, if_neg (by omega)], fun _ _ _ _ => rfl, rfl⟩
theorem zMf_fr (h : zRf sw k (zR M)) (g : zMf M M') : zFr k M M' := ⟨⟨sw, by rw [g.1]; exact h⟩, fun a i ha => g.2.1 a i (by unfold zvlI at ha; omega) (by unfold zvlI at ha; omega), fun a i ha => g.2.2.1 a i (by unfold zvlJ at ha; omega) (by unfold zvlJ at ha; omega)⟩
theorem zCo_mf (h : zCo j k sw n kd mk rh wt sm st H nx fs M) (g : zMf M M') : zCo j k sw n kd mk rh wt sm st H nx fs M' := by
  have hf := zMf_fr h.1 g
  obtain ⟨h1, h2, h3, h4, h5, h6, h7⟩ := h
  exact ⟨by rw [g.1]; exact h1, zA1_congr hf.2.1 h2, zA2_congr hf.2.1 h3, h4, zW1_congr hf.2.1 hf.2.2 h5, zW2_congr hf.2.1 hf.2.2 h6, h7⟩
theorem zChk_thr (h : zChk k n kd mk wt M) (v : Int32) : zChk k n kd mk wt (zsI M 112 19 v) := by
  refine ⟨fun s cr hs => ?_, ?_⟩
  · rcases h.1 s cr hs with q | ⟨q1, q2⟩
    · exact Or.inl (by rw [zI_sI, if_neg (by omega)]; exact q)
    · exact Or.inr ⟨q1, zFil_congr (by rw [zI_sI, if_neg (by omega)]) (by rw [zI_sI, if_neg (by omega)]) rfl q2⟩
  · rcases h.2 with q | ⟨s, cr, q1, q2, q3⟩
    · exact Or.inl (by rw [zI_sI, if_neg (by omega)]; exact q)
    · exact Or.inr ⟨s, cr, q1, by rw [zI_sI, if_neg (by omega)]; exact q2, zSrt_congr (fun _ => rfl) q3⟩
theorem q_thrown {N : Nat} : f_X7_thrown N (zKs k) (zln k) 112 M = some (zI M 112 19) := by
  unfold f_X7_thrown f_X7_thrown_0
  rw [zgK (k112 k)]
/-- a call that only asks -/
theorem zfin_q {N : Nat} (h : zCo j k sw n kd mk rh wt sm st H nx fs M) (hc : zChk k n kd mk wt M) {fL : Option (Int32 × ZM)} {fX : ZM → Option (Int32 × ZM)} {k1 : Int32} {M1 : ZM} (e1 : fL = some (k1, M1)) (g1 : zCf1 k M M1) (hX : ∀ sw, zCo j k sw n kd mk rh wt sm st H nx fs M1 → zChk k n kd mk wt M1 → ∃ bv M2, fX M1 = some (bv, M2) ∧ zMf M1 M2 ∧ zChk k n kd mk wt M2 ∧ zI M2 112 19 = k1 ∧ (k1 = 0 → zJ M1 126 0 = bv.toInt64)) : ∃ k1 M1 bv M2, fL = some (k1, M1) ∧ fX M1 = some (bv, M2) ∧ f_X7_thrown N (zKs k) (zln k) 112 M2 = some k1 ∧ (k1 = 0 → zJ M2 126 0 = bv.toInt64) ∧ zInv (j + 1) k M2 := by
  obtain ⟨sw1, h1⟩ := zCo_fr h (zCf1_fr g1)
  obtain ⟨bv, M2, e2, g2, c2, t2, a2⟩ := hX sw1 h1 (zChk_cf hc g1)
  refine ⟨k1, M1, bv, M2, e1, e2, by rw [q_thrown, t2], fun h0 => ?_, sw1, n, kd, mk, rh, wt, sm, st, H, nx, fs, zCo_up (zCo_mf h1 g2), c2⟩
  rw [g2.2.2.1 126 0 (by decide) (by decide)]
  exact a2 h0
/-- two sentences' caches differ -/
theorem zwh_inj {s s' : Nat} {cr cr' : Bool} (h : zwh s cr = zwh s' cr') : s = s' ∧ cr = cr' := by
  unfold zwh at h
  cases cr <;> cases cr' <;> simp at h ⊢ <;> omega
end IN
