/-! THE INVARIANT AT THE START, AND EVERY CALL. -/
/-- all is 0, and the references are below 128 -/
def zP0 (M : ZM) : Prop := (∀ a i, zI M a i = if a = 112 ∧ i = 13 then zI M 112 13 else 0) ∧ (∀ a i, zJ M a i = 0) ∧ ∀ a i r, zR M a i = some r → r < 128
theorem zP0_z : zP0 zMz := ⟨fun a i => by show (0 : Int32) = if _ then (0 : Int32) else 0; split <;> rfl, fun _ _ => rfl, fun _ _ _ h => by cases h⟩
theorem zP0_clr {M : ZM} (h : zP0 M) (r : Nat) (hr : r ≠ 112) : zP0 (zclr M r) := by
  refine ⟨fun a i => ?_, fun a i => ?_, fun a i x => ?_⟩
  · rw [zI_clr, zI_clr, if_neg (show ¬ 112 = r by omega)]
    by_cases e : a = r
    · rw [if_pos e, if_neg (by omega)]
    · rw [if_neg e]; exact h.1 a i
  · rw [zJ_clr]; split
    · rfl
    · exact h.2.1 a i
  · rw [zR_clr]; split
    · intro q; cases q
    · exact h.2.2 a i x
theorem zP0_clrz {M : ZM} (h : zP0 M) (r : Nat) (h0 : zI M 112 13 = 0) : zP0 (zclr M r) := by
  refine ⟨fun a i => ?_, fun a i => ?_, fun a i x => ?_⟩
  · rw [zI_clr, zI_clr, h.1 a i, h0]
    by_cases e : a = r
    · rw [if_pos e]; split
      · split <;> rfl
      · rfl
    · rw [if_neg e]; split
      · split <;> rfl
      · rfl
  · rw [zJ_clr]; split
    · rfl
    · exact h.2.1 a i
  · rw [zR_clr]; split
    · intro q; cases q
    · exact h.2.2 a i x
theorem zP0_clm {M : ZM} (h : zP0 M) (r n : Nat) (hr : r + n < 112) : zP0 (zclm M r n) := by
  refine ⟨fun a i => ?_, fun a i => ?_, fun a i x => ?_⟩
  · rw [zI_clm, zI_clm, if_neg (show ¬ (r ≤ 112 ∧ 112 ≤ r + n) by omega)]
    by_cases e : r ≤ a ∧ a ≤ r + n
    · rw [if_pos e, if_neg (by omega)]
    · rw [if_neg e]; exact h.1 a i
  · rw [zJ_clm]; split
    · rfl
    · exact h.2.1 a i
  · rw [zR_clm]; split
    · split
      · intro q; cases q; omega
      · intro q; cases q
    · exact h.2.2 a i x
theorem zP0_sR {M : ZM} (h : zP0 M) (a i r : Nat) (hr : r < 128) : zP0 (zsR M a i (some r)) := by
  refine ⟨h.1, h.2.1, fun b j x => ?_⟩
  rw [zR_sR]; split
  · intro q; cases q; exact hr
  · exact h.2.2 b j x
theorem zP0_s0 {M : ZM} (h : zP0 M) (a i : Nat) (hn : ¬ (a = 112 ∧ i = 13)) : zP0 (zsI M a i 0) := by
  refine ⟨fun b j => ?_, h.2.1, h.2.2⟩
  rw [zI_sI, zI_sI, if_neg (show ¬ (112 = a ∧ 13 = i) by omega)]
  by_cases e : b = a ∧ j = i
  · rw [if_pos e, if_neg (by omega)]
  · rw [if_neg e]; exact h.1 b j
theorem zP0_s1 {M : ZM} (h : zP0 M) (v : Int32) : zP0 (zsI M 112 13 v) := by
  refine ⟨fun b j => ?_, h.2.1, h.2.2⟩
  rw [zI_sI, zI_sI, if_pos (show (112 : Nat) = 112 ∧ (13 : Nat) = 13 from ⟨rfl, rfl⟩)]
  by_cases e : b = 112 ∧ j = 13
  · rw [if_pos e, if_pos e]
  · rw [if_neg e, if_neg e, h.1 b j, if_neg e]
/-- no sentences yet -/
theorem zInv_0 {M : ZM} (hR : zRf false 0 (zR M)) (hI : ∀ a i, zI M a i = if a = 112 ∧ i = 13 then -1 else 0) (hJ : ∀ a i, zJ M a i = 0) : zInv 0 0 M := by
  have hI0 : ∀ a i, ¬ (a = 112 ∧ i = 13) → zI M a i = 0 := fun a i q => by rw [hI, if_neg q]
  refine ⟨false, fun _ => 0, fun _ _ => 0, fun _ _ _ => 0, fun _ _ => -1, fun _ => 0, fun _ => 0, 0, [], 0, 0, ⟨hR, ⟨hI0 _ _ (by decide), fun s hs => absurd hs (Nat.not_lt_zero _)⟩, ⟨hI0 _ _ (by decide), fun s hs => absurd hs (Nat.not_lt_zero _), fun s _ _ => ⟨hI0 _ _ (by omega), fun i _ => hI0 _ _ (by omega)⟩⟩, ⟨by decide, fun s hs => absurd hs (Nat.not_lt_zero _)⟩, ⟨fun f _ => ⟨hI0 _ _ (by omega), hJ _ _⟩, hI0 _ _ (by decide), hI0 _ _ (by decide), hI0 _ _ (by decide), by decide, fun i e q => by simp at q⟩, ⟨fun f _ => ⟨hI0 _ _ (by omega), hJ _ _⟩, hI0 _ _ (by decide), hI0 _ _ (by decide), hI0 _ _ (by decide), by decide, fun i e q => by simp at q⟩, by decide, trivial, Nat.le_refl _, fun _ _ => (show -(100 + 6 * (0 : Int)) ≤ 0 ∧ (0 : Int) ≤ 100 + 6 * (0 : Int) by decide), fun e he => by cases he⟩, fun s cr _ => Or.inl (hI0 _ _ (by omega)), Or.inl (by rw [hI]; rfl)⟩
set_option maxRecDepth 100000 in
set_option maxHeartbeats 4000000 in
theorem zgo_inv (N : Nat) : ∃ M1 M2, f_X6_init N (va_up (fun _ => 0) 0 7) (fun _ => 0) 0 (zclr zMz 0) = some M1 ∧ f_X7_init N (va_up (kA_X6_init (va_up (fun _ => 0) 0 7) 0) 112 8) (lA_X6_init (fun _ => 0) 0) 112 (zclr M1 112) = some M2 ∧ zI M2 112 13 = -1 ∧ zP0 M2 := by
  refine ⟨_, _, rfl, rfl, rfl, ?_⟩
  repeat (first | exact zP0_z | refine zP0_sR ?_ _ _ _ (by decide) | refine zP0_s0 ?_ _ _ (by decide) | refine zP0_clm ?_ _ _ (by decide) | refine zP0_clr ?_ _ (by decide) | refine zP0_s1 ?_ _ | refine zP0_clrz ?_ _ rfl)
set_option maxRecDepth 100000 in
set_option maxHeartbeats 4000000 in
theorem zgo_rf (N : Nat) : ∃ M1 M2, f_X6_init N (va_up (fun _ => 0) 0 7) (fun _ => 0) 0 (zclr zMz 0) = some M1 ∧ f_X7_init N (va_up (kA_X6_init (va_up (fun _ => 0) 0 7) 0) 112 8) (lA_X6_init (fun _ => 0) 0) 112 (zclr M1 112) = some M2 ∧ (∀ q ∈ zrows false, zR (zclr (zclr M2 126) 127) q.1 q.2.1 = some q.2.2) ∧ (∀ q ∈ ztabs, ∀ h, h < q.2.1 → zR (zclr (zclr M2 126) 127) q.1 h = some (q.2.2 + h)) ∧ ∀ s, zR (zclr (zclr M2 126) 127) 1 s = none := by
  refine ⟨_, _, rfl, rfl, ?_, ?_, fun s => rfl⟩
  · decide +kernel
  · decide +kernel
theorem go_inv (N : Nat) : zGo N zInv := by
  obtain ⟨M1, M2, e1, e2, h1, h2⟩ := zgo_inv N
  obtain ⟨M1', M2', e1', e2', h3, h4, h5⟩ := zgo_rf N
  cases e1.symm.trans e1'
  cases e2.symm.trans e2'
  have hp := zP0_clr (zP0_clr h2 126 (by decide)) 127 (by decide)
  refine ⟨M1, M2, e1, e2, zInv_0 ⟨h3, h4, fun s hs => absurd hs (Nat.not_lt_zero _), fun s _ => h5 s, fun a i r _ q => hp.2.2 a i r q⟩ (fun a i => ?_) hp.2.1⟩
  rw [hp.1 a i]
  show (if a = 112 ∧ i = 13 then zI M2 112 13 else 0) = _
  rw [h1]
theorem ok_inv {N : Nat} (hN : 10000000 ≤ N) : zOK N zInv := by
  intro j k M hj h
  have hj2 : j ≤ 512 := by omega
  have hk : k ≤ 5 ∧ ∀ a i r, a < 128 + 11 * k → zR M a i = some r → r < 128 + 11 * k := by
    obtain ⟨sw, n, kd, mk, rh, wt, sm, st, H, nx, fs, h1, -⟩ := h
    exact ⟨(zCo_k h1).2, h1.1.2.2.2.2⟩
  exact ⟨hk.1, hk.2, zInv_up h, c_addSentence hN h, fun p1 p2 => c_addWord hN p1 p2 h, c_sentences h, fun p1 => c_words p1 h, fun p1 p2 => c_kind p1 p2 h, fun p1 p2 => c_setWeight hN p1 p2 h, fun p1 => c_weight p1 h, fun p1 p2 p3 p4 => c_feature p1 p2 p3 p4 h, fun p1 p2 p3 => c_score hj2 p1 p2 p3 h, fun p1 p2 p3 p4 => c_mark hN p1 p2 p3 p4 h, fun p1 p2 => c_trees hN hj2 p1 p2 h, fun p1 p2 => c_best hN hj2 p1 p2 h, fun p1 p2 => c_bestByTrying hN hj2 p1 p2 h, fun p1 p2 p3 => c_head hN hj2 p1 p2 p3 h, fun p1 => c_crossings hN hj2 p1 h, fun p1 p2 p3 => c_ranked hN hj2 p1 p2 p3 h, fun p1 p2 p3 p4 => c_rankedHead hN hj2 p1 p2 p3 p4 h, fun p1 p2 p3 => c_correct p1 p2 p3 h, fun p1 => c_matched hN hj2 p1 h, fun p1 => c_mend hN hj p1 h, c_steps h, fun p1 => c_average hj2 p1 h, c_rollBack hN hj2 h⟩
