/-! the class: settle -/
theorem max0 {d : Nat} (hd : d < 20) : (if (0 : Int32) < nI d then nI d else (0 : Int32)) = nI d := by
  have h : ∀ d, d < 20 → (if (0 : Int32) < nI d then nI d else (0 : Int32)) = nI d := by decide +kernel
  exact h d hd
theorem settleStroke_ok {t : Nat} {S : Sg} {c : Cf} (hB : Bd t S c) {k g : Nat} (hk : k < cN c) (hg : g ≤ 20) {w0 i0 : Nat → Nat → Bool} (h6 : ∀ d, d < 20 → S.1 (t + 6) d = ps (w0 d)) (h7 : ∀ d, d < 20 → S.1 (t + 7) d = ps (i0 d)) : ∃ S', fX0_settleStroke t (nI k) (nI g) S = some ((), S') ∧ fr (t + 6) (t + 7) S S' ∧ ∀ d, d < 20 → S'.1 (t + 6) d = ps (fun j => w0 d j || (j == k && (decide (cD c k ≤ d) && decide (d < g)))) ∧ S'.1 (t + 7) d = ps (fun j => i0 d j || (j == k && (decide (cD c k ≤ d) && decide (g ≤ d)))) := by
  obtain ⟨h1, h2, h3⟩ := hB
  obtain ⟨k1, k2, -⟩ := h3 k hk
  obtain ⟨a, S', e1, hQ1, hQ2⟩ := lp_inv (B := bX0_settleStroke_17 t (nI g) (ps (fun i => i == k))) (fun i a S1 => a = nI i ∧ cD c k ≤ i ∧ fr (t + 6) (t + 7) S S1 ∧ (∀ d, d < 20 → d < i → S1.1 (t + 6) d = ps (fun j => w0 d j || (j == k && (decide (cD c k ≤ d) && decide (d < g)))) ∧ S1.1 (t + 7) d = ps (fun j => i0 d j || (j == k && (decide (cD c k ≤ d) && decide (g ≤ d))))) ∧ (∀ d, d < 20 → i ≤ d → S1.1 (t + 6) d = ps (w0 d) ∧ S1.1 (t + 7) d = ps (i0 d))) (fun a S1 => fr (t + 6) (t + 7) S S1 ∧ (∀ d, d < 20 → S1.1 (t + 6) d = ps (fun j => w0 d j || (j == k && (decide (cD c k ≤ d) && decide (d < g)))) ∧ S1.1 (t + 7) d = ps (fun j => i0 d j || (j == k && (decide (cD c k ≤ d) && decide (g ≤ d)))))) 20 (by
    rintro i a S1 hi ⟨rfl, hci, hf, hlo, hhi⟩
    by_cases hin : i < 20
    · refine Or.inl ⟨hin, ?_⟩
      obtain ⟨q6, q7⟩ := hhi i hin (Nat.le_refl _)
      · by_cases c1 : g ≤ i
        · refine ⟨nI (i + 1), sI S1 (t + 7) i (ps (fun j => i0 i j || (j == k))), fun rec => ?_, rfl, by omega, hf.I (by omega) (by omega), fun d hd hd2 => ?_, fun d hd hd2 => ?_⟩
          · simp (disch := omega) only [bX0_settleStroke_17, bd_some, gd_ix, lit_0, lit_1, lit_2, lit_3, lit_4, lit_5, lit_6, lit_7, lit_8, lit_9, lit_10, lit_15, lit_16, lit_19, lit_20, lit_31, lit_35, lit_36, lit_48, lit_49, lit_53, lit_55, lit_57, lit_59, lit_60, lit_63, lit_64, lit_97, lit_102, lit_110, lit_160, lit_255, nI_add, ns_sub, ns_div, ns_le, ns_lt, ns_eq, ns_cl, pk_mul, ne10, eq_self, ↓reduceIte, c1, q6, q7, ps_or, show ¬ 20 ≤ i from by omega]
          · rw [sI1, sI1, if_neg (by omega)]
            by_cases hdi : d = i
            · subst hdi
              rw [if_pos ⟨rfl, rfl⟩, q6]
              exact ⟨ps_cong (fun j hj => by simp [show ¬ d < g by omega]), ps_cong (fun j hj => by simp [hci, c1])⟩
            · rw [if_neg (by omega)]
              exact hlo d hd (by omega)
          · rw [sI1, sI1, if_neg (by omega), if_neg (by omega)]
            exact hhi d hd (by omega)
        · refine ⟨nI (i + 1), sI S1 (t + 6) i (ps (fun j => w0 i j || (j == k))), fun rec => ?_, rfl, by omega, hf.I (by omega) (by omega), fun d hd hd2 => ?_, fun d hd hd2 => ?_⟩
          · simp (disch := omega) only [bX0_settleStroke_17, bd_some, gd_ix, lit_0, lit_1, lit_2, lit_3, lit_4, lit_5, lit_6, lit_7, lit_8, lit_9, lit_10, lit_15, lit_16, lit_19, lit_20, lit_31, lit_35, lit_36, lit_48, lit_49, lit_53, lit_55, lit_57, lit_59, lit_60, lit_63, lit_64, lit_97, lit_102, lit_110, lit_160, lit_255, nI_add, ns_sub, ns_div, ns_le, ns_lt, ns_eq, ns_cl, pk_mul, ne10, eq_self, ↓reduceIte, c1, q6, q7, ps_or, show ¬ 20 ≤ i from by omega]
          · rw [sI1, sI1]
            by_cases hdi : d = i
            · subst hdi
              rw [if_pos ⟨rfl, rfl⟩, if_neg (by omega), q7]
              exact ⟨ps_cong (fun j hj => by simp [hci, show d < g by omega]), ps_cong (fun j hj => by simp [c1])⟩
            · rw [if_neg (by omega), if_neg (by omega)]
              exact hlo d hd (by omega)
          · rw [sI1, sI1, if_neg (by omega), if_neg (by omega)]
            exact hhi d hd (by omega)
    · have hin2 : i = 20 := by omega
      subst hin2
      refine Or.inr ⟨nI 20, S1, fun rec => ?_, hf, fun d hd => hlo d hd (by omega)⟩
      simp (disch := omega) only [bX0_settleStroke_17, bd_some, gd_ix, lit_0, lit_1, lit_2, lit_3, lit_4, lit_5, lit_6, lit_7, lit_8, lit_9, lit_10, lit_15, lit_16, lit_19, lit_20, lit_31, lit_35, lit_36, lit_48, lit_49, lit_53, lit_55, lit_57, lit_59, lit_60, lit_63, lit_64, lit_97, lit_102, lit_110, lit_160, lit_255, nI_add, ns_sub, ns_div, ns_le, ns_lt, ns_eq, ns_cl, pk_mul, ne10, eq_self, ↓reduceIte, Nat.le_refl]) fl (cD c k) (nI (cD c k)) S (by omega) (by show 20 < cD c k + 4096; omega) ⟨rfl, Nat.le_refl _, fr.rf, fun d hd hd2 => by
    rw [h6 d hd, h7 d hd]
    exact ⟨ps_cong (fun j hj => by simp [show ¬ cD c k ≤ d by omega]), ps_cong (fun j hj => by simp [show ¬ cD c k ≤ d by omega])⟩, fun d hd hd2 => ⟨h6 d hd, h7 d hd⟩⟩
  refine ⟨S', ?_, hQ1, hQ2⟩
  unfold fX0_settleStroke
  simp (disch := omega) only [only_ok, bd_some, gd_ix, ns_cl, k1, max0, e1]

theorem settleAble_ok {t : Nat} {S : Sg} {c : Cf} (hB : Bd t S c) {k o : Nat} (hk : k < cN c) (ho : o ≤ 20) {M : Nat → Bool} {w0 i0 a0 : Nat → Nat → Bool} (h5 : S.1 (t + 5) k = ps M) (h6 : ∀ d, d < 20 → S.1 (t + 6) d = ps (w0 d)) (h7 : ∀ d, d < 20 → S.1 (t + 7) d = ps (i0 d)) (h8 : ∀ d, d < 20 → S.1 (t + 8) d = ps (a0 d)) : ∃ S', fX0_settleAble t (nI k) (nI o) S = some ((), S') ∧ fr (t + 8) (t + 8) S S' ∧ ∀ d, d < 20 → S'.1 (t + 8) d = ps (fun j => a0 d j || (decide (d < o) && (!(exB (fun m => w0 d m && M m) 8) && (i0 d j && j == k)))) := by
  obtain ⟨h1, h2, h3⟩ := hB
  obtain ⟨a, S', e1, hQ1, hQ2⟩ := lp_invF (B := bX0_settleAble_16 t (nI o) (ps (fun i => i == k)) (ps M)) (fun i a S1 => a = nI i ∧ fr (t + 8) (t + 8) S S1 ∧ (∀ d, d < 20 → d < i → S1.1 (t + 8) d = ps (fun j => a0 d j || (decide (d < o) && (!(exB (fun m => w0 d m && M m) 8) && (i0 d j && j == k))))) ∧ (∀ d, d < 20 → i ≤ d → S1.1 (t + 8) d = ps (a0 d))) (fun a S1 => fr (t + 8) (t + 8) S S1 ∧ (∀ d, d < 20 → S1.1 (t + 8) d = ps (fun j => a0 d j || (decide (d < o) && (!(exB (fun m => w0 d m && M m) 8) && (i0 d j && j == k)))))) 20 (by omega) (by
    rintro i a S1 hi ⟨rfl, hf, hlo, hhi⟩
    by_cases hin : i < 20
    · by_cases hio : o ≤ i
      · refine Or.inr ⟨nI i, S1, fun rec => ?_, hf, fun d hd => ?_⟩
        · simp (disch := omega) only [bX0_settleAble_16, bd_some, gd_ix, lit_0, lit_1, lit_2, lit_3, lit_4, lit_5, lit_6, lit_7, lit_8, lit_9, lit_10, lit_15, lit_16, lit_19, lit_20, lit_31, lit_35, lit_36, lit_48, lit_49, lit_53, lit_55, lit_57, lit_59, lit_60, lit_63, lit_64, lit_97, lit_102, lit_110, lit_160, lit_255, nI_add, ns_sub, ns_div, ns_le, ns_lt, ns_eq, ns_cl, pk_mul, ne10, eq_self, ↓reduceIte, hio, show ¬ 20 ≤ i from by omega]
        · by_cases hdi : d < i
          · exact hlo d hd hdi
          · rw [hhi d hd (by omega)]
            exact ps_cong (fun j hj => by simp [show ¬ d < o by omega])
      · refine Or.inl ⟨hin, ?_⟩
        have q6 : S1.1 (t + 6) i = ps (w0 i) := by rw [hf.1 (t + 6) i (by omega)]; exact h6 i hin
        have q7 : S1.1 (t + 7) i = ps (i0 i) := by rw [hf.1 (t + 7) i (by omega)]; exact h7 i hin
        have q8 := hhi i hin (Nat.le_refl _)
        cases hz : exB (fun m => w0 i m && M m) 8 with
        | false =>
          have hz2 : ps (fun m => w0 i m && M m) = nI 0 := ps_eq0.mpr (exB_false.mp hz)
          refine ⟨nI (i + 1), sI S1 (t + 8) i (ps (fun j => a0 i j || (i0 i j && j == k))), fun rec => ?_, rfl, hf.I (by omega) (by omega), fun d hd hd2 => ?_, fun d hd hd2 => ?_⟩
          · simp (disch := omega) only [bX0_settleAble_16, bd_some, gd_ix, lit_0, lit_1, lit_2, lit_3, lit_4, lit_5, lit_6, lit_7, lit_8, lit_9, lit_10, lit_15, lit_16, lit_19, lit_20, lit_31, lit_35, lit_36, lit_48, lit_49, lit_53, lit_55, lit_57, lit_59, lit_60, lit_63, lit_64, lit_97, lit_102, lit_110, lit_160, lit_255, nI_add, ns_sub, ns_div, ns_le, ns_lt, ns_eq, ns_cl, pk_mul, ne10, eq_self, ↓reduceIte, q6, q7, q8, ps_or, ps_and, hz2, hio, show ¬ 20 ≤ i from by omega]
          · rw [sI1]
            by_cases hdi : d = i
            · subst hdi
              rw [if_pos ⟨rfl, rfl⟩]
              exact ps_cong (fun j hj => by simp [hz, show d < o by omega])
            · rw [if_neg (by omega)]
              exact hlo d hd (by omega)
          · rw [sI1, if_neg (by omega)]
            exact hhi d hd (by omega)
        | true =>
          have hz2 : ¬ ps (fun m => w0 i m && M m) = nI 0 := fun q => by
            have := exB_false.mpr (ps_eq0.mp q)
            rw [hz] at this
            cases this
          refine ⟨nI (i + 1), S1, fun rec => ?_, rfl, hf, fun d hd hd2 => ?_, fun d hd hd2 => hhi d hd (by omega)⟩
          · simp (disch := omega) only [bX0_settleAble_16, bd_some, gd_ix, lit_0, lit_1, lit_2, lit_3, lit_4, lit_5, lit_6, lit_7, lit_8, lit_9, lit_10, lit_15, lit_16, lit_19, lit_20, lit_31, lit_35, lit_36, lit_48, lit_49, lit_53, lit_55, lit_57, lit_59, lit_60, lit_63, lit_64, lit_97, lit_102, lit_110, lit_160, lit_255, nI_add, ns_sub, ns_div, ns_le, ns_lt, ns_eq, ns_cl, pk_mul, ne10, eq_self, ↓reduceIte, q6, q7, q8, ps_and, hz2, hio, show ¬ 20 ≤ i from by omega]
          · by_cases hdi : d = i
            · subst hdi
              rw [q8]
              exact ps_cong (fun j hj => by simp [hz])
            · exact hlo d hd (by omega)
    · have hin2 : i = 20 := by omega
      subst hin2
      refine Or.inr ⟨nI 20, S1, fun rec => ?_, hf, fun d hd => hlo d hd (by omega)⟩
      simp (disch := omega) only [bX0_settleAble_16, bd_some, gd_ix, lit_0, lit_1, lit_2, lit_3, lit_4, lit_5, lit_6, lit_7, lit_8, lit_9, lit_10, lit_15, lit_16, lit_19, lit_20, lit_31, lit_35, lit_36, lit_48, lit_49, lit_53, lit_55, lit_57, lit_59, lit_60, lit_63, lit_64, lit_97, lit_102, lit_110, lit_160, lit_255, nI_add, ns_sub, ns_div, ns_le, ns_lt, ns_eq, ns_cl, pk_mul, ne10, eq_self, ↓reduceIte, Nat.le_refl]) (nI 0) S ⟨rfl, fr.rf, fun d hd hd2 => absurd hd2 (by omega), fun d hd hd2 => h8 d hd⟩
  refine ⟨S', ?_, hQ1, hQ2⟩
  unfold fX0_settleAble
  simp (disch := omega) only [only_ok, bd_some, gd_ix, ns_cl, h5, lit_0, e1]
