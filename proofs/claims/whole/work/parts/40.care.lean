/-! the class: wipes and oils -/
def Ca (S : Sg) (nw : Nat) (wd wl : Nat → Nat) (no : Nat) (od ol : Nat → Nat) : Prop := nw ≤ 8 ∧ no ≤ 4 ∧ S.1 7 4 = nI nw ∧ S.1 7 5 = nI no ∧ (∀ w, w < nw → S.1 8 w = nI (wd w) ∧ wd w < 20 ∧ S.1 9 w = nI (wl w) ∧ wl w < 6) ∧ (∀ o, o < no → S.1 10 o = nI (od o) ∧ od o < 20 ∧ S.1 11 o = nI (ol o) ∧ ol o < 6)
theorem ex_succ {P : Nat → Prop} {i : Nat} : (∃ w, w < i + 1 ∧ P w) ↔ (∃ w, w < i ∧ P w) ∨ P i := by
  constructor
  · rintro ⟨w, h1, h2⟩
    by_cases h : w = i
    · subst h; exact Or.inr h2
    · exact Or.inl ⟨w, by omega, h2⟩
  · rintro (⟨w, h1, h2⟩ | h)
    · exact ⟨w, by omega, h2⟩
    · exact ⟨i, by omega, h⟩
theorem wipedBehind_ok {S : Sg} {nw no : Nat} {wd wl od ol : Nat → Nat} (h : Ca S nw wd wl no od ol) {d l : Nat} (hd : d < 20) (hl : l < 6) : ∃ x, fX1_wipedBehind (nI d) (nI l) S = some (nI x, S) ∧ x ≤ 20 ∧ ∀ e, e < 20 → (x ≤ e ↔ ∃ w, w < nw ∧ wl w = l ∧ d < wd w ∧ wd w ≤ e) := by
  obtain ⟨h1, h2, h3, h4, h5, h6⟩ := h
  obtain ⟨t, S', e1, x, rfl, rfl, hx, hx2⟩ := lp_invF (B := bX1_wipedBehind_6 (nI d) (nI l)) (fun i a S1 => S1 = S ∧ a.2 = nI i ∧ ∃ x, a.1 = nI x ∧ x ≤ 20 ∧ ∀ e, e < 20 → (x ≤ e ↔ ∃ w, w < i ∧ wl w = l ∧ d < wd w ∧ wd w ≤ e)) (fun t S' => ∃ x, S' = S ∧ t = (nI x, nI nw) ∧ x ≤ 20 ∧ ∀ e, e < 20 → (x ≤ e ↔ ∃ w, w < nw ∧ wl w = l ∧ d < wd w ∧ wd w ≤ e)) nw (by omega) (by
    rintro i ⟨a1, a2⟩ S1 hi ⟨rfl, rfl, x, rfl, hx, hx2⟩
    by_cases hin : i < nw
    · refine Or.inl ⟨hin, ?_⟩
      obtain ⟨w1, w2, w3, w4⟩ := h5 i hin
      by_cases c1 : wl i = l
      · by_cases c2 : wd i ≤ d
        · refine ⟨(nI x, nI (i + 1)), S1, fun rec => ?_, rfl, rfl, x, rfl, hx, fun e he => ?_⟩
          · simp (disch := omega) only [bX1_wipedBehind_6, h3, w1, w3, bd_some, gd_ix, lit_0, lit_1, lit_2, lit_3, lit_4, lit_5, lit_6, lit_7, lit_8, lit_9, lit_10, lit_15, lit_16, lit_19, lit_20, lit_31, lit_35, lit_36, lit_48, lit_49, lit_53, lit_55, lit_57, lit_59, lit_60, lit_63, lit_64, lit_97, lit_102, lit_110, lit_160, lit_255, nI_add, ns_sub, ns_div, ns_le, ns_lt, ns_eq, ns_cl, pk_mul, ne10, eq_self, ↓reduceIte, c1, c2, if_pos, show ¬ nw ≤ i from by omega, if_neg, not_false_eq_true, ↓reduceIte]
          · rw [hx2 e he, ex_succ]
            constructor
            · exact Or.inl
            · rintro (q | ⟨q1, q2, q3⟩)
              · exact q
              · omega
        · by_cases c3 : x ≤ wd i
          · refine ⟨(nI x, nI (i + 1)), S1, fun rec => ?_, rfl, rfl, x, rfl, hx, fun e he => ?_⟩
            · simp (disch := omega) only [bX1_wipedBehind_6, h3, w1, w3, bd_some, gd_ix, lit_0, lit_1, lit_2, lit_3, lit_4, lit_5, lit_6, lit_7, lit_8, lit_9, lit_10, lit_15, lit_16, lit_19, lit_20, lit_31, lit_35, lit_36, lit_48, lit_49, lit_53, lit_55, lit_57, lit_59, lit_60, lit_63, lit_64, lit_97, lit_102, lit_110, lit_160, lit_255, nI_add, ns_sub, ns_div, ns_le, ns_lt, ns_eq, ns_cl, pk_mul, ne10, eq_self, ↓reduceIte, c1, c2, c3, show ¬ nw ≤ i from by omega, ↓reduceIte]
            · rw [ex_succ, ← hx2 e he]
              constructor
              · exact Or.inl
              · rintro (q | ⟨q1, q2, q3⟩)
                · exact q
                · omega
          · refine ⟨(nI (wd i), nI (i + 1)), S1, fun rec => ?_, rfl, rfl, wd i, rfl, by omega, fun e he => ?_⟩
            · simp (disch := omega) only [bX1_wipedBehind_6, h3, w1, w3, bd_some, gd_ix, lit_0, lit_1, lit_2, lit_3, lit_4, lit_5, lit_6, lit_7, lit_8, lit_9, lit_10, lit_15, lit_16, lit_19, lit_20, lit_31, lit_35, lit_36, lit_48, lit_49, lit_53, lit_55, lit_57, lit_59, lit_60, lit_63, lit_64, lit_97, lit_102, lit_110, lit_160, lit_255, nI_add, ns_sub, ns_div, ns_le, ns_lt, ns_eq, ns_cl, pk_mul, ne10, eq_self, ↓reduceIte, c1, c2, c3, show ¬ nw ≤ i from by omega, ↓reduceIte]
            · rw [ex_succ, ← hx2 e he]
              constructor
              · exact fun q => Or.inr ⟨c1, by omega, q⟩
              · rintro (q | ⟨q1, q2, q3⟩)
                · omega
                · exact q3
      · refine ⟨(nI x, nI (i + 1)), S1, fun rec => ?_, rfl, rfl, x, rfl, hx, fun e he => ?_⟩
        · simp (disch := omega) only [bX1_wipedBehind_6, h3, w1, w3, bd_some, gd_ix, lit_0, lit_1, lit_2, lit_3, lit_4, lit_5, lit_6, lit_7, lit_8, lit_9, lit_10, lit_15, lit_16, lit_19, lit_20, lit_31, lit_35, lit_36, lit_48, lit_49, lit_53, lit_55, lit_57, lit_59, lit_60, lit_63, lit_64, lit_97, lit_102, lit_110, lit_160, lit_255, nI_add, ns_sub, ns_div, ns_le, ns_lt, ns_eq, ns_cl, pk_mul, ne10, eq_self, ↓reduceIte, c1, show ¬ nw ≤ i from by omega, ↓reduceIte]
        · rw [ex_succ, ← hx2 e he]
          constructor
          · exact Or.inl
          · rintro (q | ⟨q1, q2, q3⟩)
            · exact q
            · exact absurd q1 c1
    · have hin2 : i = nw := by omega
      subst hin2
      refine Or.inr ⟨(nI x, nI i), S1, fun rec => ?_, x, rfl, rfl, hx, hx2⟩
      simp (disch := omega) only [bX1_wipedBehind_6, h3, bd_some, gd_ix, lit_0, lit_1, lit_2, lit_3, lit_4, lit_5, lit_6, lit_7, lit_8, lit_9, lit_10, lit_15, lit_16, lit_19, lit_20, lit_31, lit_35, lit_36, lit_48, lit_49, lit_53, lit_55, lit_57, lit_59, lit_60, lit_63, lit_64, lit_97, lit_102, lit_110, lit_160, lit_255, nI_add, ns_sub, ns_div, ns_le, ns_lt, ns_eq, ns_cl, pk_mul, ne10, eq_self, ↓reduceIte, Nat.le_refl, ↓reduceIte]) ((20 : Int32), (0 : Int32)) S ⟨rfl, rfl, 20, rfl, Nat.le_refl _, fun e he => ⟨fun q => absurd q (by omega), fun ⟨w, q, _⟩ => absurd q (by omega)⟩⟩
  refine ⟨x, ?_, hx, hx2⟩
  unfold fX1_wipedBehind
  rw [e1]
  rfl

theorem oiledFrom_ok {S : Sg} {nw no : Nat} {wd wl od ol : Nat → Nat} (h : Ca S nw wd wl no od ol) {l : Nat} (hl : l < 6) : ∃ x, fX1_oiledFrom (nI l) S = some (nI x, S) ∧ x ≤ 20 ∧ ∀ e, e < 20 → (x ≤ e ↔ ∃ o, o < no ∧ ol o = l ∧ od o ≤ e) := by
  obtain ⟨h1, h2, h3, h4, h5, h6⟩ := h
  obtain ⟨t, S', e1, x, rfl, rfl, hx, hx2⟩ := lp_invF (B := bX1_oiledFrom_5 (nI l)) (fun i a S1 => S1 = S ∧ a.2 = nI i ∧ ∃ x, a.1 = nI x ∧ x ≤ 20 ∧ ∀ e, e < 20 → (x ≤ e ↔ ∃ o, o < i ∧ ol o = l ∧ od o ≤ e)) (fun t S' => ∃ x, S' = S ∧ t = (nI x, nI no) ∧ x ≤ 20 ∧ ∀ e, e < 20 → (x ≤ e ↔ ∃ o, o < no ∧ ol o = l ∧ od o ≤ e)) no (by omega) (by
    rintro i ⟨a1, a2⟩ S1 hi ⟨rfl, rfl, x, rfl, hx, hx2⟩
    by_cases hin : i < no
    · refine Or.inl ⟨hin, ?_⟩
      obtain ⟨w1, w2, w3, w4⟩ := h6 i hin
      by_cases c1 : ol i = l
      · by_cases c3 : x ≤ od i
        · refine ⟨(nI x, nI (i + 1)), S1, fun rec => ?_, rfl, rfl, x, rfl, hx, fun e he => ?_⟩
          · simp (disch := omega) only [bX1_oiledFrom_5, h4, w1, w3, bd_some, gd_ix, lit_0, lit_1, lit_2, lit_3, lit_4, lit_5, lit_6, lit_7, lit_8, lit_9, lit_10, lit_15, lit_16, lit_19, lit_20, lit_31, lit_35, lit_36, lit_48, lit_49, lit_53, lit_55, lit_57, lit_59, lit_60, lit_63, lit_64, lit_97, lit_102, lit_110, lit_160, lit_255, nI_add, ns_sub, ns_div, ns_le, ns_lt, ns_eq, ns_cl, pk_mul, ne10, eq_self, ↓reduceIte, c1, c3, show ¬ no ≤ i from by omega, ↓reduceIte]
          · rw [ex_succ, ← hx2 e he]
            constructor
            · exact Or.inl
            · rintro (q | ⟨q1, q3⟩)
              · exact q
              · omega
        · refine ⟨(nI (od i), nI (i + 1)), S1, fun rec => ?_, rfl, rfl, od i, rfl, by omega, fun e he => ?_⟩
          · simp (disch := omega) only [bX1_oiledFrom_5, h4, w1, w3, bd_some, gd_ix, lit_0, lit_1, lit_2, lit_3, lit_4, lit_5, lit_6, lit_7, lit_8, lit_9, lit_10, lit_15, lit_16, lit_19, lit_20, lit_31, lit_35, lit_36, lit_48, lit_49, lit_53, lit_55, lit_57, lit_59, lit_60, lit_63, lit_64, lit_97, lit_102, lit_110, lit_160, lit_255, nI_add, ns_sub, ns_div, ns_le, ns_lt, ns_eq, ns_cl, pk_mul, ne10, eq_self, ↓reduceIte, c1, c3, show ¬ no ≤ i from by omega, ↓reduceIte]
          · rw [ex_succ, ← hx2 e he]
            constructor
            · exact fun q => Or.inr ⟨c1, q⟩
            · rintro (q | ⟨q1, q3⟩)
              · omega
              · exact q3
      · refine ⟨(nI x, nI (i + 1)), S1, fun rec => ?_, rfl, rfl, x, rfl, hx, fun e he => ?_⟩
        · simp (disch := omega) only [bX1_oiledFrom_5, h4, w1, w3, bd_some, gd_ix, lit_0, lit_1, lit_2, lit_3, lit_4, lit_5, lit_6, lit_7, lit_8, lit_9, lit_10, lit_15, lit_16, lit_19, lit_20, lit_31, lit_35, lit_36, lit_48, lit_49, lit_53, lit_55, lit_57, lit_59, lit_60, lit_63, lit_64, lit_97, lit_102, lit_110, lit_160, lit_255, nI_add, ns_sub, ns_div, ns_le, ns_lt, ns_eq, ns_cl, pk_mul, ne10, eq_self, ↓reduceIte, c1, show ¬ no ≤ i from by omega, ↓reduceIte]
        · rw [ex_succ, ← hx2 e he]
          constructor
          · exact Or.inl
          · rintro (q | ⟨q1, q3⟩)
            · exact q
            · exact absurd q1 c1
    · have hin2 : i = no := by omega
      subst hin2
      refine Or.inr ⟨(nI x, nI i), S1, fun rec => ?_, x, rfl, rfl, hx, hx2⟩
      simp (disch := omega) only [bX1_oiledFrom_5, h4, bd_some, gd_ix, lit_0, lit_1, lit_2, lit_3, lit_4, lit_5, lit_6, lit_7, lit_8, lit_9, lit_10, lit_15, lit_16, lit_19, lit_20, lit_31, lit_35, lit_36, lit_48, lit_49, lit_53, lit_55, lit_57, lit_59, lit_60, lit_63, lit_64, lit_97, lit_102, lit_110, lit_160, lit_255, nI_add, ns_sub, ns_div, ns_le, ns_lt, ns_eq, ns_cl, pk_mul, ne10, eq_self, ↓reduceIte, Nat.le_refl, ↓reduceIte]) ((20 : Int32), (0 : Int32)) S ⟨rfl, rfl, 20, rfl, Nat.le_refl _, fun e he => ⟨fun q => absurd q (by omega), fun ⟨w, q, _⟩ => absurd q (by omega)⟩⟩
  refine ⟨x, ?_, hx, hx2⟩
  unfold fX1_oiledFrom
  rw [e1]
  rfl
