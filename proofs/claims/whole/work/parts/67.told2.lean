/-! wipe, undo, fault, fine, back, seen, forget -/
theorem stp_wipe_ok : stp_wipe Inv := by
  rintro Sc Sm x1 ⟨A, ⟨hB, hS⟩, hM⟩
  by_cases g1 : rg x1 2
  · obtain ⟨t, ht, rfl⟩ := g1
    have ht2 : t = 0 ∨ t = 1 := by omega
    rcases ht2 with rfl | rfl
    · refine ⟨nI (aT A).1, sI (sI Sc 1 1 (nI 0)) 0 17 (nI 1), sI Sm 1 0 (nI 0), ?_, ?_, ((0, (aT A).2), A.2), ⟨?_, Or.inl ?_⟩, ?_⟩
      · unfold fX8_wipe
        simp (disch := omega) only [cText_y, fX8_textOf, txb, BEq.rfl, Bool.true_or, gd_tt, bd_some, gd_ix, lit_0, lit_1, lit_2, lit_3, lit_4, lit_5, lit_6, lit_7, lit_8, lit_9, lit_10, lit_15, lit_16, lit_19, lit_20, lit_31, lit_35, lit_36, lit_48, lit_49, lit_53, lit_55, lit_57, lit_59, lit_60, lit_63, lit_64, lit_97, lit_102, lit_110, lit_160, lit_255, nI_add, ns_sub, ns_div, ns_le, ns_lt, ns_eq, ns_cl, pk_mul, ne10, eq_self, ↓reduceIte, hB.1.2.1]
      · unfold fX9_wipe
        simp (disch := omega) only [mText_y, bd_some, gd_ix, lit_0, lit_1, lit_2, lit_3, lit_4, lit_5, lit_6, lit_7, lit_8, lit_9, lit_10, lit_15, lit_16, lit_19, lit_20, lit_31, lit_35, lit_36, lit_48, lit_49, lit_53, lit_55, lit_57, lit_59, lit_60, lit_63, lit_64, lit_97, lit_102, lit_110, lit_160, lit_255, nI_add, ns_sub, ns_div, ns_le, ns_lt, ns_eq, ns_cl, pk_mul, ne10, eq_self, ↓reduceIte, hM.1.2.1]
      · exact hB.upT (fun a j q => by rw [sI1, if_neg (by omega), sI1, if_neg (by omega)]) ⟨Nat.zero_le _, by rw [sI1, if_neg (by omega), sI1, if_pos ⟨rfl, rfl⟩], fun i hi => absurd hi (Nat.not_lt_zero _)⟩
      · rw [sI1, if_pos ⟨rfl, rfl⟩]
      · exact hM.upT (fun a j q => by rw [sI1, if_neg (by omega)]) ⟨Nat.zero_le _, by rw [sI1, if_pos ⟨rfl, rfl⟩], fun i hi => absurd hi (Nat.not_lt_zero _)⟩
    · refine ⟨nI (aU A).1, sI (sI Sc 3 1 (nI 0)) 0 17 (nI 1), sI Sm 1 1 (nI 0), ?_, ?_, (A.1, (0, (aU A).2), A.2.2), ⟨?_, Or.inl ?_⟩, ?_⟩
      · unfold fX8_wipe
        simp (disch := omega) only [cText_y, fX8_textOf, txb, BEq.rfl, Bool.or_true, gd_tt, bd_some, gd_ix, lit_0, lit_1, lit_2, lit_3, lit_4, lit_5, lit_6, lit_7, lit_8, lit_9, lit_10, lit_15, lit_16, lit_19, lit_20, lit_31, lit_35, lit_36, lit_48, lit_49, lit_53, lit_55, lit_57, lit_59, lit_60, lit_63, lit_64, lit_97, lit_102, lit_110, lit_160, lit_255, nI_add, ns_sub, ns_div, ns_le, ns_lt, ns_eq, ns_cl, pk_mul, ne10, eq_self, ↓reduceIte, hB.2.1.2.1, Nat.reduceEqDiff]
      · unfold fX9_wipe
        simp (disch := omega) only [mText_y, bd_some, gd_ix, lit_0, lit_1, lit_2, lit_3, lit_4, lit_5, lit_6, lit_7, lit_8, lit_9, lit_10, lit_15, lit_16, lit_19, lit_20, lit_31, lit_35, lit_36, lit_48, lit_49, lit_53, lit_55, lit_57, lit_59, lit_60, lit_63, lit_64, lit_97, lit_102, lit_110, lit_160, lit_255, nI_add, ns_sub, ns_div, ns_le, ns_lt, ns_eq, ns_cl, pk_mul, ne10, eq_self, ↓reduceIte, hM.2.1.2.1]
      · exact hB.upU (fun a j q => by rw [sI1, if_neg (by omega), sI1, if_neg (by omega)]) ⟨Nat.zero_le _, by rw [sI1, if_neg (by omega), sI1, if_pos ⟨rfl, rfl⟩], fun i hi => absurd hi (Nat.not_lt_zero _)⟩
      · rw [sI1, if_pos ⟨rfl, rfl⟩]
      · exact hM.upU (fun a j q => by rw [sI1, if_neg (by omega)]) ⟨Nat.zero_le _, by rw [sI1, if_pos ⟨rfl, rfl⟩], fun i hi => absurd hi (Nat.not_lt_zero _)⟩
  · refine ⟨-nI 2, Sc, Sm, ?_, ?_, A, ⟨hB, hS⟩, hM⟩
    · unfold fX8_wipe
      simp (disch := omega) only [cText_n g1, bd_some, gd_ix, lit_0, lit_1, lit_2, lit_3, lit_4, lit_5, lit_6, lit_7, lit_8, lit_9, lit_10, lit_15, lit_16, lit_19, lit_20, lit_31, lit_35, lit_36, lit_48, lit_49, lit_53, lit_55, lit_57, lit_59, lit_60, lit_63, lit_64, lit_97, lit_102, lit_110, lit_160, lit_255, nI_add, ns_sub, ns_div, ns_le, ns_lt, ns_eq, ns_cl, pk_mul, ne10, eq_self, ↓reduceIte]
    · unfold fX9_wipe
      simp (disch := omega) only [mText_n g1, bd_some, gd_ix, lit_0, lit_1, lit_2, lit_3, lit_4, lit_5, lit_6, lit_7, lit_8, lit_9, lit_10, lit_15, lit_16, lit_19, lit_20, lit_31, lit_35, lit_36, lit_48, lit_49, lit_53, lit_55, lit_57, lit_59, lit_60, lit_63, lit_64, lit_97, lit_102, lit_110, lit_160, lit_255, nI_add, ns_sub, ns_div, ns_le, ns_lt, ns_eq, ns_cl, pk_mul, ne10, eq_self, ↓reduceIte]
theorem stp_undo_ok : stp_undo Inv := by
  rintro Sc Sm x1 ⟨A, ⟨hB, hS⟩, hM⟩
  by_cases g1 : rg x1 2
  · obtain ⟨t, ht, rfl⟩ := g1
    have ht2 : t = 0 ∨ t = 1 := by omega
    rcases ht2 with rfl | rfl
    · obtain ⟨c1, c2, c3⟩ := hB.1
      obtain ⟨m1, m2, m3⟩ := hM.1
      by_cases hf : (aT A).1 = 0
      · refine ⟨-nI 3, Sc, Sm, ?_, ?_, A, ⟨hB, hS⟩, hM⟩
        · unfold fX8_undo
          simp (disch := omega) only [cText_y, fX8_textOf, txb, BEq.rfl, Bool.true_or, gd_tt, bd_some, gd_ix, lit_0, lit_1, lit_2, lit_3, lit_4, lit_5, lit_6, lit_7, lit_8, lit_9, lit_10, lit_15, lit_16, lit_19, lit_20, lit_31, lit_35, lit_36, lit_48, lit_49, lit_53, lit_55, lit_57, lit_59, lit_60, lit_63, lit_64, lit_97, lit_102, lit_110, lit_160, lit_255, nI_add, ns_sub, ns_div, ns_le, ns_lt, ns_eq, ns_cl, pk_mul, ne10, eq_self, ↓reduceIte, c2, hf]
        · unfold fX9_undo
          simp (disch := omega) only [mText_y, bd_some, gd_ix, lit_0, lit_1, lit_2, lit_3, lit_4, lit_5, lit_6, lit_7, lit_8, lit_9, lit_10, lit_15, lit_16, lit_19, lit_20, lit_31, lit_35, lit_36, lit_48, lit_49, lit_53, lit_55, lit_57, lit_59, lit_60, lit_63, lit_64, lit_97, lit_102, lit_110, lit_160, lit_255, nI_add, ns_sub, ns_div, ns_le, ns_lt, ns_eq, ns_cl, pk_mul, ne10, eq_self, ↓reduceIte, m2, hf]
      · refine ⟨nI ((aT A).1 - 1), sI (sI Sc 1 1 (nI ((aT A).1 - 1))) 0 17 (nI 1), sI Sm 1 0 (nI ((aT A).1 - 1)), ?_, ?_, (((aT A).1 - 1, (aT A).2), A.2), ⟨?_, Or.inl ?_⟩, ?_⟩
        · unfold fX8_undo
          simp (disch := omega) only [cText_y, fX8_textOf, txb, BEq.rfl, Bool.true_or, gd_tt, bd_some, gd_ix, lit_0, lit_1, lit_2, lit_3, lit_4, lit_5, lit_6, lit_7, lit_8, lit_9, lit_10, lit_15, lit_16, lit_19, lit_20, lit_31, lit_35, lit_36, lit_48, lit_49, lit_53, lit_55, lit_57, lit_59, lit_60, lit_63, lit_64, lit_97, lit_102, lit_110, lit_160, lit_255, nI_add, ns_sub, ns_div, ns_le, ns_lt, ns_eq, ns_cl, pk_mul, ne10, eq_self, ↓reduceIte, c2, hf, sI1, sI2, sC1, sC2, sL1, sL2, Nat.reduceEqDiff, false_and, true_and]
        · unfold fX9_undo
          simp (disch := omega) only [mText_y, bd_some, gd_ix, lit_0, lit_1, lit_2, lit_3, lit_4, lit_5, lit_6, lit_7, lit_8, lit_9, lit_10, lit_15, lit_16, lit_19, lit_20, lit_31, lit_35, lit_36, lit_48, lit_49, lit_53, lit_55, lit_57, lit_59, lit_60, lit_63, lit_64, lit_97, lit_102, lit_110, lit_160, lit_255, nI_add, ns_sub, ns_div, ns_le, ns_lt, ns_eq, ns_cl, pk_mul, ne10, eq_self, ↓reduceIte, m2, hf, sI1, sI2, sC1, sC2, sL1, sL2, and_self]
        · refine hB.upT (fun a j q => by rw [sI1, if_neg (by omega), sI1, if_neg (by omega)]) ⟨by dsimp only; omega, by rw [sI1, if_neg (by omega), sI1, if_pos ⟨rfl, rfl⟩], fun i hi => ?_⟩
          dsimp only at hi
          rw [sI1, if_neg (by omega), sI1, if_neg (by omega)]
          exact c3 i (by omega)
        · rw [sI1, if_pos ⟨rfl, rfl⟩]
        · refine hM.upT (fun a j q => by rw [sI1, if_neg (by omega)]) ⟨by dsimp only; omega, by rw [sI1, if_pos ⟨rfl, rfl⟩], fun i hi => ?_⟩
          dsimp only at hi
          rw [sI1, if_neg (by omega)]
          exact m3 i (by omega)
    · obtain ⟨c1, c2, c3⟩ := hB.2.1
      obtain ⟨m1, m2, m3⟩ := hM.2.1
      by_cases hf : (aU A).1 = 0
      · refine ⟨-nI 3, Sc, Sm, ?_, ?_, A, ⟨hB, hS⟩, hM⟩
        · unfold fX8_undo
          simp (disch := omega) only [cText_y, fX8_textOf, txb, BEq.rfl, Bool.or_true, gd_tt, bd_some, gd_ix, lit_0, lit_1, lit_2, lit_3, lit_4, lit_5, lit_6, lit_7, lit_8, lit_9, lit_10, lit_15, lit_16, lit_19, lit_20, lit_31, lit_35, lit_36, lit_48, lit_49, lit_53, lit_55, lit_57, lit_59, lit_60, lit_63, lit_64, lit_97, lit_102, lit_110, lit_160, lit_255, nI_add, ns_sub, ns_div, ns_le, ns_lt, ns_eq, ns_cl, pk_mul, ne10, eq_self, ↓reduceIte, c2, hf]
        · unfold fX9_undo
          simp (disch := omega) only [mText_y, bd_some, gd_ix, lit_0, lit_1, lit_2, lit_3, lit_4, lit_5, lit_6, lit_7, lit_8, lit_9, lit_10, lit_15, lit_16, lit_19, lit_20, lit_31, lit_35, lit_36, lit_48, lit_49, lit_53, lit_55, lit_57, lit_59, lit_60, lit_63, lit_64, lit_97, lit_102, lit_110, lit_160, lit_255, nI_add, ns_sub, ns_div, ns_le, ns_lt, ns_eq, ns_cl, pk_mul, ne10, eq_self, ↓reduceIte, m2, hf]
      · refine ⟨nI ((aU A).1 - 1), sI (sI Sc 3 1 (nI ((aU A).1 - 1))) 0 17 (nI 1), sI Sm 1 1 (nI ((aU A).1 - 1)), ?_, ?_, (A.1, ((aU A).1 - 1, (aU A).2), A.2.2), ⟨?_, Or.inl ?_⟩, ?_⟩
        · unfold fX8_undo
          simp (disch := omega) only [cText_y, fX8_textOf, txb, BEq.rfl, Bool.or_true, gd_tt, bd_some, gd_ix, lit_0, lit_1, lit_2, lit_3, lit_4, lit_5, lit_6, lit_7, lit_8, lit_9, lit_10, lit_15, lit_16, lit_19, lit_20, lit_31, lit_35, lit_36, lit_48, lit_49, lit_53, lit_55, lit_57, lit_59, lit_60, lit_63, lit_64, lit_97, lit_102, lit_110, lit_160, lit_255, nI_add, ns_sub, ns_div, ns_le, ns_lt, ns_eq, ns_cl, pk_mul, ne10, eq_self, ↓reduceIte, c2, hf, sI1, sI2, sC1, sC2, sL1, sL2, Nat.reduceEqDiff, false_and, true_and]
        · unfold fX9_undo
          simp (disch := omega) only [mText_y, bd_some, gd_ix, lit_0, lit_1, lit_2, lit_3, lit_4, lit_5, lit_6, lit_7, lit_8, lit_9, lit_10, lit_15, lit_16, lit_19, lit_20, lit_31, lit_35, lit_36, lit_48, lit_49, lit_53, lit_55, lit_57, lit_59, lit_60, lit_63, lit_64, lit_97, lit_102, lit_110, lit_160, lit_255, nI_add, ns_sub, ns_div, ns_le, ns_lt, ns_eq, ns_cl, pk_mul, ne10, eq_self, ↓reduceIte, m2, hf, sI1, sI2, sC1, sC2, sL1, sL2, and_self]
        · refine hB.upU (fun a j q => by rw [sI1, if_neg (by omega), sI1, if_neg (by omega)]) ⟨by dsimp only; omega, by rw [sI1, if_neg (by omega), sI1, if_pos ⟨rfl, rfl⟩], fun i hi => ?_⟩
          dsimp only at hi
          rw [sI1, if_neg (by omega), sI1, if_neg (by omega)]
          exact c3 i (by omega)
        · rw [sI1, if_pos ⟨rfl, rfl⟩]
        · refine hM.upU (fun a j q => by rw [sI1, if_neg (by omega)]) ⟨by dsimp only; omega, by rw [sI1, if_pos ⟨rfl, rfl⟩], fun i hi => ?_⟩
          dsimp only at hi
          rw [sI1, if_neg (by omega)]
          exact m3 i (by omega)
  · refine ⟨-nI 2, Sc, Sm, ?_, ?_, A, ⟨hB, hS⟩, hM⟩
    · unfold fX8_undo
      simp (disch := omega) only [cText_n g1, bd_some, gd_ix, lit_0, lit_1, lit_2, lit_3, lit_4, lit_5, lit_6, lit_7, lit_8, lit_9, lit_10, lit_15, lit_16, lit_19, lit_20, lit_31, lit_35, lit_36, lit_48, lit_49, lit_53, lit_55, lit_57, lit_59, lit_60, lit_63, lit_64, lit_97, lit_102, lit_110, lit_160, lit_255, nI_add, ns_sub, ns_div, ns_le, ns_lt, ns_eq, ns_cl, pk_mul, ne10, eq_self, ↓reduceIte]
    · unfold fX9_undo
      simp (disch := omega) only [mText_n g1, bd_some, gd_ix, lit_0, lit_1, lit_2, lit_3, lit_4, lit_5, lit_6, lit_7, lit_8, lit_9, lit_10, lit_15, lit_16, lit_19, lit_20, lit_31, lit_35, lit_36, lit_48, lit_49, lit_53, lit_55, lit_57, lit_59, lit_60, lit_63, lit_64, lit_97, lit_102, lit_110, lit_160, lit_255, nI_add, ns_sub, ns_div, ns_le, ns_lt, ns_eq, ns_cl, pk_mul, ne10, eq_self, ↓reduceIte]
theorem faultC_ok {S : Sg} {A : Ab} (h : RB S A) {t : Nat} (ht : t < 2) : fX8_fault (nI t) S = some ((if nI t = nI 0 then fau0 (aT A) else fau1 (aU A)), S) := by
  have ht2 : t = 0 ∨ t = 1 := by omega
  unfold fX8_fault
  rcases ht2 with rfl | rfl
  · simp (disch := omega) only [cText_y, bd_some, gd_ix, lit_0, lit_1, lit_2, lit_3, lit_4, lit_5, lit_6, lit_7, lit_8, lit_9, lit_10, lit_15, lit_16, lit_19, lit_20, lit_31, lit_35, lit_36, lit_48, lit_49, lit_53, lit_55, lit_57, lit_59, lit_60, lit_63, lit_64, lit_97, lit_102, lit_110, lit_160, lit_255, nI_add, ns_sub, ns_div, ns_le, ns_lt, ns_eq, ns_cl, pk_mul, ne10, eq_self, ↓reduceIte, faultD_ok h.1]
  · simp (disch := omega) only [cText_y, bd_some, gd_ix, lit_0, lit_1, lit_2, lit_3, lit_4, lit_5, lit_6, lit_7, lit_8, lit_9, lit_10, lit_15, lit_16, lit_19, lit_20, lit_31, lit_35, lit_36, lit_48, lit_49, lit_53, lit_55, lit_57, lit_59, lit_60, lit_63, lit_64, lit_97, lit_102, lit_110, lit_160, lit_255, nI_add, ns_sub, ns_div, ns_le, ns_lt, ns_eq, ns_cl, pk_mul, ne10, eq_self, ↓reduceIte, faultS_ok h.2.1]
theorem stp_fault_ok : stp_fault Inv := by
  rintro Sc Sm x1 ⟨A, ⟨hB, hS⟩, hM⟩
  by_cases g1 : rg x1 2
  · obtain ⟨t, ht, rfl⟩ := g1
    obtain ⟨S1, e1, z1, r1⟩ := faultOf_ok hM (nI t)
    refine ⟨_, Sc, S1, faultC_ok hB ht, ?_, A, ⟨hB, hS⟩, hM.mz z1⟩
    unfold fX9_fault
    rw [mText_y ht, bd_some, if_neg (by decide), e1, bd_some]
  · refine ⟨-nI 2, Sc, Sm, ?_, ?_, A, ⟨hB, hS⟩, hM⟩
    · unfold fX8_fault
      simp (disch := omega) only [cText_n g1, bd_some, gd_ix, lit_0, lit_1, lit_2, lit_3, lit_4, lit_5, lit_6, lit_7, lit_8, lit_9, lit_10, lit_15, lit_16, lit_19, lit_20, lit_31, lit_35, lit_36, lit_48, lit_49, lit_53, lit_55, lit_57, lit_59, lit_60, lit_63, lit_64, lit_97, lit_102, lit_110, lit_160, lit_255, nI_add, ns_sub, ns_div, ns_le, ns_lt, ns_eq, ns_cl, pk_mul, ne10, eq_self, ↓reduceIte]
    · unfold fX9_fault
      simp (disch := omega) only [mText_n g1, bd_some, gd_ix, lit_0, lit_1, lit_2, lit_3, lit_4, lit_5, lit_6, lit_7, lit_8, lit_9, lit_10, lit_15, lit_16, lit_19, lit_20, lit_31, lit_35, lit_36, lit_48, lit_49, lit_53, lit_55, lit_57, lit_59, lit_60, lit_63, lit_64, lit_97, lit_102, lit_110, lit_160, lit_255, nI_add, ns_sub, ns_div, ns_le, ns_lt, ns_eq, ns_cl, pk_mul, ne10, eq_self, ↓reduceIte]
theorem stp_fine_ok : stp_fine Inv := by
  rintro Sc Sm x1 ⟨A, ⟨hB, hS⟩, hM⟩
  by_cases g1 : rg x1 10
  · obtain ⟨v, hv, rfl⟩ := g1
    refine ⟨nI (aF A), sI (sI Sc 0 15 (nI v)) 0 17 (nI 1), sI Sm 0 9 (nI v), ?_, ?_, (A.1, A.2.1, v, A.2.2.2), ⟨?_, Or.inl ?_⟩, ?_⟩
    · unfold fX8_fine
      simp (disch := omega) only [bd_some, gd_ix, lit_0, lit_1, lit_2, lit_3, lit_4, lit_5, lit_6, lit_7, lit_8, lit_9, lit_10, lit_15, lit_16, lit_19, lit_20, lit_31, lit_35, lit_36, lit_48, lit_49, lit_53, lit_55, lit_57, lit_59, lit_60, lit_63, lit_64, lit_97, lit_102, lit_110, lit_160, lit_255, nI_add, ns_sub, ns_div, ns_le, ns_lt, ns_eq, ns_cl, pk_mul, ne10, eq_self, ↓reduceIte, hB.2.2.1.2, show ¬ v < 0 from by omega, show v ≤ 9 from by omega]
    · unfold fX9_fine
      simp (disch := omega) only [bd_some, gd_ix, lit_0, lit_1, lit_2, lit_3, lit_4, lit_5, lit_6, lit_7, lit_8, lit_9, lit_10, lit_15, lit_16, lit_19, lit_20, lit_31, lit_35, lit_36, lit_48, lit_49, lit_53, lit_55, lit_57, lit_59, lit_60, lit_63, lit_64, lit_97, lit_102, lit_110, lit_160, lit_255, nI_add, ns_sub, ns_div, ns_le, ns_lt, ns_eq, ns_cl, pk_mul, ne10, eq_self, ↓reduceIte, in_y, hM.2.2.1.2]
    · exact hB.upF (fun a j q => by rw [sI1, if_neg (by omega), sI1, if_neg (by omega)]) ⟨by omega, by rw [sI1, if_neg (by omega), sI1, if_pos ⟨rfl, rfl⟩]⟩
    · rw [sI1, if_pos ⟨rfl, rfl⟩]
    · exact hM.upF (fun a j q => by rw [sI1, if_neg (by omega)]) ⟨by omega, by rw [sI1, if_pos ⟨rfl, rfl⟩]⟩
  · refine ⟨-nI 2, Sc, Sm, ?_, ?_, A, ⟨hB, hS⟩, hM⟩
    · unfold fX8_fine
      by_cases q : x1 < 0
      · rw [if_pos q]; rfl
      · rw [if_neg q, if_neg ?_]
        · rfl
        · rcases rg_no2 (by omega) g1 (b := 9) rfl with z | z
          · exact absurd z q
          · rw [fa_lt] at z
            rw [fa_le]
            show ¬ x1.toInt ≤ (nI 9).toInt
            omega
    · unfold fX9_fine
      simp (disch := omega) only [in_n g1 (b := 9) rfl (by omega), bd_some, gd_ix, lit_0, lit_1, lit_2, lit_3, lit_4, lit_5, lit_6, lit_7, lit_8, lit_9, lit_10, lit_15, lit_16, lit_19, lit_20, lit_31, lit_35, lit_36, lit_48, lit_49, lit_53, lit_55, lit_57, lit_59, lit_60, lit_63, lit_64, lit_97, lit_102, lit_110, lit_160, lit_255, nI_add, ns_sub, ns_div, ns_le, ns_lt, ns_eq, ns_cl, pk_mul, ne10, eq_self, ↓reduceIte]
/-- one more behind a row -/
def app (f : Nat → Nat) (n v : Nat) : Nat → Nat := fun i => if i = n then v else f i
theorem clean_ok {Sc Sm : Sg} {A : Ab} (hC : RC Sc A) (hM : RM Sm A) (x1 x2 : Int32) : ∃ r Sc2 Sm2 A2, fX8_clean x1 x2 Sc = some (r, Sc2) ∧ fX9_clean x1 x2 Sm = some (r, Sm2) ∧ RC Sc2 A2 ∧ RM Sm2 A2 ∧ aH A2 = aH A ∧ (r = -nI 2 ∨ r = -nI 4 ∨ ∃ n, 1 ≤ n ∧ n ≤ 8 ∧ r = nI n) := by
  obtain ⟨hB, hS⟩ := hC
  by_cases g1 : rg x1 20
  · obtain ⟨d, hd, rfl⟩ := g1
    by_cases g2 : rg x2 6
    · obtain ⟨l, hl, rfl⟩ := g2
      obtain ⟨c1, c2, c3, c4, c5, c6⟩ := hB.2.2.2.1
      obtain ⟨m1, m2, m3, m4, m5, m6⟩ := hM.2.2.2.1
      by_cases hf : (aW A).1 = 8
      · refine ⟨-nI 4, Sc, Sm, A, ?_, ?_, ⟨hB, hS⟩, hM, rfl, Or.inr (Or.inl rfl)⟩
        · unfold fX8_clean fX1_addWipe
          simp (disch := omega) only [cDay_y, cLine_y, bd_some, gd_ix, lit_0, lit_1, lit_2, lit_3, lit_4, lit_5, lit_6, lit_7, lit_8, lit_9, lit_10, lit_15, lit_16, lit_19, lit_20, lit_31, lit_35, lit_36, lit_48, lit_49, lit_53, lit_55, lit_57, lit_59, lit_60, lit_63, lit_64, lit_97, lit_102, lit_110, lit_160, lit_255, nI_add, ns_sub, ns_div, ns_le, ns_lt, ns_eq, ns_cl, pk_mul, ne10, eq_self, ↓reduceIte, c3, hf, Nat.lt_irrefl]
        · unfold fX9_clean
          simp (disch := omega) only [mDay_y, in_y, bd_some, gd_ix, lit_0, lit_1, lit_2, lit_3, lit_4, lit_5, lit_6, lit_7, lit_8, lit_9, lit_10, lit_15, lit_16, lit_19, lit_20, lit_31, lit_35, lit_36, lit_48, lit_49, lit_53, lit_55, lit_57, lit_59, lit_60, lit_63, lit_64, lit_97, lit_102, lit_110, lit_160, lit_255, nI_add, ns_sub, ns_div, ns_le, ns_lt, ns_eq, ns_cl, pk_mul, ne10, eq_self, ↓reduceIte, m3, hf]
      · refine ⟨nI ((aW A).1 + 1), sI (sI (sI (sI Sc 8 (aW A).1 (nI d)) 9 (aW A).1 (nI l)) 7 4 (nI ((aW A).1 + 1))) 0 17 (nI 1), sI (sI (sI Sm 8 (aW A).1 (nI d)) 9 (aW A).1 (nI l)) 0 10 (nI ((aW A).1 + 1)), (A.1, A.2.1, A.2.2.1, ((aW A).1 + 1, app (aW A).2.1 (aW A).1 d, app (aW A).2.2 (aW A).1 l), aO A, A.2.2.2.2.2), ?_, ?_, ⟨?_, Or.inl ?_⟩, ?_, rfl, Or.inr (Or.inr ⟨_, by omega, by omega, rfl⟩)⟩
        · unfold fX8_clean fX1_addWipe
          simp (disch := omega) only [cDay_y, cLine_y, bd_some, gd_ix, lit_0, lit_1, lit_2, lit_3, lit_4, lit_5, lit_6, lit_7, lit_8, lit_9, lit_10, lit_15, lit_16, lit_19, lit_20, lit_31, lit_35, lit_36, lit_48, lit_49, lit_53, lit_55, lit_57, lit_59, lit_60, lit_63, lit_64, lit_97, lit_102, lit_110, lit_160, lit_255, nI_add, ns_sub, ns_div, ns_le, ns_lt, ns_eq, ns_cl, pk_mul, ne10, eq_self, ↓reduceIte, c3, sI1, sI2, sC1, sC2, sL1, sL2, Nat.reduceEqDiff, false_and, true_and, show (aW A).1 < 8 from by omega]
        · unfold fX9_clean
          simp (disch := omega) only [mDay_y, in_y, bd_some, gd_ix, lit_0, lit_1, lit_2, lit_3, lit_4, lit_5, lit_6, lit_7, lit_8, lit_9, lit_10, lit_15, lit_16, lit_19, lit_20, lit_31, lit_35, lit_36, lit_48, lit_49, lit_53, lit_55, lit_57, lit_59, lit_60, lit_63, lit_64, lit_97, lit_102, lit_110, lit_160, lit_255, nI_add, ns_sub, ns_div, ns_le, ns_lt, ns_eq, ns_cl, pk_mul, ne10, eq_self, ↓reduceIte, m3, hf, sI1, sI2, sC1, sC2, sL1, sL2, Nat.reduceEqDiff, false_and, and_self]
        · refine hB.upC (fun a j q => by rw [sI1, if_neg (by omega), sI1, if_neg (by omega), sI1, if_neg (by omega), sI1, if_neg (by omega)]) ⟨by dsimp only; omega, c2, ?_, ?_, fun w hw => ?_, fun o ho => ?_⟩
          · rw [sI1, if_neg (by omega), sI1, if_pos ⟨rfl, rfl⟩]
          · rw [sI1, if_neg (by omega), sI1, if_neg (by omega), sI1, if_neg (by omega), sI1, if_neg (by omega)]; exact c4
          · dsimp only at hw ⊢
            unfold app
            by_cases q : w = (aW A).1
            · rw [if_pos q, if_pos q, q, sI1, if_neg (by omega), sI1, if_neg (by omega), sI1, if_neg (by omega), sI1, if_pos ⟨rfl, rfl⟩, sI1, if_neg (by omega), sI1, if_neg (by omega), sI1, if_pos ⟨rfl, rfl⟩]
              exact ⟨rfl, hd, rfl, hl⟩
            · rw [if_neg q, if_neg q, sI1, if_neg (by omega), sI1, if_neg (by omega), sI1, if_neg (by omega), sI1, if_neg (by omega), sI1, if_neg (by omega), sI1, if_neg (by omega), sI1, if_neg (by omega), sI1, if_neg (by omega)]
              exact c5 w (by omega)
          · rw [sI1, if_neg (by omega), sI1, if_neg (by omega), sI1, if_neg (by omega), sI1, if_neg (by omega), sI1, if_neg (by omega), sI1, if_neg (by omega), sI1, if_neg (by omega), sI1, if_neg (by omega)]
            exact c6 o ho
        · rw [sI1, if_pos ⟨rfl, rfl⟩]
        · refine hM.upC (fun a j q => by rw [sI1, if_neg (by omega), sI1, if_neg (by omega), sI1, if_neg (by omega)]) ⟨by dsimp only; omega, m2, ?_, ?_, fun w hw => ?_, fun o ho => ?_⟩
          · rw [sI1, if_pos ⟨rfl, rfl⟩]
          · rw [sI1, if_neg (by omega), sI1, if_neg (by omega), sI1, if_neg (by omega)]; exact m4
          · dsimp only at hw ⊢
            unfold app
            by_cases q : w = (aW A).1
            · rw [if_pos q, if_pos q, q, sI1, if_neg (by omega), sI1, if_neg (by omega), sI1, if_pos ⟨rfl, rfl⟩, sI1, if_neg (by omega), sI1, if_pos ⟨rfl, rfl⟩]
              exact ⟨rfl, hd, rfl, hl⟩
            · rw [if_neg q, if_neg q, sI1, if_neg (by omega), sI1, if_neg (by omega), sI1, if_neg (by omega), sI1, if_neg (by omega), sI1, if_neg (by omega), sI1, if_neg (by omega)]
              exact m5 w (by omega)
          · rw [sI1, if_neg (by omega), sI1, if_neg (by omega), sI1, if_neg (by omega), sI1, if_neg (by omega), sI1, if_neg (by omega), sI1, if_neg (by omega)]
            exact m6 o ho
    · refine ⟨-nI 2, Sc, Sm, A, ?_, ?_, ⟨hB, hS⟩, hM, rfl, Or.inl rfl⟩
      · unfold fX8_clean
        simp (disch := omega) only [cDay_y, cLine_n g2, bd_some, gd_ix, lit_0, lit_1, lit_2, lit_3, lit_4, lit_5, lit_6, lit_7, lit_8, lit_9, lit_10, lit_15, lit_16, lit_19, lit_20, lit_31, lit_35, lit_36, lit_48, lit_49, lit_53, lit_55, lit_57, lit_59, lit_60, lit_63, lit_64, lit_97, lit_102, lit_110, lit_160, lit_255, nI_add, ns_sub, ns_div, ns_le, ns_lt, ns_eq, ns_cl, pk_mul, ne10, eq_self, ↓reduceIte]
      · unfold fX9_clean
        simp (disch := omega) only [mDay_y, in_n g2 (b := 5) rfl (by omega), bd_some, gd_ix, lit_0, lit_1, lit_2, lit_3, lit_4, lit_5, lit_6, lit_7, lit_8, lit_9, lit_10, lit_15, lit_16, lit_19, lit_20, lit_31, lit_35, lit_36, lit_48, lit_49, lit_53, lit_55, lit_57, lit_59, lit_60, lit_63, lit_64, lit_97, lit_102, lit_110, lit_160, lit_255, nI_add, ns_sub, ns_div, ns_le, ns_lt, ns_eq, ns_cl, pk_mul, ne10, eq_self, ↓reduceIte]
  · refine ⟨-nI 2, Sc, Sm, A, ?_, ?_, ⟨hB, hS⟩, hM, rfl, Or.inl rfl⟩
    · unfold fX8_clean
      simp (disch := omega) only [cDay_n g1, bd_some, gd_ix, lit_0, lit_1, lit_2, lit_3, lit_4, lit_5, lit_6, lit_7, lit_8, lit_9, lit_10, lit_15, lit_16, lit_19, lit_20, lit_31, lit_35, lit_36, lit_48, lit_49, lit_53, lit_55, lit_57, lit_59, lit_60, lit_63, lit_64, lit_97, lit_102, lit_110, lit_160, lit_255, nI_add, ns_sub, ns_div, ns_le, ns_lt, ns_eq, ns_cl, pk_mul, ne10, eq_self, ↓reduceIte]
    · unfold fX9_clean
      simp (disch := omega) only [mDay_n g1, bd_some, gd_ix, lit_0, lit_1, lit_2, lit_3, lit_4, lit_5, lit_6, lit_7, lit_8, lit_9, lit_10, lit_15, lit_16, lit_19, lit_20, lit_31, lit_35, lit_36, lit_48, lit_49, lit_53, lit_55, lit_57, lit_59, lit_60, lit_63, lit_64, lit_97, lit_102, lit_110, lit_160, lit_255, nI_add, ns_sub, ns_div, ns_le, ns_lt, ns_eq, ns_cl, pk_mul, ne10, eq_self, ↓reduceIte]
theorem stp_clean_ok : stp_clean Inv := by
  rintro Sc Sm x1 x2 ⟨A, hC, hM⟩
  obtain ⟨r, Sc2, Sm2, A2, e1, e2, h1, h2, -⟩ := clean_ok hC hM x1 x2
  exact ⟨r, Sc2, Sm2, e1, e2, A2, h1, h2⟩
theorem stp_grease_ok : stp_grease Inv := by
  rintro Sc Sm x1 x2 ⟨A, ⟨hB, hS⟩, hM⟩
  by_cases g1 : rg x1 20
  · obtain ⟨d, hd, rfl⟩ := g1
    by_cases g2 : rg x2 6
    · obtain ⟨l, hl, rfl⟩ := g2
      obtain ⟨c1, c2, c3, c4, c5, c6⟩ := hB.2.2.2.1
      obtain ⟨m1, m2, m3, m4, m5, m6⟩ := hM.2.2.2.1
      by_cases hf : (aO A).1 = 4
      · refine ⟨-nI 4, Sc, Sm, ?_, ?_, A, ⟨hB, hS⟩, hM⟩
        · unfold fX8_grease fX1_addOil
          simp (disch := omega) only [cDay_y, cLine_y, bd_some, gd_ix, lit_0, lit_1, lit_2, lit_3, lit_4, lit_5, lit_6, lit_7, lit_8, lit_9, lit_10, lit_15, lit_16, lit_19, lit_20, lit_31, lit_35, lit_36, lit_48, lit_49, lit_53, lit_55, lit_57, lit_59, lit_60, lit_63, lit_64, lit_97, lit_102, lit_110, lit_160, lit_255, nI_add, ns_sub, ns_div, ns_le, ns_lt, ns_eq, ns_cl, pk_mul, ne10, eq_self, ↓reduceIte, c4, hf, Nat.lt_irrefl]
        · unfold fX9_grease
          simp (disch := omega) only [mDay_y, in_y, bd_some, gd_ix, lit_0, lit_1, lit_2, lit_3, lit_4, lit_5, lit_6, lit_7, lit_8, lit_9, lit_10, lit_15, lit_16, lit_19, lit_20, lit_31, lit_35, lit_36, lit_48, lit_49, lit_53, lit_55, lit_57, lit_59, lit_60, lit_63, lit_64, lit_97, lit_102, lit_110, lit_160, lit_255, nI_add, ns_sub, ns_div, ns_le, ns_lt, ns_eq, ns_cl, pk_mul, ne10, eq_self, ↓reduceIte, m4, hf]
      · refine ⟨nI ((aO A).1 + 1), sI (sI (sI (sI Sc 10 (aO A).1 (nI d)) 11 (aO A).1 (nI l)) 7 5 (nI ((aO A).1 + 1))) 0 17 (nI 1), sI (sI (sI Sm 10 (aO A).1 (nI d)) 11 (aO A).1 (nI l)) 0 13 (nI ((aO A).1 + 1)), ?_, ?_, (A.1, A.2.1, A.2.2.1, aW A, ((aO A).1 + 1, app (aO A).2.1 (aO A).1 d, app (aO A).2.2 (aO A).1 l), A.2.2.2.2.2), ⟨?_, Or.inl ?_⟩, ?_⟩
        · unfold fX8_grease fX1_addOil
          simp (disch := omega) only [cDay_y, cLine_y, bd_some, gd_ix, lit_0, lit_1, lit_2, lit_3, lit_4, lit_5, lit_6, lit_7, lit_8, lit_9, lit_10, lit_15, lit_16, lit_19, lit_20, lit_31, lit_35, lit_36, lit_48, lit_49, lit_53, lit_55, lit_57, lit_59, lit_60, lit_63, lit_64, lit_97, lit_102, lit_110, lit_160, lit_255, nI_add, ns_sub, ns_div, ns_le, ns_lt, ns_eq, ns_cl, pk_mul, ne10, eq_self, ↓reduceIte, c4, sI1, sI2, sC1, sC2, sL1, sL2, Nat.reduceEqDiff, false_and, true_and, show (aO A).1 < 4 from by omega]
        · unfold fX9_grease
          simp (disch := omega) only [mDay_y, in_y, bd_some, gd_ix, lit_0, lit_1, lit_2, lit_3, lit_4, lit_5, lit_6, lit_7, lit_8, lit_9, lit_10, lit_15, lit_16, lit_19, lit_20, lit_31, lit_35, lit_36, lit_48, lit_49, lit_53, lit_55, lit_57, lit_59, lit_60, lit_63, lit_64, lit_97, lit_102, lit_110, lit_160, lit_255, nI_add, ns_sub, ns_div, ns_le, ns_lt, ns_eq, ns_cl, pk_mul, ne10, eq_self, ↓reduceIte, m4, hf, sI1, sI2, sC1, sC2, sL1, sL2, Nat.reduceEqDiff, false_and, and_self]
        · refine hB.upC (fun a j q => by rw [sI1, if_neg (by omega), sI1, if_neg (by omega), sI1, if_neg (by omega), sI1, if_neg (by omega)]) ⟨c1, by dsimp only; omega, ?_, ?_, fun w hw => ?_, fun o ho => ?_⟩
          · rw [sI1, if_neg (by omega), sI1, if_neg (by omega), sI1, if_neg (by omega), sI1, if_neg (by omega)]; exact c3
          · rw [sI1, if_neg (by omega), sI1, if_pos ⟨rfl, rfl⟩]
          · rw [sI1, if_neg (by omega), sI1, if_neg (by omega), sI1, if_neg (by omega), sI1, if_neg (by omega), sI1, if_neg (by omega), sI1, if_neg (by omega), sI1, if_neg (by omega), sI1, if_neg (by omega)]
            exact c5 w hw
          · dsimp only at ho ⊢
            unfold app
            by_cases q : o = (aO A).1
            · rw [if_pos q, if_pos q, q, sI1, if_neg (by omega), sI1, if_neg (by omega), sI1, if_neg (by omega), sI1, if_pos ⟨rfl, rfl⟩, sI1, if_neg (by omega), sI1, if_neg (by omega), sI1, if_pos ⟨rfl, rfl⟩]
              exact ⟨rfl, hd, rfl, hl⟩
            · rw [if_neg q, if_neg q, sI1, if_neg (by omega), sI1, if_neg (by omega), sI1, if_neg (by omega), sI1, if_neg (by omega), sI1, if_neg (by omega), sI1, if_neg (by omega), sI1, if_neg (by omega), sI1, if_neg (by omega)]
              exact c6 o (by omega)
        · rw [sI1, if_pos ⟨rfl, rfl⟩]
        · refine hM.upC (fun a j q => by rw [sI1, if_neg (by omega), sI1, if_neg (by omega), sI1, if_neg (by omega)]) ⟨m1, by dsimp only; omega, ?_, ?_, fun w hw => ?_, fun o ho => ?_⟩
          · rw [sI1, if_neg (by omega), sI1, if_neg (by omega), sI1, if_neg (by omega)]; exact m3
          · rw [sI1, if_pos ⟨rfl, rfl⟩]
          · rw [sI1, if_neg (by omega), sI1, if_neg (by omega), sI1, if_neg (by omega), sI1, if_neg (by omega), sI1, if_neg (by omega), sI1, if_neg (by omega)]
            exact m5 w hw
          · dsimp only at ho ⊢
            unfold app
            by_cases q : o = (aO A).1
            · rw [if_pos q, if_pos q, q, sI1, if_neg (by omega), sI1, if_neg (by omega), sI1, if_pos ⟨rfl, rfl⟩, sI1, if_neg (by omega), sI1, if_pos ⟨rfl, rfl⟩]
              exact ⟨rfl, hd, rfl, hl⟩
            · rw [if_neg q, if_neg q, sI1, if_neg (by omega), sI1, if_neg (by omega), sI1, if_neg (by omega), sI1, if_neg (by omega), sI1, if_neg (by omega), sI1, if_neg (by omega)]
              exact m6 o (by omega)
    · refine ⟨-nI 2, Sc, Sm, ?_, ?_, A, ⟨hB, hS⟩, hM⟩
      · unfold fX8_grease
        simp (disch := omega) only [cDay_y, cLine_n g2, bd_some, gd_ix, lit_0, lit_1, lit_2, lit_3, lit_4, lit_5, lit_6, lit_7, lit_8, lit_9, lit_10, lit_15, lit_16, lit_19, lit_20, lit_31, lit_35, lit_36, lit_48, lit_49, lit_53, lit_55, lit_57, lit_59, lit_60, lit_63, lit_64, lit_97, lit_102, lit_110, lit_160, lit_255, nI_add, ns_sub, ns_div, ns_le, ns_lt, ns_eq, ns_cl, pk_mul, ne10, eq_self, ↓reduceIte]
      · unfold fX9_grease
        simp (disch := omega) only [mDay_y, in_n g2 (b := 5) rfl (by omega), bd_some, gd_ix, lit_0, lit_1, lit_2, lit_3, lit_4, lit_5, lit_6, lit_7, lit_8, lit_9, lit_10, lit_15, lit_16, lit_19, lit_20, lit_31, lit_35, lit_36, lit_48, lit_49, lit_53, lit_55, lit_57, lit_59, lit_60, lit_63, lit_64, lit_97, lit_102, lit_110, lit_160, lit_255, nI_add, ns_sub, ns_div, ns_le, ns_lt, ns_eq, ns_cl, pk_mul, ne10, eq_self, ↓reduceIte]
  · refine ⟨-nI 2, Sc, Sm, ?_, ?_, A, ⟨hB, hS⟩, hM⟩
    · unfold fX8_grease
      simp (disch := omega) only [cDay_n g1, bd_some, gd_ix, lit_0, lit_1, lit_2, lit_3, lit_4, lit_5, lit_6, lit_7, lit_8, lit_9, lit_10, lit_15, lit_16, lit_19, lit_20, lit_31, lit_35, lit_36, lit_48, lit_49, lit_53, lit_55, lit_57, lit_59, lit_60, lit_63, lit_64, lit_97, lit_102, lit_110, lit_160, lit_255, nI_add, ns_sub, ns_div, ns_le, ns_lt, ns_eq, ns_cl, pk_mul, ne10, eq_self, ↓reduceIte]
    · unfold fX9_grease
      simp (disch := omega) only [mDay_n g1, bd_some, gd_ix, lit_0, lit_1, lit_2, lit_3, lit_4, lit_5, lit_6, lit_7, lit_8, lit_9, lit_10, lit_15, lit_16, lit_19, lit_20, lit_31, lit_35, lit_36, lit_48, lit_49, lit_53, lit_55, lit_57, lit_59, lit_60, lit_63, lit_64, lit_97, lit_102, lit_110, lit_160, lit_255, nI_add, ns_sub, ns_div, ns_le, ns_lt, ns_eq, ns_cl, pk_mul, ne10, eq_self, ↓reduceIte]
theorem le0_sub1 {n : Nat} (h : n < 2147483648) : (nI 0 ≤ nI n - nI 1) = ¬ n = 0 := by
  apply propext
  by_cases q : n = 0
  · subst q
    have : ¬ nI 0 ≤ nI 0 - nI 1 := by decide
    simp [this]
  · rw [ns_sub (by omega), ns_le (by omega) (by omega)]
    simp [q]
theorem sub_0 {g : Nat} : nI g - nI 0 = nI g := by rw [ns_sub (by omega)]; rfl
theorem stp_back_ok : stp_back Inv := by
  rintro Sc Sm x1 ⟨A, ⟨hB, hS⟩, hM⟩
  by_cases g1 : rg x1 2
  · obtain ⟨t, ht, rfl⟩ := g1
    have ht2 : t = 0 ∨ t = 1 := by omega
    obtain ⟨c1, c2, c3, c4, c5, c6⟩ := hB.2.2.2.1
    obtain ⟨m1, m2, m3, m4, m5, m6⟩ := hM.2.2.2.1
    rcases ht2 with rfl | rfl
    · by_cases hf : (aW A).1 = 0
      · refine ⟨-nI 3, Sc, Sm, ?_, ?_, A, ⟨hB, hS⟩, hM⟩
        · unfold fX8_back
          simp (disch := omega) only [cEith_y, bd_some, gd_ix, lit_0, lit_1, lit_2, lit_3, lit_4, lit_5, lit_6, lit_7, lit_8, lit_9, lit_10, lit_15, lit_16, lit_19, lit_20, lit_31, lit_35, lit_36, lit_48, lit_49, lit_53, lit_55, lit_57, lit_59, lit_60, lit_63, lit_64, lit_97, lit_102, lit_110, lit_160, lit_255, nI_add, ns_sub, ns_div, ns_le, ns_lt, ns_eq, ns_cl, pk_mul, ne10, eq_self, ↓reduceIte, c3, le0_sub1, hf, not_true_eq_false]
        · unfold fX9_back
          simp (disch := omega) only [in_y, bd_some, gd_ix, lit_0, lit_1, lit_2, lit_3, lit_4, lit_5, lit_6, lit_7, lit_8, lit_9, lit_10, lit_15, lit_16, lit_19, lit_20, lit_31, lit_35, lit_36, lit_48, lit_49, lit_53, lit_55, lit_57, lit_59, lit_60, lit_63, lit_64, lit_97, lit_102, lit_110, lit_160, lit_255, nI_add, ns_sub, ns_div, ns_le, ns_lt, ns_eq, ns_cl, pk_mul, ne10, eq_self, ↓reduceIte, m3, hf]
      · refine ⟨nI ((aW A).1 - 1), sI (sI Sc 7 4 (nI ((aW A).1 - 1))) 0 17 (nI 1), sI (sI Sm 0 10 (nI ((aW A).1 - 1))) 0 13 (nI (aO A).1), ?_, ?_, (A.1, A.2.1, A.2.2.1, ((aW A).1 - 1, (aW A).2), aO A, A.2.2.2.2.2), ⟨?_, Or.inl ?_⟩, ?_⟩
        · unfold fX8_back
          simp (disch := omega) only [cEith_y, bd_some, gd_ix, lit_0, lit_1, lit_2, lit_3, lit_4, lit_5, lit_6, lit_7, lit_8, lit_9, lit_10, lit_15, lit_16, lit_19, lit_20, lit_31, lit_35, lit_36, lit_48, lit_49, lit_53, lit_55, lit_57, lit_59, lit_60, lit_63, lit_64, lit_97, lit_102, lit_110, lit_160, lit_255, nI_add, ns_sub, ns_div, ns_le, ns_lt, ns_eq, ns_cl, pk_mul, ne10, eq_self, ↓reduceIte, c3, show 0 ≤ (aW A).1 - 1 from by omega]
        · unfold fX9_back
          simp (disch := omega) only [in_y, bd_some, gd_ix, lit_0, lit_1, lit_2, lit_3, lit_4, lit_5, lit_6, lit_7, lit_8, lit_9, lit_10, lit_15, lit_16, lit_19, lit_20, lit_31, lit_35, lit_36, lit_48, lit_49, lit_53, lit_55, lit_57, lit_59, lit_60, lit_63, lit_64, lit_97, lit_102, lit_110, lit_160, lit_255, nI_add, ns_sub, ns_div, ns_le, ns_lt, ns_eq, ns_cl, pk_mul, ne10, eq_self, ↓reduceIte, m3, m4, hf, sI1, sI2, sC1, sC2, sL1, sL2, Nat.reduceEqDiff, and_false, Nat.sub_zero, show ¬ (0 : Nat) = 1 from by omega]
        · refine hB.upC (fun a j q => by rw [sI1, if_neg (by omega), sI1, if_neg (by omega)]) ⟨by dsimp only; omega, c2, ?_, ?_, fun w hw => ?_, fun o ho => ?_⟩
          · rw [sI1, if_neg (by omega), sI1, if_pos ⟨rfl, rfl⟩]
          · rw [sI1, if_neg (by omega), sI1, if_neg (by omega)]; exact c4
          · dsimp only at hw ⊢
            rw [sI1, if_neg (by omega), sI1, if_neg (by omega), sI1, if_neg (by omega), sI1, if_neg (by omega)]
            exact c5 w (by omega)
          · rw [sI1, if_neg (by omega), sI1, if_neg (by omega), sI1, if_neg (by omega), sI1, if_neg (by omega)]
            exact c6 o ho
        · rw [sI1, if_pos ⟨rfl, rfl⟩]
        · refine hM.upC (fun a j q => by rw [sI1, if_neg (by omega), sI1, if_neg (by omega)]) ⟨by dsimp only; omega, m2, ?_, ?_, fun w hw => ?_, fun o ho => ?_⟩
          · rw [sI1, if_neg (by omega), sI1, if_pos ⟨rfl, rfl⟩]
          · rw [sI1, if_pos ⟨rfl, rfl⟩]
          · dsimp only at hw ⊢
            rw [sI1, if_neg (by omega), sI1, if_neg (by omega), sI1, if_neg (by omega), sI1, if_neg (by omega)]
            exact m5 w (by omega)
          · rw [sI1, if_neg (by omega), sI1, if_neg (by omega), sI1, if_neg (by omega), sI1, if_neg (by omega)]
            exact m6 o ho
    · by_cases hf : (aO A).1 = 0
      · refine ⟨-nI 3, Sc, Sm, ?_, ?_, A, ⟨hB, hS⟩, hM⟩
        · unfold fX8_back
          simp (disch := omega) only [cEith_y, bd_some, gd_ix, lit_0, lit_1, lit_2, lit_3, lit_4, lit_5, lit_6, lit_7, lit_8, lit_9, lit_10, lit_15, lit_16, lit_19, lit_20, lit_31, lit_35, lit_36, lit_48, lit_49, lit_53, lit_55, lit_57, lit_59, lit_60, lit_63, lit_64, lit_97, lit_102, lit_110, lit_160, lit_255, nI_add, ns_sub, ns_div, ns_le, ns_lt, ns_eq, ns_cl, pk_mul, ne10, eq_self, ↓reduceIte, c4, le0_sub1, hf, not_true_eq_false]
        · unfold fX9_back
          simp (disch := omega) only [in_y, bd_some, gd_ix, lit_0, lit_1, lit_2, lit_3, lit_4, lit_5, lit_6, lit_7, lit_8, lit_9, lit_10, lit_15, lit_16, lit_19, lit_20, lit_31, lit_35, lit_36, lit_48, lit_49, lit_53, lit_55, lit_57, lit_59, lit_60, lit_63, lit_64, lit_97, lit_102, lit_110, lit_160, lit_255, nI_add, ns_sub, ns_div, ns_le, ns_lt, ns_eq, ns_cl, pk_mul, ne10, eq_self, ↓reduceIte, m4, hf]
      · refine ⟨nI ((aO A).1 - 1), sI (sI Sc 7 5 (nI ((aO A).1 - 1))) 0 17 (nI 1), sI (sI Sm 0 10 (nI (aW A).1)) 0 13 (nI ((aO A).1 - 1)), ?_, ?_, (A.1, A.2.1, A.2.2.1, aW A, ((aO A).1 - 1, (aO A).2), A.2.2.2.2.2), ⟨?_, Or.inl ?_⟩, ?_⟩
        · unfold fX8_back
          simp (disch := omega) only [cEith_y, bd_some, gd_ix, lit_0, lit_1, lit_2, lit_3, lit_4, lit_5, lit_6, lit_7, lit_8, lit_9, lit_10, lit_15, lit_16, lit_19, lit_20, lit_31, lit_35, lit_36, lit_48, lit_49, lit_53, lit_55, lit_57, lit_59, lit_60, lit_63, lit_64, lit_97, lit_102, lit_110, lit_160, lit_255, nI_add, ns_sub, ns_div, ns_le, ns_lt, ns_eq, ns_cl, pk_mul, ne10, eq_self, ↓reduceIte, c4, show 0 ≤ (aO A).1 - 1 from by omega]
        · unfold fX9_back
          simp (disch := omega) only [in_y, bd_some, gd_ix, lit_0, lit_1, lit_2, lit_3, lit_4, lit_5, lit_6, lit_7, lit_8, lit_9, lit_10, lit_15, lit_16, lit_19, lit_20, lit_31, lit_35, lit_36, lit_48, lit_49, lit_53, lit_55, lit_57, lit_59, lit_60, lit_63, lit_64, lit_97, lit_102, lit_110, lit_160, lit_255, nI_add, ns_sub, ns_div, ns_le, ns_lt, ns_eq, ns_cl, pk_mul, ne10, eq_self, ↓reduceIte, m3, m4, hf, sI1, sI2, sC1, sC2, sL1, sL2, Nat.reduceEqDiff, and_false, Nat.sub_zero]
        · refine hB.upC (fun a j q => by rw [sI1, if_neg (by omega), sI1, if_neg (by omega)]) ⟨c1, by dsimp only; omega, ?_, ?_, fun w hw => ?_, fun o ho => ?_⟩
          · rw [sI1, if_neg (by omega), sI1, if_neg (by omega)]; exact c3
          · rw [sI1, if_neg (by omega), sI1, if_pos ⟨rfl, rfl⟩]
          · rw [sI1, if_neg (by omega), sI1, if_neg (by omega), sI1, if_neg (by omega), sI1, if_neg (by omega)]
            exact c5 w hw
          · dsimp only at ho ⊢
            rw [sI1, if_neg (by omega), sI1, if_neg (by omega), sI1, if_neg (by omega), sI1, if_neg (by omega)]
            exact c6 o (by omega)
        · rw [sI1, if_pos ⟨rfl, rfl⟩]
        · refine hM.upC (fun a j q => by rw [sI1, if_neg (by omega), sI1, if_neg (by omega)]) ⟨m1, by dsimp only; omega, ?_, ?_, fun w hw => ?_, fun o ho => ?_⟩
          · rw [sI1, if_neg (by omega), sI1, if_pos ⟨rfl, rfl⟩]
          · rw [sI1, if_pos ⟨rfl, rfl⟩]
          · rw [sI1, if_neg (by omega), sI1, if_neg (by omega), sI1, if_neg (by omega), sI1, if_neg (by omega)]
            exact m5 w hw
          · dsimp only at ho ⊢
            rw [sI1, if_neg (by omega), sI1, if_neg (by omega), sI1, if_neg (by omega), sI1, if_neg (by omega)]
            exact m6 o (by omega)
  · refine ⟨-nI 2, Sc, Sm, ?_, ?_, A, ⟨hB, hS⟩, hM⟩
    · unfold fX8_back
      simp (disch := omega) only [cEith_n g1, bd_some, gd_ix, lit_0, lit_1, lit_2, lit_3, lit_4, lit_5, lit_6, lit_7, lit_8, lit_9, lit_10, lit_15, lit_16, lit_19, lit_20, lit_31, lit_35, lit_36, lit_48, lit_49, lit_53, lit_55, lit_57, lit_59, lit_60, lit_63, lit_64, lit_97, lit_102, lit_110, lit_160, lit_255, nI_add, ns_sub, ns_div, ns_le, ns_lt, ns_eq, ns_cl, pk_mul, ne10, eq_self, ↓reduceIte]
    · unfold fX9_back
      simp (disch := omega) only [in_n g1 (b := 1) rfl (by omega), bd_some, gd_ix, lit_0, lit_1, lit_2, lit_3, lit_4, lit_5, lit_6, lit_7, lit_8, lit_9, lit_10, lit_15, lit_16, lit_19, lit_20, lit_31, lit_35, lit_36, lit_48, lit_49, lit_53, lit_55, lit_57, lit_59, lit_60, lit_63, lit_64, lit_97, lit_102, lit_110, lit_160, lit_255, nI_add, ns_sub, ns_div, ns_le, ns_lt, ns_eq, ns_cl, pk_mul, ne10, eq_self, ↓reduceIte]
