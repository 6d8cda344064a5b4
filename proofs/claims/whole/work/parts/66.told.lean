/-! type, wipe, undo, fault, fine, clean, grease, back, seen, forget -/
def Inv (Sc Sm : Sg) : Prop := ∃ A, RC Sc A ∧ RM Sm A
theorem stp_type_ok : stp_type Inv := by
  rintro Sc Sm x1 x2 ⟨A, ⟨hB, hS⟩, hM⟩
  by_cases g1 : rg x1 2
  · obtain ⟨t, ht, rfl⟩ := g1
    by_cases g2 : rg x2 256
    · obtain ⟨b, hb, rfl⟩ := g2
      have ht2 : t = 0 ∨ t = 1 := by omega
      rcases ht2 with rfl | rfl
      · obtain ⟨c1, c2, c3⟩ := hB.1
        obtain ⟨m1, m2, m3⟩ := hM.1
        by_cases hf : (aT A).1 = 20
        · refine ⟨-nI 4, Sc, Sm, ?_, ?_, A, ⟨hB, hS⟩, hM⟩
          · unfold fX8_type fX7_add
            simp (disch := omega) only [cText_y, fX8_textOf, txb, tlen, BEq.rfl, Bool.true_or, gd_tt, bd_some, gd_ix, lit_0, lit_1, lit_2, lit_3, lit_4, lit_5, lit_6, lit_7, lit_8, lit_9, lit_10, lit_15, lit_16, lit_19, lit_20, lit_31, lit_35, lit_36, lit_48, lit_49, lit_53, lit_55, lit_57, lit_59, lit_60, lit_63, lit_64, lit_97, lit_102, lit_110, lit_160, lit_255, nI_add, ns_sub, ns_div, ns_le, ns_lt, ns_eq, ns_cl, pk_mul, ne10, eq_self, ↓reduceIte, c2, hf, show ¬ b < 0 from by omega, show b ≤ 255 from by omega, show Int32.ofNat 20 = nI 20 from rfl, Nat.lt_irrefl]
          · unfold fX9_type
            simp (disch := omega) only [mText_y, in_y, bd_some, gd_ix, lit_0, lit_1, lit_2, lit_3, lit_4, lit_5, lit_6, lit_7, lit_8, lit_9, lit_10, lit_15, lit_16, lit_19, lit_20, lit_31, lit_35, lit_36, lit_48, lit_49, lit_53, lit_55, lit_57, lit_59, lit_60, lit_63, lit_64, lit_97, lit_102, lit_110, lit_160, lit_255, nI_add, ns_sub, ns_div, ns_le, ns_lt, ns_eq, ns_cl, pk_mul, ne10, eq_self, ↓reduceIte, m2, hf]
        · generalize hSc : sI (sI (sI Sc (1 + 1) (aT A).1 (nI b)) 1 1 (nI ((aT A).1 + 1))) 0 17 (nI 1) = Sc2
          generalize hSm : sI (sI Sm 2 (aT A).1 (nI b)) 1 0 (nI ((aT A).1 + 1)) = Sm2
          refine ⟨nI ((aT A).1 + 1), Sc2, Sm2, ?_, ?_, (((aT A).1 + 1, fun i => if i = (aT A).1 then b else (aT A).2 i), A.2), ⟨?_, Or.inl ?_⟩, ?_⟩
          · unfold fX8_type fX7_add
            rw [← hSc]
            simp (disch := omega) only [cText_y, fX8_textOf, txb, tlen, BEq.rfl, Bool.true_or, gd_tt, bd_some, gd_ix, lit_0, lit_1, lit_2, lit_3, lit_4, lit_5, lit_6, lit_7, lit_8, lit_9, lit_10, lit_15, lit_16, lit_19, lit_20, lit_31, lit_35, lit_36, lit_48, lit_49, lit_53, lit_55, lit_57, lit_59, lit_60, lit_63, lit_64, lit_97, lit_102, lit_110, lit_160, lit_255, nI_add, ns_sub, ns_div, ns_le, ns_lt, ns_eq, ns_cl, pk_mul, ne10, eq_self, ↓reduceIte, c2, sI1, sI2, sC1, sC2, sL1, sL2, Nat.reduceEqDiff, Nat.reduceAdd, false_and, and_false, true_and, show ¬ b < 0 from by omega, show b ≤ 255 from by omega, show Int32.ofNat 20 = nI 20 from rfl, show (aT A).1 < 20 from by omega]
          · unfold fX9_type
            rw [← hSm]
            simp (disch := omega) only [mText_y, in_y, bd_some, gd_ix, lit_0, lit_1, lit_2, lit_3, lit_4, lit_5, lit_6, lit_7, lit_8, lit_9, lit_10, lit_15, lit_16, lit_19, lit_20, lit_31, lit_35, lit_36, lit_48, lit_49, lit_53, lit_55, lit_57, lit_59, lit_60, lit_63, lit_64, lit_97, lit_102, lit_110, lit_160, lit_255, nI_add, ns_sub, ns_div, ns_le, ns_lt, ns_eq, ns_cl, pk_mul, ne10, eq_self, ↓reduceIte, m2, hf, sI1, sI2, sC1, sC2, sL1, sL2, Nat.reduceEqDiff, false_and, and_self, Nat.mul_zero, Nat.zero_add]
          · refine hB.upT (fun a j q => by rw [← hSc, sI1, if_neg (by omega), sI1, if_neg (by omega), sI1, if_neg (by omega)]) ⟨by dsimp only; omega, by rw [← hSc, sI1, if_neg (by omega), sI1, if_pos ⟨rfl, rfl⟩], fun i hi => ?_⟩
            dsimp only at hi ⊢
            rw [← hSc, sI1, if_neg (by omega), sI1, if_neg (by omega), sI1]
            by_cases q : i = (aT A).1
            · rw [if_pos ⟨rfl, q⟩, if_pos q]; exact ⟨rfl, by omega⟩
            · rw [if_neg (by omega), if_neg q]; exact c3 i (by omega)
          · rw [← hSc, sI1, if_pos ⟨rfl, rfl⟩]
          · refine hM.upT (fun a j q => by rw [← hSm, sI1, if_neg (by omega), sI1, if_neg (by omega)]) ⟨by dsimp only; omega, by rw [← hSm, sI1, if_pos ⟨rfl, rfl⟩], fun i hi => ?_⟩
            dsimp only at hi ⊢
            rw [← hSm, sI1, if_neg (by omega), sI1]
            by_cases q : i = (aT A).1
            · rw [if_pos ⟨rfl, by omega⟩, if_pos q]; exact ⟨rfl, by omega⟩
            · rw [if_neg (by omega), if_neg q]; exact m3 i (by omega)
      · obtain ⟨c1, c2, c3⟩ := hB.2.1
        obtain ⟨m1, m2, m3⟩ := hM.2.1
        by_cases hf : (aU A).1 = 55
        · refine ⟨-nI 4, Sc, Sm, ?_, ?_, A, ⟨hB, hS⟩, hM⟩
          · unfold fX8_type fX7_add
            simp (disch := omega) only [cText_y, fX8_textOf, txb, tlen, BEq.rfl, Bool.or_true, gd_tt, bd_some, gd_ix, lit_0, lit_1, lit_2, lit_3, lit_4, lit_5, lit_6, lit_7, lit_8, lit_9, lit_10, lit_15, lit_16, lit_19, lit_20, lit_31, lit_35, lit_36, lit_48, lit_49, lit_53, lit_55, lit_57, lit_59, lit_60, lit_63, lit_64, lit_97, lit_102, lit_110, lit_160, lit_255, nI_add, ns_sub, ns_div, ns_le, ns_lt, ns_eq, ns_cl, pk_mul, ne10, eq_self, ↓reduceIte, c2, hf, Nat.reduceEqDiff, show ¬ b < 0 from by omega, show b ≤ 255 from by omega, show Int32.ofNat 55 = nI 55 from rfl, Nat.lt_irrefl]
          · unfold fX9_type
            simp (disch := omega) only [mText_y, in_y, bd_some, gd_ix, lit_0, lit_1, lit_2, lit_3, lit_4, lit_5, lit_6, lit_7, lit_8, lit_9, lit_10, lit_15, lit_16, lit_19, lit_20, lit_31, lit_35, lit_36, lit_48, lit_49, lit_53, lit_55, lit_57, lit_59, lit_60, lit_63, lit_64, lit_97, lit_102, lit_110, lit_160, lit_255, nI_add, ns_sub, ns_div, ns_le, ns_lt, ns_eq, ns_cl, pk_mul, ne10, eq_self, ↓reduceIte, m2, hf, Nat.reduceEqDiff]
        · generalize hSc : sI (sI (sI Sc (3 + 1) (aU A).1 (nI b)) 3 1 (nI ((aU A).1 + 1))) 0 17 (nI 1) = Sc2
          generalize hSm : sI (sI Sm 2 (55 * 1 + (aU A).1) (nI b)) 1 1 (nI ((aU A).1 + 1)) = Sm2
          refine ⟨nI ((aU A).1 + 1), Sc2, Sm2, ?_, ?_, (A.1, ((aU A).1 + 1, fun i => if i = (aU A).1 then b else (aU A).2 i), A.2.2), ⟨?_, Or.inl ?_⟩, ?_⟩
          · unfold fX8_type fX7_add
            rw [← hSc]
            simp (disch := omega) only [cText_y, fX8_textOf, txb, tlen, BEq.rfl, Bool.or_true, gd_tt, bd_some, gd_ix, lit_0, lit_1, lit_2, lit_3, lit_4, lit_5, lit_6, lit_7, lit_8, lit_9, lit_10, lit_15, lit_16, lit_19, lit_20, lit_31, lit_35, lit_36, lit_48, lit_49, lit_53, lit_55, lit_57, lit_59, lit_60, lit_63, lit_64, lit_97, lit_102, lit_110, lit_160, lit_255, nI_add, ns_sub, ns_div, ns_le, ns_lt, ns_eq, ns_cl, pk_mul, ne10, eq_self, ↓reduceIte, c2, sI1, sI2, sC1, sC2, sL1, sL2, Nat.reduceEqDiff, Nat.reduceAdd, false_and, and_false, true_and, show ¬ b < 0 from by omega, show b ≤ 255 from by omega, show Int32.ofNat 55 = nI 55 from rfl, show (aU A).1 < 55 from by omega]
          · unfold fX9_type
            rw [← hSm]
            simp (disch := omega) only [mText_y, in_y, bd_some, gd_ix, lit_0, lit_1, lit_2, lit_3, lit_4, lit_5, lit_6, lit_7, lit_8, lit_9, lit_10, lit_15, lit_16, lit_19, lit_20, lit_31, lit_35, lit_36, lit_48, lit_49, lit_53, lit_55, lit_57, lit_59, lit_60, lit_63, lit_64, lit_97, lit_102, lit_110, lit_160, lit_255, nI_add, ns_sub, ns_div, ns_le, ns_lt, ns_eq, ns_cl, pk_mul, ne10, eq_self, ↓reduceIte, m2, hf, sI1, sI2, sC1, sC2, sL1, sL2, Nat.reduceEqDiff, false_and, and_self]
          · refine hB.upU (fun a j q => by rw [← hSc, sI1, if_neg (by omega), sI1, if_neg (by omega), sI1, if_neg (by omega)]) ⟨by dsimp only; omega, by rw [← hSc, sI1, if_neg (by omega), sI1, if_pos ⟨rfl, rfl⟩], fun i hi => ?_⟩
            dsimp only at hi ⊢
            rw [← hSc, sI1, if_neg (by omega), sI1, if_neg (by omega), sI1]
            by_cases q : i = (aU A).1
            · rw [if_pos ⟨rfl, q⟩, if_pos q]; exact ⟨rfl, by omega⟩
            · rw [if_neg (by omega), if_neg q]; exact c3 i (by omega)
          · rw [← hSc, sI1, if_pos ⟨rfl, rfl⟩]
          · refine hM.upU (fun a j q => by rw [← hSm, sI1, if_neg (by omega), sI1, if_neg (by omega)]) ⟨by dsimp only; omega, by rw [← hSm, sI1, if_pos ⟨rfl, rfl⟩], fun i hi => ?_⟩
            dsimp only at hi ⊢
            rw [← hSm, sI1, if_neg (by omega), sI1]
            by_cases q : i = (aU A).1
            · rw [if_pos ⟨rfl, by omega⟩, if_pos q]; exact ⟨rfl, by omega⟩
            · rw [if_neg (by omega), if_neg q]; exact m3 i (by omega)
    · refine ⟨-nI 2, Sc, Sm, ?_, ?_, A, ⟨hB, hS⟩, hM⟩
      · unfold fX8_type
        rw [cText_y ht, bd_some, if_neg (by decide)]
        by_cases q : x2 < 0
        · rw [if_pos q]; rfl
        · rw [if_neg q, if_neg ?_]
          · rfl
          · rcases rg_no2 (by omega) g2 (b := 255) rfl with z | z
            · exact absurd z q
            · rw [fa_lt] at z
              rw [fa_le]
              show ¬ x2.toInt ≤ (nI 255).toInt
              omega
      · unfold fX9_type
        simp (disch := omega) only [mText_y ht, in_n g2 (b := 255) rfl (by omega), bd_some, gd_ix, lit_0, lit_1, lit_2, lit_3, lit_4, lit_5, lit_6, lit_7, lit_8, lit_9, lit_10, lit_15, lit_16, lit_19, lit_20, lit_31, lit_35, lit_36, lit_48, lit_49, lit_53, lit_55, lit_57, lit_59, lit_60, lit_63, lit_64, lit_97, lit_102, lit_110, lit_160, lit_255, nI_add, ns_sub, ns_div, ns_le, ns_lt, ns_eq, ns_cl, pk_mul, ne10, eq_self, ↓reduceIte]
  · refine ⟨-nI 2, Sc, Sm, ?_, ?_, A, ⟨hB, hS⟩, hM⟩
    · unfold fX8_type
      simp (disch := omega) only [cText_n g1, bd_some, gd_ix, lit_0, lit_1, lit_2, lit_3, lit_4, lit_5, lit_6, lit_7, lit_8, lit_9, lit_10, lit_15, lit_16, lit_19, lit_20, lit_31, lit_35, lit_36, lit_48, lit_49, lit_53, lit_55, lit_57, lit_59, lit_60, lit_63, lit_64, lit_97, lit_102, lit_110, lit_160, lit_255, nI_add, ns_sub, ns_div, ns_le, ns_lt, ns_eq, ns_cl, pk_mul, ne10, eq_self, ↓reduceIte]
    · unfold fX9_type
      simp (disch := omega) only [mText_n g1, bd_some, gd_ix, lit_0, lit_1, lit_2, lit_3, lit_4, lit_5, lit_6, lit_7, lit_8, lit_9, lit_10, lit_15, lit_16, lit_19, lit_20, lit_31, lit_35, lit_36, lit_48, lit_49, lit_53, lit_55, lit_57, lit_59, lit_60, lit_63, lit_64, lit_97, lit_102, lit_110, lit_160, lit_255, nI_add, ns_sub, ns_div, ns_le, ns_lt, ns_eq, ns_cl, pk_mul, ne10, eq_self, ↓reduceIte]
