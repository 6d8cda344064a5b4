/-! sheet, lose, put, get -/
def apI (f : Nat → Nat → Int32) (s : Nat) (g : Nat → Int32) : Nat → Nat → Int32 := fun j => if j = s then g else f j
theorem renew_ok {S : Sg} {s : Nat} : ∃ S', lp (bX5_renew_22 (44 + 2 * s)) fl (nI 0) S = some (nI 60, S') ∧ fr (44 + 2 * s + 1) (44 + 2 * s + 1) S S' ∧ ∀ i, i < 60 → S'.1 (44 + 2 * s + 1) i = nI 0 := by
  obtain ⟨a, S', e1, rfl, q1, q2⟩ := lp_invF (B := bX5_renew_22 (44 + 2 * s)) (fun i a Sx => a = nI i ∧ fr (44 + 2 * s + 1) (44 + 2 * s + 1) S Sx ∧ ∀ k, k < i → Sx.1 (44 + 2 * s + 1) k = nI 0) (fun a Sx => a = nI 60 ∧ fr (44 + 2 * s + 1) (44 + 2 * s + 1) S Sx ∧ ∀ k, k < 60 → Sx.1 (44 + 2 * s + 1) k = nI 0) 60 (by omega) (by
    rintro i a Sx hi ⟨rfl, hf, hr⟩
    by_cases hin : i < 60
    · refine Or.inl ⟨hin, nI (i + 1), sI Sx (44 + 2 * s + 1) i (nI 0), fun rec => ?_, rfl, hf.I (by omega) (by omega), fun d hd => ?_⟩
      · simp (disch := omega) only [bX5_renew_22, bd_some, gd_ix, lit_0, lit_1, lit_2, lit_3, lit_4, lit_5, lit_6, lit_7, lit_8, lit_9, lit_10, lit_15, lit_16, lit_19, lit_20, lit_31, lit_35, lit_36, lit_48, lit_49, lit_53, lit_55, lit_57, lit_59, lit_60, lit_63, lit_64, lit_97, lit_102, lit_110, lit_160, lit_255, nI_add, ns_sub, ns_div, ns_le, ns_lt, ns_eq, ns_cl, pk_mul, ne10, eq_self, ↓reduceIte, show ¬ 60 ≤ i from by omega]
      · rw [sI1]
        by_cases q : d = i
        · rw [if_pos ⟨rfl, q⟩]
        · rw [if_neg (by omega)]; exact hr d (by omega)
    · have hin2 : i = 60 := by omega
      subst hin2
      refine Or.inr ⟨nI 60, Sx, fun rec => ?_, rfl, hf, hr⟩
      simp (disch := omega) only [bX5_renew_22, bd_some, gd_ix, lit_0, lit_1, lit_2, lit_3, lit_4, lit_5, lit_6, lit_7, lit_8, lit_9, lit_10, lit_15, lit_16, lit_19, lit_20, lit_31, lit_35, lit_36, lit_48, lit_49, lit_53, lit_55, lit_57, lit_59, lit_60, lit_63, lit_64, lit_97, lit_102, lit_110, lit_160, lit_255, nI_add, ns_sub, ns_div, ns_le, ns_lt, ns_eq, ns_cl, pk_mul, ne10, eq_self, ↓reduceIte, Nat.le_refl]) (nI 0) S ⟨rfl, fr.rf, fun d hd => absurd hd (by omega)⟩
  exact ⟨S', e1, q1, q2⟩
theorem renewM_ok {S : Sg} {s : Nat} (hs : s < 4) : ∃ S', lp (bX9_sheet_59 (nI s)) fl (nI 0) S = some (nI 60, S') ∧ (∀ a j, ¬ (a = 25 ∧ 60 * s ≤ j ∧ j < 60 * s + 60) → S'.1 a j = S.1 a j) ∧ ∀ i, i < 60 → S'.1 25 (60 * s + i) = nI 0 := by
  obtain ⟨a, S', e1, rfl, q1, q2⟩ := lp_invF (B := bX9_sheet_59 (nI s)) (fun i a Sx => a = nI i ∧ (∀ a j, ¬ (a = 25 ∧ 60 * s ≤ j ∧ j < 60 * s + 60) → Sx.1 a j = S.1 a j) ∧ ∀ k, k < i → Sx.1 25 (60 * s + k) = nI 0) (fun a Sx => a = nI 60 ∧ (∀ a j, ¬ (a = 25 ∧ 60 * s ≤ j ∧ j < 60 * s + 60) → Sx.1 a j = S.1 a j) ∧ ∀ k, k < 60 → Sx.1 25 (60 * s + k) = nI 0) 60 (by omega) (by
    rintro i a Sx hi ⟨rfl, hf, hr⟩
    by_cases hin : i < 60
    · refine Or.inl ⟨hin, nI (i + 1), sI Sx 25 (60 * s + i) (nI 0), fun rec => ?_, rfl, fun a j q => by rw [sI1, if_neg (by omega)]; exact hf a j q, fun d hd => ?_⟩
      · simp (disch := omega) only [bX9_sheet_59, bd_some, gd_ix, lit_0, lit_1, lit_2, lit_3, lit_4, lit_5, lit_6, lit_7, lit_8, lit_9, lit_10, lit_15, lit_16, lit_19, lit_20, lit_31, lit_35, lit_36, lit_48, lit_49, lit_53, lit_55, lit_57, lit_59, lit_60, lit_63, lit_64, lit_97, lit_102, lit_110, lit_160, lit_255, nI_add, ns_sub, ns_div, ns_le, ns_lt, ns_eq, ns_cl, pk_mul, ne10, eq_self, ↓reduceIte, show ¬ 60 ≤ i from by omega]
      · rw [sI1]
        by_cases q : d = i
        · rw [if_pos ⟨rfl, by omega⟩]
        · rw [if_neg (by omega)]; exact hr d (by omega)
    · have hin2 : i = 60 := by omega
      subst hin2
      refine Or.inr ⟨nI 60, Sx, fun rec => ?_, rfl, hf, hr⟩
      simp (disch := omega) only [bX9_sheet_59, bd_some, gd_ix, lit_0, lit_1, lit_2, lit_3, lit_4, lit_5, lit_6, lit_7, lit_8, lit_9, lit_10, lit_15, lit_16, lit_19, lit_20, lit_31, lit_35, lit_36, lit_48, lit_49, lit_53, lit_55, lit_57, lit_59, lit_60, lit_63, lit_64, lit_97, lit_102, lit_110, lit_160, lit_255, nI_add, ns_sub, ns_div, ns_le, ns_lt, ns_eq, ns_cl, pk_mul, ne10, eq_self, ↓reduceIte, Nat.le_refl]) (nI 0) S ⟨rfl, fun _ _ _ => rfl, fun d hd => absurd hd (by omega)⟩
  exact ⟨S', e1, q1, q2⟩
/-- sheets change alike -/
theorem sheet_chg {Sc Sm Sc2 Sm2 : Sg} {A : Ab} (hC : RC Sc A) (hM : RM Sm A) (H : Sh4) (e1 : ∀ a j, ¬ (44 ≤ a ∧ a ≤ 51) → Sc2.1 a j = Sc.1 a j) (e2 : ∀ a j, ¬ (22 ≤ a ∧ a ≤ 26) → Sm2.1 a j = Sm.1 a j) (h1 : cSh Sc2 H) (h2 : mSh Sm2 H) : Inv Sc2 Sm2 :=
  ⟨_, ⟨hC.1.upH (fun a j q => e1 a j (by omega)) h1, St.kp hC.2 (fun a j q => e1 a j (by omega)) rfl rfl rfl⟩, hM.upH (fun a j q => e2 a j (by omega)) h2⟩
theorem stp_sheet_ok : stp_sheet Inv := by
  rintro Sc Sm x1 x2 x3 ⟨A, hC, hM⟩
  by_cases g1 : rg x1 4
  · obtain ⟨s, hs, rfl⟩ := g1
    by_cases g2 : rg x2 3
    · obtain ⟨f, hf, rfl⟩ := g2
      by_cases g3 : rg x3 61
      · obtain ⟨n, hn, rfl⟩ := g3
        obtain ⟨Sc2, a1, a2, a3⟩ := renew_ok (S := sI (sI (sI Sc (44 + 2 * s) 1 (nI 0)) (44 + 2 * s) 2 (nI f)) (44 + 2 * s) 3 (nI n)) (s := s)
        obtain ⟨Sm2, b1, b2, b3⟩ := renewM_ok (S := sI (sI (sI Sm 22 s (nI 1)) 23 s (nI f)) 24 s (nI n)) hs
        refine ⟨nI n, Sc2, Sm2, ?_, ?_, sheet_chg hC hM (app (aH A).1 s 0, app (aH A).2.1 s f, app (aH A).2.2.1 s n, apI (aH A).2.2.2 s (fun _ => nI 0)) (fun a j q => ?_) (fun a j q => ?_) (fun j hj => ?_) (fun j hj => ?_)⟩
        · unfold fX8_sheet fX5_renew
          simp (disch := omega) only [cSheet_y, cForm_y, bd_some, gd_ix, lit_0, lit_1, lit_2, lit_3, lit_4, lit_5, lit_6, lit_7, lit_8, lit_9, lit_10, lit_15, lit_16, lit_19, lit_20, lit_31, lit_35, lit_36, lit_48, lit_49, lit_53, lit_55, lit_57, lit_59, lit_60, lit_63, lit_64, lit_97, lit_102, lit_110, lit_160, lit_255, nI_add, ns_sub, ns_div, ns_le, ns_lt, ns_eq, ns_cl, pk_mul, ne10, eq_self, ↓reduceIte, show n ≤ 60 from by omega, show 0 ≤ n from by omega, show ¬ 60 < n from by omega, a1]
        · unfold fX9_sheet
          simp (disch := omega) only [mSheet_y, in_y, bd_some, gd_ix, lit_0, lit_1, lit_2, lit_3, lit_4, lit_5, lit_6, lit_7, lit_8, lit_9, lit_10, lit_15, lit_16, lit_19, lit_20, lit_31, lit_35, lit_36, lit_48, lit_49, lit_53, lit_55, lit_57, lit_59, lit_60, lit_63, lit_64, lit_97, lit_102, lit_110, lit_160, lit_255, nI_add, ns_sub, ns_div, ns_le, ns_lt, ns_eq, ns_cl, pk_mul, ne10, eq_self, ↓reduceIte, show n ≤ 60 from by omega, show 0 ≤ n from by omega, b1]
        · rw [a2.1 a j (by omega), sI1, if_neg (by omega), sI1, if_neg (by omega), sI1, if_neg (by omega)]
        · rw [b2 a j (by omega), sI1, if_neg (by omega), sI1, if_neg (by omega), sI1, if_neg (by omega)]
        · obtain ⟨⟨p1, p2, p3⟩, c1, c2, c3, c4⟩ := hC.1.2.2.2.2.2.1 j hj
          unfold app apI
          dsimp only
          by_cases q : j = s
          · subst q
            simp only [if_true]
            refine ⟨⟨by omega, by omega, by omega⟩, ?_, ?_, ?_, fun i hi => a3 i hi⟩
            · rw [a2.1 _ _ (by omega), sI1, if_neg (by omega), sI1, if_neg (by omega), sI1, if_pos ⟨rfl, rfl⟩]
            · rw [a2.1 _ _ (by omega), sI1, if_neg (by omega), sI1, if_pos ⟨rfl, rfl⟩]
            · rw [a2.1 _ _ (by omega), sI1, if_pos ⟨rfl, rfl⟩]
          · simp only [q, if_false]
            refine ⟨⟨p1, p2, p3⟩, ?_, ?_, ?_, fun i hi => ?_⟩
            · rw [a2.1 _ _ (by omega), sI1, if_neg (by omega), sI1, if_neg (by omega), sI1, if_neg (by omega)]; exact c1
            · rw [a2.1 _ _ (by omega), sI1, if_neg (by omega), sI1, if_neg (by omega), sI1, if_neg (by omega)]; exact c2
            · rw [a2.1 _ _ (by omega), sI1, if_neg (by omega), sI1, if_neg (by omega), sI1, if_neg (by omega)]; exact c3
            · rw [a2.1 _ _ (by omega), sI1, if_neg (by omega), sI1, if_neg (by omega), sI1, if_neg (by omega)]; exact c4 i hi
        · obtain ⟨⟨p1, p2, p3⟩, c1, c2, c3, c4⟩ := hM.2.2.2.2.2.1 j hj
          unfold app apI
          dsimp only
          by_cases q : j = s
          · subst q
            simp only [if_true]
            refine ⟨⟨by omega, by omega, by omega⟩, ?_, ?_, ?_, fun i hi => b3 i hi⟩
            · rw [b2 _ _ (by omega), sI1, if_neg (by omega), sI1, if_neg (by omega), sI1, if_pos ⟨rfl, rfl⟩]
            · rw [b2 _ _ (by omega), sI1, if_neg (by omega), sI1, if_pos ⟨rfl, rfl⟩]
            · rw [b2 _ _ (by omega), sI1, if_pos ⟨rfl, rfl⟩]
          · simp only [q, if_false]
            refine ⟨⟨p1, p2, p3⟩, ?_, ?_, ?_, fun i hi => ?_⟩
            · rw [b2 _ _ (by omega), sI1, if_neg (by omega), sI1, if_neg (by omega), sI1, if_neg (by omega)]; exact c1
            · rw [b2 _ _ (by omega), sI1, if_neg (by omega), sI1, if_neg (by omega), sI1, if_neg (by omega)]; exact c2
            · rw [b2 _ _ (by omega), sI1, if_neg (by omega), sI1, if_neg (by omega), sI1, if_neg (by omega)]; exact c3
            · rw [b2 _ _ (by omega), sI1, if_neg (by omega), sI1, if_neg (by omega), sI1, if_neg (by omega)]; exact c4 i hi
      · by_cases q : x3 ≤ 60
        · have q2 : ¬ 0 ≤ x3 := by
            intro z
            rcases rg_no2 (by omega) g3 (b := 60) rfl with y | y
            · rw [fa_lt] at y
              rw [fa_le] at z
              have z' : (nI 0).toInt ≤ x3.toInt := z
              omega
            · rw [fa_lt] at y
              rw [fa_le] at q
              have q' : x3.toInt ≤ (nI 60).toInt := q
              omega
          obtain ⟨A2, r1, r2⟩ := found_ok hC hM (k := 5) (by omega)
          refine ⟨-nI 10 - nI 5, sI Sc 0 16 (nI 5), sI Sm 0 35 (nI 5), ?_, ?_, A2, r1, r2⟩
          · unfold fX8_sheet
            rw [cSheet_y hs, bd_some, if_neg (by decide), cForm_y hf, bd_some, if_neg (by decide), if_pos q, if_neg q2]
            rfl
          · unfold fX9_sheet
            rw [mSheet_y hs, bd_some, if_neg (by decide), lit_0, lit_2, in_y (by omega) (by omega), bd_some, if_neg (by decide), if_pos q, if_neg (show ¬ nI 0 ≤ x3 from q2)]
            rfl
        · refine ⟨-nI 2, Sc, Sm, ?_, ?_, A, hC, hM⟩
          · unfold fX8_sheet
            rw [cSheet_y hs, bd_some, if_neg (by decide), cForm_y hf, bd_some, if_neg (by decide), if_neg q]
            rfl
          · unfold fX9_sheet
            rw [mSheet_y hs, bd_some, if_neg (by decide), lit_0, lit_2, in_y (by omega) (by omega), bd_some, if_neg (by decide), if_neg q]
    · refine ⟨-nI 2, Sc, Sm, ?_, ?_, A, hC, hM⟩
      · unfold fX8_sheet
        simp (disch := omega) only [cSheet_y, cForm_n g2, bd_some, gd_ix, lit_0, lit_1, lit_2, lit_3, lit_4, lit_5, lit_6, lit_7, lit_8, lit_9, lit_10, lit_15, lit_16, lit_19, lit_20, lit_31, lit_35, lit_36, lit_48, lit_49, lit_53, lit_55, lit_57, lit_59, lit_60, lit_63, lit_64, lit_97, lit_102, lit_110, lit_160, lit_255, nI_add, ns_sub, ns_div, ns_le, ns_lt, ns_eq, ns_cl, pk_mul, ne10, eq_self, ↓reduceIte]
      · unfold fX9_sheet
        simp (disch := omega) only [mSheet_y, in_n g2 (b := 2) rfl (by omega), bd_some, gd_ix, lit_0, lit_1, lit_2, lit_3, lit_4, lit_5, lit_6, lit_7, lit_8, lit_9, lit_10, lit_15, lit_16, lit_19, lit_20, lit_31, lit_35, lit_36, lit_48, lit_49, lit_53, lit_55, lit_57, lit_59, lit_60, lit_63, lit_64, lit_97, lit_102, lit_110, lit_160, lit_255, nI_add, ns_sub, ns_div, ns_le, ns_lt, ns_eq, ns_cl, pk_mul, ne10, eq_self, ↓reduceIte]
  · refine ⟨-nI 2, Sc, Sm, ?_, ?_, A, hC, hM⟩
    · unfold fX8_sheet
      simp (disch := omega) only [cSheet_n g1, bd_some, gd_ix, lit_0, lit_1, lit_2, lit_3, lit_4, lit_5, lit_6, lit_7, lit_8, lit_9, lit_10, lit_15, lit_16, lit_19, lit_20, lit_31, lit_35, lit_36, lit_48, lit_49, lit_53, lit_55, lit_57, lit_59, lit_60, lit_63, lit_64, lit_97, lit_102, lit_110, lit_160, lit_255, nI_add, ns_sub, ns_div, ns_le, ns_lt, ns_eq, ns_cl, pk_mul, ne10, eq_self, ↓reduceIte]
    · unfold fX9_sheet
      simp (disch := omega) only [mSheet_n g1, bd_some, gd_ix, lit_0, lit_1, lit_2, lit_3, lit_4, lit_5, lit_6, lit_7, lit_8, lit_9, lit_10, lit_15, lit_16, lit_19, lit_20, lit_31, lit_35, lit_36, lit_48, lit_49, lit_53, lit_55, lit_57, lit_59, lit_60, lit_63, lit_64, lit_97, lit_102, lit_110, lit_160, lit_255, nI_add, ns_sub, ns_div, ns_le, ns_lt, ns_eq, ns_cl, pk_mul, ne10, eq_self, ↓reduceIte]
theorem stp_lose_ok : stp_lose Inv := by
  rintro Sc Sm x1 ⟨A, hC, hM⟩
  by_cases g1 : rg x1 4
  · obtain ⟨s, hs, rfl⟩ := g1
    obtain ⟨⟨b1, b2, b3⟩, c1, c2, c3, c4⟩ := hC.1.2.2.2.2.2.1 s hs
    obtain ⟨-, m1, m2, m3, m4⟩ := hM.2.2.2.2.2.1 s hs
    by_cases hl : (aH A).1 s = 0
    · rw [hl] at c1 m1
      refine ⟨nI ((aH A).2.2.1 s), sI Sc (44 + 2 * s) 1 (nI 1), sI Sm 22 s (nI 0), ?_, ?_, sheet_chg hC hM (app (aH A).1 s 1, (aH A).2) (fun a j q => by rw [sI1, if_neg (by omega)]) (fun a j q => by rw [sI1, if_neg (by omega)]) (fun j hj => ?_) (fun j hj => ?_)⟩
      · unfold fX8_lose
        simp (disch := omega) only [cSheet_y, bd_some, gd_ix, lit_0, lit_1, lit_2, lit_3, lit_4, lit_5, lit_6, lit_7, lit_8, lit_9, lit_10, lit_15, lit_16, lit_19, lit_20, lit_31, lit_35, lit_36, lit_48, lit_49, lit_53, lit_55, lit_57, lit_59, lit_60, lit_63, lit_64, lit_97, lit_102, lit_110, lit_160, lit_255, nI_add, ns_sub, ns_div, ns_le, ns_lt, ns_eq, ns_cl, pk_mul, ne10, eq_self, ↓reduceIte, c1, sI1, sI2, sC1, sC2, sL1, sL2, true_and, Nat.reduceEqDiff, c3]
      · unfold fX9_lose
        simp (disch := omega) only [mSheet_y, bd_some, gd_ix, lit_0, lit_1, lit_2, lit_3, lit_4, lit_5, lit_6, lit_7, lit_8, lit_9, lit_10, lit_15, lit_16, lit_19, lit_20, lit_31, lit_35, lit_36, lit_48, lit_49, lit_53, lit_55, lit_57, lit_59, lit_60, lit_63, lit_64, lit_97, lit_102, lit_110, lit_160, lit_255, nI_add, ns_sub, ns_div, ns_le, ns_lt, ns_eq, ns_cl, pk_mul, ne10, eq_self, ↓reduceIte, m1, Nat.sub_zero, sI1, sI2, sC1, sC2, sL1, sL2, false_and, Nat.reduceEqDiff, m3]
      · obtain ⟨⟨p1, p2, p3⟩, d1, d2, d3, d4⟩ := hC.1.2.2.2.2.2.1 j hj
        unfold app
        dsimp only
        by_cases q : j = s
        · subst q
          simp only [if_true]
          exact ⟨⟨by omega, p2, p3⟩, by rw [sI1, if_pos ⟨rfl, rfl⟩], by rw [sI1, if_neg (by omega)]; exact d2, by rw [sI1, if_neg (by omega)]; exact d3, fun i hi => by rw [sI1, if_neg (by omega)]; exact d4 i hi⟩
        · simp only [q, if_false]
          exact ⟨⟨p1, p2, p3⟩, by rw [sI1, if_neg (by omega)]; exact d1, by rw [sI1, if_neg (by omega)]; exact d2, by rw [sI1, if_neg (by omega)]; exact d3, fun i hi => by rw [sI1, if_neg (by omega)]; exact d4 i hi⟩
      · obtain ⟨⟨p1, p2, p3⟩, d1, d2, d3, d4⟩ := hM.2.2.2.2.2.1 j hj
        unfold app
        dsimp only
        by_cases q : j = s
        · subst q
          simp only [if_true]
          exact ⟨⟨by omega, p2, p3⟩, by rw [sI1, if_pos ⟨rfl, rfl⟩], by rw [sI1, if_neg (by omega)]; exact d2, by rw [sI1, if_neg (by omega)]; exact d3, fun i hi => by rw [sI1, if_neg (by omega)]; exact d4 i hi⟩
        · simp only [q, if_false]
          exact ⟨⟨p1, p2, p3⟩, by rw [sI1, if_neg (by omega)]; exact d1, by rw [sI1, if_neg (by omega)]; exact d2, by rw [sI1, if_neg (by omega)]; exact d3, fun i hi => by rw [sI1, if_neg (by omega)]; exact d4 i hi⟩
    · have hl1 : (aH A).1 s = 1 := by omega
      rw [hl1] at c1 m1
      obtain ⟨A2, q1, q2⟩ := found_ok hC hM (k := 1) (by omega)
      refine ⟨-nI 10 - nI 1, sI Sc 0 16 (nI 1), sI Sm 0 35 (nI 1), ?_, ?_, A2, q1, q2⟩
      · unfold fX8_lose
        simp (disch := omega) only [cSheet_y, bd_some, gd_ix, lit_0, lit_1, lit_2, lit_3, lit_4, lit_5, lit_6, lit_7, lit_8, lit_9, lit_10, lit_15, lit_16, lit_19, lit_20, lit_31, lit_35, lit_36, lit_48, lit_49, lit_53, lit_55, lit_57, lit_59, lit_60, lit_63, lit_64, lit_97, lit_102, lit_110, lit_160, lit_255, nI_add, ns_sub, ns_div, ns_le, ns_lt, ns_eq, ns_cl, pk_mul, ne10, eq_self, ↓reduceIte, c1, fnd_c]
      · unfold fX9_lose
        simp (disch := omega) only [mSheet_y, bd_some, gd_ix, lit_0, lit_1, lit_2, lit_3, lit_4, lit_5, lit_6, lit_7, lit_8, lit_9, lit_10, lit_15, lit_16, lit_19, lit_20, lit_31, lit_35, lit_36, lit_48, lit_49, lit_53, lit_55, lit_57, lit_59, lit_60, lit_63, lit_64, lit_97, lit_102, lit_110, lit_160, lit_255, nI_add, ns_sub, ns_div, ns_le, ns_lt, ns_eq, ns_cl, pk_mul, ne10, eq_self, ↓reduceIte, m1, Nat.sub_self, fnd_m]
  · refine ⟨-nI 2, Sc, Sm, ?_, ?_, A, hC, hM⟩
    · unfold fX8_lose
      simp (disch := omega) only [cSheet_n g1, bd_some, gd_ix, lit_0, lit_1, lit_2, lit_3, lit_4, lit_5, lit_6, lit_7, lit_8, lit_9, lit_10, lit_15, lit_16, lit_19, lit_20, lit_31, lit_35, lit_36, lit_48, lit_49, lit_53, lit_55, lit_57, lit_59, lit_60, lit_63, lit_64, lit_97, lit_102, lit_110, lit_160, lit_255, nI_add, ns_sub, ns_div, ns_le, ns_lt, ns_eq, ns_cl, pk_mul, ne10, eq_self, ↓reduceIte]
    · unfold fX9_lose
      simp (disch := omega) only [mSheet_n g1, bd_some, gd_ix, lit_0, lit_1, lit_2, lit_3, lit_4, lit_5, lit_6, lit_7, lit_8, lit_9, lit_10, lit_15, lit_16, lit_19, lit_20, lit_31, lit_35, lit_36, lit_48, lit_49, lit_53, lit_55, lit_57, lit_59, lit_60, lit_63, lit_64, lit_97, lit_102, lit_110, lit_160, lit_255, nI_add, ns_sub, ns_div, ns_le, ns_lt, ns_eq, ns_cl, pk_mul, ne10, eq_self, ↓reduceIte]
/-- x from 0 to n - 1 -/
theorem in_my {m n : Nat} (h : m < n) (hn : n < 2147483648) {S : Sg} : fX9_in (nI m) (nI 0) (nI n - nI 1) S = some (nI 1, S) := by
  rw [ns_sub (by omega), in_y (by omega) (by omega)]
theorem in_mn {x : Int32} {n : Nat} (h : ¬ rg x n) (hn : n < 2147483648) {S : Sg} : fX9_in x (nI 0) (nI n - nI 1) S = some (nI 0, S) := by
  by_cases q : n = 0
  · subst q
    unfold fX9_in
    by_cases z : x < nI 0
    · rw [if_pos z]; rfl
    · rw [if_neg z, if_pos ?_]
      · rfl
      · rw [fa_lt] at z ⊢
        have h1 : (nI 0 - nI 1 : Int32).toInt = -1 := by decide
        have h2 : (nI 0 : Int32).toInt = 0 := by decide
        omega
  · rw [ns_sub (by omega), in_n h (b := n - 1) (by omega) hn]
/-- what speaks against an item: 0 nothing, 1 lost, 2 index, 3 form -/
theorem lack_ok {Sc Sm : Sg} {A : Ab} (hC : RC Sc A) (hM : RM Sm A) {s f : Nat} (hs : s < 4) (hf : f < 3) (x : Int32) : ∃ w, w ≤ 3 ∧ fX5_findingAt (44 + 2 * s) (nI f) x Sc = some (nI w, Sc) ∧ fX9_lacks (nI s) (nI f) x Sm = some (nI w, Sm) ∧ (w = 0 → (∃ i, i < (aH A).2.2.1 s ∧ x = nI i) ∧ (aH A).2.1 s = f) := by
  obtain ⟨⟨b1, b2, b3⟩, c1, c2, c3, c4⟩ := hC.1.2.2.2.2.2.1 s hs
  obtain ⟨-, m1, m2, m3, m4⟩ := hM.2.2.2.2.2.1 s hs
  by_cases hl : (aH A).1 s = 0
  · rw [hl] at c1 m1
    by_cases hq : (aH A).2.1 s = f
    · by_cases hx : rg x ((aH A).2.2.1 s)
      · obtain ⟨i, hi, rfl⟩ := hx
        refine ⟨0, by omega, ?_, ?_, fun _ => ⟨⟨i, hi, rfl⟩, hq⟩⟩
        · unfold fX5_findingAt
          simp (disch := omega) only [bd_some, gd_ix, lit_0, lit_1, lit_2, lit_3, lit_4, lit_5, lit_6, lit_7, lit_8, lit_9, lit_10, lit_15, lit_16, lit_19, lit_20, lit_31, lit_35, lit_36, lit_48, lit_49, lit_53, lit_55, lit_57, lit_59, lit_60, lit_63, lit_64, lit_97, lit_102, lit_110, lit_160, lit_255, nI_add, ns_sub, ns_div, ns_le, ns_lt, ns_eq, ns_cl, pk_mul, ne10, eq_self, ↓reduceIte, c1, c2, c3, hq, show ¬ i < 0 from by omega, show ¬ (aH A).2.2.1 s ≤ i from by omega]
        · unfold fX9_lacks
          simp (disch := omega) only [bd_some, gd_ix, ns_cl, lit_0, lit_1, ns_eq, ne10, m1, m2, m3, hq, Nat.sub_zero, in_my, ↓reduceIte]
      · refine ⟨2, by omega, ?_, ?_, fun q => by omega⟩
        · unfold fX5_findingAt
          rw [if_pos (by rw [c1]; rfl), if_pos (by rw [c2, hq]), c3]
          by_cases z : x < 0
          · rw [if_pos z]; rfl
          · rcases rg_no (by omega) hx with y | y
            · exact absurd y z
            · rw [if_neg z, if_pos y]; rfl
        · unfold fX9_lacks
          simp (disch := omega) only [bd_some, gd_ix, ns_cl, lit_0, lit_1, lit_2, ns_eq, ne10, m1, m2, m3, hq, Nat.sub_zero, in_mn hx, ↓reduceIte]
    · refine ⟨3, by omega, ?_, ?_, fun q => by omega⟩
      · unfold fX5_findingAt
        simp (disch := omega) only [bd_some, gd_ix, lit_0, lit_1, lit_2, lit_3, lit_4, lit_5, lit_6, lit_7, lit_8, lit_9, lit_10, lit_15, lit_16, lit_19, lit_20, lit_31, lit_35, lit_36, lit_48, lit_49, lit_53, lit_55, lit_57, lit_59, lit_60, lit_63, lit_64, lit_97, lit_102, lit_110, lit_160, lit_255, nI_add, ns_sub, ns_div, ns_le, ns_lt, ns_eq, ns_cl, pk_mul, ne10, eq_self, ↓reduceIte, c1, c2, hq]
      · unfold fX9_lacks
        simp (disch := omega) only [bd_some, gd_ix, lit_0, lit_1, lit_2, lit_3, lit_4, lit_5, lit_6, lit_7, lit_8, lit_9, lit_10, lit_15, lit_16, lit_19, lit_20, lit_31, lit_35, lit_36, lit_48, lit_49, lit_53, lit_55, lit_57, lit_59, lit_60, lit_63, lit_64, lit_97, lit_102, lit_110, lit_160, lit_255, nI_add, ns_sub, ns_div, ns_le, ns_lt, ns_eq, ns_cl, pk_mul, ne10, eq_self, ↓reduceIte, m1, m2, hq, Nat.sub_zero]
  · have hl1 : (aH A).1 s = 1 := by omega
    rw [hl1] at c1 m1
    refine ⟨1, by omega, ?_, ?_, fun q => by omega⟩
    · unfold fX5_findingAt
      simp (disch := omega) only [bd_some, gd_ix, lit_0, lit_1, lit_2, lit_3, lit_4, lit_5, lit_6, lit_7, lit_8, lit_9, lit_10, lit_15, lit_16, lit_19, lit_20, lit_31, lit_35, lit_36, lit_48, lit_49, lit_53, lit_55, lit_57, lit_59, lit_60, lit_63, lit_64, lit_97, lit_102, lit_110, lit_160, lit_255, nI_add, ns_sub, ns_div, ns_le, ns_lt, ns_eq, ns_cl, pk_mul, ne10, eq_self, ↓reduceIte, c1]
    · unfold fX9_lacks
      simp (disch := omega) only [bd_some, gd_ix, lit_0, lit_1, lit_2, lit_3, lit_4, lit_5, lit_6, lit_7, lit_8, lit_9, lit_10, lit_15, lit_16, lit_19, lit_20, lit_31, lit_35, lit_36, lit_48, lit_49, lit_53, lit_55, lit_57, lit_59, lit_60, lit_63, lit_64, lit_97, lit_102, lit_110, lit_160, lit_255, nI_add, ns_sub, ns_div, ns_le, ns_lt, ns_eq, ns_cl, pk_mul, ne10, eq_self, ↓reduceIte, m1, Nat.sub_self]
def lowB (f : Nat) (v : Int32) : Int32 := if f = 0 then Int8.toInt32 (Int32.toInt8 v) else if f = 1 then Int16.toInt32 (Int32.toInt16 v) else v
/-- one item set, on both sides -/
theorem item_chg {Sc Sm : Sg} {A : Ab} (hC : RC Sc A) (hM : RM Sm A) {s i : Nat} (hs : s < 4) (hi : i < 60) (v : Int32) : ∃ A2, RC (sI Sc (44 + 2 * s + 1) i v) A2 ∧ RM (sI Sm 25 (60 * s + i) v) A2 ∧ A2 = (A.1, A.2.1, A.2.2.1, A.2.2.2.1, A.2.2.2.2.1, A.2.2.2.2.2.1, ((aH A).1, (aH A).2.1, (aH A).2.2.1, apI (aH A).2.2.2 s (fun k => if k = i then v else (aH A).2.2.2 s k)), A.2.2.2.2.2.2.2) := by
  refine ⟨(A.1, A.2.1, A.2.2.1, A.2.2.2.1, A.2.2.2.2.1, A.2.2.2.2.2.1, ((aH A).1, (aH A).2.1, (aH A).2.2.1, apI (aH A).2.2.2 s (fun k => if k = i then v else (aH A).2.2.2 s k)), A.2.2.2.2.2.2.2), ⟨hC.1.upH (fun a j q => by rw [sI1, if_neg (by omega)]) (fun j hj => ?_), St.kp hC.2 (fun a j q => by rw [sI1, if_neg (by omega)]) rfl rfl rfl⟩, hM.upH (fun a j q => by rw [sI1, if_neg (by omega)]) (fun j hj => ?_), rfl⟩
  · obtain ⟨p, d1, d2, d3, d4⟩ := hC.1.2.2.2.2.2.1 j hj
    refine ⟨p, by rw [sI1, if_neg (by omega)]; exact d1, by rw [sI1, if_neg (by omega)]; exact d2, by rw [sI1, if_neg (by omega)]; exact d3, fun k hk => ?_⟩
    unfold apI
    dsimp only
    rw [sI1]
    by_cases q : j = s
    · subst q
      by_cases q2 : k = i
      · rw [if_pos ⟨rfl, q2⟩, if_pos rfl, if_pos q2]
      · rw [if_neg (by omega), if_pos rfl, if_neg q2]; exact d4 k hk
    · rw [if_neg (by omega), if_neg q]; exact d4 k hk
  · obtain ⟨p, d1, d2, d3, d4⟩ := hM.2.2.2.2.2.1 j hj
    refine ⟨p, by rw [sI1, if_neg (by omega)]; exact d1, by rw [sI1, if_neg (by omega)]; exact d2, by rw [sI1, if_neg (by omega)]; exact d3, fun k hk => ?_⟩
    unfold apI
    dsimp only
    rw [sI1]
    by_cases q : j = s
    · subst q
      by_cases q2 : k = i
      · rw [if_pos ⟨rfl, by omega⟩, if_pos rfl, if_pos q2]
      · rw [if_neg (by omega), if_pos rfl, if_neg q2]; exact d4 k hk
    · rw [if_neg (by omega), if_neg q]; exact d4 k hk
theorem low_ok {f : Nat} (hf : f < 3) {v : Int32} {S : Sg} : fX8_lowestBits (nI f) v S = some (lowB f v, S) := by
  have : f = 0 ∨ f = 1 ∨ f = 2 := by omega
  unfold fX8_lowestBits lowB
  rcases this with rfl | rfl | rfl
  · simp (disch := omega) only [bd_some, gd_ix, lit_0, lit_1, lit_2, lit_3, lit_4, lit_5, lit_6, lit_7, lit_8, lit_9, lit_10, lit_15, lit_16, lit_19, lit_20, lit_31, lit_35, lit_36, lit_48, lit_49, lit_53, lit_55, lit_57, lit_59, lit_60, lit_63, lit_64, lit_97, lit_102, lit_110, lit_160, lit_255, nI_add, ns_sub, ns_div, ns_le, ns_lt, ns_eq, ns_cl, pk_mul, ne10, eq_self, ↓reduceIte]
  · simp (disch := omega) only [bd_some, gd_ix, lit_0, lit_1, lit_2, lit_3, lit_4, lit_5, lit_6, lit_7, lit_8, lit_9, lit_10, lit_15, lit_16, lit_19, lit_20, lit_31, lit_35, lit_36, lit_48, lit_49, lit_53, lit_55, lit_57, lit_59, lit_60, lit_63, lit_64, lit_97, lit_102, lit_110, lit_160, lit_255, nI_add, ns_sub, ns_div, ns_le, ns_lt, ns_eq, ns_cl, pk_mul, ne10, eq_self, ↓reduceIte]
  · simp (disch := omega) only [bd_some, gd_ix, lit_0, lit_1, lit_2, lit_3, lit_4, lit_5, lit_6, lit_7, lit_8, lit_9, lit_10, lit_15, lit_16, lit_19, lit_20, lit_31, lit_35, lit_36, lit_48, lit_49, lit_53, lit_55, lit_57, lit_59, lit_60, lit_63, lit_64, lit_97, lit_102, lit_110, lit_160, lit_255, nI_add, ns_sub, ns_div, ns_le, ns_lt, ns_eq, ns_cl, pk_mul, ne10, eq_self, ↓reduceIte, Nat.reduceEqDiff]
theorem keep_ok {S : Sg} {s i f : Nat} (hs : s < 4) (hi : i < 60) (hf : f < 3) (h : S.1 23 s = nI f) {v : Int32} : fX9_keep (nI s) (nI i) v S = some ((), sI S 25 (60 * s + i) (lowB f v)) := by
  have : f = 0 ∨ f = 1 ∨ f = 2 := by omega
  unfold fX9_keep lowB
  rcases this with rfl | rfl | rfl
  · simp (disch := omega) only [bd_some, gd_ix, lit_0, lit_1, lit_2, lit_3, lit_4, lit_5, lit_6, lit_7, lit_8, lit_9, lit_10, lit_15, lit_16, lit_19, lit_20, lit_31, lit_35, lit_36, lit_48, lit_49, lit_53, lit_55, lit_57, lit_59, lit_60, lit_63, lit_64, lit_97, lit_102, lit_110, lit_160, lit_255, nI_add, ns_sub, ns_div, ns_le, ns_lt, ns_eq, ns_cl, pk_mul, ne10, eq_self, ↓reduceIte, h]
  · simp (disch := omega) only [bd_some, gd_ix, lit_0, lit_1, lit_2, lit_3, lit_4, lit_5, lit_6, lit_7, lit_8, lit_9, lit_10, lit_15, lit_16, lit_19, lit_20, lit_31, lit_35, lit_36, lit_48, lit_49, lit_53, lit_55, lit_57, lit_59, lit_60, lit_63, lit_64, lit_97, lit_102, lit_110, lit_160, lit_255, nI_add, ns_sub, ns_div, ns_le, ns_lt, ns_eq, ns_cl, pk_mul, ne10, eq_self, ↓reduceIte, h]
  · simp (disch := omega) only [bd_some, gd_ix, lit_0, lit_1, lit_2, lit_3, lit_4, lit_5, lit_6, lit_7, lit_8, lit_9, lit_10, lit_15, lit_16, lit_19, lit_20, lit_31, lit_35, lit_36, lit_48, lit_49, lit_53, lit_55, lit_57, lit_59, lit_60, lit_63, lit_64, lit_97, lit_102, lit_110, lit_160, lit_255, nI_add, ns_sub, ns_div, ns_le, ns_lt, ns_eq, ns_cl, pk_mul, ne10, eq_self, ↓reduceIte, h, Nat.reduceEqDiff]
theorem stp_put_ok : stp_put Inv := by
  rintro Sc Sm x1 x2 x3 x4 ⟨A, hC, hM⟩
  by_cases g1 : rg x1 4
  · obtain ⟨s, hs, rfl⟩ := g1
    by_cases g2 : rg x2 3
    · obtain ⟨f, hf, rfl⟩ := g2
      obtain ⟨w, hw, e1, e2, hz⟩ := lack_ok hC hM hs hf x3
      by_cases hw0 : w = 0
      · subst hw0
        obtain ⟨⟨i, hi, rfl⟩, hq⟩ := hz rfl
        have h60 := (hC.1.2.2.2.2.2.1 s hs).1.2.2
        have m2 := (hM.2.2.2.2.2.1 s hs).2.2.1
        rw [hq] at m2
        obtain ⟨A2, q1, q2, -⟩ := item_chg hC hM hs (show i < 60 by omega) (lowB f x4)
        refine ⟨nI 1, _, _, ?_, ?_, A2, q1, q2⟩
        · unfold fX8_put
          simp (disch := omega) only [cSheet_y, cForm_y, bd_some, gd_ix, lit_0, lit_1, lit_2, lit_3, lit_4, lit_5, lit_6, lit_7, lit_8, lit_9, lit_10, lit_15, lit_16, lit_19, lit_20, lit_31, lit_35, lit_36, lit_48, lit_49, lit_53, lit_55, lit_57, lit_59, lit_60, lit_63, lit_64, lit_97, lit_102, lit_110, lit_160, lit_255, nI_add, ns_sub, ns_div, ns_le, ns_lt, ns_eq, ns_cl, pk_mul, ne10, eq_self, ↓reduceIte, e1, low_ok]
        · unfold fX9_put
          simp (disch := omega) only [mSheet_y, in_y, bd_some, gd_ix, lit_0, lit_1, lit_2, lit_3, lit_4, lit_5, lit_6, lit_7, lit_8, lit_9, lit_10, lit_15, lit_16, lit_19, lit_20, lit_31, lit_35, lit_36, lit_48, lit_49, lit_53, lit_55, lit_57, lit_59, lit_60, lit_63, lit_64, lit_97, lit_102, lit_110, lit_160, lit_255, nI_add, ns_sub, ns_div, ns_le, ns_lt, ns_eq, ns_cl, pk_mul, ne10, eq_self, ↓reduceIte, e2, keep_ok (f := f) hs (show i < 60 by omega) hf m2, Nat.le_refl]
      · obtain ⟨A2, q1, q2⟩ := found_ok hC hM (k := w) (by omega)
        refine ⟨-nI 10 - nI w, sI Sc 0 16 (nI w), sI Sm 0 35 (nI w), ?_, ?_, A2, q1, q2⟩
        · unfold fX8_put
          simp (disch := omega) only [cSheet_y, cForm_y, bd_some, gd_ix, lit_0, lit_1, lit_2, lit_3, lit_4, lit_5, lit_6, lit_7, lit_8, lit_9, lit_10, lit_15, lit_16, lit_19, lit_20, lit_31, lit_35, lit_36, lit_48, lit_49, lit_53, lit_55, lit_57, lit_59, lit_60, lit_63, lit_64, lit_97, lit_102, lit_110, lit_160, lit_255, nI_add, ns_sub, ns_div, ns_le, ns_lt, ns_eq, ns_cl, pk_mul, ne10, eq_self, ↓reduceIte, e1, hw0, fnd_c]
        · unfold fX9_put
          simp (disch := omega) only [mSheet_y, in_y, bd_some, gd_ix, lit_0, lit_1, lit_2, lit_3, lit_4, lit_5, lit_6, lit_7, lit_8, lit_9, lit_10, lit_15, lit_16, lit_19, lit_20, lit_31, lit_35, lit_36, lit_48, lit_49, lit_53, lit_55, lit_57, lit_59, lit_60, lit_63, lit_64, lit_97, lit_102, lit_110, lit_160, lit_255, nI_add, ns_sub, ns_div, ns_le, ns_lt, ns_eq, ns_cl, pk_mul, ne10, eq_self, ↓reduceIte, e2, show ¬ w ≤ 0 from by omega, fnd_m]
    · refine ⟨-nI 2, Sc, Sm, ?_, ?_, A, hC, hM⟩
      · unfold fX8_put
        simp (disch := omega) only [cSheet_y, cForm_n g2, bd_some, gd_ix, lit_0, lit_1, lit_2, lit_3, lit_4, lit_5, lit_6, lit_7, lit_8, lit_9, lit_10, lit_15, lit_16, lit_19, lit_20, lit_31, lit_35, lit_36, lit_48, lit_49, lit_53, lit_55, lit_57, lit_59, lit_60, lit_63, lit_64, lit_97, lit_102, lit_110, lit_160, lit_255, nI_add, ns_sub, ns_div, ns_le, ns_lt, ns_eq, ns_cl, pk_mul, ne10, eq_self, ↓reduceIte]
      · unfold fX9_put
        simp (disch := omega) only [mSheet_y, in_n g2 (b := 2) rfl (by omega), bd_some, gd_ix, lit_0, lit_1, lit_2, lit_3, lit_4, lit_5, lit_6, lit_7, lit_8, lit_9, lit_10, lit_15, lit_16, lit_19, lit_20, lit_31, lit_35, lit_36, lit_48, lit_49, lit_53, lit_55, lit_57, lit_59, lit_60, lit_63, lit_64, lit_97, lit_102, lit_110, lit_160, lit_255, nI_add, ns_sub, ns_div, ns_le, ns_lt, ns_eq, ns_cl, pk_mul, ne10, eq_self, ↓reduceIte]
  · refine ⟨-nI 2, Sc, Sm, ?_, ?_, A, hC, hM⟩
    · unfold fX8_put
      simp (disch := omega) only [cSheet_n g1, bd_some, gd_ix, lit_0, lit_1, lit_2, lit_3, lit_4, lit_5, lit_6, lit_7, lit_8, lit_9, lit_10, lit_15, lit_16, lit_19, lit_20, lit_31, lit_35, lit_36, lit_48, lit_49, lit_53, lit_55, lit_57, lit_59, lit_60, lit_63, lit_64, lit_97, lit_102, lit_110, lit_160, lit_255, nI_add, ns_sub, ns_div, ns_le, ns_lt, ns_eq, ns_cl, pk_mul, ne10, eq_self, ↓reduceIte]
    · unfold fX9_put
      simp (disch := omega) only [mSheet_n g1, bd_some, gd_ix, lit_0, lit_1, lit_2, lit_3, lit_4, lit_5, lit_6, lit_7, lit_8, lit_9, lit_10, lit_15, lit_16, lit_19, lit_20, lit_31, lit_35, lit_36, lit_48, lit_49, lit_53, lit_55, lit_57, lit_59, lit_60, lit_63, lit_64, lit_97, lit_102, lit_110, lit_160, lit_255, nI_add, ns_sub, ns_div, ns_le, ns_lt, ns_eq, ns_cl, pk_mul, ne10, eq_self, ↓reduceIte]
theorem stp_get_ok : stp_get Inv := by
  rintro Sc Sm x1 x2 x3 ⟨A, hC, hM⟩
  by_cases g1 : rg x1 4
  · obtain ⟨s, hs, rfl⟩ := g1
    by_cases g2 : rg x2 3
    · obtain ⟨f, hf, rfl⟩ := g2
      obtain ⟨w, hw, e1, e2, hz⟩ := lack_ok hC hM hs hf x3
      by_cases hw0 : w = 0
      · subst hw0
        obtain ⟨⟨i, hi, rfl⟩, hq⟩ := hz rfl
        have h60 := (hC.1.2.2.2.2.2.1 s hs).1.2.2
        have c4 := (hC.1.2.2.2.2.2.1 s hs).2.2.2.2 i (by omega)
        have m4 := (hM.2.2.2.2.2.1 s hs).2.2.2.2 i (by omega)
        refine ⟨(aH A).2.2.2 s i, Sc, Sm, ?_, ?_, A, hC, hM⟩
        · unfold fX8_get
          simp (disch := omega) only [cSheet_y, cForm_y, bd_some, gd_ix, lit_0, lit_1, lit_2, lit_3, lit_4, lit_5, lit_6, lit_7, lit_8, lit_9, lit_10, lit_15, lit_16, lit_19, lit_20, lit_31, lit_35, lit_36, lit_48, lit_49, lit_53, lit_55, lit_57, lit_59, lit_60, lit_63, lit_64, lit_97, lit_102, lit_110, lit_160, lit_255, nI_add, ns_sub, ns_div, ns_le, ns_lt, ns_eq, ns_cl, pk_mul, ne10, eq_self, ↓reduceIte, e1, c4]
        · unfold fX9_get
          simp (disch := omega) only [mSheet_y, in_y, bd_some, gd_ix, lit_0, lit_1, lit_2, lit_3, lit_4, lit_5, lit_6, lit_7, lit_8, lit_9, lit_10, lit_15, lit_16, lit_19, lit_20, lit_31, lit_35, lit_36, lit_48, lit_49, lit_53, lit_55, lit_57, lit_59, lit_60, lit_63, lit_64, lit_97, lit_102, lit_110, lit_160, lit_255, nI_add, ns_sub, ns_div, ns_le, ns_lt, ns_eq, ns_cl, pk_mul, ne10, eq_self, ↓reduceIte, e2, m4, Nat.le_refl]
      · obtain ⟨A2, q1, q2⟩ := found_ok hC hM (k := w) (by omega)
        refine ⟨-2147483648, sI Sc 0 16 (nI w), sI Sm 0 35 (nI w), ?_, ?_, A2, q1, q2⟩
        · unfold fX8_get
          simp (disch := omega) only [cSheet_y, cForm_y, bd_some, gd_ix, lit_0, lit_1, lit_2, lit_3, lit_4, lit_5, lit_6, lit_7, lit_8, lit_9, lit_10, lit_15, lit_16, lit_19, lit_20, lit_31, lit_35, lit_36, lit_48, lit_49, lit_53, lit_55, lit_57, lit_59, lit_60, lit_63, lit_64, lit_97, lit_102, lit_110, lit_160, lit_255, nI_add, ns_sub, ns_div, ns_le, ns_lt, ns_eq, ns_cl, pk_mul, ne10, eq_self, ↓reduceIte, e1, hw0, fnd_c]
        · unfold fX9_get
          simp (disch := omega) only [mSheet_y, in_y, bd_some, gd_ix, lit_0, lit_1, lit_2, lit_3, lit_4, lit_5, lit_6, lit_7, lit_8, lit_9, lit_10, lit_15, lit_16, lit_19, lit_20, lit_31, lit_35, lit_36, lit_48, lit_49, lit_53, lit_55, lit_57, lit_59, lit_60, lit_63, lit_64, lit_97, lit_102, lit_110, lit_160, lit_255, nI_add, ns_sub, ns_div, ns_le, ns_lt, ns_eq, ns_cl, pk_mul, ne10, eq_self, ↓reduceIte, e2, show ¬ w ≤ 0 from by omega]
    · refine ⟨-2147483648, Sc, Sm, ?_, ?_, A, hC, hM⟩
      · unfold fX8_get
        simp (disch := omega) only [cSheet_y, cForm_n g2, bd_some, gd_ix, lit_0, lit_1, lit_2, lit_3, lit_4, lit_5, lit_6, lit_7, lit_8, lit_9, lit_10, lit_15, lit_16, lit_19, lit_20, lit_31, lit_35, lit_36, lit_48, lit_49, lit_53, lit_55, lit_57, lit_59, lit_60, lit_63, lit_64, lit_97, lit_102, lit_110, lit_160, lit_255, nI_add, ns_sub, ns_div, ns_le, ns_lt, ns_eq, ns_cl, pk_mul, ne10, eq_self, ↓reduceIte]
      · unfold fX9_get
        simp (disch := omega) only [mSheet_y, in_n g2 (b := 2) rfl (by omega), bd_some, gd_ix, lit_0, lit_1, lit_2, lit_3, lit_4, lit_5, lit_6, lit_7, lit_8, lit_9, lit_10, lit_15, lit_16, lit_19, lit_20, lit_31, lit_35, lit_36, lit_48, lit_49, lit_53, lit_55, lit_57, lit_59, lit_60, lit_63, lit_64, lit_97, lit_102, lit_110, lit_160, lit_255, nI_add, ns_sub, ns_div, ns_le, ns_lt, ns_eq, ns_cl, pk_mul, ne10, eq_self, ↓reduceIte]
  · refine ⟨-2147483648, Sc, Sm, ?_, ?_, A, hC, hM⟩
    · unfold fX8_get
      simp (disch := omega) only [cSheet_n g1, bd_some, gd_ix, lit_0, lit_1, lit_2, lit_3, lit_4, lit_5, lit_6, lit_7, lit_8, lit_9, lit_10, lit_15, lit_16, lit_19, lit_20, lit_31, lit_35, lit_36, lit_48, lit_49, lit_53, lit_55, lit_57, lit_59, lit_60, lit_63, lit_64, lit_97, lit_102, lit_110, lit_160, lit_255, nI_add, ns_sub, ns_div, ns_le, ns_lt, ns_eq, ns_cl, pk_mul, ne10, eq_self, ↓reduceIte]
    · unfold fX9_get
      simp (disch := omega) only [mSheet_n g1, bd_some, gd_ix, lit_0, lit_1, lit_2, lit_3, lit_4, lit_5, lit_6, lit_7, lit_8, lit_9, lit_10, lit_15, lit_16, lit_19, lit_20, lit_31, lit_35, lit_36, lit_48, lit_49, lit_53, lit_55, lit_57, lit_59, lit_60, lit_63, lit_64, lit_97, lit_102, lit_110, lit_160, lit_255, nI_add, ns_sub, ns_div, ns_le, ns_lt, ns_eq, ns_cl, pk_mul, ne10, eq_self, ↓reduceIte]
