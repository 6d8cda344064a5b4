/-! copy -/
theorem nn_ex {x : Int32} (h : ¬ x < nI 0) : ∃ m, m < 2147483648 ∧ x = nI m := by
  rw [fa_lt] at h
  have h0 : (nI 0 : Int32).toInt = 0 := by decide
  have hr := fb_rng x
  refine ⟨x.toInt.toNat, by omega, ?_⟩
  rw [fa_eq, nI_toInt (by omega)]
  omega
theorem holds_ok {S : Sg} {t L a n : Nat} (hL : S.1 t 3 = nI L) (hL2 : L ≤ 60) (ha : a < 2147483648) (hn : n < 2147483648) : fX5_holds t (nI a) (nI n) S = some ((if a + n ≤ L then nI 1 else nI 0), S) := by
  unfold fX5_holds
  by_cases q : L < a
  · rw [if_neg (show ¬ a + n ≤ L by omega)]
    simp (disch := omega) only [bd_some, gd_ix, lit_0, lit_1, lit_2, lit_3, lit_4, lit_5, lit_6, lit_7, lit_8, lit_9, lit_10, lit_15, lit_16, lit_19, lit_20, lit_31, lit_35, lit_36, lit_48, lit_49, lit_53, lit_55, lit_57, lit_59, lit_60, lit_63, lit_64, lit_97, lit_102, lit_110, lit_160, lit_255, nI_add, ns_sub, ns_div, ns_le, ns_lt, ns_eq, ns_cl, pk_mul, ne10, eq_self, ↓reduceIte, hL, q, show ¬ a < 0 from by omega, show ¬ n < 0 from by omega]
  · by_cases q2 : L - a < n
    · rw [if_neg (show ¬ a + n ≤ L by omega)]
      simp (disch := omega) only [bd_some, gd_ix, lit_0, lit_1, lit_2, lit_3, lit_4, lit_5, lit_6, lit_7, lit_8, lit_9, lit_10, lit_15, lit_16, lit_19, lit_20, lit_31, lit_35, lit_36, lit_48, lit_49, lit_53, lit_55, lit_57, lit_59, lit_60, lit_63, lit_64, lit_97, lit_102, lit_110, lit_160, lit_255, nI_add, ns_sub, ns_div, ns_le, ns_lt, ns_eq, ns_cl, pk_mul, ne10, eq_self, ↓reduceIte, hL, q, q2, show ¬ a < 0 from by omega, show ¬ n < 0 from by omega]
    · rw [if_pos (show a + n ≤ L by omega)]
      simp (disch := omega) only [bd_some, gd_ix, lit_0, lit_1, lit_2, lit_3, lit_4, lit_5, lit_6, lit_7, lit_8, lit_9, lit_10, lit_15, lit_16, lit_19, lit_20, lit_31, lit_35, lit_36, lit_48, lit_49, lit_53, lit_55, lit_57, lit_59, lit_60, lit_63, lit_64, lit_97, lit_102, lit_110, lit_160, lit_255, nI_add, ns_sub, ns_div, ns_le, ns_lt, ns_eq, ns_cl, pk_mul, ne10, eq_self, ↓reduceIte, hL, q, q2, show ¬ a < 0 from by omega, show ¬ n < 0 from by omega]
theorem holds_01 {S : Sg} {t : Nat} {x y : Int32} : fX5_holds t x y S = some (nI 0, S) ∨ (¬ x < nI 0 ∧ ¬ y < nI 0 ∧ fX5_holds t x y S = some (nI 1, S)) := by
  unfold fX5_holds
  by_cases h1 : x < 0
  · rw [if_pos h1]; exact Or.inl rfl
  · by_cases h2 : y < 0
    · rw [if_neg h1, if_pos h2]; exact Or.inl rfl
    · rw [if_neg h1, if_neg h2]
      by_cases h3 : S.1 t 3 < x
      · rw [if_pos h3]; exact Or.inl rfl
      · by_cases h4 : S.1 t 3 - x < y
        · rw [if_neg h3, if_pos h4]; exact Or.inl rfl
        · rw [if_neg h3, if_neg h4]; exact Or.inr ⟨h1, h2, rfl⟩
theorem wide_sum {a n : Nat} (ha : a < 2147483648) (hn : n < 2147483648) : ((nI a).toInt64 + (nI n).toInt64).toInt = (a + n : Nat) := by
  have e1 : (nI a).toInt64.toInt = a := by rw [Int32.toInt_toInt64, nI_toInt ha]
  have e2 : (nI n).toInt64.toInt = n := by rw [Int32.toInt_toInt64, nI_toInt hn]
  rw [fb_addL (by rw [e1, e2]; omega) (by rw [e1, e2]; omega), e1, e2]
  omega
theorem cmp_gt {a n L : Nat} (ha : a < 2147483648) (hn : n < 2147483648) (hL : L < 2147483648) : (0 < lg_cmp ((nI a).toInt64 + (nI n).toInt64) (nI L).toInt64) = (L < a + n) := by
  have e := wide_sum ha hn
  have e3 : (nI L).toInt64.toInt = L := by rw [Int32.toInt_toInt64, nI_toInt hL]
  apply propext
  unfold lg_cmp
  by_cases q : L < a + n
  · rw [if_pos (show (nI a).toInt64 + (nI n).toInt64 > (nI L).toInt64 from by show (nI L).toInt64 < _; rw [fa_lt64, e, e3]; omega)]
    exact ⟨fun _ => q, fun _ => by decide⟩
  · rw [if_neg (show ¬ (nI a).toInt64 + (nI n).toInt64 > (nI L).toInt64 from by show ¬ (nI L).toInt64 < _; rw [fa_lt64, e, e3]; omega)]
    refine ⟨fun z => ?_, fun z => absurd z q⟩
    exfalso
    by_cases q2 : (nI a).toInt64 + (nI n).toInt64 = (nI L).toInt64
    · rw [if_pos q2] at z; exact absurd z (by decide)
    · rw [if_neg q2] at z; exact absurd z (by decide)
theorem cmp_le {a n L : Nat} (ha : a < 2147483648) (hn : n < 2147483648) (hL : L < 2147483648) : (lg_cmp ((nI a).toInt64 + (nI n).toInt64) (nI L).toInt64 ≤ 0) = (a + n ≤ L) := by
  have h := cmp_gt ha hn hL
  apply propext
  have e : ∀ z : Int32, z ≤ 0 ↔ ¬ 0 < z := fun z => by rw [fa_le, fa_lt]; omega
  rw [e, h]
  omega
theorem moved_ok {S : Sg} {s a n : Nat} (hs : s < 4) (h : a + n ≤ 60) : ∃ S', lp (bX9_copy_120 (nI s) (nI a) (nI n)) fl (nI 0) S = some (nI n, S') ∧ fr 26 26 S S' ∧ ∀ k, k < n → S'.1 26 k = S.1 25 (60 * s + a + k) := by
  obtain ⟨x, S', e1, rfl, q1, q2⟩ := lp_invF (B := bX9_copy_120 (nI s) (nI a) (nI n)) (fun i x Sx => x = nI i ∧ fr 26 26 S Sx ∧ ∀ k, k < i → Sx.1 26 k = S.1 25 (60 * s + a + k)) (fun x Sx => x = nI n ∧ fr 26 26 S Sx ∧ ∀ k, k < n → Sx.1 26 k = S.1 25 (60 * s + a + k)) n (by omega) (by
    rintro i x Sx hi ⟨rfl, hf, hr⟩
    by_cases hin : i < n
    · refine Or.inl ⟨hin, nI (i + 1), sI Sx 26 i (S.1 25 (60 * s + a + i)), fun rec => ?_, rfl, hf.I (by omega) (by omega), fun d hd => ?_⟩
      · have w : Sx.1 25 (60 * s + a + i) = S.1 25 (60 * s + a + i) := hf.1 _ _ (by omega)
        simp (disch := omega) only [bX9_copy_120, bd_some, gd_ix, lit_0, lit_1, lit_2, lit_3, lit_4, lit_5, lit_6, lit_7, lit_8, lit_9, lit_10, lit_15, lit_16, lit_19, lit_20, lit_31, lit_35, lit_36, lit_48, lit_49, lit_53, lit_55, lit_57, lit_59, lit_60, lit_63, lit_64, lit_97, lit_102, lit_110, lit_160, lit_255, nI_add, ns_sub, ns_div, ns_le, ns_lt, ns_eq, ns_cl, pk_mul, ne10, eq_self, ↓reduceIte, w, show ¬ n ≤ i from by omega]
      · rw [sI1]
        by_cases q : d = i
        · subst q; rw [if_pos ⟨rfl, rfl⟩]
        · rw [if_neg (by omega)]; exact hr d (by omega)
    · have hin2 : i = n := by omega
      subst hin2
      refine Or.inr ⟨nI i, Sx, fun rec => ?_, rfl, hf, hr⟩
      simp (disch := omega) only [bX9_copy_120, bd_some, gd_ix, lit_0, lit_1, lit_2, lit_3, lit_4, lit_5, lit_6, lit_7, lit_8, lit_9, lit_10, lit_15, lit_16, lit_19, lit_20, lit_31, lit_35, lit_36, lit_48, lit_49, lit_53, lit_55, lit_57, lit_59, lit_60, lit_63, lit_64, lit_97, lit_102, lit_110, lit_160, lit_255, nI_add, ns_sub, ns_div, ns_le, ns_lt, ns_eq, ns_cl, pk_mul, ne10, eq_self, ↓reduceIte, Nat.le_refl]) (nI 0) S ⟨rfl, fr.rf, fun d hd => absurd hd (by omega)⟩
  exact ⟨S', e1, q1, q2⟩
theorem laid_ok {S : Sg} {t b n : Nat} (ht : t < 4) (h : b + n ≤ 60) : ∃ S', lp (bX9_copy_157 (nI t) (nI b) (nI n)) fl (nI 0) S = some (nI n, S') ∧ (∀ a j, ¬ (a = 25 ∧ 60 * t + b ≤ j ∧ j < 60 * t + b + n) → S'.1 a j = S.1 a j) ∧ ∀ k, k < n → S'.1 25 (60 * t + b + k) = S.1 26 k := by
  obtain ⟨x, S', e1, rfl, q1, q2⟩ := lp_invF (B := bX9_copy_157 (nI t) (nI b) (nI n)) (fun i x Sx => x = nI i ∧ (∀ a j, ¬ (a = 25 ∧ 60 * t + b ≤ j ∧ j < 60 * t + b + n) → Sx.1 a j = S.1 a j) ∧ ∀ k, k < i → Sx.1 25 (60 * t + b + k) = S.1 26 k) (fun x Sx => x = nI n ∧ (∀ a j, ¬ (a = 25 ∧ 60 * t + b ≤ j ∧ j < 60 * t + b + n) → Sx.1 a j = S.1 a j) ∧ ∀ k, k < n → Sx.1 25 (60 * t + b + k) = S.1 26 k) n (by omega) (by
    rintro i x Sx hi ⟨rfl, hf, hr⟩
    by_cases hin : i < n
    · refine Or.inl ⟨hin, nI (i + 1), sI Sx 25 (60 * t + b + i) (S.1 26 i), fun rec => ?_, rfl, fun a j q => by rw [sI1, if_neg (by omega)]; exact hf a j q, fun d hd => ?_⟩
      · have w : Sx.1 26 i = S.1 26 i := hf _ _ (by omega)
        simp (disch := omega) only [bX9_copy_157, bd_some, gd_ix, lit_0, lit_1, lit_2, lit_3, lit_4, lit_5, lit_6, lit_7, lit_8, lit_9, lit_10, lit_15, lit_16, lit_19, lit_20, lit_31, lit_35, lit_36, lit_48, lit_49, lit_53, lit_55, lit_57, lit_59, lit_60, lit_63, lit_64, lit_97, lit_102, lit_110, lit_160, lit_255, nI_add, ns_sub, ns_div, ns_le, ns_lt, ns_eq, ns_cl, pk_mul, ne10, eq_self, ↓reduceIte, w, show ¬ n ≤ i from by omega]
      · rw [sI1]
        by_cases q : d = i
        · subst q; rw [if_pos ⟨rfl, rfl⟩]
        · rw [if_neg (by omega)]; exact hr d (by omega)
    · have hin2 : i = n := by omega
      subst hin2
      refine Or.inr ⟨nI i, Sx, fun rec => ?_, rfl, hf, hr⟩
      simp (disch := omega) only [bX9_copy_157, bd_some, gd_ix, lit_0, lit_1, lit_2, lit_3, lit_4, lit_5, lit_6, lit_7, lit_8, lit_9, lit_10, lit_15, lit_16, lit_19, lit_20, lit_31, lit_35, lit_36, lit_48, lit_49, lit_53, lit_55, lit_57, lit_59, lit_60, lit_63, lit_64, lit_97, lit_102, lit_110, lit_160, lit_255, nI_add, ns_sub, ns_div, ns_le, ns_lt, ns_eq, ns_cl, pk_mul, ne10, eq_self, ↓reduceIte, Nat.le_refl]) (nI 0) S ⟨rfl, fun _ _ _ => rfl, fun d hd => absurd hd (by omega)⟩
  exact ⟨S', e1, q1, q2⟩
theorem stp_copy_ok : stp_copy Inv := by
  rintro Sc Sm x1 x2 x3 x4 x5 ⟨A, hC, hM⟩
  by_cases g1 : rg x1 4
  · obtain ⟨s, hs, rfl⟩ := g1
    by_cases g2 : rg x3 4
    · obtain ⟨t, ht, rfl⟩ := g2
      obtain ⟨⟨b1, b2, b3⟩, c1, c2, c3, c4⟩ := hC.1.2.2.2.2.2.1 s hs
      obtain ⟨-, m1, m2, m3, m4⟩ := hM.2.2.2.2.2.1 s hs
      obtain ⟨⟨b1', b2', b3'⟩, c1', c2', c3', c4'⟩ := hC.1.2.2.2.2.2.1 t ht
      obtain ⟨-, m1', m2', m3', m4'⟩ := hM.2.2.2.2.2.1 t ht
      have hfind : ∀ k, k ≤ 5 → fX8_copy (nI s) x2 (nI t) x4 x5 Sc = some (-nI 10 - nI k, sI Sc 0 16 (nI k)) → fX9_copy (nI s) x2 (nI t) x4 x5 Sm = some (-nI 10 - nI k, sI Sm 0 35 (nI k)) → ∃ (r : Int32) (Sc2 Sm2 : Sg), fX8_copy (nI s) x2 (nI t) x4 x5 Sc = some (r, Sc2) ∧ fX9_copy (nI s) x2 (nI t) x4 x5 Sm = some (r, Sm2) ∧ Inv Sc2 Sm2 := fun k hk e1 e2 => by
        obtain ⟨A2, q1, q2⟩ := found_ok hC hM (k := k) hk
        exact ⟨_, _, _, e1, e2, A2, q1, q2⟩
      by_cases hl : (aH A).1 s = 0
      · rw [hl] at c1 m1
        by_cases hl' : (aH A).1 t = 0
        · rw [hl'] at c1' m1'
          by_cases hff : (aH A).2.1 s = (aH A).2.1 t
          · by_cases hneg : x2 < nI 0 ∨ x4 < nI 0 ∨ x5 < nI 0
            · refine hfind 2 (by omega) ?_ ?_
              · unfold fX8_copy
                rcases holds_01 (S := Sc) (t := 44 + 2 * s) (x := x2) (y := x5) with z | ⟨z1, z2, z⟩
                · simp (disch := omega) only [cSheet_y, bd_some, gd_ix, lit_0, lit_1, lit_2, lit_3, lit_4, lit_5, lit_6, lit_7, lit_8, lit_9, lit_10, lit_15, lit_16, lit_19, lit_20, lit_31, lit_35, lit_36, lit_48, lit_49, lit_53, lit_55, lit_57, lit_59, lit_60, lit_63, lit_64, lit_97, lit_102, lit_110, lit_160, lit_255, nI_add, ns_sub, ns_div, ns_le, ns_lt, ns_eq, ns_cl, pk_mul, ne10, eq_self, ↓reduceIte, c1, c1', c2, c2', hff, z, fnd_c]
                · rcases holds_01 (S := Sc) (t := 44 + 2 * t) (x := x4) (y := x5) with y | ⟨y1, y2, y⟩
                  · simp (disch := omega) only [cSheet_y, bd_some, gd_ix, lit_0, lit_1, lit_2, lit_3, lit_4, lit_5, lit_6, lit_7, lit_8, lit_9, lit_10, lit_15, lit_16, lit_19, lit_20, lit_31, lit_35, lit_36, lit_48, lit_49, lit_53, lit_55, lit_57, lit_59, lit_60, lit_63, lit_64, lit_97, lit_102, lit_110, lit_160, lit_255, nI_add, ns_sub, ns_div, ns_le, ns_lt, ns_eq, ns_cl, pk_mul, ne10, eq_self, ↓reduceIte, c1, c1', c2, c2', hff, z, y, fnd_c]
                  · exfalso
                    rcases hneg with q | q | q
                    · exact z1 q
                    · exact y1 q
                    · exact z2 q
              · unfold fX9_copy
                by_cases q1 : x2 < nI 0
                · simp (disch := omega) only [mSheet_y, bd_some, gd_ix, lit_0, lit_1, lit_2, lit_3, lit_4, lit_5, lit_6, lit_7, lit_8, lit_9, lit_10, lit_15, lit_16, lit_19, lit_20, lit_31, lit_35, lit_36, lit_48, lit_49, lit_53, lit_55, lit_57, lit_59, lit_60, lit_63, lit_64, lit_97, lit_102, lit_110, lit_160, lit_255, nI_add, ns_sub, ns_div, ns_le, ns_lt, ns_eq, ns_cl, pk_mul, ne10, eq_self, ↓reduceIte, m1, m1', m2, m2', hff, Nat.sub_zero, q1, fnd_m]
                · by_cases q2 : x4 < nI 0
                  · simp (disch := omega) only [mSheet_y, bd_some, gd_ix, lit_0, lit_1, lit_2, lit_3, lit_4, lit_5, lit_6, lit_7, lit_8, lit_9, lit_10, lit_15, lit_16, lit_19, lit_20, lit_31, lit_35, lit_36, lit_48, lit_49, lit_53, lit_55, lit_57, lit_59, lit_60, lit_63, lit_64, lit_97, lit_102, lit_110, lit_160, lit_255, nI_add, ns_sub, ns_div, ns_le, ns_lt, ns_eq, ns_cl, pk_mul, ne10, eq_self, ↓reduceIte, m1, m1', m2, m2', hff, Nat.sub_zero, q1, q2, fnd_m]
                  · have q3 : x5 < nI 0 := by
                      rcases hneg with q | q | q
                      · exact absurd q q1
                      · exact absurd q q2
                      · exact q
                    simp (disch := omega) only [mSheet_y, bd_some, gd_ix, lit_0, lit_1, lit_2, lit_3, lit_4, lit_5, lit_6, lit_7, lit_8, lit_9, lit_10, lit_15, lit_16, lit_19, lit_20, lit_31, lit_35, lit_36, lit_48, lit_49, lit_53, lit_55, lit_57, lit_59, lit_60, lit_63, lit_64, lit_97, lit_102, lit_110, lit_160, lit_255, nI_add, ns_sub, ns_div, ns_le, ns_lt, ns_eq, ns_cl, pk_mul, ne10, eq_self, ↓reduceIte, m1, m1', m2, m2', hff, Nat.sub_zero, q1, q2, q3, fnd_m]
            · obtain ⟨a, ha, rfl⟩ := nn_ex (x := x2) (fun q => hneg (Or.inl q))
              obtain ⟨b, hb, rfl⟩ := nn_ex (x := x4) (fun q => hneg (Or.inr (Or.inl q)))
              obtain ⟨n, hn, rfl⟩ := nn_ex (x := x5) (fun q => hneg (Or.inr (Or.inr q)))
              have k1 := holds_ok c3 b3 ha hn
              have k2 := holds_ok c3' b3' hb hn
              have gt1 := cmp_gt ha hn (show (aH A).2.2.1 s < 2147483648 by omega)
              have le2 := cmp_le hb hn (show (aH A).2.2.1 t < 2147483648 by omega)
              rw [lit_0] at gt1 le2
              by_cases w1 : a + n ≤ (aH A).2.2.1 s
              · by_cases w2 : b + n ≤ (aH A).2.2.1 t
                · obtain ⟨S1, e1, f1, r1⟩ := moved_ok (S := Sm) (a := a) (n := n) hs (by omega)
                  obtain ⟨S2, e2, f2, r2⟩ := laid_ok (S := S1) (b := b) (n := n) ht (by omega)
                  refine ⟨nI 1, sC Sc (44 + 2 * t + 1) (va_cpy (Sc.1 (44 + 2 * s + 1)) (Sc.1 (44 + 2 * t + 1)) a b n), S2, ?_, ?_, sheet_chg hC hM ((aH A).1, (aH A).2.1, (aH A).2.2.1, apI (aH A).2.2.2 t (fun k => if b ≤ k ∧ k < b + n then (aH A).2.2.2 s (a + (k - b)) else (aH A).2.2.2 t k)) (fun u j q => by rw [sC1, if_neg (by omega)]) (fun u j q => by rw [f2 u j (by omega), f1.1 u j (by omega)]) (fun j hj => ?_) (fun j hj => ?_)⟩
                  · have hcp : cpok (nI a) (nI b) (nI n) 60 60 = true := by
                      unfold cpok
                      rw [lit_0]
                      simp only [Bool.and_eq_true, decide_eq_true_eq]
                      refine ⟨⟨⟨⟨nI_pos' ha, nI_pos' hb⟩, nI_pos' hn⟩, ?_⟩, ?_⟩
                      · rw [ns_cl ha, ns_cl hn]; omega
                      · rw [ns_cl hb, ns_cl hn]; omega
                    rw [if_pos w1] at k1
                    rw [if_pos w2] at k2
                    unfold fX8_copy
                    simp (disch := omega) only [cSheet_y, bd_some, gd_ix, lit_0, lit_1, lit_2, lit_3, lit_4, lit_5, lit_6, lit_7, lit_8, lit_9, lit_10, lit_15, lit_16, lit_19, lit_20, lit_31, lit_35, lit_36, lit_48, lit_49, lit_53, lit_55, lit_57, lit_59, lit_60, lit_63, lit_64, lit_97, lit_102, lit_110, lit_160, lit_255, nI_add, ns_sub, ns_div, ns_le, ns_lt, ns_eq, ns_cl, pk_mul, ne10, eq_self, ↓reduceIte, c1, c1', c2, c2', hff, k1, k2, hcp, gd_tt]
                  · unfold fX9_copy
                    simp (disch := omega) only [mSheet_y, bd_some, gd_ix, lit_0, lit_1, lit_2, lit_3, lit_4, lit_5, lit_6, lit_7, lit_8, lit_9, lit_10, lit_15, lit_16, lit_19, lit_20, lit_31, lit_35, lit_36, lit_48, lit_49, lit_53, lit_55, lit_57, lit_59, lit_60, lit_63, lit_64, lit_97, lit_102, lit_110, lit_160, lit_255, nI_add, ns_sub, ns_div, ns_le, ns_lt, ns_eq, ns_cl, pk_mul, ne10, eq_self, ↓reduceIte, m1, m1', m2, m2', m3, m3', hff, Nat.sub_zero, show ¬ a < 0 from by omega, show ¬ b < 0 from by omega, show ¬ n < 0 from by omega, gt1, le2, show ¬ (aH A).2.2.1 s < a + n from by omega, w2, e1, e2]
                  · obtain ⟨p, d1, d2, d3, d4⟩ := hC.1.2.2.2.2.2.1 j hj
                    refine ⟨p, by rw [sC1, if_neg (by omega)]; exact d1, by rw [sC1, if_neg (by omega)]; exact d2, by rw [sC1, if_neg (by omega)]; exact d3, fun k hk => ?_⟩
                    unfold apI
                    dsimp only
                    rw [sC1]
                    by_cases q : j = t
                    · subst q
                      rw [if_pos rfl, if_pos rfl]
                      unfold va_cpy
                      by_cases q2 : b ≤ k ∧ k < b + n
                      · rw [if_pos q2, if_pos q2]; exact c4 _ (by omega)
                      · rw [if_neg q2, if_neg q2]; exact d4 k hk
                    · rw [if_neg (by omega), if_neg q]; exact d4 k hk
                  · obtain ⟨p, d1, d2, d3, d4⟩ := hM.2.2.2.2.2.1 j hj
                    refine ⟨p, by rw [f2 _ _ (by omega), f1.1 _ _ (by omega)]; exact d1, by rw [f2 _ _ (by omega), f1.1 _ _ (by omega)]; exact d2, by rw [f2 _ _ (by omega), f1.1 _ _ (by omega)]; exact d3, fun k hk => ?_⟩
                    unfold apI
                    dsimp only
                    by_cases q : j = t
                    · subst q
                      rw [if_pos rfl]
                      by_cases q2 : b ≤ k ∧ k < b + n
                      · rw [if_pos q2]
                        have := r2 (k - b) (by omega)
                        rw [show 60 * j + b + (k - b) = 60 * j + k by omega] at this
                        rw [this, r1 (k - b) (by omega)]
                        have := m4 (a + (k - b)) (by omega)
                        rw [show 60 * s + (a + (k - b)) = 60 * s + a + (k - b) by omega] at this
                        exact this
                      · rw [if_neg q2, f2 _ _ (by omega), f1.1 _ _ (by omega)]; exact d4 k hk
                    · rw [if_neg q, f2 _ _ (by omega), f1.1 _ _ (by omega)]; exact d4 k hk
                · refine hfind 2 (by omega) ?_ ?_
                  · rw [if_pos w1] at k1
                    rw [if_neg w2] at k2
                    unfold fX8_copy
                    simp (disch := omega) only [cSheet_y, bd_some, gd_ix, lit_0, lit_1, lit_2, lit_3, lit_4, lit_5, lit_6, lit_7, lit_8, lit_9, lit_10, lit_15, lit_16, lit_19, lit_20, lit_31, lit_35, lit_36, lit_48, lit_49, lit_53, lit_55, lit_57, lit_59, lit_60, lit_63, lit_64, lit_97, lit_102, lit_110, lit_160, lit_255, nI_add, ns_sub, ns_div, ns_le, ns_lt, ns_eq, ns_cl, pk_mul, ne10, eq_self, ↓reduceIte, c1, c1', c2, c2', hff, k1, k2, fnd_c]
                  · unfold fX9_copy
                    simp (disch := omega) only [mSheet_y, bd_some, gd_ix, lit_0, lit_1, lit_2, lit_3, lit_4, lit_5, lit_6, lit_7, lit_8, lit_9, lit_10, lit_15, lit_16, lit_19, lit_20, lit_31, lit_35, lit_36, lit_48, lit_49, lit_53, lit_55, lit_57, lit_59, lit_60, lit_63, lit_64, lit_97, lit_102, lit_110, lit_160, lit_255, nI_add, ns_sub, ns_div, ns_le, ns_lt, ns_eq, ns_cl, pk_mul, ne10, eq_self, ↓reduceIte, m1, m1', m2, m2', m3, m3', hff, Nat.sub_zero, show ¬ a < 0 from by omega, show ¬ b < 0 from by omega, show ¬ n < 0 from by omega, gt1, le2, show ¬ (aH A).2.2.1 s < a + n from by omega, w2, fnd_m]
              · refine hfind 2 (by omega) ?_ ?_
                · rw [if_neg w1] at k1
                  unfold fX8_copy
                  simp (disch := omega) only [cSheet_y, bd_some, gd_ix, lit_0, lit_1, lit_2, lit_3, lit_4, lit_5, lit_6, lit_7, lit_8, lit_9, lit_10, lit_15, lit_16, lit_19, lit_20, lit_31, lit_35, lit_36, lit_48, lit_49, lit_53, lit_55, lit_57, lit_59, lit_60, lit_63, lit_64, lit_97, lit_102, lit_110, lit_160, lit_255, nI_add, ns_sub, ns_div, ns_le, ns_lt, ns_eq, ns_cl, pk_mul, ne10, eq_self, ↓reduceIte, c1, c1', c2, c2', hff, k1, fnd_c]
                · unfold fX9_copy
                  simp (disch := omega) only [mSheet_y, bd_some, gd_ix, lit_0, lit_1, lit_2, lit_3, lit_4, lit_5, lit_6, lit_7, lit_8, lit_9, lit_10, lit_15, lit_16, lit_19, lit_20, lit_31, lit_35, lit_36, lit_48, lit_49, lit_53, lit_55, lit_57, lit_59, lit_60, lit_63, lit_64, lit_97, lit_102, lit_110, lit_160, lit_255, nI_add, ns_sub, ns_div, ns_le, ns_lt, ns_eq, ns_cl, pk_mul, ne10, eq_self, ↓reduceIte, m1, m1', m2, m2', m3, m3', hff, Nat.sub_zero, show ¬ a < 0 from by omega, show ¬ b < 0 from by omega, show ¬ n < 0 from by omega, gt1, show (aH A).2.2.1 s < a + n from by omega, fnd_m]
          · refine hfind 4 (by omega) ?_ ?_
            · unfold fX8_copy
              simp (disch := omega) only [cSheet_y, bd_some, gd_ix, lit_0, lit_1, lit_2, lit_3, lit_4, lit_5, lit_6, lit_7, lit_8, lit_9, lit_10, lit_15, lit_16, lit_19, lit_20, lit_31, lit_35, lit_36, lit_48, lit_49, lit_53, lit_55, lit_57, lit_59, lit_60, lit_63, lit_64, lit_97, lit_102, lit_110, lit_160, lit_255, nI_add, ns_sub, ns_div, ns_le, ns_lt, ns_eq, ns_cl, pk_mul, ne10, eq_self, ↓reduceIte, c1, c1', c2, c2', hff, fnd_c]
            · unfold fX9_copy
              rw [mSheet_y hs, bd_some, if_neg (by decide), mSheet_y ht, bd_some, if_neg (by decide), gd_ix hs (by omega), ns_cl (a := s) (by omega), ns_cl (a := t) (by omega), m1, if_neg (by decide), gd_ix ht (by omega), m1', if_neg (by decide), gd_ix hs (by omega), gd_ix ht (by omega), m2, m2', if_neg (by rw [ns_eq (by omega) (by omega)]; exact hff)]
              rfl
        · rw [show (aH A).1 t = 1 by omega] at c1' m1'
          refine hfind 1 (by omega) ?_ ?_
          · unfold fX8_copy
            simp (disch := omega) only [cSheet_y, bd_some, gd_ix, lit_0, lit_1, lit_2, lit_3, lit_4, lit_5, lit_6, lit_7, lit_8, lit_9, lit_10, lit_15, lit_16, lit_19, lit_20, lit_31, lit_35, lit_36, lit_48, lit_49, lit_53, lit_55, lit_57, lit_59, lit_60, lit_63, lit_64, lit_97, lit_102, lit_110, lit_160, lit_255, nI_add, ns_sub, ns_div, ns_le, ns_lt, ns_eq, ns_cl, pk_mul, ne10, eq_self, ↓reduceIte, c1, c1', fnd_c]
          · unfold fX9_copy
            rw [mSheet_y hs, bd_some, if_neg (by decide), mSheet_y ht, bd_some, if_neg (by decide), gd_ix hs (by omega), ns_cl (a := s) (by omega), ns_cl (a := t) (by omega), m1, if_neg (by decide), gd_ix ht (by omega), m1', if_pos (by decide)]
            rfl
      · rw [show (aH A).1 s = 1 by omega] at c1 m1
        refine hfind 1 (by omega) ?_ ?_
        · unfold fX8_copy
          simp (disch := omega) only [cSheet_y, bd_some, gd_ix, lit_0, lit_1, lit_2, lit_3, lit_4, lit_5, lit_6, lit_7, lit_8, lit_9, lit_10, lit_15, lit_16, lit_19, lit_20, lit_31, lit_35, lit_36, lit_48, lit_49, lit_53, lit_55, lit_57, lit_59, lit_60, lit_63, lit_64, lit_97, lit_102, lit_110, lit_160, lit_255, nI_add, ns_sub, ns_div, ns_le, ns_lt, ns_eq, ns_cl, pk_mul, ne10, eq_self, ↓reduceIte, c1, fnd_c]
        · unfold fX9_copy
          rw [mSheet_y hs, bd_some, if_neg (by decide), mSheet_y ht, bd_some, if_neg (by decide), gd_ix hs (by omega), ns_cl (a := s) (by omega), ns_cl (a := t) (by omega), m1, if_pos (by decide)]
          rfl
    · refine ⟨-nI 2, Sc, Sm, ?_, ?_, A, hC, hM⟩
      · unfold fX8_copy
        simp (disch := omega) only [cSheet_y, cSheet_n g2, bd_some, gd_ix, lit_0, lit_1, lit_2, lit_3, lit_4, lit_5, lit_6, lit_7, lit_8, lit_9, lit_10, lit_15, lit_16, lit_19, lit_20, lit_31, lit_35, lit_36, lit_48, lit_49, lit_53, lit_55, lit_57, lit_59, lit_60, lit_63, lit_64, lit_97, lit_102, lit_110, lit_160, lit_255, nI_add, ns_sub, ns_div, ns_le, ns_lt, ns_eq, ns_cl, pk_mul, ne10, eq_self, ↓reduceIte]
      · unfold fX9_copy
        simp (disch := omega) only [mSheet_y, mSheet_n g2, bd_some, gd_ix, lit_0, lit_1, lit_2, lit_3, lit_4, lit_5, lit_6, lit_7, lit_8, lit_9, lit_10, lit_15, lit_16, lit_19, lit_20, lit_31, lit_35, lit_36, lit_48, lit_49, lit_53, lit_55, lit_57, lit_59, lit_60, lit_63, lit_64, lit_97, lit_102, lit_110, lit_160, lit_255, nI_add, ns_sub, ns_div, ns_le, ns_lt, ns_eq, ns_cl, pk_mul, ne10, eq_self, ↓reduceIte]
  · refine ⟨-nI 2, Sc, Sm, ?_, ?_, A, hC, hM⟩
    · unfold fX8_copy
      simp (disch := omega) only [cSheet_n g1, bd_some, gd_ix, lit_0, lit_1, lit_2, lit_3, lit_4, lit_5, lit_6, lit_7, lit_8, lit_9, lit_10, lit_15, lit_16, lit_19, lit_20, lit_31, lit_35, lit_36, lit_48, lit_49, lit_53, lit_55, lit_57, lit_59, lit_60, lit_63, lit_64, lit_97, lit_102, lit_110, lit_160, lit_255, nI_add, ns_sub, ns_div, ns_le, ns_lt, ns_eq, ns_cl, pk_mul, ne10, eq_self, ↓reduceIte]
    · unfold fX9_copy
      simp (disch := omega) only [mSheet_n g1, bd_some, gd_ix, lit_0, lit_1, lit_2, lit_3, lit_4, lit_5, lit_6, lit_7, lit_8, lit_9, lit_10, lit_15, lit_16, lit_19, lit_20, lit_31, lit_35, lit_36, lit_48, lit_49, lit_53, lit_55, lit_57, lit_59, lit_60, lit_63, lit_64, lit_97, lit_102, lit_110, lit_160, lit_255, nI_add, ns_sub, ns_div, ns_le, ns_lt, ns_eq, ns_cl, pk_mul, ne10, eq_self, ↓reduceIte]
