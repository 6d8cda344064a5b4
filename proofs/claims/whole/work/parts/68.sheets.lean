/-! seen, forget, read, sheets -/
theorem lp_rel {α β τ σ : Type} {B : (α → Sg → Option (τ × Sg)) → α → Sg → Option (τ × Sg)} {C : (β → Sg → Option (σ × Sg)) → β → Sg → Option (σ × Sg)} (I : Nat → α → Sg → β → Sg → Prop) (Q : τ → Sg → σ → Sg → Prop) (N : Nat) (hs : ∀ i a S b T, i ≤ N → I i a S b T → (i < N ∧ ∃ a' S' b' T', (∀ rec, B rec a S = rec a' S') ∧ (∀ rec, C rec b T = rec b' T') ∧ I (i + 1) a' S' b' T') ∨ (∃ t S' u T', (∀ rec, B rec a S = some (t, S')) ∧ (∀ rec, C rec b T = some (u, T')) ∧ Q t S' u T')) : ∀ (n i : Nat) (a : α) (S : Sg) (b : β) (T : Sg), i ≤ N → N < i + n → I i a S b T → ∃ t S' u T', lp B n a S = some (t, S') ∧ lp C n b T = some (u, T') ∧ Q t S' u T' := by
  intro n
  induction n with
  | zero => intro i a S b T h1 h2; omega
  | succ n ih =>
    intro i a S b T h1 h2 hI
    rcases hs i a S b T h1 hI with ⟨hi, a', S', b', T', e, e', hI'⟩ | ⟨t, S', u, T', e, e', hQ⟩
    · obtain ⟨t, S2, u, T2, e2, e2', hQ⟩ := ih (i + 1) a' S' b' T' (by omega) (by omega) hI'
      exact ⟨t, S2, u, T2, by show B (lp B n) a S = _; rw [e]; exact e2, by show C (lp C n) b T = _; rw [e']; exact e2', hQ⟩
    · exact ⟨t, S', u, T', by show B (lp B n) a S = _; rw [e], by show C (lp C n) b T = _; rw [e'], hQ⟩
theorem lp_relF {α β τ σ : Type} {B : (α → Sg → Option (τ × Sg)) → α → Sg → Option (τ × Sg)} {C : (β → Sg → Option (σ × Sg)) → β → Sg → Option (σ × Sg)} (I : Nat → α → Sg → β → Sg → Prop) (Q : τ → Sg → σ → Sg → Prop) (N : Nat) (hN : N < 4096) (hs : ∀ i a S b T, i ≤ N → I i a S b T → (i < N ∧ ∃ a' S' b' T', (∀ rec, B rec a S = rec a' S') ∧ (∀ rec, C rec b T = rec b' T') ∧ I (i + 1) a' S' b' T') ∨ (∃ t S' u T', (∀ rec, B rec a S = some (t, S')) ∧ (∀ rec, C rec b T = some (u, T')) ∧ Q t S' u T')) (a : α) (S : Sg) (b : β) (T : Sg) (h : I 0 a S b T) : ∃ t S' u T', lp B fl a S = some (t, S') ∧ lp C fl b T = some (u, T') ∧ Q t S' u T' := lp_rel I Q N hs fl 0 a S b T (Nat.zero_le _) (by show N < 0 + 4096; omega) h
theorem Fr.kp {S S' : Sg} {A A' : Ab} (h : Fr S A) (e : ∀ a j, (a = 0 ∧ (j = 14 ∨ j = 17)) ∨ a = 5 ∨ (12 ≤ a ∧ a ≤ 23) → S'.1 a j = S.1 a j) (e1 : cfg A' = cfg A) (e2 : aU A' = aU A) (e3 : aT A' = aT A) : Fr S' A' := by
  obtain ⟨h1, h2, h3, h4, h5, h6, h7⟩ := h
  unfold Fr
  rw [e1, show sgn A' = sgn A by unfold sgn; rw [e2], e3]
  refine ⟨?_, ⟨h2.1, ?_, fun k hk => ?_⟩, fun k hk => ?_, ⟨fun k hk hp => ?_, fun d hd => ?_⟩, ?_, fun d hd => ?_, fun d hd => ?_⟩
  · rw [e 0 17 (by omega)]; exact h1
  · rw [e 12 0 (by omega)]; exact h2.2.1
  · rw [e (12 + 1) k (by omega), e (12 + 2) k (by omega), e (12 + 4) k (by omega)]; exact h2.2.2 k hk
  · rw [e 15 k (by omega)]; exact h3 k hk
  · rw [e (12 + 5) k (by omega)]; exact h4.1 k hk hp
  · rw [e (12 + 6) d (by omega), e (12 + 7) d (by omega), e (12 + 8) d (by omega)]; exact h4.2 d hd
  · rw [e 0 14 (by omega)]; exact h5
  · rw [e 5 d (by omega)]; exact h6 d hd
  · rw [e 22 d (by omega), e 23 d (by omega)]; exact h7 d hd
theorem St.kp {S S' : Sg} {A A' : Ab} (h : S.1 0 17 = nI 1 ∨ Fr S A) (e : ∀ a j, (a = 0 ∧ (j = 14 ∨ j = 17)) ∨ a = 5 ∨ (12 ≤ a ∧ a ≤ 23) → S'.1 a j = S.1 a j) (e1 : cfg A' = cfg A) (e2 : aU A' = aU A) (e3 : aT A' = aT A) : S'.1 0 17 = nI 1 ∨ Fr S' A' := by
  rcases h with h | h
  · exact Or.inl (by rw [e 0 17 (by omega)]; exact h)
  · exact Or.inr (h.kp e e1 e2 e3)
theorem stp_seen_ok : stp_seen Inv := by
  rintro Sc Sm x1 x2 x3 ⟨A, ⟨hB, hS⟩, hM⟩
  by_cases g1 : rg x1 20
  · obtain ⟨d, hd, rfl⟩ := g1
    by_cases g2 : rg x2 36
    · obtain ⟨l, hl, rfl⟩ := g2
      by_cases g3 : rg x3 7
      · obtain ⟨v, hv, rfl⟩ := g3
        obtain ⟨c1, c2, c3⟩ := hB.2.2.2.2.1
        obtain ⟨m1, m2, m3⟩ := hM.2.2.2.2.1
        by_cases hf : (aS A).1 = 8
        · refine ⟨-nI 4, Sc, Sm, ?_, ?_, A, ⟨hB, hS⟩, hM⟩
          · unfold fX8_seen fX6_add
            simp (disch := omega) only [cDay_y, cCell_y, bd_some, gd_ix, lit_0, lit_1, lit_2, lit_3, lit_4, lit_5, lit_6, lit_7, lit_8, lit_9, lit_10, lit_15, lit_16, lit_19, lit_20, lit_31, lit_35, lit_36, lit_48, lit_49, lit_53, lit_55, lit_57, lit_59, lit_60, lit_63, lit_64, lit_97, lit_102, lit_110, lit_160, lit_255, nI_add, ns_sub, ns_div, ns_le, ns_lt, ns_eq, ns_cl, pk_mul, ne10, eq_self, ↓reduceIte, c2, hf, Nat.lt_irrefl, show ¬ v < 0 from by omega, show v ≤ 6 from by omega]
          · unfold fX9_seen
            simp (disch := omega) only [mDay_y, mCell_y, in_y, bd_some, gd_ix, lit_0, lit_1, lit_2, lit_3, lit_4, lit_5, lit_6, lit_7, lit_8, lit_9, lit_10, lit_15, lit_16, lit_19, lit_20, lit_31, lit_35, lit_36, lit_48, lit_49, lit_53, lit_55, lit_57, lit_59, lit_60, lit_63, lit_64, lit_97, lit_102, lit_110, lit_160, lit_255, nI_add, ns_sub, ns_div, ns_le, ns_lt, ns_eq, ns_cl, pk_mul, ne10, eq_self, ↓reduceIte, m2, hf]
        · refine ⟨nI ((aS A).1 + 1), sI (sI (sI (sI Sc 37 (aS A).1 (nI d)) 38 (aS A).1 (nI l)) 39 (aS A).1 (nI v)) 36 3 (nI ((aS A).1 + 1)), sI (sI (sI (sI Sm 18 (aS A).1 (nI d)) 19 (aS A).1 (nI l)) 20 (aS A).1 (nI v)) 0 25 (nI ((aS A).1 + 1)), ?_, ?_, (A.1, A.2.1, A.2.2.1, A.2.2.2.1, A.2.2.2.2.1, ((aS A).1 + 1, app (aS A).2.1 (aS A).1 d, app (aS A).2.2.1 (aS A).1 l, app (aS A).2.2.2 (aS A).1 v), A.2.2.2.2.2.2), ⟨?_, ?_⟩, ?_⟩
          · unfold fX8_seen fX6_add
            simp (disch := omega) only [cDay_y, cCell_y, bd_some, gd_ix, lit_0, lit_1, lit_2, lit_3, lit_4, lit_5, lit_6, lit_7, lit_8, lit_9, lit_10, lit_15, lit_16, lit_19, lit_20, lit_31, lit_35, lit_36, lit_48, lit_49, lit_53, lit_55, lit_57, lit_59, lit_60, lit_63, lit_64, lit_97, lit_102, lit_110, lit_160, lit_255, nI_add, ns_sub, ns_div, ns_le, ns_lt, ns_eq, ns_cl, pk_mul, ne10, eq_self, ↓reduceIte, c2, sI1, sI2, sC1, sC2, sL1, sL2, Nat.reduceEqDiff, false_and, and_self, show ¬ v < 0 from by omega, show v ≤ 6 from by omega, show (aS A).1 < 8 from by omega]
          · unfold fX9_seen
            simp (disch := omega) only [mDay_y, mCell_y, in_y, bd_some, gd_ix, lit_0, lit_1, lit_2, lit_3, lit_4, lit_5, lit_6, lit_7, lit_8, lit_9, lit_10, lit_15, lit_16, lit_19, lit_20, lit_31, lit_35, lit_36, lit_48, lit_49, lit_53, lit_55, lit_57, lit_59, lit_60, lit_63, lit_64, lit_97, lit_102, lit_110, lit_160, lit_255, nI_add, ns_sub, ns_div, ns_le, ns_lt, ns_eq, ns_cl, pk_mul, ne10, eq_self, ↓reduceIte, m2, hf, sI1, sI2, sC1, sC2, sL1, sL2, Nat.reduceEqDiff, false_and, and_self]
          · refine hB.upS (fun a j q => by rw [sI1, if_neg (by omega), sI1, if_neg (by omega), sI1, if_neg (by omega), sI1, if_neg (by omega)]) ⟨by dsimp only; omega, by rw [sI1, if_pos ⟨rfl, rfl⟩], fun w hw => ?_⟩
            dsimp only at hw ⊢
            unfold app
            simp only [sI1, sI2, sC1, sC2, sL1, sL2, Nat.reduceEqDiff, false_and, if_false, true_and]
            by_cases q : w = (aS A).1
            · simp only [q, if_true]
              exact ⟨trivial, hd, trivial, hl, trivial, by omega⟩
            · simp only [q, if_false]
              exact c3 w (by omega)
          · exact St.kp hS (fun a j q => by rw [sI1, if_neg (by omega), sI1, if_neg (by omega), sI1, if_neg (by omega), sI1, if_neg (by omega)]) rfl rfl rfl
          · refine hM.upS (fun a j q => by rw [sI1, if_neg (by omega), sI1, if_neg (by omega), sI1, if_neg (by omega), sI1, if_neg (by omega)]) ⟨by dsimp only; omega, by rw [sI1, if_pos ⟨rfl, rfl⟩], fun w hw => ?_⟩
            dsimp only at hw ⊢
            unfold app
            simp only [sI1, sI2, sC1, sC2, sL1, sL2, Nat.reduceEqDiff, false_and, if_false, true_and]
            by_cases q : w = (aS A).1
            · simp only [q, if_true]
              exact ⟨trivial, hd, trivial, hl, trivial, by omega⟩
            · simp only [q, if_false]
              exact m3 w (by omega)
      · refine ⟨-nI 2, Sc, Sm, ?_, ?_, A, ⟨hB, hS⟩, hM⟩
        · unfold fX8_seen
          rw [cDay_y hd, bd_some, if_neg (by decide), cCell_y hl, bd_some, if_neg (by decide)]
          by_cases q : x3 < 0
          · rw [if_pos q]; rfl
          · rw [if_neg q, if_neg ?_]
            · rfl
            · rcases rg_no2 (by omega) g3 (b := 6) rfl with z | z
              · exact absurd z q
              · rw [fa_lt] at z
                rw [fa_le]
                show ¬ x3.toInt ≤ (nI 6).toInt
                omega
        · unfold fX9_seen
          simp (disch := omega) only [mDay_y, mCell_y, in_n g3 (b := 6) rfl (by omega), bd_some, gd_ix, lit_0, lit_1, lit_2, lit_3, lit_4, lit_5, lit_6, lit_7, lit_8, lit_9, lit_10, lit_15, lit_16, lit_19, lit_20, lit_31, lit_35, lit_36, lit_48, lit_49, lit_53, lit_55, lit_57, lit_59, lit_60, lit_63, lit_64, lit_97, lit_102, lit_110, lit_160, lit_255, nI_add, ns_sub, ns_div, ns_le, ns_lt, ns_eq, ns_cl, pk_mul, ne10, eq_self, ↓reduceIte]
    · refine ⟨-nI 2, Sc, Sm, ?_, ?_, A, ⟨hB, hS⟩, hM⟩
      · unfold fX8_seen
        simp (disch := omega) only [cDay_y, cCell_n g2, bd_some, gd_ix, lit_0, lit_1, lit_2, lit_3, lit_4, lit_5, lit_6, lit_7, lit_8, lit_9, lit_10, lit_15, lit_16, lit_19, lit_20, lit_31, lit_35, lit_36, lit_48, lit_49, lit_53, lit_55, lit_57, lit_59, lit_60, lit_63, lit_64, lit_97, lit_102, lit_110, lit_160, lit_255, nI_add, ns_sub, ns_div, ns_le, ns_lt, ns_eq, ns_cl, pk_mul, ne10, eq_self, ↓reduceIte]
      · unfold fX9_seen
        simp (disch := omega) only [mDay_y, mCell_n g2, bd_some, gd_ix, lit_0, lit_1, lit_2, lit_3, lit_4, lit_5, lit_6, lit_7, lit_8, lit_9, lit_10, lit_15, lit_16, lit_19, lit_20, lit_31, lit_35, lit_36, lit_48, lit_49, lit_53, lit_55, lit_57, lit_59, lit_60, lit_63, lit_64, lit_97, lit_102, lit_110, lit_160, lit_255, nI_add, ns_sub, ns_div, ns_le, ns_lt, ns_eq, ns_cl, pk_mul, ne10, eq_self, ↓reduceIte]
  · refine ⟨-nI 2, Sc, Sm, ?_, ?_, A, ⟨hB, hS⟩, hM⟩
    · unfold fX8_seen
      simp (disch := omega) only [cDay_n g1, bd_some, gd_ix, lit_0, lit_1, lit_2, lit_3, lit_4, lit_5, lit_6, lit_7, lit_8, lit_9, lit_10, lit_15, lit_16, lit_19, lit_20, lit_31, lit_35, lit_36, lit_48, lit_49, lit_53, lit_55, lit_57, lit_59, lit_60, lit_63, lit_64, lit_97, lit_102, lit_110, lit_160, lit_255, nI_add, ns_sub, ns_div, ns_le, ns_lt, ns_eq, ns_cl, pk_mul, ne10, eq_self, ↓reduceIte]
    · unfold fX9_seen
      simp (disch := omega) only [mDay_n g1, bd_some, gd_ix, lit_0, lit_1, lit_2, lit_3, lit_4, lit_5, lit_6, lit_7, lit_8, lit_9, lit_10, lit_15, lit_16, lit_19, lit_20, lit_31, lit_35, lit_36, lit_48, lit_49, lit_53, lit_55, lit_57, lit_59, lit_60, lit_63, lit_64, lit_97, lit_102, lit_110, lit_160, lit_255, nI_add, ns_sub, ns_div, ns_le, ns_lt, ns_eq, ns_cl, pk_mul, ne10, eq_self, ↓reduceIte]
theorem stp_forget_ok : stp_forget Inv := by
  rintro Sc Sm ⟨A, ⟨hB, hS⟩, hM⟩
  refine ⟨nI (aS A).1, sI Sc 36 3 (nI 0), sI Sm 0 25 (nI 0), ?_, ?_, (A.1, A.2.1, A.2.2.1, A.2.2.2.1, A.2.2.2.2.1, (0, (aS A).2), A.2.2.2.2.2.2), ⟨?_, ?_⟩, ?_⟩
  · unfold fX8_forget
    rw [hB.2.2.2.2.1.2.1]
    rfl
  · unfold fX9_forget
    rw [hM.2.2.2.2.1.2.1]
    rfl
  · exact hB.upS (fun a j q => by rw [sI1, if_neg (by omega)]) ⟨Nat.zero_le _, by rw [sI1, if_pos ⟨rfl, rfl⟩], fun i hi => absurd hi (Nat.not_lt_zero _)⟩
  · exact St.kp hS (fun a j q => by rw [sI1, if_neg (by omega)]) rfl rfl rfl
  · exact hM.upS (fun a j q => by rw [sI1, if_neg (by omega)]) ⟨Nat.zero_le _, by rw [sI1, if_pos ⟨rfl, rfl⟩], fun i hi => absurd hi (Nat.not_lt_zero _)⟩
/-- a finding -/
theorem found_ok {Sc Sm : Sg} {A : Ab} (hC : RC Sc A) (hM : RM Sm A) {k : Nat} (hk : k ≤ 5) : ∃ A2, RC (sI Sc 0 16 (nI k)) A2 ∧ RM (sI Sm 0 35 (nI k)) A2 := by
  obtain ⟨hB, hS⟩ := hC
  exact ⟨_, ⟨hB.upG (T' := k) (fun a j q => by rw [sI1, if_neg (by omega)]) ⟨hk, by rw [sI1, if_pos ⟨rfl, rfl⟩]⟩, St.kp hS (fun a j q => by rw [sI1, if_neg (by omega)]) rfl rfl rfl⟩, hM.upG (T' := k) (fun a j q => by rw [sI1, if_neg (by omega)]) ⟨hk, by rw [sI1, if_pos ⟨rfl, rfl⟩]⟩⟩
theorem fnd_c {k : Nat} {S : Sg} : fX8_found (nI k) S = some (-nI 10 - nI k, sI S 0 16 (nI k)) := rfl
theorem fnd_m {k : Nat} {S : Sg} : fX9_meets (nI k) S = some (-nI 10 - nI k, sI S 0 35 (nI k)) := rfl
theorem m_lt0 {k : Nat} (h : 1 ≤ k) (hk : k ≤ 8) : ¬ (nI 0 : Int32) ≤ -nI k ∧ (-nI k : Int32) ≤ nI 0 := by
  have : ∀ k, k ≤ 8 → 1 ≤ k → ¬ (nI 0 : Int32) ≤ -nI k ∧ (-nI k : Int32) ≤ nI 0 := by decide +kernel
  exact this k hk h
theorem stp_read_ok : stp_read Inv := by
  rintro Sc Sm x1 ⟨A, hC, hM⟩
  by_cases g1 : rg x1 4
  · obtain ⟨s, hs, rfl⟩ := g1
    obtain ⟨⟨b1, b2, b3⟩, c1, c2, c3, c4⟩ := hC.1.2.2.2.2.2.1 s hs
    obtain ⟨-, m1, m2, m3, m4⟩ := hM.2.2.2.2.2.1 s hs
    by_cases hl : (aH A).1 s = 0
    · rw [hl] at c1 m1
      obtain ⟨t, S2, u, T2, e1, e2, n, rfl, rfl, A2, q1, q2⟩ := lp_relF (B := bX8_read_35 (44 + 2 * s)) (C := bX9_read_27 (nI s)) (fun i a S b T => a = (nI i, nI (2 * i)) ∧ b = nI i ∧ ∃ A2, RC S A2 ∧ RM T A2 ∧ aH A2 = aH A) (fun t S u T => ∃ n, t = Sum.inl (nI n, nI (2 * n)) ∧ u = nI n ∧ ∃ A2, RC S A2 ∧ RM T A2) 40 (by omega) (by
        rintro i a S b T hi ⟨rfl, rfl, A2, hC2, hM2, hA2⟩
        obtain ⟨-, d1, d2, d3, d4⟩ := hC2.1.2.2.2.2.2.1 s hs
        obtain ⟨-, n1, n2, n3, n4⟩ := hM2.2.2.2.2.2.1 s hs
        rw [hA2] at d3 d4 n3 n4
        by_cases hin : (aH A).2.2.1 s ≤ 2 * i + 1
        · refine Or.inr ⟨Sum.inl (nI i, nI (2 * i)), S, nI i, T, fun rec => ?_, fun rec => ?_, i, rfl, rfl, A2, hC2, hM2⟩
          · simp (disch := omega) only [bX8_read_35, bd_some, gd_ix, lit_0, lit_1, lit_2, lit_3, lit_4, lit_5, lit_6, lit_7, lit_8, lit_9, lit_10, lit_15, lit_16, lit_19, lit_20, lit_31, lit_35, lit_36, lit_48, lit_49, lit_53, lit_55, lit_57, lit_59, lit_60, lit_63, lit_64, lit_97, lit_102, lit_110, lit_160, lit_255, nI_add, ns_sub, ns_div, ns_le, ns_lt, ns_eq, ns_cl, pk_mul, ne10, eq_self, ↓reduceIte, d3, hin]
          · simp (disch := omega) only [bX9_read_27, bd_some, gd_ix, lit_0, lit_1, lit_2, lit_3, lit_4, lit_5, lit_6, lit_7, lit_8, lit_9, lit_10, lit_15, lit_16, lit_19, lit_20, lit_31, lit_35, lit_36, lit_48, lit_49, lit_53, lit_55, lit_57, lit_59, lit_60, lit_63, lit_64, lit_97, lit_102, lit_110, lit_160, lit_255, nI_add, ns_sub, ns_div, ns_le, ns_lt, ns_eq, ns_cl, pk_mul, ne10, eq_self, ↓reduceIte, n3, hin]
        · obtain ⟨r, Sc3, Sm3, A3, e1, e2, hC3, hM3, hA3, hr⟩ := clean_ok hC2 hM2 ((aH A).2.2.2 s (2 * i)) ((aH A).2.2.2 s (2 * i + 1))
          have w1 := d4 (2 * i) (by omega)
          have w2 := d4 (2 * i + 1) (by omega)
          have w3 := n4 (2 * i) (by omega)
          have w4 := n4 (2 * i + 1) (by omega)
          rw [show 60 * s + (2 * i + 1) = 60 * s + 2 * i + 1 by omega] at w4
          have hbad : ∀ k, 1 ≤ k → k ≤ 8 → r = -nI k → (∃ t S' u T', (∀ rec, bX8_read_35 (44 + 2 * s) rec (nI i, nI (2 * i)) S = some (t, S')) ∧ (∀ rec, bX9_read_27 (nI s) rec (nI i) T = some (u, T')) ∧ ∃ n, t = Sum.inl (nI n, nI (2 * n)) ∧ u = nI n ∧ ∃ A2, RC S' A2 ∧ RM T' A2) := by
            rintro k hk1 hk2 rfl
            obtain ⟨z1, z2⟩ := m_lt0 hk1 hk2
            refine ⟨Sum.inl (nI i, nI (2 * i)), Sc3, nI i, Sm3, fun rec => ?_, fun rec => ?_, i, rfl, rfl, A3, hC3, hM3⟩
            · simp (disch := omega) only [bX8_read_35, bd_some, gd_ix, lit_0, lit_1, lit_2, lit_3, lit_4, lit_5, lit_6, lit_7, lit_8, lit_9, lit_10, lit_15, lit_16, lit_19, lit_20, lit_31, lit_35, lit_36, lit_48, lit_49, lit_53, lit_55, lit_57, lit_59, lit_60, lit_63, lit_64, lit_97, lit_102, lit_110, lit_160, lit_255, nI_add, ns_sub, ns_div, ns_le, ns_lt, ns_eq, ns_cl, pk_mul, ne10, eq_self, ↓reduceIte, d3, hin, w1, w2, e1, z1]
            · simp (disch := omega) only [bX9_read_27, bd_some, gd_ix, lit_0, lit_1, lit_2, lit_3, lit_4, lit_5, lit_6, lit_7, lit_8, lit_9, lit_10, lit_15, lit_16, lit_19, lit_20, lit_31, lit_35, lit_36, lit_48, lit_49, lit_53, lit_55, lit_57, lit_59, lit_60, lit_63, lit_64, lit_97, lit_102, lit_110, lit_160, lit_255, nI_add, ns_sub, ns_div, ns_le, ns_lt, ns_eq, ns_cl, pk_mul, ne10, eq_self, ↓reduceIte, n3, hin, w3, w4, e2, z2]
          rcases hr with hr | hr | ⟨n, h1, h2, rfl⟩
          · exact Or.inr (hbad 2 (by omega) (by omega) hr)
          · exact Or.inr (hbad 4 (by omega) (by omega) hr)
          · refine Or.inl ⟨by omega, (nI (i + 1), nI (2 * (i + 1))), Sc3, nI (i + 1), Sm3, fun rec => ?_, fun rec => ?_, rfl, rfl, A3, hC3, hM3, hA3.trans hA2⟩
            · simp (disch := omega) only [bX8_read_35, bd_some, gd_ix, lit_0, lit_1, lit_2, lit_3, lit_4, lit_5, lit_6, lit_7, lit_8, lit_9, lit_10, lit_15, lit_16, lit_19, lit_20, lit_31, lit_35, lit_36, lit_48, lit_49, lit_53, lit_55, lit_57, lit_59, lit_60, lit_63, lit_64, lit_97, lit_102, lit_110, lit_160, lit_255, nI_add, ns_sub, ns_div, ns_le, ns_lt, ns_eq, ns_cl, pk_mul, ne10, eq_self, ↓reduceIte, d3, hin, w1, w2, e1, show 0 ≤ n from by omega, show 2 * i + 2 = 2 * (i + 1) from by omega]
            · simp (disch := omega) only [bX9_read_27, bd_some, gd_ix, lit_0, lit_1, lit_2, lit_3, lit_4, lit_5, lit_6, lit_7, lit_8, lit_9, lit_10, lit_15, lit_16, lit_19, lit_20, lit_31, lit_35, lit_36, lit_48, lit_49, lit_53, lit_55, lit_57, lit_59, lit_60, lit_63, lit_64, lit_97, lit_102, lit_110, lit_160, lit_255, nI_add, ns_sub, ns_div, ns_le, ns_lt, ns_eq, ns_cl, pk_mul, ne10, eq_self, ↓reduceIte, n3, hin, w3, w4, e2, show ¬ n ≤ 0 from by omega]) (nI 0, nI 0) Sc (nI 0) Sm ⟨rfl, rfl, A, hC, hM, rfl⟩
      refine ⟨nI n, S2, T2, ?_, ?_, A2, q1, q2⟩
      · unfold fX8_read
        simp (disch := omega) only [cSheet_y, bd_some, gd_ix, lit_0, lit_1, lit_2, lit_3, lit_4, lit_5, lit_6, lit_7, lit_8, lit_9, lit_10, lit_15, lit_16, lit_19, lit_20, lit_31, lit_35, lit_36, lit_48, lit_49, lit_53, lit_55, lit_57, lit_59, lit_60, lit_63, lit_64, lit_97, lit_102, lit_110, lit_160, lit_255, nI_add, ns_sub, ns_div, ns_le, ns_lt, ns_eq, ns_cl, pk_mul, ne10, eq_self, ↓reduceIte, c1, e1, se_l]
      · unfold fX9_read
        simp (disch := omega) only [mSheet_y, bd_some, gd_ix, lit_0, lit_1, lit_2, lit_3, lit_4, lit_5, lit_6, lit_7, lit_8, lit_9, lit_10, lit_15, lit_16, lit_19, lit_20, lit_31, lit_35, lit_36, lit_48, lit_49, lit_53, lit_55, lit_57, lit_59, lit_60, lit_63, lit_64, lit_97, lit_102, lit_110, lit_160, lit_255, nI_add, ns_sub, ns_div, ns_le, ns_lt, ns_eq, ns_cl, pk_mul, ne10, eq_self, ↓reduceIte, m1, e2, Nat.sub_zero]
    · have hl1 : (aH A).1 s = 1 := by omega
      rw [hl1] at c1 m1
      obtain ⟨A2, q1, q2⟩ := found_ok hC hM (k := 1) (by omega)
      refine ⟨-nI 10 - nI 1, sI Sc 0 16 (nI 1), sI Sm 0 35 (nI 1), ?_, ?_, A2, q1, q2⟩
      · unfold fX8_read
        simp (disch := omega) only [cSheet_y, bd_some, gd_ix, lit_0, lit_1, lit_2, lit_3, lit_4, lit_5, lit_6, lit_7, lit_8, lit_9, lit_10, lit_15, lit_16, lit_19, lit_20, lit_31, lit_35, lit_36, lit_48, lit_49, lit_53, lit_55, lit_57, lit_59, lit_60, lit_63, lit_64, lit_97, lit_102, lit_110, lit_160, lit_255, nI_add, ns_sub, ns_div, ns_le, ns_lt, ns_eq, ns_cl, pk_mul, ne10, eq_self, ↓reduceIte, c1, fnd_c]
      · unfold fX9_read
        simp (disch := omega) only [mSheet_y, bd_some, gd_ix, lit_0, lit_1, lit_2, lit_3, lit_4, lit_5, lit_6, lit_7, lit_8, lit_9, lit_10, lit_15, lit_16, lit_19, lit_20, lit_31, lit_35, lit_36, lit_48, lit_49, lit_53, lit_55, lit_57, lit_59, lit_60, lit_63, lit_64, lit_97, lit_102, lit_110, lit_160, lit_255, nI_add, ns_sub, ns_div, ns_le, ns_lt, ns_eq, ns_cl, pk_mul, ne10, eq_self, ↓reduceIte, m1, Nat.sub_self, fnd_m]
  · refine ⟨-nI 2, Sc, Sm, ?_, ?_, A, hC, hM⟩
    · unfold fX8_read
      simp (disch := omega) only [cSheet_n g1, bd_some, gd_ix, lit_0, lit_1, lit_2, lit_3, lit_4, lit_5, lit_6, lit_7, lit_8, lit_9, lit_10, lit_15, lit_16, lit_19, lit_20, lit_31, lit_35, lit_36, lit_48, lit_49, lit_53, lit_55, lit_57, lit_59, lit_60, lit_63, lit_64, lit_97, lit_102, lit_110, lit_160, lit_255, nI_add, ns_sub, ns_div, ns_le, ns_lt, ns_eq, ns_cl, pk_mul, ne10, eq_self, ↓reduceIte]
    · unfold fX9_read
      simp (disch := omega) only [mSheet_n g1, bd_some, gd_ix, lit_0, lit_1, lit_2, lit_3, lit_4, lit_5, lit_6, lit_7, lit_8, lit_9, lit_10, lit_15, lit_16, lit_19, lit_20, lit_31, lit_35, lit_36, lit_48, lit_49, lit_53, lit_55, lit_57, lit_59, lit_60, lit_63, lit_64, lit_97, lit_102, lit_110, lit_160, lit_255, nI_add, ns_sub, ns_div, ns_le, ns_lt, ns_eq, ns_cl, pk_mul, ne10, eq_self, ↓reduceIte]
