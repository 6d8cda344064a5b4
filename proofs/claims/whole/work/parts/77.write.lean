/-! write -/
theorem low_dec : ∀ m, m ≤ 11 → (nI m).toInt8.toInt32 = nI m ∧ (nI m).toInt16.toInt32 = nI m := by decide +kernel
theorem low_m1 : (-nI 1 : Int32).toInt8.toInt32 = -nI 1 ∧ (-nI 1 : Int32).toInt16.toInt32 = -nI 1 := by decide +kernel
theorem shw_vals {c : Cf} {G : Nat → Nat} {d x : Nat} (hG : ∀ k, k < cN c → G k ≤ 5) : shw c G d x = -nI 1 ∨ ∃ m, m ≤ 11 ∧ shw c G d x = nI m := by
  by_cases q : ∃ k, k < cN c ∧ shp c d x k = true
  · obtain ⟨k, hk, hp⟩ := q
    unfold shp at hp
    simp only [Bool.and_eq_true, Bool.or_eq_true, beq_iff_eq] at hp
    have h5 := hG k hk
    rcases hp.2 with a | a
    · exact Or.inr ⟨G k, by omega, shw_w hk hp.1 a⟩
    · exact Or.inr ⟨6 + G k, by omega, shw_u hk hp.1 a⟩
  · left
    exact shw_n (fun k hk => by
      cases y : shp c d x k with
      | false => rfl
      | true => exact absurd ⟨k, hk, y⟩ q)
theorem shw_low {c : Cf} {G : Nat → Nat} {d x f : Nat} (hG : ∀ k, k < cN c → G k ≤ 5) : lowB f (shw c G d x) = shw c G d x := by
  rcases shw_vals (d := d) (x := x) hG with h | ⟨m, hm, h⟩
  · rw [h]
    unfold lowB
    by_cases q : f = 0
    · rw [if_pos q]; exact low_m1.1
    · rw [if_neg q]
      by_cases q2 : f = 1
      · rw [if_pos q2]; exact low_m1.2
      · rw [if_neg q2]
  · rw [h]
    unfold lowB
    by_cases q : f = 0
    · rw [if_pos q]; exact (low_dec m hm).1
    · rw [if_neg q]
      by_cases q2 : f = 1
      · rw [if_pos q2]; exact (low_dec m hm).2
      · rw [if_neg q2]
/-- what of the reference stays while a sheet is written -/
def wrI (T : Sg) (c : Cf) (G : Nat → Nat) : Prop := T.1 0 4 = nI (cN c) ∧ (∀ k, k < cN c → (T.1 5 k = nI (cC c k) ∧ cC c k < 36) ∧ T.1 6 k = nI (G k)) ∧ ∀ d, d < 20 → Rd T c d
theorem wrI.I {T : Sg} {c : Cf} {G : Nat → Nat} {k : Nat} {v : Int32} (h : wrI T c G) : wrI (sI T 25 k v) c G := by
  obtain ⟨h1, h2, h3⟩ := h
  refine ⟨by rw [sI1, if_neg (by omega)]; exact h1, fun k hk => ?_, fun d hd => ?_⟩
  · rw [sI1, if_neg (by omega), sI1, if_neg (by omega)]; exact h2 k hk
  · obtain ⟨q1, q2⟩ := h3 d hd
    have e : ∀ a j, ¬ a = 25 → (sI T 25 k v).1 a j = T.1 a j := fun a j q => by rw [sI1, if_neg (by omega)]
    refine ⟨by rw [e 15 d (by omega)]; exact q1, fun k hk => ?_⟩
    rw [e 16 _ (by omega), e 17 _ (by omega)]
    exact q2 k hk
theorem wrI.st {T : Sg} {c : Cf} {G : Nat → Nat} (h : wrI T c G) (h8 : cN c ≤ 8) {d x : Nat} (hd : d < 20) (hx : x < 36) : fX9_standsNow (nI d) (nI x) T = some (shw c G d x, T) :=
  standsNow_ok h.1 h8 (fun k hk => (h.2.1 k hk).1) (fun k hk => (h.2.1 k hk).2) (h.2.2 d hd) hd hx
theorem stp_write_ok : stp_write Inv := by
  rintro Sc Sm x1 x2 ⟨A, hC, hM⟩
  by_cases g1 : rg x1 20
  · obtain ⟨d, hd, rfl⟩ := g1
    by_cases g2 : rg x2 4
    · obtain ⟨s, hs, rfl⟩ := g2
      obtain ⟨⟨b1, b2, b3⟩, c1, c2, c3, c4⟩ := hC.1.2.2.2.2.2.1 s hs
      obtain ⟨-, m1, m2, m3, m4⟩ := hM.2.2.2.2.2.1 s hs
      by_cases hl : (aH A).1 s = 0
      · rw [hl] at c1 m1
        obtain ⟨S1, e1, z1, r1, k1, d1⟩ := runsTold_ok hM
        have h8 := cfg_8m hM
        have hG : ∀ k, k < cN (cfg A) → sgn A k ≤ 5 := fun k hk => (cfg_rng hk).2.2.1
        have w1 : wrI S1 (cfg A) (sgn A) := ⟨k1.2.1, fun k hk => ⟨⟨(k1.2.2.1 k hk).2.2.1, (k1.2.2.1 k hk).2.2.2.1⟩, (r1.2.2.2 k hk).2.2.1⟩, d1⟩
        have hM1 := hM.mz z1
        generalize hc : cfg A = c at w1 h8 hG
        generalize hg : sgn A = G at w1 hG
        generalize hL : (aH A).2.2.1 s = L at b3 c3 m3
        generalize hmm : (if 36 < L then 36 else L) = m
        have hm36 : m ≤ 36 ∧ m ≤ L ∧ (m = 36 ∨ m = L) := by
          rw [← hmm]; split <;> omega
        obtain ⟨t, S2, u, T2, e2, e3, rfl, rfl, A2, q1, q2⟩ := lp_relF (B := bX8_write_51 (nI d) (44 + 2 * s) (nI m)) (C := bX9_write_38 (nI d) (nI s)) (fun i a S b T => a = nI i ∧ b = nI i ∧ wrI T c G ∧ ∃ A2, RC S A2 ∧ RM T A2 ∧ cfg A2 = c ∧ sgn A2 = G ∧ (aH A2).2.2.1 s = L) (fun t S u T => t = nI m ∧ u = nI m ∧ ∃ A2, RC S A2 ∧ RM T A2) m (by omega) (by
          rintro i a S b T hi ⟨rfl, rfl, hw, A2, hC2, hM2, ec, eg, eL⟩
          have n3 := (hM2.2.2.2.2.2.1 s hs).2.2.2.1
          have n2 := (hM2.2.2.2.2.2.1 s hs).2.2.1
          have n2b := (hM2.2.2.2.2.2.1 s hs).1.2.1
          rw [eL] at n3
          by_cases hin : i < m
          · obtain ⟨S3, e4, h4⟩ := standsC_ok hC2 hd (show i < 36 by omega)
            have e5 := hw.st h8 hd (show i < 36 by omega)
            rw [ec, eg] at e4
            have e6 := keep_ok (S := T) hs (show i < 60 by omega) (show (aH A2).2.1 s < 3 by omega) n2 (v := shw c G d i)
            rw [shw_low hG] at e6
            obtain ⟨A3, q1, q2, q3⟩ := item_chg h4.c hM2 hs (show i < 60 by omega) (shw c G d i)
            refine Or.inl ⟨hin, nI (i + 1), _, nI (i + 1), _, fun rec => ?_, fun rec => ?_, rfl, rfl, hw.I, A3, q1, q2, ?_, ?_, ?_⟩
            · generalize shw c G d i = y at e4
              simp (disch := omega) only [bX8_write_51, bdq, gd_ix, lit_0, lit_1, lit_2, lit_3, lit_4, lit_5, lit_6, lit_7, lit_8, lit_9, lit_10, lit_15, lit_16, lit_19, lit_20, lit_31, lit_35, lit_36, lit_48, lit_49, lit_53, lit_55, lit_57, lit_59, lit_60, lit_63, lit_64, lit_97, lit_102, lit_110, lit_160, lit_255, nI_add, ns_sub, ns_div, ns_le, ns_lt, ns_eq, ns_cl, pk_mul, ne10, eq_self, ↓reduceIte, e4, show ¬ m ≤ i from by omega]
            · generalize shw c G d i = y at e5 e6
              simp (disch := omega) only [bX9_write_38, bdq, gd_ix, lit_0, lit_1, lit_2, lit_3, lit_4, lit_5, lit_6, lit_7, lit_8, lit_9, lit_10, lit_15, lit_16, lit_19, lit_20, lit_31, lit_35, lit_36, lit_48, lit_49, lit_53, lit_55, lit_57, lit_59, lit_60, lit_63, lit_64, lit_97, lit_102, lit_110, lit_160, lit_255, nI_add, ns_sub, ns_div, ns_le, ns_lt, ns_eq, ns_cl, pk_mul, ne10, eq_self, ↓reduceIte, n3, e5, e6, show ¬ L ≤ i from by omega, show ¬ 36 ≤ i from by omega]
            · rw [q3, ← ec]; rfl
            · rw [q3, ← eg]; rfl
            · rw [q3, ← eL]; rfl
          · have hin2 : i = m := by omega
            subst hin2
            refine Or.inr ⟨nI i, S, nI i, T, fun rec => ?_, fun rec => ?_, rfl, rfl, A2, hC2, hM2⟩
            · simp (disch := omega) only [bX8_write_51, bdq, gd_ix, lit_0, lit_1, lit_2, lit_3, lit_4, lit_5, lit_6, lit_7, lit_8, lit_9, lit_10, lit_15, lit_16, lit_19, lit_20, lit_31, lit_35, lit_36, lit_48, lit_49, lit_53, lit_55, lit_57, lit_59, lit_60, lit_63, lit_64, lit_97, lit_102, lit_110, lit_160, lit_255, nI_add, ns_sub, ns_div, ns_le, ns_lt, ns_eq, ns_cl, pk_mul, ne10, eq_self, ↓reduceIte, Nat.le_refl]
            · rcases hm36.2.2 with z | z
              · by_cases y : L ≤ i
                · simp (disch := omega) only [bX9_write_38, bdq, gd_ix, lit_0, lit_1, lit_2, lit_3, lit_4, lit_5, lit_6, lit_7, lit_8, lit_9, lit_10, lit_15, lit_16, lit_19, lit_20, lit_31, lit_35, lit_36, lit_48, lit_49, lit_53, lit_55, lit_57, lit_59, lit_60, lit_63, lit_64, lit_97, lit_102, lit_110, lit_160, lit_255, nI_add, ns_sub, ns_div, ns_le, ns_lt, ns_eq, ns_cl, pk_mul, ne10, eq_self, ↓reduceIte, n3, y]
                · simp (disch := omega) only [bX9_write_38, bdq, gd_ix, lit_0, lit_1, lit_2, lit_3, lit_4, lit_5, lit_6, lit_7, lit_8, lit_9, lit_10, lit_15, lit_16, lit_19, lit_20, lit_31, lit_35, lit_36, lit_48, lit_49, lit_53, lit_55, lit_57, lit_59, lit_60, lit_63, lit_64, lit_97, lit_102, lit_110, lit_160, lit_255, nI_add, ns_sub, ns_div, ns_le, ns_lt, ns_eq, ns_cl, pk_mul, ne10, eq_self, ↓reduceIte, n3, y, show 36 ≤ i from by omega]
              · simp (disch := omega) only [bX9_write_38, bdq, gd_ix, lit_0, lit_1, lit_2, lit_3, lit_4, lit_5, lit_6, lit_7, lit_8, lit_9, lit_10, lit_15, lit_16, lit_19, lit_20, lit_31, lit_35, lit_36, lit_48, lit_49, lit_53, lit_55, lit_57, lit_59, lit_60, lit_63, lit_64, lit_97, lit_102, lit_110, lit_160, lit_255, nI_add, ns_sub, ns_div, ns_le, ns_lt, ns_eq, ns_cl, pk_mul, ne10, eq_self, ↓reduceIte, n3, show L ≤ i from by omega]) (nI 0) Sc (nI 0) S1 ⟨rfl, rfl, w1, A, hC, hM1, hc, hg, hL⟩
        refine ⟨nI m, S2, T2, ?_, ?_, A2, q1, q2⟩
        · have em : (if nI 36 < nI L then nI 36 else nI L) = nI m := by
            rw [← hmm]
            by_cases z : 36 < L
            · rw [if_pos (by rw [ns_lt (by omega) (by omega)]; exact z), if_pos z]
            · rw [if_neg (by rw [ns_lt (by omega) (by omega)]; exact z), if_neg z]
          unfold fX8_write
          simp (disch := omega) only [cDay_y, cSheet_y, bdq, gd_ix, lit_0, lit_1, lit_36, ns_eq, ns_cl, ne10, eq_self, c1, c3, em, e2, ↓reduceIte]
        · unfold fX9_write
          simp (disch := omega) only [mDay_y, mSheet_y, bdq, gd_ix, lit_0, lit_1, lit_2, lit_3, lit_4, lit_5, lit_6, lit_7, lit_8, lit_9, lit_10, lit_15, lit_16, lit_19, lit_20, lit_31, lit_35, lit_36, lit_48, lit_49, lit_53, lit_55, lit_57, lit_59, lit_60, lit_63, lit_64, lit_97, lit_102, lit_110, lit_160, lit_255, nI_add, ns_sub, ns_div, ns_le, ns_lt, ns_eq, ns_cl, pk_mul, ne10, eq_self, ↓reduceIte, m1, Nat.sub_zero, e1, e3]
      · have hl1 : (aH A).1 s = 1 := by omega
        rw [hl1] at c1 m1
        obtain ⟨A2, q1, q2⟩ := found_ok hC hM (k := 1) (by omega)
        refine ⟨-nI 10 - nI 1, sI Sc 0 16 (nI 1), sI Sm 0 35 (nI 1), ?_, ?_, A2, q1, q2⟩
        · unfold fX8_write
          simp (disch := omega) only [cDay_y, cSheet_y, bdq, gd_ix, lit_0, lit_1, lit_2, lit_3, lit_4, lit_5, lit_6, lit_7, lit_8, lit_9, lit_10, lit_15, lit_16, lit_19, lit_20, lit_31, lit_35, lit_36, lit_48, lit_49, lit_53, lit_55, lit_57, lit_59, lit_60, lit_63, lit_64, lit_97, lit_102, lit_110, lit_160, lit_255, nI_add, ns_sub, ns_div, ns_le, ns_lt, ns_eq, ns_cl, pk_mul, ne10, eq_self, ↓reduceIte, c1, fnd_c]
        · unfold fX9_write
          simp (disch := omega) only [mDay_y, mSheet_y, bdq, gd_ix, lit_0, lit_1, lit_2, lit_3, lit_4, lit_5, lit_6, lit_7, lit_8, lit_9, lit_10, lit_15, lit_16, lit_19, lit_20, lit_31, lit_35, lit_36, lit_48, lit_49, lit_53, lit_55, lit_57, lit_59, lit_60, lit_63, lit_64, lit_97, lit_102, lit_110, lit_160, lit_255, nI_add, ns_sub, ns_div, ns_le, ns_lt, ns_eq, ns_cl, pk_mul, ne10, eq_self, ↓reduceIte, m1, Nat.sub_self, fnd_m]
    · refine ⟨-nI 2, Sc, Sm, ?_, ?_, A, hC, hM⟩
      · unfold fX8_write
        simp (disch := omega) only [cDay_y, cSheet_n g2, bdq, gd_ix, lit_0, lit_1, lit_2, lit_3, lit_4, lit_5, lit_6, lit_7, lit_8, lit_9, lit_10, lit_15, lit_16, lit_19, lit_20, lit_31, lit_35, lit_36, lit_48, lit_49, lit_53, lit_55, lit_57, lit_59, lit_60, lit_63, lit_64, lit_97, lit_102, lit_110, lit_160, lit_255, nI_add, ns_sub, ns_div, ns_le, ns_lt, ns_eq, ns_cl, pk_mul, ne10, eq_self, ↓reduceIte]
      · unfold fX9_write
        simp (disch := omega) only [mDay_y, mSheet_n g2, bdq, gd_ix, lit_0, lit_1, lit_2, lit_3, lit_4, lit_5, lit_6, lit_7, lit_8, lit_9, lit_10, lit_15, lit_16, lit_19, lit_20, lit_31, lit_35, lit_36, lit_48, lit_49, lit_53, lit_55, lit_57, lit_59, lit_60, lit_63, lit_64, lit_97, lit_102, lit_110, lit_160, lit_255, nI_add, ns_sub, ns_div, ns_le, ns_lt, ns_eq, ns_cl, pk_mul, ne10, eq_self, ↓reduceIte]
  · refine ⟨-nI 2, Sc, Sm, ?_, ?_, A, hC, hM⟩
    · unfold fX8_write
      simp (disch := omega) only [cDay_n g1, bdq, gd_ix, lit_0, lit_1, lit_2, lit_3, lit_4, lit_5, lit_6, lit_7, lit_8, lit_9, lit_10, lit_15, lit_16, lit_19, lit_20, lit_31, lit_35, lit_36, lit_48, lit_49, lit_53, lit_55, lit_57, lit_59, lit_60, lit_63, lit_64, lit_97, lit_102, lit_110, lit_160, lit_255, nI_add, ns_sub, ns_div, ns_le, ns_lt, ns_eq, ns_cl, pk_mul, ne10, eq_self, ↓reduceIte]
    · unfold fX9_write
      simp (disch := omega) only [mDay_n g1, bdq, gd_ix, lit_0, lit_1, lit_2, lit_3, lit_4, lit_5, lit_6, lit_7, lit_8, lit_9, lit_10, lit_15, lit_16, lit_19, lit_20, lit_31, lit_35, lit_36, lit_48, lit_49, lit_53, lit_55, lit_57, lit_59, lit_60, lit_63, lit_64, lit_97, lit_102, lit_110, lit_160, lit_255, nI_add, ns_sub, ns_div, ns_le, ns_lt, ns_eq, ns_cl, pk_mul, ne10, eq_self, ↓reduceIte]
