/-! the class is brought up to date -/
theorem ne_m1 {a : Nat} (h : a < 2147483648) : ¬ nI a = -nI 1 := by
  rw [fa_eq, nI_toInt h]
  have : (-nI 1 : Int32).toInt = -1 := by decide
  omega
theorem cT.fr {t room lo hi : Nat} {S S' : Sg} {T : Tx} (h : cT t room S T) (f : fr lo hi S S') (hl : hi < t ∨ t + 1 < lo) : cT t room S' T := by
  obtain ⟨h1, h2, h3⟩ := h
  refine ⟨h1, by rw [f.1 t 1 (by omega)]; exact h2, fun i hi => ?_⟩
  rw [f.1 (t + 1) i (by omega)]
  exact h3 i hi
theorem cT.I {t room a k : Nat} {v : Int32} {S : Sg} {T : Tx} (h : cT t room S T) (hl : ¬ (a = t ∧ k = 1) ∧ ¬ a = t + 1) : cT t room (sI S a k v) T := by
  obtain ⟨h1, h2, h3⟩ := h
  refine ⟨h1, by rw [sI1, if_neg (by omega)]; exact h2, fun i hi => ?_⟩
  rw [sI1, if_neg (by omega)]
  exact h3 i hi
theorem parseD_ok {S : Sg} {T : Tx} (h : cT 1 20 S T) : ∃ S', fX8_parseDamps S = some ((), S') ∧ fr 5 5 (sI S 0 14 (nI (tN0 T))) S' ∧ ∀ d, d < 20 → S'.1 5 d = nI (tA T d) := by
  have h1 := h.1
  have h2 := h.2.1
  have hN := tN0_le h1
  have e0 : (if fau0 T = -nI 1 then some ((if nI 20 < S.1 1 1 then nI 20 else S.1 1 1), S) else some (nI 0, S)) = some (nI (tN0 T), S) := by
    unfold fau0 tN0
    by_cases q : bad0 T < T.1
    · rw [if_pos q, if_pos q, if_neg (ne_m1 (by omega))]
    · rw [if_neg q, if_neg q, if_pos rfl, h2, if_neg (by rw [ns_lt (by omega) (by omega)]; omega)]
  generalize hS1 : sI S 0 14 (nI (tN0 T)) = S1
  have hc1 : cT 1 20 S1 T := by rw [← hS1]; exact h.I (by omega)
  have h14 : S1.1 0 14 = nI (tN0 T) := by rw [← hS1, sI1, if_pos ⟨rfl, rfl⟩]
  obtain ⟨a, S', e1, rfl, f1, r1⟩ := lp_invF (B := bX8_parseDamps_30) (fun i a Sx => a = nI i ∧ fr 5 5 S1 Sx ∧ ∀ d, d < i → Sx.1 5 d = nI (tA T d)) (fun a Sx => a = nI 20 ∧ fr 5 5 S1 Sx ∧ ∀ d, d < 20 → Sx.1 5 d = nI (tA T d)) 20 (by omega) (by
    rintro i a Sx hi ⟨rfl, hf, hr⟩
    by_cases hin : i < 20
    · have hcx := hc1.fr hf (by omega)
      have hx14 : Sx.1 0 14 = nI (tN0 T) := by rw [hf.1 0 14 (by omega)]; exact h14
      refine Or.inl ⟨hin, nI (i + 1), sI Sx 5 i (nI (tA T i)), fun rec => ?_, rfl, hf.I (by omega) (by omega), fun d hd => ?_⟩
      · by_cases q : tN0 T ≤ i
        · have e : tA T i = 0 := by unfold tA; rw [if_neg (by omega)]
          rw [e]
          simp (disch := omega) only [bX8_parseDamps_30, hx14, bd_some, gd_ix, lit_0, lit_1, lit_2, lit_3, lit_4, lit_5, lit_6, lit_7, lit_8, lit_9, lit_10, lit_15, lit_16, lit_19, lit_20, lit_31, lit_35, lit_36, lit_48, lit_49, lit_53, lit_55, lit_57, lit_59, lit_60, lit_63, lit_64, lit_97, lit_102, lit_110, lit_160, lit_255, nI_add, ns_sub, ns_div, ns_le, ns_lt, ns_eq, ns_cl, pk_mul, ne10, eq_self, ↓reduceIte, q, show ¬ 20 ≤ i from by omega]
        · have hd := dig_at (T := T) (d := i) (by omega)
          have e : tA T i = T.2 i - 48 := by unfold tA; rw [if_pos (by omega)]
          have hlt : i < T.1 := by
            have : tN0 T ≤ T.1 := by unfold tN0; split <;> omega
            omega
          rw [e]
          simp (disch := omega) only [bX8_parseDamps_30, hx14, bd_some, gd_ix, lit_0, lit_1, lit_2, lit_3, lit_4, lit_5, lit_6, lit_7, lit_8, lit_9, lit_10, lit_15, lit_16, lit_19, lit_20, lit_31, lit_35, lit_36, lit_48, lit_49, lit_53, lit_55, lit_57, lit_59, lit_60, lit_63, lit_64, lit_97, lit_102, lit_110, lit_160, lit_255, nI_add, ns_sub, ns_div, ns_le, ns_lt, ns_eq, ns_cl, pk_mul, ne10, eq_self, ↓reduceIte, q, at_y hcx rfl (by omega), show ¬ 20 ≤ i from by omega]
      · rw [sI1]
        by_cases q : d = i
        · subst q; rw [if_pos ⟨rfl, rfl⟩]
        · rw [if_neg (by omega)]; exact hr d (by omega)
    · have hin2 : i = 20 := by omega
      subst hin2
      refine Or.inr ⟨nI 20, Sx, fun rec => ?_, rfl, hf, hr⟩
      simp (disch := omega) only [bX8_parseDamps_30, bd_some, gd_ix, lit_0, lit_1, lit_2, lit_3, lit_4, lit_5, lit_6, lit_7, lit_8, lit_9, lit_10, lit_15, lit_16, lit_19, lit_20, lit_31, lit_35, lit_36, lit_48, lit_49, lit_53, lit_55, lit_57, lit_59, lit_60, lit_63, lit_64, lit_97, lit_102, lit_110, lit_160, lit_255, nI_add, ns_sub, ns_div, ns_le, ns_lt, ns_eq, ns_cl, pk_mul, ne10, eq_self, ↓reduceIte, Nat.le_refl]) (nI 0) S1 ⟨rfl, fr.rf, fun d hd => absurd hd (by omega)⟩
  refine ⟨S', ?_, f1, r1⟩
  unfold fX8_parseDamps
  rw [faultD_ok h, bd_some]
  show bd (if fau0 T = -nI 1 then some ((if nI 20 < S.1 1 1 then nI 20 else S.1 1 1), S) else some (nI 0, S)) _ = _
  rw [e0, bd_some, hS1, lit_0, e1, bd_some]
theorem parseS_ok {S : Sg} {U : Tx} (h : cT 3 55 S U) : ∃ S', fX8_parseStrokes S = some ((), S') ∧ fr 12 16 S S' ∧ S'.1 12 0 = nI (tN U) ∧ ∀ k, k < tN U → S'.1 13 k = nI (tD U k) ∧ S'.1 14 k = nI (tC U k) ∧ S'.1 15 k = nI (tG U k) ∧ S'.1 16 k = nI (tK U k) := by
  have h1 := h.1
  have hN := tN_le h1
  generalize hS1 : sI S 12 0 (nI 0) = S1
  have hc1 : cT 3 55 S1 U := by rw [← hS1]; exact h.I (by omega)
  have h120 : S1.1 12 0 = nI 0 := by rw [← hS1, sI1, if_pos ⟨rfl, rfl⟩]
  have f0 : fr 12 16 S S1 := by rw [← hS1]; exact fr.rf.I (by omega) (by omega)
  have eF := faultS_ok hc1
  by_cases hw : fau1 U = -nI 1
  · have hb : bad1 U ≤ U.1 := fa_first_le _ _
    have hNU : ¬ bad1 U < U.1 ∧ (U.1 = 0 ∨ U.1 % 7 = 6) := by
      unfold fau1 at hw
      by_cases q : bad1 U < U.1
      · rw [if_pos q] at hw; exact absurd hw (ne_m1 (by omega))
      · rw [if_neg q] at hw
        by_cases q2 : U.1 = 0 ∨ U.1 % 7 = 6
        · exact ⟨q, q2⟩
        · rw [if_neg q2] at hw; exact absurd hw (ne_m1 (by omega))
    have hNe : tN U = (U.1 + 1) / 7 := by unfold tN; rw [if_pos hNU]
    obtain ⟨a, S', e1, rfl, f1, s1, r1⟩ := lp_invF (B := bX8_parseStrokes_19) (fun i a Sx => a = nI (7 * i) ∧ fr 12 16 S1 Sx ∧ Sx.1 12 0 = nI i ∧ ∀ k, k < i → Sx.1 13 k = nI (tD U k) ∧ Sx.1 14 k = nI (tC U k) ∧ Sx.1 15 k = nI (tG U k) ∧ Sx.1 16 k = nI (tK U k)) (fun a Sx => a = nI (7 * tN U) ∧ fr 12 16 S1 Sx ∧ Sx.1 12 0 = nI (tN U) ∧ ∀ k, k < tN U → Sx.1 13 k = nI (tD U k) ∧ Sx.1 14 k = nI (tC U k) ∧ Sx.1 15 k = nI (tG U k) ∧ Sx.1 16 k = nI (tK U k)) (tN U) (by omega) (by
      rintro i a Sx hi ⟨rfl, hf, hs, hr⟩
      have hcx := hc1.fr hf (by omega)
      have hl := hcx.2.1
      by_cases hin : i < tN U
      · obtain ⟨p1, p2, p3, p4⟩ := tN_pos hin
        have hx := tx_rng hin
        have w0 := (hcx.2.2 (7 * i) (by omega)).1
        have w1 := (hcx.2.2 (7 * i + 1) (by omega)).1
        have w2 := (hcx.2.2 (7 * i + 2) (by omega)).1
        have w3 := (hcx.2.2 (7 * i + 3) (by omega)).1
        have w4 := (hcx.2.2 (7 * i + 4) (by omega)).1
        have w5 := (hcx.2.2 (7 * i + 5) (by omega)).1
        have eD : 10 * (U.2 (7 * i) - 48) + U.2 (7 * i + 1) - 48 = tD U i := by unfold tD; omega
        have eC : 6 * (U.2 (7 * i + 2) - 48) + U.2 (7 * i + 3) - 48 = tC U i := by unfold tC; omega
        have eG : U.2 (7 * i + 4) - 97 = tG U i := rfl
        have eK : U.2 (7 * i + 5) - 48 = tK U i := rfl
        have htl : tlen 3 = 55 := rfl
        have e7 : 7 * i + 7 = 7 * (i + 1) := by omega
        refine Or.inl ⟨hin, nI (7 * (i + 1)), sI (sI (sI (sI (sI Sx 13 i (nI (tD U i))) 14 i (nI (tC U i))) 15 i (nI (tG U i))) 16 i (nI (tK U i))) 12 0 (nI (i + 1)), fun rec => ?_, rfl, ((((hf.I (by omega) (by omega)).I (by omega) (by omega)).I (by omega) (by omega)).I (by omega) (by omega)).I (by omega) (by omega), by rw [sI1, if_pos ⟨rfl, rfl⟩], fun k hk => ?_⟩
        · simp (disch := omega) only [bX8_parseStrokes_19, fX7_at, htl, hl, hs, bd_some, gd_ix, lit_0, lit_1, lit_2, lit_3, lit_4, lit_5, lit_6, lit_7, lit_8, lit_9, lit_10, lit_15, lit_16, lit_19, lit_20, lit_31, lit_35, lit_36, lit_48, lit_49, lit_53, lit_55, lit_57, lit_59, lit_60, lit_63, lit_64, lit_97, lit_102, lit_110, lit_160, lit_255, nI_add, ns_sub, ns_div, ns_le, ns_lt, ns_eq, ns_cl, pk_mul, ne10, eq_self, ↓reduceIte, lit_7, sI1, sI2, sC1, sC2, sL1, sL2, Nat.reduceEqDiff, false_and, show ¬ U.1 ≤ 7 * i from by omega, show ¬ 8 ≤ i from by omega, show ¬ 7 * i < 0 from by omega, w0, w1, w2, w3, w4, w5, eD, eC, eG, eK, e7, show ¬ U.1 ≤ 7 * i + 1 from by omega, show ¬ 7 * i + 1 < 0 from by omega, show ¬ U.1 ≤ 7 * i + 2 from by omega, show ¬ 7 * i + 2 < 0 from by omega, show ¬ U.1 ≤ 7 * i + 3 from by omega, show ¬ 7 * i + 3 < 0 from by omega, show ¬ U.1 ≤ 7 * i + 4 from by omega, show ¬ 7 * i + 4 < 0 from by omega, show ¬ U.1 ≤ 7 * i + 5 from by omega, show ¬ 7 * i + 5 < 0 from by omega]
        · simp only [sI1, sI2, sC1, sC2, sL1, sL2, Nat.reduceEqDiff, false_and, if_false, true_and]
          by_cases q : k = i
          · subst q; simp
          · simp only [q, if_false]
            exact hr k (by omega)
      · have hin2 : i = tN U := by omega
        subst hin2
        refine Or.inr ⟨nI (7 * tN U), Sx, fun rec => ?_, rfl, hf, hs, hr⟩
        simp (disch := omega) only [bX8_parseStrokes_19, hl, bd_some, gd_ix, lit_0, lit_1, lit_2, lit_3, lit_4, lit_5, lit_6, lit_7, lit_8, lit_9, lit_10, lit_15, lit_16, lit_19, lit_20, lit_31, lit_35, lit_36, lit_48, lit_49, lit_53, lit_55, lit_57, lit_59, lit_60, lit_63, lit_64, lit_97, lit_102, lit_110, lit_160, lit_255, nI_add, ns_sub, ns_div, ns_le, ns_lt, ns_eq, ns_cl, pk_mul, ne10, eq_self, ↓reduceIte, show U.1 ≤ 7 * tN U from by omega]) (nI 0) S1 ⟨rfl, fr.rf, h120, fun k hk => absurd hk (by omega)⟩
    refine ⟨S', ?_, f0.tr f1, s1, r1⟩
    unfold fX8_parseStrokes
    rw [lit_0, hS1, eF, bd_some]
    show (if fau1 U = -nI 1 then _ else _) = _
    rw [if_pos hw, e1, bd_some]
  · have hN0 : tN U = 0 := by
      unfold tN
      by_cases q : ¬ bad1 U < U.1 ∧ (U.1 = 0 ∨ U.1 % 7 = 6)
      · exfalso
        apply hw
        unfold fau1
        rw [if_neg q.1, if_pos q.2]
      · rw [if_neg q]
    refine ⟨S1, ?_, f0, by rw [hN0]; exact h120, fun k hk => by omega⟩
    unfold fX8_parseStrokes
    rw [lit_0, hS1, eF, bd_some]
    show (if fau1 U = -nI 1 then _ else _) = _
    rw [if_neg hw]
/-- what the class keeps of seen, of sheets -/
def cSn (S : Sg) (N : Sn3) : Prop := N.1 ≤ 8 ∧ S.1 36 3 = nI N.1 ∧ ∀ i, i < N.1 → S.1 37 i = nI (N.2.1 i) ∧ N.2.1 i < 20 ∧ S.1 38 i = nI (N.2.2.1 i) ∧ N.2.2.1 i < 36 ∧ S.1 39 i = nI (N.2.2.2 i) ∧ N.2.2.2 i ≤ 6
def cSh (S : Sg) (H : Sh4) : Prop := ∀ j, j < 4 → (H.1 j ≤ 1 ∧ H.2.1 j ≤ 2 ∧ H.2.2.1 j ≤ 60) ∧ S.1 (44 + 2 * j) 1 = nI (H.1 j) ∧ S.1 (44 + 2 * j) 2 = nI (H.2.1 j) ∧ S.1 (44 + 2 * j) 3 = nI (H.2.2.1 j) ∧ ∀ i, i < 60 → S.1 (44 + 2 * j + 1) i = H.2.2.2 j i
/-- the class's told cells, but for what is reckoned from them -/
def RB (S : Sg) (A : Ab) : Prop := cT 1 20 S (aT A) ∧ cT 3 55 S (aU A) ∧ (aF A ≤ 9 ∧ S.1 0 15 = nI (aF A)) ∧ Ca S (aW A).1 (aW A).2.1 (aW A).2.2 (aO A).1 (aO A).2.1 (aO A).2.2 ∧ cSn S (aS A) ∧ cSh S (aH A) ∧ (aG A ≤ 5 ∧ S.1 0 16 = nI (aG A))
def Fr (S : Sg) (A : Ab) : Prop := S.1 0 17 = nI 0 ∧ Bd 12 S (cfg A) ∧ (∀ k, k < cN (cfg A) → S.1 15 k = nI (sgn A k)) ∧ Stl 12 S (cfg A) ∧ S.1 0 14 = nI (tN0 (aT A)) ∧ (∀ d, d < 20 → S.1 5 d = nI (cA (cfg A) d)) ∧ ∀ d, d < 20 → S.1 22 d = ps (fun k => up (cfg A) d k) ∧ S.1 23 d = pk (sP (cfg A) (d + 1))
def RC (S : Sg) (A : Ab) : Prop := RB S A ∧ (S.1 0 17 = nI 1 ∨ Fr S A)
/-- cells that may change when nothing is told -/
def scr (S S' : Sg) : Prop := ∀ a j, ¬ a = 6 → ¬ (24 ≤ a ∧ a ≤ 35) → ¬ (40 ≤ a ∧ a ≤ 41) → ¬ a = 43 → S'.1 a j = S.1 a j
theorem scr.rf {S : Sg} : scr S S := fun _ _ _ _ _ _ => rfl
theorem scr.tr {S S1 S2 : Sg} (h1 : scr S S1) (h2 : scr S1 S2) : scr S S2 := fun a j q1 q2 q3 q4 => (h2 a j q1 q2 q3 q4).trans (h1 a j q1 q2 q3 q4)
theorem scr.I {S S' : Sg} {a k : Nat} {v : Int32} (h : scr S S') (ha : a = 6 ∨ (24 ≤ a ∧ a ≤ 35) ∨ (40 ≤ a ∧ a ≤ 41) ∨ a = 43) : scr S (sI S' a k v) := fun b j q1 q2 q3 q4 => by rw [sI1, if_neg (by omega)]; exact h b j q1 q2 q3 q4
theorem scr.C {S S' : Sg} {a : Nat} {v : Nat → Int32} (h : scr S S') (ha : a = 6 ∨ (24 ≤ a ∧ a ≤ 35) ∨ (40 ≤ a ∧ a ≤ 41) ∨ a = 43) : scr S (sC S' a v) := fun b j q1 q2 q3 q4 => by rw [sC1, if_neg (by omega)]; exact h b j q1 q2 q3 q4
theorem fr.scr {S S' : Sg} {lo hi : Nat} (h : fr lo hi S S') (h1 : (24 ≤ lo ∧ hi ≤ 35) ∨ (40 ≤ lo ∧ hi ≤ 41)) : scr S S' := fun a j q1 q2 q3 q4 => h.1 a j (by omega)
def fu (S S' : Sg) : Prop := ∀ a j, ¬ (a = 0 ∧ (j = 14 ∨ j = 17)) → ¬ a = 5 → ¬ (12 ≤ a ∧ a ≤ 35) → ¬ a = 6 → ¬ (40 ≤ a ∧ a ≤ 41) → ¬ a = 43 → S'.1 a j = S.1 a j
theorem RB.fu {S S' : Sg} {A : Ab} (h : RB S A) (f : fu S S') : RB S' A := by
  obtain ⟨h1, h2, h3, h4, h5, h6, h7⟩ := h
  have e : ∀ a j, ¬ (a = 0 ∧ (j = 14 ∨ j = 17)) → ¬ a = 5 → ¬ (12 ≤ a ∧ a ≤ 35) → ¬ a = 6 → ¬ (40 ≤ a ∧ a ≤ 41) → ¬ a = 43 → S'.1 a j = S.1 a j := f
  refine ⟨⟨h1.1, ?_, fun i hi => ?_⟩, ⟨h2.1, ?_, fun i hi => ?_⟩, ⟨h3.1, ?_⟩, ⟨h4.1, h4.2.1, ?_, ?_, fun w hw => ?_, fun o ho => ?_⟩, ⟨h5.1, ?_, fun i hi => ?_⟩, fun j hj => ?_, ⟨h7.1, ?_⟩⟩
  · rw [e 1 1 (by omega) (by omega) (by omega) (by omega) (by omega) (by omega)]; exact h1.2.1
  · rw [e (1 + 1) i (by omega) (by omega) (by omega) (by omega) (by omega) (by omega)]; exact h1.2.2 i hi
  · rw [e 3 1 (by omega) (by omega) (by omega) (by omega) (by omega) (by omega)]; exact h2.2.1
  · rw [e (3 + 1) i (by omega) (by omega) (by omega) (by omega) (by omega) (by omega)]; exact h2.2.2 i hi
  · rw [e 0 15 (by omega) (by omega) (by omega) (by omega) (by omega) (by omega)]; exact h3.2
  · rw [e 7 4 (by omega) (by omega) (by omega) (by omega) (by omega) (by omega)]; exact h4.2.2.1
  · rw [e 7 5 (by omega) (by omega) (by omega) (by omega) (by omega) (by omega)]; exact h4.2.2.2.1
  · rw [e 8 w (by omega) (by omega) (by omega) (by omega) (by omega) (by omega), e 9 w (by omega) (by omega) (by omega) (by omega) (by omega) (by omega)]; exact h4.2.2.2.2.1 w hw
  · rw [e 10 o (by omega) (by omega) (by omega) (by omega) (by omega) (by omega), e 11 o (by omega) (by omega) (by omega) (by omega) (by omega) (by omega)]; exact h4.2.2.2.2.2 o ho
  · rw [e 36 3 (by omega) (by omega) (by omega) (by omega) (by omega) (by omega)]; exact h5.2.1
  · rw [e 37 i (by omega) (by omega) (by omega) (by omega) (by omega) (by omega), e 38 i (by omega) (by omega) (by omega) (by omega) (by omega) (by omega), e 39 i (by omega) (by omega) (by omega) (by omega) (by omega) (by omega)]; exact h5.2.2 i hi
  · obtain ⟨q0, q1, q2, q3, q4⟩ := h6 j hj
    refine ⟨q0, ?_, ?_, ?_, fun i hi => ?_⟩
    · rw [e (44 + 2 * j) 1 (by omega) (by omega) (by omega) (by omega) (by omega) (by omega)]; exact q1
    · rw [e (44 + 2 * j) 2 (by omega) (by omega) (by omega) (by omega) (by omega) (by omega)]; exact q2
    · rw [e (44 + 2 * j) 3 (by omega) (by omega) (by omega) (by omega) (by omega) (by omega)]; exact q3
    · rw [e (44 + 2 * j + 1) i (by omega) (by omega) (by omega) (by omega) (by omega) (by omega)]; exact q4 i hi
  · rw [e 0 16 (by omega) (by omega) (by omega) (by omega) (by omega) (by omega)]; exact h7.2
theorem Fr.scr {S S' : Sg} {A : Ab} (h : Fr S A) (f : scr S S') : Fr S' A := by
  obtain ⟨h1, h2, h3, h4, h5, h6, h7⟩ := h
  have e : ∀ a j, ¬ a = 6 → ¬ (24 ≤ a ∧ a ≤ 35) → ¬ (40 ≤ a ∧ a ≤ 41) → ¬ a = 43 → S'.1 a j = S.1 a j := f
  refine ⟨?_, ⟨h2.1, ?_, fun k hk => ?_⟩, fun k hk => ?_, ⟨fun k hk hp => ?_, fun d hd => ?_⟩, ?_, fun d hd => ?_, fun d hd => ?_⟩
  · rw [e 0 17 (by omega) (by omega) (by omega) (by omega)]; exact h1
  · rw [e 12 0 (by omega) (by omega) (by omega) (by omega)]; exact h2.2.1
  · rw [e (12 + 1) k (by omega) (by omega) (by omega) (by omega), e (12 + 2) k (by omega) (by omega) (by omega) (by omega), e (12 + 4) k (by omega) (by omega) (by omega) (by omega)]; exact h2.2.2 k hk
  · rw [e 15 k (by omega) (by omega) (by omega) (by omega)]; exact h3 k hk
  · rw [e (12 + 5) k (by omega) (by omega) (by omega) (by omega)]; exact h4.1 k hk hp
  · rw [e (12 + 6) d (by omega) (by omega) (by omega) (by omega), e (12 + 7) d (by omega) (by omega) (by omega) (by omega), e (12 + 8) d (by omega) (by omega) (by omega) (by omega)]; exact h4.2 d hd
  · rw [e 0 14 (by omega) (by omega) (by omega) (by omega)]; exact h5
  · rw [e 5 d (by omega) (by omega) (by omega) (by omega)]; exact h6 d hd
  · rw [e 22 d (by omega) (by omega) (by omega) (by omega), e 23 d (by omega) (by omega) (by omega) (by omega)]; exact h7 d hd
/-- up to date -/
def RF (S : Sg) (A : Ab) : Prop := RB S A ∧ Fr S A
theorem RF.scr {S S' : Sg} {A : Ab} (h : RF S A) (f : scr S S') : RF S' A := ⟨h.1.fu (fun a j q1 q2 q3 q4 q5 q6 => f a j (by omega) (by omega) (by omega) (by omega)), h.2.scr f⟩
theorem RF.c {S : Sg} {A : Ab} (h : RF S A) : RC S A := ⟨h.1, Or.inr h.2⟩
theorem cfg_P {A : Ab} {k : Nat} (h : cP (cfg A) k = true) : k < cN (cfg A) := by
  have : decide (k < tN (aU A)) = true := h
  exact of_decide_eq_true this
theorem cfg_P2 {A : Ab} {k : Nat} (h : k < cN (cfg A)) : cP (cfg A) k = true := by
  show decide (k < tN (aU A)) = true
  exact decide_eq_true h
theorem cfg_wo {A : Ab} : Wo (cfg A) (aW A).1 (aW A).2.1 (aW A).2.2 (aO A).1 (aO A).2.1 (aO A).2.2 := ⟨fun _ _ => rfl, fun _ _ => rfl, fun _ h => cfg_P h⟩
theorem bring_ok {S : Sg} {A : Ab} (h : RC S A) : ∃ S', fX8_bringUpToDate S = some ((), S') ∧ RF S' A := by
  obtain ⟨hB, hs | hF⟩ := h
  · obtain ⟨S1, e1, f1, r1⟩ := parseD_ok hB.1
    have hB1 : RB S1 A := hB.fu (fun a j q1 q2 q3 q4 q5 q6 => by rw [f1.1 a j (by omega), sI1, if_neg (by omega)])
    obtain ⟨S2, e2, f2, n2, r2⟩ := parseS_ok hB1.2.1
    have hB2 : RB S2 A := hB1.fu (fun a j q1 q2 q3 q4 q5 q6 => by rw [f2.1 a j (by omega)])
    have h8 : tN (aU A) ≤ 8 := tN_le hB.2.1.1
    have bd2 : Bd 12 S2 (cfg A) := ⟨h8, n2, fun k hk => by
      have hr := t_rng (U := aU A) (k := k) hk
      obtain ⟨a1, a2, a3, a4⟩ := r2 k hk
      exact ⟨a1, hr.1, a2, hr.2.1, a4, hr.2.2.2.1, hr.2.2.2.2⟩⟩
    have eE := everyone_ok bd2
    obtain ⟨S3, e3, f3, st3⟩ := settle_ok (by omega) bd2 hB2.2.2.2.1 cfg_wo
    have hB3 : RB S3 A := hB2.fu (fun a j q1 q2 q3 q4 q5 q6 => by rw [f3.1 a j (by omega)])
    have bd3 : Bd 12 S3 (cfg A) := bd2.fr f3 (by omega)
    have hd3 : ∀ d, d < 20 → S3.1 5 d = nI (cA (cfg A) d) ∧ cA (cfg A) d ≤ 9 := fun d hd => ⟨by rw [f3.1 5 d (by omega), f2.1 5 d (by omega)]; exact r1 d hd, tA_le⟩
    obtain ⟨S4, e4, f4, r4⟩ := follow_ok (tc := 21) (td := 5) bd3 st3 (fun k h => cfg_P h) hd3 hB.2.2.1.1 (by omega) (by omega)
    have hB4 : RB S4 A := hB3.fu (fun a j q1 q2 q3 q4 q5 q6 => by rw [f4.1 a j (by omega)])
    refine ⟨sI S4 0 17 (nI 0), ?_, hB4.fu (fun a j q1 q2 q3 q4 q5 q6 => by rw [sI1, if_neg (by omega)]), ?_⟩
    · have e3' : fX0_settle 12 (ps fun k => decide (k < cN (cfg A))) S2 = some ((), S3) := e3
      have e4' : fX3_follow 21 12 5 (S3.1 0 15) S3 = some ((), S4) := by rw [hB3.2.2.1.2]; exact e4
      unfold fX8_bringUpToDate
      rw [if_neg (by rw [hs]; decide), e1, bd_some, e2, bd_some, eE, bd_some, e3', bd_some, e4', bd_some]
      rfl
    · have g : ∀ a j, ¬ (a = 0 ∧ j = 17) → ¬ (22 ≤ a ∧ a ≤ 23) → (sI S4 0 17 (nI 0)).1 a j = S3.1 a j := fun a j q1 q2 => by rw [sI1, if_neg (by omega), f4.1 a j (by omega)]
      refine ⟨by rw [sI1, if_pos ⟨rfl, rfl⟩], ⟨bd3.1, by rw [g 12 0 (by omega) (by omega)]; exact bd3.2.1, fun k hk => ?_⟩, fun k hk => ?_, ⟨fun k hk hp => ?_, fun d hd => ?_⟩, ?_, fun d hd => ?_, fun d hd => ?_⟩
      · rw [g (12 + 1) k (by omega) (by omega), g (12 + 2) k (by omega) (by omega), g (12 + 4) k (by omega) (by omega)]; exact bd3.2.2 k hk
      · rw [g 15 k (by omega) (by omega), f3.1 15 k (by omega)]; exact (r2 k hk).2.2.1
      · rw [g (12 + 5) k (by omega) (by omega)]; exact st3.1 k hk hp
      · rw [g (12 + 6) d (by omega) (by omega), g (12 + 7) d (by omega) (by omega), g (12 + 8) d (by omega) (by omega)]; exact st3.2 d hd
      · rw [g 0 14 (by omega) (by omega), f3.1 0 14 (by omega), f2.1 0 14 (by omega), f1.1 0 14 (by omega), sI1, if_pos ⟨rfl, rfl⟩]
      · rw [g 5 d (by omega) (by omega)]; exact (hd3 d hd).1
      · rw [sI1, if_neg (by omega), sI1, if_neg (by omega)]; exact r4 d hd
  · refine ⟨S, ?_, hB, hF⟩
    unfold fX8_bringUpToDate
    rw [if_pos (by rw [hF.1]; rfl)]
