/-! the reference reads the texts -/
def mT (t room : Nat) (S : Sg) (T : Tx) : Prop := T.1 ≤ room ∧ S.1 1 t = nI T.1 ∧ ∀ i, i < T.1 → S.1 2 (55 * t + i) = nI (T.2 i) ∧ T.2 i ≤ 255
def mCa (S : Sg) (W O : Pr2) : Prop := W.1 ≤ 8 ∧ O.1 ≤ 4 ∧ S.1 0 10 = nI W.1 ∧ S.1 0 13 = nI O.1 ∧ (∀ w, w < W.1 → S.1 8 w = nI (W.2.1 w) ∧ W.2.1 w < 20 ∧ S.1 9 w = nI (W.2.2 w) ∧ W.2.2 w < 6) ∧ (∀ o, o < O.1 → S.1 10 o = nI (O.2.1 o) ∧ O.2.1 o < 20 ∧ S.1 11 o = nI (O.2.2 o) ∧ O.2.2 o < 6)
def mSn (S : Sg) (N : Sn3) : Prop := N.1 ≤ 8 ∧ S.1 0 25 = nI N.1 ∧ ∀ i, i < N.1 → S.1 18 i = nI (N.2.1 i) ∧ N.2.1 i < 20 ∧ S.1 19 i = nI (N.2.2.1 i) ∧ N.2.2.1 i < 36 ∧ S.1 20 i = nI (N.2.2.2 i) ∧ N.2.2.2 i ≤ 6
def mSh (S : Sg) (H : Sh4) : Prop := ∀ j, j < 4 → (H.1 j ≤ 1 ∧ H.2.1 j ≤ 2 ∧ H.2.2.1 j ≤ 60) ∧ S.1 22 j = nI (1 - H.1 j) ∧ S.1 23 j = nI (H.2.1 j) ∧ S.1 24 j = nI (H.2.2.1 j) ∧ ∀ i, i < 60 → S.1 25 (60 * j + i) = H.2.2.2 j i
def RM (S : Sg) (A : Ab) : Prop := mT 0 20 S (aT A) ∧ mT 1 55 S (aU A) ∧ (aF A ≤ 9 ∧ S.1 0 9 = nI (aF A)) ∧ mCa S (aW A) (aO A) ∧ mSn S (aS A) ∧ mSh S (aH A) ∧ (aG A ≤ 5 ∧ S.1 0 35 = nI (aG A))
/-- cells that may change when nothing is told -/
def mz (S S' : Sg) : Prop := ∀ a j, ¬ (a = 0 ∧ (j = 2 ∨ j = 4 ∨ j = 17 ∨ j = 18 ∨ j = 21)) → ¬ (3 ≤ a ∧ a ≤ 7) → ¬ (12 ≤ a ∧ a ≤ 17) → ¬ a = 21 → ¬ a = 26 → S'.1 a j = S.1 a j
theorem mz.rf {S : Sg} : mz S S := fun _ _ _ _ _ _ _ => rfl
theorem mz.tr {S S1 S2 : Sg} (h1 : mz S S1) (h2 : mz S1 S2) : mz S S2 := fun a j q1 q2 q3 q4 q5 => (h2 a j q1 q2 q3 q4 q5).trans (h1 a j q1 q2 q3 q4 q5)
theorem mz.I {S S' : Sg} {a k : Nat} {v : Int32} (h : mz S S') (ha : (a = 0 ∧ (k = 2 ∨ k = 4 ∨ k = 17 ∨ k = 18 ∨ k = 21)) ∨ (3 ≤ a ∧ a ≤ 7) ∨ (12 ≤ a ∧ a ≤ 17) ∨ a = 21 ∨ a = 26) : mz S (sI S' a k v) := fun b j q1 q2 q3 q4 q5 => by rw [sI1, if_neg (by omega)]; exact h b j q1 q2 q3 q4 q5
theorem mf.mz {S S' : Sg} (h : mf S S') : mz S S' := fun a j q1 q2 q3 q4 q5 => h.1 a j (by omega) (by omega)
theorem RM.mz {S S' : Sg} {A : Ab} (h : RM S A) (f : mz S S') : RM S' A := by
  obtain ⟨h1, h2, h3, h4, h5, h6, h7⟩ := h
  have e : ∀ a j, ¬ (a = 0 ∧ (j = 2 ∨ j = 4 ∨ j = 17 ∨ j = 18 ∨ j = 21)) → ¬ (3 ≤ a ∧ a ≤ 7) → ¬ (12 ≤ a ∧ a ≤ 17) → ¬ a = 21 → ¬ a = 26 → S'.1 a j = S.1 a j := f
  refine ⟨⟨h1.1, ?_, fun i hi => ?_⟩, ⟨h2.1, ?_, fun i hi => ?_⟩, ⟨h3.1, ?_⟩, ⟨h4.1, h4.2.1, ?_, ?_, fun w hw => ?_, fun o ho => ?_⟩, ⟨h5.1, ?_, fun i hi => ?_⟩, fun j hj => ?_, ⟨h7.1, ?_⟩⟩
  · rw [e 1 0 (by omega) (by omega) (by omega) (by omega) (by omega)]; exact h1.2.1
  · rw [e 2 _ (by omega) (by omega) (by omega) (by omega) (by omega)]; exact h1.2.2 i hi
  · rw [e 1 1 (by omega) (by omega) (by omega) (by omega) (by omega)]; exact h2.2.1
  · rw [e 2 _ (by omega) (by omega) (by omega) (by omega) (by omega)]; exact h2.2.2 i hi
  · rw [e 0 9 (by omega) (by omega) (by omega) (by omega) (by omega)]; exact h3.2
  · rw [e 0 10 (by omega) (by omega) (by omega) (by omega) (by omega)]; exact h4.2.2.1
  · rw [e 0 13 (by omega) (by omega) (by omega) (by omega) (by omega)]; exact h4.2.2.2.1
  · rw [e 8 w (by omega) (by omega) (by omega) (by omega) (by omega), e 9 w (by omega) (by omega) (by omega) (by omega) (by omega)]; exact h4.2.2.2.2.1 w hw
  · rw [e 10 o (by omega) (by omega) (by omega) (by omega) (by omega), e 11 o (by omega) (by omega) (by omega) (by omega) (by omega)]; exact h4.2.2.2.2.2 o ho
  · rw [e 0 25 (by omega) (by omega) (by omega) (by omega) (by omega)]; exact h5.2.1
  · rw [e 18 i (by omega) (by omega) (by omega) (by omega) (by omega), e 19 i (by omega) (by omega) (by omega) (by omega) (by omega), e 20 i (by omega) (by omega) (by omega) (by omega) (by omega)]; exact h5.2.2 i hi
  · obtain ⟨q0, q1, q2, q3, q4⟩ := h6 j hj
    refine ⟨q0, ?_, ?_, ?_, fun i hi => ?_⟩
    · rw [e 22 j (by omega) (by omega) (by omega) (by omega) (by omega)]; exact q1
    · rw [e 23 j (by omega) (by omega) (by omega) (by omega) (by omega)]; exact q2
    · rw [e 24 j (by omega) (by omega) (by omega) (by omega) (by omega)]; exact q3
    · rw [e 25 _ (by omega) (by omega) (by omega) (by omega) (by omega)]; exact q4 i hi
  · rw [e 0 35 (by omega) (by omega) (by omega) (by omega) (by omega)]; exact h7.2
theorem readsD_ok {S : Sg} {T : Tx} (h : mT 0 20 S T) : ∃ S', fX9_readsDamps S = some (fau0 T, S') ∧ S'.1 0 2 = nI (tN0 T) ∧ (∀ d, d < 20 → S'.1 3 d = nI (tA T d)) ∧ ∀ a j, ¬ (a = 0 ∧ j = 2) → ¬ a = 3 → S'.1 a j = S.1 a j := by
  have h1 := h.1
  have hb : bad0 T ≤ T.1 := fa_first_le _ _
  generalize hS0 : sI S 0 2 (nI 0) = S0
  have g0 : ∀ a j, ¬ (a = 0 ∧ j = 2) → ¬ a = 3 → S0.1 a j = S.1 a j := fun a j q1 q2 => by rw [← hS0, sI1, if_neg (by omega)]
  have z0 : S0.1 0 2 = nI 0 := by rw [← hS0, sI1, if_pos ⟨rfl, rfl⟩]
  obtain ⟨a, S1, e1, rfl, f1, r1⟩ := lp_invF (B := bX9_readsDamps_7) (fun i a Sx => a = nI i ∧ fr 3 3 S0 Sx ∧ ∀ d, d < i → Sx.1 3 d = nI 0) (fun a Sx => a = nI 20 ∧ fr 3 3 S0 Sx ∧ ∀ d, d < 20 → Sx.1 3 d = nI 0) 20 (by omega) (by
    rintro i a Sx hi ⟨rfl, hf, hr⟩
    by_cases hin : i < 20
    · refine Or.inl ⟨hin, nI (i + 1), sI Sx 3 i (nI 0), fun rec => ?_, rfl, hf.I (by omega) (by omega), fun d hd => ?_⟩
      · simp (disch := omega) only [bX9_readsDamps_7, bd_some, gd_ix, lit_0, lit_1, lit_2, lit_3, lit_4, lit_5, lit_6, lit_7, lit_8, lit_9, lit_10, lit_15, lit_16, lit_19, lit_20, lit_31, lit_35, lit_36, lit_48, lit_49, lit_53, lit_55, lit_57, lit_59, lit_60, lit_63, lit_64, lit_97, lit_102, lit_110, lit_160, lit_255, nI_add, ns_sub, ns_div, ns_le, ns_lt, ns_eq, ns_cl, pk_mul, ne10, eq_self, ↓reduceIte, show ¬ 20 ≤ i from by omega]
      · rw [sI1]
        by_cases q : d = i
        · rw [if_pos ⟨rfl, q⟩]
        · rw [if_neg (by omega)]; exact hr d (by omega)
    · have hin2 : i = 20 := by omega
      subst hin2
      refine Or.inr ⟨nI 20, Sx, fun rec => ?_, rfl, hf, hr⟩
      simp (disch := omega) only [bX9_readsDamps_7, bd_some, gd_ix, lit_0, lit_1, lit_2, lit_3, lit_4, lit_5, lit_6, lit_7, lit_8, lit_9, lit_10, lit_15, lit_16, lit_19, lit_20, lit_31, lit_35, lit_36, lit_48, lit_49, lit_53, lit_55, lit_57, lit_59, lit_60, lit_63, lit_64, lit_97, lit_102, lit_110, lit_160, lit_255, nI_add, ns_sub, ns_div, ns_le, ns_lt, ns_eq, ns_cl, pk_mul, ne10, eq_self, ↓reduceIte, Nat.le_refl]) (nI 0) S0 ⟨rfl, fr.rf, fun d hd => absurd hd (by omega)⟩
  have g1 : ∀ a j, ¬ (a = 0 ∧ j = 2) → ¬ a = 3 → S1.1 a j = S.1 a j := fun a j q1 q2 => by rw [f1.1 a j (by omega), g0 a j q1 q2]
  have l1 : S1.1 1 0 = nI T.1 := by rw [g1 1 0 (by omega) (by omega)]; exact h.2.1
  have b1 : ∀ i, i < T.1 → S1.1 2 i = nI (T.2 i) ∧ T.2 i ≤ 255 := fun i hi => by
    rw [g1 2 i (by omega) (by omega)]
    have := h.2.2 i hi
    rw [show 55 * 0 + i = i by omega] at this
    exact this
  have key : lp bX9_readsDamps_28 fl (nI 0) S1 = some ((if bad0 T < T.1 then Sum.inr (nI (bad0 T)) else Sum.inl (nI T.1)), S1) := by
    refine lp_fl (fun i => nI i) (fun _ => S1) (bad0 T) (by omega) (fun i hi rec => ?_) (fun rec => ?_)
    · have hd := first_lt (p := fun i => digB (T.2 i)) (n := T.1) (i := i) hi
      obtain ⟨w1, w2⟩ := b1 i (by omega)
      have hd2 : 48 ≤ T.2 i ∧ T.2 i ≤ 57 := by simpa [digB] using hd
      simp (disch := omega) only [bX9_readsDamps_28, l1, bd_some, gd_ix, lit_0, lit_1, lit_2, lit_3, lit_4, lit_5, lit_6, lit_7, lit_8, lit_9, lit_10, lit_15, lit_16, lit_19, lit_20, lit_31, lit_35, lit_36, lit_48, lit_49, lit_53, lit_55, lit_57, lit_59, lit_60, lit_63, lit_64, lit_97, lit_102, lit_110, lit_160, lit_255, nI_add, ns_sub, ns_div, ns_le, ns_lt, ns_eq, ns_cl, pk_mul, ne10, eq_self, ↓reduceIte, w1, in_y2, show ¬ T.1 ≤ i from by omega]
    · by_cases q : bad0 T < T.1
      · have hy := fa_first_yes (fun i => !digB (T.2 i)) T.1 q
        obtain ⟨w1, w2⟩ := b1 (bad0 T) q
        have hd2 : T.2 (bad0 T) < 48 ∨ 57 < T.2 (bad0 T) := by
          have hy2 : (!digB (T.2 (bad0 T))) = true := hy
          simp [digB] at hy2
          omega
        simp (disch := omega) only [bX9_readsDamps_28, l1, bd_some, gd_ix, lit_0, lit_1, lit_2, lit_3, lit_4, lit_5, lit_6, lit_7, lit_8, lit_9, lit_10, lit_15, lit_16, lit_19, lit_20, lit_31, lit_35, lit_36, lit_48, lit_49, lit_53, lit_55, lit_57, lit_59, lit_60, lit_63, lit_64, lit_97, lit_102, lit_110, lit_160, lit_255, nI_add, ns_sub, ns_div, ns_le, ns_lt, ns_eq, ns_cl, pk_mul, ne10, eq_self, ↓reduceIte, w1, in_n2, q, show ¬ T.1 ≤ bad0 T from by omega]
      · have e : bad0 T = T.1 := by omega
        rw [if_neg q, e]
        simp (disch := omega) only [bX9_readsDamps_28, l1, bd_some, gd_ix, lit_0, lit_1, lit_2, lit_3, lit_4, lit_5, lit_6, lit_7, lit_8, lit_9, lit_10, lit_15, lit_16, lit_19, lit_20, lit_31, lit_35, lit_36, lit_48, lit_49, lit_53, lit_55, lit_57, lit_59, lit_60, lit_63, lit_64, lit_97, lit_102, lit_110, lit_160, lit_255, nI_add, ns_sub, ns_div, ns_le, ns_lt, ns_eq, ns_cl, pk_mul, ne10, eq_self, ↓reduceIte, Nat.le_refl]
  have e1' : lp bX9_readsDamps_7 fl (nI 0) S0 = some (nI 20, S1) := e1
  by_cases q : bad0 T < T.1
  · have hN : tN0 T = 0 := by unfold tN0; rw [if_pos q]
    refine ⟨S1, ?_, by rw [f1.1 0 2 (by omega), z0, hN], fun d hd => by unfold tA; rw [hN, if_neg (by omega)]; exact r1 d hd, g1⟩
    unfold fX9_readsDamps fau0
    rw [lit_0, hS0, e1', bd_some, key, bd_some, if_pos q, if_pos q]
    rfl
  · have hN : tN0 T = T.1 := by unfold tN0; rw [if_neg q]
    obtain ⟨a, S2, e2, rfl, f2, r2, r3⟩ := lp_invF (B := bX9_readsDamps_64) (fun i a Sx => a = nI i ∧ fr 3 3 S1 Sx ∧ (∀ d, d < i → Sx.1 3 d = nI (tA T d)) ∧ ∀ d, i ≤ d → d < 20 → Sx.1 3 d = nI 0) (fun a Sx => a = nI T.1 ∧ fr 3 3 S1 Sx ∧ (∀ d, d < T.1 → Sx.1 3 d = nI (tA T d)) ∧ ∀ d, T.1 ≤ d → d < 20 → Sx.1 3 d = nI 0) T.1 (by omega) (by
      rintro i a Sx hi ⟨rfl, hf, hr, hr2⟩
      have lx : Sx.1 1 0 = nI T.1 := by rw [hf.1 1 0 (by omega)]; exact l1
      by_cases hin : i < T.1
      · have wx : Sx.1 2 i = nI (T.2 i) := by rw [hf.1 2 i (by omega)]; exact (b1 i hin).1
        have hd := dig_at (T := T) (d := i) (by omega)
        have e : T.2 i - 48 = tA T i := by unfold tA; rw [if_pos (by omega)]
        refine Or.inl ⟨hin, nI (i + 1), sI Sx 3 i (nI (tA T i)), fun rec => ?_, rfl, hf.I (by omega) (by omega), fun d hd => ?_, fun d hd hd2 => ?_⟩
        · simp (disch := omega) only [bX9_readsDamps_64, lx, bd_some, gd_ix, lit_0, lit_1, lit_2, lit_3, lit_4, lit_5, lit_6, lit_7, lit_8, lit_9, lit_10, lit_15, lit_16, lit_19, lit_20, lit_31, lit_35, lit_36, lit_48, lit_49, lit_53, lit_55, lit_57, lit_59, lit_60, lit_63, lit_64, lit_97, lit_102, lit_110, lit_160, lit_255, nI_add, ns_sub, ns_div, ns_le, ns_lt, ns_eq, ns_cl, pk_mul, ne10, eq_self, ↓reduceIte, wx, e, show ¬ T.1 ≤ i from by omega]
        · rw [sI1]
          by_cases q : d = i
          · subst q; rw [if_pos ⟨rfl, rfl⟩]
          · rw [if_neg (by omega)]; exact hr d (by omega)
        · rw [sI1, if_neg (by omega)]; exact hr2 d (by omega) hd2
      · have hin2 : i = T.1 := by omega
        subst hin2
        refine Or.inr ⟨nI T.1, Sx, fun rec => ?_, rfl, hf, hr, hr2⟩
        simp (disch := omega) only [bX9_readsDamps_64, lx, bd_some, gd_ix, lit_0, lit_1, lit_2, lit_3, lit_4, lit_5, lit_6, lit_7, lit_8, lit_9, lit_10, lit_15, lit_16, lit_19, lit_20, lit_31, lit_35, lit_36, lit_48, lit_49, lit_53, lit_55, lit_57, lit_59, lit_60, lit_63, lit_64, lit_97, lit_102, lit_110, lit_160, lit_255, nI_add, ns_sub, ns_div, ns_le, ns_lt, ns_eq, ns_cl, pk_mul, ne10, eq_self, ↓reduceIte, Nat.le_refl]) (nI 0) S1 ⟨rfl, fr.rf, fun d hd => absurd hd (by omega), fun d _ hd => r1 d hd⟩
    have l2 : S2.1 1 0 = nI T.1 := by rw [f2.1 1 0 (by omega)]; exact l1
    refine ⟨sI S2 0 2 (nI T.1), ?_, by rw [sI1, if_pos ⟨rfl, rfl⟩, hN], fun d hd => ?_, fun a j q1 q2 => by rw [sI1, if_neg (by omega), f2.1 a j (by omega)]; exact g1 a j q1 q2⟩
    · have e2' : lp bX9_readsDamps_64 fl (nI 0) S1 = some (nI T.1, S2) := e2
      unfold fX9_readsDamps fau0
      rw [lit_0, hS0, e1', bd_some, key, bd_some, if_neg q, if_neg q, se_l, e2', bd_some, gd_ix (by omega) (by omega), ns_cl (by omega), l2]
      rfl
    · rw [sI1, if_neg (by omega)]
      by_cases q2 : d < T.1
      · exact r2 d q2
      · rw [r3 d (by omega) hd]
        unfold tA
        rw [if_neg (by omega)]
theorem bad1_eq {U : Tx} {p : Nat} (h1 : p ≤ U.1) (h2 : ∀ q, q < p → fitB (q % 7) (U.2 q) = true) (h3 : p < U.1 → fitB (p % 7) (U.2 p) = false) : bad1 U = p := by
  have hb : bad1 U ≤ U.1 := fa_first_le _ _
  rcases Nat.lt_trichotomy (bad1 U) p with q | q | q
  · have hy := fa_first_yes (fun i => !fitB (i % 7) (U.2 i)) U.1 (by show bad1 U < U.1; omega)
    have hy2 : (!fitB (bad1 U % 7) (U.2 (bad1 U))) = true := hy
    rw [h2 _ q] at hy2
    cases hy2
  · exact q
  · have := first_lt (p := fun i => fitB (i % 7) (U.2 i)) (n := U.1) (i := p) q
    have z := h3 (by omega)
    rw [this] at z
    cases z
theorem byteAt_y {S : Sg} {U : Tx} (h : mT 1 55 S U) {i : Nat} (hi : i < U.1) : fX9_byteAt (nI i) S = some (nI (U.2 i), S) := by
  obtain ⟨h1, h2, h3⟩ := h
  have w := (h3 i hi).1
  rw [show 55 * 1 + i = 55 + i by omega] at w
  unfold fX9_byteAt
  simp (disch := omega) only [bd_some, gd_ix, lit_0, lit_1, lit_2, lit_3, lit_4, lit_5, lit_6, lit_7, lit_8, lit_9, lit_10, lit_15, lit_16, lit_19, lit_20, lit_31, lit_35, lit_36, lit_48, lit_49, lit_53, lit_55, lit_57, lit_59, lit_60, lit_63, lit_64, lit_97, lit_102, lit_110, lit_160, lit_255, nI_add, ns_sub, ns_div, ns_le, ns_lt, ns_eq, ns_cl, pk_mul, ne10, eq_self, ↓reduceIte, h2, w, show ¬ U.1 ≤ i from by omega]
theorem byteAt_n {S : Sg} {U : Tx} (h : mT 1 55 S U) {i : Nat} (hi : U.1 ≤ i) (hi2 : i < 1000) : fX9_byteAt (nI i) S = some (-nI 1, S) := by
  obtain ⟨h1, h2, h3⟩ := h
  unfold fX9_byteAt
  simp (disch := omega) only [bd_some, gd_ix, lit_0, lit_1, lit_2, lit_3, lit_4, lit_5, lit_6, lit_7, lit_8, lit_9, lit_10, lit_15, lit_16, lit_19, lit_20, lit_31, lit_35, lit_36, lit_48, lit_49, lit_53, lit_55, lit_57, lit_59, lit_60, lit_63, lit_64, lit_97, lit_102, lit_110, lit_160, lit_255, nI_add, ns_sub, ns_div, ns_le, ns_lt, ns_eq, ns_cl, pk_mul, ne10, eq_self, ↓reduceIte, h2, hi]
theorem in_m1 {l g : Nat} (hl : l < 2147483648) {S : Sg} : fX9_in (-nI 1) (nI l) (nI g) S = some (nI 0, S) := by
  unfold fX9_in
  have : (-nI 1 : Int32) < nI l := by
    rw [fa_lt, nI_toInt hl]
    have : (-nI 1 : Int32).toInt = -1 := by decide
    omega
  rw [if_pos this]
  rfl
theorem in_if {m a b : Nat} (hm : m < 2147483648) (ha : a < 2147483648) (hb : b < 2147483648) {S : Sg} : fX9_in (nI m) (nI a) (nI b) S = some ((if a ≤ m ∧ m ≤ b then nI 1 else nI 0), S) := by
  by_cases q : a ≤ m ∧ m ≤ b
  · rw [if_pos q, in_y2 q.1 q.2 hb]
  · rw [if_neg q, in_n2 (by omega) hm ha hb]
def wlB (U : Tx) (at' i : Nat) : Bool := decide (at' + i < U.1) && fitB i (U.2 (at' + i))
theorem isWell_ok {S : Sg} {U : Tx} (h : mT 1 55 S U) {p i : Nat} (hp : p < 100) (hi : i < 6) : fX9_isWell (nI p) (nI i) S = some ((if wlB U p i = true then nI 1 else nI 0), S) := by
  have z : ∀ c : Prop, [Decidable c] → zb (if c then nI 1 else nI 0) = true := fun c _ => by split <;> decide
  have hs2 : i = 0 ∨ i = 1 ∨ i = 2 ∨ i = 3 ∨ i = 4 ∨ i = 5 := by omega
  by_cases q : p + i < U.1
  · have w := byteAt_y h q
    have w2 := (h.2.2 (p + i) q).2
    unfold fX9_isWell wlB fitB
    rcases hs2 with rfl | rfl | rfl | rfl | rfl | rfl
    · simp (disch := omega) only [bd_some, gd_ix, lit_0, lit_1, lit_2, lit_3, lit_4, lit_5, lit_6, lit_7, lit_8, lit_9, lit_10, lit_15, lit_16, lit_19, lit_20, lit_31, lit_35, lit_36, lit_48, lit_49, lit_53, lit_55, lit_57, lit_59, lit_60, lit_63, lit_64, lit_97, lit_102, lit_110, lit_160, lit_255, nI_add, ns_sub, ns_div, ns_le, ns_lt, ns_eq, ns_cl, pk_mul, ne10, eq_self, ↓reduceIte, w, q, in_if, gd_t (z _), Nat.reduceEqDiff, decide_true, Bool.true_and, Bool.and_eq_true, decide_eq_true_eq]
    · simp (disch := omega) only [bd_some, gd_ix, lit_0, lit_1, lit_2, lit_3, lit_4, lit_5, lit_6, lit_7, lit_8, lit_9, lit_10, lit_15, lit_16, lit_19, lit_20, lit_31, lit_35, lit_36, lit_48, lit_49, lit_53, lit_55, lit_57, lit_59, lit_60, lit_63, lit_64, lit_97, lit_102, lit_110, lit_160, lit_255, nI_add, ns_sub, ns_div, ns_le, ns_lt, ns_eq, ns_cl, pk_mul, ne10, eq_self, ↓reduceIte, w, q, in_if, gd_t (z _), Nat.reduceEqDiff, decide_true, Bool.true_and, Bool.and_eq_true, decide_eq_true_eq]
    · simp (disch := omega) only [bd_some, gd_ix, lit_0, lit_1, lit_2, lit_3, lit_4, lit_5, lit_6, lit_7, lit_8, lit_9, lit_10, lit_15, lit_16, lit_19, lit_20, lit_31, lit_35, lit_36, lit_48, lit_49, lit_53, lit_55, lit_57, lit_59, lit_60, lit_63, lit_64, lit_97, lit_102, lit_110, lit_160, lit_255, nI_add, ns_sub, ns_div, ns_le, ns_lt, ns_eq, ns_cl, pk_mul, ne10, eq_self, ↓reduceIte, w, q, in_if, gd_t (z _), Nat.reduceEqDiff, decide_true, Bool.true_and, Bool.and_eq_true, decide_eq_true_eq]
    · simp (disch := omega) only [bd_some, gd_ix, lit_0, lit_1, lit_2, lit_3, lit_4, lit_5, lit_6, lit_7, lit_8, lit_9, lit_10, lit_15, lit_16, lit_19, lit_20, lit_31, lit_35, lit_36, lit_48, lit_49, lit_53, lit_55, lit_57, lit_59, lit_60, lit_63, lit_64, lit_97, lit_102, lit_110, lit_160, lit_255, nI_add, ns_sub, ns_div, ns_le, ns_lt, ns_eq, ns_cl, pk_mul, ne10, eq_self, ↓reduceIte, w, q, in_if, gd_t (z _), Nat.reduceEqDiff, decide_true, Bool.true_and, Bool.and_eq_true, decide_eq_true_eq]
    · simp (disch := omega) only [bd_some, gd_ix, lit_0, lit_1, lit_2, lit_3, lit_4, lit_5, lit_6, lit_7, lit_8, lit_9, lit_10, lit_15, lit_16, lit_19, lit_20, lit_31, lit_35, lit_36, lit_48, lit_49, lit_53, lit_55, lit_57, lit_59, lit_60, lit_63, lit_64, lit_97, lit_102, lit_110, lit_160, lit_255, nI_add, ns_sub, ns_div, ns_le, ns_lt, ns_eq, ns_cl, pk_mul, ne10, eq_self, ↓reduceIte, w, q, in_if, gd_t (z _), Nat.reduceEqDiff, decide_true, Bool.true_and, Bool.and_eq_true, decide_eq_true_eq]
    · simp (disch := omega) only [bd_some, gd_ix, lit_0, lit_1, lit_2, lit_3, lit_4, lit_5, lit_6, lit_7, lit_8, lit_9, lit_10, lit_15, lit_16, lit_19, lit_20, lit_31, lit_35, lit_36, lit_48, lit_49, lit_53, lit_55, lit_57, lit_59, lit_60, lit_63, lit_64, lit_97, lit_102, lit_110, lit_160, lit_255, nI_add, ns_sub, ns_div, ns_le, ns_lt, ns_eq, ns_cl, pk_mul, ne10, eq_self, ↓reduceIte, w, q, in_if, gd_t (z _), Nat.reduceEqDiff, decide_true, Bool.true_and, Bool.and_eq_true, decide_eq_true_eq]
  · have w := byteAt_n h (i := p + i) (by omega) (by omega)
    have e : wlB U p i = false := by simp [wlB, q]
    unfold fX9_isWell
    rw [e]
    rcases hs2 with rfl | rfl | rfl | rfl | rfl | rfl
    · simp (disch := omega) only [bd_some, gd_ix, lit_0, lit_1, lit_2, lit_3, lit_4, lit_5, lit_6, lit_7, lit_8, lit_9, lit_10, lit_15, lit_16, lit_19, lit_20, lit_31, lit_35, lit_36, lit_48, lit_49, lit_53, lit_55, lit_57, lit_59, lit_60, lit_63, lit_64, lit_97, lit_102, lit_110, lit_160, lit_255, nI_add, ns_sub, ns_div, ns_le, ns_lt, ns_eq, ns_cl, pk_mul, ne10, eq_self, ↓reduceIte, w, in_m1, gd_t zb_0, Nat.reduceEqDiff, Bool.false_eq_true]
    · simp (disch := omega) only [bd_some, gd_ix, lit_0, lit_1, lit_2, lit_3, lit_4, lit_5, lit_6, lit_7, lit_8, lit_9, lit_10, lit_15, lit_16, lit_19, lit_20, lit_31, lit_35, lit_36, lit_48, lit_49, lit_53, lit_55, lit_57, lit_59, lit_60, lit_63, lit_64, lit_97, lit_102, lit_110, lit_160, lit_255, nI_add, ns_sub, ns_div, ns_le, ns_lt, ns_eq, ns_cl, pk_mul, ne10, eq_self, ↓reduceIte, w, in_m1, gd_t zb_0, Nat.reduceEqDiff, Bool.false_eq_true]
    · simp (disch := omega) only [bd_some, gd_ix, lit_0, lit_1, lit_2, lit_3, lit_4, lit_5, lit_6, lit_7, lit_8, lit_9, lit_10, lit_15, lit_16, lit_19, lit_20, lit_31, lit_35, lit_36, lit_48, lit_49, lit_53, lit_55, lit_57, lit_59, lit_60, lit_63, lit_64, lit_97, lit_102, lit_110, lit_160, lit_255, nI_add, ns_sub, ns_div, ns_le, ns_lt, ns_eq, ns_cl, pk_mul, ne10, eq_self, ↓reduceIte, w, in_m1, gd_t zb_0, Nat.reduceEqDiff, Bool.false_eq_true]
    · simp (disch := omega) only [bd_some, gd_ix, lit_0, lit_1, lit_2, lit_3, lit_4, lit_5, lit_6, lit_7, lit_8, lit_9, lit_10, lit_15, lit_16, lit_19, lit_20, lit_31, lit_35, lit_36, lit_48, lit_49, lit_53, lit_55, lit_57, lit_59, lit_60, lit_63, lit_64, lit_97, lit_102, lit_110, lit_160, lit_255, nI_add, ns_sub, ns_div, ns_le, ns_lt, ns_eq, ns_cl, pk_mul, ne10, eq_self, ↓reduceIte, w, in_m1, gd_t zb_0, Nat.reduceEqDiff, Bool.false_eq_true]
    · simp (disch := omega) only [bd_some, gd_ix, lit_0, lit_1, lit_2, lit_3, lit_4, lit_5, lit_6, lit_7, lit_8, lit_9, lit_10, lit_15, lit_16, lit_19, lit_20, lit_31, lit_35, lit_36, lit_48, lit_49, lit_53, lit_55, lit_57, lit_59, lit_60, lit_63, lit_64, lit_97, lit_102, lit_110, lit_160, lit_255, nI_add, ns_sub, ns_div, ns_le, ns_lt, ns_eq, ns_cl, pk_mul, ne10, eq_self, ↓reduceIte, w, in_m1, gd_t zb_0, Nat.reduceEqDiff, Bool.false_eq_true]
    · simp (disch := omega) only [bd_some, gd_ix, lit_0, lit_1, lit_2, lit_3, lit_4, lit_5, lit_6, lit_7, lit_8, lit_9, lit_10, lit_15, lit_16, lit_19, lit_20, lit_31, lit_35, lit_36, lit_48, lit_49, lit_53, lit_55, lit_57, lit_59, lit_60, lit_63, lit_64, lit_97, lit_102, lit_110, lit_160, lit_255, nI_add, ns_sub, ns_div, ns_le, ns_lt, ns_eq, ns_cl, pk_mul, ne10, eq_self, ↓reduceIte, w, in_m1, gd_t zb_0, Nat.reduceEqDiff, Bool.false_eq_true]
def gdn (U : Tx) (p : Nat) : Nat := fa_first (fun i => !wlB U p i) 6
def st4 (S : Sg) (U : Tx) (n : Nat) : Sg := sI (sI (sI (sI S 4 n (nI (tD U n))) 5 n (nI (tC U n))) 6 n (nI (tG U n))) 7 n (nI (tK U n))
theorem readsStroke_ok {S : Sg} {U : Tx} (h : mT 1 55 S U) {n : Nat} (hn : n < 9) : fX9_readsStroke (nI n) (nI (7 * n)) S = some (nI (gdn U (7 * n)), (if gdn U (7 * n) = 6 then st4 S U n else S)) := by
  have hg : gdn U (7 * n) ≤ 6 := fa_first_le _ _
  have key : lp (bX9_readsStroke_2 (nI (7 * n))) fl (nI 0) S = some (nI (gdn U (7 * n)), S) := by
    refine lp_fl (fun i => nI i) (fun _ => S) (gdn U (7 * n)) (by omega) (fun i hi rec => ?_) (fun rec => ?_)
    · have hw := first_lt (p := wlB U (7 * n)) (n := 6) (i := i) hi
      have e := isWell_ok h (p := 7 * n) (i := i) (by omega) (by omega)
      rw [hw] at e
      simp (disch := omega) only [bX9_readsStroke_2, bd_some, gd_ix, lit_0, lit_1, lit_2, lit_3, lit_4, lit_5, lit_6, lit_7, lit_8, lit_9, lit_10, lit_15, lit_16, lit_19, lit_20, lit_31, lit_35, lit_36, lit_48, lit_49, lit_53, lit_55, lit_57, lit_59, lit_60, lit_63, lit_64, lit_97, lit_102, lit_110, lit_160, lit_255, nI_add, ns_sub, ns_div, ns_le, ns_lt, ns_eq, ns_cl, pk_mul, ne10, eq_self, ↓reduceIte, e, show ¬ 6 ≤ i from by omega]
    · by_cases q : gdn U (7 * n) < 6
      · have hy := fa_first_yes (fun i => !wlB U (7 * n) i) 6 q
        have hy2 : wlB U (7 * n) (gdn U (7 * n)) = false := by
          have : (!wlB U (7 * n) (gdn U (7 * n))) = true := hy
          simpa using this
        have e := isWell_ok h (p := 7 * n) (i := gdn U (7 * n)) (by omega) (by omega)
        rw [hy2] at e
        simp (disch := omega) only [bX9_readsStroke_2, bd_some, gd_ix, lit_0, lit_1, lit_2, lit_3, lit_4, lit_5, lit_6, lit_7, lit_8, lit_9, lit_10, lit_15, lit_16, lit_19, lit_20, lit_31, lit_35, lit_36, lit_48, lit_49, lit_53, lit_55, lit_57, lit_59, lit_60, lit_63, lit_64, lit_97, lit_102, lit_110, lit_160, lit_255, nI_add, ns_sub, ns_div, ns_le, ns_lt, ns_eq, ns_cl, pk_mul, ne10, eq_self, ↓reduceIte, e, Bool.false_eq_true, show ¬ 6 ≤ gdn U (7 * n) from by omega]
      · simp (disch := omega) only [bX9_readsStroke_2, bd_some, gd_ix, lit_0, lit_1, lit_2, lit_3, lit_4, lit_5, lit_6, lit_7, lit_8, lit_9, lit_10, lit_15, lit_16, lit_19, lit_20, lit_31, lit_35, lit_36, lit_48, lit_49, lit_53, lit_55, lit_57, lit_59, lit_60, lit_63, lit_64, lit_97, lit_102, lit_110, lit_160, lit_255, nI_add, ns_sub, ns_div, ns_le, ns_lt, ns_eq, ns_cl, pk_mul, ne10, eq_self, ↓reduceIte, show 6 ≤ gdn U (7 * n) from by omega]
  unfold fX9_readsStroke
  rw [lit_0, key, bd_some]
  by_cases q : gdn U (7 * n) = 6
  · have hw : ∀ s, s < 6 → 7 * n + s < U.1 ∧ fitB s (U.2 (7 * n + s)) = true := fun s hs => by
      have := first_lt (p := wlB U (7 * n)) (n := 6) (i := s) (by show s < gdn U (7 * n); omega)
      simpa [wlB] using this
    have a0 := hw 0 (by omega)
    have a1 := hw 1 (by omega)
    have a2 := hw 2 (by omega)
    have a3 := hw 3 (by omega)
    have a4 := hw 4 (by omega)
    have a5 := hw 5 (by omega)
    simp [fitB] at a0 a1 a2 a3 a4 a5
    have w := h.2.2
    have w0 := (w (7 * n) (by omega)).1
    have w1 := (w (7 * n + 1) (by omega)).1
    have w2 := (w (7 * n + 2) (by omega)).1
    have w3 := (w (7 * n + 3) (by omega)).1
    have w4 := (w (7 * n + 4) (by omega)).1
    have w5 := (w (7 * n + 5) (by omega)).1
    rw [show 55 * 1 + (7 * n) = 55 + 7 * n by omega] at w0
    rw [show 55 * 1 + (7 * n + 1) = 55 + (7 * n + 1) by omega] at w1
    rw [show 55 * 1 + (7 * n + 2) = 55 + (7 * n + 2) by omega] at w2
    rw [show 55 * 1 + (7 * n + 3) = 55 + (7 * n + 3) by omega] at w3
    rw [show 55 * 1 + (7 * n + 4) = 55 + (7 * n + 4) by omega] at w4
    rw [show 55 * 1 + (7 * n + 5) = 55 + (7 * n + 5) by omega] at w5
    have hl := h.2.1
    have eD : 10 * (U.2 (7 * n) - 48) + U.2 (7 * n + 1) - 48 = tD U n := by unfold tD; omega
    have eC : 6 * (U.2 (7 * n + 2) - 48) + U.2 (7 * n + 3) - 48 = tC U n := by unfold tC; omega
    have eG : U.2 (7 * n + 4) - 97 = tG U n := rfl
    have eK : U.2 (7 * n + 5) - 48 = tK U n := rfl
    have h55 := h.1
    unfold st4
    simp (disch := omega) only [q, fX9_byteAt, bd_some, gd_ix, lit_0, lit_1, lit_2, lit_3, lit_4, lit_5, lit_6, lit_7, lit_8, lit_9, lit_10, lit_15, lit_16, lit_19, lit_20, lit_31, lit_35, lit_36, lit_48, lit_49, lit_53, lit_55, lit_57, lit_59, lit_60, lit_63, lit_64, lit_97, lit_102, lit_110, lit_160, lit_255, nI_add, ns_sub, ns_div, ns_le, ns_lt, ns_eq, ns_cl, pk_mul, ne10, eq_self, ↓reduceIte, hl, sI1, sI2, sC1, sC2, sL1, sL2, Nat.reduceEqDiff, false_and, w0, w1, w2, w3, w4, w5, eD, eC, eG, eK, show ¬ U.1 ≤ 7 * n from by omega, show ¬ U.1 ≤ 7 * n + 1 from by omega, show ¬ U.1 ≤ 7 * n + 2 from by omega, show ¬ U.1 ≤ 7 * n + 3 from by omega, show ¬ U.1 ≤ 7 * n + 4 from by omega, show ¬ U.1 ≤ 7 * n + 5 from by omega]
  · rw [if_neg (by rw [lit_6, ns_eq (by omega) (by omega)]; exact q), bd_some, if_neg q]
