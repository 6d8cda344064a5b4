/-! never, sign: the steps -/
theorem neverM_st {S : Sg} {A : Ab} (h : RM S A) : ∃ S', fX9_neverNow S = some (pb (fun k => decide (k < cN (cfg A)) && nvB (cfg A) (sgn A) (aS A) k), S') ∧ mz S S' ∧ MdA (sI S' 0 17 (nI 0)) (cfg A) A (fun _ => false) ∧ ∀ k, k < cN (cfg A) → S'.1 6 k = nI (sgn A k) := by
  have h8 := cfg_8m h
  obtain ⟨S1, e1, z1, r1, m1⟩ := asTold_ok h
  have g1 : ∀ k, k < cN (cfg A) → S1.1 6 k = nI (sgn A k) := fun k hk => (r1.2.2.2 k hk).2.2.1
  obtain ⟨S2, e2, z2, m2⟩ := neverM_lp (S := S1) (c := cfg A) (G := sgn A) (N := aS A) (p := nvB (cfg A) (sgn A) (aS A)) (fun _ => rfl) h8 cfg_dec (MdN.st m1 cfg_dec) g1 cfg_g5 (h.mz z1).2.2.2.2.1
  refine ⟨S2, ?_, z1.tr (fun a j q1 q2 q3 q4 q5 => z2 a j (by omega) (by omega)), m2, fun k hk => by rw [z2 6 k (by omega) (by omega)]; exact g1 k hk⟩
  unfold fX9_neverNow
  rw [e1, bd_some, lit_0, e2, bd_some]
theorem stp_never_ok : stp_never Inv := by
  rintro Sc Sm ⟨A, hC, hM⟩
  obtain ⟨S1, e1, h1⟩ := neverC_ok hC
  obtain ⟨S2, e2, h2, -⟩ := neverM_st hM
  refine ⟨_, S1, S2, e1, ?_, A, h1.c, hM.mz h2⟩
  unfold fX9_never
  rw [e2, bd_some]
/-- sets of ten -/
def pbX (p : Nat → Bool) : Int32 := nI (ob 10 p)
theorem pbX_cong {p q : Nat → Bool} (h : ∀ k, k < 10 → p k = q k) : pbX p = pbX q := by
  unfold pbX
  rw [ob_ext (n := 10) (p := q) (m := ob 10 p) (ob_lt 10 p) (fun k hk => by rw [ob_bit hk, h k hk])]
theorem one_shl10 : ∀ k, k < 10 → nI 1 <<< (nI k &&& nI 31) = nI (2 ^ k) := by decide +kernel
theorem pbX_or {p : Nat → Bool} {k : Nat} (hk : k < 10) : pbX p ||| (nI 1 <<< (nI k &&& nI 31)) = pbX (fun i => p i || (i == k)) := by
  unfold pbX
  rw [one_shl10 k hk, fa_or]
  have hlt : 2 ^ k < 2 ^ 10 := Nat.pow_lt_pow_right (by decide) hk
  rw [ob_ext (n := 10) (p := fun i => p i || (i == k)) (m := ob 10 p ||| 2 ^ k) (Nat.or_lt_two_pow (ob_lt 10 p) hlt) (fun i hi => by
    rw [Nat.testBit_or, ob_bit hi, Nat.testBit_two_pow]
    congr 1
    rw [Bool.eq_iff_iff, decide_eq_true_eq, beq_iff_eq]
    exact ⟨Eq.symm, Eq.symm⟩)]
theorem pbX_or0 {p : Nat → Bool} : pbX p ||| nI 0 = pbX p := by
  unfold pbX
  rw [fa_or, Nat.or_zero]
theorem pbX_skipC {p : Nat → Bool} {i : Nat} (q : p i = false) : pbX (fun k => decide (k < i) && p k) = pbX (fun k => decide (k < i + 1) && p k) := pbX_cong (fun k _ => by
  by_cases hki : k = i
  · subst hki; rw [q]; simp
  · simp [show (k < i + 1) ↔ k < i by omega])
theorem pbX_skip {p : Nat → Bool} {i : Nat} (q : p i = false) : pbX (fun k => decide (k < i) && p k) ||| nI 0 = pbX (fun k => decide (k < i + 1) && p k) := by
  rw [pbX_or0, pbX_skipC q]
theorem pbX_add {p : Nat → Bool} {i : Nat} (hi : i < 10) (q : p i = true) : pbX (fun k => decide (k < i) && p k) ||| (nI 1 <<< (nI i &&& nI 31)) = pbX (fun k => decide (k < i + 1) && p k) := by
  rw [pbX_or hi]
  refine pbX_cong (fun k hk => ?_)
  by_cases hki : k = i
  · subst hki; rw [q]; simp
  · simp [show (k < i + 1) ↔ k < i by omega, hki]
theorem pbX_0 {p : Nat → Bool} (h : ∀ k, k < 10 → p k = false) : pbX p = nI 0 := by
  unfold pbX
  rw [← ob_ext (n := 10) (p := p) (m := 0) (by omega) (fun k hk => by rw [h k hk]; simp)]
/-- sign -/
def sgU (G : Nat → Nat) (k v : Nat) : Nat → Nat := fun j => if j = k then v else G j
def sgP (A : Ab) (k : Nat) : Nat → Bool := fun v => sk (cfg A) (sgU (sgn A) k v) (aS A)
theorem sgU_5 {A : Ab} {k v : Nat} (hv : v < 6) : ∀ j, j < cN (cfg A) → sgU (sgn A) k v j ≤ 5 := fun j hj => by
  unfold sgU
  split
  · omega
  · exact cfg_g5 j hj
theorem signC_ok {S : Sg} {A : Ab} (h : RC S A) {k : Nat} (hk : k < cN (cfg A)) : ∃ S', fX8_sign (nI k) S = some (pbX (fun v => decide (v < 6) && sgP A k v), S') ∧ RF S' A := by
  obtain ⟨S1, e1, h1⟩ := bring_ok h
  have h8 := cfg_8 h.1
  have hx := (cfg_rng hk).2.1
  obtain ⟨S2, e3, f3, b3, g3⟩ := trial_ok h1
  obtain ⟨p, hp⟩ : ∃ p : Nat → Bool, p = sgP A k := ⟨_, rfl⟩
  rw [← hp]
  obtain ⟨a, S3, e2, ha, z2⟩ := lp_invF (B := bX8_sign_30 (nI k)) (fun i a Sx => a = (pbX (fun k => decide (k < i) && p k), nI i) ∧ scr S1 Sx ∧ Bd 24 Sx (cfg A) ∧ ∀ j, j < cN (cfg A) → ¬ j = k → Sx.1 (24 + 3) j = nI (sgn A j)) (fun a Sx => a = (pbX (fun k => decide (k < 6) && p k), nI 6) ∧ scr S1 Sx) 6 (by omega) (by
    rintro i a Sx hi ⟨ha, hz, hb, hg⟩
    subst ha
    by_cases hin : i < 6
    · have hz3 : scr S1 (sI Sx 27 k (nI i)) := hz.I (by omega)
      have hx3 := h1.scr hz3
      have b4 : Bd 24 (sI Sx 27 k (nI i)) (cfg A) := by
        obtain ⟨q1, q2, q3⟩ := hb
        refine ⟨q1, by rw [sI1, if_neg (by omega)]; exact q2, fun j hj => ?_⟩
        rw [sI1, if_neg (by omega), sI1, if_neg (by omega), sI1, if_neg (by omega)]
        exact q3 j hj
      have g4 : sgB 24 (sI Sx 27 k (nI i)) (cfg A) (sgU (sgn A) k i) := fun j hj => by
        unfold sgU
        rw [sI1]
        by_cases q : j = k
        · rw [if_pos ⟨rfl, q⟩, if_pos q]
        · rw [if_neg (by omega), if_neg q]; exact hg j hj q
      have e14 : (sI Sx 27 k (nI i)).1 14 k = nI (cC (cfg A) k) := (hx3.2.2.1.2.2 k hk).2.2.1
      have e4 : fX8_agrees 24 21 (nI (cC (cfg A) k)) (sI Sx 27 k (nI i)) = some (bI (p i), sI Sx 27 k (nI i)) := by
        rw [hp]
        exact agrees_ok (N := aS A) (f := fun d y => sr (cfg A) (sgU (sgn A) k i) d y) hx3.1.2.2.2.2.1 hx (fun d y => sr_le (c := cfg A) (sgU_5 hin)) (fun d hd => by
          rw [fr_risen hx3 hd, signRisen_ok (t := 24) (c := cfg A) (b := cfg A) b4 rfl (fun _ _ => rfl) g4 hx]) (fun d y hd hy hne => by
          rw [signT_ok hx3 hd hy]
          have := sr_other (c := cfg A) (e := cfg A) rfl rfl rfl rfl rfl (fun _ => rfl) (x := cC (cfg A) k) (fun _ _ _ => rfl) (fun _ _ _ => rfl) (fun _ _ => rfl) (fun j hj => cfg_P hj) (fun j hj => cfg_P hj) (G := sgn A) (H := sgU (sgn A) k i) (fun j _ hj => by
            unfold sgU
            rw [if_neg (fun q => hj (by rw [q]))]) (d := d) hne
          rw [this])
      refine Or.inl ⟨hin, (pbX (fun k => decide (k < i + 1) && p k), nI (i + 1)), sI Sx 27 k (nI i), fun rec => ?_, rfl, hz3, b4, fun j hj q => by rw [sI1, if_neg (by omega)]; exact hg j hj q⟩
      cases hq : p i with
      | true =>
        have ha := pbX_add (p := p) (show i < 10 by omega) hq
        rw [hq] at e4
        generalize pbX (fun k => decide (k < i + 1) && p k) = Z at ha ⊢
        generalize pbX (fun k => decide (k < i) && p k) = Y at ha ⊢
        simp (disch := omega) only [bX8_sign_30, bdq, gd_ix, lit_0, lit_1, lit_2, lit_3, lit_4, lit_5, lit_6, lit_7, lit_8, lit_9, lit_10, lit_15, lit_16, lit_19, lit_20, lit_31, lit_35, lit_36, lit_48, lit_49, lit_53, lit_55, lit_57, lit_59, lit_60, lit_63, lit_64, lit_97, lit_102, lit_110, lit_160, lit_255, nI_add, ns_sub, ns_div, ns_le, ns_lt, ns_eq, ns_cl, pk_mul, ne10, eq_self, ↓reduceIte, e14, e4, bI_t, ha, show ¬ 6 ≤ i from by omega]
      | false =>
        rw [← pbX_skipC (p := p) hq]
        rw [hq] at e4
        generalize pbX (fun k => decide (k < i) && p k) = Y
        simp (disch := omega) only [bX8_sign_30, bdq, gd_ix, lit_0, lit_1, lit_2, lit_3, lit_4, lit_5, lit_6, lit_7, lit_8, lit_9, lit_10, lit_15, lit_16, lit_19, lit_20, lit_31, lit_35, lit_36, lit_48, lit_49, lit_53, lit_55, lit_57, lit_59, lit_60, lit_63, lit_64, lit_97, lit_102, lit_110, lit_160, lit_255, nI_add, ns_sub, ns_div, ns_le, ns_lt, ns_eq, ns_cl, pk_mul, ne10, eq_self, ↓reduceIte, e14, e4, bI_f, show ¬ 6 ≤ i from by omega]
    · have hin2 : i = 6 := by omega
      subst hin2
      refine Or.inr ⟨(pbX (fun k => decide (k < 6) && p k), nI 6), Sx, fun rec => ?_, rfl, hz⟩
      generalize pbX (fun k => decide (k < 6) && p k) = Y
      simp (disch := omega) only [bX8_sign_30, bdq, gd_ix, lit_0, lit_1, lit_2, lit_3, lit_4, lit_5, lit_6, lit_7, lit_8, lit_9, lit_10, lit_15, lit_16, lit_19, lit_20, lit_31, lit_35, lit_36, lit_48, lit_49, lit_53, lit_55, lit_57, lit_59, lit_60, lit_63, lit_64, lit_97, lit_102, lit_110, lit_160, lit_255, nI_add, ns_sub, ns_div, ns_le, ns_lt, ns_eq, ns_cl, pk_mul, ne10, eq_self, ↓reduceIte, Nat.le_refl]) (nI 0, nI 0) S2 ⟨by rw [pbX_0 (fun k _ => by simp)], f3.scr (by omega), b3, fun j hj _ => g3 j hj⟩
  subst ha
  refine ⟨S3, ?_, h1.scr z2⟩
  unfold fX8_sign
  rw [e1, bd_some, cStroke_y h1 hk, bd_some, if_neg (by decide), e3, bd_some, lit_0, e2, bd_some]
theorem Md.s6 {S S' : Sg} {c : Cf} {nw no : Nat} {wd wl od ol : Nat → Nat} {mo : Nat → Bool} (h : Md S c nw wd wl no od ol mo) (e : ∀ a j, ¬ a = 6 → S'.1 a j = S.1 a j) : Md S' c nw wd wl no od ol mo := by
  obtain ⟨h1, h2, h3, h4, h5, h6, h7, h8, h9, h10, h11, h12, h13, h14, h15⟩ := h
  refine ⟨h1, by rw [e 0 4 (by omega)]; exact h2, fun j hj => ?_, h4, by rw [e 0 10 (by omega)]; exact h5, fun w hw => ?_, h7, by rw [e 0 13 (by omega)]; exact h8, fun o ho => ?_, fun d hd => by rw [e 12 d (by omega)]; exact h10 d hd, by rw [e 0 9 (by omega)]; exact h11, h12, by rw [e 0 17 (by omega)]; exact h13, by rw [e 0 18 (by omega)]; exact h14, h15⟩
  · rw [e 4 j (by omega), e 5 j (by omega), e 7 j (by omega)]; exact h3 j hj
  · rw [e 8 w (by omega), e 9 w (by omega)]; exact h6 w hw
  · rw [e 10 o (by omega), e 11 o (by omega)]; exact h9 o ho
theorem signM_ok {S : Sg} {A : Ab} (h : RM S A) {k : Nat} (hk : k < cN (cfg A)) : ∃ S', fX9_signOf (nI k) S = some (pbX (fun v => decide (v < 6) && sgP A k v), S') ∧ mz S S' := by
  have h8 := cfg_8m h
  obtain ⟨S1, e1, z1, r1, m1⟩ := asTold_ok h
  have hM1 := h.mz z1
  obtain ⟨p, hp⟩ : ∃ p : Nat → Bool, p = sgP A k := ⟨_, rfl⟩
  rw [← hp]
  obtain ⟨a, S3, e2, ha, z2⟩ := lp_invF (B := bX9_signOf_16 (nI k)) (fun i a Sx => a = (pbX (fun k => decide (k < i) && p k), nI i) ∧ mz S1 Sx ∧ MdA Sx (cfg A) A (fun _ => false) ∧ ∀ j, j < cN (cfg A) → ¬ j = k → Sx.1 6 j = nI (sgn A j)) (fun a Sx => a = (pbX (fun k => decide (k < 6) && p k), nI 6) ∧ mz S1 Sx) 6 (by omega) (by
    rintro i a Sx hi ⟨ha, hz, hm, hg⟩
    subst ha
    by_cases hin : i < 6
    · have hz3 : mz S1 (sI Sx 6 k (nI i)) := hz.I (by omega)
      have m3 : MdA (sI Sx 6 k (nI i)) (cfg A) A (fun _ => false) := hm.s6 (fun b j q => by rw [sI1, if_neg (by omega)])
      obtain ⟨S4, e4, f4⟩ := isSeen_ok (c := cfg A) (G := sgU (sgn A) k i) (N := aS A) m3 (fun j hj => by
        unfold sgU
        rw [sI1]
        by_cases q : j = k
        · rw [if_pos ⟨rfl, q⟩, if_pos q]
        · rw [if_neg (by omega), if_neg q]; exact hg j hj q) (sgU_5 hin) (hM1.mz hz3).2.2.2.2.1
      have e5 : sk (cfg A) (sgU (sgn A) k i) (aS A) = p i := by rw [hp]; rfl
      rw [e5] at e4
      refine Or.inl ⟨hin, (pbX (fun k => decide (k < i + 1) && p k), nI (i + 1)), S4, fun rec => ?_, rfl, hz3.tr f4.mz, m3.mf f4, fun j hj q => by rw [f4.1 6 j (by omega) (by omega), sI1, if_neg (by omega)]; exact hg j hj q⟩
      cases hq : p i with
      | true =>
        have ha := pbX_add (p := p) (show i < 10 by omega) hq
        rw [hq] at e4
        generalize pbX (fun k => decide (k < i + 1) && p k) = Z at ha ⊢
        generalize pbX (fun k => decide (k < i) && p k) = Y at ha ⊢
        simp (disch := omega) only [bX9_signOf_16, bdq, gd_ix, lit_0, lit_1, lit_2, lit_3, lit_4, lit_5, lit_6, lit_7, lit_8, lit_9, lit_10, lit_15, lit_16, lit_19, lit_20, lit_31, lit_35, lit_36, lit_48, lit_49, lit_53, lit_55, lit_57, lit_59, lit_60, lit_63, lit_64, lit_97, lit_102, lit_110, lit_160, lit_255, nI_add, ns_sub, ns_div, ns_le, ns_lt, ns_eq, ns_cl, pk_mul, ne10, eq_self, ↓reduceIte, e4, bI_t, ha, show ¬ 6 ≤ i from by omega]
      | false =>
        have ha := pbX_skip (p := p) hq
        rw [hq] at e4
        generalize pbX (fun k => decide (k < i + 1) && p k) = Z at ha ⊢
        generalize pbX (fun k => decide (k < i) && p k) = Y at ha ⊢
        simp (disch := omega) only [bX9_signOf_16, bdq, gd_ix, lit_0, lit_1, lit_2, lit_3, lit_4, lit_5, lit_6, lit_7, lit_8, lit_9, lit_10, lit_15, lit_16, lit_19, lit_20, lit_31, lit_35, lit_36, lit_48, lit_49, lit_53, lit_55, lit_57, lit_59, lit_60, lit_63, lit_64, lit_97, lit_102, lit_110, lit_160, lit_255, nI_add, ns_sub, ns_div, ns_le, ns_lt, ns_eq, ns_cl, pk_mul, ne10, eq_self, ↓reduceIte, e4, bI_f, ha, show ¬ 6 ≤ i from by omega]
    · have hin2 : i = 6 := by omega
      subst hin2
      refine Or.inr ⟨(pbX (fun k => decide (k < 6) && p k), nI 6), Sx, fun rec => ?_, rfl, hz⟩
      generalize pbX (fun k => decide (k < 6) && p k) = Y
      simp (disch := omega) only [bX9_signOf_16, bdq, gd_ix, lit_0, lit_1, lit_2, lit_3, lit_4, lit_5, lit_6, lit_7, lit_8, lit_9, lit_10, lit_15, lit_16, lit_19, lit_20, lit_31, lit_35, lit_36, lit_48, lit_49, lit_53, lit_55, lit_57, lit_59, lit_60, lit_63, lit_64, lit_97, lit_102, lit_110, lit_160, lit_255, nI_add, ns_sub, ns_div, ns_le, ns_lt, ns_eq, ns_cl, pk_mul, ne10, eq_self, ↓reduceIte, Nat.le_refl]) (nI 0, nI 0) S1 ⟨by rw [pbX_0 (fun k _ => by simp)], mz.rf, m1, fun j hj _ => (r1.2.2.2 j hj).2.2.1⟩
  subst ha
  refine ⟨sI S3 6 k (S1.1 6 k), ?_, (z1.tr z2).I (by omega)⟩
  unfold fX9_signOf
  rw [e1, bd_some, gd_ix (by omega) (by omega), lit_0, e2, bd_some, gd_ix (by omega) (by omega), ns_cl (by omega)]
theorem stp_sign_ok : stp_sign Inv := by
  rintro Sc Sm x1 ⟨A, hC, hM⟩
  obtain ⟨S2, z2, r2, y2, n2⟩ := mStroke_ok hM x1
  by_cases g1 : rg x1 (cN (cfg A))
  · have e2 := y2 g1
    obtain ⟨k, hk, rfl⟩ := g1
    obtain ⟨S1, e1, h1⟩ := signC_ok hC hk
    obtain ⟨S3, e3, z3⟩ := signM_ok (hM.mz z2) hk
    refine ⟨_, S1, S3, e1, ?_, A, h1.c, (hM.mz z2).mz z3⟩
    unfold fX9_sign
    rw [e2, bd_some, if_neg (by decide), e3, bd_some]
  · obtain ⟨S1, e1, h1⟩ := bring_ok hC
    refine ⟨-nI 2, S1, S2, ?_, ?_, A, h1.c, hM.mz z2⟩
    · unfold fX8_sign
      simp (disch := omega) only [e1, cStroke_n h1 g1, bdq, gd_ix, lit_0, lit_1, lit_2, lit_3, lit_4, lit_5, lit_6, lit_7, lit_8, lit_9, lit_10, lit_15, lit_16, lit_19, lit_20, lit_31, lit_35, lit_36, lit_48, lit_49, lit_53, lit_55, lit_57, lit_59, lit_60, lit_63, lit_64, lit_97, lit_102, lit_110, lit_160, lit_255, nI_add, ns_sub, ns_div, ns_le, ns_lt, ns_eq, ns_cl, pk_mul, ne10, eq_self, ↓reduceIte]
    · unfold fX9_sign
      simp (disch := omega) only [n2 g1, bdq, gd_ix, lit_0, lit_1, lit_2, lit_3, lit_4, lit_5, lit_6, lit_7, lit_8, lit_9, lit_10, lit_15, lit_16, lit_19, lit_20, lit_31, lit_35, lit_36, lit_48, lit_49, lit_53, lit_55, lit_57, lit_59, lit_60, lit_63, lit_64, lit_97, lit_102, lit_110, lit_160, lit_255, nI_add, ns_sub, ns_div, ns_le, ns_lt, ns_eq, ns_cl, pk_mul, ne10, eq_self, ↓reduceIte]
