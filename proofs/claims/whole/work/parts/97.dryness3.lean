/-! dryness: the reference, the step -/
set_option maxRecDepth 100000 in
theorem isIn_1024 : ∀ m, m < 1024 → ∀ k, k < 10 → isInB (nI m) k = m.testBit k := by decide +kernel
theorem isInT {t d : Nat} (ht : t < 1024) (hd : d < 10) {S : Sg} : fX9_isIn (nI t) (nI d) S = some (bI (t.testBit d), S) := by
  rw [isIn_ok, isIn_1024 t ht d hd]
  cases t.testBit d <;> rfl
theorem one_shl11 : ∀ k, k < 11 → nI 1 <<< (nI k &&& nI 31) = nI (2 ^ k) := by decide +kernel
theorem MduA2 {S S' : Sg} {c : Cf} {nw no : Nat} {wd wl od ol : Nat → Nat} {mo : Nat → Bool} {f : Nat → Nat} (h : Md S c nw wd wl no od ol mo) (e : ∀ a j, a ≤ 11 → ¬ (a = 0 ∧ j = 21) → S'.1 a j = S.1 a j) (hf : ∀ d, d < 20 → S'.1 12 d = nI (f d) ∧ f d ≤ 9) : Md S' (uA c f) nw wd wl no od ol mo := by
  obtain ⟨h1, h2, h3, h4, h5, h6, h7, h8, h9, h10, h11, h12, h13, h14, h15⟩ := h
  refine ⟨h1, by rw [e 0 4 (by omega) (by omega)]; exact h2, fun k hk => ?_, h4, by rw [e 0 10 (by omega) (by omega)]; exact h5, fun w hw => ?_, h7, by rw [e 0 13 (by omega) (by omega)]; exact h8, fun o ho => ?_, hf, by rw [e 0 9 (by omega) (by omega)]; exact h11, h12, by rw [e 0 17 (by omega) (by omega)]; exact h13, by rw [e 0 18 (by omega) (by omega)]; exact h14, h15⟩
  · rw [e 4 k (by omega) (by omega), e 5 k (by omega) (by omega), e 7 k (by omega) (by omega)]; exact h3 k hk
  · rw [e 8 w (by omega) (by omega), e 9 w (by omega) (by omega)]; exact h6 w hw
  · rw [e 10 o (by omega) (by omega), e 11 o (by omega) (by omega)]; exact h9 o ho
theorem wts_lp {S : Sg} {x L t : Nat} {a : Nat → Nat} (hx : x ≤ 16) (hL : L ≤ 9) (ht : t < 1024) (h3 : ∀ d, d < 20 → S.1 3 d = nI (a d)) : ∃ S', lp (bX9_drynessOf_26 (nI x) (nI L) (nI t)) fl (lN 1, nI 0) S = some ((lN (wtS x (L + 1) t), nI (L + 1)), S') ∧ (∀ b j, ¬ (b = 12 ∧ j ≤ L) → S'.1 b j = S.1 b j) ∧ ∀ d, d ≤ L → S'.1 12 d = nI (dmS a 0 (L + 1) t d) := by
  obtain ⟨v1, v2⟩ := wide16 x hx
  obtain ⟨r, S', e1, hr, f1, r1⟩ := lp_invF (B := bX9_drynessOf_26 (nI x) (nI L) (nI t)) (fun i r Sx => r = (lN (wtS x i t), nI i) ∧ (∀ b j, ¬ (b = 12 ∧ j ≤ L) → Sx.1 b j = S.1 b j) ∧ ∀ d, d < i → Sx.1 12 d = nI (dmS a 0 (L + 1) t d)) (fun r Sx => r = (lN (wtS x (L + 1) t), nI (L + 1)) ∧ (∀ b j, ¬ (b = 12 ∧ j ≤ L) → Sx.1 b j = S.1 b j) ∧ ∀ d, d < L + 1 → Sx.1 12 d = nI (dmS a 0 (L + 1) t d)) (L + 1) (by omega) (by
    rintro i r Sx hi ⟨hr, hf, hq⟩
    subst hr
    by_cases hin : i < L + 1
    · have ei : ∀ Sy : Sg, fX9_isIn (nI t) (nI i) Sy = some (bI (t.testBit i), Sy) := fun Sy => isInT ht (by omega)
      have w3 : Sx.1 3 i = nI (a i) := by rw [hf 3 i (by omega)]; exact h3 i (by omega)
      have hdm : dmS a 0 (L + 1) t i = if t.testBit i = true then 0 else a i := by
        unfold dmS
        rw [Nat.sub_zero]
        by_cases q : t.testBit i = true
        · rw [if_pos ⟨by omega, by omega, q⟩, if_pos q]
        · rw [if_neg (fun z => q z.2.2), if_neg q]
      refine Or.inl ⟨hin, (lN (wtS x (i + 1) t), nI (i + 1)), sI Sx 12 i (nI (dmS a 0 (L + 1) t i)), fun rec => ?_, rfl, fun b j q => by rw [sI1, if_neg (by omega)]; exact hf b j q, fun d hd => ?_⟩
      · rw [wtS_s, hdm]
        cases hb : t.testBit i with
        | true =>
          rw [hb] at ei
          generalize wtS x i t = W
          simp (disch := omega) only [bX9_drynessOf_26, bdq, gd_ix, lit_0, lit_1, lit_2, lit_3, lit_4, lit_5, lit_6, lit_7, lit_8, lit_9, lit_10, lit_15, lit_16, lit_19, lit_20, lit_31, lit_35, lit_36, lit_48, lit_49, lit_53, lit_55, lit_57, lit_59, lit_60, lit_63, lit_64, lit_97, lit_102, lit_110, lit_160, lit_255, nI_add, ns_sub, ns_div, ns_le, ns_lt, ns_eq, ns_cl, pk_mul, ne10, eq_self, ↓reduceIte, ei, bI_t, v1, lN_mul, show ¬ L < i from by omega]
        | false =>
          rw [hb] at ei
          generalize wtS x i t = W
          simp (disch := omega) only [bX9_drynessOf_26, bdq, gd_ix, lit_0, lit_1, lit_16, nI_add, ns_lt, ns_eq, ns_cl, ne10, eq_self, ei, bI_f, v2, lN_mul, w3, Bool.false_eq_true, show ¬ L < i from by omega, ↓reduceIte]
      · rw [sI1]
        by_cases q : d = i
        · subst q; rw [if_pos ⟨rfl, rfl⟩]
        · rw [if_neg (by omega)]; exact hq d (by omega)
    · have hin2 : i = L + 1 := by omega
      subst hin2
      refine Or.inr ⟨(lN (wtS x (L + 1) t), nI (L + 1)), Sx, fun rec => ?_, rfl, hf, hq⟩
      generalize wtS x (L + 1) t = W
      simp (disch := omega) only [bX9_drynessOf_26, bdq, gd_ix, lit_0, lit_1, lit_2, lit_3, lit_4, lit_5, lit_6, lit_7, lit_8, lit_9, lit_10, lit_15, lit_16, lit_19, lit_20, lit_31, lit_35, lit_36, lit_48, lit_49, lit_53, lit_55, lit_57, lit_59, lit_60, lit_63, lit_64, lit_97, lit_102, lit_110, lit_160, lit_255, nI_add, ns_sub, ns_div, ns_le, ns_lt, ns_eq, ns_cl, pk_mul, ne10, eq_self, ↓reduceIte, show L < L + 1 from by omega]) (lN 1, nI 0) S ⟨rfl, fun _ _ _ => rfl, fun d hd => absurd hd (by omega)⟩
  subst hr
  exact ⟨S', e1, f1, fun d hd => r1 d (by omega)⟩
theorem wtS_le {x : Nat} (hx : x ≤ 16) : ∀ n t, wtS x n t ≤ 16 ^ n
  | 0, _ => Nat.le_refl _
  | n + 1, t => by
    rw [wtS_s, Nat.pow_succ]
    exact Nat.mul_le_mul (wtS_le hx n t) (by split <;> omega)
theorem cmp_le0 {a : Nat} (h : a < 2 ^ 62) : (lg_cmp (lN a) 0 ≤ 0) = (a = 0) := by
  apply propext
  have h0 := cmp_0 h
  by_cases q : a = 0
  · rw [h0.mpr q]
    exact ⟨fun _ => q, fun _ => by decide⟩
  · refine ⟨fun z => ?_, fun z => absurd z q⟩
    exfalso
    unfold lg_cmp at z
    have hg : lN a > 0 := by
      show (0 : Int64) < lN a
      rw [show (0 : Int64) = lN 0 from rfl, pk_lLT (by omega) (by omega)]
      omega
    rw [if_pos hg] at z
    exact absurd z (by decide)
def drT (c : Cf) (x L day : Nat) : Nat → Nat := fun t => wtS x (L + 1) t * bN (stil c (dmS (cA c) 0 (L + 1) t) day 0 (cK c))
theorem sums_lp {S : Sg} {c : Cf} {nw no : Nat} {wd wl od ol : Nat → Nat} {mo : Nat → Bool} {x L day : Nat} (hx : x ≤ 16) (hL : L ≤ 9) (hd : day < 20) (h : Md S c nw wd wl no od ol mo) (h3 : ∀ d, d < 20 → S.1 3 d = nI (cA c d)) : ∃ S', lp (bX9_drynessOf_10 (nI x) (nI L) (nI day)) fl (lN 0, nI 0) S = some ((lN (fb_sm (drT c x L day) (2 ^ (L + 1))), nI (2 ^ (L + 1))), S') ∧ mz S S' := by
  have h8 := h.1
  have hP := h.2.2.2.2.2.2.2.2.2.2.2.2.2.2.2.2
  have hA : ∀ d, d < 20 → cA c d ≤ 9 := fun d hd => (h.2.2.2.2.2.2.2.2.2.1 d hd).2
  have hlim : 2 ^ (L + 1) ≤ 2 ^ 10 := Nat.pow_le_pow_right (by decide) (by omega)
  rw [show (2 : Nat) ^ 10 = 1024 from rfl] at hlim
  have hsh : nI 1 <<< (nI (L + 1) &&& nI 31) = nI (2 ^ (L + 1)) := one_shl11 (L + 1) (by omega)
  generalize hM : 2 ^ (L + 1) = M at hlim hsh
  obtain ⟨r, S', e1, hr, z1⟩ := lp_invF (B := bX9_drynessOf_10 (nI x) (nI L) (nI day)) (fun i r Sx => r = (lN (fb_sm (drT c x L day) i), nI i) ∧ (∀ b j, ¬ (12 ≤ b ∧ b ≤ 17) → ¬ (b = 0 ∧ j = 21) → Sx.1 b j = S.1 b j) ∧ ∀ d, d < 20 → L < d → Sx.1 12 d = nI (cA c d)) (fun r Sx => r = (lN (fb_sm (drT c x L day) M), nI M) ∧ mz S Sx) M (by omega) (by
    rintro i r Sx hi ⟨hr, hf, hq⟩
    subst hr
    by_cases hin : i < M
    · obtain ⟨S2, e2, f2, r2⟩ := wts_lp (S := Sx) (x := x) (L := L) (t := i) (a := cA c) hx hL (by omega) (fun d hd => by rw [hf 3 d (by omega) (by omega)]; exact h3 d hd)
      have hw := wtS_le hx (L + 1) i
      have hw2 : 16 ^ (L + 1) ≤ 16 ^ 10 := Nat.pow_le_pow_right (by decide) (by omega)
      have hsum : fb_sm (drT c x L day) (i + 1) = fb_sm (drT c x L day) i + wtS x (L + 1) i * bN (stil c (dmS (cA c) 0 (L + 1) i) day 0 (cK c)) := rfl
      have hc0 := cmp_le0 (a := wtS x (L + 1) i) (by omega)
      have hg : ∀ d, d < 20 → S2.1 12 d = nI (dmS (cA c) 0 (L + 1) i d) ∧ dmS (cA c) 0 (L + 1) i d ≤ 9 := fun d hd => by
        have hle : dmS (cA c) 0 (L + 1) i d ≤ 9 := by
          unfold dmS
          split
          · omega
          · exact hA d hd
        refine ⟨?_, hle⟩
        by_cases q : d ≤ L
        · exact r2 d q
        · rw [f2 12 d (by omega), hq d hd (by omega)]
          unfold dmS
          rw [if_neg (by omega)]
      have m2 := MduA2 h (S' := S2) (f := dmS (cA c) 0 (L + 1) i) (fun b j q1 q2 => by rw [f2 b j (by omega)]; exact hf b j (by omega) (by omega)) hg
      obtain ⟨S3, e3, f3, -, d3⟩ := runs_ok m2
      have w15 := (d3 day hd).1
      have hst : stil c (dmS (cA c) 0 (L + 1) i) day 0 (cK c) = !exB (fun k => up (uA c (dmS (cA c) 0 (L + 1) i)) day k) (cN c) := stil_up
      have hz15 : (pb (up (uA c (dmS (cA c) 0 (L + 1) i)) day) = nI 0) ↔ stil c (dmS (cA c) 0 (L + 1) i) day 0 (cK c) = true := by
        rw [hst, Bool.not_eq_true', exB_false, pb_eq0]
        constructor
        · intro z k hk
          exact z k (by omega)
        · intro z k _
          by_cases hk : k < cN c
          · exact z k hk
          · cases q : up (uA c (dmS (cA c) 0 (L + 1) i)) day k with
            | false => rfl
            | true => exact absurd (hP k (up_P (c := uA c (dmS (cA c) 0 (L + 1) i)) q)) hk
      by_cases hw0 : wtS x (L + 1) i = 0
      · refine Or.inl ⟨hin, (lN (fb_sm (drT c x L day) (i + 1)), nI (i + 1)), S2, fun rec => ?_, rfl, fun b j q1 q2 => by rw [f2 b j (by omega)]; exact hf b j q1 q2, fun d hd2 hl => by rw [f2 12 d (by omega)]; exact hq d hd2 hl⟩
        rw [hsum, hw0, Nat.zero_mul, Nat.add_zero]
        rw [hw0] at e2 hc0
        generalize fb_sm (drT c x L day) i = V
        have hc1 : lg_cmp (lN 0) 0 ≤ 0 := by decide
        unfold bX9_drynessOf_10
        dsimp only
        rw [lit_1, nI_add, show ((31 : Int32)) = nI 31 from rfl, hsh, if_neg (by rw [ns_le (by omega) (by omega)]; omega), lit_0, litL_1, e2, bd_some]
        dsimp only
        rw [← lit_0, if_pos hc1, bd_some, nI_add]
      · have hnle : ¬ lg_cmp (lN (wtS x (L + 1) i)) 0 ≤ 0 := by rw [hc0]; exact hw0
        refine Or.inl ⟨hin, (lN (fb_sm (drT c x L day) (i + 1)), nI (i + 1)), S3, fun rec => ?_, rfl, fun b j q1 q2 => by rw [f3.1 b j (by omega) q2, f2 b j (by omega)]; exact hf b j q1 q2, fun d hd2 hl => by rw [f3.1 12 d (by omega) (by omega), f2 12 d (by omega)]; exact hq d hd2 hl⟩
        rw [hsum]
        generalize fb_sm (drT c x L day) i = V
        generalize pb (up (uA c (dmS (cA c) 0 (L + 1) i)) day) = P at w15 hz15
        have et : (if S3.1 15 day = 0 then some (lN (wtS x (L + 1) i), S3) else some ((0 : Int64), S3)) = some (lN (wtS x (L + 1) i * bN (stil c (dmS (cA c) 0 (L + 1) i) day 0 (cK c))), S3) := by
          cases q : stil c (dmS (cA c) 0 (L + 1) i) day 0 (cK c) with
          | true =>
            have z : S3.1 15 day = 0 := w15.trans (hz15.mpr q)
            rw [if_pos z, show bN true = 1 from rfl, Nat.mul_one]
          | false =>
            have z : ¬ S3.1 15 day = 0 := fun y => by
              have : P = nI 0 := w15.symm.trans y
              rw [hz15.mp this] at q; cases q
            rw [if_neg z, show bN false = 0 from rfl, Nat.mul_zero]; rfl
        unfold bX9_drynessOf_10
        dsimp only
        rw [lit_1, nI_add, show ((31 : Int32)) = nI 31 from rfl, hsh, if_neg (by rw [ns_le (by omega) (by omega)]; omega), lit_0, litL_1, e2, bd_some]
        dsimp only
        rw [← lit_0, if_neg hnle, e3, bd_some, gd_ix hd (by omega), ns_cl (by omega), et, bd_some, bd_some, lN_add, nI_add]
    · have hin2 : i = M := by omega
      subst hin2
      refine Or.inr ⟨(lN (fb_sm (drT c x L day) i), nI i), Sx, fun rec => ?_, rfl, fun b j q1 q2 q3 q4 q5 => hf b j (by omega) (by omega)⟩
      generalize fb_sm (drT c x L day) i = V
      unfold bX9_drynessOf_10
      dsimp only
      rw [lit_1, nI_add, show ((31 : Int32)) = nI 31 from rfl, hsh, if_pos (by rw [ns_le (by omega) (by omega)]; omega)]) (lN 0, nI 0) S ⟨rfl, fun _ _ _ _ => rfl, fun d hd2 _ => (h.2.2.2.2.2.2.2.2.2.1 d hd2).1⟩
  subst hr
  exact ⟨S', e1, z1⟩
