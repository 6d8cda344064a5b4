/-! chalk -/
def ckP (A : Ab) (k : Nat) : Nat → Bool := fun v => decide (1 ≤ v) && sk (uK (cfg A) k v) (sgn A) (aS A)
theorem Stl_uK {t : Nat} {S : Sg} {c : Cf} {p : Nat → Bool} {k v : Nat} (h : Stl t S (uP c p)) : Stl t S (uP (uK c k v) p) := h
theorem Bd_uP {t : Nat} {S : Sg} {c : Cf} {p : Nat → Bool} (h : Bd t S c) : Bd t S (uP c p) := h
theorem uK_on {c : Cf} (hP : ∀ j, cP c j = decide (j < cN c)) {k v x : Nat} : mtX c x = onX (uK c k v) x := by
  funext j
  show mtX c x j = (cP c j && (cC c j == x))
  unfold mtX
  rw [hP j]
theorem sr_uK1 {c : Cf} (hP : ∀ j, cP c j = decide (j < cN c)) {G : Nat → Nat} {k v d x : Nat} : sr (uP (uK c k v) (mtX c x)) G d x = sr (uK c k v) G d x := by
  have hPn : ∀ j, cP (uK c k v) j = true → j < cN (uK c k v) := fun j h => by
    have h2 : cP c j = true := h
    rw [hP j] at h2
    exact of_decide_eq_true h2
  rw [uK_on hP (k := k) (v := v)]
  exact sr_cell (c := uK c k v) hPn
theorem sr_uK0 {c : Cf} (hP : ∀ j, cP c j = decide (j < cN c)) {G : Nat → Nat} {k v d y : Nat} (hy : ¬ y = cC c k) : sr c G d y = sr (uK c k v) G d y := by
  have hPn : ∀ j, cP c j = true → j < cN c := fun j h => by rw [hP j] at h; exact of_decide_eq_true h
  refine sr_other (c := c) (e := uK c k v) rfl rfl rfl rfl rfl (fun _ => rfl) (x := cC c k) (fun _ _ _ => rfl) (fun j _ hj => ?_) (fun _ _ => rfl) hPn hPn (fun _ _ _ => rfl) hy
  show cK c j = (if j = k then v else cK c j)
  rw [if_neg (fun q => hj (by rw [q]))]
/-- follow in the trial, with another chalk -/
theorem followK_ok {S : Sg} {A : Ab} {c : Cf} {p : Nat → Bool} (h : RF S A) (hB : Bd 24 S c) (hS : Stl 24 S (uP c p)) (hA : cA c = cA (cfg A)) (hF : cF c = cF (cfg A)) (hp : ∀ k, p k = true → k < cN c) : ∃ S', fX3_follow 33 24 5 (S.1 0 15) S = some ((), S') ∧ fr 34 35 S S' ∧ ∀ d, d < 20 → S'.1 (33 + 1) d = ps (fun k => up (uP c p) d k) := by
  have h5 : ∀ d, d < 20 → S.1 5 d = nI (cA (uP c p) d) ∧ cA (uP c p) d ≤ 9 := fun d hd => by
    show S.1 5 d = nI (cA c d) ∧ cA c d ≤ 9
    rw [hA]
    exact ⟨h.2.2.2.2.2.2.1 d hd, tA_le⟩
  have hF9 : cF (uP c p) ≤ 9 := by
    show cF c ≤ 9
    rw [hF]
    exact h.1.2.2.1.1
  obtain ⟨S2, e2, f2, r2⟩ := follow_ok (t := 24) (tc := 33) (td := 5) (c := uP c p) (Bd_uP hB) hS hp h5 hF9 (by omega) (by omega)
  refine ⟨S2, ?_, f2, fun d hd => (r2 d hd).1⟩
  have e15 : S.1 0 15 = nI (cF (uP c p)) := by
    show _ = nI (cF c)
    rw [hF]
    exact h.1.2.2.1.2
  rw [e15]
  exact e2
theorem chalkC_ok {S : Sg} {A : Ab} (h : RC S A) {k : Nat} (hk : k < cN (cfg A)) : ∃ S', fX8_chalk (nI k) S = some (pbX (fun v => decide (v < 10) && ckP A k v), S') ∧ RF S' A := by
  obtain ⟨S1, e1, h1⟩ := bring_ok h
  have h8 := cfg_8 h.1
  have hx := (cfg_rng hk).2.1
  have e14 : S1.1 14 k = nI (cC (cfg A) k) := (h1.2.2.1.2.2 k hk).2.2.1
  obtain ⟨S2, e3, f3, b3, g3⟩ := trial_ok h1
  have h2 := h1.scr (f3.scr (by omega))
  have e4 : fX0_onCell 24 (nI (cC (cfg A) k)) S2 = some (ps (mtX (cfg A) (cC (cfg A) k)), S2) := onCell_ok (t := 24) b3 hx
  obtain ⟨S3, -, e5, -, f5, -⟩ := trialRun_ok h2 b3 (p := mtX (cfg A) (cC (cfg A) k)) rfl rfl rfl rfl (fun j hj => (mtX_n hj).1)
  have s5 : Stl 24 S3 (uP (cfg A) (mtX (cfg A) (cC (cfg A) k))) := by
    obtain ⟨S4, q1, q2, q3⟩ := settle_ok (t := 24) (c := uP (cfg A) (mtX (cfg A) (cC (cfg A) k))) (by omega) (Bd_uP b3) h2.1.2.2.2.1 ⟨fun _ _ => rfl, fun _ _ => rfl, fun j hj => (mtX_n hj).1⟩
    have e : fX0_settle 24 (ps (mtX (cfg A) (cC (cfg A) k))) S2 = some ((), S4) := q1
    rw [e5] at e
    have : S3 = S4 := (Prod.mk.inj (Option.some.inj e)).2
    rw [this]
    exact q3
  obtain ⟨p, hp⟩ : ∃ p : Nat → Bool, p = ckP A k := ⟨_, rfl⟩
  have hp0 : p 0 = false := by rw [hp]; rfl
  rw [← hp]
  obtain ⟨a, S6, e6, ha, z6⟩ := lp_inv (B := bX8_chalk_60 (nI k) (nI (cC (cfg A) k))) (fun i a Sx => 1 ≤ i ∧ a = (pbX (fun k => decide (k < i) && p k), nI i) ∧ scr S1 Sx ∧ BdK Sx (cfg A) k ∧ sgB 24 Sx (cfg A) (sgn A) ∧ Stl 24 Sx (uP (cfg A) (mtX (cfg A) (cC (cfg A) k)))) (fun a Sx => a = (pbX (fun k => decide (k < 10) && p k), nI 10) ∧ scr S1 Sx) 10 (by
    rintro i a Sx hi ⟨hi1, ha, hz, hb, hg, hs⟩
    subst ha
    by_cases hin : i < 10
    · have hz3 : scr S1 (sI Sx 28 k (nI i)) := hz.I (by omega)
      have hx3 := h1.scr hz3
      have b4 : Bd 24 (sI Sx 28 k (nI i)) (uK (cfg A) k i) := hb.set ⟨hi1, by omega⟩
      have s4 : Stl 24 (sI Sx 28 k (nI i)) (uP (cfg A) (mtX (cfg A) (cC (cfg A) k))) := ⟨fun j hj hq => by rw [sI1, if_neg (by omega)]; exact hs.1 j hj hq, fun d hd => by rw [sI1, if_neg (by omega), sI1, if_neg (by omega), sI1, if_neg (by omega)]; exact hs.2 d hd⟩
      obtain ⟨S7, e7, f7, r7⟩ := followK_ok (c := uK (cfg A) k i) (p := mtX (cfg A) (cC (cfg A) k)) hx3 b4 (Stl_uK s4) fx_uK.2.2.1 fx_uK.2.2.2 (fun j hj => by rw [cN_uK]; exact (mtX_n hj).1)
      have hx7 := hx3.scr (f7.scr (by omega))
      have b7 : Bd 24 S7 (uK (cfg A) k i) := b4.fr f7 (by omega)
      have g7 : sgB 24 S7 (cfg A) (sgn A) := fun j hj => by rw [f7.1 (24 + 3) j (by omega), sI1, if_neg (by omega)]; exact hg j hj
      have e8 : fX8_agrees 24 33 (nI (cC (cfg A) k)) S7 = some (bI (p i), S7) := by
        have hpi : p i = sk (uK (cfg A) k i) (sgn A) (aS A) := by rw [hp]; unfold ckP; rw [decide_eq_true hi1, Bool.true_and]
        rw [hpi]
        exact agrees_ok (N := aS A) (f := fun d y => sr (uK (cfg A) k i) (sgn A) d y) hx7.1.2.2.2.2.1 hx (fun d y => sr_le (c := uK (cfg A) k i) cfg_g5) (fun d hd => by
          rw [r7 d hd, signRisen_ok (t := 24) (c := uP (uK (cfg A) k i) (mtX (cfg A) (cC (cfg A) k))) (b := uK (cfg A) k i) b7 rfl (fun _ _ => rfl) g7 hx, sr_uK1 cfg_dec]) (fun d y hd hy hne => by
          rw [signT_ok hx7 hd hy, sr_uK0 cfg_dec hne])
      refine Or.inl ⟨hin, (pbX (fun k => decide (k < i + 1) && p k), nI (i + 1)), S7, fun rec => ?_, by omega, rfl, hz3.tr (f7.scr (by omega)), hb.kp (fun b j q1 q2 q3 => by rw [f7.1 b j (by omega), sI1, if_neg (by omega)]), g7, ⟨fun j hj hq => by rw [f7.1 (24 + 5) j (by omega)]; exact s4.1 j hj hq, fun d hd => by rw [f7.1 (24 + 6) d (by omega), f7.1 (24 + 7) d (by omega), f7.1 (24 + 8) d (by omega)]; exact s4.2 d hd⟩⟩
      cases hq : p i with
      | true =>
        have ha := pbX_add (p := p) (show i < 10 by omega) hq
        rw [hq] at e8
        generalize pbX (fun k => decide (k < i + 1) && p k) = Z at ha ⊢
        generalize pbX (fun k => decide (k < i) && p k) = Y at ha ⊢
        simp (disch := omega) only [bX8_chalk_60, bdq, gd_ix, lit_0, lit_1, lit_2, lit_3, lit_4, lit_5, lit_6, lit_7, lit_8, lit_9, lit_10, lit_15, lit_16, lit_19, lit_20, lit_31, lit_35, lit_36, lit_48, lit_49, lit_53, lit_55, lit_57, lit_59, lit_60, lit_63, lit_64, lit_97, lit_102, lit_110, lit_160, lit_255, nI_add, ns_sub, ns_div, ns_le, ns_lt, ns_eq, ns_cl, pk_mul, ne10, eq_self, ↓reduceIte, e7, e8, bI_t, ha, show ¬ 9 < i from by omega]
      | false =>
        rw [← pbX_skipC (p := p) hq]
        rw [hq] at e8
        generalize pbX (fun k => decide (k < i) && p k) = Y
        simp (disch := omega) only [bX8_chalk_60, bdq, gd_ix, lit_0, lit_1, lit_2, lit_3, lit_4, lit_5, lit_6, lit_7, lit_8, lit_9, lit_10, lit_15, lit_16, lit_19, lit_20, lit_31, lit_35, lit_36, lit_48, lit_49, lit_53, lit_55, lit_57, lit_59, lit_60, lit_63, lit_64, lit_97, lit_102, lit_110, lit_160, lit_255, nI_add, ns_sub, ns_div, ns_le, ns_lt, ns_eq, ns_cl, pk_mul, ne10, eq_self, ↓reduceIte, e7, e8, bI_f, show ¬ 9 < i from by omega]
    · have hin2 : i = 10 := by omega
      subst hin2
      refine Or.inr ⟨(pbX (fun k => decide (k < 10) && p k), nI 10), Sx, fun rec => ?_, rfl, hz⟩
      generalize pbX (fun k => decide (k < 10) && p k) = Y
      simp (disch := omega) only [bX8_chalk_60, bdq, gd_ix, lit_0, lit_1, lit_2, lit_3, lit_4, lit_5, lit_6, lit_7, lit_8, lit_9, lit_10, lit_15, lit_16, lit_19, lit_20, lit_31, lit_35, lit_36, lit_48, lit_49, lit_53, lit_55, lit_57, lit_59, lit_60, lit_63, lit_64, lit_97, lit_102, lit_110, lit_160, lit_255, nI_add, ns_sub, ns_div, ns_le, ns_lt, ns_eq, ns_cl, pk_mul, ne10, eq_self, ↓reduceIte, show 9 < 10 from by omega]) fl 1 (nI 0, nI 1) S3 (by omega) (by show 10 < 1 + 4096; omega) ⟨by omega, by
        rw [pbX_0 (p := fun k => decide (k < 1) && p k) (fun k _ => by
          by_cases q : k = 0
          · subst q; rw [hp0]; rfl
          · simp [show ¬ k < 1 by omega])], (f3.scr (by omega)).tr (f5.scr (by omega)), (BdK.of b3).kp (fun b j q1 q2 q3 => f5.1 b j (by omega)), fun j hj => by rw [f5.1 (24 + 3) j (by omega)]; exact g3 j hj, s5⟩
  subst ha
  refine ⟨S6, ?_, h1.scr z6⟩
  unfold fX8_chalk
  rw [e1, bd_some, cStroke_y h1 hk, bd_some, if_neg (by decide), gd_ix (by omega) (by omega), e3, bd_some, ns_cl (by omega), e14, e4, bd_some, e5, bd_some, lit_0, lit_1, e6, bd_some]
theorem chalkM_ok {S : Sg} {A : Ab} (h : RM S A) {k : Nat} (hk : k < cN (cfg A)) : ∃ S', fX9_chalkOf (nI k) S = some (pbX (fun v => decide (v < 10) && ckP A k v), S') ∧ mz S S' ∧ Rr S' A := by
  have h8 := cfg_8m h
  obtain ⟨S1, e1, z1, r1, m1⟩ := asTold_ok h
  have hM1 := h.mz z1
  obtain ⟨p, hp⟩ : ∃ p : Nat → Bool, p = ckP A k := ⟨_, rfl⟩
  have hp0 : p 0 = false := by rw [hp]; rfl
  rw [← hp]
  obtain ⟨a, S3, e2, ha, z2⟩ := lp_inv (B := bX9_chalkOf_16 (nI k)) (fun i a Sx => 1 ≤ i ∧ a = (pbX (fun k => decide (k < i) && p k), nI i) ∧ (∀ a j, ¬ (13 ≤ a ∧ a ≤ 17) → ¬ (a = 0 ∧ j = 21) → ¬ (a = 7 ∧ j = k) → Sx.1 a j = S1.1 a j) ∧ MdA (sI Sx 7 k (nI (cK (cfg A) k))) (cfg A) A (fun _ => false)) (fun a Sx => a = (pbX (fun k => decide (k < 10) && p k), nI 10) ∧ ∀ a j, ¬ (13 ≤ a ∧ a ≤ 17) → ¬ (a = 0 ∧ j = 21) → ¬ (a = 7 ∧ j = k) → Sx.1 a j = S1.1 a j) 10 (by
    rintro i a Sx hi ⟨hi1, ha, hz, hm⟩
    subst ha
    by_cases hin : i < 10
    · have m3 : MdA (sI Sx 7 k (nI i)) (uK (cfg A) k i) A (fun _ => false) := MdK.set hm ⟨hi1, by omega⟩
      obtain ⟨S4, e4, f4⟩ := isSeen_ok (c := uK (cfg A) k i) (G := sgn A) (N := aS A) m3 (fun j hj => by
        have hj2 : j < cN (cfg A) := hj
        rw [sI1, if_neg (by omega), hz 6 j (by omega) (by omega) (by omega)]; exact (r1.2.2.2 j hj2).2.2.1) cfg_g5 (hM1.2.2.2.2.1.kp (fun b j q => by rw [sI1, if_neg (by omega), hz b j (by omega) (by omega) (by omega)]))
      have e5 : sk (uK (cfg A) k i) (sgn A) (aS A) = p i := by rw [hp]; unfold ckP; rw [decide_eq_true hi1, Bool.true_and]
      rw [e5] at e4
      refine Or.inl ⟨hin, (pbX (fun k => decide (k < i + 1) && p k), nI (i + 1)), S4, fun rec => ?_, by omega, rfl, fun b j q1 q2 q3 => ?_, MdK.go hm f4⟩
      · cases hq : p i with
        | true =>
          have ha := pbX_add (p := p) (show i < 10 by omega) hq
          rw [hq] at e4
          generalize pbX (fun k => decide (k < i + 1) && p k) = Z at ha ⊢
          generalize pbX (fun k => decide (k < i) && p k) = Y at ha ⊢
          simp (disch := omega) only [bX9_chalkOf_16, bdq, gd_ix, lit_0, lit_1, lit_2, lit_3, lit_4, lit_5, lit_6, lit_7, lit_8, lit_9, lit_10, lit_15, lit_16, lit_19, lit_20, lit_31, lit_35, lit_36, lit_48, lit_49, lit_53, lit_55, lit_57, lit_59, lit_60, lit_63, lit_64, lit_97, lit_102, lit_110, lit_160, lit_255, nI_add, ns_sub, ns_div, ns_le, ns_lt, ns_eq, ns_cl, pk_mul, ne10, eq_self, ↓reduceIte, e4, bI_t, ha, show ¬ 10 ≤ i from by omega]
        | false =>
          have ha := pbX_skip (p := p) hq
          rw [hq] at e4
          generalize pbX (fun k => decide (k < i + 1) && p k) = Z at ha ⊢
          generalize pbX (fun k => decide (k < i) && p k) = Y at ha ⊢
          simp (disch := omega) only [bX9_chalkOf_16, bdq, gd_ix, lit_0, lit_1, lit_2, lit_3, lit_4, lit_5, lit_6, lit_7, lit_8, lit_9, lit_10, lit_15, lit_16, lit_19, lit_20, lit_31, lit_35, lit_36, lit_48, lit_49, lit_53, lit_55, lit_57, lit_59, lit_60, lit_63, lit_64, lit_97, lit_102, lit_110, lit_160, lit_255, nI_add, ns_sub, ns_div, ns_le, ns_lt, ns_eq, ns_cl, pk_mul, ne10, eq_self, ↓reduceIte, e4, bI_f, ha, show ¬ 10 ≤ i from by omega]
      · have := f4.1 b j q1 q2
        rw [sI1, if_neg q3] at this
        rw [this]
        exact hz b j q1 q2 q3
    · have hin2 : i = 10 := by omega
      subst hin2
      refine Or.inr ⟨(pbX (fun k => decide (k < 10) && p k), nI 10), Sx, fun rec => ?_, rfl, hz⟩
      generalize pbX (fun k => decide (k < 10) && p k) = Y
      simp (disch := omega) only [bX9_chalkOf_16, bdq, gd_ix, lit_0, lit_1, lit_2, lit_3, lit_4, lit_5, lit_6, lit_7, lit_8, lit_9, lit_10, lit_15, lit_16, lit_19, lit_20, lit_31, lit_35, lit_36, lit_48, lit_49, lit_53, lit_55, lit_57, lit_59, lit_60, lit_63, lit_64, lit_97, lit_102, lit_110, lit_160, lit_255, nI_add, ns_sub, ns_div, ns_le, ns_lt, ns_eq, ns_cl, pk_mul, ne10, eq_self, ↓reduceIte, Nat.le_refl]) fl 1 (nI 0, nI 1) S1 (by omega) (by show 10 < 1 + 4096; omega) ⟨by omega, by
        rw [pbX_0 (p := fun k => decide (k < 1) && p k) (fun k _ => by
          by_cases q : k = 0
          · subst q; rw [hp0]; rfl
          · simp [show ¬ k < 1 by omega])], fun _ _ _ _ _ => rfl, MdK.st m1 hk⟩
  subst ha
  have g : ∀ b j, ¬ (13 ≤ b ∧ b ≤ 17) → ¬ (b = 0 ∧ j = 21) → (sI S3 7 k (S1.1 7 k)).1 b j = S1.1 b j := fun b j q1 q2 => by
    rw [sI1]
    by_cases q : b = 7 ∧ j = k
    · rw [if_pos q, q.1, q.2]
    · rw [if_neg q]; exact z2 b j q1 q2 q
  refine ⟨sI S3 7 k (S1.1 7 k), ?_, z1.tr (fun b j q1 q2 q3 q4 q5 => g b j (by omega) (by omega)), ?_⟩
  · unfold fX9_chalkOf
    rw [e1, bd_some, gd_ix (by omega) (by omega), lit_0, lit_1, e2, bd_some, gd_ix (by omega) (by omega), ns_cl (by omega)]
  · obtain ⟨q1, q2, q3, q4⟩ := r1
    refine ⟨by rw [g 0 2 (by omega) (by omega)]; exact q1, by rw [g 0 4 (by omega) (by omega)]; exact q2, fun d hd => by rw [g 3 d (by omega) (by omega)]; exact q3 d hd, fun j hj => ?_⟩
    rw [g 4 j (by omega) (by omega), g 5 j (by omega) (by omega), g 6 j (by omega) (by omega), g 7 j (by omega) (by omega)]
    exact q4 j hj
theorem stp_chalk_ok : stp_chalk Inv := by
  rintro Sc Sm x1 ⟨A, hC, hM⟩
  obtain ⟨S2, z2, r2, y2, n2⟩ := mStroke_ok hM x1
  by_cases g1 : rg x1 (cN (cfg A))
  · have e2 := y2 g1
    obtain ⟨k, hk, rfl⟩ := g1
    obtain ⟨S1, e1, h1⟩ := chalkC_ok hC hk
    obtain ⟨S3, e3, z3, -⟩ := chalkM_ok (hM.mz z2) hk
    refine ⟨_, S1, S3, e1, ?_, A, h1.c, (hM.mz z2).mz z3⟩
    unfold fX9_chalk
    rw [e2, bd_some, if_neg (by decide), e3, bd_some]
  · obtain ⟨S1, e1, h1⟩ := bring_ok hC
    refine ⟨-nI 2, S1, S2, ?_, ?_, A, h1.c, hM.mz z2⟩
    · unfold fX8_chalk
      simp (disch := omega) only [e1, cStroke_n h1 g1, bdq, gd_ix, lit_0, lit_1, lit_2, lit_3, lit_4, lit_5, lit_6, lit_7, lit_8, lit_9, lit_10, lit_15, lit_16, lit_19, lit_20, lit_31, lit_35, lit_36, lit_48, lit_49, lit_53, lit_55, lit_57, lit_59, lit_60, lit_63, lit_64, lit_97, lit_102, lit_110, lit_160, lit_255, nI_add, ns_sub, ns_div, ns_le, ns_lt, ns_eq, ns_cl, pk_mul, ne10, eq_self, ↓reduceIte]
    · unfold fX9_chalk
      simp (disch := omega) only [n2 g1, bdq, gd_ix, lit_0, lit_1, lit_2, lit_3, lit_4, lit_5, lit_6, lit_7, lit_8, lit_9, lit_10, lit_15, lit_16, lit_19, lit_20, lit_31, lit_35, lit_36, lit_48, lit_49, lit_53, lit_55, lit_57, lit_59, lit_60, lit_63, lit_64, lit_97, lit_102, lit_110, lit_160, lit_255, nI_add, ns_sub, ns_div, ns_le, ns_lt, ns_eq, ns_cl, pk_mul, ne10, eq_self, ↓reduceIte]
