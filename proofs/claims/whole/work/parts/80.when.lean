/-! when, dry -/
/-- the strokes on the cell of k -/
def mtX (c : Cf) (x : Nat) : Nat → Bool := fun j => decide (j < cN c) && (cC c j == x)
theorem mtX_n {c : Cf} {x j : Nat} (h : mtX c x j = true) : j < cN c ∧ cC c j = x := by
  unfold mtX at h
  simpa using h
theorem mtX_no {c : Cf} {x j : Nat} (h : mtX c x j = false) (hj : j < cN c) : ¬ cC c j = x := by
  intro q
  have : mtX c x j = true := by unfold mtX; simp [hj, q]
  rw [this] at h; cases h
def outX (c : Cf) (X : Nat → Bool) : Nat → Bool := fun j => decide (j < cN c) && !X j
theorem outX_n {c : Cf} {X : Nat → Bool} {j : Nat} (h : outX c X j = true) : j < cN c ∧ X j = false := by
  unfold outX at h
  simpa using h
theorem outX_no {c : Cf} {X : Nat → Bool} {j : Nat} (h : outX c X j = false) (hj : j < cN c) : X j = true := by
  cases q : X j with
  | true => rfl
  | false =>
    have : outX c X j = true := by unfold outX; simp [hj, q]
    rw [this] at h; cases h
theorem fx_uD {c : Cf} {k d : Nat} : cW (uD c k d) = cW c ∧ cO (uD c k d) = cO c ∧ cA (uD c k d) = cA c ∧ cF (uD c k d) = cF c := ⟨rfl, rfl, rfl, rfl⟩
theorem cN_uD {c : Cf} {k d : Nat} : cN (uD c k d) = cN c := rfl
theorem fx_uC {c : Cf} {k d : Nat} : cW (uC c k d) = cW c ∧ cO (uC c k d) = cO c ∧ cA (uC c k d) = cA c ∧ cF (uC c k d) = cF c := ⟨rfl, rfl, rfl, rfl⟩
theorem cN_uC {c : Cf} {k d : Nat} : cN (uC c k d) = cN c := rfl
theorem fx_uK {c : Cf} {k d : Nat} : cW (uK c k d) = cW c ∧ cO (uK c k d) = cO c ∧ cA (uK c k d) = cA c ∧ cF (uK c k d) = cF c := ⟨rfl, rfl, rfl, rfl⟩
theorem cN_uK {c : Cf} {k d : Nat} : cN (uK c k d) = cN c := rfl
theorem when_sum {c : Cf} (hP : ∀ j, cP c j = decide (j < cN c)) {k d : Nat} : allU (uD c k d) = aY c (fun j => !mtX c (cC c k) j) + allU (uP (uD c k d) (mtX c (cC c k))) := by
  have hPn : ∀ j, cP c j = true → j < cN c := fun j h => by rw [hP] at h; exact of_decide_eq_true h
  have hPy : ∀ j, j < cN c → cP c j = true := fun j h => by rw [hP]; exact decide_eq_true h
  have e1 : allU (uP (uD c k d) (mtX c (cC c k))) = aY (uD c k d) (mtX c (cC c k)) := allU_in (c := uD c k d) (fun j h => hPy j (mtX_n h).1) (fun j h => (mtX_n h).1) (fun a j ha hj hz _ q => mtX_no hz hj (q.trans (mtX_n ha).2))
  have e2 : aY (uD c k d) (fun j => !mtX c (cC c k) j) = aY (uD c k d) (outX c (mtX c (cC c k))) := aY_cong (c := uD c k d) (fun j hj _ => by
    have hj2 : j < cN c := hj
    unfold outX; simp [hj2]) hPn
  have hcl : ∀ a j, outX c (mtX c (cC c k)) a = true → j < cN c → outX c (mtX c (cC c k)) j = false → ¬ cC c j = cC c a := fun a j ha hj hz q => by
    have h1 := (mtX_n (outX_no hz hj)).2
    exact mtX_no (outX_n ha).2 (outX_n ha).1 (q.symm.trans h1)
  have e3 : allU (uP (uD c k d) (outX c (mtX c (cC c k)))) = aY (uD c k d) (outX c (mtX c (cC c k))) := allU_in (c := uD c k d) (fun j h => hPy j (outX_n h).1) (fun j h => (outX_n h).1) (fun a j ha hj hz _ => hcl a j ha hj hz)
  have e4 : allU (uP c (outX c (mtX c (cC c k)))) = aY c (outX c (mtX c (cC c k))) := allU_in (fun j h => hPy j (outX_n h).1) (fun j h => (outX_n h).1) (fun a j ha hj hz _ => hcl a j ha hj hz)
  have e5 : allU (uP (uD c k d) (outX c (mtX c (cC c k)))) = allU (uP c (outX c (mtX c (cC c k)))) := allU_agree (c := uD c k d) (e := c) rfl rfl rfl rfl rfl (fun j h => by
    show (if j = k then d else cD c j) = cD c j
    rw [if_neg]
    intro q
    subst q
    exact mtX_no (outX_n h).2 (outX_n h).1 rfl) (fun _ _ => rfl) (fun _ _ => rfl) (fun j h => (outX_n h).1)
  have e6 : aY c (fun j => !mtX c (cC c k) j) = aY c (outX c (mtX c (cC c k))) := aY_cong (fun j hj _ => by unfold outX; simp [hj]) hPn
  rw [aY_split (c := uD c k d) (Y := mtX c (cC c k)), e1, e2, ← e3, e5, e4, e6]
  omega
theorem cfg_dec {A : Ab} (j : Nat) : cP (cfg A) j = decide (j < cN (cfg A)) := rfl
theorem aY_le {c : Cf} {Y : Nat → Bool} : aY c Y ≤ 160 := fb_sm_bound (c := 8) (n := 20) (fun d _ => fb_ct_le _ _)
theorem seekDay_ok {S : Sg} {A : Ab} (h : RF S A) {k : Nat} (hk : k < cN (cfg A)) : ∃ S', fX8_seekDay (nI k) S = some ((), S') ∧ RF S' A ∧ fwI S' (fun d => allU (uD (cfg A) k d)) 20 := by
  have h8 := cfg_8 h.1
  have hx := (cfg_rng hk).2.1
  obtain ⟨f, hf⟩ : ∃ f : Nat → Nat, (fun d => allU (uD (cfg A) k d)) = f := ⟨_, rfl⟩
  have hf1 : ∀ d, f d ≤ 1000 := fun d => by rw [← hf]; exact Nat.le_trans allU_le (by omega)
  rw [hf]
  have e14 : S.1 14 k = nI (cC (cfg A) k) := (h.2.2.1.2.2 k hk).2.2.1
  have e1 := onCell_ok (t := 12) h.2.2.1 hx
  have e2 : fX3_upsOf 21 (ps (mtX (cfg A) (cC (cfg A) k)) ^^^ (-1)) S = some (nI (aY (cfg A) (fun j => !mtX (cfg A) (cC (cfg A) k) j)), S) := upsC_ok (t := 21) (p := fun d j => up (cfg A) d j && !mtX (cfg A) (cC (cfg A) k) j) (fun d hd => by rw [fr_risen h hd, ps_sub])
  obtain ⟨S1, e3, f3, b3, g3⟩ := trial_ok h
  obtain ⟨S2, e4, f4, w4⟩ := begin_ok (S := S1) (f := f)
  have hE := aY_le (c := cfg A) (Y := fun j => !mtX (cfg A) (cC (cfg A) k) j)
  have hsum : ∀ d, aY (cfg A) (fun j => !mtX (cfg A) (cC (cfg A) k) j) + allU (uP (uD (cfg A) k d) (mtX (cfg A) (cC (cfg A) k))) = f d := fun d => by
    rw [← hf]; exact (when_sum cfg_dec).symm
  generalize aY (cfg A) (fun j => !mtX (cfg A) (cC (cfg A) k) j) = E at e2 hE hsum
  obtain ⟨a, S3, e5, ha, z5, w5⟩ := lp_invF (B := bX8_seekDay_52 (nI k) (ps (mtX (cfg A) (cC (cfg A) k))) (nI E)) (fun i a Sx => a = nI i ∧ scr S Sx ∧ BdD Sx (cfg A) k ∧ fwI Sx f i) (fun a Sx => a = nI 20 ∧ scr S Sx ∧ fwI Sx f 20) 20 (by omega) (by
    rintro i a Sx hi ⟨ha, hz, hb, hw⟩
    subst ha
    by_cases hin : i < 20
    · have hx2 := h.scr (hz.I (a := 25) (k := k) (v := nI i) (by omega))
      obtain ⟨S12, e12, f12⟩ := upsInTrial_ok hx2 (hb.set hin) (c := uD (cfg A) k i) (p := mtX (cfg A) (cC (cfg A) k)) fx_uD.1 fx_uD.2.1 fx_uD.2.2.1 fx_uD.2.2.2 (fun j hj => by rw [cN_uD]; exact (mtX_n hj).1)
      have w12 : fwI S12 f i := (hw.I (by omega)).fr f12 (by omega)
      obtain ⟨S14, e14, f14, w14⟩ := offer_ok w12 hf1
      refine Or.inl ⟨hin, nI (i + 1), S14, fun rec => ?_, rfl, ((hz.I (a := 25) (k := k) (v := nI i) (by omega)).tr (f12.scr (by omega))).tr (f14.scr (by omega)), hb.kp (fun b j q1 q2 q3 => ?_), w14⟩
      · have hs := hsum i
        generalize allU (uP (uD (cfg A) k i) (mtX (cfg A) (cC (cfg A) k))) = V at e12 hs
        generalize ps (mtX (cfg A) (cC (cfg A) k)) = P at e12
        simp (disch := omega) only [bX8_seekDay_52, bdq, gd_ix, lit_0, lit_1, lit_2, lit_3, lit_4, lit_5, lit_6, lit_7, lit_8, lit_9, lit_10, lit_15, lit_16, lit_19, lit_20, lit_31, lit_35, lit_36, lit_48, lit_49, lit_53, lit_55, lit_57, lit_59, lit_60, lit_63, lit_64, lit_97, lit_102, lit_110, lit_160, lit_255, nI_add, ns_sub, ns_div, ns_le, ns_lt, ns_eq, ns_cl, pk_mul, ne10, eq_self, ↓reduceIte, e12, hs, e14, show ¬ 20 ≤ i from by omega]
      · rw [f14.1 b j (by omega), f12.1 b j (by omega), sI1, if_neg (by omega)]
    · have hin2 : i = 20 := by omega
      subst hin2
      refine Or.inr ⟨nI 20, Sx, fun rec => ?_, rfl, hz, hw⟩
      simp (disch := omega) only [bX8_seekDay_52, bdq, gd_ix, lit_0, lit_1, lit_2, lit_3, lit_4, lit_5, lit_6, lit_7, lit_8, lit_9, lit_10, lit_15, lit_16, lit_19, lit_20, lit_31, lit_35, lit_36, lit_48, lit_49, lit_53, lit_55, lit_57, lit_59, lit_60, lit_63, lit_64, lit_97, lit_102, lit_110, lit_160, lit_255, nI_add, ns_sub, ns_div, ns_le, ns_lt, ns_eq, ns_cl, pk_mul, ne10, eq_self, ↓reduceIte, Nat.le_refl]) (nI 0) S2 ⟨rfl, (f3.scr (by omega)).tr (f4.scr (by omega)), (BdD.of b3).kp (fun b j q1 q2 q3 => f4.1 b j (by omega)), w4⟩
  subst ha
  refine ⟨S3, ?_, h.scr z5, w5⟩
  unfold fX8_seekDay
  rw [gd_ix (by omega) (by omega), ns_cl (by omega), e14, e1, bd_some]
  show bd (fX3_upsOf 21 (ps (mtX (cfg A) (cC (cfg A) k)) ^^^ (-1)) S) _ = _
  rw [e2, bd_some, e3, bd_some, e4, bd_some]
  show bd (lp (bX8_seekDay_52 (nI k) (ps (mtX (cfg A) (cC (cfg A) k))) (nI E)) fl (nI 0) S2) _ = _
  rw [e5, bd_some]
theorem whenC_ok {S : Sg} {A : Ab} (h : RC S A) {k w : Nat} (hk : k < cN (cfg A)) (hw : w < 2) : ∃ S', fX8_when (nI k) (nI w) S = some (fwV (fun d => allU (uD (cfg A) k d)) 19 w, S') ∧ RF S' A := by
  obtain ⟨S1, e1, h1⟩ := bring_ok h
  obtain ⟨S2, e2, h2, w2⟩ := seekDay_ok h1 hk
  refine ⟨S2, ?_, h2⟩
  have e3 := tell_ok w2 hw
  unfold fX8_when
  rw [e1, bd_some, cStroke_y h1 hk, bd_some, if_neg (by decide), cEith_y hw, bd_some, if_neg (by decide), e2, bd_some, e3, bd_some]
theorem stp_when_ok : stp_when Inv := by
  rintro Sc Sm x1 x2 ⟨A, hC, hM⟩
  obtain ⟨S0, e0, h0⟩ := bring_ok hC
  obtain ⟨S2, z2, r2, y2, n2⟩ := mStroke_ok hM x1
  by_cases g1 : rg x1 (cN (cfg A))
  · have e2 := y2 g1
    obtain ⟨k, hk, rfl⟩ := g1
    by_cases g2 : rg x2 2
    · obtain ⟨w, hw, rfl⟩ := g2
      obtain ⟨S1, e1, h1⟩ := whenC_ok hC hk hw
      obtain ⟨S3, e3, z3⟩ := whenM_ok (hM.mz z2) hk hw
      refine ⟨_, S1, S3, e1, ?_, A, h1.c, (hM.mz z2).mz z3⟩
      unfold fX9_when
      rw [e2, bd_some, if_neg (by decide), lit_0, lit_1, in_y (by omega) (by omega), bd_some, if_neg (by decide), e3, bd_some]
    · refine ⟨-nI 2, S0, S2, ?_, ?_, A, h0.c, hM.mz z2⟩
      · unfold fX8_when
        simp (disch := omega) only [e0, cStroke_y h0 hk, cEith_n g2, bdq, gd_ix, lit_0, lit_1, lit_2, lit_3, lit_4, lit_5, lit_6, lit_7, lit_8, lit_9, lit_10, lit_15, lit_16, lit_19, lit_20, lit_31, lit_35, lit_36, lit_48, lit_49, lit_53, lit_55, lit_57, lit_59, lit_60, lit_63, lit_64, lit_97, lit_102, lit_110, lit_160, lit_255, nI_add, ns_sub, ns_div, ns_le, ns_lt, ns_eq, ns_cl, pk_mul, ne10, eq_self, ↓reduceIte]
      · unfold fX9_when
        simp (disch := omega) only [e2, in_n g2 (b := 1) rfl (by omega), bdq, gd_ix, lit_0, lit_1, lit_2, lit_3, lit_4, lit_5, lit_6, lit_7, lit_8, lit_9, lit_10, lit_15, lit_16, lit_19, lit_20, lit_31, lit_35, lit_36, lit_48, lit_49, lit_53, lit_55, lit_57, lit_59, lit_60, lit_63, lit_64, lit_97, lit_102, lit_110, lit_160, lit_255, nI_add, ns_sub, ns_div, ns_le, ns_lt, ns_eq, ns_cl, pk_mul, ne10, eq_self, ↓reduceIte]
  · refine ⟨-nI 2, S0, S2, ?_, ?_, A, h0.c, hM.mz z2⟩
    · unfold fX8_when
      simp (disch := omega) only [e0, cStroke_n h0 g1, bdq, gd_ix, lit_0, lit_1, lit_2, lit_3, lit_4, lit_5, lit_6, lit_7, lit_8, lit_9, lit_10, lit_15, lit_16, lit_19, lit_20, lit_31, lit_35, lit_36, lit_48, lit_49, lit_53, lit_55, lit_57, lit_59, lit_60, lit_63, lit_64, lit_97, lit_102, lit_110, lit_160, lit_255, nI_add, ns_sub, ns_div, ns_le, ns_lt, ns_eq, ns_cl, pk_mul, ne10, eq_self, ↓reduceIte]
    · unfold fX9_when
      simp (disch := omega) only [n2 g1, bdq, gd_ix, lit_0, lit_1, lit_2, lit_3, lit_4, lit_5, lit_6, lit_7, lit_8, lit_9, lit_10, lit_15, lit_16, lit_19, lit_20, lit_31, lit_35, lit_36, lit_48, lit_49, lit_53, lit_55, lit_57, lit_59, lit_60, lit_63, lit_64, lit_97, lit_102, lit_110, lit_160, lit_255, nI_add, ns_sub, ns_div, ns_le, ns_lt, ns_eq, ns_cl, pk_mul, ne10, eq_self, ↓reduceIte]
/-- dry -/
def dyA (c : Cf) (d : Nat) : Cf := uA c (fun e => if e = d then 0 else cA c e)
theorem cp20 : cpok 0 0 20 20 20 = true := by decide
theorem tn20 : Int32.toNatClampNeg (20 : Int32) = 20 := by decide
theorem seekDry_ok {S : Sg} {A : Ab} (h : RF S A) : ∃ S', fX8_seekDryDay S = some ((), S') ∧ RF S' A ∧ fwI S' (fun d => allU (dyA (cfg A) d)) 20 := by
  obtain ⟨f, hf⟩ : ∃ f : Nat → Nat, (fun d => allU (dyA (cfg A) d)) = f := ⟨_, rfl⟩
  have hf1 : ∀ d, f d ≤ 1000 := fun d => by rw [← hf]; exact Nat.le_trans allU_le (by omega)
  rw [hf]
  generalize hS0 : sC S 6 (va_cpy (S.1 5) (S.1 6) 0 0 20) = S0
  have z0 : scr S S0 := by rw [← hS0]; exact scr.rf.C (by omega)
  have c0 : ∀ d, d < 20 → S0.1 6 d = nI (cA (cfg A) d) := fun d hd => by
    rw [← hS0, sC1, if_pos rfl]
    unfold va_cpy
    rw [if_pos (by omega), Nat.sub_zero, Nat.zero_add]
    exact h.2.2.2.2.2.2.1 d hd
  obtain ⟨S2, e4, f4, w4⟩ := begin_ok (S := S0) (f := f)
  obtain ⟨a, S3, e5, ha, z5, w5⟩ := lp_invF (B := bX8_seekDryDay_24) (fun i a Sx => a = nI i ∧ scr S Sx ∧ (∀ d, d < 20 → Sx.1 6 d = nI (cA (cfg A) d)) ∧ fwI Sx f i) (fun a Sx => a = nI 20 ∧ scr S Sx ∧ fwI Sx f 20) 20 (by omega) (by
    rintro i a Sx hi ⟨ha, hz, hb, hw⟩
    subst ha
    by_cases hin : i < 20
    · have hz2 : scr S (sI Sx 6 i (nI 0)) := hz.I (by omega)
      have hx2 := h.scr hz2
      obtain ⟨S6, e6, f6, r6⟩ := follow_uA (t := 12) (tc := 33) (td := 6) (c := cfg A) (f := fun e => if e = i then 0 else cA (cfg A) e) hx2.2.2.1 hx2.2.2.2.2.1 (fun k hk => cfg_P hk) (fun d hd => by
        rw [sI1]
        by_cases q : d = i
        · rw [if_pos ⟨rfl, q⟩, if_pos q]; exact ⟨rfl, by omega⟩
        · rw [if_neg (by omega), if_neg q]; exact ⟨hb d hd, tA_le⟩) hx2.1.2.2.1.1 (by omega) (by omega)
      have e15 : (sI Sx 6 i (nI 0)).1 0 15 = nI (cF (cfg A)) := hx2.1.2.2.1.2
      rw [← e15] at e6
      have e7 := totalC_ok (t := 33) (S := S6) (c := dyA (cfg A) i) r6
      have hfi : allU (dyA (cfg A) i) = f i := by rw [← hf]
      rw [hfi] at e7
      have w6 : fwI S6 f i := (hw.I (by omega)).fr f6 (by omega)
      obtain ⟨S10, e10, f10, w10⟩ := offer_ok w6 hf1
      have h5 : S10.1 5 i = nI (cA (cfg A) i) := by
        rw [f10.1 5 i (by omega), f6.1 5 i (by omega), sI1, if_neg (by omega), hz 5 i (by omega) (by omega) (by omega) (by omega)]
        exact h.2.2.2.2.2.2.1 i hin
      refine Or.inl ⟨hin, nI (i + 1), sI S10 6 i (nI (cA (cfg A) i)), fun rec => ?_, rfl, ((hz2.tr (f6.scr (by omega))).tr (f10.scr (by omega))).I (by omega), fun d hd => ?_, w10.I (by omega)⟩
      · generalize f i = V at e7 e10
        simp (disch := omega) only [bX8_seekDryDay_24, bdq, gd_ix, lit_0, lit_1, lit_2, lit_3, lit_4, lit_5, lit_6, lit_7, lit_8, lit_9, lit_10, lit_15, lit_16, lit_19, lit_20, lit_31, lit_35, lit_36, lit_48, lit_49, lit_53, lit_55, lit_57, lit_59, lit_60, lit_63, lit_64, lit_97, lit_102, lit_110, lit_160, lit_255, nI_add, ns_sub, ns_div, ns_le, ns_lt, ns_eq, ns_cl, pk_mul, ne10, eq_self, ↓reduceIte, e6, e7, e10, h5, show ¬ 20 ≤ i from by omega]
      · rw [sI1]
        by_cases q : d = i
        · subst q; rw [if_pos ⟨rfl, rfl⟩]
        · rw [if_neg (by omega), f10.1 6 d (by omega), f6.1 6 d (by omega), sI1, if_neg (by omega)]; exact hb d hd
    · have hin2 : i = 20 := by omega
      subst hin2
      refine Or.inr ⟨nI 20, Sx, fun rec => ?_, rfl, hz, hw⟩
      simp (disch := omega) only [bX8_seekDryDay_24, bdq, gd_ix, lit_0, lit_1, lit_2, lit_3, lit_4, lit_5, lit_6, lit_7, lit_8, lit_9, lit_10, lit_15, lit_16, lit_19, lit_20, lit_31, lit_35, lit_36, lit_48, lit_49, lit_53, lit_55, lit_57, lit_59, lit_60, lit_63, lit_64, lit_97, lit_102, lit_110, lit_160, lit_255, nI_add, ns_sub, ns_div, ns_le, ns_lt, ns_eq, ns_cl, pk_mul, ne10, eq_self, ↓reduceIte, Nat.le_refl]) (nI 0) S2 ⟨rfl, z0.tr (f4.scr (by omega)), fun d hd => by rw [f4.1 6 d (by omega)]; exact c0 d hd, w4⟩
  subst ha
  refine ⟨S3, ?_, h.scr z5, w5⟩
  unfold fX8_seekDryDay
  rw [gd_t cp20, tn0, tn20, hS0, e4, bd_some, lit_0, e5, bd_some]
theorem dryC_ok {S : Sg} {A : Ab} (h : RC S A) {w : Nat} (hw : w < 2) : ∃ S', fX8_dry (nI w) S = some (fwV (fun d => allU (dyA (cfg A) d)) 19 w, S') ∧ RF S' A := by
  obtain ⟨S1, e1, h1⟩ := bring_ok h
  obtain ⟨S2, e2, h2, w2⟩ := seekDry_ok h1
  refine ⟨S2, ?_, h2⟩
  have e3 := tell_ok w2 hw
  unfold fX8_dry
  rw [cEith_y hw, bd_some, if_neg (by decide), e1, bd_some, e2, bd_some, e3, bd_some]
theorem dryM_lp {S : Sg} {c : Cf} {nw no : Nat} {wd wl od ol : Nat → Nat} {mo : Nat → Bool} {f : Nat → Nat} (hf : ∀ d, f d = allU (dyA c d)) (h : Md S c nw wd wl no od ol mo) : ∃ S', lp bX9_dryOf_11 fl (-nI 1, nI 0, nI 0) S = some ((nI (amn f 19), nI (f (amn f 19)), nI 20), S') ∧ mz S S' := by
  obtain ⟨t, S', e, ht, q⟩ := lp_invF (B := bX9_dryOf_11) (fun i a Sx => a = (mnB f i, mnV f i, nI i) ∧ Md Sx c nw wd wl no od ol mo ∧ mz S Sx) (fun a Sx => a = (nI (amn f 19), nI (f (amn f 19)), nI 20) ∧ mz S Sx) 20 (by omega) (by
    rintro i a Sx hi ⟨ha, hm, hg⟩
    subst ha
    have hl : ∀ d, f d ≤ 160 := fun d => by rw [hf d]; exact allU_le
    by_cases hin : i < 20
    · obtain ⟨a1, a2⟩ := hm.2.2.2.2.2.2.2.2.2.1 i hin
      have m2 : Md (sI Sx 12 i (nI 0)) (dyA c i) nw wd wl no od ol mo := hm.uA (fun b j q => by rw [sI1, if_neg (by omega)]) (fun d hd => by
        rw [sI1]
        by_cases q : d = i
        · rw [if_pos ⟨rfl, q⟩, if_pos q]; exact ⟨rfl, by omega⟩
        · rw [if_neg (by omega), if_neg q]; exact hm.2.2.2.2.2.2.2.2.2.1 d hd)
      obtain ⟨S6, e6, f6, -, d6⟩ := runs_ok m2
      have m3 : Md (sI S6 12 i (nI (cA c i))) c nw wd wl no od ol mo := by
        have m4 : Md (sI (sI Sx 12 i (nI 0)) 12 i (nI (cA c i))) c nw wd wl no od ol mo := by
          have e : sI (sI Sx 12 i (nI 0)) 12 i (nI (cA c i)) = Sx := by
            rw [sI_over]
            apply Prod.ext
            · funext b j
              show (sI Sx 12 i (nI (cA c i))).1 b j = Sx.1 b j
              rw [sI1]
              by_cases q : b = 12 ∧ j = i
              · rw [if_pos q, q.1, q.2, a1]
              · rw [if_neg q]
            · rfl
          rw [e]; exact hm
        exact m4.mf ⟨fun b j q1 q2 => by
          rw [sI1, sI1]
          by_cases q : b = 12 ∧ j = i
          · rw [if_pos q, if_pos q]
          · rw [if_neg q, if_neg q]; exact f6.1 b j q1 q2, f6.2⟩
      have eU := allUpM_ok (S := sI S6 12 i (nI (cA c i))) (c := dyA c i) (fun d hd => by rw [sI1, if_neg (by omega)]; exact (d6 d hd).1)
      rw [← hf i] at eU
      have hli := hl i
      have hgz : mz S (sI S6 12 i (nI (cA c i))) := ((hg.I (by omega)).tr f6.mz).I (by omega)
      refine Or.inl ⟨hin, (mnB f (i + 1), mnV f (i + 1), nI (i + 1)), sI S6 12 i (nI (cA c i)), fun rec => ?_, rfl, m3, hgz⟩
      cases i with
      | zero =>
        rw [mnB_s, mnV_s, amn_0, mnB_0, mnV_0]
        simp (disch := omega) only [bX9_dryOf_11, bdq, gd_ix, lit_0, lit_1, lit_2, lit_3, lit_4, lit_5, lit_6, lit_7, lit_8, lit_9, lit_10, lit_15, lit_16, lit_19, lit_20, lit_31, lit_35, lit_36, lit_48, lit_49, lit_53, lit_55, lit_57, lit_59, lit_60, lit_63, lit_64, lit_97, lit_102, lit_110, lit_160, lit_255, nI_add, ns_sub, ns_div, ns_le, ns_lt, ns_eq, ns_cl, pk_mul, ne10, eq_self, ↓reduceIte, a1, e6, eU, show ¬ 20 ≤ 0 from by omega]
      | succ j =>
        have hl2 := hl (amn f j)
        have hj := amn_le f j
        rw [mnB_s, mnV_s, mnB_s, mnV_s, amn_s]
        by_cases q : f (j + 1) < f (amn f j)
        · rw [if_pos q]
          simp (disch := omega) only [bX9_dryOf_11, bdq, gd_ix, lit_0, lit_1, lit_2, lit_3, lit_4, lit_5, lit_6, lit_7, lit_8, lit_9, lit_10, lit_15, lit_16, lit_19, lit_20, lit_31, lit_35, lit_36, lit_48, lit_49, lit_53, lit_55, lit_57, lit_59, lit_60, lit_63, lit_64, lit_97, lit_102, lit_110, lit_160, lit_255, nI_add, ns_sub, ns_div, ns_le, ns_lt, ns_eq, ns_cl, pk_mul, ne10, eq_self, ↓reduceIte, ne_m1, a1, e6, eU, show ¬ f (amn f j) ≤ f (j + 1) from by omega, show ¬ 20 ≤ j + 1 from by omega]
        · rw [if_neg q]
          simp (disch := omega) only [bX9_dryOf_11, bdq, gd_ix, lit_0, lit_1, lit_2, lit_3, lit_4, lit_5, lit_6, lit_7, lit_8, lit_9, lit_10, lit_15, lit_16, lit_19, lit_20, lit_31, lit_35, lit_36, lit_48, lit_49, lit_53, lit_55, lit_57, lit_59, lit_60, lit_63, lit_64, lit_97, lit_102, lit_110, lit_160, lit_255, nI_add, ns_sub, ns_div, ns_le, ns_lt, ns_eq, ns_cl, pk_mul, ne10, eq_self, ↓reduceIte, ne_m1, a1, e6, eU, show f (amn f j) ≤ f (j + 1) from by omega, show ¬ 20 ≤ j + 1 from by omega]
    · have hin2 : i = 20 := by omega
      subst hin2
      refine Or.inr ⟨(nI (amn f 19), nI (f (amn f 19)), nI 20), Sx, fun rec => ?_, rfl, hg⟩
      rw [show mnB f 20 = nI (amn f 19) from rfl, show mnV f 20 = nI (f (amn f 19)) from rfl]
      simp (disch := omega) only [bX9_dryOf_11, bdq, gd_ix, lit_0, lit_1, lit_2, lit_3, lit_4, lit_5, lit_6, lit_7, lit_8, lit_9, lit_10, lit_15, lit_16, lit_19, lit_20, lit_31, lit_35, lit_36, lit_48, lit_49, lit_53, lit_55, lit_57, lit_59, lit_60, lit_63, lit_64, lit_97, lit_102, lit_110, lit_160, lit_255, nI_add, ns_sub, ns_div, ns_le, ns_lt, ns_eq, ns_cl, pk_mul, ne10, eq_self, ↓reduceIte, Nat.le_refl]) (mnB f 0, mnV f 0, nI 0) S ⟨rfl, h, mz.rf⟩
  subst ht
  rw [mnB_0, mnV_0] at e
  exact ⟨S', e, q⟩
theorem dryM_ok {S : Sg} {A : Ab} (h : RM S A) {w : Nat} (hw : w < 2) : ∃ S', fX9_dryOf (nI w) S = some (fwV (fun d => allU (dyA (cfg A) d)) 19 w, S') ∧ mz S S' := by
  obtain ⟨f, hf⟩ : ∃ f : Nat → Nat, (fun d => allU (dyA (cfg A) d)) = f := ⟨_, rfl⟩
  rw [hf]
  obtain ⟨S1, e1, z1, r1, m1⟩ := asTold_ok h
  obtain ⟨S2, e2, g2⟩ := dryM_lp (S := S1) (c := cfg A) (f := f) (fun d => by rw [← hf]) m1
  refine ⟨S2, ?_, z1.tr g2⟩
  have hw2 : w = 0 ∨ w = 1 := by omega
  unfold fX9_dryOf fwV
  rcases hw2 with rfl | rfl
  · simp (disch := omega) only [bdq, gd_ix, lit_0, lit_1, lit_2, lit_3, lit_4, lit_5, lit_6, lit_7, lit_8, lit_9, lit_10, lit_15, lit_16, lit_19, lit_20, lit_31, lit_35, lit_36, lit_48, lit_49, lit_53, lit_55, lit_57, lit_59, lit_60, lit_63, lit_64, lit_97, lit_102, lit_110, lit_160, lit_255, nI_add, ns_sub, ns_div, ns_le, ns_lt, ns_eq, ns_cl, pk_mul, ne10, eq_self, ↓reduceIte, e1, e2]
  · simp (disch := omega) only [bdq, gd_ix, lit_0, lit_1, lit_2, lit_3, lit_4, lit_5, lit_6, lit_7, lit_8, lit_9, lit_10, lit_15, lit_16, lit_19, lit_20, lit_31, lit_35, lit_36, lit_48, lit_49, lit_53, lit_55, lit_57, lit_59, lit_60, lit_63, lit_64, lit_97, lit_102, lit_110, lit_160, lit_255, nI_add, ns_sub, ns_div, ns_le, ns_lt, ns_eq, ns_cl, pk_mul, ne10, eq_self, ↓reduceIte, e1, e2]
theorem stp_dry_ok : stp_dry Inv := by
  rintro Sc Sm x1 ⟨A, hC, hM⟩
  by_cases g1 : rg x1 2
  · obtain ⟨w, hw, rfl⟩ := g1
    obtain ⟨S1, e1, h1⟩ := dryC_ok hC hw
    obtain ⟨S2, e2, h2⟩ := dryM_ok hM hw
    refine ⟨_, S1, S2, e1, ?_, A, h1.c, hM.mz h2⟩
    unfold fX9_dry
    rw [lit_0, lit_1, in_y (by omega) (by omega), bd_some, if_neg (by decide), e2, bd_some]
  · refine ⟨-nI 2, Sc, Sm, ?_, ?_, A, hC, hM⟩
    · unfold fX8_dry
      simp (disch := omega) only [cEith_n g1, bdq, gd_ix, lit_0, lit_1, lit_2, lit_3, lit_4, lit_5, lit_6, lit_7, lit_8, lit_9, lit_10, lit_15, lit_16, lit_19, lit_20, lit_31, lit_35, lit_36, lit_48, lit_49, lit_53, lit_55, lit_57, lit_59, lit_60, lit_63, lit_64, lit_97, lit_102, lit_110, lit_160, lit_255, nI_add, ns_sub, ns_div, ns_le, ns_lt, ns_eq, ns_cl, pk_mul, ne10, eq_self, ↓reduceIte]
    · unfold fX9_dry
      simp (disch := omega) only [in_n g1 (b := 1) rfl (by omega), bdq, gd_ix, lit_0, lit_1, lit_2, lit_3, lit_4, lit_5, lit_6, lit_7, lit_8, lit_9, lit_10, lit_15, lit_16, lit_19, lit_20, lit_31, lit_35, lit_36, lit_48, lit_49, lit_53, lit_55, lit_57, lit_59, lit_60, lit_63, lit_64, lit_97, lit_102, lit_110, lit_160, lit_255, nI_add, ns_sub, ns_div, ns_le, ns_lt, ns_eq, ns_cl, pk_mul, ne10, eq_self, ↓reduceIte]
