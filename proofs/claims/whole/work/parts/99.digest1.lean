/-- the number over all answers -/
def ha (g : Int32) (h : Int64) : Int64 := 31 * h + Int32.toInt64 g
def hG (G : Nat → Int64 → Int64) (h : Int64) : Nat → Int64
  | 0 => h
  | n + 1 => G n (hG G h n)
theorem hlp {B : (Int64 × Int32 → Sg → Option ((Int64 × Int32) × Sg)) → Int64 × Int32 → Sg → Option ((Int64 × Int32) × Sg)} (P : Nat → Sg → Prop) (G : Nat → Int64 → Int64) (N : Nat) (hN : N < 4096) (hs : ∀ i, i < N → ∀ S h, P i S → ∃ S', P (i + 1) S' ∧ ∀ rec, B rec (h, nI i) S = rec (G i h, nI (i + 1)) S') (he : ∀ S h, P N S → ∀ rec, B rec (h, nI N) S = some ((h, nI N), S)) (S : Sg) (h : Int64) (h0 : P 0 S) : ∃ S', lp B fl (h, nI 0) S = some ((hG G h N, nI N), S') ∧ P N S' := by
  obtain ⟨t, S1, e1, e2, e3⟩ := lp_invF (B := B) (fun i a Sx => a = (hG G h i, nI i) ∧ P i Sx) (fun a Sx => a = (hG G h N, nI N) ∧ P N Sx) N hN (by
    rintro i a Sx hi ⟨ha, hp⟩
    subst ha
    by_cases q : i < N
    · obtain ⟨S2, p2, e2⟩ := hs i q Sx (hG G h i) hp
      exact Or.inl ⟨q, _, S2, e2, rfl, p2⟩
    · have q2 : i = N := by omega
      subst q2
      exact Or.inr ⟨_, Sx, he Sx _ hp, rfl, hp⟩) (h, nI 0) S ⟨rfl, h0⟩
  subst e2
  exact ⟨S1, e1, e3⟩
theorem cntC_lp {S : Sg} {A : Ab} (h : RC S A) (z : Int64) : ∃ S', lp bX8_digest_6 fl (z, nI 0) S = some ((hG (fun i => ha (cnV A i)) z 8, nI 8), S') ∧ RC S' A := by
  refine hlp (B := bX8_digest_6) (fun _ S => RC S A) (fun i => ha (cnV A i)) 8 (by omega) ?_ ?_ S z h
  · intro i hi S y hp
    obtain ⟨S1, e1, r1⟩ := countC_ok hp (w := i) (by omega)
    refine ⟨S1, r1.c, fun rec => ?_⟩
    unfold bX8_digest_6 ha
    dsimp only
    rw [lit_7, if_neg (by rw [ns_lt (by omega) (by omega)]; omega), e1, bd_some, lit_1, nI_add]
  · intro S y hp rec
    unfold bX8_digest_6
    dsimp only
    rw [lit_7, if_pos (by rw [ns_lt (by omega) (by omega)]; omega)]
theorem cntM_lp {S : Sg} {A : Ab} (h : RM S A) (z : Int64) : ∃ S', lp bX9_digest_6 fl (z, nI 0) S = some ((hG (fun i => ha (cnV A i)) z 8, nI 8), S') ∧ RM S' A := by
  refine hlp (B := bX9_digest_6) (fun _ S => RM S A) (fun i => ha (cnV A i)) 8 (by omega) ?_ ?_ S z h
  · intro i hi S y hp
    obtain ⟨S1, e1, r1⟩ := countM_ok hp (w := i) (by omega)
    refine ⟨S1, hp.mz r1, fun rec => ?_⟩
    unfold bX9_digest_6 ha
    dsimp only
    rw [lit_8, if_neg (by rw [ns_le (by omega) (by omega)]; omega), e1, bd_some, lit_1, nI_add]
  · intro S y hp rec
    unfold bX9_digest_6
    dsimp only
    rw [lit_8, if_pos (by rw [ns_le (by omega) (by omega)]; omega)]
/-- a day -/
def dayV (A : Ab) (d : Nat) (h : Int64) : Int64 := hG (fun i => ha (shw (cfg A) (sgn A) d i)) (ha (dpV (cfg A) d) (ha (nI (ctU (cfg A) d)) (ha (nI (cA (cfg A) d)) h))) 36
theorem withDay_ok {S : Sg} {A : Ab} (h : RC S A) (z : Int64) {d : Nat} (hd : d < 20) : ∃ S', fX8_withDay z (nI d) S = some (dayV A d z, S') ∧ RF S' A := by
  obtain ⟨S1, e1, h1⟩ := dampC_ok h hd
  obtain ⟨S2, e2, h2⟩ := throughC_ok h1.c hd
  obtain ⟨S3, e3, h3⟩ := deepC_ok h2.c hd
  obtain ⟨S4, e4, h4⟩ := hlp (B := bX8_withDay_47 (nI d)) (fun _ S => RF S A) (fun i => ha (shw (cfg A) (sgn A) d i)) 36 (by omega) (by
    intro i hi S y hp
    obtain ⟨S1, e1, r1⟩ := standsC_ok hp.c hd hi
    refine ⟨S1, r1, fun rec => ?_⟩
    unfold bX8_withDay_47 ha
    dsimp only
    rw [lit_36, if_neg (by rw [ns_le (by omega) (by omega)]; omega), e1, bd_some, lit_1, nI_add]) (by
    intro S y hp rec
    unfold bX8_withDay_47
    dsimp only
    rw [lit_36, if_pos (by rw [ns_le (by omega) (by omega)]; omega)]) S3 (ha (dpV (cfg A) d) (ha (nI (ctU (cfg A) d)) (ha (nI (cA (cfg A) d)) z))) h3
  refine ⟨S4, ?_, h4⟩
  unfold fX8_withDay dayV
  rw [e1, bd_some, e2, bd_some, e3, bd_some, lit_0]
  unfold ha at e4 ⊢
  rw [e4, bd_some]
theorem dayDig_ok {S : Sg} {A : Ab} (h : RM S A) (z : Int64) {d : Nat} (hd : d < 20) : ∃ S', fX9_dayDigest z (nI d) S = some (dayV A d z, S') ∧ RM S' A ∧ Rr S' A := by
  obtain ⟨S1, e1, h1⟩ := dampM_ok h hd
  have m1 := h.mz h1
  obtain ⟨S2, e2, h2⟩ := throughM_ok m1 hd
  have m2 := m1.mz h2
  obtain ⟨S3, e3, h3⟩ := deepM_ok m2 hd
  have m3 := m2.mz h3
  obtain ⟨S4, e4, h4⟩ := hlp (B := bX9_dayDigest_47 (nI d)) (fun i S => RM S A ∧ (0 < i → Rr S A)) (fun i => ha (shw (cfg A) (sgn A) d i)) 36 (by omega) (by
    intro i hi S y hp
    obtain ⟨S1, e1, r1, r2⟩ := standsM_ok hp.1 hd hi
    refine ⟨S1, ⟨hp.1.mz r1, fun _ => r2⟩, fun rec => ?_⟩
    unfold bX9_dayDigest_47 ha
    dsimp only
    rw [lit_36, if_neg (by rw [ns_le (by omega) (by omega)]; omega), e1, bd_some, lit_1, nI_add]) (by
    intro S y hp rec
    unfold bX9_dayDigest_47
    dsimp only
    rw [lit_36, if_pos (by rw [ns_le (by omega) (by omega)]; omega)]) S3 (ha (dpV (cfg A) d) (ha (nI (ctU (cfg A) d)) (ha (nI (cA (cfg A) d)) z))) ⟨m3, fun q => absurd q (by omega)⟩
  refine ⟨S4, ?_, h4.1, h4.2 (by omega)⟩
  unfold fX9_dayDigest dayV
  rw [e1, bd_some, e2, bd_some, e3, bd_some, lit_0]
  unfold ha at e4 ⊢
  rw [e4, bd_some]
