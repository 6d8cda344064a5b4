/-- a stroke -/
def strV (A : Ab) (k : Nat) (h : Int64) : Int64 := ha (pbX (fun v => decide (v < 10) && ckP A k v)) (ha (pbX (fun v => decide (v < 6) && sgP A k v)) (ha (fwV (fun d => allU (uC (cfg A) k d)) 35 1) (ha (fwV (fun d => allU (uC (cfg A) k d)) 35 0) (ha (fwV (fun d => allU (uD (cfg A) k d)) 19 1) (ha (fwV (fun d => allU (uD (cfg A) k d)) 19 0) (ha (nI (upn (cfg A) k)) (ha (stt A 19 k 1) (ha (stt A 19 k 0) (ha (stt A 9 k 1) (ha (stt A 9 k 0) (hG (fun i => ha (stv A k i)) h 4)))))))))))
theorem withFew_ok {S : Sg} {f : Nat → Nat} {n : Nat} (h : fwI S f (n + 1)) (z : Int64) : fX8_withFewest z S = some (ha (fwV f n 1) (ha (fwV f n 0) z), S) := by
  obtain ⟨a, b⟩ := h
  unfold fX8_withFewest
  rw [a, b]
  rfl
theorem withStr_ok {S : Sg} {A : Ab} (h : RF S A) (z : Int64) {k : Nat} (hk : k < cN (cfg A)) : ∃ S', fX8_withStroke z (nI k) S = some (ha (nI (upn (cfg A) k)) (ha (stt A 19 k 1) (ha (stt A 19 k 0) (ha (stt A 9 k 1) (ha (stt A 9 k 0) (hG (fun i => ha (stv A k i)) z 4))))), S') ∧ RF S' A := by
  obtain ⟨S1, e1, h1⟩ := hlp (B := bX8_withStroke_6 (nI k)) (fun _ S => RF S A) (fun i => ha (stv A k i)) 4 (by omega) (by
    intro i hi S y hp
    obtain ⟨S1, e1, r1⟩ := strokeC_ok hp.c hk hi
    refine ⟨S1, r1, fun rec => ?_⟩
    unfold bX8_withStroke_6 ha
    dsimp only
    rw [lit_3, if_neg (by rw [ns_lt (by omega) (by omega)]; omega), e1, bd_some, lit_1, nI_add]) (by
    intro S y hp rec
    unfold bX8_withStroke_6
    dsimp only
    rw [lit_3, if_pos (by rw [ns_lt (by omega) (by omega)]; omega)]) S z h
  obtain ⟨S2, e2, h2⟩ := stateC_ok h1.c (d := 9) (w := 0) (by omega) hk (by omega)
  obtain ⟨S3, e3, h3⟩ := stateC_ok h2.c (d := 9) (w := 1) (by omega) hk (by omega)
  obtain ⟨S4, e4, h4⟩ := stateC_ok h3.c (d := 19) (w := 0) (by omega) hk (by omega)
  obtain ⟨S5, e5, h5⟩ := stateC_ok h4.c (d := 19) (w := 1) (by omega) hk (by omega)
  obtain ⟨S6, e6, h6⟩ := upC_ok h5.c hk
  refine ⟨S6, ?_, h6⟩
  unfold fX8_withStroke
  rw [lit_0, lit_1, lit_9, lit_19, e1, bd_some, e2, bd_some, e3, bd_some, e4, bd_some, e5, bd_some, e6, bd_some]
  unfold ha
  rfl
theorem strC_lp {S : Sg} {A : Ab} (h : RF S A) (z : Int64) : ∃ S', lp bX8_digest_89 fl (z, nI 0) S = some ((hG (strV A) z (cN (cfg A)), nI (cN (cfg A))), S') ∧ RF S' A := by
  have h8 := cfg_8 h.1
  refine hlp (B := bX8_digest_89) (fun _ S => RF S A) (strV A) (cN (cfg A)) (by omega) ?_ ?_ S z h
  · intro k hk S y hp
    obtain ⟨S1, e1, h1⟩ := withStr_ok hp y hk
    obtain ⟨S2, e2, h2, w2⟩ := seekDay_ok h1 hk
    obtain ⟨S3, e3, h3, w3⟩ := seekCell_ok h2 hk
    obtain ⟨S4, e4, h4⟩ := signC_ok h3.c hk
    obtain ⟨S5, e5, h5⟩ := chalkC_ok h4.c hk
    have q2 := fun z => withFew_ok w2 z
    have q3 := fun z => withFew_ok w3 z
    have e12 : S.1 12 0 = nI (cN (cfg A)) := hp.2.2.1.2.1
    refine ⟨S5, h5, fun rec => ?_⟩
    unfold bX8_digest_89 strV
    dsimp only
    rw [e12, if_neg (by rw [ns_le (by omega) (by omega)]; omega), e1, bd_some, e2, bd_some, q2, bd_some, e3, bd_some, q3, bd_some, e4, bd_some, e5, bd_some, lit_1, nI_add]
    unfold ha
    rfl
  · intro S y hp rec
    have e12 : S.1 12 0 = nI (cN (cfg A)) := hp.2.2.1.2.1
    unfold bX8_digest_89
    dsimp only
    rw [e12, if_pos (by rw [ns_le (by omega) (by omega)]; omega)]
theorem strDig_ok {S : Sg} {A : Ab} (h : RM S A) (r : Rr S A) (z : Int64) {k : Nat} (hk : k < cN (cfg A)) : ∃ S', fX9_strokeDigest z (nI k) S = some (strV A k z, S') ∧ RM S' A ∧ Rr S' A := by
  have h8 := cfg_8m h
  obtain ⟨S1, e1, h1⟩ := hlp (B := bX9_strokeDigest_6 (nI k)) (fun _ S => RM S A ∧ Rr S A) (fun i => ha (stv A k i)) 4 (by omega) (by
    intro i hi S y hp
    have e1 := strokeM_ok hp.2 h8 hk hi
    refine ⟨S, hp, fun rec => ?_⟩
    unfold bX9_strokeDigest_6 ha
    dsimp only
    rw [lit_4, if_neg (by rw [ns_le (by omega) (by omega)]; omega), e1, bd_some, lit_1, nI_add]) (by
    intro S y hp rec
    unfold bX9_strokeDigest_6
    dsimp only
    rw [lit_4, if_pos (by rw [ns_le (by omega) (by omega)]; omega)]) S z ⟨h, r⟩
  have m1 := h1.1
  obtain ⟨S2, e2, z2⟩ := stateM_ok m1 (d := 9) (w := 0) (by omega) hk (by omega)
  have m2 := m1.mz z2
  obtain ⟨S3, e3, z3⟩ := stateM_ok m2 (d := 9) (w := 1) (by omega) hk (by omega)
  have m3 := m2.mz z3
  obtain ⟨S4, e4, z4⟩ := stateM_ok m3 (d := 19) (w := 0) (by omega) hk (by omega)
  have m4 := m3.mz z4
  obtain ⟨S5, e5, z5⟩ := stateM_ok m4 (d := 19) (w := 1) (by omega) hk (by omega)
  have m5 := m4.mz z5
  obtain ⟨S6, e6, z6⟩ := upM_ok m5 hk
  have m6 := m5.mz z6
  obtain ⟨S7, e7, z7⟩ := whenM_ok m6 (w := 0) hk (by omega)
  have m7 := m6.mz z7
  obtain ⟨S8, e8, z8⟩ := whenM_ok m7 (w := 1) hk (by omega)
  have m8 := m7.mz z8
  obtain ⟨S9, e9, z9⟩ := placeM_ok m8 (w := 0) hk (by omega)
  have m9 := m8.mz z9
  obtain ⟨S10, e10, z10⟩ := placeM_ok m9 (w := 1) hk (by omega)
  have m10 := m9.mz z10
  obtain ⟨S11, e11, z11⟩ := signM_ok m10 hk
  have m11 := m10.mz z11
  obtain ⟨S12, e12, z12, r12⟩ := chalkM_ok m11 hk
  refine ⟨S12, ?_, m11.mz z12, r12⟩
  unfold fX9_strokeDigest strV
  rw [lit_0, lit_1, lit_9, lit_19, e1, bd_some, e2, bd_some, e3, bd_some, e4, bd_some, e5, bd_some, e6, bd_some, e7, bd_some, e8, bd_some, e9, bd_some, e10, bd_some, e11, bd_some, e12, bd_some]
  unfold ha
  rfl
theorem strM_lp {S : Sg} {A : Ab} (h : RM S A) (r : Rr S A) (z : Int64) : ∃ S', lp bX9_digest_89 fl (z, nI 0) S = some ((hG (strV A) z (cN (cfg A)), nI (cN (cfg A))), S') ∧ RM S' A ∧ Rr S' A := by
  have h8 := cfg_8m h
  refine hlp (B := bX9_digest_89) (fun _ S => RM S A ∧ Rr S A) (strV A) (cN (cfg A)) (by omega) ?_ ?_ S z ⟨h, r⟩
  · intro k hk S y hp
    obtain ⟨S1, e1, h1⟩ := strDig_ok hp.1 hp.2 y hk
    have e4 : S.1 0 4 = nI (cN (cfg A)) := hp.2.2.1
    refine ⟨S1, h1, fun rec => ?_⟩
    unfold bX9_digest_89
    dsimp only
    rw [e4, if_neg (by rw [ns_le (by omega) (by omega)]; omega), e1, bd_some, lit_1, nI_add]
  · intro S y hp rec
    have e4 : S.1 0 4 = nI (cN (cfg A)) := hp.2.2.1
    unfold bX9_digest_89
    dsimp only
    rw [e4, if_pos (by rw [ns_le (by omega) (by omega)]; omega)]
