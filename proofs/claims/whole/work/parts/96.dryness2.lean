/-! dryness: the class -/
theorem still_w {S : Sg} {c : Cf} {w : Nat → Bool} {x L day : Nat} (hB : Bd 24 S c) (hS : Stl 24 S (uP c w)) (hw : ∀ k, w k = true → k < cN c) (hc : chI S c x L day) : fX8_stillFrom 24 24 5 (nI 0) (pk (sP c 0)) S = some (lN (vvS (uP c w) x (cA c) (L + 1) day 0 (cK c)), S) := by
  have h := still_ok (c := uP c w) hB hS hw hc 24 0 (cK c) (by omega) (by have := hc.2.2.1; omega) (fun k hk => ⟨(hB.2.2 k hk).2.2.2.2.2.2, fun _ => rfl⟩)
  rw [Nat.sub_zero, Nat.sub_zero] at h
  exact h
theorem wtd_et {S : Sg} {A : Ab} (h : RF S A) {day : Nat} (hd : day < 20) : (if S.1 5 day = 0 then some ((0 : Int32), S) else gd (ix (nI day) 20) (bd (fX0_withMates 12 (S.1 20 day) S) (fun r4 S5 => some (r4, S5)))) = some (ps (wtd (cfg A) day), S) := by
  have w5 : S.1 5 day = nI (cA (cfg A) day) := h.2.2.2.2.2.2.1 day hd
  have w20 : S.1 20 day = ps (fun k => able (cfg A) k day) := (h.2.2.2.2.1.2 day hd).2.2
  have ha : cA (cfg A) day ≤ 9 := tA_le
  by_cases q : cA (cfg A) day = 0
  · have e : ps (wtd (cfg A) day) = 0 := ps_eq0.mpr (fun k _ => by unfold wtd; rw [if_pos q])
    rw [e, if_pos (by rw [w5, q]; rfl)]
  · have e : ps (wtd (cfg A) day) = ps (fun k => exB (fun j => able (cfg A) j day && (cP (cfg A) k && (cC (cfg A) k == cC (cfg A) j))) (cN (cfg A))) := ps_cong (fun k _ => by unfold wtd; rw [if_neg q])
    rw [if_neg (by rw [w5, lit_0, ns_eq (by omega) (by omega)]; exact q), gd_ix hd (by omega), w20, mates_ok (t := 12) h.2.2.1 h.2.2.2.2.1 (fun k hk => cfg_P2 hk), bd_some, e]
theorem reckon_ok {S : Sg} {A : Ab} (h : RF S A) {x L day : Nat} (hx : x ≤ 16) (hL : L ≤ 9) (hd : day < 20) : ∃ S', fX8_reckonChance (nI x) (nI L) (nI day) S = some ((), S') ∧ RF S' A ∧ S'.2 41 4 = lN (drV (cfg A) x L day 0) ∧ S'.2 41 5 = lN (drV (cfg A) x L day 1) := by
  have h8 := cfg_8 h.1
  have et := wtd_et h hd
  have hw : ∀ k, wtd (cfg A) day k = true → k < cN (cfg A) := fun k hk => cfg_P (wtd_P hk)
  obtain ⟨S1, e1, f1, b1, g1⟩ := trial_ok h
  have h1 := h.scr (f1.scr (by omega))
  obtain ⟨S2, -, e2, -, f2, -⟩ := trialRun_ok h1 b1 (p := wtd (cfg A) day) rfl rfl rfl rfl hw
  have s2 : Stl 24 S2 (uP (cfg A) (wtd (cfg A) day)) := by
    obtain ⟨S4, q1, q2, q3⟩ := settle_ok (t := 24) (c := uP (cfg A) (wtd (cfg A) day)) (by omega) (Bd_uP b1) h1.1.2.2.2.1 ⟨fun _ _ => rfl, fun _ _ => rfl, hw⟩
    have e : fX0_settle 24 (ps (wtd (cfg A) day)) S1 = some ((), S4) := q1
    rw [e2] at e
    have : S2 = S4 := (Prod.mk.inj (Option.some.inj e)).2
    rw [this]
    exact q3
  have h2 := h1.scr (f2.scr (by omega))
  obtain ⟨L', hL'⟩ : ∃ L', L' = if day < L then day else L := ⟨_, rfl⟩
  have hL1 : L' ≤ day ∧ L' ≤ 9 := by rw [hL']; split <;> omega
  have eL : (if nI day < nI L then nI day else nI L) = nI L' := by
    rw [hL']
    by_cases q : day < L
    · rw [if_pos (by rw [ns_lt (by omega) (by omega)]; exact q), if_pos q]
    · rw [if_neg (by rw [ns_lt (by omega) (by omega)]; exact q), if_neg q]
  have e15 : (sI (sI (sI S2 41 0 (nI x)) 41 1 (nI L')) 41 2 (nI day)).1 0 15 = nI (cF (cfg A)) := by
    rw [sI1, if_neg (by omega), sI1, if_neg (by omega), sI1, if_neg (by omega)]
    exact h2.1.2.2.1.2
  generalize hS3 : sI (sI (sI (sI S2 41 0 (nI x)) 41 1 (nI L')) 41 2 (nI day)) 41 3 (nI (cF (cfg A))) = S3
  have f3 : fr 41 41 S2 S3 := by
    rw [← hS3]
    exact (((fr.rf.I (by omega) (by omega)).I (by omega) (by omega)).I (by omega) (by omega)).I (by omega) (by omega)
  have h3 := h2.scr (f3.scr (by omega))
  have b3 : Bd 24 S3 (cfg A) := (b1.fr f2 (by omega)).fr f3 (by omega)
  have s3 : Stl 24 S3 (uP (cfg A) (wtd (cfg A) day)) := ⟨fun j hj hq => by rw [f3.1 (24 + 5) j (by omega)]; exact s2.1 j hj hq, fun d hd => by rw [f3.1 (24 + 6) d (by omega), f3.1 (24 + 7) d (by omega), f3.1 (24 + 8) d (by omega)]; exact s2.2 d hd⟩
  have r1 : S3.1 41 1 = nI L' := by rw [← hS3, sI1, if_neg (by omega), sI1, if_neg (by omega), sI1, if_pos ⟨rfl, rfl⟩]
  have hc : chI S3 (cfg A) x L' day := by
    refine ⟨hx, hL1.1, hd, ?_, r1, ?_, ?_, h3.1.2.2.1.1, fun d hd => ⟨h3.2.2.2.2.2.2.1 d hd, tA_le⟩⟩
    · rw [← hS3, sI1, if_neg (by omega), sI1, if_neg (by omega), sI1, if_neg (by omega), sI1, if_pos ⟨rfl, rfl⟩]
    · rw [← hS3, sI1, if_neg (by omega), sI1, if_pos ⟨rfl, rfl⟩]
    · rw [← hS3, sI1, if_pos ⟨rfl, rfl⟩]
  have ef := fresh_ok (t := 24) b3
  have es := still_w b3 s3 hw hc
  have hK : ∀ k, k < cN (cfg A) → cK (cfg A) k ≤ 9 := fun k hk => (cfg_rng hk).2.2.2.2
  rw [← vv_wtd (c := cfg A) (fun k hk => cfg_P hk) hK hx] at es
  have hV := vv_le (c := cfg A) hx (a := cA (cfg A)) (L' + 1) day 0 (cK (cfg A))
  have hV2 : 16 ^ (L' + 1) ≤ 16 ^ 10 := Nat.pow_le_pow_right (by decide) (by omega)
  have d0 := drV_min (c := cfg A) (x := x) (L := L) (day := day) (w := 0)
  have d1 := drV_min (c := cfg A) (x := x) (L := L) (day := day) (w := 1)
  rw [← hL'] at d0 d1
  unfold drV at d0 d1
  rw [if_pos rfl] at d0
  rw [if_neg (by omega)] at d1
  rw [show drV (cfg A) x L day 0 = _ from d0.symm, show drV (cfg A) x L day 1 = _ from d1.symm]
  generalize vvS (cfg A) x (cA (cfg A)) (L' + 1) day 0 (cK (cfg A)) = V at es hV
  have er := reduce_ok (S := S3) (r := V) (p := 4 * (L' + 1)) (by omega) (by omega)
  refine ⟨sL (sL S3 41 4 (lN (V / 2 ^ hv (4 * (L' + 1)) V))) 41 5 (lN (2 ^ (4 * (L' + 1) - hv (4 * (L' + 1)) V))), ?_, h3.scr (fun _ _ _ _ _ _ => rfl), ?_, ?_⟩
  · unfold fX8_reckonChance
    rw [gd_ix hd (by omega), ns_cl (by omega), et, bd_some, e1, bd_some, e2, bd_some, eL, e15, hS3, ef, bd_some, lit_0, es, bd_some, r1, lit_4, lit_1, nI_add, pk_mul, er, bd_some]
  · rw [sL2, if_neg (by omega), sL2, if_pos ⟨rfl, rfl⟩]
  · rw [sL2, if_pos ⟨rfl, rfl⟩]
theorem drynessC_ok {S : Sg} {A : Ab} (h : RC S A) {x L day w : Nat} (hx : x ≤ 16) (hL : L ≤ 9) (hd : day < 20) (hw : w < 2) : ∃ S', fX8_dryness (nI x) (nI L) (nI day) (nI w) S = some (lN (drV (cfg A) x L day w), S') ∧ RF S' A := by
  obtain ⟨S1, e1, h1⟩ := bring_ok h
  obtain ⟨S2, e2, h2, q1, q2⟩ := reckon_ok h1 hx hL hd
  refine ⟨S2, ?_, h2⟩
  have hw2 : w = 0 ∨ w = 1 := by omega
  unfold fX8_dryness
  rw [lit_0, lit_16, lit_9, if_neg (by rw [ns_lt (by omega) (by omega)]; omega), if_neg (by rw [ns_lt (by omega) (by omega)]; omega), if_neg (by rw [ns_lt (by omega) (by omega)]; omega), if_neg (by rw [ns_lt (by omega) (by omega)]; omega), cDay_y hd, bd_some, if_neg (by decide), cEith_y hw, bd_some, if_neg (by decide), e1, bd_some, e2, bd_some]
  rcases hw2 with rfl | rfl
  · rw [if_pos rfl, q1]
  · rw [if_neg (by decide), q2]
