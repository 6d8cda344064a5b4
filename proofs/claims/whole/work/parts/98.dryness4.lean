/-! dryness: the step -/
theorem lowest_ok {S : Sg} {V p w : Nat} (hV : V ≤ 2 ^ p) (hp : p ≤ 40) (hw : w < 2) : fX9_lowest (lN V) (lN (2 ^ p)) (nI w) S = some (lN (if w = 0 then V / 2 ^ hv p V else 2 ^ (p - hv p V)), S) := by
  have hp40 : 2 ^ p ≤ 2 ^ 40 := Nat.pow_le_pow_right (by decide) hp
  have hpos := Nat.two_pow_pos p
  have hl := hv_le p V
  have key : lp bX9_lowest_6 fl (lN V, lN (2 ^ p)) S = some ((lN (2 ^ hv p V), lN 0), S) := by
    rw [← hv_gcd p V]
    by_cases q : V = 2 ^ p
    · exact eu_ok 41 fl V (2 ^ p) (by omega) (by omega) (by omega) (by show 2 * 41 < 4096; omega)
    · show bX9_lowest_6 (lp bX9_lowest_6 4095) (lN V, lN (2 ^ p)) S = _
      rw [eu_go (by omega) (by omega) (by omega), Nat.mod_eq_of_lt (by omega), eu_ok 41 4095 (2 ^ p) V (by omega) (by omega) (by omega) (by omega), Nat.gcd_comm]
  have hh : 2 ^ hv p V ≤ 2 ^ 40 := Nat.pow_le_pow_right (by decide) (by omega)
  have hhp := Nat.two_pow_pos (hv p V)
  have hne : (!(lN (2 ^ hv p V) == 0)) = true := by
    have : ¬ lN (2 ^ hv p V) = 0 := by
      rw [show (0 : Int64) = lN 0 from rfl, pk_lEQ (by omega) (by omega)]
      omega
    simp [this]
  unfold fX9_lowest
  rw [key, bd_some]
  dsimp only
  have hw2 : w = 0 ∨ w = 1 := by omega
  rcases hw2 with rfl | rfl
  · rw [if_pos (show nI 0 = (0 : Int32) from rfl), if_pos rfl, gd_t hne, pk_lDiv (by omega) (by omega) (by omega)]
  · rw [if_neg (by decide), if_neg (by omega), gd_t hne, pk_lDiv (by omega) (by omega) (by omega), Nat.pow_div hl (by omega)]
theorem drynessM_ok {S : Sg} {A : Ab} (h : RM S A) {x L day w : Nat} (hx : x ≤ 16) (hL : L ≤ 9) (hd : day < 20) (hw : w < 2) : ∃ S', fX9_drynessOf (nI x) (nI L) (nI day) (nI w) S = some (lN (drV (cfg A) x L day w), S') ∧ mz S S' := by
  obtain ⟨S1, e1, z1, r1, m1⟩ := asTold_ok h
  obtain ⟨S2, e2, z2⟩ := sums_lp (S := S1) (c := cfg A) (x := x) (L := L) (day := day) hx hL hd m1 (fun d hd => r1.2.2.1 d hd)
  refine ⟨S2, ?_, z1.tr z2⟩
  have hs : fb_sm (drT (cfg A) x L day) (2 ^ (L + 1)) = vvS (cfg A) x (cA (cfg A)) (L + 1) day 0 (cK (cfg A)) := vv_sum hx (L + 1) day 0 (cK (cfg A))
  rw [hs] at e2
  have hV := vv_le (c := cfg A) hx (a := cA (cfg A)) (L + 1) day 0 (cK (cfg A))
  rw [p16] at hV
  unfold drV
  generalize vvS (cfg A) x (cA (cfg A)) (L + 1) day 0 (cK (cfg A)) = V at e2 hV
  have e3 := lowest_ok (S := S2) (V := V) (p := 4 * (L + 1)) (w := w) hV (by omega) hw
  unfold fX9_drynessOf
  rw [e1, bd_some, litL_0, lit_0, e2, bd_some]
  dsimp only
  rw [lit_4, lit_1, nI_add, pk_mul, one_shlL (4 * (L + 1)) (by omega), e3, bd_some]
theorem gt_no {x : Int32} {n b : Nat} (h : ¬ rg x n) (hb : n = b + 1) (hn : n < 2147483648) (h0 : ¬ x < nI 0) : nI b < x := by
  rcases rg_no2 hn h hb with z | z
  · exact absurd z h0
  · exact z
theorem mno {S : Sg} : fX9_no (-2 : Int32) S = some ((-9223372036854775806 : Int64), S) := by
  unfold fX9_no
  have : (-9223372036854775808 : Int64) - Int32.toInt64 (-2 : Int32) = (-9223372036854775806 : Int64) := by decide
  rw [this]
theorem stp_dryness_ok : stp_dryness Inv := by
  rintro Sc Sm x1 x2 x3 x4 ⟨A, hC, hM⟩
  by_cases g1 : rg x1 17
  · obtain ⟨x, hx, rfl⟩ := g1
    have i1 : ∀ T : Sg, fX9_in (nI x) (0 : Int32) (16 : Int32) T = some (nI 1, T) := fun T => in_y (b := 16) (by omega) (by omega)
    have c1 : ¬ nI x < (0 : Int32) := by rw [lit_0, ns_lt (by omega) (by omega)]; omega
    have c2 : ¬ (16 : Int32) < nI x := by rw [lit_16, ns_lt (by omega) (by omega)]; omega
    by_cases g2 : rg x2 10
    · obtain ⟨L, hL, rfl⟩ := g2
      have i2 : ∀ T : Sg, fX9_in (nI L) (0 : Int32) (9 : Int32) T = some (nI 1, T) := fun T => in_y (b := 9) (by omega) (by omega)
      have c3 : ¬ nI L < (0 : Int32) := by rw [lit_0, ns_lt (by omega) (by omega)]; omega
      have c4 : ¬ (9 : Int32) < nI L := by rw [lit_9, ns_lt (by omega) (by omega)]; omega
      by_cases g3 : rg x3 20
      · obtain ⟨day, hd, rfl⟩ := g3
        by_cases g4 : rg x4 2
        · obtain ⟨w, hw, rfl⟩ := g4
          obtain ⟨S1, e1, h1⟩ := drynessC_ok hC (x := x) (L := L) (day := day) (w := w) (by omega) (by omega) hd hw
          obtain ⟨S2, e2, h2⟩ := drynessM_ok hM (x := x) (L := L) (day := day) (w := w) (by omega) (by omega) hd hw
          refine ⟨_, S1, S2, e1, ?_, A, h1.c, hM.mz h2⟩
          have i4 : fX9_in (nI w) (0 : Int32) (1 : Int32) Sm = some (nI 1, Sm) := in_y (b := 1) (by omega) (by omega)
          unfold fX9_dryness
          rw [i1, bd_some, if_neg (by decide), i2, bd_some, if_neg (by decide), mDay_y hd, bd_some, if_neg (by decide), i4, bd_some, if_neg (by decide), e2, bd_some]
        · refine ⟨-9223372036854775806, Sc, Sm, ?_, ?_, A, hC, hM⟩
          · unfold fX8_dryness
            rw [if_neg c1, if_neg c2, if_neg c3, if_neg c4, cDay_y hd, bd_some, if_neg (by decide), cEith_n g4, bd_some, if_pos (by decide)]
          · have i4 : fX9_in x4 (0 : Int32) (1 : Int32) Sm = some (nI 0, Sm) := in_n g4 (b := 1) rfl (by omega)
            unfold fX9_dryness
            rw [i1, bd_some, if_neg (by decide), i2, bd_some, if_neg (by decide), mDay_y hd, bd_some, if_neg (by decide), i4, bd_some, if_pos (by decide), mno, bd_some]
      · refine ⟨-9223372036854775806, Sc, Sm, ?_, ?_, A, hC, hM⟩
        · unfold fX8_dryness
          rw [if_neg c1, if_neg c2, if_neg c3, if_neg c4, cDay_n g3, bd_some, if_pos (by decide)]
        · unfold fX9_dryness
          rw [i1, bd_some, if_neg (by decide), i2, bd_some, if_neg (by decide), mDay_n g3, bd_some, if_pos (by decide), mno, bd_some]
    · refine ⟨-9223372036854775806, Sc, Sm, ?_, ?_, A, hC, hM⟩
      · unfold fX8_dryness
        rw [if_neg c1, if_neg c2]
        by_cases q : x2 < 0
        · rw [if_pos q]
        · rw [if_neg q, if_pos (show (9 : Int32) < x2 from gt_no g2 (b := 9) rfl (by omega) q)]
      · have i2 : fX9_in x2 (0 : Int32) (9 : Int32) Sm = some (nI 0, Sm) := in_n g2 (b := 9) rfl (by omega)
        unfold fX9_dryness
        rw [i1, bd_some, if_neg (by decide), i2, bd_some, if_pos (by decide), mno, bd_some]
  · refine ⟨-9223372036854775806, Sc, Sm, ?_, ?_, A, hC, hM⟩
    · unfold fX8_dryness
      by_cases q : x1 < 0
      · rw [if_pos q]
      · rw [if_neg q, if_pos (show (16 : Int32) < x1 from gt_no g1 (b := 16) rfl (by omega) q)]
    · have i1 : fX9_in x1 (0 : Int32) (16 : Int32) Sm = some (nI 0, Sm) := in_n g1 (b := 16) rfl (by omega)
      unfold fX9_dryness
      rw [i1, bd_some, if_pos (by decide), mno, bd_some]
