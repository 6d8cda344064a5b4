/-! stands, state, up, through -/
theorem ne01 : ((0 : Nat) = 1) = False := by simp
theorem fr_risen {S : Sg} {A : Ab} (h : RF S A) {d : Nat} (hd : d < 20) : S.1 (21 + 1) d = ps (fun k => up (cfg A) d k) := (h.2.2.2.2.2.2.2 d hd).1
theorem fr_sg {S : Sg} {A : Ab} (h : RF S A) : sgB 12 S (cfg A) (sgn A) := h.2.2.2.1
theorem standsC_ok {S : Sg} {A : Ab} (h : RC S A) {d x : Nat} (hd : d < 20) (hx : x < 36) : ∃ S', fX8_stands (nI d) (nI x) S = some (shw (cfg A) (sgn A) d x, S') ∧ RF S' A := by
  obtain ⟨S1, e1, h1⟩ := bring_ok h
  refine ⟨S1, ?_, h1⟩
  have w : S1.1 22 d = ps (fun k => up (cfg A) d k) := fr_risen h1 hd
  have e2 := shownOn_ok h1.2.2.1 h1.2.2.2.2.1 (fr_sg h1) hd hx
  unfold fX8_stands
  simp (disch := omega) only [cDay_y, cCell_y, bd_some, gd_ix, lit_0, lit_1, lit_2, lit_3, lit_4, lit_5, lit_6, lit_7, lit_8, lit_9, lit_10, lit_15, lit_16, lit_19, lit_20, lit_31, lit_35, lit_36, lit_48, lit_49, lit_53, lit_55, lit_57, lit_59, lit_60, lit_63, lit_64, lit_97, lit_102, lit_110, lit_160, lit_255, nI_add, ns_sub, ns_div, ns_le, ns_lt, ns_eq, ns_cl, pk_mul, ne10, eq_self, ↓reduceIte, e1, w, e2]
theorem standsM0_ok {S : Sg} {A : Ab} (hr : Rr S A) (hm : MdA S (cfg A) A (fun _ => false)) (hd : ∀ d, d < 20 → Rd S (cfg A) d) {d x : Nat} (h20 : d < 20) (hx : x < 36) : fX9_standsNow (nI d) (nI x) S = some (shw (cfg A) (sgn A) d x, S) :=
  standsNow_ok hm.2.1 hm.1 (fun k hk => ⟨(hm.2.2.1 k hk).2.2.1, (hm.2.2.1 k hk).2.2.2.1⟩) (fun k hk => (hr.2.2.2 k hk).2.2.1) (hd d h20) h20 hx
theorem standsM_ok {S : Sg} {A : Ab} (h : RM S A) {d x : Nat} (hd : d < 20) (hx : x < 36) : ∃ S', fX9_standsOf (nI d) (nI x) S = some (shw (cfg A) (sgn A) d x, S') ∧ mz S S' ∧ Rr S' A := by
  obtain ⟨S1, e1, z1, r1, m1, d1⟩ := runsTold_ok h
  refine ⟨S1, ?_, z1, r1⟩
  unfold fX9_standsOf
  rw [e1, bd_some, standsM0_ok r1 m1 d1 hd hx, bd_some]
theorem stp_stands_ok : stp_stands Inv := by
  rintro Sc Sm x1 x2 ⟨A, hC, hM⟩
  by_cases g1 : rg x1 20
  · obtain ⟨d, hd, rfl⟩ := g1
    by_cases g2 : rg x2 36
    · obtain ⟨x, hx, rfl⟩ := g2
      obtain ⟨S1, e1, h1⟩ := standsC_ok hC hd hx
      obtain ⟨S2, e2, h2, -⟩ := standsM_ok hM hd hx
      refine ⟨_, S1, S2, e1, ?_, A, h1.c, hM.mz h2⟩
      unfold fX9_stands
      simp (disch := omega) only [mDay_y, mCell_y, bd_some, gd_ix, lit_0, lit_1, lit_2, lit_3, lit_4, lit_5, lit_6, lit_7, lit_8, lit_9, lit_10, lit_15, lit_16, lit_19, lit_20, lit_31, lit_35, lit_36, lit_48, lit_49, lit_53, lit_55, lit_57, lit_59, lit_60, lit_63, lit_64, lit_97, lit_102, lit_110, lit_160, lit_255, nI_add, ns_sub, ns_div, ns_le, ns_lt, ns_eq, ns_cl, pk_mul, ne10, eq_self, ↓reduceIte, e2]
    · refine ⟨-nI 2, Sc, Sm, ?_, ?_, A, hC, hM⟩
      · unfold fX8_stands
        simp (disch := omega) only [cDay_y, cCell_n g2, bd_some, gd_ix, lit_0, lit_1, lit_2, lit_3, lit_4, lit_5, lit_6, lit_7, lit_8, lit_9, lit_10, lit_15, lit_16, lit_19, lit_20, lit_31, lit_35, lit_36, lit_48, lit_49, lit_53, lit_55, lit_57, lit_59, lit_60, lit_63, lit_64, lit_97, lit_102, lit_110, lit_160, lit_255, nI_add, ns_sub, ns_div, ns_le, ns_lt, ns_eq, ns_cl, pk_mul, ne10, eq_self, ↓reduceIte]
      · unfold fX9_stands
        simp (disch := omega) only [mDay_y, mCell_n g2, bd_some, gd_ix, lit_0, lit_1, lit_2, lit_3, lit_4, lit_5, lit_6, lit_7, lit_8, lit_9, lit_10, lit_15, lit_16, lit_19, lit_20, lit_31, lit_35, lit_36, lit_48, lit_49, lit_53, lit_55, lit_57, lit_59, lit_60, lit_63, lit_64, lit_97, lit_102, lit_110, lit_160, lit_255, nI_add, ns_sub, ns_div, ns_le, ns_lt, ns_eq, ns_cl, pk_mul, ne10, eq_self, ↓reduceIte]
  · refine ⟨-nI 2, Sc, Sm, ?_, ?_, A, hC, hM⟩
    · unfold fX8_stands
      simp (disch := omega) only [cDay_n g1, bd_some, gd_ix, lit_0, lit_1, lit_2, lit_3, lit_4, lit_5, lit_6, lit_7, lit_8, lit_9, lit_10, lit_15, lit_16, lit_19, lit_20, lit_31, lit_35, lit_36, lit_48, lit_49, lit_53, lit_55, lit_57, lit_59, lit_60, lit_63, lit_64, lit_97, lit_102, lit_110, lit_160, lit_255, nI_add, ns_sub, ns_div, ns_le, ns_lt, ns_eq, ns_cl, pk_mul, ne10, eq_self, ↓reduceIte]
    · unfold fX9_stands
      simp (disch := omega) only [mDay_n g1, bd_some, gd_ix, lit_0, lit_1, lit_2, lit_3, lit_4, lit_5, lit_6, lit_7, lit_8, lit_9, lit_10, lit_15, lit_16, lit_19, lit_20, lit_31, lit_35, lit_36, lit_48, lit_49, lit_53, lit_55, lit_57, lit_59, lit_60, lit_63, lit_64, lit_97, lit_102, lit_110, lit_160, lit_255, nI_add, ns_sub, ns_div, ns_le, ns_lt, ns_eq, ns_cl, pk_mul, ne10, eq_self, ↓reduceIte]
/-- state -/
def stt (A : Ab) (d k w : Nat) : Int32 := if w = 0 then nI (if up (cfg A) d k = true then 3 else now (cfg A) k d) else if now (cfg A) k d = 2 then nI (stg (cfg A) (d + 1) k) else -nI 1
theorem stateC_ok {S : Sg} {A : Ab} (h : RC S A) {d k w : Nat} (hd : d < 20) (hk : k < cN (cfg A)) (hw : w < 2) : ∃ S', fX8_state (nI d) (nI k) (nI w) S = some (stt A d k w, S') ∧ RF S' A := by
  obtain ⟨S1, e1, h1⟩ := bring_ok h
  refine ⟨S1, ?_, h1⟩
  have h8 := cfg_8 h.1
  have w22 : S1.1 22 d = ps (fun k => up (cfg A) d k) := fr_risen h1 hd
  have w23 : S1.1 23 d = pk (sP (cfg A) (d + 1)) := (h1.2.2.2.2.2.2.2 d hd).2
  have w18 : S1.1 18 d = ps (fun k => now (cfg A) k d == 1) := (h1.2.2.2.2.1.2 d hd).1
  have w19 : S1.1 19 d = ps (fun k => now (cfg A) k d == 2) := (h1.2.2.2.2.1.2 d hd).2.1
  have hn := now_le (c := cfg A) (k := k) (d := d)
  have hw2 : w = 0 ∨ w = 1 := by omega
  have hu : up (cfg A) d k = true → now (cfg A) k d = 2 := up_2
  by_cases c2 : now (cfg A) k d = 2
  · have e2 : (now (cfg A) k d == 2) = true := by simpa using c2
    rcases hw2 with rfl | rfl
    · cases c3 : up (cfg A) d k with
      | true =>
        have hv : stt A d k 0 = nI 3 := by unfold stt; rw [if_pos rfl, c3, if_pos rfl]
        rw [hv]
        unfold fX8_state
        simp (disch := omega) only [e1, cDay_y, cStroke_y h1 hk, cEith_y, bd_some, gd_ix, lit_0, lit_1, lit_2, lit_3, lit_4, lit_5, lit_6, lit_7, lit_8, lit_9, lit_10, lit_15, lit_16, lit_19, lit_20, lit_31, lit_35, lit_36, lit_48, lit_49, lit_53, lit_55, lit_57, lit_59, lit_60, lit_63, lit_64, lit_97, lit_102, lit_110, lit_160, lit_255, nI_add, ns_sub, ns_div, ns_le, ns_lt, ns_eq, ns_cl, pk_mul, ne10, eq_self, ↓reduceIte, w19, w22, has_ok, e2, c3, ne01]
      | false =>
        have hv : stt A d k 0 = nI 2 := by unfold stt; rw [if_pos rfl, c3, if_neg (by simp), c2]
        rw [hv]
        unfold fX8_state
        simp (disch := omega) only [e1, cDay_y, cStroke_y h1 hk, cEith_y, bd_some, gd_ix, lit_0, lit_1, lit_2, lit_3, lit_4, lit_5, lit_6, lit_7, lit_8, lit_9, lit_10, lit_15, lit_16, lit_19, lit_20, lit_31, lit_35, lit_36, lit_48, lit_49, lit_53, lit_55, lit_57, lit_59, lit_60, lit_63, lit_64, lit_97, lit_102, lit_110, lit_160, lit_255, nI_add, ns_sub, ns_div, ns_le, ns_lt, ns_eq, ns_cl, pk_mul, ne10, eq_self, ↓reduceIte, w19, w22, has_ok, e2, c3, Bool.false_eq_true, ne01]
    · have hst : ∀ i, i < 8 → sP (cfg A) (d + 1) i < 16 := fun i hi => by
        unfold sP
        split
        · have := stg_le (c := cfg A) (k := i) (cfg_rng (by assumption)).2.2.2.2 (d + 1); omega
        · omega
      have hs := strIn_ok hst (show k < 8 by omega) S1
      have e5 : sP (cfg A) (d + 1) k = stg (cfg A) (d + 1) k := by unfold sP; rw [if_pos hk]
      rw [e5] at hs
      have hv : stt A d k 1 = nI (stg (cfg A) (d + 1) k) := by unfold stt; rw [if_neg (by omega), if_pos c2]
      rw [hv]
      unfold fX8_state
      simp (disch := omega) only [e1, cDay_y, cStroke_y h1 hk, cEith_y, bd_some, gd_ix, lit_0, lit_1, lit_2, lit_3, lit_4, lit_5, lit_6, lit_7, lit_8, lit_9, lit_10, lit_15, lit_16, lit_19, lit_20, lit_31, lit_35, lit_36, lit_48, lit_49, lit_53, lit_55, lit_57, lit_59, lit_60, lit_63, lit_64, lit_97, lit_102, lit_110, lit_160, lit_255, nI_add, ns_sub, ns_div, ns_le, ns_lt, ns_eq, ns_cl, pk_mul, ne10, eq_self, ↓reduceIte, w19, w23, has_ok, e2, hs]
  · have e2 : (now (cfg A) k d == 2) = false := beq_false_of_ne c2
    rcases hw2 with rfl | rfl
    · have c3 : up (cfg A) d k = false := by
        cases q : up (cfg A) d k with
        | false => rfl
        | true => exact absurd (hu q) c2
      by_cases c1 : now (cfg A) k d = 1
      · have e3 : (now (cfg A) k d == 1) = true := by simpa using c1
        have hv : stt A d k 0 = nI 1 := by unfold stt; rw [if_pos rfl, c3, if_neg (by simp), c1]
        rw [hv]
        unfold fX8_state
        simp (disch := omega) only [e1, cDay_y, cStroke_y h1 hk, cEith_y, bd_some, gd_ix, lit_0, lit_1, lit_2, lit_3, lit_4, lit_5, lit_6, lit_7, lit_8, lit_9, lit_10, lit_15, lit_16, lit_19, lit_20, lit_31, lit_35, lit_36, lit_48, lit_49, lit_53, lit_55, lit_57, lit_59, lit_60, lit_63, lit_64, lit_97, lit_102, lit_110, lit_160, lit_255, nI_add, ns_sub, ns_div, ns_le, ns_lt, ns_eq, ns_cl, pk_mul, ne10, eq_self, ↓reduceIte, w19, w18, has_ok, e2, e3, Bool.false_eq_true, ne01]
      · have e3 : (now (cfg A) k d == 1) = false := beq_false_of_ne c1
        have c0 : now (cfg A) k d = 0 := by omega
        have hv : stt A d k 0 = nI 0 := by unfold stt; rw [if_pos rfl, c3, if_neg (by simp), c0]
        rw [hv]
        unfold fX8_state
        simp (disch := omega) only [e1, cDay_y, cStroke_y h1 hk, cEith_y, bd_some, gd_ix, lit_0, lit_1, lit_2, lit_3, lit_4, lit_5, lit_6, lit_7, lit_8, lit_9, lit_10, lit_15, lit_16, lit_19, lit_20, lit_31, lit_35, lit_36, lit_48, lit_49, lit_53, lit_55, lit_57, lit_59, lit_60, lit_63, lit_64, lit_97, lit_102, lit_110, lit_160, lit_255, nI_add, ns_sub, ns_div, ns_le, ns_lt, ns_eq, ns_cl, pk_mul, ne10, eq_self, ↓reduceIte, w19, w18, has_ok, e2, e3, Bool.false_eq_true, ne01]
    · have hv : stt A d k 1 = -nI 1 := by unfold stt; rw [if_neg (by omega), if_neg c2]
      rw [hv]
      unfold fX8_state
      simp (disch := omega) only [e1, cDay_y, cStroke_y h1 hk, cEith_y, bd_some, gd_ix, lit_0, lit_1, lit_2, lit_3, lit_4, lit_5, lit_6, lit_7, lit_8, lit_9, lit_10, lit_15, lit_16, lit_19, lit_20, lit_31, lit_35, lit_36, lit_48, lit_49, lit_53, lit_55, lit_57, lit_59, lit_60, lit_63, lit_64, lit_97, lit_102, lit_110, lit_160, lit_255, nI_add, ns_sub, ns_div, ns_le, ns_lt, ns_eq, ns_cl, pk_mul, ne10, eq_self, ↓reduceIte, w19, has_ok, e2, Bool.false_eq_true]
theorem stateM_ok {S : Sg} {A : Ab} (h : RM S A) {d k w : Nat} (hd : d < 20) (hk : k < cN (cfg A)) (hw : w < 2) : ∃ S', fX9_stateOf (nI d) (nI k) (nI w) S = some (stt A d k w, S') ∧ mz S S' := by
  obtain ⟨S1, e1, z1, r1, m1, d1⟩ := runsTold_ok h
  have h8 := cfg_8m h
  refine ⟨S1, ?_, z1⟩
  obtain ⟨w16, w17⟩ := (d1 d hd).2 k hk
  have hw2 : w = 0 ∨ w = 1 := by omega
  unfold fX9_stateOf stt
  rcases hw2 with rfl | rfl
  · simp (disch := omega) only [e1, bd_some, gd_ix, lit_0, lit_1, lit_2, lit_3, lit_4, lit_5, lit_6, lit_7, lit_8, lit_9, lit_10, lit_15, lit_16, lit_19, lit_20, lit_31, lit_35, lit_36, lit_48, lit_49, lit_53, lit_55, lit_57, lit_59, lit_60, lit_63, lit_64, lit_97, lit_102, lit_110, lit_160, lit_255, nI_add, ns_sub, ns_div, ns_le, ns_lt, ns_eq, ns_cl, pk_mul, ne10, eq_self, ↓reduceIte, w16]
  · simp (disch := omega) only [e1, bd_some, gd_ix, lit_0, lit_1, lit_2, lit_3, lit_4, lit_5, lit_6, lit_7, lit_8, lit_9, lit_10, lit_15, lit_16, lit_19, lit_20, lit_31, lit_35, lit_36, lit_48, lit_49, lit_53, lit_55, lit_57, lit_59, lit_60, lit_63, lit_64, lit_97, lit_102, lit_110, lit_160, lit_255, nI_add, ns_sub, ns_div, ns_le, ns_lt, ns_eq, ns_cl, pk_mul, ne10, eq_self, ↓reduceIte, w17]
theorem stp_state_ok : stp_state Inv := by
  rintro Sc Sm x1 x2 x3 ⟨A, hC, hM⟩
  obtain ⟨S0, e0, h0⟩ := bring_ok hC
  obtain ⟨S2, z2, r2, y2, n2⟩ := mStroke_ok hM x2
  by_cases g1 : rg x1 20
  · obtain ⟨d, hd, rfl⟩ := g1
    by_cases g2 : rg x2 (cN (cfg A))
    · have e2 := y2 g2
      obtain ⟨k, hk, rfl⟩ := g2
      by_cases g3 : rg x3 2
      · obtain ⟨w, hw, rfl⟩ := g3
        obtain ⟨S1, e1, h1⟩ := stateC_ok hC hd hk hw
        obtain ⟨S3, e3, z3⟩ := stateM_ok (hM.mz z2) hd hk hw
        refine ⟨_, S1, S3, e1, ?_, A, h1.c, (hM.mz z2).mz z3⟩
        unfold fX9_state
        simp (disch := omega) only [mDay_y, e2, in_y, bd_some, gd_ix, lit_0, lit_1, lit_2, lit_3, lit_4, lit_5, lit_6, lit_7, lit_8, lit_9, lit_10, lit_15, lit_16, lit_19, lit_20, lit_31, lit_35, lit_36, lit_48, lit_49, lit_53, lit_55, lit_57, lit_59, lit_60, lit_63, lit_64, lit_97, lit_102, lit_110, lit_160, lit_255, nI_add, ns_sub, ns_div, ns_le, ns_lt, ns_eq, ns_cl, pk_mul, ne10, eq_self, ↓reduceIte, e3]
      · refine ⟨-nI 2, S0, S2, ?_, ?_, A, h0.c, hM.mz z2⟩
        · unfold fX8_state
          simp (disch := omega) only [e0, cDay_y, cStroke_y h0 hk, cEith_n g3, bd_some, gd_ix, lit_0, lit_1, lit_2, lit_3, lit_4, lit_5, lit_6, lit_7, lit_8, lit_9, lit_10, lit_15, lit_16, lit_19, lit_20, lit_31, lit_35, lit_36, lit_48, lit_49, lit_53, lit_55, lit_57, lit_59, lit_60, lit_63, lit_64, lit_97, lit_102, lit_110, lit_160, lit_255, nI_add, ns_sub, ns_div, ns_le, ns_lt, ns_eq, ns_cl, pk_mul, ne10, eq_self, ↓reduceIte]
        · unfold fX9_state
          simp (disch := omega) only [mDay_y, e2, in_n g3 (b := 1) rfl (by omega), bd_some, gd_ix, lit_0, lit_1, lit_2, lit_3, lit_4, lit_5, lit_6, lit_7, lit_8, lit_9, lit_10, lit_15, lit_16, lit_19, lit_20, lit_31, lit_35, lit_36, lit_48, lit_49, lit_53, lit_55, lit_57, lit_59, lit_60, lit_63, lit_64, lit_97, lit_102, lit_110, lit_160, lit_255, nI_add, ns_sub, ns_div, ns_le, ns_lt, ns_eq, ns_cl, pk_mul, ne10, eq_self, ↓reduceIte]
    · refine ⟨-nI 2, S0, S2, ?_, ?_, A, h0.c, hM.mz z2⟩
      · unfold fX8_state
        simp (disch := omega) only [e0, cDay_y, cStroke_n h0 g2, bd_some, gd_ix, lit_0, lit_1, lit_2, lit_3, lit_4, lit_5, lit_6, lit_7, lit_8, lit_9, lit_10, lit_15, lit_16, lit_19, lit_20, lit_31, lit_35, lit_36, lit_48, lit_49, lit_53, lit_55, lit_57, lit_59, lit_60, lit_63, lit_64, lit_97, lit_102, lit_110, lit_160, lit_255, nI_add, ns_sub, ns_div, ns_le, ns_lt, ns_eq, ns_cl, pk_mul, ne10, eq_self, ↓reduceIte]
      · unfold fX9_state
        simp (disch := omega) only [mDay_y, n2 g2, bd_some, gd_ix, lit_0, lit_1, lit_2, lit_3, lit_4, lit_5, lit_6, lit_7, lit_8, lit_9, lit_10, lit_15, lit_16, lit_19, lit_20, lit_31, lit_35, lit_36, lit_48, lit_49, lit_53, lit_55, lit_57, lit_59, lit_60, lit_63, lit_64, lit_97, lit_102, lit_110, lit_160, lit_255, nI_add, ns_sub, ns_div, ns_le, ns_lt, ns_eq, ns_cl, pk_mul, ne10, eq_self, ↓reduceIte]
  · refine ⟨-nI 2, S0, Sm, ?_, ?_, A, h0.c, hM⟩
    · unfold fX8_state
      simp (disch := omega) only [e0, cDay_n g1, bd_some, gd_ix, lit_0, lit_1, lit_2, lit_3, lit_4, lit_5, lit_6, lit_7, lit_8, lit_9, lit_10, lit_15, lit_16, lit_19, lit_20, lit_31, lit_35, lit_36, lit_48, lit_49, lit_53, lit_55, lit_57, lit_59, lit_60, lit_63, lit_64, lit_97, lit_102, lit_110, lit_160, lit_255, nI_add, ns_sub, ns_div, ns_le, ns_lt, ns_eq, ns_cl, pk_mul, ne10, eq_self, ↓reduceIte]
    · unfold fX9_state
      simp (disch := omega) only [mDay_n g1, bd_some, gd_ix, lit_0, lit_1, lit_2, lit_3, lit_4, lit_5, lit_6, lit_7, lit_8, lit_9, lit_10, lit_15, lit_16, lit_19, lit_20, lit_31, lit_35, lit_36, lit_48, lit_49, lit_53, lit_55, lit_57, lit_59, lit_60, lit_63, lit_64, lit_97, lit_102, lit_110, lit_160, lit_255, nI_add, ns_sub, ns_div, ns_le, ns_lt, ns_eq, ns_cl, pk_mul, ne10, eq_self, ↓reduceIte]
/-- up, through -/
theorem upC_ok {S : Sg} {A : Ab} (h : RC S A) {k : Nat} (hk : k < cN (cfg A)) : ∃ S', fX8_up (nI k) S = some (nI (upn (cfg A) k), S') ∧ RF S' A := by
  obtain ⟨S1, e1, h1⟩ := bring_ok h
  refine ⟨S1, ?_, h1⟩
  have h8 := cfg_8 h.1
  have e2 := upC1_ok (t := 21) (S := S1) (c := cfg A) (fun d hd => fr_risen h1 hd) (show k < 8 by omega)
  unfold fX8_up
  simp (disch := omega) only [e1, cStroke_y h1 hk, bd_some, gd_ix, lit_0, lit_1, lit_2, lit_3, lit_4, lit_5, lit_6, lit_7, lit_8, lit_9, lit_10, lit_15, lit_16, lit_19, lit_20, lit_31, lit_35, lit_36, lit_48, lit_49, lit_53, lit_55, lit_57, lit_59, lit_60, lit_63, lit_64, lit_97, lit_102, lit_110, lit_160, lit_255, nI_add, ns_sub, ns_div, ns_le, ns_lt, ns_eq, ns_cl, pk_mul, ne10, eq_self, ↓reduceIte, only_ok, e2]
theorem upM_ok {S : Sg} {A : Ab} (h : RM S A) {k : Nat} (hk : k < cN (cfg A)) : ∃ S', fX9_upOf (nI k) S = some (nI (upn (cfg A) k), S') ∧ mz S S' := by
  obtain ⟨S1, e1, z1, r1, m1, d1⟩ := runsTold_ok h
  have h8 := cfg_8m h
  refine ⟨S1, ?_, z1⟩
  unfold fX9_upOf
  rw [e1, bd_some, upsM_ok (fun d hd => (d1 d hd).1) (by omega), bd_some]
theorem stp_up_ok : stp_up Inv := by
  rintro Sc Sm x1 ⟨A, hC, hM⟩
  obtain ⟨S2, z2, r2, y2, n2⟩ := mStroke_ok hM x1
  by_cases g1 : rg x1 (cN (cfg A))
  · have e2 := y2 g1
    obtain ⟨k, hk, rfl⟩ := g1
    obtain ⟨S1, e1, h1⟩ := upC_ok hC hk
    obtain ⟨S3, e3, z3⟩ := upM_ok (hM.mz z2) hk
    refine ⟨_, S1, S3, e1, ?_, A, h1.c, (hM.mz z2).mz z3⟩
    unfold fX9_up
    simp (disch := omega) only [e2, bd_some, gd_ix, lit_0, lit_1, lit_2, lit_3, lit_4, lit_5, lit_6, lit_7, lit_8, lit_9, lit_10, lit_15, lit_16, lit_19, lit_20, lit_31, lit_35, lit_36, lit_48, lit_49, lit_53, lit_55, lit_57, lit_59, lit_60, lit_63, lit_64, lit_97, lit_102, lit_110, lit_160, lit_255, nI_add, ns_sub, ns_div, ns_le, ns_lt, ns_eq, ns_cl, pk_mul, ne10, eq_self, ↓reduceIte, e3]
  · obtain ⟨S1, e1, h1⟩ := bring_ok hC
    refine ⟨-nI 2, S1, S2, ?_, ?_, A, h1.c, hM.mz z2⟩
    · unfold fX8_up
      simp (disch := omega) only [e1, cStroke_n h1 g1, bd_some, gd_ix, lit_0, lit_1, lit_2, lit_3, lit_4, lit_5, lit_6, lit_7, lit_8, lit_9, lit_10, lit_15, lit_16, lit_19, lit_20, lit_31, lit_35, lit_36, lit_48, lit_49, lit_53, lit_55, lit_57, lit_59, lit_60, lit_63, lit_64, lit_97, lit_102, lit_110, lit_160, lit_255, nI_add, ns_sub, ns_div, ns_le, ns_lt, ns_eq, ns_cl, pk_mul, ne10, eq_self, ↓reduceIte]
    · unfold fX9_up
      simp (disch := omega) only [n2 g1, bd_some, gd_ix, lit_0, lit_1, lit_2, lit_3, lit_4, lit_5, lit_6, lit_7, lit_8, lit_9, lit_10, lit_15, lit_16, lit_19, lit_20, lit_31, lit_35, lit_36, lit_48, lit_49, lit_53, lit_55, lit_57, lit_59, lit_60, lit_63, lit_64, lit_97, lit_102, lit_110, lit_160, lit_255, nI_add, ns_sub, ns_div, ns_le, ns_lt, ns_eq, ns_cl, pk_mul, ne10, eq_self, ↓reduceIte]
theorem throughC_ok {S : Sg} {A : Ab} (h : RC S A) {d : Nat} (hd : d < 20) : ∃ S', fX8_through (nI d) S = some (nI (ctU (cfg A) d), S') ∧ RF S' A := by
  obtain ⟨S1, e1, h1⟩ := bring_ok h
  refine ⟨S1, ?_, h1⟩
  have w22 : S1.1 22 d = ps (fun k => up (cfg A) d k) := fr_risen h1 hd
  unfold fX8_through
  simp (disch := omega) only [cDay_y, bd_some, gd_ix, lit_0, lit_1, lit_2, lit_3, lit_4, lit_5, lit_6, lit_7, lit_8, lit_9, lit_10, lit_15, lit_16, lit_19, lit_20, lit_31, lit_35, lit_36, lit_48, lit_49, lit_53, lit_55, lit_57, lit_59, lit_60, lit_63, lit_64, lit_97, lit_102, lit_110, lit_160, lit_255, nI_add, ns_sub, ns_div, ns_le, ns_lt, ns_eq, ns_cl, pk_mul, ne10, eq_self, ↓reduceIte, e1, w22, bc_ok, bc_ps]
  rfl
theorem throughM_ok {S : Sg} {A : Ab} (h : RM S A) {d : Nat} (hd : d < 20) : ∃ S', fX9_throughOf (nI d) S = some (nI (ctU (cfg A) d), S') ∧ mz S S' := by
  obtain ⟨S1, e1, z1, r1, m1, d1⟩ := runsTold_ok h
  refine ⟨S1, ?_, z1⟩
  have w := (d1 d hd).1
  unfold fX9_throughOf
  simp (disch := omega) only [e1, bd_some, gd_ix, lit_0, lit_1, lit_2, lit_3, lit_4, lit_5, lit_6, lit_7, lit_8, lit_9, lit_10, lit_15, lit_16, lit_19, lit_20, lit_31, lit_35, lit_36, lit_48, lit_49, lit_53, lit_55, lit_57, lit_59, lit_60, lit_63, lit_64, lit_97, lit_102, lit_110, lit_160, lit_255, nI_add, ns_sub, ns_div, ns_le, ns_lt, ns_eq, ns_cl, pk_mul, ne10, eq_self, ↓reduceIte, w, ones_ok]
  rfl
theorem stp_through_ok : stp_through Inv := by
  rintro Sc Sm x1 ⟨A, hC, hM⟩
  by_cases g1 : rg x1 20
  · obtain ⟨d, hd, rfl⟩ := g1
    obtain ⟨S1, e1, h1⟩ := throughC_ok hC hd
    obtain ⟨S2, e2, h2⟩ := throughM_ok hM hd
    refine ⟨_, S1, S2, e1, ?_, A, h1.c, hM.mz h2⟩
    unfold fX9_through
    simp (disch := omega) only [mDay_y, bd_some, gd_ix, lit_0, lit_1, lit_2, lit_3, lit_4, lit_5, lit_6, lit_7, lit_8, lit_9, lit_10, lit_15, lit_16, lit_19, lit_20, lit_31, lit_35, lit_36, lit_48, lit_49, lit_53, lit_55, lit_57, lit_59, lit_60, lit_63, lit_64, lit_97, lit_102, lit_110, lit_160, lit_255, nI_add, ns_sub, ns_div, ns_le, ns_lt, ns_eq, ns_cl, pk_mul, ne10, eq_self, ↓reduceIte, e2]
  · refine ⟨-nI 2, Sc, Sm, ?_, ?_, A, hC, hM⟩
    · unfold fX8_through
      simp (disch := omega) only [cDay_n g1, bd_some, gd_ix, lit_0, lit_1, lit_2, lit_3, lit_4, lit_5, lit_6, lit_7, lit_8, lit_9, lit_10, lit_15, lit_16, lit_19, lit_20, lit_31, lit_35, lit_36, lit_48, lit_49, lit_53, lit_55, lit_57, lit_59, lit_60, lit_63, lit_64, lit_97, lit_102, lit_110, lit_160, lit_255, nI_add, ns_sub, ns_div, ns_le, ns_lt, ns_eq, ns_cl, pk_mul, ne10, eq_self, ↓reduceIte]
    · unfold fX9_through
      simp (disch := omega) only [mDay_n g1, bd_some, gd_ix, lit_0, lit_1, lit_2, lit_3, lit_4, lit_5, lit_6, lit_7, lit_8, lit_9, lit_10, lit_15, lit_16, lit_19, lit_20, lit_31, lit_35, lit_36, lit_48, lit_49, lit_53, lit_55, lit_57, lit_59, lit_60, lit_63, lit_64, lit_97, lit_102, lit_110, lit_160, lit_255, nI_add, ns_sub, ns_div, ns_le, ns_lt, ns_eq, ns_cl, pk_mul, ne10, eq_self, ↓reduceIte]
