/-! counts -/
theorem one_bit_256 : ∀ m, m < 256 → ∀ k, k < 8 → (nI m >>> (nI k &&& nI 31)) &&& nI 1 = nI (if m.testBit k = true then 1 else 0) := by decide +kernel
theorem pb_bit {p : Nat → Bool} {k : Nat} (hk : k < 8) : (pb p >>> (nI k &&& nI 31)) &&& nI 1 = nI (if p k = true then 1 else 0) := by
  unfold pb
  rw [one_bit_256 _ (ob_lt 8 p) k hk, ob_bit hk]
theorem ones_ok {p : Nat → Bool} {S : Sg} : fX9_ones (pb p) S = some (nI (fb_ct p 8), S) := by
  have key : lp (bX9_ones_4 (pb p)) fl (nI 0, nI 0) S = some ((nI (fb_ct p 8), nI 8), S) := by
    refine lp_fl (fun i => (nI (fb_ct p i), nI i)) (fun _ => S) 8 (by omega) (fun i hi rec => ?_) (fun rec => ?_)
    · simp (disch := omega) only [bX9_ones_4, bd_some, gd_ix, lit_0, lit_1, lit_2, lit_3, lit_4, lit_5, lit_6, lit_7, lit_8, lit_9, lit_10, lit_15, lit_16, lit_19, lit_20, lit_31, lit_35, lit_36, lit_48, lit_49, lit_53, lit_55, lit_57, lit_59, lit_60, lit_63, lit_64, lit_97, lit_102, lit_110, lit_160, lit_255, nI_add, ns_sub, ns_div, ns_le, ns_lt, ns_eq, ns_cl, pk_mul, ne10, eq_self, ↓reduceIte, pb_bit, show ¬ 8 ≤ i from by omega]
      rfl
    · simp (disch := omega) only [bX9_ones_4, bd_some, gd_ix, lit_0, lit_1, lit_2, lit_3, lit_4, lit_5, lit_6, lit_7, lit_8, lit_9, lit_10, lit_15, lit_16, lit_19, lit_20, lit_31, lit_35, lit_36, lit_48, lit_49, lit_53, lit_55, lit_57, lit_59, lit_60, lit_63, lit_64, lit_97, lit_102, lit_110, lit_160, lit_255, nI_add, ns_sub, ns_div, ns_le, ns_lt, ns_eq, ns_cl, pk_mul, ne10, eq_self, ↓reduceIte, Nat.le_refl]
  unfold fX9_ones
  have key' : lp (bX9_ones_4 (pb p)) fl (0, 0) S = some ((nI (fb_ct p 8), nI 8), S) := key
  rw [key', bd_some]
def ctU (c : Cf) (d : Nat) : Nat := fb_ct (up c d) 8
def allU (c : Cf) : Nat := fb_sm (ctU c) 20
def upn (c : Cf) (k : Nat) : Nat := fb_sm (fun d => if up c d k = true then 1 else 0) 20
theorem ctU_le {c : Cf} {d : Nat} : ctU c d ≤ 8 := fb_ct_le _ _
theorem allU_le {c : Cf} : allU c ≤ 160 := fb_sm_bound (c := 8) (n := 20) (fun k _ => ctU_le)
theorem upn_le {c : Cf} {k : Nat} : upn c k ≤ 20 := fb_sm_bound (c := 1) (n := 20) (fun d _ => by split <;> omega)
theorem upsM_ok {S : Sg} {c : Cf} (hR : ∀ d, d < 20 → S.1 15 d = pb (up c d)) {k : Nat} (hk : k < 8) : fX9_upsOf (nI k) S = some (nI (upn c k), S) := by
  have key : lp (bX9_upsOf_4 (nI k)) fl (nI 0, nI 0) S = some ((nI (upn c k), nI 20), S) := by
    refine lp_fl (fun i => (nI (fb_sm (fun d => if up c d k = true then 1 else 0) i), nI i)) (fun _ => S) 20 (by omega) (fun i hi rec => ?_) (fun rec => ?_)
    · simp (disch := omega) only [bX9_upsOf_4, bd_some, gd_ix, lit_0, lit_1, lit_2, lit_3, lit_4, lit_5, lit_6, lit_7, lit_8, lit_9, lit_10, lit_15, lit_16, lit_19, lit_20, lit_31, lit_35, lit_36, lit_48, lit_49, lit_53, lit_55, lit_57, lit_59, lit_60, lit_63, lit_64, lit_97, lit_102, lit_110, lit_160, lit_255, nI_add, ns_sub, ns_div, ns_le, ns_lt, ns_eq, ns_cl, pk_mul, ne10, eq_self, ↓reduceIte, hR i hi, pb_bit, show ¬ 20 ≤ i from by omega]
      rfl
    · simp (disch := omega) only [bX9_upsOf_4, bd_some, gd_ix, lit_0, lit_1, lit_2, lit_3, lit_4, lit_5, lit_6, lit_7, lit_8, lit_9, lit_10, lit_15, lit_16, lit_19, lit_20, lit_31, lit_35, lit_36, lit_48, lit_49, lit_53, lit_55, lit_57, lit_59, lit_60, lit_63, lit_64, lit_97, lit_102, lit_110, lit_160, lit_255, nI_add, ns_sub, ns_div, ns_le, ns_lt, ns_eq, ns_cl, pk_mul, ne10, eq_self, ↓reduceIte, Nat.le_refl]
      rfl
  unfold fX9_upsOf
  have key' : lp (bX9_upsOf_4 (nI k)) fl (0, 0) S = some ((nI (upn c k), nI 20), S) := key
  rw [key', bd_some]
theorem allUpM_ok {S : Sg} {c : Cf} (hR : ∀ d, d < 20 → S.1 15 d = pb (up c d)) : fX9_allUp S = some (nI (allU c), S) := by
  have key : lp bX9_allUp_4 fl (nI 0, nI 0) S = some ((nI (allU c), nI 20), S) := by
    refine lp_fl (fun i => (nI (fb_sm (ctU c) i), nI i)) (fun _ => S) 20 (by omega) (fun i hi rec => ?_) (fun rec => ?_)
    · simp (disch := omega) only [bX9_allUp_4, bd_some, gd_ix, lit_0, lit_1, lit_2, lit_3, lit_4, lit_5, lit_6, lit_7, lit_8, lit_9, lit_10, lit_15, lit_16, lit_19, lit_20, lit_31, lit_35, lit_36, lit_48, lit_49, lit_53, lit_55, lit_57, lit_59, lit_60, lit_63, lit_64, lit_97, lit_102, lit_110, lit_160, lit_255, nI_add, ns_sub, ns_div, ns_le, ns_lt, ns_eq, ns_cl, pk_mul, ne10, eq_self, ↓reduceIte, hR i hi, ones_ok, show ¬ 20 ≤ i from by omega]
      rfl
    · simp (disch := omega) only [bX9_allUp_4, bd_some, gd_ix, lit_0, lit_1, lit_2, lit_3, lit_4, lit_5, lit_6, lit_7, lit_8, lit_9, lit_10, lit_15, lit_16, lit_19, lit_20, lit_31, lit_35, lit_36, lit_48, lit_49, lit_53, lit_55, lit_57, lit_59, lit_60, lit_63, lit_64, lit_97, lit_102, lit_110, lit_160, lit_255, nI_add, ns_sub, ns_div, ns_le, ns_lt, ns_eq, ns_cl, pk_mul, ne10, eq_self, ↓reduceIte, Nat.le_refl]
      rfl
  unfold fX9_allUp
  have key' : lp bX9_allUp_4 fl (0, 0) S = some ((nI (allU c), nI 20), S) := key
  rw [key', bd_some]
/-- the class: a sum over the days of what a mask leaves -/
theorem upsC_ok {t : Nat} {S : Sg} {x : Int32} {p : Nat → Nat → Bool} (h : ∀ d, d < 20 → S.1 (t + 1) d &&& x = ps (p d)) : fX3_upsOf t x S = some (nI (fb_sm (fun d => fb_ct (p d) 8) 20), S) := by
  have key : lp (bX3_upsOf_4 t x) fl (nI 0, nI 0) S = some ((nI (fb_sm (fun d => fb_ct (p d) 8) 20), nI 20), S) := by
    refine lp_fl (fun i => (nI (fb_sm (fun d => fb_ct (p d) 8) i), nI i)) (fun _ => S) 20 (by omega) (fun i hi rec => ?_) (fun rec => ?_)
    · simp (disch := omega) only [bX3_upsOf_4, bd_some, gd_ix, lit_0, lit_1, lit_2, lit_3, lit_4, lit_5, lit_6, lit_7, lit_8, lit_9, lit_10, lit_15, lit_16, lit_19, lit_20, lit_31, lit_35, lit_36, lit_48, lit_49, lit_53, lit_55, lit_57, lit_59, lit_60, lit_63, lit_64, lit_97, lit_102, lit_110, lit_160, lit_255, nI_add, ns_sub, ns_div, ns_le, ns_lt, ns_eq, ns_cl, pk_mul, ne10, eq_self, ↓reduceIte, h i hi, bc_ok, bc_ps, show ¬ 20 ≤ i from by omega]
      rfl
    · simp (disch := omega) only [bX3_upsOf_4, bd_some, gd_ix, lit_0, lit_1, lit_2, lit_3, lit_4, lit_5, lit_6, lit_7, lit_8, lit_9, lit_10, lit_15, lit_16, lit_19, lit_20, lit_31, lit_35, lit_36, lit_48, lit_49, lit_53, lit_55, lit_57, lit_59, lit_60, lit_63, lit_64, lit_97, lit_102, lit_110, lit_160, lit_255, nI_add, ns_sub, ns_div, ns_le, ns_lt, ns_eq, ns_cl, pk_mul, ne10, eq_self, ↓reduceIte, Nat.le_refl]
  unfold fX3_upsOf
  have key' : lp (bX3_upsOf_4 t x) fl (0, 0) S = some ((nI (fb_sm (fun d => fb_ct (p d) 8) 20), nI 20), S) := key
  rw [key', bd_some]
theorem ct_one {p : Nat → Bool} {k : Nat} : ∀ n, fb_ct (fun j => p j && (j == k)) n = if k < n ∧ p k = true then 1 else 0
  | 0 => by simp [fb_ct]
  | n + 1 => by
    rw [fb_ct_succ, ct_one n]
    by_cases q : n = k
    · subst q
      cases hp : p n <;> simp
    · have e : (n == k) = false := beq_false_of_ne q
      simp only [e, Bool.and_false, Bool.false_eq_true, if_false, Nat.add_zero]
      by_cases q2 : k < n
      · simp [q2, show k < n + 1 by omega]
      · simp [q2, show ¬ k < n + 1 by omega]
theorem upC1_ok {t : Nat} {S : Sg} {c : Cf} (h : ∀ d, d < 20 → S.1 (t + 1) d = ps (fun k => up c d k)) {k : Nat} (hk : k < 8) : fX3_upsOf t (ps (fun i => i == k)) S = some (nI (upn c k), S) := by
  rw [upsC_ok (p := fun d j => up c d j && (j == k)) (fun d hd => by rw [h d hd, ps_and])]
  have e : fb_sm (fun d => fb_ct (fun j => up c d j && (j == k)) 8) 20 = upn c k := fb_sm_cong (fun d hd => by
    rw [ct_one 8]
    simp [hk])
  rw [e]
theorem totalC_ok {t : Nat} {S : Sg} {c : Cf} (h : ∀ d, d < 20 → S.1 (t + 1) d = ps (fun k => up c d k)) : fX3_total t S = some (nI (allU c), S) := by
  unfold fX3_total
  rw [upsC_ok (p := fun d k => up c d k) (fun d hd => by rw [h d hd, ps_m1]), bd_some]
  rfl
/-- strokes there are, on both sides -/
theorem cfg_8 {S : Sg} {A : Ab} (h : RB S A) : cN (cfg A) ≤ 8 := tN_le h.2.1.1
theorem cfg_8m {S : Sg} {A : Ab} (h : RM S A) : cN (cfg A) ≤ 8 := tN_le h.2.1.1
theorem cfg_rng {A : Ab} {k : Nat} (h : k < cN (cfg A)) : cD (cfg A) k < 20 ∧ cC (cfg A) k < 36 ∧ sgn A k ≤ 5 ∧ 1 ≤ cK (cfg A) k ∧ cK (cfg A) k ≤ 9 := t_rng (U := aU A) h
theorem cStroke_y {S : Sg} {A : Ab} (h : RF S A) {k : Nat} (hk : k < cN (cfg A)) : fX8_isStroke (nI k) S = some (nI 1, S) := by
  have h8 := cfg_8 h.1
  have e := h.2.2.1.2.1
  unfold fX8_isStroke
  simp (disch := omega) only [bd_some, gd_ix, lit_0, lit_1, lit_2, lit_3, lit_4, lit_5, lit_6, lit_7, lit_8, lit_9, lit_10, lit_15, lit_16, lit_19, lit_20, lit_31, lit_35, lit_36, lit_48, lit_49, lit_53, lit_55, lit_57, lit_59, lit_60, lit_63, lit_64, lit_97, lit_102, lit_110, lit_160, lit_255, nI_add, ns_sub, ns_div, ns_le, ns_lt, ns_eq, ns_cl, pk_mul, ne10, eq_self, ↓reduceIte, e, show ¬ k < 0 from by omega, show ¬ cN (cfg A) ≤ k from by omega]
theorem cStroke_n {S : Sg} {A : Ab} (h : RF S A) {x : Int32} (hx : ¬ rg x (cN (cfg A))) : fX8_isStroke x S = some (nI 0, S) := by
  have h8 := cfg_8 h.1
  unfold fX8_isStroke
  rw [h.2.2.1.2.1]
  exact lo_n hx (by omega)
theorem mStroke_ok {S : Sg} {A : Ab} (h : RM S A) (x : Int32) : ∃ S', mz S S' ∧ Rr S' A ∧ (rg x (cN (cfg A)) → fX9_isStroke x S = some (nI 1, S')) ∧ (¬ rg x (cN (cfg A)) → fX9_isStroke x S = some (nI 0, S')) := by
  have h8 := cfg_8m h
  obtain ⟨S1, e1, z1, r1⟩ := reads_ok h
  refine ⟨S1, z1, r1, ?_, ?_⟩
  · rintro ⟨k, hk, rfl⟩
    have r2 : S1.1 0 4 = nI (cN (cfg A)) := r1.2.1
    unfold fX9_isStroke
    rw [e1, bd_some, r2, lit_0, lit_1, in_my hk (by omega), bd_some, gd_t zb_1]
  · intro hx
    have r2 : S1.1 0 4 = nI (cN (cfg A)) := r1.2.1
    unfold fX9_isStroke
    rw [e1, bd_some, r2, lit_0, lit_1, in_mn hx (by omega), bd_some, gd_t zb_0]
/-- damp -/
theorem dampC_ok {S : Sg} {A : Ab} (h : RC S A) {d : Nat} (hd : d < 20) : ∃ S', fX8_damp (nI d) S = some (nI (cA (cfg A) d), S') ∧ RF S' A := by
  obtain ⟨S1, e1, h1⟩ := bring_ok h
  refine ⟨S1, ?_, h1⟩
  have w := h1.2.2.2.2.2.2.1 d hd
  unfold fX8_damp
  simp (disch := omega) only [cDay_y, bd_some, gd_ix, lit_0, lit_1, lit_2, lit_3, lit_4, lit_5, lit_6, lit_7, lit_8, lit_9, lit_10, lit_15, lit_16, lit_19, lit_20, lit_31, lit_35, lit_36, lit_48, lit_49, lit_53, lit_55, lit_57, lit_59, lit_60, lit_63, lit_64, lit_97, lit_102, lit_110, lit_160, lit_255, nI_add, ns_sub, ns_div, ns_le, ns_lt, ns_eq, ns_cl, pk_mul, ne10, eq_self, ↓reduceIte, e1, w]
theorem dampM_ok {S : Sg} {A : Ab} (h : RM S A) {d : Nat} (hd : d < 20) : ∃ S', fX9_dampOf (nI d) S = some (nI (cA (cfg A) d), S') ∧ mz S S' := by
  obtain ⟨S1, e1, z1, r1⟩ := reads_ok h
  refine ⟨S1, ?_, z1⟩
  have w : S1.1 3 d = nI (cA (cfg A) d) := r1.2.2.1 d hd
  unfold fX9_dampOf
  simp (disch := omega) only [bd_some, gd_ix, lit_0, lit_1, lit_2, lit_3, lit_4, lit_5, lit_6, lit_7, lit_8, lit_9, lit_10, lit_15, lit_16, lit_19, lit_20, lit_31, lit_35, lit_36, lit_48, lit_49, lit_53, lit_55, lit_57, lit_59, lit_60, lit_63, lit_64, lit_97, lit_102, lit_110, lit_160, lit_255, nI_add, ns_sub, ns_div, ns_le, ns_lt, ns_eq, ns_cl, pk_mul, ne10, eq_self, ↓reduceIte, e1, w]
theorem stp_damp_ok : stp_damp Inv := by
  rintro Sc Sm x1 ⟨A, hC, hM⟩
  by_cases g1 : rg x1 20
  · obtain ⟨d, hd, rfl⟩ := g1
    obtain ⟨S1, e1, h1⟩ := dampC_ok hC hd
    obtain ⟨S2, e2, h2⟩ := dampM_ok hM hd
    refine ⟨_, S1, S2, e1, ?_, A, h1.c, hM.mz h2⟩
    unfold fX9_damp
    simp (disch := omega) only [mDay_y, bd_some, gd_ix, lit_0, lit_1, lit_2, lit_3, lit_4, lit_5, lit_6, lit_7, lit_8, lit_9, lit_10, lit_15, lit_16, lit_19, lit_20, lit_31, lit_35, lit_36, lit_48, lit_49, lit_53, lit_55, lit_57, lit_59, lit_60, lit_63, lit_64, lit_97, lit_102, lit_110, lit_160, lit_255, nI_add, ns_sub, ns_div, ns_le, ns_lt, ns_eq, ns_cl, pk_mul, ne10, eq_self, ↓reduceIte, e2]
  · refine ⟨-nI 2, Sc, Sm, ?_, ?_, A, hC, hM⟩
    · unfold fX8_damp
      simp (disch := omega) only [cDay_n g1, bd_some, gd_ix, lit_0, lit_1, lit_2, lit_3, lit_4, lit_5, lit_6, lit_7, lit_8, lit_9, lit_10, lit_15, lit_16, lit_19, lit_20, lit_31, lit_35, lit_36, lit_48, lit_49, lit_53, lit_55, lit_57, lit_59, lit_60, lit_63, lit_64, lit_97, lit_102, lit_110, lit_160, lit_255, nI_add, ns_sub, ns_div, ns_le, ns_lt, ns_eq, ns_cl, pk_mul, ne10, eq_self, ↓reduceIte]
    · unfold fX9_damp
      simp (disch := omega) only [mDay_n g1, bd_some, gd_ix, lit_0, lit_1, lit_2, lit_3, lit_4, lit_5, lit_6, lit_7, lit_8, lit_9, lit_10, lit_15, lit_16, lit_19, lit_20, lit_31, lit_35, lit_36, lit_48, lit_49, lit_53, lit_55, lit_57, lit_59, lit_60, lit_63, lit_64, lit_97, lit_102, lit_110, lit_160, lit_255, nI_add, ns_sub, ns_div, ns_le, ns_lt, ns_eq, ns_cl, pk_mul, ne10, eq_self, ↓reduceIte]
/-- stroke -/
def stv (A : Ab) (k w : Nat) : Int32 := if w = 0 then nI (cD (cfg A) k) else if w = 1 then nI (cC (cfg A) k) else if w = 2 then nI (sgn A k) else nI (cK (cfg A) k)
theorem strokeC_ok {S : Sg} {A : Ab} (h : RC S A) {k w : Nat} (hk : k < cN (cfg A)) (hw : w < 4) : ∃ S', fX8_stroke (nI k) (nI w) S = some (stv A k w, S') ∧ RF S' A := by
  obtain ⟨S1, e1, h1⟩ := bring_ok h
  refine ⟨S1, ?_, h1⟩
  have h8 := cfg_8 h.1
  obtain ⟨k1, -, k2, -, k4, -⟩ := h1.2.2.1.2.2 k hk
  have k3 := h1.2.2.2.1 k hk
  have hw2 : w = 0 ∨ w = 1 ∨ w = 2 ∨ w = 3 := by omega
  unfold fX8_stroke stv
  rcases hw2 with rfl | rfl | rfl | rfl
  · simp (disch := omega) only [e1, cStroke_y h1 hk, bd_some, gd_ix, lit_0, lit_1, lit_2, lit_3, lit_4, lit_5, lit_6, lit_7, lit_8, lit_9, lit_10, lit_15, lit_16, lit_19, lit_20, lit_31, lit_35, lit_36, lit_48, lit_49, lit_53, lit_55, lit_57, lit_59, lit_60, lit_63, lit_64, lit_97, lit_102, lit_110, lit_160, lit_255, nI_add, ns_sub, ns_div, ns_le, ns_lt, ns_eq, ns_cl, pk_mul, ne10, eq_self, ↓reduceIte, show ¬ (0 : Nat) < 0 from by omega, show 0 ≤ 3 from by omega]
    exact congrArg (fun z => some (z, S1)) k1
  · simp (disch := omega) only [e1, cStroke_y h1 hk, bd_some, gd_ix, lit_0, lit_1, lit_2, lit_3, lit_4, lit_5, lit_6, lit_7, lit_8, lit_9, lit_10, lit_15, lit_16, lit_19, lit_20, lit_31, lit_35, lit_36, lit_48, lit_49, lit_53, lit_55, lit_57, lit_59, lit_60, lit_63, lit_64, lit_97, lit_102, lit_110, lit_160, lit_255, nI_add, ns_sub, ns_div, ns_le, ns_lt, ns_eq, ns_cl, pk_mul, ne10, eq_self, ↓reduceIte, show ¬ (1 : Nat) < 0 from by omega, show 1 ≤ 3 from by omega]
    exact congrArg (fun z => some (z, S1)) k2
  · simp (disch := omega) only [e1, cStroke_y h1 hk, bd_some, gd_ix, lit_0, lit_1, lit_2, lit_3, lit_4, lit_5, lit_6, lit_7, lit_8, lit_9, lit_10, lit_15, lit_16, lit_19, lit_20, lit_31, lit_35, lit_36, lit_48, lit_49, lit_53, lit_55, lit_57, lit_59, lit_60, lit_63, lit_64, lit_97, lit_102, lit_110, lit_160, lit_255, nI_add, ns_sub, ns_div, ns_le, ns_lt, ns_eq, ns_cl, pk_mul, ne10, eq_self, ↓reduceIte, show ¬ (2 : Nat) < 0 from by omega, show 2 ≤ 3 from by omega, Nat.reduceEqDiff]
    exact congrArg (fun z => some (z, S1)) k3
  · simp (disch := omega) only [e1, cStroke_y h1 hk, bd_some, gd_ix, lit_0, lit_1, lit_2, lit_3, lit_4, lit_5, lit_6, lit_7, lit_8, lit_9, lit_10, lit_15, lit_16, lit_19, lit_20, lit_31, lit_35, lit_36, lit_48, lit_49, lit_53, lit_55, lit_57, lit_59, lit_60, lit_63, lit_64, lit_97, lit_102, lit_110, lit_160, lit_255, nI_add, ns_sub, ns_div, ns_le, ns_lt, ns_eq, ns_cl, pk_mul, ne10, eq_self, ↓reduceIte, show ¬ (3 : Nat) < 0 from by omega, Nat.le_refl, Nat.reduceEqDiff]
    exact congrArg (fun z => some (z, S1)) k4
theorem strokeM_ok {S : Sg} {A : Ab} (h : Rr S A) (h8 : cN (cfg A) ≤ 8) {k w : Nat} (hk : k < cN (cfg A)) (hw : w < 4) : fX9_strokeOf (nI k) (nI w) S = some (stv A k w, S) := by
  obtain ⟨k1, k2, k3, k4⟩ := h.2.2.2 k hk
  have hw2 : w = 0 ∨ w = 1 ∨ w = 2 ∨ w = 3 := by omega
  unfold fX9_strokeOf stv
  rcases hw2 with rfl | rfl | rfl | rfl
  · simp (disch := omega) only [bd_some, gd_ix, lit_0, lit_1, lit_2, lit_3, lit_4, lit_5, lit_6, lit_7, lit_8, lit_9, lit_10, lit_15, lit_16, lit_19, lit_20, lit_31, lit_35, lit_36, lit_48, lit_49, lit_53, lit_55, lit_57, lit_59, lit_60, lit_63, lit_64, lit_97, lit_102, lit_110, lit_160, lit_255, nI_add, ns_sub, ns_div, ns_le, ns_lt, ns_eq, ns_cl, pk_mul, ne10, eq_self, ↓reduceIte]
    exact congrArg (fun z => some (z, S)) k1
  · simp (disch := omega) only [bd_some, gd_ix, lit_0, lit_1, lit_2, lit_3, lit_4, lit_5, lit_6, lit_7, lit_8, lit_9, lit_10, lit_15, lit_16, lit_19, lit_20, lit_31, lit_35, lit_36, lit_48, lit_49, lit_53, lit_55, lit_57, lit_59, lit_60, lit_63, lit_64, lit_97, lit_102, lit_110, lit_160, lit_255, nI_add, ns_sub, ns_div, ns_le, ns_lt, ns_eq, ns_cl, pk_mul, ne10, eq_self, ↓reduceIte]
    exact congrArg (fun z => some (z, S)) k2
  · simp (disch := omega) only [bd_some, gd_ix, lit_0, lit_1, lit_2, lit_3, lit_4, lit_5, lit_6, lit_7, lit_8, lit_9, lit_10, lit_15, lit_16, lit_19, lit_20, lit_31, lit_35, lit_36, lit_48, lit_49, lit_53, lit_55, lit_57, lit_59, lit_60, lit_63, lit_64, lit_97, lit_102, lit_110, lit_160, lit_255, nI_add, ns_sub, ns_div, ns_le, ns_lt, ns_eq, ns_cl, pk_mul, ne10, eq_self, ↓reduceIte, Nat.reduceEqDiff]
    exact congrArg (fun z => some (z, S)) k3
  · simp (disch := omega) only [bd_some, gd_ix, lit_0, lit_1, lit_2, lit_3, lit_4, lit_5, lit_6, lit_7, lit_8, lit_9, lit_10, lit_15, lit_16, lit_19, lit_20, lit_31, lit_35, lit_36, lit_48, lit_49, lit_53, lit_55, lit_57, lit_59, lit_60, lit_63, lit_64, lit_97, lit_102, lit_110, lit_160, lit_255, nI_add, ns_sub, ns_div, ns_le, ns_lt, ns_eq, ns_cl, pk_mul, ne10, eq_self, ↓reduceIte, Nat.reduceEqDiff]
    exact congrArg (fun z => some (z, S)) k4
theorem le_no {x : Int32} {n b : Nat} (h : ¬ rg x n) (hb : n = b + 1) (hn : n < 2147483648) (h0 : ¬ x < nI 0) : ¬ x ≤ nI b := by
  rcases rg_no2 hn h hb with z | z
  · exact absurd z h0
  · rw [fa_lt] at z
    rw [fa_le]
    omega
theorem stp_stroke_ok : stp_stroke Inv := by
  rintro Sc Sm x1 x2 ⟨A, hC, hM⟩
  have h8 := cfg_8 hC.1
  obtain ⟨S2, z2, r2, y2, n2⟩ := mStroke_ok hM x1
  by_cases g1 : rg x1 (cN (cfg A))
  · have e2 := y2 g1
    obtain ⟨k, hk, rfl⟩ := g1
    by_cases g2 : rg x2 4
    · obtain ⟨w, hw, rfl⟩ := g2
      obtain ⟨S1, e1, h1⟩ := strokeC_ok hC hk hw
      refine ⟨_, S1, S2, e1, ?_, A, h1.c, hM.mz z2⟩
      unfold fX9_stroke
      simp (disch := omega) only [e2, bd_some, gd_ix, lit_0, lit_1, lit_2, lit_3, lit_4, lit_5, lit_6, lit_7, lit_8, lit_9, lit_10, lit_15, lit_16, lit_19, lit_20, lit_31, lit_35, lit_36, lit_48, lit_49, lit_53, lit_55, lit_57, lit_59, lit_60, lit_63, lit_64, lit_97, lit_102, lit_110, lit_160, lit_255, nI_add, ns_sub, ns_div, ns_le, ns_lt, ns_eq, ns_cl, pk_mul, ne10, eq_self, ↓reduceIte, in_y, strokeM_ok r2 h8 hk hw]
    · obtain ⟨S1, e1, h1⟩ := bring_ok hC
      refine ⟨-nI 2, S1, S2, ?_, ?_, A, h1.c, hM.mz z2⟩
      · unfold fX8_stroke
        rw [e1, bd_some, cStroke_y h1 hk, bd_some, if_neg (by decide)]
        by_cases q : x2 < 0
        · rw [if_pos q]; rfl
        · rw [if_neg q, lit_3, if_neg (le_no g2 rfl (by omega) q)]; rfl
      · unfold fX9_stroke
        simp (disch := omega) only [e2, bd_some, gd_ix, lit_0, lit_1, lit_2, lit_3, lit_4, lit_5, lit_6, lit_7, lit_8, lit_9, lit_10, lit_15, lit_16, lit_19, lit_20, lit_31, lit_35, lit_36, lit_48, lit_49, lit_53, lit_55, lit_57, lit_59, lit_60, lit_63, lit_64, lit_97, lit_102, lit_110, lit_160, lit_255, nI_add, ns_sub, ns_div, ns_le, ns_lt, ns_eq, ns_cl, pk_mul, ne10, eq_self, ↓reduceIte, in_n g2 (b := 3) rfl (by omega)]
  · obtain ⟨S1, e1, h1⟩ := bring_ok hC
    refine ⟨-nI 2, S1, S2, ?_, ?_, A, h1.c, hM.mz z2⟩
    · unfold fX8_stroke
      simp (disch := omega) only [e1, cStroke_n h1 g1, bd_some, gd_ix, lit_0, lit_1, lit_2, lit_3, lit_4, lit_5, lit_6, lit_7, lit_8, lit_9, lit_10, lit_15, lit_16, lit_19, lit_20, lit_31, lit_35, lit_36, lit_48, lit_49, lit_53, lit_55, lit_57, lit_59, lit_60, lit_63, lit_64, lit_97, lit_102, lit_110, lit_160, lit_255, nI_add, ns_sub, ns_div, ns_le, ns_lt, ns_eq, ns_cl, pk_mul, ne10, eq_self, ↓reduceIte]
    · unfold fX9_stroke
      simp (disch := omega) only [n2 g1, bd_some, gd_ix, lit_0, lit_1, lit_2, lit_3, lit_4, lit_5, lit_6, lit_7, lit_8, lit_9, lit_10, lit_15, lit_16, lit_19, lit_20, lit_31, lit_35, lit_36, lit_48, lit_49, lit_53, lit_55, lit_57, lit_59, lit_60, lit_63, lit_64, lit_97, lit_102, lit_110, lit_160, lit_255, nI_add, ns_sub, ns_div, ns_le, ns_lt, ns_eq, ns_cl, pk_mul, ne10, eq_self, ↓reduceIte]
