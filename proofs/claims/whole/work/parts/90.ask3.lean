/-! ask: the reference's count, the step -/
theorem isInP {p : Nat → Bool} {k : Nat} (hk : k < 8) {S : Sg} : fX9_isIn (pb p) (nI k) S = some (bI (p k), S) := by
  rw [isIn_ok, isIn_pb hk]
  cases p k <;> rfl
theorem alikeM_ok {S : Sg} {n d k : Nat} {p : Nat → Bool} {v : Nat → Int32} (h8 : n ≤ 8) (hd : d < 20) (hk : k < n) (e4 : S.1 0 4 = nI n) (hv : ∀ j, j < n → S.1 21 (20 * j + d) = v j) : lp (bX9_askOf_103 (pb p) (nI d) (nI k)) fl (nI 0, nI 0) S = some ((nI (alk n p v k), nI n), S) := by
  have hb : ∀ j, j < n → fX9_isIn (pb p) (nI j) S = some (bI (p j), S) := fun j hj => isInP (by omega)
  refine lp_fl (fun i => (nI (fb_ct (fun j => (p k && p j) && decide (v j = v k)) i), nI i)) (fun _ => S) n (by omega) (fun i hi rec => ?_) (fun rec => ?_)
  · have hbk := hb k hk
    have hbi := hb i hi
    have wk := hv k hk
    have wi := hv i hi
    rw [fb_ct_succ]
    cases hp : p k with
    | false =>
      rw [hp] at hbk
      generalize pb p = P at hbk hbi
      simp (disch := omega) only [bX9_askOf_103, bdq, gd_ix, lit_0, lit_1, lit_2, lit_3, lit_4, lit_5, lit_6, lit_7, lit_8, lit_9, lit_10, lit_15, lit_16, lit_19, lit_20, lit_31, lit_35, lit_36, lit_48, lit_49, lit_53, lit_55, lit_57, lit_59, lit_60, lit_63, lit_64, lit_97, lit_102, lit_110, lit_160, lit_255, nI_add, ns_sub, ns_div, ns_le, ns_lt, ns_eq, ns_cl, pk_mul, ne10, eq_self, ↓reduceIte, e4, hbk, bI_f, Bool.false_and, Bool.false_eq_true, Nat.add_zero, show ¬ n ≤ i from by omega]
    | true =>
      rw [hp] at hbk
      cases hq : p i with
      | false =>
        rw [hq] at hbi
        generalize pb p = P at hbk hbi
        simp (disch := omega) only [bX9_askOf_103, bdq, gd_ix, lit_0, lit_1, lit_2, lit_3, lit_4, lit_5, lit_6, lit_7, lit_8, lit_9, lit_10, lit_15, lit_16, lit_19, lit_20, lit_31, lit_35, lit_36, lit_48, lit_49, lit_53, lit_55, lit_57, lit_59, lit_60, lit_63, lit_64, lit_97, lit_102, lit_110, lit_160, lit_255, nI_add, ns_sub, ns_div, ns_le, ns_lt, ns_eq, ns_cl, pk_mul, ne10, eq_self, ↓reduceIte, e4, hbk, hbi, bI_t, bI_f, Bool.and_false, Bool.false_and, Bool.false_eq_true, Nat.add_zero, show ¬ n ≤ i from by omega]
      | true =>
        rw [hq] at hbi
        generalize pb p = P at hbk hbi
        by_cases z : v i = v k
        · simp (disch := omega) only [bX9_askOf_103, bdq, gd_ix, lit_0, lit_1, lit_2, lit_3, lit_4, lit_5, lit_6, lit_7, lit_8, lit_9, lit_10, lit_15, lit_16, lit_19, lit_20, lit_31, lit_35, lit_36, lit_48, lit_49, lit_53, lit_55, lit_57, lit_59, lit_60, lit_63, lit_64, lit_97, lit_102, lit_110, lit_160, lit_255, nI_add, ns_sub, ns_div, ns_le, ns_lt, ns_eq, ns_cl, pk_mul, ne10, eq_self, ↓reduceIte, e4, hbk, hbi, bI_t, wi, wk, z, Bool.and_self, decide_true, Bool.true_and, show ¬ n ≤ i from by omega]
        · have z2 : ¬ v k = v i := fun q => z q.symm
          simp (disch := omega) only [bX9_askOf_103, bdq, gd_ix, lit_0, lit_1, lit_2, lit_3, lit_4, lit_5, lit_6, lit_7, lit_8, lit_9, lit_10, lit_15, lit_16, lit_19, lit_20, lit_31, lit_35, lit_36, lit_48, lit_49, lit_53, lit_55, lit_57, lit_59, lit_60, lit_63, lit_64, lit_97, lit_102, lit_110, lit_160, lit_255, nI_add, ns_sub, ns_div, ns_le, ns_lt, ns_eq, ns_cl, pk_mul, ne10, eq_self, ↓reduceIte, e4, hbk, hbi, bI_t, wi, wk, z, z2, Bool.and_self, decide_false, Bool.and_false, Bool.false_eq_true, Nat.add_zero, show ¬ n ≤ i from by omega]
  · show bX9_askOf_103 (pb p) (nI d) (nI k) rec (nI (alk n p v k), nI n) S = _
    generalize nI (alk n p v k) = Y
    generalize pb p = P
    simp (disch := omega) only [bX9_askOf_103, bdq, gd_ix, lit_0, lit_1, lit_2, lit_3, lit_4, lit_5, lit_6, lit_7, lit_8, lit_9, lit_10, lit_15, lit_16, lit_19, lit_20, lit_31, lit_35, lit_36, lit_48, lit_49, lit_53, lit_55, lit_57, lit_59, lit_60, lit_63, lit_64, lit_97, lit_102, lit_110, lit_160, lit_255, nI_add, ns_sub, ns_div, ns_le, ns_lt, ns_eq, ns_cl, pk_mul, ne10, eq_self, ↓reduceIte, e4, Nat.le_refl]
theorem mostAlikeM_ok {S : Sg} {n d : Nat} {p : Nat → Bool} {v : Nat → Int32} (h8 : n ≤ 8) (hd : d < 20) (e4 : S.1 0 4 = nI n) (hv : ∀ j, j < n → S.1 21 (20 * j + d) = v j) : lp (bX9_askOf_88 (pb p) (nI d)) fl (nI 0, nI 0) S = some ((nI (askD n p v), nI n), S) := by
  have hal : ∀ k, alk n p v k ≤ 8 := fun k => alk_le h8
  have hm : ∀ i, mxf (alk n p v) i ≤ 8 := fun i => mxf_le hal i
  refine lp_fl (fun i => (nI (mxf (alk n p v) i), nI i)) (fun _ => S) n (by omega) (fun i hi rec => ?_) (fun rec => ?_)
  · have e1 := alikeM_ok (S := S) (p := p) (v := v) h8 hd hi e4 hv
    have h1 := hal i
    have h2 := hm i
    show bX9_askOf_88 (pb p) (nI d) rec (nI (mxf (alk n p v) i), nI i) S = rec (nI (mxf (alk n p v) (i + 1)), nI (i + 1)) S
    rw [mxf_s]
    generalize alk n p v i = a at e1 h1
    generalize mxf (alk n p v) i = m at h2
    generalize pb p = P at e1
    by_cases q : m < a
    · rw [if_pos q]
      simp (disch := omega) only [bX9_askOf_88, bdq, gd_ix, lit_0, lit_1, lit_2, lit_3, lit_4, lit_5, lit_6, lit_7, lit_8, lit_9, lit_10, lit_15, lit_16, lit_19, lit_20, lit_31, lit_35, lit_36, lit_48, lit_49, lit_53, lit_55, lit_57, lit_59, lit_60, lit_63, lit_64, lit_97, lit_102, lit_110, lit_160, lit_255, nI_add, ns_sub, ns_div, ns_le, ns_lt, ns_eq, ns_cl, pk_mul, ne10, eq_self, ↓reduceIte, e4, e1, show ¬ a ≤ m from by omega, show ¬ n ≤ i from by omega]
    · rw [if_neg q]
      simp (disch := omega) only [bX9_askOf_88, bdq, gd_ix, lit_0, lit_1, lit_2, lit_3, lit_4, lit_5, lit_6, lit_7, lit_8, lit_9, lit_10, lit_15, lit_16, lit_19, lit_20, lit_31, lit_35, lit_36, lit_48, lit_49, lit_53, lit_55, lit_57, lit_59, lit_60, lit_63, lit_64, lit_97, lit_102, lit_110, lit_160, lit_255, nI_add, ns_sub, ns_div, ns_le, ns_lt, ns_eq, ns_cl, pk_mul, ne10, eq_self, ↓reduceIte, e4, e1, show a ≤ m from by omega, show ¬ n ≤ i from by omega]
  · show bX9_askOf_88 (pb p) (nI d) rec (nI (askD n p v), nI n) S = _
    generalize nI (askD n p v) = Y
    generalize pb p = P
    simp (disch := omega) only [bX9_askOf_88, bdq, gd_ix, lit_0, lit_1, lit_2, lit_3, lit_4, lit_5, lit_6, lit_7, lit_8, lit_9, lit_10, lit_15, lit_16, lit_19, lit_20, lit_31, lit_35, lit_36, lit_48, lit_49, lit_53, lit_55, lit_57, lit_59, lit_60, lit_63, lit_64, lit_97, lit_102, lit_110, lit_160, lit_255, nI_add, ns_sub, ns_div, ns_le, ns_lt, ns_eq, ns_cl, pk_mul, ne10, eq_self, ↓reduceIte, e4, Nat.le_refl]
theorem askM_lp {S : Sg} {P : Int32} {f : Nat → Nat} (hf : ∀ d, f d ≤ 1000) (h : ∀ d, d < 20 → ∃ y, lp (bX9_askOf_88 P (nI d)) fl (nI 0, nI 0) S = some ((nI (f d), y), S)) : lp (bX9_askOf_75 P) fl (-nI 1, nI 0, nI 0) S = some ((nI (amn f 19), nI (f (amn f 19)), nI 20), S) := by
  rw [show (-nI 1, nI 0, nI 0) = (mnB f 0, mnV f 0, nI 0) from rfl]
  refine lp_fl (fun i => (mnB f i, mnV f i, nI i)) (fun _ => S) 20 (by omega) (fun i hi rec => ?_) (fun rec => ?_)
  · obtain ⟨y, e1⟩ := h i hi
    have hfi := hf i
    show bX9_askOf_75 P rec (mnB f i, mnV f i, nI i) S = rec (mnB f (i + 1), mnV f (i + 1), nI (i + 1)) S
    cases i with
    | zero =>
      rw [mnB_s, mnV_s, amn_0, mnB_0, mnV_0]
      simp (disch := omega) only [bX9_askOf_75, bdq, gd_ix, lit_0, lit_1, lit_2, lit_3, lit_4, lit_5, lit_6, lit_7, lit_8, lit_9, lit_10, lit_15, lit_16, lit_19, lit_20, lit_31, lit_35, lit_36, lit_48, lit_49, lit_53, lit_55, lit_57, lit_59, lit_60, lit_63, lit_64, lit_97, lit_102, lit_110, lit_160, lit_255, nI_add, ns_sub, ns_div, ns_le, ns_lt, ns_eq, ns_cl, pk_mul, ne10, eq_self, ↓reduceIte, e1, show ¬ 20 ≤ 0 from by omega]
    | succ j =>
      have hj := amn_le f j
      have hl2 := hf (amn f j)
      rw [mnB_s, mnV_s, mnB_s, mnV_s, amn_s]
      by_cases q : f (j + 1) < f (amn f j)
      · rw [if_pos q]
        simp (disch := omega) only [bX9_askOf_75, bdq, gd_ix, lit_0, lit_1, lit_2, lit_3, lit_4, lit_5, lit_6, lit_7, lit_8, lit_9, lit_10, lit_15, lit_16, lit_19, lit_20, lit_31, lit_35, lit_36, lit_48, lit_49, lit_53, lit_55, lit_57, lit_59, lit_60, lit_63, lit_64, lit_97, lit_102, lit_110, lit_160, lit_255, nI_add, ns_sub, ns_div, ns_le, ns_lt, ns_eq, ns_cl, pk_mul, ne10, eq_self, ↓reduceIte, ne_m1, e1, show ¬ f (amn f j) ≤ f (j + 1) from by omega, show ¬ 20 ≤ j + 1 from by omega]
      · rw [if_neg q]
        simp (disch := omega) only [bX9_askOf_75, bdq, gd_ix, lit_0, lit_1, lit_2, lit_3, lit_4, lit_5, lit_6, lit_7, lit_8, lit_9, lit_10, lit_15, lit_16, lit_19, lit_20, lit_31, lit_35, lit_36, lit_48, lit_49, lit_53, lit_55, lit_57, lit_59, lit_60, lit_63, lit_64, lit_97, lit_102, lit_110, lit_160, lit_255, nI_add, ns_sub, ns_div, ns_le, ns_lt, ns_eq, ns_cl, pk_mul, ne10, eq_self, ↓reduceIte, ne_m1, e1, show f (amn f j) ≤ f (j + 1) from by omega, show ¬ 20 ≤ j + 1 from by omega]
  · show bX9_askOf_75 P rec (nI (amn f 19), nI (f (amn f 19)), nI 20) S = _
    generalize nI (f (amn f 19)) = Y
    generalize nI (amn f 19) = Z
    simp (disch := omega) only [bX9_askOf_75, bdq, gd_ix, lit_0, lit_1, lit_2, lit_3, lit_4, lit_5, lit_6, lit_7, lit_8, lit_9, lit_10, lit_15, lit_16, lit_19, lit_20, lit_31, lit_35, lit_36, lit_48, lit_49, lit_53, lit_55, lit_57, lit_59, lit_60, lit_63, lit_64, lit_97, lit_102, lit_110, lit_160, lit_255, nI_add, ns_sub, ns_div, ns_le, ns_lt, ns_eq, ns_cl, pk_mul, ne10, eq_self, ↓reduceIte, Nat.le_refl]
theorem askM_ok {S : Sg} {A : Ab} (h : RM S A) {x : Nat} (hx : x < 36) : ∃ S', fX9_askOf (nI x) S = some (nI (amn (asF A x) 19), S') ∧ mz S S' := by
  have h8 := cfg_8m h
  obtain ⟨S1, e1, z1, m1, g1⟩ := neverM_st h
  obtain ⟨S2, e2, z2, e4, q2⟩ := viewAllM_ok (S := S1) (c := cfg A) (G := sgn A) hx h8 cfg_dec m1 g1
  have e3 := askM_lp (S := S2) (P := pb (asP A)) (f := asF A x) (fun d => Nat.le_trans (askD_le h8) (by omega)) (fun d hd => ⟨nI (cN (cfg A)), mostAlikeM_ok (S := S2) (p := asP A) (v := fun k => vw A x k d) h8 hd e4 (fun j hj => q2 j hj d hd)⟩)
  refine ⟨S2, ?_, z1.tr z2⟩
  have e1' : fX9_neverNow S = some (pb (asP A), S1) := e1
  unfold fX9_askOf
  rw [e1', bd_some, lit_0, lit_1, e2, bd_some, e3, bd_some]
theorem stp_ask_ok : stp_ask Inv := by
  rintro Sc Sm x1 ⟨A, hC, hM⟩
  by_cases g1 : rg x1 36
  · obtain ⟨x, hx, rfl⟩ := g1
    obtain ⟨S1, e1, h1⟩ := askC_ok hC hx
    obtain ⟨S2, e2, h2⟩ := askM_ok hM hx
    refine ⟨_, S1, S2, e1, ?_, A, h1.c, hM.mz h2⟩
    unfold fX9_ask
    rw [mCell_y hx, bd_some, if_neg (by decide), e2, bd_some]
  · refine ⟨-nI 2, Sc, Sm, ?_, ?_, A, hC, hM⟩
    · unfold fX8_ask
      simp (disch := omega) only [cCell_n g1, bdq, gd_ix, lit_0, lit_1, lit_2, lit_3, lit_4, lit_5, lit_6, lit_7, lit_8, lit_9, lit_10, lit_15, lit_16, lit_19, lit_20, lit_31, lit_35, lit_36, lit_48, lit_49, lit_53, lit_55, lit_57, lit_59, lit_60, lit_63, lit_64, lit_97, lit_102, lit_110, lit_160, lit_255, nI_add, ns_sub, ns_div, ns_le, ns_lt, ns_eq, ns_cl, pk_mul, ne10, eq_self, ↓reduceIte]
    · unfold fX9_ask
      simp (disch := omega) only [mCell_n g1, bdq, gd_ix, lit_0, lit_1, lit_2, lit_3, lit_4, lit_5, lit_6, lit_7, lit_8, lit_9, lit_10, lit_15, lit_16, lit_19, lit_20, lit_31, lit_35, lit_36, lit_48, lit_49, lit_53, lit_55, lit_57, lit_59, lit_60, lit_63, lit_64, lit_97, lit_102, lit_110, lit_160, lit_255, nI_add, ns_sub, ns_div, ns_le, ns_lt, ns_eq, ns_cl, pk_mul, ne10, eq_self, ↓reduceIte]
