/-! count, weather, write -/
def cnV (A : Ab) (w : Nat) : Int32 := if w = 0 then nI (tN0 (aT A)) else if w = 1 then nI (cN (cfg A)) else if w = 2 then nI (aT A).1 else if w = 3 then nI (aU A).1 else if w = 4 then nI (aW A).1 else if w = 5 then nI (aO A).1 else if w = 6 then nI (allU (cfg A)) else if w = 7 then nI (aS A).1 else nI (aG A)
theorem nine {w : Nat} (h : w < 9) : w = 0 ∨ w = 1 ∨ w = 2 ∨ w = 3 ∨ w = 4 ∨ w = 5 ∨ w = 6 ∨ w = 7 ∨ w = 8 := by omega
theorem countC_ok {S : Sg} {A : Ab} (h : RC S A) {w : Nat} (hw : w < 9) : ∃ S', fX8_count (nI w) S = some (cnV A w, S') ∧ RF S' A := by
  obtain ⟨S1, e1, h1⟩ := bring_ok h
  refine ⟨S1, ?_, h1⟩
  have a0 := h1.2.2.2.2.2.1
  have a1 := h1.2.2.1.2.1
  have a2 := h1.1.1.2.1
  have a3 := h1.1.2.1.2.1
  have a4 := h1.1.2.2.2.1.2.2.1
  have a5 := h1.1.2.2.2.1.2.2.2.1
  have a6 := totalC_ok (t := 21) (S := S1) (c := cfg A) (fun d hd => fr_risen h1 hd)
  have a7 := h1.1.2.2.2.2.1.2.1
  have a8 := h1.1.2.2.2.2.2.2.2
  unfold fX8_count cnV
  rcases nine hw with rfl | rfl | rfl | rfl | rfl | rfl | rfl | rfl | rfl
  · simp (disch := omega) only [e1, bdq, gd_ix, lit_0, lit_1, lit_2, lit_3, lit_4, lit_5, lit_6, lit_7, lit_8, lit_9, lit_10, lit_15, lit_16, lit_19, lit_20, lit_31, lit_35, lit_36, lit_48, lit_49, lit_53, lit_55, lit_57, lit_59, lit_60, lit_63, lit_64, lit_97, lit_102, lit_110, lit_160, lit_255, nI_add, ns_sub, ns_div, ns_le, ns_lt, ns_eq, ns_cl, pk_mul, ne10, eq_self, ↓reduceIte, a0]
  · simp (disch := omega) only [e1, bdq, gd_ix, lit_0, lit_1, lit_2, lit_3, lit_4, lit_5, lit_6, lit_7, lit_8, lit_9, lit_10, lit_15, lit_16, lit_19, lit_20, lit_31, lit_35, lit_36, lit_48, lit_49, lit_53, lit_55, lit_57, lit_59, lit_60, lit_63, lit_64, lit_97, lit_102, lit_110, lit_160, lit_255, nI_add, ns_sub, ns_div, ns_le, ns_lt, ns_eq, ns_cl, pk_mul, ne10, eq_self, ↓reduceIte, a1]
  · simp (disch := omega) only [e1, bdq, gd_ix, lit_0, lit_1, lit_2, lit_3, lit_4, lit_5, lit_6, lit_7, lit_8, lit_9, lit_10, lit_15, lit_16, lit_19, lit_20, lit_31, lit_35, lit_36, lit_48, lit_49, lit_53, lit_55, lit_57, lit_59, lit_60, lit_63, lit_64, lit_97, lit_102, lit_110, lit_160, lit_255, nI_add, ns_sub, ns_div, ns_le, ns_lt, ns_eq, ns_cl, pk_mul, ne10, eq_self, ↓reduceIte, a2, Nat.reduceEqDiff]
  · simp (disch := omega) only [e1, bdq, gd_ix, lit_0, lit_1, lit_2, lit_3, lit_4, lit_5, lit_6, lit_7, lit_8, lit_9, lit_10, lit_15, lit_16, lit_19, lit_20, lit_31, lit_35, lit_36, lit_48, lit_49, lit_53, lit_55, lit_57, lit_59, lit_60, lit_63, lit_64, lit_97, lit_102, lit_110, lit_160, lit_255, nI_add, ns_sub, ns_div, ns_le, ns_lt, ns_eq, ns_cl, pk_mul, ne10, eq_self, ↓reduceIte, a3, Nat.reduceEqDiff]
  · simp (disch := omega) only [e1, bdq, gd_ix, lit_0, lit_1, lit_2, lit_3, lit_4, lit_5, lit_6, lit_7, lit_8, lit_9, lit_10, lit_15, lit_16, lit_19, lit_20, lit_31, lit_35, lit_36, lit_48, lit_49, lit_53, lit_55, lit_57, lit_59, lit_60, lit_63, lit_64, lit_97, lit_102, lit_110, lit_160, lit_255, nI_add, ns_sub, ns_div, ns_le, ns_lt, ns_eq, ns_cl, pk_mul, ne10, eq_self, ↓reduceIte, a4, Nat.reduceEqDiff]
  · simp (disch := omega) only [e1, bdq, gd_ix, lit_0, lit_1, lit_2, lit_3, lit_4, lit_5, lit_6, lit_7, lit_8, lit_9, lit_10, lit_15, lit_16, lit_19, lit_20, lit_31, lit_35, lit_36, lit_48, lit_49, lit_53, lit_55, lit_57, lit_59, lit_60, lit_63, lit_64, lit_97, lit_102, lit_110, lit_160, lit_255, nI_add, ns_sub, ns_div, ns_le, ns_lt, ns_eq, ns_cl, pk_mul, ne10, eq_self, ↓reduceIte, a5, Nat.reduceEqDiff]
  · simp (disch := omega) only [e1, bdq, gd_ix, lit_0, lit_1, lit_2, lit_3, lit_4, lit_5, lit_6, lit_7, lit_8, lit_9, lit_10, lit_15, lit_16, lit_19, lit_20, lit_31, lit_35, lit_36, lit_48, lit_49, lit_53, lit_55, lit_57, lit_59, lit_60, lit_63, lit_64, lit_97, lit_102, lit_110, lit_160, lit_255, nI_add, ns_sub, ns_div, ns_le, ns_lt, ns_eq, ns_cl, pk_mul, ne10, eq_self, ↓reduceIte, a6, Nat.reduceEqDiff]
  · simp (disch := omega) only [e1, bdq, gd_ix, lit_0, lit_1, lit_2, lit_3, lit_4, lit_5, lit_6, lit_7, lit_8, lit_9, lit_10, lit_15, lit_16, lit_19, lit_20, lit_31, lit_35, lit_36, lit_48, lit_49, lit_53, lit_55, lit_57, lit_59, lit_60, lit_63, lit_64, lit_97, lit_102, lit_110, lit_160, lit_255, nI_add, ns_sub, ns_div, ns_le, ns_lt, ns_eq, ns_cl, pk_mul, ne10, eq_self, ↓reduceIte, a7, Nat.reduceEqDiff]
  · simp (disch := omega) only [e1, bdq, gd_ix, lit_0, lit_1, lit_2, lit_3, lit_4, lit_5, lit_6, lit_7, lit_8, lit_9, lit_10, lit_15, lit_16, lit_19, lit_20, lit_31, lit_35, lit_36, lit_48, lit_49, lit_53, lit_55, lit_57, lit_59, lit_60, lit_63, lit_64, lit_97, lit_102, lit_110, lit_160, lit_255, nI_add, ns_sub, ns_div, ns_le, ns_lt, ns_eq, ns_cl, pk_mul, ne10, eq_self, ↓reduceIte, a8, Nat.reduceEqDiff]
theorem countM_ok {S : Sg} {A : Ab} (h : RM S A) {w : Nat} (hw : w < 9) : ∃ S', fX9_count (nI w) S = some (cnV A w, S') ∧ mz S S' := by
  by_cases hs : w = 0 ∨ w = 1 ∨ w = 6
  · obtain ⟨S1, e1, z1, r1, m1, d1⟩ := runsTold_ok h
    refine ⟨S1, ?_, z1⟩
    have a0 := r1.1
    have a1 := m1.2.1
    have a6 := allUpM_ok (S := S1) (c := cfg A) (fun d hd => (d1 d hd).1)
    unfold fX9_count fX9_sumOf cnV
    rcases hs with rfl | rfl | rfl
    · simp (disch := omega) only [e1, bdq, gd_ix, lit_0, lit_1, lit_2, lit_3, lit_4, lit_5, lit_6, lit_7, lit_8, lit_9, lit_10, lit_15, lit_16, lit_19, lit_20, lit_31, lit_35, lit_36, lit_48, lit_49, lit_53, lit_55, lit_57, lit_59, lit_60, lit_63, lit_64, lit_97, lit_102, lit_110, lit_160, lit_255, nI_add, ns_sub, ns_div, ns_le, ns_lt, ns_eq, ns_cl, pk_mul, ne10, eq_self, ↓reduceIte, a0]
    · simp (disch := omega) only [e1, bdq, gd_ix, lit_0, lit_1, lit_2, lit_3, lit_4, lit_5, lit_6, lit_7, lit_8, lit_9, lit_10, lit_15, lit_16, lit_19, lit_20, lit_31, lit_35, lit_36, lit_48, lit_49, lit_53, lit_55, lit_57, lit_59, lit_60, lit_63, lit_64, lit_97, lit_102, lit_110, lit_160, lit_255, nI_add, ns_sub, ns_div, ns_le, ns_lt, ns_eq, ns_cl, pk_mul, ne10, eq_self, ↓reduceIte, a1]
    · simp (disch := omega) only [e1, bdq, gd_ix, lit_0, lit_1, lit_2, lit_3, lit_4, lit_5, lit_6, lit_7, lit_8, lit_9, lit_10, lit_15, lit_16, lit_19, lit_20, lit_31, lit_35, lit_36, lit_48, lit_49, lit_53, lit_55, lit_57, lit_59, lit_60, lit_63, lit_64, lit_97, lit_102, lit_110, lit_160, lit_255, nI_add, ns_sub, ns_div, ns_le, ns_lt, ns_eq, ns_cl, pk_mul, ne10, eq_self, ↓reduceIte, a6, Nat.reduceEqDiff]
  · refine ⟨S, ?_, mz.rf⟩
    have a2 := h.1.2.1
    have a3 := h.2.1.2.1
    have a4 := h.2.2.2.1.2.2.1
    have a5 := h.2.2.2.1.2.2.2.1
    have a7 := h.2.2.2.2.1.2.1
    have a8 := h.2.2.2.2.2.2.2
    unfold fX9_count cnV
    rcases nine hw with rfl | rfl | rfl | rfl | rfl | rfl | rfl | rfl | rfl
    · exact absurd (Or.inl rfl) hs
    · exact absurd (Or.inr (Or.inl rfl)) hs
    · simp (disch := omega) only [bdq, gd_ix, lit_0, lit_1, lit_2, lit_3, lit_4, lit_5, lit_6, lit_7, lit_8, lit_9, lit_10, lit_15, lit_16, lit_19, lit_20, lit_31, lit_35, lit_36, lit_48, lit_49, lit_53, lit_55, lit_57, lit_59, lit_60, lit_63, lit_64, lit_97, lit_102, lit_110, lit_160, lit_255, nI_add, ns_sub, ns_div, ns_le, ns_lt, ns_eq, ns_cl, pk_mul, ne10, eq_self, ↓reduceIte, a2, Nat.reduceEqDiff, Nat.reduceSub]
    · simp (disch := omega) only [bdq, gd_ix, lit_0, lit_1, lit_2, lit_3, lit_4, lit_5, lit_6, lit_7, lit_8, lit_9, lit_10, lit_15, lit_16, lit_19, lit_20, lit_31, lit_35, lit_36, lit_48, lit_49, lit_53, lit_55, lit_57, lit_59, lit_60, lit_63, lit_64, lit_97, lit_102, lit_110, lit_160, lit_255, nI_add, ns_sub, ns_div, ns_le, ns_lt, ns_eq, ns_cl, pk_mul, ne10, eq_self, ↓reduceIte, a3, Nat.reduceEqDiff, Nat.reduceSub]
    · simp (disch := omega) only [bdq, gd_ix, lit_0, lit_1, lit_2, lit_3, lit_4, lit_5, lit_6, lit_7, lit_8, lit_9, lit_10, lit_15, lit_16, lit_19, lit_20, lit_31, lit_35, lit_36, lit_48, lit_49, lit_53, lit_55, lit_57, lit_59, lit_60, lit_63, lit_64, lit_97, lit_102, lit_110, lit_160, lit_255, nI_add, ns_sub, ns_div, ns_le, ns_lt, ns_eq, ns_cl, pk_mul, ne10, eq_self, ↓reduceIte, a4, Nat.reduceEqDiff]
    · simp (disch := omega) only [bdq, gd_ix, lit_0, lit_1, lit_2, lit_3, lit_4, lit_5, lit_6, lit_7, lit_8, lit_9, lit_10, lit_15, lit_16, lit_19, lit_20, lit_31, lit_35, lit_36, lit_48, lit_49, lit_53, lit_55, lit_57, lit_59, lit_60, lit_63, lit_64, lit_97, lit_102, lit_110, lit_160, lit_255, nI_add, ns_sub, ns_div, ns_le, ns_lt, ns_eq, ns_cl, pk_mul, ne10, eq_self, ↓reduceIte, a5, Nat.reduceEqDiff]
    · exact absurd (Or.inr (Or.inr rfl)) hs
    · simp (disch := omega) only [bdq, gd_ix, lit_0, lit_1, lit_2, lit_3, lit_4, lit_5, lit_6, lit_7, lit_8, lit_9, lit_10, lit_15, lit_16, lit_19, lit_20, lit_31, lit_35, lit_36, lit_48, lit_49, lit_53, lit_55, lit_57, lit_59, lit_60, lit_63, lit_64, lit_97, lit_102, lit_110, lit_160, lit_255, nI_add, ns_sub, ns_div, ns_le, ns_lt, ns_eq, ns_cl, pk_mul, ne10, eq_self, ↓reduceIte, a7, Nat.reduceEqDiff]
    · simp (disch := omega) only [bdq, gd_ix, lit_0, lit_1, lit_2, lit_3, lit_4, lit_5, lit_6, lit_7, lit_8, lit_9, lit_10, lit_15, lit_16, lit_19, lit_20, lit_31, lit_35, lit_36, lit_48, lit_49, lit_53, lit_55, lit_57, lit_59, lit_60, lit_63, lit_64, lit_97, lit_102, lit_110, lit_160, lit_255, nI_add, ns_sub, ns_div, ns_le, ns_lt, ns_eq, ns_cl, pk_mul, ne10, eq_self, ↓reduceIte, a8, Nat.reduceEqDiff]
theorem stp_count_ok : stp_count Inv := by
  rintro Sc Sm x1 ⟨A, hC, hM⟩
  by_cases g1 : rg x1 9
  · obtain ⟨w, hw, rfl⟩ := g1
    obtain ⟨S1, e1, h1⟩ := countC_ok hC hw
    obtain ⟨S2, e2, h2⟩ := countM_ok hM hw
    exact ⟨_, S1, S2, e1, e2, A, h1.c, hM.mz h2⟩
  · obtain ⟨S1, e1, h1⟩ := bring_ok hC
    have n0 : ¬ x1 = nI 0 := fun q => g1 ⟨0, by omega, q⟩
    have n1 : ¬ x1 = nI 1 := fun q => g1 ⟨1, by omega, q⟩
    have n2 : ¬ x1 = nI 2 := fun q => g1 ⟨2, by omega, q⟩
    have n3 : ¬ x1 = nI 3 := fun q => g1 ⟨3, by omega, q⟩
    have n4 : ¬ x1 = nI 4 := fun q => g1 ⟨4, by omega, q⟩
    have n5 : ¬ x1 = nI 5 := fun q => g1 ⟨5, by omega, q⟩
    have n6 : ¬ x1 = nI 6 := fun q => g1 ⟨6, by omega, q⟩
    have n7 : ¬ x1 = nI 7 := fun q => g1 ⟨7, by omega, q⟩
    have n8 : ¬ x1 = nI 8 := fun q => g1 ⟨8, by omega, q⟩
    refine ⟨-nI 2, S1, Sm, ?_, ?_, A, h1.c, hM⟩
    · unfold fX8_count
      simp (disch := omega) only [e1, bdq, gd_ix, lit_0, lit_1, lit_2, lit_3, lit_4, lit_5, lit_6, lit_7, lit_8, lit_9, lit_10, lit_15, lit_16, lit_19, lit_20, lit_31, lit_35, lit_36, lit_48, lit_49, lit_53, lit_55, lit_57, lit_59, lit_60, lit_63, lit_64, lit_97, lit_102, lit_110, lit_160, lit_255, nI_add, ns_sub, ns_div, ns_le, ns_lt, ns_eq, ns_cl, pk_mul, ne10, eq_self, ↓reduceIte, n0, n1, n2, n3, n4, n5, n6, n7, n8]
    · unfold fX9_count
      simp (disch := omega) only [bdq, gd_ix, lit_0, lit_1, lit_2, lit_3, lit_4, lit_5, lit_6, lit_7, lit_8, lit_9, lit_10, lit_15, lit_16, lit_19, lit_20, lit_31, lit_35, lit_36, lit_48, lit_49, lit_53, lit_55, lit_57, lit_59, lit_60, lit_63, lit_64, lit_97, lit_102, lit_110, lit_160, lit_255, nI_add, ns_sub, ns_div, ns_le, ns_lt, ns_eq, ns_cl, pk_mul, ne10, eq_self, ↓reduceIte, n0, n1, n2, n3, n4, n5, n6, n7, n8]
/-- other damps -/
def uA (c : Cf) (f : Nat → Nat) : Cf := (cN c, cD c, cC c, cK c, cP c, cW c, cO c, f, cF c)
theorem now_uA {c : Cf} {f : Nat → Nat} {k d : Nat} : now (uA c f) k d = now c k d := rfl
theorem able_uA {c : Cf} {f : Nat → Nat} {k d : Nat} : able (uA c f) k d = able c k d := rfl
theorem Bd.uA {t : Nat} {S : Sg} {c : Cf} {f : Nat → Nat} (h : Bd t S c) : Bd t S (uA c f) := h
theorem Stl.uA {t : Nat} {S : Sg} {c : Cf} {f : Nat → Nat} (h : Stl t S c) : Stl t S (uA c f) := h
theorem follow_uA {t tc td : Nat} {S : Sg} {c : Cf} {f : Nat → Nat} (hB : Bd t S c) (hS : Stl t S c) (hP : ∀ k, cP c k = true → k < cN c) (hA : ∀ d, d < 20 → S.1 td d = nI (f d) ∧ f d ≤ 9) (hF : cF c ≤ 9) (h1 : tc + 2 < t ∨ t + 8 < tc + 1) (h2 : td < tc + 1) : ∃ S', fX3_follow tc t td (nI (cF c)) S = some ((), S') ∧ fr (tc + 1) (tc + 2) S S' ∧ ∀ d, d < 20 → S'.1 (tc + 1) d = ps (fun k => up (uA c f) d k) := by
  obtain ⟨S', e, q1, q2⟩ := follow_ok (c := uA c f) (tc := tc) (td := td) hB.uA hS.uA hP hA hF h1 h2
  exact ⟨S', e, q1, fun d hd => (q2 d hd).1⟩
theorem Md.uA {S S' : Sg} {c : Cf} {nw no : Nat} {wd wl od ol : Nat → Nat} {mo : Nat → Bool} {f : Nat → Nat} (h : Md S c nw wd wl no od ol mo) (e : ∀ a j, ¬ a = 12 → S'.1 a j = S.1 a j) (hf : ∀ d, d < 20 → S'.1 12 d = nI (f d) ∧ f d ≤ 9) : Md S' (uA c f) nw wd wl no od ol mo := by
  obtain ⟨h1, h2, h3, h4, h5, h6, h7, h8, h9, h10, h11, h12, h13, h14, h15⟩ := h
  refine ⟨h1, by rw [e 0 4 (by omega)]; exact h2, fun k hk => ?_, h4, by rw [e 0 10 (by omega)]; exact h5, fun w hw => ?_, h7, by rw [e 0 13 (by omega)]; exact h8, fun o ho => ?_, hf, by rw [e 0 9 (by omega)]; exact h11, h12, by rw [e 0 17 (by omega)]; exact h13, by rw [e 0 18 (by omega)]; exact h14, h15⟩
  · rw [e 4 k (by omega), e 5 k (by omega), e 7 k (by omega)]; exact h3 k hk
  · rw [e 8 w (by omega), e 9 w (by omega)]; exact h6 w hw
  · rw [e 10 o (by omega), e 11 o (by omega)]; exact h9 o ho
theorem any_nI (x : Int32) : x = nI x.toBitVec.toNat := by
  apply Int32.toBitVec_inj.mp
  apply BitVec.eq_of_toNat_eq
  rw [pk_tn x.toBitVec.isLt]
theorem ush16 (x : Int32) : ush x (nI 16) = nI (x.toBitVec.toNat / 65536) := by
  have h := pk_ushrN x.toBitVec.isLt (nI 16) 16 (by decide)
  rw [← any_nI x] at h
  exact h
def lc (s : Int32) : Nat → Int32
  | 0 => s
  | n + 1 => 1103515245 * lc s n + 12345
theorem lc_s {s : Int32} {n : Nat} : lc s (n + 1) = 1103515245 * lc s n + 12345 := rfl
def wdm (s : Int32) (n d : Nat) : Nat := if d < n then (lc s (d + 1)).toBitVec.toNat / 65536 % 10 else 0
theorem wdm_le {s : Int32} {n d : Nat} : wdm s n d ≤ 9 := by unfold wdm; split <;> omega
theorem lot_ok (x : Int32) : ush x (nI 16) - ush x (nI 16) / nI 10 * nI 10 = nI (x.toBitVec.toNat / 65536 % 10) := by
  have := x.toBitVec.isLt
  rw [ush16 x, ns_rem (by omega) (by omega) (by omega)]
def dws (c : Cf) : Nat := fb_ct (fun d => exB (up c d) 8) 20
theorem daysSome_ok {t : Nat} {S : Sg} {c : Cf} (h : ∀ d, d < 20 → S.1 (t + 1) d = ps (fun k => up c d k)) : fX3_daysWithSome t S = some (nI (dws c), S) := by
  have key : lp (bX3_daysWithSome_4 t) fl (nI 0, nI 0) S = some ((nI (fb_ct (fun d => exB (up c d) 8) 20), nI 20), S) := by
    refine lp_fl (fun i => (nI (fb_ct (fun d => exB (up c d) 8) i), nI i)) (fun _ => S) 20 (by omega) (fun i hi rec => ?_) (fun rec => ?_)
    · have w := h i hi
      rw [fb_ct_succ]
      cases he : exB (up c i) 8 with
      | true =>
        obtain ⟨k, hk, hp⟩ := exB_iff.mp he
        have hz := ps_nz (p := fun k => up c i k) hk hp
        generalize ps (fun k => up c i k) = Y at w hz
        simp (disch := omega) only [bX3_daysWithSome_4, bdq, gd_ix, lit_0, lit_1, lit_2, lit_3, lit_4, lit_5, lit_6, lit_7, lit_8, lit_9, lit_10, lit_15, lit_16, lit_19, lit_20, lit_31, lit_35, lit_36, lit_48, lit_49, lit_53, lit_55, lit_57, lit_59, lit_60, lit_63, lit_64, lit_97, lit_102, lit_110, lit_160, lit_255, nI_add, ns_sub, ns_div, ns_le, ns_lt, ns_eq, ns_cl, pk_mul, ne10, eq_self, ↓reduceIte, w, hz, he, show ¬ 20 ≤ i from by omega]
      | false =>
        have hz : ps (fun k => up c i k) = nI 0 := ps_eq0.mpr (fun k hk => exB_false.mp he k hk)
        rw [hz] at w
        simp (disch := omega) only [bX3_daysWithSome_4, bdq, gd_ix, lit_0, lit_1, lit_2, lit_3, lit_4, lit_5, lit_6, lit_7, lit_8, lit_9, lit_10, lit_15, lit_16, lit_19, lit_20, lit_31, lit_35, lit_36, lit_48, lit_49, lit_53, lit_55, lit_57, lit_59, lit_60, lit_63, lit_64, lit_97, lit_102, lit_110, lit_160, lit_255, nI_add, ns_sub, ns_div, ns_le, ns_lt, ns_eq, ns_cl, pk_mul, ne10, eq_self, ↓reduceIte, w, he, Bool.false_eq_true, Nat.add_zero, show ¬ 20 ≤ i from by omega]
    · simp (disch := omega) only [bX3_daysWithSome_4, bdq, gd_ix, lit_0, lit_1, lit_2, lit_3, lit_4, lit_5, lit_6, lit_7, lit_8, lit_9, lit_10, lit_15, lit_16, lit_19, lit_20, lit_31, lit_35, lit_36, lit_48, lit_49, lit_53, lit_55, lit_57, lit_59, lit_60, lit_63, lit_64, lit_97, lit_102, lit_110, lit_160, lit_255, nI_add, ns_sub, ns_div, ns_le, ns_lt, ns_eq, ns_cl, pk_mul, ne10, eq_self, ↓reduceIte, Nat.le_refl]
  unfold fX3_daysWithSome
  rw [lit_0, key, bd_some]
  rfl
theorem weatherC_ok {S : Sg} {A : Ab} (h : RC S A) (s : Int32) {n w : Nat} (hn : 1 ≤ n) (hn2 : n ≤ 20) (hw : w < 2) : ∃ S', fX8_weather s (nI n) (nI w) S = some ((if w = 0 then nI (allU (uA (cfg A) (wdm s n))) else nI (dws (uA (cfg A) (wdm s n)))), S') ∧ RF S' A := by
  obtain ⟨S1, e1, h1⟩ := bring_ok h
  obtain ⟨a, S2, e2, ha, f2, r2⟩ := lp_invF (B := bX8_weather_31 (nI n)) (fun i a Sx => a = (lc s i, nI i) ∧ fr 6 6 S1 Sx ∧ ∀ d, d < i → Sx.1 6 d = nI (wdm s n d)) (fun a Sx => a = (lc s 20, nI 20) ∧ fr 6 6 S1 Sx ∧ ∀ d, d < 20 → Sx.1 6 d = nI (wdm s n d)) 20 (by omega) (by
    rintro i a Sx hi ⟨ha, hf, hr⟩
    subst ha
    by_cases hin : i < 20
    · refine Or.inl ⟨hin, (lc s (i + 1), nI (i + 1)), sI Sx 6 i (nI (wdm s n i)), fun rec => ?_, rfl, hf.I (by omega) (by omega), fun d hd => ?_⟩
      · have el := lc_s (s := s) (n := i)
        by_cases q : n ≤ i
        · have e : wdm s n i = 0 := by unfold wdm; rw [if_neg (by omega)]
          rw [e]
          generalize lc s (i + 1) = z at el
          generalize lc s i = y at el
          simp (disch := omega) only [bX8_weather_31, ← el, bdq, gd_ix, lit_0, lit_1, lit_20, nI_add, ns_le, ns_cl, q, show ¬ 20 ≤ i from by omega, ↓reduceIte]
        · have e : wdm s n i = (lc s (i + 1)).toBitVec.toNat / 65536 % 10 := by unfold wdm; rw [if_pos (by omega)]
          have ew := lot_ok (lc s (i + 1))
          rw [e]
          generalize lc s (i + 1) = z at el ew
          generalize lc s i = y at el
          simp (disch := omega) only [bX8_weather_31, ← el, ew, bdq, gd_ix, lit_0, lit_1, lit_10, lit_16, lit_20, nI_add, ns_le, ns_cl, q, show ¬ 20 ≤ i from by omega, ↓reduceIte]
      · rw [sI1]
        by_cases q : d = i
        · subst q; rw [if_pos ⟨rfl, rfl⟩]
        · rw [if_neg (by omega)]; exact hr d (by omega)
    · have hin2 : i = 20 := by omega
      subst hin2
      refine Or.inr ⟨(lc s 20, nI 20), Sx, fun rec => ?_, rfl, hf, hr⟩
      generalize lc s 20 = y
      simp (disch := omega) only [bX8_weather_31, bdq, gd_ix, lit_0, lit_1, lit_2, lit_3, lit_4, lit_5, lit_6, lit_7, lit_8, lit_9, lit_10, lit_15, lit_16, lit_19, lit_20, lit_31, lit_35, lit_36, lit_48, lit_49, lit_53, lit_55, lit_57, lit_59, lit_60, lit_63, lit_64, lit_97, lit_102, lit_110, lit_160, lit_255, nI_add, ns_sub, ns_div, ns_le, ns_lt, ns_eq, ns_cl, pk_mul, ne10, eq_self, ↓reduceIte, Nat.le_refl]) (s, nI 0) S1 ⟨rfl, fr.rf, fun d hd => absurd hd (by omega)⟩
  subst ha
  have h2 : RF S2 A := h1.scr (fun b j q1 q2 q3 q4 => f2.1 b j (by omega))
  obtain ⟨S3, e3, f3, r3⟩ := follow_uA (t := 12) (tc := 33) (td := 6) (c := cfg A) (f := wdm s n) h2.2.2.1 h2.2.2.2.2.1 (fun k hk => cfg_P hk) (fun d hd => ⟨r2 d hd, wdm_le⟩) h2.1.2.2.1.1 (by omega) (by omega)
  have h3 : RF S3 A := h2.scr (f3.scr (by omega))
  have e15 : S2.1 0 15 = nI (cF (cfg A)) := h2.1.2.2.1.2
  have et := totalC_ok (t := 33) (S := S3) (c := uA (cfg A) (wdm s n)) (fun d hd => r3 d hd)
  have ed := daysSome_ok (t := 33) (S := S3) (c := uA (cfg A) (wdm s n)) (fun d hd => r3 d hd)
  refine ⟨S3, ?_, h3⟩
  have hw2 : w = 0 ∨ w = 1 := by omega
  unfold fX8_weather
  rw [← e15] at e3
  generalize lc s 20 = y at e2
  rcases hw2 with rfl | rfl
  · simp (disch := omega) only [cEith_y, bdq, gd_ix, lit_0, lit_1, lit_2, lit_3, lit_4, lit_5, lit_6, lit_7, lit_8, lit_9, lit_10, lit_15, lit_16, lit_19, lit_20, lit_31, lit_35, lit_36, lit_48, lit_49, lit_53, lit_55, lit_57, lit_59, lit_60, lit_63, lit_64, lit_97, lit_102, lit_110, lit_160, lit_255, nI_add, ns_sub, ns_div, ns_le, ns_lt, ns_eq, ns_cl, pk_mul, ne10, eq_self, ↓reduceIte, e1, e2, e3, et, show ¬ n < 1 from by omega, show ¬ 20 < n from by omega]
  · simp (disch := omega) only [cEith_y, bdq, gd_ix, lit_0, lit_1, lit_2, lit_3, lit_4, lit_5, lit_6, lit_7, lit_8, lit_9, lit_10, lit_15, lit_16, lit_19, lit_20, lit_31, lit_35, lit_36, lit_48, lit_49, lit_53, lit_55, lit_57, lit_59, lit_60, lit_63, lit_64, lit_97, lit_102, lit_110, lit_160, lit_255, nI_add, ns_sub, ns_div, ns_le, ns_lt, ns_eq, ns_cl, pk_mul, ne10, eq_self, ↓reduceIte, e1, e2, e3, ed, show ¬ n < 1 from by omega, show ¬ 20 < n from by omega]
theorem lc_min {s : Int32} {n i : Nat} (h : i < n) : lc s (min (i + 1) n) = 1103515245 * lc s (min i n) + 12345 := by
  rw [Nat.min_eq_left (by omega), Nat.min_eq_left (by omega)]
  rfl
theorem weatherM_ok {S : Sg} {A : Ab} (h : RM S A) (s : Int32) {n w : Nat} (hn : 1 ≤ n) (hn2 : n ≤ 20) (hw : w < 2) : ∃ S', fX9_weatherOf s (nI n) (nI w) S = some ((if w = 0 then nI (allU (uA (cfg A) (wdm s n))) else nI (dws (uA (cfg A) (wdm s n)))), S') ∧ mz S S' := by
  obtain ⟨S1, e1, z1, r1, m1⟩ := asTold_ok h
  obtain ⟨a, S2, e2, ha, f2, r2⟩ := lp_invF (B := bX9_weatherOf_13 (nI n)) (fun i a Sx => a = (lc s (min i n), nI i) ∧ fr 12 12 S1 Sx ∧ ∀ d, d < i → Sx.1 12 d = nI (wdm s n d)) (fun a Sx => a = (lc s (min 20 n), nI 20) ∧ fr 12 12 S1 Sx ∧ ∀ d, d < 20 → Sx.1 12 d = nI (wdm s n d)) 20 (by omega) (by
    rintro i a Sx hi ⟨ha, hf, hr⟩
    subst ha
    by_cases hin : i < 20
    · refine Or.inl ⟨hin, (lc s (min (i + 1) n), nI (i + 1)), sI Sx 12 i (nI (wdm s n i)), fun rec => ?_, rfl, hf.I (by omega) (by omega), fun d hd => ?_⟩
      · by_cases q : n ≤ i
        · have e : wdm s n i = 0 := by unfold wdm; rw [if_neg (by omega)]
          have el : lc s (min (i + 1) n) = lc s (min i n) := by rw [Nat.min_eq_right (by omega), Nat.min_eq_right (by omega)]
          rw [e, el]
          generalize lc s (min i n) = y
          simp (disch := omega) only [bX9_weatherOf_13, bdq, gd_ix, lit_0, lit_1, lit_2, lit_3, lit_4, lit_5, lit_6, lit_7, lit_8, lit_9, lit_10, lit_15, lit_16, lit_19, lit_20, lit_31, lit_35, lit_36, lit_48, lit_49, lit_53, lit_55, lit_57, lit_59, lit_60, lit_63, lit_64, lit_97, lit_102, lit_110, lit_160, lit_255, nI_add, ns_sub, ns_div, ns_le, ns_lt, ns_eq, ns_cl, pk_mul, ne10, eq_self, ↓reduceIte, q, show ¬ 20 ≤ i from by omega]
        · have el := lc_min (s := s) (n := n) (i := i) (by omega)
          have e : wdm s n i = (lc s (min (i + 1) n)).toBitVec.toNat / 65536 % 10 := by unfold wdm; rw [if_pos (by omega), Nat.min_eq_left (by omega)]
          have ew := lot_ok (lc s (min (i + 1) n))
          rw [e]
          generalize lc s (min (i + 1) n) = z at el ew
          generalize lc s (min i n) = y at el
          simp (disch := omega) only [bX9_weatherOf_13, ← el, ew, bdq, gd_ix, lit_0, lit_1, lit_10, lit_16, lit_20, nI_add, ns_le, ns_cl, q, show ¬ 20 ≤ i from by omega, ↓reduceIte]
      · rw [sI1]
        by_cases q : d = i
        · subst q; rw [if_pos ⟨rfl, rfl⟩]
        · rw [if_neg (by omega)]; exact hr d (by omega)
    · have hin2 : i = 20 := by omega
      subst hin2
      refine Or.inr ⟨(lc s (min 20 n), nI 20), Sx, fun rec => ?_, rfl, hf, hr⟩
      generalize lc s (min 20 n) = y
      simp (disch := omega) only [bX9_weatherOf_13, bdq, gd_ix, lit_0, lit_1, lit_2, lit_3, lit_4, lit_5, lit_6, lit_7, lit_8, lit_9, lit_10, lit_15, lit_16, lit_19, lit_20, lit_31, lit_35, lit_36, lit_48, lit_49, lit_53, lit_55, lit_57, lit_59, lit_60, lit_63, lit_64, lit_97, lit_102, lit_110, lit_160, lit_255, nI_add, ns_sub, ns_div, ns_le, ns_lt, ns_eq, ns_cl, pk_mul, ne10, eq_self, ↓reduceIte, Nat.le_refl]) (s, nI 0) S1 ⟨by rw [Nat.min_eq_left (by omega)]; rfl, fr.rf, fun d hd => absurd hd (by omega)⟩
  subst ha
  have m2 : MdA S2 (uA (cfg A) (wdm s n)) A (fun _ => false) := m1.uA (fun b j q => f2.1 b j (by omega)) (fun d hd => ⟨r2 d hd, wdm_le⟩)
  obtain ⟨S3, e3, f3, n3, d3⟩ := runs_ok m2
  have hz : mz S S3 := (z1.tr (fun b j q1 q2 q3 q4 q5 => f2.1 b j (by omega))).tr f3.mz
  have hR : ∀ d, d < 20 → S3.1 15 d = pb (up (uA (cfg A) (wdm s n)) d) := fun d hd => (d3 d hd).1
  have et := allUpM_ok hR
  have ed : lp bX9_weatherOf_81 fl (nI 0, nI 0) S3 = some ((nI (dws (uA (cfg A) (wdm s n))), nI 20), S3) := by
    generalize uA (cfg A) (wdm s n) = c at hR
    refine lp_fl (fun i => (nI (fb_ct (fun d => exB (up c d) 8) i), nI i)) (fun _ => S3) 20 (by omega) (fun i hi rec => ?_) (fun rec => ?_)
    · have w := hR i hi
      rw [fb_ct_succ]
      cases he : exB (up c i) 8 with
      | true =>
        obtain ⟨k, hk, hp⟩ := exB_iff.mp he
        have hz : ¬ pb (up c i) = nI 0 := fun q => by
          rw [pb_eq0.mp q k hk] at hp; cases hp
        generalize pb (up c i) = Y at w hz
        simp (disch := omega) only [bX9_weatherOf_81, bdq, gd_ix, lit_0, lit_1, lit_2, lit_3, lit_4, lit_5, lit_6, lit_7, lit_8, lit_9, lit_10, lit_15, lit_16, lit_19, lit_20, lit_31, lit_35, lit_36, lit_48, lit_49, lit_53, lit_55, lit_57, lit_59, lit_60, lit_63, lit_64, lit_97, lit_102, lit_110, lit_160, lit_255, nI_add, ns_sub, ns_div, ns_le, ns_lt, ns_eq, ns_cl, pk_mul, ne10, eq_self, ↓reduceIte, w, hz, he, show ¬ 20 ≤ i from by omega]
      | false =>
        have hz : pb (up c i) = nI 0 := pb_eq0.mpr (fun k hk => exB_false.mp he k hk)
        rw [hz] at w
        simp (disch := omega) only [bX9_weatherOf_81, bdq, gd_ix, lit_0, lit_1, lit_2, lit_3, lit_4, lit_5, lit_6, lit_7, lit_8, lit_9, lit_10, lit_15, lit_16, lit_19, lit_20, lit_31, lit_35, lit_36, lit_48, lit_49, lit_53, lit_55, lit_57, lit_59, lit_60, lit_63, lit_64, lit_97, lit_102, lit_110, lit_160, lit_255, nI_add, ns_sub, ns_div, ns_le, ns_lt, ns_eq, ns_cl, pk_mul, ne10, eq_self, ↓reduceIte, w, he, Bool.false_eq_true, show ¬ 20 ≤ i from by omega]
    · simp (disch := omega) only [bX9_weatherOf_81, bdq, gd_ix, lit_0, lit_1, lit_2, lit_3, lit_4, lit_5, lit_6, lit_7, lit_8, lit_9, lit_10, lit_15, lit_16, lit_19, lit_20, lit_31, lit_35, lit_36, lit_48, lit_49, lit_53, lit_55, lit_57, lit_59, lit_60, lit_63, lit_64, lit_97, lit_102, lit_110, lit_160, lit_255, nI_add, ns_sub, ns_div, ns_le, ns_lt, ns_eq, ns_cl, pk_mul, ne10, eq_self, ↓reduceIte, Nat.le_refl]
      rfl
  refine ⟨S3, ?_, hz⟩
  have hw2 : w = 0 ∨ w = 1 := by omega
  generalize lc s (min 20 n) = y at e2
  unfold fX9_weatherOf
  rcases hw2 with rfl | rfl
  · simp (disch := omega) only [bdq, gd_ix, lit_0, lit_1, lit_2, lit_3, lit_4, lit_5, lit_6, lit_7, lit_8, lit_9, lit_10, lit_15, lit_16, lit_19, lit_20, lit_31, lit_35, lit_36, lit_48, lit_49, lit_53, lit_55, lit_57, lit_59, lit_60, lit_63, lit_64, lit_97, lit_102, lit_110, lit_160, lit_255, nI_add, ns_sub, ns_div, ns_le, ns_lt, ns_eq, ns_cl, pk_mul, ne10, eq_self, ↓reduceIte, e1, e2, e3, ed, et]
  · simp (disch := omega) only [bdq, gd_ix, lit_0, lit_1, lit_2, lit_3, lit_4, lit_5, lit_6, lit_7, lit_8, lit_9, lit_10, lit_15, lit_16, lit_19, lit_20, lit_31, lit_35, lit_36, lit_48, lit_49, lit_53, lit_55, lit_57, lit_59, lit_60, lit_63, lit_64, lit_97, lit_102, lit_110, lit_160, lit_255, nI_add, ns_sub, ns_div, ns_le, ns_lt, ns_eq, ns_cl, pk_mul, ne10, eq_self, ↓reduceIte, e1, e2, e3, ed]
theorem one20_n {x : Int32} (h : ¬ ∃ n, 1 ≤ n ∧ n ≤ 20 ∧ x = nI n) : x < nI 1 ∨ nI 20 < x := by
  by_cases q : rg x 21
  · obtain ⟨m, hm, rfl⟩ := q
    left
    rw [ns_lt (by omega) (by omega)]
    by_cases z : m = 0
    · omega
    · exact absurd ⟨m, by omega, by omega, rfl⟩ h
  · rcases rg_no2 (by omega) q (b := 20) rfl with z | z
    · left
      rw [fa_lt] at z ⊢
      have h0 : (nI 0 : Int32).toInt = 0 := by decide
      have h1 : (nI 1 : Int32).toInt = 1 := by decide
      omega
    · exact Or.inr z
theorem stp_weather_ok : stp_weather Inv := by
  rintro Sc Sm x1 x2 x3 ⟨A, hC, hM⟩
  by_cases g2 : ∃ n, 1 ≤ n ∧ n ≤ 20 ∧ x2 = nI n
  · obtain ⟨n, hn, hn2, rfl⟩ := g2
    by_cases g3 : rg x3 2
    · obtain ⟨w, hw, rfl⟩ := g3
      obtain ⟨S1, e1, h1⟩ := weatherC_ok hC x1 hn hn2 hw
      obtain ⟨S2, e2, h2⟩ := weatherM_ok hM x1 hn hn2 hw
      refine ⟨_, S1, S2, e1, ?_, A, h1.c, hM.mz h2⟩
      unfold fX9_weather
      simp (disch := omega) only [in_y2, in_y, bdq, gd_ix, lit_0, lit_1, lit_2, lit_3, lit_4, lit_5, lit_6, lit_7, lit_8, lit_9, lit_10, lit_15, lit_16, lit_19, lit_20, lit_31, lit_35, lit_36, lit_48, lit_49, lit_53, lit_55, lit_57, lit_59, lit_60, lit_63, lit_64, lit_97, lit_102, lit_110, lit_160, lit_255, nI_add, ns_sub, ns_div, ns_le, ns_lt, ns_eq, ns_cl, pk_mul, ne10, eq_self, ↓reduceIte, e2]
    · refine ⟨-nI 2, Sc, Sm, ?_, ?_, A, hC, hM⟩
      · unfold fX8_weather
        simp (disch := omega) only [cEith_n g3, bdq, gd_ix, lit_0, lit_1, lit_2, lit_3, lit_4, lit_5, lit_6, lit_7, lit_8, lit_9, lit_10, lit_15, lit_16, lit_19, lit_20, lit_31, lit_35, lit_36, lit_48, lit_49, lit_53, lit_55, lit_57, lit_59, lit_60, lit_63, lit_64, lit_97, lit_102, lit_110, lit_160, lit_255, nI_add, ns_sub, ns_div, ns_le, ns_lt, ns_eq, ns_cl, pk_mul, ne10, eq_self, ↓reduceIte, show ¬ n < 1 from by omega, show ¬ 20 < n from by omega]
      · unfold fX9_weather
        simp (disch := omega) only [in_y2, in_n g3 (b := 1) rfl (by omega), bdq, gd_ix, lit_0, lit_1, lit_2, lit_3, lit_4, lit_5, lit_6, lit_7, lit_8, lit_9, lit_10, lit_15, lit_16, lit_19, lit_20, lit_31, lit_35, lit_36, lit_48, lit_49, lit_53, lit_55, lit_57, lit_59, lit_60, lit_63, lit_64, lit_97, lit_102, lit_110, lit_160, lit_255, nI_add, ns_sub, ns_div, ns_le, ns_lt, ns_eq, ns_cl, pk_mul, ne10, eq_self, ↓reduceIte]
  · refine ⟨-nI 2, Sc, Sm, ?_, ?_, A, hC, hM⟩
    · unfold fX8_weather
      by_cases q : x2 < 1
      · rw [if_pos q]; rfl
      · rcases one20_n g2 with z | z
        · exact absurd z q
        · rw [if_neg q, lit_20, if_pos z]; rfl
    · have e : fX9_in x2 (nI 1) (nI 20) Sm = some (nI 0, Sm) := by
        unfold fX9_in
        by_cases q : x2 < nI 1
        · rw [if_pos q]; rfl
        · rcases one20_n g2 with z | z
          · exact absurd z q
          · rw [if_neg q, if_pos z]; rfl
      unfold fX9_weather
      simp (disch := omega) only [bdq, gd_ix, lit_0, lit_1, lit_2, lit_3, lit_4, lit_5, lit_6, lit_7, lit_8, lit_9, lit_10, lit_15, lit_16, lit_19, lit_20, lit_31, lit_35, lit_36, lit_48, lit_49, lit_53, lit_55, lit_57, lit_59, lit_60, lit_63, lit_64, lit_97, lit_102, lit_110, lit_160, lit_255, nI_add, ns_sub, ns_div, ns_le, ns_lt, ns_eq, ns_cl, pk_mul, ne10, eq_self, ↓reduceIte, e]
