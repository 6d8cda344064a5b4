/-! the reference: who comes up -/
def bI (b : Bool) : Int32 := if b = true then nI 1 else nI 0
theorem bI_t : bI true = nI 1 := rfl
theorem bI_f : bI false = nI 0 := rfl
theorem zb_bI (b : Bool) : zb (bI b) = true := by cases b <;> decide
theorem isOiled_ok {S : Sg} {c : Cf} {nw no : Nat} {wd wl od ol : Nat → Nat} {mo : Nat → Bool} (h : Md S c nw wd wl no od ol mo) {d l : Nat} (hd : d < 20) (hl : l < 6) : fX9_isOiled (nI l) (nI d) S = some (bI (cO c l d), S) := by
  have h4 := h.2.2.2.2.2.2.1
  have h13 := h.2.2.2.2.2.2.2.1
  have ho := h.2.2.2.2.2.2.2.2.1
  have hm := h.2.2.2.2.2.2.2.2.2.2.2.2.2.1 l hl
  have hO := h.2.2.2.2.2.2.2.2.2.2.2.2.2.2.2.1 l d
  have e1 : lp (bX9_isOiled_12 (nI l) (nI d)) fl (bI (mo l), nI 0) S = some ((bI (cO c l d), nI no), S) := by
    have := lp_fl (B := bX9_isOiled_12 (nI l) (nI d)) (fun i => (bI (mo l || exB (fun o => ol o == l && decide (od o ≤ d)) i), nI i)) (fun _ => S) no (out := some ((bI (cO c l d), nI no), S)) (by omega) (by
      intro i hi rec
      obtain ⟨o1, o2, o3, o4⟩ := ho i hi
      rw [exB]
      cases hb : (mo l || exB (fun o => ol o == l && decide (od o ≤ d)) i) with
      | true =>
        rw [← Bool.or_assoc, hb]
        simp (disch := omega) only [bX9_isOiled_12, h13, bd_some, gd_ix, lit_0, lit_1, lit_2, lit_3, lit_4, lit_5, lit_6, lit_7, lit_8, lit_9, lit_10, lit_15, lit_16, lit_19, lit_20, lit_31, lit_35, lit_36, lit_48, lit_49, lit_53, lit_55, lit_57, lit_59, lit_60, lit_63, lit_64, lit_97, lit_102, lit_110, lit_160, lit_255, nI_add, ns_sub, ns_div, ns_le, ns_lt, ns_eq, ns_cl, pk_mul, ne10, eq_self, ↓reduceIte, bI_t, Bool.true_or, show ¬ no ≤ i from by omega]
      | false =>
        rw [← Bool.or_assoc, hb]
        by_cases c1 : ol i = l
        · by_cases c2 : od i ≤ d
          · have e : (ol i == l && decide (od i ≤ d)) = true := by simp [c1, c2]
            rw [Bool.false_or, e]
            simp (disch := omega) only [bX9_isOiled_12, h13, bd_some, gd_ix, lit_0, lit_1, lit_2, lit_3, lit_4, lit_5, lit_6, lit_7, lit_8, lit_9, lit_10, lit_15, lit_16, lit_19, lit_20, lit_31, lit_35, lit_36, lit_48, lit_49, lit_53, lit_55, lit_57, lit_59, lit_60, lit_63, lit_64, lit_97, lit_102, lit_110, lit_160, lit_255, nI_add, ns_sub, ns_div, ns_le, ns_lt, ns_eq, ns_cl, pk_mul, ne10, eq_self, ↓reduceIte, bI_t, bI_f, o1, o3, c1, show ¬ d < od i from by omega, show ¬ no ≤ i from by omega]
          · have e : (ol i == l && decide (od i ≤ d)) = false := by simp [c2]
            rw [Bool.false_or, e]
            simp (disch := omega) only [bX9_isOiled_12, h13, bd_some, gd_ix, lit_0, lit_1, lit_2, lit_3, lit_4, lit_5, lit_6, lit_7, lit_8, lit_9, lit_10, lit_15, lit_16, lit_19, lit_20, lit_31, lit_35, lit_36, lit_48, lit_49, lit_53, lit_55, lit_57, lit_59, lit_60, lit_63, lit_64, lit_97, lit_102, lit_110, lit_160, lit_255, nI_add, ns_sub, ns_div, ns_le, ns_lt, ns_eq, ns_cl, pk_mul, ne10, eq_self, ↓reduceIte, bI_t, bI_f, o1, o3, c1, show d < od i from by omega, show ¬ no ≤ i from by omega]
        · have e : (ol i == l && decide (od i ≤ d)) = false := by simp [c1]
          rw [Bool.false_or, e]
          simp (disch := omega) only [bX9_isOiled_12, h13, bd_some, gd_ix, lit_0, lit_1, lit_2, lit_3, lit_4, lit_5, lit_6, lit_7, lit_8, lit_9, lit_10, lit_15, lit_16, lit_19, lit_20, lit_31, lit_35, lit_36, lit_48, lit_49, lit_53, lit_55, lit_57, lit_59, lit_60, lit_63, lit_64, lit_97, lit_102, lit_110, lit_160, lit_255, nI_add, ns_sub, ns_div, ns_le, ns_lt, ns_eq, ns_cl, pk_mul, ne10, eq_self, ↓reduceIte, bI_t, bI_f, o1, o3, c1, show ¬ no ≤ i from by omega]) (by
      intro rec
      rw [← hO]
      simp (disch := omega) only [bX9_isOiled_12, h13, bd_some, gd_ix, lit_0, lit_1, lit_2, lit_3, lit_4, lit_5, lit_6, lit_7, lit_8, lit_9, lit_10, lit_15, lit_16, lit_19, lit_20, lit_31, lit_35, lit_36, lit_48, lit_49, lit_53, lit_55, lit_57, lit_59, lit_60, lit_63, lit_64, lit_97, lit_102, lit_110, lit_160, lit_255, nI_add, ns_sub, ns_div, ns_le, ns_lt, ns_eq, ns_cl, pk_mul, ne10, eq_self, ↓reduceIte, Nat.le_refl])
    simpa [exB] using this
  unfold fX9_isOiled
  rw [isIn_ok, hm, bd_some]
  show bd (lp (bX9_isOiled_12 (nI l) (nI d)) fl (bI (mo l), nI 0) S) _ = _
  rw [e1, bd_some]
  dsimp only
  rw [gd_t (zb_bI _)]
def topB (c : Cf) (f g : Nat → Nat) (k i : Nat) : Bool := !(i == k) && (cC c i == cC c k) && (f i == 1 || (f i == 2 && (decide (g k < g i) || (g i == g k && decide (k < i)))))
theorem isTop_ok {S : Sg} {c : Cf} {nw no : Nat} {wd wl od ol : Nat → Nat} {mo : Nat → Bool} (h : Md S c nw wd wl no od ol mo) {f g : Nat → Nat} (hN : Nw S (cN c) f g) (hg : ∀ i, i < cN c → g i ≤ 9) {k : Nat} (hk : k < cN c) (h2 : f k = 2) : fX9_isTop (nI k) S = some (bI (!exB (topB c f g k) (cN c)), S) := by
  have h8 := h.1
  have h04 := h.2.1
  obtain ⟨-, -, k5, k6, -⟩ := h.2.2.1 k hk
  have k14 := (hN k hk).2.2 h2
  have hgk := hg k hk
  have e1 : lp (bX9_isTop_4 (nI k)) fl (nI 1, nI 0) S = some ((bI (!exB (topB c f g k) (cN c)), nI (cN c)), S) := by
    have := lp_fl (B := bX9_isTop_4 (nI k)) (fun i => (bI (!exB (topB c f g k) i), nI i)) (fun _ => S) (cN c) (out := some ((bI (!exB (topB c f g k) (cN c)), nI (cN c)), S)) (by omega) (by
      intro i hi rec
      obtain ⟨-, -, i5, i6, -⟩ := h.2.2.1 i hi
      obtain ⟨n1, n2, n3⟩ := hN i hi
      have hgi := hg i hi
      rw [exB]
      have hni : ¬ cN c ≤ i := by omega
      cases hb : exB (topB c f g k) i with
      | true =>
        by_cases c1 : i = k
        · subst c1
          simp (disch := omega) only [bX9_isTop_4, h04, bd_some, gd_ix, lit_0, lit_1, lit_2, lit_3, lit_4, lit_5, lit_6, lit_7, lit_8, lit_9, lit_10, lit_15, lit_16, lit_19, lit_20, lit_31, lit_35, lit_36, lit_48, lit_49, lit_53, lit_55, lit_57, lit_59, lit_60, lit_63, lit_64, lit_97, lit_102, lit_110, lit_160, lit_255, nI_add, ns_sub, ns_div, ns_le, ns_lt, ns_eq, ns_cl, pk_mul, ne10, eq_self, ↓reduceIte, bI_f, Bool.not_true, Bool.true_or, hni]
        · by_cases c2 : cC c i = cC c k
          · simp (disch := omega) only [bX9_isTop_4, h04, bd_some, gd_ix, lit_0, lit_1, lit_2, lit_3, lit_4, lit_5, lit_6, lit_7, lit_8, lit_9, lit_10, lit_15, lit_16, lit_19, lit_20, lit_31, lit_35, lit_36, lit_48, lit_49, lit_53, lit_55, lit_57, lit_59, lit_60, lit_63, lit_64, lit_97, lit_102, lit_110, lit_160, lit_255, nI_add, ns_sub, ns_div, ns_le, ns_lt, ns_eq, ns_cl, pk_mul, ne10, eq_self, ↓reduceIte, bI_f, Bool.not_true, Bool.true_or, hni, c1, i5, k5, c2]
          · simp (disch := omega) only [bX9_isTop_4, h04, bd_some, gd_ix, lit_0, lit_1, lit_2, lit_3, lit_4, lit_5, lit_6, lit_7, lit_8, lit_9, lit_10, lit_15, lit_16, lit_19, lit_20, lit_31, lit_35, lit_36, lit_48, lit_49, lit_53, lit_55, lit_57, lit_59, lit_60, lit_63, lit_64, lit_97, lit_102, lit_110, lit_160, lit_255, nI_add, ns_sub, ns_div, ns_le, ns_lt, ns_eq, ns_cl, pk_mul, ne10, eq_self, ↓reduceIte, bI_f, Bool.not_true, Bool.true_or, hni, c1, i5, k5, c2]
      | false =>
        by_cases c1 : i = k
        · subst c1
          have e : topB c f g i i = false := by simp [topB]
          simp (disch := omega) only [bX9_isTop_4, h04, bd_some, gd_ix, lit_0, lit_1, lit_2, lit_3, lit_4, lit_5, lit_6, lit_7, lit_8, lit_9, lit_10, lit_15, lit_16, lit_19, lit_20, lit_31, lit_35, lit_36, lit_48, lit_49, lit_53, lit_55, lit_57, lit_59, lit_60, lit_63, lit_64, lit_97, lit_102, lit_110, lit_160, lit_255, nI_add, ns_sub, ns_div, ns_le, ns_lt, ns_eq, ns_cl, pk_mul, ne10, eq_self, ↓reduceIte, bI_t, Bool.not_false, Bool.false_or, hni, e]
        · by_cases c2 : cC c i = cC c k
          · by_cases c3 : f i = 1
            · have e : topB c f g k i = true := by simp [topB, c1, c2, c3]
              simp (disch := omega) only [bX9_isTop_4, h04, bd_some, gd_ix, lit_0, lit_1, lit_2, lit_3, lit_4, lit_5, lit_6, lit_7, lit_8, lit_9, lit_10, lit_15, lit_16, lit_19, lit_20, lit_31, lit_35, lit_36, lit_48, lit_49, lit_53, lit_55, lit_57, lit_59, lit_60, lit_63, lit_64, lit_97, lit_102, lit_110, lit_160, lit_255, nI_add, ns_sub, ns_div, ns_le, ns_lt, ns_eq, ns_cl, pk_mul, ne10, eq_self, ↓reduceIte, bI_t, bI_f, Bool.not_false, Bool.not_true, Bool.false_or, hni, c1, i5, k5, c2, n1, c3, e]
            · by_cases c4 : f i = 2
              · have n14 := n3 c4
                by_cases c5 : g k < g i
                · have e : topB c f g k i = true := by simp [topB, c1, c2, c4, c5]
                  simp (disch := omega) only [bX9_isTop_4, h04, bd_some, gd_ix, lit_0, lit_1, lit_2, lit_3, lit_4, lit_5, lit_6, lit_7, lit_8, lit_9, lit_10, lit_15, lit_16, lit_19, lit_20, lit_31, lit_35, lit_36, lit_48, lit_49, lit_53, lit_55, lit_57, lit_59, lit_60, lit_63, lit_64, lit_97, lit_102, lit_110, lit_160, lit_255, nI_add, ns_sub, ns_div, ns_le, ns_lt, ns_eq, ns_cl, pk_mul, ne10, eq_self, ↓reduceIte, bI_t, bI_f, Bool.not_false, Bool.not_true, Bool.false_or, hni, c1, i5, k5, c2, n1, c4, n14, k14, c5, show ¬ (2 : Nat) = 1 from by omega, e]
                · by_cases c6 : g i = g k
                  · by_cases c7 : k < i
                    · have e : topB c f g k i = true := by simp [topB, c1, c2, c4, c6, c7]
                      simp (disch := omega) only [bX9_isTop_4, h04, bd_some, gd_ix, lit_0, lit_1, lit_2, lit_3, lit_4, lit_5, lit_6, lit_7, lit_8, lit_9, lit_10, lit_15, lit_16, lit_19, lit_20, lit_31, lit_35, lit_36, lit_48, lit_49, lit_53, lit_55, lit_57, lit_59, lit_60, lit_63, lit_64, lit_97, lit_102, lit_110, lit_160, lit_255, nI_add, ns_sub, ns_div, ns_le, ns_lt, ns_eq, ns_cl, pk_mul, ne10, eq_self, ↓reduceIte, bI_t, bI_f, Bool.not_false, Bool.not_true, Bool.false_or, hni, c1, i5, k5, c2, n1, c4, n14, k14, c6, c7, Nat.lt_irrefl, show ¬ (2 : Nat) = 1 from by omega, e]
                    · have e : topB c f g k i = false := by simp [topB, c1, c2, c4, c6, c7]
                      simp (disch := omega) only [bX9_isTop_4, h04, bd_some, gd_ix, lit_0, lit_1, lit_2, lit_3, lit_4, lit_5, lit_6, lit_7, lit_8, lit_9, lit_10, lit_15, lit_16, lit_19, lit_20, lit_31, lit_35, lit_36, lit_48, lit_49, lit_53, lit_55, lit_57, lit_59, lit_60, lit_63, lit_64, lit_97, lit_102, lit_110, lit_160, lit_255, nI_add, ns_sub, ns_div, ns_le, ns_lt, ns_eq, ns_cl, pk_mul, ne10, eq_self, ↓reduceIte, bI_t, bI_f, Bool.not_false, Bool.not_true, Bool.false_or, hni, c1, i5, k5, c2, n1, c4, n14, k14, c6, c7, Nat.lt_irrefl, show ¬ (2 : Nat) = 1 from by omega, e]
                  · have e : topB c f g k i = false := by simp [topB, c4, c5, c6]
                    simp (disch := omega) only [bX9_isTop_4, h04, bd_some, gd_ix, lit_0, lit_1, lit_2, lit_3, lit_4, lit_5, lit_6, lit_7, lit_8, lit_9, lit_10, lit_15, lit_16, lit_19, lit_20, lit_31, lit_35, lit_36, lit_48, lit_49, lit_53, lit_55, lit_57, lit_59, lit_60, lit_63, lit_64, lit_97, lit_102, lit_110, lit_160, lit_255, nI_add, ns_sub, ns_div, ns_le, ns_lt, ns_eq, ns_cl, pk_mul, ne10, eq_self, ↓reduceIte, bI_t, bI_f, Bool.not_false, Bool.not_true, Bool.false_or, hni, c1, i5, k5, c2, n1, c4, n14, k14, c5, c6, show ¬ (2 : Nat) = 1 from by omega, e]
              · have e : topB c f g k i = false := by simp [topB, c3, c4]
                simp (disch := omega) only [bX9_isTop_4, h04, bd_some, gd_ix, lit_0, lit_1, lit_2, lit_3, lit_4, lit_5, lit_6, lit_7, lit_8, lit_9, lit_10, lit_15, lit_16, lit_19, lit_20, lit_31, lit_35, lit_36, lit_48, lit_49, lit_53, lit_55, lit_57, lit_59, lit_60, lit_63, lit_64, lit_97, lit_102, lit_110, lit_160, lit_255, nI_add, ns_sub, ns_div, ns_le, ns_lt, ns_eq, ns_cl, pk_mul, ne10, eq_self, ↓reduceIte, bI_t, bI_f, Bool.not_false, Bool.not_true, Bool.false_or, hni, c1, i5, k5, c2, n1, c3, c4, e]
          · have e : topB c f g k i = false := by simp [topB, c2]
            simp (disch := omega) only [bX9_isTop_4, h04, bd_some, gd_ix, lit_0, lit_1, lit_2, lit_3, lit_4, lit_5, lit_6, lit_7, lit_8, lit_9, lit_10, lit_15, lit_16, lit_19, lit_20, lit_31, lit_35, lit_36, lit_48, lit_49, lit_53, lit_55, lit_57, lit_59, lit_60, lit_63, lit_64, lit_97, lit_102, lit_110, lit_160, lit_255, nI_add, ns_sub, ns_div, ns_le, ns_lt, ns_eq, ns_cl, pk_mul, ne10, eq_self, ↓reduceIte, bI_t, bI_f, Bool.not_false, Bool.not_true, Bool.false_or, hni, c1, i5, k5, c2, e]) (by
      intro rec
      simp (disch := omega) only [bX9_isTop_4, h04, bd_some, gd_ix, lit_0, lit_1, lit_2, lit_3, lit_4, lit_5, lit_6, lit_7, lit_8, lit_9, lit_10, lit_15, lit_16, lit_19, lit_20, lit_31, lit_35, lit_36, lit_48, lit_49, lit_53, lit_55, lit_57, lit_59, lit_60, lit_63, lit_64, lit_97, lit_102, lit_110, lit_160, lit_255, nI_add, ns_sub, ns_div, ns_le, ns_lt, ns_eq, ns_cl, pk_mul, ne10, eq_self, ↓reduceIte, Nat.le_refl])
    simpa [exB, bI_t] using this
  unfold fX9_isTop
  show bd (lp (bX9_isTop_4 (nI k)) fl (nI 1, nI 0) S) _ = _
  rw [e1, bd_some]
  dsimp only
  rw [gd_t (zb_bI _)]
