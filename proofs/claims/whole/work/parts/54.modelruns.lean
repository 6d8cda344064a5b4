/-! the reference: strengths, and the rows of the day -/
def adjF (c : Cf) (d : Nat) (u : Nat → Bool) (g : Nat → Nat) (k : Nat) : Nat := if u k = true then (if g k < 9 then g k + 1 else g k) else if cA c d < cF c then g k - 1 else g k
theorem add_m1 {g : Nat} (h : 1 ≤ g) : nI g + -nI 1 = nI (g - 1) := by
  rw [← ns_sub h, Int32.sub_eq_add_neg]
theorem add_0 {g : Nat} : nI g + nI 0 = nI g := by rw [nI_add]; rfl
/-- what the rows 16 and 17 say of a stroke -/
def Rw (S : Sg) (d k : Nat) (u : Nat → Bool) (f g : Nat → Nat) : Prop := S.1 16 (8 * d + k) = nI (if u k = true then 3 else f k) ∧ S.1 17 (8 * d + k) = if f k = 2 then nI (g k) else -nI 1
def kpd (d : Nat) (S S' : Sg) : Prop := ∀ a j, 15 ≤ a → a ≤ 17 → ¬ (16 ≤ a ∧ 8 * d ≤ j ∧ j < 8 * d + 8) → ¬ (a = 15 ∧ j = d) → S'.1 a j = S.1 a j
def set4 (S : Sg) (d i : Nat) (u : Nat → Bool) (f g : Nat → Nat) : Sg := sI (sI (if f i = 2 then sI S 14 i (nI (g i)) else S) 16 (8 * d + i) (nI (if u i = true then 3 else f i))) 17 (8 * d + i) (if f i = 2 then nI (g i) else -nI 1)
theorem set4_step {S : Sg} {c : Cf} {nw no : Nat} {wd wl od ol : Nat → Nat} {mo : Nat → Bool} (h : Md S c nw wd wl no od ol mo) {d : Nat} (hd : d < 20) {f g : Nat → Nat} {u : Nat → Bool} {i : Nat} (hi : i < cN c) (n1 : S.1 13 i = nI (f i)) (n2 : f i ≤ 2) (n3 : f i = 2 → S.1 14 i = nI (g i)) (hgi : g i ≤ 9) (hu : S.1 0 21 = pb u) (huf : u i = true → f i = 2) (rec : Int32 → Sg → Option (Int32 × Sg)) : bX9_goesBy_277 (nI d) rec (nI i) S = rec (nI (i + 1)) (set4 S d i u f (adjF c d u g)) := by
  have h8 := h.1
  have h04 := h.2.1
  have hF := h.2.2.2.2.2.2.2.2.2.2.1
  have hF9 := h.2.2.2.2.2.2.2.2.2.2.2.1
  obtain ⟨a1, a2⟩ := h.2.2.2.2.2.2.2.2.2.1 d hd
  have hni : ¬ cN c ≤ i := by omega
  have hII : isInB (pb u) i = u i := isIn_pb (by omega)
  unfold set4
  by_cases c1 : f i = 2
  · have n14 := n3 c1
    cases hui : u i with
    | true =>
      rw [hui] at hII
      by_cases c2 : 9 ≤ g i
      · have e : adjF c d u g i = g i := by unfold adjF; rw [hui, if_pos rfl, if_neg (by omega)]
        simp (disch := omega) only [bX9_goesBy_277, h04, bd_some, gd_ix, lit_0, lit_1, lit_2, lit_3, lit_4, lit_5, lit_6, lit_7, lit_8, lit_9, lit_10, lit_15, lit_16, lit_19, lit_20, lit_31, lit_35, lit_36, lit_48, lit_49, lit_53, lit_55, lit_57, lit_59, lit_60, lit_63, lit_64, lit_97, lit_102, lit_110, lit_160, lit_255, nI_add, ns_sub, ns_div, ns_le, ns_lt, ns_eq, ns_cl, pk_mul, ne10, eq_self, ↓reduceIte, hni, n1, c1, hu, isIn_ok, hII, n14, c2, e, sI1, sI2, sC1, sC2, sL1, sL2, Nat.reduceEqDiff, false_and, and_false, and_self, Nat.add_zero]
      · have e : adjF c d u g i = g i + 1 := by unfold adjF; rw [hui, if_pos rfl, if_pos (by omega)]
        simp (disch := omega) only [bX9_goesBy_277, h04, bd_some, gd_ix, lit_0, lit_1, lit_2, lit_3, lit_4, lit_5, lit_6, lit_7, lit_8, lit_9, lit_10, lit_15, lit_16, lit_19, lit_20, lit_31, lit_35, lit_36, lit_48, lit_49, lit_53, lit_55, lit_57, lit_59, lit_60, lit_63, lit_64, lit_97, lit_102, lit_110, lit_160, lit_255, nI_add, ns_sub, ns_div, ns_le, ns_lt, ns_eq, ns_cl, pk_mul, ne10, eq_self, ↓reduceIte, hni, n1, c1, hu, isIn_ok, hII, n14, c2, e, sI1, sI2, sC1, sC2, sL1, sL2, Nat.reduceEqDiff, false_and, and_false, and_self]
    | false =>
      rw [hui] at hII
      by_cases c2 : cF c ≤ cA c d
      · have e : adjF c d u g i = g i := by unfold adjF; rw [hui, if_neg (by simp), if_neg (by omega)]
        simp (disch := omega) only [bX9_goesBy_277, h04, bd_some, gd_ix, lit_0, lit_1, lit_2, lit_3, lit_4, lit_5, lit_6, lit_7, lit_8, lit_9, lit_10, lit_15, lit_16, lit_19, lit_20, lit_31, lit_35, lit_36, lit_48, lit_49, lit_53, lit_55, lit_57, lit_59, lit_60, lit_63, lit_64, lit_97, lit_102, lit_110, lit_160, lit_255, nI_add, ns_sub, ns_div, ns_le, ns_lt, ns_eq, ns_cl, pk_mul, ne10, eq_self, ↓reduceIte, hni, n1, c1, hu, isIn_ok, hII, Bool.false_eq_true, n14, hF, a1, c2, e, sI1, sI2, sC1, sC2, sL1, sL2, Nat.reduceEqDiff, false_and, and_false, and_self, Nat.add_zero]
      · by_cases c3 : g i ≤ 0
        · have e : adjF c d u g i = g i := by unfold adjF; rw [hui, if_neg (by simp), if_pos (by omega)]; omega
          simp (disch := omega) only [bX9_goesBy_277, h04, bd_some, gd_ix, lit_0, lit_1, lit_2, lit_3, lit_4, lit_5, lit_6, lit_7, lit_8, lit_9, lit_10, lit_15, lit_16, lit_19, lit_20, lit_31, lit_35, lit_36, lit_48, lit_49, lit_53, lit_55, lit_57, lit_59, lit_60, lit_63, lit_64, lit_97, lit_102, lit_110, lit_160, lit_255, nI_add, ns_sub, ns_div, ns_le, ns_lt, ns_eq, ns_cl, pk_mul, ne10, eq_self, ↓reduceIte, hni, n1, c1, hu, isIn_ok, hII, Bool.false_eq_true, n14, hF, a1, c2, c3, e, sI1, sI2, sC1, sC2, sL1, sL2, Nat.reduceEqDiff, false_and, and_false, and_self, Nat.add_zero]
        · have e : adjF c d u g i = g i - 1 := by unfold adjF; rw [hui, if_neg (by simp), if_pos (by omega)]
          simp (disch := omega) only [bX9_goesBy_277, h04, bd_some, gd_ix, lit_0, lit_1, lit_2, lit_3, lit_4, lit_5, lit_6, lit_7, lit_8, lit_9, lit_10, lit_15, lit_16, lit_19, lit_20, lit_31, lit_35, lit_36, lit_48, lit_49, lit_53, lit_55, lit_57, lit_59, lit_60, lit_63, lit_64, lit_97, lit_102, lit_110, lit_160, lit_255, nI_add, ns_sub, ns_div, ns_le, ns_lt, ns_eq, ns_cl, pk_mul, ne10, eq_self, ↓reduceIte, hni, n1, c1, hu, isIn_ok, hII, Bool.false_eq_true, n14, hF, a1, c2, c3, e, sI1, sI2, sC1, sC2, sL1, sL2, Nat.reduceEqDiff, false_and, and_false, and_self, add_m1]
  · have hui : u i = false := by
      cases q : u i with
      | false => rfl
      | true => exact absurd (huf q) c1
    rw [hui] at hII
    simp (disch := omega) only [bX9_goesBy_277, h04, bd_some, gd_ix, lit_0, lit_1, lit_2, lit_3, lit_4, lit_5, lit_6, lit_7, lit_8, lit_9, lit_10, lit_15, lit_16, lit_19, lit_20, lit_31, lit_35, lit_36, lit_48, lit_49, lit_53, lit_55, lit_57, lit_59, lit_60, lit_63, lit_64, lit_97, lit_102, lit_110, lit_160, lit_255, nI_add, ns_sub, ns_div, ns_le, ns_lt, ns_eq, ns_cl, pk_mul, ne10, eq_self, ↓reduceIte, hni, n1, c1, hu, hui, isIn_ok, hII, Bool.false_eq_true, sI1, sI2, sC1, sC2, sL1, sL2, Nat.reduceEqDiff, false_and, and_false, and_self]
theorem set4_get {S : Sg} {d i : Nat} {u : Nat → Bool} {f g : Nat → Nat} {a j : Nat} : (set4 S d i u f g).1 a j = if a = 17 ∧ j = 8 * d + i then (if f i = 2 then nI (g i) else -nI 1) else if a = 16 ∧ j = 8 * d + i then nI (if u i = true then 3 else f i) else if f i = 2 ∧ a = 14 ∧ j = i then nI (g i) else S.1 a j := by
  unfold set4
  rw [sI1, sI1]
  by_cases c1 : f i = 2
  · rw [if_pos c1, if_pos c1, sI1]
    simp only [c1, true_and]
  · rw [if_neg c1, if_neg c1]
    simp only [c1, false_and, if_false]
theorem set4_2 {S : Sg} {d i : Nat} {u : Nat → Bool} {f g : Nat → Nat} : (set4 S d i u f g).2 = S.2 := by
  unfold set4
  by_cases c1 : f i = 2
  · rw [if_pos c1, if_pos c1]; rfl
  · rw [if_neg c1, if_neg c1]; rfl
theorem rows_ok {S : Sg} {c : Cf} {nw no : Nat} {wd wl od ol : Nat → Nat} {mo : Nat → Bool} (h : Md S c nw wd wl no od ol mo) {d : Nat} (hd : d < 20) {f g : Nat → Nat} {u : Nat → Bool} (hN : Nw S (cN c) f g) (hg : ∀ i, i < cN c → g i ≤ 9) (hu : S.1 0 21 = pb u) (huf : ∀ i, u i = true → f i = 2) : ∃ S', lp (bX9_goesBy_277 (nI d)) fl (nI 0) S = some (nI (cN c), S') ∧ mf S S' ∧ kpd d S S' ∧ (∀ j, S'.1 15 j = S.1 15 j) ∧ Nw S' (cN c) f (adjF c d u g) ∧ ∀ k, k < cN c → Rw S' d k u f (adjF c d u g) := by
  have h8 := h.1
  obtain ⟨a, S', e1, rfl, q1, q2, q3, q4⟩ := lp_invF (B := bX9_goesBy_277 (nI d)) (fun i a S1 => a = nI i ∧ mf S S1 ∧ (kpd d S S1 ∧ ∀ j, S1.1 15 j = S.1 15 j) ∧ S1.1 0 21 = pb u ∧ Nw S1 (cN c) f (fun k => if k < i then adjF c d u g k else g k) ∧ ∀ k, k < i → Rw S1 d k u f (adjF c d u g)) (fun a S1 => a = nI (cN c) ∧ mf S S1 ∧ (kpd d S S1 ∧ ∀ j, S1.1 15 j = S.1 15 j) ∧ Nw S1 (cN c) f (fun k => if k < cN c then adjF c d u g k else g k) ∧ ∀ k, k < cN c → Rw S1 d k u f (adjF c d u g)) (cN c) (by omega) (by
    rintro i a S1 hi ⟨rfl, hf, ⟨hk1, hk2⟩, hu1, hN1, hR⟩
    have h' := h.mf hf
    by_cases hin : i < cN c
    · refine Or.inl ⟨hin, ?_⟩
      obtain ⟨n1, n2, n3⟩ := hN1 i hin
      dsimp only at n3
      rw [if_neg (by omega)] at n3
      refine ⟨nI (i + 1), set4 S1 d i u f (adjF c d u g), fun rec => set4_step h' hd hin n1 n2 n3 (hg i hin) hu1 (huf i) rec, rfl, ?_, ⟨?_, ?_⟩, ?_, ?_, ?_⟩
      · refine ⟨fun a j p1 p2 => ?_, set4_2.trans hf.2⟩
        rw [set4_get, if_neg (by omega), if_neg (by omega), if_neg (by omega)]
        exact hf.1 a j p1 p2
      · intro a j p1 p2 p3 p4
        rw [set4_get, if_neg (by omega), if_neg (by omega), if_neg (by omega)]
        exact hk1 a j p1 p2 p3 p4
      · intro j
        rw [set4_get, if_neg (by omega), if_neg (by omega), if_neg (by omega)]
        exact hk2 j
      · rw [set4_get, if_neg (by omega), if_neg (by omega), if_neg (by omega)]
        exact hu1
      · intro k hk
        obtain ⟨m1, m2, m3⟩ := hN1 k hk
        refine ⟨?_, m2, fun q => ?_⟩
        · rw [set4_get, if_neg (by omega), if_neg (by omega), if_neg (by omega)]
          exact m1
        · dsimp only
          dsimp only at m3
          by_cases hki : k = i
          · subst hki
            rw [set4_get, if_neg (by omega), if_neg (by omega), if_pos ⟨q, rfl, rfl⟩, if_pos (by omega)]
          · rw [set4_get, if_neg (by omega), if_neg (by omega), if_neg (by omega), m3 q]
            by_cases hlt : k < i
            · rw [if_pos hlt, if_pos (by omega)]
            · rw [if_neg hlt, if_neg (by omega)]
      · intro k hk
        by_cases hki : k = i
        · subst hki
          refine ⟨?_, ?_⟩
          · rw [set4_get, if_neg (by omega), if_pos ⟨rfl, rfl⟩]
          · rw [set4_get, if_pos ⟨rfl, rfl⟩]
        · obtain ⟨m1, m2⟩ := hR k (by omega)
          refine ⟨?_, ?_⟩
          · rw [set4_get, if_neg (by omega), if_neg (by omega), if_neg (by omega)]; exact m1
          · rw [set4_get, if_neg (by omega), if_neg (by omega), if_neg (by omega)]; exact m2
    · have hin2 : i = cN c := by omega
      subst hin2
      refine Or.inr ⟨nI (cN c), S1, fun rec => ?_, rfl, hf, ⟨hk1, hk2⟩, hN1, hR⟩
      simp (disch := omega) only [bX9_goesBy_277, h'.2.1, bd_some, gd_ix, lit_0, lit_1, lit_2, lit_3, lit_4, lit_5, lit_6, lit_7, lit_8, lit_9, lit_10, lit_15, lit_16, lit_19, lit_20, lit_31, lit_35, lit_36, lit_48, lit_49, lit_53, lit_55, lit_57, lit_59, lit_60, lit_63, lit_64, lit_97, lit_102, lit_110, lit_160, lit_255, nI_add, ns_sub, ns_div, ns_le, ns_lt, ns_eq, ns_cl, pk_mul, ne10, eq_self, ↓reduceIte, Nat.le_refl]) (nI 0) S ⟨rfl, mf.rf, ⟨fun _ _ _ _ _ _ => rfl, fun _ => rfl⟩, hu, hN, fun k hk => absurd hk (by omega)⟩
  refine ⟨S', e1, q1, q2.1, q2.2, fun k hk => ?_, q4⟩
  obtain ⟨m1, m2, m3⟩ := q3 k hk
  refine ⟨m1, m2, fun q => ?_⟩
  have := m3 q
  dsimp only at this
  rw [if_pos hk] at this
  exact this
