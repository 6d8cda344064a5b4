/-! the reference: strokes of a day -/
theorem overIn_ok {S : Sg} {c : Cf} {nw no : Nat} {wd wl od ol : Nat → Nat} {mo : Nat → Bool} (h : Md S c nw wd wl no od ol mo) {k : Nat} (hk : k < cN c) {f g : Nat → Nat} (hN : Nw S (cN c) f g) (hg : ∀ i, i < cN c → f i = 1 → cK c i = g i) : ∃ S', lp (bX9_goesBy_108 (nI k)) fl (nI 0) S = some (nI (cN c), S') ∧ mf S S' ∧ kp S S' ∧ Nw S' (cN c) (fun i => if f i = 1 ∧ cC c i = cC c k then 2 else f i) g := by
  have h8 := h.1
  obtain ⟨a, S', e1, rfl, q1, q2, q3⟩ := lp_invF (B := bX9_goesBy_108 (nI k)) (fun i a S1 => a = nI i ∧ mf S S1 ∧ kp S S1 ∧ Nw S1 (cN c) (fun j => if j < i ∧ f j = 1 ∧ cC c j = cC c k then 2 else f j) g) (fun a S1 => a = nI (cN c) ∧ mf S S1 ∧ kp S S1 ∧ Nw S1 (cN c) (fun j => if j < cN c ∧ f j = 1 ∧ cC c j = cC c k then 2 else f j) g) (cN c) (by omega) (by
    rintro i a S1 hi ⟨rfl, hf, hkp, hN1⟩
    have h' := h.mf hf
    by_cases hin : i < cN c
    · refine Or.inl ⟨hin, ?_⟩
      obtain ⟨k1, k2, k3, k4, -⟩ := h'.2.2.1 i hin
      obtain ⟨j1, j2, j3, j4, -⟩ := h'.2.2.1 k hk
      obtain ⟨n1, n2, n3⟩ := hN1 i hin
      dsimp only at n1 n2 n3
      rw [if_neg (by omega)] at n1 n2 n3
      by_cases hc : f i = 1 ∧ cC c i = cC c k
      · obtain ⟨c1, c2⟩ := hc
        refine ⟨nI (i + 1), sI (sI S1 13 i (nI 2)) 14 i (nI (cK c i)), fun rec => ?_, rfl, (hf.I (by omega)).I (by omega), fun a j p1 p2 => by rw [sI1, if_neg (by omega), sI1, if_neg (by omega)]; exact hkp a j p1 p2, (hN1.go hin (hg i hin c1)).cong (fun j hj => ?_)⟩
        · simp (disch := omega) only [bX9_goesBy_108, h'.2.1, bd_some, gd_ix, lit_0, lit_1, lit_2, lit_3, lit_4, lit_5, lit_6, lit_7, lit_8, lit_9, lit_10, lit_15, lit_16, lit_19, lit_20, lit_31, lit_35, lit_36, lit_48, lit_49, lit_53, lit_55, lit_57, lit_59, lit_60, lit_63, lit_64, lit_97, lit_102, lit_110, lit_160, lit_255, nI_add, ns_sub, ns_div, ns_le, ns_lt, ns_eq, ns_cl, pk_mul, ne10, eq_self, ↓reduceIte, k3, j3, n1, c1, c2, goesInM_ok h' hin, show ¬ cN c ≤ i from by omega]
        · by_cases hki : j = i
          · subst hki; simp [c1, c2]
          · simp [hki, show (j < i + 1) ↔ j < i by omega]
      · refine ⟨nI (i + 1), S1, fun rec => ?_, rfl, hf, hkp, hN1.cong (fun j hj => ?_)⟩
        · by_cases c1 : f i = 1
          · have c2 : ¬ cC c i = cC c k := fun q => hc ⟨c1, q⟩
            simp (disch := omega) only [bX9_goesBy_108, h'.2.1, bd_some, gd_ix, lit_0, lit_1, lit_2, lit_3, lit_4, lit_5, lit_6, lit_7, lit_8, lit_9, lit_10, lit_15, lit_16, lit_19, lit_20, lit_31, lit_35, lit_36, lit_48, lit_49, lit_53, lit_55, lit_57, lit_59, lit_60, lit_63, lit_64, lit_97, lit_102, lit_110, lit_160, lit_255, nI_add, ns_sub, ns_div, ns_le, ns_lt, ns_eq, ns_cl, pk_mul, ne10, eq_self, ↓reduceIte, k3, j3, n1, c1, c2, show ¬ cN c ≤ i from by omega]
          · simp (disch := omega) only [bX9_goesBy_108, h'.2.1, bd_some, gd_ix, lit_0, lit_1, lit_2, lit_3, lit_4, lit_5, lit_6, lit_7, lit_8, lit_9, lit_10, lit_15, lit_16, lit_19, lit_20, lit_31, lit_35, lit_36, lit_48, lit_49, lit_53, lit_55, lit_57, lit_59, lit_60, lit_63, lit_64, lit_97, lit_102, lit_110, lit_160, lit_255, nI_add, ns_sub, ns_div, ns_le, ns_lt, ns_eq, ns_cl, pk_mul, ne10, eq_self, ↓reduceIte, n1, c1, show ¬ cN c ≤ i from by omega]
        · by_cases hki : j = i
          · subst hki
            rw [if_neg (by omega), if_neg (fun q => hc q.2)]
          · simp [show (j < i + 1) ↔ j < i by omega]
    · have hin2 : i = cN c := by omega
      subst hin2
      refine Or.inr ⟨nI (cN c), S1, fun rec => ?_, rfl, hf, hkp, hN1⟩
      simp (disch := omega) only [bX9_goesBy_108, h'.2.1, bd_some, gd_ix, lit_0, lit_1, lit_2, lit_3, lit_4, lit_5, lit_6, lit_7, lit_8, lit_9, lit_10, lit_15, lit_16, lit_19, lit_20, lit_31, lit_35, lit_36, lit_48, lit_49, lit_53, lit_55, lit_57, lit_59, lit_60, lit_63, lit_64, lit_97, lit_102, lit_110, lit_160, lit_255, nI_add, ns_sub, ns_div, ns_le, ns_lt, ns_eq, ns_cl, pk_mul, ne10, eq_self, ↓reduceIte, Nat.le_refl]) (nI 0) S ⟨rfl, mf.rf, fun _ _ _ _ => rfl, hN.cong (fun k hk => by rw [if_neg (by omega)])⟩
  exact ⟨S', e1, q1, q2, q3.cong (fun k hk => by simp [hk])⟩
/-- written on day d by the strokes below m -/
def dayJ (c : Cf) (d j : Nat) : Bool := cP c j && (cD c j == d)
def fM (c : Cf) (d : Nat) (f : Nat → Nat) (m i : Nat) : Nat := if dayJ c d i = true ∧ i < m then (if exB (fun j => dayJ c d j && (decide (i < j) && (cC c j == cC c i))) m = true then 2 else 1) else if f i = 1 ∧ exB (fun j => dayJ c d j && (cC c j == cC c i)) m = true then 2 else f i
theorem fM_0 {c : Cf} {d i : Nat} {f : Nat → Nat} : fM c d f 0 i = f i := by simp [fM, exB]
theorem fM_no {c : Cf} {d m i : Nat} {f : Nat → Nat} (h : dayJ c d m = false) : fM c d f (m + 1) i = fM c d f m i := by
  unfold fM
  rw [exB, exB, h]
  simp only [Bool.false_and, Bool.or_false]
  by_cases hi : i = m
  · subst hi
    simp [h]
  · simp [show (i < m + 1) ↔ i < m by omega]
theorem fM_yes {c : Cf} {d m i : Nat} {f : Nat → Nat} (h : dayJ c d m = true) : fM c d f (m + 1) i = if i = m then 1 else if fM c d f m i = 1 ∧ cC c i = cC c m then 2 else fM c d f m i := by
  unfold fM
  rw [exB, exB, h]
  simp only [Bool.true_and]
  by_cases hi : i = m
  · subst hi
    have h0 : exB (fun j => dayJ c d j && (decide (i < j) && (cC c j == cC c i))) i = false := exB_false.mpr (fun j hj => by simp [show ¬ i < j by omega])
    simp [h, h0]
  · rw [if_neg hi]
    have e : (cC c m == cC c i) = (cC c i == cC c m) := by
      rw [Bool.eq_iff_iff, beq_iff_eq, beq_iff_eq]
      exact ⟨Eq.symm, Eq.symm⟩
    by_cases hd : dayJ c d i = true ∧ i < m
    · obtain ⟨d1, d2⟩ := hd
      cases h1 : exB (fun j => dayJ c d j && (decide (i < j) && (cC c j == cC c i))) m with
      | true => simp [d1, d2, show i < m + 1 by omega]
      | false =>
        by_cases hc : cC c i = cC c m
        · simp [d1, d2, show i < m + 1 by omega, hc]
        · have hc' : ¬ cC c m = cC c i := fun q => hc q.symm
          simp [d1, d2, show i < m + 1 by omega, hc, hc']
    · have hd2 : ¬ (dayJ c d i = true ∧ i < m + 1) := fun q => hd ⟨q.1, by omega⟩
      rw [if_neg hd, if_neg hd2]
      by_cases hf : f i = 1
      · cases h1 : exB (fun j => dayJ c d j && (cC c j == cC c i)) m with
        | true => simp [hf]
        | false =>
          by_cases hc : cC c i = cC c m
          · simp [hf, hc]
          · have hc' : ¬ cC c m = cC c i := fun q => hc q.symm
            simp [hf, hc, hc']
      · simp [hf]

theorem fM_1 {c : Cf} {d m i : Nat} {f g : Nat → Nat} (h1 : f i = 1 → cK c i = g i) (h2 : dayJ c d i = true → cK c i = g i) (h : fM c d f m i = 1) : cK c i = g i := by
  unfold fM at h
  by_cases q : dayJ c d i = true ∧ i < m
  · exact h2 q.1
  · rw [if_neg q] at h
    by_cases q2 : f i = 1 ∧ exB (fun j => dayJ c d j && (cC c j == cC c i)) m = true
    · exact h1 q2.1
    · rw [if_neg q2] at h; exact h1 h
theorem Nw.set1 {S : Sg} {n m : Nat} {f g : Nat → Nat} (h : Nw S n f g) : Nw (sI S 13 m (nI 1)) n (fun i => if i = m then 1 else f i) g := by
  intro i hi
  obtain ⟨h1, h2, h3⟩ := h i hi
  by_cases hik : i = m
  · subst hik
    refine ⟨?_, ?_, fun q => ?_⟩
    · rw [sI1, if_pos ⟨rfl, rfl⟩]
      dsimp only
      rw [if_pos rfl]
    · dsimp only
      rw [if_pos rfl]
      omega
    · dsimp only at q
      rw [if_pos rfl] at q
      omega
  · refine ⟨?_, ?_, fun q => ?_⟩
    · rw [sI1, if_neg (by omega)]
      dsimp only
      rw [if_neg hik]
      exact h1
    · dsimp only
      rw [if_neg hik]
      exact h2
    · dsimp only at q
      rw [if_neg hik] at q
      rw [sI1, if_neg (by omega)]
      exact h3 q
theorem strokes_ok {S : Sg} {c : Cf} {nw no : Nat} {wd wl od ol : Nat → Nat} {mo : Nat → Bool} (h : Md S c nw wd wl no od ol mo) {d : Nat} (hd : d < 20) {f g : Nat → Nat} (hN : Nw S (cN c) f g) (hg1 : ∀ k, k < cN c → f k = 1 → cK c k = g k) (hg2 : ∀ k, k < cN c → dayJ c d k = true → cK c k = g k) : ∃ S', lp (bX9_goesBy_77 (nI d)) fl (nI 0) S = some (nI (cN c), S') ∧ mf S S' ∧ kp S S' ∧ Nw S' (cN c) (fM c d f (cN c)) g := by
  have h8 := h.1
  obtain ⟨a, S', e1, rfl, q1, q2, q3⟩ := lp_invF (B := bX9_goesBy_77 (nI d)) (fun i a S1 => a = nI i ∧ mf S S1 ∧ kp S S1 ∧ Nw S1 (cN c) (fM c d f i) g) (fun a S1 => a = nI (cN c) ∧ mf S S1 ∧ kp S S1 ∧ Nw S1 (cN c) (fM c d f (cN c)) g) (cN c) (by omega) (by
    rintro i a S1 hi ⟨rfl, hf, hkp, hN1⟩
    have h' := h.mf hf
    by_cases hin : i < cN c
    · refine Or.inl ⟨hin, ?_⟩
      obtain ⟨k1, k2, k3, k4, -⟩ := h'.2.2.1 i hin
      have hpi := h'.2.2.2.2.2.2.2.2.2.2.2.2.1 i hin
      by_cases c1 : cD c i = d
      · cases hp : cP c i with
        | false =>
          have hJ : dayJ c d i = false := by simp [dayJ, hp]
          rw [hp] at hpi
          refine ⟨nI (i + 1), S1, fun rec => ?_, rfl, hf, hkp, hN1.cong (fun k hk => (fM_no hJ).symm)⟩
          simp (disch := omega) only [bX9_goesBy_77, h'.2.1, bd_some, gd_ix, lit_0, lit_1, lit_2, lit_3, lit_4, lit_5, lit_6, lit_7, lit_8, lit_9, lit_10, lit_15, lit_16, lit_19, lit_20, lit_31, lit_35, lit_36, lit_48, lit_49, lit_53, lit_55, lit_57, lit_59, lit_60, lit_63, lit_64, lit_97, lit_102, lit_110, lit_160, lit_255, nI_add, ns_sub, ns_div, ns_le, ns_lt, ns_eq, ns_cl, pk_mul, ne10, eq_self, ↓reduceIte, k1, c1, isIn_ok, hpi, Bool.not_false, show ¬ cN c ≤ i from by omega]
        | true =>
          have hJ : dayJ c d i = true := by simp [dayJ, hp, c1]
          rw [hp] at hpi
          obtain ⟨S2, e2, f2, p2, n2⟩ := overIn_ok h' hin hN1 (fun j hj hz => fM_1 (hg1 j hj) (hg2 j hj) hz)
          refine ⟨nI (i + 1), sI S2 13 i (nI 1), fun rec => ?_, rfl, (hf.tr f2).I (by omega), fun a j q1 q2 => by rw [sI1, if_neg (by omega)]; exact (p2 a j q1 q2).trans (hkp a j q1 q2), n2.set1.cong (fun k hk => (fM_yes hJ).symm)⟩
          simp (disch := omega) only [bX9_goesBy_77, h'.2.1, bd_some, gd_ix, lit_0, lit_1, lit_2, lit_3, lit_4, lit_5, lit_6, lit_7, lit_8, lit_9, lit_10, lit_15, lit_16, lit_19, lit_20, lit_31, lit_35, lit_36, lit_48, lit_49, lit_53, lit_55, lit_57, lit_59, lit_60, lit_63, lit_64, lit_97, lit_102, lit_110, lit_160, lit_255, nI_add, ns_sub, ns_div, ns_le, ns_lt, ns_eq, ns_cl, pk_mul, ne10, eq_self, ↓reduceIte, k1, c1, isIn_ok, hpi, Bool.not_true, Bool.false_eq_true, e2, show ¬ cN c ≤ i from by omega]
      · have hJ : dayJ c d i = false := by simp [dayJ, c1]
        refine ⟨nI (i + 1), S1, fun rec => ?_, rfl, hf, hkp, hN1.cong (fun k hk => (fM_no hJ).symm)⟩
        simp (disch := omega) only [bX9_goesBy_77, h'.2.1, bd_some, gd_ix, lit_0, lit_1, lit_2, lit_3, lit_4, lit_5, lit_6, lit_7, lit_8, lit_9, lit_10, lit_15, lit_16, lit_19, lit_20, lit_31, lit_35, lit_36, lit_48, lit_49, lit_53, lit_55, lit_57, lit_59, lit_60, lit_63, lit_64, lit_97, lit_102, lit_110, lit_160, lit_255, nI_add, ns_sub, ns_div, ns_le, ns_lt, ns_eq, ns_cl, pk_mul, ne10, eq_self, ↓reduceIte, k1, c1, show ¬ cN c ≤ i from by omega]
    · have hin2 : i = cN c := by omega
      subst hin2
      refine Or.inr ⟨nI (cN c), S1, fun rec => ?_, rfl, hf, hkp, hN1⟩
      simp (disch := omega) only [bX9_goesBy_77, h'.2.1, bd_some, gd_ix, lit_0, lit_1, lit_2, lit_3, lit_4, lit_5, lit_6, lit_7, lit_8, lit_9, lit_10, lit_15, lit_16, lit_19, lit_20, lit_31, lit_35, lit_36, lit_48, lit_49, lit_53, lit_55, lit_57, lit_59, lit_60, lit_63, lit_64, lit_97, lit_102, lit_110, lit_160, lit_255, nI_add, ns_sub, ns_div, ns_le, ns_lt, ns_eq, ns_cl, pk_mul, ne10, eq_self, ↓reduceIte, Nat.le_refl]) (nI 0) S ⟨rfl, mf.rf, fun _ _ _ _ => rfl, hN.cong (fun k hk => fM_0.symm)⟩
  exact ⟨S', e1, q1, q2, q3⟩
def nowP (c : Cf) (d k : Nat) : Nat := if d = 0 then 0 else now c k (d - 1)
theorem now_step {c : Cf} {d i : Nat} : fM c d (fun k => if nowP c d k = 1 ∧ cW c d (cC c k / 6) = true then 2 else nowP c d k) (cN c) i = now c i d ∨ cN c ≤ i := by
  by_cases hin : cN c ≤ i
  · exact Or.inr hin
  refine Or.inl ?_
  unfold fM
  dsimp only
  cases hp : cP c i with
  | false =>
    have hJ : dayJ c d i = false := by simp [dayJ, hp]
    have h0 : nowP c d i = 0 := by
      unfold nowP
      split
      · rfl
      · exact now_nP hp
    simp [hJ, h0, now_nP hp]
  | true =>
    rcases Nat.lt_trichotomy d (cD c i) with hlt | heq | hgt
    · have hJ : dayJ c d i = false := by simp [dayJ, show ¬ cD c i = d by omega]
      have h0 : nowP c d i = 0 := by
        unfold nowP
        split
        · rfl
        · unfold now; rw [if_pos (Or.inr (by omega))]
      have h1 : now c i d = 0 := by unfold now; rw [if_pos (Or.inr hlt)]
      simp [hJ, h0, h1]
    · have hJ : dayJ c d i = true := by simp [dayJ, hp, heq]
      have hnow : now c i d = if gone c i d = true then 2 else 1 := by unfold now; rw [if_neg (by simp [hp]; omega)]
      rw [hnow]
      have hge : gone c i d = exB (fun j => dayJ c d j && (decide (i < j) && (cC c j == cC c i))) (cN c) := by
        rw [Bool.eq_iff_iff]
        simp only [gone, Bool.or_eq_true, exB_iff, Bool.and_eq_true, decide_eq_true_eq, lat, dayJ, beq_iff_eq]
        constructor
        · rintro (⟨e, q1, q2, -⟩ | ⟨j, q1, ⟨⟨q2, q3⟩, q4⟩, q5⟩)
          · omega
          · exact ⟨j, q1, ⟨q2, by omega⟩, by omega, q3⟩
        · rintro ⟨j, q1, ⟨q2, q3⟩, q4, q5⟩
          exact Or.inr ⟨j, q1, ⟨⟨q2, q5⟩, Or.inr ⟨by omega, q4⟩⟩, by omega⟩
      rw [hge]
      simp [hJ, show i < cN c by omega]
    · have hJ : dayJ c d i = false := by simp [dayJ, show ¬ cD c i = d by omega]
      have hP0 : nowP c d i = now c i (d - 1) := by unfold nowP; rw [if_neg (by omega)]
      have hnow : now c i d = if gone c i d = true then 2 else 1 := by unfold now; rw [if_neg (by simp [hp]; omega)]
      have hnow1 : now c i (d - 1) = if gone c i (d - 1) = true then 2 else 1 := by unfold now; rw [if_neg (by simp [hp]; omega)]
      have hge : gone c i d = (gone c i (d - 1) || (cW c d (cC c i / 6) || exB (fun j => dayJ c d j && (cC c j == cC c i)) (cN c))) := by
        rw [Bool.eq_iff_iff]
        simp only [gone, Bool.or_eq_true, exB_iff, Bool.and_eq_true, decide_eq_true_eq, lat, dayJ, beq_iff_eq]
        constructor
        · rintro (⟨e, q1, q2, q3⟩ | ⟨j, q1, ⟨⟨q2, q3⟩, q4⟩, q5⟩)
          · by_cases he : e = d
            · subst he; exact Or.inr (Or.inl q3)
            · exact Or.inl (Or.inl ⟨e, by omega, q2, q3⟩)
          · by_cases he : cD c j = d
            · exact Or.inr (Or.inr ⟨j, q1, ⟨q2, he⟩, q3⟩)
            · exact Or.inl (Or.inr ⟨j, q1, ⟨⟨q2, q3⟩, q4⟩, by omega⟩)
        · rintro ((⟨e, q1, q2, q3⟩ | ⟨j, q1, ⟨⟨q2, q3⟩, q4⟩, q5⟩) | q | ⟨j, q1, ⟨q2, q3⟩, q4⟩)
          · exact Or.inl ⟨e, by omega, q2, q3⟩
          · exact Or.inr ⟨j, q1, ⟨⟨q2, q3⟩, q4⟩, by omega⟩
          · exact Or.inl ⟨d, by omega, hgt, q⟩
          · exact Or.inr ⟨j, q1, ⟨⟨q2, q4⟩, Or.inl (by omega)⟩, by omega⟩
      simp only [hJ, hP0, hnow, hnow1, hge, Bool.false_eq_true, false_and, if_false]
      cases gone c i (d - 1) <;> cases cW c d (cC c i / 6) <;> cases exB (fun j => dayJ c d j && (cC c j == cC c i)) (cN c) <;> simp
