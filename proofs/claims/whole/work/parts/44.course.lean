/-! the class: a course through one weather -/
def sP (c : Cf) (d : Nat) : Nat → Nat := fun k => if k < cN c then stg c d k else 0
theorem shl_val : ∀ v, v < 16 → ∀ k, k < 8 → nI v <<< ((4 * nI k) &&& 31) = pk (fun i => if i = k then v else 0) := by decide +kernel
theorem fresh_ok {t : Nat} {S : Sg} {c : Cf} (hB : Bd t S c) : fX0_freshStrengths t S = some (pk (sP c 0), S) := by
  obtain ⟨h1, h2, h3⟩ := hB
  have key : lp (bX0_freshStrengths_4 t) fl ((0 : Int32), (0 : Int32)) S = some ((pk (sP c 0), nI (cN c)), S) := by
    have e0 : ((0 : Int32), (0 : Int32)) = (pk (fun k => if k < 0 then cK c k else 0), nI 0) := by
      rw [pk_cong (g := bs (fun _ => false)) (fun k hk => by simp [bs])]
      show _ = (ps (fun _ => false), nI 0)
      rw [ps_0]
      rfl
    rw [e0]
    refine lp_fl (fun i => (pk (fun k => if k < i then cK c k else 0), nI i)) (fun _ => S) (cN c) (by omega) (fun i hi rec => ?_) (fun rec => ?_)
    · obtain ⟨w1, w2, w3, w4, w5, w6, w7⟩ := h3 i hi
      have e1 : nI (cK c i) <<< ((nI 4 * nI i) &&& nI 31) = pk (fun j => if j = i then cK c i else 0) := shl_val (cK c i) (by omega) i (by omega)
      simp (disch := omega) only [bX0_freshStrengths_4, h2, w5, bd_some, gd_ix, lit_4, lit_31, lit_1, ns_le, ns_cl, nI_add, e1, show ¬ cN c ≤ i from by omega, ↓reduceIte]
      rw [pk_or2 (fun k hk => by
        split
        · have := (h3 k (by omega)).2.2.2.2.2.2; omega
        · omega) (fun k hk => by split <;> omega)]
      refine congrArg (fun z => rec (z, nI (i + 1)) S) (pk_cong (fun k hk => ?_))
      by_cases hki : k = i
      · subst hki; simp
      · by_cases hk2 : k < i
        · simp [hki, hk2, show k < i + 1 by omega]
        · simp [hki, hk2, show ¬ k < i + 1 by omega]
    · simp (disch := omega) only [bX0_freshStrengths_4, h2, bd_some, gd_ix, lit_0, lit_1, lit_2, lit_3, lit_4, lit_5, lit_6, lit_7, lit_8, lit_9, lit_10, lit_15, lit_16, lit_19, lit_20, lit_31, lit_35, lit_36, lit_48, lit_49, lit_53, lit_55, lit_57, lit_59, lit_60, lit_63, lit_64, lit_97, lit_102, lit_110, lit_160, lit_255, nI_add, ns_sub, ns_div, ns_le, ns_lt, ns_eq, ns_cl, pk_mul, ne10, eq_self, ↓reduceIte, Nat.le_refl]
      rfl
  unfold fX0_freshStrengths
  rw [key]
  rfl
theorem nlt_m1 {a : Nat} (h : a < 2147483648) : ¬ nI a < -nI 1 := by
  rw [Int32.lt_iff_toInt_lt, nI_toInt h]
  have : (-nI 1 : Int32).toInt = -1 := by decide
  omega
/-- m is the strongest of p, of like ones the greatest -/
def best (n : Nat) (p : Nat → Bool) (s : Nat → Nat) (m : Nat) : Prop := m < n ∧ p m = true ∧ ∀ j, j < n → p j = true → s j < s m ∨ (s j = s m ∧ j ≤ m)
theorem strongest_ok {t : Nat} {S : Sg} {c : Cf} (hB : Bd t S c) {p : Nat → Bool} {f : Nat → Nat} (hf : ∀ k, k < 8 → f k < 16) (hp : ∃ k, k < cN c ∧ p k = true) : ∃ m, fX0_strongest t (ps p) (pk f) S = some (nI m, S) ∧ best (cN c) p f m := by
  obtain ⟨h1, h2, h3⟩ := hB
  obtain ⟨a, S', e1, rfl, m, rfl, hm⟩ := lp_invF (B := bX0_strongest_8 t (ps p) (pk f)) (fun i a S1 => S1 = S ∧ a.2.2 = nI i ∧ ((a.1 = nI 0 ∧ a.2.1 = -1 ∧ ∀ j, j < i → p j = false) ∨ ∃ m, a.1 = nI m ∧ a.2.1 = nI (f m) ∧ best i p f m)) (fun a S' => S' = S ∧ ∃ m, a = (nI m, nI (f m), nI (cN c)) ∧ best (cN c) p f m) (cN c) (by omega) (by
    rintro i ⟨a1, a2, a3⟩ S1 hi ⟨rfl, rfl, hI⟩
    by_cases hin : i < cN c
    · refine Or.inl ⟨hin, ?_⟩
      have hfi := hf i (by omega)
      have eb : ush (ps p) (nI 4 * nI i) &&& nI 1 = if p i = true then nI 1 else nI 0 := bit_ps (by omega)
      have es : ush (pk f) (nI 4 * nI i) &&& nI 15 = nI (f i) := sIn_pk hf (by omega)
      cases hpi : p i with
      | false =>
        refine ⟨(a1, a2, nI (i + 1)), S1, fun rec => ?_, rfl, rfl, ?_⟩
        · simp (disch := omega) only [bX0_strongest_8, h2, bd_some, lit_4, lit_1, lit_15, lit_0, eb, hpi, ns_le, ns_eq, nI_add, Bool.false_eq_true, eq_self, show ¬ cN c ≤ i from by omega, ↓reduceIte]
        · rcases hI with ⟨q1, q2, q3⟩ | ⟨m, q1, q2, q3, q4, q5⟩
          · refine Or.inl ⟨q1, q2, fun j hj => ?_⟩
            by_cases hji : j = i
            · subst hji; exact hpi
            · exact q3 j (by omega)
          · refine Or.inr ⟨m, q1, q2, by omega, q4, fun j hj hpj => ?_⟩
            by_cases hji : j = i
            · subst hji; rw [hpi] at hpj; cases hpj
            · exact q5 j (by omega) hpj
      | true =>
        rcases hI with ⟨q1, q2, q3⟩ | ⟨m, q1, q2, q3, q4, q5⟩
        · simp only at q1 q2
          subst q1; subst q2
          refine ⟨(nI i, nI (f i), nI (i + 1)), S1, fun rec => ?_, rfl, rfl, Or.inr ⟨i, rfl, rfl, by omega, hpi, fun j hj hpj => ?_⟩⟩
          · simp (disch := omega) only [bX0_strongest_8, h2, bd_some, lit_4, lit_1, lit_15, lit_0, eb, es, hpi, ns_le, ns_eq, nI_add, ne10, nlt_m1, show ¬ cN c ≤ i from by omega, ↓reduceIte]
          · by_cases hji : j = i
            · subst hji; exact Or.inr ⟨rfl, Nat.le_refl _⟩
            · have := q3 j (by omega); rw [this] at hpj; cases hpj
        · simp only at q1 q2
          subst q1; subst q2
          have hfm := hf m (by omega)
          by_cases c1 : f i < f m
          · refine ⟨(nI m, nI (f m), nI (i + 1)), S1, fun rec => ?_, rfl, rfl, Or.inr ⟨m, rfl, rfl, by omega, q4, fun j hj hpj => ?_⟩⟩
            · simp (disch := omega) only [bX0_strongest_8, h2, bd_some, lit_4, lit_1, lit_15, lit_0, eb, es, hpi, ns_le, ns_lt, ns_eq, nI_add, ne10, c1, show ¬ cN c ≤ i from by omega, ↓reduceIte]
            · by_cases hji : j = i
              · subst hji; exact Or.inl c1
              · exact q5 j (by omega) hpj
          · refine ⟨(nI i, nI (f i), nI (i + 1)), S1, fun rec => ?_, rfl, rfl, Or.inr ⟨i, rfl, rfl, by omega, hpi, fun j hj hpj => ?_⟩⟩
            · simp (disch := omega) only [bX0_strongest_8, h2, bd_some, lit_4, lit_1, lit_15, lit_0, eb, es, hpi, ns_le, ns_lt, ns_eq, nI_add, ne10, c1, show ¬ cN c ≤ i from by omega, ↓reduceIte]
            · by_cases hji : j = i
              · subst hji; exact Or.inr ⟨rfl, Nat.le_refl _⟩
              · rcases q5 j (by omega) hpj with z | ⟨z1, z2⟩ <;> omega
    · have hin2 : i = cN c := by omega
      subst hin2
      rcases hI with ⟨q1, q2, q3⟩ | ⟨m, q1, q2, q3⟩
      · obtain ⟨k, hk1, hk2⟩ := hp
        rw [q3 k hk1] at hk2
        cases hk2
      · simp only at q1 q2
        subst q1; subst q2
        refine Or.inr ⟨(nI m, nI (f m), nI (cN c)), S1, fun rec => ?_, rfl, m, rfl, q3⟩
        simp (disch := omega) only [bX0_strongest_8, h2, bd_some, gd_ix, lit_0, lit_1, lit_2, lit_3, lit_4, lit_5, lit_6, lit_7, lit_8, lit_9, lit_10, lit_15, lit_16, lit_19, lit_20, lit_31, lit_35, lit_36, lit_48, lit_49, lit_53, lit_55, lit_57, lit_59, lit_60, lit_63, lit_64, lit_97, lit_102, lit_110, lit_160, lit_255, nI_add, ns_sub, ns_div, ns_le, ns_lt, ns_eq, ns_cl, pk_mul, ne10, eq_self, ↓reduceIte, Nat.le_refl]) ((0 : Int32), (-1 : Int32), (0 : Int32)) S ⟨rfl, rfl, Or.inl ⟨rfl, rfl, fun j hj => absurd hj (by omega)⟩⟩
  refine ⟨m, ?_, hm⟩
  unfold fX0_strongest
  rw [e1]
  rfl

theorem upS_able {c : Cf} {d k : Nat} {s : Nat → Nat} : upS c d s k = ((able c k d && decide (10 ≤ s k + cA c d)) && !(exB (fun i => (cC c i == cC c k) && ((now c i d == 2) && (decide (s k < s i) || (s i == s k && decide (k < i))))) (cN c))) := by
  have hsplit : top c d s k = (!(exB (fun j => !(j == k) && ((cC c j == cC c k) && (now c j d == 1))) (cN c)) && !(exB (fun i => (cC c i == cC c k) && ((now c i d == 2) && (decide (s k < s i) || (s i == s k && decide (k < i))))) (cN c))) := by
    unfold top
    rw [Bool.eq_iff_iff]
    simp only [Bool.not_eq_true', Bool.and_eq_true, exB_false]
    constructor
    · intro h
      refine ⟨fun j hj => ?_, fun j hj => ?_⟩
      · have := h j hj
        revert this
        cases (j == k) <;> cases (cC c j == cC c k) <;> cases (now c j d == 1) <;> simp
      · have := h j hj
        by_cases hjk : j = k
        · subst hjk; simp
        · have e : (j == k) = false := by simpa using hjk
          rw [e] at this
          revert this
          cases (cC c j == cC c k) <;> cases (now c j d == 1) <;> cases (now c j d == 2) <;> simp
    · rintro ⟨h1, h2⟩ j hj
      have a1 := h1 j hj
      have a2 := h2 j hj
      revert a1 a2
      cases (j == k) <;> cases (cC c j == cC c k) <;> cases (now c j d == 1) <;> cases (now c j d == 2) <;> simp
  unfold upS able
  rw [hsplit]
  by_cases h2 : now c k d = 2
  · have e : exB (fun j => !(j == k) && ((cC c j == cC c k) && (now c j d == 1))) (cN c) = exB (fun j => (cC c j == cC c k) && (now c j d == 1)) (cN c) := exB_cong (fun j hj => by
      by_cases hjk : j = k
      · subst hjk; simp [h2]
      · simp [hjk])
    rw [e]
    cases (now c k d == 2) <;> cases (decide (10 ≤ s k + cA c d)) <;> cases (cO c (cC c k / 6) d) <;> cases (exB (fun j => (cC c j == cC c k) && (now c j d == 1)) (cN c)) <;> simp
  · have e : (now c k d == 2) = false := by simpa using h2
    simp [e]
theorem able_now {c : Cf} {k d : Nat} (h : able c k d = true) : now c k d = 2 := by
  unfold able at h
  simp only [Bool.and_eq_true, beq_iff_eq] at h
  exact h.1.1
theorem able_P {c : Cf} {k d : Nat} (h : able c k d = true) : cP c k = true := by
  cases hp : cP c k with
  | true => rfl
  | false => have := able_now h; rw [now_nP hp] at this; omega
/-- what has gone in on a cell is able together -/
theorem able_cell {c : Cf} {k j d : Nat} (h : able c k d = true) (hc : cC c j = cC c k) (hj : now c j d = 2) : able c j d = true := by
  unfold able at h ⊢
  rw [hc]
  simp only [Bool.and_eq_true, beq_iff_eq] at h ⊢
  exact ⟨⟨hj, h.1.2⟩, h.2⟩
theorem up_best {c : Cf} {d i m : Nat} {s : Nat → Nat} (hP : ∀ k, cP c k = true → k < cN c) (hi : able c i d = true) (hm : best (cN c) (fun k => able c k d && (cC c k == cC c i)) s m) {k : Nat} (hk : cC c k = cC c i) : upS c d s k = ((k == m) && decide (10 ≤ s m + cA c d)) := by
  obtain ⟨m1, m2, m3⟩ := hm
  simp only [Bool.and_eq_true, beq_iff_eq] at m2
  rw [upS_able]
  by_cases hkm : k = m
  · subst hkm
    have e : exB (fun i => (cC c i == cC c k) && ((now c i d == 2) && (decide (s k < s i) || (s i == s k && decide (k < i))))) (cN c) = false := exB_false.mpr (fun j hj => by
      cases hz : ((cC c j == cC c k) && ((now c j d == 2) && (decide (s k < s j) || (s j == s k && decide (k < j))))) with
      | false => rfl
      | true =>
        simp only [Bool.and_eq_true, Bool.or_eq_true, beq_iff_eq, decide_eq_true_eq] at hz
        obtain ⟨z1, z2, z3⟩ := hz
        have z4 := able_cell m2.1 z1 z2
        have := m3 j hj (by simp [z4, z1, m2.2])
        omega)
    rw [e, m2.1]
    simp
  · have e0 : (k == m) = false := by simpa using hkm
    rw [e0, Bool.false_and]
    cases hz : able c k d with
    | false => simp
    | true =>
      have hkn := hP k (able_P hz)
      have := m3 k hkn (by simp [hz, hk])
      have e : exB (fun i => (cC c i == cC c k) && ((now c i d == 2) && (decide (s k < s i) || (s i == s k && decide (k < i))))) (cN c) = true := exB_iff.mpr ⟨m, m1, by
        simp only [Bool.and_eq_true, Bool.or_eq_true, beq_iff_eq, decide_eq_true_eq]
        exact ⟨by rw [m2.2, hk], able_now m2.1, by omega⟩⟩
      rw [e]
      simp
