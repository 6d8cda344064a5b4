theorem ps_subN {p q : Nat → Bool} : ps p &&& (ps q ^^^ (-nI 1)) = ps (fun k => p k && !q k) := ps_sub
theorem ps_m1N {p : Nat → Bool} : ps p &&& (-nI 1) = ps p := ps_m1
theorem ps_nz {p : Nat → Bool} {k : Nat} (hk : k < 8) (h : p k = true) : ¬ ps p = nI 0 := fun q => by
  have := ps_eq0.mp q k hk
  rw [this] at h
  cases h
theorem up_able {c : Cf} {d k : Nat} {s : Nat → Nat} (h : upS c d s k = true) : able c k d = true := by
  rw [upS_able] at h
  simp only [Bool.and_eq_true] at h
  exact h.1.1
/-- what is left of the able ones, what has come up, when the strokes below i are through -/
def prc (c : Cf) (d i k : Nat) : Bool := exB (fun j => able c j d && (cC c j == cC c k)) i
def lfB (c : Cf) (d i : Nat) : Nat → Bool := fun k => able c k d && !prc c d i k
def rsB (c : Cf) (d : Nat) (s : Nat → Nat) (i : Nat) : Nat → Bool := fun k => upS c d s k && prc c d i k
def cwB (c : Cf) (d i : Nat) : Nat → Bool := fun k => able c k d && (cC c k == cC c i)
theorem prc_succ {c : Cf} {d i k : Nat} : prc c d (i + 1) k = (prc c d i k || (able c i d && (cC c i == cC c k))) := rfl
theorem rs_end {c : Cf} {d i : Nat} {s : Nat → Nat} (h : ∀ k, k < 8 → able c k d = true → prc c d i k = true) : ps (rsB c d s i) = ps (upS c d s) := ps_cong (fun k hk => by
  show (upS c d s k && prc c d i k) = upS c d s k
  cases hu : upS c d s k with
  | false => rfl
  | true => rw [h k hk (up_able hu)]; rfl)
theorem lf_no {c : Cf} {d i : Nat} {s : Nat → Nat} (hL : lfB c d i i = false) : ps (lfB c d (i + 1)) = ps (lfB c d i) ∧ ps (rsB c d s (i + 1)) = ps (rsB c d s i) := by
  have e : ∀ k, prc c d (i + 1) k = prc c d i k := by
    intro k
    rw [prc_succ]
    cases hz2 : (able c i d && (cC c i == cC c k)) with
    | false => rw [Bool.or_false]
    | true =>
      simp only [Bool.and_eq_true, beq_iff_eq] at hz2
      have hL2 : (able c i d && !prc c d i i) = false := hL
      rw [hz2.1, Bool.true_and, Bool.not_eq_false'] at hL2
      have : prc c d i k = prc c d i i := by unfold prc; rw [hz2.2]
      rw [this, hL2]; rfl
  constructor <;> refine ps_cong (fun k hk => ?_)
  · show (able c k d && !prc c d (i + 1) k) = (able c k d && !prc c d i k)
    rw [e]
  · show (upS c d s k && prc c d (i + 1) k) = (upS c d s k && prc c d i k)
    rw [e]
theorem lf_yes {c : Cf} {d i m : Nat} {s : Nat → Nat} (hP : ∀ k, cP c k = true → k < cN c) (hab : able c i d = true) (hpr : prc c d i i = false) (hm : best (cN c) (cwB c d i) s m) : ps (fun k => lfB c d i k && !cwB c d i k) = ps (lfB c d (i + 1)) ∧ (s m + cA c d < 10 → ps (rsB c d s i) = ps (rsB c d s (i + 1))) ∧ (¬ s m + cA c d < 10 → ps (fun k => rsB c d s i k || (k == m)) = ps (rsB c d s (i + 1))) := by
  have hex : ∀ k, prc c d (i + 1) k = (prc c d i k || (cC c k == cC c i)) := by
    intro k
    have e : (cC c i == cC c k) = (cC c k == cC c i) := by
      rw [Bool.eq_iff_iff, beq_iff_eq, beq_iff_eq]
      exact ⟨Eq.symm, Eq.symm⟩
    rw [prc_succ, hab, Bool.true_and, e]
  have hub : ∀ k, cC c k = cC c i → upS c d s k = ((k == m) && decide (10 ≤ s m + cA c d)) := fun k hk => up_best (s := s) (k := k) hP hab hm hk
  have hcm : cC c m = cC c i := by
    have h := hm.2.1
    unfold cwB at h
    simp only [Bool.and_eq_true, beq_iff_eq] at h
    exact h.2
  refine ⟨ps_cong (fun k hk => ?_), fun h10 => ps_cong (fun k hk => ?_), fun h10 => ps_cong (fun k hk => ?_)⟩
  · show ((able c k d && !prc c d i k) && !(able c k d && (cC c k == cC c i))) = (able c k d && !prc c d (i + 1) k)
    rw [hex k]
    cases able c k d <;> cases (cC c k == cC c i) <;> cases (prc c d i k) <;> rfl
  · show (upS c d s k && prc c d i k) = (upS c d s k && prc c d (i + 1) k)
    rw [hex k]
    by_cases hck : cC c k = cC c i
    · rw [hub k hck]
      simp [show ¬ 10 ≤ s m + cA c d by omega]
    · have e : (cC c k == cC c i) = false := beq_false_of_ne hck
      rw [e, Bool.or_false]
  · show ((upS c d s k && prc c d i k) || (k == m)) = (upS c d s k && prc c d (i + 1) k)
    rw [hex k]
    by_cases hck : cC c k = cC c i
    · have hpk : prc c d i k = false := by
        have : prc c d i k = prc c d i i := by unfold prc; rw [hck]
        rw [this]; exact hpr
      have e : (cC c k == cC c i) = true := by simpa using hck
      rw [hub k hck, hpk, e]
      simp [show 10 ≤ s m + cA c d by omega]
    · have hkm : ¬ k = m := fun q => by
        subst q
        exact hck hcm
      have e : (cC c k == cC c i) = false := beq_false_of_ne hck
      have e2 : (k == m) = false := beq_false_of_ne hkm
      rw [e, e2, Bool.or_false, Bool.or_false]
theorem crowd_ok {t : Nat} {S : Sg} {c : Cf} (hB : Bd t S c) {s : Nat → Nat} (hs : ∀ k, k < cN c → s k ≤ 9) {d i : Nat} (hin : i < cN c) (hab : able c i d = true) : ∃ m, ((ps (cwB c d i) = ps (fun k => k == i) ∧ m = i) ∨ (¬ ps (cwB c d i) = ps (fun k => k == i) ∧ fX0_strongest t (ps (cwB c d i)) (pk (fun k => if k < cN c then s k else 0)) S = some (nI m, S))) ∧ best (cN c) (cwB c d i) s m := by
  have h1 := hB.1
  have hf16 : ∀ k, k < 8 → (if k < cN c then s k else 0) < 16 := fun k hk => by
    split
    · have := hs k (by assumption); omega
    · omega
  have hci : cwB c d i i = true := by unfold cwB; simp [hab]
  by_cases hq : ps (cwB c d i) = ps (fun k => k == i)
  · refine ⟨i, Or.inl ⟨hq, rfl⟩, hin, hci, fun j hj hpj => ?_⟩
    have hq2 : cwB c d i j = (j == i) := ps_inj hq j (by omega)
    rw [hq2] at hpj
    have hji : j = i := by simpa using hpj
    subst hji
    exact Or.inr ⟨rfl, Nat.le_refl _⟩
  · obtain ⟨m, e2, m1, m2, m3⟩ := strongest_ok hB (p := cwB c d i) hf16 ⟨i, hin, hci⟩
    refine ⟨m, Or.inr ⟨hq, e2⟩, m1, m2, fun j hj hpj => ?_⟩
    have := m3 j hj hpj
    simp only [hj, m1, if_true] at this
    exact this
theorem risenStep_no {t : Nat} {S : Sg} {c : Cf} (hB : Bd t S c) {s : Nat → Nat} {d i : Nat} (hin : i < cN c) (hz : ¬ ps (lfB c d i) = nI 0) (hL : lfB c d i i = false) (cd ff : Int32) (rec : Int32 × Int32 × Int32 → Sg → Option ((Int32 × Int32 × Int32) × Sg)) : bX0_risenOn_22 t cd ff rec (ps (lfB c d i), ps (rsB c d s i), nI i) S = rec (ps (lfB c d (i + 1)), ps (rsB c d s (i + 1)), nI (i + 1)) S := by
  obtain ⟨h1, h2, h3⟩ := hB
  obtain ⟨e1, e2⟩ := lf_no (s := s) hL
  rw [e1, e2]
  simp (disch := omega) only [bX0_risenOn_22, h2, bd_some, gd_ix, lit_0, lit_1, lit_2, lit_3, lit_4, lit_5, lit_6, lit_7, lit_8, lit_9, lit_10, lit_15, lit_16, lit_19, lit_20, lit_31, lit_35, lit_36, lit_48, lit_49, lit_53, lit_55, lit_57, lit_59, lit_60, lit_63, lit_64, lit_97, lit_102, lit_110, lit_160, lit_255, nI_add, ns_sub, ns_div, ns_le, ns_lt, ns_eq, ns_cl, pk_mul, ne10, eq_self, ↓reduceIte, hz, has_ok, hL, Bool.false_eq_true, show ¬ cN c ≤ i from by omega]
theorem risenStep_yes {t : Nat} {S : Sg} {c : Cf} (hB : Bd t S c) (hS : Stl t S c) (hP : ∀ k, cP c k = true → k < cN c) {s : Nat → Nat} (hs : ∀ k, k < cN c → s k ≤ 9) {d i : Nat} (hA : cA c d ≤ 9) (hin : i < cN c) (hz : ¬ ps (lfB c d i) = nI 0) (hL : lfB c d i i = true) (rec : Int32 × Int32 × Int32 → Sg → Option ((Int32 × Int32 × Int32) × Sg)) : bX0_risenOn_22 t (nI (cA c d)) (pk (fun k => if k < cN c then s k else 0)) rec (ps (lfB c d i), ps (rsB c d s i), nI i) S = rec (ps (lfB c d (i + 1)), ps (rsB c d s (i + 1)), nI (i + 1)) S := by
  have hL2 : (able c i d && !prc c d i i) = true := hL
  simp only [Bool.and_eq_true, Bool.not_eq_true'] at hL2
  obtain ⟨hab, hpr⟩ := hL2
  have hmates := hS.1 i hin (able_P hab)
  obtain ⟨m, em, hm⟩ := crowd_ok hB hs hin hab
  obtain ⟨l1, l2, l3⟩ := lf_yes hP hab hpr hm
  obtain ⟨h1, h2, h3⟩ := hB
  have hf16 : ∀ k, k < 8 → (if k < cN c then s k else 0) < 16 := fun k hk => by
    split
    · have := hs k (by assumption); omega
    · omega
  have hcr : ps (fun k => lfB c d i k && (cP c k && (cC c k == cC c i))) = ps (cwB c d i) := ps_cong (fun k hk => by
    show ((able c k d && !prc c d i k) && (cP c k && (cC c k == cC c i))) = (able c k d && (cC c k == cC c i))
    by_cases hck : cC c k = cC c i
    · have : prc c d i k = prc c d i i := by unfold prc; rw [hck]
      rw [this, hpr]
      cases hak : able c k d with
      | false => simp
      | true => simp [able_P hak]
    · have e : (cC c k == cC c i) = false := beq_false_of_ne hck
      rw [e, Bool.and_false, Bool.and_false, Bool.and_false])
  have m1 := hm.1
  have hsm := hs m m1
  have hstr : fX8_strengthIn (pk (fun k => if k < cN c then s k else 0)) (nI m) S = some (nI (s m), S) := by
    rw [strIn_ok hf16 (by omega), if_pos m1]
  have hz2 : ¬ ps (lfB c d i) = 0 := hz
  have hcrow : ps (lfB c d i) &&& S.1 (t + 5) (Int32.toNatClampNeg (nI i)) = ps (cwB c d i) := by
    rw [ns_cl (by omega), hmates, ps_and, hcr]
  have hbody : bd (if ps (cwB c d i) = ps (fun k => k == i) then some (nI i, S) else bd (fX0_strongest t (ps (cwB c d i)) (pk (fun k => if k < cN c then s k else 0)) S) (fun r16 S17 => some (r16, S17))) (fun (t13 : Int32) S14 => bd (fX8_strengthIn (pk (fun k => if k < cN c then s k else 0)) t13 S14) (fun r18 S19 => bd ((if (r18 + nI (cA c d)) < (10 : Int32) then some (ps (rsB c d s i), S19) else bd (fX8_only t13 S19) (fun r23 S24 => some ((ps (rsB c d s i) ||| r23), S24)))) (fun (t20 : Int32) S21 => some ((ps (lfB c d i) &&& (ps (cwB c d i) ^^^ (-1 : Int32)), t20), S21)))) = some ((ps (lfB c d (i + 1)), ps (rsB c d s (i + 1))), S) := by
    have e1 : (if ps (cwB c d i) = ps (fun k => k == i) then some (nI i, S) else bd (fX0_strongest t (ps (cwB c d i)) (pk (fun k => if k < cN c then s k else 0)) S) (fun r16 S17 => some (r16, S17))) = some (nI m, S) := by
      rcases em with ⟨hq, hmi⟩ | ⟨hq, e2⟩
      · rw [if_pos hq, hmi]
      · rw [if_neg hq, e2]; rfl
    rw [e1, bd_some, hstr, bd_some, ps_sub, l1, nI_add]
    by_cases h10 : s m + cA c d < 10
    · rw [if_pos (by rw [lit_10, ns_lt (by omega) (by omega)]; exact h10), bd_some, l2 h10]
    · rw [if_neg (by rw [lit_10, ns_lt (by omega) (by omega)]; exact h10), only_ok (by omega), bd_some, bd_some, ps_or, l3 h10]
  unfold bX0_risenOn_22
  show (if S.1 t 0 ≤ nI i then _ else _) = _
  rw [if_neg (by rw [h2, ns_le (by omega) (by omega)]; omega)]
  show (if ps (lfB c d i) = 0 then _ else _) = _
  rw [if_neg hz2, has_ok (by omega), bd_some, hL]
  show bd (if (if true = true then (1 : Int32) else 0) = 0 then _ else _) _ = _
  rw [if_pos rfl, if_neg (by decide), gd_ix (by omega) (by omega), only_ok (by omega), bd_some, hcrow]
  show bd (bd _ _) _ = _
  rw [hbody, bd_some, lit_1, nI_add]
theorem risenLoop_ok {t : Nat} {S : Sg} {c : Cf} (hB : Bd t S c) (hS : Stl t S c) (hP : ∀ k, cP c k = true → k < cN c) {s : Nat → Nat} (hs : ∀ k, k < cN c → s k ≤ 9) {d : Nat} (hA : cA c d ≤ 9) : ∃ x y, lp (bX0_risenOn_22 t (nI (cA c d)) (pk (fun k => if k < cN c then s k else 0))) fl (ps (lfB c d 0), ps (rsB c d s 0), nI 0) S = some ((x, ps (upS c d s), y), S) := by
  have h1 := hB.1
  obtain ⟨a, S', e1, rfl, hQ⟩ := lp_invF (B := bX0_risenOn_22 t (nI (cA c d)) (pk (fun k => if k < cN c then s k else 0))) (fun i a S1 => S1 = S ∧ a = (ps (lfB c d i), ps (rsB c d s i), nI i)) (fun a S' => S' = S ∧ ∃ x y, a = (x, ps (upS c d s), y)) (cN c) (by omega) (by
    rintro i a S1 hi ⟨rfl, rfl⟩
    by_cases hin : i < cN c
    · by_cases hz : ps (lfB c d i) = nI 0
      · refine Or.inr ⟨(nI 0, ps (rsB c d s i), nI i), S1, fun rec => by simp (disch := omega) only [bX0_risenOn_22, hB.2.1, bd_some, gd_ix, lit_0, lit_1, lit_2, lit_3, lit_4, lit_5, lit_6, lit_7, lit_8, lit_9, lit_10, lit_15, lit_16, lit_19, lit_20, lit_31, lit_35, lit_36, lit_48, lit_49, lit_53, lit_55, lit_57, lit_59, lit_60, lit_63, lit_64, lit_97, lit_102, lit_110, lit_160, lit_255, nI_add, ns_sub, ns_div, ns_le, ns_lt, ns_eq, ns_cl, pk_mul, ne10, eq_self, ↓reduceIte, hz, show ¬ cN c ≤ i from by omega], rfl, nI 0, nI i, ?_⟩
        rw [rs_end (fun k hk hab => ?_)]
        have hk0 : (able c k d && !prc c d i k) = false := ps_eq0.mp hz k hk
        rw [hab, Bool.true_and, Bool.not_eq_false'] at hk0
        exact hk0
      · refine Or.inl ⟨hin, (ps (lfB c d (i + 1)), ps (rsB c d s (i + 1)), nI (i + 1)), S1, fun rec => ?_, rfl, rfl⟩
        cases hL : lfB c d i i with
        | false => exact risenStep_no hB hin hz hL _ _ rec
        | true => exact risenStep_yes hB hS hP hs hA hin hz hL rec
    · have hin2 : i = cN c := by omega
      subst hin2
      refine Or.inr ⟨(ps (lfB c d (cN c)), ps (rsB c d s (cN c)), nI (cN c)), S1, fun rec => by simp (disch := omega) only [bX0_risenOn_22, hB.2.1, bd_some, gd_ix, lit_0, lit_1, lit_2, lit_3, lit_4, lit_5, lit_6, lit_7, lit_8, lit_9, lit_10, lit_15, lit_16, lit_19, lit_20, lit_31, lit_35, lit_36, lit_48, lit_49, lit_53, lit_55, lit_57, lit_59, lit_60, lit_63, lit_64, lit_97, lit_102, lit_110, lit_160, lit_255, nI_add, ns_sub, ns_div, ns_le, ns_lt, ns_eq, ns_cl, pk_mul, ne10, eq_self, ↓reduceIte, Nat.le_refl], rfl, ps (lfB c d (cN c)), nI (cN c), ?_⟩
      rw [rs_end (fun k hk hab => exB_iff.mpr ⟨k, hP k (able_P hab), by simp [hab]⟩)]) (ps (lfB c d 0), ps (rsB c d s 0), nI 0) S ⟨rfl, rfl⟩
  obtain ⟨x, y, rfl⟩ := hQ
  exact ⟨x, y, e1⟩
theorem lf_0 {c : Cf} {d : Nat} {s : Nat → Nat} : ps (lfB c d 0) = ps (fun k => able c k d) ∧ ps (rsB c d s 0) = nI 0 := by
  refine ⟨ps_cong (fun k hk => ?_), ps_eq0.mpr (fun k hk => ?_)⟩
  · show (able c k d && !prc c d 0 k) = able c k d
    simp [prc, exB]
  · show (upS c d s k && prc c d 0 k) = false
    simp [prc, exB]
theorem risenOn_ok {t : Nat} {S : Sg} {c : Cf} (hB : Bd t S c) (hS : Stl t S c) (hP : ∀ k, cP c k = true → k < cN c) {s : Nat → Nat} (hs : ∀ k, k < cN c → s k ≤ 9) {d : Nat} (hd : d < 20) (hA : cA c d ≤ 9) : fX0_risenOn t (nI d) (nI (cA c d)) (pk (fun k => if k < cN c then s k else 0)) S = some (ps (fun k => upS c d s k), S) := by
  by_cases h0 : cA c d ≤ 0
  · have hno : ∀ k, upS c d s k = false := by
      intro k
      cases hu : upS c d s k with
      | false => rfl
      | true =>
        have h1 := up_able hu
        rw [upS_able] at hu
        simp only [Bool.and_eq_true, decide_eq_true_eq] at hu
        have := hs k (hP k (able_P h1))
        omega
    have hz : ps (fun k => upS c d s k) = nI 0 := ps_eq0.mpr (fun k _ => hno k)
    have key : lp (bX0_risenOn_22 t (nI (cA c d)) (pk (fun k => if k < cN c then s k else 0))) fl (nI 0, nI 0, nI 0) S = some ((nI 0, nI 0, nI 0), S) := by
      show bX0_risenOn_22 _ _ _ _ _ _ = _
      obtain ⟨h1, h2, -⟩ := hB
      by_cases hn : cN c ≤ 0
      · simp (disch := omega) only [bX0_risenOn_22, h2, bd_some, gd_ix, lit_0, lit_1, lit_2, lit_3, lit_4, lit_5, lit_6, lit_7, lit_8, lit_9, lit_10, lit_15, lit_16, lit_19, lit_20, lit_31, lit_35, lit_36, lit_48, lit_49, lit_53, lit_55, lit_57, lit_59, lit_60, lit_63, lit_64, lit_97, lit_102, lit_110, lit_160, lit_255, nI_add, ns_sub, ns_div, ns_le, ns_lt, ns_eq, ns_cl, pk_mul, ne10, eq_self, ↓reduceIte, hn]
      · simp (disch := omega) only [bX0_risenOn_22, h2, bd_some, gd_ix, lit_0, lit_1, lit_2, lit_3, lit_4, lit_5, lit_6, lit_7, lit_8, lit_9, lit_10, lit_15, lit_16, lit_19, lit_20, lit_31, lit_35, lit_36, lit_48, lit_49, lit_53, lit_55, lit_57, lit_59, lit_60, lit_63, lit_64, lit_97, lit_102, lit_110, lit_160, lit_255, nI_add, ns_sub, ns_div, ns_le, ns_lt, ns_eq, ns_cl, pk_mul, ne10, eq_self, ↓reduceIte, hn]
    unfold fX0_risenOn
    simp (disch := omega) only [bd_some, gd_ix, lit_0, lit_1, lit_2, lit_3, lit_4, lit_5, lit_6, lit_7, lit_8, lit_9, lit_10, lit_15, lit_16, lit_19, lit_20, lit_31, lit_35, lit_36, lit_48, lit_49, lit_53, lit_55, lit_57, lit_59, lit_60, lit_63, lit_64, lit_97, lit_102, lit_110, lit_160, lit_255, nI_add, ns_sub, ns_div, ns_le, ns_lt, ns_eq, ns_cl, pk_mul, ne10, eq_self, ↓reduceIte, h0]
    rw [key, hz]
    rfl
  · obtain ⟨x, y, e⟩ := risenLoop_ok hB hS hP hs hA
    rw [(lf_0 (s := s)).1, (lf_0 (s := s)).2] at e
    unfold fX0_risenOn
    simp (disch := omega) only [bd_some, gd_ix, lit_0, lit_1, lit_2, lit_3, lit_4, lit_5, lit_6, lit_7, lit_8, lit_9, lit_10, lit_15, lit_16, lit_19, lit_20, lit_31, lit_35, lit_36, lit_48, lit_49, lit_53, lit_55, lit_57, lit_59, lit_60, lit_63, lit_64, lit_97, lit_102, lit_110, lit_160, lit_255, nI_add, ns_sub, ns_div, ns_le, ns_lt, ns_eq, ns_cl, pk_mul, ne10, eq_self, ↓reduceIte, h0, (hS.2 d hd).2.2]
    rw [e]
    rfl
theorem weathered_ok {t : Nat} {S : Sg} {c : Cf} (hS : Stl t S c) {s : Nat → Nat} (hs : ∀ k, k < cN c → s k ≤ 9) {d : Nat} (hd : d < 20) (p : Nat → Bool) (fair : Bool) : fX0_weathered t (nI d) (ps p) (pk (fun k => if k < cN c then s k else 0)) (if fair = true then nI 1 else nI 0) S = some (pk (fun k => (if k < cN c then s k else 0) + (if p k = true ∧ (if k < cN c then s k else 0) < 9 then 1 else 0) - (if (fair && ((now c k d == 2) && !p k)) = true ∧ 0 < (if k < cN c then s k else 0) then 1 else 0)), S) := by
  have hf9 : ∀ k, k < 8 → (if k < cN c then s k else 0) ≤ 9 := fun k hk => by
    split
    · exact hs k (by assumption)
    · omega
  have hT : (if (if fair = true then nI 1 else nI 0) = nI 0 then some (nI 0, S) else some (ps (fun k => (now c k d == 2) && !p k), S)) = some (ps (fun k => fair && ((now c k d == 2) && !p k)), S) := by
    cases fair with
    | false => simp only [Bool.false_eq_true, ↓reduceIte, Bool.false_and]; rw [ps_0]; rfl
    | true =>
      have : ¬ nI 1 = nI 0 := by decide
      simp only [this, ↓reduceIte, Bool.true_and]
  have hw := weather_val hf9 p (fun k => fair && ((now c k d == 2) && !p k))
  unfold fX0_weathered
  simp (disch := omega) only [gd_ix, ns_cl, (hS.2 d hd).2.1, ps_sub]
  rw [show (0 : Int32) = nI 0 from rfl, hT, bd_some, hw]
/-- the strengths behind a day, as the board's days have them -/
theorem sP_next {c : Cf} (hK : ∀ k, k < cN c → cK c k ≤ 9) {d k : Nat} : (sP c d k) + (if upS c d (stg c d) k = true ∧ sP c d k < 9 then 1 else 0) - (if (decide (cA c d < cF c) && ((now c k d == 2) && !(upS c d (stg c d) k))) = true ∧ 0 < sP c d k then 1 else 0) = if k < cN c then stg c (d + 1) k else (if upS c d (stg c d) k = true then 1 else 0) := by
  unfold sP
  by_cases hk : k < cN c
  · simp only [hk, if_true]
    show _ = (if now c k d = 2 then adj c d (stg c d) k else cK c k)
    have h9 := stg_le (hK k hk) d
    by_cases h2 : now c k d = 2
    · rw [if_pos h2]
      unfold adj
      cases hu : upS c d (stg c d) k with
      | true =>
        simp [h2]
        split <;> omega
      | false =>
        simp only [Bool.false_eq_true, false_and, ↓reduceIte, h2, BEq.rfl, Bool.not_false, Bool.and_true, decide_eq_true_eq, Nat.add_zero]
        by_cases hf : cA c d < cF c
        · simp only [hf, true_and, ↓reduceIte]
          split <;> omega
        · simp only [hf, false_and, ↓reduceIte]
          omega
    · rw [if_neg h2]
      have hu : upS c d (stg c d) k = false := by
        unfold upS
        simp [h2]
      have h3 : stg c d k = cK c k := stg_start (by
        by_cases hd0 : d = 0
        · exact Or.inl hd0
        · refine Or.inr (fun q => h2 ?_)
          have := now2_mono q
          rw [show d - 1 + 1 = d by omega] at this
          exact this)
      simp [hu, h2, h3]
  · simp only [hk, if_false]
    by_cases hu : upS c d (stg c d) k = true
    · simp [hu]
    · simp [hu]

theorem follow_ok {t tc td : Nat} {S : Sg} {c : Cf} (hB : Bd t S c) (hS : Stl t S c) (hP : ∀ k, cP c k = true → k < cN c) (hA : ∀ d, d < 20 → S.1 td d = nI (cA c d) ∧ cA c d ≤ 9) (hF : cF c ≤ 9) (h1 : tc + 2 < t ∨ t + 8 < tc + 1) (h2 : td < tc + 1) : ∃ S', fX3_follow tc t td (nI (cF c)) S = some ((), S') ∧ fr (tc + 1) (tc + 2) S S' ∧ ∀ d, d < 20 → S'.1 (tc + 1) d = ps (fun k => up c d k) ∧ S'.1 (tc + 2) d = pk (sP c (d + 1)) := by
  have hK : ∀ k, k < cN c → cK c k ≤ 9 := fun k hk => (hB.2.2 k hk).2.2.2.2.2.2
  obtain ⟨a, S', e1, hf, hQ⟩ := lp_invF (B := bX3_follow_9 tc t td (nI (cF c))) (fun i a S1 => a.1 = pk (sP c i) ∧ a.2 = nI i ∧ fr (tc + 1) (tc + 2) S S1 ∧ ∀ d, d < i → S1.1 (tc + 1) d = ps (fun k => up c d k) ∧ S1.1 (tc + 2) d = pk (sP c (d + 1))) (fun a S1 => fr (tc + 1) (tc + 2) S S1 ∧ ∀ d, d < 20 → S1.1 (tc + 1) d = ps (fun k => up c d k) ∧ S1.1 (tc + 2) d = pk (sP c (d + 1))) 20 (by omega) (by
    rintro i ⟨a1, a2⟩ S1 hi ⟨q1, q2, hf, hr⟩
    simp only at q1 q2
    subst q1; subst q2
    by_cases hin : i < 20
    · refine Or.inl ⟨hin, ?_⟩
      have hB1 : Bd t S1 c := by
        obtain ⟨b1, b2, b3⟩ := hB
        refine ⟨b1, by rw [hf.1 t 0 (by omega)]; exact b2, fun k hk => ?_⟩
        rw [hf.1 (t + 1) k (by omega), hf.1 (t + 2) k (by omega), hf.1 (t + 4) k (by omega)]
        exact b3 k hk
      have hS1 : Stl t S1 c := by
        refine ⟨fun k hk hp => by rw [hf.1 (t + 5) k (by omega)]; exact hS.1 k hk hp, fun d hd => ?_⟩
        rw [hf.1 (t + 6) d (by omega), hf.1 (t + 7) d (by omega), hf.1 (t + 8) d (by omega)]
        exact hS.2 d hd
      have hd1 : S1.1 td i = nI (cA c i) := by rw [hf.1 td i (by omega)]; exact (hA i hin).1
      have ha9 := (hA i hin).2
      have hst9 : ∀ k, k < cN c → stg c i k ≤ 9 := fun k hk => stg_le (hK k hk) i
      have er := risenOn_ok hB1 hS1 hP hst9 hin ha9
      have hS2 : Stl t (sI S1 (tc + 1) i (ps (fun k => up c i k))) c := by
        refine ⟨fun k hk hp => by rw [sI1, if_neg (by omega)]; exact hS1.1 k hk hp, fun d hd => ?_⟩
        rw [sI1, sI1, sI1, if_neg (by omega), if_neg (by omega), if_neg (by omega)]
        exact hS1.2 d hd
      have ew := weathered_ok hS2 hst9 hin (fun k => up c i k) (decide (cA c i < cF c))
      have hpk : pk (fun k => (if k < cN c then stg c i k else 0) + (if up c i k = true ∧ (if k < cN c then stg c i k else 0) < 9 then 1 else 0) - (if (decide (cA c i < cF c) && ((now c k i == 2) && !up c i k)) = true ∧ 0 < (if k < cN c then stg c i k else 0) then 1 else 0)) = pk (sP c (i + 1)) := pk_cong (fun k hk => by
        have := sP_next (c := c) hK (d := i) (k := k)
        show (sP c i k) + (if upS c i (stg c i) k = true ∧ sP c i k < 9 then 1 else 0) - (if (decide (cA c i < cF c) && ((now c k i == 2) && !(upS c i (stg c i) k))) = true ∧ 0 < sP c i k then 1 else 0) = sP c (i + 1) k
        rw [this]
        unfold sP
        by_cases hkn : k < cN c
        · rw [if_pos hkn, if_pos hkn]
        · rw [if_neg hkn, if_neg hkn]
          cases hu : upS c i (stg c i) k with
          | false => rfl
          | true => exact absurd (hP k (able_P (up_able hu))) hkn)
      have hcond : (if cF c ≤ cA c i then some (nI 0, sI S1 (tc + 1) i (ps (fun k => up c i k))) else some (nI 1, sI S1 (tc + 1) i (ps (fun k => up c i k)))) = some ((if decide (cA c i < cF c) = true then nI 1 else nI 0), sI S1 (tc + 1) i (ps (fun k => up c i k))) := by
        by_cases hq : cF c ≤ cA c i
        · simp only [hq, ↓reduceIte, show ¬ cA c i < cF c from by omega, decide_false, Bool.false_eq_true]
        · simp only [hq, ↓reduceIte, show cA c i < cF c from by omega, decide_true]
      have hrd : (sI S1 (tc + 1) i (ps (fun k => up c i k))).1 td i = nI (cA c i) := by rw [sI1, if_neg (by omega)]; exact hd1
      have hrr : (sI S1 (tc + 1) i (ps (fun k => up c i k))).1 (tc + 1) i = ps (fun k => up c i k) := by rw [sI1, if_pos ⟨rfl, rfl⟩]
      refine ⟨(pk (sP c (i + 1)), nI (i + 1)), sI (sI S1 (tc + 1) i (ps (fun k => up c i k))) (tc + 2) i (pk (sP c (i + 1))), fun rec => ?_, rfl, rfl, (hf.I (by omega) (by omega)).I (by omega) (by omega), fun d hd => ?_⟩
      · have er2 : fX0_risenOn t (nI i) (nI (cA c i)) (pk (sP c i)) S1 = some (ps (fun k => up c i k), S1) := er
        have ew2 : fX0_weathered t (nI i) (ps (fun k => up c i k)) (pk (sP c i)) (if decide (cA c i < cF c) = true then nI 1 else nI 0) (sI S1 (tc + 1) i (ps (fun k => up c i k))) = some (pk (sP c (i + 1)), sI S1 (tc + 1) i (ps (fun k => up c i k))) := by
          rw [← hpk]; exact ew
        simp (disch := omega) only [bX3_follow_9, bd_some, gd_ix, lit_0, lit_1, lit_2, lit_3, lit_4, lit_5, lit_6, lit_7, lit_8, lit_9, lit_10, lit_15, lit_16, lit_19, lit_20, lit_31, lit_35, lit_36, lit_48, lit_49, lit_53, lit_55, lit_57, lit_59, lit_60, lit_63, lit_64, lit_97, lit_102, lit_110, lit_160, lit_255, nI_add, ns_sub, ns_div, ns_le, ns_lt, ns_eq, ns_cl, pk_mul, ne10, eq_self, ↓reduceIte, show Int32.ofNat 20 = nI 20 from rfl, hd1, er2, hrd, hrr, hcond, ew2, show ¬ 20 ≤ i from by omega]
      · refine ⟨?_, ?_⟩
        · rw [sI1, if_neg (by omega)]
          by_cases hdi : d = i
          · subst hdi; exact hrr
          · rw [sI1, if_neg (by omega)]; exact (hr d (by omega)).1
        · rw [sI1]
          by_cases hdi : d = i
          · subst hdi; rw [if_pos ⟨rfl, rfl⟩]
          · rw [if_neg (by omega), sI1, if_neg (by omega)]; exact (hr d (by omega)).2
    · have hin2 : i = 20 := by omega
      subst hin2
      refine Or.inr ⟨(pk (sP c 20), nI 20), S1, fun rec => ?_, hf, hr⟩
      simp (disch := omega) only [bX3_follow_9, bd_some, gd_ix, lit_0, lit_1, lit_2, lit_3, lit_4, lit_5, lit_6, lit_7, lit_8, lit_9, lit_10, lit_15, lit_16, lit_19, lit_20, lit_31, lit_35, lit_36, lit_48, lit_49, lit_53, lit_55, lit_57, lit_59, lit_60, lit_63, lit_64, lit_97, lit_102, lit_110, lit_160, lit_255, nI_add, ns_sub, ns_div, ns_le, ns_lt, ns_eq, ns_cl, pk_mul, ne10, eq_self, ↓reduceIte, Nat.le_refl]) (pk (sP c 0), nI 0) S ⟨rfl, rfl, fr.rf, fun d hd => absurd hd (by omega)⟩
  refine ⟨S', ?_, hf, hQ⟩
  unfold fX3_follow
  rw [fresh_ok hB, bd_some, lit_0, e1]
  rfl
