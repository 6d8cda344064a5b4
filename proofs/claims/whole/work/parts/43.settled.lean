def able (c : Cf) (k d : Nat) : Bool := (now c k d == 2) && !(cO c (cC c k / 6) d) && !(exB (fun j => (cC c j == cC c k) && (now c j d == 1)) (cN c))
def Stl (t : Nat) (S : Sg) (c : Cf) : Prop := (∀ k, k < cN c → cP c k = true → S.1 (t + 5) k = ps (fun j => cP c j && (cC c j == cC c k))) ∧ ∀ d, d < 20 → S.1 (t + 6) d = ps (fun k => now c k d == 1) ∧ S.1 (t + 7) d = ps (fun k => now c k d == 2) ∧ S.1 (t + 8) d = ps (fun k => able c k d)
/-- the config's wipes and oils are these -/
def Wo (c : Cf) (nw : Nat) (wd wl : Nat → Nat) (no : Nat) (od ol : Nat → Nat) : Prop := (∀ e l, cW c e l = exB (fun w => wd w == e && wl w == l) nw) ∧ (∀ l d, cO c l d = exB (fun o => ol o == l && decide (od o ≤ d)) no) ∧ ∀ k, cP c k = true → k < cN c
theorem gone_iff {c : Cf} {nw no : Nat} {wd wl od ol : Nat → Nat} (h : Wo c nw wd wl no od ol) {k d : Nat} : gone c k d = true ↔ (∃ w, w < nw ∧ wl w = cC c k / 6 ∧ cD c k < wd w ∧ wd w ≤ d) ∨ ∃ j, j < cN c ∧ lat c k j = true ∧ cD c j ≤ d := by
  simp only [gone, Bool.or_eq_true, exB_iff, Bool.and_eq_true, decide_eq_true_eq, h.1, beq_iff_eq]
  constructor
  · rintro (⟨e, h1, h2, w, h3, h4, h5⟩ | h2)
    · subst h4
      exact Or.inl ⟨w, h3, h5, h2, by omega⟩
    · exact Or.inr h2
  · rintro (⟨w, h1, h2, h3, h4⟩ | h2)
    · exact Or.inl ⟨wd w, by omega, h3, w, h1, rfl, h2⟩
    · exact Or.inr h2
theorem now_of {c : Cf} {k d g : Nat} (hp : cP c k = true) (hg : cD c k ≤ d → (g ≤ d ↔ gone c k d = true)) : (now c k d == 1) = (decide (cD c k ≤ d) && decide (d < g)) ∧ (now c k d == 2) = (decide (cD c k ≤ d) && decide (g ≤ d)) := by
  unfold now
  rw [hp]
  by_cases h1 : d < cD c k
  · rw [if_pos (Or.inr h1)]
    simp [show ¬ cD c k ≤ d by omega]
  · rw [if_neg (by simp [h1])]
    have h2 : cD c k ≤ d := by omega
    have h3 := hg h2
    by_cases h4 : gone c k d = true
    · rw [if_pos h4]
      have h5 := h3.mpr h4
      simp [h2, h5, show ¬ d < g by omega]
    · rw [if_neg h4]
      have h5 : ¬ g ≤ d := fun q => h4 (h3.mp q)
      simp [h2, h5, show d < g by omega]
theorem settle0_ok {t : Nat} {S : Sg} : ∃ S', lp (bX0_settle_2 t) fl (nI 0) S = some (nI 20, S') ∧ fr (t + 6) (t + 8) S S' ∧ ∀ d, d < 20 → S'.1 (t + 6) d = ps (fun _ => false) ∧ S'.1 (t + 7) d = ps (fun _ => false) ∧ S'.1 (t + 8) d = ps (fun _ => false) := by
  obtain ⟨a, S', e1, rfl, hf, hQ⟩ := lp_invF (B := bX0_settle_2 t) (fun i a S1 => a = nI i ∧ fr (t + 6) (t + 8) S S1 ∧ ∀ d, d < i → S1.1 (t + 6) d = nI 0 ∧ S1.1 (t + 7) d = nI 0 ∧ S1.1 (t + 8) d = nI 0) (fun a S1 => a = nI 20 ∧ fr (t + 6) (t + 8) S S1 ∧ ∀ d, d < 20 → S1.1 (t + 6) d = nI 0 ∧ S1.1 (t + 7) d = nI 0 ∧ S1.1 (t + 8) d = nI 0) 20 (by omega) (by
    rintro i a S1 hi ⟨rfl, hf, hlo⟩
    by_cases hin : i < 20
    · refine Or.inl ⟨hin, nI (i + 1), sI (sI (sI S1 (t + 6) i (nI 0)) (t + 7) i (nI 0)) (t + 8) i (nI 0), fun rec => ?_, rfl, ((hf.I (by omega) (by omega)).I (by omega) (by omega)).I (by omega) (by omega), fun d hd => ?_⟩
      · simp (disch := omega) only [bX0_settle_2, bd_some, gd_ix, lit_0, lit_1, lit_2, lit_3, lit_4, lit_5, lit_6, lit_7, lit_8, lit_9, lit_10, lit_15, lit_16, lit_19, lit_20, lit_31, lit_35, lit_36, lit_48, lit_49, lit_53, lit_55, lit_57, lit_59, lit_60, lit_63, lit_64, lit_97, lit_102, lit_110, lit_160, lit_255, nI_add, ns_sub, ns_div, ns_le, ns_lt, ns_eq, ns_cl, pk_mul, ne10, eq_self, ↓reduceIte, show ¬ 20 ≤ i from by omega]
      · simp only [sI1]
        by_cases hdi : d = i
        · subst hdi
          simp
        · have := hlo d (by omega)
          simp [hdi, this]
    · have hin2 : i = 20 := by omega
      subst hin2
      refine Or.inr ⟨nI 20, S1, fun rec => ?_, rfl, hf, hlo⟩
      simp (disch := omega) only [bX0_settle_2, bd_some, gd_ix, lit_0, lit_1, lit_2, lit_3, lit_4, lit_5, lit_6, lit_7, lit_8, lit_9, lit_10, lit_15, lit_16, lit_19, lit_20, lit_31, lit_35, lit_36, lit_48, lit_49, lit_53, lit_55, lit_57, lit_59, lit_60, lit_63, lit_64, lit_97, lit_102, lit_110, lit_160, lit_255, nI_add, ns_sub, ns_div, ns_le, ns_lt, ns_eq, ns_cl, pk_mul, ne10, eq_self, ↓reduceIte, Nat.le_refl]) (nI 0) S ⟨rfl, fr.rf, fun d hd => absurd hd (by omega)⟩
  refine ⟨S', e1, hf, fun d hd => ?_⟩
  rw [ps_0]
  exact hQ d hd
theorem settle1_ok {t : Nat} {S : Sg} {c : Cf} {nw no : Nat} {wd wl od ol : Nat → Nat} (ht : 12 ≤ t) (hB : Bd t S c) (hC : Ca S nw wd wl no od ol) (hW : Wo c nw wd wl no od ol) (h0 : ∀ d, d < 20 → S.1 (t + 6) d = ps (fun _ => false) ∧ S.1 (t + 7) d = ps (fun _ => false)) : ∃ S', lp (bX0_settle_37 t (ps (cP c))) fl (nI 0) S = some (nI (cN c), S') ∧ fr (t + 5) (t + 7) S S' ∧ (∀ k, k < cN c → cP c k = true → S'.1 (t + 5) k = ps (fun j => cP c j && (cC c j == cC c k))) ∧ ∀ d, d < 20 → S'.1 (t + 6) d = ps (fun k => now c k d == 1) ∧ S'.1 (t + 7) d = ps (fun k => now c k d == 2) := by
  have h8 := hB.1
  obtain ⟨a, S', e1, rfl, hf, hQ1, hQ2⟩ := lp_invF (B := bX0_settle_37 t (ps (cP c))) (fun i a S1 => a = nI i ∧ fr (t + 5) (t + 7) S S1 ∧ (∀ k, k < i → cP c k = true → S1.1 (t + 5) k = ps (fun j => cP c j && (cC c j == cC c k))) ∧ ∀ d, d < 20 → S1.1 (t + 6) d = ps (fun k => decide (k < i) && (now c k d == 1)) ∧ S1.1 (t + 7) d = ps (fun k => decide (k < i) && (now c k d == 2))) (fun a S1 => a = nI (cN c) ∧ fr (t + 5) (t + 7) S S1 ∧ (∀ k, k < cN c → cP c k = true → S1.1 (t + 5) k = ps (fun j => cP c j && (cC c j == cC c k))) ∧ ∀ d, d < 20 → S1.1 (t + 6) d = ps (fun k => decide (k < cN c) && (now c k d == 1)) ∧ S1.1 (t + 7) d = ps (fun k => decide (k < cN c) && (now c k d == 2))) (cN c) (by omega) (by
    rintro i a S1 hi ⟨rfl, hf, hm, hr⟩
    have hB1 := hB.fr hf (Or.inl (Nat.le_refl _))
    have hC1 := hC.fr hf (Or.inl (by omega))
    by_cases hin : i < cN c
    · refine Or.inl ⟨hin, ?_⟩
      obtain ⟨b1, b2, b3⟩ := hB1
      obtain ⟨w1, w2, w3, w4, -⟩ := b3 i hin
      cases hp : cP c i with
      | false =>
        refine ⟨nI (i + 1), S1, fun rec => ?_, rfl, hf, fun k hk hpk => ?_, fun d hd => ?_⟩
        · simp (disch := omega) only [bX0_settle_37, b2, bd_some, gd_ix, lit_0, lit_1, lit_2, lit_3, lit_4, lit_5, lit_6, lit_7, lit_8, lit_9, lit_10, lit_15, lit_16, lit_19, lit_20, lit_31, lit_35, lit_36, lit_48, lit_49, lit_53, lit_55, lit_57, lit_59, lit_60, lit_63, lit_64, lit_97, lit_102, lit_110, lit_160, lit_255, nI_add, ns_sub, ns_div, ns_le, ns_lt, ns_eq, ns_cl, pk_mul, ne10, eq_self, ↓reduceIte, has_ok, hp, Bool.false_eq_true, show ¬ cN c ≤ i from by omega]
        · by_cases hki : k = i
          · subst hki; rw [hp] at hpk; cases hpk
          · exact hm k (by omega) hpk
        · rw [(hr d hd).1, (hr d hd).2]
          constructor <;> refine ps_cong (fun k hk => ?_)
          · by_cases hki : k = i
            · subst hki; simp [now_nP hp]
            · simp [show (k < i + 1) ↔ k < i by omega]
          · by_cases hki : k = i
            · subst hki; simp [now_nP hp]
            · simp [show (k < i + 1) ↔ k < i by omega]
      | true =>
        have hmm : ps (fun k => (decide (k < cN c) && (cC c k == cC c i)) && cP c k) = ps (fun j => cP c j && (cC c j == cC c i)) := ps_cong (fun k hk => by
          cases hpk : cP c k with
          | false => simp
          | true => simp [hW.2.2 k hpk])
        have hf2 : fr (t + 5) (t + 7) S (sI S1 (t + 5) i (ps (fun j => cP c j && (cC c j == cC c i)))) := hf.I (by omega) (by omega)
        have hB2 := hB.fr hf2 (Or.inl (Nat.le_refl _))
        have hC2 := hC.fr hf2 (Or.inl (by omega))
        obtain ⟨g, eg, hg, hg2⟩ := goesIn_ok hB2 hC2 hin (by rw [sI1, if_pos ⟨rfl, rfl⟩])
        obtain ⟨S2, e2, hf3, hr3⟩ := settleStroke_ok hB2 hin hg (w0 := fun d k => decide (k < i) && (now c k d == 1)) (i0 := fun d k => decide (k < i) && (now c k d == 2)) (fun d hd => by rw [sI1, if_neg (by omega)]; exact (hr d hd).1) (fun d hd => by rw [sI1, if_neg (by omega)]; exact (hr d hd).2)
        refine ⟨nI (i + 1), S2, fun rec => ?_, rfl, hf2.tr (hf3.wd (by omega) (by omega)), fun k hk hpk => ?_, fun d hd => ?_⟩
        · simp (disch := omega) only [bX0_settle_37, b2, bd_some, gd_ix, lit_0, lit_1, lit_2, lit_3, lit_4, lit_5, lit_6, lit_7, lit_8, lit_9, lit_10, lit_15, lit_16, lit_19, lit_20, lit_31, lit_35, lit_36, lit_48, lit_49, lit_53, lit_55, lit_57, lit_59, lit_60, lit_63, lit_64, lit_97, lit_102, lit_110, lit_160, lit_255, nI_add, ns_sub, ns_div, ns_le, ns_lt, ns_eq, ns_cl, pk_mul, ne10, eq_self, ↓reduceIte, has_ok, hp, w3, onCell_ok ⟨b1, b2, b3⟩, ps_and, hmm, eg, e2, show ¬ cN c ≤ i from by omega]
        · rw [hf3.1 (t + 5) k (by omega), sI1]
          by_cases hki : k = i
          · subst hki; rw [if_pos ⟨rfl, rfl⟩]
          · rw [if_neg (by omega)]; exact hm k (by omega) hpk
        · have hno := now_of (c := c) (k := i) (d := d) (g := g) hp (fun _ => by rw [hg2 d hd, gone_iff hW])
          rw [(hr3 d hd).1, (hr3 d hd).2]
          constructor <;> refine ps_cong (fun k hk => ?_)
          · by_cases hki : k = i
            · subst hki
              simp [hno.1]
            · simp [hki, show (k < i + 1) ↔ k < i by omega]
          · by_cases hki : k = i
            · subst hki
              simp [hno.2]
            · simp [hki, show (k < i + 1) ↔ k < i by omega]
    · have hin2 : i = cN c := by omega
      subst hin2
      refine Or.inr ⟨nI (cN c), S1, fun rec => ?_, rfl, hf, hm, hr⟩
      simp (disch := omega) only [bX0_settle_37, hB1.2.1, bd_some, gd_ix, lit_0, lit_1, lit_2, lit_3, lit_4, lit_5, lit_6, lit_7, lit_8, lit_9, lit_10, lit_15, lit_16, lit_19, lit_20, lit_31, lit_35, lit_36, lit_48, lit_49, lit_53, lit_55, lit_57, lit_59, lit_60, lit_63, lit_64, lit_97, lit_102, lit_110, lit_160, lit_255, nI_add, ns_sub, ns_div, ns_le, ns_lt, ns_eq, ns_cl, pk_mul, ne10, eq_self, ↓reduceIte, Nat.le_refl]) (nI 0) S ⟨rfl, fr.rf, fun k hk => absurd hk (by omega), fun d hd => by
        rw [(h0 d hd).1, (h0 d hd).2]
        exact ⟨ps_cong (fun k hk => by simp), ps_cong (fun k hk => by simp)⟩⟩
  refine ⟨S', e1, hf, hQ1, fun d hd => ?_⟩
  rw [(hQ2 d hd).1, (hQ2 d hd).2]
  have key : ∀ k v, 1 ≤ v → (decide (k < cN c) && (now c k d == v)) = (now c k d == v) := by
    intro k v hv
    cases hp : cP c k with
    | false => rw [now_nP hp]; simp; intro _; omega
    | true => simp [hW.2.2 k hp]
  exact ⟨ps_cong (fun k hk => key k 1 (by omega)), ps_cong (fun k hk => key k 2 (by omega))⟩
theorem settle_ok {t : Nat} {S : Sg} {c : Cf} {nw no : Nat} {wd wl od ol : Nat → Nat} (ht : 12 ≤ t) (hB : Bd t S c) (hC : Ca S nw wd wl no od ol) (hW : Wo c nw wd wl no od ol) : ∃ S', fX0_settle t (ps (cP c)) S = some ((), S') ∧ fr (t + 5) (t + 8) S S' ∧ Stl t S' c := by
  have h8 := hB.1
  obtain ⟨S1, e1, f1, z1⟩ := settle0_ok (t := t) (S := S)
  have f1' : fr (t + 5) (t + 8) S S1 := f1.wd (by omega) (by omega)
  have hB1 := hB.fr f1' (Or.inl (Nat.le_refl _))
  have hC1 := hC.fr f1' (Or.inl (by omega))
  obtain ⟨S2, e2, f2, m2, r2⟩ := settle1_ok ht hB1 hC1 hW (fun d hd => ⟨(z1 d hd).1, (z1 d hd).2.1⟩)
  have f2' : fr (t + 5) (t + 8) S S2 := f1'.tr (f2.wd (by omega) (by omega))
  have hB2 := hB.fr f2' (Or.inl (Nat.le_refl _))
  have hC2 := hC.fr f2' (Or.inl (by omega))
  obtain ⟨a, S3, e3, rfl, f3, r3⟩ := lp_invF (B := bX0_settle_90 t (ps (cP c))) (fun i a S1 => a = nI i ∧ fr (t + 8) (t + 8) S2 S1 ∧ ∀ d, d < 20 → S1.1 (t + 8) d = ps (fun k => decide (k < i) && able c k d)) (fun a S1 => a = nI (cN c) ∧ fr (t + 8) (t + 8) S2 S1 ∧ ∀ d, d < 20 → S1.1 (t + 8) d = ps (fun k => decide (k < cN c) && able c k d)) (cN c) (by omega) (by
    rintro i a S3 hi ⟨rfl, hf, hr⟩
    have hB3 := hB2.fr hf (Or.inl (by omega))
    have hC3 := hC2.fr hf (Or.inl (by omega))
    by_cases hin : i < cN c
    · refine Or.inl ⟨hin, ?_⟩
      obtain ⟨b1, b2, b3⟩ := hB3
      obtain ⟨w1, w2, w3, w4, -⟩ := b3 i hin
      cases hp : cP c i with
      | false =>
        refine ⟨nI (i + 1), S3, fun rec => ?_, rfl, hf, fun d hd => ?_⟩
        · simp (disch := omega) only [bX0_settle_90, b2, bd_some, gd_ix, lit_0, lit_1, lit_2, lit_3, lit_4, lit_5, lit_6, lit_7, lit_8, lit_9, lit_10, lit_15, lit_16, lit_19, lit_20, lit_31, lit_35, lit_36, lit_48, lit_49, lit_53, lit_55, lit_57, lit_59, lit_60, lit_63, lit_64, lit_97, lit_102, lit_110, lit_160, lit_255, nI_add, ns_sub, ns_div, ns_le, ns_lt, ns_eq, ns_cl, pk_mul, ne10, eq_self, ↓reduceIte, has_ok, hp, Bool.false_eq_true, show ¬ cN c ≤ i from by omega]
        · rw [hr d hd]
          refine ps_cong (fun k hk => ?_)
          by_cases hki : k = i
          · subst hki; simp [able, now_nP hp]
          · simp [show (k < i + 1) ↔ k < i by omega]
      | true =>
        obtain ⟨o, eo, ho, ho2⟩ := oiledFrom_ok hC3 (l := cC c i / 6) (by omega)
        obtain ⟨S4, e4, f4, r4⟩ := settleAble_ok ⟨b1, b2, b3⟩ hin ho (M := fun j => cP c j && (cC c j == cC c i)) (w0 := fun d k => now c k d == 1) (i0 := fun d k => now c k d == 2) (a0 := fun d k => decide (k < i) && able c k d) (by rw [hf.1 (t + 5) i (by omega)]; exact m2 i hin hp) (fun d hd => by rw [hf.1 (t + 6) d (by omega)]; exact (r2 d hd).1) (fun d hd => by rw [hf.1 (t + 7) d (by omega)]; exact (r2 d hd).2) hr
        refine ⟨nI (i + 1), S4, fun rec => ?_, rfl, hf.tr f4, fun d hd => ?_⟩
        · simp (disch := omega) only [bX0_settle_90, b2, bd_some, gd_ix, lit_0, lit_1, lit_2, lit_3, lit_4, lit_5, lit_6, lit_7, lit_8, lit_9, lit_10, lit_15, lit_16, lit_19, lit_20, lit_31, lit_35, lit_36, lit_48, lit_49, lit_53, lit_55, lit_57, lit_59, lit_60, lit_63, lit_64, lit_97, lit_102, lit_110, lit_160, lit_255, nI_add, ns_sub, ns_div, ns_le, ns_lt, ns_eq, ns_cl, pk_mul, ne10, eq_self, ↓reduceIte, has_ok, hp, w3, eo, e4, show ¬ cN c ≤ i from by omega]
        · rw [r4 d hd]
          refine ps_cong (fun k hk => ?_)
          by_cases hki : k = i
          · subst hki
            have hO : cO c (cC c k / 6) d = !decide (d < o) := by
              rw [hW.2.1, Bool.eq_iff_iff]
              have := ho2 d hd
              simp only [exB_iff, Bool.and_eq_true, beq_iff_eq, decide_eq_true_eq, Bool.not_eq_true', decide_eq_false_iff_not]
              rw [show (¬ d < o) ↔ o ≤ d by omega, this]
            have hE : exB (fun m => (now c m d == 1) && (cP c m && (cC c m == cC c k))) 8 = exB (fun j => (cC c j == cC c k) && (now c j d == 1)) (cN c) := by
              rw [Bool.eq_iff_iff, exB_iff, exB_iff]
              constructor
              · rintro ⟨m, q1, q2⟩
                simp only [Bool.and_eq_true] at q2
                exact ⟨m, hW.2.2 m q2.2.1, by simp only [Bool.and_eq_true]; exact ⟨q2.2.2, q2.1⟩⟩
              · rintro ⟨m, q1, q2⟩
                simp only [Bool.and_eq_true] at q2
                refine ⟨m, by omega, ?_⟩
                simp only [Bool.and_eq_true]
                refine ⟨q2.2, ?_, q2.1⟩
                cases hpm : cP c m with
                | true => rfl
                | false =>
                  have := q2.2
                  rw [now_nP hpm] at this
                  cases this
            simp only [able, hE, hO, show ¬ k < k from by omega, show k < k + 1 from by omega, decide_true, decide_false, Bool.true_and, Bool.false_and, Bool.false_or, BEq.rfl, Bool.and_true, Bool.not_not]
            cases decide (d < o) <;> cases (now c k d == 2) <;> cases (exB (fun j => (cC c j == cC c k) && (now c j d == 1)) (cN c)) <;> rfl
          · simp [hki, show (k < i + 1) ↔ k < i by omega]
    · have hin2 : i = cN c := by omega
      subst hin2
      refine Or.inr ⟨nI (cN c), S3, fun rec => ?_, rfl, hf, hr⟩
      simp (disch := omega) only [bX0_settle_90, hB3.2.1, bd_some, gd_ix, lit_0, lit_1, lit_2, lit_3, lit_4, lit_5, lit_6, lit_7, lit_8, lit_9, lit_10, lit_15, lit_16, lit_19, lit_20, lit_31, lit_35, lit_36, lit_48, lit_49, lit_53, lit_55, lit_57, lit_59, lit_60, lit_63, lit_64, lit_97, lit_102, lit_110, lit_160, lit_255, nI_add, ns_sub, ns_div, ns_le, ns_lt, ns_eq, ns_cl, pk_mul, ne10, eq_self, ↓reduceIte, Nat.le_refl]) (nI 0) S2 ⟨rfl, fr.rf, fun d hd => by
        rw [f2.1 (t + 8) d (by omega), (z1 d hd).2.2]
        exact ps_cong (fun k hk => by simp)⟩
  refine ⟨S3, ?_, f2'.tr (f3.wd (by omega) (by omega)), fun k hk hp => by rw [f3.1 (t + 5) k (by omega)]; exact m2 k hk hp, fun d hd => ⟨by rw [f3.1 (t + 6) d (by omega)]; exact (r2 d hd).1, by rw [f3.1 (t + 7) d (by omega)]; exact (r2 d hd).2, ?_⟩⟩
  · unfold fX0_settle
    rw [lit_0, e1, bd_some, e2, bd_some, e3]
    rfl
  · rw [r3 d hd]
    refine ps_cong (fun k hk => ?_)
    cases hp : cP c k with
    | false => simp [able, now_nP hp]
    | true => simp [hW.2.2 k hp]
