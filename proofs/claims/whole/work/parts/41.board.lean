/-! the class: a board's strokes, and what holds of them in any weather -/
def Bd (t : Nat) (S : Sg) (c : Cf) : Prop := cN c ≤ 8 ∧ S.1 t 0 = nI (cN c) ∧ ∀ k, k < cN c → S.1 (t + 1) k = nI (cD c k) ∧ cD c k < 20 ∧ S.1 (t + 2) k = nI (cC c k) ∧ cC c k < 36 ∧ S.1 (t + 4) k = nI (cK c k) ∧ 1 ≤ cK c k ∧ cK c k ≤ 9
def fr (lo hi : Nat) (S S' : Sg) : Prop := (∀ a j, (a < lo ∨ hi < a) → S'.1 a j = S.1 a j) ∧ S'.2 = S.2
theorem fr.rf {lo hi : Nat} {S : Sg} : fr lo hi S S := ⟨fun _ _ _ => rfl, rfl⟩
theorem fr.tr {lo hi : Nat} {S S1 S2 : Sg} (h1 : fr lo hi S S1) (h2 : fr lo hi S1 S2) : fr lo hi S S2 := ⟨fun a j h => (h2.1 a j h).trans (h1.1 a j h), h2.2.trans h1.2⟩
theorem fr.wd {lo hi lo' hi' : Nat} {S S' : Sg} (h : fr lo hi S S') (h1 : lo' ≤ lo) (h2 : hi ≤ hi') : fr lo' hi' S S' := ⟨fun a j q => h.1 a j (by omega), h.2⟩
theorem fr.I {lo hi : Nat} {S S' : Sg} {a k : Nat} {v : Int32} (h : fr lo hi S S') (h1 : lo ≤ a) (h2 : a ≤ hi) : fr lo hi S (sI S' a k v) := ⟨fun b j q => by rw [sI1, if_neg (by omega)]; exact h.1 b j q, h.2⟩
theorem Bd.fr {t lo hi : Nat} {S S' : Sg} {c : Cf} (h : Bd t S c) (f : fr lo hi S S') (hlo : t + 5 ≤ lo ∨ hi < t) : Bd t S' c := by
  obtain ⟨h1, h2, h3⟩ := h
  refine ⟨h1, by rw [f.1 t 0 (by omega)]; exact h2, fun k hk => ?_⟩
  rw [f.1 (t + 1) k (by omega), f.1 (t + 2) k (by omega), f.1 (t + 4) k (by omega)]
  exact h3 k hk
theorem Ca.fr {lo hi : Nat} {S S' : Sg} {nw no : Nat} {wd wl od ol : Nat → Nat} (h : Ca S nw wd wl no od ol) (f : fr lo hi S S') (hlo : 12 ≤ lo ∨ hi < 7) : Ca S' nw wd wl no od ol := by
  obtain ⟨h1, h2, h3, h4, h5, h6⟩ := h
  refine ⟨h1, h2, by rw [f.1 7 4 (by omega)]; exact h3, by rw [f.1 7 5 (by omega)]; exact h4, fun w hw => ?_, fun o ho => ?_⟩
  · rw [f.1 8 w (by omega), f.1 9 w (by omega)]; exact h5 w hw
  · rw [f.1 10 o (by omega), f.1 11 o (by omega)]; exact h6 o ho
theorem onCell_ok {t : Nat} {S : Sg} {c : Cf} (hB : Bd t S c) {x : Nat} (hx : x < 36) : fX0_onCell t (nI x) S = some (ps (fun k => decide (k < cN c) && (cC c k == x)), S) := by
  obtain ⟨h1, h2, h3⟩ := hB
  have key : lp (bX0_onCell_4 t (nI x)) fl ((0 : Int32), (0 : Int32)) S = some ((ps (fun k => decide (k < cN c) && (cC c k == x)), nI (cN c)), S) := by
    have e0 : ((0 : Int32), (0 : Int32)) = (ps (fun k => decide (k < 0) && (cC c k == x)), nI 0) := by
      rw [ps_eq0.mpr (fun k hk => by simp)]; rfl
    rw [e0]
    refine lp_fl (fun i => (ps (fun k => decide (k < i) && (cC c k == x)), nI i)) (fun _ => S) (cN c) (by omega) (fun i hi rec => ?_) (fun rec => ?_)
    · obtain ⟨w1, w2, w3, w4, -⟩ := h3 i hi
      by_cases c1 : cC c i = x
      · simp (disch := omega) only [bX0_onCell_4, h2, w3, bd_some, gd_ix, lit_0, lit_1, lit_2, lit_3, lit_4, lit_5, lit_6, lit_7, lit_8, lit_9, lit_10, lit_15, lit_16, lit_19, lit_20, lit_31, lit_35, lit_36, lit_48, lit_49, lit_53, lit_55, lit_57, lit_59, lit_60, lit_63, lit_64, lit_97, lit_102, lit_110, lit_160, lit_255, nI_add, ns_sub, ns_div, ns_le, ns_lt, ns_eq, ns_cl, pk_mul, ne10, eq_self, ↓reduceIte, c1, only_ok, ps_or, show ¬ cN c ≤ i from by omega, ↓reduceIte]
        refine congrArg (fun z => rec (z, nI (i + 1)) S) (ps_cong (fun k hk => ?_))
        by_cases hk2 : k = i
        · subst hk2; simp [c1]
        · by_cases hk3 : k < i
          · simp [hk3, hk2, show k < i + 1 by omega]
          · simp [hk3, hk2, show ¬ k < i + 1 by omega]
      · simp (disch := omega) only [bX0_onCell_4, h2, w3, bd_some, gd_ix, lit_0, lit_1, lit_2, lit_3, lit_4, lit_5, lit_6, lit_7, lit_8, lit_9, lit_10, lit_15, lit_16, lit_19, lit_20, lit_31, lit_35, lit_36, lit_48, lit_49, lit_53, lit_55, lit_57, lit_59, lit_60, lit_63, lit_64, lit_97, lit_102, lit_110, lit_160, lit_255, nI_add, ns_sub, ns_div, ns_le, ns_lt, ns_eq, ns_cl, pk_mul, ne10, eq_self, ↓reduceIte, c1, show ¬ cN c ≤ i from by omega, ↓reduceIte]
        refine congrArg (fun z => rec (z, nI (i + 1)) S) (ps_cong (fun k hk => ?_))
        by_cases hk2 : k = i
        · subst hk2; simp [c1]
        · by_cases hk3 : k < i
          · simp [hk3, show k < i + 1 by omega]
          · simp [hk3, show ¬ k < i + 1 by omega]
    · simp (disch := omega) only [bX0_onCell_4, h2, bd_some, gd_ix, lit_0, lit_1, lit_2, lit_3, lit_4, lit_5, lit_6, lit_7, lit_8, lit_9, lit_10, lit_15, lit_16, lit_19, lit_20, lit_31, lit_35, lit_36, lit_48, lit_49, lit_53, lit_55, lit_57, lit_59, lit_60, lit_63, lit_64, lit_97, lit_102, lit_110, lit_160, lit_255, nI_add, ns_sub, ns_div, ns_le, ns_lt, ns_eq, ns_cl, pk_mul, ne10, eq_self, ↓reduceIte, Nat.le_refl, ↓reduceIte]
  unfold fX0_onCell
  rw [key]
  rfl
theorem everyone_ok {t : Nat} {S : Sg} {c : Cf} (hB : Bd t S c) : fX0_everyone t S = some (ps (fun k => decide (k < cN c)), S) := by
  obtain ⟨h1, h2, h3⟩ := hB
  have key : lp (bX0_everyone_4 t) fl ((0 : Int32), (0 : Int32)) S = some ((ps (fun k => decide (k < cN c)), nI (cN c)), S) := by
    have e0 : ((0 : Int32), (0 : Int32)) = (ps (fun k => decide (k < 0)), nI 0) := by
      rw [ps_eq0.mpr (fun k hk => by simp)]; rfl
    rw [e0]
    refine lp_fl (fun i => (ps (fun k => decide (k < i)), nI i)) (fun _ => S) (cN c) (by omega) (fun i hi rec => ?_) (fun rec => ?_)
    · simp (disch := omega) only [bX0_everyone_4, h2, bd_some, gd_ix, lit_0, lit_1, lit_2, lit_3, lit_4, lit_5, lit_6, lit_7, lit_8, lit_9, lit_10, lit_15, lit_16, lit_19, lit_20, lit_31, lit_35, lit_36, lit_48, lit_49, lit_53, lit_55, lit_57, lit_59, lit_60, lit_63, lit_64, lit_97, lit_102, lit_110, lit_160, lit_255, nI_add, ns_sub, ns_div, ns_le, ns_lt, ns_eq, ns_cl, pk_mul, ne10, eq_self, ↓reduceIte, only_ok, ps_or, show ¬ cN c ≤ i from by omega, ↓reduceIte]
      refine congrArg (fun z => rec (z, nI (i + 1)) S) (ps_cong (fun k hk => ?_))
      by_cases hk2 : k = i
      · subst hk2; simp
      · by_cases hk3 : k < i
        · simp [hk3, hk2, show k < i + 1 by omega]
        · simp [hk3, hk2, show ¬ k < i + 1 by omega]
    · simp (disch := omega) only [bX0_everyone_4, h2, bd_some, gd_ix, lit_0, lit_1, lit_2, lit_3, lit_4, lit_5, lit_6, lit_7, lit_8, lit_9, lit_10, lit_15, lit_16, lit_19, lit_20, lit_31, lit_35, lit_36, lit_48, lit_49, lit_53, lit_55, lit_57, lit_59, lit_60, lit_63, lit_64, lit_97, lit_102, lit_110, lit_160, lit_255, nI_add, ns_sub, ns_div, ns_le, ns_lt, ns_eq, ns_cl, pk_mul, ne10, eq_self, ↓reduceIte, Nat.le_refl, ↓reduceIte]
  unfold fX0_everyone
  rw [key]
  rfl
theorem goesIn_ok {t : Nat} {S : Sg} {c : Cf} {nw no : Nat} {wd wl od ol : Nat → Nat} (hB : Bd t S c) (hC : Ca S nw wd wl no od ol) {k : Nat} (hk : k < cN c) (hm : S.1 (t + 5) k = ps (fun j => cP c j && (cC c j == cC c k))) : ∃ g, fX0_goesIn t (nI k) S = some (nI g, S) ∧ g ≤ 20 ∧ ∀ e, e < 20 → (g ≤ e ↔ (∃ w, w < nw ∧ wl w = cC c k / 6 ∧ cD c k < wd w ∧ wd w ≤ e) ∨ ∃ j, j < cN c ∧ lat c k j = true ∧ cD c j ≤ e) := by
  obtain ⟨h1, h2, h3⟩ := hB
  obtain ⟨k1, k2, k3, k4, -⟩ := h3 k hk
  obtain ⟨x, ex, hx, hx2⟩ := wipedBehind_ok hC (d := cD c k) (l := cC c k / 6) k2 (by omega)
  obtain ⟨a, S', e1, g, rfl, rfl, hg, hg2⟩ := lp_invF (B := bX0_goesIn_23 t (nI k)) (fun i a S1 => S1 = S ∧ a.2 = nI i ∧ ∃ g, a.1 = nI g ∧ g ≤ 20 ∧ ∀ e, e < 20 → (g ≤ e ↔ (x ≤ e ∨ ∃ j, j < i ∧ lat c k j = true ∧ cD c j ≤ e))) (fun a S' => ∃ g, S' = S ∧ a = (nI g, nI (cN c)) ∧ g ≤ 20 ∧ ∀ e, e < 20 → (g ≤ e ↔ (x ≤ e ∨ ∃ j, j < cN c ∧ lat c k j = true ∧ cD c j ≤ e))) (cN c) (by omega) (by
    rintro i ⟨a1, a2⟩ S1 hi ⟨rfl, rfl, g, rfl, hg, hg2⟩
    by_cases hin : i < cN c
    · refine Or.inl ⟨hin, ?_⟩
      obtain ⟨w1, w2, -⟩ := h3 i hin
      have hT : (if cD c k < cD c i then some (nI 1, S1) else if cD c i = cD c k then if i ≤ k then some (nI 0, S1) else some (nI 1, S1) else some (nI 0, S1)) = some ((if (cD c k < cD c i ∨ (cD c i = cD c k ∧ k < i)) then nI 1 else nI 0), S1) := by
        by_cases c1 : cD c k < cD c i
        · simp only [c1, true_or, ↓reduceIte]
        · by_cases c2 : cD c i = cD c k
          · by_cases c3 : i ≤ k
            · simp only [c2, c3, Nat.lt_irrefl, show ¬ k < i from by omega, and_false, or_false, ↓reduceIte]
            · simp only [c2, c3, Nat.lt_irrefl, show k < i from by omega, and_true, or_true, ↓reduceIte]
          · simp only [c1, c2, false_and, or_false, ↓reduceIte]
      by_cases hL : lat c k i = true
      · have hL2 := hL
        simp only [lat, Bool.and_eq_true, Bool.or_eq_true, beq_iff_eq, decide_eq_true_eq] at hL2
        obtain ⟨⟨p1, p2⟩, p3⟩ := hL2
        refine ⟨(nI (if cD c i < g then cD c i else g), nI (i + 1)), S1, fun rec => ?_, rfl, rfl, _, rfl, by split <;> omega, fun e he => ?_⟩
        · have e3 : (if cD c i < g then nI (cD c i) else nI g) = nI (if cD c i < g then cD c i else g) := by split <;> rfl
          simp (disch := omega) only [bX0_goesIn_23, h2, w1, k1, bd_some, gd_ix, lit_0, lit_1, lit_2, lit_3, lit_4, lit_5, lit_6, lit_7, lit_8, lit_9, lit_10, lit_15, lit_16, lit_19, lit_20, lit_31, lit_35, lit_36, lit_48, lit_49, lit_53, lit_55, lit_57, lit_59, lit_60, lit_63, lit_64, lit_97, lit_102, lit_110, lit_160, lit_255, nI_add, ns_sub, ns_div, ns_le, ns_lt, ns_eq, ns_cl, pk_mul, ne10, eq_self, ↓reduceIte, hT, p3, hm, show ¬ cN c ≤ i from by omega, has_ok, p1, p2, BEq.rfl, Bool.and_self, e3]
        · rw [ex_succ]
          have := hg2 e he
          constructor
          · intro q
            by_cases q2 : cD c i ≤ e
            · exact Or.inr (Or.inr ⟨hL, q2⟩)
            · have q3 : g ≤ e := by
                split at q <;> omega
              rcases this.mp q3 with z | z
              · exact Or.inl z
              · exact Or.inr (Or.inl z)
          · rintro (z | z | ⟨z1, z2⟩)
            · have := this.mpr (Or.inl z); split <;> omega
            · have := this.mpr (Or.inr z); split <;> omega
            · split <;> omega
      · refine ⟨(nI g, nI (i + 1)), S1, fun rec => ?_, rfl, rfl, g, rfl, hg, fun e he => ?_⟩
        · by_cases hO : (cD c k < cD c i ∨ (cD c i = cD c k ∧ k < i))
          · have hpc : (cP c i && (cC c i == cC c k)) = false := by
              cases hz : (cP c i && (cC c i == cC c k)) with
              | false => rfl
              | true =>
                exfalso
                apply hL
                unfold lat
                rw [hz]
                simpa using hO
            simp (disch := omega) only [bX0_goesIn_23, h2, w1, k1, bd_some, gd_ix, lit_0, lit_1, lit_2, lit_3, lit_4, lit_5, lit_6, lit_7, lit_8, lit_9, lit_10, lit_15, lit_16, lit_19, lit_20, lit_31, lit_35, lit_36, lit_48, lit_49, lit_53, lit_55, lit_57, lit_59, lit_60, lit_63, lit_64, lit_97, lit_102, lit_110, lit_160, lit_255, nI_add, ns_sub, ns_div, ns_le, ns_lt, ns_eq, ns_cl, pk_mul, ne10, eq_self, ↓reduceIte, hT, hO, hm, show ¬ cN c ≤ i from by omega, has_ok, hpc, Bool.false_eq_true]
          · simp (disch := omega) only [bX0_goesIn_23, h2, w1, k1, bd_some, gd_ix, lit_0, lit_1, lit_2, lit_3, lit_4, lit_5, lit_6, lit_7, lit_8, lit_9, lit_10, lit_15, lit_16, lit_19, lit_20, lit_31, lit_35, lit_36, lit_48, lit_49, lit_53, lit_55, lit_57, lit_59, lit_60, lit_63, lit_64, lit_97, lit_102, lit_110, lit_160, lit_255, nI_add, ns_sub, ns_div, ns_le, ns_lt, ns_eq, ns_cl, pk_mul, ne10, eq_self, ↓reduceIte, hT, hO, show ¬ cN c ≤ i from by omega]
        · rw [ex_succ, hg2 e he]
          constructor
          · rintro (z | z)
            · exact Or.inl z
            · exact Or.inr (Or.inl z)
          · rintro (z | z | ⟨z1, z2⟩)
            · exact Or.inl z
            · exact Or.inr z
            · exact absurd z1 hL
    · have hin2 : i = cN c := by omega
      subst hin2
      refine Or.inr ⟨(nI g, nI (cN c)), S1, fun rec => ?_, g, rfl, rfl, hg, hg2⟩
      simp (disch := omega) only [bX0_goesIn_23, h2, bd_some, gd_ix, lit_0, lit_1, lit_2, lit_3, lit_4, lit_5, lit_6, lit_7, lit_8, lit_9, lit_10, lit_15, lit_16, lit_19, lit_20, lit_31, lit_35, lit_36, lit_48, lit_49, lit_53, lit_55, lit_57, lit_59, lit_60, lit_63, lit_64, lit_97, lit_102, lit_110, lit_160, lit_255, nI_add, ns_sub, ns_div, ns_le, ns_lt, ns_eq, ns_cl, pk_mul, ne10, eq_self, ↓reduceIte, Nat.le_refl, ↓reduceIte]) (nI x, (0 : Int32)) S ⟨rfl, rfl, x, rfl, hx, fun e he => ⟨Or.inl, fun q => q.elim id (fun ⟨j, q1, _⟩ => absurd q1 (by omega))⟩⟩
  refine ⟨g, ?_, hg, fun e he => ?_⟩
  · unfold fX0_goesIn
    rw [gd_ix (by omega) (by omega), gd_ix (by omega) (by omega), ns_cl (by omega), k1, k3, lit_6, ns_div (by omega) (by omega) (by omega), ex, bd_some, e1]
    rfl
  · rw [hg2 e he, hx2 e he]
