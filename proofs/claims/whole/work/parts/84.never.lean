/-! what was seen: never, sign, chalk -/
def sk (c : Cf) (G : Nat → Nat) (N : Sn3) : Bool := !exB (fun i => !(sr c G (N.2.1 i) (N.2.2.1 i) == N.2.2.2 i)) N.1
/-- by cell: the cell itself -/
def onX (c : Cf) (x : Nat) : Nat → Bool := fun j => cP c j && (cC c j == x)
theorem onX_n {c : Cf} {x j : Nat} (h : onX c x j = true) : cP c j = true ∧ cC c j = x := by
  unfold onX at h
  simpa using h
theorem onX_cl {c : Cf} {x : Nat} : cl c (onX c x) := fun k j hk _ hz hp q => by
  have h1 := onX_n hk
  have : onX c x j = true := by unfold onX; rw [hp, q, h1.2]; simp
  rw [this] at hz; cases hz
theorem sr_cell {c : Cf} (hP : ∀ j, cP c j = true → j < cN c) {G : Nat → Nat} {d x : Nat} : sr (uP c (onX c x)) G d x = sr c G d x := by
  have hin : ∀ j, up (uP c (onX c x)) d j = (onX c x j && up c d j) := fun j => up_in (fun k h => (onX_n h).1) (fun k h => hP k (onX_n h).1) onX_cl
  refine sr_cong (c := uP c (onX c x)) (e := c) rfl (fun j _ => ⟨?_, fun _ => rfl⟩) (fun j _ h => by
    unfold srp at h
    rw [Bool.and_eq_true] at h
    exact h.2)
  show ((cC c j == x) && up (uP c (onX c x)) d j) = ((cC c j == x) && up c d j)
  rw [hin j]
  cases hu : up c d j with
  | false => simp
  | true =>
    unfold onX
    rw [up_P hu]
    cases (cC c j == x) <;> rfl
/-- the other cells -/
theorem sr_other {c e : Cf} (hN : cN c = cN e) (hW : cW c = cW e) (hO : cO c = cO e) (hA : cA c = cA e) (hF : cF c = cF e) (hC : ∀ j, cC c j = cC e j) {x : Nat} (hD : ∀ j, j < cN c → ¬ cC c j = x → cD c j = cD e j) (hK : ∀ j, j < cN c → ¬ cC c j = x → cK c j = cK e j) (hPP : ∀ j, ¬ cC c j = x → cP c j = cP e j) (hPc : ∀ j, cP c j = true → j < cN c) (hPe : ∀ j, cP e j = true → j < cN e) {G H : Nat → Nat} (hG : ∀ j, j < cN c → ¬ cC c j = x → G j = H j) {d y : Nat} (hy : ¬ y = x) : sr c G d y = sr e H d y := by
  obtain ⟨Z, hZ⟩ : ∃ Z : Nat → Bool, Z = fun j => cP c j && !(cC c j == x) := ⟨_, rfl⟩
  have hZn : ∀ j, Z j = true → cP c j = true ∧ ¬ cC c j = x := fun j h => by
    rw [hZ] at h
    simpa using h
  have hZo : ∀ j, Z j = false → cP c j = true → cC c j = x := fun j h hp => by
    rw [hZ] at h
    simpa [hp] using h
  have h1 : ∀ j, up (uP c Z) d j = (Z j && up c d j) := fun j => up_in (fun k h => (hZn k h).1) (fun k h => hPc k (hZn k h).1) (fun a j ha _ hz hp q => (hZn a ha).2 (q.symm.trans (hZo j hz hp)))
  have h2 : ∀ j, up (uP e Z) d j = (Z j && up e d j) := fun j => up_in (fun k h => by rw [← hPP k (hZn k h).2]; exact (hZn k h).1) (fun k h => by rw [← hN]; exact hPc k (hZn k h).1) (fun a j ha _ hz hp q => by
    by_cases z : cC c j = x
    · exact (hZn a ha).2 (by rw [hC a, ← q, ← hC j]; exact z)
    · have hp2 : cP c j = true := by rw [hPP j z]; exact hp
      exact z (hZo j hz hp2))
  have h3 : ∀ j, up (uP c Z) d j = up (uP e Z) d j := fun j => up_agree hN hW hO hA hF (fun k h => hD k (hPc k (hZn k h).1) (hZn k h).2) (fun k _ => hC k) (fun k h => hK k (hPc k (hZn k h).1) (hZn k h).2) (fun k h => hPc k (hZn k h).1)
  refine sr_cong hN (fun j hj => ⟨?_, fun h => hG j hj (fun q => ?_)⟩) (fun j _ h => by
    unfold srp at h
    rw [Bool.and_eq_true] at h
    exact h.2)
  · unfold srp
    rw [← hC j]
    by_cases q : cC c j = y
    · have hjx : ¬ cC c j = x := fun z => hy (q.symm.trans z)
      have e1 := h1 j
      have e2 := h2 j
      rw [h3 j] at e1
      cases hp : cP c j with
      | true =>
        have hz : Z j = true := by rw [hZ]; simp [hp, hjx]
        rw [hz, Bool.true_and] at e1 e2
        rw [← e1, e2]
      | false =>
        have n1 : up c d j = false := by
          cases z : up c d j with
          | false => rfl
          | true => rw [up_P z] at hp; cases hp
        have n2 : up e d j = false := by
          cases z : up e d j with
          | false => rfl
          | true =>
            have := up_P z
            rw [← hPP j hjx, hp] at this; cases this
        rw [n1, n2]
    · rw [beq_false_of_ne q]; rfl
  · unfold srp at h
    rw [Bool.and_eq_true, beq_iff_eq] at h
    exact hy (h.1.symm.trans q)
/-- the class -/
theorem agrees_ok {S : Sg} {N : Sn3} (hS : cSn S N) {t1 t2 x : Nat} {f : Nat → Nat → Nat} (hx : x < 36) (hf : ∀ d y, f d y ≤ 6) (h1 : ∀ d, d < 20 → fX0_signRisen t1 (nI x) (S.1 (t2 + 1) d) S = some (nI (f d x), S)) (h0 : ∀ d y, d < 20 → y < 36 → ¬ y = x → fX0_signRisen 12 (nI y) (S.1 22 d) S = some (nI (f d y), S)) : fX8_agrees t1 t2 (nI x) S = some (bI (!exB (fun i => !(f (N.2.1 i) (N.2.2.1 i) == N.2.2.2 i)) N.1), S) := by
  obtain ⟨n8, nN, nC⟩ := hS
  obtain ⟨r, S', e1, hS', hQ⟩ := lp_invF (B := bX8_agrees_3 t1 t2 (nI x)) (fun i a S1 => S1 = S ∧ a = nI i ∧ exB (fun i => !(f (N.2.1 i) (N.2.2.1 i) == N.2.2.2 i)) i = false) (fun r S1 => S1 = S ∧ ((r = Sum.inr (nI 0) ∧ exB (fun i => !(f (N.2.1 i) (N.2.2.1 i) == N.2.2.2 i)) N.1 = true) ∨ (∃ y, r = Sum.inl y ∧ exB (fun i => !(f (N.2.1 i) (N.2.2.1 i) == N.2.2.2 i)) N.1 = false))) N.1 (by omega) (by
    rintro i a S1 hi ⟨hS1, ha, hr⟩
    subst hS1
    subst ha
    by_cases hin : i < N.1
    · obtain ⟨w1, w2, w3, w4, w5, w6⟩ := nC i hin
      have hfv := hf (N.2.1 i) (N.2.2.1 i)
      by_cases q : f (N.2.1 i) (N.2.2.1 i) = N.2.2.2 i
      · refine Or.inl ⟨hin, nI (i + 1), S1, fun rec => ?_, rfl, rfl, ?_⟩
        · by_cases c1 : N.2.2.1 i = x
          · have e := h1 (N.2.1 i) w2
            rw [c1] at q
            rw [q] at e
            simp (disch := omega) only [bX8_agrees_3, bdq, gd_ix, lit_0, lit_1, lit_2, lit_3, lit_4, lit_5, lit_6, lit_7, lit_8, lit_9, lit_10, lit_15, lit_16, lit_19, lit_20, lit_31, lit_35, lit_36, lit_48, lit_49, lit_53, lit_55, lit_57, lit_59, lit_60, lit_63, lit_64, lit_97, lit_102, lit_110, lit_160, lit_255, nI_add, ns_sub, ns_div, ns_le, ns_lt, ns_eq, ns_cl, pk_mul, ne10, eq_self, ↓reduceIte, nN, w1, w3, w5, c1, e, show ¬ N.1 ≤ i from by omega]
          · have e := h0 (N.2.1 i) (N.2.2.1 i) w2 w4 c1
            rw [q] at e
            simp (disch := omega) only [bX8_agrees_3, bdq, gd_ix, lit_0, lit_1, lit_2, lit_3, lit_4, lit_5, lit_6, lit_7, lit_8, lit_9, lit_10, lit_15, lit_16, lit_19, lit_20, lit_31, lit_35, lit_36, lit_48, lit_49, lit_53, lit_55, lit_57, lit_59, lit_60, lit_63, lit_64, lit_97, lit_102, lit_110, lit_160, lit_255, nI_add, ns_sub, ns_div, ns_le, ns_lt, ns_eq, ns_cl, pk_mul, ne10, eq_self, ↓reduceIte, nN, w1, w3, w5, c1, e, show ¬ N.1 ≤ i from by omega]
        · rw [exB, hr, q]
          simp
      · refine Or.inr ⟨Sum.inr (nI 0), S1, fun rec => ?_, rfl, Or.inl ⟨rfl, exB_iff.mpr ⟨i, hin, by simp [q]⟩⟩⟩
        by_cases c1 : N.2.2.1 i = x
        · have e := h1 (N.2.1 i) w2
          rw [c1] at q hfv
          simp (disch := omega) only [bX8_agrees_3, bdq, gd_ix, lit_0, lit_1, lit_2, lit_3, lit_4, lit_5, lit_6, lit_7, lit_8, lit_9, lit_10, lit_15, lit_16, lit_19, lit_20, lit_31, lit_35, lit_36, lit_48, lit_49, lit_53, lit_55, lit_57, lit_59, lit_60, lit_63, lit_64, lit_97, lit_102, lit_110, lit_160, lit_255, nI_add, ns_sub, ns_div, ns_le, ns_lt, ns_eq, ns_cl, pk_mul, ne10, eq_self, ↓reduceIte, nN, w1, w3, w5, c1, e, q, show ¬ N.1 ≤ i from by omega]
        · have e := h0 (N.2.1 i) (N.2.2.1 i) w2 w4 c1
          simp (disch := omega) only [bX8_agrees_3, bdq, gd_ix, lit_0, lit_1, lit_2, lit_3, lit_4, lit_5, lit_6, lit_7, lit_8, lit_9, lit_10, lit_15, lit_16, lit_19, lit_20, lit_31, lit_35, lit_36, lit_48, lit_49, lit_53, lit_55, lit_57, lit_59, lit_60, lit_63, lit_64, lit_97, lit_102, lit_110, lit_160, lit_255, nI_add, ns_sub, ns_div, ns_le, ns_lt, ns_eq, ns_cl, pk_mul, ne10, eq_self, ↓reduceIte, nN, w1, w3, w5, c1, e, q, show ¬ N.1 ≤ i from by omega]
    · have hin2 : i = N.1 := by omega
      refine Or.inr ⟨Sum.inl (nI i), S1, fun rec => ?_, rfl, Or.inr ⟨_, rfl, by rw [← hin2]; exact hr⟩⟩
      simp (disch := omega) only [bX8_agrees_3, bdq, gd_ix, lit_0, lit_1, lit_2, lit_3, lit_4, lit_5, lit_6, lit_7, lit_8, lit_9, lit_10, lit_15, lit_16, lit_19, lit_20, lit_31, lit_35, lit_36, lit_48, lit_49, lit_53, lit_55, lit_57, lit_59, lit_60, lit_63, lit_64, lit_97, lit_102, lit_110, lit_160, lit_255, nI_add, ns_sub, ns_div, ns_le, ns_lt, ns_eq, ns_cl, pk_mul, ne10, eq_self, ↓reduceIte, nN, show N.1 ≤ i from by omega]) (nI 0) S ⟨rfl, rfl, rfl⟩
  rw [hS'] at e1
  unfold fX8_agrees
  rw [lit_0, e1, bd_some]
  rcases hQ with ⟨rfl, hq⟩ | ⟨y, rfl, hq⟩
  · rw [hq]; rfl
  · rw [hq]; rfl
/-- the reference -/
theorem isSeen_ok {S : Sg} {c : Cf} {G : Nat → Nat} {N : Sn3} {nw no : Nat} {wd wl od ol : Nat → Nat} {mo : Nat → Bool} (h : Md S c nw wd wl no od ol mo) (hG : ∀ k, k < cN c → S.1 6 k = nI (G k)) (hG5 : ∀ k, k < cN c → G k ≤ 5) (hS : mSn S N) : ∃ S', fX9_isSeen S = some (bI (sk c G N), S') ∧ mf S S' := by
  obtain ⟨S1, e1, f1, -, d1⟩ := runs_ok h
  have m1 := h.mf f1
  have g1 : ∀ k, k < cN c → S1.1 6 k = nI (G k) := fun k hk => by rw [f1.1 6 k (by omega) (by omega)]; exact hG k hk
  obtain ⟨n8, nN, nC⟩ := hS
  have nN1 : S1.1 0 25 = nI N.1 := by rw [f1.1 0 25 (by omega) (by omega)]; exact nN
  have nC1 : ∀ i, i < N.1 → S1.1 18 i = nI (N.2.1 i) ∧ N.2.1 i < 20 ∧ S1.1 19 i = nI (N.2.2.1 i) ∧ N.2.2.1 i < 36 ∧ S1.1 20 i = nI (N.2.2.2 i) ∧ N.2.2.2 i ≤ 6 := fun i hi => by
    rw [f1.1 18 i (by omega) (by omega), f1.1 19 i (by omega) (by omega), f1.1 20 i (by omega) (by omega)]
    exact nC i hi
  obtain ⟨r, S', e2, hS', hQ⟩ := lp_invF (B := bX9_isSeen_8) (fun i a Sx => Sx = S1 ∧ a = (bI (!exB (fun i => !(sr c G (N.2.1 i) (N.2.2.1 i) == N.2.2.2 i)) i), nI i)) (fun a Sx => Sx = S1 ∧ ∃ y, a = (bI (sk c G N), y)) N.1 (by omega) (by
    rintro i a Sx hi ⟨hSx, ha⟩
    subst hSx
    subst ha
    by_cases hin : i < N.1
    · obtain ⟨w1, w2, w3, w4, w5, w6⟩ := nC1 i hin
      cases hb : exB (fun i => !(sr c G (N.2.1 i) (N.2.2.1 i) == N.2.2.2 i)) i with
      | true =>
        have hk : sk c G N = false := by
          unfold sk
          obtain ⟨j, hj, hp⟩ := exB_iff.mp hb
          rw [exB_iff.mpr ⟨j, by omega, hp⟩]
          rfl
        refine Or.inr ⟨(bI false, nI i), Sx, fun rec => ?_, rfl, nI i, by rw [hk]⟩
        simp (disch := omega) only [bX9_isSeen_8, bdq, gd_ix, lit_0, lit_1, lit_2, lit_3, lit_4, lit_5, lit_6, lit_7, lit_8, lit_9, lit_10, lit_15, lit_16, lit_19, lit_20, lit_31, lit_35, lit_36, lit_48, lit_49, lit_53, lit_55, lit_57, lit_59, lit_60, lit_63, lit_64, lit_97, lit_102, lit_110, lit_160, lit_255, nI_add, ns_sub, ns_div, ns_le, ns_lt, ns_eq, ns_cl, pk_mul, ne10, eq_self, ↓reduceIte, nN1, Bool.not_true, bI_f, show ¬ N.1 ≤ i from by omega]
      | false =>
        have es := standsNow_ok (S := Sx) (c := c) (G := G) m1.2.1 m1.1 (fun k hk => ⟨(m1.2.2.1 k hk).2.2.1, (m1.2.2.1 k hk).2.2.2.1⟩) g1 (d1 _ w2) w2 w4
        have er := sr_shw (c := c) (G := G) (d := N.2.1 i) (x := N.2.2.1 i) hG5
        have hl := sr_le (c := c) (G := G) (d := N.2.1 i) (x := N.2.2.1 i) hG5
        have et : (if shw c G (N.2.1 i) (N.2.2.1 i) ≤ nI 5 then some (nI 6, Sx) else some (shw c G (N.2.1 i) (N.2.2.1 i) - nI 6, Sx)) = some (nI (sr c G (N.2.1 i) (N.2.2.1 i)), Sx) := by rw [ite_s, er]
        refine Or.inl ⟨hin, (bI (!exB (fun i => !(sr c G (N.2.1 i) (N.2.2.1 i) == N.2.2.2 i)) (i + 1)), nI (i + 1)), Sx, fun rec => ?_, rfl, rfl⟩
        rw [exB, hb, Bool.false_or]
        generalize shw c G (N.2.1 i) (N.2.2.1 i) = Y at es et
        by_cases hY : Y ≤ nI 5
        · rw [if_pos hY] at et
          have e6 : nI 6 = nI (sr c G (N.2.1 i) (N.2.2.1 i)) := (Prod.mk.inj (Option.some.inj et)).1
          by_cases q : sr c G (N.2.1 i) (N.2.2.1 i) = N.2.2.2 i
          · rw [q] at e6 ⊢
            simp (disch := omega) only [bX9_isSeen_8, bdq, gd_ix, lit_0, lit_1, lit_5, lit_6, nI_add, ns_le, ns_cl, show ¬ nI 1 = nI 0 from by decide, eq_self, nN1, w1, w3, w5, es, hY, e6, Bool.not_false, bI_t, BEq.rfl, Bool.not_true, show ¬ N.1 ≤ i from by omega, ↓reduceIte]
          · rw [beq_false_of_ne q]
            have q2 : ¬ nI 6 = nI (N.2.2.2 i) := by rw [e6, ns_eq (by omega) (by omega)]; exact q
            simp (disch := omega) only [bX9_isSeen_8, bdq, gd_ix, lit_0, lit_1, lit_5, lit_6, nI_add, ns_le, ns_cl, show ¬ nI 1 = nI 0 from by decide, eq_self, nN1, w1, w3, w5, es, hY, q2, Bool.not_false, Bool.not_true, bI_t, bI_f, show ¬ N.1 ≤ i from by omega, ↓reduceIte]
        · rw [if_neg hY] at et
          have e6 : Y - nI 6 = nI (sr c G (N.2.1 i) (N.2.2.1 i)) := (Prod.mk.inj (Option.some.inj et)).1
          by_cases q : sr c G (N.2.1 i) (N.2.2.1 i) = N.2.2.2 i
          · rw [q] at e6 ⊢
            simp (disch := omega) only [bX9_isSeen_8, bdq, gd_ix, lit_0, lit_1, lit_5, lit_6, nI_add, ns_le, ns_cl, show ¬ nI 1 = nI 0 from by decide, eq_self, nN1, w1, w3, w5, es, hY, e6, Bool.not_false, bI_t, BEq.rfl, Bool.not_true, show ¬ N.1 ≤ i from by omega, ↓reduceIte]
          · rw [beq_false_of_ne q]
            have q2 : ¬ Y - nI 6 = nI (N.2.2.2 i) := by rw [e6, ns_eq (by omega) (by omega)]; exact q
            simp (disch := omega) only [bX9_isSeen_8, bdq, gd_ix, lit_0, lit_1, lit_5, lit_6, nI_add, ns_le, ns_cl, show ¬ nI 1 = nI 0 from by decide, eq_self, nN1, w1, w3, w5, es, hY, q2, Bool.not_false, Bool.not_true, bI_t, bI_f, show ¬ N.1 ≤ i from by omega, ↓reduceIte]
    · have hin2 : i = N.1 := by omega
      refine Or.inr ⟨(bI (sk c G N), nI i), Sx, fun rec => ?_, rfl, nI i, rfl⟩
      rw [hin2]
      show bX9_isSeen_8 rec (bI (sk c G N), nI N.1) Sx = _
      generalize bI (sk c G N) = Y
      simp (disch := omega) only [bX9_isSeen_8, bdq, gd_ix, lit_0, lit_1, lit_2, lit_3, lit_4, lit_5, lit_6, lit_7, lit_8, lit_9, lit_10, lit_15, lit_16, lit_19, lit_20, lit_31, lit_35, lit_36, lit_48, lit_49, lit_53, lit_55, lit_57, lit_59, lit_60, lit_63, lit_64, lit_97, lit_102, lit_110, lit_160, lit_255, nI_add, ns_sub, ns_div, ns_le, ns_lt, ns_eq, ns_cl, pk_mul, ne10, eq_self, ↓reduceIte, nN1, Nat.le_refl]) (nI 1, nI 0) S1 ⟨rfl, rfl⟩
  obtain ⟨y, hy⟩ := hQ
  rw [hS', hy] at e2
  refine ⟨S1, ?_, f1⟩
  unfold fX9_isSeen
  rw [e1, bd_some, lit_0, lit_1, e2, bd_some]
  dsimp only
  rw [gd_t (zb_bI _)]
