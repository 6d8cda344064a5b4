/-! misread, most, deep -/
theorem pb_and {p q : Nat → Bool} : pb p &&& pb q = pb (fun k => p k && q k) := by
  unfold pb
  rw [fa_and]
  congr 1
  apply Nat.eq_of_testBit_eq
  intro i
  rw [Nat.testBit_and]
  by_cases hi : i < 8
  · rw [ob_bit hi, ob_bit hi, ob_bit hi]
  · have h1 : ob 8 p < 2 ^ i := Nat.lt_of_lt_of_le (ob_lt 8 p) (Nat.pow_le_pow_right (by decide) (by omega))
    have h2 : ob 8 (fun k => p k && q k) < 2 ^ i := Nat.lt_of_lt_of_le (ob_lt 8 _) (Nat.pow_le_pow_right (by decide) (by omega))
    rw [Nat.testBit_lt_two_pow h1, Nat.testBit_lt_two_pow h2]
    rfl
theorem pb_inj {p q : Nat → Bool} (h : pb p = pb q) : ∀ k, k < 8 → p k = q k := by
  intro k hk
  have h1 := ob_lt 8 p
  have h2 := ob_lt 8 q
  have e := nI_inj32 (a := ob 8 p) (b := ob 8 q) (by omega) (by omega) h
  rw [← ob_bit (p := p) hk, ← ob_bit (p := q) hk, e]
theorem pb_eq0 {p : Nat → Bool} : pb p = nI 0 ↔ ∀ k, k < 8 → p k = false := by
  rw [← lit_0, ← pb_0]
  exact ⟨fun h => pb_inj h, fun h => pb_cong h⟩
theorem pb_orN {p : Nat → Bool} {k : Nat} (hk : k < 8) : pb p ||| (nI 1 <<< (nI k &&& nI 31)) = pb (fun i => p i || (i == k)) := pb_or hk
theorem hasBit_ok {p : Nat → Bool} {k : Nat} (hk : k < 8) {S : Sg} : fX8_hasBit (pb p) (nI k) S = some (bI (p k), S) := by
  unfold fX8_hasBit
  have e : (pb p >>> (nI k &&& 31)) &&& 1 = nI (if p k = true then 1 else 0) := pb_bit hk
  rw [e]
  cases p k <;> rfl
def lnB (c : Cf) (p : Nat → Bool) (l : Nat) : Bool := exB (fun k => p k && (cC c k / 6 == l)) (cN c)
theorem linesOf_ok {t : Nat} {S : Sg} {c : Cf} (hB : Bd t S c) {p : Nat → Bool} : fX0_linesOf t (ps p) S = some (pb (lnB c p), S) := by
  obtain ⟨h1, h2, h3⟩ := hB
  have key : lp (bX0_linesOf_4 t (ps p)) fl (pb (fun l => exB (fun k => p k && (cC c k / 6 == l)) 0), nI 0) S = some ((pb (lnB c p), nI (cN c)), S) := by
    refine lp_fl (fun i => (pb (fun l => exB (fun k => p k && (cC c k / 6 == l)) i), nI i)) (fun _ => S) (cN c) (by omega) (fun i hi rec => ?_) (fun rec => ?_)
    · obtain ⟨k1, k2, k3, k4, -⟩ := h3 i hi
      cases hp : p i with
      | true =>
        have e : pb (fun l => exB (fun k => p k && (cC c k / 6 == l)) (i + 1)) = pb (fun l => exB (fun k => p k && (cC c k / 6 == l)) i || (l == cC c i / 6)) := pb_cong (fun l hl => by
          rw [exB, hp, Bool.true_and]
          congr 1
          rw [Bool.eq_iff_iff, beq_iff_eq, beq_iff_eq]
          exact ⟨Eq.symm, Eq.symm⟩)
        rw [e]
        generalize hX : pb (fun l => exB (fun k => p k && (cC c k / 6 == l)) i || (l == cC c i / 6)) = X
        have hor : pb (fun l => exB (fun k => p k && (cC c k / 6 == l)) i) ||| (nI 1 <<< (nI (cC c i / 6) &&& nI 31)) = X := by rw [← hX]; exact pb_orN (by omega)
        generalize pb (fun l => exB (fun k => p k && (cC c k / 6 == l)) i) = Y at hor ⊢
        simp (disch := omega) only [bX0_linesOf_4, h2, bd_some, gd_ix, lit_0, lit_1, lit_2, lit_3, lit_4, lit_5, lit_6, lit_7, lit_8, lit_9, lit_10, lit_15, lit_16, lit_19, lit_20, lit_31, lit_35, lit_36, lit_48, lit_49, lit_53, lit_55, lit_57, lit_59, lit_60, lit_63, lit_64, lit_97, lit_102, lit_110, lit_160, lit_255, nI_add, ns_sub, ns_div, ns_le, ns_lt, ns_eq, ns_cl, pk_mul, ne10, eq_self, ↓reduceIte, has_ok, hp, k3, hor, show ¬ cN c ≤ i from by omega]
      | false =>
        have e : pb (fun l => exB (fun k => p k && (cC c k / 6 == l)) (i + 1)) = pb (fun l => exB (fun k => p k && (cC c k / 6 == l)) i) := pb_cong (fun l hl => by rw [exB, hp, Bool.false_and, Bool.or_false])
        rw [e]
        generalize pb (fun l => exB (fun k => p k && (cC c k / 6 == l)) i) = Y
        simp (disch := omega) only [bX0_linesOf_4, h2, bd_some, gd_ix, lit_0, lit_1, lit_2, lit_3, lit_4, lit_5, lit_6, lit_7, lit_8, lit_9, lit_10, lit_15, lit_16, lit_19, lit_20, lit_31, lit_35, lit_36, lit_48, lit_49, lit_53, lit_55, lit_57, lit_59, lit_60, lit_63, lit_64, lit_97, lit_102, lit_110, lit_160, lit_255, nI_add, ns_sub, ns_div, ns_le, ns_lt, ns_eq, ns_cl, pk_mul, ne10, eq_self, ↓reduceIte, has_ok, hp, Bool.false_eq_true, show ¬ cN c ≤ i from by omega]
    · show bX0_linesOf_4 t (ps p) rec (pb (lnB c p), nI (cN c)) S = _
      generalize pb (lnB c p) = Y
      simp (disch := omega) only [bX0_linesOf_4, h2, bd_some, gd_ix, lit_0, lit_1, lit_2, lit_3, lit_4, lit_5, lit_6, lit_7, lit_8, lit_9, lit_10, lit_15, lit_16, lit_19, lit_20, lit_31, lit_35, lit_36, lit_48, lit_49, lit_53, lit_55, lit_57, lit_59, lit_60, lit_63, lit_64, lit_97, lit_102, lit_110, lit_160, lit_255, nI_add, ns_sub, ns_div, ns_le, ns_lt, ns_eq, ns_cl, pk_mul, ne10, eq_self, ↓reduceIte, Nat.le_refl]
  have e0 : pb (fun l => exB (fun k => p k && (cC c k / 6 == l)) 0) = 0 := by
    rw [← pb_0]
    rfl
  rw [e0] at key
  have key' : lp (bX0_linesOf_4 t (ps p)) fl (0, 0) S = some ((pb (lnB c p), nI (cN c)), S) := key
  unfold fX0_linesOf
  rw [key', bd_some]
theorem leastLine_ok {p : Nat → Bool} {S : Sg} (h : fa_first p 6 < 6) : fX8_leastLine (pb p) S = some (nI (fa_first p 6), S) := by
  have key : lp (bX8_leastLine_2 (pb p)) fl (nI 0) S = some (Sum.inr (nI (fa_first p 6)), S) := by
    refine lp_fl (fun i => nI i) (fun _ => S) (fa_first p 6) (by omega) (fun i hi rec => ?_) (fun rec => ?_)
    · have e := fa_first_no p 6 i hi
      have hb := hasBit_ok (p := p) (k := i) (by omega) (S := S)
      rw [e] at hb
      simp (disch := omega) only [bX8_leastLine_2, bd_some, gd_ix, lit_0, lit_1, lit_2, lit_3, lit_4, lit_5, lit_6, lit_7, lit_8, lit_9, lit_10, lit_15, lit_16, lit_19, lit_20, lit_31, lit_35, lit_36, lit_48, lit_49, lit_53, lit_55, lit_57, lit_59, lit_60, lit_63, lit_64, lit_97, lit_102, lit_110, lit_160, lit_255, nI_add, ns_sub, ns_div, ns_le, ns_lt, ns_eq, ns_cl, pk_mul, ne10, eq_self, ↓reduceIte, hb, bI_f, show ¬ 6 ≤ i from by omega]
    · have e := fa_first_yes p 6 h
      have hb := hasBit_ok (p := p) (k := fa_first p 6) (by omega) (S := S)
      rw [e] at hb
      simp (disch := omega) only [bX8_leastLine_2, bd_some, gd_ix, lit_0, lit_1, lit_2, lit_3, lit_4, lit_5, lit_6, lit_7, lit_8, lit_9, lit_10, lit_15, lit_16, lit_19, lit_20, lit_31, lit_35, lit_36, lit_48, lit_49, lit_53, lit_55, lit_57, lit_59, lit_60, lit_63, lit_64, lit_97, lit_102, lit_110, lit_160, lit_255, nI_add, ns_sub, ns_div, ns_le, ns_lt, ns_eq, ns_cl, pk_mul, ne10, eq_self, ↓reduceIte, hb, bI_t, show ¬ 6 ≤ fa_first p 6 from by omega]
  unfold fX8_leastLine
  rw [lit_0, key, bd_some]
  rfl
def misB (c : Cf) (d l : Nat) : Bool := lnB c (fun k => up c d k) l && lnB c (fun k => now c k d == 1) l
def misD (c : Cf) : Nat := fa_first (fun d => exB (misB c d) 6) 20
def misV (c : Cf) (w : Nat) : Int32 := if misD c < 20 then (if w = 0 then nI (misD c) else nI (fa_first (misB c (misD c)) 6)) else -nI 1
theorem lnB_hi {c : Cf} {p : Nat → Bool} (h : ∀ k, k < cN c → cC c k < 36) {l : Nat} (hl : 6 ≤ l) : lnB c p l = false := exB_false.mpr (fun k hk => by
  have := h k hk
  simp [show ¬ cC c k / 6 = l by omega])
theorem mis_0 {c : Cf} (h : ∀ k, k < cN c → cC c k < 36) {d : Nat} : pb (misB c d) = nI 0 ↔ exB (misB c d) 6 = false := by
  rw [pb_eq0, exB_false]
  refine ⟨fun q k hk => q k (by omega), fun q k hk => ?_⟩
  by_cases z : k < 6
  · exact q k z
  · unfold misB; rw [lnB_hi h (by omega)]; rfl
theorem ex_first {p : Nat → Bool} {n : Nat} (h : exB p n = true) : fa_first p n < n := by
  obtain ⟨k, hk, hp⟩ := exB_iff.mp h
  by_cases q : fa_first p n < n
  · exact q
  · have := fa_first_no p n k (by omega)
    rw [this] at hp; cases hp
theorem misreadC_ok {S : Sg} {A : Ab} (h : RC S A) {w : Nat} (hw : w < 2) : ∃ S', fX8_misread (nI w) S = some (misV (cfg A) w, S') ∧ RF S' A := by
  obtain ⟨S1, e1, h1⟩ := bring_ok h
  refine ⟨S1, ?_, h1⟩
  have hC36 : ∀ k, k < cN (cfg A) → cC (cfg A) k < 36 := fun k hk => (cfg_rng hk).2.1
  have hln := fun p => linesOf_ok (t := 12) h1.2.2.1 (p := p)
  have hle : misD (cfg A) ≤ 20 := fa_first_le _ _
  have key : lp (bX8_misread_16 (nI w)) fl (nI 0) S1 = some ((if misD (cfg A) < 20 then Sum.inr (if w = 0 then nI (misD (cfg A)) else nI (fa_first (misB (cfg A) (misD (cfg A))) 6)) else Sum.inl (nI 20)), S1) := by
    refine lp_fl (fun i => nI i) (fun _ => S1) (misD (cfg A)) (by omega) (fun i hi rec => ?_) (fun rec => ?_)
    · have e : exB (misB (cfg A) i) 6 = false := fa_first_no (fun d => exB (misB (cfg A) d) 6) 20 i hi
      have w22 : S1.1 22 i = ps (fun k => up (cfg A) i k) := fr_risen h1 (by omega)
      have w18 : S1.1 18 i = ps (fun k => now (cfg A) k i == 1) := (h1.2.2.2.2.1.2 i (by omega)).1
      have ea : pb (lnB (cfg A) (fun k => up (cfg A) i k)) &&& pb (lnB (cfg A) (fun k => now (cfg A) k i == 1)) = nI 0 := by
        rw [pb_and]; exact (mis_0 hC36).mpr e
      simp (disch := omega) only [bX8_misread_16, bd_some, gd_ix, lit_0, lit_1, lit_2, lit_3, lit_4, lit_5, lit_6, lit_7, lit_8, lit_9, lit_10, lit_15, lit_16, lit_19, lit_20, lit_31, lit_35, lit_36, lit_48, lit_49, lit_53, lit_55, lit_57, lit_59, lit_60, lit_63, lit_64, lit_97, lit_102, lit_110, lit_160, lit_255, nI_add, ns_sub, ns_div, ns_le, ns_lt, ns_eq, ns_cl, pk_mul, ne10, eq_self, ↓reduceIte, w22, w18, hln, ea, show ¬ 20 ≤ i from by omega]
    · by_cases q : misD (cfg A) < 20
      · have e : exB (misB (cfg A) (misD (cfg A))) 6 = true := fa_first_yes (fun d => exB (misB (cfg A) d) 6) 20 q
        have w22 : S1.1 22 (misD (cfg A)) = ps (fun k => up (cfg A) (misD (cfg A)) k) := fr_risen h1 q
        have w18 : S1.1 18 (misD (cfg A)) = ps (fun k => now (cfg A) k (misD (cfg A)) == 1) := (h1.2.2.2.2.1.2 _ q).1
        have ea : pb (lnB (cfg A) (fun k => up (cfg A) (misD (cfg A)) k)) &&& pb (lnB (cfg A) (fun k => now (cfg A) k (misD (cfg A)) == 1)) = pb (misB (cfg A) (misD (cfg A))) := pb_and
        have en : ¬ pb (misB (cfg A) (misD (cfg A))) = nI 0 := fun z => by
          rw [(mis_0 hC36).mp z] at e; cases e
        have el := leastLine_ok (S := S1) (ex_first e)
        rw [if_pos q]
        have hw2 : w = 0 ∨ w = 1 := by omega
        rcases hw2 with rfl | rfl
        · simp (disch := omega) only [bX8_misread_16, bd_some, gd_ix, lit_0, lit_1, lit_2, lit_3, lit_4, lit_5, lit_6, lit_7, lit_8, lit_9, lit_10, lit_15, lit_16, lit_19, lit_20, lit_31, lit_35, lit_36, lit_48, lit_49, lit_53, lit_55, lit_57, lit_59, lit_60, lit_63, lit_64, lit_97, lit_102, lit_110, lit_160, lit_255, nI_add, ns_sub, ns_div, ns_le, ns_lt, ns_eq, ns_cl, pk_mul, ne10, eq_self, ↓reduceIte, w22, w18, hln, ea, en, show ¬ 20 ≤ misD (cfg A) from by omega]
        · simp (disch := omega) only [bX8_misread_16, bd_some, gd_ix, lit_0, lit_1, lit_2, lit_3, lit_4, lit_5, lit_6, lit_7, lit_8, lit_9, lit_10, lit_15, lit_16, lit_19, lit_20, lit_31, lit_35, lit_36, lit_48, lit_49, lit_53, lit_55, lit_57, lit_59, lit_60, lit_63, lit_64, lit_97, lit_102, lit_110, lit_160, lit_255, nI_add, ns_sub, ns_div, ns_le, ns_lt, ns_eq, ns_cl, pk_mul, ne10, eq_self, ↓reduceIte, w22, w18, hln, ea, en, el, show ¬ 20 ≤ misD (cfg A) from by omega]
      · have e20 : misD (cfg A) = 20 := by omega
        rw [if_neg q, e20]
        simp (disch := omega) only [bX8_misread_16, bd_some, gd_ix, lit_0, lit_1, lit_2, lit_3, lit_4, lit_5, lit_6, lit_7, lit_8, lit_9, lit_10, lit_15, lit_16, lit_19, lit_20, lit_31, lit_35, lit_36, lit_48, lit_49, lit_53, lit_55, lit_57, lit_59, lit_60, lit_63, lit_64, lit_97, lit_102, lit_110, lit_160, lit_255, nI_add, ns_sub, ns_div, ns_le, ns_lt, ns_eq, ns_cl, pk_mul, ne10, eq_self, ↓reduceIte, Nat.le_refl]
  unfold fX8_misread misV
  rw [cEith_y hw, bd_some, if_neg (by decide), e1, bd_some, lit_0, key, bd_some]
  by_cases q : misD (cfg A) < 20
  · rw [if_pos q, if_pos q]; rfl
  · rw [if_neg q, if_neg q]; rfl
theorem isMis_ok {S : Sg} {c : Cf} (h04 : S.1 0 4 = nI (cN c)) (h8 : cN c ≤ 8) (h5 : ∀ k, k < cN c → S.1 5 k = nI (cC c k) ∧ cC c k < 36) {d l : Nat} (hR : Rd S c d) (hd : d < 20) (hl : l < 6) : fX9_isMisread (nI d) (nI l) S = some (bI (misB c d l), S) := by
  have key : lp (bX9_isMisread_8 (nI d) (nI l)) fl (bI (exB (fun k => up c d k && (cC c k / 6 == l)) 0), bI (exB (fun k => (now c k d == 1) && (cC c k / 6 == l)) 0), nI 0) S = some ((bI (lnB c (fun k => up c d k) l), bI (lnB c (fun k => now c k d == 1) l), nI (cN c)), S) := by
    refine lp_fl (fun i => (bI (exB (fun k => up c d k && (cC c k / 6 == l)) i), bI (exB (fun k => (now c k d == 1) && (cC c k / 6 == l)) i), nI i)) (fun _ => S) (cN c) (by omega) (fun i hi rec => ?_) (fun rec => ?_)
    · obtain ⟨k3, k4⟩ := h5 i hi
      have w16 := (hR.2 i hi).1
      have hn2 := now_le (c := c) (k := i) (d := d)
      have e1 : (if bI (exB (fun k => up c d k && (cC c k / 6 == l)) i) = nI 0 then (if nI (cC c i / 6) = nI l then (if nI (if up c d i = true then 3 else now c i d) = nI 3 then some (nI 1, S) else some (nI 0, S)) else some (nI 0, S)) else some (nI 1, S)) = some (bI (exB (fun k => up c d k && (cC c k / 6 == l)) (i + 1)), S) := by
        rw [exB]
        cases exB (fun k => up c d k && (cC c k / 6 == l)) i with
        | true => rw [bI_t, if_neg (show ¬ nI 1 = nI 0 by decide), Bool.true_or]; rfl
        | false =>
          simp only [bI_f, Bool.false_or, if_true]
          by_cases q : cC c i / 6 = l
          · rw [if_pos (by rw [q])]
            cases hu : up c d i with
            | true => simp [q, bI]
            | false =>
              rw [if_neg (by simp only [Bool.false_eq_true, if_false]; rw [ns_eq (by omega) (by omega)]; omega)]
              simp [bI]
          · rw [if_neg (by rw [ns_eq (by omega) (by omega)]; exact q)]
            simp [q, bI]
      have e2 : (if bI (exB (fun k => (now c k d == 1) && (cC c k / 6 == l)) i) = nI 0 then (if nI (cC c i / 6) = nI l then (if nI (if up c d i = true then 3 else now c i d) = nI 1 then some (nI 1, S) else some (nI 0, S)) else some (nI 0, S)) else some (nI 1, S)) = some (bI (exB (fun k => (now c k d == 1) && (cC c k / 6 == l)) (i + 1)), S) := by
        rw [exB]
        cases exB (fun k => (now c k d == 1) && (cC c k / 6 == l)) i with
        | true => rw [bI_t, if_neg (show ¬ nI 1 = nI 0 by decide), Bool.true_or]; rfl
        | false =>
          simp only [bI_f, Bool.false_or, if_true]
          by_cases q : cC c i / 6 = l
          · rw [if_pos (by rw [q])]
            cases hu : up c d i with
            | true =>
              have := up_2 hu
              rw [if_neg (by simp only [if_true]; decide)]
              simp [this, bI]
            | false =>
              simp only [Bool.false_eq_true, if_false]
              by_cases q2 : now c i d = 1
              · rw [if_pos (by rw [q2])]; simp [q, q2, bI]
              · rw [if_neg (by rw [ns_eq (by omega) (by omega)]; exact q2)]; simp [q2, bI]
          · rw [if_neg (by rw [ns_eq (by omega) (by omega)]; exact q)]
            simp [q, bI]
      simp (disch := omega) only [bX9_isMisread_8, h04, bd_some, gd_ix, lit_0, lit_1, lit_3, lit_6, lit_8, nI_add, pk_mul, ns_div, ns_le, ns_cl, k3, w16, e1, e2, show ¬ cN c ≤ i from by omega, ↓reduceIte]
    · show bX9_isMisread_8 (nI d) (nI l) rec (bI (lnB c (fun k => up c d k) l), bI (lnB c (fun k => now c k d == 1) l), nI (cN c)) S = _
      simp (disch := omega) only [bX9_isMisread_8, h04, bd_some, gd_ix, lit_0, lit_1, lit_2, lit_3, lit_4, lit_5, lit_6, lit_7, lit_8, lit_9, lit_10, lit_15, lit_16, lit_19, lit_20, lit_31, lit_35, lit_36, lit_48, lit_49, lit_53, lit_55, lit_57, lit_59, lit_60, lit_63, lit_64, lit_97, lit_102, lit_110, lit_160, lit_255, nI_add, ns_sub, ns_div, ns_le, ns_lt, ns_eq, ns_cl, pk_mul, ne10, eq_self, ↓reduceIte, Nat.le_refl]
  have key' : lp (bX9_isMisread_8 (nI d) (nI l)) fl (0, 0, 0) S = some ((bI (lnB c (fun k => up c d k) l), bI (lnB c (fun k => now c k d == 1) l), nI (cN c)), S) := key
  unfold fX9_isMisread misB
  rw [key', bd_some]
  cases lnB c (fun k => up c d k) l <;> cases lnB c (fun k => now c k d == 1) l <;> rfl
theorem misreadM_ok {S : Sg} {A : Ab} (h : RM S A) {w : Nat} (hw : w < 2) : ∃ S', fX9_misreadOf (nI w) S = some (misV (cfg A) w, S') ∧ mz S S' := by
  obtain ⟨S1, e1, z1, r1, m1, d1⟩ := runsTold_ok h
  refine ⟨S1, ?_, z1⟩
  have hmis := fun d (hd : d < 20) l (hl : l < 6) => isMis_ok m1.2.1 m1.1 (fun k hk => ⟨(m1.2.2.1 k hk).2.2.1, (m1.2.2.1 k hk).2.2.2.1⟩) (d1 d hd) hd hl
  have hle : misD (cfg A) ≤ 20 := fa_first_le _ _
  have inner : ∀ d, d < 20 → lp (bX9_misreadOf_14 (nI w) (nI d)) fl (nI 0) S1 = some ((if exB (misB (cfg A) d) 6 = true then Sum.inr (if w = 0 then nI d else nI (fa_first (misB (cfg A) d) 6)) else Sum.inl (nI 6)), S1) := by
    intro d hd
    have hle6 : fa_first (misB (cfg A) d) 6 ≤ 6 := fa_first_le _ _
    refine lp_fl (fun i => nI i) (fun _ => S1) (fa_first (misB (cfg A) d) 6) (by omega) (fun i hi rec => ?_) (fun rec => ?_)
    · have e := fa_first_no (misB (cfg A) d) 6 i hi
      have hb := hmis d hd i (by omega)
      rw [e] at hb
      simp (disch := omega) only [bX9_misreadOf_14, bd_some, gd_ix, lit_0, lit_1, lit_2, lit_3, lit_4, lit_5, lit_6, lit_7, lit_8, lit_9, lit_10, lit_15, lit_16, lit_19, lit_20, lit_31, lit_35, lit_36, lit_48, lit_49, lit_53, lit_55, lit_57, lit_59, lit_60, lit_63, lit_64, lit_97, lit_102, lit_110, lit_160, lit_255, nI_add, ns_sub, ns_div, ns_le, ns_lt, ns_eq, ns_cl, pk_mul, ne10, eq_self, ↓reduceIte, hb, bI_f, show ¬ 6 ≤ i from by omega]
    · by_cases q : fa_first (misB (cfg A) d) 6 < 6
      · have e := fa_first_yes (misB (cfg A) d) 6 q
        have hb := hmis d hd _ q
        rw [e] at hb
        rw [if_pos (exB_iff.mpr ⟨_, q, e⟩)]
        have hw2 : w = 0 ∨ w = 1 := by omega
        rcases hw2 with rfl | rfl
        · simp (disch := omega) only [bX9_misreadOf_14, bd_some, gd_ix, lit_0, lit_1, lit_2, lit_3, lit_4, lit_5, lit_6, lit_7, lit_8, lit_9, lit_10, lit_15, lit_16, lit_19, lit_20, lit_31, lit_35, lit_36, lit_48, lit_49, lit_53, lit_55, lit_57, lit_59, lit_60, lit_63, lit_64, lit_97, lit_102, lit_110, lit_160, lit_255, nI_add, ns_sub, ns_div, ns_le, ns_lt, ns_eq, ns_cl, pk_mul, ne10, eq_self, ↓reduceIte, hb, bI_t, show ¬ 6 ≤ fa_first (misB (cfg A) d) 6 from by omega]
        · simp (disch := omega) only [bX9_misreadOf_14, bd_some, gd_ix, lit_0, lit_1, lit_2, lit_3, lit_4, lit_5, lit_6, lit_7, lit_8, lit_9, lit_10, lit_15, lit_16, lit_19, lit_20, lit_31, lit_35, lit_36, lit_48, lit_49, lit_53, lit_55, lit_57, lit_59, lit_60, lit_63, lit_64, lit_97, lit_102, lit_110, lit_160, lit_255, nI_add, ns_sub, ns_div, ns_le, ns_lt, ns_eq, ns_cl, pk_mul, ne10, eq_self, ↓reduceIte, hb, bI_t, show ¬ 6 ≤ fa_first (misB (cfg A) d) 6 from by omega]
      · rw [if_neg (fun z => q (ex_first z)), show fa_first (misB (cfg A) d) 6 = 6 by omega]
        simp (disch := omega) only [bX9_misreadOf_14, bd_some, gd_ix, lit_0, lit_1, lit_2, lit_3, lit_4, lit_5, lit_6, lit_7, lit_8, lit_9, lit_10, lit_15, lit_16, lit_19, lit_20, lit_31, lit_35, lit_36, lit_48, lit_49, lit_53, lit_55, lit_57, lit_59, lit_60, lit_63, lit_64, lit_97, lit_102, lit_110, lit_160, lit_255, nI_add, ns_sub, ns_div, ns_le, ns_lt, ns_eq, ns_cl, pk_mul, ne10, eq_self, ↓reduceIte, Nat.le_refl]
  have key : lp (bX9_misreadOf_6 (nI w)) fl (nI 0) S1 = some ((if misD (cfg A) < 20 then Sum.inr (if w = 0 then nI (misD (cfg A)) else nI (fa_first (misB (cfg A) (misD (cfg A))) 6)) else Sum.inl (nI 20)), S1) := by
    refine lp_fl (fun i => nI i) (fun _ => S1) (misD (cfg A)) (by omega) (fun i hi rec => ?_) (fun rec => ?_)
    · have e : exB (misB (cfg A) i) 6 = false := fa_first_no (fun d => exB (misB (cfg A) d) 6) 20 i hi
      have hn := inner i (by omega)
      rw [e] at hn
      simp (disch := omega) only [bX9_misreadOf_6, bd_some, gd_ix, lit_0, lit_1, lit_2, lit_3, lit_4, lit_5, lit_6, lit_7, lit_8, lit_9, lit_10, lit_15, lit_16, lit_19, lit_20, lit_31, lit_35, lit_36, lit_48, lit_49, lit_53, lit_55, lit_57, lit_59, lit_60, lit_63, lit_64, lit_97, lit_102, lit_110, lit_160, lit_255, nI_add, ns_sub, ns_div, ns_le, ns_lt, ns_eq, ns_cl, pk_mul, ne10, eq_self, ↓reduceIte, hn, Bool.false_eq_true, se_l, show ¬ 20 ≤ i from by omega]
    · by_cases q : misD (cfg A) < 20
      · have e : exB (misB (cfg A) (misD (cfg A))) 6 = true := fa_first_yes (fun d => exB (misB (cfg A) d) 6) 20 q
        have hn := inner _ q
        rw [e] at hn
        rw [if_pos q]
        simp (disch := omega) only [bX9_misreadOf_6, bd_some, gd_ix, lit_0, lit_1, lit_2, lit_3, lit_4, lit_5, lit_6, lit_7, lit_8, lit_9, lit_10, lit_15, lit_16, lit_19, lit_20, lit_31, lit_35, lit_36, lit_48, lit_49, lit_53, lit_55, lit_57, lit_59, lit_60, lit_63, lit_64, lit_97, lit_102, lit_110, lit_160, lit_255, nI_add, ns_sub, ns_div, ns_le, ns_lt, ns_eq, ns_cl, pk_mul, ne10, eq_self, ↓reduceIte, hn, se_r, show ¬ 20 ≤ misD (cfg A) from by omega]
      · have e20 : misD (cfg A) = 20 := by omega
        rw [if_neg q, e20]
        simp (disch := omega) only [bX9_misreadOf_6, bd_some, gd_ix, lit_0, lit_1, lit_2, lit_3, lit_4, lit_5, lit_6, lit_7, lit_8, lit_9, lit_10, lit_15, lit_16, lit_19, lit_20, lit_31, lit_35, lit_36, lit_48, lit_49, lit_53, lit_55, lit_57, lit_59, lit_60, lit_63, lit_64, lit_97, lit_102, lit_110, lit_160, lit_255, nI_add, ns_sub, ns_div, ns_le, ns_lt, ns_eq, ns_cl, pk_mul, ne10, eq_self, ↓reduceIte, Nat.le_refl]
  unfold fX9_misreadOf misV
  rw [e1, bd_some, lit_0, key, bd_some]
  by_cases q : misD (cfg A) < 20
  · rw [if_pos q, if_pos q]; rfl
  · rw [if_neg q, if_neg q]; rfl
theorem stp_misread_ok : stp_misread Inv := by
  rintro Sc Sm x1 ⟨A, hC, hM⟩
  by_cases g1 : rg x1 2
  · obtain ⟨w, hw, rfl⟩ := g1
    obtain ⟨S1, e1, h1⟩ := misreadC_ok hC hw
    obtain ⟨S2, e2, h2⟩ := misreadM_ok hM hw
    refine ⟨_, S1, S2, e1, ?_, A, h1.c, hM.mz h2⟩
    unfold fX9_misread
    simp (disch := omega) only [in_y, bd_some, gd_ix, lit_0, lit_1, lit_2, lit_3, lit_4, lit_5, lit_6, lit_7, lit_8, lit_9, lit_10, lit_15, lit_16, lit_19, lit_20, lit_31, lit_35, lit_36, lit_48, lit_49, lit_53, lit_55, lit_57, lit_59, lit_60, lit_63, lit_64, lit_97, lit_102, lit_110, lit_160, lit_255, nI_add, ns_sub, ns_div, ns_le, ns_lt, ns_eq, ns_cl, pk_mul, ne10, eq_self, ↓reduceIte, e2]
  · refine ⟨-nI 2, Sc, Sm, ?_, ?_, A, hC, hM⟩
    · unfold fX8_misread
      simp (disch := omega) only [cEith_n g1, bd_some, gd_ix, lit_0, lit_1, lit_2, lit_3, lit_4, lit_5, lit_6, lit_7, lit_8, lit_9, lit_10, lit_15, lit_16, lit_19, lit_20, lit_31, lit_35, lit_36, lit_48, lit_49, lit_53, lit_55, lit_57, lit_59, lit_60, lit_63, lit_64, lit_97, lit_102, lit_110, lit_160, lit_255, nI_add, ns_sub, ns_div, ns_le, ns_lt, ns_eq, ns_cl, pk_mul, ne10, eq_self, ↓reduceIte]
    · unfold fX9_misread
      simp (disch := omega) only [in_n g1 (b := 1) rfl (by omega), bd_some, gd_ix, lit_0, lit_1, lit_2, lit_3, lit_4, lit_5, lit_6, lit_7, lit_8, lit_9, lit_10, lit_15, lit_16, lit_19, lit_20, lit_31, lit_35, lit_36, lit_48, lit_49, lit_53, lit_55, lit_57, lit_59, lit_60, lit_63, lit_64, lit_97, lit_102, lit_110, lit_160, lit_255, nI_add, ns_sub, ns_div, ns_le, ns_lt, ns_eq, ns_cl, pk_mul, ne10, eq_self, ↓reduceIte]
