/-! the reference: a day goes by -/
def isInB (x : Int32) (k : Nat) : Bool := decide (((x >>> (nI k &&& 31)) &&& 1) = 1)
theorem isIn_ok (x : Int32) (k : Nat) (S : Sg) : fX9_isIn x (nI k) S = some ((if isInB x k = true then 1 else 0), S) := by
  unfold fX9_isIn isInB
  by_cases h : ((x >>> (nI k &&& 31)) &&& 1) = 1
  · rw [if_pos h, if_pos (by simpa using h)]
  · rw [if_neg h, if_neg (by simpa using h)]
/-- a set as plain bits -/
def pb (p : Nat → Bool) : Int32 := nI (ob 8 p)
theorem isIn_256 : ∀ m, m < 256 → ∀ k, k < 8 → isInB (nI m) k = m.testBit k := by decide +kernel
theorem isIn_pb {p : Nat → Bool} {k : Nat} (hk : k < 8) : isInB (pb p) k = p k := by
  unfold pb
  rw [isIn_256 _ (ob_lt 8 p) k hk, ob_bit hk]
theorem pb_cong {p q : Nat → Bool} (h : ∀ k, k < 8 → p k = q k) : pb p = pb q := by
  unfold pb
  congr 1
  apply Nat.eq_of_testBit_eq
  intro i
  by_cases hi : i < 8
  · rw [ob_bit hi, ob_bit hi, h i hi]
  · have h1 : ob 8 p < 2 ^ i := Nat.lt_of_lt_of_le (ob_lt 8 p) (Nat.pow_le_pow_right (by decide) (by omega))
    have h2 : ob 8 q < 2 ^ i := Nat.lt_of_lt_of_le (ob_lt 8 q) (Nat.pow_le_pow_right (by decide) (by omega))
    rw [Nat.testBit_lt_two_pow h1, Nat.testBit_lt_two_pow h2]
theorem one_shl : ∀ k, k < 8 → (1 : Int32) <<< (nI k &&& 31) = nI (2 ^ k) := by decide +kernel
theorem pb_or {p : Nat → Bool} {k : Nat} (hk : k < 8) : pb p ||| ((1 : Int32) <<< (nI k &&& 31)) = pb (fun i => p i || (i == k)) := by
  unfold pb
  rw [one_shl k hk, fa_or]
  congr 1
  apply Nat.eq_of_testBit_eq
  intro i
  rw [Nat.testBit_or, Nat.testBit_two_pow]
  by_cases hi : i < 8
  · rw [ob_bit hi, ob_bit hi]
    congr 1
    rw [Bool.eq_iff_iff, decide_eq_true_eq, beq_iff_eq]
    exact ⟨Eq.symm, Eq.symm⟩
  · have h1 : ob 8 p < 2 ^ i := Nat.lt_of_lt_of_le (ob_lt 8 p) (Nat.pow_le_pow_right (by decide) (by omega))
    have h2 : ob 8 (fun i => p i || (i == k)) < 2 ^ i := Nat.lt_of_lt_of_le (ob_lt 8 _) (Nat.pow_le_pow_right (by decide) (by omega))
    rw [Nat.testBit_lt_two_pow h1, Nat.testBit_lt_two_pow h2]
    simp
    omega
theorem pb_0 : pb (fun _ => false) = 0 := by decide +kernel
/-- the reference's cells hold this board -/
def Md (S : Sg) (c : Cf) (nw : Nat) (wd wl : Nat → Nat) (no : Nat) (od ol : Nat → Nat) (mo : Nat → Bool) : Prop :=
  cN c ≤ 8 ∧ S.1 0 4 = nI (cN c) ∧ (∀ k, k < cN c → S.1 4 k = nI (cD c k) ∧ cD c k < 20 ∧ S.1 5 k = nI (cC c k) ∧ cC c k < 36 ∧ S.1 7 k = nI (cK c k) ∧ 1 ≤ cK c k ∧ cK c k ≤ 9) ∧ nw ≤ 8 ∧ S.1 0 10 = nI nw ∧ (∀ w, w < nw → S.1 8 w = nI (wd w) ∧ wd w < 20 ∧ S.1 9 w = nI (wl w) ∧ wl w < 6) ∧ no ≤ 4 ∧ S.1 0 13 = nI no ∧ (∀ o, o < no → S.1 10 o = nI (od o) ∧ od o < 20 ∧ S.1 11 o = nI (ol o) ∧ ol o < 6) ∧ (∀ d, d < 20 → S.1 12 d = nI (cA c d) ∧ cA c d ≤ 9) ∧ S.1 0 9 = nI (cF c) ∧ cF c ≤ 9 ∧ (∀ k, k < cN c → isInB (S.1 0 17) k = !cP c k) ∧ (∀ l, l < 6 → isInB (S.1 0 18) l = mo l) ∧ (∀ e l, cW c e l = exB (fun w => wd w == e && wl w == l) nw) ∧ (∀ l d, cO c l d = (mo l || exB (fun o => ol o == l && decide (od o ≤ d)) no)) ∧ ∀ k, cP c k = true → k < cN c
/-- only the cells of the days have changed -/
def mf (S S' : Sg) : Prop := (∀ a j, ¬ (13 ≤ a ∧ a ≤ 17) → ¬ (a = 0 ∧ j = 21) → S'.1 a j = S.1 a j) ∧ S'.2 = S.2
theorem mf.rf {S : Sg} : mf S S := ⟨fun _ _ _ _ => rfl, rfl⟩
theorem mf.tr {S S1 S2 : Sg} (h1 : mf S S1) (h2 : mf S1 S2) : mf S S2 := ⟨fun a j q1 q2 => (h2.1 a j q1 q2).trans (h1.1 a j q1 q2), h2.2.trans h1.2⟩
theorem mf.I {S S' : Sg} {a k : Nat} {v : Int32} (h : mf S S') (h1 : (13 ≤ a ∧ a ≤ 17) ∨ (a = 0 ∧ k = 21)) : mf S (sI S' a k v) := ⟨fun b j q1 q2 => by rw [sI1, if_neg (by omega)]; exact h.1 b j q1 q2, h.2⟩
theorem Md.mf {S S' : Sg} {c : Cf} {nw no : Nat} {wd wl od ol : Nat → Nat} {mo : Nat → Bool} (h : Md S c nw wd wl no od ol mo) (f : mf S S') : Md S' c nw wd wl no od ol mo := by
  obtain ⟨h1, h2, h3, h4, h5, h6, h7, h8, h9, h10, h11, h12, h13, h14, h15⟩ := h
  have e : ∀ a j, ¬ (13 ≤ a ∧ a ≤ 17) → ¬ (a = 0 ∧ j = 21) → S'.1 a j = S.1 a j := f.1
  refine ⟨h1, by rw [e 0 4 (by omega) (by omega)]; exact h2, fun k hk => ?_, h4, by rw [e 0 10 (by omega) (by omega)]; exact h5, fun w hw => ?_, h7, by rw [e 0 13 (by omega) (by omega)]; exact h8, fun o ho => ?_, fun d hd => ?_, by rw [e 0 9 (by omega) (by omega)]; exact h11, h12, by rw [e 0 17 (by omega) (by omega)]; exact h13, by rw [e 0 18 (by omega) (by omega)]; exact h14, h15⟩
  · rw [e 4 k (by omega) (by omega), e 5 k (by omega) (by omega), e 7 k (by omega) (by omega)]; exact h3 k hk
  · rw [e 8 w (by omega) (by omega), e 9 w (by omega) (by omega)]; exact h6 w hw
  · rw [e 10 o (by omega) (by omega), e 11 o (by omega) (by omega)]; exact h9 o ho
  · rw [e 12 d (by omega) (by omega)]; exact h10 d hd
/-- what each stroke is, and how strong those that are in -/
def Nw (S : Sg) (n : Nat) (f g : Nat → Nat) : Prop := ∀ k, k < n → S.1 13 k = nI (f k) ∧ f k ≤ 2 ∧ (f k = 2 → S.1 14 k = nI (g k))
/-- rows 15 to 17 stay -/
def kp (S S' : Sg) : Prop := ∀ a j, 15 ≤ a → a ≤ 17 → S'.1 a j = S.1 a j
theorem goesInM_ok {S : Sg} {c : Cf} {nw no : Nat} {wd wl od ol : Nat → Nat} {mo : Nat → Bool} (h : Md S c nw wd wl no od ol mo) {k : Nat} (hk : k < cN c) : fX9_goesIn (nI k) S = some ((), sI (sI S 13 k (nI 2)) 14 k (nI (cK c k))) := by
  have h8 := h.1
  have hK := (h.2.2.1 k hk).2.2.2.2.1
  unfold fX9_goesIn
  simp (disch := omega) only [bd_some, gd_ix, lit_0, lit_1, lit_2, lit_3, lit_4, lit_5, lit_6, lit_7, lit_8, lit_9, lit_10, lit_15, lit_16, lit_19, lit_20, lit_31, lit_35, lit_36, lit_48, lit_49, lit_53, lit_55, lit_57, lit_59, lit_60, lit_63, lit_64, lit_97, lit_102, lit_110, lit_160, lit_255, nI_add, ns_sub, ns_div, ns_le, ns_lt, ns_eq, ns_cl, pk_mul, ne10, eq_self, ↓reduceIte, sI1, hK]
  rfl
theorem Nw.go {S : Sg} {n k : Nat} {f g : Nat → Nat} {v : Nat} (h : Nw S n f g) (hk : k < n) (hv : v = g k) : Nw (sI (sI S 13 k (nI 2)) 14 k (nI v)) n (fun i => if i = k then 2 else f i) g := by
  intro i hi
  obtain ⟨h1, h2, h3⟩ := h i hi
  by_cases hik : i = k
  · subst hik
    refine ⟨?_, ?_, fun _ => ?_⟩
    · rw [sI1, if_neg (by omega), sI1, if_pos ⟨rfl, rfl⟩]
      dsimp only
      rw [if_pos rfl]
    · dsimp only
      rw [if_pos rfl]
      exact Nat.le_refl _
    · rw [sI1, if_pos ⟨rfl, rfl⟩, hv]
  · refine ⟨?_, ?_, fun q => ?_⟩
    · rw [sI1, if_neg (by omega), sI1, if_neg (by omega)]
      dsimp only
      rw [if_neg hik]
      exact h1
    · dsimp only
      rw [if_neg hik]
      exact h2
    · dsimp only at q
      rw [if_neg hik] at q
      rw [sI1, if_neg (by omega), sI1, if_neg (by omega)]
      exact h3 q
theorem Nw.cong {S : Sg} {n : Nat} {f f' g : Nat → Nat} (h : Nw S n f g) (e : ∀ k, k < n → f k = f' k) : Nw S n f' g := fun k hk => by
  rw [← e k hk]; exact h k hk
/-- a wipe -/
theorem wipeIn_ok {S : Sg} {c : Cf} {nw no : Nat} {wd wl od ol : Nat → Nat} {mo : Nat → Bool} (h : Md S c nw wd wl no od ol mo) {d w : Nat} (hd : d < 20) (hw : w < nw) {f g : Nat → Nat} (hN : Nw S (cN c) f g) (hg : ∀ k, k < cN c → f k = 1 → cK c k = g k) : ∃ S', lp (bX9_goesBy_12 (nI d) (nI w)) fl (nI 0) S = some (nI (cN c), S') ∧ mf S S' ∧ kp S S' ∧ Nw S' (cN c) (fun k => if f k = 1 ∧ wd w = d ∧ wl w = cC c k / 6 then 2 else f k) g := by
  have h8 := h.1
  have hnw := h.2.2.2.1
  obtain ⟨a, S', e1, rfl, q1, q2, q3⟩ := lp_invF (B := bX9_goesBy_12 (nI d) (nI w)) (fun i a S1 => a = nI i ∧ mf S S1 ∧ kp S S1 ∧ Nw S1 (cN c) (fun k => if k < i ∧ f k = 1 ∧ wd w = d ∧ wl w = cC c k / 6 then 2 else f k) g) (fun a S1 => a = nI (cN c) ∧ mf S S1 ∧ kp S S1 ∧ Nw S1 (cN c) (fun k => if k < cN c ∧ f k = 1 ∧ wd w = d ∧ wl w = cC c k / 6 then 2 else f k) g) (cN c) (by omega) (by
    rintro i a S1 hi ⟨rfl, hf, hkp, hN1⟩
    have h' := h.mf hf
    by_cases hin : i < cN c
    · refine Or.inl ⟨hin, ?_⟩
      obtain ⟨w1, w2, w3, w4⟩ := h'.2.2.2.2.2.1 w hw
      obtain ⟨k1, k2, k3, k4, -⟩ := h'.2.2.1 i hin
      obtain ⟨n1, n2, n3⟩ := hN1 i hin
      dsimp only at n1 n2 n3
      rw [if_neg (by omega)] at n1 n2 n3
      by_cases hc : f i = 1 ∧ wd w = d ∧ wl w = cC c i / 6
      · obtain ⟨c1, c2, c3⟩ := hc
        refine ⟨nI (i + 1), sI (sI S1 13 i (nI 2)) 14 i (nI (cK c i)), fun rec => ?_, rfl, (hf.I (by omega)).I (by omega), fun a j p1 p2 => by rw [sI1, if_neg (by omega), sI1, if_neg (by omega)]; exact hkp a j p1 p2, (hN1.go hin (hg i hin c1)).cong (fun k hk => ?_)⟩
        · simp (disch := omega) only [bX9_goesBy_12, h'.2.1, bd_some, gd_ix, lit_0, lit_1, lit_2, lit_3, lit_4, lit_5, lit_6, lit_7, lit_8, lit_9, lit_10, lit_15, lit_16, lit_19, lit_20, lit_31, lit_35, lit_36, lit_48, lit_49, lit_53, lit_55, lit_57, lit_59, lit_60, lit_63, lit_64, lit_97, lit_102, lit_110, lit_160, lit_255, nI_add, ns_sub, ns_div, ns_le, ns_lt, ns_eq, ns_cl, pk_mul, ne10, eq_self, ↓reduceIte, w1, w3, k3, n1, c1, c2, c3, goesInM_ok h' hin, show ¬ cN c ≤ i from by omega]
        · by_cases hki : k = i
          · subst hki; simp [c1, c2, c3]
          · simp [hki, show (k < i + 1) ↔ k < i by omega]
      · refine ⟨nI (i + 1), S1, fun rec => ?_, rfl, hf, hkp, hN1.cong (fun k hk => ?_)⟩
        · by_cases c2 : wd w = d
          · by_cases c1 : f i = 1
            · have c3 : ¬ cC c i / 6 = wl w := fun q => hc ⟨c1, c2, q.symm⟩
              simp (disch := omega) only [bX9_goesBy_12, h'.2.1, bd_some, gd_ix, lit_0, lit_1, lit_2, lit_3, lit_4, lit_5, lit_6, lit_7, lit_8, lit_9, lit_10, lit_15, lit_16, lit_19, lit_20, lit_31, lit_35, lit_36, lit_48, lit_49, lit_53, lit_55, lit_57, lit_59, lit_60, lit_63, lit_64, lit_97, lit_102, lit_110, lit_160, lit_255, nI_add, ns_sub, ns_div, ns_le, ns_lt, ns_eq, ns_cl, pk_mul, ne10, eq_self, ↓reduceIte, w1, w3, k3, n1, c1, c2, c3, show ¬ cN c ≤ i from by omega]
            · simp (disch := omega) only [bX9_goesBy_12, h'.2.1, bd_some, gd_ix, lit_0, lit_1, lit_2, lit_3, lit_4, lit_5, lit_6, lit_7, lit_8, lit_9, lit_10, lit_15, lit_16, lit_19, lit_20, lit_31, lit_35, lit_36, lit_48, lit_49, lit_53, lit_55, lit_57, lit_59, lit_60, lit_63, lit_64, lit_97, lit_102, lit_110, lit_160, lit_255, nI_add, ns_sub, ns_div, ns_le, ns_lt, ns_eq, ns_cl, pk_mul, ne10, eq_self, ↓reduceIte, w1, n1, c1, c2, show ¬ cN c ≤ i from by omega]
          · simp (disch := omega) only [bX9_goesBy_12, h'.2.1, bd_some, gd_ix, lit_0, lit_1, lit_2, lit_3, lit_4, lit_5, lit_6, lit_7, lit_8, lit_9, lit_10, lit_15, lit_16, lit_19, lit_20, lit_31, lit_35, lit_36, lit_48, lit_49, lit_53, lit_55, lit_57, lit_59, lit_60, lit_63, lit_64, lit_97, lit_102, lit_110, lit_160, lit_255, nI_add, ns_sub, ns_div, ns_le, ns_lt, ns_eq, ns_cl, pk_mul, ne10, eq_self, ↓reduceIte, w1, c2, show ¬ cN c ≤ i from by omega]
        · by_cases hki : k = i
          · subst hki
            rw [if_neg (by omega), if_neg (fun q => hc q.2)]
          · simp [show (k < i + 1) ↔ k < i by omega]
    · have hin2 : i = cN c := by omega
      subst hin2
      refine Or.inr ⟨nI (cN c), S1, fun rec => ?_, rfl, hf, hkp, hN1⟩
      simp (disch := omega) only [bX9_goesBy_12, h'.2.1, bd_some, gd_ix, lit_0, lit_1, lit_2, lit_3, lit_4, lit_5, lit_6, lit_7, lit_8, lit_9, lit_10, lit_15, lit_16, lit_19, lit_20, lit_31, lit_35, lit_36, lit_48, lit_49, lit_53, lit_55, lit_57, lit_59, lit_60, lit_63, lit_64, lit_97, lit_102, lit_110, lit_160, lit_255, nI_add, ns_sub, ns_div, ns_le, ns_lt, ns_eq, ns_cl, pk_mul, ne10, eq_self, ↓reduceIte, Nat.le_refl]) (nI 0) S ⟨rfl, mf.rf, fun _ _ _ _ => rfl, hN.cong (fun k hk => by rw [if_neg (by omega)])⟩
  exact ⟨S', e1, q1, q2, q3.cong (fun k hk => by simp [hk])⟩
theorem wipes_ok {S : Sg} {c : Cf} {nw no : Nat} {wd wl od ol : Nat → Nat} {mo : Nat → Bool} (h : Md S c nw wd wl no od ol mo) {d : Nat} (hd : d < 20) {f g : Nat → Nat} (hN : Nw S (cN c) f g) (hg : ∀ k, k < cN c → f k = 1 → cK c k = g k) : ∃ S', lp (bX9_goesBy_2 (nI d)) fl (nI 0) S = some (nI nw, S') ∧ mf S S' ∧ kp S S' ∧ Nw S' (cN c) (fun k => if f k = 1 ∧ cW c d (cC c k / 6) = true then 2 else f k) g := by
  have hnw := h.2.2.2.1
  have hcW := h.2.2.2.2.2.2.2.2.2.2.2.2.2.2.1
  obtain ⟨a, S', e1, rfl, q1, q2, q3⟩ := lp_invF (B := bX9_goesBy_2 (nI d)) (fun i a S1 => a = nI i ∧ mf S S1 ∧ kp S S1 ∧ Nw S1 (cN c) (fun k => if f k = 1 ∧ exB (fun w => wd w == d && wl w == cC c k / 6) i = true then 2 else f k) g) (fun a S1 => a = nI nw ∧ mf S S1 ∧ kp S S1 ∧ Nw S1 (cN c) (fun k => if f k = 1 ∧ exB (fun w => wd w == d && wl w == cC c k / 6) nw = true then 2 else f k) g) nw (by omega) (by
    rintro i a S1 hi ⟨rfl, hf, hkp, hN1⟩
    have h' := h.mf hf
    by_cases hin : i < nw
    · refine Or.inl ⟨hin, ?_⟩
      obtain ⟨S2, e2, f2, k2, n2⟩ := wipeIn_ok h' hd hin hN1 (fun k hk hz => hg k hk (by
        by_cases q : f k = 1 ∧ exB (fun w => wd w == d && wl w == cC c k / 6) i = true
        · rw [if_pos q] at hz; omega
        · rw [if_neg q] at hz; exact hz))
      refine ⟨nI (i + 1), S2, fun rec => ?_, rfl, hf.tr f2, fun a j p1 p2 => (k2 a j p1 p2).trans (hkp a j p1 p2), n2.cong (fun k hk => ?_)⟩
      · simp (disch := omega) only [bX9_goesBy_2, h'.2.2.2.2.1, bd_some, gd_ix, lit_0, lit_1, lit_2, lit_3, lit_4, lit_5, lit_6, lit_7, lit_8, lit_9, lit_10, lit_15, lit_16, lit_19, lit_20, lit_31, lit_35, lit_36, lit_48, lit_49, lit_53, lit_55, lit_57, lit_59, lit_60, lit_63, lit_64, lit_97, lit_102, lit_110, lit_160, lit_255, nI_add, ns_sub, ns_div, ns_le, ns_lt, ns_eq, ns_cl, pk_mul, ne10, eq_self, ↓reduceIte, e2, show ¬ nw ≤ i from by omega]
      · rw [exB]
        by_cases c1 : f k = 1
        · cases hq : exB (fun w => wd w == d && wl w == cC c k / 6) i with
          | true => simp [c1]
          | false =>
            simp only [c1, true_and, Bool.false_eq_true, if_false, Bool.false_or, Bool.and_eq_true, beq_iff_eq]
        · simp [c1]
    · have hin2 : i = nw := by omega
      subst hin2
      refine Or.inr ⟨nI i, S1, fun rec => ?_, rfl, hf, hkp, hN1⟩
      simp (disch := omega) only [bX9_goesBy_2, h'.2.2.2.2.1, bd_some, gd_ix, lit_0, lit_1, lit_2, lit_3, lit_4, lit_5, lit_6, lit_7, lit_8, lit_9, lit_10, lit_15, lit_16, lit_19, lit_20, lit_31, lit_35, lit_36, lit_48, lit_49, lit_53, lit_55, lit_57, lit_59, lit_60, lit_63, lit_64, lit_97, lit_102, lit_110, lit_160, lit_255, nI_add, ns_sub, ns_div, ns_le, ns_lt, ns_eq, ns_cl, pk_mul, ne10, eq_self, ↓reduceIte, Nat.le_refl]) (nI 0) S ⟨rfl, mf.rf, fun _ _ _ _ => rfl, hN.cong (fun k hk => by simp [exB])⟩
  exact ⟨S', e1, q1, q2, q3.cong (fun k hk => by rw [hcW])⟩
