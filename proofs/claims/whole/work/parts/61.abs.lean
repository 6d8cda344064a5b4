/-! the abstract state; how the two texts are read -/
abbrev Tx : Type := Nat × (Nat → Nat)
abbrev Pr2 : Type := Nat × (Nat → Nat) × (Nat → Nat)
abbrev Sn3 : Type := Nat × (Nat → Nat) × (Nat → Nat) × (Nat → Nat)
/-- lost (1) or not (0), form, length, items -/
abbrev Sh4 : Type := (Nat → Nat) × (Nat → Nat) × (Nat → Nat) × (Nat → Nat → Int32)
/-- damp text, stroke text, fine, wipes, oils, seen, sheets, finding -/
abbrev Ab : Type := Tx × Tx × Nat × Pr2 × Pr2 × Sn3 × Sh4 × Nat
def aT (A : Ab) : Tx := A.1
def aU (A : Ab) : Tx := A.2.1
def aF (A : Ab) : Nat := A.2.2.1
def aW (A : Ab) : Pr2 := A.2.2.2.1
def aO (A : Ab) : Pr2 := A.2.2.2.2.1
def aS (A : Ab) : Sn3 := A.2.2.2.2.2.1
def aH (A : Ab) : Sh4 := A.2.2.2.2.2.2.1
def aG (A : Ab) : Nat := A.2.2.2.2.2.2.2
/-- does a byte fit at a place of a stroke -/
def fitB (s b : Nat) : Bool := decide ((if s = 4 then 97 else if s = 5 then 49 else if s = 6 then 59 else 48) ≤ b) && decide (b ≤ (if s = 0 then 49 else if s = 1 then 57 else if s = 5 then 57 else if s = 4 then 102 else if s = 6 then 59 else 53))
def digB (b : Nat) : Bool := decide (48 ≤ b) && decide (b ≤ 57)
def bad0 (T : Tx) : Nat := fa_first (fun i => !digB (T.2 i)) T.1
def bad1 (U : Tx) : Nat := fa_first (fun i => !fitB (i % 7) (U.2 i)) U.1
def fau0 (T : Tx) : Int32 := if bad0 T < T.1 then nI (bad0 T) else -nI 1
def fau1 (U : Tx) : Int32 := if bad1 U < U.1 then nI (bad1 U) else if U.1 = 0 ∨ U.1 % 7 = 6 then -nI 1 else nI U.1
def tN0 (T : Tx) : Nat := if bad0 T < T.1 then 0 else T.1
def tA (T : Tx) (d : Nat) : Nat := if d < tN0 T then T.2 d - 48 else 0
def tN (U : Tx) : Nat := if ¬ bad1 U < U.1 ∧ (U.1 = 0 ∨ U.1 % 7 = 6) then (U.1 + 1) / 7 else 0
def tD (U : Tx) (k : Nat) : Nat := 10 * (U.2 (7 * k) - 48) + (U.2 (7 * k + 1) - 48)
def tC (U : Tx) (k : Nat) : Nat := 6 * (U.2 (7 * k + 2) - 48) + (U.2 (7 * k + 3) - 48)
def tG (U : Tx) (k : Nat) : Nat := U.2 (7 * k + 4) - 97
def tK (U : Tx) (k : Nat) : Nat := U.2 (7 * k + 5) - 48
def cfg (A : Ab) : Cf := (tN (aU A), tD (aU A), tC (aU A), tK (aU A), (fun k => decide (k < tN (aU A))), (fun e l => exB (fun w => (aW A).2.1 w == e && (aW A).2.2 w == l) (aW A).1), (fun l d => exB (fun o => (aO A).2.2 o == l && decide ((aO A).2.1 o ≤ d)) (aO A).1), tA (aT A), aF A)
def sgn (A : Ab) : Nat → Nat := tG (aU A)
def cT (t room : Nat) (S : Sg) (T : Tx) : Prop := T.1 ≤ room ∧ S.1 t 1 = nI T.1 ∧ ∀ i, i < T.1 → S.1 (t + 1) i = nI (T.2 i) ∧ T.2 i ≤ 255
theorem first_lt {p : Nat → Bool} {n : Nat} {i : Nat} (h : i < fa_first (fun i => !p i) n) : p i = true := by
  have := fa_first_no (fun i => !p i) n i h
  simpa using this
theorem fit_all {U : Tx} (h : ¬ bad1 U < U.1) {i : Nat} (hi : i < U.1) : fitB (i % 7) (U.2 i) = true := by
  have h1 : bad1 U ≤ U.1 := fa_first_le _ _
  exact first_lt (p := fun i => fitB (i % 7) (U.2 i)) (n := U.1) (by show i < bad1 U; omega)
theorem tN_le {U : Tx} (h : U.1 ≤ 55) : tN U ≤ 8 := by unfold tN; split <;> omega
theorem tN_pos {U : Tx} {k : Nat} (h : k < tN U) : ¬ bad1 U < U.1 ∧ U.1 % 7 = 6 ∧ 7 * k + 6 ≤ U.1 ∧ tN U = (U.1 + 1) / 7 := by
  unfold tN at h ⊢
  by_cases q : ¬ bad1 U < U.1 ∧ (U.1 = 0 ∨ U.1 % 7 = 6)
  · rw [if_pos q] at h
    rw [if_pos q]
    exact ⟨q.1, by omega, by omega, rfl⟩
  · rw [if_neg q] at h; omega
theorem fit_at {U : Tx} {k : Nat} (h : k < tN U) {s : Nat} (hs : s < 6) : fitB s (U.2 (7 * k + s)) = true := by
  obtain ⟨h1, h2, h3, h4⟩ := tN_pos h
  have := fit_all h1 (i := 7 * k + s) (by omega)
  rw [show (7 * k + s) % 7 = s by omega] at this
  exact this
theorem tx_rng {U : Tx} {k : Nat} (h : k < tN U) : 48 ≤ U.2 (7 * k) ∧ U.2 (7 * k) ≤ 49 ∧ 48 ≤ U.2 (7 * k + 1) ∧ U.2 (7 * k + 1) ≤ 57 ∧ 48 ≤ U.2 (7 * k + 2) ∧ U.2 (7 * k + 2) ≤ 53 ∧ 48 ≤ U.2 (7 * k + 3) ∧ U.2 (7 * k + 3) ≤ 53 ∧ 97 ≤ U.2 (7 * k + 4) ∧ U.2 (7 * k + 4) ≤ 102 ∧ 49 ≤ U.2 (7 * k + 5) ∧ U.2 (7 * k + 5) ≤ 57 := by
  have a0 := fit_at h (s := 0) (by omega)
  have a1 := fit_at h (s := 1) (by omega)
  have a2 := fit_at h (s := 2) (by omega)
  have a3 := fit_at h (s := 3) (by omega)
  have a4 := fit_at h (s := 4) (by omega)
  have a5 := fit_at h (s := 5) (by omega)
  simp [fitB] at a0 a1 a2 a3 a4 a5
  omega
theorem t_rng {U : Tx} {k : Nat} (h : k < tN U) : tD U k < 20 ∧ tC U k < 36 ∧ tG U k ≤ 5 ∧ 1 ≤ tK U k ∧ tK U k ≤ 9 := by
  have := tx_rng h
  unfold tD tC tG tK
  omega
theorem tN0_le {T : Tx} (h : T.1 ≤ 20) : tN0 T ≤ 20 := by unfold tN0; split <;> omega
theorem dig_at {T : Tx} {d : Nat} (h : d < tN0 T) : 48 ≤ T.2 d ∧ T.2 d ≤ 57 := by
  unfold tN0 at h
  by_cases q : bad0 T < T.1
  · rw [if_pos q] at h; omega
  · rw [if_neg q] at h
    have h1 : bad0 T ≤ T.1 := fa_first_le _ _
    have := first_lt (p := fun i => digB (T.2 i)) (n := T.1) (i := d) (by show d < bad0 T; omega)
    simpa [digB] using this
theorem tA_le {T : Tx} {d : Nat} : tA T d ≤ 9 := by
  unfold tA
  split
  · have := dig_at (T := T) (d := d) (by assumption); omega
  · omega
theorem at_y {t room : Nat} {S : Sg} {T : Tx} (h : cT t room S T) (ht : tlen t = room) (hr : room ≤ 55) {i : Nat} (hi : i < T.1) : fX7_at t (nI i) S = some (nI (T.2 i), S) := by
  obtain ⟨h1, h2, h3⟩ := h
  unfold fX7_at
  rw [ht]
  simp (disch := omega) only [bd_some, gd_ix, lit_0, lit_1, lit_2, lit_3, lit_4, lit_5, lit_6, lit_7, lit_8, lit_9, lit_10, lit_15, lit_16, lit_19, lit_20, lit_31, lit_35, lit_36, lit_48, lit_49, lit_53, lit_55, lit_57, lit_59, lit_60, lit_63, lit_64, lit_97, lit_102, lit_110, lit_160, lit_255, nI_add, ns_sub, ns_div, ns_le, ns_lt, ns_eq, ns_cl, pk_mul, ne10, eq_self, ↓reduceIte, h2, show ¬ i < 0 from by omega, show ¬ T.1 ≤ i from by omega, (h3 i hi).1]
theorem within_ok {a l g : Nat} (ha : a < 2147483648) (hl : l < 2147483648) (hg : g < 2147483648) {S : Sg} : fX8_isWithin (nI a) (nI l) (nI g) S = some ((if l ≤ a ∧ a ≤ g then nI 1 else nI 0), S) := by
  unfold fX8_isWithin
  by_cases q : a < l
  · rw [if_pos (by rw [ns_lt ha hl]; exact q), if_neg (by omega)]; rfl
  · rw [if_neg (by rw [ns_lt ha hl]; exact q)]
    by_cases q2 : g < a
    · rw [if_pos (by rw [ns_lt hg ha]; exact q2), if_neg (by omega)]; rfl
    · rw [if_neg (by rw [ns_lt hg ha]; exact q2), if_pos (by omega)]; rfl
theorem faultD_ok {S : Sg} {T : Tx} (h : cT 1 20 S T) : fX8_faultOfDamps S = some (fau0 T, S) := by
  have h1 := h.1
  have h2 := h.2.1
  have hb : bad0 T ≤ T.1 := fa_first_le _ _
  have key : lp bX8_faultOfDamps_2 fl (nI 0) S = some ((if bad0 T < T.1 then Sum.inr (nI (bad0 T)) else Sum.inl (nI T.1)), S) := by
    refine lp_fl (fun i => nI i) (fun _ => S) (bad0 T) (by omega) (fun i hi rec => ?_) (fun rec => ?_)
    · have hd := first_lt (p := fun i => digB (T.2 i)) (n := T.1) (i := i) hi
      have h255 := (h.2.2 i (by omega)).2
      have hd2 : 48 ≤ T.2 i ∧ T.2 i ≤ 57 := by simpa [digB] using hd
      simp (disch := omega) only [bX8_faultOfDamps_2, h2, bd_some, gd_ix, lit_0, lit_1, lit_2, lit_3, lit_4, lit_5, lit_6, lit_7, lit_8, lit_9, lit_10, lit_15, lit_16, lit_19, lit_20, lit_31, lit_35, lit_36, lit_48, lit_49, lit_53, lit_55, lit_57, lit_59, lit_60, lit_63, lit_64, lit_97, lit_102, lit_110, lit_160, lit_255, nI_add, ns_sub, ns_div, ns_le, ns_lt, ns_eq, ns_cl, pk_mul, ne10, eq_self, ↓reduceIte, at_y h rfl (by omega), within_ok, hd2, and_self, show ¬ T.1 ≤ i from by omega]
    · by_cases q : bad0 T < T.1
      · have hy := fa_first_yes (fun i => !digB (T.2 i)) T.1 q
        have h255 := (h.2.2 (bad0 T) q).2
        have hd2 : ¬ (48 ≤ T.2 (bad0 T) ∧ T.2 (bad0 T) ≤ 57) := by
          intro z
          have : digB (T.2 (bad0 T)) = true := by simpa [digB] using z
          have hy2 : (!digB (T.2 (bad0 T))) = true := hy
          rw [this] at hy2
          cases hy2
        simp (disch := omega) only [bX8_faultOfDamps_2, h2, bd_some, gd_ix, lit_0, lit_1, lit_2, lit_3, lit_4, lit_5, lit_6, lit_7, lit_8, lit_9, lit_10, lit_15, lit_16, lit_19, lit_20, lit_31, lit_35, lit_36, lit_48, lit_49, lit_53, lit_55, lit_57, lit_59, lit_60, lit_63, lit_64, lit_97, lit_102, lit_110, lit_160, lit_255, nI_add, ns_sub, ns_div, ns_le, ns_lt, ns_eq, ns_cl, pk_mul, ne10, eq_self, ↓reduceIte, at_y h rfl (by omega), within_ok, hd2, q, show ¬ T.1 ≤ bad0 T from by omega]
      · have e : bad0 T = T.1 := by omega
        rw [if_neg q, e]
        simp (disch := omega) only [bX8_faultOfDamps_2, h2, bd_some, gd_ix, lit_0, lit_1, lit_2, lit_3, lit_4, lit_5, lit_6, lit_7, lit_8, lit_9, lit_10, lit_15, lit_16, lit_19, lit_20, lit_31, lit_35, lit_36, lit_48, lit_49, lit_53, lit_55, lit_57, lit_59, lit_60, lit_63, lit_64, lit_97, lit_102, lit_110, lit_160, lit_255, nI_add, ns_sub, ns_div, ns_le, ns_lt, ns_eq, ns_cl, pk_mul, ne10, eq_self, ↓reduceIte, Nat.le_refl]
  unfold fX8_faultOfDamps fau0
  rw [lit_0, key, bd_some]
  by_cases q : bad0 T < T.1
  · rw [if_pos q, if_pos q]; rfl
  · rw [if_neg q, if_neg q]; rfl
theorem fits_ok {s b : Nat} (hs : s < 7) (hb : b ≤ 255) {S : Sg} : fX8_fitsStroke (nI s) (nI b) S = some ((if fitB s b = true then nI 1 else nI 0), S) := by
  have e : ∀ l g : Nat, l < 256 → g < 256 → ∀ (k : Int32 → Sg → Option (Int32 × Sg)), bd (fX8_isWithin (nI b) (nI l) (nI g) S) k = k (if l ≤ b ∧ b ≤ g then nI 1 else nI 0) S := fun l g hl hg k => by rw [within_ok (by omega) (by omega) (by omega), bd_some]
  have z : ∀ c : Prop, [Decidable c] → zb (if c then nI 1 else nI 0) = true := fun c _ => by split <;> decide
  have hs2 : s = 0 ∨ s = 1 ∨ s = 2 ∨ s = 3 ∨ s = 4 ∨ s = 5 ∨ s = 6 := by omega
  unfold fX8_fitsStroke fitB
  rcases hs2 with rfl | rfl | rfl | rfl | rfl | rfl | rfl
  · simp (disch := omega) only [bd_some, gd_ix, lit_0, lit_1, lit_2, lit_3, lit_4, lit_5, lit_6, lit_7, lit_8, lit_9, lit_10, lit_15, lit_16, lit_19, lit_20, lit_31, lit_35, lit_36, lit_48, lit_49, lit_53, lit_55, lit_57, lit_59, lit_60, lit_63, lit_64, lit_97, lit_102, lit_110, lit_160, lit_255, nI_add, ns_sub, ns_div, ns_le, ns_lt, ns_eq, ns_cl, pk_mul, ne10, eq_self, ↓reduceIte, e, gd_t (z _), Nat.reduceEqDiff, Bool.and_eq_true, decide_eq_true_eq]
  · simp (disch := omega) only [bd_some, gd_ix, lit_0, lit_1, lit_2, lit_3, lit_4, lit_5, lit_6, lit_7, lit_8, lit_9, lit_10, lit_15, lit_16, lit_19, lit_20, lit_31, lit_35, lit_36, lit_48, lit_49, lit_53, lit_55, lit_57, lit_59, lit_60, lit_63, lit_64, lit_97, lit_102, lit_110, lit_160, lit_255, nI_add, ns_sub, ns_div, ns_le, ns_lt, ns_eq, ns_cl, pk_mul, ne10, eq_self, ↓reduceIte, e, gd_t (z _), Nat.reduceEqDiff, Bool.and_eq_true, decide_eq_true_eq]
  · simp (disch := omega) only [bd_some, gd_ix, lit_0, lit_1, lit_2, lit_3, lit_4, lit_5, lit_6, lit_7, lit_8, lit_9, lit_10, lit_15, lit_16, lit_19, lit_20, lit_31, lit_35, lit_36, lit_48, lit_49, lit_53, lit_55, lit_57, lit_59, lit_60, lit_63, lit_64, lit_97, lit_102, lit_110, lit_160, lit_255, nI_add, ns_sub, ns_div, ns_le, ns_lt, ns_eq, ns_cl, pk_mul, ne10, eq_self, ↓reduceIte, e, gd_t (z _), Nat.reduceEqDiff, Bool.and_eq_true, decide_eq_true_eq]
  · simp (disch := omega) only [bd_some, gd_ix, lit_0, lit_1, lit_2, lit_3, lit_4, lit_5, lit_6, lit_7, lit_8, lit_9, lit_10, lit_15, lit_16, lit_19, lit_20, lit_31, lit_35, lit_36, lit_48, lit_49, lit_53, lit_55, lit_57, lit_59, lit_60, lit_63, lit_64, lit_97, lit_102, lit_110, lit_160, lit_255, nI_add, ns_sub, ns_div, ns_le, ns_lt, ns_eq, ns_cl, pk_mul, ne10, eq_self, ↓reduceIte, e, gd_t (z _), Nat.reduceEqDiff, Bool.and_eq_true, decide_eq_true_eq]
  · simp (disch := omega) only [bd_some, gd_ix, lit_0, lit_1, lit_2, lit_3, lit_4, lit_5, lit_6, lit_7, lit_8, lit_9, lit_10, lit_15, lit_16, lit_19, lit_20, lit_31, lit_35, lit_36, lit_48, lit_49, lit_53, lit_55, lit_57, lit_59, lit_60, lit_63, lit_64, lit_97, lit_102, lit_110, lit_160, lit_255, nI_add, ns_sub, ns_div, ns_le, ns_lt, ns_eq, ns_cl, pk_mul, ne10, eq_self, ↓reduceIte, e, gd_t (z _), Nat.reduceEqDiff, Bool.and_eq_true, decide_eq_true_eq]
  · simp (disch := omega) only [bd_some, gd_ix, lit_0, lit_1, lit_2, lit_3, lit_4, lit_5, lit_6, lit_7, lit_8, lit_9, lit_10, lit_15, lit_16, lit_19, lit_20, lit_31, lit_35, lit_36, lit_48, lit_49, lit_53, lit_55, lit_57, lit_59, lit_60, lit_63, lit_64, lit_97, lit_102, lit_110, lit_160, lit_255, nI_add, ns_sub, ns_div, ns_le, ns_lt, ns_eq, ns_cl, pk_mul, ne10, eq_self, ↓reduceIte, e, gd_t (z _), Nat.reduceEqDiff, Bool.and_eq_true, decide_eq_true_eq]
  · by_cases q : b = 59
    · subst q
      simp (disch := omega) only [bd_some, gd_ix, lit_0, lit_1, lit_2, lit_3, lit_4, lit_5, lit_6, lit_7, lit_8, lit_9, lit_10, lit_15, lit_16, lit_19, lit_20, lit_31, lit_35, lit_36, lit_48, lit_49, lit_53, lit_55, lit_57, lit_59, lit_60, lit_63, lit_64, lit_97, lit_102, lit_110, lit_160, lit_255, nI_add, ns_sub, ns_div, ns_le, ns_lt, ns_eq, ns_cl, pk_mul, ne10, eq_self, ↓reduceIte, Nat.reduceEqDiff, Nat.le_refl, decide_true, Bool.and_self]
    · have q2 : ¬ (59 ≤ b ∧ b ≤ 59) := by omega
      simp (disch := omega) only [bd_some, gd_ix, lit_0, lit_1, lit_2, lit_3, lit_4, lit_5, lit_6, lit_7, lit_8, lit_9, lit_10, lit_15, lit_16, lit_19, lit_20, lit_31, lit_35, lit_36, lit_48, lit_49, lit_53, lit_55, lit_57, lit_59, lit_60, lit_63, lit_64, lit_97, lit_102, lit_110, lit_160, lit_255, nI_add, ns_sub, ns_div, ns_le, ns_lt, ns_eq, ns_cl, pk_mul, ne10, eq_self, ↓reduceIte, Nat.reduceEqDiff, Bool.and_eq_true, decide_eq_true_eq, q, q2]
theorem faultS_ok {S : Sg} {U : Tx} (h : cT 3 55 S U) : fX8_faultOfStrokes S = some (fau1 U, S) := by
  have h1 := h.1
  have h2 := h.2.1
  have hb : bad1 U ≤ U.1 := fa_first_le _ _
  have key : lp (bX8_faultOfStrokes_10 (nI U.1)) fl (nI 0) S = some ((if bad1 U < U.1 then Sum.inr (nI (bad1 U)) else Sum.inl (nI U.1)), S) := by
    refine lp_fl (fun i => nI i) (fun _ => S) (bad1 U) (by omega) (fun i hi rec => ?_) (fun rec => ?_)
    · have hd := first_lt (p := fun i => fitB (i % 7) (U.2 i)) (n := U.1) (i := i) hi
      have h255 := (h.2.2 i (by omega)).2
      have hf := fits_ok (S := S) (show i % 7 < 7 by omega) h255
      rw [hd] at hf
      simp (disch := omega) only [bX8_faultOfStrokes_10, h2, bd_some, lit_7, lit_0, lit_1, nI_add, ns_le, ns_eq, ns_rem7, ne10, at_y h rfl (by omega), hf, show ¬ U.1 ≤ i from by omega, ↓reduceIte]
    · by_cases q : bad1 U < U.1
      · have hy := fa_first_yes (fun i => !fitB (i % 7) (U.2 i)) U.1 q
        have h255 := (h.2.2 (bad1 U) q).2
        have hf := fits_ok (S := S) (show bad1 U % 7 < 7 by omega) h255
        have hd2 : fitB (bad1 U % 7) (U.2 (bad1 U)) = false := by
          have hy2 : (!fitB (bad1 U % 7) (U.2 (bad1 U))) = true := hy
          simpa using hy2
        rw [hd2] at hf
        simp (disch := omega) only [bX8_faultOfStrokes_10, h2, bd_some, lit_7, lit_0, lit_1, nI_add, ns_le, ns_eq, ns_rem7, eq_self, Bool.false_eq_true, at_y h rfl (by omega), hf, q, show ¬ U.1 ≤ bad1 U from by omega, ↓reduceIte]
      · have e : bad1 U = U.1 := by omega
        rw [if_neg q, e]
        simp (disch := omega) only [bX8_faultOfStrokes_10, h2, bd_some, gd_ix, lit_0, lit_1, lit_2, lit_3, lit_4, lit_5, lit_6, lit_7, lit_8, lit_9, lit_10, lit_15, lit_16, lit_19, lit_20, lit_31, lit_35, lit_36, lit_48, lit_49, lit_53, lit_55, lit_57, lit_59, lit_60, lit_63, lit_64, lit_97, lit_102, lit_110, lit_160, lit_255, nI_add, ns_sub, ns_div, ns_le, ns_lt, ns_eq, ns_cl, pk_mul, ne10, eq_self, ↓reduceIte, Nat.le_refl]
  unfold fX8_faultOfStrokes fau1
  rw [lit_0, h2, key, bd_some]
  by_cases q : bad1 U < U.1
  · rw [if_pos q, if_pos q]; rfl
  · rw [if_neg q, if_neg q, se_l]
    by_cases q2 : U.1 = 0
    · rw [if_pos (by rw [q2]), if_pos (Or.inl q2)]; rfl
    · rw [if_neg (by rw [ns_eq (by omega) (by omega)]; exact q2), lit_7, ns_rem7 (by omega), lit_6]
      by_cases q3 : U.1 % 7 = 6
      · rw [if_pos (by rw [q3]), if_pos (Or.inr q3)]; rfl
      · rw [if_neg (by rw [ns_eq (by omega) (by omega)]; exact q3), if_neg (by omega)]
