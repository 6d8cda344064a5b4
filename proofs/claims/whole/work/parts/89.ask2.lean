/-! ask: alike, on both sides -/
def mxf (f : Nat → Nat) : Nat → Nat
  | 0 => 0
  | n + 1 => if mxf f n < f n then f n else mxf f n
theorem mxf_s {f : Nat → Nat} {n : Nat} : mxf f (n + 1) = if mxf f n < f n then f n else mxf f n := rfl
theorem mxf_le {f : Nat → Nat} {b : Nat} (h : ∀ k, f k ≤ b) : ∀ n, mxf f n ≤ b
  | 0 => Nat.zero_le _
  | n + 1 => by
    have := mxf_le h n
    have h2 := h n
    rw [mxf_s]
    split <;> omega
/-- how many are alike to k -/
def alk (n : Nat) (p : Nat → Bool) (v : Nat → Int32) (k : Nat) : Nat := fb_ct (fun j => (p k && p j) && decide (v j = v k)) n
theorem alk_le {n : Nat} {p : Nat → Bool} {v : Nat → Int32} {k : Nat} (h : n ≤ 8) : alk n p v k ≤ 8 := Nat.le_trans (fb_ct_le _ _) h
def askD (n : Nat) (p : Nat → Bool) (v : Nat → Int32) : Nat := mxf (alk n p v) n
theorem askD_le {n : Nat} {p : Nat → Bool} {v : Nat → Int32} (h : n ≤ 8) : askD n p v ≤ 8 := mxf_le (fun _ => alk_le h) n
theorem alikeC_ok {S : Sg} {n d k : Nat} {p : Nat → Bool} {v : Nat → Int32} (h8 : n ≤ 8) (hd : d < 20) (hk : k < n) (e12 : S.1 12 0 = nI n) (hv : ∀ j, j < n → p j = true → S.1 43 (20 * j + d) = v j) : ∃ y, lp (bX8_mostAlike_23 (pb p) (nI d) (nI k)) fl (nI 0, nI 0) S = some ((nI (alk n p v k), y), S) := by
  have hb : ∀ j, j < n → fX8_hasBit (pb p) (nI j) S = some (bI (p j), S) := fun j hj => hasBit_ok (by omega)
  cases hp : p k with
  | false =>
    have ha : alk n p v k = 0 := fb_ct_zero.mpr (fun j _ => by rw [hp]; rfl)
    rw [ha]
    refine ⟨nI 0, lp_fl (fun i => (nI 0, nI i)) (fun _ => S) 0 (by omega) (fun i hi => absurd hi (by omega)) (fun rec => ?_)⟩
    have hbk := hb k hk
    rw [hp] at hbk
    generalize pb p = P at hbk
    simp (disch := omega) only [bX8_mostAlike_23, bdq, gd_ix, lit_0, lit_1, lit_2, lit_3, lit_4, lit_5, lit_6, lit_7, lit_8, lit_9, lit_10, lit_15, lit_16, lit_19, lit_20, lit_31, lit_35, lit_36, lit_48, lit_49, lit_53, lit_55, lit_57, lit_59, lit_60, lit_63, lit_64, lit_97, lit_102, lit_110, lit_160, lit_255, nI_add, ns_sub, ns_div, ns_le, ns_lt, ns_eq, ns_cl, pk_mul, ne10, eq_self, ↓reduceIte, e12, hbk, bI_f, show ¬ n ≤ 0 from by omega]
  | true =>
    refine ⟨nI n, lp_fl (fun i => (nI (fb_ct (fun j => (p k && p j) && decide (v j = v k)) i), nI i)) (fun _ => S) n (by omega) (fun i hi rec => ?_) (fun rec => ?_)⟩
    · have hbk := hb k hk
      have hbi := hb i hi
      have wk := hv k hk hp
      have ek : k * 20 + d = 20 * k + d := by omega
      have ei : i * 20 + d = 20 * i + d := by omega
      rw [hp] at hbk
      rw [fb_ct_succ]
      cases hq : p i with
      | false =>
        rw [hq] at hbi
        generalize pb p = P at hbk hbi
        simp (disch := omega) only [bX8_mostAlike_23, bdq, gd_ix, lit_0, lit_1, lit_2, lit_3, lit_4, lit_5, lit_6, lit_7, lit_8, lit_9, lit_10, lit_15, lit_16, lit_19, lit_20, lit_31, lit_35, lit_36, lit_48, lit_49, lit_53, lit_55, lit_57, lit_59, lit_60, lit_63, lit_64, lit_97, lit_102, lit_110, lit_160, lit_255, nI_add, ns_sub, ns_div, ns_le, ns_lt, ns_eq, ns_cl, pk_mul, ne10, eq_self, ↓reduceIte, e12, hbk, hbi, bI_t, bI_f, hp, Bool.and_false, Bool.false_and, Bool.false_eq_true, Nat.add_zero, show ¬ n ≤ i from by omega]
      | true =>
        have wi := hv i hi hq
        rw [hq] at hbi
        generalize pb p = P at hbk hbi
        by_cases z : v i = v k
        · simp (disch := omega) only [bX8_mostAlike_23, bdq, gd_ix, lit_0, lit_1, lit_2, lit_3, lit_4, lit_5, lit_6, lit_7, lit_8, lit_9, lit_10, lit_15, lit_16, lit_19, lit_20, lit_31, lit_35, lit_36, lit_48, lit_49, lit_53, lit_55, lit_57, lit_59, lit_60, lit_63, lit_64, lit_97, lit_102, lit_110, lit_160, lit_255, nI_add, ns_sub, ns_div, ns_le, ns_lt, ns_eq, ns_cl, pk_mul, ne10, eq_self, ↓reduceIte, e12, hbk, hbi, bI_t, hp, wi, wk, ei, ek, z, Bool.and_self, decide_true, Bool.true_and, show ¬ n ≤ i from by omega]
        · simp (disch := omega) only [bX8_mostAlike_23, bdq, gd_ix, lit_0, lit_1, lit_2, lit_3, lit_4, lit_5, lit_6, lit_7, lit_8, lit_9, lit_10, lit_15, lit_16, lit_19, lit_20, lit_31, lit_35, lit_36, lit_48, lit_49, lit_53, lit_55, lit_57, lit_59, lit_60, lit_63, lit_64, lit_97, lit_102, lit_110, lit_160, lit_255, nI_add, ns_sub, ns_div, ns_le, ns_lt, ns_eq, ns_cl, pk_mul, ne10, eq_self, ↓reduceIte, e12, hbk, hbi, bI_t, hp, wi, wk, ei, ek, z, Bool.and_self, decide_false, Bool.and_false, Bool.false_eq_true, Nat.add_zero, show ¬ n ≤ i from by omega]
    · show bX8_mostAlike_23 (pb p) (nI d) (nI k) rec (nI (alk n p v k), nI n) S = _
      generalize nI (alk n p v k) = Y
      generalize pb p = P
      simp (disch := omega) only [bX8_mostAlike_23, bdq, gd_ix, lit_0, lit_1, lit_2, lit_3, lit_4, lit_5, lit_6, lit_7, lit_8, lit_9, lit_10, lit_15, lit_16, lit_19, lit_20, lit_31, lit_35, lit_36, lit_48, lit_49, lit_53, lit_55, lit_57, lit_59, lit_60, lit_63, lit_64, lit_97, lit_102, lit_110, lit_160, lit_255, nI_add, ns_sub, ns_div, ns_le, ns_lt, ns_eq, ns_cl, pk_mul, ne10, eq_self, ↓reduceIte, e12, Nat.le_refl]
theorem mostAlike_ok {S : Sg} {n d : Nat} {p : Nat → Bool} {v : Nat → Int32} (h8 : n ≤ 8) (hd : d < 20) (e12 : S.1 12 0 = nI n) (hv : ∀ j, j < n → p j = true → S.1 43 (20 * j + d) = v j) : fX8_mostAlike (pb p) (nI d) S = some (nI (askD n p v), S) := by
  have hal : ∀ k, alk n p v k ≤ 8 := fun k => alk_le h8
  have hm : ∀ i, mxf (alk n p v) i ≤ 8 := fun i => mxf_le hal i
  have key : lp (bX8_mostAlike_5 (pb p) (nI d)) fl (nI 0, nI 0) S = some ((nI (askD n p v), nI n), S) := by
    refine lp_fl (fun i => (nI (mxf (alk n p v) i), nI i)) (fun _ => S) n (by omega) (fun i hi rec => ?_) (fun rec => ?_)
    · obtain ⟨y, e1⟩ := alikeC_ok (S := S) (p := p) (v := v) h8 hd hi e12 hv
      have h1 := hal i
      have h2 := hm i
      show bX8_mostAlike_5 (pb p) (nI d) rec (nI (mxf (alk n p v) i), nI i) S = rec (nI (mxf (alk n p v) (i + 1)), nI (i + 1)) S
      rw [mxf_s]
      generalize alk n p v i = a at e1 h1
      generalize mxf (alk n p v) i = m at h2
      generalize pb p = P at e1
      by_cases q : m < a
      · rw [if_pos q]
        simp (disch := omega) only [bX8_mostAlike_5, bdq, gd_ix, lit_0, lit_1, lit_2, lit_3, lit_4, lit_5, lit_6, lit_7, lit_8, lit_9, lit_10, lit_15, lit_16, lit_19, lit_20, lit_31, lit_35, lit_36, lit_48, lit_49, lit_53, lit_55, lit_57, lit_59, lit_60, lit_63, lit_64, lit_97, lit_102, lit_110, lit_160, lit_255, nI_add, ns_sub, ns_div, ns_le, ns_lt, ns_eq, ns_cl, pk_mul, ne10, eq_self, ↓reduceIte, e12, e1, q, show ¬ n ≤ i from by omega]
      · rw [if_neg q]
        simp (disch := omega) only [bX8_mostAlike_5, bdq, gd_ix, lit_0, lit_1, lit_2, lit_3, lit_4, lit_5, lit_6, lit_7, lit_8, lit_9, lit_10, lit_15, lit_16, lit_19, lit_20, lit_31, lit_35, lit_36, lit_48, lit_49, lit_53, lit_55, lit_57, lit_59, lit_60, lit_63, lit_64, lit_97, lit_102, lit_110, lit_160, lit_255, nI_add, ns_sub, ns_div, ns_le, ns_lt, ns_eq, ns_cl, pk_mul, ne10, eq_self, ↓reduceIte, e12, e1, q, show ¬ n ≤ i from by omega]
    · show bX8_mostAlike_5 (pb p) (nI d) rec (nI (askD n p v), nI n) S = _
      generalize nI (askD n p v) = Y
      generalize pb p = P
      simp (disch := omega) only [bX8_mostAlike_5, bdq, gd_ix, lit_0, lit_1, lit_2, lit_3, lit_4, lit_5, lit_6, lit_7, lit_8, lit_9, lit_10, lit_15, lit_16, lit_19, lit_20, lit_31, lit_35, lit_36, lit_48, lit_49, lit_53, lit_55, lit_57, lit_59, lit_60, lit_63, lit_64, lit_97, lit_102, lit_110, lit_160, lit_255, nI_add, ns_sub, ns_div, ns_le, ns_lt, ns_eq, ns_cl, pk_mul, ne10, eq_self, ↓reduceIte, e12, Nat.le_refl]
  unfold fX8_mostAlike
  rw [lit_0, key, bd_some]
def asP (A : Ab) : Nat → Bool := fun k => decide (k < cN (cfg A)) && nvB (cfg A) (sgn A) (aS A) k
def asF (A : Ab) (x d : Nat) : Nat := askD (cN (cfg A)) (asP A) (fun k => vw A x k d)
theorem askC_ok {S : Sg} {A : Ab} (h : RC S A) {x : Nat} (hx : x < 36) : ∃ S', fX8_ask (nI x) S = some (nI (amn (asF A x) 19), S') ∧ RF S' A := by
  have h8 := cfg_8 h.1
  obtain ⟨S1, e1, h1⟩ := neverC_ok h
  obtain ⟨S2, e2, z2, r2⟩ := viewEach_ok h1 (p := asP A) hx
  obtain ⟨f, hf⟩ : ∃ f : Nat → Nat, f = asF A x := ⟨_, rfl⟩
  have hf1 : ∀ d, f d ≤ 1000 := fun d => by rw [hf]; exact Nat.le_trans (askD_le h8) (by omega)
  rw [← hf]
  obtain ⟨S3, e3, f3, w3⟩ := begin_ok (S := S2) (f := f)
  obtain ⟨a, S4, e4, ha, z4, w4⟩ := lp_invF (B := bX8_ask_30 (pb (asP A))) (fun i a Sx => a = nI i ∧ fr 40 40 S2 Sx ∧ fwI Sx f i) (fun a Sx => a = nI 20 ∧ fr 40 40 S2 Sx ∧ fwI Sx f 20) 20 (by omega) (by
    rintro i a Sx hi ⟨ha, hz, hw⟩
    subst ha
    by_cases hin : i < 20
    · have hxx := (h1.scr z2).scr (hz.scr (by omega))
      have e5 := mostAlike_ok (S := Sx) (n := cN (cfg A)) (d := i) (p := asP A) (v := fun k => vw A x k i) h8 hin hxx.2.2.1.2.1 (fun j hj hp => by rw [hz.1 43 _ (by omega)]; exact r2 j hj hp i hin)
      have e6 : askD (cN (cfg A)) (asP A) (fun k => vw A x k i) = f i := by rw [hf]; rfl
      rw [e6] at e5
      obtain ⟨S5, e7, f7, w7⟩ := offer_ok hw hf1
      refine Or.inl ⟨hin, nI (i + 1), S5, fun rec => ?_, rfl, hz.tr f7, w7⟩
      generalize pb (asP A) = P at e5
      generalize f i = y at e5 e7
      simp (disch := omega) only [bX8_ask_30, bdq, gd_ix, lit_0, lit_1, lit_2, lit_3, lit_4, lit_5, lit_6, lit_7, lit_8, lit_9, lit_10, lit_15, lit_16, lit_19, lit_20, lit_31, lit_35, lit_36, lit_48, lit_49, lit_53, lit_55, lit_57, lit_59, lit_60, lit_63, lit_64, lit_97, lit_102, lit_110, lit_160, lit_255, nI_add, ns_sub, ns_div, ns_le, ns_lt, ns_eq, ns_cl, pk_mul, ne10, eq_self, ↓reduceIte, e5, e7, show ¬ 20 ≤ i from by omega]
    · have hin2 : i = 20 := by omega
      subst hin2
      refine Or.inr ⟨nI 20, Sx, fun rec => ?_, rfl, hz, hw⟩
      generalize pb (asP A) = P
      simp (disch := omega) only [bX8_ask_30, bdq, gd_ix, lit_0, lit_1, lit_2, lit_3, lit_4, lit_5, lit_6, lit_7, lit_8, lit_9, lit_10, lit_15, lit_16, lit_19, lit_20, lit_31, lit_35, lit_36, lit_48, lit_49, lit_53, lit_55, lit_57, lit_59, lit_60, lit_63, lit_64, lit_97, lit_102, lit_110, lit_160, lit_255, nI_add, ns_sub, ns_div, ns_le, ns_lt, ns_eq, ns_cl, pk_mul, ne10, eq_self, ↓reduceIte, Nat.le_refl]) (nI 0) S3 ⟨rfl, f3, w3⟩
  subst ha
  refine ⟨S4, ?_, (h1.scr z2).scr (z4.scr (by omega))⟩
  have e1' : fX8_never S = some (pb (asP A), S1) := e1
  have w5 : S4.1 40 0 = nI (amn f 19) := w4.1
  unfold fX8_ask
  rw [cCell_y hx, bd_some, if_neg (by decide), e1', bd_some, e2, bd_some, e3, bd_some, lit_0, e4, bd_some, w5]
/-- the reference -/
theorem Md.lo {S S' : Sg} {c : Cf} {nw no : Nat} {wd wl od ol : Nat → Nat} {mo : Nat → Bool} (h : Md S c nw wd wl no od ol mo) (e : ∀ a j, a ≤ 12 → S'.1 a j = S.1 a j) : Md S' c nw wd wl no od ol mo := by
  obtain ⟨h1, h2, h3, h4, h5, h6, h7, h8, h9, h10, h11, h12, h13, h14, h15⟩ := h
  refine ⟨h1, by rw [e 0 4 (by omega)]; exact h2, fun j hj => ?_, h4, by rw [e 0 10 (by omega)]; exact h5, fun w hw => ?_, h7, by rw [e 0 13 (by omega)]; exact h8, fun o ho => ?_, fun d hd => by rw [e 12 d (by omega)]; exact h10 d hd, by rw [e 0 9 (by omega)]; exact h11, h12, by rw [e 0 17 (by omega)]; exact h13, by rw [e 0 18 (by omega)]; exact h14, h15⟩
  · rw [e 4 j (by omega), e 5 j (by omega), e 7 j (by omega)]; exact h3 j hj
  · rw [e 8 w (by omega), e 9 w (by omega)]; exact h6 w hw
  · rw [e 10 o (by omega), e 11 o (by omega)]; exact h9 o ho
theorem viewsM_ok {S : Sg} {k x : Nat} {g : Nat → Int32} (hk : k < 8) (h : ∀ T : Sg, (∀ a j, ¬ a = 21 → T.1 a j = S.1 a j) → ∀ d, d < 20 → fX9_standsNow (nI d) (nI x) T = some (g d, T)) : ∃ S', lp (bX9_askOf_29 (nI x) (nI k)) fl (nI 0) S = some (nI 20, S') ∧ (∀ a j, ¬ (a = 21 ∧ 20 * k ≤ j ∧ j < 20 * k + 20) → S'.1 a j = S.1 a j) ∧ ∀ d, d < 20 → S'.1 21 (20 * k + d) = g d := by
  obtain ⟨a, S', e1, ha, q1, q3⟩ := lp_invF (B := bX9_askOf_29 (nI x) (nI k)) (fun i a Sx => a = nI i ∧ (∀ a j, ¬ (a = 21 ∧ 20 * k ≤ j ∧ j < 20 * k + 20) → Sx.1 a j = S.1 a j) ∧ ∀ d, d < i → Sx.1 21 (20 * k + d) = g d) (fun a Sx => a = nI 20 ∧ (∀ a j, ¬ (a = 21 ∧ 20 * k ≤ j ∧ j < 20 * k + 20) → Sx.1 a j = S.1 a j) ∧ ∀ d, d < 20 → Sx.1 21 (20 * k + d) = g d) 20 (by omega) (by
    rintro i a Sx hi ⟨ha, hf, hr⟩
    subst ha
    by_cases hin : i < 20
    · have e := h Sx (fun b j q => hf b j (by omega)) i hin
      refine Or.inl ⟨hin, nI (i + 1), sI Sx 21 (20 * k + i) (g i), fun rec => ?_, rfl, fun b j q => by rw [sI1, if_neg (by omega)]; exact hf b j q, fun d hd => ?_⟩
      · generalize g i = y at e
        simp (disch := omega) only [bX9_askOf_29, bdq, gd_ix, lit_0, lit_1, lit_2, lit_3, lit_4, lit_5, lit_6, lit_7, lit_8, lit_9, lit_10, lit_15, lit_16, lit_19, lit_20, lit_31, lit_35, lit_36, lit_48, lit_49, lit_53, lit_55, lit_57, lit_59, lit_60, lit_63, lit_64, lit_97, lit_102, lit_110, lit_160, lit_255, nI_add, ns_sub, ns_div, ns_le, ns_lt, ns_eq, ns_cl, pk_mul, ne10, eq_self, ↓reduceIte, e, show ¬ 20 ≤ i from by omega]
      · rw [sI1]
        by_cases q : d = i
        · subst q; rw [if_pos ⟨rfl, rfl⟩]
        · rw [if_neg (by omega)]; exact hr d (by omega)
    · have hin2 : i = 20 := by omega
      subst hin2
      refine Or.inr ⟨nI 20, Sx, fun rec => ?_, rfl, hf, hr⟩
      simp (disch := omega) only [bX9_askOf_29, bdq, gd_ix, lit_0, lit_1, lit_2, lit_3, lit_4, lit_5, lit_6, lit_7, lit_8, lit_9, lit_10, lit_15, lit_16, lit_19, lit_20, lit_31, lit_35, lit_36, lit_48, lit_49, lit_53, lit_55, lit_57, lit_59, lit_60, lit_63, lit_64, lit_97, lit_102, lit_110, lit_160, lit_255, nI_add, ns_sub, ns_div, ns_le, ns_lt, ns_eq, ns_cl, pk_mul, ne10, eq_self, ↓reduceIte, Nat.le_refl]) (nI 0) S ⟨rfl, fun _ _ _ => rfl, fun d hd => absurd hd (by omega)⟩
  subst ha
  exact ⟨S', e1, q1, q3⟩
theorem viewAllM_ok {S : Sg} {c : Cf} {G : Nat → Nat} {nw no : Nat} {wd wl od ol : Nat → Nat} {mo : Nat → Bool} {x : Nat} (hx : x < 36) (h8 : cN c ≤ 8) (hP : ∀ j, cP c j = decide (j < cN c)) (h : Md (sI S 0 17 (nI 0)) c nw wd wl no od ol mo) (hG : ∀ k, k < cN c → S.1 6 k = nI (G k)) : ∃ S', lp (bX9_askOf_7 (nI x)) fl (nI 0) S = some (nI (cN c), S') ∧ mz S S' ∧ S'.1 0 4 = nI (cN c) ∧ ∀ k, k < cN c → ∀ d, d < 20 → S'.1 21 (20 * k + d) = shw (lessK c k) G d x := by
  obtain ⟨a, S', e1, ha, z1, m1, q1⟩ := lp_invF (B := bX9_askOf_7 (nI x)) (fun i a Sx => a = nI i ∧ (∀ a j, ¬ (13 ≤ a ∧ a ≤ 17) → ¬ (a = 0 ∧ (j = 21 ∨ j = 17)) → ¬ a = 21 → Sx.1 a j = S.1 a j) ∧ Md (sI Sx 0 17 (nI 0)) c nw wd wl no od ol mo ∧ ∀ k, k < i → ∀ d, d < 20 → Sx.1 21 (20 * k + d) = shw (lessK c k) G d x) (fun a Sx => a = nI (cN c) ∧ (∀ a j, ¬ (13 ≤ a ∧ a ≤ 17) → ¬ (a = 0 ∧ (j = 21 ∨ j = 17)) → ¬ a = 21 → Sx.1 a j = S.1 a j) ∧ Md (sI Sx 0 17 (nI 0)) c nw wd wl no od ol mo ∧ ∀ k, k < cN c → ∀ d, d < 20 → Sx.1 21 (20 * k + d) = shw (lessK c k) G d x) (cN c) (by omega) (by
    rintro i a Sx hi ⟨ha, hz, hm, hr⟩
    subst ha
    have e4 : Sx.1 0 4 = nI (cN c) := by
      have := hm.2.1
      rw [sI1, if_neg (by omega)] at this
      exact this
    by_cases hin : i < cN c
    · have m3 := MdN.set hm hP hin
      obtain ⟨S6, e6, f6, -, d6⟩ := runs_ok m3
      have m6 := m3.mf f6
      have g6 : ∀ k, k < cN c → S6.1 6 k = nI (G k) := fun k hk => by rw [f6.1 6 k (by omega) (by omega), sI1, if_neg (by omega), hz 6 k (by omega) (by omega) (by omega)]; exact hG k hk
      obtain ⟨S7, e7, f7, r7⟩ := viewsM_ok (S := S6) (k := i) (x := x) (g := fun d => shw (lessK c i) G d x) (by omega) (fun T fT d hd => by
        have mT := m6.lo (S' := T) (fun b j q => fT b j (by omega))
        refine standsNow_ok (c := lessK c i) mT.2.1 mT.1 (fun k hk => ⟨(mT.2.2.1 k hk).2.2.1, (mT.2.2.1 k hk).2.2.2.1⟩) (fun k hk => by rw [fT 6 k (by omega)]; exact g6 k hk) ?_ hd hx
        obtain ⟨q1, q2⟩ := d6 d hd
        exact ⟨by rw [fT 15 d (by omega)]; exact q1, fun k hk => by rw [fT 16 _ (by omega), fT 17 _ (by omega)]; exact q2 k hk⟩)
      refine Or.inl ⟨hin, nI (i + 1), S7, fun rec => ?_, rfl, fun b j q1 q2 q3 => ?_, ?_, fun k hk d hd => ?_⟩
      · simp (disch := omega) only [bX9_askOf_7, bdq, gd_ix, lit_0, lit_1, lit_2, lit_3, lit_4, lit_5, lit_6, lit_7, lit_8, lit_9, lit_10, lit_15, lit_16, lit_19, lit_20, lit_31, lit_35, lit_36, lit_48, lit_49, lit_53, lit_55, lit_57, lit_59, lit_60, lit_63, lit_64, lit_97, lit_102, lit_110, lit_160, lit_255, nI_add, ns_sub, ns_div, ns_le, ns_lt, ns_eq, ns_cl, pk_mul, ne10, eq_self, ↓reduceIte, e4, e6, e7, show ¬ cN c ≤ i from by omega]
      · rw [f7 b j (by omega)]
        have := f6.1 b j q1 (by omega)
        rw [sI1, if_neg (by omega)] at this
        rw [this]
        exact hz b j q1 q2 q3
      · refine (MdN.go hm f6).lo (fun b j q => ?_)
        rw [sI1, sI1]
        by_cases z : b = 0 ∧ j = 17
        · rw [if_pos z, if_pos z]
        · rw [if_neg z, if_neg z, f7 b j (by omega)]
      · by_cases q : k = i
        · subst q; exact r7 d hd
        · have := f6.1 21 (20 * k + d) (by omega) (by omega)
          rw [sI1, if_neg (by omega)] at this
          rw [f7 21 _ (by omega), this]
          exact hr k (by omega) d hd
    · have hin2 : i = cN c := by omega
      subst hin2
      refine Or.inr ⟨nI (cN c), Sx, fun rec => ?_, rfl, hz, hm, hr⟩
      simp (disch := omega) only [bX9_askOf_7, bdq, gd_ix, lit_0, lit_1, lit_2, lit_3, lit_4, lit_5, lit_6, lit_7, lit_8, lit_9, lit_10, lit_15, lit_16, lit_19, lit_20, lit_31, lit_35, lit_36, lit_48, lit_49, lit_53, lit_55, lit_57, lit_59, lit_60, lit_63, lit_64, lit_97, lit_102, lit_110, lit_160, lit_255, nI_add, ns_sub, ns_div, ns_le, ns_lt, ns_eq, ns_cl, pk_mul, ne10, eq_self, ↓reduceIte, e4, Nat.le_refl]) (nI 0) S ⟨rfl, fun _ _ _ _ _ => rfl, h, fun k hk => absurd hk (by omega)⟩
  subst ha
  refine ⟨S', e1, fun b j q1 q2 q3 q4 q5 => z1 b j (by omega) (by omega) (by omega), ?_, q1⟩
  have := m1.2.1
  rw [sI1, if_neg (by omega)] at this
  exact this
