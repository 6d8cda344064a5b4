/-! never, sign, chalk on both sides -/
theorem pb_skipC {p : Nat → Bool} {i : Nat} (q : p i = false) : pb (fun k => decide (k < i) && p k) = pb (fun k => decide (k < i + 1) && p k) := pb_cong (fun k _ => by
  by_cases hki : k = i
  · subst hki; rw [q]; simp
  · simp [show (k < i + 1) ↔ k < i by omega])
theorem pb_start {p : Nat → Bool} : nI 0 = pb (fun k => decide (k < 0) && p k) := (pb_eq0.mpr (fun k _ => by simp)).symm
/-- the board without k -/
def lessK (c : Cf) (k : Nat) : Cf := uP c (fun j => cP c j && !(j == k))
def nvB (c : Cf) (G : Nat → Nat) (N : Sn3) (k : Nat) : Bool := sk (lessK c k) G N
theorem lessK_on {c : Cf} (hP : ∀ j, cP c j = decide (j < cN c)) {k x : Nat} : (fun j => mtX c x j && !(j == k)) = onX (lessK c k) x := by
  funext j
  show (mtX c x j && !(j == k)) = ((cP c j && !(j == k)) && (cC c j == x))
  unfold mtX
  rw [hP j]
  cases decide (j < cN c) <;> cases (cC c j == x) <;> cases (j == k) <;> rfl
theorem uP_uP {c : Cf} {p q : Nat → Bool} : uP (uP c p) q = uP c q := rfl
theorem sr_less1 {c : Cf} (hP : ∀ j, cP c j = decide (j < cN c)) {G : Nat → Nat} {k d x : Nat} : sr (uP c (fun j => mtX c x j && !(j == k))) G d x = sr (lessK c k) G d x := by
  have hPn : ∀ j, cP (lessK c k) j = true → j < cN (lessK c k) := fun j h => by
    have h2 : (cP c j && !(j == k)) = true := h
    rw [Bool.and_eq_true, hP j] at h2
    exact of_decide_eq_true h2.1
  rw [lessK_on hP]
  have := sr_cell (c := lessK c k) hPn (G := G) (d := d) (x := x)
  exact this
theorem sr_less0 {c : Cf} (hP : ∀ j, cP c j = decide (j < cN c)) {G : Nat → Nat} {k d y : Nat} (hy : ¬ y = cC c k) : sr c G d y = sr (lessK c k) G d y := by
  have hPn : ∀ j, cP c j = true → j < cN c := fun j h => by rw [hP j] at h; exact of_decide_eq_true h
  refine sr_other (c := c) (e := lessK c k) rfl rfl rfl rfl rfl (fun _ => rfl) (x := cC c k) (fun _ _ _ => rfl) (fun _ _ _ => rfl) (fun j hj => ?_) hPn (fun j h => ?_) (fun _ _ _ => rfl) hy
  · show cP c j = (cP c j && !(j == k))
    have : ¬ j = k := fun q => hj (by rw [q])
    rw [beq_false_of_ne this]
    simp
  · have h2 : (cP c j && !(j == k)) = true := h
    rw [Bool.and_eq_true] at h2
    exact hPn j h2.1
theorem signT_ok {S : Sg} {A : Ab} (h : RF S A) {d y : Nat} (hd : d < 20) (hy : y < 36) : fX0_signRisen 12 (nI y) (S.1 22 d) S = some (nI (sr (cfg A) (sgn A) d y), S) := by
  have w : S.1 22 d = ps (fun k => up (cfg A) d k) := fr_risen h hd
  rw [w]
  exact signRisen_ok (t := 12) (c := cfg A) (b := cfg A) h.2.2.1 rfl (fun _ _ => rfl) (fr_sg h) hy
theorem cfg_g5 {A : Ab} : ∀ k, k < cN (cfg A) → sgn A k ≤ 5 := fun k hk => (cfg_rng hk).2.2.1
/-- the trial without k: state kept besides -/
theorem tryWithout_ok {S : Sg} {A : Ab} (h : RF S A) {k : Nat} (hk : k < cN (cfg A)) : ∃ S', fX8_tryWithout (nI k) S = some ((), S') ∧ fr 24 35 S S' ∧ Bd 24 S' (cfg A) ∧ sgB 24 S' (cfg A) (sgn A) ∧ Stl 24 S' (uP (cfg A) (fun j => mtX (cfg A) (cC (cfg A) k) j && !(j == k))) ∧ ∀ d, d < 20 → S'.1 (33 + 1) d = ps (fun j => up (uP (cfg A) (fun j => mtX (cfg A) (cC (cfg A) k) j && !(j == k))) d j) := by
  have h8 := cfg_8 h.1
  have hx := (cfg_rng hk).2.1
  obtain ⟨S1, e3, f3, b3, g3⟩ := trial_ok h
  have h1 := h.scr (f3.scr (by omega))
  have e14 : S1.1 14 k = nI (cC (cfg A) k) := (h1.2.2.1.2.2 k hk).2.2.1
  have e1 : fX0_onCell 12 (nI (cC (cfg A) k)) S1 = some (ps (mtX (cfg A) (cC (cfg A) k)), S1) := onCell_ok (t := 12) h1.2.2.1 hx
  obtain ⟨S2, S3, e4, e5, f4, f5, s5, r5⟩ := trialRun_ok h1 b3 (p := fun j => mtX (cfg A) (cC (cfg A) k) j && !(j == k)) rfl rfl rfl rfl (fun j hj => by
    rw [Bool.and_eq_true] at hj
    exact (mtX_n hj.1).1)
  have f45 : fr 29 35 S1 S3 := (f4.wd (by omega) (by omega)).tr (f5.wd (by omega) (by omega))
  refine ⟨S3, ?_, (f3.wd (by omega) (by omega)).tr (f45.wd (by omega) (by omega)), b3.fr f45 (by omega), fun j hj => by rw [f45.1 (24 + 3) j (by omega)]; exact g3 j hj, s5, r5⟩
  have e4' : fX0_settle 24 (ps (mtX (cfg A) (cC (cfg A) k)) &&& (ps (fun j => j == k) ^^^ (-1))) S1 = some ((), S2) := by rw [ps_sub]; exact e4
  unfold fX8_tryWithout
  rw [e3, bd_some, gd_ix (by omega) (by omega), ns_cl (by omega), e14, e1, bd_some, only_ok (by omega), bd_some, e4', bd_some, e5, bd_some]
theorem agreesNever_ok {S : Sg} {A : Ab} (h : RF S A) {k : Nat} (hk : k < cN (cfg A)) : ∃ S', fX8_tryWithout (nI k) S = some ((), S') ∧ fr 24 35 S S' ∧ fX8_agrees 24 33 (nI (cC (cfg A) k)) S' = some (bI (nvB (cfg A) (sgn A) (aS A) k), S') := by
  have hx := (cfg_rng hk).2.1
  obtain ⟨S1, e1, f1, b1, g1, -, r1⟩ := tryWithout_ok h hk
  have h1 := h.scr (f1.scr (by omega))
  refine ⟨S1, e1, f1, ?_⟩
  exact agrees_ok (N := aS A) (f := fun d y => sr (lessK (cfg A) k) (sgn A) d y) h1.1.2.2.2.2.1 hx (fun d y => sr_le (c := lessK (cfg A) k) cfg_g5) (fun d hd => by
    rw [r1 d hd, signRisen_ok (t := 24) (c := uP (cfg A) (fun j => mtX (cfg A) (cC (cfg A) k) j && !(j == k))) (b := cfg A) b1 rfl (fun _ _ => rfl) g1 hx, sr_less1 cfg_dec]) (fun d y hd hy hne => by
    rw [signT_ok h1 hd hy, sr_less0 cfg_dec hne])
theorem neverC_ok {S : Sg} {A : Ab} (h : RC S A) : ∃ S', fX8_never S = some (pb (fun k => decide (k < cN (cfg A)) && nvB (cfg A) (sgn A) (aS A) k), S') ∧ RF S' A := by
  obtain ⟨S1, e1, h1⟩ := bring_ok h
  have h8 := cfg_8 h.1
  obtain ⟨p, hp⟩ : ∃ p : Nat → Bool, p = nvB (cfg A) (sgn A) (aS A) := ⟨_, rfl⟩
  rw [← hp]
  obtain ⟨a, S2, e2, ha, z2⟩ := lp_invF (B := bX8_never_8) (fun i a Sx => a = (pb (fun k => decide (k < i) && p k), nI i) ∧ scr S1 Sx) (fun a Sx => a = (pb (fun k => decide (k < cN (cfg A)) && p k), nI (cN (cfg A))) ∧ scr S1 Sx) (cN (cfg A)) (by omega) (by
    rintro i a Sx hi ⟨ha, hz⟩
    subst ha
    have hx := h1.scr hz
    have e12 := hx.2.2.1.2.1
    by_cases hin : i < cN (cfg A)
    · obtain ⟨S3, e3, f3, e4⟩ := agreesNever_ok hx hin
      have hx3 := hx.scr (f3.scr (by omega))
      have e14 : S3.1 14 i = nI (cC (cfg A) i) := (hx3.2.2.1.2.2 i hin).2.2.1
      rw [← hp] at e4
      refine Or.inl ⟨hin, (pb (fun k => decide (k < i + 1) && p k), nI (i + 1)), S3, fun rec => ?_, rfl, hz.tr (f3.scr (by omega))⟩
      cases hq : p i with
      | true =>
        have ha := pb_add (p := p) (show i < 8 by omega) hq
        rw [hq] at e4
        generalize pb (fun k => decide (k < i + 1) && p k) = Z at ha ⊢
        generalize pb (fun k => decide (k < i) && p k) = Y at ha ⊢
        simp (disch := omega) only [bX8_never_8, bdq, gd_ix, lit_0, lit_1, lit_2, lit_3, lit_4, lit_5, lit_6, lit_7, lit_8, lit_9, lit_10, lit_15, lit_16, lit_19, lit_20, lit_31, lit_35, lit_36, lit_48, lit_49, lit_53, lit_55, lit_57, lit_59, lit_60, lit_63, lit_64, lit_97, lit_102, lit_110, lit_160, lit_255, nI_add, ns_sub, ns_div, ns_le, ns_lt, ns_eq, ns_cl, pk_mul, ne10, eq_self, ↓reduceIte, e12, e3, e14, e4, bI_t, ha, show ¬ cN (cfg A) ≤ i from by omega]
      | false =>
        rw [← pb_skipC (p := p) hq]
        rw [hq] at e4
        generalize pb (fun k => decide (k < i) && p k) = Y
        simp (disch := omega) only [bX8_never_8, bdq, gd_ix, lit_0, lit_1, lit_2, lit_3, lit_4, lit_5, lit_6, lit_7, lit_8, lit_9, lit_10, lit_15, lit_16, lit_19, lit_20, lit_31, lit_35, lit_36, lit_48, lit_49, lit_53, lit_55, lit_57, lit_59, lit_60, lit_63, lit_64, lit_97, lit_102, lit_110, lit_160, lit_255, nI_add, ns_sub, ns_div, ns_le, ns_lt, ns_eq, ns_cl, pk_mul, ne10, eq_self, ↓reduceIte, e12, e3, e14, e4, bI_f, show ¬ cN (cfg A) ≤ i from by omega]
    · have hin2 : i = cN (cfg A) := by omega
      subst hin2
      refine Or.inr ⟨(pb (fun k => decide (k < cN (cfg A)) && p k), nI (cN (cfg A))), Sx, fun rec => ?_, rfl, hz⟩
      generalize pb (fun k => decide (k < cN (cfg A)) && p k) = Y
      simp (disch := omega) only [bX8_never_8, bdq, gd_ix, lit_0, lit_1, lit_2, lit_3, lit_4, lit_5, lit_6, lit_7, lit_8, lit_9, lit_10, lit_15, lit_16, lit_19, lit_20, lit_31, lit_35, lit_36, lit_48, lit_49, lit_53, lit_55, lit_57, lit_59, lit_60, lit_63, lit_64, lit_97, lit_102, lit_110, lit_160, lit_255, nI_add, ns_sub, ns_div, ns_le, ns_lt, ns_eq, ns_cl, pk_mul, ne10, eq_self, ↓reduceIte, e12, Nat.le_refl]) (nI 0, nI 0) S1 ⟨by rw [← pb_start], scr.rf⟩
  subst ha
  refine ⟨S2, ?_, h1.scr z2⟩
  unfold fX8_never
  rw [e1, bd_some, lit_0, e2, bd_some]
/-- the reference without k -/
theorem MdN.set {S : Sg} {c : Cf} {nw no : Nat} {wd wl od ol : Nat → Nat} {mo : Nat → Bool} {k : Nat} (h : Md (sI S 0 17 (nI 0)) c nw wd wl no od ol mo) (hP : ∀ j, cP c j = decide (j < cN c)) (hk : k < cN c) : Md (sI S 0 17 (nI 1 <<< (nI k &&& nI 31))) (lessK c k) nw wd wl no od ol mo := by
  obtain ⟨h1, h2, h3, h4, h5, h6, h7, h8, h9, h10, h11, h12, h13, h14, h15, h16, h17⟩ := h
  have e : ∀ a j, ¬ (a = 0 ∧ j = 17) → (sI S 0 17 (nI 1 <<< (nI k &&& nI 31))).1 a j = (sI S 0 17 (nI 0)).1 a j := fun a j q => by rw [sI1, sI1, if_neg q, if_neg q]
  refine ⟨h1, by rw [e 0 4 (by omega)]; exact h2, fun j hj => ?_, h4, by rw [e 0 10 (by omega)]; exact h5, fun w hw => ?_, h7, by rw [e 0 13 (by omega)]; exact h8, fun o ho => ?_, fun d hd => by rw [e 12 d (by omega)]; exact h10 d hd, by rw [e 0 9 (by omega)]; exact h11, h12, fun j hj => ?_, by rw [e 0 18 (by omega)]; exact h14, h15, h16, fun j hj => ?_⟩
  · rw [e 4 j (by omega), e 5 j (by omega), e 7 j (by omega)]; exact h3 j hj
  · rw [e 8 w (by omega), e 9 w (by omega)]; exact h6 w hw
  · rw [e 10 o (by omega), e 11 o (by omega)]; exact h9 o ho
  · have hj2 : j < cN c := hj
    have e1 : nI 1 <<< (nI k &&& nI 31) = nI (2 ^ k) := one_shl k (by omega)
    have hlt : 2 ^ k < 256 := Nat.pow_lt_pow_right (m := k) (n := 8) (by decide) (by omega)
    rw [sI1, if_pos ⟨rfl, rfl⟩, e1, isIn_256 _ hlt j (by omega), Nat.testBit_two_pow]
    show decide (k = j) = !(cP c j && !(j == k))
    rw [hP j, decide_eq_true hj2, Bool.true_and, Bool.not_not]
    rw [Bool.eq_iff_iff, decide_eq_true_eq, beq_iff_eq]
    exact ⟨Eq.symm, Eq.symm⟩
  · have h2 : (cP c j && !(j == k)) = true := hj
    rw [Bool.and_eq_true] at h2
    exact h17 j h2.1
theorem MdN.st {S : Sg} {c : Cf} {nw no : Nat} {wd wl od ol : Nat → Nat} {mo : Nat → Bool} (h : Md S c nw wd wl no od ol mo) (hP : ∀ j, cP c j = decide (j < cN c)) : Md (sI S 0 17 (nI 0)) c nw wd wl no od ol mo := by
  obtain ⟨h1, h2, h3, h4, h5, h6, h7, h8, h9, h10, h11, h12, h13, h14, h15, h16, h17⟩ := h
  have e : ∀ a j, ¬ (a = 0 ∧ j = 17) → (sI S 0 17 (nI 0)).1 a j = S.1 a j := fun a j q => by rw [sI1, if_neg q]
  refine ⟨h1, by rw [e 0 4 (by omega)]; exact h2, fun j hj => ?_, h4, by rw [e 0 10 (by omega)]; exact h5, fun w hw => ?_, h7, by rw [e 0 13 (by omega)]; exact h8, fun o ho => ?_, fun d hd => by rw [e 12 d (by omega)]; exact h10 d hd, by rw [e 0 9 (by omega)]; exact h11, h12, fun j hj => ?_, by rw [e 0 18 (by omega)]; exact h14, h15, h16, h17⟩
  · rw [e 4 j (by omega), e 5 j (by omega), e 7 j (by omega)]; exact h3 j hj
  · rw [e 8 w (by omega), e 9 w (by omega)]; exact h6 w hw
  · rw [e 10 o (by omega), e 11 o (by omega)]; exact h9 o ho
  · rw [sI1, if_pos ⟨rfl, rfl⟩, isIn_256 0 (by omega) j (by omega), hP j, decide_eq_true hj]
    simp
theorem MdN.go {S S' : Sg} {c : Cf} {nw no : Nat} {wd wl od ol : Nat → Nat} {mo : Nat → Bool} {v : Int32} (h : Md (sI S 0 17 (nI 0)) c nw wd wl no od ol mo) (f : mf (sI S 0 17 v) S') : Md (sI S' 0 17 (nI 0)) c nw wd wl no od ol mo := h.mf ⟨fun a j q1 q2 => by
  rw [sI1, sI1]
  by_cases q : a = 0 ∧ j = 17
  · rw [if_pos q, if_pos q]
  · rw [if_neg q, if_neg q]
    have := f.1 a j q1 q2
    rw [sI1, if_neg q] at this
    exact this, f.2⟩
theorem mSn.kp {S S' : Sg} {N : Sn3} (h : mSn S N) (e : ∀ a j, (a = 0 ∧ j = 25) ∨ (18 ≤ a ∧ a ≤ 20) → S'.1 a j = S.1 a j) : mSn S' N := by
  obtain ⟨h1, h2, h3⟩ := h
  refine ⟨h1, by rw [e 0 25 (by omega)]; exact h2, fun i hi => ?_⟩
  rw [e 18 i (by omega), e 19 i (by omega), e 20 i (by omega)]
  exact h3 i hi
/-- what the reference's plans keep -/
theorem neverM_lp {S : Sg} {c : Cf} {G : Nat → Nat} {N : Sn3} {nw no : Nat} {wd wl od ol : Nat → Nat} {mo : Nat → Bool} {p : Nat → Bool} (hp : ∀ k, p k = nvB c G N k) (h8 : cN c ≤ 8) (hP : ∀ j, cP c j = decide (j < cN c)) (h : Md (sI S 0 17 (nI 0)) c nw wd wl no od ol mo) (hG : ∀ k, k < cN c → S.1 6 k = nI (G k)) (hG5 : ∀ k, k < cN c → G k ≤ 5) (hS : mSn S N) : ∃ S', lp bX9_neverNow_8 fl (nI 0, nI 0) S = some ((pb (fun k => decide (k < cN c) && p k), nI (cN c)), S') ∧ (∀ a j, ¬ (13 ≤ a ∧ a ≤ 17) → ¬ (a = 0 ∧ (j = 21 ∨ j = 17)) → S'.1 a j = S.1 a j) ∧ Md (sI S' 0 17 (nI 0)) c nw wd wl no od ol mo := by
  obtain ⟨a, S2, e2, ha, z2, m2⟩ := lp_invF (B := bX9_neverNow_8) (fun i a Sx => a = (pb (fun k => decide (k < i) && p k), nI i) ∧ (∀ a j, ¬ (13 ≤ a ∧ a ≤ 17) → ¬ (a = 0 ∧ (j = 21 ∨ j = 17)) → Sx.1 a j = S.1 a j) ∧ Md (sI Sx 0 17 (nI 0)) c nw wd wl no od ol mo) (fun a Sx => a = (pb (fun k => decide (k < cN c) && p k), nI (cN c)) ∧ (∀ a j, ¬ (13 ≤ a ∧ a ≤ 17) → ¬ (a = 0 ∧ (j = 21 ∨ j = 17)) → Sx.1 a j = S.1 a j) ∧ Md (sI Sx 0 17 (nI 0)) c nw wd wl no od ol mo) (cN c) (by omega) (by
    rintro i a Sx hi ⟨ha, hz, hm⟩
    subst ha
    have e4 : Sx.1 0 4 = nI (cN c) := by
      have := hm.2.1
      rw [sI1, if_neg (by omega)] at this
      exact this
    by_cases hin : i < cN c
    · have m3 := MdN.set hm hP hin
      obtain ⟨S3, e3, f3⟩ := isSeen_ok (c := lessK c i) (G := G) (N := N) m3 (fun k hk => by rw [sI1, if_neg (by omega), hz 6 k (by omega) (by omega)]; exact hG k hk) hG5 (hS.kp (fun b j q => by rw [sI1, if_neg (by omega), hz b j (by omega) (by omega)]))
      have e5 : sk (lessK c i) G N = p i := (hp i).symm
      rw [e5] at e3
      refine Or.inl ⟨hin, (pb (fun k => decide (k < i + 1) && p k), nI (i + 1)), S3, fun rec => ?_, rfl, fun b j q1 q2 => ?_, MdN.go hm f3⟩
      · cases hq : p i with
        | true =>
          have ha := pb_add (p := p) (show i < 8 by omega) hq
          rw [hq] at e3
          generalize pb (fun k => decide (k < i + 1) && p k) = Z at ha ⊢
          generalize pb (fun k => decide (k < i) && p k) = Y at ha ⊢
          simp (disch := omega) only [bX9_neverNow_8, bdq, gd_ix, lit_0, lit_1, lit_2, lit_3, lit_4, lit_5, lit_6, lit_7, lit_8, lit_9, lit_10, lit_15, lit_16, lit_19, lit_20, lit_31, lit_35, lit_36, lit_48, lit_49, lit_53, lit_55, lit_57, lit_59, lit_60, lit_63, lit_64, lit_97, lit_102, lit_110, lit_160, lit_255, nI_add, ns_sub, ns_div, ns_le, ns_lt, ns_eq, ns_cl, pk_mul, ne10, eq_self, ↓reduceIte, e4, e3, bI_t, ha, show ¬ cN c ≤ i from by omega]
        | false =>
          have ha := pb_skip (p := p) hq
          rw [hq] at e3
          generalize pb (fun k => decide (k < i + 1) && p k) = Z at ha ⊢
          generalize pb (fun k => decide (k < i) && p k) = Y at ha ⊢
          simp (disch := omega) only [bX9_neverNow_8, bdq, gd_ix, lit_0, lit_1, lit_2, lit_3, lit_4, lit_5, lit_6, lit_7, lit_8, lit_9, lit_10, lit_15, lit_16, lit_19, lit_20, lit_31, lit_35, lit_36, lit_48, lit_49, lit_53, lit_55, lit_57, lit_59, lit_60, lit_63, lit_64, lit_97, lit_102, lit_110, lit_160, lit_255, nI_add, ns_sub, ns_div, ns_le, ns_lt, ns_eq, ns_cl, pk_mul, ne10, eq_self, ↓reduceIte, e4, e3, bI_f, ha, show ¬ cN c ≤ i from by omega]
      · have := f3.1 b j q1 (by omega)
        rw [sI1, if_neg (by omega)] at this
        rw [this]
        exact hz b j q1 q2
    · have hin2 : i = cN c := by omega
      subst hin2
      refine Or.inr ⟨(pb (fun k => decide (k < cN c) && p k), nI (cN c)), Sx, fun rec => ?_, rfl, hz, hm⟩
      generalize pb (fun k => decide (k < cN c) && p k) = Y
      simp (disch := omega) only [bX9_neverNow_8, bdq, gd_ix, lit_0, lit_1, lit_2, lit_3, lit_4, lit_5, lit_6, lit_7, lit_8, lit_9, lit_10, lit_15, lit_16, lit_19, lit_20, lit_31, lit_35, lit_36, lit_48, lit_49, lit_53, lit_55, lit_57, lit_59, lit_60, lit_63, lit_64, lit_97, lit_102, lit_110, lit_160, lit_255, nI_add, ns_sub, ns_div, ns_le, ns_lt, ns_eq, ns_cl, pk_mul, ne10, eq_self, ↓reduceIte, e4, Nat.le_refl]) (nI 0, nI 0) S ⟨by rw [← pb_start], fun _ _ _ _ => rfl, h⟩
  subst ha
  exact ⟨S2, e2, z2, m2⟩
