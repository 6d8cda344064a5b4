/-! most, deep -/
/-- the first of 0 .. n that has most -/
def amx (f : Nat → Nat) : Nat → Nat
  | 0 => 0
  | n + 1 => if f (amx f n) < f (n + 1) then n + 1 else amx f n
theorem amx_le (f : Nat → Nat) : ∀ n, amx f n ≤ n
  | 0 => Nat.le_refl _
  | n + 1 => by
    have := amx_le f n
    unfold amx
    split <;> omega
theorem amx_spec (f : Nat → Nat) : ∀ n, (∀ x, x ≤ n → f x ≤ f (amx f n)) ∧ ∀ x, x < amx f n → f x < f (amx f n)
  | 0 => ⟨fun x hx => by rw [show x = 0 by omega]; exact Nat.le_refl _, fun x hx => absurd hx (Nat.not_lt_zero _)⟩
  | n + 1 => by
    obtain ⟨h1, h2⟩ := amx_spec f n
    unfold amx
    by_cases q : f (amx f n) < f (n + 1)
    · rw [if_pos q]
      refine ⟨fun x hx => ?_, fun x hx => ?_⟩
      · by_cases z : x = n + 1
        · subst z; exact Nat.le_refl _
        · have := h1 x (by omega); omega
      · have := h1 x (by omega); omega
    · rw [if_neg q]
      refine ⟨fun x hx => ?_, h2⟩
      by_cases z : x = n + 1
      · subst z; omega
      · exact h1 x (by omega)
def mB (f : Nat → Nat) : Nat → Int32
  | 0 => -nI 1
  | n + 1 => nI (amx f n)
def mV (f : Nat → Nat) : Nat → Int32
  | 0 => -nI 1
  | n + 1 => nI (f (amx f n))
theorem nle_m1 {a : Nat} (h : a < 2147483648) : ¬ nI a ≤ -nI 1 := by
  rw [fa_le, nI_toInt h]
  have : (-nI 1 : Int32).toInt = -1 := by decide
  omega
/-- as bd_some, but no proof by computing: a call behind a call -/
theorem bdq {ρ τ : Type} {r : ρ} {S : Sg} {k : ρ → Sg → Option τ} : bd (some (r, S)) k = k r S := (Eq.refl (k r S)).trans (Eq.refl (k r S))
theorem mB_0 {f : Nat → Nat} : mB f 0 = -nI 1 := rfl
theorem mV_0 {f : Nat → Nat} : mV f 0 = -nI 1 := rfl
theorem mB_s {f : Nat → Nat} {n : Nat} : mB f (n + 1) = nI (amx f n) := rfl
theorem mV_s {f : Nat → Nat} {n : Nat} : mV f (n + 1) = nI (f (amx f n)) := rfl
theorem amx_0 {f : Nat → Nat} : amx f 0 = 0 := rfl
theorem amx_s {f : Nat → Nat} {n : Nat} : amx f (n + 1) = if f (amx f n) < f (n + 1) then n + 1 else amx f n := rfl
theorem mostC_lp {S1 : Sg} {n : Nat} {f : Nat → Nat} (h8 : n ≤ 8) (e12 : S1.1 12 0 = nI n) (hf : ∀ k, f k ≤ 20) (hup : ∀ k, k < 8 → fX3_upsOf 21 (ps (fun i => i == k)) S1 = some (nI (f k), S1)) : lp bX8_most_10 fl (-nI 1, -nI 1, nI 0) S1 = some ((mB f n, mV f n, nI n), S1) := by
  rw [show (-nI 1, -nI 1, nI 0) = (mB f 0, mV f 0, nI 0) from rfl]
  refine lp_fl (fun i => (mB f i, mV f i, nI i)) (fun _ => S1) n (by omega) (fun i hi rec => ?_) (fun rec => ?_)
  · have hu := hup i (by omega)
    have hb := hf i
    show bX8_most_10 rec (mB f i, mV f i, nI i) S1 = rec (mB f (i + 1), mV f (i + 1), nI (i + 1)) S1
    cases i with
    | zero =>
      rw [mB_s, mV_s, amx_0, mB_0, mV_0]
      simp (disch := omega) only [bX8_most_10, e12, bdq, gd_ix, lit_0, lit_1, lit_2, lit_3, lit_4, lit_5, lit_6, lit_7, lit_8, lit_9, lit_10, lit_15, lit_16, lit_19, lit_20, lit_31, lit_35, lit_36, lit_48, lit_49, lit_53, lit_55, lit_57, lit_59, lit_60, lit_63, lit_64, lit_97, lit_102, lit_110, lit_160, lit_255, nI_add, ns_sub, ns_div, ns_le, ns_lt, ns_eq, ns_cl, pk_mul, ne10, eq_self, ↓reduceIte, only_ok, hu, nle_m1, show ¬ n ≤ 0 from by omega]
    | succ j =>
      have hb2 := hf (amx f j)
      rw [mB_s, mV_s, mB_s, mV_s, amx_s]
      by_cases q : f (amx f j) < f (j + 1)
      · rw [if_pos q]
        simp (disch := omega) only [bX8_most_10, e12, bdq, gd_ix, lit_0, lit_1, lit_2, lit_3, lit_4, lit_5, lit_6, lit_7, lit_8, lit_9, lit_10, lit_15, lit_16, lit_19, lit_20, lit_31, lit_35, lit_36, lit_48, lit_49, lit_53, lit_55, lit_57, lit_59, lit_60, lit_63, lit_64, lit_97, lit_102, lit_110, lit_160, lit_255, nI_add, ns_sub, ns_div, ns_le, ns_lt, ns_eq, ns_cl, pk_mul, ne10, eq_self, ↓reduceIte, only_ok, hu, show ¬ f (j + 1) ≤ f (amx f j) from by omega, show ¬ n ≤ j + 1 from by omega]
      · rw [if_neg q]
        simp (disch := omega) only [bX8_most_10, e12, bdq, gd_ix, lit_0, lit_1, lit_2, lit_3, lit_4, lit_5, lit_6, lit_7, lit_8, lit_9, lit_10, lit_15, lit_16, lit_19, lit_20, lit_31, lit_35, lit_36, lit_48, lit_49, lit_53, lit_55, lit_57, lit_59, lit_60, lit_63, lit_64, lit_97, lit_102, lit_110, lit_160, lit_255, nI_add, ns_sub, ns_div, ns_le, ns_lt, ns_eq, ns_cl, pk_mul, ne10, eq_self, ↓reduceIte, only_ok, hu, show f (j + 1) ≤ f (amx f j) from by omega, show ¬ n ≤ j + 1 from by omega]
  · show bX8_most_10 rec (mB f n, mV f n, nI n) S1 = _
    simp (disch := omega) only [bX8_most_10, e12, bdq, gd_ix, lit_0, lit_1, lit_2, lit_3, lit_4, lit_5, lit_6, lit_7, lit_8, lit_9, lit_10, lit_15, lit_16, lit_19, lit_20, lit_31, lit_35, lit_36, lit_48, lit_49, lit_53, lit_55, lit_57, lit_59, lit_60, lit_63, lit_64, lit_97, lit_102, lit_110, lit_160, lit_255, nI_add, ns_sub, ns_div, ns_le, ns_lt, ns_eq, ns_cl, pk_mul, ne10, eq_self, ↓reduceIte, Nat.le_refl]
theorem mostC_ok {S : Sg} {A : Ab} (h : RC S A) : ∃ S', fX8_most S = some (mB (upn (cfg A)) (cN (cfg A)), S') ∧ RF S' A := by
  obtain ⟨S1, e1, h1⟩ := bring_ok h
  refine ⟨S1, ?_, h1⟩
  have key := mostC_lp (f := upn (cfg A)) (cfg_8 h.1) h1.2.2.1.2.1 (fun k => upn_le) (fun k hk => upC1_ok (t := 21) (S := S1) (c := cfg A) (fun d hd => fr_risen h1 hd) hk)
  unfold fX8_most
  rw [e1, bd_some, lit_0, lit_1, key, bd_some]
theorem mostM_lp {S1 : Sg} {n : Nat} {f : Nat → Nat} (h8 : n ≤ 8) (e4 : S1.1 0 4 = nI n) (hf : ∀ k, f k ≤ 20) (hup : ∀ k, k < 8 → fX9_upsOf (nI k) S1 = some (nI (f k), S1)) : lp bX9_mostNow_8 fl (-nI 1, nI 0) S1 = some ((mB f n, nI n), S1) := by
  rw [show (-nI 1, nI 0) = (mB f 0, nI 0) from rfl]
  refine lp_fl (fun i => (mB f i, nI i)) (fun _ => S1) n (by omega) (fun i hi rec => ?_) (fun rec => ?_)
  · have hu := hup i (by omega)
    have hb := hf i
    show bX9_mostNow_8 rec (mB f i, nI i) S1 = rec (mB f (i + 1), nI (i + 1)) S1
    cases i with
    | zero =>
      rw [mB_s, amx_0, mB_0]
      simp (disch := omega) only [bX9_mostNow_8, e4, bdq, gd_ix, lit_0, lit_1, lit_2, lit_3, lit_4, lit_5, lit_6, lit_7, lit_8, lit_9, lit_10, lit_15, lit_16, lit_19, lit_20, lit_31, lit_35, lit_36, lit_48, lit_49, lit_53, lit_55, lit_57, lit_59, lit_60, lit_63, lit_64, lit_97, lit_102, lit_110, lit_160, lit_255, nI_add, ns_sub, ns_div, ns_le, ns_lt, ns_eq, ns_cl, pk_mul, ne10, eq_self, ↓reduceIte, show ¬ n ≤ 0 from by omega]
    | succ j =>
      have hb2 := hf (amx f j)
      have hj := amx_le f j
      have hu2 := hup (amx f j) (by omega)
      rw [mB_s, mB_s, amx_s]
      by_cases q : f (amx f j) < f (j + 1)
      · rw [if_pos q]
        simp (disch := omega) only [bX9_mostNow_8, e4, bdq, gd_ix, lit_0, lit_1, lit_2, lit_3, lit_4, lit_5, lit_6, lit_7, lit_8, lit_9, lit_10, lit_15, lit_16, lit_19, lit_20, lit_31, lit_35, lit_36, lit_48, lit_49, lit_53, lit_55, lit_57, lit_59, lit_60, lit_63, lit_64, lit_97, lit_102, lit_110, lit_160, lit_255, nI_add, ns_sub, ns_div, ns_le, ns_lt, ns_eq, ns_cl, pk_mul, ne10, eq_self, ↓reduceIte, ne_m1, hu, hu2, show ¬ f (j + 1) ≤ f (amx f j) from by omega, show ¬ n ≤ j + 1 from by omega]
      · rw [if_neg q]
        simp (disch := omega) only [bX9_mostNow_8, e4, bdq, gd_ix, lit_0, lit_1, lit_2, lit_3, lit_4, lit_5, lit_6, lit_7, lit_8, lit_9, lit_10, lit_15, lit_16, lit_19, lit_20, lit_31, lit_35, lit_36, lit_48, lit_49, lit_53, lit_55, lit_57, lit_59, lit_60, lit_63, lit_64, lit_97, lit_102, lit_110, lit_160, lit_255, nI_add, ns_sub, ns_div, ns_le, ns_lt, ns_eq, ns_cl, pk_mul, ne10, eq_self, ↓reduceIte, ne_m1, hu, hu2, show f (j + 1) ≤ f (amx f j) from by omega, show ¬ n ≤ j + 1 from by omega]
  · show bX9_mostNow_8 rec (mB f n, nI n) S1 = _
    simp (disch := omega) only [bX9_mostNow_8, e4, bdq, gd_ix, lit_0, lit_1, lit_2, lit_3, lit_4, lit_5, lit_6, lit_7, lit_8, lit_9, lit_10, lit_15, lit_16, lit_19, lit_20, lit_31, lit_35, lit_36, lit_48, lit_49, lit_53, lit_55, lit_57, lit_59, lit_60, lit_63, lit_64, lit_97, lit_102, lit_110, lit_160, lit_255, nI_add, ns_sub, ns_div, ns_le, ns_lt, ns_eq, ns_cl, pk_mul, ne10, eq_self, ↓reduceIte, Nat.le_refl]
theorem mostM_ok {S : Sg} {A : Ab} (h : RM S A) : ∃ S', fX9_mostNow S = some (mB (upn (cfg A)) (cN (cfg A)), S') ∧ mz S S' := by
  obtain ⟨S1, e1, z1, r1, m1, d1⟩ := runsTold_ok h
  refine ⟨S1, ?_, z1⟩
  have key := mostM_lp (f := upn (cfg A)) (cfg_8m h) m1.2.1 (fun k => upn_le) (fun k hk => upsM_ok (S := S1) (c := cfg A) (fun d hd => (d1 d hd).1) hk)
  unfold fX9_mostNow
  rw [e1, bd_some, lit_0, lit_1, key, bd_some]
theorem stp_most_ok : stp_most Inv := by
  rintro Sc Sm ⟨A, hC, hM⟩
  obtain ⟨S1, e1, h1⟩ := mostC_ok hC
  obtain ⟨S2, e2, h2⟩ := mostM_ok hM
  refine ⟨_, S1, S2, e1, ?_, A, h1.c, hM.mz h2⟩
  unfold fX9_most
  rw [e2, bd_some]
/-- deep -/
def dpc (c : Cf) (d x : Nat) : Nat := fb_ct (fun k => (now c k d == 2) && (cC c k == x)) 8
def dpV (c : Cf) (d : Nat) : Int32 := if dpc c d (amx (dpc c d) 35) = 0 then -nI 1 else nI (amx (dpc c d) 35)
theorem dpc_le {c : Cf} {d x : Nat} : dpc c d x ≤ 8 := fb_ct_le _ _
theorem dpc_pos {c : Cf} (hP : ∀ k, cP c k = true → k < cN c) (h8 : cN c ≤ 8) {d k : Nat} (h : now c k d = 2) : 0 < dpc c d (cC c k) := fb_ct_pos.mpr ⟨k, by have := now_lt hP (k := k) (d := d) (by omega); omega, by simp [h]⟩
/-- best and most so far, over the strokes below i -/
def dpI (c : Cf) (d i : Nat) (x y : Int32) : Prop := (x = -nI 1 ∧ y = nI 0 ∧ ∀ j, j < i → ¬ now c j d = 2) ∨ ∃ m, m < i ∧ now c m d = 2 ∧ x = nI (cC c m) ∧ y = nI (dpc c d (cC c m)) ∧ ∀ j, j < i → now c j d = 2 → dpc c d (cC c j) < dpc c d (cC c m) ∨ (dpc c d (cC c j) = dpc c d (cC c m) ∧ cC c m ≤ cC c j)
theorem dpI_end {c : Cf} (hP : ∀ k, cP c k = true → k < cN c) (h8 : cN c ≤ 8) (hC : ∀ k, k < cN c → cC c k < 36) {d : Nat} {x y : Int32} (h : dpI c d (cN c) x y) : x = dpV c d := by
  have hsp := amx_spec (dpc c d) 35
  have hle := amx_le (dpc c d) 35
  rcases h with ⟨h1, h2, h3⟩ | ⟨m, h1, h2, h3, h4, h5⟩
  · have hz : ∀ z, dpc c d z = 0 := fun z => fb_ct_zero.mpr (fun k hk => by
      by_cases q : now c k d = 2
      · exact absurd q (h3 k (now_lt hP (k := k) (d := d) (by omega)))
      · simp [q])
    unfold dpV
    rw [if_pos (hz _)]
    exact h1
  · have hpos := dpc_pos hP h8 h2
    have hge := hsp.1 (cC c m) (by have := hC m h1; omega)
    have hap : 0 < dpc c d (amx (dpc c d) 35) := by omega
    obtain ⟨j, hj, hpj⟩ := fb_ct_pos.mp hap
    simp only [Bool.and_eq_true, beq_iff_eq] at hpj
    have hjn := now_lt hP (k := j) (d := d) (by omega)
    have := h5 j hjn hpj.1
    rw [hpj.2] at this
    have e : cC c m = amx (dpc c d) 35 := by
      rcases this with z | ⟨z1, z2⟩
      · omega
      · by_cases q : cC c m < amx (dpc c d) 35
        · have := hsp.2 _ q; omega
        · omega
    unfold dpV
    rw [if_neg (by omega), h3, e]
theorem deepC_ok {S : Sg} {A : Ab} (h : RC S A) {d : Nat} (hd : d < 20) : ∃ S', fX8_deep (nI d) S = some (dpV (cfg A) d, S') ∧ RF S' A := by
  obtain ⟨S1, e1, h1⟩ := bring_ok h
  refine ⟨S1, ?_, h1⟩
  have h8 := cfg_8 h.1
  obtain ⟨b1, b2, b3⟩ := h1.2.2.1
  have hm := h1.2.2.2.2.1.1
  have w19 : S1.1 19 d = ps (fun k => now (cfg A) k d == 2) := (h1.2.2.2.2.1.2 d hd).2.1
  have hP : ∀ k, cP (cfg A) k = true → k < cN (cfg A) := fun k hk => cfg_P hk
  have hC36 : ∀ k, k < cN (cfg A) → cC (cfg A) k < 36 := fun k hk => (cfg_rng hk).2.1
  obtain ⟨a, S2, e2, hS2, x, y, ha, hI⟩ := lp_invF (B := bX0_deepestCell_7 12 (ps (fun k => now (cfg A) k d == 2))) (fun i a Sx => Sx = S1 ∧ a.2.2 = nI i ∧ dpI (cfg A) d i a.1 a.2.1) (fun a Sx => Sx = S1 ∧ ∃ x y, a = (x, y, nI (cN (cfg A))) ∧ dpI (cfg A) d (cN (cfg A)) x y) (cN (cfg A)) (by omega) (by
    rintro i ⟨a1, a2, a3⟩ Sx hi ⟨rfl, rfl, hI⟩
    dsimp only at hI
    by_cases hin : i < cN (cfg A)
    · refine Or.inl ⟨hin, ?_⟩
      obtain ⟨-, -, k3, k4, -⟩ := b3 i hin
      by_cases c2 : now (cfg A) i d = 2
      · have e2 : (now (cfg A) i d == 2) = true := by simpa using c2
        have hmi := hm i hin (cfg_P2 hin)
        have ebc : ps (fun k => now (cfg A) k d == 2) &&& ps (fun j => cP (cfg A) j && (cC (cfg A) j == cC (cfg A) i)) = ps (fun k => (now (cfg A) k d == 2) && (cC (cfg A) k == cC (cfg A) i)) := by
          rw [ps_and]
          refine ps_cong (fun k hk => ?_)
          cases hp : cP (cfg A) k with
          | true => rw [Bool.true_and]
          | false => rw [now_nP hp]; rfl
        have hbc : ∀ Sy : Sg, fJ6_bitCount_0f7a4 (ps (fun k => (now (cfg A) k d == 2) && (cC (cfg A) k == cC (cfg A) i))) Sy = some (nI (dpc (cfg A) d (cC (cfg A) i)), Sy) := fun Sy => by rw [bc_ok, bc_ps]; rfl
        have hl := dpc_le (c := cfg A) (d := d) (x := cC (cfg A) i)
        have hpos := dpc_pos hP h8 c2
        rcases hI with ⟨q1, q2, q3⟩ | ⟨m, q1, q2, q3, q4, q5⟩
        · subst q1; subst q2
          refine ⟨(nI (cC (cfg A) i), nI (dpc (cfg A) d (cC (cfg A) i)), nI (i + 1)), Sx, fun rec => ?_, rfl, rfl, Or.inr ⟨i, by omega, c2, rfl, rfl, fun j hj hn => ?_⟩⟩
          · simp (disch := omega) only [bX0_deepestCell_7, b2, bd_some, gd_ix, lit_0, lit_1, lit_2, lit_3, lit_4, lit_5, lit_6, lit_7, lit_8, lit_9, lit_10, lit_15, lit_16, lit_19, lit_20, lit_31, lit_35, lit_36, lit_48, lit_49, lit_53, lit_55, lit_57, lit_59, lit_60, lit_63, lit_64, lit_97, lit_102, lit_110, lit_160, lit_255, nI_add, ns_sub, ns_div, ns_le, ns_lt, ns_eq, ns_cl, pk_mul, ne10, eq_self, ↓reduceIte, has_ok, e2, hmi, ebc, hbc, hpos, k3, show ¬ cN (cfg A) ≤ i from by omega]
          · by_cases z : j = i
            · subst z; exact Or.inr ⟨rfl, Nat.le_refl _⟩
            · exact absurd hn (q3 j (by omega))
        · subst q3; subst q4
          have hl2 := dpc_le (c := cfg A) (d := d) (x := cC (cfg A) m)
          have k5 := hC36 m (by omega)
          by_cases w1 : dpc (cfg A) d (cC (cfg A) m) < dpc (cfg A) d (cC (cfg A) i)
          · refine ⟨(nI (cC (cfg A) i), nI (dpc (cfg A) d (cC (cfg A) i)), nI (i + 1)), Sx, fun rec => ?_, rfl, rfl, Or.inr ⟨i, by omega, c2, rfl, rfl, fun j hj hn => ?_⟩⟩
            · simp (disch := omega) only [bX0_deepestCell_7, b2, bd_some, gd_ix, lit_0, lit_1, lit_2, lit_3, lit_4, lit_5, lit_6, lit_7, lit_8, lit_9, lit_10, lit_15, lit_16, lit_19, lit_20, lit_31, lit_35, lit_36, lit_48, lit_49, lit_53, lit_55, lit_57, lit_59, lit_60, lit_63, lit_64, lit_97, lit_102, lit_110, lit_160, lit_255, nI_add, ns_sub, ns_div, ns_le, ns_lt, ns_eq, ns_cl, pk_mul, ne10, eq_self, ↓reduceIte, has_ok, e2, hmi, ebc, hbc, w1, k3, show ¬ cN (cfg A) ≤ i from by omega]
            · by_cases z : j = i
              · subst z; exact Or.inr ⟨rfl, Nat.le_refl _⟩
              · have := q5 j (by omega) hn; omega
          · by_cases w2 : dpc (cfg A) d (cC (cfg A) i) = dpc (cfg A) d (cC (cfg A) m)
            · by_cases w3 : cC (cfg A) m ≤ cC (cfg A) i
              · refine ⟨(nI (cC (cfg A) m), nI (dpc (cfg A) d (cC (cfg A) m)), nI (i + 1)), Sx, fun rec => ?_, rfl, rfl, Or.inr ⟨m, by omega, q2, rfl, rfl, fun j hj hn => ?_⟩⟩
                · simp (disch := omega) only [bX0_deepestCell_7, b2, bd_some, gd_ix, lit_0, lit_1, lit_2, lit_3, lit_4, lit_5, lit_6, lit_7, lit_8, lit_9, lit_10, lit_15, lit_16, lit_19, lit_20, lit_31, lit_35, lit_36, lit_48, lit_49, lit_53, lit_55, lit_57, lit_59, lit_60, lit_63, lit_64, lit_97, lit_102, lit_110, lit_160, lit_255, nI_add, ns_sub, ns_div, ns_le, ns_lt, ns_eq, ns_cl, pk_mul, ne10, eq_self, ↓reduceIte, has_ok, e2, hmi, ebc, hbc, Nat.lt_irrefl, w2, w3, k3, show ¬ cN (cfg A) ≤ i from by omega]
                · by_cases z : j = i
                  · subst z; exact Or.inr ⟨w2, w3⟩
                  · exact q5 j (by omega) hn
              · refine ⟨(nI (cC (cfg A) i), nI (dpc (cfg A) d (cC (cfg A) i)), nI (i + 1)), Sx, fun rec => ?_, rfl, rfl, Or.inr ⟨i, by omega, c2, rfl, rfl, fun j hj hn => ?_⟩⟩
                · simp (disch := omega) only [bX0_deepestCell_7, b2, bd_some, gd_ix, lit_0, lit_1, lit_2, lit_3, lit_4, lit_5, lit_6, lit_7, lit_8, lit_9, lit_10, lit_15, lit_16, lit_19, lit_20, lit_31, lit_35, lit_36, lit_48, lit_49, lit_53, lit_55, lit_57, lit_59, lit_60, lit_63, lit_64, lit_97, lit_102, lit_110, lit_160, lit_255, nI_add, ns_sub, ns_div, ns_le, ns_lt, ns_eq, ns_cl, pk_mul, ne10, eq_self, ↓reduceIte, has_ok, e2, hmi, ebc, hbc, Nat.lt_irrefl, w2, w3, k3, show ¬ cN (cfg A) ≤ i from by omega]
                · by_cases z : j = i
                  · subst z; exact Or.inr ⟨rfl, Nat.le_refl _⟩
                  · have := q5 j (by omega) hn; omega
            · refine ⟨(nI (cC (cfg A) m), nI (dpc (cfg A) d (cC (cfg A) m)), nI (i + 1)), Sx, fun rec => ?_, rfl, rfl, Or.inr ⟨m, by omega, q2, rfl, rfl, fun j hj hn => ?_⟩⟩
              · simp (disch := omega) only [bX0_deepestCell_7, b2, bd_some, gd_ix, lit_0, lit_1, lit_2, lit_3, lit_4, lit_5, lit_6, lit_7, lit_8, lit_9, lit_10, lit_15, lit_16, lit_19, lit_20, lit_31, lit_35, lit_36, lit_48, lit_49, lit_53, lit_55, lit_57, lit_59, lit_60, lit_63, lit_64, lit_97, lit_102, lit_110, lit_160, lit_255, nI_add, ns_sub, ns_div, ns_le, ns_lt, ns_eq, ns_cl, pk_mul, ne10, eq_self, ↓reduceIte, has_ok, e2, hmi, ebc, hbc, w1, w2, show ¬ cN (cfg A) ≤ i from by omega]
              · by_cases z : j = i
                · subst z; exact Or.inl (by omega)
                · exact q5 j (by omega) hn
      · have e2 : (now (cfg A) i d == 2) = false := beq_false_of_ne c2
        refine ⟨(a1, a2, nI (i + 1)), Sx, fun rec => ?_, rfl, rfl, ?_⟩
        · simp (disch := omega) only [bX0_deepestCell_7, b2, bd_some, gd_ix, lit_0, lit_1, lit_2, lit_3, lit_4, lit_5, lit_6, lit_7, lit_8, lit_9, lit_10, lit_15, lit_16, lit_19, lit_20, lit_31, lit_35, lit_36, lit_48, lit_49, lit_53, lit_55, lit_57, lit_59, lit_60, lit_63, lit_64, lit_97, lit_102, lit_110, lit_160, lit_255, nI_add, ns_sub, ns_div, ns_le, ns_lt, ns_eq, ns_cl, pk_mul, ne10, eq_self, ↓reduceIte, has_ok, e2, Bool.false_eq_true, show ¬ cN (cfg A) ≤ i from by omega]
        · rcases hI with ⟨q1, q2, q3⟩ | ⟨m, q1, q2, q3, q4, q5⟩
          · refine Or.inl ⟨q1, q2, fun j hj => ?_⟩
            by_cases z : j = i
            · subst z; exact c2
            · exact q3 j (by omega)
          · refine Or.inr ⟨m, by omega, q2, q3, q4, fun j hj hn => ?_⟩
            by_cases z : j = i
            · subst z; exact absurd hn c2
            · exact q5 j (by omega) hn
    · have hin2 : i = cN (cfg A) := by omega
      subst hin2
      refine Or.inr ⟨(a1, a2, nI (cN (cfg A))), Sx, fun rec => ?_, rfl, a1, a2, rfl, hI⟩
      simp (disch := omega) only [bX0_deepestCell_7, b2, bd_some, gd_ix, lit_0, lit_1, lit_2, lit_3, lit_4, lit_5, lit_6, lit_7, lit_8, lit_9, lit_10, lit_15, lit_16, lit_19, lit_20, lit_31, lit_35, lit_36, lit_48, lit_49, lit_53, lit_55, lit_57, lit_59, lit_60, lit_63, lit_64, lit_97, lit_102, lit_110, lit_160, lit_255, nI_add, ns_sub, ns_div, ns_le, ns_lt, ns_eq, ns_cl, pk_mul, ne10, eq_self, ↓reduceIte, Nat.le_refl]) (-nI 1, nI 0, nI 0) S1 ⟨rfl, rfl, Or.inl ⟨rfl, rfl, fun j hj => absurd hj (by omega)⟩⟩
  rw [ha, hS2] at e2
  have e3 : fX0_deepestCell 12 (ps (fun k => now (cfg A) k d == 2)) S1 = some (dpV (cfg A) d, S1) := by
    have e2' : lp (bX0_deepestCell_7 12 (ps (fun k => now (cfg A) k d == 2))) fl (-1, 0, 0) S1 = some ((x, y, nI (cN (cfg A))), S1) := e2
    unfold fX0_deepestCell
    rw [e2', bd_some, dpI_end hP h8 hC36 hI]
  unfold fX8_deep
  simp (disch := omega) only [cDay_y, bd_some, gd_ix, lit_0, lit_1, lit_2, lit_3, lit_4, lit_5, lit_6, lit_7, lit_8, lit_9, lit_10, lit_15, lit_16, lit_19, lit_20, lit_31, lit_35, lit_36, lit_48, lit_49, lit_53, lit_55, lit_57, lit_59, lit_60, lit_63, lit_64, lit_97, lit_102, lit_110, lit_160, lit_255, nI_add, ns_sub, ns_div, ns_le, ns_lt, ns_eq, ns_cl, pk_mul, ne10, eq_self, ↓reduceIte, e1, w19, e3]
theorem ct_ext {p : Nat → Bool} {n : Nat} (hn : n ≤ 8) (h : ∀ k, n ≤ k → p k = false) : fb_ct p n = fb_ct p 8 := by
  have := fb_ct_split p n (8 - n)
  rw [show n + (8 - n) = 8 by omega] at this
  rw [this, fb_ct_zero.mpr (fun k _ => h (n + k) (by omega))]
  rfl
def dB (f : Nat → Nat) : Nat → Int32
  | 0 => -nI 1
  | n + 1 => if f (amx f n) = 0 then -nI 1 else nI (amx f n)
def dM (f : Nat → Nat) : Nat → Nat
  | 0 => 0
  | n + 1 => f (amx f n)
theorem deepM_ok {S : Sg} {A : Ab} (h : RM S A) {d : Nat} (hd : d < 20) : ∃ S', fX9_deepOf (nI d) S = some (dpV (cfg A) d, S') ∧ mz S S' := by
  obtain ⟨S1, e1, z1, r1, m1, d1⟩ := runsTold_ok h
  refine ⟨S1, ?_, z1⟩
  have h8 := cfg_8m h
  have e4 := m1.2.1
  have hP : ∀ k, cP (cfg A) k = true → k < cN (cfg A) := fun k hk => cfg_P hk
  have inner : ∀ x, x < 36 → lp (bX9_deepOf_24 (nI d) (nI x)) fl (nI 0, nI 0) S1 = some ((nI (dpc (cfg A) d x), nI (cN (cfg A))), S1) := by
    intro x hx
    have ee : dpc (cfg A) d x = fb_ct (fun k => (now (cfg A) k d == 2) && (cC (cfg A) k == x)) (cN (cfg A)) := (ct_ext h8 (fun k hk => by
      by_cases q : now (cfg A) k d = 2
      · have := now_lt hP (k := k) (d := d) (by omega); omega
      · simp [q])).symm
    rw [ee]
    refine lp_fl (fun i => (nI (fb_ct (fun k => (now (cfg A) k d == 2) && (cC (cfg A) k == x)) i), nI i)) (fun _ => S1) (cN (cfg A)) (by omega) (fun i hi rec => ?_) (fun rec => ?_)
    · have k3 := (m1.2.2.1 i hi).2.2.1
      have k4 := (m1.2.2.1 i hi).2.2.2.1
      have w16 := ((d1 d hd).2 i hi).1
      have hn2 := now_le (c := cfg A) (k := i) (d := d)
      rw [fb_ct_succ]
      by_cases c1 : cC (cfg A) i = x
      · subst c1
        by_cases c2 : now (cfg A) i d = 2
        · have w : ¬ (if up (cfg A) d i = true then 3 else now (cfg A) i d) ≤ 1 := by split <;> omega
          have wb : (if up (cfg A) d i = true then 3 else now (cfg A) i d) < 2147483648 := by split <;> omega
          have e5 : ((now (cfg A) i d == 2) && (cC (cfg A) i == cC (cfg A) i)) = true := by simp [c2]
          generalize (if up (cfg A) d i = true then 3 else now (cfg A) i d) = v at w16 w wb
          simp (disch := omega) only [bX9_deepOf_24, e4, bd_some, gd_ix, lit_0, lit_1, lit_2, lit_3, lit_4, lit_5, lit_6, lit_7, lit_8, lit_9, lit_10, lit_15, lit_16, lit_19, lit_20, lit_31, lit_35, lit_36, lit_48, lit_49, lit_53, lit_55, lit_57, lit_59, lit_60, lit_63, lit_64, lit_97, lit_102, lit_110, lit_160, lit_255, nI_add, ns_sub, ns_div, ns_le, ns_lt, ns_eq, ns_cl, pk_mul, ne10, eq_self, ↓reduceIte, k3, w16, w, e5, show ¬ cN (cfg A) ≤ i from by omega]
        · have hu : up (cfg A) d i = false := by
            cases q : up (cfg A) d i with
            | false => rfl
            | true => exact absurd (up_2 q) c2
          rw [hu] at w16
          simp only [Bool.false_eq_true, if_false] at w16
          have e5 : ((now (cfg A) i d == 2) && (cC (cfg A) i == cC (cfg A) i)) = false := by simp [c2]
          simp (disch := omega) only [bX9_deepOf_24, e4, bd_some, gd_ix, lit_0, lit_1, lit_2, lit_3, lit_4, lit_5, lit_6, lit_7, lit_8, lit_9, lit_10, lit_15, lit_16, lit_19, lit_20, lit_31, lit_35, lit_36, lit_48, lit_49, lit_53, lit_55, lit_57, lit_59, lit_60, lit_63, lit_64, lit_97, lit_102, lit_110, lit_160, lit_255, nI_add, ns_sub, ns_div, ns_le, ns_lt, ns_eq, ns_cl, pk_mul, ne10, eq_self, ↓reduceIte, k3, w16, e5, Bool.false_eq_true, Nat.add_zero, show now (cfg A) i d ≤ 1 from by omega, show ¬ cN (cfg A) ≤ i from by omega]
      · have e5 : ((now (cfg A) i d == 2) && (cC (cfg A) i == x)) = false := by simp [c1]
        simp (disch := omega) only [bX9_deepOf_24, e4, bd_some, gd_ix, lit_0, lit_1, lit_2, lit_3, lit_4, lit_5, lit_6, lit_7, lit_8, lit_9, lit_10, lit_15, lit_16, lit_19, lit_20, lit_31, lit_35, lit_36, lit_48, lit_49, lit_53, lit_55, lit_57, lit_59, lit_60, lit_63, lit_64, lit_97, lit_102, lit_110, lit_160, lit_255, nI_add, ns_sub, ns_div, ns_le, ns_lt, ns_eq, ns_cl, pk_mul, ne10, eq_self, ↓reduceIte, k3, c1, e5, Bool.false_eq_true, Nat.add_zero, show ¬ cN (cfg A) ≤ i from by omega]
    · simp (disch := omega) only [bX9_deepOf_24, e4, bd_some, gd_ix, lit_0, lit_1, lit_2, lit_3, lit_4, lit_5, lit_6, lit_7, lit_8, lit_9, lit_10, lit_15, lit_16, lit_19, lit_20, lit_31, lit_35, lit_36, lit_48, lit_49, lit_53, lit_55, lit_57, lit_59, lit_60, lit_63, lit_64, lit_97, lit_102, lit_110, lit_160, lit_255, nI_add, ns_sub, ns_div, ns_le, ns_lt, ns_eq, ns_cl, pk_mul, ne10, eq_self, ↓reduceIte, Nat.le_refl]
  have hdl := fun x => dpc_le (c := cfg A) (d := d) (x := x)
  generalize hf : dpc (cfg A) d = f at inner hdl
  have key : lp (bX9_deepOf_11 (nI d)) fl (dB f 0, nI (dM f 0), nI 0) S1 = some ((dB f 36, nI (dM f 36), nI 36), S1) := by
    refine lp_fl (fun i => (dB f i, nI (dM f i), nI i)) (fun _ => S1) 36 (by omega) (fun i hi rec => ?_) (fun rec => ?_)
    · have hin := inner i hi
      have hfi := hdl i
      cases i with
      | zero =>
        show _ = rec ((if f 0 = 0 then -nI 1 else nI 0), nI (f 0), nI 1) S1
        by_cases q : f 0 = 0
        · rw [q] at hin ⊢
          simp (disch := omega) only [bX9_deepOf_11, dB, dM, bd_some, gd_ix, lit_0, lit_1, lit_2, lit_3, lit_4, lit_5, lit_6, lit_7, lit_8, lit_9, lit_10, lit_15, lit_16, lit_19, lit_20, lit_31, lit_35, lit_36, lit_48, lit_49, lit_53, lit_55, lit_57, lit_59, lit_60, lit_63, lit_64, lit_97, lit_102, lit_110, lit_160, lit_255, nI_add, ns_sub, ns_div, ns_le, ns_lt, ns_eq, ns_cl, pk_mul, ne10, eq_self, ↓reduceIte, hin, Nat.le_refl, show ¬ 36 ≤ 0 from by omega, Nat.zero_add]
        · simp (disch := omega) only [bX9_deepOf_11, dB, dM, bd_some, gd_ix, lit_0, lit_1, lit_2, lit_3, lit_4, lit_5, lit_6, lit_7, lit_8, lit_9, lit_10, lit_15, lit_16, lit_19, lit_20, lit_31, lit_35, lit_36, lit_48, lit_49, lit_53, lit_55, lit_57, lit_59, lit_60, lit_63, lit_64, lit_97, lit_102, lit_110, lit_160, lit_255, nI_add, ns_sub, ns_div, ns_le, ns_lt, ns_eq, ns_cl, pk_mul, ne10, eq_self, ↓reduceIte, hin, q, show ¬ f 0 ≤ 0 from by omega, show ¬ 36 ≤ 0 from by omega, Nat.zero_add]
      | succ j =>
        have hfj := hdl (amx f j)
        show _ = rec ((if f (amx f (j + 1)) = 0 then -nI 1 else nI (amx f (j + 1))), nI (f (amx f (j + 1))), nI (j + 1 + 1)) S1
        rw [amx]
        by_cases q : f (amx f j) < f (j + 1)
        · rw [if_pos q]
          simp (disch := omega) only [bX9_deepOf_11, dB, dM, bd_some, gd_ix, lit_0, lit_1, lit_2, lit_3, lit_4, lit_5, lit_6, lit_7, lit_8, lit_9, lit_10, lit_15, lit_16, lit_19, lit_20, lit_31, lit_35, lit_36, lit_48, lit_49, lit_53, lit_55, lit_57, lit_59, lit_60, lit_63, lit_64, lit_97, lit_102, lit_110, lit_160, lit_255, nI_add, ns_sub, ns_div, ns_le, ns_lt, ns_eq, ns_cl, pk_mul, ne10, eq_self, ↓reduceIte, hin, show ¬ f (j + 1) ≤ f (amx f j) from by omega, show ¬ f (j + 1) = 0 from by omega, show ¬ 36 ≤ j + 1 from by omega]
        · rw [if_neg q]
          simp (disch := omega) only [bX9_deepOf_11, dB, dM, bd_some, gd_ix, lit_0, lit_1, lit_2, lit_3, lit_4, lit_5, lit_6, lit_7, lit_8, lit_9, lit_10, lit_15, lit_16, lit_19, lit_20, lit_31, lit_35, lit_36, lit_48, lit_49, lit_53, lit_55, lit_57, lit_59, lit_60, lit_63, lit_64, lit_97, lit_102, lit_110, lit_160, lit_255, nI_add, ns_sub, ns_div, ns_le, ns_lt, ns_eq, ns_cl, pk_mul, ne10, eq_self, ↓reduceIte, hin, show f (j + 1) ≤ f (amx f j) from by omega, show ¬ 36 ≤ j + 1 from by omega]
    · simp (disch := omega) only [bX9_deepOf_11, bd_some, gd_ix, lit_0, lit_1, lit_2, lit_3, lit_4, lit_5, lit_6, lit_7, lit_8, lit_9, lit_10, lit_15, lit_16, lit_19, lit_20, lit_31, lit_35, lit_36, lit_48, lit_49, lit_53, lit_55, lit_57, lit_59, lit_60, lit_63, lit_64, lit_97, lit_102, lit_110, lit_160, lit_255, nI_add, ns_sub, ns_div, ns_le, ns_lt, ns_eq, ns_cl, pk_mul, ne10, eq_self, ↓reduceIte, Nat.le_refl]
  have key' : lp (bX9_deepOf_11 (nI d)) fl (-1, 0, 0) S1 = some ((dB f 36, nI (dM f 36), nI 36), S1) := key
  unfold fX9_deepOf
  rw [e1, bd_some, key', bd_some, ← hf]
  rfl
theorem stp_deep_ok : stp_deep Inv := by
  rintro Sc Sm x1 ⟨A, hC, hM⟩
  by_cases g1 : rg x1 20
  · obtain ⟨d, hd, rfl⟩ := g1
    obtain ⟨S1, e1, h1⟩ := deepC_ok hC hd
    obtain ⟨S2, e2, h2⟩ := deepM_ok hM hd
    refine ⟨_, S1, S2, e1, ?_, A, h1.c, hM.mz h2⟩
    unfold fX9_deep
    simp (disch := omega) only [mDay_y, bd_some, gd_ix, lit_0, lit_1, lit_2, lit_3, lit_4, lit_5, lit_6, lit_7, lit_8, lit_9, lit_10, lit_15, lit_16, lit_19, lit_20, lit_31, lit_35, lit_36, lit_48, lit_49, lit_53, lit_55, lit_57, lit_59, lit_60, lit_63, lit_64, lit_97, lit_102, lit_110, lit_160, lit_255, nI_add, ns_sub, ns_div, ns_le, ns_lt, ns_eq, ns_cl, pk_mul, ne10, eq_self, ↓reduceIte, e2]
  · refine ⟨-nI 2, Sc, Sm, ?_, ?_, A, hC, hM⟩
    · unfold fX8_deep
      simp (disch := omega) only [cDay_n g1, bd_some, gd_ix, lit_0, lit_1, lit_2, lit_3, lit_4, lit_5, lit_6, lit_7, lit_8, lit_9, lit_10, lit_15, lit_16, lit_19, lit_20, lit_31, lit_35, lit_36, lit_48, lit_49, lit_53, lit_55, lit_57, lit_59, lit_60, lit_63, lit_64, lit_97, lit_102, lit_110, lit_160, lit_255, nI_add, ns_sub, ns_div, ns_le, ns_lt, ns_eq, ns_cl, pk_mul, ne10, eq_self, ↓reduceIte]
    · unfold fX9_deep
      simp (disch := omega) only [mDay_n g1, bd_some, gd_ix, lit_0, lit_1, lit_2, lit_3, lit_4, lit_5, lit_6, lit_7, lit_8, lit_9, lit_10, lit_15, lit_16, lit_19, lit_20, lit_31, lit_35, lit_36, lit_48, lit_49, lit_53, lit_55, lit_57, lit_59, lit_60, lit_63, lit_64, lit_97, lit_102, lit_110, lit_160, lit_255, nI_add, ns_sub, ns_div, ns_le, ns_lt, ns_eq, ns_cl, pk_mul, ne10, eq_self, ↓reduceIte]
